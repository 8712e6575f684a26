section
-- ===== PART A: goes FIRST, ahead of the names: the tables' words, and 'selects' of the private methods out of them =====
/-- a private method of a class that the tables say can be made, by its rows of tables_1 -/
def lw_okq (q : MethodName × Nat) : Prop := (q.1.cls ≠ "java/lang/invoke/MethodHandle" ∧ q.1.cls ≠ "java/lang/invoke/VarHandle") ∧ Cond.instantiable q.1.cls q.2 ∈ tables_1 ∧ Cond.privateMethod q.1 ∈ tables_1 ∧ Cond.instanceMethod q.1 ∈ tables_1
theorem lw_p0 : lw_okq (⟨"SubscriberLines$Subscriber", "request", "()V"⟩, 12) := ⟨⟨by decide +kernel, by decide +kernel⟩, List.mem_of_getElem? (i := 106) (by decide +kernel), List.mem_of_getElem? (i := 366) (by decide +kernel), List.mem_of_getElem? (i := 367) (by decide +kernel)⟩
theorem lw_p1 : lw_okq (⟨"SubscriberLines$Subscriber", "leave", "()V"⟩, 12) := ⟨⟨by decide +kernel, by decide +kernel⟩, List.mem_of_getElem? (i := 106) (by decide +kernel), List.mem_of_getElem? (i := 386) (by decide +kernel), List.mem_of_getElem? (i := 387) (by decide +kernel)⟩
theorem lw_p2 : lw_okq (⟨"SubscriberLines$Subscriber", "hasLink", "()Z"⟩, 12) := ⟨⟨by decide +kernel, by decide +kernel⟩, List.mem_of_getElem? (i := 106) (by decide +kernel), List.mem_of_getElem? (i := 390) (by decide +kernel), List.mem_of_getElem? (i := 391) (by decide +kernel)⟩
theorem lw_p3 : lw_okq (⟨"SubscriberLines$Subscriber", "turnOff", "()V"⟩, 12) := ⟨⟨by decide +kernel, by decide +kernel⟩, List.mem_of_getElem? (i := 106) (by decide +kernel), List.mem_of_getElem? (i := 394) (by decide +kernel), List.mem_of_getElem? (i := 395) (by decide +kernel)⟩
theorem lw_p4 : lw_okq (⟨"SubscriberLines$Access", "removeCircuit", "(I)V"⟩, 8) := ⟨⟨by decide +kernel, by decide +kernel⟩, List.mem_of_getElem? (i := 170) (by decide +kernel), List.mem_of_getElem? (i := 428) (by decide +kernel), List.mem_of_getElem? (i := 429) (by decide +kernel)⟩
theorem lw_p5 : lw_okq (⟨"SubscriberLines$End", "settle", "(I)V"⟩, 12) := ⟨⟨by decide +kernel, by decide +kernel⟩, List.mem_of_getElem? (i := 176) (by decide +kernel), List.mem_of_getElem? (i := 459) (by decide +kernel), List.mem_of_getElem? (i := 460) (by decide +kernel)⟩
theorem lw_p6 : lw_okq (⟨"SubscriberLines$End", "startWaiting", "()V"⟩, 12) := ⟨⟨by decide +kernel, by decide +kernel⟩, List.mem_of_getElem? (i := 176) (by decide +kernel), List.mem_of_getElem? (i := 464) (by decide +kernel), List.mem_of_getElem? (i := 465) (by decide +kernel)⟩
theorem lw_p7 : lw_okq (⟨"SubscriberLines$End", "transmit", "(I)V"⟩, 12) := ⟨⟨by decide +kernel, by decide +kernel⟩, List.mem_of_getElem? (i := 176) (by decide +kernel), List.mem_of_getElem? (i := 469) (by decide +kernel), List.mem_of_getElem? (i := 470) (by decide +kernel)⟩
theorem lw_p8 : lw_okq (⟨"SubscriberLines$Access", "perform", "(LSubscriberLines$Packet;)V"⟩, 8) := ⟨⟨by decide +kernel, by decide +kernel⟩, List.mem_of_getElem? (i := 170) (by decide +kernel), List.mem_of_getElem? (i := 486) (by decide +kernel), List.mem_of_getElem? (i := 487) (by decide +kernel)⟩
theorem lw_p9 : lw_okq (⟨"SubscriberLines$Access", "subscriberOf", "(I)I"⟩, 8) := ⟨⟨by decide +kernel, by decide +kernel⟩, List.mem_of_getElem? (i := 170) (by decide +kernel), List.mem_of_getElem? (i := 490) (by decide +kernel), List.mem_of_getElem? (i := 491) (by decide +kernel)⟩
theorem lw_p10 : lw_okq (⟨"SubscriberLines$Access", "closeCircuit", "(I)V"⟩, 8) := ⟨⟨by decide +kernel, by decide +kernel⟩, List.mem_of_getElem? (i := 170) (by decide +kernel), List.mem_of_getElem? (i := 494) (by decide +kernel), List.mem_of_getElem? (i := 495) (by decide +kernel)⟩
theorem lw_p11 : lw_okq (⟨"SubscriberLines$Access", "passToSubscriber", "(LSubscriberLines$Packet;)V"⟩, 8) := ⟨⟨by decide +kernel, by decide +kernel⟩, List.mem_of_getElem? (i := 170) (by decide +kernel), List.mem_of_getElem? (i := 509) (by decide +kernel), List.mem_of_getElem? (i := 510) (by decide +kernel)⟩
theorem lw_p12 : lw_okq (⟨"SubscriberLines$Access", "join", "(I)V"⟩, 8) := ⟨⟨by decide +kernel, by decide +kernel⟩, List.mem_of_getElem? (i := 170) (by decide +kernel), List.mem_of_getElem? (i := 513) (by decide +kernel), List.mem_of_getElem? (i := 514) (by decide +kernel)⟩
theorem lw_p13 : lw_okq (⟨"SubscriberLines$Access", "takeDown", "(I)V"⟩, 8) := ⟨⟨by decide +kernel, by decide +kernel⟩, List.mem_of_getElem? (i := 170) (by decide +kernel), List.mem_of_getElem? (i := 517) (by decide +kernel), List.mem_of_getElem? (i := 518) (by decide +kernel)⟩
theorem lw_p14 : lw_okq (⟨"SubscriberLines$Access", "receiveOnCircuit", "(LSubscriberLines$Packet;)V"⟩, 8) := ⟨⟨by decide +kernel, by decide +kernel⟩, List.mem_of_getElem? (i := 170) (by decide +kernel), List.mem_of_getElem? (i := 521) (by decide +kernel), List.mem_of_getElem? (i := 522) (by decide +kernel)⟩
theorem lw_p15 : lw_okq (⟨"SubscriberLines$Server", "receiveInSession", "(LSubscriberLines$Packet;)V"⟩, 12) := ⟨⟨by decide +kernel, by decide +kernel⟩, List.mem_of_getElem? (i := 245) (by decide +kernel), List.mem_of_getElem? (i := 528) (by decide +kernel), List.mem_of_getElem? (i := 529) (by decide +kernel)⟩
def lw_privs_1 : List (MethodName × Nat) := [(⟨"SubscriberLines$Subscriber", "request", "()V"⟩, 12), (⟨"SubscriberLines$Subscriber", "leave", "()V"⟩, 12), (⟨"SubscriberLines$Subscriber", "hasLink", "()Z"⟩, 12), (⟨"SubscriberLines$Subscriber", "turnOff", "()V"⟩, 12), (⟨"SubscriberLines$Access", "removeCircuit", "(I)V"⟩, 8), (⟨"SubscriberLines$End", "settle", "(I)V"⟩, 12), (⟨"SubscriberLines$End", "startWaiting", "()V"⟩, 12), (⟨"SubscriberLines$End", "transmit", "(I)V"⟩, 12), (⟨"SubscriberLines$Access", "perform", "(LSubscriberLines$Packet;)V"⟩, 8), (⟨"SubscriberLines$Access", "subscriberOf", "(I)I"⟩, 8), (⟨"SubscriberLines$Access", "closeCircuit", "(I)V"⟩, 8), (⟨"SubscriberLines$Access", "passToSubscriber", "(LSubscriberLines$Packet;)V"⟩, 8), (⟨"SubscriberLines$Access", "join", "(I)V"⟩, 8), (⟨"SubscriberLines$Access", "takeDown", "(I)V"⟩, 8), (⟨"SubscriberLines$Access", "receiveOnCircuit", "(LSubscriberLines$Packet;)V"⟩, 8), (⟨"SubscriberLines$Server", "receiveInSession", "(LSubscriberLines$Packet;)V"⟩, 12)]
theorem lw_r1 : ∀ q ∈ lw_privs_1, lw_okq q := List.forall_mem_cons.mpr ⟨lw_p0, List.forall_mem_cons.mpr ⟨lw_p1, List.forall_mem_cons.mpr ⟨lw_p2, List.forall_mem_cons.mpr ⟨lw_p3, List.forall_mem_cons.mpr ⟨lw_p4, List.forall_mem_cons.mpr ⟨lw_p5, List.forall_mem_cons.mpr ⟨lw_p6, List.forall_mem_cons.mpr ⟨lw_p7, List.forall_mem_cons.mpr ⟨lw_p8, List.forall_mem_cons.mpr ⟨lw_p9, List.forall_mem_cons.mpr ⟨lw_p10, List.forall_mem_cons.mpr ⟨lw_p11, List.forall_mem_cons.mpr ⟨lw_p12, List.forall_mem_cons.mpr ⟨lw_p13, List.forall_mem_cons.mpr ⟨lw_p14, List.forall_mem_cons.mpr ⟨lw_p15, fun _ h => absurd h List.not_mem_nil⟩⟩⟩⟩⟩⟩⟩⟩⟩⟩⟩⟩⟩⟩⟩⟩
theorem lw_p16 : lw_okq (⟨"SubscriberLines$Server", "indexOf", "(I)I"⟩, 12) := ⟨⟨by decide +kernel, by decide +kernel⟩, List.mem_of_getElem? (i := 245) (by decide +kernel), List.mem_of_getElem? (i := 532) (by decide +kernel), List.mem_of_getElem? (i := 533) (by decide +kernel)⟩
theorem lw_p17 : lw_okq (⟨"SubscriberLines$Server", "logsIn", "(LSubscriberLines$Session;LSubscriberLines$Packet;)Z"⟩, 12) := ⟨⟨by decide +kernel, by decide +kernel⟩, List.mem_of_getElem? (i := 245) (by decide +kernel), List.mem_of_getElem? (i := 536) (by decide +kernel), List.mem_of_getElem? (i := 537) (by decide +kernel)⟩
theorem lw_p18 : lw_okq (⟨"SubscriberLines$Server", "lowestFreeAddress", "()I"⟩, 12) := ⟨⟨by decide +kernel, by decide +kernel⟩, List.mem_of_getElem? (i := 245) (by decide +kernel), List.mem_of_getElem? (i := 540) (by decide +kernel), List.mem_of_getElem? (i := 541) (by decide +kernel)⟩
theorem lw_p19 : lw_okq (⟨"SubscriberLines$Server", "isFree", "(I)Z"⟩, 12) := ⟨⟨by decide +kernel, by decide +kernel⟩, List.mem_of_getElem? (i := 245) (by decide +kernel), List.mem_of_getElem? (i := 544) (by decide +kernel), List.mem_of_getElem? (i := 545) (by decide +kernel)⟩
theorem lw_p20 : lw_okq (⟨"SubscriberLines$Server", "isAllowed", "(II)Z"⟩, 12) := ⟨⟨by decide +kernel, by decide +kernel⟩, List.mem_of_getElem? (i := 245) (by decide +kernel), List.mem_of_getElem? (i := 548) (by decide +kernel), List.mem_of_getElem? (i := 549) (by decide +kernel)⟩
theorem lw_p21 : lw_okq (⟨"SubscriberLines$Server", "sendAccept", "(LSubscriberLines$Session;)V"⟩, 12) := ⟨⟨by decide +kernel, by decide +kernel⟩, List.mem_of_getElem? (i := 245) (by decide +kernel), List.mem_of_getElem? (i := 552) (by decide +kernel), List.mem_of_getElem? (i := 553) (by decide +kernel)⟩
theorem lw_p22 : lw_okq (⟨"SubscriberLines$Server", "endSession", "(I)V"⟩, 12) := ⟨⟨by decide +kernel, by decide +kernel⟩, List.mem_of_getElem? (i := 245) (by decide +kernel), List.mem_of_getElem? (i := 556) (by decide +kernel), List.mem_of_getElem? (i := 557) (by decide +kernel)⟩
theorem lw_p23 : lw_okq (⟨"SubscriberLines$Server", "remove", "(I)V"⟩, 12) := ⟨⟨by decide +kernel, by decide +kernel⟩, List.mem_of_getElem? (i := 245) (by decide +kernel), List.mem_of_getElem? (i := 560) (by decide +kernel), List.mem_of_getElem? (i := 561) (by decide +kernel)⟩
theorem lw_p24 : lw_okq (⟨"SubscriberLines$Server", "passToCore", "(LSubscriberLines$Session;LSubscriberLines$Packet;)V"⟩, 12) := ⟨⟨by decide +kernel, by decide +kernel⟩, List.mem_of_getElem? (i := 245) (by decide +kernel), List.mem_of_getElem? (i := 565) (by decide +kernel), List.mem_of_getElem? (i := 566) (by decide +kernel)⟩
theorem lw_p25 : lw_okq (⟨"SubscriberLines$Server", "perform", "(LSubscriberLines$Packet;)V"⟩, 12) := ⟨⟨by decide +kernel, by decide +kernel⟩, List.mem_of_getElem? (i := 245) (by decide +kernel), List.mem_of_getElem? (i := 574) (by decide +kernel), List.mem_of_getElem? (i := 575) (by decide +kernel)⟩
theorem lw_p26 : lw_okq (⟨"SubscriberLines$Server", "grantOrDrop", "(I)V"⟩, 12) := ⟨⟨by decide +kernel, by decide +kernel⟩, List.mem_of_getElem? (i := 245) (by decide +kernel), List.mem_of_getElem? (i := 578) (by decide +kernel), List.mem_of_getElem? (i := 579) (by decide +kernel)⟩
theorem lw_p27 : lw_okq (⟨"SubscriberLines$Subscriber", "becomeLinked", "(I)V"⟩, 12) := ⟨⟨by decide +kernel, by decide +kernel⟩, List.mem_of_getElem? (i := 106) (by decide +kernel), List.mem_of_getElem? (i := 590) (by decide +kernel), List.mem_of_getElem? (i := 591) (by decide +kernel)⟩
theorem lw_p28 : lw_okq (⟨"SubscriberLines$Subscriber", "receiveOnLink", "(LSubscriberLines$Packet;)V"⟩, 12) := ⟨⟨by decide +kernel, by decide +kernel⟩, List.mem_of_getElem? (i := 106) (by decide +kernel), List.mem_of_getElem? (i := 594) (by decide +kernel), List.mem_of_getElem? (i := 595) (by decide +kernel)⟩
theorem lw_p29 : lw_okq (⟨"SubscriberLines$Subscriber", "becomeAccepted", "(I)V"⟩, 12) := ⟨⟨by decide +kernel, by decide +kernel⟩, List.mem_of_getElem? (i := 106) (by decide +kernel), List.mem_of_getElem? (i := 598) (by decide +kernel), List.mem_of_getElem? (i := 599) (by decide +kernel)⟩
theorem lw_p30 : lw_okq (⟨"SubscriberLines$Server", "endsAtTimer", "(I)Z"⟩, 12) := ⟨⟨by decide +kernel, by decide +kernel⟩, List.mem_of_getElem? (i := 245) (by decide +kernel), List.mem_of_getElem? (i := 618) (by decide +kernel), List.mem_of_getElem? (i := 619) (by decide +kernel)⟩
theorem lw_p31 : lw_okq (⟨"SubscriberLines$Subscriber", "requestAgain", "()V"⟩, 12) := ⟨⟨by decide +kernel, by decide +kernel⟩, List.mem_of_getElem? (i := 106) (by decide +kernel), List.mem_of_getElem? (i := 626) (by decide +kernel), List.mem_of_getElem? (i := 627) (by decide +kernel)⟩
def lw_privs_2 : List (MethodName × Nat) := [(⟨"SubscriberLines$Server", "indexOf", "(I)I"⟩, 12), (⟨"SubscriberLines$Server", "logsIn", "(LSubscriberLines$Session;LSubscriberLines$Packet;)Z"⟩, 12), (⟨"SubscriberLines$Server", "lowestFreeAddress", "()I"⟩, 12), (⟨"SubscriberLines$Server", "isFree", "(I)Z"⟩, 12), (⟨"SubscriberLines$Server", "isAllowed", "(II)Z"⟩, 12), (⟨"SubscriberLines$Server", "sendAccept", "(LSubscriberLines$Session;)V"⟩, 12), (⟨"SubscriberLines$Server", "endSession", "(I)V"⟩, 12), (⟨"SubscriberLines$Server", "remove", "(I)V"⟩, 12), (⟨"SubscriberLines$Server", "passToCore", "(LSubscriberLines$Session;LSubscriberLines$Packet;)V"⟩, 12), (⟨"SubscriberLines$Server", "perform", "(LSubscriberLines$Packet;)V"⟩, 12), (⟨"SubscriberLines$Server", "grantOrDrop", "(I)V"⟩, 12), (⟨"SubscriberLines$Subscriber", "becomeLinked", "(I)V"⟩, 12), (⟨"SubscriberLines$Subscriber", "receiveOnLink", "(LSubscriberLines$Packet;)V"⟩, 12), (⟨"SubscriberLines$Subscriber", "becomeAccepted", "(I)V"⟩, 12), (⟨"SubscriberLines$Server", "endsAtTimer", "(I)Z"⟩, 12), (⟨"SubscriberLines$Subscriber", "requestAgain", "()V"⟩, 12)]
theorem lw_r2 : ∀ q ∈ lw_privs_2, lw_okq q := List.forall_mem_cons.mpr ⟨lw_p16, List.forall_mem_cons.mpr ⟨lw_p17, List.forall_mem_cons.mpr ⟨lw_p18, List.forall_mem_cons.mpr ⟨lw_p19, List.forall_mem_cons.mpr ⟨lw_p20, List.forall_mem_cons.mpr ⟨lw_p21, List.forall_mem_cons.mpr ⟨lw_p22, List.forall_mem_cons.mpr ⟨lw_p23, List.forall_mem_cons.mpr ⟨lw_p24, List.forall_mem_cons.mpr ⟨lw_p25, List.forall_mem_cons.mpr ⟨lw_p26, List.forall_mem_cons.mpr ⟨lw_p27, List.forall_mem_cons.mpr ⟨lw_p28, List.forall_mem_cons.mpr ⟨lw_p29, List.forall_mem_cons.mpr ⟨lw_p30, List.forall_mem_cons.mpr ⟨lw_p31, fun _ h => absurd h List.not_mem_nil⟩⟩⟩⟩⟩⟩⟩⟩⟩⟩⟩⟩⟩⟩⟩⟩
theorem lw_p32 : lw_okq (⟨"SubscriberLinesModel", "arrive", "()Z"⟩, 42) := ⟨⟨by decide +kernel, by decide +kernel⟩, List.mem_of_getElem? (i := 706) (by decide +kernel), List.mem_of_getElem? (i := 843) (by decide +kernel), List.mem_of_getElem? (i := 844) (by decide +kernel)⟩
theorem lw_p33 : lw_okq (⟨"SubscriberLinesModel", "takeOut", "(I)V"⟩, 42) := ⟨⟨by decide +kernel, by decide +kernel⟩, List.mem_of_getElem? (i := 706) (by decide +kernel), List.mem_of_getElem? (i := 847) (by decide +kernel), List.mem_of_getElem? (i := 848) (by decide +kernel)⟩
theorem lw_p34 : lw_okq (⟨"SubscriberLinesModel", "toSubscriber", "(IIIII)V"⟩, 42) := ⟨⟨by decide +kernel, by decide +kernel⟩, List.mem_of_getElem? (i := 706) (by decide +kernel), List.mem_of_getElem? (i := 851) (by decide +kernel), List.mem_of_getElem? (i := 852) (by decide +kernel)⟩
theorem lw_p35 : lw_okq (⟨"SubscriberLinesModel", "ask", "(I)V"⟩, 42) := ⟨⟨by decide +kernel, by decide +kernel⟩, List.mem_of_getElem? (i := 706) (by decide +kernel), List.mem_of_getElem? (i := 855) (by decide +kernel), List.mem_of_getElem? (i := 856) (by decide +kernel)⟩
theorem lw_p36 : lw_okq (⟨"SubscriberLinesModel", "sendOff", "(IIIIII)V"⟩, 42) := ⟨⟨by decide +kernel, by decide +kernel⟩, List.mem_of_getElem? (i := 706) (by decide +kernel), List.mem_of_getElem? (i := 859) (by decide +kernel), List.mem_of_getElem? (i := 860) (by decide +kernel)⟩
theorem lw_p37 : lw_okq (⟨"SubscriberLinesModel", "fill", "(IIIIIII)V"⟩, 42) := ⟨⟨by decide +kernel, by decide +kernel⟩, List.mem_of_getElem? (i := 706) (by decide +kernel), List.mem_of_getElem? (i := 863) (by decide +kernel), List.mem_of_getElem? (i := 864) (by decide +kernel)⟩
theorem lw_p38 : lw_okq (⟨"SubscriberLinesModel", "accepted", "(II)V"⟩, 42) := ⟨⟨by decide +kernel, by decide +kernel⟩, List.mem_of_getElem? (i := 706) (by decide +kernel), List.mem_of_getElem? (i := 867) (by decide +kernel), List.mem_of_getElem? (i := 868) (by decide +kernel)⟩
theorem lw_p39 : lw_okq (⟨"SubscriberLinesModel", "leave", "(I)V"⟩, 42) := ⟨⟨by decide +kernel, by decide +kernel⟩, List.mem_of_getElem? (i := 706) (by decide +kernel), List.mem_of_getElem? (i := 871) (by decide +kernel), List.mem_of_getElem? (i := 872) (by decide +kernel)⟩
theorem lw_p40 : lw_okq (⟨"SubscriberLinesModel", "off", "(I)V"⟩, 42) := ⟨⟨by decide +kernel, by decide +kernel⟩, List.mem_of_getElem? (i := 706) (by decide +kernel), List.mem_of_getElem? (i := 875) (by decide +kernel), List.mem_of_getElem? (i := 876) (by decide +kernel)⟩
theorem lw_p41 : lw_okq (⟨"SubscriberLinesModel", "control", "(IIIIIII)V"⟩, 42) := ⟨⟨by decide +kernel, by decide +kernel⟩, List.mem_of_getElem? (i := 706) (by decide +kernel), List.mem_of_getElem? (i := 879) (by decide +kernel), List.mem_of_getElem? (i := 880) (by decide +kernel)⟩
theorem lw_p42 : lw_okq (⟨"SubscriberLinesModel", "clear", "(II)V"⟩, 42) := ⟨⟨by decide +kernel, by decide +kernel⟩, List.mem_of_getElem? (i := 706) (by decide +kernel), List.mem_of_getElem? (i := 883) (by decide +kernel), List.mem_of_getElem? (i := 884) (by decide +kernel)⟩
theorem lw_p43 : lw_okq (⟨"SubscriberLinesModel", "sendOpen", "(I)V"⟩, 42) := ⟨⟨by decide +kernel, by decide +kernel⟩, List.mem_of_getElem? (i := 706) (by decide +kernel), List.mem_of_getElem? (i := 887) (by decide +kernel), List.mem_of_getElem? (i := 888) (by decide +kernel)⟩
theorem lw_p44 : lw_okq (⟨"SubscriberLinesModel", "transmit", "(II)V"⟩, 42) := ⟨⟨by decide +kernel, by decide +kernel⟩, List.mem_of_getElem? (i := 706) (by decide +kernel), List.mem_of_getElem? (i := 891) (by decide +kernel), List.mem_of_getElem? (i := 892) (by decide +kernel)⟩
theorem lw_p45 : lw_okq (⟨"SubscriberLinesModel", "accessDoes", "(III)V"⟩, 42) := ⟨⟨by decide +kernel, by decide +kernel⟩, List.mem_of_getElem? (i := 706) (by decide +kernel), List.mem_of_getElem? (i := 895) (by decide +kernel), List.mem_of_getElem? (i := 896) (by decide +kernel)⟩
theorem lw_p46 : lw_okq (⟨"SubscriberLinesModel", "circuitOf", "(I)I"⟩, 42) := ⟨⟨by decide +kernel, by decide +kernel⟩, List.mem_of_getElem? (i := 706) (by decide +kernel), List.mem_of_getElem? (i := 899) (by decide +kernel), List.mem_of_getElem? (i := 900) (by decide +kernel)⟩
theorem lw_p47 : lw_okq (⟨"SubscriberLinesModel", "say", "(IIII)V"⟩, 42) := ⟨⟨by decide +kernel, by decide +kernel⟩, List.mem_of_getElem? (i := 706) (by decide +kernel), List.mem_of_getElem? (i := 903) (by decide +kernel), List.mem_of_getElem? (i := 904) (by decide +kernel)⟩
def lw_privs_3 : List (MethodName × Nat) := [(⟨"SubscriberLinesModel", "arrive", "()Z"⟩, 42), (⟨"SubscriberLinesModel", "takeOut", "(I)V"⟩, 42), (⟨"SubscriberLinesModel", "toSubscriber", "(IIIII)V"⟩, 42), (⟨"SubscriberLinesModel", "ask", "(I)V"⟩, 42), (⟨"SubscriberLinesModel", "sendOff", "(IIIIII)V"⟩, 42), (⟨"SubscriberLinesModel", "fill", "(IIIIIII)V"⟩, 42), (⟨"SubscriberLinesModel", "accepted", "(II)V"⟩, 42), (⟨"SubscriberLinesModel", "leave", "(I)V"⟩, 42), (⟨"SubscriberLinesModel", "off", "(I)V"⟩, 42), (⟨"SubscriberLinesModel", "control", "(IIIIIII)V"⟩, 42), (⟨"SubscriberLinesModel", "clear", "(II)V"⟩, 42), (⟨"SubscriberLinesModel", "sendOpen", "(I)V"⟩, 42), (⟨"SubscriberLinesModel", "transmit", "(II)V"⟩, 42), (⟨"SubscriberLinesModel", "accessDoes", "(III)V"⟩, 42), (⟨"SubscriberLinesModel", "circuitOf", "(I)I"⟩, 42), (⟨"SubscriberLinesModel", "say", "(IIII)V"⟩, 42)]
theorem lw_r3 : ∀ q ∈ lw_privs_3, lw_okq q := List.forall_mem_cons.mpr ⟨lw_p32, List.forall_mem_cons.mpr ⟨lw_p33, List.forall_mem_cons.mpr ⟨lw_p34, List.forall_mem_cons.mpr ⟨lw_p35, List.forall_mem_cons.mpr ⟨lw_p36, List.forall_mem_cons.mpr ⟨lw_p37, List.forall_mem_cons.mpr ⟨lw_p38, List.forall_mem_cons.mpr ⟨lw_p39, List.forall_mem_cons.mpr ⟨lw_p40, List.forall_mem_cons.mpr ⟨lw_p41, List.forall_mem_cons.mpr ⟨lw_p42, List.forall_mem_cons.mpr ⟨lw_p43, List.forall_mem_cons.mpr ⟨lw_p44, List.forall_mem_cons.mpr ⟨lw_p45, List.forall_mem_cons.mpr ⟨lw_p46, List.forall_mem_cons.mpr ⟨lw_p47, fun _ h => absurd h List.not_mem_nil⟩⟩⟩⟩⟩⟩⟩⟩⟩⟩⟩⟩⟩⟩⟩⟩
theorem lw_p48 : lw_okq (⟨"SubscriberLinesModel", "serverDoes", "(II)V"⟩, 42) := ⟨⟨by decide +kernel, by decide +kernel⟩, List.mem_of_getElem? (i := 706) (by decide +kernel), List.mem_of_getElem? (i := 907) (by decide +kernel), List.mem_of_getElem? (i := 908) (by decide +kernel)⟩
theorem lw_p49 : lw_okq (⟨"SubscriberLinesModel", "sessionOf", "(I)I"⟩, 42) := ⟨⟨by decide +kernel, by decide +kernel⟩, List.mem_of_getElem? (i := 706) (by decide +kernel), List.mem_of_getElem? (i := 911) (by decide +kernel), List.mem_of_getElem? (i := 912) (by decide +kernel)⟩
theorem lw_p50 : lw_okq (⟨"SubscriberLinesModel", "endSession", "(I)V"⟩, 42) := ⟨⟨by decide +kernel, by decide +kernel⟩, List.mem_of_getElem? (i := 706) (by decide +kernel), List.mem_of_getElem? (i := 915) (by decide +kernel), List.mem_of_getElem? (i := 916) (by decide +kernel)⟩
theorem lw_p51 : lw_okq (⟨"SubscriberLinesModel", "toSession", "(IIII)V"⟩, 42) := ⟨⟨by decide +kernel, by decide +kernel⟩, List.mem_of_getElem? (i := 706) (by decide +kernel), List.mem_of_getElem? (i := 919) (by decide +kernel), List.mem_of_getElem? (i := 920) (by decide +kernel)⟩
theorem lw_p52 : lw_okq (⟨"SubscriberLinesModel", "login", "(III)V"⟩, 42) := ⟨⟨by decide +kernel, by decide +kernel⟩, List.mem_of_getElem? (i := 706) (by decide +kernel), List.mem_of_getElem? (i := 923) (by decide +kernel), List.mem_of_getElem? (i := 924) (by decide +kernel)⟩
theorem lw_p53 : lw_okq (⟨"SubscriberLinesModel", "freeAddress", "()I"⟩, 42) := ⟨⟨by decide +kernel, by decide +kernel⟩, List.mem_of_getElem? (i := 706) (by decide +kernel), List.mem_of_getElem? (i := 930) (by decide +kernel), List.mem_of_getElem? (i := 931) (by decide +kernel)⟩
theorem lw_p54 : lw_okq (⟨"SubscriberLinesModel", "fromSubscriber", "(IIIII)V"⟩, 42) := ⟨⟨by decide +kernel, by decide +kernel⟩, List.mem_of_getElem? (i := 706) (by decide +kernel), List.mem_of_getElem? (i := 934) (by decide +kernel), List.mem_of_getElem? (i := 935) (by decide +kernel)⟩
theorem lw_p55 : lw_okq (⟨"SubscriberLinesModel", "join", "(I)V"⟩, 42) := ⟨⟨by decide +kernel, by decide +kernel⟩, List.mem_of_getElem? (i := 706) (by decide +kernel), List.mem_of_getElem? (i := 938) (by decide +kernel), List.mem_of_getElem? (i := 939) (by decide +kernel)⟩
theorem lw_p56 : lw_okq (⟨"SubscriberLinesModel", "takeDown", "(I)V"⟩, 42) := ⟨⟨by decide +kernel, by decide +kernel⟩, List.mem_of_getElem? (i := 706) (by decide +kernel), List.mem_of_getElem? (i := 942) (by decide +kernel), List.mem_of_getElem? (i := 943) (by decide +kernel)⟩
theorem lw_p57 : lw_okq (⟨"SubscriberLinesModel", "fromServer", "(IIII)V"⟩, 42) := ⟨⟨by decide +kernel, by decide +kernel⟩, List.mem_of_getElem? (i := 706) (by decide +kernel), List.mem_of_getElem? (i := 946) (by decide +kernel), List.mem_of_getElem? (i := 947) (by decide +kernel)⟩
theorem lw_p58 : lw_okq (⟨"SubscriberLinesModel", "subscriberTimer", "(I)V"⟩, 42) := ⟨⟨by decide +kernel, by decide +kernel⟩, List.mem_of_getElem? (i := 706) (by decide +kernel), List.mem_of_getElem? (i := 950) (by decide +kernel), List.mem_of_getElem? (i := 951) (by decide +kernel)⟩
theorem lw_p59 : lw_okq (⟨"SubscriberLinesModel", "accessTimer", "()V"⟩, 42) := ⟨⟨by decide +kernel, by decide +kernel⟩, List.mem_of_getElem? (i := 706) (by decide +kernel), List.mem_of_getElem? (i := 954) (by decide +kernel), List.mem_of_getElem? (i := 955) (by decide +kernel)⟩
theorem lw_p60 : lw_okq (⟨"SubscriberLinesModel", "endTimer", "(I)V"⟩, 42) := ⟨⟨by decide +kernel, by decide +kernel⟩, List.mem_of_getElem? (i := 706) (by decide +kernel), List.mem_of_getElem? (i := 958) (by decide +kernel), List.mem_of_getElem? (i := 959) (by decide +kernel)⟩
theorem lw_p61 : lw_okq (⟨"SubscriberLinesModel", "loseCircuits", "()V"⟩, 42) := ⟨⟨by decide +kernel, by decide +kernel⟩, List.mem_of_getElem? (i := 706) (by decide +kernel), List.mem_of_getElem? (i := 962) (by decide +kernel), List.mem_of_getElem? (i := 963) (by decide +kernel)⟩
theorem lw_p62 : lw_okq (⟨"SubscriberLinesModel", "serverTimer", "()V"⟩, 42) := ⟨⟨by decide +kernel, by decide +kernel⟩, List.mem_of_getElem? (i := 706) (by decide +kernel), List.mem_of_getElem? (i := 966) (by decide +kernel), List.mem_of_getElem? (i := 967) (by decide +kernel)⟩
def lw_privs_4 : List (MethodName × Nat) := [(⟨"SubscriberLinesModel", "serverDoes", "(II)V"⟩, 42), (⟨"SubscriberLinesModel", "sessionOf", "(I)I"⟩, 42), (⟨"SubscriberLinesModel", "endSession", "(I)V"⟩, 42), (⟨"SubscriberLinesModel", "toSession", "(IIII)V"⟩, 42), (⟨"SubscriberLinesModel", "login", "(III)V"⟩, 42), (⟨"SubscriberLinesModel", "freeAddress", "()I"⟩, 42), (⟨"SubscriberLinesModel", "fromSubscriber", "(IIIII)V"⟩, 42), (⟨"SubscriberLinesModel", "join", "(I)V"⟩, 42), (⟨"SubscriberLinesModel", "takeDown", "(I)V"⟩, 42), (⟨"SubscriberLinesModel", "fromServer", "(IIII)V"⟩, 42), (⟨"SubscriberLinesModel", "subscriberTimer", "(I)V"⟩, 42), (⟨"SubscriberLinesModel", "accessTimer", "()V"⟩, 42), (⟨"SubscriberLinesModel", "endTimer", "(I)V"⟩, 42), (⟨"SubscriberLinesModel", "loseCircuits", "()V"⟩, 42), (⟨"SubscriberLinesModel", "serverTimer", "()V"⟩, 42)]
theorem lw_r4 : ∀ q ∈ lw_privs_4, lw_okq q := List.forall_mem_cons.mpr ⟨lw_p48, List.forall_mem_cons.mpr ⟨lw_p49, List.forall_mem_cons.mpr ⟨lw_p50, List.forall_mem_cons.mpr ⟨lw_p51, List.forall_mem_cons.mpr ⟨lw_p52, List.forall_mem_cons.mpr ⟨lw_p53, List.forall_mem_cons.mpr ⟨lw_p54, List.forall_mem_cons.mpr ⟨lw_p55, List.forall_mem_cons.mpr ⟨lw_p56, List.forall_mem_cons.mpr ⟨lw_p57, List.forall_mem_cons.mpr ⟨lw_p58, List.forall_mem_cons.mpr ⟨lw_p59, List.forall_mem_cons.mpr ⟨lw_p60, List.forall_mem_cons.mpr ⟨lw_p61, List.forall_mem_cons.mpr ⟨lw_p62, fun _ h => absurd h List.not_mem_nil⟩⟩⟩⟩⟩⟩⟩⟩⟩⟩⟩⟩⟩⟩⟩
def lw_privs : List (MethodName × Nat) := lw_privs_1 ++ (lw_privs_2 ++ (lw_privs_3 ++ (lw_privs_4)))
def lw_tbl : List Cond := k2_sels lw_privs ++ tables_1
theorem lw_privs_ok : ∀ q ∈ lw_privs, lw_okq q := by
  show ∀ q ∈ lw_privs_1 ++ (lw_privs_2 ++ (lw_privs_3 ++ (lw_privs_4))), lw_okq q
  exact List.forall_mem_append.mpr ⟨lw_r1, List.forall_mem_append.mpr ⟨lw_r2, List.forall_mem_append.mpr ⟨lw_r3, lw_r4⟩⟩⟩
end
section
/-! A small runner over the machine's own instructions: code as a list of entries, 'rx_ev' what a run answers, 'rx_sf' what it takes for granted; 'rx_sound' ties both to the machine -/
abbrev rx_I : Type := Jvm.ClassFile.Instr
abbrev rx_L : Type := List (Option Value)
abbrev rx_K (M : Type) : Type := List Value → M → Prop × M × Option Value
abbrev rx_E (M : Type) : Type := Nat × rx_I × Nat × Nat × Nat × Int32 × List (Int32 × Nat) × rx_K M
abbrev rx_R (M : Type) : Type := M × Option Value
abbrev rx_C (M : Type) : Type := List (Nat × (M → rx_L → List Value → Prop × rx_R M))
def rx_at : rx_L → Nat → Option Value
  | [], _ => none
  | x :: _, 0 => x
  | _ :: r, n + 1 => rx_at r n
def rx_cut {α : Type} : List (Nat × α) → Nat → Option α
  | [], _ => none
  | (q, g) :: t, pc => cond (Nat.beq q pc) (some g) (rx_cut t pc)
def rx_st (i : rx_I) (a : Nat) (v : Int32) (ls : rx_L) (st : List Value) : Option (rx_L × List Value) :=
  match i with
  | .iconst _ => some (ls, .int v :: st)
  | .bipush _ => some (ls, .int v :: st)
  | .sipush _ => some (ls, .int v :: st)
  | .iload_n _ => match rx_at ls a with
    | some (.int x) => some (ls, .int x :: st)
    | _ => none
  | .iload _ => match rx_at ls a with
    | some (.int x) => some (ls, .int x :: st)
    | _ => none
  | .aload_n _ => match rx_at ls a with
    | some (.ref x) => some (ls, .ref x :: st)
    | some .null => some (ls, .null :: st)
    | _ => none
  | .aload _ => match rx_at ls a with
    | some (.ref x) => some (ls, .ref x :: st)
    | some .null => some (ls, .null :: st)
    | _ => none
  | .istore_n _ => match st with
    | .int x :: st => some (ls.set a (some (.int x)), st)
    | _ => none
  | .istore _ => match st with
    | .int x :: st => some (ls.set a (some (.int x)), st)
    | _ => none
  | .astore_n _ => match st with
    | .ref x :: st => some (ls.set a (some (.ref x)), st)
    | .null :: st => some (ls.set a (some .null), st)
    | _ => none
  | .astore _ => match st with
    | .ref x :: st => some (ls.set a (some (.ref x)), st)
    | .null :: st => some (ls.set a (some .null), st)
    | _ => none
  | .iinc _ _ => match rx_at ls a with
    | some (.int x) => some (ls.set a (some (.int (x + v))), st)
    | _ => none
  | .iadd => match st with
    | .int y :: .int x :: st => some (ls, .int (x + y) :: st)
    | _ => none
  | .isub => match st with
    | .int y :: .int x :: st => some (ls, .int (x - y) :: st)
    | _ => none
  | .imul => match st with
    | .int y :: .int x :: st => some (ls, .int (x * y) :: st)
    | _ => none
  | .iand => match st with
    | .int y :: .int x :: st => some (ls, .int (x &&& y) :: st)
    | _ => none
  | .irem => match st with
    | .int y :: .int x :: st => if y = 0 then none else some (ls, .int (x - x / y * y) :: st)
    | _ => none
  | .ishl => match st with
    | .int y :: .int x :: st => some (ls, .int (x <<< (y &&& 31)) :: st)
    | _ => none
  | .dup => match st with
    | x :: st => some (ls, x :: x :: st)
    | _ => none
  | .dup2 => match st with
    | y :: x :: st => some (ls, y :: x :: y :: x :: st)
    | _ => none
  | .pop => match st with
    | _ :: st => some (ls, st)
    | _ => none
  | .aconst_null => some (ls, .null :: st)
  | _ => none
def rx_cmp (i : rx_I) (st : List Value) : Option (Jvm.ClassFile.Cond × Int32 × Int32 × List Value) :=
  match i with
  | .ifCond o _ => match st with
    | .int x :: st => some (o, x, 0, st)
    | _ => none
  | .if_icmp o _ => match st with
    | .int y :: .int x :: st => some (o, x, y, st)
    | _ => none
  | _ => none
def rx_go {M α : Type} (d : α) (cut : Nat → Option (M → rx_L → List Value → α)) (f : List (rx_E M) → M → rx_L → List Value → α) (r : List (rx_E M)) (mem : M) (ls : rx_L) (st : List Value) : α :=
  match r with
  | [] => d
  | e :: r' => match cut e.1 with
    | some g => g mem ls st
    | none => f (e :: r') mem ls st
def rx_swe {α : Type} (f : Nat → α) (x : Int32) (d : Nat) : List (Int32 × Nat) → α
  | [] => f d
  | (v, t) :: r => if x = v then f t else rx_swe f x d r
def rx_sws (f : Nat → Prop) (x : Int32) (d : Nat) : List (Int32 × Nat) → Prop
  | [] => f d
  | (v, t) :: r => (x = v → f t) ∧ (¬ x = v → rx_sws f x d r)
def rx_cF {M : Type} (cut : rx_C M) (pc : Nat) : Option (M → rx_L → List Value → rx_R M) := (rx_cut cut pc).map (fun g => fun mem ls st => (g mem ls st).2)
def rx_cP {M : Type} (cut : rx_C M) (pc : Nat) : Option (M → rx_L → List Value → Prop) := (rx_cut cut pc).map (fun g => fun mem ls st => (g mem ls st).1)
def rx_ev {M : Type} (code : List (rx_E M)) (cut : rx_C M) : Nat → List (rx_E M) → M → rx_L → List Value → rx_R M
  | 0, _, mem, _, _ => (mem, none)
  | _ + 1, [], mem, _, _ => (mem, none)
  | n + 1, (_, i, _, kd, a, v, sw, K) :: r, mem, ls, st =>
    match kd with
    | 0 => match rx_st i a v ls st with
      | some (ls', st') => rx_go (mem, none) (rx_cF cut) (rx_ev code cut n) r mem ls' st'
      | none => (mem, none)
    | 1 => rx_go (mem, none) (rx_cF cut) (rx_ev code cut n) (code.drop a) mem ls st
    | 2 => match rx_cmp i st with
      | some (o, x, y, st) => match o with
        | .eq => if x = y then rx_go (mem, none) (rx_cF cut) (rx_ev code cut n) (code.drop a) mem ls st else rx_go (mem, none) (rx_cF cut) (rx_ev code cut n) r mem ls st
        | .ne => if x = y then rx_go (mem, none) (rx_cF cut) (rx_ev code cut n) r mem ls st else rx_go (mem, none) (rx_cF cut) (rx_ev code cut n) (code.drop a) mem ls st
        | .lt => if x < y then rx_go (mem, none) (rx_cF cut) (rx_ev code cut n) (code.drop a) mem ls st else rx_go (mem, none) (rx_cF cut) (rx_ev code cut n) r mem ls st
        | .ge => if x < y then rx_go (mem, none) (rx_cF cut) (rx_ev code cut n) r mem ls st else rx_go (mem, none) (rx_cF cut) (rx_ev code cut n) (code.drop a) mem ls st
        | .gt => if y < x then rx_go (mem, none) (rx_cF cut) (rx_ev code cut n) (code.drop a) mem ls st else rx_go (mem, none) (rx_cF cut) (rx_ev code cut n) r mem ls st
        | .le => if y < x then rx_go (mem, none) (rx_cF cut) (rx_ev code cut n) r mem ls st else rx_go (mem, none) (rx_cF cut) (rx_ev code cut n) (code.drop a) mem ls st
      | none => (mem, none)
    | 3 => match st with
      | .null :: st => rx_go (mem, none) (rx_cF cut) (rx_ev code cut n) (code.drop a) mem ls st
      | .ref _ :: st => rx_go (mem, none) (rx_cF cut) (rx_ev code cut n) r mem ls st
      | _ => (mem, none)
    | 4 => match st with
      | .int x :: st => rx_swe (fun t => rx_go (mem, none) (rx_cF cut) (rx_ev code cut n) (code.drop t) mem ls st) x a sw
      | _ => (mem, none)
    | 5 => match st with
      | x :: _ => (mem, some x)
      | _ => (mem, none)
    | 6 => (mem, none)
    | _ => match K (st.take a).reverse mem with
      | (_, mem', w) => rx_go (mem', none) (rx_cF cut) (rx_ev code cut n) r mem' ls (w.toList ++ st.drop a)
def rx_sf {M : Type} (code : List (rx_E M)) (cut : rx_C M) : Nat → List (rx_E M) → M → rx_L → List Value → Prop
  | 0, _, _, _, _ => False
  | _ + 1, [], _, _, _ => False
  | n + 1, (_, i, _, kd, a, v, sw, K) :: r, mem, ls, st =>
    match kd with
    | 0 => match rx_st i a v ls st with
      | some (ls', st') => rx_go False (rx_cP cut) (rx_sf code cut n) r mem ls' st'
      | none => False
    | 1 => rx_go False (rx_cP cut) (rx_sf code cut n) (code.drop a) mem ls st
    | 2 => match rx_cmp i st with
      | some (o, x, y, st) => match o with
        | .eq => (x = y → rx_go False (rx_cP cut) (rx_sf code cut n) (code.drop a) mem ls st) ∧ (¬ x = y → rx_go False (rx_cP cut) (rx_sf code cut n) r mem ls st)
        | .ne => (x = y → rx_go False (rx_cP cut) (rx_sf code cut n) r mem ls st) ∧ (¬ x = y → rx_go False (rx_cP cut) (rx_sf code cut n) (code.drop a) mem ls st)
        | .lt => (x < y → rx_go False (rx_cP cut) (rx_sf code cut n) (code.drop a) mem ls st) ∧ (¬ x < y → rx_go False (rx_cP cut) (rx_sf code cut n) r mem ls st)
        | .ge => (x < y → rx_go False (rx_cP cut) (rx_sf code cut n) r mem ls st) ∧ (¬ x < y → rx_go False (rx_cP cut) (rx_sf code cut n) (code.drop a) mem ls st)
        | .gt => (y < x → rx_go False (rx_cP cut) (rx_sf code cut n) (code.drop a) mem ls st) ∧ (¬ y < x → rx_go False (rx_cP cut) (rx_sf code cut n) r mem ls st)
        | .le => (y < x → rx_go False (rx_cP cut) (rx_sf code cut n) r mem ls st) ∧ (¬ y < x → rx_go False (rx_cP cut) (rx_sf code cut n) (code.drop a) mem ls st)
      | none => False
    | 3 => match st with
      | .null :: st => rx_go False (rx_cP cut) (rx_sf code cut n) (code.drop a) mem ls st
      | .ref _ :: st => rx_go False (rx_cP cut) (rx_sf code cut n) r mem ls st
      | _ => False
    | 4 => match st with
      | .int x :: st => rx_sws (fun t => rx_go False (rx_cP cut) (rx_sf code cut n) (code.drop t) mem ls st) x a sw
      | _ => False
    | 5 => match st with
      | [.int x] => (match a with
        | 0 => True
        | 1 => x = 0 ∨ x = 1
        | _ => False)
      | [.ref _] => (match a with
        | 2 => True
        | _ => False)
      | [.null] => (match a with
        | 2 => True
        | _ => False)
      | _ => False
    | 6 => match st with
      | [] => True
      | _ => False
    | _ => cond (Nat.ble a st.length && Nat.ble st.length (a + 8)) ((K (st.take a).reverse mem).1 ∧ match K (st.take a).reverse mem with
      | (_, mem', w) => rx_go False (rx_cP cut) (rx_sf code cut n) r mem' ls (w.toList ++ st.drop a)) False
def rx_pcAt {M : Type} (code : List (rx_E M)) (i : Nat) : Option Nat := (code[i]?).map (fun e => e.1)
def rx_okI (i : rx_I) (len a : Nat) (v : Int32) (nL : Nat) : Bool :=
  match i with
  | .iconst n => decide (Int32.ofInt n = v) && decide (len = 1)
  | .bipush n => decide ((Int8.ofInt n).toInt32 = v) && decide (len = 2)
  | .sipush n => decide ((Int16.ofInt n).toInt32 = v) && decide (len = 3)
  | .iload_n k => decide ((k : Nat) = a) && decide (len = 1)
  | .iload k => decide (k = a) && decide (len = 2)
  | .aload_n k => decide ((k : Nat) = a) && decide (len = 1)
  | .aload k => decide (k = a) && decide (len = 2)
  | .istore_n k => decide ((k : Nat) = a) && decide (len = 1) && decide (a < nL)
  | .istore k => decide (k = a) && decide (len = 2) && decide (a < nL)
  | .astore_n k => decide ((k : Nat) = a) && decide (len = 1) && decide (a < nL)
  | .astore k => decide (k = a) && decide (len = 2) && decide (a < nL)
  | .iinc k n => decide (k = a) && decide (Int32.ofInt n = v) && decide (len = 3) && decide (a < nL)
  | .iadd => decide (len = 1)
  | .isub => decide (len = 1)
  | .imul => decide (len = 1)
  | .iand => decide (len = 1)
  | .irem => decide (len = 1)
  | .ishl => decide (len = 1)
  | .dup => decide (len = 1)
  | .dup2 => decide (len = 1)
  | .pop => decide (len = 1)
  | .aconst_null => decide (len = 1)
  | _ => false
def rx_okT (pc : Nat) (off : Int) (t : Option Nat) : Bool :=
  match t with
  | some q => decide ((pc : Int) + off = (q : Int))
  | none => false
def rx_okS {M : Type} (code : List (rx_E M)) (pc : Nat) : Int → List Int → List (Int32 × Nat) → Bool
  | _, [], [] => true
  | lo, o :: os, (v, t) :: r => decide (v.toInt = lo) && rx_okT pc o (rx_pcAt code t) && rx_okS code pc (lo + 1) os r
  | _, _, _ => false
def rx_okR (i : rx_I) (len a : Nat) (ret : Option FieldType) : Bool :=
  match i with
  | .ireturn => decide (len = 1) && (match a, ret with
    | 0, some .int => true
    | 1, some .boolean => true
    | _, _ => false)
  | .areturn => decide (len = 1) && (match a, ret with
    | 2, some (.object _) => true
    | _, _ => false)
  | _ => false
def rx_okB (pc : Nat) (t : Option Nat) (ins : rx_I) : Bool :=
  match ins with
  | .ifCond _ off => rx_okT pc off t
  | .if_icmp _ off => rx_okT pc off t
  | _ => false
def rx_okN (pc : Nat) (t : Option Nat) (ins : rx_I) : Bool :=
  match ins with
  | .ifnull off => rx_okT pc off t
  | _ => false
def rx_okO (ret : Option FieldType) : Bool :=
  match ret with
  | none => true
  | _ => false
def rx_okK {M : Type} (nL : Nat) (ret : Option FieldType) (code : List (rx_E M)) (i pc : Nat) (ins : rx_I) (len a : Nat) (v : Int32) (sw : List (Int32 × Nat)) (kd : Nat) : Bool :=
  match kd with
  | 0 => rx_okI ins len a v nL && decide (rx_pcAt code (i + 1) = some (pc + len))
  | 1 => (match ins with
    | .goto off => decide (len = 3) && rx_okT pc off (rx_pcAt code a)
    | _ => false)
  | 2 => decide (len = 3) && rx_okB pc (rx_pcAt code a) ins && decide (rx_pcAt code (i + 1) = some (pc + 3))
  | 3 => decide (len = 3) && rx_okN pc (rx_pcAt code a) ins && decide (rx_pcAt code (i + 1) = some (pc + 3))
  | 4 => (match ins with
    | .tableswitch d lo hi offs => rx_okT pc d (rx_pcAt code a) && decide (lo + (offs.toList.length : Int) = hi + 1) && rx_okS code pc lo offs.toList sw
    | _ => false)
  | 5 => rx_okR ins len a ret
  | 6 => (match ins with
    | .return_ => decide (len = 1) && rx_okO ret
    | _ => false)
  | _ => decide (rx_pcAt code (i + 1) = some (pc + len))
def rx_okA {M : Type} (cc : ByteArray) (nL : Nat) (ret : Option FieldType) (code : List (rx_E M)) (i : Nat) (e : rx_E M) : Bool :=
  match e with
  | (pc, ins, len, kd, a, v, sw, _) => decide (decode cc pc = .ok (ins, len)) && rx_okK nL ret code i pc ins len a v sw kd
def rx_okF {M : Type} (cc : ByteArray) (nL : Nat) (ret : Option FieldType) (code : List (rx_E M)) : Nat → List (rx_E M) → Bool
  | _, [] => true
  | i, e :: r => rx_okA cc nL ret code i e && rx_okF cc nL ret code (i + 1) r
theorem rx_okF_at {M : Type} {cc : ByteArray} {nL : Nat} {ret : Option FieldType} {code : List (rx_E M)} : ∀ (r : List (rx_E M)) (j : Nat), rx_okF cc nL ret code j r = true → ∀ (i : Nat) (e : rx_E M), r[i]? = some e → rx_okA cc nL ret code (j + i) e = true := by
  intro r
  induction r with
  | nil => intro j _ i e h; simp at h
  | cons x r ih =>
    intro j h i e he
    rw [rx_okF, Bool.and_eq_true] at h
    cases i with
    | zero =>
      have hx : x = e := by simpa using he
      subst hx
      exact h.1
    | succ i =>
      have := ih (j + 1) h.2 i e (by simpa using he)
      rw [show j + (i + 1) = j + 1 + i by omega]
      exact this
def rx_tr (ad : Nat → Nat) (v : Value) : Value :=
  match v with
  | .int x => .int x
  | .ref i => .ref (ad i)
  | _ => .null
theorem rx_tr_cat (ad : Nat → Nat) (v : Value) : (rx_tr ad v).category = 1 := by cases v <;> rfl
def rx_lv (ad : Nat → Nat) : Nat → rx_L → List (Nat × Value)
  | _, [] => []
  | i, none :: r => rx_lv ad (i + 1) r
  | i, some v :: r => (i, rx_tr ad v) :: rx_lv ad (i + 1) r
theorem rx_lv_at {ad : Nat → Nat} : ∀ (ls : rx_L) (i a : Nat) (v : Value), rx_at ls a = some v → (i + a, rx_tr ad v) ∈ rx_lv ad i ls := by
  intro ls
  induction ls with
  | nil => intro i a v h; cases a <;> simp [rx_at] at h
  | cons x r ih =>
    intro i a v h
    cases a with
    | zero =>
      have hx : x = some v := h
      subst hx
      simp [rx_lv]
    | succ a =>
      have h1 := ih (i + 1) a v h
      rw [show i + (a + 1) = i + 1 + a by omega]
      cases x with
      | none => exact h1
      | some w => exact List.mem_cons_of_mem _ h1
theorem rx_lv_set {ad : Nat → Nat} {v : Value} : ∀ (ls : rx_L) (i a : Nat) (q : Nat × Value), q ∈ rx_lv ad i (ls.set a (some v)) → q = (i + a, rx_tr ad v) ∨ (q ∈ rx_lv ad i ls ∧ ¬ q.1 = i + a) := by
  have hge : ∀ (ls : rx_L) (i : Nat) (q : Nat × Value), q ∈ rx_lv ad i ls → i ≤ q.1 := by
    intro ls
    induction ls with
    | nil => intro i q h; simp [rx_lv] at h
    | cons x r ih =>
      intro i q h
      cases x with
      | none => have := ih (i + 1) q h; omega
      | some w =>
        rcases List.mem_cons.mp h with h | h
        · rw [h]; exact Nat.le_refl _
        · have := ih (i + 1) q h; omega
  intro ls
  induction ls with
  | nil => intro i a q h; simp [rx_lv] at h
  | cons x r ih =>
    intro i a q h0
    cases a with
    | zero =>
      rcases List.mem_cons.mp (show q ∈ (i, rx_tr ad v) :: rx_lv ad (i + 1) r from h0) with h | h
      · exact Or.inl h
      · have := hge r (i + 1) q h
        clear h0
        refine Or.inr ⟨?_, by omega⟩
        cases x with
        | none => exact h
        | some w => exact List.mem_cons_of_mem _ h
    | succ a =>
      cases x with
      | none =>
        rcases ih (i + 1) a q h0 with h | h
        · exact Or.inl (by rw [h, show i + (a + 1) = i + 1 + a by omega])
        · exact Or.inr ⟨h.1, by omega⟩
      | some w =>
        rcases List.mem_cons.mp (show q ∈ (i, rx_tr ad w) :: rx_lv ad (i + 1) (r.set a (some v)) from h0) with h | h
        · exact Or.inr ⟨by rw [h]; exact List.mem_cons_self, by rw [h]; simp⟩
        · rcases ih (i + 1) a q h with h | h
          · exact Or.inl (by rw [h, show i + (a + 1) = i + 1 + a by omega])
          · exact Or.inr ⟨List.mem_cons_of_mem _ h.1, by omega⟩
theorem rx_lv_cat {ad : Nat → Nat} : ∀ (ls : rx_L) (i : Nat) (q : Nat × Value), q ∈ rx_lv ad i ls → q.2.category = 1 := by
  intro ls
  induction ls with
  | nil => intro i q h; simp [rx_lv] at h
  | cons x r ih =>
    intro i q h
    cases x with
    | none => exact ih (i + 1) q h
    | some w =>
      rcases List.mem_cons.mp (show q ∈ (i, rx_tr ad w) :: rx_lv ad (i + 1) r from h) with h | h
      · rw [h]; exact rx_tr_cat ad w
      · exact ih (i + 1) q h
theorem rx_has_set {ad : Nat → Nat} {lA : Array Slot} {nL a : Nat} {v : Value} {ls : rx_L} (h : lv_has lA nL ((a, rx_tr ad v) :: (rx_lv ad 0 ls).filter (fun q => !(q.1 == a) && !(q.1 + 1 == a && q.2.category == 2)))) : lv_has lA nL (rx_lv ad 0 (ls.set a (some v))) := by
  refine ⟨h.1, h.2.1, fun q hq => h.2.2 q ?_⟩
  rcases rx_lv_set ls 0 a q hq with h1 | ⟨h1, h2⟩
  · rw [h1, Nat.zero_add]; exact List.mem_cons_self
  · refine List.mem_cons_of_mem _ (List.mem_filter.mpr ⟨h1, ?_⟩)
    have hc := rx_lv_cat ls 0 q h1
    rw [Nat.zero_add] at h2
    simp [h2, hc]
theorem rx_has_at {ad : Nat → Nat} {lA : Array Slot} {nL a : Nat} {v : Value} {ls : rx_L} (h : lv_has lA nL (rx_lv ad 0 ls)) (ha : rx_at ls a = some v) : lA[a]? = some (.val (rx_tr ad v)) := by
  have h1 := rx_lv_at (ad := ad) ls 0 a v ha
  rw [Nat.zero_add] at h1
  exact h.2.2 _ h1
theorem rx_has_pl {ad : Nat → Nat} {lA : Array Slot} {nL a : Nat} {v : Value} {ls : rx_L} (h : lv_has lA nL (rx_lv ad 0 ls)) (ha : rx_at ls a = some v) : ∃ k : Nat, (rx_lv ad 0 ls)[k]? = some (a, rx_tr ad v) := by
  have h1 := rx_lv_at (ad := ad) ls 0 a v ha
  rw [Nat.zero_add] at h1
  exact List.getElem?_of_mem h1
section RXs
variable {p : Program} {l : Launch} {e : Env} {R : Room} {s : State} {m : MethodId} {args : Array Value} {below : List Frame} {meth : Method} {c : Code} {Q : State → Prop} {cc : ByteArray} {nL : Nat} {ad : Nat → Nat} {M : Type} {WM : M → Heap → List Loc → Prop} {cs : M → Nat × Nat}
def rx_X (p : Program) (l : Launch) (e : Env) (R : Room) (s : State) (m : MethodId) (args : Array Value) (below : List Frame) (meth : Method) (c : Code) (Q : State → Prop) (nL : Nat) (ad : Nat → Nat) {M : Type} (WM : M → Heap → List Loc → Prop) (cs : M → Nat × Nat) (pc : Nat) (mem : M) (ls : rx_L) (st : List Value) : Prop :=
  ∀ (H : Heap) (locs : List Loc) (lA : Array Slot), WM mem H locs → lv_has lA nL (rx_lv ad 0 ls) → W p l e R s m args below meth c H locs (cs mem).1 (cs mem).2 Q (F0 m pc lA (st.map (rx_tr ad)))
theorem rx_st_ok (hx : p.tables.exec = Jvm.exec) (hb : c.code = cc) {pc len a : Nat} {v : Int32} {mem : M} {ls : rx_L} {st : List Value} {q : rx_L × List Value} : ∀ i : rx_I, rx_okI i len a v nL = true → rx_st i a v ls st = some q → decode cc pc = .ok (i, len) →
    rx_X p l e R s m args below meth c Q nL ad WM cs (pc + len) mem q.1 q.2 → rx_X p l e R s m args below meth c Q nL ad WM cs pc mem ls st := by
  intro i
  cases i with
  | iconst n =>
    intro ho hq hd k
    simp only [rx_okI, Bool.and_eq_true, decide_eq_true_eq] at ho
    obtain ⟨h1, rfl⟩ := ho
    simp only [rx_st, Option.some.injEq] at hq
    subst hq
    intro H locs lA hW hl
    exact lv_iconst hx hb hd h1 (k H locs lA hW hl)
  | bipush n =>
    intro ho hq hd k
    simp only [rx_okI, Bool.and_eq_true, decide_eq_true_eq] at ho
    obtain ⟨h1, rfl⟩ := ho
    simp only [rx_st, Option.some.injEq] at hq
    subst hq
    intro H locs lA hW hl
    exact lv_bipush hx hb hd h1 (k H locs lA hW hl)
  | sipush n =>
    intro ho hq hd k
    simp only [rx_okI, Bool.and_eq_true, decide_eq_true_eq] at ho
    obtain ⟨h1, rfl⟩ := ho
    simp only [rx_st, Option.some.injEq] at hq
    subst hq
    intro H locs lA hW hl
    exact lv_sipush hx hb hd h1 (k H locs lA hW hl)
  | iload_n n =>
    intro ho hq hd k
    simp only [rx_okI, Bool.and_eq_true, decide_eq_true_eq] at ho
    obtain ⟨h1, rfl⟩ := ho
    simp only [rx_st] at hq
    cases hz : rx_at ls a with
    | none => rw [hz] at hq; simp at hq
    | some z =>
      rw [hz] at hq
      cases z with
      | int x =>
        simp only [Option.some.injEq] at hq
        subst hq
        intro H locs lA hW hl
        exact lv_iload_n hx hb hd h1 (rx_has_at hl hz) (k H locs lA hW hl)
      | _ => simp at hq
  | iload n =>
    intro ho hq hd k
    simp only [rx_okI, Bool.and_eq_true, decide_eq_true_eq] at ho
    obtain ⟨rfl, rfl⟩ := ho
    simp only [rx_st] at hq
    cases hz : rx_at ls n with
    | none => rw [hz] at hq; simp at hq
    | some z =>
      rw [hz] at hq
      cases z with
      | int x =>
        simp only [Option.some.injEq] at hq
        subst hq
        intro H locs lA hW hl
        exact lv_iload hx hb hd (rx_has_at hl hz) (k H locs lA hW hl)
      | _ => simp at hq
  | aload_n n =>
    intro ho hq hd k
    simp only [rx_okI, Bool.and_eq_true, decide_eq_true_eq] at ho
    obtain ⟨h1, rfl⟩ := ho
    simp only [rx_st] at hq
    cases hz : rx_at ls a with
    | none => rw [hz] at hq; simp at hq
    | some z =>
      rw [hz] at hq
      cases z with
      | ref x =>
        simp only [Option.some.injEq] at hq
        subst hq
        intro H locs lA hW hl
        exact lv_aload_n hx hb hd h1 (rx_has_at hl hz) (k H locs lA hW hl)
      | null =>
        simp only [Option.some.injEq] at hq
        subst hq
        intro H locs lA hW hl
        exact lv_aload_nN hx hb hd h1 (rx_has_at hl hz) (k H locs lA hW hl)
      | _ => simp at hq
  | aload n =>
    intro ho hq hd k
    simp only [rx_okI, Bool.and_eq_true, decide_eq_true_eq] at ho
    obtain ⟨rfl, rfl⟩ := ho
    simp only [rx_st] at hq
    cases hz : rx_at ls n with
    | none => rw [hz] at hq; simp at hq
    | some z =>
      rw [hz] at hq
      cases z with
      | ref x =>
        simp only [Option.some.injEq] at hq
        subst hq
        intro H locs lA hW hl
        exact lv_aload hx hb hd (rx_has_at hl hz) (k H locs lA hW hl)
      | null =>
        simp only [Option.some.injEq] at hq
        subst hq
        intro H locs lA hW hl
        exact lv_aloadN hx hb hd (rx_has_at hl hz) (k H locs lA hW hl)
      | _ => simp at hq
  | istore_n n =>
    intro ho hq hd k
    simp only [rx_okI, Bool.and_eq_true, decide_eq_true_eq] at ho
    obtain ⟨⟨h1, rfl⟩, h3⟩ := ho
    cases st with
    | nil => simp [rx_st] at hq
    | cons z st =>
      cases z with
      | int x =>
        simp only [rx_st, Option.some.injEq] at hq
        subst hq
        intro H locs lA hW hl
        exact lv_istore_n hx hb hd h1 hl h3 rfl (fun ls' h' => k H locs ls' hW (rx_has_set (v := .int x) h'))
      | _ => simp [rx_st] at hq
  | istore n =>
    intro ho hq hd k
    simp only [rx_okI, Bool.and_eq_true, decide_eq_true_eq] at ho
    obtain ⟨⟨rfl, rfl⟩, h3⟩ := ho
    cases st with
    | nil => simp [rx_st] at hq
    | cons z st =>
      cases z with
      | int x =>
        simp only [rx_st, Option.some.injEq] at hq
        subst hq
        intro H locs lA hW hl
        exact lv_istore hx hb hd hl h3 rfl (fun ls' h' => k H locs ls' hW (rx_has_set (v := .int x) h'))
      | _ => simp [rx_st] at hq
  | astore_n n =>
    intro ho hq hd k
    simp only [rx_okI, Bool.and_eq_true, decide_eq_true_eq] at ho
    obtain ⟨⟨h1, rfl⟩, h3⟩ := ho
    cases st with
    | nil => simp [rx_st] at hq
    | cons z st =>
      cases z with
      | ref x =>
        simp only [rx_st, Option.some.injEq] at hq
        subst hq
        intro H locs lA hW hl
        exact lv_astore_n hx hb hd h1 hl h3 rfl (fun ls' h' => k H locs ls' hW (rx_has_set (v := .ref x) h'))
      | null =>
        simp only [rx_st, Option.some.injEq] at hq
        subst hq
        intro H locs lA hW hl
        exact lv_astore_nN hx hb hd h1 hl h3 rfl (fun ls' h' => k H locs ls' hW (rx_has_set (v := .null) h'))
      | _ => simp [rx_st] at hq
  | astore n =>
    intro ho hq hd k
    simp only [rx_okI, Bool.and_eq_true, decide_eq_true_eq] at ho
    obtain ⟨⟨rfl, rfl⟩, h3⟩ := ho
    cases st with
    | nil => simp [rx_st] at hq
    | cons z st =>
      cases z with
      | ref x =>
        simp only [rx_st, Option.some.injEq] at hq
        subst hq
        intro H locs lA hW hl
        exact lv_astore hx hb hd hl h3 rfl (fun ls' h' => k H locs ls' hW (rx_has_set (v := .ref x) h'))
      | null =>
        simp only [rx_st, Option.some.injEq] at hq
        subst hq
        intro H locs lA hW hl
        exact lv_astoreN hx hb hd hl h3 rfl (fun ls' h' => k H locs ls' hW (rx_has_set (v := .null) h'))
      | _ => simp [rx_st] at hq
  | iinc n w =>
    intro ho hq hd k
    simp only [rx_okI, Bool.and_eq_true, decide_eq_true_eq] at ho
    obtain ⟨⟨⟨rfl, h2⟩, rfl⟩, h3⟩ := ho
    simp only [rx_st] at hq
    cases hz : rx_at ls n with
    | none => rw [hz] at hq; simp at hq
    | some z =>
      rw [hz] at hq
      cases z with
      | int x =>
        simp only [Option.some.injEq] at hq
        subst hq
        intro H locs lA hW hl
        obtain ⟨k0, hk0⟩ := rx_has_pl hl hz
        exact lv_iinc hx hb hd hl hk0 (by rw [h2]) h3 rfl (fun ls' h' => k H locs ls' hW (rx_has_set (v := .int (x + v)) h'))
      | _ => simp at hq
  | iadd =>
    intro ho hq hd k
    simp only [rx_okI, decide_eq_true_eq] at ho
    subst ho
    rcases st with _ | ⟨z, _ | ⟨w, st⟩⟩
    · simp [rx_st] at hq
    · cases z <;> simp [rx_st] at hq
    · cases z <;> cases w <;> first
        | (simp only [rx_st, Option.some.injEq] at hq
           subst hq
           intro H locs lA hW hl
           exact lv_iadd hx hb hd (k H locs lA hW hl))
        | simp [rx_st] at hq
  | isub =>
    intro ho hq hd k
    simp only [rx_okI, decide_eq_true_eq] at ho
    subst ho
    rcases st with _ | ⟨z, _ | ⟨w, st⟩⟩
    · simp [rx_st] at hq
    · cases z <;> simp [rx_st] at hq
    · cases z <;> cases w <;> first
        | (simp only [rx_st, Option.some.injEq] at hq
           subst hq
           intro H locs lA hW hl
           exact lv_isub hx hb hd (k H locs lA hW hl))
        | simp [rx_st] at hq
  | imul =>
    intro ho hq hd k
    simp only [rx_okI, decide_eq_true_eq] at ho
    subst ho
    rcases st with _ | ⟨z, _ | ⟨w, st⟩⟩
    · simp [rx_st] at hq
    · cases z <;> simp [rx_st] at hq
    · cases z <;> cases w <;> first
        | (simp only [rx_st, Option.some.injEq] at hq
           subst hq
           intro H locs lA hW hl
           exact lv_imul hx hb hd (k H locs lA hW hl))
        | simp [rx_st] at hq
  | iand =>
    intro ho hq hd k
    simp only [rx_okI, decide_eq_true_eq] at ho
    subst ho
    rcases st with _ | ⟨z, _ | ⟨w, st⟩⟩
    · simp [rx_st] at hq
    · cases z <;> simp [rx_st] at hq
    · cases z <;> cases w <;> first
        | (simp only [rx_st, Option.some.injEq] at hq
           subst hq
           intro H locs lA hW hl
           exact lv_iand hx hb hd (k H locs lA hW hl))
        | simp [rx_st] at hq
  | ishl =>
    intro ho hq hd k
    simp only [rx_okI, decide_eq_true_eq] at ho
    subst ho
    rcases st with _ | ⟨z, _ | ⟨w, st⟩⟩
    · simp [rx_st] at hq
    · cases z <;> simp [rx_st] at hq
    · cases z <;> cases w <;> first
        | (simp only [rx_st, Option.some.injEq] at hq
           subst hq
           intro H locs lA hW hl
           exact lv_ishl hx hb hd (k H locs lA hW hl))
        | simp [rx_st] at hq
  | irem =>
    intro ho hq hd k
    simp only [rx_okI, decide_eq_true_eq] at ho
    subst ho
    rcases st with _ | ⟨z, _ | ⟨w, st⟩⟩
    · simp [rx_st] at hq
    · cases z <;> simp [rx_st] at hq
    · cases z <;> cases w <;> first
        | (rename_i y x
           simp only [rx_st] at hq
           by_cases hy : y = 0
           · rw [if_pos hy] at hq
             cases hq
           · rw [if_neg hy] at hq
             simp only [Option.some.injEq] at hq
             subst hq
             intro H locs lA hW hl
             exact lv_irem hx hb hd hy (k H locs lA hW hl))
        | simp [rx_st] at hq
  | dup =>
    intro ho hq hd k
    simp only [rx_okI, decide_eq_true_eq] at ho
    subst ho
    rcases st with _ | ⟨z, st⟩
    · simp [rx_st] at hq
    · simp only [rx_st, Option.some.injEq] at hq
      subst hq
      intro H locs lA hW hl
      exact lv_dup hx hb hd (rx_tr_cat ad z) (k H locs lA hW hl)
  | dup2 =>
    intro ho hq hd k
    simp only [rx_okI, decide_eq_true_eq] at ho
    subst ho
    rcases st with _ | ⟨z, _ | ⟨w, st⟩⟩
    · simp [rx_st] at hq
    · simp [rx_st] at hq
    · simp only [rx_st, Option.some.injEq] at hq
      subst hq
      intro H locs lA hW hl
      exact lv_dup2_11 hx hb hd (rx_tr_cat ad z) (rx_tr_cat ad w) (k H locs lA hW hl)
  | pop =>
    intro ho hq hd k
    simp only [rx_okI, decide_eq_true_eq] at ho
    subst ho
    rcases st with _ | ⟨z, st⟩
    · simp [rx_st] at hq
    · simp only [rx_st, Option.some.injEq] at hq
      subst hq
      intro H locs lA hW hl
      exact lv_pop hx hb hd (rx_tr_cat ad z) (k H locs lA hW hl)
  | aconst_null =>
    intro ho hq hd k
    simp only [rx_okI, decide_eq_true_eq] at ho
    subst ho
    simp only [rx_st, Option.some.injEq] at hq
    subst hq
    intro H locs lA hW hl
    exact lv_null hx hb hd (k H locs lA hW hl)
  | _ => intro ho; simp [rx_okI] at ho
def rx_P (o : Jvm.ClassFile.Cond) (x y : Int32) : Prop :=
  match o with
  | .eq => x = y
  | .ne => ¬ x = y
  | .lt => x < y
  | .ge => ¬ x < y
  | .gt => y < x
  | .le => ¬ y < x
theorem rx_br_ok (hx : p.tables.exec = Jvm.exec) (hb : c.code = cc) {pc tgt : Nat} {mem : M} {ls : rx_L} {st st' : List Value} {o : Jvm.ClassFile.Cond} {x y : Int32} : ∀ i : rx_I, rx_cmp i st = some (o, x, y, st') → decode cc pc = .ok (i, 3) →
    rx_okB pc (some tgt) i = true →
    (rx_P o x y → rx_X p l e R s m args below meth c Q nL ad WM cs tgt mem ls st') → (¬ rx_P o x y → rx_X p l e R s m args below meth c Q nL ad WM cs (pc + 3) mem ls st') → rx_X p l e R s m args below meth c Q nL ad WM cs pc mem ls st := by
  intro i
  cases i with
  | ifCond o' off =>
    intro hq hd ho kt kf
    have ht : (pc : Int) + off = (tgt : Int) := by simpa [rx_okB, rx_okT] using ho
    rcases st with _ | ⟨z, st⟩
    · simp [rx_cmp] at hq
    · cases z <;> first
        | (simp only [rx_cmp, Option.some.injEq, Prod.mk.injEq] at hq
           obtain ⟨rfl, rfl, rfl, rfl⟩ := hq
           intro H locs lA hW hl
           cases o' with
           | eq => exact lv_if_eq hx hb hd ht (fun h => kt h H locs lA hW hl) (fun h => kf h H locs lA hW hl)
           | ne => exact lv_if_ne hx hb hd ht (fun h => kt h H locs lA hW hl) (fun h => kf (fun h' => h' h) H locs lA hW hl)
           | lt => exact lv_if_lt hx hb hd ht (fun h => kt h H locs lA hW hl) (fun h => kf h H locs lA hW hl)
           | ge => exact lv_if_ge hx hb hd ht (fun h => kt (Int32.not_lt.mpr h) H locs lA hW hl) (fun h => kf (fun h' => h (Int32.not_lt.mp h')) H locs lA hW hl)
           | gt => exact lv_if_gt hx hb hd ht (fun h => kt h H locs lA hW hl) (fun h => kf h H locs lA hW hl)
           | le => exact lv_if_le hx hb hd ht (fun h => kt (Int32.not_lt.mpr h) H locs lA hW hl) (fun h => kf (fun h' => h (Int32.not_lt.mp h')) H locs lA hW hl))
        | simp [rx_cmp] at hq
  | if_icmp o' off =>
    intro hq hd ho kt kf
    have ht : (pc : Int) + off = (tgt : Int) := by simpa [rx_okB, rx_okT] using ho
    rcases st with _ | ⟨z, _ | ⟨w, st⟩⟩
    · simp [rx_cmp] at hq
    · cases z <;> simp [rx_cmp] at hq
    · cases z <;> cases w <;> first
        | (simp only [rx_cmp, Option.some.injEq, Prod.mk.injEq] at hq
           obtain ⟨rfl, rfl, rfl, rfl⟩ := hq
           intro H locs lA hW hl
           cases o' with
           | eq => exact lv_icmp_eq hx hb hd ht (fun h => kt h H locs lA hW hl) (fun h => kf h H locs lA hW hl)
           | ne => exact lv_icmp_ne hx hb hd ht (fun h => kt h H locs lA hW hl) (fun h => kf (fun h' => h' h) H locs lA hW hl)
           | lt => exact lv_icmp_lt hx hb hd ht (fun h => kt h H locs lA hW hl) (fun h => kf h H locs lA hW hl)
           | ge => exact lv_icmp_ge hx hb hd ht (fun h => kt (Int32.not_lt.mpr h) H locs lA hW hl) (fun h => kf (fun h' => h (Int32.not_lt.mp h')) H locs lA hW hl)
           | gt => exact lv_icmp_gt hx hb hd ht (fun h => kt h H locs lA hW hl) (fun h => kf h H locs lA hW hl)
           | le => exact lv_icmp_le hx hb hd ht (fun h => kt (Int32.not_lt.mpr h) H locs lA hW hl) (fun h => kf (fun h' => h (Int32.not_lt.mp h')) H locs lA hW hl))
        | simp [rx_cmp] at hq
  | _ => intro hq; simp [rx_cmp] at hq
theorem rx_sw_ok {α : Type} {code : List (rx_E M)} {pc d : Nat} {x : Int32} {F : Nat → Prop} {G : Nat → α} {res : α} : ∀ (os : List Int) (sw : List (Int32 × Nat)) (lo : Int), rx_okS code pc lo os sw = true → rx_sws F x d sw → rx_swe G x d sw = res →
    (∃ (t j : Nat) (off : Int), os[j]? = some off ∧ x.toInt = lo + (j : Int) ∧ F t ∧ G t = res ∧ rx_okT pc off (rx_pcAt code t) = true) ∨ ((x.toInt < lo ∨ lo + (os.length : Int) ≤ x.toInt) ∧ F d ∧ G d = res) := by
  intro os
  induction os with
  | nil =>
    intro sw lo ho hs he
    cases sw with
    | nil => exact Or.inr ⟨by simp only [List.length_nil]; omega, hs, he⟩
    | cons a r => simp [rx_okS] at ho
  | cons o os ih =>
    intro sw lo ho hs he
    cases sw with
    | nil => simp [rx_okS] at ho
    | cons a r =>
      obtain ⟨v, t⟩ := a
      simp only [rx_okS, Bool.and_eq_true, decide_eq_true_eq] at ho
      obtain ⟨⟨h1, h2⟩, h3⟩ := ho
      by_cases hv : x = v
      · refine Or.inl ⟨t, 0, o, by simp, by rw [hv, h1]; simp, hs.1 hv, ?_, h2⟩
        rw [rx_swe, if_pos hv] at he
        exact he
      · rw [rx_swe, if_neg hv] at he
        have hne : ¬ x.toInt = lo := fun h => hv (Int32.toInt_inj.mp (by rw [h1]; exact h))
        rcases ih r (lo + 1) h3 (hs.2 hv) he with ⟨t', j, off, a1, a2, a3, a4, a5⟩ | ⟨a1, a2, a3⟩
        · exact Or.inl ⟨t', j + 1, off, by simpa using a1, by rw [a2]; omega, a3, a4, a5⟩
        · refine Or.inr ⟨?_, a2, a3⟩
          simp only [List.length_cons]
          omega
def rx_OK (p : Program) (l : Launch) (e : Env) (R : Room) (s : State) (m : MethodId) (args : Array Value) (below : List Frame) (meth : Method) (c : Code) (cc : ByteArray) (nL : Nat) (ad : Nat → Nat) {M : Type} (WM : M → Heap → List Loc → Prop) (cs : M → Nat × Nat) (i : rx_I) (len a : Nat) (K : rx_K M) : Prop :=
  ∀ (pc : Nat) (mem : M) (H : Heap) (locs : List Loc) (lA : Array Slot) (av rest : List Value) (Q : State → Prop), av.length = a → (K av mem).1 → WM mem H locs → lA.size = nL → rest.length ≤ 8 → decode cc pc = .ok (i, len) →
    (∀ (H' : Heap) (locs' : List Loc), WM (K av mem).2.1 H' locs' → W p l e R s m args below meth c H' locs' (cs (K av mem).2.1).1 (cs (K av mem).2.1).2 Q (F0 m (pc + len) lA (((K av mem).2.2.toList ++ rest).map (rx_tr ad)))) →
    W p l e R s m args below meth c H locs (cs mem).1 (cs mem).2 Q (F0 m pc lA ((av.reverse ++ rest).map (rx_tr ad)))
def rx_ops (p : Program) (l : Launch) (e : Env) (R : Room) (s : State) (m : MethodId) (args : Array Value) (below : List Frame) (meth : Method) (c : Code) (cc : ByteArray) (nL : Nat) (ad : Nat → Nat) {M : Type} (WM : M → Heap → List Loc → Prop) (cs : M → Nat × Nat) : List (rx_E M) → Prop
  | [] => True
  | (_, i, len, kd, a, _, _, K) :: r => match kd with
    | 0 => rx_ops p l e R s m args below meth c cc nL ad WM cs r
    | 1 => rx_ops p l e R s m args below meth c cc nL ad WM cs r
    | 2 => rx_ops p l e R s m args below meth c cc nL ad WM cs r
    | 3 => rx_ops p l e R s m args below meth c cc nL ad WM cs r
    | 4 => rx_ops p l e R s m args below meth c cc nL ad WM cs r
    | 5 => rx_ops p l e R s m args below meth c cc nL ad WM cs r
    | 6 => rx_ops p l e R s m args below meth c cc nL ad WM cs r
    | _ => rx_OK p l e R s m args below meth c cc nL ad WM cs i len a K ∧ rx_ops p l e R s m args below meth c cc nL ad WM cs r
theorem rx_ops_at : ∀ (code : List (rx_E M)), rx_ops p l e R s m args below meth c cc nL ad WM cs code → ∀ (pc : Nat) (i : rx_I) (len kd a : Nat) (v : Int32) (sw : List (Int32 × Nat)) (K : rx_K M), (pc, i, len, kd + 7, a, v, sw, K) ∈ code → rx_OK p l e R s m args below meth c cc nL ad WM cs i len a K := by
  intro code
  induction code with
  | nil => intro _ pc i len kd a v sw K h; simp at h
  | cons x r ih =>
    intro h pc i len kd a v sw K hm
    obtain ⟨pc', i', len', kd', a', v', sw', K'⟩ := x
    rcases List.mem_cons.mp hm with hm | hm
    · cases hm
      exact h.1
    · refine ih ?_ pc i len kd a v sw K hm
      match kd', h with
      | 0, h => exact h
      | 1, h => exact h
      | 2, h => exact h
      | 3, h => exact h
      | 4, h => exact h
      | 5, h => exact h
      | 6, h => exact h
      | _ + 7, h => exact h.2
theorem rx_okT_spec {pc : Nat} {off : Int} {t : Option Nat} (h : rx_okT pc off t = true) : ∃ q : Nat, t = some q ∧ (pc : Int) + off = (q : Int) := by
  cases t with
  | none => simp [rx_okT] at h
  | some q => exact ⟨q, rfl, by simpa [rx_okT] using h⟩
theorem rx_okR0 {len : Nat} {ret : Option FieldType} : ∀ i : rx_I, rx_okR i len 0 ret = true → i = .ireturn ∧ len = 1 ∧ ret = some .int := by
  intro i h
  cases i with
  | ireturn =>
    rcases ret with _ | ty
    · simp [rx_okR] at h
    · cases ty <;> simp [rx_okR] at h
      exact ⟨rfl, h, rfl⟩
  | _ => simp [rx_okR] at h
theorem rx_okR1 {len : Nat} {ret : Option FieldType} : ∀ i : rx_I, rx_okR i len 1 ret = true → i = .ireturn ∧ len = 1 ∧ ret = some .boolean := by
  intro i h
  cases i with
  | ireturn =>
    rcases ret with _ | ty
    · simp [rx_okR] at h
    · cases ty <;> simp [rx_okR] at h
      exact ⟨rfl, h, rfl⟩
  | _ => simp [rx_okR] at h
theorem rx_okR2 {len : Nat} {ret : Option FieldType} : ∀ i : rx_I, rx_okR i len 2 ret = true → i = .areturn ∧ len = 1 ∧ ∃ n, ret = some (.object n) := by
  intro i h
  cases i with
  | areturn =>
    rcases ret with _ | ty
    · simp [rx_okR] at h
    · cases ty <;> simp [rx_okR] at h
      exact ⟨rfl, h, _, rfl⟩
  | _ => simp [rx_okR] at h
theorem rx_sound {Qc : Array Value → State → Outcome → State → Prop} {free : Addr → Prop} {mc ms : Nat} {ret : Option FieldType} {code : List (rx_E M)} {cut : rx_C M} {res : rx_R M}
    (hx : p.tables.exec = Jvm.exec) (hb : c.code = cc) (hr : meth.sig.returnType = ret) (hlk : meth.locks = false) (hok : rx_okF cc nL ret code 0 code = true) (hops : rx_ops p l e R s m args below meth c cc nL ad WM cs code)
    (hret : ∀ (mem : M) (r : Option Value), (mem, r) = res → ∀ (H : Heap) (locs : List Loc), WM mem H locs → (∀ t : State, t.heap = H → s.WarmedH t.vm → Qc args s (.returned (r.map (rx_tr ad))) t) ∧ (∀ q ∈ locs, free q.base) ∧ (cs mem).1 ≤ mc ∧ (cs mem).2 ≤ ms)
    (hcut : ∀ (pc : Nat) (g : M → rx_L → List Value → Prop × rx_R M), rx_cut cut pc = some g → ∀ (mem : M) (ls : rx_L) (st : List Value), (g mem ls st).1 → (g mem ls st).2 = res → rx_X p l e R s m args below meth c (MQ below Qc args s mc ms free) nL ad WM cs pc mem ls st) :
    ∀ (n i : Nat) (en : rx_E M) (mem : M) (ls : rx_L) (st : List Value), code[i]? = some en → rx_sf code cut n (code.drop i) mem ls st → rx_ev code cut n (code.drop i) mem ls st = res → rx_X p l e R s m args below meth c (MQ below Qc args s mc ms free) nL ad WM cs en.1 mem ls st := by
  have hdrop : ∀ (i : Nat) (en : rx_E M), code[i]? = some en → code.drop i = en :: code.drop (i + 1) := by
    intro i en he
    obtain ⟨hlt, hv⟩ := List.getElem?_eq_some_iff.mp he
    rw [List.drop_eq_getElem_cons hlt, hv]
  intro n
  induction n with
  | zero => intro i en mem ls st he hs; exact False.elim hs
  | succ n ih =>
    intro i en mem ls st he hs hr'
    rw [hdrop i en he] at hs hr'
    have hk := rx_okF_at code 0 hok i en he
    rw [Nat.zero_add] at hk
    have hmem : en ∈ code := List.mem_of_getElem? he
    have go : ∀ (j pc' : Nat) (mem' : M) (ls' : rx_L) (st' : List Value) (d : rx_R M), rx_pcAt code j = some pc' → rx_go False (rx_cP cut) (rx_sf code cut n) (code.drop j) mem' ls' st' → rx_go d (rx_cF cut) (rx_ev code cut n) (code.drop j) mem' ls' st' = res → rx_X p l e R s m args below meth c (MQ below Qc args s mc ms free) nL ad WM cs pc' mem' ls' st' := by
      intro j pc' mem' ls' st' d hp h1 h2
      obtain ⟨e', he', hpe⟩ : ∃ e' : rx_E M, code[j]? = some e' ∧ e'.1 = pc' := by
        unfold rx_pcAt at hp
        cases hz : code[j]? with
        | none => rw [hz] at hp; simp at hp
        | some e' => rw [hz] at hp; exact ⟨e', rfl, by simpa using hp⟩
      rw [hdrop j e' he'] at h1 h2
      subst hpe
      simp only [rx_go, rx_cP, rx_cF] at h1 h2
      cases hc : rx_cut cut e'.1 with
      | none =>
        rw [hc] at h1 h2
        exact ih j e' mem' ls' st' he' (by rw [hdrop j e' he']; exact h1) (by rw [hdrop j e' he']; exact h2)
      | some g =>
        rw [hc] at h1 h2
        exact hcut _ g hc mem' ls' st' h1 h2
    obtain ⟨pc, ins, len, kd, a, v, sw, K⟩ := en
    replace hk : (decide (decode cc pc = .ok (ins, len)) && rx_okK nL ret code i pc ins len a v sw kd) = true := hk
    rw [Bool.and_eq_true, decide_eq_true_eq] at hk
    obtain ⟨hdec, hk⟩ := hk
    clear he
    revert hk hs hr' hmem
    match kd with
    | 0 =>
      intro hs hr' hmem hk
      clear hmem
      replace hk : (rx_okI ins len a v nL && decide (rx_pcAt code (i + 1) = some (pc + len))) = true := hk
      rw [Bool.and_eq_true, decide_eq_true_eq] at hk
      simp only [rx_sf] at hs
      simp only [rx_ev] at hr'
      cases hq : rx_st ins a v ls st with
      | none => rw [hq] at hs; exact False.elim hs
      | some q =>
        obtain ⟨ls', st'⟩ := q
        rw [hq] at hs hr'
        exact rx_st_ok hx hb ins hk.1 hq hdec (go (i + 1) (pc + len) mem ls' st' _ hk.2 hs hr')
    | 1 =>
      intro hs hr' hmem hk
      clear hmem
      simp only [rx_sf] at hs
      simp only [rx_ev] at hr'
      cases ins with
      | goto off =>
        replace hk : (decide (len = 3) && rx_okT pc off (rx_pcAt code a)) = true := hk
        rw [Bool.and_eq_true, decide_eq_true_eq] at hk
        obtain ⟨rfl, ht⟩ := hk
        obtain ⟨q, hq, ht⟩ := rx_okT_spec ht
        intro H locs lA hW hl
        exact lv_goto hx hb hdec ht (go a q mem ls st _ hq hs hr' H locs lA hW hl)
      | _ => simp [rx_okK] at hk
    | 2 =>
      intro hs hr' hmem hk
      clear hmem
      replace hk : (decide (len = 3) && rx_okB pc (rx_pcAt code a) ins && decide (rx_pcAt code (i + 1) = some (pc + 3))) = true := hk
      rw [Bool.and_eq_true, Bool.and_eq_true, decide_eq_true_eq, decide_eq_true_eq] at hk
      obtain ⟨⟨rfl, hk⟩, hnext⟩ := hk
      simp only [rx_sf] at hs
      simp only [rx_ev] at hr'
      obtain ⟨tgt, htgt⟩ : ∃ tgt : Nat, rx_pcAt code a = some tgt := by
        cases ht : rx_pcAt code a with
        | none =>
          rw [ht] at hk
          cases ins with
          | ifCond o off => simp [rx_okB, rx_okT] at hk
          | if_icmp o off => simp [rx_okB, rx_okT] at hk
          | _ => simp [rx_okB] at hk
        | some q => exact ⟨q, rfl⟩
      rw [htgt] at hk
      cases hq : rx_cmp ins st with
      | none => rw [hq] at hs; exact False.elim hs
      | some z =>
        obtain ⟨o, x, y, st'⟩ := z
        rw [hq] at hs hr'
        cases o with
        | eq => exact rx_br_ok hx hb ins hq hdec hk (fun h => go a tgt mem ls st' _ htgt (hs.1 h) ((if_pos h).symm.trans hr')) (fun h => go (i + 1) (pc + 3) mem ls st' _ hnext (hs.2 h) ((if_neg h).symm.trans hr'))
        | ne => exact rx_br_ok hx hb ins hq hdec hk (fun h => go a tgt mem ls st' _ htgt (hs.2 h) ((if_neg h).symm.trans hr')) (fun h => go (i + 1) (pc + 3) mem ls st' _ hnext (hs.1 (Classical.not_not.mp h)) ((if_pos (Classical.not_not.mp h)).symm.trans hr'))
        | lt => exact rx_br_ok hx hb ins hq hdec hk (fun h => go a tgt mem ls st' _ htgt (hs.1 h) ((if_pos h).symm.trans hr')) (fun h => go (i + 1) (pc + 3) mem ls st' _ hnext (hs.2 h) ((if_neg h).symm.trans hr'))
        | ge => exact rx_br_ok hx hb ins hq hdec hk (fun h => go a tgt mem ls st' _ htgt (hs.2 h) ((if_neg h).symm.trans hr')) (fun h => go (i + 1) (pc + 3) mem ls st' _ hnext (hs.1 (Classical.not_not.mp h)) ((if_pos (Classical.not_not.mp h)).symm.trans hr'))
        | gt => exact rx_br_ok hx hb ins hq hdec hk (fun h => go a tgt mem ls st' _ htgt (hs.1 h) ((if_pos h).symm.trans hr')) (fun h => go (i + 1) (pc + 3) mem ls st' _ hnext (hs.2 h) ((if_neg h).symm.trans hr'))
        | le => exact rx_br_ok hx hb ins hq hdec hk (fun h => go a tgt mem ls st' _ htgt (hs.2 h) ((if_neg h).symm.trans hr')) (fun h => go (i + 1) (pc + 3) mem ls st' _ hnext (hs.1 (Classical.not_not.mp h)) ((if_pos (Classical.not_not.mp h)).symm.trans hr'))
    | 3 =>
      intro hs hr' hmem hk
      clear hmem
      replace hk : (decide (len = 3) && rx_okN pc (rx_pcAt code a) ins && decide (rx_pcAt code (i + 1) = some (pc + 3))) = true := hk
      rw [Bool.and_eq_true, Bool.and_eq_true, decide_eq_true_eq, decide_eq_true_eq] at hk
      obtain ⟨⟨rfl, hk⟩, hnext⟩ := hk
      simp only [rx_sf] at hs
      simp only [rx_ev] at hr'
      cases ins with
      | ifnull off =>
        obtain ⟨tgt, htgt, ht⟩ := rx_okT_spec hk
        cases st with
        | nil => exact False.elim hs
        | cons z st =>
          cases z with
          | null =>
            intro H locs lA hW hl
            exact lv_ifnullN hx hb hdec ht (go a tgt mem ls st _ htgt hs hr' H locs lA hW hl)
          | ref x =>
            intro H locs lA hW hl
            exact lv_ifnull hx hb hdec (go (i + 1) (pc + 3) mem ls st _ hnext hs hr' H locs lA hW hl)
          | _ => exact False.elim hs
      | _ => simp [rx_okN] at hk
    | 4 =>
      intro hs hr' hmem hk
      clear hmem
      simp only [rx_sf] at hs
      simp only [rx_ev] at hr'
      cases ins with
      | tableswitch d lo hi offs =>
        replace hk : (rx_okT pc d (rx_pcAt code a) && decide (lo + (offs.toList.length : Int) = hi + 1) && rx_okS code pc lo offs.toList sw) = true := hk
        rw [Bool.and_eq_true, Bool.and_eq_true, decide_eq_true_eq] at hk
        obtain ⟨⟨hk1, hk2⟩, hk3⟩ := hk
        cases st with
        | nil => exact False.elim hs
        | cons z st =>
          cases z with
          | int x =>
            rcases rx_sw_ok offs.toList sw lo hk3 hs hr' with ⟨t, j, off, a1, a2, a3, a4, a5⟩ | ⟨a1, a2, a3⟩
            · obtain ⟨q, hq, ht⟩ := rx_okT_spec a5
              have hj : j < offs.toList.length := (List.getElem?_eq_some_iff.mp a1).1
              intro H locs lA hW hl
              exact lv_tableIn hx hb hdec (by omega) (by omega) (by rw [a2, show (lo + (j : Int) - lo).toNat = j by omega, ← Array.getElem?_toList]; exact a1) ht (go t q mem ls st _ hq a3 a4 H locs lA hW hl)
            · obtain ⟨q, hq, ht⟩ := rx_okT_spec hk1
              intro H locs lA hW hl
              exact lv_tableOut hx hb hdec (by omega) ht (go a q mem ls st _ hq a2 a3 H locs lA hW hl)
          | _ => exact False.elim hs
      | _ => simp [rx_okK] at hk
    | 5 =>
      intro hs hr' hmem hk
      clear hmem
      replace hk : rx_okR ins len a ret = true := hk
      simp only [rx_sf] at hs
      simp only [rx_ev] at hr'
      rcases st with _ | ⟨z, _ | ⟨w, st⟩⟩
      · exact False.elim hs
      · cases z with
        | int x =>
          match a, hs, hk with
          | 0, _, hk =>
            obtain ⟨rfl, rfl, rfl⟩ := rx_okR0 ins hk
            intro H locs lA hW hl
            obtain ⟨hq, hf, h1, h2⟩ := hret mem (some (.int x)) hr' H locs hW
            exact W.widen h1 h2 (W.iret hx hb hr hq hf hdec (hlocks := hlk))
          | 1, hs, hk =>
            obtain ⟨rfl, rfl, rfl⟩ := rx_okR1 ins hk
            intro H locs lA hW hl
            obtain ⟨hq, hf, h1, h2⟩ := hret mem (some (.int x)) hr' H locs hW
            exact W.widen h1 h2 (W.zret hx hb hr (by rcases hs with rfl | rfl <;> rfl) hq hf hdec (hlocks := hlk))
          | _ + 2, hs, _ => exact False.elim hs
        | ref x =>
          match a, hs, hk with
          | 0, hs, _ => exact False.elim hs
          | 1, hs, _ => exact False.elim hs
          | 2, _, hk =>
            obtain ⟨rfl, rfl, n0, hn0⟩ := rx_okR2 ins hk
            intro H locs lA hW hl
            obtain ⟨hq, hf, h1, h2⟩ := hret mem (some (.ref x)) hr' H locs hW
            exact W.widen h1 h2 (W.aret hx hb (hr.trans hn0) (Or.inl ⟨n0, rfl⟩) (Or.inr ⟨_, rfl⟩) hq hf hdec (hlocks := hlk))
          | _ + 3, hs, _ => exact False.elim hs
        | null =>
          match a, hs, hk with
          | 0, hs, _ => exact False.elim hs
          | 1, hs, _ => exact False.elim hs
          | 2, _, hk =>
            obtain ⟨rfl, rfl, n0, hn0⟩ := rx_okR2 ins hk
            intro H locs lA hW hl
            obtain ⟨hq, hf, h1, h2⟩ := hret mem (some .null) hr' H locs hW
            exact W.widen h1 h2 (W.aret hx hb (hr.trans hn0) (Or.inl ⟨n0, rfl⟩) (Or.inl rfl) hq hf hdec (hlocks := hlk))
          | _ + 3, hs, _ => exact False.elim hs
        | _ => exact False.elim hs
      · cases z <;> exact False.elim hs
    | 6 =>
      intro hs hr' hmem hk
      clear hmem
      simp only [rx_sf] at hs
      simp only [rx_ev] at hr'
      cases ins with
      | return_ =>
        replace hk : (decide (len = 1) && rx_okO ret) = true := hk
        rw [Bool.and_eq_true, decide_eq_true_eq] at hk
        obtain ⟨rfl, hk⟩ := hk
        cases ret with
        | some ty => simp [rx_okO] at hk
        | none =>
          cases st with
          | nil =>
            intro H locs lA hW hl
            obtain ⟨hq, hf, h1, h2⟩ := hret mem none hr' H locs hW
            exact W.widen h1 h2 (W.vret hx hb hr hq hf hdec (hlocks := hlk))
          | cons z st => exact False.elim hs
      | _ => simp [rx_okK] at hk
    | kd + 7 =>
      intro hs hr' hmem hk
      replace hk : decide (rx_pcAt code (i + 1) = some (pc + len)) = true := hk
      rw [decide_eq_true_eq] at hk
      replace hs : cond (Nat.ble a st.length && Nat.ble st.length (a + 8)) ((K (st.take a).reverse mem).1 ∧ rx_go False (rx_cP cut) (rx_sf code cut n) (code.drop (i + 1)) (K (st.take a).reverse mem).2.1 ls ((K (st.take a).reverse mem).2.2.toList ++ st.drop a)) False := hs
      replace hr' : rx_go ((K (st.take a).reverse mem).2.1, none) (rx_cF cut) (rx_ev code cut n) (code.drop (i + 1)) (K (st.take a).reverse mem).2.1 ls ((K (st.take a).reverse mem).2.2.toList ++ st.drop a) = res := hr'
      cases hc : (Nat.ble a st.length && Nat.ble st.length (a + 8)) with
      | false => rw [hc] at hs; exact False.elim hs
      | true =>
        rw [hc] at hs
        obtain ⟨hp, hs⟩ := hs
        rw [Bool.and_eq_true] at hc
        have h1 := Nat.le_of_ble_eq_true hc.1
        have h2 := Nat.le_of_ble_eq_true hc.2
        have hOK := rx_ops_at code hops pc ins len kd a v sw K hmem
        intro H locs lA hW hl
        have key := hOK pc mem H locs lA (st.take a).reverse (st.drop a) (MQ below Qc args s mc ms free) (by rw [List.length_reverse, List.length_take]; omega) hp hW hl.1 (by rw [List.length_drop]; omega) hdec
          (fun H' locs' hW' => go (i + 1) (pc + len) (K (st.take a).reverse mem).2.1 ls ((K (st.take a).reverse mem).2.2.toList ++ st.drop a) _ hk hs hr' H' locs' lA hW' hl)
        rw [List.reverse_reverse, List.take_append_drop] at key
        exact key
end RXs
end
section
/-! The memory of both sides: ints by cell and slot, the two rows of references that change, the four counters that are indices too -/
abbrev mx_C : Type := (Nat → Nat → Int32) × (Nat → Fin 41) × (Nat → Fin 4) × Fin 41 × Fin 5
abbrev mx_M : Type := (Nat → Nat → Int32) × Fin 41 × Fin 5
abbrev mx : Type := mx_C × mx_M
def mx_up (h : Nat → Nat → Int32) (i k : Nat) (v : Int32) : Nat → Nat → Int32 := fun a b => cond (Nat.beq b k && Nat.beq a i) v (h a b)
def mx_pi (c : mx_C) (i k : Nat) (v : Int32) : mx_C := (mx_up c.1 i k v, c.2)
def mx_pr (c : mx_C) (k : Nat) (q : Fin 41) : mx_C := (c.1, (fun j => cond (Nat.beq j k) q (c.2.1 j)), c.2.2)
def mx_ps (c : mx_C) (k : Nat) (q : Fin 4) : mx_C := (c.1, c.2.1, (fun j => cond (Nat.beq j k) q (c.2.2.1 j)), c.2.2.2)
def mx_pf (c : mx_C) (v : Int32) : mx_C := (c.1, c.2.1, c.2.2.1, Fin.ofNat 41 v.toNatClampNeg, c.2.2.2.2)
def mx_pc (c : mx_C) (v : Int32) : mx_C := (c.1, c.2.1, c.2.2.1, c.2.2.2.1, Fin.ofNat 5 v.toNatClampNeg)
def my_pi (m : mx_M) (i k : Nat) (v : Int32) : mx_M := (mx_up m.1 i k v, m.2)
def my_pf (m : mx_M) (v : Int32) : mx_M := (m.1, Fin.ofNat 41 v.toNatClampNeg, m.2.2)
def my_ps (m : mx_M) (v : Int32) : mx_M := (m.1, m.2.1, Fin.ofNat 5 v.toNatClampNeg)
def mx_nth : List Nat → Nat → Nat
  | [], _ => 99
  | x :: _, 0 => x
  | _ :: r, n + 1 => mx_nth r n
def mx_kx : List Nat := [0, 1, 24, 2, 2, 2, 2, 2, 2, 2, 2, 2, 2, 2, 2, 2, 2, 2, 2, 2, 2, 2, 2, 2, 2, 2, 2, 2, 2, 2, 2, 2, 2, 2, 2, 2, 2, 2, 2, 2, 2, 2, 2, 2, 2, 26, 27, 4, 3, 20, 4, 3, 20, 4, 3, 20, 4, 3, 20, 5, 20, 20, 8, 22, 22, 22, 7, 25, 23, 20, 3, 21, 3, 21, 8, 22, 22, 22, 6, 6, 6, 6, 9, 34, 28, 30, 28, 28, 28, 28, 28, 28, 28, 28, 28, 31, 28, 28, 28, 28, 28, 28, 28, 29, 29, 32, 32, 32, 32, 32, 32, 32, 32, 33, 33, 33]
def mx_kl (i : Nat) : Nat := mx_nth mx_kx i
abbrev mx_d : Type := Nat × Nat × Nat
def mx_dl : List (List mx_d) := [[(1, 0, 1), (1, 0, 45), (1, 0, 59), (1, 0, 66), (1, 0, 46)],
  [(1, 0, 2), (1, 0, 3), (2, 0, 0)],
  [(0, 0, 0), (0, 0, 0), (0, 0, 0), (0, 0, 0), (0, 0, 0), (0, 0, 0), (0, 0, 0), (0, 0, 0), (0, 0, 0)],
  [(1, 1, 1), (0, 0, 0)],
  [(0, 0, 0), (0, 0, 0), (1, 0, 1), (1, 1, 1), (0, 0, 0), (0, 0, 0), (0, 0, 0), (0, 0, 0), (0, 0, 0), (0, 0, 0), (0, 0, 0), (0, 0, 0)],
  [(0, 0, 0), (1, 0, 1), (1, 0, 62), (1, 0, 60), (1, 0, 61), (0, 0, 0), (0, 0, 0), (0, 0, 0)],
  [(0, 0, 0), (0, 0, 0), (0, 0, 0), (0, 0, 0), (0, 0, 0)],
  [(0, 0, 0), (1, 0, 1), (1, 0, 74), (0, 0, 0), (1, 0, 67), (3, 0, 0), (1, 0, 68), (1, 0, 69), (1, 0, 70), (1, 0, 72), (0, 0, 0), (0, 0, 0)],
  [(0, 0, 0), (0, 0, 0), (1, 0, 1), (0, 0, 0), (0, 0, 0), (0, 0, 0), (0, 0, 0), (0, 0, 0), (0, 0, 0), (1, 1, 1), (1, 1, 2), (1, 1, 3)],
  [(6, 0, 0), (1, 0, 83), (1, 0, 84), (4, 0, 0), (1, 0, 85), (1, 0, 86), (1, 0, 87), (1, 0, 88), (1, 0, 89), (1, 0, 90), (1, 0, 91), (1, 0, 92), (1, 0, 93), (1, 0, 94), (1, 0, 95), (1, 0, 96), (1, 0, 97), (6, 0, 0), (5, 0, 0), (1, 0, 98), (1, 0, 99), (1, 0, 100), (1, 0, 101), (1, 0, 102), (6, 0, 0), (6, 0, 0), (1, 0, 103), (1, 0, 104), (6, 0, 0), (6, 0, 0), (6, 0, 0), (1, 0, 105), (1, 0, 106), (1, 0, 107), (1, 0, 108), (1, 0, 109), (1, 0, 110), (1, 0, 111), (1, 0, 112), (1, 0, 113), (1, 0, 114), (1, 0, 115)]]
def mx_nthd : List (List mx_d) → Nat → List mx_d
  | [], _ => []
  | x :: _, 0 => x
  | _ :: r, n + 1 => mx_nthd r n
def mx_ds (q : Nat) : List mx_d := mx_nthd mx_dl q
def mx_al : List mx_d := [(0, 4, 0), (0, 8, 0), (0, 2048, 0), (1, 4, 0), (2, 41, 2), (3, 4, 3), (4, 4, 4), (5, 6, 5), (0, 4, 1), (0, 8, 1), (0, 360, 1), (0, 16, 1), (0, 2, 1), (0, 2800, 1), (1, 4, 1)]
def mx_ntha : List mx_d → Nat → mx_d
  | [], _ => (9, 0, 9)
  | x :: _, 0 => x
  | _ :: r, n + 1 => mx_ntha r n
def mx_ar (q : Nat) : mx_d := mx_ntha mx_al (q - 20)
def mx_no (j : Nat) : Nat := mx_nth [47, 50, 53, 56, 59, 66] j
def mx_v (ad : Nat → Nat) (x : mx) (i k : Nat) (d : mx_d) : Value :=
  match d with
  | (0, _, _) => .int (x.1.1 i k)
  | (1, mu, off) => .ref (ad (i * mu + off))
  | (2, _, _) => .int (Int32.ofNat x.1.2.2.2.1.val)
  | (3, _, _) => .int (Int32.ofNat x.1.2.2.2.2.val)
  | (4, _, _) => .int (Int32.ofNat x.2.2.1.val)
  | (5, _, _) => .int (Int32.ofNat x.2.2.2.val)
  | (_, _, _) => .int (x.2.1 i k)
def mx_fs (ad : Nat → Nat) (x : mx) (i : Nat) : Nat → List mx_d → List Value
  | _, [] => []
  | k, d :: r => mx_v ad x i k d :: mx_fs ad x i (k + 1) r
abbrev mx_S : Type := (Nat → Int32) ⊕ (Nat → Int64) ⊕ (Nat → UInt32) ⊕ (Nat → UInt64) ⊕ (Nat → Option Nat)
def mx_as (ad : Nat → Nat) (x : mx) (i src : Nat) : mx_S :=
  match src with
  | 0 => .inl (x.1.1 i)
  | 1 => .inl (x.2.1 i)
  | 2 => .inr (.inr (.inr (.inr (fun k => some (ad (4 + (x.1.2.1 k).val))))))
  | 3 => .inr (.inr (.inr (.inr (fun k => some (ad (78 + (x.1.2.2.1 k).val))))))
  | 4 => .inr (.inr (.inr (.inr (fun k => some (ad (47 + 3 * k))))))
  | _ => .inr (.inr (.inr (.inr (fun k => some (ad (mx_no k))))))
def mx_en (g : Nat → ClassId) (ad : Nat → Nat) (x : mx) (i : Nat) : va_E :=
  cond (Nat.blt (mx_kl i) 20) (.inr (mx_kl i, mx_fs ad x i 0 (mx_ds (mx_kl i)))) (.inl (g (mx_ar (mx_kl i)).1, (mx_ar (mx_kl i)).2.1, mx_as ad x i (mx_ar (mx_kl i)).2.2))
def mx_ws (g : Nat → ClassId) (ad : Nat → Nat) (x : mx) : va_W := (List.range 116).map (fun i => (ad i, mx_en g ad x i))
theorem mx_kl_lt {i q : Nat} (h : mx_kl i = q) (hq : ¬ q = 99) : i < 116 := by
  have key : ∀ (l : List Nat) (i : Nat), ¬ i < l.length → mx_nth l i = 99 := by
    intro l
    induction l with
    | nil => intro i _; rfl
    | cons a r ih =>
      intro i hi
      cases i with
      | zero => simp at hi
      | succ i => exact ih i (by simpa using hi)
  refine Classical.byContradiction fun hn => hq ?_
  rw [← h]
  exact key mx_kx i hn
theorem mx_blt_t {q n : Nat} (h : q < n) : Nat.blt q n = true := Nat.ble_eq_true_of_le h
theorem mx_blt_f {q n : Nat} (h : ¬ q < n) : Nat.blt q n = false := by
  cases hb : Nat.blt q n with
  | false => rfl
  | true => exact absurd (Nat.le_of_ble_eq_true hb) h
theorem mx_ws_at {g : Nat → ClassId} {ad : Nat → Nat} {x : mx} {i : Nat} (h : i < 116) : (mx_ws g ad x)[i]? = some (ad i, mx_en g ad x i) := by
  simp [mx_ws, h]
theorem mx_ws_ob {g : Nat → ClassId} {ad : Nat → Nat} {x : mx} {i q : Nat} (h : mx_kl i = q) (hq : q < 20) : (mx_ws g ad x)[i]? = some (ad i, .inr (q, mx_fs ad x i 0 (mx_ds q))) := by
  rw [mx_ws_at (mx_kl_lt h (by omega)), mx_en, h]
  have : Nat.blt q 20 = true := mx_blt_t hq
  rw [this]
  rfl
theorem mx_ws_ar {g : Nat → ClassId} {ad : Nat → Nat} {x : mx} {i q : Nat} (h : mx_kl i = q) (hq : 20 ≤ q) (hq2 : ¬ q = 99) : (mx_ws g ad x)[i]? = some (ad i, .inl (g (mx_ar q).1, (mx_ar q).2.1, mx_as ad x i (mx_ar q).2.2)) := by
  rw [mx_ws_at (mx_kl_lt h hq2), mx_en, h]
  have : Nat.blt q 20 = false := mx_blt_f (by omega)
  rw [this]
  rfl
theorem mx_fs_at {ad : Nat → Nat} {x : mx} {i : Nat} : ∀ (ds : List mx_d) (j k : Nat) (d : mx_d), ds[k]? = some d → (mx_fs ad x i j ds)[k]? = some (mx_v ad x i (j + k) d) := by
  intro ds
  induction ds with
  | nil => intro j k d h; simp at h
  | cons a r ih =>
    intro j k d h
    cases k with
    | zero =>
      have ha : a = d := by simpa using h
      subst ha
      rfl
    | succ k =>
      have := ih (j + 1) k d (by simpa using h)
      rw [show j + (k + 1) = j + 1 + k by omega]
      simpa [mx_fs] using this
theorem mx_fs_len {ad : Nat → Nat} {x : mx} {i : Nat} : ∀ (ds : List mx_d) (j : Nat), (mx_fs ad x i j ds).length = ds.length := by
  intro ds
  induction ds with
  | nil => intro j; rfl
  | cons a r ih => intro j; simp [mx_fs, ih]
/-- where another memory gives the same fields but for one -/
theorem mx_fs_set {ad : Nat → Nat} {x y : mx} {i k0 : Nat} {w : Value} : ∀ (ds : List mx_d) (j : Nat), (∀ (k : Nat) (d : mx_d), ds[k]? = some d → ¬ j + k = k0 → mx_v ad y i (j + k) d = mx_v ad x i (j + k) d) → (∀ (k : Nat) (d : mx_d), ds[k]? = some d → j + k = k0 → mx_v ad y i (j + k) d = w) → j ≤ k0 → mx_fs ad y i j ds = (mx_fs ad x i j ds).set (k0 - j) w := by
  intro ds
  induction ds with
  | nil => intro j _ _ _; rfl
  | cons a r ih =>
    intro j h1 h2 hj
    by_cases h0 : j = k0
    · subst h0
      rw [Nat.sub_self]
      have e0 := h2 0 a rfl rfl
      show mx_v ad y i j a :: mx_fs ad y i (j + 1) r = w :: mx_fs ad x i (j + 1) r
      have e1 : ∀ (r : List mx_d) (j' : Nat), j < j' → (∀ (k : Nat) (d : mx_d), r[k]? = some d → mx_v ad y i (j' + k) d = mx_v ad x i (j' + k) d) → mx_fs ad y i j' r = mx_fs ad x i j' r := by
        intro r
        induction r with
        | nil => intro j' _ _; rfl
        | cons b r ih2 =>
          intro j' hj' hr
          show mx_v ad y i j' b :: mx_fs ad y i (j' + 1) r = mx_v ad x i j' b :: mx_fs ad x i (j' + 1) r
          rw [show mx_v ad y i j' b = mx_v ad x i j' b from hr 0 b rfl, ih2 (j' + 1) (by omega) (fun k d hd => by
            have := hr (k + 1) d (by simpa using hd)
            rwa [show j' + (k + 1) = j' + 1 + k by omega] at this)]
      rw [show mx_v ad y i j a = w from e0, e1 r (j + 1) (by omega) (fun k d hd => by
        have := h1 (k + 1) d (by simpa using hd) (by omega)
        rwa [show j + (k + 1) = j + 1 + k by omega] at this)]
    · have hs : k0 - j = (k0 - (j + 1)) + 1 := by omega
      rw [hs]
      show mx_v ad y i j a :: mx_fs ad y i (j + 1) r = mx_v ad x i j a :: (mx_fs ad x i (j + 1) r).set (k0 - (j + 1)) w
      rw [show mx_v ad y i j a = mx_v ad x i j a from h1 0 a rfl (by omega), ih (j + 1) (fun k d hd hne => by
        have := h1 (k + 1) d (by simpa using hd) (by omega)
        rwa [show j + (k + 1) = j + 1 + k by omega] at this) (fun k d hd he => by
        have := h2 (k + 1) d (by simpa using hd) (by omega)
        rwa [show j + (k + 1) = j + 1 + k by omega] at this) (by omega)]
theorem mx_ws_set {g : Nat → ClassId} {ad : Nat → Nat} {x y : mx} {i : Nat} {q : va_E} (hi : mx_en g ad y i = q) (ho : ∀ j, ¬ j = i → mx_en g ad y j = mx_en g ad x j) : (mx_ws g ad x).set i (ad i, q) = mx_ws g ad y := by
  refine List.ext_getElem? fun j => ?_
  rw [List.getElem?_set]
  by_cases hj : i = j
  · subst hj
    by_cases hl : i < 116
    · rw [if_pos rfl, mx_ws_at hl, ← hi]
      simp [mx_ws, hl]
    · rw [if_pos rfl]
      simp [mx_ws, hl]
  · rw [if_neg hj]
    by_cases hl : j < 116
    · rw [mx_ws_at hl, mx_ws_at hl, ho j (fun h => hj h.symm)]
    · simp [mx_ws, hl]
theorem mx_en_eq {g : Nat → ClassId} {ad : Nat → Nat} {x y : mx} {j : Nat} (h1 : mx_kl j < 20 → mx_fs ad y j 0 (mx_ds (mx_kl j)) = mx_fs ad x j 0 (mx_ds (mx_kl j))) (h2 : ¬ mx_kl j < 20 → mx_as ad y j (mx_ar (mx_kl j)).2.2 = mx_as ad x j (mx_ar (mx_kl j)).2.2) : mx_en g ad y j = mx_en g ad x j := by
  unfold mx_en
  by_cases h : mx_kl j < 20
  · have : Nat.blt (mx_kl j) 20 = true := mx_blt_t h
    rw [this, cond_true, cond_true, h1 h]
  · have : Nat.blt (mx_kl j) 20 = false := mx_blt_f h
    rw [this, cond_false, cond_false, h2 h]
theorem mx_fs_eq {ad : Nat → Nat} {x y : mx} {i : Nat} : ∀ (ds : List mx_d) (j : Nat), (∀ (k : Nat) (d : mx_d), ds[k]? = some d → mx_v ad y i (j + k) d = mx_v ad x i (j + k) d) → mx_fs ad y i j ds = mx_fs ad x i j ds := by
  intro ds
  induction ds with
  | nil => intro j _; rfl
  | cons b r ih =>
    intro j hr
    show mx_v ad y i j b :: mx_fs ad y i (j + 1) r = mx_v ad x i j b :: mx_fs ad x i (j + 1) r
    rw [show mx_v ad y i j b = mx_v ad x i j b from hr 0 b rfl, ih (j + 1) (fun k d hd => by
      have := hr (k + 1) d (by simpa using hd)
      rwa [show j + (k + 1) = j + 1 + k by omega] at this)]
theorem mx_up_eq (h : Nat → Nat → Int32) (i k : Nat) (v : Int32) : mx_up h i k v i k = v := by simp [mx_up]
theorem mx_up_ne (h : Nat → Nat → Int32) {i k a b : Nat} (v : Int32) (hn : ¬ (a = i ∧ b = k)) : mx_up h i k v a b = h a b := by
  unfold mx_up
  cases hb : (Nat.beq b k && Nat.beq a i) with
  | false => rfl
  | true =>
    rw [Bool.and_eq_true] at hb
    exact absurd ⟨Nat.eq_of_beq_eq_true hb.2, Nat.eq_of_beq_eq_true hb.1⟩ hn
theorem mx_up_row (h : Nat → Nat → Int32) (i k : Nat) (v : Int32) {a : Nat} (hn : ¬ a = i) : mx_up h i k v a = h a := by
  funext b
  exact mx_up_ne h v (fun q => hn q.1)
end
section
/-! What each operation on the memory asks and does -/
def kno : rx_K mx := fun _ x => (False, x, none)
def k_R (f : Nat → mx_C → mx_M → Prop × mx × Option Value) : rx_K mx := fun av x =>
  match x with
  | (c, m) => match av with
    | [.ref a0] => f a0 c m
    | _ => (False, (c, m), none)
theorem k_R_inv {f : Nat → mx_C → mx_M → Prop × mx × Option Value} {av : List Value} {x : mx} (h : (k_R f av x).1) : ∃ (a0 : Nat), av = [.ref a0] := by
  obtain ⟨c, m⟩ := x
  unfold k_R at h
  dsimp only at h
  split at h
  · exact ⟨_, rfl⟩
  · exact False.elim h
def k_RI (f : Nat → Int32 → mx_C → mx_M → Prop × mx × Option Value) : rx_K mx := fun av x =>
  match x with
  | (c, m) => match av with
    | [.ref a0, .int a1] => f a0 a1 c m
    | _ => (False, (c, m), none)
theorem k_RI_inv {f : Nat → Int32 → mx_C → mx_M → Prop × mx × Option Value} {av : List Value} {x : mx} (h : (k_RI f av x).1) : ∃ (a0 : Nat) (a1 : Int32), av = [.ref a0, .int a1] := by
  obtain ⟨c, m⟩ := x
  unfold k_RI at h
  dsimp only at h
  split at h
  · exact ⟨_, _, rfl⟩
  · exact False.elim h
def k_RII (f : Nat → Int32 → Int32 → mx_C → mx_M → Prop × mx × Option Value) : rx_K mx := fun av x =>
  match x with
  | (c, m) => match av with
    | [.ref a0, .int a1, .int a2] => f a0 a1 a2 c m
    | _ => (False, (c, m), none)
theorem k_RII_inv {f : Nat → Int32 → Int32 → mx_C → mx_M → Prop × mx × Option Value} {av : List Value} {x : mx} (h : (k_RII f av x).1) : ∃ (a0 : Nat) (a1 : Int32) (a2 : Int32), av = [.ref a0, .int a1, .int a2] := by
  obtain ⟨c, m⟩ := x
  unfold k_RII at h
  dsimp only at h
  split at h
  · exact ⟨_, _, _, rfl⟩
  · exact False.elim h
def k_RIII (f : Nat → Int32 → Int32 → Int32 → mx_C → mx_M → Prop × mx × Option Value) : rx_K mx := fun av x =>
  match x with
  | (c, m) => match av with
    | [.ref a0, .int a1, .int a2, .int a3] => f a0 a1 a2 a3 c m
    | _ => (False, (c, m), none)
theorem k_RIII_inv {f : Nat → Int32 → Int32 → Int32 → mx_C → mx_M → Prop × mx × Option Value} {av : List Value} {x : mx} (h : (k_RIII f av x).1) : ∃ (a0 : Nat) (a1 : Int32) (a2 : Int32) (a3 : Int32), av = [.ref a0, .int a1, .int a2, .int a3] := by
  obtain ⟨c, m⟩ := x
  unfold k_RIII at h
  dsimp only at h
  split at h
  · exact ⟨_, _, _, _, rfl⟩
  · exact False.elim h
def k_RIIII (f : Nat → Int32 → Int32 → Int32 → Int32 → mx_C → mx_M → Prop × mx × Option Value) : rx_K mx := fun av x =>
  match x with
  | (c, m) => match av with
    | [.ref a0, .int a1, .int a2, .int a3, .int a4] => f a0 a1 a2 a3 a4 c m
    | _ => (False, (c, m), none)
theorem k_RIIII_inv {f : Nat → Int32 → Int32 → Int32 → Int32 → mx_C → mx_M → Prop × mx × Option Value} {av : List Value} {x : mx} (h : (k_RIIII f av x).1) : ∃ (a0 : Nat) (a1 : Int32) (a2 : Int32) (a3 : Int32) (a4 : Int32), av = [.ref a0, .int a1, .int a2, .int a3, .int a4] := by
  obtain ⟨c, m⟩ := x
  unfold k_RIIII at h
  dsimp only at h
  split at h
  · exact ⟨_, _, _, _, _, rfl⟩
  · exact False.elim h
def k_RIIIII (f : Nat → Int32 → Int32 → Int32 → Int32 → Int32 → mx_C → mx_M → Prop × mx × Option Value) : rx_K mx := fun av x =>
  match x with
  | (c, m) => match av with
    | [.ref a0, .int a1, .int a2, .int a3, .int a4, .int a5] => f a0 a1 a2 a3 a4 a5 c m
    | _ => (False, (c, m), none)
theorem k_RIIIII_inv {f : Nat → Int32 → Int32 → Int32 → Int32 → Int32 → mx_C → mx_M → Prop × mx × Option Value} {av : List Value} {x : mx} (h : (k_RIIIII f av x).1) : ∃ (a0 : Nat) (a1 : Int32) (a2 : Int32) (a3 : Int32) (a4 : Int32) (a5 : Int32), av = [.ref a0, .int a1, .int a2, .int a3, .int a4, .int a5] := by
  obtain ⟨c, m⟩ := x
  unfold k_RIIIII at h
  dsimp only at h
  split at h
  · exact ⟨_, _, _, _, _, _, rfl⟩
  · exact False.elim h
def k_RIIIIII (f : Nat → Int32 → Int32 → Int32 → Int32 → Int32 → Int32 → mx_C → mx_M → Prop × mx × Option Value) : rx_K mx := fun av x =>
  match x with
  | (c, m) => match av with
    | [.ref a0, .int a1, .int a2, .int a3, .int a4, .int a5, .int a6] => f a0 a1 a2 a3 a4 a5 a6 c m
    | _ => (False, (c, m), none)
theorem k_RIIIIII_inv {f : Nat → Int32 → Int32 → Int32 → Int32 → Int32 → Int32 → mx_C → mx_M → Prop × mx × Option Value} {av : List Value} {x : mx} (h : (k_RIIIIII f av x).1) : ∃ (a0 : Nat) (a1 : Int32) (a2 : Int32) (a3 : Int32) (a4 : Int32) (a5 : Int32) (a6 : Int32), av = [.ref a0, .int a1, .int a2, .int a3, .int a4, .int a5, .int a6] := by
  obtain ⟨c, m⟩ := x
  unfold k_RIIIIII at h
  dsimp only at h
  split at h
  · exact ⟨_, _, _, _, _, _, _, rfl⟩
  · exact False.elim h
def k_RIIIIIII (f : Nat → Int32 → Int32 → Int32 → Int32 → Int32 → Int32 → Int32 → mx_C → mx_M → Prop × mx × Option Value) : rx_K mx := fun av x =>
  match x with
  | (c, m) => match av with
    | [.ref a0, .int a1, .int a2, .int a3, .int a4, .int a5, .int a6, .int a7] => f a0 a1 a2 a3 a4 a5 a6 a7 c m
    | _ => (False, (c, m), none)
theorem k_RIIIIIII_inv {f : Nat → Int32 → Int32 → Int32 → Int32 → Int32 → Int32 → Int32 → mx_C → mx_M → Prop × mx × Option Value} {av : List Value} {x : mx} (h : (k_RIIIIIII f av x).1) : ∃ (a0 : Nat) (a1 : Int32) (a2 : Int32) (a3 : Int32) (a4 : Int32) (a5 : Int32) (a6 : Int32) (a7 : Int32), av = [.ref a0, .int a1, .int a2, .int a3, .int a4, .int a5, .int a6, .int a7] := by
  obtain ⟨c, m⟩ := x
  unfold k_RIIIIIII at h
  dsimp only at h
  split at h
  · exact ⟨_, _, _, _, _, _, _, _, rfl⟩
  · exact False.elim h
def k_RR (f : Nat → Nat → mx_C → mx_M → Prop × mx × Option Value) : rx_K mx := fun av x =>
  match x with
  | (c, m) => match av with
    | [.ref a0, .ref a1] => f a0 a1 c m
    | _ => (False, (c, m), none)
theorem k_RR_inv {f : Nat → Nat → mx_C → mx_M → Prop × mx × Option Value} {av : List Value} {x : mx} (h : (k_RR f av x).1) : ∃ (a0 : Nat) (a1 : Nat), av = [.ref a0, .ref a1] := by
  obtain ⟨c, m⟩ := x
  unfold k_RR at h
  dsimp only at h
  split at h
  · exact ⟨_, _, rfl⟩
  · exact False.elim h
def k_RRI (f : Nat → Nat → Int32 → mx_C → mx_M → Prop × mx × Option Value) : rx_K mx := fun av x =>
  match x with
  | (c, m) => match av with
    | [.ref a0, .ref a1, .int a2] => f a0 a1 a2 c m
    | _ => (False, (c, m), none)
theorem k_RRI_inv {f : Nat → Nat → Int32 → mx_C → mx_M → Prop × mx × Option Value} {av : List Value} {x : mx} (h : (k_RRI f av x).1) : ∃ (a0 : Nat) (a1 : Nat) (a2 : Int32), av = [.ref a0, .ref a1, .int a2] := by
  obtain ⟨c, m⟩ := x
  unfold k_RRI at h
  dsimp only at h
  split at h
  · exact ⟨_, _, _, rfl⟩
  · exact False.elim h
def k_RRR (f : Nat → Nat → Nat → mx_C → mx_M → Prop × mx × Option Value) : rx_K mx := fun av x =>
  match x with
  | (c, m) => match av with
    | [.ref a0, .ref a1, .ref a2] => f a0 a1 a2 c m
    | _ => (False, (c, m), none)
theorem k_RRR_inv {f : Nat → Nat → Nat → mx_C → mx_M → Prop × mx × Option Value} {av : List Value} {x : mx} (h : (k_RRR f av x).1) : ∃ (a0 : Nat) (a1 : Nat) (a2 : Nat), av = [.ref a0, .ref a1, .ref a2] := by
  obtain ⟨c, m⟩ := x
  unfold k_RRR at h
  dsimp only at h
  split at h
  · exact ⟨_, _, _, rfl⟩
  · exact False.elim h
def k_RIR (f : Nat → Int32 → Nat → mx_C → mx_M → Prop × mx × Option Value) : rx_K mx := fun av x =>
  match x with
  | (c, m) => match av with
    | [.ref a0, .int a1, .ref a2] => f a0 a1 a2 c m
    | _ => (False, (c, m), none)
theorem k_RIR_inv {f : Nat → Int32 → Nat → mx_C → mx_M → Prop × mx × Option Value} {av : List Value} {x : mx} (h : (k_RIR f av x).1) : ∃ (a0 : Nat) (a1 : Int32) (a2 : Nat), av = [.ref a0, .int a1, .ref a2] := by
  obtain ⟨c, m⟩ := x
  unfold k_RIR at h
  dsimp only at h
  split at h
  · exact ⟨_, _, _, rfl⟩
  · exact False.elim h
def k_I (f : Int32 → mx_C → mx_M → Prop × mx × Option Value) : rx_K mx := fun av x =>
  match x with
  | (c, m) => match av with
    | [.int a0] => f a0 c m
    | _ => (False, (c, m), none)
theorem k_I_inv {f : Int32 → mx_C → mx_M → Prop × mx × Option Value} {av : List Value} {x : mx} (h : (k_I f av x).1) : ∃ (a0 : Int32), av = [.int a0] := by
  obtain ⟨c, m⟩ := x
  unfold k_I at h
  dsimp only at h
  split at h
  · exact ⟨_, rfl⟩
  · exact False.elim h
def k_II (f : Int32 → Int32 → mx_C → mx_M → Prop × mx × Option Value) : rx_K mx := fun av x =>
  match x with
  | (c, m) => match av with
    | [.int a0, .int a1] => f a0 a1 c m
    | _ => (False, (c, m), none)
theorem k_II_inv {f : Int32 → Int32 → mx_C → mx_M → Prop × mx × Option Value} {av : List Value} {x : mx} (h : (k_II f av x).1) : ∃ (a0 : Int32) (a1 : Int32), av = [.int a0, .int a1] := by
  obtain ⟨c, m⟩ := x
  unfold k_II at h
  dsimp only at h
  split at h
  · exact ⟨_, _, rfl⟩
  · exact False.elim h
def jx_min (x y : Int32) : Int32 := if y < x then y else x
def jx_max (x y : Int32) : Int32 := if x < y then y else x
def mx_lenG (t src i : Nat) : Nat := cond (Nat.blt (mx_kl i) 20) 0 (cond (Nat.beq (mx_ar (mx_kl i)).1 t && Nat.beq (mx_ar (mx_kl i)).2.2 src) (mx_ar (mx_kl i)).2.1 0)
def mx_len (i : Nat) : Nat := cond (Nat.blt (mx_kl i) 20) 0 (mx_ar (mx_kl i)).2.1
def mx_nd (t : Nat) : Prop := mx_kl t = 4 ∨ mx_kl t = 5 ∨ mx_kl t = 7
def kgi (q k : Nat) : rx_K mx := k_R (fun t c m => (mx_kl t = q, (c, m), some (.int (c.1 t k))))
def kpi (q k : Nat) : rx_K mx := k_RI (fun t v c m => (mx_kl t = q, (mx_pi c t k v, m), none))
def kgn : rx_K mx := k_R (fun t c m => (mx_nd t, (c, m), some (.int (c.1 t 0))))
def kpn : rx_K mx := k_RI (fun t v c m => (mx_nd t, (mx_pi c t 0 v, m), none))
def kgr0 (q _k off : Nat) : rx_K mx := k_R (fun t c m => (mx_kl t = q, (c, m), some (.ref off)))
def kgr1 (q _k off : Nat) : rx_K mx := k_R (fun t c m => (mx_kl t = q, (c, m), some (.ref (t + off))))
def kgf : rx_K mx := k_R (fun t c m => (mx_kl t = 1, (c, m), some (.int (Int32.ofNat c.2.2.2.1.val))))
def kgs : rx_K mx := k_R (fun t c m => (mx_kl t = 7, (c, m), some (.int (Int32.ofNat c.2.2.2.2.val))))
def kpf : rx_K mx := k_RI (fun t v c m => (mx_kl t = 1 ∧ vp_in v 41, (mx_pf c v, m), none))
def kps : rx_K mx := k_RI (fun t v c m => (mx_kl t = 7 ∧ vp_in v 5, (mx_pc c v, m), none))
def mgi (k : Nat) : rx_K mx := k_R (fun t c m => (mx_kl t = 9, (c, m), some (.int (m.1 t k))))
def mpi (k : Nat) : rx_K mx := k_RI (fun t v c m => (mx_kl t = 9, (c, my_pi m t k v), none))
def mgr (off : Nat) : rx_K mx := k_R (fun t c m => (mx_kl t = 9, (c, m), some (.ref off)))
def mgf : rx_K mx := k_R (fun t c m => (mx_kl t = 9, (c, m), some (.int (Int32.ofNat m.2.1.val))))
def mgs : rx_K mx := k_R (fun t c m => (mx_kl t = 9, (c, m), some (.int (Int32.ofNat m.2.2.val))))
def mpf : rx_K mx := k_RI (fun t v c m => (mx_kl t = 9 ∧ vp_in v 41, (c, my_pf m v), none))
def mps : rx_K mx := k_RI (fun t v c m => (mx_kl t = 9 ∧ vp_in v 5, (c, my_ps m v), none))
def kai : rx_K mx := k_RI (fun t j c m => (vp_in j (mx_lenG 0 0 t), (c, m), some (.int (c.1 t j.toNatClampNeg))))
def kab : rx_K mx := k_RI (fun t j c m => (vp_in j (mx_lenG 1 0 t), (c, m), some (.int (c.1 t j.toNatClampNeg))))
def mai : rx_K mx := k_RI (fun t j c m => (vp_in j (mx_lenG 0 1 t), (c, m), some (.int (m.1 t j.toNatClampNeg))))
def mab : rx_K mx := k_RI (fun t j c m => (vp_in j (mx_lenG 1 1 t), (c, m), some (.int (m.1 t j.toNatClampNeg))))
def kpa : rx_K mx := k_RII (fun t j v c m => (vp_in j (mx_lenG 0 0 t), (mx_pi c t j.toNatClampNeg v, m), none))
def kpb : rx_K mx := k_RII (fun t j v c m => (vp_in j (mx_lenG 1 0 t) ∧ v = 1, (mx_pi c t j.toNatClampNeg v, m), none))
def mpa : rx_K mx := k_RII (fun t j v c m => (vp_in j (mx_lenG 0 1 t), (c, my_pi m t j.toNatClampNeg v), none))
def mpb : rx_K mx := k_RII (fun t j v c m => (vp_in j (mx_lenG 1 1 t) ∧ v = 1, (c, my_pi m t j.toNatClampNeg v), none))
def kar : rx_K mx := k_RI (fun t j c m => (vp_in j (mx_lenG 2 2 t), (c, m), some (.ref (4 + (c.2.1 j.toNatClampNeg).val))))
def kas : rx_K mx := k_RI (fun t j c m => (vp_in j (mx_lenG 3 3 t), (c, m), some (.ref (78 + (c.2.2.1 j.toNatClampNeg).val))))
def kau : rx_K mx := k_RI (fun t j c m => (vp_in j (mx_lenG 4 4 t), (c, m), some (.ref (47 + 3 * j.toNatClampNeg))))
def kan : rx_K mx := k_RI (fun t j c m => (vp_in j (mx_lenG 5 5 t), (c, m), some (.ref (mx_no j.toNatClampNeg))))
def kpr : rx_K mx := k_RIR (fun t j r c m => (vp_in j (mx_lenG 2 2 t) ∧ 4 ≤ r ∧ r < 45, (mx_pr c j.toNatClampNeg (Fin.ofNat 41 (r - 4)), m), none))
def kpq : rx_K mx := k_RIR (fun t j r c m => (vp_in j (mx_lenG 3 3 t) ∧ 78 ≤ r ∧ r < 82, (mx_ps c j.toNatClampNeg (Fin.ofNat 4 (r - 78)), m), none))
def kal : rx_K mx := k_R (fun t c m => (0 < mx_len t, (c, m), some (.int (Int32.ofNat (mx_len t)))))
def kmin : rx_K mx := k_II (fun a b c m => (True, (c, m), some (.int (jx_min a b))))
def kmax : rx_K mx := k_II (fun a b c m => (True, (c, m), some (.int (jx_max a b))))
theorem mx_kl_row (q : Fin 41) : mx_kl (4 + q.val) = 2 := by
  have h : ∀ q : Fin 41, mx_kl (4 + q.val) = 2 := by decide
  exact h q
theorem mx_kl_ses (q : Fin 4) : mx_kl (78 + q.val) = 6 := by
  have h : ∀ q : Fin 4, mx_kl (78 + q.val) = 6 := by decide
  exact h q
theorem rx_ite2 {α β : Type} {c : Prop} [Decidable c] {a b : α} {f : α → β} {a' b' : β} (h1 : c → a' = f a) (h2 : ¬ c → b' = f b) : (if c then a' else b') = f (if c then a else b) := by
  by_cases h : c
  · rw [if_pos h, if_pos h]; exact h1 h
  · rw [if_neg h, if_neg h]; exact h2 h
def rw_v (m : mx_M) (c : mx_C) : rx_R mx := ((c, m), none)
def rw_i (m : mx_M) (q : mx_C × Int32) : rx_R mx := ((q.1, m), some (.int q.2))
def rw_r (m : mx_M) (q : mx_C × Nat) : rx_R mx := ((q.1, m), some (.ref q.2))
def rw_p (c : mx_C) (m : mx_M) (r : Int32) : rx_R mx := ((c, m), some (.int r))
def ry_v (c : mx_C) (m : mx_M) : rx_R mx := ((c, m), none)
def ry_i (c : mx_C) (q : mx_M × Int32) : rx_R mx := ((c, q.1), some (.int q.2))
end
section
/-! Field tables, classes, the words that every method may use -/
def T_0 : u_T := fun k => match k with
  | 0 => ("SubscriberLines", "flight", "LSubscriberLines$Flight;", true)
  | 1 => ("SubscriberLines", "subscribers", "[LSubscriberLines$Subscriber;", true)
  | 2 => ("SubscriberLines", "access", "LSubscriberLines$Access;", true)
  | 3 => ("SubscriberLines", "server", "LSubscriberLines$Server;", true)
  | _ => ("SubscriberLines", "nodes", "[LSubscriberLines$Node;", true)
def ty_0 : Nat → FieldType := fun k => match k with
  | 0 => .object "SubscriberLines$Flight"
  | 1 => .array (.object "SubscriberLines$Subscriber")
  | 2 => .object "SubscriberLines$Access"
  | 3 => .object "SubscriberLines$Server"
  | _ => .array (.object "SubscriberLines$Node")
theorem ty_0_ok : ∀ k, k < 5 → parseFieldDescriptor (T_0 k).2.2.1 = some (ty_0 k) := by decide +kernel
theorem nm_0 : ∀ a, a < 5 → ∀ b, b < 5 → a ≠ b → (T_0 a).2.1 ≠ (T_0 b).2.1 := by decide +kernel
def T_1 : u_T := fun k => match k with
  | 0 => ("SubscriberLines$Flight", "row", "[LSubscriberLines$Packet;", true)
  | 1 => ("SubscriberLines$Flight", "lost", "LSubscriberLines$Packet;", true)
  | _ => ("SubscriberLines$Flight", "count", "I", false)
def ty_1 : Nat → FieldType := fun k => match k with
  | 0 => .array (.object "SubscriberLines$Packet")
  | 1 => .object "SubscriberLines$Packet"
  | _ => .int
theorem ty_1_ok : ∀ k, k < 3 → parseFieldDescriptor (T_1 k).2.2.1 = some (ty_1 k) := by decide +kernel
theorem nm_1 : ∀ a, a < 3 → ∀ b, b < 3 → a ≠ b → (T_1 a).2.1 ≠ (T_1 b).2.1 := by decide +kernel
def T_2 : u_T := fun k => match k with
  | 0 => ("SubscriberLines$Packet", "kind", "I", false)
  | 1 => ("SubscriberLines$Packet", "from", "I", false)
  | 2 => ("SubscriberLines$Packet", "to", "I", false)
  | 3 => ("SubscriberLines$Packet", "first", "I", false)
  | 4 => ("SubscriberLines$Packet", "second", "I", false)
  | 5 => ("SubscriberLines$Packet", "third", "I", false)
  | 6 => ("SubscriberLines$Packet", "channelNumber", "I", false)
  | 7 => ("SubscriberLines$Packet", "messageNumber", "I", false)
  | _ => ("SubscriberLines$Packet", "expected", "I", false)
def ty_2 : Nat → FieldType := fun k => match k with
  | 0 => .int
  | 1 => .int
  | 2 => .int
  | 3 => .int
  | 4 => .int
  | 5 => .int
  | 6 => .int
  | 7 => .int
  | _ => .int
theorem ty_2_ok : ∀ k, k < 9 → parseFieldDescriptor (T_2 k).2.2.1 = some (ty_2 k) := by decide +kernel
theorem nm_2 : ∀ a, a < 9 → ∀ b, b < 9 → a ≠ b → (T_2 a).2.1 ≠ (T_2 b).2.1 := by decide +kernel
def T_3 : u_T := fun k => match k with
  | 0 => ("SubscriberLines$History", "row", "[I", true)
  | _ => ("SubscriberLines$History", "count", "I", false)
def ty_3 : Nat → FieldType := fun k => match k with
  | 0 => .array .int
  | _ => .int
theorem ty_3_ok : ∀ k, k < 2 → parseFieldDescriptor (T_3 k).2.2.1 = some (ty_3 k) := by decide +kernel
theorem nm_3 : ∀ a, a < 2 → ∀ b, b < 2 → a ≠ b → (T_3 a).2.1 ≠ (T_3 b).2.1 := by decide +kernel
def T_4 : u_T := fun k => match k with
  | 0 => ("SubscriberLines$Node", "silence", "I", false)
  | 1 => ("SubscriberLines$Subscriber", "me", "I", true)
  | 2 => ("SubscriberLines$Subscriber", "flight", "LSubscriberLines$Flight;", true)
  | 3 => ("SubscriberLines$Subscriber", "words", "LSubscriberLines$History;", true)
  | 4 => ("SubscriberLines$Subscriber", "state", "I", false)
  | 5 => ("SubscriberLines$Subscriber", "address", "I", false)
  | 6 => ("SubscriberLines$Subscriber", "link", "I", false)
  | 7 => ("SubscriberLines$Subscriber", "user", "I", false)
  | 8 => ("SubscriberLines$Subscriber", "secret", "I", false)
  | 9 => ("SubscriberLines$Subscriber", "requests", "I", false)
  | 10 => ("SubscriberLines$Subscriber", "waited", "I", false)
  | _ => ("SubscriberLines$Subscriber", "quiet", "I", false)
def ty_4 : Nat → FieldType := fun k => match k with
  | 0 => .int
  | 1 => .int
  | 2 => .object "SubscriberLines$Flight"
  | 3 => .object "SubscriberLines$History"
  | 4 => .int
  | 5 => .int
  | 6 => .int
  | 7 => .int
  | 8 => .int
  | 9 => .int
  | 10 => .int
  | _ => .int
theorem ty_4_ok : ∀ k, k < 12 → parseFieldDescriptor (T_4 k).2.2.1 = some (ty_4 k) := by decide +kernel
theorem nm_4 : ∀ a, a < 12 → ∀ b, b < 12 → a ≠ b → (T_4 a).2.1 ≠ (T_4 b).2.1 := by decide +kernel
def T_5 : u_T := fun k => match k with
  | 0 => ("SubscriberLines$Node", "silence", "I", false)
  | 1 => ("SubscriberLines$Access", "flight", "LSubscriberLines$Flight;", true)
  | 2 => ("SubscriberLines$Access", "end", "LSubscriberLines$End;", true)
  | 3 => ("SubscriberLines$Access", "links", "[I", true)
  | 4 => ("SubscriberLines$Access", "sessions", "[I", true)
  | 5 => ("SubscriberLines$Access", "idle", "I", false)
  | 6 => ("SubscriberLines$Access", "lastLink", "I", false)
  | _ => ("SubscriberLines$Access", "lastChannel", "I", false)
def ty_5 : Nat → FieldType := fun k => match k with
  | 0 => .int
  | 1 => .object "SubscriberLines$Flight"
  | 2 => .object "SubscriberLines$End"
  | 3 => .array .int
  | 4 => .array .int
  | 5 => .int
  | 6 => .int
  | _ => .int
theorem ty_5_ok : ∀ k, k < 8 → parseFieldDescriptor (T_5 k).2.2.1 = some (ty_5 k) := by decide +kernel
theorem nm_5 : ∀ a, a < 8 → ∀ b, b < 8 → a ≠ b → (T_5 a).2.1 ≠ (T_5 b).2.1 := by decide +kernel
def T_6 : u_T := fun k => match k with
  | 0 => ("SubscriberLines$Session", "number", "I", false)
  | 1 => ("SubscriberLines$Session", "link", "I", false)
  | 2 => ("SubscriberLines$Session", "state", "I", false)
  | 3 => ("SubscriberLines$Session", "address", "I", false)
  | _ => ("SubscriberLines$Session", "quiet", "I", false)
def ty_6 : Nat → FieldType := fun k => match k with
  | 0 => .int
  | 1 => .int
  | 2 => .int
  | 3 => .int
  | _ => .int
theorem ty_6_ok : ∀ k, k < 5 → parseFieldDescriptor (T_6 k).2.2.1 = some (ty_6 k) := by decide +kernel
theorem nm_6 : ∀ a, a < 5 → ∀ b, b < 5 → a ≠ b → (T_6 a).2.1 ≠ (T_6 b).2.1 := by decide +kernel
def T_7 : u_T := fun k => match k with
  | 0 => ("SubscriberLines$Node", "silence", "I", false)
  | 1 => ("SubscriberLines$Server", "flight", "LSubscriberLines$Flight;", true)
  | 2 => ("SubscriberLines$Server", "end", "LSubscriberLines$End;", true)
  | 3 => ("SubscriberLines$Server", "pool", "I", true)
  | 4 => ("SubscriberLines$Server", "sessions", "[LSubscriberLines$Session;", true)
  | 5 => ("SubscriberLines$Server", "count", "I", false)
  | 6 => ("SubscriberLines$Server", "allowed", "[Z", true)
  | 7 => ("SubscriberLines$Server", "secrets", "[I", true)
  | 8 => ("SubscriberLines$Server", "words", "LSubscriberLines$History;", true)
  | 9 => ("SubscriberLines$Server", "sources", "LSubscriberLines$History;", true)
  | 10 => ("SubscriberLines$Server", "rejected", "I", false)
  | _ => ("SubscriberLines$Server", "lastSession", "I", false)
def ty_7 : Nat → FieldType := fun k => match k with
  | 0 => .int
  | 1 => .object "SubscriberLines$Flight"
  | 2 => .object "SubscriberLines$End"
  | 3 => .int
  | 4 => .array (.object "SubscriberLines$Session")
  | 5 => .int
  | 6 => .array .boolean
  | 7 => .array .int
  | 8 => .object "SubscriberLines$History"
  | 9 => .object "SubscriberLines$History"
  | 10 => .int
  | _ => .int
theorem ty_7_ok : ∀ k, k < 12 → parseFieldDescriptor (T_7 k).2.2.1 = some (ty_7 k) := by decide +kernel
theorem nm_7 : ∀ a, a < 12 → ∀ b, b < 12 → a ≠ b → (T_7 a).2.1 ≠ (T_7 b).2.1 := by decide +kernel
def T_8 : u_T := fun k => match k with
  | 0 => ("SubscriberLines$End", "me", "I", true)
  | 1 => ("SubscriberLines$End", "peer", "I", true)
  | 2 => ("SubscriberLines$End", "flight", "LSubscriberLines$Flight;", true)
  | 3 => ("SubscriberLines$End", "number", "I", false)
  | 4 => ("SubscriberLines$End", "expected", "I", false)
  | 5 => ("SubscriberLines$End", "tries", "I", false)
  | 6 => ("SubscriberLines$End", "wait", "I", false)
  | 7 => ("SubscriberLines$End", "oldest", "I", false)
  | 8 => ("SubscriberLines$End", "next", "I", false)
  | 9 => ("SubscriberLines$End", "kinds", "[I", true)
  | 10 => ("SubscriberLines$End", "firsts", "[I", true)
  | _ => ("SubscriberLines$End", "seconds", "[I", true)
def ty_8 : Nat → FieldType := fun k => match k with
  | 0 => .int
  | 1 => .int
  | 2 => .object "SubscriberLines$Flight"
  | 3 => .int
  | 4 => .int
  | 5 => .int
  | 6 => .int
  | 7 => .int
  | 8 => .int
  | 9 => .array .int
  | 10 => .array .int
  | _ => .array .int
theorem ty_8_ok : ∀ k, k < 12 → parseFieldDescriptor (T_8 k).2.2.1 = some (ty_8 k) := by decide +kernel
theorem nm_8 : ∀ a, a < 12 → ∀ b, b < 12 → a ≠ b → (T_8 a).2.1 ≠ (T_8 b).2.1 := by decide +kernel
def T_9 : u_T := fun k => match k with
  | 0 => ("SubscriberLinesModel", "pool", "I", false)
  | 1 => ("SubscriberLinesModel", "allowed", "[Z", true)
  | 2 => ("SubscriberLinesModel", "secretOf", "[I", true)
  | 3 => ("SubscriberLinesModel", "flying", "I", false)
  | 4 => ("SubscriberLinesModel", "fly", "[I", true)
  | 5 => ("SubscriberLinesModel", "state", "[I", true)
  | 6 => ("SubscriberLinesModel", "link", "[I", true)
  | 7 => ("SubscriberLinesModel", "user", "[I", true)
  | 8 => ("SubscriberLinesModel", "secret", "[I", true)
  | 9 => ("SubscriberLinesModel", "address", "[I", true)
  | 10 => ("SubscriberLinesModel", "runs", "[I", true)
  | 11 => ("SubscriberLinesModel", "times", "[I", true)
  | 12 => ("SubscriberLinesModel", "quiet", "[I", true)
  | 13 => ("SubscriberLinesModel", "words", "[I", true)
  | 14 => ("SubscriberLinesModel", "wordAt", "[I", true)
  | 15 => ("SubscriberLinesModel", "circuit", "[I", true)
  | 16 => ("SubscriberLinesModel", "circuitSession", "[I", true)
  | 17 => ("SubscriberLinesModel", "idle", "I", false)
  | 18 => ("SubscriberLinesModel", "sessions", "I", false)
  | 19 => ("SubscriberLinesModel", "number", "[I", true)
  | 20 => ("SubscriberLinesModel", "sessionLink", "[I", true)
  | 21 => ("SubscriberLinesModel", "stage", "[I", true)
  | 22 => ("SubscriberLinesModel", "lease", "[I", true)
  | 23 => ("SubscriberLinesModel", "calm", "[I", true)
  | 24 => ("SubscriberLinesModel", "cores", "I", false)
  | 25 => ("SubscriberLinesModel", "rejected", "I", false)
  | 26 => ("SubscriberLinesModel", "coreWord", "[I", true)
  | 27 => ("SubscriberLinesModel", "coreSource", "[I", true)
  | 28 => ("SubscriberLinesModel", "links", "I", false)
  | 29 => ("SubscriberLinesModel", "sessionNumbers", "I", false)
  | 30 => ("SubscriberLinesModel", "channels", "I", false)
  | 31 => ("SubscriberLinesModel", "silent", "[I", true)
  | 32 => ("SubscriberLinesModel", "channel", "[I", true)
  | 33 => ("SubscriberLinesModel", "acked", "[I", true)
  | 34 => ("SubscriberLinesModel", "sent", "[I", true)
  | 35 => ("SubscriberLinesModel", "put", "[I", true)
  | 36 => ("SubscriberLinesModel", "expects", "[I", true)
  | 37 => ("SubscriberLinesModel", "tries", "[I", true)
  | 38 => ("SubscriberLinesModel", "wait", "[I", true)
  | 39 => ("SubscriberLinesModel", "messageKind", "[I", true)
  | 40 => ("SubscriberLinesModel", "messageA", "[I", true)
  | _ => ("SubscriberLinesModel", "messageB", "[I", true)
def ty_9 : Nat → FieldType := fun k => match k with
  | 0 => .int
  | 1 => .array .boolean
  | 2 => .array .int
  | 3 => .int
  | 4 => .array .int
  | 5 => .array .int
  | 6 => .array .int
  | 7 => .array .int
  | 8 => .array .int
  | 9 => .array .int
  | 10 => .array .int
  | 11 => .array .int
  | 12 => .array .int
  | 13 => .array .int
  | 14 => .array .int
  | 15 => .array .int
  | 16 => .array .int
  | 17 => .int
  | 18 => .int
  | 19 => .array .int
  | 20 => .array .int
  | 21 => .array .int
  | 22 => .array .int
  | 23 => .array .int
  | 24 => .int
  | 25 => .int
  | 26 => .array .int
  | 27 => .array .int
  | 28 => .int
  | 29 => .int
  | 30 => .int
  | 31 => .array .int
  | 32 => .array .int
  | 33 => .array .int
  | 34 => .array .int
  | 35 => .array .int
  | 36 => .array .int
  | 37 => .array .int
  | 38 => .array .int
  | 39 => .array .int
  | 40 => .array .int
  | _ => .array .int
theorem ty_9_ok : ∀ k, k < 42 → parseFieldDescriptor (T_9 k).2.2.1 = some (ty_9 k) := by decide +kernel
theorem nm_9 : ∀ a, a < 42 → ∀ b, b < 42 → a ≠ b → (T_9 a).2.1 ≠ (T_9 b).2.1 := by decide +kernel
def mx_cl : List vw_C := [("SubscriberLines", T_0, 5), ("SubscriberLines$Flight", T_1, 3), ("SubscriberLines$Packet", T_2, 9), ("SubscriberLines$History", T_3, 2), ("SubscriberLines$Subscriber", T_4, 12), ("SubscriberLines$Access", T_5, 8), ("SubscriberLines$Session", T_6, 5), ("SubscriberLines$Server", T_7, 12), ("SubscriberLines$End", T_8, 12), ("SubscriberLinesModel", T_9, 42)]
def al : List Cond := lw_tbl.filter goodWord
theorem al_in {w : Cond} (h : w ∈ tables_1) (hg : goodWord w = true) : w ∈ al := List.mem_filter.mpr ⟨List.mem_append_right _ h, hg⟩
theorem al_at {w : Cond} (i : Nat) (h : tables_1[i]? = some w) (hg : goodWord w = true) : w ∈ al := al_in (List.mem_of_getElem? h) hg
theorem al_pr {y : MethodName × Nat} (i : Nat) (h : lw_privs[i]? = some y) : Cond.selects y.1.cls y.1 y.1 ∈ al := List.mem_filter.mpr ⟨List.mem_append_left _ (List.mem_map.mpr ⟨y, List.mem_of_getElem? h, rfl⟩), rfl⟩
theorem in_0 : ∀ w ∈ u_ws "SubscriberLines" T_0 5, w ∈ al := by
  have h : (u_ws "SubscriberLines" T_0 5) = [335, 337, 339, 341, 343].filterMap (fun i => tables_1[i]?) := by decide +kernel
  have hg : (u_ws "SubscriberLines" T_0 5).all goodWord = true := by decide +kernel
  intro w hw
  refine al_in ?_ (List.all_eq_true.mp hg w hw)
  rw [h] at hw
  obtain ⟨i, -, hi⟩ := List.mem_filterMap.mp hw
  exact List.mem_of_getElem? hi
theorem in_1 : ∀ w ∈ u_ws "SubscriberLines$Flight" T_1 3, w ∈ al := by
  have h : (u_ws "SubscriberLines$Flight" T_1 3) = [95, 97, 99].filterMap (fun i => tables_1[i]?) := by decide +kernel
  have hg : (u_ws "SubscriberLines$Flight" T_1 3).all goodWord = true := by decide +kernel
  intro w hw
  refine al_in ?_ (List.all_eq_true.mp hg w hw)
  rw [h] at hw
  obtain ⟨i, -, hi⟩ := List.mem_filterMap.mp hw
  exact List.mem_of_getElem? hi
theorem in_2 : ∀ w ∈ u_ws "SubscriberLines$Packet" T_2 9, w ∈ al := by
  have h : (u_ws "SubscriberLines$Packet" T_2 9) = [71, 73, 75, 77, 79, 81, 83, 85, 87].filterMap (fun i => tables_1[i]?) := by decide +kernel
  have hg : (u_ws "SubscriberLines$Packet" T_2 9).all goodWord = true := by decide +kernel
  intro w hw
  refine al_in ?_ (List.all_eq_true.mp hg w hw)
  rw [h] at hw
  obtain ⟨i, -, hi⟩ := List.mem_filterMap.mp hw
  exact List.mem_of_getElem? hi
theorem in_3 : ∀ w ∈ u_ws "SubscriberLines$History" T_3 2, w ∈ al := by
  have h : (u_ws "SubscriberLines$History" T_3 2) = [123, 125].filterMap (fun i => tables_1[i]?) := by decide +kernel
  have hg : (u_ws "SubscriberLines$History" T_3 2).all goodWord = true := by decide +kernel
  intro w hw
  refine al_in ?_ (List.all_eq_true.mp hg w hw)
  rw [h] at hw
  obtain ⟨i, -, hi⟩ := List.mem_filterMap.mp hw
  exact List.mem_of_getElem? hi
theorem in_4 : ∀ w ∈ u_ws "SubscriberLines$Subscriber" T_4 12, w ∈ al := by
  have h : (u_ws "SubscriberLines$Subscriber" T_4 12) = [166, 144, 146, 148, 150, 152, 154, 156, 158, 160, 162, 164].filterMap (fun i => tables_1[i]?) := by decide +kernel
  have hg : (u_ws "SubscriberLines$Subscriber" T_4 12).all goodWord = true := by decide +kernel
  intro w hw
  refine al_in ?_ (List.all_eq_true.mp hg w hw)
  rw [h] at hw
  obtain ⟨i, -, hi⟩ := List.mem_filterMap.mp hw
  exact List.mem_of_getElem? hi
theorem in_5 : ∀ w ∈ u_ws "SubscriberLines$Access" T_5 8, w ∈ al := by
  have h : (u_ws "SubscriberLines$Access" T_5 8) = [242, 228, 230, 232, 234, 236, 238, 240].filterMap (fun i => tables_1[i]?) := by decide +kernel
  have hg : (u_ws "SubscriberLines$Access" T_5 8).all goodWord = true := by decide +kernel
  intro w hw
  refine al_in ?_ (List.all_eq_true.mp hg w hw)
  rw [h] at hw
  obtain ⟨i, -, hi⟩ := List.mem_filterMap.mp hw
  exact List.mem_of_getElem? hi
theorem in_6 : ∀ w ∈ u_ws "SubscriberLines$Session" T_6 5, w ∈ al := by
  have h : (u_ws "SubscriberLines$Session" T_6 5) = [277, 279, 281, 283, 285].filterMap (fun i => tables_1[i]?) := by decide +kernel
  have hg : (u_ws "SubscriberLines$Session" T_6 5).all goodWord = true := by decide +kernel
  intro w hw
  refine al_in ?_ (List.all_eq_true.mp hg w hw)
  rw [h] at hw
  obtain ⟨i, -, hi⟩ := List.mem_filterMap.mp hw
  exact List.mem_of_getElem? hi
theorem in_7 : ∀ w ∈ u_ws "SubscriberLines$Server" T_7 12, w ∈ al := by
  have h : (u_ws "SubscriberLines$Server" T_7 12) = [328, 306, 308, 310, 312, 314, 316, 318, 320, 322, 324, 326].filterMap (fun i => tables_1[i]?) := by decide +kernel
  have hg : (u_ws "SubscriberLines$Server" T_7 12).all goodWord = true := by decide +kernel
  intro w hw
  refine al_in ?_ (List.all_eq_true.mp hg w hw)
  rw [h] at hw
  obtain ⟨i, -, hi⟩ := List.mem_filterMap.mp hw
  exact List.mem_of_getElem? hi
theorem in_8 : ∀ w ∈ u_ws "SubscriberLines$End" T_8 12, w ∈ al := by
  have h : (u_ws "SubscriberLines$End" T_8 12) = [195, 197, 199, 201, 203, 205, 207, 209, 211, 213, 215, 217].filterMap (fun i => tables_1[i]?) := by decide +kernel
  have hg : (u_ws "SubscriberLines$End" T_8 12).all goodWord = true := by decide +kernel
  intro w hw
  refine al_in ?_ (List.all_eq_true.mp hg w hw)
  rw [h] at hw
  obtain ⟨i, -, hi⟩ := List.mem_filterMap.mp hw
  exact List.mem_of_getElem? hi
theorem in_9 : ∀ w ∈ u_ws "SubscriberLinesModel" T_9 42, w ∈ al := by
  have h : (u_ws "SubscriberLinesModel" T_9 42) = [753, 755, 757, 759, 761, 763, 765, 767, 769, 771, 773, 775, 777, 779, 781, 783, 785, 787, 789, 791, 793, 795, 797, 799, 801, 803, 805, 807, 809, 811, 813, 815, 817, 819, 821, 823, 825, 827, 829, 831, 833, 835].filterMap (fun i => tables_1[i]?) := by decide +kernel
  have hg : (u_ws "SubscriberLinesModel" T_9 42).all goodWord = true := by decide +kernel
  intro w hw
  refine al_in ?_ (List.all_eq_true.mp hg w hw)
  rw [h] at hw
  obtain ⟨i, -, hi⟩ := List.mem_filterMap.mp hw
  exact List.mem_of_getElem? hi
end
section
def mx_A (ad : Nat → Nat) (B : Nat) : Prop := (∀ i j : Nat, i < 116 → j < 116 → ad i = ad j → i = j) ∧ ∀ i : Nat, i < 116 → B ≤ ad i
def mx_ty (g : Nat → ClassId) : List (ClassId × FieldType) := [(g 0, .int), (g 1, .boolean), (g 2, .object "SubscriberLines$Packet"), (g 3, .object "SubscriberLines$Session"), (g 4, .object "SubscriberLines$Subscriber"), (g 5, .object "SubscriberLines$Node")]
def mx_W (D : va_G) (g : Nat → ClassId) (ad : Nat → Nat) (B : Nat) (H0 : Heap) (x : mx) (H : Heap) (locs : List Loc) : Prop := va_P D mx_cl (mx_ws g ad x) H ∧ va_S (fun q => B ≤ q) H0 H locs
def mx_cs (_x : mx) : Nat × Nat := (0, 0)
theorem mx_D {g : Nat → ClassId} {ad : Nat → Nat} {B : Nat} (h : mx_A ad B) (x : mx) : va_D (fun q => B ≤ q) (mx_ws g ad x) := by
  have key : ∀ (i : Nat) (q : Nat × va_E), (mx_ws g ad x)[i]? = some q → i < 116 ∧ q.1 = ad i := by
    intro i q hq
    have hi : i < 116 := by
      have := (List.getElem?_eq_some_iff.mp hq).1
      simpa [mx_ws] using this
    rw [mx_ws_at hi] at hq
    exact ⟨hi, by rw [← Option.some.inj hq]⟩
  refine ⟨fun i j q r hi hj he => ?_, fun i q hi => ?_⟩
  · obtain ⟨a1, a2⟩ := key i q hi
    obtain ⟨b1, b2⟩ := key j r hj
    exact h.1 i j a1 b1 (by rw [← a2, ← b2]; exact he)
  · obtain ⟨a1, a2⟩ := key i q hi
    show B ≤ q.1
    rw [a2]
    exact h.2 i a1
/-! the memory's own equations: a world with one cell put anew is the world of the memory put anew -/
theorem mx_kl_one {i : Nat} (h : mx_kl i = 1) : i = 1 := by
  have hi := mx_kl_lt h (by decide)
  have k : ∀ j : Fin 116, mx_kl j.val = 1 → j.val = 1 := by decide
  exact k ⟨i, hi⟩ h
theorem mx_kl_seven {i : Nat} (h : mx_kl i = 7) : i = 66 := by
  have hi := mx_kl_lt h (by decide)
  have k : ∀ j : Fin 116, mx_kl j.val = 7 → j.val = 66 := by decide
  exact k ⟨i, hi⟩ h
theorem mx_kl_nine {i : Nat} (h : mx_kl i = 9) : i = 82 := by
  have hi := mx_kl_lt h (by decide)
  have k : ∀ j : Fin 116, mx_kl j.val = 9 → j.val = 82 := by decide
  exact k ⟨i, hi⟩ h
/-- the kinds of slots -/
theorem mx_ds_kinds {q k : Nat} {d : mx_d} (h : (mx_ds q)[k]? = some d) : d.1 = 0 ∧ q < 9 ∨ d.1 = 1 ∨ (d.1 = 2 ∧ q = 1 ∧ k = 2) ∨ (d.1 = 3 ∧ q = 7 ∧ k = 5) ∨ (d.1 = 4 ∧ q = 9 ∧ k = 3) ∨ (d.1 = 5 ∧ q = 9 ∧ k = 18) ∨ (d.1 = 6 ∧ q = 9) := by
  have hq : q < 10 := by
    refine Classical.byContradiction fun hn => ?_
    have key : ∀ (l : List (List mx_d)) (q : Nat), ¬ q < l.length → mx_nthd l q = [] := by
      intro l
      induction l with
      | nil => intro q _; rfl
      | cons a r ih =>
        intro q hq
        cases q with
        | zero => simp at hq
        | succ q => exact ih q (by simpa using hq)
    have := key mx_dl q hn
    unfold mx_ds at h
    rw [this] at h
    simp at h
  have hk : k < 50 := by
    have h1 := (List.getElem?_eq_some_iff.mp h).1
    have h2 : ∀ q : Fin 10, (mx_ds q.val).length ≤ 50 := by decide
    exact Nat.lt_of_lt_of_le h1 (h2 ⟨q, hq⟩)
  have all : ∀ (q : Fin 10) (k : Fin 50), ((mx_ds q.val)[k.val]?).all (fun d => decide (d.1 = 0 ∧ q.val < 9 ∨ d.1 = 1 ∨ (d.1 = 2 ∧ q.val = 1 ∧ k.val = 2) ∨ (d.1 = 3 ∧ q.val = 7 ∧ k.val = 5) ∨ (d.1 = 4 ∧ q.val = 9 ∧ k.val = 3) ∨ (d.1 = 5 ∧ q.val = 9 ∧ k.val = 18) ∨ (d.1 = 6 ∧ q.val = 9))) = true := by decide +kernel
  have := all ⟨q, hq⟩ ⟨k, hk⟩
  rw [h, Option.all_some, decide_eq_true_eq] at this
  exact this
/-- which arrays are there -/
theorem mx_ar_src (i : Nat) (h : ¬ mx_kl i < 20) : (mx_ar (mx_kl i)).2.2 = 0 ∧ i < 82 ∨ (mx_ar (mx_kl i)).2.2 = 1 ∧ 82 < i ∨ (mx_ar (mx_kl i)).2.2 = 2 ∧ i = 2 ∨ (mx_ar (mx_kl i)).2.2 = 3 ∧ i = 67 ∨ (mx_ar (mx_kl i)).2.2 = 4 ∧ i = 45 ∨ (mx_ar (mx_kl i)).2.2 = 5 ∧ i = 46 ∨ 116 ≤ i := by
  by_cases hi : i < 116
  · have k : ∀ j : Fin 116, ¬ mx_kl j.val < 20 → (mx_ar (mx_kl j.val)).2.2 = 0 ∧ j.val < 82 ∨ (mx_ar (mx_kl j.val)).2.2 = 1 ∧ 82 < j.val ∨ (mx_ar (mx_kl j.val)).2.2 = 2 ∧ j.val = 2 ∨ (mx_ar (mx_kl j.val)).2.2 = 3 ∧ j.val = 67 ∨ (mx_ar (mx_kl j.val)).2.2 = 4 ∧ j.val = 45 ∨ (mx_ar (mx_kl j.val)).2.2 = 5 ∧ j.val = 46 ∨ 116 ≤ j.val := by decide +kernel
    exact k ⟨i, hi⟩ h
  · exact Or.inr (Or.inr (Or.inr (Or.inr (Or.inr (Or.inr (by omega))))))
theorem mx_v_cong {ad : Nat → Nat} {x y : mx} {i k : Nat} {d : mx_d} (h1 : y.1.1 i k = x.1.1 i k) (h2 : y.2.1 i k = x.2.1 i k) (h3 : d.1 = 2 → y.1.2.2.2.1 = x.1.2.2.2.1) (h4 : d.1 = 3 → y.1.2.2.2.2 = x.1.2.2.2.2) (h5 : d.1 = 4 → y.2.2.1 = x.2.2.1) (h6 : d.1 = 5 → y.2.2.2 = x.2.2.2) : mx_v ad y i k d = mx_v ad x i k d := by
  obtain ⟨a, b, c⟩ := d
  match a, h3, h4, h5, h6 with
  | 0, _, _, _, _ => exact congrArg Value.int h1
  | 1, _, _, _, _ => rfl
  | 2, h3, _, _, _ => show Value.int (Int32.ofNat y.1.2.2.2.1.val) = Value.int (Int32.ofNat x.1.2.2.2.1.val); rw [h3 rfl]
  | 3, _, h4, _, _ => show Value.int (Int32.ofNat y.1.2.2.2.2.val) = Value.int (Int32.ofNat x.1.2.2.2.2.val); rw [h4 rfl]
  | 4, _, _, h5, _ => show Value.int (Int32.ofNat y.2.2.1.val) = Value.int (Int32.ofNat x.2.2.1.val); rw [h5 rfl]
  | 5, _, _, _, h6 => show Value.int (Int32.ofNat y.2.2.2.val) = Value.int (Int32.ofNat x.2.2.2.val); rw [h6 rfl]
  | _ + 6, _, _, _, _ => exact congrArg Value.int h2
/-- a cell that a change of the memory leaves as it is -/
theorem mx_en_cong {g : Nat → ClassId} {ad : Nat → Nat} {x y : mx} {j : Nat} (h1 : y.1.1 j = x.1.1 j) (h2 : y.2.1 j = x.2.1 j) (h3 : ¬ j = 1 → True) (hf : j = 1 → y.1.2.2.2.1 = x.1.2.2.2.1) (hs : j = 66 → y.1.2.2.2.2 = x.1.2.2.2.2) (hm : j = 82 → y.2.2 = x.2.2) (hr : j = 2 → y.1.2.1 = x.1.2.1) (hq : j = 67 → y.1.2.2.1 = x.1.2.2.1) : mx_en g ad y j = mx_en g ad x j := by
  refine mx_en_eq (fun hk => ?_) (fun hk => ?_)
  · refine mx_fs_eq _ 0 (fun k d hd => ?_)
    have hkd := mx_ds_kinds hd
    refine mx_v_cong (by rw [h1]) (by rw [h2]) (fun e => hf ?_) (fun e => hs ?_) (fun e => ?_) (fun e => ?_)
    · exact mx_kl_one (by omega)
    · exact mx_kl_seven (by omega)
    · rw [hm (mx_kl_nine (by omega))]
    · rw [hm (mx_kl_nine (by omega))]
  · rcases mx_ar_src j hk with ⟨e, -⟩ | ⟨e, -⟩ | ⟨e, e2⟩ | ⟨e, e2⟩ | ⟨e, -⟩ | ⟨e, -⟩ | e
    · rw [e]; exact congrArg Sum.inl h1
    · rw [e]; exact congrArg Sum.inl h2
    · rw [e]; show Sum.inr _ = Sum.inr _; rw [hr e2]
    · rw [e]; show Sum.inr _ = Sum.inr _; rw [hq e2]
    · rw [e]; rfl
    · rw [e]; rfl
    · have hz : mx_kl j = 99 := by
        refine Classical.byContradiction fun hn => ?_
        have := mx_kl_lt (i := j) rfl hn
        omega
      rw [hz]
      rfl
theorem mx_en_ob {g : Nat → ClassId} {ad : Nat → Nat} {x : mx} {i q : Nat} (h : mx_kl i = q) (hq : q < 20) : mx_en g ad x i = .inr (q, mx_fs ad x i 0 (mx_ds q)) := by
  have h1 := mx_ws_ob (g := g) (ad := ad) (x := x) h hq
  rw [mx_ws_at (mx_kl_lt h (by omega))] at h1
  exact congrArg Prod.snd (Option.some.inj h1)
theorem mx_en_ar {g : Nat → ClassId} {ad : Nat → Nat} {x : mx} {i q : Nat} (h : mx_kl i = q) (hq : 20 ≤ q) (hq2 : ¬ q = 99) : mx_en g ad x i = .inl (g (mx_ar q).1, (mx_ar q).2.1, mx_as ad x i (mx_ar q).2.2) := by
  have h1 := mx_ws_ar (g := g) (ad := ad) (x := x) h hq hq2
  rw [mx_ws_at (mx_kl_lt h hq2)] at h1
  exact congrArg Prod.snd (Option.some.inj h1)
section SETS
variable {g : Nat → ClassId} {ad : Nat → Nat} {x : mx} {t q k : Nat} {v : Int32}
theorem mx_set_i (ht : mx_kl t = q) (hq : q < 9) (hd : (mx_ds q)[k]? = some (0, 0, 0)) : (mx_ws g ad x).set t (ad t, .inr (q, (mx_fs ad x t 0 (mx_ds q)).set k (.int v))) = mx_ws g ad (mx_pi x.1 t k v, x.2) := by
  refine mx_ws_set ?_ (fun j hj => ?_)
  · rw [mx_en_ob ht (by omega)]
    refine congrArg (fun z => Sum.inr (q, z)) ?_
    have := mx_fs_set (ad := ad) (x := x) (y := (mx_pi x.1 t k v, x.2)) (i := t) (k0 := k) (w := .int v) (mx_ds q) 0 (fun k' d' hd' hne => ?_) (fun k' d' hd' he => ?_) (Nat.zero_le _)
    · exact this
    · exact mx_v_cong (mx_up_ne _ _ (fun h => hne h.2)) rfl (fun _ => rfl) (fun _ => rfl) (fun _ => rfl) (fun _ => rfl)
    · have hk : k' = k := by omega
      subst hk
      rw [hd] at hd'
      cases hd'
      show Value.int (mx_up x.1.1 t k' v t (0 + k')) = _
      rw [Nat.zero_add, mx_up_eq]
  · exact mx_en_cong (mx_up_row _ _ _ _ hj) rfl (fun _ => trivial) (fun _ => rfl) (fun _ => rfl) (fun _ => rfl) (fun _ => rfl) (fun _ => rfl)
theorem my_set_i (ht : mx_kl t = 9) (hd : (mx_ds 9)[k]? = some (6, 0, 0)) : (mx_ws g ad x).set t (ad t, .inr (9, (mx_fs ad x t 0 (mx_ds 9)).set k (.int v))) = mx_ws g ad (x.1, my_pi x.2 t k v) := by
  refine mx_ws_set ?_ (fun j hj => ?_)
  · rw [mx_en_ob ht (by omega)]
    refine congrArg (fun z => Sum.inr (9, z)) ?_
    have := mx_fs_set (ad := ad) (x := x) (y := (x.1, my_pi x.2 t k v)) (i := t) (k0 := k) (w := .int v) (mx_ds 9) 0 (fun k' d' hd' hne => ?_) (fun k' d' hd' he => ?_) (Nat.zero_le _)
    · exact this
    · exact mx_v_cong rfl (mx_up_ne _ _ (fun h => hne h.2)) (fun _ => rfl) (fun _ => rfl) (fun _ => rfl) (fun _ => rfl)
    · have hk : k' = k := by omega
      subst hk
      rw [hd] at hd'
      cases hd'
      show Value.int (mx_up x.2.1 t k' v t (0 + k')) = _
      rw [Nat.zero_add, mx_up_eq]
  · exact mx_en_cong rfl (mx_up_row _ _ _ _ hj) (fun _ => trivial) (fun _ => rfl) (fun _ => rfl) (fun _ => rfl) (fun _ => rfl) (fun _ => rfl)
theorem mx_ofFin {n : Nat} (hn : 0 < n) (hv : vp_in v n) : Int32.ofNat (v.toNatClampNeg % n) = v := by
  have h0 : ¬ v < 0 := fun h => hv (Or.inl h)
  have h1 : v.toNatClampNeg < n := Nat.not_le.mp fun h => hv (Or.inr h)
  rw [Nat.mod_eq_of_lt h1]
  exact Int32.ofNat_toNatClampNeg v (Int32.not_lt.mp h0)
theorem mx_set_f (hv : vp_in v 41) : (mx_ws g ad x).set 1 (ad 1, .inr (1, (mx_fs ad x 1 0 (mx_ds 1)).set 2 (.int v))) = mx_ws g ad (mx_pf x.1 v, x.2) := by
  refine mx_ws_set ?_ (fun j hj => ?_)
  · rw [mx_en_ob (q := 1) rfl (by omega)]
    refine congrArg (fun z => Sum.inr (1, z)) ?_
    show [mx_v ad _ 1 0 (1, 0, 2), mx_v ad _ 1 1 (1, 0, 3), Value.int (Int32.ofNat (v.toNatClampNeg % 41))] = _
    rw [mx_ofFin (by decide) hv]
    rfl
  · exact mx_en_cong rfl rfl (fun _ => trivial) (fun h => absurd h hj) (fun _ => rfl) (fun _ => rfl) (fun _ => rfl) (fun _ => rfl)
theorem mx_set_s (hv : vp_in v 5) : (mx_ws g ad x).set 66 (ad 66, .inr (7, (mx_fs ad x 66 0 (mx_ds 7)).set 5 (.int v))) = mx_ws g ad (mx_pc x.1 v, x.2) := by
  refine mx_ws_set ?_ (fun j hj => ?_)
  · rw [mx_en_ob (q := 7) rfl (by omega)]
    refine congrArg (fun z => Sum.inr (7, z)) ?_
    have := mx_fs_set (ad := ad) (x := x) (y := (mx_pc x.1 v, x.2)) (i := 66) (k0 := 5) (w := .int v) (mx_ds 7) 0 (fun k' d' hd' hne => ?_) (fun k' d' hd' he => ?_) (by omega)
    · exact this
    · have := mx_ds_kinds hd'
      exact mx_v_cong rfl rfl (fun _ => rfl) (fun e => by omega) (fun _ => rfl) (fun _ => rfl)
    · have hk : k' = 5 := by omega
      subst hk
      have hd : (mx_ds 7)[5]? = some (3, 0, 0) := rfl
      rw [hd] at hd'
      cases hd'
      show Value.int (Int32.ofNat (v.toNatClampNeg % 5)) = _
      rw [mx_ofFin (by decide) hv]
  · exact mx_en_cong rfl rfl (fun _ => trivial) (fun _ => rfl) (fun h => absurd h hj) (fun _ => rfl) (fun _ => rfl) (fun _ => rfl)
theorem my_set_f (hv : vp_in v 41) : (mx_ws g ad x).set 82 (ad 82, .inr (9, (mx_fs ad x 82 0 (mx_ds 9)).set 3 (.int v))) = mx_ws g ad (x.1, my_pf x.2 v) := by
  refine mx_ws_set ?_ (fun j hj => ?_)
  · rw [mx_en_ob (q := 9) rfl (by omega)]
    refine congrArg (fun z => Sum.inr (9, z)) ?_
    have := mx_fs_set (ad := ad) (x := x) (y := (x.1, my_pf x.2 v)) (i := 82) (k0 := 3) (w := .int v) (mx_ds 9) 0 (fun k' d' hd' hne => ?_) (fun k' d' hd' he => ?_) (by omega)
    · exact this
    · have := mx_ds_kinds hd'
      exact mx_v_cong rfl rfl (fun _ => rfl) (fun _ => rfl) (fun e => by omega) (fun _ => rfl)
    · have hk : k' = 3 := by omega
      subst hk
      have hd : (mx_ds 9)[3]? = some (4, 0, 0) := rfl
      rw [hd] at hd'
      cases hd'
      show Value.int (Int32.ofNat (v.toNatClampNeg % 41)) = _
      rw [mx_ofFin (by decide) hv]
  · exact mx_en_cong rfl rfl (fun _ => trivial) (fun _ => rfl) (fun _ => rfl) (fun h => absurd h hj) (fun _ => rfl) (fun _ => rfl)
theorem my_set_s (hv : vp_in v 5) : (mx_ws g ad x).set 82 (ad 82, .inr (9, (mx_fs ad x 82 0 (mx_ds 9)).set 18 (.int v))) = mx_ws g ad (x.1, my_ps x.2 v) := by
  refine mx_ws_set ?_ (fun j hj => ?_)
  · rw [mx_en_ob (q := 9) rfl (by omega)]
    refine congrArg (fun z => Sum.inr (9, z)) ?_
    have := mx_fs_set (ad := ad) (x := x) (y := (x.1, my_ps x.2 v)) (i := 82) (k0 := 18) (w := .int v) (mx_ds 9) 0 (fun k' d' hd' hne => ?_) (fun k' d' hd' he => ?_) (by omega)
    · exact this
    · have := mx_ds_kinds hd'
      exact mx_v_cong rfl rfl (fun _ => rfl) (fun _ => rfl) (fun _ => rfl) (fun e => by omega)
    · have hk : k' = 18 := by omega
      subst hk
      have hd : (mx_ds 9)[18]? = some (5, 0, 0) := rfl
      rw [hd] at hd'
      cases hd'
      show Value.int (Int32.ofNat (v.toNatClampNeg % 5)) = _
      rw [mx_ofFin (by decide) hv]
  · exact mx_en_cong rfl rfl (fun _ => trivial) (fun _ => rfl) (fun _ => rfl) (fun h => absurd h hj) (fun _ => rfl) (fun _ => rfl)
/-- arrays of ints -/
theorem mx_set_a {n : Nat} (ht : mx_kl t = q) (hq : 20 ≤ q) (hq2 : ¬ q = 99) (hs : (mx_ar q).2.2 = 0) : (mx_ws g ad x).set t (ad t, .inl (g (mx_ar q).1, (mx_ar q).2.1, .inl (upd (x.1.1 t) n v))) = mx_ws g ad (mx_pi x.1 t n v, x.2) := by
  refine mx_ws_set ?_ (fun j hj => ?_)
  · rw [mx_en_ar ht hq hq2, hs]
    refine congrArg (fun z => Sum.inl (g (mx_ar q).1, (mx_ar q).2.1, Sum.inl z)) ?_
    funext b
    show mx_up x.1.1 t n v t b = upd (x.1.1 t) n v b
    unfold upd
    by_cases hb : b = n
    · subst hb; rw [mx_up_eq, if_pos rfl]
    · rw [mx_up_ne _ _ (fun h => hb h.2), if_neg hb]
  · exact mx_en_cong (mx_up_row _ _ _ _ hj) rfl (fun _ => trivial) (fun _ => rfl) (fun _ => rfl) (fun _ => rfl) (fun _ => rfl) (fun _ => rfl)
theorem my_set_a {n : Nat} (ht : mx_kl t = q) (hq : 20 ≤ q) (hq2 : ¬ q = 99) (hs : (mx_ar q).2.2 = 1) : (mx_ws g ad x).set t (ad t, .inl (g (mx_ar q).1, (mx_ar q).2.1, .inl (upd (x.2.1 t) n v))) = mx_ws g ad (x.1, my_pi x.2 t n v) := by
  refine mx_ws_set ?_ (fun j hj => ?_)
  · rw [mx_en_ar ht hq hq2, hs]
    refine congrArg (fun z => Sum.inl (g (mx_ar q).1, (mx_ar q).2.1, Sum.inl z)) ?_
    funext b
    show mx_up x.2.1 t n v t b = upd (x.2.1 t) n v b
    unfold upd
    by_cases hb : b = n
    · subst hb; rw [mx_up_eq, if_pos rfl]
    · rw [mx_up_ne _ _ (fun h => hb h.2), if_neg hb]
  · exact mx_en_cong rfl (mx_up_row _ _ _ _ hj) (fun _ => trivial) (fun _ => rfl) (fun _ => rfl) (fun _ => rfl) (fun _ => rfl) (fun _ => rfl)
theorem mx_set_r {n r : Nat} (h1 : 4 ≤ r) (h2 : r < 45) : (mx_ws g ad x).set 2 (ad 2, .inl (g 2, 41, .inr (.inr (.inr (.inr (va_up (fun k => some (ad (4 + (x.1.2.1 k).val))) n (some (ad r)))))))) = mx_ws g ad (mx_pr x.1 n (Fin.ofNat 41 (r - 4)), x.2) := by
  refine mx_ws_set ?_ (fun j hj => ?_)
  · rw [mx_en_ar (q := 24) rfl (by omega) (by omega)]
    refine congrArg (fun z => Sum.inl (g 2, 41, Sum.inr (Sum.inr (Sum.inr (Sum.inr z))))) ?_
    funext b
    show some (ad (4 + (cond (Nat.beq b n) (Fin.ofNat 41 (r - 4)) (x.1.2.1 b)).val)) = va_up _ n _ b
    unfold va_up
    by_cases hb : b = n
    · subst hb
      rw [if_pos rfl, Nat.beq_refl, cond_true]
      show some (ad (4 + (r - 4) % 41)) = _
      rw [Nat.mod_eq_of_lt (by omega), show 4 + (r - 4) = r by omega]
    · rw [if_neg hb]
      have : Nat.beq b n = false := by
        cases hz : Nat.beq b n with
        | false => rfl
        | true => exact absurd (Nat.eq_of_beq_eq_true hz) hb
      rw [this, cond_false]
  · exact mx_en_cong rfl rfl (fun _ => trivial) (fun _ => rfl) (fun _ => rfl) (fun _ => rfl) (fun h => absurd h hj) (fun _ => rfl)
theorem mx_set_q {n r : Nat} (h1 : 78 ≤ r) (h2 : r < 82) : (mx_ws g ad x).set 67 (ad 67, .inl (g 3, 4, .inr (.inr (.inr (.inr (va_up (fun k => some (ad (78 + (x.1.2.2.1 k).val))) n (some (ad r)))))))) = mx_ws g ad (mx_ps x.1 n (Fin.ofNat 4 (r - 78)), x.2) := by
  refine mx_ws_set ?_ (fun j hj => ?_)
  · rw [mx_en_ar (q := 25) rfl (by omega) (by omega)]
    refine congrArg (fun z => Sum.inl (g 3, 4, Sum.inr (Sum.inr (Sum.inr (Sum.inr z))))) ?_
    funext b
    show some (ad (78 + (cond (Nat.beq b n) (Fin.ofNat 4 (r - 78)) (x.1.2.2.1 b)).val)) = va_up _ n _ b
    unfold va_up
    by_cases hb : b = n
    · subst hb
      rw [if_pos rfl, Nat.beq_refl, cond_true]
      show some (ad (78 + (r - 78) % 4)) = _
      rw [Nat.mod_eq_of_lt (by omega), show 78 + (r - 78) = r by omega]
    · rw [if_neg hb]
      have : Nat.beq b n = false := by
        cases hz : Nat.beq b n with
        | false => rfl
        | true => exact absurd (Nat.eq_of_beq_eq_true hz) hb
      rw [this, cond_false]
  · exact mx_en_cong rfl rfl (fun _ => trivial) (fun _ => rfl) (fun _ => rfl) (fun _ => rfl) (fun _ => rfl) (fun h => absurd h hj)
end SETS
end
section
def tb (D : va_G) (g : Nat → ClassId) (U : State) : Prop := va_K D mx_cl (mx_ty g) U ∧ va_Nw (.declares ⟨"SubscriberLines$Node", "receive", "(LSubscriberLines$Packet;)V"⟩) U ∧ va_Nw (.declares ⟨"SubscriberLines$Node", "runTimer", "()V"⟩) U
theorem tb_moved {D : va_G} {g : Nat → ClassId} {s U : State} (hW : s.WarmedH U.vm) (h : tb D g s) : tb D g U := ⟨va_K.moved hW.alike h.1, va_Nw.warmD hW h.2.1, va_Nw.warmD hW h.2.2⟩
def ox_C (p : Program) (s : State) (m : MethodId) (args : Array Value) (c : Code) (cc : ByteArray) (nL : Nat) (own : String) (D : va_G) (g : Nat → ClassId) (ad : Nat → Nat) (B : Nat) : Prop :=
  p.tables.exec = Jvm.exec ∧ c.code = cc ∧ c.maxLocals = nL ∧ s.vm.findClass own = some m.cls ∧ (∀ w ∈ al, w.before args s = true) ∧ tb D g s ∧ mx_A ad B
theorem al_good {ws : List Cond} (h : ∀ w ∈ ws, w ∈ al) : GoodIn al ws := fun w hw => ⟨h w hw, good_of_word (List.mem_filter.mp (h w hw)).2⟩
def rx_Pc (D : va_G) (g : Nat → ClassId) (ad : Nat → Nat) (av : List Value) (x : mx) : Array Value → State → Prop := fun a U => a = (av.map (rx_tr ad)).toArray ∧ tb D g U ∧ va_P D mx_cl (mx_ws g ad x) U.heap
def rx_Qc (D : va_G) (g : Nat → ClassId) (ad : Nat → Nat) (B : Nat) (r : rx_R mx) : Array Value → State → Outcome → State → Prop := fun _ st oc t => oc = .returned (r.2.map (rx_tr ad)) ∧ va_P D mx_cl (mx_ws g ad r.1) t.heap ∧ va_F (fun q => B ≤ q) st t
/-- a method's contract -/
def rx_V (l : Launch) (D : va_G) (g : Nat → ClassId) (ad : Nat → Nat) (B : Nat) (y : MethodName) (bytes : ByteArray) (maxL : Nat) (ret : Option FieldType) (fr lo : Nat) (K : rx_K mx) : Prop :=
  ∀ (av : List Value) (x : mx), (K av x).1 → Met l y (Cond.code y bytes maxL ret :: al) ({ frames := fr, cells := 0, slots := 0, locals := lo } : Room) (rx_Pc D g ad av x) (rx_Qc D g ad B (K av x).2) 0 0 (fun q => B ≤ q)
theorem rx_lv_args {ad : Nat → Nat} : ∀ (av : List Value) (i k : Nat), rx_lv ad i (av.map some ++ List.replicate k none) = lv_args i (av.map (rx_tr ad)) := by
  intro av
  induction av with
  | nil =>
    intro i k
    induction k generalizing i with
    | zero => rfl
    | succ k ih => exact ih (i + 1)
  | cons v r ih =>
    intro i k
    show (i, rx_tr ad v) :: rx_lv ad (i + 1) (r.map some ++ List.replicate k none) = (i, rx_tr ad v) :: lv_args (if (rx_tr ad v).category = 2 then i + 2 else i + 1) (r.map (rx_tr ad))
    rw [rx_tr_cat, if_neg (by decide), ih]
section RM
variable {l : Launch} {D : va_G} {g : Nat → ClassId} {ad : Nat → Nat} {B : Nat} {y : MethodName} {cc : ByteArray} {nL : Nat} {ret : Option FieldType} {rm : Room} {av : List Value} {x : mx} {res : rx_R mx}
theorem rx_metX (had : mx_A ad B) (hy : plainName y.cls = true) (hlen : (lg_sl (av.map (rx_tr ad))).length ≤ nL) (k : Nat)
    (body : ∀ (p : Program) (e : Env) (s : State) (m : MethodId) (args : Array Value) (below : List Frame) (meth : Method) (c : Code), ox_C p s m args c cc nL y.cls D g ad B → meth.sig.returnType = ret → meth.locks = false →
      rx_X p l e rm s m args below meth c (MQ below (rx_Qc D g ad B res) args s 0 0 (fun q => B ≤ q)) nL ad (mx_W D g ad B s.heap) mx_cs 0 x (av.map some ++ List.replicate k none) []) :
    Met l y (Cond.code y cc nL ret :: al) rm (rx_Pc D g ad av x) (rx_Qc D g ad B res) 0 0 (fun q => B ≤ q) := by
  refine Met.ofW (cc := cc) (maxL := nL) (ret := ret) hy rfl ?_
  intro p e s m args below meth c s₁ Bd hml hv
  obtain ⟨rfl, htb, hP⟩ := hv
  have hts := atoms_spec (ws := Cond.code y cc nL ret :: al) Bd.pre
  have hown : s.vm.findClass y.cls = some m.cls := findClass_of_methodNamed Bd.named
  have hl := lv_entry (av.map (rx_tr ad)) (n := nL) hlen
  rw [lg_entry_eq]
  generalize (lg_sl (av.map (rx_tr ad)) ++ List.replicate (nL - (lg_sl (av.map (rx_tr ad))).length) Slot.unset).toArray = ls at hl ⊢
  exact body p e s m _ below meth c ⟨Bd.exec, Bd.bytes, hml, hown, fun w hw => hts w (List.mem_cons_of_mem _ hw), htb, had⟩ Bd.returns Bd.notSynchronized s.heap [] ls ⟨hP, va_S.rf⟩ (by rw [rx_lv_args]; exact hl)
theorem rx_hret {s : State} {args : Array Value} (mem : mx) (r : Option Value) (h : (mem, r) = res) (H : Heap) (locs : List Loc) (hW : mx_W D g ad B s.heap mem H locs) : (∀ t : State, t.heap = H → s.WarmedH t.vm → rx_Qc D g ad B res args s (.returned (r.map (rx_tr ad))) t) ∧ (∀ q ∈ locs, B ≤ q.base) ∧ (mx_cs mem).1 ≤ 0 ∧ (mx_cs mem).2 ≤ 0 := by
  subst h
  exact ⟨fun t ht _ => ⟨rfl, by rw [ht]; exact hW.1, hW.2.F ht⟩, hW.2.2.2, Nat.le_refl _, Nat.le_refl _⟩
theorem rx_met {code : List (rx_E mx)} (had : mx_A ad B) (hy : plainName y.cls = true) (hlen : (lg_sl (av.map (rx_tr ad))).length ≤ nL) (k : Nat) (hok : rx_okF cc nL ret code 0 code = true) {e0 : rx_E mx} (h0 : code[0]? = some e0) (hpc : e0.1 = 0) (fuel : Nat)
    (hops : ∀ (p : Program) (e : Env) (s : State) (m : MethodId) (args : Array Value) (below : List Frame) (meth : Method) (c : Code), ox_C p s m args c cc nL y.cls D g ad B → rx_ops p l e rm s m args below meth c cc nL ad (mx_W D g ad B s.heap) mx_cs code)
    (hsf : rx_sf code [] fuel code x (av.map some ++ List.replicate k none) []) (hev : rx_ev code [] fuel code x (av.map some ++ List.replicate k none) [] = res) :
    Met l y (Cond.code y cc nL ret :: al) rm (rx_Pc D g ad av x) (rx_Qc D g ad B res) 0 0 (fun q => B ≤ q) := by
  refine rx_metX had hy hlen k fun p e s m args below meth c X hr hlk => ?_
  have := rx_sound (p := p) (l := l) (e := e) (R := rm) (s := s) (m := m) (args := args) (below := below) (meth := meth) (c := c) (WM := mx_W D g ad B s.heap) (cs := mx_cs) (ad := ad) (nL := nL) (Qc := rx_Qc D g ad B res) (free := fun q => B ≤ q) (mc := 0) (ms := 0) (code := code) (cut := []) (res := res) X.1 X.2.1 hr hlk hok (hops p e s m args below meth c X)
    (fun mem r h H locs hW => rx_hret mem r h H locs hW) (fun pc g hg => by cases hg) fuel 0 e0 x (av.map some ++ List.replicate k none) [] h0 hsf hev
  rw [hpc] at this
  exact this
end RM
section OX
variable {p : Program} {l : Launch} {e : Env} {R : Room} {s : State} {m : MethodId} {args : Array Value} {below : List Frame} {meth : Method} {c : Code} {cc : ByteArray} {nL : Nat} {ad : Nat → Nat} {D : va_G} {g : Nat → ClassId} {B : Nat} {own : String}
variable {C : String} {T : u_T} {N q k idx : Nat}
theorem ow_get {t pc : Nat} {d : mx_d} {v : Value} {x : mx} {H : Heap} {locs : List Loc} {lA : Array Slot} {rest : List Value} {Q : State → Prop} {ref : String} (X : ox_C p s m args c cc nL own D g ad B) (hcl : mx_cl[q]? = some (C, T, N)) (hq : q < 20) (hk : k < N) (hin : ∀ w ∈ u_ws C T N, w ∈ al) (hd : (mx_ds q)[k]? = some d) (hl : Cond.fieldLink own idx ref (T k).2.1 (T k).2.2.1 ∈ al) (hsame : (T k).1 = ref) (ht : mx_kl t = q) (hv : mx_v ad x t k d = rx_tr ad v) (hW : mx_W D g ad B s.heap x H locs) (hdec : decode cc pc = .ok (.getfield idx, 3))
    (kk : W p l e R s m args below meth c H locs 0 0 Q (F0 m (pc + 3) lA (rx_tr ad v :: rest))) : W p l e R s m args below meth c H locs 0 0 Q (F0 m pc lA (.ref (ad t) :: rest)) := by
  obtain ⟨hx, hb, -, hown, hts, htb, had⟩ := X
  refine va_get hx hb hts hin hown htb.1 hW.1 t (mx_ws_ob ht hq) hcl k hk (hts _ hl) (fun z h => by rw [← hsame]; exact h) (v := rx_tr ad v) ?_ hdec kk
  rw [mx_fs_at _ 0 k d hd, Nat.zero_add, hv]
theorem ow_put {t pc : Nat} {v : Int32} {x y : mx} {H : Heap} {locs : List Loc} {lA : Array Slot} {rest : List Value} {Q : State → Prop} {ref : String} (X : ox_C p s m args c cc nL own D g ad B) (hcl : mx_cl[q]? = some (C, T, N)) (hq : q < 20) (hk : k < N) (hin : ∀ w ∈ u_ws C T N, w ∈ al) (ty0 : Nat → FieldType) (hty : ∀ k, k < N → parseFieldDescriptor (T k).2.2.1 = some (ty0 k)) (hnm : ∀ a, a < N → ∀ b, b < N → a ≠ b → (T a).2.1 ≠ (T b).2.1) (hfin : (T k).2.2.2 = false) (hint : ty0 k = .int) (hN : (mx_ds q).length = N) (hl : Cond.fieldLink own idx ref (T k).2.1 (T k).2.2.1 ∈ al) (hsame : (T k).1 = ref) (ht : mx_kl t = q)
    (hset : (mx_ws g ad x).set t (ad t, .inr (q, (mx_fs ad x t 0 (mx_ds q)).set k (.int v))) = mx_ws g ad y) (hW : mx_W D g ad B s.heap x H locs) (hdec : decode cc pc = .ok (.putfield idx, 3))
    (kk : ∀ (H' : Heap) (locs' : List Loc), mx_W D g ad B s.heap y H' locs' → W p l e R s m args below meth c H' locs' 0 0 Q (F0 m (pc + 3) lA rest)) : W p l e R s m args below meth c H locs 0 0 Q (F0 m pc lA (.int v :: .ref (ad t) :: rest)) := by
  obtain ⟨hx, hb, -, hown, hts, htb, had⟩ := X
  refine va_put (ty := .int) hx hb hts hin ty0 hty hnm hown htb.1 hW.1 (mx_D had x) hW.2 t (mx_ws_ob ht hq) hcl k hk (hts _ hl) (fun z h => by rw [← hsame]; exact h) hfin (by rw [hty k hk, hint]) rfl rfl (by rw [mx_fs_len, hN]; exact hk) hdec (fun H1 locs1 h1 h2 h3 => kk H1 locs1 ⟨?_, h3⟩)
  rw [← hset]
  exact h1
theorem ox_gi (X : ox_C p s m args c cc nL own D g ad B) (hcl : mx_cl[q]? = some (C, T, N)) (hq : q < 9) (hk : k < N) (hin : ∀ w ∈ u_ws C T N, w ∈ al) (hd : (mx_ds q)[k]? = some (0, 0, 0)) (hl : Cond.fieldLink own idx (T k).1 (T k).2.1 (T k).2.2.1 ∈ al) : rx_OK p l e R s m args below meth c cc nL ad (mx_W D g ad B s.heap) mx_cs (.getfield idx) 3 1 (kgi q k) := by
  intro pc mem H locs lA av rest Q ha hp hW hsz hrest hdec kk
  obtain ⟨t, rfl⟩ := k_R_inv hp
  exact ow_get X hcl (by omega) hk hin hd hl rfl hp (v := .int (mem.1.1 t k)) rfl hW hdec (kk H locs hW)
theorem ox_pi (X : ox_C p s m args c cc nL own D g ad B) (hcl : mx_cl[q]? = some (C, T, N)) (hq : q < 9) (hk : k < N) (hin : ∀ w ∈ u_ws C T N, w ∈ al) (hd : (mx_ds q)[k]? = some (0, 0, 0)) (ty0 : Nat → FieldType) (hty : ∀ k, k < N → parseFieldDescriptor (T k).2.2.1 = some (ty0 k)) (hnm : ∀ a, a < N → ∀ b, b < N → a ≠ b → (T a).2.1 ≠ (T b).2.1) (hfin : (T k).2.2.2 = false) (hint : ty0 k = .int) (hN : (mx_ds q).length = N) (hl : Cond.fieldLink own idx (T k).1 (T k).2.1 (T k).2.2.1 ∈ al) : rx_OK p l e R s m args below meth c cc nL ad (mx_W D g ad B s.heap) mx_cs (.putfield idx) 3 2 (kpi q k) := by
  intro pc mem H locs lA av rest Q ha hp hW hsz hrest hdec kk
  obtain ⟨t, v, rfl⟩ := k_RI_inv hp
  exact ow_put X hcl (by omega) hk hin ty0 hty hnm hfin hint hN hl rfl hp (mx_set_i hp hq hd) hW hdec kk
theorem ox_gr0 {off : Nat} (X : ox_C p s m args c cc nL own D g ad B) (hcl : mx_cl[q]? = some (C, T, N)) (hq : q < 9) (hk : k < N) (hin : ∀ w ∈ u_ws C T N, w ∈ al) (hd : (mx_ds q)[k]? = some (1, 0, off)) (hl : Cond.fieldLink own idx (T k).1 (T k).2.1 (T k).2.2.1 ∈ al) : rx_OK p l e R s m args below meth c cc nL ad (mx_W D g ad B s.heap) mx_cs (.getfield idx) 3 1 (kgr0 q k off) := by
  intro pc mem H locs lA av rest Q ha hp hW hsz hrest hdec kk
  obtain ⟨t, rfl⟩ := k_R_inv hp
  exact ow_get X hcl (by omega) hk hin hd hl rfl hp (v := .ref off) (by show Value.ref (ad (t * 0 + off)) = Value.ref (ad off); rw [Nat.mul_zero, Nat.zero_add]) hW hdec (kk H locs hW)
theorem ox_gr1 {off : Nat} (X : ox_C p s m args c cc nL own D g ad B) (hcl : mx_cl[q]? = some (C, T, N)) (hq : q < 9) (hk : k < N) (hin : ∀ w ∈ u_ws C T N, w ∈ al) (hd : (mx_ds q)[k]? = some (1, 1, off)) (hl : Cond.fieldLink own idx (T k).1 (T k).2.1 (T k).2.2.1 ∈ al) : rx_OK p l e R s m args below meth c cc nL ad (mx_W D g ad B s.heap) mx_cs (.getfield idx) 3 1 (kgr1 q k off) := by
  intro pc mem H locs lA av rest Q ha hp hW hsz hrest hdec kk
  obtain ⟨t, rfl⟩ := k_R_inv hp
  exact ow_get X hcl (by omega) hk hin hd hl rfl hp (v := .ref (t + off)) (by show Value.ref (ad (t * 1 + off)) = Value.ref (ad (t + off)); rw [Nat.mul_one]) hW hdec (kk H locs hW)
theorem ox_gf (X : ox_C p s m args c cc nL own D g ad B) (hl : Cond.fieldLink own idx "SubscriberLines$Flight" "count" "I" ∈ al) : rx_OK p l e R s m args below meth c cc nL ad (mx_W D g ad B s.heap) mx_cs (.getfield idx) 3 1 kgf := by
  intro pc mem H locs lA av rest Q ha hp hW hsz hrest hdec kk
  obtain ⟨t, rfl⟩ := k_R_inv hp
  exact ow_get (q := 1) (k := 2) (T := T_1) X rfl (by omega) (by decide) in_1 rfl hl rfl hp (v := .int (Int32.ofNat mem.1.2.2.2.1.val)) rfl hW hdec (kk H locs hW)
theorem ox_gs (X : ox_C p s m args c cc nL own D g ad B) (hl : Cond.fieldLink own idx "SubscriberLines$Server" "count" "I" ∈ al) : rx_OK p l e R s m args below meth c cc nL ad (mx_W D g ad B s.heap) mx_cs (.getfield idx) 3 1 kgs := by
  intro pc mem H locs lA av rest Q ha hp hW hsz hrest hdec kk
  obtain ⟨t, rfl⟩ := k_R_inv hp
  exact ow_get (q := 7) (k := 5) (T := T_7) X rfl (by omega) (by decide) in_7 rfl hl rfl hp (v := .int (Int32.ofNat mem.1.2.2.2.2.val)) rfl hW hdec (kk H locs hW)
theorem ox_pf (X : ox_C p s m args c cc nL own D g ad B) (hl : Cond.fieldLink own idx "SubscriberLines$Flight" "count" "I" ∈ al) : rx_OK p l e R s m args below meth c cc nL ad (mx_W D g ad B s.heap) mx_cs (.putfield idx) 3 2 kpf := by
  intro pc mem H locs lA av rest Q ha hp hW hsz hrest hdec kk
  obtain ⟨t, v, rfl⟩ := k_RI_inv hp
  have ht : t = 1 := mx_kl_one hp.1
  subst ht
  exact ow_put (q := 1) (k := 2) (T := T_1) X rfl (by omega) (by decide) in_1 ty_1 ty_1_ok nm_1 rfl rfl rfl hl rfl rfl (mx_set_f hp.2) hW hdec kk
theorem ox_ps (X : ox_C p s m args c cc nL own D g ad B) (hl : Cond.fieldLink own idx "SubscriberLines$Server" "count" "I" ∈ al) : rx_OK p l e R s m args below meth c cc nL ad (mx_W D g ad B s.heap) mx_cs (.putfield idx) 3 2 kps := by
  intro pc mem H locs lA av rest Q ha hp hW hsz hrest hdec kk
  obtain ⟨t, v, rfl⟩ := k_RI_inv hp
  have ht : t = 66 := mx_kl_seven hp.1
  subst ht
  exact ow_put (q := 7) (k := 5) (T := T_7) X rfl (by omega) (by decide) in_7 ty_7 ty_7_ok nm_7 rfl rfl rfl hl rfl rfl (mx_set_s hp.2) hW hdec kk
theorem ox_gn (X : ox_C p s m args c cc nL own D g ad B) (hl : Cond.fieldLink own idx "SubscriberLines$Node" "silence" "I" ∈ al) : rx_OK p l e R s m args below meth c cc nL ad (mx_W D g ad B s.heap) mx_cs (.getfield idx) 3 1 kgn := by
  intro pc mem H locs lA av rest Q ha hp hW hsz hrest hdec kk
  obtain ⟨t, rfl⟩ := k_R_inv hp
  rcases hp with hp | hp | hp
  · exact ow_get (q := 4) (k := 0) (T := T_4) X rfl (by omega) (by decide) in_4 rfl hl rfl hp (v := .int (mem.1.1 t 0)) rfl hW hdec (kk H locs hW)
  · exact ow_get (q := 5) (k := 0) (T := T_5) X rfl (by omega) (by decide) in_5 rfl hl rfl hp (v := .int (mem.1.1 t 0)) rfl hW hdec (kk H locs hW)
  · exact ow_get (q := 7) (k := 0) (T := T_7) X rfl (by omega) (by decide) in_7 rfl hl rfl hp (v := .int (mem.1.1 t 0)) rfl hW hdec (kk H locs hW)
theorem ox_pn (X : ox_C p s m args c cc nL own D g ad B) (hl : Cond.fieldLink own idx "SubscriberLines$Node" "silence" "I" ∈ al) : rx_OK p l e R s m args below meth c cc nL ad (mx_W D g ad B s.heap) mx_cs (.putfield idx) 3 2 kpn := by
  intro pc mem H locs lA av rest Q ha hp hW hsz hrest hdec kk
  obtain ⟨t, v, rfl⟩ := k_RI_inv hp
  rcases hp with hp | hp | hp
  · exact ow_put (q := 4) (k := 0) (T := T_4) X rfl (by omega) (by decide) in_4 ty_4 ty_4_ok nm_4 rfl rfl rfl hl rfl hp (mx_set_i hp (by omega) rfl) hW hdec kk
  · exact ow_put (q := 5) (k := 0) (T := T_5) X rfl (by omega) (by decide) in_5 ty_5 ty_5_ok nm_5 rfl rfl rfl hl rfl hp (mx_set_i hp (by omega) rfl) hW hdec kk
  · exact ow_put (q := 7) (k := 0) (T := T_7) X rfl (by omega) (by decide) in_7 ty_7 ty_7_ok nm_7 rfl rfl rfl hl rfl hp (mx_set_i hp (by omega) rfl) hW hdec kk
end OX
end
section
theorem mt_ini : Cond.initialized "java/lang/Math" ∈ al := al_at 10 (by decide +kernel) rfl
theorem mt_min_st : Cond.static Lib.Math.min.name ∈ al := al_at 247 (by decide +kernel) rfl
theorem mt_max_st : Cond.static Lib.Math.max.name ∈ al := al_at 250 (by decide +kernel) rfl
theorem mt_min_code : Cond.code Lib.Math.min.name Lib.Math.min.code 2 (some .int) ∈ al := al_at 248 (by decide +kernel) rfl
theorem mt_max_code : Cond.code Lib.Math.max.name Lib.Math.max.code 2 (some .int) ∈ al := al_at 251 (by decide +kernel) rfl
theorem mx_lenG_inv {tg src t : Nat} {j : Int32} (h : vp_in j (mx_lenG tg src t)) : 20 ≤ mx_kl t ∧ ¬ mx_kl t = 99 ∧ (mx_ar (mx_kl t)).1 = tg ∧ (mx_ar (mx_kl t)).2.2 = src ∧ vp_in j (mx_ar (mx_kl t)).2.1 := by
  unfold mx_lenG at h
  cases h1 : Nat.blt (mx_kl t) 20 with
  | true =>
    rw [h1, cond_true] at h
    exact absurd (Or.inr (Nat.zero_le _)) h
  | false =>
    rw [h1, cond_false] at h
    cases h2 : (Nat.beq (mx_ar (mx_kl t)).1 tg && Nat.beq (mx_ar (mx_kl t)).2.2 src) with
    | false =>
      rw [h2, cond_false] at h
      exact absurd (Or.inr (Nat.zero_le _)) h
    | true =>
      rw [h2, cond_true] at h
      rw [Bool.and_eq_true] at h2
      refine ⟨Nat.not_lt.mp fun hn => ?_, fun hn => ?_, Nat.eq_of_beq_eq_true h2.1, Nat.eq_of_beq_eq_true h2.2, h⟩
      · rw [mx_blt_t hn] at h1
        cases h1
      · rw [hn] at h
        exact absurd (Or.inr (Nat.zero_le _)) h
theorem mx_len_inv {t : Nat} (h : 0 < mx_len t) : 20 ≤ mx_kl t ∧ ¬ mx_kl t = 99 ∧ mx_len t = (mx_ar (mx_kl t)).2.1 := by
  unfold mx_len at h ⊢
  cases h1 : Nat.blt (mx_kl t) 20 with
  | true => rw [h1, cond_true] at h; omega
  | false =>
    rw [h1, cond_false] at h
    refine ⟨Nat.not_lt.mp fun hn => ?_, fun hn => ?_, rfl⟩
    · rw [mx_blt_t hn] at h1
      cases h1
    · rw [hn] at h
      exact absurd h (by decide)
theorem mx_ar_tag {t : Nat} (h1 : 20 ≤ mx_kl t) (h2 : ¬ mx_kl t = 99) : (mx_ar (mx_kl t)).1 < 6 := by
  have hi := mx_kl_lt (i := t) rfl h2
  have k : ∀ j : Fin 116, 20 ≤ mx_kl j.val → (mx_ar (mx_kl j.val)).1 < 6 := by decide +kernel
  exact k ⟨t, hi⟩ h1
section OA
variable {p : Program} {l : Launch} {e : Env} {R : Room} {s : State} {m : MethodId} {args : Array Value} {below : List Frame} {meth : Method} {c : Code} {cc : ByteArray} {nL : Nat} {ad : Nat → Nat} {D : va_G} {g : Nat → ClassId} {B : Nat} {own : String}
variable {C : String} {T : u_T} {N q k idx : Nat}
theorem oy_gi (X : ox_C p s m args c cc nL own D g ad B) (hk : k < 42) (hd : (mx_ds 9)[k]? = some (6, 0, 0)) (hl : Cond.fieldLink own idx (T_9 k).1 (T_9 k).2.1 (T_9 k).2.2.1 ∈ al) : rx_OK p l e R s m args below meth c cc nL ad (mx_W D g ad B s.heap) mx_cs (.getfield idx) 3 1 (mgi k) := by
  intro pc mem H locs lA av rest Q ha hp hW hsz hrest hdec kk
  obtain ⟨t, rfl⟩ := k_R_inv hp
  exact ow_get (q := 9) X rfl (by omega) hk in_9 hd hl rfl hp (v := .int (mem.2.1 t k)) rfl hW hdec (kk H locs hW)
theorem oy_pi (X : ox_C p s m args c cc nL own D g ad B) (hk : k < 42) (hd : (mx_ds 9)[k]? = some (6, 0, 0)) (hfin : (T_9 k).2.2.2 = false) (hint : ty_9 k = .int) (hl : Cond.fieldLink own idx (T_9 k).1 (T_9 k).2.1 (T_9 k).2.2.1 ∈ al) : rx_OK p l e R s m args below meth c cc nL ad (mx_W D g ad B s.heap) mx_cs (.putfield idx) 3 2 (mpi k) := by
  intro pc mem H locs lA av rest Q ha hp hW hsz hrest hdec kk
  obtain ⟨t, v, rfl⟩ := k_RI_inv hp
  exact ow_put (q := 9) X rfl (by omega) hk in_9 ty_9 ty_9_ok nm_9 hfin hint rfl hl rfl hp (my_set_i hp hd) hW hdec kk
theorem oy_gr {off : Nat} (X : ox_C p s m args c cc nL own D g ad B) (hk : k < 42) (hd : (mx_ds 9)[k]? = some (1, 0, off)) (hl : Cond.fieldLink own idx (T_9 k).1 (T_9 k).2.1 (T_9 k).2.2.1 ∈ al) : rx_OK p l e R s m args below meth c cc nL ad (mx_W D g ad B s.heap) mx_cs (.getfield idx) 3 1 (mgr off) := by
  intro pc mem H locs lA av rest Q ha hp hW hsz hrest hdec kk
  obtain ⟨t, rfl⟩ := k_R_inv hp
  exact ow_get (q := 9) X rfl (by omega) hk in_9 hd hl rfl hp (v := .ref off) (by show Value.ref (ad (t * 0 + off)) = Value.ref (ad off); rw [Nat.mul_zero, Nat.zero_add]) hW hdec (kk H locs hW)
theorem oy_gf (X : ox_C p s m args c cc nL own D g ad B) (hl : Cond.fieldLink own idx "SubscriberLinesModel" "flying" "I" ∈ al) : rx_OK p l e R s m args below meth c cc nL ad (mx_W D g ad B s.heap) mx_cs (.getfield idx) 3 1 mgf := by
  intro pc mem H locs lA av rest Q ha hp hW hsz hrest hdec kk
  obtain ⟨t, rfl⟩ := k_R_inv hp
  exact ow_get (q := 9) (k := 3) (T := T_9) X rfl (by omega) (by decide) in_9 rfl hl rfl hp (v := .int (Int32.ofNat mem.2.2.1.val)) rfl hW hdec (kk H locs hW)
theorem oy_gs (X : ox_C p s m args c cc nL own D g ad B) (hl : Cond.fieldLink own idx "SubscriberLinesModel" "sessions" "I" ∈ al) : rx_OK p l e R s m args below meth c cc nL ad (mx_W D g ad B s.heap) mx_cs (.getfield idx) 3 1 mgs := by
  intro pc mem H locs lA av rest Q ha hp hW hsz hrest hdec kk
  obtain ⟨t, rfl⟩ := k_R_inv hp
  exact ow_get (q := 9) (k := 18) (T := T_9) X rfl (by omega) (by decide) in_9 rfl hl rfl hp (v := .int (Int32.ofNat mem.2.2.2.val)) rfl hW hdec (kk H locs hW)
theorem oy_pf (X : ox_C p s m args c cc nL own D g ad B) (hl : Cond.fieldLink own idx "SubscriberLinesModel" "flying" "I" ∈ al) : rx_OK p l e R s m args below meth c cc nL ad (mx_W D g ad B s.heap) mx_cs (.putfield idx) 3 2 mpf := by
  intro pc mem H locs lA av rest Q ha hp hW hsz hrest hdec kk
  obtain ⟨t, v, rfl⟩ := k_RI_inv hp
  have ht : t = 82 := mx_kl_nine hp.1
  subst ht
  exact ow_put (q := 9) (k := 3) (T := T_9) X rfl (by omega) (by decide) in_9 ty_9 ty_9_ok nm_9 rfl rfl rfl hl rfl rfl (my_set_f hp.2) hW hdec kk
theorem oy_ps (X : ox_C p s m args c cc nL own D g ad B) (hl : Cond.fieldLink own idx "SubscriberLinesModel" "sessions" "I" ∈ al) : rx_OK p l e R s m args below meth c cc nL ad (mx_W D g ad B s.heap) mx_cs (.putfield idx) 3 2 mps := by
  intro pc mem H locs lA av rest Q ha hp hW hsz hrest hdec kk
  obtain ⟨t, v, rfl⟩ := k_RI_inv hp
  have ht : t = 82 := mx_kl_nine hp.1
  subst ht
  exact ow_put (q := 9) (k := 18) (T := T_9) X rfl (by omega) (by decide) in_9 ty_9 ty_9_ok nm_9 rfl rfl rfl hl rfl rfl (my_set_s hp.2) hW hdec kk
/-! arrays -/
theorem ow_arr {x : mx} {t tg src : Nat} (h1 : 20 ≤ mx_kl t) (h2 : ¬ mx_kl t = 99) (h3 : (mx_ar (mx_kl t)).1 = tg) (h4 : (mx_ar (mx_kl t)).2.2 = src) : (mx_ws g ad x)[t]? = some (ad t, .inl (g tg, (mx_ar (mx_kl t)).2.1, mx_as ad x t src)) := by
  rw [mx_ws_ar rfl h1 h2, h3, h4]
theorem ox_ai (X : ox_C p s m args c cc nL own D g ad B) : rx_OK p l e R s m args below meth c cc nL ad (mx_W D g ad B s.heap) mx_cs .iaload 1 2 kai := by
  intro pc mem H locs lA av rest Q ha hp hW hsz hrest hdec kk
  obtain ⟨t, j, rfl⟩ := k_RI_inv hp
  obtain ⟨hx, hb, -, hown, hts, htb, had⟩ := X
  obtain ⟨h1, h2, h3, h4, h5⟩ := mx_lenG_inv hp
  exact va_iald hx hb htb.1 hW.1 t 0 (ow_arr h1 h2 h3 h4) rfl h5 hdec (kk H locs hW)
theorem ox_ab (X : ox_C p s m args c cc nL own D g ad B) : rx_OK p l e R s m args below meth c cc nL ad (mx_W D g ad B s.heap) mx_cs .baload 1 2 kab := by
  intro pc mem H locs lA av rest Q ha hp hW hsz hrest hdec kk
  obtain ⟨t, j, rfl⟩ := k_RI_inv hp
  obtain ⟨hx, hb, -, hown, hts, htb, had⟩ := X
  obtain ⟨h1, h2, h3, h4, h5⟩ := mx_lenG_inv hp
  exact va_zald hx hb htb.1 hW.1 t 1 (ow_arr h1 h2 h3 h4) rfl h5 hdec (kk H locs hW)
theorem oy_ai (X : ox_C p s m args c cc nL own D g ad B) : rx_OK p l e R s m args below meth c cc nL ad (mx_W D g ad B s.heap) mx_cs .iaload 1 2 mai := by
  intro pc mem H locs lA av rest Q ha hp hW hsz hrest hdec kk
  obtain ⟨t, j, rfl⟩ := k_RI_inv hp
  obtain ⟨hx, hb, -, hown, hts, htb, had⟩ := X
  obtain ⟨h1, h2, h3, h4, h5⟩ := mx_lenG_inv hp
  exact va_iald hx hb htb.1 hW.1 t 0 (ow_arr h1 h2 h3 h4) rfl h5 hdec (kk H locs hW)
theorem oy_ab (X : ox_C p s m args c cc nL own D g ad B) : rx_OK p l e R s m args below meth c cc nL ad (mx_W D g ad B s.heap) mx_cs .baload 1 2 mab := by
  intro pc mem H locs lA av rest Q ha hp hW hsz hrest hdec kk
  obtain ⟨t, j, rfl⟩ := k_RI_inv hp
  obtain ⟨hx, hb, -, hown, hts, htb, had⟩ := X
  obtain ⟨h1, h2, h3, h4, h5⟩ := mx_lenG_inv hp
  exact va_zald hx hb htb.1 hW.1 t 1 (ow_arr h1 h2 h3 h4) rfl h5 hdec (kk H locs hW)
theorem ox_pa (X : ox_C p s m args c cc nL own D g ad B) : rx_OK p l e R s m args below meth c cc nL ad (mx_W D g ad B s.heap) mx_cs .iastore 1 3 kpa := by
  intro pc mem H locs lA av rest Q ha hp hW hsz hrest hdec kk
  obtain ⟨t, j, v, rfl⟩ := k_RII_inv hp
  obtain ⟨hx, hb, -, hown, hts, htb, had⟩ := X
  obtain ⟨h1, h2, h3, h4, h5⟩ := mx_lenG_inv hp
  refine va_iast hx hb htb.1 hW.1 (mx_D had mem) hW.2 t 0 (ow_arr h1 h2 h3 h4) rfl h5 hdec (fun H1 locs1 q1 q2 q3 => kk H1 locs1 ⟨?_, q3⟩)
  have := mx_set_a (g := g) (ad := ad) (x := mem) (v := v) (n := j.toNatClampNeg) (rfl : mx_kl t = mx_kl t) h1 h2 h4
  rw [h3] at this
  rw [this] at q1
  exact q1
theorem oy_pa (X : ox_C p s m args c cc nL own D g ad B) : rx_OK p l e R s m args below meth c cc nL ad (mx_W D g ad B s.heap) mx_cs .iastore 1 3 mpa := by
  intro pc mem H locs lA av rest Q ha hp hW hsz hrest hdec kk
  obtain ⟨t, j, v, rfl⟩ := k_RII_inv hp
  obtain ⟨hx, hb, -, hown, hts, htb, had⟩ := X
  obtain ⟨h1, h2, h3, h4, h5⟩ := mx_lenG_inv hp
  refine va_iast hx hb htb.1 hW.1 (mx_D had mem) hW.2 t 0 (ow_arr h1 h2 h3 h4) rfl h5 hdec (fun H1 locs1 q1 q2 q3 => kk H1 locs1 ⟨?_, q3⟩)
  have := my_set_a (g := g) (ad := ad) (x := mem) (v := v) (n := j.toNatClampNeg) (rfl : mx_kl t = mx_kl t) h1 h2 h4
  rw [h3] at this
  rw [this] at q1
  exact q1
theorem ox_pb (X : ox_C p s m args c cc nL own D g ad B) : rx_OK p l e R s m args below meth c cc nL ad (mx_W D g ad B s.heap) mx_cs .bastore 1 3 kpb := by
  intro pc mem H locs lA av rest Q ha hp hW hsz hrest hdec kk
  obtain ⟨t, j, v, rfl⟩ := k_RII_inv hp
  obtain ⟨hx, hb, -, hown, hts, htb, had⟩ := X
  obtain ⟨hp, hv⟩ := hp
  obtain ⟨h1, h2, h3, h4, h5⟩ := mx_lenG_inv hp
  refine va_zast hx hb htb.1 hW.1 (mx_D had mem) hW.2 t 1 (ow_arr h1 h2 h3 h4) rfl h5 hdec (fun H1 locs1 q1 q2 q3 => kk H1 locs1 ⟨?_, q3⟩)
  have hn : vp_nar .boolean v = v := by rw [hv]; rfl
  rw [hn] at q1
  have := mx_set_a (g := g) (ad := ad) (x := mem) (v := v) (n := j.toNatClampNeg) (rfl : mx_kl t = mx_kl t) h1 h2 h4
  rw [h3] at this
  rw [this] at q1
  exact q1
theorem oy_pb (X : ox_C p s m args c cc nL own D g ad B) : rx_OK p l e R s m args below meth c cc nL ad (mx_W D g ad B s.heap) mx_cs .bastore 1 3 mpb := by
  intro pc mem H locs lA av rest Q ha hp hW hsz hrest hdec kk
  obtain ⟨t, j, v, rfl⟩ := k_RII_inv hp
  obtain ⟨hx, hb, -, hown, hts, htb, had⟩ := X
  obtain ⟨hp, hv⟩ := hp
  obtain ⟨h1, h2, h3, h4, h5⟩ := mx_lenG_inv hp
  refine va_zast hx hb htb.1 hW.1 (mx_D had mem) hW.2 t 1 (ow_arr h1 h2 h3 h4) rfl h5 hdec (fun H1 locs1 q1 q2 q3 => kk H1 locs1 ⟨?_, q3⟩)
  have hn : vp_nar .boolean v = v := by rw [hv]; rfl
  rw [hn] at q1
  have := my_set_a (g := g) (ad := ad) (x := mem) (v := v) (n := j.toNatClampNeg) (rfl : mx_kl t = mx_kl t) h1 h2 h4
  rw [h3] at this
  rw [this] at q1
  exact q1
theorem ox_ar (X : ox_C p s m args c cc nL own D g ad B) : rx_OK p l e R s m args below meth c cc nL ad (mx_W D g ad B s.heap) mx_cs .aaload 1 2 kar := by
  intro pc mem H locs lA av rest Q ha hp hW hsz hrest hdec kk
  obtain ⟨t, j, rfl⟩ := k_RI_inv hp
  obtain ⟨hx, hb, -, hown, hts, htb, had⟩ := X
  obtain ⟨h1, h2, h3, h4, h5⟩ := mx_lenG_inv hp
  exact va_aldq hx hb htb.1 hW.1 t 2 (ow_arr h1 h2 h3 h4) rfl h5 hdec (kk H locs hW)
theorem ox_as (X : ox_C p s m args c cc nL own D g ad B) : rx_OK p l e R s m args below meth c cc nL ad (mx_W D g ad B s.heap) mx_cs .aaload 1 2 kas := by
  intro pc mem H locs lA av rest Q ha hp hW hsz hrest hdec kk
  obtain ⟨t, j, rfl⟩ := k_RI_inv hp
  obtain ⟨hx, hb, -, hown, hts, htb, had⟩ := X
  obtain ⟨h1, h2, h3, h4, h5⟩ := mx_lenG_inv hp
  exact va_aldq hx hb htb.1 hW.1 t 3 (ow_arr h1 h2 h3 h4) rfl h5 hdec (kk H locs hW)
theorem ox_au (X : ox_C p s m args c cc nL own D g ad B) : rx_OK p l e R s m args below meth c cc nL ad (mx_W D g ad B s.heap) mx_cs .aaload 1 2 kau := by
  intro pc mem H locs lA av rest Q ha hp hW hsz hrest hdec kk
  obtain ⟨t, j, rfl⟩ := k_RI_inv hp
  obtain ⟨hx, hb, -, hown, hts, htb, had⟩ := X
  obtain ⟨h1, h2, h3, h4, h5⟩ := mx_lenG_inv hp
  exact va_aldq hx hb htb.1 hW.1 t 4 (ow_arr h1 h2 h3 h4) rfl h5 hdec (kk H locs hW)
theorem ox_an (X : ox_C p s m args c cc nL own D g ad B) : rx_OK p l e R s m args below meth c cc nL ad (mx_W D g ad B s.heap) mx_cs .aaload 1 2 kan := by
  intro pc mem H locs lA av rest Q ha hp hW hsz hrest hdec kk
  obtain ⟨t, j, rfl⟩ := k_RI_inv hp
  obtain ⟨hx, hb, -, hown, hts, htb, had⟩ := X
  obtain ⟨h1, h2, h3, h4, h5⟩ := mx_lenG_inv hp
  exact va_aldq hx hb htb.1 hW.1 t 5 (ow_arr h1 h2 h3 h4) rfl h5 hdec (kk H locs hW)
theorem mx_kl_pk {r : Nat} (h1 : 4 ≤ r) (h2 : r < 45) : mx_kl r = 2 := by
  have h := mx_kl_row ⟨r - 4, by omega⟩
  rw [show 4 + (r - 4) = r by omega] at h
  exact h
theorem mx_kl_se {r : Nat} (h1 : 78 ≤ r) (h2 : r < 82) : mx_kl r = 6 := by
  have h := mx_kl_ses ⟨r - 78, by omega⟩
  rw [show 78 + (r - 78) = r by omega] at h
  exact h
theorem ox_pr (X : ox_C p s m args c cc nL own D g ad B) : rx_OK p l e R s m args below meth c cc nL ad (mx_W D g ad B s.heap) mx_cs .aastore 1 3 kpr := by
  intro pc mem H locs lA av rest Q ha hp hW hsz hrest hdec kk
  obtain ⟨t, j, r, rfl⟩ := k_RIR_inv hp
  obtain ⟨hx, hb, -, hown, hts, htb, had⟩ := X
  obtain ⟨hp, hr1, hr2⟩ := hp
  obtain ⟨h1, h2, h3, h4, h5⟩ := mx_lenG_inv hp
  have ht : t = 2 := by
    rcases mx_ar_src t (by omega) with ⟨e1, e2⟩ | ⟨e1, e2⟩ | ⟨e1, e2⟩ | ⟨e1, e2⟩ | ⟨e1, e2⟩ | ⟨e1, e2⟩ | e1 <;> first | exact e2 | (rw [h4] at e1; cases e1) | (have := mx_kl_lt (i := t) rfl h2; omega)
  subst ht
  refine va_astq (r := ("SubscriberLines$Packet", T_2, 9)) hx hb htb.1 hW.1 (mx_D had mem) hW.2 2 2 r 2 (ow_arr (tg := 2) (src := 2) h1 h2 rfl rfl) rfl (mx_ws_ob (mx_kl_pk hr1 hr2) (by omega)) rfl h5 hdec (fun H1 locs1 q1 q2 q3 => kk H1 locs1 ⟨?_, q3⟩)
  have := mx_set_r (g := g) (ad := ad) (x := mem) (n := j.toNatClampNeg) hr1 hr2
  show va_P D mx_cl (mx_ws g ad (mx_pr mem.1 j.toNatClampNeg (Fin.ofNat 41 (r - 4)), mem.2)) H1
  rw [← this]
  exact q1
theorem ox_pq (X : ox_C p s m args c cc nL own D g ad B) : rx_OK p l e R s m args below meth c cc nL ad (mx_W D g ad B s.heap) mx_cs .aastore 1 3 kpq := by
  intro pc mem H locs lA av rest Q ha hp hW hsz hrest hdec kk
  obtain ⟨t, j, r, rfl⟩ := k_RIR_inv hp
  obtain ⟨hx, hb, -, hown, hts, htb, had⟩ := X
  obtain ⟨hp, hr1, hr2⟩ := hp
  obtain ⟨h1, h2, h3, h4, h5⟩ := mx_lenG_inv hp
  have ht : t = 67 := by
    rcases mx_ar_src t (by omega) with ⟨e1, e2⟩ | ⟨e1, e2⟩ | ⟨e1, e2⟩ | ⟨e1, e2⟩ | ⟨e1, e2⟩ | ⟨e1, e2⟩ | e1 <;> first | exact e2 | (rw [h4] at e1; cases e1) | (have := mx_kl_lt (i := t) rfl h2; omega)
  subst ht
  refine va_astq (r := ("SubscriberLines$Session", T_6, 5)) hx hb htb.1 hW.1 (mx_D had mem) hW.2 67 3 r 6 (ow_arr (tg := 3) (src := 3) h1 h2 rfl rfl) rfl (mx_ws_ob (mx_kl_se hr1 hr2) (by omega)) rfl h5 hdec (fun H1 locs1 q1 q2 q3 => kk H1 locs1 ⟨?_, q3⟩)
  have := mx_set_q (g := g) (ad := ad) (x := mem) (n := j.toNatClampNeg) hr1 hr2
  show va_P D mx_cl (mx_ws g ad (mx_ps mem.1 j.toNatClampNeg (Fin.ofNat 4 (r - 78)), mem.2)) H1
  rw [← this]
  exact q1
theorem ox_al (X : ox_C p s m args c cc nL own D g ad B) : rx_OK p l e R s m args below meth c cc nL ad (mx_W D g ad B s.heap) mx_cs .arraylength 1 1 kal := by
  intro pc mem H locs lA av rest Q ha hp hW hsz hrest hdec kk
  obtain ⟨t, rfl⟩ := k_R_inv hp
  obtain ⟨hx, hb, -, hown, hts, htb, had⟩ := X
  obtain ⟨h1, h2, h3⟩ := mx_len_inv hp
  have htg := mx_ar_tag h1 h2
  have hty : ∃ ty, (mx_ty g)[(mx_ar (mx_kl t)).1]? = some (g (mx_ar (mx_kl t)).1, ty) := by
    generalize (mx_ar (mx_kl t)).1 = z at htg
    match z, htg with
    | 0, _ => exact ⟨_, rfl⟩
    | 1, _ => exact ⟨_, rfl⟩
    | 2, _ => exact ⟨_, rfl⟩
    | 3, _ => exact ⟨_, rfl⟩
    | 4, _ => exact ⟨_, rfl⟩
    | 5, _ => exact ⟨_, rfl⟩
  obtain ⟨ty, hty⟩ := hty
  exact va_alen hx hb htb.1 hW.1 t (mx_ar (mx_kl t)).1 (ow_arr h1 h2 rfl rfl) hty (v := Int32.ofNat (mx_len t)) (by rw [h3]) hdec (kk H locs hW)
theorem rx_cat_sum (ad : Nat → Nat) : ∀ rest : List Value, ((rest.map (rx_tr ad)).map fun v => v.category).sum = rest.length := by
  intro rest
  induction rest with
  | nil => rfl
  | cons v r ih => simp only [List.map_cons, List.sum_cons, rx_tr_cat, ih, List.length_cons]; omega
theorem ox_min (X : ox_C p s m args c cc nL own D g ad B) (hl : Cond.methodLink own idx Lib.Math.min.name ∈ al) (hfr : 1 ≤ R.frames) (hlo : 21 ≤ R.locals) : rx_OK p l e R s m args below meth c cc nL ad (mx_W D g ad B s.heap) mx_cs (.invokestatic idx) 3 2 kmin := by
  intro pc mem H locs lA av rest Q ha hp hW hsz hrest hdec kk
  obtain ⟨a, b, rfl⟩ := k_II_inv hp
  obtain ⟨hx, hb, hml, hown, hts, htb, had⟩ := X
  exact va_mmin (rest := rest.map (rx_tr ad)) hx hb (hml.trans hsz.symm) hown (hts _ hl) (hts _ mt_min_st) (hts _ mt_ini) (hts _ mt_min_code) hfr (by rw [rx_cat_sum]; omega) (Nat.zero_le _) (Nat.zero_le _) hdec (kk H locs hW)
theorem ox_max (X : ox_C p s m args c cc nL own D g ad B) (hl : Cond.methodLink own idx Lib.Math.max.name ∈ al) (hfr : 1 ≤ R.frames) (hlo : 21 ≤ R.locals) : rx_OK p l e R s m args below meth c cc nL ad (mx_W D g ad B s.heap) mx_cs (.invokestatic idx) 3 2 kmax := by
  intro pc mem H locs lA av rest Q ha hp hW hsz hrest hdec kk
  obtain ⟨a, b, rfl⟩ := k_II_inv hp
  obtain ⟨hx, hb, hml, hown, hts, htb, had⟩ := X
  exact va_mmax (rest := rest.map (rx_tr ad)) hx hb (hml.trans hsz.symm) hown (hts _ hl) (hts _ mt_max_st) (hts _ mt_ini) (hts _ mt_max_code) hfr (by rw [rx_cat_sum]; omega) (Nat.zero_le _) (Nat.zero_le _) hdec (kk H locs hW)
end OA
end
section
section OCa
variable {p : Program} {l : Launch} {e : Env} {R : Room} {s : State} {m : MethodId} {args : Array Value} {below : List Frame} {meth : Method} {c : Code} {cc : ByteArray} {nL : Nat} {ad : Nat → Nat} {D : va_G} {g : Nat → ClassId} {B : Nat} {own : String}
variable {y : MethodName} {bytes : ByteArray} {maxL : Nat} {ret : Option FieldType} {fr lo : Nat} {K : rx_K mx}
theorem rx_blind (av : List Value) (x : mx) : FrameBlind (rx_Pc D g ad av x) := fun _ _ _ _ h => h
theorem ow_run {mem : mx} {r : rx_R mx} {H : Heap} {locs : List Loc} {lA : Array Slot} {pc : Nat} {st0 rest : List Value} {a : Array Value} {Q : State → Prop}
    (hr : va_Run p l e R s m args below meth c H locs 0 0 0 0 (F0 m pc lA st0) (rest.map (rx_tr ad)) (rx_Qc D g ad B r a) (fun q => B ≤ q)) (hW : mx_W D g ad B s.heap mem H locs)
    (kk : ∀ (H' : Heap) (locs' : List Loc), mx_W D g ad B s.heap r.1 H' locs' → W p l e R s m args below meth c H' locs' 0 0 Q (F0 m (pc + 3) lA ((r.2.toList ++ rest).map (rx_tr ad)))) : W p l e R s m args below meth c H locs 0 0 Q (F0 m pc lA st0) := by
  intro T hT X
  obtain ⟨v, st₀, t, T', L, h0, X', hL, e1, e2, ⟨hv, hP, hz, hk⟩, st⟩ := hr T hT X
  have hv : v = r.2.map (rx_tr ad) := Outcome.returned.inj hv
  subst hv
  rw [h0] at hz hk
  obtain ⟨hP0, hS⟩ := hW
  obtain ⟨t2, a1, b1⟩ := kk T'.heap (locs ++ L) ⟨by rw [e1]; exact hP, Nat.le_trans hS.1 (by rw [e1]; exact hz), fun q h1 h2 => by rw [e1, hk q (Nat.lt_of_lt_of_le h1 hS.1) h2]; exact hS.2.1 q h1 h2, fun q hq => by
      rcases List.mem_append.mp hq with h | h
      · exact hS.2.2 q h
      · exact hL q h⟩ T' rfl X'
  refine ⟨t2, st t2 ?_, b1⟩
  have hs : (r.2.map (rx_tr ad)).toList ++ rest.map (rx_tr ad) = (r.2.toList ++ rest).map (rx_tr ad) := by cases r.2 <;> rfl
  rw [hs]
  exact a1
theorem ox_callV {idx n q N : Nat} {T : u_T} (X : ox_C p s m args c cc nL own D g ad B) (hV : rx_V l D g ad B y bytes maxL ret fr lo K) (hself : ∀ (av : List Value) (x : mx), (K av x).1 → ∃ (t : Nat) (r : List Value), av = .ref t :: r ∧ mx_kl t = q) (hq : q < 20) (hcl : mx_cl[q]? = some (y.cls, T, N))
    (hlink : Cond.methodLink own idx y ∈ al) (hinst : Cond.instanceMethod y ∈ al) (hsel : Cond.selects y.cls y y ∈ al) (hini : Cond.initialized y.cls ∈ al) (hcode : Cond.code y bytes maxL ret ∈ al)
    (hd : y.cls ≠ "java/lang/invoke/MethodHandle" ∧ y.cls ≠ "java/lang/invoke/VarHandle" ∧ (parseMethodDescriptor y.desc).map (fun d => d.parameters.length) = some n) (hR : fr + 1 ≤ R.frames ∧ 8 + (maxL + 11) + lo ≤ R.locals) :
    rx_OK p l e R s m args below meth c cc nL ad (mx_W D g ad B s.heap) mx_cs (.invokevirtual idx) 3 (n + 1) K := by
  intro pc mem H locs lA av rest Q ha hp hW hsz hrest hdec kk
  obtain ⟨t, r, rfl, ht⟩ := hself av mem hp
  obtain ⟨hx, hb, hml, hown, hts, htb, had⟩ := X
  have hG : GoodIn al (wsV own idx y.cls y (Cond.code y bytes maxL ret :: al)) := al_good (by
    intro w hw
    simp only [wsV, List.cons_append, List.nil_append, List.mem_cons] at hw
    rcases hw with rfl | rfl | rfl | rfl | rfl | hw
    · exact hlink
    · exact hinst
    · exact hsel
    · exact hini
    · exact hcode
    · exact hw)
  have cw := cwV (R := R) (rm := { frames := fr, cells := 0, slots := 0, locals := lo }) (mc := 0) (ms := 0) n hts hG rfl rfl rfl ⟨rfl, hd⟩ hR
  refine ow_run (va_runV (As := r.map (rx_tr ad)) ⟨hx, hb, hml, hown, hts⟩ (hV (.ref t :: r) mem hp) cw ⟨rx_blind _ _, va_recv htb.1 hW.1 hcl (mx_ws_ob ht hq), fun U hU hw => ⟨rfl, tb_moved hw htb, by rw [hU]; exact hW.1⟩⟩ rfl ?_ hsz ?_ ?_ hdec ⟨Nat.zero_le _, Nat.zero_le _⟩) hW kk
  · simp only [List.length_cons] at ha
    rw [List.length_map]
    omega
  · show ((Value.ref t :: r).reverse ++ rest).map (rx_tr ad) = (r.map (rx_tr ad)).reverse ++ Value.ref (ad t) :: rest.map (rx_tr ad)
    simp [rx_tr]
  · exact lv_room (by rw [rx_cat_sum]; exact hrest)
theorem ox_callS {idx n : Nat} (X : ox_C p s m args c cc nL own D g ad B) (hV : rx_V l D g ad B y bytes maxL ret fr lo K) (hlink : Cond.methodLink own idx y ∈ al) (hstat : Cond.static y ∈ al) (hini : Cond.initialized own ∈ al) (hcode : Cond.code y bytes maxL ret ∈ al)
    (hd : y.cls = own ∧ y.cls ≠ "java/lang/invoke/MethodHandle" ∧ y.cls ≠ "java/lang/invoke/VarHandle" ∧ (parseMethodDescriptor y.desc).map (fun d => d.parameters.length) = some n) (hR : fr + 1 ≤ R.frames ∧ 8 + (maxL + 11) + lo ≤ R.locals) :
    rx_OK p l e R s m args below meth c cc nL ad (mx_W D g ad B s.heap) mx_cs (.invokestatic idx) 3 n K := by
  intro pc mem H locs lA av rest Q ha hp hW hsz hrest hdec kk
  obtain ⟨hx, hb, hml, hown, hts, htb, had⟩ := X
  have hG : GoodIn al (wsS own idx y (Cond.code y bytes maxL ret :: al)) := al_good (by
    intro w hw
    simp only [wsS, List.cons_append, List.nil_append, List.mem_cons] at hw
    rcases hw with rfl | rfl | rfl | rfl | hw
    · exact hlink
    · exact hstat
    · exact hini
    · exact hcode
    · exact hw)
  have cw := cwS (R := R) (rm := { frames := fr, cells := 0, slots := 0, locals := lo }) (mc := 0) (ms := 0) n hts hG rfl rfl rfl hd hR
  refine ow_run (va_runS (As := av.map (rx_tr ad)) ⟨hx, hb, hml, hown, hts⟩ (hV av mem hp) cw ⟨rx_blind _ _, fun U hU hw => ⟨rfl, tb_moved hw htb, by rw [hU]; exact hW.1⟩⟩ rfl ?_ hsz ?_ ?_ hdec ⟨Nat.zero_le _, Nat.zero_le _⟩) hW kk
  · rw [List.length_map]
    exact ha
  · show (av.reverse ++ rest).map (rx_tr ad) = (av.map (rx_tr ad)).reverse ++ rest.map (rx_tr ad)
    rw [List.map_append, List.map_reverse]
  · exact lv_room (by rw [rx_cat_sum]; exact hrest)
/-- a call of one of Node's abstract methods, on an object whose class is known -/
theorem ow_callA {idx n q N t pc : Nat} {T : u_T} {xm : MethodName} {mem : mx} {H : Heap} {locs : List Loc} {lA : Array Slot} {r rest : List Value} {Q : State → Prop} (X : ox_C p s m args c cc nL own D g ad B) (hV : rx_V l D g ad B y bytes maxL ret fr lo K) (hp : (K (.ref t :: r) mem).1) (ht : mx_kl t = q) (hq : q < 20) (hcl : mx_cl[q]? = some (y.cls, T, N))
    (hlink : Cond.methodLink own idx xm ∈ al) (hsame : Cond.sameMethod xm.cls "SubscriberLines$Node" xm.name xm.desc ∈ al) (hsel : Cond.selects y.cls xm y ∈ al) (hinst : Cond.instanceMethod y ∈ al) (hini : Cond.initialized y.cls ∈ al) (hcode : Cond.code y bytes maxL ret ∈ al) (hz : va_Nw (.declares ⟨"SubscriberLines$Node", xm.name, xm.desc⟩) s)
    (hd : (parseMethodDescriptor xm.desc).map (fun d => d.parameters.length) = some n) (hR : fr + 1 ≤ R.frames ∧ 8 + (maxL + 11) + lo ≤ R.locals) (hW : mx_W D g ad B s.heap mem H locs) (hsz : lA.size = nL) (hlen : r.length = n) (hrest : rest.length ≤ 8) (hdec : decode cc pc = .ok (.invokevirtual idx, 3))
    (kk : ∀ (H' : Heap) (locs' : List Loc), mx_W D g ad B s.heap (K (.ref t :: r) mem).2.1 H' locs' → W p l e R s m args below meth c H' locs' 0 0 Q (F0 m (pc + 3) lA (((K (.ref t :: r) mem).2.2.toList ++ rest).map (rx_tr ad)))) :
    W p l e R s m args below meth c H locs 0 0 Q (F0 m pc lA (((Value.ref t :: r).reverse ++ rest).map (rx_tr ad))) := by
  obtain ⟨hx, hb, hml, hown, hts, htb, had⟩ := X
  have hG : GoodIn al (va_wsU own idx y.cls "SubscriberLines$Node" xm y (Cond.code y bytes maxL ret :: al)) := al_good (by
    intro w hw
    simp only [va_wsU, List.cons_append, List.nil_append, List.mem_cons] at hw
    rcases hw with rfl | rfl | rfl | rfl | rfl | rfl | hw
    · exact hlink
    · exact hsame
    · exact hsel
    · exact hinst
    · exact hini
    · exact hcode
    · exact hw)
  have cw := va_cwA (R := R) (rm := { frames := fr, cells := 0, slots := 0, locals := lo }) (mc := 0) (ms := 0) n hts hG rfl rfl rfl hz ⟨by decide, by decide, hd⟩ hR
  refine ow_run (va_runU (As := r.map (rx_tr ad)) ⟨hx, hb, hml, hown, hts⟩ (hV (.ref t :: r) mem hp) cw ⟨rx_blind _ _, va_recv htb.1 hW.1 hcl (mx_ws_ob ht hq), fun U hU hw => ⟨rfl, tb_moved hw htb, by rw [hU]; exact hW.1⟩⟩ rfl ?_ hsz ?_ ?_ hdec ⟨Nat.zero_le _, Nat.zero_le _⟩) hW kk
  · rw [List.length_map]
    exact hlen
  · show ((Value.ref t :: r).reverse ++ rest).map (rx_tr ad) = (r.map (rx_tr ad)).reverse ++ Value.ref (ad t) :: rest.map (rx_tr ad)
    simp [rx_tr]
  · exact lv_room (by rw [rx_cat_sum]; exact hrest)
end OCa
end
section
def pk_bear (c : mx_C) (t : Nat) (a1 : Int32) (a2 : Int32) (a3 : Int32) : mx_C :=
  let c1 := mx_pi c t 3 a1
  let c2 := mx_pi c1 t 4 a2
  let c3 := mx_pi c2 t 5 a3
  c3
def K_pk_bear : rx_K mx := k_RIII (fun a0 a1 a2 a3 c m => (mx_kl a0 = 2, (pk_bear c a0 a1 a2 a3, m), none))
def L_pk_bear : List (rx_E mx) := [
  (0, .aload_n 0, 1, 0, 0, 0, [], kno),
  (1, .iload_n 1, 1, 0, 1, 0, [], kno),
  (2, .putfield 7, 3, 7, 2, 0, [], kpi 2 3),
  (5, .aload_n 0, 1, 0, 0, 0, [], kno),
  (6, .iload_n 2, 1, 0, 2, 0, [], kno),
  (7, .putfield 13, 3, 7, 2, 0, [], kpi 2 4),
  (10, .aload_n 0, 1, 0, 0, 0, [], kno),
  (11, .iload_n 3, 1, 0, 3, 0, [], kno),
  (12, .putfield 16, 3, 7, 2, 0, [], kpi 2 5),
  (15, .return_, 1, 6, 0, 0, [], kno)]
theorem E_pk_bear (c : mx_C) (m : mx_M) (t : Nat) (a1 : Int32) (a2 : Int32) (a3 : Int32)  : rx_ev L_pk_bear [] 12 L_pk_bear (c, m) [some (.ref t), some (.int a1), some (.int a2), some (.int a3)] [] = rw_v m (pk_bear c t a1 a2 a3) :=
  rfl
theorem S_pk_bear (c : mx_C) (m : mx_M) (t : Nat) (a1 : Int32) (a2 : Int32) (a3 : Int32) (ht : mx_kl t = 2) : rx_sf L_pk_bear [] 12 L_pk_bear (c, m) [some (.ref t), some (.int a1), some (.int a2), some (.int a3)] [] :=
  And.intro ht (And.intro ht (And.intro ht (trivial)))

theorem og_pk_7_p {p : Program} {l : Launch} {e : Env} {R : Room} {s : State} {m : MethodId} {args : Array Value} {below : List Frame} {meth : Method} {c : Code} {cc : ByteArray} {nL : Nat} {ad : Nat → Nat} {D : va_G} {g : Nat → ClassId} {B : Nat} (X : ox_C p s m args c cc nL "SubscriberLines$Packet" D g ad B) : rx_OK p l e R s m args below meth c cc nL ad (mx_W D g ad B s.heap) mx_cs (.putfield 7) 3 2 (kpi 2 3) := ox_pi (T := T_2) X rfl (by decide) (by decide) in_2 rfl ty_2 ty_2_ok nm_2 rfl rfl rfl (al_at 46 (by decide +kernel) rfl)
theorem og_pk_13_p {p : Program} {l : Launch} {e : Env} {R : Room} {s : State} {m : MethodId} {args : Array Value} {below : List Frame} {meth : Method} {c : Code} {cc : ByteArray} {nL : Nat} {ad : Nat → Nat} {D : va_G} {g : Nat → ClassId} {B : Nat} (X : ox_C p s m args c cc nL "SubscriberLines$Packet" D g ad B) : rx_OK p l e R s m args below meth c cc nL ad (mx_W D g ad B s.heap) mx_cs (.putfield 13) 3 2 (kpi 2 4) := ox_pi (T := T_2) X rfl (by decide) (by decide) in_2 rfl ty_2 ty_2_ok nm_2 rfl rfl rfl (al_at 51 (by decide +kernel) rfl)
theorem og_pk_16_p {p : Program} {l : Launch} {e : Env} {R : Room} {s : State} {m : MethodId} {args : Array Value} {below : List Frame} {meth : Method} {c : Code} {cc : ByteArray} {nL : Nat} {ad : Nat → Nat} {D : va_G} {g : Nat → ClassId} {B : Nat} (X : ox_C p s m args c cc nL "SubscriberLines$Packet" D g ad B) : rx_OK p l e R s m args below meth c cc nL ad (mx_W D g ad B s.heap) mx_cs (.putfield 16) 3 2 (kpi 2 5) := ox_pi (T := T_2) X rfl (by decide) (by decide) in_2 rfl ty_2 ty_2_ok nm_2 rfl rfl rfl (al_at 56 (by decide +kernel) rfl)
theorem ok_pk_bear : rx_okF prog_7_method_2_code 4 none L_pk_bear 0 L_pk_bear = true := by decide +kernel
theorem V_pk_bear {l : Launch} {D : va_G} {g : Nat → ClassId} {ad : Nat → Nat} {B : Nat} (had : mx_A ad B) : rx_V l D g ad B ⟨"SubscriberLines$Packet", "bear", "(III)V"⟩ prog_7_method_2_code 4 none 0 0 K_pk_bear := by
  intro av x hp
  obtain ⟨a0, a1, a2, a3, rfl⟩ := k_RIII_inv hp
  have hp : mx_kl a0 = 2 := hp
  exact rx_met (k := 0) had (by decide) (Nat.le_of_ble_eq_true rfl) ok_pk_bear rfl rfl 12 (fun p e s m args below meth c X => And.intro (og_pk_7_p X) (And.intro (og_pk_13_p X) (And.intro (og_pk_16_p X) (trivial)))) (S_pk_bear x.1 x.2 a0 a1 a2 a3 hp) (E_pk_bear x.1 x.2 a0 a1 a2 a3)
def pk_number (c : mx_C) (t : Nat) (a1 : Int32) (a2 : Int32) (a3 : Int32) : mx_C :=
  let c1 := mx_pi c t 6 a1
  let c2 := mx_pi c1 t 7 a2
  let c3 := mx_pi c2 t 8 a3
  c3
def K_pk_number : rx_K mx := k_RIII (fun a0 a1 a2 a3 c m => (mx_kl a0 = 2, (pk_number c a0 a1 a2 a3, m), none))
def L_pk_number : List (rx_E mx) := [
  (0, .aload_n 0, 1, 0, 0, 0, [], kno),
  (1, .iload_n 1, 1, 0, 1, 0, [], kno),
  (2, .putfield 19, 3, 7, 2, 0, [], kpi 2 6),
  (5, .aload_n 0, 1, 0, 0, 0, [], kno),
  (6, .iload_n 2, 1, 0, 2, 0, [], kno),
  (7, .putfield 22, 3, 7, 2, 0, [], kpi 2 7),
  (10, .aload_n 0, 1, 0, 0, 0, [], kno),
  (11, .iload_n 3, 1, 0, 3, 0, [], kno),
  (12, .putfield 25, 3, 7, 2, 0, [], kpi 2 8),
  (15, .return_, 1, 6, 0, 0, [], kno)]
theorem E_pk_number (c : mx_C) (m : mx_M) (t : Nat) (a1 : Int32) (a2 : Int32) (a3 : Int32)  : rx_ev L_pk_number [] 12 L_pk_number (c, m) [some (.ref t), some (.int a1), some (.int a2), some (.int a3)] [] = rw_v m (pk_number c t a1 a2 a3) :=
  rfl
theorem S_pk_number (c : mx_C) (m : mx_M) (t : Nat) (a1 : Int32) (a2 : Int32) (a3 : Int32) (ht : mx_kl t = 2) : rx_sf L_pk_number [] 12 L_pk_number (c, m) [some (.ref t), some (.int a1), some (.int a2), some (.int a3)] [] :=
  And.intro ht (And.intro ht (And.intro ht (trivial)))

theorem og_pk_19_p {p : Program} {l : Launch} {e : Env} {R : Room} {s : State} {m : MethodId} {args : Array Value} {below : List Frame} {meth : Method} {c : Code} {cc : ByteArray} {nL : Nat} {ad : Nat → Nat} {D : va_G} {g : Nat → ClassId} {B : Nat} (X : ox_C p s m args c cc nL "SubscriberLines$Packet" D g ad B) : rx_OK p l e R s m args below meth c cc nL ad (mx_W D g ad B s.heap) mx_cs (.putfield 19) 3 2 (kpi 2 6) := ox_pi (T := T_2) X rfl (by decide) (by decide) in_2 rfl ty_2 ty_2_ok nm_2 rfl rfl rfl (al_at 61 (by decide +kernel) rfl)
theorem og_pk_22_p {p : Program} {l : Launch} {e : Env} {R : Room} {s : State} {m : MethodId} {args : Array Value} {below : List Frame} {meth : Method} {c : Code} {cc : ByteArray} {nL : Nat} {ad : Nat → Nat} {D : va_G} {g : Nat → ClassId} {B : Nat} (X : ox_C p s m args c cc nL "SubscriberLines$Packet" D g ad B) : rx_OK p l e R s m args below meth c cc nL ad (mx_W D g ad B s.heap) mx_cs (.putfield 22) 3 2 (kpi 2 7) := ox_pi (T := T_2) X rfl (by decide) (by decide) in_2 rfl ty_2 ty_2_ok nm_2 rfl rfl rfl (al_at 65 (by decide +kernel) rfl)
theorem og_pk_25_p {p : Program} {l : Launch} {e : Env} {R : Room} {s : State} {m : MethodId} {args : Array Value} {below : List Frame} {meth : Method} {c : Code} {cc : ByteArray} {nL : Nat} {ad : Nat → Nat} {D : va_G} {g : Nat → ClassId} {B : Nat} (X : ox_C p s m args c cc nL "SubscriberLines$Packet" D g ad B) : rx_OK p l e R s m args below meth c cc nL ad (mx_W D g ad B s.heap) mx_cs (.putfield 25) 3 2 (kpi 2 8) := ox_pi (T := T_2) X rfl (by decide) (by decide) in_2 rfl ty_2 ty_2_ok nm_2 rfl rfl rfl (al_at 68 (by decide +kernel) rfl)
theorem ok_pk_number : rx_okF prog_7_method_3_code 4 none L_pk_number 0 L_pk_number = true := by decide +kernel
theorem V_pk_number {l : Launch} {D : va_G} {g : Nat → ClassId} {ad : Nat → Nat} {B : Nat} (had : mx_A ad B) : rx_V l D g ad B ⟨"SubscriberLines$Packet", "number", "(III)V"⟩ prog_7_method_3_code 4 none 0 0 K_pk_number := by
  intro av x hp
  obtain ⟨a0, a1, a2, a3, rfl⟩ := k_RIII_inv hp
  have hp : mx_kl a0 = 2 := hp
  exact rx_met (k := 0) had (by decide) (Nat.le_of_ble_eq_true rfl) ok_pk_number rfl rfl 12 (fun p e s m args below meth c X => And.intro (og_pk_19_p X) (And.intro (og_pk_22_p X) (And.intro (og_pk_25_p X) (trivial)))) (S_pk_number x.1 x.2 a0 a1 a2 a3 hp) (E_pk_number x.1 x.2 a0 a1 a2 a3)
def pk_tell (c : mx_C) (t : Nat) (a1 : Int32) : Int32 :=
  if a1 = 0 then
    (c.1 t 0)
  else
    if a1 = 1 then
      (c.1 t 1)
    else
      if a1 = 2 then
        (c.1 t 2)
      else
        if a1 = 3 then
          (c.1 t 3)
        else
          if a1 = 4 then
            (c.1 t 4)
          else
            if a1 = 5 then
              (c.1 t 5)
            else
              if a1 = 6 then
                (c.1 t 6)
              else
                if a1 = 7 then
                  (c.1 t 7)
                else
                  if a1 = 8 then
                    (c.1 t 8)
                  else
                    0
def K_pk_tell : rx_K mx := k_RI (fun a0 a1 c m => (mx_kl a0 = 2, (c, m), some (.int (pk_tell c a0 a1))))
def L_pk_tell : List (rx_E mx) := [
  (0, .iload_n 1, 1, 0, 1, 0, [], kno),
  (1, .tableswitch 96 0 8 #[51, 56, 61, 66, 71, 76, 81, 86, 91], 51, 4, 29, 0, [(0, 2), (1, 5), (2, 8), (3, 11), (4, 14), (5, 17), (6, 20), (7, 23), (8, 26)], kno),
  (52, .aload_n 0, 1, 0, 0, 0, [], kno),
  (53, .getfield 28, 3, 7, 1, 0, [], kgi 2 0),
  (56, .ireturn, 1, 5, 0, 0, [], kno),
  (57, .aload_n 0, 1, 0, 0, 0, [], kno),
  (58, .getfield 31, 3, 7, 1, 0, [], kgi 2 1),
  (61, .ireturn, 1, 5, 0, 0, [], kno),
  (62, .aload_n 0, 1, 0, 0, 0, [], kno),
  (63, .getfield 34, 3, 7, 1, 0, [], kgi 2 2),
  (66, .ireturn, 1, 5, 0, 0, [], kno),
  (67, .aload_n 0, 1, 0, 0, 0, [], kno),
  (68, .getfield 7, 3, 7, 1, 0, [], kgi 2 3),
  (71, .ireturn, 1, 5, 0, 0, [], kno),
  (72, .aload_n 0, 1, 0, 0, 0, [], kno),
  (73, .getfield 13, 3, 7, 1, 0, [], kgi 2 4),
  (76, .ireturn, 1, 5, 0, 0, [], kno),
  (77, .aload_n 0, 1, 0, 0, 0, [], kno),
  (78, .getfield 16, 3, 7, 1, 0, [], kgi 2 5),
  (81, .ireturn, 1, 5, 0, 0, [], kno),
  (82, .aload_n 0, 1, 0, 0, 0, [], kno),
  (83, .getfield 19, 3, 7, 1, 0, [], kgi 2 6),
  (86, .ireturn, 1, 5, 0, 0, [], kno),
  (87, .aload_n 0, 1, 0, 0, 0, [], kno),
  (88, .getfield 22, 3, 7, 1, 0, [], kgi 2 7),
  (91, .ireturn, 1, 5, 0, 0, [], kno),
  (92, .aload_n 0, 1, 0, 0, 0, [], kno),
  (93, .getfield 25, 3, 7, 1, 0, [], kgi 2 8),
  (96, .ireturn, 1, 5, 0, 0, [], kno),
  (97, .iconst 0, 1, 0, 0, 0, [], kno),
  (98, .ireturn, 1, 5, 0, 0, [], kno)]
theorem E_pk_tell (c : mx_C) (m : mx_M) (t : Nat) (a1 : Int32)  : rx_ev L_pk_tell [] 33 L_pk_tell (c, m) [some (.ref t), some (.int a1)] [] = rw_p c m (pk_tell c t a1) :=
  rx_ite2 (f := rw_p c m) (fun _ => rfl) (fun _ => rx_ite2 (f := rw_p c m) (fun _ => rfl) (fun _ => rx_ite2 (f := rw_p c m) (fun _ => rfl) (fun _ => rx_ite2 (f := rw_p c m) (fun _ => rfl) (fun _ => rx_ite2 (f := rw_p c m) (fun _ => rfl) (fun _ => rx_ite2 (f := rw_p c m) (fun _ => rfl) (fun _ => rx_ite2 (f := rw_p c m) (fun _ => rfl) (fun _ => rx_ite2 (f := rw_p c m) (fun _ => rfl) (fun _ => rx_ite2 (f := rw_p c m) (fun _ => rfl) (fun _ => rfl)))))))))
theorem S_pk_tell (c : mx_C) (m : mx_M) (t : Nat) (a1 : Int32) (ht : mx_kl t = 2) : rx_sf L_pk_tell [] 33 L_pk_tell (c, m) [some (.ref t), some (.int a1)] [] :=
  And.intro (fun h0 => And.intro ht (trivial)) (fun h0 => And.intro (fun h1 => And.intro ht (trivial)) (fun h1 => And.intro (fun h2 => And.intro ht (trivial)) (fun h2 => And.intro (fun h3 => And.intro ht (trivial)) (fun h3 => And.intro (fun h4 => And.intro ht (trivial)) (fun h4 => And.intro (fun h5 => And.intro ht (trivial)) (fun h5 => And.intro (fun h6 => And.intro ht (trivial)) (fun h6 => And.intro (fun h7 => And.intro ht (trivial)) (fun h7 => And.intro (fun h8 => And.intro ht (trivial)) (fun h8 => trivial)))))))))

theorem og_pk_28_g {p : Program} {l : Launch} {e : Env} {R : Room} {s : State} {m : MethodId} {args : Array Value} {below : List Frame} {meth : Method} {c : Code} {cc : ByteArray} {nL : Nat} {ad : Nat → Nat} {D : va_G} {g : Nat → ClassId} {B : Nat} (X : ox_C p s m args c cc nL "SubscriberLines$Packet" D g ad B) : rx_OK p l e R s m args below meth c cc nL ad (mx_W D g ad B s.heap) mx_cs (.getfield 28) 3 1 (kgi 2 0) := ox_gi (T := T_2) X rfl (by decide) (by decide) in_2 rfl (al_at 36 (by decide +kernel) rfl)
theorem og_pk_31_g {p : Program} {l : Launch} {e : Env} {R : Room} {s : State} {m : MethodId} {args : Array Value} {below : List Frame} {meth : Method} {c : Code} {cc : ByteArray} {nL : Nat} {ad : Nat → Nat} {D : va_G} {g : Nat → ClassId} {B : Nat} (X : ox_C p s m args c cc nL "SubscriberLines$Packet" D g ad B) : rx_OK p l e R s m args below meth c cc nL ad (mx_W D g ad B s.heap) mx_cs (.getfield 31) 3 1 (kgi 2 1) := ox_gi (T := T_2) X rfl (by decide) (by decide) in_2 rfl (al_at 42 (by decide +kernel) rfl)
theorem og_pk_34_g {p : Program} {l : Launch} {e : Env} {R : Room} {s : State} {m : MethodId} {args : Array Value} {below : List Frame} {meth : Method} {c : Code} {cc : ByteArray} {nL : Nat} {ad : Nat → Nat} {D : va_G} {g : Nat → ClassId} {B : Nat} (X : ox_C p s m args c cc nL "SubscriberLines$Packet" D g ad B) : rx_OK p l e R s m args below meth c cc nL ad (mx_W D g ad B s.heap) mx_cs (.getfield 34) 3 1 (kgi 2 2) := ox_gi (T := T_2) X rfl (by decide) (by decide) in_2 rfl (al_at 44 (by decide +kernel) rfl)
theorem og_pk_7_g {p : Program} {l : Launch} {e : Env} {R : Room} {s : State} {m : MethodId} {args : Array Value} {below : List Frame} {meth : Method} {c : Code} {cc : ByteArray} {nL : Nat} {ad : Nat → Nat} {D : va_G} {g : Nat → ClassId} {B : Nat} (X : ox_C p s m args c cc nL "SubscriberLines$Packet" D g ad B) : rx_OK p l e R s m args below meth c cc nL ad (mx_W D g ad B s.heap) mx_cs (.getfield 7) 3 1 (kgi 2 3) := ox_gi (T := T_2) X rfl (by decide) (by decide) in_2 rfl (al_at 46 (by decide +kernel) rfl)
theorem og_pk_13_g {p : Program} {l : Launch} {e : Env} {R : Room} {s : State} {m : MethodId} {args : Array Value} {below : List Frame} {meth : Method} {c : Code} {cc : ByteArray} {nL : Nat} {ad : Nat → Nat} {D : va_G} {g : Nat → ClassId} {B : Nat} (X : ox_C p s m args c cc nL "SubscriberLines$Packet" D g ad B) : rx_OK p l e R s m args below meth c cc nL ad (mx_W D g ad B s.heap) mx_cs (.getfield 13) 3 1 (kgi 2 4) := ox_gi (T := T_2) X rfl (by decide) (by decide) in_2 rfl (al_at 51 (by decide +kernel) rfl)
theorem og_pk_16_g {p : Program} {l : Launch} {e : Env} {R : Room} {s : State} {m : MethodId} {args : Array Value} {below : List Frame} {meth : Method} {c : Code} {cc : ByteArray} {nL : Nat} {ad : Nat → Nat} {D : va_G} {g : Nat → ClassId} {B : Nat} (X : ox_C p s m args c cc nL "SubscriberLines$Packet" D g ad B) : rx_OK p l e R s m args below meth c cc nL ad (mx_W D g ad B s.heap) mx_cs (.getfield 16) 3 1 (kgi 2 5) := ox_gi (T := T_2) X rfl (by decide) (by decide) in_2 rfl (al_at 56 (by decide +kernel) rfl)
theorem og_pk_19_g {p : Program} {l : Launch} {e : Env} {R : Room} {s : State} {m : MethodId} {args : Array Value} {below : List Frame} {meth : Method} {c : Code} {cc : ByteArray} {nL : Nat} {ad : Nat → Nat} {D : va_G} {g : Nat → ClassId} {B : Nat} (X : ox_C p s m args c cc nL "SubscriberLines$Packet" D g ad B) : rx_OK p l e R s m args below meth c cc nL ad (mx_W D g ad B s.heap) mx_cs (.getfield 19) 3 1 (kgi 2 6) := ox_gi (T := T_2) X rfl (by decide) (by decide) in_2 rfl (al_at 61 (by decide +kernel) rfl)
theorem og_pk_22_g {p : Program} {l : Launch} {e : Env} {R : Room} {s : State} {m : MethodId} {args : Array Value} {below : List Frame} {meth : Method} {c : Code} {cc : ByteArray} {nL : Nat} {ad : Nat → Nat} {D : va_G} {g : Nat → ClassId} {B : Nat} (X : ox_C p s m args c cc nL "SubscriberLines$Packet" D g ad B) : rx_OK p l e R s m args below meth c cc nL ad (mx_W D g ad B s.heap) mx_cs (.getfield 22) 3 1 (kgi 2 7) := ox_gi (T := T_2) X rfl (by decide) (by decide) in_2 rfl (al_at 65 (by decide +kernel) rfl)
theorem og_pk_25_g {p : Program} {l : Launch} {e : Env} {R : Room} {s : State} {m : MethodId} {args : Array Value} {below : List Frame} {meth : Method} {c : Code} {cc : ByteArray} {nL : Nat} {ad : Nat → Nat} {D : va_G} {g : Nat → ClassId} {B : Nat} (X : ox_C p s m args c cc nL "SubscriberLines$Packet" D g ad B) : rx_OK p l e R s m args below meth c cc nL ad (mx_W D g ad B s.heap) mx_cs (.getfield 25) 3 1 (kgi 2 8) := ox_gi (T := T_2) X rfl (by decide) (by decide) in_2 rfl (al_at 68 (by decide +kernel) rfl)
theorem ok_pk_tell : rx_okF prog_7_method_4_code 2 (some .int) L_pk_tell 0 L_pk_tell = true := by decide +kernel
theorem V_pk_tell {l : Launch} {D : va_G} {g : Nat → ClassId} {ad : Nat → Nat} {B : Nat} (had : mx_A ad B) : rx_V l D g ad B ⟨"SubscriberLines$Packet", "tell", "(I)I"⟩ prog_7_method_4_code 2 (some .int) 0 0 K_pk_tell := by
  intro av x hp
  obtain ⟨a0, a1, rfl⟩ := k_RI_inv hp
  have hp : mx_kl a0 = 2 := hp
  exact rx_met (k := 0) had (by decide) (Nat.le_of_ble_eq_true rfl) ok_pk_tell rfl rfl 33 (fun p e s m args below meth c X => And.intro (og_pk_28_g X) (And.intro (og_pk_31_g X) (And.intro (og_pk_34_g X) (And.intro (og_pk_7_g X) (And.intro (og_pk_13_g X) (And.intro (og_pk_16_g X) (And.intro (og_pk_19_g X) (And.intro (og_pk_22_g X) (And.intro (og_pk_25_g X) (trivial)))))))))) (S_pk_tell x.1 x.2 a0 a1 hp) (E_pk_tell x.1 x.2 a0 a1)
def fl_holds (c : mx_C) (a1 : Int32) : Int32 :=
  if a1 < 0 then
    0
  else
    if a1 < (Int32.ofNat c.2.2.2.1.val) then
      1
    else
      0
def K_fl_holds : rx_K mx := k_RI (fun a0 a1 c m => (a0 = 1, (c, m), some (.int (fl_holds c a1))))
def L_fl_holds : List (rx_E mx) := [
  (0, .iload_n 1, 1, 0, 1, 0, [], kno),
  (1, .ifCond .lt 15, 3, 2, 8, 0, [], kno),
  (4, .iload_n 1, 1, 0, 1, 0, [], kno),
  (5, .aload_n 0, 1, 0, 0, 0, [], kno),
  (6, .getfield 22, 3, 7, 1, 0, [], kgf),
  (9, .if_icmp .ge 7, 3, 2, 8, 0, [], kno),
  (12, .iconst 1, 1, 0, 0, 1, [], kno),
  (13, .goto 4, 3, 1, 9, 0, [], kno),
  (16, .iconst 0, 1, 0, 0, 0, [], kno),
  (17, .ireturn, 1, 5, 1, 0, [], kno)]
theorem E_fl_holds (c : mx_C) (m : mx_M) (a1 : Int32)  : rx_ev L_fl_holds [] 12 L_fl_holds (c, m) [some (.ref 1), some (.int a1)] [] = rw_p c m (fl_holds c a1) :=
  rx_ite2 (f := rw_p c m) (fun _ => rfl) (fun _ => rx_ite2 (f := rw_p c m) (fun _ => rfl) (fun _ => rfl))
theorem S_fl_holds (c : mx_C) (m : mx_M) (a1 : Int32)  : rx_sf L_fl_holds [] 12 L_fl_holds (c, m) [some (.ref 1), some (.int a1)] [] :=
  And.intro (fun h0 => Or.inl rfl) (fun h0 => And.intro rfl (And.intro (fun h1 => Or.inr rfl) (fun h1 => Or.inl rfl)))

theorem og_fl_22_g {p : Program} {l : Launch} {e : Env} {R : Room} {s : State} {m : MethodId} {args : Array Value} {below : List Frame} {meth : Method} {c : Code} {cc : ByteArray} {nL : Nat} {ad : Nat → Nat} {D : va_G} {g : Nat → ClassId} {B : Nat} (X : ox_C p s m args c cc nL "SubscriberLines$Flight" D g ad B) : rx_OK p l e R s m args below meth c cc nL ad (mx_W D g ad B s.heap) mx_cs (.getfield 22) 3 1 (kgf) := ox_gf X (al_at 93 (by decide +kernel) rfl)
theorem ok_fl_holds : rx_okF prog_4_method_2_code 2 (some .boolean) L_fl_holds 0 L_fl_holds = true := by decide +kernel
theorem V_fl_holds {l : Launch} {D : va_G} {g : Nat → ClassId} {ad : Nat → Nat} {B : Nat} (had : mx_A ad B) : rx_V l D g ad B ⟨"SubscriberLines$Flight", "holds", "(I)Z"⟩ prog_4_method_2_code 2 (some .boolean) 0 0 K_fl_holds := by
  intro av x hp
  obtain ⟨a0, a1, rfl⟩ := k_RI_inv hp
  have hp : a0 = 1 := hp
  have h0 : a0 = 1 := hp
  subst h0
  exact rx_met (k := 0) had (by decide) (Nat.le_of_ble_eq_true rfl) ok_fl_holds rfl rfl 12 (fun p e s m args below meth c X => And.intro (og_fl_22_g X) (trivial)) (S_fl_holds x.1 x.2 a1 ) (E_fl_holds x.1 x.2 a1)
theorem fl_in0 (q : Fin 41) (h : Int32.ofNat q.val < 40) : vp_in (Int32.ofNat q.val) (mx_lenG 2 2 2) ∧ vp_in (Int32.ofNat q.val + 1) 41 := by
  have h1 : (Int32.ofNat q.val).toInt = (q.val : Int) := Int32.toInt_ofNat_of_lt (by omega)
  rw [Int32.lt_iff_toInt_lt, h1] at h
  have h2 : (40 : Int32).toInt = 40 := rfl
  rw [h2] at h
  have h3 : Int32.ofNat q.val + 1 = Int32.ofNat (q.val + 1) := by rw [Int32.ofNat_add]; rfl
  have key : ∀ n : Nat, n < 41 → vp_in (Int32.ofNat n) 41 := by
    intro n hn hc
    rcases hc with hc | hc
    · rw [Int32.lt_iff_toInt_lt, Int32.toInt_ofNat_of_lt (by omega), Int32.toInt_zero] at hc
      omega
    · rw [Int32.toNatClampNeg_ofNat_of_lt (by omega)] at hc
      omega
  exact ⟨key q.val q.isLt, by rw [h3]; exact key _ (by omega)⟩
def fl_launch (c : mx_C) (a1 : Int32) (a2 : Int32) (a3 : Int32) : mx_C × Nat :=
  if (Int32.ofNat c.2.2.2.1.val) < 40 then
    let c1 := mx_pf c ((Int32.ofNat c.2.2.2.1.val) + 1)
    let c2 := mx_pi c1 (4 + (c.2.1 (Int32.toNatClampNeg (Int32.ofNat c.2.2.2.1.val))).val) 0 a1
    let c3 := mx_pi c2 (4 + (c.2.1 (Int32.toNatClampNeg (Int32.ofNat c.2.2.2.1.val))).val) 1 a2
    let c4 := mx_pi c3 (4 + (c.2.1 (Int32.toNatClampNeg (Int32.ofNat c.2.2.2.1.val))).val) 2 a3
    let c5 := mx_pi c4 (4 + (c.2.1 (Int32.toNatClampNeg (Int32.ofNat c.2.2.2.1.val))).val) 3 0
    let c6 := mx_pi c5 (4 + (c.2.1 (Int32.toNatClampNeg (Int32.ofNat c.2.2.2.1.val))).val) 4 0
    let c7 := mx_pi c6 (4 + (c.2.1 (Int32.toNatClampNeg (Int32.ofNat c.2.2.2.1.val))).val) 5 0
    let c8 := mx_pi c7 (4 + (c.2.1 (Int32.toNatClampNeg (Int32.ofNat c.2.2.2.1.val))).val) 6 0
    let c9 := mx_pi c8 (4 + (c.2.1 (Int32.toNatClampNeg (Int32.ofNat c.2.2.2.1.val))).val) 7 0
    let c10 := mx_pi c9 (4 + (c.2.1 (Int32.toNatClampNeg (Int32.ofNat c.2.2.2.1.val))).val) 8 0
    (c10, (4 + (c.2.1 (Int32.toNatClampNeg (Int32.ofNat c.2.2.2.1.val))).val))
  else
    let c11 := mx_pi c 3 0 a1
    let c12 := mx_pi c11 3 1 a2
    let c13 := mx_pi c12 3 2 a3
    let c14 := mx_pi c13 3 3 0
    let c15 := mx_pi c14 3 4 0
    let c16 := mx_pi c15 3 5 0
    let c17 := mx_pi c16 3 6 0
    let c18 := mx_pi c17 3 7 0
    let c19 := mx_pi c18 3 8 0
    (c19, 3)
def K_fl_launch : rx_K mx := k_RIII (fun a0 a1 a2 a3 c m => (a0 = 1, ((fl_launch c a1 a2 a3).1, m), some (.ref (fl_launch c a1 a2 a3).2)))
def L_fl_launch : List (rx_E mx) := [
  (0, .aload_n 0, 1, 0, 0, 0, [], kno),
  (1, .getfield 18, 3, 7, 1, 0, [], kgr0 1 1 3),
  (4, .astore 4, 2, 0, 4, 0, [], kno),
  (6, .aload_n 0, 1, 0, 0, 0, [], kno),
  (7, .getfield 22, 3, 7, 1, 0, [], kgf),
  (10, .bipush 40, 2, 0, 0, 40, [], kno),
  (12, .if_icmp .ge 24, 3, 2, 19, 0, [], kno),
  (15, .aload_n 0, 1, 0, 0, 0, [], kno),
  (16, .getfield 11, 3, 7, 1, 0, [], kgr0 1 0 2),
  (19, .aload_n 0, 1, 0, 0, 0, [], kno),
  (20, .getfield 22, 3, 7, 1, 0, [], kgf),
  (23, .aaload, 1, 7, 2, 0, [], kar),
  (24, .astore 4, 2, 0, 4, 0, [], kno),
  (26, .aload_n 0, 1, 0, 0, 0, [], kno),
  (27, .dup, 1, 0, 0, 0, [], kno),
  (28, .getfield 22, 3, 7, 1, 0, [], kgf),
  (31, .iconst 1, 1, 0, 0, 1, [], kno),
  (32, .iadd, 1, 0, 0, 0, [], kno),
  (33, .putfield 22, 3, 7, 2, 0, [], kpf),
  (36, .aload 4, 2, 0, 4, 0, [], kno),
  (38, .iload_n 1, 1, 0, 1, 0, [], kno),
  (39, .putfield 26, 3, 7, 2, 0, [], kpi 2 0),
  (42, .aload 4, 2, 0, 4, 0, [], kno),
  (44, .iload_n 2, 1, 0, 2, 0, [], kno),
  (45, .putfield 29, 3, 7, 2, 0, [], kpi 2 1),
  (48, .aload 4, 2, 0, 4, 0, [], kno),
  (50, .iload_n 3, 1, 0, 3, 0, [], kno),
  (51, .putfield 32, 3, 7, 2, 0, [], kpi 2 2),
  (54, .aload 4, 2, 0, 4, 0, [], kno),
  (56, .iconst 0, 1, 0, 0, 0, [], kno),
  (57, .putfield 35, 3, 7, 2, 0, [], kpi 2 3),
  (60, .aload 4, 2, 0, 4, 0, [], kno),
  (62, .iconst 0, 1, 0, 0, 0, [], kno),
  (63, .putfield 38, 3, 7, 2, 0, [], kpi 2 4),
  (66, .aload 4, 2, 0, 4, 0, [], kno),
  (68, .iconst 0, 1, 0, 0, 0, [], kno),
  (69, .putfield 41, 3, 7, 2, 0, [], kpi 2 5),
  (72, .aload 4, 2, 0, 4, 0, [], kno),
  (74, .iconst 0, 1, 0, 0, 0, [], kno),
  (75, .putfield 44, 3, 7, 2, 0, [], kpi 2 6),
  (78, .aload 4, 2, 0, 4, 0, [], kno),
  (80, .iconst 0, 1, 0, 0, 0, [], kno),
  (81, .putfield 47, 3, 7, 2, 0, [], kpi 2 7),
  (84, .aload 4, 2, 0, 4, 0, [], kno),
  (86, .iconst 0, 1, 0, 0, 0, [], kno),
  (87, .putfield 50, 3, 7, 2, 0, [], kpi 2 8),
  (90, .aload 4, 2, 0, 4, 0, [], kno),
  (92, .areturn, 1, 5, 2, 0, [], kno)]
theorem E_fl_launch (c : mx_C) (m : mx_M) (a1 : Int32) (a2 : Int32) (a3 : Int32)  : rx_ev L_fl_launch [] 50 L_fl_launch (c, m) [some (.ref 1), some (.int a1), some (.int a2), some (.int a3), none] [] = rw_r m (fl_launch c a1 a2 a3) :=
  rx_ite2 (f := rw_r m) (fun _ => rfl) (fun _ => rfl)
theorem S_fl_launch (c : mx_C) (m : mx_M) (a1 : Int32) (a2 : Int32) (a3 : Int32)  : rx_sf L_fl_launch [] 50 L_fl_launch (c, m) [some (.ref 1), some (.int a1), some (.int a2), some (.int a3), none] [] :=
  And.intro rfl (And.intro rfl (And.intro (fun h0 => And.intro rfl (And.intro rfl (And.intro (fl_in0 _ h0).1 (And.intro rfl (And.intro (And.intro rfl (fl_in0 _ h0).2) (And.intro (mx_kl_row _) (And.intro (mx_kl_row _) (And.intro (mx_kl_row _) (And.intro (mx_kl_row _) (And.intro (mx_kl_row _) (And.intro (mx_kl_row _) (And.intro (mx_kl_row _) (And.intro (mx_kl_row _) (And.intro (mx_kl_row _) (trivial))))))))))))))) (fun h0 => And.intro rfl (And.intro rfl (And.intro rfl (And.intro rfl (And.intro rfl (And.intro rfl (And.intro rfl (And.intro rfl (And.intro rfl (trivial))))))))))))

theorem og_fl_18_g {p : Program} {l : Launch} {e : Env} {R : Room} {s : State} {m : MethodId} {args : Array Value} {below : List Frame} {meth : Method} {c : Code} {cc : ByteArray} {nL : Nat} {ad : Nat → Nat} {D : va_G} {g : Nat → ClassId} {B : Nat} (X : ox_C p s m args c cc nL "SubscriberLines$Flight" D g ad B) : rx_OK p l e R s m args below meth c cc nL ad (mx_W D g ad B s.heap) mx_cs (.getfield 18) 3 1 (kgr0 1 1 3) := ox_gr0 (T := T_1) X rfl (by decide) (by decide) in_1 rfl (al_at 92 (by decide +kernel) rfl)
theorem og_fl_11_g {p : Program} {l : Launch} {e : Env} {R : Room} {s : State} {m : MethodId} {args : Array Value} {below : List Frame} {meth : Method} {c : Code} {cc : ByteArray} {nL : Nat} {ad : Nat → Nat} {D : va_G} {g : Nat → ClassId} {B : Nat} (X : ox_C p s m args c cc nL "SubscriberLines$Flight" D g ad B) : rx_OK p l e R s m args below meth c cc nL ad (mx_W D g ad B s.heap) mx_cs (.getfield 11) 3 1 (kgr0 1 0 2) := ox_gr0 (T := T_1) X rfl (by decide) (by decide) in_1 rfl (al_at 90 (by decide +kernel) rfl)
theorem og_fl_22_p {p : Program} {l : Launch} {e : Env} {R : Room} {s : State} {m : MethodId} {args : Array Value} {below : List Frame} {meth : Method} {c : Code} {cc : ByteArray} {nL : Nat} {ad : Nat → Nat} {D : va_G} {g : Nat → ClassId} {B : Nat} (X : ox_C p s m args c cc nL "SubscriberLines$Flight" D g ad B) : rx_OK p l e R s m args below meth c cc nL ad (mx_W D g ad B s.heap) mx_cs (.putfield 22) 3 2 (kpf) := ox_pf X (al_at 93 (by decide +kernel) rfl)
theorem og_fl_26_p {p : Program} {l : Launch} {e : Env} {R : Room} {s : State} {m : MethodId} {args : Array Value} {below : List Frame} {meth : Method} {c : Code} {cc : ByteArray} {nL : Nat} {ad : Nat → Nat} {D : va_G} {g : Nat → ClassId} {B : Nat} (X : ox_C p s m args c cc nL "SubscriberLines$Flight" D g ad B) : rx_OK p l e R s m args below meth c cc nL ad (mx_W D g ad B s.heap) mx_cs (.putfield 26) 3 2 (kpi 2 0) := ox_pi (T := T_2) X rfl (by decide) (by decide) in_2 rfl ty_2 ty_2_ok nm_2 rfl rfl rfl (al_at 34 (by decide +kernel) rfl)
theorem og_fl_29_p {p : Program} {l : Launch} {e : Env} {R : Room} {s : State} {m : MethodId} {args : Array Value} {below : List Frame} {meth : Method} {c : Code} {cc : ByteArray} {nL : Nat} {ad : Nat → Nat} {D : va_G} {g : Nat → ClassId} {B : Nat} (X : ox_C p s m args c cc nL "SubscriberLines$Flight" D g ad B) : rx_OK p l e R s m args below meth c cc nL ad (mx_W D g ad B s.heap) mx_cs (.putfield 29) 3 2 (kpi 2 1) := ox_pi (T := T_2) X rfl (by decide) (by decide) in_2 rfl ty_2 ty_2_ok nm_2 rfl rfl rfl (al_at 40 (by decide +kernel) rfl)
theorem og_fl_32_p {p : Program} {l : Launch} {e : Env} {R : Room} {s : State} {m : MethodId} {args : Array Value} {below : List Frame} {meth : Method} {c : Code} {cc : ByteArray} {nL : Nat} {ad : Nat → Nat} {D : va_G} {g : Nat → ClassId} {B : Nat} (X : ox_C p s m args c cc nL "SubscriberLines$Flight" D g ad B) : rx_OK p l e R s m args below meth c cc nL ad (mx_W D g ad B s.heap) mx_cs (.putfield 32) 3 2 (kpi 2 2) := ox_pi (T := T_2) X rfl (by decide) (by decide) in_2 rfl ty_2 ty_2_ok nm_2 rfl rfl rfl (al_at 43 (by decide +kernel) rfl)
theorem og_fl_35_p {p : Program} {l : Launch} {e : Env} {R : Room} {s : State} {m : MethodId} {args : Array Value} {below : List Frame} {meth : Method} {c : Code} {cc : ByteArray} {nL : Nat} {ad : Nat → Nat} {D : va_G} {g : Nat → ClassId} {B : Nat} (X : ox_C p s m args c cc nL "SubscriberLines$Flight" D g ad B) : rx_OK p l e R s m args below meth c cc nL ad (mx_W D g ad B s.heap) mx_cs (.putfield 35) 3 2 (kpi 2 3) := ox_pi (T := T_2) X rfl (by decide) (by decide) in_2 rfl ty_2 ty_2_ok nm_2 rfl rfl rfl (al_at 47 (by decide +kernel) rfl)
theorem og_fl_38_p {p : Program} {l : Launch} {e : Env} {R : Room} {s : State} {m : MethodId} {args : Array Value} {below : List Frame} {meth : Method} {c : Code} {cc : ByteArray} {nL : Nat} {ad : Nat → Nat} {D : va_G} {g : Nat → ClassId} {B : Nat} (X : ox_C p s m args c cc nL "SubscriberLines$Flight" D g ad B) : rx_OK p l e R s m args below meth c cc nL ad (mx_W D g ad B s.heap) mx_cs (.putfield 38) 3 2 (kpi 2 4) := ox_pi (T := T_2) X rfl (by decide) (by decide) in_2 rfl ty_2 ty_2_ok nm_2 rfl rfl rfl (al_at 52 (by decide +kernel) rfl)
theorem og_fl_41_p {p : Program} {l : Launch} {e : Env} {R : Room} {s : State} {m : MethodId} {args : Array Value} {below : List Frame} {meth : Method} {c : Code} {cc : ByteArray} {nL : Nat} {ad : Nat → Nat} {D : va_G} {g : Nat → ClassId} {B : Nat} (X : ox_C p s m args c cc nL "SubscriberLines$Flight" D g ad B) : rx_OK p l e R s m args below meth c cc nL ad (mx_W D g ad B s.heap) mx_cs (.putfield 41) 3 2 (kpi 2 5) := ox_pi (T := T_2) X rfl (by decide) (by decide) in_2 rfl ty_2 ty_2_ok nm_2 rfl rfl rfl (al_at 57 (by decide +kernel) rfl)
theorem og_fl_44_p {p : Program} {l : Launch} {e : Env} {R : Room} {s : State} {m : MethodId} {args : Array Value} {below : List Frame} {meth : Method} {c : Code} {cc : ByteArray} {nL : Nat} {ad : Nat → Nat} {D : va_G} {g : Nat → ClassId} {B : Nat} (X : ox_C p s m args c cc nL "SubscriberLines$Flight" D g ad B) : rx_OK p l e R s m args below meth c cc nL ad (mx_W D g ad B s.heap) mx_cs (.putfield 44) 3 2 (kpi 2 6) := ox_pi (T := T_2) X rfl (by decide) (by decide) in_2 rfl ty_2 ty_2_ok nm_2 rfl rfl rfl (al_at 62 (by decide +kernel) rfl)
theorem og_fl_47_p {p : Program} {l : Launch} {e : Env} {R : Room} {s : State} {m : MethodId} {args : Array Value} {below : List Frame} {meth : Method} {c : Code} {cc : ByteArray} {nL : Nat} {ad : Nat → Nat} {D : va_G} {g : Nat → ClassId} {B : Nat} (X : ox_C p s m args c cc nL "SubscriberLines$Flight" D g ad B) : rx_OK p l e R s m args below meth c cc nL ad (mx_W D g ad B s.heap) mx_cs (.putfield 47) 3 2 (kpi 2 7) := ox_pi (T := T_2) X rfl (by decide) (by decide) in_2 rfl ty_2 ty_2_ok nm_2 rfl rfl rfl (al_at 66 (by decide +kernel) rfl)
theorem og_fl_50_p {p : Program} {l : Launch} {e : Env} {R : Room} {s : State} {m : MethodId} {args : Array Value} {below : List Frame} {meth : Method} {c : Code} {cc : ByteArray} {nL : Nat} {ad : Nat → Nat} {D : va_G} {g : Nat → ClassId} {B : Nat} (X : ox_C p s m args c cc nL "SubscriberLines$Flight" D g ad B) : rx_OK p l e R s m args below meth c cc nL ad (mx_W D g ad B s.heap) mx_cs (.putfield 50) 3 2 (kpi 2 8) := ox_pi (T := T_2) X rfl (by decide) (by decide) in_2 rfl ty_2 ty_2_ok nm_2 rfl rfl rfl (al_at 69 (by decide +kernel) rfl)
theorem ok_fl_launch : rx_okF prog_4_method_3_code 5 (some (.object "SubscriberLines$Packet")) L_fl_launch 0 L_fl_launch = true := by decide +kernel
theorem V_fl_launch {l : Launch} {D : va_G} {g : Nat → ClassId} {ad : Nat → Nat} {B : Nat} (had : mx_A ad B) : rx_V l D g ad B ⟨"SubscriberLines$Flight", "launch", "(III)LSubscriberLines$Packet;"⟩ prog_4_method_3_code 5 (some (.object "SubscriberLines$Packet")) 0 0 K_fl_launch := by
  intro av x hp
  obtain ⟨a0, a1, a2, a3, rfl⟩ := k_RIII_inv hp
  have hp : a0 = 1 := hp
  have h0 : a0 = 1 := hp
  subst h0
  exact rx_met (k := 1) had (by decide) (Nat.le_of_ble_eq_true rfl) ok_fl_launch rfl rfl 50 (fun p e s m args below meth c X => And.intro (og_fl_18_g X) (And.intro (og_fl_22_g X) (And.intro (og_fl_11_g X) (And.intro (og_fl_22_g X) (And.intro (ox_ar X) (And.intro (og_fl_22_g X) (And.intro (og_fl_22_p X) (And.intro (og_fl_26_p X) (And.intro (og_fl_29_p X) (And.intro (og_fl_32_p X) (And.intro (og_fl_35_p X) (And.intro (og_fl_38_p X) (And.intro (og_fl_41_p X) (And.intro (og_fl_44_p X) (And.intro (og_fl_47_p X) (And.intro (og_fl_50_p X) (trivial))))))))))))))))) (S_fl_launch x.1 x.2 a1 a2 a3 ) (E_fl_launch x.1 x.2 a1 a2 a3)
theorem fl_launch_pk (c : mx_C) (k a b : Int32) : mx_kl (fl_launch c k a b).2 = 2 := by
  unfold fl_launch
  split
  · exact mx_kl_row _
  · rfl
def su_hasLink (c : mx_C) (t : Nat) : Int32 :=
  if (c.1 t 4) = 2 then
    1
  else
    if (c.1 t 4) = 3 then
      1
    else
      0
def K_su_hasLink : rx_K mx := k_R (fun a0 c m => (mx_kl a0 = 4, (c, m), some (.int (su_hasLink c a0))))
def L_su_hasLink : List (rx_E mx) := [
  (0, .aload_n 0, 1, 0, 0, 0, [], kno),
  (1, .getfield 28, 3, 7, 1, 0, [], kgi 4 4),
  (4, .iconst 2, 1, 0, 0, 2, [], kno),
  (5, .if_icmp .eq 11, 3, 2, 8, 0, [], kno),
  (8, .aload_n 0, 1, 0, 0, 0, [], kno),
  (9, .getfield 28, 3, 7, 1, 0, [], kgi 4 4),
  (12, .iconst 3, 1, 0, 0, 3, [], kno),
  (13, .if_icmp .ne 7, 3, 2, 10, 0, [], kno),
  (16, .iconst 1, 1, 0, 0, 1, [], kno),
  (17, .goto 4, 3, 1, 11, 0, [], kno),
  (20, .iconst 0, 1, 0, 0, 0, [], kno),
  (21, .ireturn, 1, 5, 1, 0, [], kno)]
theorem E_su_hasLink (c : mx_C) (m : mx_M) (t : Nat)  : rx_ev L_su_hasLink [] 14 L_su_hasLink (c, m) [some (.ref t)] [] = rw_p c m (su_hasLink c t) :=
  rx_ite2 (f := rw_p c m) (fun _ => rfl) (fun _ => rx_ite2 (f := rw_p c m) (fun _ => rfl) (fun _ => rfl))
theorem S_su_hasLink (c : mx_C) (m : mx_M) (t : Nat) (ht : mx_kl t = 4) : rx_sf L_su_hasLink [] 14 L_su_hasLink (c, m) [some (.ref t)] [] :=
  And.intro ht (And.intro (fun h0 => Or.inr rfl) (fun h0 => And.intro ht (And.intro (fun h1 => Or.inr rfl) (fun h1 => Or.inl rfl))))

theorem og_su_28_g {p : Program} {l : Launch} {e : Env} {R : Room} {s : State} {m : MethodId} {args : Array Value} {below : List Frame} {meth : Method} {c : Code} {cc : ByteArray} {nL : Nat} {ad : Nat → Nat} {D : va_G} {g : Nat → ClassId} {B : Nat} (X : ox_C p s m args c cc nL "SubscriberLines$Subscriber" D g ad B) : rx_OK p l e R s m args below meth c cc nL ad (mx_W D g ad B s.heap) mx_cs (.getfield 28) 3 1 (kgi 4 4) := ox_gi (T := T_4) X rfl (by decide) (by decide) in_4 rfl (al_at 133 (by decide +kernel) rfl)
theorem ok_su_hasLink : rx_okF prog_10_method_7_code 1 (some .boolean) L_su_hasLink 0 L_su_hasLink = true := by decide +kernel
theorem V_su_hasLink {l : Launch} {D : va_G} {g : Nat → ClassId} {ad : Nat → Nat} {B : Nat} (had : mx_A ad B) : rx_V l D g ad B ⟨"SubscriberLines$Subscriber", "hasLink", "()Z"⟩ prog_10_method_7_code 1 (some .boolean) 0 0 K_su_hasLink := by
  intro av x hp
  obtain ⟨a0, rfl⟩ := k_R_inv hp
  have hp : mx_kl a0 = 4 := hp
  exact rx_met (k := 0) had (by decide) (Nat.le_of_ble_eq_true rfl) ok_su_hasLink rfl rfl 14 (fun p e s m args below meth c X => And.intro (og_su_28_g X) (And.intro (og_su_28_g X) (trivial))) (S_su_hasLink x.1 x.2 a0 hp) (E_su_hasLink x.1 x.2 a0)
def su_turnOff (c : mx_C) (t : Nat) : mx_C :=
  let c1 := mx_pi c t 4 0
  let c2 := mx_pi c1 t 6 0
  let c3 := mx_pi c2 t 5 0
  c3
def K_su_turnOff : rx_K mx := k_R (fun a0 c m => (mx_kl a0 = 4, (su_turnOff c a0, m), none))
def L_su_turnOff : List (rx_E mx) := [
  (0, .aload_n 0, 1, 0, 0, 0, [], kno),
  (1, .iconst 0, 1, 0, 0, 0, [], kno),
  (2, .putfield 28, 3, 7, 2, 0, [], kpi 4 4),
  (5, .aload_n 0, 1, 0, 0, 0, [], kno),
  (6, .iconst 0, 1, 0, 0, 0, [], kno),
  (7, .putfield 52, 3, 7, 2, 0, [], kpi 4 6),
  (10, .aload_n 0, 1, 0, 0, 0, [], kno),
  (11, .iconst 0, 1, 0, 0, 0, [], kno),
  (12, .putfield 96, 3, 7, 2, 0, [], kpi 4 5),
  (15, .return_, 1, 6, 0, 0, [], kno)]
theorem E_su_turnOff (c : mx_C) (m : mx_M) (t : Nat)  : rx_ev L_su_turnOff [] 12 L_su_turnOff (c, m) [some (.ref t)] [] = rw_v m (su_turnOff c t) :=
  rfl
theorem S_su_turnOff (c : mx_C) (m : mx_M) (t : Nat) (ht : mx_kl t = 4) : rx_sf L_su_turnOff [] 12 L_su_turnOff (c, m) [some (.ref t)] [] :=
  And.intro ht (And.intro ht (And.intro ht (trivial)))

theorem og_su_28_p {p : Program} {l : Launch} {e : Env} {R : Room} {s : State} {m : MethodId} {args : Array Value} {below : List Frame} {meth : Method} {c : Code} {cc : ByteArray} {nL : Nat} {ad : Nat → Nat} {D : va_G} {g : Nat → ClassId} {B : Nat} (X : ox_C p s m args c cc nL "SubscriberLines$Subscriber" D g ad B) : rx_OK p l e R s m args below meth c cc nL ad (mx_W D g ad B s.heap) mx_cs (.putfield 28) 3 2 (kpi 4 4) := ox_pi (T := T_4) X rfl (by decide) (by decide) in_4 rfl ty_4 ty_4_ok nm_4 rfl rfl rfl (al_at 133 (by decide +kernel) rfl)
theorem og_su_52_p {p : Program} {l : Launch} {e : Env} {R : Room} {s : State} {m : MethodId} {args : Array Value} {below : List Frame} {meth : Method} {c : Code} {cc : ByteArray} {nL : Nat} {ad : Nat → Nat} {D : va_G} {g : Nat → ClassId} {B : Nat} (X : ox_C p s m args c cc nL "SubscriberLines$Subscriber" D g ad B) : rx_OK p l e R s m args below meth c cc nL ad (mx_W D g ad B s.heap) mx_cs (.putfield 52) 3 2 (kpi 4 6) := ox_pi (T := T_4) X rfl (by decide) (by decide) in_4 rfl ty_4 ty_4_ok nm_4 rfl rfl rfl (al_at 137 (by decide +kernel) rfl)
theorem og_su_96_p {p : Program} {l : Launch} {e : Env} {R : Room} {s : State} {m : MethodId} {args : Array Value} {below : List Frame} {meth : Method} {c : Code} {cc : ByteArray} {nL : Nat} {ad : Nat → Nat} {D : va_G} {g : Nat → ClassId} {B : Nat} (X : ox_C p s m args c cc nL "SubscriberLines$Subscriber" D g ad B) : rx_OK p l e R s m args below meth c cc nL ad (mx_W D g ad B s.heap) mx_cs (.putfield 96) 3 2 (kpi 4 5) := ox_pi (T := T_4) X rfl (by decide) (by decide) in_4 rfl ty_4 ty_4_ok nm_4 rfl rfl rfl (al_at 135 (by decide +kernel) rfl)
theorem ok_su_turnOff : rx_okF prog_10_method_14_code 1 none L_su_turnOff 0 L_su_turnOff = true := by decide +kernel
theorem V_su_turnOff {l : Launch} {D : va_G} {g : Nat → ClassId} {ad : Nat → Nat} {B : Nat} (had : mx_A ad B) : rx_V l D g ad B ⟨"SubscriberLines$Subscriber", "turnOff", "()V"⟩ prog_10_method_14_code 1 none 0 0 K_su_turnOff := by
  intro av x hp
  obtain ⟨a0, rfl⟩ := k_R_inv hp
  have hp : mx_kl a0 = 4 := hp
  exact rx_met (k := 0) had (by decide) (Nat.le_of_ble_eq_true rfl) ok_su_turnOff rfl rfl 12 (fun p e s m args below meth c X => And.intro (og_su_28_p X) (And.intro (og_su_52_p X) (And.intro (og_su_96_p X) (trivial)))) (S_su_turnOff x.1 x.2 a0 hp) (E_su_turnOff x.1 x.2 a0)
def su_leave (c : mx_C) (t : Nat) : mx_C :=
  if (su_hasLink c t) = 0 then
    let c1 := su_turnOff c t
    c1
  else
    let q2 := fl_launch c 3 (c.1 t 1) 4
    let c3 := pk_bear q2.1 q2.2 (q2.1.1 t 6) 0 0
    let c4 := su_turnOff c3 t
    c4
def K_su_leave : rx_K mx := k_R (fun a0 c m => (mx_kl a0 = 4, (su_leave c a0, m), none))
def L_su_leave : List (rx_E mx) := [
  (0, .aload_n 0, 1, 0, 0, 0, [], kno),
  (1, .invokevirtual 70, 3, 7, 1, 0, [], K_su_hasLink),
  (4, .ifCond .eq 25, 3, 2, 15, 0, [], kno),
  (7, .aload_n 0, 1, 0, 0, 0, [], kno),
  (8, .getfield 24, 3, 7, 1, 0, [], kgr0 4 2 1),
  (11, .iconst 3, 1, 0, 0, 3, [], kno),
  (12, .aload_n 0, 1, 0, 0, 0, [], kno),
  (13, .getfield 20, 3, 7, 1, 0, [], kgi 4 1),
  (16, .iconst 4, 1, 0, 0, 4, [], kno),
  (17, .invokevirtual 46, 3, 7, 4, 0, [], K_fl_launch),
  (20, .aload_n 0, 1, 0, 0, 0, [], kno),
  (21, .getfield 52, 3, 7, 1, 0, [], kgi 4 6),
  (24, .iconst 0, 1, 0, 0, 0, [], kno),
  (25, .iconst 0, 1, 0, 0, 0, [], kno),
  (26, .invokevirtual 55, 3, 7, 4, 0, [], K_pk_bear),
  (29, .aload_n 0, 1, 0, 0, 0, [], kno),
  (30, .invokevirtual 87, 3, 7, 1, 0, [], K_su_turnOff),
  (33, .return_, 1, 6, 0, 0, [], kno)]
theorem E_su_leave (c : mx_C) (m : mx_M) (t : Nat)  : rx_ev L_su_leave [] 20 L_su_leave (c, m) [some (.ref t)] [] = rw_v m (su_leave c t) :=
  rx_ite2 (f := rw_v m) (fun _ => rfl) (fun _ => rfl)
theorem S_su_leave (c : mx_C) (m : mx_M) (t : Nat) (ht : mx_kl t = 4) : rx_sf L_su_leave [] 20 L_su_leave (c, m) [some (.ref t)] [] :=
  And.intro ht (And.intro (fun h0 => And.intro ht (trivial)) (fun h0 => And.intro ht (And.intro ht (And.intro rfl (And.intro ht (And.intro (fl_launch_pk _ _ _ _) (And.intro ht (trivial))))))))

theorem cv_su_hasLink {p : Program} {l : Launch} {e : Env} {R : Room} {s : State} {m : MethodId} {args : Array Value} {below : List Frame} {meth : Method} {c : Code} {cc : ByteArray} {nL : Nat} {ad : Nat → Nat} {D : va_G} {g : Nat → ClassId} {B : Nat} {own : String} {idx : Nat} (X : ox_C p s m args c cc nL own D g ad B) (hV : rx_V l D g ad B ⟨"SubscriberLines$Subscriber", "hasLink", "()Z"⟩ prog_10_method_7_code 1 (some .boolean) 0 0 K_su_hasLink) (hl : Cond.methodLink own idx ⟨"SubscriberLines$Subscriber", "hasLink", "()Z"⟩ ∈ al) (hR : 0 + 1 ≤ R.frames ∧ 8 + (1 + 11) + 0 ≤ R.locals) : rx_OK p l e R s m args below meth c cc nL ad (mx_W D g ad B s.heap) mx_cs (.invokevirtual idx) 3 1 (K_su_hasLink) :=
  ox_callV (q := 4) (T := T_4) X hV (fun av x h => by obtain ⟨a0, rfl⟩ := k_R_inv h; exact ⟨a0, _, rfl, h⟩) (by decide) rfl hl (al_at 391 (by decide +kernel) rfl) (al_pr (y := (⟨"SubscriberLines$Subscriber", "hasLink", "()Z"⟩, _)) 2 rfl) (al_at 5 (by decide +kernel) rfl) (al_at 392 (by decide +kernel) rfl) ⟨by decide, by decide, by decide +kernel⟩ hR
theorem og_su_24_g {p : Program} {l : Launch} {e : Env} {R : Room} {s : State} {m : MethodId} {args : Array Value} {below : List Frame} {meth : Method} {c : Code} {cc : ByteArray} {nL : Nat} {ad : Nat → Nat} {D : va_G} {g : Nat → ClassId} {B : Nat} (X : ox_C p s m args c cc nL "SubscriberLines$Subscriber" D g ad B) : rx_OK p l e R s m args below meth c cc nL ad (mx_W D g ad B s.heap) mx_cs (.getfield 24) 3 1 (kgr0 4 2 1) := ox_gr0 (T := T_4) X rfl (by decide) (by decide) in_4 rfl (al_at 130 (by decide +kernel) rfl)
theorem og_su_20_g {p : Program} {l : Launch} {e : Env} {R : Room} {s : State} {m : MethodId} {args : Array Value} {below : List Frame} {meth : Method} {c : Code} {cc : ByteArray} {nL : Nat} {ad : Nat → Nat} {D : va_G} {g : Nat → ClassId} {B : Nat} (X : ox_C p s m args c cc nL "SubscriberLines$Subscriber" D g ad B) : rx_OK p l e R s m args below meth c cc nL ad (mx_W D g ad B s.heap) mx_cs (.getfield 20) 3 1 (kgi 4 1) := ox_gi (T := T_4) X rfl (by decide) (by decide) in_4 rfl (al_at 129 (by decide +kernel) rfl)
theorem cv_fl_launch {p : Program} {l : Launch} {e : Env} {R : Room} {s : State} {m : MethodId} {args : Array Value} {below : List Frame} {meth : Method} {c : Code} {cc : ByteArray} {nL : Nat} {ad : Nat → Nat} {D : va_G} {g : Nat → ClassId} {B : Nat} {own : String} {idx : Nat} (X : ox_C p s m args c cc nL own D g ad B) (hV : rx_V l D g ad B ⟨"SubscriberLines$Flight", "launch", "(III)LSubscriberLines$Packet;"⟩ prog_4_method_3_code 5 (some (.object "SubscriberLines$Packet")) 0 0 K_fl_launch) (hl : Cond.methodLink own idx ⟨"SubscriberLines$Flight", "launch", "(III)LSubscriberLines$Packet;"⟩ ∈ al) (hR : 0 + 1 ≤ R.frames ∧ 8 + (5 + 11) + 0 ≤ R.locals) : rx_OK p l e R s m args below meth c cc nL ad (mx_W D g ad B s.heap) mx_cs (.invokevirtual idx) 3 4 (K_fl_launch) :=
  ox_callV (q := 1) (T := T_1) X hV (fun av x h => by obtain ⟨a0, a1, a2, a3, rfl⟩ := k_RIII_inv h; exact ⟨a0, _, rfl, by have h2 : a0 = 1 := h; rw [h2]; rfl⟩) (by decide) rfl hl (al_at 370 (by decide +kernel) rfl) (al_at 371 (by decide +kernel) rfl) (al_at 2 (by decide +kernel) rfl) (al_at 372 (by decide +kernel) rfl) ⟨by decide, by decide, by decide +kernel⟩ hR
theorem og_su_52_g {p : Program} {l : Launch} {e : Env} {R : Room} {s : State} {m : MethodId} {args : Array Value} {below : List Frame} {meth : Method} {c : Code} {cc : ByteArray} {nL : Nat} {ad : Nat → Nat} {D : va_G} {g : Nat → ClassId} {B : Nat} (X : ox_C p s m args c cc nL "SubscriberLines$Subscriber" D g ad B) : rx_OK p l e R s m args below meth c cc nL ad (mx_W D g ad B s.heap) mx_cs (.getfield 52) 3 1 (kgi 4 6) := ox_gi (T := T_4) X rfl (by decide) (by decide) in_4 rfl (al_at 137 (by decide +kernel) rfl)
theorem cv_pk_bear {p : Program} {l : Launch} {e : Env} {R : Room} {s : State} {m : MethodId} {args : Array Value} {below : List Frame} {meth : Method} {c : Code} {cc : ByteArray} {nL : Nat} {ad : Nat → Nat} {D : va_G} {g : Nat → ClassId} {B : Nat} {own : String} {idx : Nat} (X : ox_C p s m args c cc nL own D g ad B) (hV : rx_V l D g ad B ⟨"SubscriberLines$Packet", "bear", "(III)V"⟩ prog_7_method_2_code 4 none 0 0 K_pk_bear) (hl : Cond.methodLink own idx ⟨"SubscriberLines$Packet", "bear", "(III)V"⟩ ∈ al) (hR : 0 + 1 ≤ R.frames ∧ 8 + (4 + 11) + 0 ≤ R.locals) : rx_OK p l e R s m args below meth c cc nL ad (mx_W D g ad B s.heap) mx_cs (.invokevirtual idx) 3 4 (K_pk_bear) :=
  ox_callV (q := 2) (T := T_2) X hV (fun av x h => by obtain ⟨a0, a1, a2, a3, rfl⟩ := k_RIII_inv h; exact ⟨a0, _, rfl, h⟩) (by decide) rfl hl (al_at 374 (by decide +kernel) rfl) (al_at 375 (by decide +kernel) rfl) (al_at 3 (by decide +kernel) rfl) (al_at 376 (by decide +kernel) rfl) ⟨by decide, by decide, by decide +kernel⟩ hR
theorem cv_su_turnOff {p : Program} {l : Launch} {e : Env} {R : Room} {s : State} {m : MethodId} {args : Array Value} {below : List Frame} {meth : Method} {c : Code} {cc : ByteArray} {nL : Nat} {ad : Nat → Nat} {D : va_G} {g : Nat → ClassId} {B : Nat} {own : String} {idx : Nat} (X : ox_C p s m args c cc nL own D g ad B) (hV : rx_V l D g ad B ⟨"SubscriberLines$Subscriber", "turnOff", "()V"⟩ prog_10_method_14_code 1 none 0 0 K_su_turnOff) (hl : Cond.methodLink own idx ⟨"SubscriberLines$Subscriber", "turnOff", "()V"⟩ ∈ al) (hR : 0 + 1 ≤ R.frames ∧ 8 + (1 + 11) + 0 ≤ R.locals) : rx_OK p l e R s m args below meth c cc nL ad (mx_W D g ad B s.heap) mx_cs (.invokevirtual idx) 3 1 (K_su_turnOff) :=
  ox_callV (q := 4) (T := T_4) X hV (fun av x h => by obtain ⟨a0, rfl⟩ := k_R_inv h; exact ⟨a0, _, rfl, h⟩) (by decide) rfl hl (al_at 395 (by decide +kernel) rfl) (al_pr (y := (⟨"SubscriberLines$Subscriber", "turnOff", "()V"⟩, _)) 3 rfl) (al_at 5 (by decide +kernel) rfl) (al_at 396 (by decide +kernel) rfl) ⟨by decide, by decide, by decide +kernel⟩ hR
theorem ok_su_leave : rx_okF prog_10_method_13_code 1 none L_su_leave 0 L_su_leave = true := by decide +kernel
theorem V_su_leave {l : Launch} {D : va_G} {g : Nat → ClassId} {ad : Nat → Nat} {B : Nat} (had : mx_A ad B) : rx_V l D g ad B ⟨"SubscriberLines$Subscriber", "leave", "()V"⟩ prog_10_method_13_code 1 none 1 24 K_su_leave := by
  intro av x hp
  obtain ⟨a0, rfl⟩ := k_R_inv hp
  have hp : mx_kl a0 = 4 := hp
  exact rx_met (k := 0) had (by decide) (Nat.le_of_ble_eq_true rfl) ok_su_leave rfl rfl 20 (fun p e s m args below meth c X => And.intro (cv_su_hasLink X (V_su_hasLink had) (al_at 389 (by decide +kernel) rfl) ⟨by decide, by decide⟩) (And.intro (og_su_24_g X) (And.intro (og_su_20_g X) (And.intro (cv_fl_launch X (V_fl_launch had) (al_at 369 (by decide +kernel) rfl) ⟨by decide, by decide⟩) (And.intro (og_su_52_g X) (And.intro (cv_pk_bear X (V_pk_bear had) (al_at 373 (by decide +kernel) rfl) ⟨by decide, by decide⟩) (And.intro (cv_su_turnOff X (V_su_turnOff had) (al_at 393 (by decide +kernel) rfl) ⟨by decide, by decide⟩) (trivial)))))))) (S_su_leave x.1 x.2 a0 hp) (E_su_leave x.1 x.2 a0)
def su_request (c : mx_C) (t : Nat) : mx_C :=
  let c1 := mx_pi c t 9 ((c.1 t 9) + 1)
  let c2 := mx_pi c1 t 10 0
  if (c2.1 t 4) = 1 then
    let q3 := fl_launch c2 1 (c2.1 t 1) 4
    q3.1
  else
    let q4 := fl_launch c2 4 (c2.1 t 1) 4
    let c5 := pk_bear q4.1 q4.2 (q4.1.1 t 6) (q4.1.1 t 7) (q4.1.1 t 8)
    c5
def K_su_request : rx_K mx := k_R (fun a0 c m => (mx_kl a0 = 4, (su_request c a0, m), none))
def L_su_request : List (rx_E mx) := [
  (0, .aload_n 0, 1, 0, 0, 0, [], kno),
  (1, .dup, 1, 0, 0, 0, [], kno),
  (2, .getfield 37, 3, 7, 1, 0, [], kgi 4 9),
  (5, .iconst 1, 1, 0, 0, 1, [], kno),
  (6, .iadd, 1, 0, 0, 0, [], kno),
  (7, .putfield 37, 3, 7, 2, 0, [], kpi 4 9),
  (10, .aload_n 0, 1, 0, 0, 0, [], kno),
  (11, .iconst 0, 1, 0, 0, 0, [], kno),
  (12, .putfield 81, 3, 7, 2, 0, [], kpi 4 10),
  (15, .aload_n 0, 1, 0, 0, 0, [], kno),
  (16, .getfield 28, 3, 7, 1, 0, [], kgi 4 4),
  (19, .iconst 1, 1, 0, 0, 1, [], kno),
  (20, .if_icmp .ne 20, 3, 2, 22, 0, [], kno),
  (23, .aload_n 0, 1, 0, 0, 0, [], kno),
  (24, .getfield 24, 3, 7, 1, 0, [], kgr0 4 2 1),
  (27, .iconst 1, 1, 0, 0, 1, [], kno),
  (28, .aload_n 0, 1, 0, 0, 0, [], kno),
  (29, .getfield 20, 3, 7, 1, 0, [], kgi 4 1),
  (32, .iconst 4, 1, 0, 0, 4, [], kno),
  (33, .invokevirtual 46, 3, 7, 4, 0, [], K_fl_launch),
  (36, .pop, 1, 0, 0, 0, [], kno),
  (37, .goto 31, 3, 1, 36, 0, [], kno),
  (40, .aload_n 0, 1, 0, 0, 0, [], kno),
  (41, .getfield 24, 3, 7, 1, 0, [], kgr0 4 2 1),
  (44, .iconst 4, 1, 0, 0, 4, [], kno),
  (45, .aload_n 0, 1, 0, 0, 0, [], kno),
  (46, .getfield 20, 3, 7, 1, 0, [], kgi 4 1),
  (49, .iconst 4, 1, 0, 0, 4, [], kno),
  (50, .invokevirtual 46, 3, 7, 4, 0, [], K_fl_launch),
  (53, .aload_n 0, 1, 0, 0, 0, [], kno),
  (54, .getfield 52, 3, 7, 1, 0, [], kgi 4 6),
  (57, .aload_n 0, 1, 0, 0, 0, [], kno),
  (58, .getfield 31, 3, 7, 1, 0, [], kgi 4 7),
  (61, .aload_n 0, 1, 0, 0, 0, [], kno),
  (62, .getfield 34, 3, 7, 1, 0, [], kgi 4 8),
  (65, .invokevirtual 55, 3, 7, 4, 0, [], K_pk_bear),
  (68, .return_, 1, 6, 0, 0, [], kno)]
theorem E_su_request (c : mx_C) (m : mx_M) (t : Nat)  : rx_ev L_su_request [] 39 L_su_request (c, m) [some (.ref t)] [] = rw_v m (su_request c t) :=
  rx_ite2 (f := rw_v m) (fun _ => rfl) (fun _ => rfl)
theorem S_su_request (c : mx_C) (m : mx_M) (t : Nat) (ht : mx_kl t = 4) : rx_sf L_su_request [] 39 L_su_request (c, m) [some (.ref t)] [] :=
  And.intro ht (And.intro ht (And.intro ht (And.intro ht (And.intro (fun h0 => And.intro ht (And.intro ht (And.intro rfl (trivial)))) (fun h0 => And.intro ht (And.intro ht (And.intro rfl (And.intro ht (And.intro ht (And.intro ht (And.intro (fl_launch_pk _ _ _ _) (trivial))))))))))))

theorem og_su_37_g {p : Program} {l : Launch} {e : Env} {R : Room} {s : State} {m : MethodId} {args : Array Value} {below : List Frame} {meth : Method} {c : Code} {cc : ByteArray} {nL : Nat} {ad : Nat → Nat} {D : va_G} {g : Nat → ClassId} {B : Nat} (X : ox_C p s m args c cc nL "SubscriberLines$Subscriber" D g ad B) : rx_OK p l e R s m args below meth c cc nL ad (mx_W D g ad B s.heap) mx_cs (.getfield 37) 3 1 (kgi 4 9) := ox_gi (T := T_4) X rfl (by decide) (by decide) in_4 rfl (al_at 140 (by decide +kernel) rfl)
theorem og_su_37_p {p : Program} {l : Launch} {e : Env} {R : Room} {s : State} {m : MethodId} {args : Array Value} {below : List Frame} {meth : Method} {c : Code} {cc : ByteArray} {nL : Nat} {ad : Nat → Nat} {D : va_G} {g : Nat → ClassId} {B : Nat} (X : ox_C p s m args c cc nL "SubscriberLines$Subscriber" D g ad B) : rx_OK p l e R s m args below meth c cc nL ad (mx_W D g ad B s.heap) mx_cs (.putfield 37) 3 2 (kpi 4 9) := ox_pi (T := T_4) X rfl (by decide) (by decide) in_4 rfl ty_4 ty_4_ok nm_4 rfl rfl rfl (al_at 140 (by decide +kernel) rfl)
theorem og_su_81_p {p : Program} {l : Launch} {e : Env} {R : Room} {s : State} {m : MethodId} {args : Array Value} {below : List Frame} {meth : Method} {c : Code} {cc : ByteArray} {nL : Nat} {ad : Nat → Nat} {D : va_G} {g : Nat → ClassId} {B : Nat} (X : ox_C p s m args c cc nL "SubscriberLines$Subscriber" D g ad B) : rx_OK p l e R s m args below meth c cc nL ad (mx_W D g ad B s.heap) mx_cs (.putfield 81) 3 2 (kpi 4 10) := ox_pi (T := T_4) X rfl (by decide) (by decide) in_4 rfl ty_4 ty_4_ok nm_4 rfl rfl rfl (al_at 141 (by decide +kernel) rfl)
theorem og_su_31_g {p : Program} {l : Launch} {e : Env} {R : Room} {s : State} {m : MethodId} {args : Array Value} {below : List Frame} {meth : Method} {c : Code} {cc : ByteArray} {nL : Nat} {ad : Nat → Nat} {D : va_G} {g : Nat → ClassId} {B : Nat} (X : ox_C p s m args c cc nL "SubscriberLines$Subscriber" D g ad B) : rx_OK p l e R s m args below meth c cc nL ad (mx_W D g ad B s.heap) mx_cs (.getfield 31) 3 1 (kgi 4 7) := ox_gi (T := T_4) X rfl (by decide) (by decide) in_4 rfl (al_at 138 (by decide +kernel) rfl)
theorem og_su_34_g {p : Program} {l : Launch} {e : Env} {R : Room} {s : State} {m : MethodId} {args : Array Value} {below : List Frame} {meth : Method} {c : Code} {cc : ByteArray} {nL : Nat} {ad : Nat → Nat} {D : va_G} {g : Nat → ClassId} {B : Nat} (X : ox_C p s m args c cc nL "SubscriberLines$Subscriber" D g ad B) : rx_OK p l e R s m args below meth c cc nL ad (mx_W D g ad B s.heap) mx_cs (.getfield 34) 3 1 (kgi 4 8) := ox_gi (T := T_4) X rfl (by decide) (by decide) in_4 rfl (al_at 139 (by decide +kernel) rfl)
theorem ok_su_request : rx_okF prog_10_method_11_code 1 none L_su_request 0 L_su_request = true := by decide +kernel
theorem V_su_request {l : Launch} {D : va_G} {g : Nat → ClassId} {ad : Nat → Nat} {B : Nat} (had : mx_A ad B) : rx_V l D g ad B ⟨"SubscriberLines$Subscriber", "request", "()V"⟩ prog_10_method_11_code 1 none 1 24 K_su_request := by
  intro av x hp
  obtain ⟨a0, rfl⟩ := k_R_inv hp
  have hp : mx_kl a0 = 4 := hp
  exact rx_met (k := 0) had (by decide) (Nat.le_of_ble_eq_true rfl) ok_su_request rfl rfl 39 (fun p e s m args below meth c X => And.intro (og_su_37_g X) (And.intro (og_su_37_p X) (And.intro (og_su_81_p X) (And.intro (og_su_28_g X) (And.intro (og_su_24_g X) (And.intro (og_su_20_g X) (And.intro (cv_fl_launch X (V_fl_launch had) (al_at 369 (by decide +kernel) rfl) ⟨by decide, by decide⟩) (And.intro (og_su_24_g X) (And.intro (og_su_20_g X) (And.intro (cv_fl_launch X (V_fl_launch had) (al_at 369 (by decide +kernel) rfl) ⟨by decide, by decide⟩) (And.intro (og_su_52_g X) (And.intro (og_su_31_g X) (And.intro (og_su_34_g X) (And.intro (cv_pk_bear X (V_pk_bear had) (al_at 373 (by decide +kernel) rfl) ⟨by decide, by decide⟩) (trivial))))))))))))))) (S_su_request x.1 x.2 a0 hp) (E_su_request x.1 x.2 a0)
def su_requestAgain (c : mx_C) (t : Nat) : mx_C :=
  if (c.1 t 9) = 4 then
    let c1 := su_leave c t
    c1
  else
    let c2 := su_request c t
    c2
def K_su_requestAgain : rx_K mx := k_R (fun a0 c m => (mx_kl a0 = 4, (su_requestAgain c a0, m), none))
def L_su_requestAgain : List (rx_E mx) := [
  (0, .aload_n 0, 1, 0, 0, 0, [], kno),
  (1, .getfield 37, 3, 7, 1, 0, [], kgi 4 9),
  (4, .iconst 4, 1, 0, 0, 4, [], kno),
  (5, .if_icmp .ne 10, 3, 2, 7, 0, [], kno),
  (8, .aload_n 0, 1, 0, 0, 0, [], kno),
  (9, .invokevirtual 43, 3, 7, 1, 0, [], K_su_leave),
  (12, .goto 7, 3, 1, 9, 0, [], kno),
  (15, .aload_n 0, 1, 0, 0, 0, [], kno),
  (16, .invokevirtual 40, 3, 7, 1, 0, [], K_su_request),
  (19, .return_, 1, 6, 0, 0, [], kno)]
theorem E_su_requestAgain (c : mx_C) (m : mx_M) (t : Nat)  : rx_ev L_su_requestAgain [] 12 L_su_requestAgain (c, m) [some (.ref t)] [] = rw_v m (su_requestAgain c t) :=
  rx_ite2 (f := rw_v m) (fun _ => rfl) (fun _ => rfl)
theorem S_su_requestAgain (c : mx_C) (m : mx_M) (t : Nat) (ht : mx_kl t = 4) : rx_sf L_su_requestAgain [] 12 L_su_requestAgain (c, m) [some (.ref t)] [] :=
  And.intro ht (And.intro (fun h0 => And.intro ht (trivial)) (fun h0 => And.intro ht (trivial)))

theorem cv_su_leave {p : Program} {l : Launch} {e : Env} {R : Room} {s : State} {m : MethodId} {args : Array Value} {below : List Frame} {meth : Method} {c : Code} {cc : ByteArray} {nL : Nat} {ad : Nat → Nat} {D : va_G} {g : Nat → ClassId} {B : Nat} {own : String} {idx : Nat} (X : ox_C p s m args c cc nL own D g ad B) (hV : rx_V l D g ad B ⟨"SubscriberLines$Subscriber", "leave", "()V"⟩ prog_10_method_13_code 1 none 1 24 K_su_leave) (hl : Cond.methodLink own idx ⟨"SubscriberLines$Subscriber", "leave", "()V"⟩ ∈ al) (hR : 1 + 1 ≤ R.frames ∧ 8 + (1 + 11) + 24 ≤ R.locals) : rx_OK p l e R s m args below meth c cc nL ad (mx_W D g ad B s.heap) mx_cs (.invokevirtual idx) 3 1 (K_su_leave) :=
  ox_callV (q := 4) (T := T_4) X hV (fun av x h => by obtain ⟨a0, rfl⟩ := k_R_inv h; exact ⟨a0, _, rfl, h⟩) (by decide) rfl hl (al_at 387 (by decide +kernel) rfl) (al_pr (y := (⟨"SubscriberLines$Subscriber", "leave", "()V"⟩, _)) 1 rfl) (al_at 5 (by decide +kernel) rfl) (al_at 388 (by decide +kernel) rfl) ⟨by decide, by decide, by decide +kernel⟩ hR
theorem cv_su_request {p : Program} {l : Launch} {e : Env} {R : Room} {s : State} {m : MethodId} {args : Array Value} {below : List Frame} {meth : Method} {c : Code} {cc : ByteArray} {nL : Nat} {ad : Nat → Nat} {D : va_G} {g : Nat → ClassId} {B : Nat} {own : String} {idx : Nat} (X : ox_C p s m args c cc nL own D g ad B) (hV : rx_V l D g ad B ⟨"SubscriberLines$Subscriber", "request", "()V"⟩ prog_10_method_11_code 1 none 1 24 K_su_request) (hl : Cond.methodLink own idx ⟨"SubscriberLines$Subscriber", "request", "()V"⟩ ∈ al) (hR : 1 + 1 ≤ R.frames ∧ 8 + (1 + 11) + 24 ≤ R.locals) : rx_OK p l e R s m args below meth c cc nL ad (mx_W D g ad B s.heap) mx_cs (.invokevirtual idx) 3 1 (K_su_request) :=
  ox_callV (q := 4) (T := T_4) X hV (fun av x h => by obtain ⟨a0, rfl⟩ := k_R_inv h; exact ⟨a0, _, rfl, h⟩) (by decide) rfl hl (al_at 367 (by decide +kernel) rfl) (al_pr (y := (⟨"SubscriberLines$Subscriber", "request", "()V"⟩, _)) 0 rfl) (al_at 5 (by decide +kernel) rfl) (al_at 368 (by decide +kernel) rfl) ⟨by decide, by decide, by decide +kernel⟩ hR
theorem ok_su_requestAgain : rx_okF prog_10_method_12_code 1 none L_su_requestAgain 0 L_su_requestAgain = true := by decide +kernel
theorem V_su_requestAgain {l : Launch} {D : va_G} {g : Nat → ClassId} {ad : Nat → Nat} {B : Nat} (had : mx_A ad B) : rx_V l D g ad B ⟨"SubscriberLines$Subscriber", "requestAgain", "()V"⟩ prog_10_method_12_code 1 none 2 44 K_su_requestAgain := by
  intro av x hp
  obtain ⟨a0, rfl⟩ := k_R_inv hp
  have hp : mx_kl a0 = 4 := hp
  exact rx_met (k := 0) had (by decide) (Nat.le_of_ble_eq_true rfl) ok_su_requestAgain rfl rfl 12 (fun p e s m args below meth c X => And.intro (og_su_37_g X) (And.intro (cv_su_leave X (V_su_leave had) (al_at 385 (by decide +kernel) rfl) ⟨by decide, by decide⟩) (And.intro (cv_su_request X (V_su_request had) (al_at 365 (by decide +kernel) rfl) ⟨by decide, by decide⟩) (trivial)))) (S_su_requestAgain x.1 x.2 a0 hp) (E_su_requestAgain x.1 x.2 a0)
def su_connect (c : mx_C) (t : Nat) (a1 : Int32) (a2 : Int32) : mx_C × Int32 :=
  if (c.1 t 4) = 0 then
    let c1 := mx_pi c t 7 a1
    let c2 := mx_pi c1 t 8 a2
    let c3 := mx_pi c2 t 4 1
    let c4 := mx_pi c3 t 9 0
    let c5 := su_request c4 t
    (c5, 1)
  else
    (c, 0)
def K_su_connect : rx_K mx := k_RII (fun a0 a1 a2 c m => (mx_kl a0 = 4, ((su_connect c a0 a1 a2).1, m), some (.int (su_connect c a0 a1 a2).2)))
def L_su_connect : List (rx_E mx) := [
  (0, .aload_n 0, 1, 0, 0, 0, [], kno),
  (1, .getfield 28, 3, 7, 1, 0, [], kgi 4 4),
  (4, .ifCond .eq 5, 3, 2, 5, 0, [], kno),
  (7, .iconst 0, 1, 0, 0, 0, [], kno),
  (8, .ireturn, 1, 5, 1, 0, [], kno),
  (9, .aload_n 0, 1, 0, 0, 0, [], kno),
  (10, .iload_n 1, 1, 0, 1, 0, [], kno),
  (11, .putfield 31, 3, 7, 2, 0, [], kpi 4 7),
  (14, .aload_n 0, 1, 0, 0, 0, [], kno),
  (15, .iload_n 2, 1, 0, 2, 0, [], kno),
  (16, .putfield 34, 3, 7, 2, 0, [], kpi 4 8),
  (19, .aload_n 0, 1, 0, 0, 0, [], kno),
  (20, .iconst 1, 1, 0, 0, 1, [], kno),
  (21, .putfield 28, 3, 7, 2, 0, [], kpi 4 4),
  (24, .aload_n 0, 1, 0, 0, 0, [], kno),
  (25, .iconst 0, 1, 0, 0, 0, [], kno),
  (26, .putfield 37, 3, 7, 2, 0, [], kpi 4 9),
  (29, .aload_n 0, 1, 0, 0, 0, [], kno),
  (30, .invokevirtual 40, 3, 7, 1, 0, [], K_su_request),
  (33, .iconst 1, 1, 0, 0, 1, [], kno),
  (34, .ireturn, 1, 5, 1, 0, [], kno)]
theorem E_su_connect (c : mx_C) (m : mx_M) (t : Nat) (a1 : Int32) (a2 : Int32)  : rx_ev L_su_connect [] 23 L_su_connect (c, m) [some (.ref t), some (.int a1), some (.int a2)] [] = rw_i m (su_connect c t a1 a2) :=
  rx_ite2 (f := rw_i m) (fun _ => rfl) (fun _ => rfl)
theorem S_su_connect (c : mx_C) (m : mx_M) (t : Nat) (a1 : Int32) (a2 : Int32) (ht : mx_kl t = 4) : rx_sf L_su_connect [] 23 L_su_connect (c, m) [some (.ref t), some (.int a1), some (.int a2)] [] :=
  And.intro ht (And.intro (fun h0 => And.intro ht (And.intro ht (And.intro ht (And.intro ht (And.intro ht (Or.inr rfl)))))) (fun h0 => Or.inl rfl))

theorem og_su_31_p {p : Program} {l : Launch} {e : Env} {R : Room} {s : State} {m : MethodId} {args : Array Value} {below : List Frame} {meth : Method} {c : Code} {cc : ByteArray} {nL : Nat} {ad : Nat → Nat} {D : va_G} {g : Nat → ClassId} {B : Nat} (X : ox_C p s m args c cc nL "SubscriberLines$Subscriber" D g ad B) : rx_OK p l e R s m args below meth c cc nL ad (mx_W D g ad B s.heap) mx_cs (.putfield 31) 3 2 (kpi 4 7) := ox_pi (T := T_4) X rfl (by decide) (by decide) in_4 rfl ty_4 ty_4_ok nm_4 rfl rfl rfl (al_at 138 (by decide +kernel) rfl)
theorem og_su_34_p {p : Program} {l : Launch} {e : Env} {R : Room} {s : State} {m : MethodId} {args : Array Value} {below : List Frame} {meth : Method} {c : Code} {cc : ByteArray} {nL : Nat} {ad : Nat → Nat} {D : va_G} {g : Nat → ClassId} {B : Nat} (X : ox_C p s m args c cc nL "SubscriberLines$Subscriber" D g ad B) : rx_OK p l e R s m args below meth c cc nL ad (mx_W D g ad B s.heap) mx_cs (.putfield 34) 3 2 (kpi 4 8) := ox_pi (T := T_4) X rfl (by decide) (by decide) in_4 rfl ty_4 ty_4_ok nm_4 rfl rfl rfl (al_at 139 (by decide +kernel) rfl)
theorem ok_su_connect : rx_okF prog_10_method_2_code 3 (some .boolean) L_su_connect 0 L_su_connect = true := by decide +kernel
theorem V_su_connect {l : Launch} {D : va_G} {g : Nat → ClassId} {ad : Nat → Nat} {B : Nat} (had : mx_A ad B) : rx_V l D g ad B ⟨"SubscriberLines$Subscriber", "connect", "(II)Z"⟩ prog_10_method_2_code 3 (some .boolean) 2 44 K_su_connect := by
  intro av x hp
  obtain ⟨a0, a1, a2, rfl⟩ := k_RII_inv hp
  have hp : mx_kl a0 = 4 := hp
  exact rx_met (k := 0) had (by decide) (Nat.le_of_ble_eq_true rfl) ok_su_connect rfl rfl 23 (fun p e s m args below meth c X => And.intro (og_su_28_g X) (And.intro (og_su_31_p X) (And.intro (og_su_34_p X) (And.intro (og_su_28_p X) (And.intro (og_su_37_p X) (And.intro (cv_su_request X (V_su_request had) (al_at 365 (by decide +kernel) rfl) ⟨by decide, by decide⟩) (trivial))))))) (S_su_connect x.1 x.2 a0 a1 a2 hp) (E_su_connect x.1 x.2 a0 a1 a2)
def su_disconnect (c : mx_C) (t : Nat) : mx_C × Int32 :=
  if (c.1 t 4) = 0 then
    (c, 0)
  else
    let c1 := su_leave c t
    (c1, 1)
def K_su_disconnect : rx_K mx := k_R (fun a0 c m => (mx_kl a0 = 4, ((su_disconnect c a0).1, m), some (.int (su_disconnect c a0).2)))
def L_su_disconnect : List (rx_E mx) := [
  (0, .aload_n 0, 1, 0, 0, 0, [], kno),
  (1, .getfield 28, 3, 7, 1, 0, [], kgi 4 4),
  (4, .ifCond .ne 5, 3, 2, 5, 0, [], kno),
  (7, .iconst 0, 1, 0, 0, 0, [], kno),
  (8, .ireturn, 1, 5, 1, 0, [], kno),
  (9, .aload_n 0, 1, 0, 0, 0, [], kno),
  (10, .invokevirtual 43, 3, 7, 1, 0, [], K_su_leave),
  (13, .iconst 1, 1, 0, 0, 1, [], kno),
  (14, .ireturn, 1, 5, 1, 0, [], kno)]
theorem E_su_disconnect (c : mx_C) (m : mx_M) (t : Nat)  : rx_ev L_su_disconnect [] 11 L_su_disconnect (c, m) [some (.ref t)] [] = rw_i m (su_disconnect c t) :=
  rx_ite2 (f := rw_i m) (fun _ => rfl) (fun _ => rfl)
theorem S_su_disconnect (c : mx_C) (m : mx_M) (t : Nat) (ht : mx_kl t = 4) : rx_sf L_su_disconnect [] 11 L_su_disconnect (c, m) [some (.ref t)] [] :=
  And.intro ht (And.intro (fun h0 => Or.inl rfl) (fun h0 => And.intro ht (Or.inr rfl)))

theorem ok_su_disconnect : rx_okF prog_10_method_3_code 1 (some .boolean) L_su_disconnect 0 L_su_disconnect = true := by decide +kernel
theorem V_su_disconnect {l : Launch} {D : va_G} {g : Nat → ClassId} {ad : Nat → Nat} {B : Nat} (had : mx_A ad B) : rx_V l D g ad B ⟨"SubscriberLines$Subscriber", "disconnect", "()Z"⟩ prog_10_method_3_code 1 (some .boolean) 2 44 K_su_disconnect := by
  intro av x hp
  obtain ⟨a0, rfl⟩ := k_R_inv hp
  have hp : mx_kl a0 = 4 := hp
  exact rx_met (k := 0) had (by decide) (Nat.le_of_ble_eq_true rfl) ok_su_disconnect rfl rfl 11 (fun p e s m args below meth c X => And.intro (og_su_28_g X) (And.intro (cv_su_leave X (V_su_leave had) (al_at 385 (by decide +kernel) rfl) ⟨by decide, by decide⟩) (trivial))) (S_su_disconnect x.1 x.2 a0 hp) (E_su_disconnect x.1 x.2 a0)
def su_speak (c : mx_C) (t : Nat) (a1 : Int32) (a2 : Int32) : mx_C × Int32 :=
  if (c.1 t 4) = 3 then
    let q1 := fl_launch c 10 (c.1 t 1) 4
    let c2 := pk_bear q1.1 q1.2 (q1.1.1 t 6) a1 a2
    (c2, 1)
  else
    (c, 0)
def K_su_speak : rx_K mx := k_RII (fun a0 a1 a2 c m => (mx_kl a0 = 4, ((su_speak c a0 a1 a2).1, m), some (.int (su_speak c a0 a1 a2).2)))
def L_su_speak : List (rx_E mx) := [
  (0, .aload_n 0, 1, 0, 0, 0, [], kno),
  (1, .getfield 28, 3, 7, 1, 0, [], kgi 4 4),
  (4, .iconst 3, 1, 0, 0, 3, [], kno),
  (5, .if_icmp .eq 5, 3, 2, 6, 0, [], kno),
  (8, .iconst 0, 1, 0, 0, 0, [], kno),
  (9, .ireturn, 1, 5, 1, 0, [], kno),
  (10, .aload_n 0, 1, 0, 0, 0, [], kno),
  (11, .getfield 24, 3, 7, 1, 0, [], kgr0 4 2 1),
  (14, .bipush 10, 2, 0, 0, 10, [], kno),
  (16, .aload_n 0, 1, 0, 0, 0, [], kno),
  (17, .getfield 20, 3, 7, 1, 0, [], kgi 4 1),
  (20, .iconst 4, 1, 0, 0, 4, [], kno),
  (21, .invokevirtual 46, 3, 7, 4, 0, [], K_fl_launch),
  (24, .aload_n 0, 1, 0, 0, 0, [], kno),
  (25, .getfield 52, 3, 7, 1, 0, [], kgi 4 6),
  (28, .iload_n 1, 1, 0, 1, 0, [], kno),
  (29, .iload_n 2, 1, 0, 2, 0, [], kno),
  (30, .invokevirtual 55, 3, 7, 4, 0, [], K_pk_bear),
  (33, .iconst 1, 1, 0, 0, 1, [], kno),
  (34, .ireturn, 1, 5, 1, 0, [], kno)]
theorem E_su_speak (c : mx_C) (m : mx_M) (t : Nat) (a1 : Int32) (a2 : Int32)  : rx_ev L_su_speak [] 22 L_su_speak (c, m) [some (.ref t), some (.int a1), some (.int a2)] [] = rw_i m (su_speak c t a1 a2) :=
  rx_ite2 (f := rw_i m) (fun _ => rfl) (fun _ => rfl)
theorem S_su_speak (c : mx_C) (m : mx_M) (t : Nat) (a1 : Int32) (a2 : Int32) (ht : mx_kl t = 4) : rx_sf L_su_speak [] 22 L_su_speak (c, m) [some (.ref t), some (.int a1), some (.int a2)] [] :=
  And.intro ht (And.intro (fun h0 => And.intro ht (And.intro ht (And.intro rfl (And.intro ht (And.intro (fl_launch_pk _ _ _ _) (Or.inr rfl)))))) (fun h0 => Or.inl rfl))

theorem ok_su_speak : rx_okF prog_10_method_4_code 3 (some .boolean) L_su_speak 0 L_su_speak = true := by decide +kernel
theorem V_su_speak {l : Launch} {D : va_G} {g : Nat → ClassId} {ad : Nat → Nat} {B : Nat} (had : mx_A ad B) : rx_V l D g ad B ⟨"SubscriberLines$Subscriber", "speak", "(II)Z"⟩ prog_10_method_4_code 3 (some .boolean) 1 24 K_su_speak := by
  intro av x hp
  obtain ⟨a0, a1, a2, rfl⟩ := k_RII_inv hp
  have hp : mx_kl a0 = 4 := hp
  exact rx_met (k := 0) had (by decide) (Nat.le_of_ble_eq_true rfl) ok_su_speak rfl rfl 22 (fun p e s m args below meth c X => And.intro (og_su_28_g X) (And.intro (og_su_24_g X) (And.intro (og_su_20_g X) (And.intro (cv_fl_launch X (V_fl_launch had) (al_at 369 (by decide +kernel) rfl) ⟨by decide, by decide⟩) (And.intro (og_su_52_g X) (And.intro (cv_pk_bear X (V_pk_bear had) (al_at 373 (by decide +kernel) rfl) ⟨by decide, by decide⟩) (trivial))))))) (S_su_speak x.1 x.2 a0 a1 a2 hp) (E_su_speak x.1 x.2 a0 a1 a2)
def su_becomeLinked (c : mx_C) (t : Nat) (a1 : Int32) : mx_C :=
  if (c.1 t 4) = 1 then
    let c1 := mx_pi c t 6 a1
    let c2 := mx_pi c1 t 4 2
    let c3 := mx_pi c2 t 9 0
    let c4 := su_request c3 t
    c4
  else
    c
def K_su_becomeLinked : rx_K mx := k_RI (fun a0 a1 c m => (mx_kl a0 = 4, (su_becomeLinked c a0 a1, m), none))
def L_su_becomeLinked : List (rx_E mx) := [
  (0, .aload_n 0, 1, 0, 0, 0, [], kno),
  (1, .getfield 28, 3, 7, 1, 0, [], kgi 4 4),
  (4, .iconst 1, 1, 0, 0, 1, [], kno),
  (5, .if_icmp .ne 22, 3, 2, 15, 0, [], kno),
  (8, .aload_n 0, 1, 0, 0, 0, [], kno),
  (9, .iload_n 1, 1, 0, 1, 0, [], kno),
  (10, .putfield 52, 3, 7, 2, 0, [], kpi 4 6),
  (13, .aload_n 0, 1, 0, 0, 0, [], kno),
  (14, .iconst 2, 1, 0, 0, 2, [], kno),
  (15, .putfield 28, 3, 7, 2, 0, [], kpi 4 4),
  (18, .aload_n 0, 1, 0, 0, 0, [], kno),
  (19, .iconst 0, 1, 0, 0, 0, [], kno),
  (20, .putfield 37, 3, 7, 2, 0, [], kpi 4 9),
  (23, .aload_n 0, 1, 0, 0, 0, [], kno),
  (24, .invokevirtual 40, 3, 7, 1, 0, [], K_su_request),
  (27, .return_, 1, 6, 0, 0, [], kno)]
theorem E_su_becomeLinked (c : mx_C) (m : mx_M) (t : Nat) (a1 : Int32)  : rx_ev L_su_becomeLinked [] 18 L_su_becomeLinked (c, m) [some (.ref t), some (.int a1)] [] = rw_v m (su_becomeLinked c t a1) :=
  rx_ite2 (f := rw_v m) (fun _ => rfl) (fun _ => rfl)
theorem S_su_becomeLinked (c : mx_C) (m : mx_M) (t : Nat) (a1 : Int32) (ht : mx_kl t = 4) : rx_sf L_su_becomeLinked [] 18 L_su_becomeLinked (c, m) [some (.ref t), some (.int a1)] [] :=
  And.intro ht (And.intro (fun h0 => And.intro ht (And.intro ht (And.intro ht (And.intro ht (trivial))))) (fun h0 => trivial))

theorem ok_su_becomeLinked : rx_okF prog_10_method_8_code 2 none L_su_becomeLinked 0 L_su_becomeLinked = true := by decide +kernel
theorem V_su_becomeLinked {l : Launch} {D : va_G} {g : Nat → ClassId} {ad : Nat → Nat} {B : Nat} (had : mx_A ad B) : rx_V l D g ad B ⟨"SubscriberLines$Subscriber", "becomeLinked", "(I)V"⟩ prog_10_method_8_code 2 none 2 44 K_su_becomeLinked := by
  intro av x hp
  obtain ⟨a0, a1, rfl⟩ := k_RI_inv hp
  have hp : mx_kl a0 = 4 := hp
  exact rx_met (k := 0) had (by decide) (Nat.le_of_ble_eq_true rfl) ok_su_becomeLinked rfl rfl 18 (fun p e s m args below meth c X => And.intro (og_su_28_g X) (And.intro (og_su_52_p X) (And.intro (og_su_28_p X) (And.intro (og_su_37_p X) (And.intro (cv_su_request X (V_su_request had) (al_at 365 (by decide +kernel) rfl) ⟨by decide, by decide⟩) (trivial)))))) (S_su_becomeLinked x.1 x.2 a0 a1 hp) (E_su_becomeLinked x.1 x.2 a0 a1)
def su_becomeAccepted (c : mx_C) (t : Nat) (a1 : Int32) : mx_C :=
  if (c.1 t 4) = 3 then
    if a1 = (c.1 t 5) then
      let c1 := mx_pi c t 4 3
      let c2 := mx_pi c1 t 5 a1
      let c3 := mx_pi c2 t 11 0
      let q4 := fl_launch c3 7 (c3.1 t 1) 4
      let c5 := pk_bear q4.1 q4.2 (q4.1.1 t 6) 0 0
      c5
    else
      c
  else
    let c6 := mx_pi c t 4 3
    let c7 := mx_pi c6 t 5 a1
    let c8 := mx_pi c7 t 11 0
    let q9 := fl_launch c8 7 (c8.1 t 1) 4
    let c10 := pk_bear q9.1 q9.2 (q9.1.1 t 6) 0 0
    c10
def K_su_becomeAccepted : rx_K mx := k_RI (fun a0 a1 c m => (mx_kl a0 = 4, (su_becomeAccepted c a0 a1, m), none))
def L_su_becomeAccepted : List (rx_E mx) := [
  (0, .aload_n 0, 1, 0, 0, 0, [], kno),
  (1, .getfield 28, 3, 7, 1, 0, [], kgi 4 4),
  (4, .iconst 3, 1, 0, 0, 3, [], kno),
  (5, .if_icmp .ne 12, 3, 2, 9, 0, [], kno),
  (8, .iload_n 1, 1, 0, 1, 0, [], kno),
  (9, .aload_n 0, 1, 0, 0, 0, [], kno),
  (10, .getfield 96, 3, 7, 1, 0, [], kgi 4 5),
  (13, .if_icmp .eq 4, 3, 2, 9, 0, [], kno),
  (16, .return_, 1, 6, 0, 0, [], kno),
  (17, .aload_n 0, 1, 0, 0, 0, [], kno),
  (18, .iconst 3, 1, 0, 0, 3, [], kno),
  (19, .putfield 28, 3, 7, 2, 0, [], kpi 4 4),
  (22, .aload_n 0, 1, 0, 0, 0, [], kno),
  (23, .iload_n 1, 1, 0, 1, 0, [], kno),
  (24, .putfield 96, 3, 7, 2, 0, [], kpi 4 5),
  (27, .aload_n 0, 1, 0, 0, 0, [], kno),
  (28, .iconst 0, 1, 0, 0, 0, [], kno),
  (29, .putfield 78, 3, 7, 2, 0, [], kpi 4 11),
  (32, .aload_n 0, 1, 0, 0, 0, [], kno),
  (33, .getfield 24, 3, 7, 1, 0, [], kgr0 4 2 1),
  (36, .bipush 7, 2, 0, 0, 7, [], kno),
  (38, .aload_n 0, 1, 0, 0, 0, [], kno),
  (39, .getfield 20, 3, 7, 1, 0, [], kgi 4 1),
  (42, .iconst 4, 1, 0, 0, 4, [], kno),
  (43, .invokevirtual 46, 3, 7, 4, 0, [], K_fl_launch),
  (46, .aload_n 0, 1, 0, 0, 0, [], kno),
  (47, .getfield 52, 3, 7, 1, 0, [], kgi 4 6),
  (50, .iconst 0, 1, 0, 0, 0, [], kno),
  (51, .iconst 0, 1, 0, 0, 0, [], kno),
  (52, .invokevirtual 55, 3, 7, 4, 0, [], K_pk_bear),
  (55, .return_, 1, 6, 0, 0, [], kno)]
theorem E_su_becomeAccepted (c : mx_C) (m : mx_M) (t : Nat) (a1 : Int32)  : rx_ev L_su_becomeAccepted [] 33 L_su_becomeAccepted (c, m) [some (.ref t), some (.int a1)] [] = rw_v m (su_becomeAccepted c t a1) :=
  rx_ite2 (f := rw_v m) (fun _ => rx_ite2 (f := rw_v m) (fun _ => rfl) (fun _ => rfl)) (fun _ => rfl)
theorem S_su_becomeAccepted (c : mx_C) (m : mx_M) (t : Nat) (a1 : Int32) (ht : mx_kl t = 4) : rx_sf L_su_becomeAccepted [] 33 L_su_becomeAccepted (c, m) [some (.ref t), some (.int a1)] [] :=
  And.intro ht (And.intro (fun h0 => And.intro ht (And.intro (fun h1 => And.intro ht (And.intro ht (And.intro ht (And.intro ht (And.intro ht (And.intro rfl (And.intro ht (And.intro (fl_launch_pk _ _ _ _) (trivial))))))))) (fun h1 => trivial))) (fun h0 => And.intro ht (And.intro ht (And.intro ht (And.intro ht (And.intro ht (And.intro rfl (And.intro ht (And.intro (fl_launch_pk _ _ _ _) (trivial))))))))))

theorem og_su_96_g {p : Program} {l : Launch} {e : Env} {R : Room} {s : State} {m : MethodId} {args : Array Value} {below : List Frame} {meth : Method} {c : Code} {cc : ByteArray} {nL : Nat} {ad : Nat → Nat} {D : va_G} {g : Nat → ClassId} {B : Nat} (X : ox_C p s m args c cc nL "SubscriberLines$Subscriber" D g ad B) : rx_OK p l e R s m args below meth c cc nL ad (mx_W D g ad B s.heap) mx_cs (.getfield 96) 3 1 (kgi 4 5) := ox_gi (T := T_4) X rfl (by decide) (by decide) in_4 rfl (al_at 135 (by decide +kernel) rfl)
theorem og_su_78_p {p : Program} {l : Launch} {e : Env} {R : Room} {s : State} {m : MethodId} {args : Array Value} {below : List Frame} {meth : Method} {c : Code} {cc : ByteArray} {nL : Nat} {ad : Nat → Nat} {D : va_G} {g : Nat → ClassId} {B : Nat} (X : ox_C p s m args c cc nL "SubscriberLines$Subscriber" D g ad B) : rx_OK p l e R s m args below meth c cc nL ad (mx_W D g ad B s.heap) mx_cs (.putfield 78) 3 2 (kpi 4 11) := ox_pi (T := T_4) X rfl (by decide) (by decide) in_4 rfl ty_4 ty_4_ok nm_4 rfl rfl rfl (al_at 142 (by decide +kernel) rfl)
theorem ok_su_becomeAccepted : rx_okF prog_10_method_10_code 2 none L_su_becomeAccepted 0 L_su_becomeAccepted = true := by decide +kernel
theorem V_su_becomeAccepted {l : Launch} {D : va_G} {g : Nat → ClassId} {ad : Nat → Nat} {B : Nat} (had : mx_A ad B) : rx_V l D g ad B ⟨"SubscriberLines$Subscriber", "becomeAccepted", "(I)V"⟩ prog_10_method_10_code 2 none 1 24 K_su_becomeAccepted := by
  intro av x hp
  obtain ⟨a0, a1, rfl⟩ := k_RI_inv hp
  have hp : mx_kl a0 = 4 := hp
  exact rx_met (k := 0) had (by decide) (Nat.le_of_ble_eq_true rfl) ok_su_becomeAccepted rfl rfl 33 (fun p e s m args below meth c X => And.intro (og_su_28_g X) (And.intro (og_su_96_g X) (And.intro (og_su_28_p X) (And.intro (og_su_96_p X) (And.intro (og_su_78_p X) (And.intro (og_su_24_g X) (And.intro (og_su_20_g X) (And.intro (cv_fl_launch X (V_fl_launch had) (al_at 369 (by decide +kernel) rfl) ⟨by decide, by decide⟩) (And.intro (og_su_52_g X) (And.intro (cv_pk_bear X (V_pk_bear had) (al_at 373 (by decide +kernel) rfl) ⟨by decide, by decide⟩) (trivial))))))))))) (S_su_becomeAccepted x.1 x.2 a0 a1 hp) (E_su_becomeAccepted x.1 x.2 a0 a1)
def se_begin (c : mx_C) (t : Nat) (a1 : Int32) (a2 : Int32) : mx_C :=
  let c1 := mx_pi c t 0 a1
  let c2 := mx_pi c1 t 1 a2
  let c3 := mx_pi c2 t 2 1
  let c4 := mx_pi c3 t 3 0
  let c5 := mx_pi c4 t 4 0
  c5
def K_se_begin : rx_K mx := k_RII (fun a0 a1 a2 c m => (mx_kl a0 = 6, (se_begin c a0 a1 a2, m), none))
def L_se_begin : List (rx_E mx) := [
  (0, .aload_n 0, 1, 0, 0, 0, [], kno),
  (1, .iload_n 1, 1, 0, 1, 0, [], kno),
  (2, .putfield 7, 3, 7, 2, 0, [], kpi 6 0),
  (5, .aload_n 0, 1, 0, 0, 0, [], kno),
  (6, .iload_n 2, 1, 0, 2, 0, [], kno),
  (7, .putfield 13, 3, 7, 2, 0, [], kpi 6 1),
  (10, .aload_n 0, 1, 0, 0, 0, [], kno),
  (11, .iconst 1, 1, 0, 0, 1, [], kno),
  (12, .putfield 16, 3, 7, 2, 0, [], kpi 6 2),
  (15, .aload_n 0, 1, 0, 0, 0, [], kno),
  (16, .iconst 0, 1, 0, 0, 0, [], kno),
  (17, .putfield 19, 3, 7, 2, 0, [], kpi 6 3),
  (20, .aload_n 0, 1, 0, 0, 0, [], kno),
  (21, .iconst 0, 1, 0, 0, 0, [], kno),
  (22, .putfield 22, 3, 7, 2, 0, [], kpi 6 4),
  (25, .return_, 1, 6, 0, 0, [], kno)]
theorem E_se_begin (c : mx_C) (m : mx_M) (t : Nat) (a1 : Int32) (a2 : Int32)  : rx_ev L_se_begin [] 18 L_se_begin (c, m) [some (.ref t), some (.int a1), some (.int a2)] [] = rw_v m (se_begin c t a1 a2) :=
  rfl
theorem S_se_begin (c : mx_C) (m : mx_M) (t : Nat) (a1 : Int32) (a2 : Int32) (ht : mx_kl t = 6) : rx_sf L_se_begin [] 18 L_se_begin (c, m) [some (.ref t), some (.int a1), some (.int a2)] [] :=
  And.intro ht (And.intro ht (And.intro ht (And.intro ht (And.intro ht (trivial)))))

theorem og_se_7_p {p : Program} {l : Launch} {e : Env} {R : Room} {s : State} {m : MethodId} {args : Array Value} {below : List Frame} {meth : Method} {c : Code} {cc : ByteArray} {nL : Nat} {ad : Nat → Nat} {D : va_G} {g : Nat → ClassId} {B : Nat} (X : ox_C p s m args c cc nL "SubscriberLines$Session" D g ad B) : rx_OK p l e R s m args below meth c cc nL ad (mx_W D g ad B s.heap) mx_cs (.putfield 7) 3 2 (kpi 6 0) := ox_pi (T := T_6) X rfl (by decide) (by decide) in_6 rfl ty_6 ty_6_ok nm_6 rfl rfl rfl (al_at 267 (by decide +kernel) rfl)
theorem og_se_13_p {p : Program} {l : Launch} {e : Env} {R : Room} {s : State} {m : MethodId} {args : Array Value} {below : List Frame} {meth : Method} {c : Code} {cc : ByteArray} {nL : Nat} {ad : Nat → Nat} {D : va_G} {g : Nat → ClassId} {B : Nat} (X : ox_C p s m args c cc nL "SubscriberLines$Session" D g ad B) : rx_OK p l e R s m args below meth c cc nL ad (mx_W D g ad B s.heap) mx_cs (.putfield 13) 3 2 (kpi 6 1) := ox_pi (T := T_6) X rfl (by decide) (by decide) in_6 rfl ty_6 ty_6_ok nm_6 rfl rfl rfl (al_at 269 (by decide +kernel) rfl)
theorem og_se_16_p {p : Program} {l : Launch} {e : Env} {R : Room} {s : State} {m : MethodId} {args : Array Value} {below : List Frame} {meth : Method} {c : Code} {cc : ByteArray} {nL : Nat} {ad : Nat → Nat} {D : va_G} {g : Nat → ClassId} {B : Nat} (X : ox_C p s m args c cc nL "SubscriberLines$Session" D g ad B) : rx_OK p l e R s m args below meth c cc nL ad (mx_W D g ad B s.heap) mx_cs (.putfield 16) 3 2 (kpi 6 2) := ox_pi (T := T_6) X rfl (by decide) (by decide) in_6 rfl ty_6 ty_6_ok nm_6 rfl rfl rfl (al_at 271 (by decide +kernel) rfl)
theorem og_se_19_p {p : Program} {l : Launch} {e : Env} {R : Room} {s : State} {m : MethodId} {args : Array Value} {below : List Frame} {meth : Method} {c : Code} {cc : ByteArray} {nL : Nat} {ad : Nat → Nat} {D : va_G} {g : Nat → ClassId} {B : Nat} (X : ox_C p s m args c cc nL "SubscriberLines$Session" D g ad B) : rx_OK p l e R s m args below meth c cc nL ad (mx_W D g ad B s.heap) mx_cs (.putfield 19) 3 2 (kpi 6 3) := ox_pi (T := T_6) X rfl (by decide) (by decide) in_6 rfl ty_6 ty_6_ok nm_6 rfl rfl rfl (al_at 273 (by decide +kernel) rfl)
theorem og_se_22_p {p : Program} {l : Launch} {e : Env} {R : Room} {s : State} {m : MethodId} {args : Array Value} {below : List Frame} {meth : Method} {c : Code} {cc : ByteArray} {nL : Nat} {ad : Nat → Nat} {D : va_G} {g : Nat → ClassId} {B : Nat} (X : ox_C p s m args c cc nL "SubscriberLines$Session" D g ad B) : rx_OK p l e R s m args below meth c cc nL ad (mx_W D g ad B s.heap) mx_cs (.putfield 22) 3 2 (kpi 6 4) := ox_pi (T := T_6) X rfl (by decide) (by decide) in_6 rfl ty_6 ty_6_ok nm_6 rfl rfl rfl (al_at 275 (by decide +kernel) rfl)
theorem ok_se_begin : rx_okF prog_9_method_2_code 3 none L_se_begin 0 L_se_begin = true := by decide +kernel
theorem V_se_begin {l : Launch} {D : va_G} {g : Nat → ClassId} {ad : Nat → Nat} {B : Nat} (had : mx_A ad B) : rx_V l D g ad B ⟨"SubscriberLines$Session", "begin", "(II)V"⟩ prog_9_method_2_code 3 none 0 0 K_se_begin := by
  intro av x hp
  obtain ⟨a0, a1, a2, rfl⟩ := k_RII_inv hp
  have hp : mx_kl a0 = 6 := hp
  exact rx_met (k := 0) had (by decide) (Nat.le_of_ble_eq_true rfl) ok_se_begin rfl rfl 18 (fun p e s m args below meth c X => And.intro (og_se_7_p X) (And.intro (og_se_13_p X) (And.intro (og_se_16_p X) (And.intro (og_se_19_p X) (And.intro (og_se_22_p X) (trivial)))))) (S_se_begin x.1 x.2 a0 a1 a2 hp) (E_se_begin x.1 x.2 a0 a1 a2)
def se_tell (c : mx_C) (t : Nat) (a1 : Int32) : Int32 :=
  if a1 = 0 then
    (c.1 t 0)
  else
    if a1 = 1 then
      (c.1 t 1)
    else
      if a1 = 2 then
        (c.1 t 2)
      else
        if a1 = 3 then
          (c.1 t 3)
        else
          if a1 = 4 then
            (c.1 t 4)
          else
            0
def K_se_tell : rx_K mx := k_RI (fun a0 a1 c m => (mx_kl a0 = 6, (c, m), some (.int (se_tell c a0 a1))))
def L_se_tell : List (rx_E mx) := [
  (0, .iload_n 1, 1, 0, 1, 0, [], kno),
  (1, .tableswitch 60 0 4 #[35, 40, 45, 50, 55], 35, 4, 17, 0, [(0, 2), (1, 5), (2, 8), (3, 11), (4, 14)], kno),
  (36, .aload_n 0, 1, 0, 0, 0, [], kno),
  (37, .getfield 7, 3, 7, 1, 0, [], kgi 6 0),
  (40, .ireturn, 1, 5, 0, 0, [], kno),
  (41, .aload_n 0, 1, 0, 0, 0, [], kno),
  (42, .getfield 13, 3, 7, 1, 0, [], kgi 6 1),
  (45, .ireturn, 1, 5, 0, 0, [], kno),
  (46, .aload_n 0, 1, 0, 0, 0, [], kno),
  (47, .getfield 16, 3, 7, 1, 0, [], kgi 6 2),
  (50, .ireturn, 1, 5, 0, 0, [], kno),
  (51, .aload_n 0, 1, 0, 0, 0, [], kno),
  (52, .getfield 19, 3, 7, 1, 0, [], kgi 6 3),
  (55, .ireturn, 1, 5, 0, 0, [], kno),
  (56, .aload_n 0, 1, 0, 0, 0, [], kno),
  (57, .getfield 22, 3, 7, 1, 0, [], kgi 6 4),
  (60, .ireturn, 1, 5, 0, 0, [], kno),
  (61, .iconst 0, 1, 0, 0, 0, [], kno),
  (62, .ireturn, 1, 5, 0, 0, [], kno)]
theorem E_se_tell (c : mx_C) (m : mx_M) (t : Nat) (a1 : Int32)  : rx_ev L_se_tell [] 21 L_se_tell (c, m) [some (.ref t), some (.int a1)] [] = rw_p c m (se_tell c t a1) :=
  rx_ite2 (f := rw_p c m) (fun _ => rfl) (fun _ => rx_ite2 (f := rw_p c m) (fun _ => rfl) (fun _ => rx_ite2 (f := rw_p c m) (fun _ => rfl) (fun _ => rx_ite2 (f := rw_p c m) (fun _ => rfl) (fun _ => rx_ite2 (f := rw_p c m) (fun _ => rfl) (fun _ => rfl)))))
theorem S_se_tell (c : mx_C) (m : mx_M) (t : Nat) (a1 : Int32) (ht : mx_kl t = 6) : rx_sf L_se_tell [] 21 L_se_tell (c, m) [some (.ref t), some (.int a1)] [] :=
  And.intro (fun h0 => And.intro ht (trivial)) (fun h0 => And.intro (fun h1 => And.intro ht (trivial)) (fun h1 => And.intro (fun h2 => And.intro ht (trivial)) (fun h2 => And.intro (fun h3 => And.intro ht (trivial)) (fun h3 => And.intro (fun h4 => And.intro ht (trivial)) (fun h4 => trivial)))))

theorem og_se_7_g {p : Program} {l : Launch} {e : Env} {R : Room} {s : State} {m : MethodId} {args : Array Value} {below : List Frame} {meth : Method} {c : Code} {cc : ByteArray} {nL : Nat} {ad : Nat → Nat} {D : va_G} {g : Nat → ClassId} {B : Nat} (X : ox_C p s m args c cc nL "SubscriberLines$Session" D g ad B) : rx_OK p l e R s m args below meth c cc nL ad (mx_W D g ad B s.heap) mx_cs (.getfield 7) 3 1 (kgi 6 0) := ox_gi (T := T_6) X rfl (by decide) (by decide) in_6 rfl (al_at 267 (by decide +kernel) rfl)
theorem og_se_13_g {p : Program} {l : Launch} {e : Env} {R : Room} {s : State} {m : MethodId} {args : Array Value} {below : List Frame} {meth : Method} {c : Code} {cc : ByteArray} {nL : Nat} {ad : Nat → Nat} {D : va_G} {g : Nat → ClassId} {B : Nat} (X : ox_C p s m args c cc nL "SubscriberLines$Session" D g ad B) : rx_OK p l e R s m args below meth c cc nL ad (mx_W D g ad B s.heap) mx_cs (.getfield 13) 3 1 (kgi 6 1) := ox_gi (T := T_6) X rfl (by decide) (by decide) in_6 rfl (al_at 269 (by decide +kernel) rfl)
theorem og_se_16_g {p : Program} {l : Launch} {e : Env} {R : Room} {s : State} {m : MethodId} {args : Array Value} {below : List Frame} {meth : Method} {c : Code} {cc : ByteArray} {nL : Nat} {ad : Nat → Nat} {D : va_G} {g : Nat → ClassId} {B : Nat} (X : ox_C p s m args c cc nL "SubscriberLines$Session" D g ad B) : rx_OK p l e R s m args below meth c cc nL ad (mx_W D g ad B s.heap) mx_cs (.getfield 16) 3 1 (kgi 6 2) := ox_gi (T := T_6) X rfl (by decide) (by decide) in_6 rfl (al_at 271 (by decide +kernel) rfl)
theorem og_se_19_g {p : Program} {l : Launch} {e : Env} {R : Room} {s : State} {m : MethodId} {args : Array Value} {below : List Frame} {meth : Method} {c : Code} {cc : ByteArray} {nL : Nat} {ad : Nat → Nat} {D : va_G} {g : Nat → ClassId} {B : Nat} (X : ox_C p s m args c cc nL "SubscriberLines$Session" D g ad B) : rx_OK p l e R s m args below meth c cc nL ad (mx_W D g ad B s.heap) mx_cs (.getfield 19) 3 1 (kgi 6 3) := ox_gi (T := T_6) X rfl (by decide) (by decide) in_6 rfl (al_at 273 (by decide +kernel) rfl)
theorem og_se_22_g {p : Program} {l : Launch} {e : Env} {R : Room} {s : State} {m : MethodId} {args : Array Value} {below : List Frame} {meth : Method} {c : Code} {cc : ByteArray} {nL : Nat} {ad : Nat → Nat} {D : va_G} {g : Nat → ClassId} {B : Nat} (X : ox_C p s m args c cc nL "SubscriberLines$Session" D g ad B) : rx_OK p l e R s m args below meth c cc nL ad (mx_W D g ad B s.heap) mx_cs (.getfield 22) 3 1 (kgi 6 4) := ox_gi (T := T_6) X rfl (by decide) (by decide) in_6 rfl (al_at 275 (by decide +kernel) rfl)
theorem ok_se_tell : rx_okF prog_9_method_3_code 2 (some .int) L_se_tell 0 L_se_tell = true := by decide +kernel
theorem V_se_tell {l : Launch} {D : va_G} {g : Nat → ClassId} {ad : Nat → Nat} {B : Nat} (had : mx_A ad B) : rx_V l D g ad B ⟨"SubscriberLines$Session", "tell", "(I)I"⟩ prog_9_method_3_code 2 (some .int) 0 0 K_se_tell := by
  intro av x hp
  obtain ⟨a0, a1, rfl⟩ := k_RI_inv hp
  have hp : mx_kl a0 = 6 := hp
  exact rx_met (k := 0) had (by decide) (Nat.le_of_ble_eq_true rfl) ok_se_tell rfl rfl 21 (fun p e s m args below meth c X => And.intro (og_se_7_g X) (And.intro (og_se_13_g X) (And.intro (og_se_16_g X) (And.intro (og_se_19_g X) (And.intro (og_se_22_g X) (trivial)))))) (S_se_tell x.1 x.2 a0 a1 hp) (E_se_tell x.1 x.2 a0 a1)
def en_begin (c : mx_C) (t : Nat) (a1 : Int32) : mx_C :=
  let c1 := mx_pi c t 3 a1
  let c2 := mx_pi c1 t 4 0
  let c3 := mx_pi c2 t 7 0
  let c4 := mx_pi c3 t 8 0
  let c5 := mx_pi c4 t 5 0
  let c6 := mx_pi c5 t 6 0
  c6
def K_en_begin : rx_K mx := k_RI (fun a0 a1 c m => (mx_kl a0 = 8, (en_begin c a0 a1, m), none))
def L_en_begin : List (rx_E mx) := [
  (0, .aload_n 0, 1, 0, 0, 0, [], kno),
  (1, .iload_n 1, 1, 0, 1, 0, [], kno),
  (2, .putfield 32, 3, 7, 2, 0, [], kpi 8 3),
  (5, .aload_n 0, 1, 0, 0, 0, [], kno),
  (6, .iconst 0, 1, 0, 0, 0, [], kno),
  (7, .putfield 35, 3, 7, 2, 0, [], kpi 8 4),
  (10, .aload_n 0, 1, 0, 0, 0, [], kno),
  (11, .iconst 0, 1, 0, 0, 0, [], kno),
  (12, .putfield 38, 3, 7, 2, 0, [], kpi 8 7),
  (15, .aload_n 0, 1, 0, 0, 0, [], kno),
  (16, .iconst 0, 1, 0, 0, 0, [], kno),
  (17, .putfield 41, 3, 7, 2, 0, [], kpi 8 8),
  (20, .aload_n 0, 1, 0, 0, 0, [], kno),
  (21, .iconst 0, 1, 0, 0, 0, [], kno),
  (22, .putfield 44, 3, 7, 2, 0, [], kpi 8 5),
  (25, .aload_n 0, 1, 0, 0, 0, [], kno),
  (26, .iconst 0, 1, 0, 0, 0, [], kno),
  (27, .putfield 47, 3, 7, 2, 0, [], kpi 8 6),
  (30, .return_, 1, 6, 0, 0, [], kno)]
theorem E_en_begin (c : mx_C) (m : mx_M) (t : Nat) (a1 : Int32)  : rx_ev L_en_begin [] 21 L_en_begin (c, m) [some (.ref t), some (.int a1)] [] = rw_v m (en_begin c t a1) :=
  rfl
theorem S_en_begin (c : mx_C) (m : mx_M) (t : Nat) (a1 : Int32) (ht : mx_kl t = 8) : rx_sf L_en_begin [] 21 L_en_begin (c, m) [some (.ref t), some (.int a1)] [] :=
  And.intro ht (And.intro ht (And.intro ht (And.intro ht (And.intro ht (And.intro ht (trivial))))))

theorem og_en_32_p {p : Program} {l : Launch} {e : Env} {R : Room} {s : State} {m : MethodId} {args : Array Value} {below : List Frame} {meth : Method} {c : Code} {cc : ByteArray} {nL : Nat} {ad : Nat → Nat} {D : va_G} {g : Nat → ClassId} {B : Nat} (X : ox_C p s m args c cc nL "SubscriberLines$End" D g ad B) : rx_OK p l e R s m args below meth c cc nL ad (mx_W D g ad B s.heap) mx_cs (.putfield 32) 3 2 (kpi 8 3) := ox_pi (T := T_8) X rfl (by decide) (by decide) in_8 rfl ty_8 ty_8_ok nm_8 rfl rfl rfl (al_at 184 (by decide +kernel) rfl)
theorem og_en_35_p {p : Program} {l : Launch} {e : Env} {R : Room} {s : State} {m : MethodId} {args : Array Value} {below : List Frame} {meth : Method} {c : Code} {cc : ByteArray} {nL : Nat} {ad : Nat → Nat} {D : va_G} {g : Nat → ClassId} {B : Nat} (X : ox_C p s m args c cc nL "SubscriberLines$End" D g ad B) : rx_OK p l e R s m args below meth c cc nL ad (mx_W D g ad B s.heap) mx_cs (.putfield 35) 3 2 (kpi 8 4) := ox_pi (T := T_8) X rfl (by decide) (by decide) in_8 rfl ty_8 ty_8_ok nm_8 rfl rfl rfl (al_at 187 (by decide +kernel) rfl)
theorem og_en_38_p {p : Program} {l : Launch} {e : Env} {R : Room} {s : State} {m : MethodId} {args : Array Value} {below : List Frame} {meth : Method} {c : Code} {cc : ByteArray} {nL : Nat} {ad : Nat → Nat} {D : va_G} {g : Nat → ClassId} {B : Nat} (X : ox_C p s m args c cc nL "SubscriberLines$End" D g ad B) : rx_OK p l e R s m args below meth c cc nL ad (mx_W D g ad B s.heap) mx_cs (.putfield 38) 3 2 (kpi 8 7) := ox_pi (T := T_8) X rfl (by decide) (by decide) in_8 rfl ty_8 ty_8_ok nm_8 rfl rfl rfl (al_at 190 (by decide +kernel) rfl)
theorem og_en_41_p {p : Program} {l : Launch} {e : Env} {R : Room} {s : State} {m : MethodId} {args : Array Value} {below : List Frame} {meth : Method} {c : Code} {cc : ByteArray} {nL : Nat} {ad : Nat → Nat} {D : va_G} {g : Nat → ClassId} {B : Nat} (X : ox_C p s m args c cc nL "SubscriberLines$End" D g ad B) : rx_OK p l e R s m args below meth c cc nL ad (mx_W D g ad B s.heap) mx_cs (.putfield 41) 3 2 (kpi 8 8) := ox_pi (T := T_8) X rfl (by decide) (by decide) in_8 rfl ty_8 ty_8_ok nm_8 rfl rfl rfl (al_at 191 (by decide +kernel) rfl)
theorem og_en_44_p {p : Program} {l : Launch} {e : Env} {R : Room} {s : State} {m : MethodId} {args : Array Value} {below : List Frame} {meth : Method} {c : Code} {cc : ByteArray} {nL : Nat} {ad : Nat → Nat} {D : va_G} {g : Nat → ClassId} {B : Nat} (X : ox_C p s m args c cc nL "SubscriberLines$End" D g ad B) : rx_OK p l e R s m args below meth c cc nL ad (mx_W D g ad B s.heap) mx_cs (.putfield 44) 3 2 (kpi 8 5) := ox_pi (T := T_8) X rfl (by decide) (by decide) in_8 rfl ty_8 ty_8_ok nm_8 rfl rfl rfl (al_at 188 (by decide +kernel) rfl)
theorem og_en_47_p {p : Program} {l : Launch} {e : Env} {R : Room} {s : State} {m : MethodId} {args : Array Value} {below : List Frame} {meth : Method} {c : Code} {cc : ByteArray} {nL : Nat} {ad : Nat → Nat} {D : va_G} {g : Nat → ClassId} {B : Nat} (X : ox_C p s m args c cc nL "SubscriberLines$End" D g ad B) : rx_OK p l e R s m args below meth c cc nL ad (mx_W D g ad B s.heap) mx_cs (.putfield 47) 3 2 (kpi 8 6) := ox_pi (T := T_8) X rfl (by decide) (by decide) in_8 rfl ty_8 ty_8_ok nm_8 rfl rfl rfl (al_at 189 (by decide +kernel) rfl)
theorem ok_en_begin : rx_okF prog_3_method_2_code 2 none L_en_begin 0 L_en_begin = true := by decide +kernel
theorem V_en_begin {l : Launch} {D : va_G} {g : Nat → ClassId} {ad : Nat → Nat} {B : Nat} (had : mx_A ad B) : rx_V l D g ad B ⟨"SubscriberLines$End", "begin", "(I)V"⟩ prog_3_method_2_code 2 none 0 0 K_en_begin := by
  intro av x hp
  obtain ⟨a0, a1, rfl⟩ := k_RI_inv hp
  have hp : mx_kl a0 = 8 := hp
  exact rx_met (k := 0) had (by decide) (Nat.le_of_ble_eq_true rfl) ok_en_begin rfl rfl 21 (fun p e s m args below meth c X => And.intro (og_en_32_p X) (And.intro (og_en_35_p X) (And.intro (og_en_38_p X) (And.intro (og_en_41_p X) (And.intro (og_en_44_p X) (And.intro (og_en_47_p X) (trivial))))))) (S_en_begin x.1 x.2 a0 a1 hp) (E_en_begin x.1 x.2 a0 a1)
def en_isEmpty (c : mx_C) (t : Nat) : Int32 :=
  if (c.1 t 7) = (c.1 t 8) then
    1
  else
    0
def K_en_isEmpty : rx_K mx := k_R (fun a0 c m => (mx_kl a0 = 8, (c, m), some (.int (en_isEmpty c a0))))
def L_en_isEmpty : List (rx_E mx) := [
  (0, .aload_n 0, 1, 0, 0, 0, [], kno),
  (1, .getfield 38, 3, 7, 1, 0, [], kgi 8 7),
  (4, .aload_n 0, 1, 0, 0, 0, [], kno),
  (5, .getfield 41, 3, 7, 1, 0, [], kgi 8 8),
  (8, .if_icmp .ne 7, 3, 2, 7, 0, [], kno),
  (11, .iconst 1, 1, 0, 0, 1, [], kno),
  (12, .goto 4, 3, 1, 8, 0, [], kno),
  (15, .iconst 0, 1, 0, 0, 0, [], kno),
  (16, .ireturn, 1, 5, 1, 0, [], kno)]
theorem E_en_isEmpty (c : mx_C) (m : mx_M) (t : Nat)  : rx_ev L_en_isEmpty [] 11 L_en_isEmpty (c, m) [some (.ref t)] [] = rw_p c m (en_isEmpty c t) :=
  rx_ite2 (f := rw_p c m) (fun _ => rfl) (fun _ => rfl)
theorem S_en_isEmpty (c : mx_C) (m : mx_M) (t : Nat) (ht : mx_kl t = 8) : rx_sf L_en_isEmpty [] 11 L_en_isEmpty (c, m) [some (.ref t)] [] :=
  And.intro ht (And.intro ht (And.intro (fun h0 => Or.inr rfl) (fun h0 => Or.inl rfl)))

theorem og_en_38_g {p : Program} {l : Launch} {e : Env} {R : Room} {s : State} {m : MethodId} {args : Array Value} {below : List Frame} {meth : Method} {c : Code} {cc : ByteArray} {nL : Nat} {ad : Nat → Nat} {D : va_G} {g : Nat → ClassId} {B : Nat} (X : ox_C p s m args c cc nL "SubscriberLines$End" D g ad B) : rx_OK p l e R s m args below meth c cc nL ad (mx_W D g ad B s.heap) mx_cs (.getfield 38) 3 1 (kgi 8 7) := ox_gi (T := T_8) X rfl (by decide) (by decide) in_8 rfl (al_at 190 (by decide +kernel) rfl)
theorem og_en_41_g {p : Program} {l : Launch} {e : Env} {R : Room} {s : State} {m : MethodId} {args : Array Value} {below : List Frame} {meth : Method} {c : Code} {cc : ByteArray} {nL : Nat} {ad : Nat → Nat} {D : va_G} {g : Nat → ClassId} {B : Nat} (X : ox_C p s m args c cc nL "SubscriberLines$End" D g ad B) : rx_OK p l e R s m args below meth c cc nL ad (mx_W D g ad B s.heap) mx_cs (.getfield 41) 3 1 (kgi 8 8) := ox_gi (T := T_8) X rfl (by decide) (by decide) in_8 rfl (al_at 191 (by decide +kernel) rfl)
theorem ok_en_isEmpty : rx_okF prog_3_method_3_code 1 (some .boolean) L_en_isEmpty 0 L_en_isEmpty = true := by decide +kernel
theorem V_en_isEmpty {l : Launch} {D : va_G} {g : Nat → ClassId} {ad : Nat → Nat} {B : Nat} (had : mx_A ad B) : rx_V l D g ad B ⟨"SubscriberLines$End", "isEmpty", "()Z"⟩ prog_3_method_3_code 1 (some .boolean) 0 0 K_en_isEmpty := by
  intro av x hp
  obtain ⟨a0, rfl⟩ := k_R_inv hp
  have hp : mx_kl a0 = 8 := hp
  exact rx_met (k := 0) had (by decide) (Nat.le_of_ble_eq_true rfl) ok_en_isEmpty rfl rfl 11 (fun p e s m args below meth c X => And.intro (og_en_38_g X) (And.intro (og_en_41_g X) (trivial))) (S_en_isEmpty x.1 x.2 a0 hp) (E_en_isEmpty x.1 x.2 a0)
def en_startWaiting (c : mx_C) (t : Nat) : mx_C :=
  let c1 := mx_pi c t 5 0
  let c2 := mx_pi c1 t 6 2
  c2
def K_en_startWaiting : rx_K mx := k_R (fun a0 c m => (mx_kl a0 = 8, (en_startWaiting c a0, m), none))
def L_en_startWaiting : List (rx_E mx) := [
  (0, .aload_n 0, 1, 0, 0, 0, [], kno),
  (1, .iconst 0, 1, 0, 0, 0, [], kno),
  (2, .putfield 44, 3, 7, 2, 0, [], kpi 8 5),
  (5, .aload_n 0, 1, 0, 0, 0, [], kno),
  (6, .iconst 2, 1, 0, 0, 2, [], kno),
  (7, .putfield 47, 3, 7, 2, 0, [], kpi 8 6),
  (10, .return_, 1, 6, 0, 0, [], kno)]
theorem E_en_startWaiting (c : mx_C) (m : mx_M) (t : Nat)  : rx_ev L_en_startWaiting [] 9 L_en_startWaiting (c, m) [some (.ref t)] [] = rw_v m (en_startWaiting c t) :=
  rfl
theorem S_en_startWaiting (c : mx_C) (m : mx_M) (t : Nat) (ht : mx_kl t = 8) : rx_sf L_en_startWaiting [] 9 L_en_startWaiting (c, m) [some (.ref t)] [] :=
  And.intro ht (And.intro ht (trivial))

theorem ok_en_startWaiting : rx_okF prog_3_method_10_code 1 none L_en_startWaiting 0 L_en_startWaiting = true := by decide +kernel
theorem V_en_startWaiting {l : Launch} {D : va_G} {g : Nat → ClassId} {ad : Nat → Nat} {B : Nat} (had : mx_A ad B) : rx_V l D g ad B ⟨"SubscriberLines$End", "startWaiting", "()V"⟩ prog_3_method_10_code 1 none 0 0 K_en_startWaiting := by
  intro av x hp
  obtain ⟨a0, rfl⟩ := k_R_inv hp
  have hp : mx_kl a0 = 8 := hp
  exact rx_met (k := 0) had (by decide) (Nat.le_of_ble_eq_true rfl) ok_en_startWaiting rfl rfl 9 (fun p e s m args below meth c X => And.intro (og_en_44_p X) (And.intro (og_en_47_p X) (trivial))) (S_en_startWaiting x.1 x.2 a0 hp) (E_en_startWaiting x.1 x.2 a0)
def en_placeOf (c : mx_C) (a1 : Int32) : Int32 :=
  (a1 &&& 2047)
def K_en_placeOf : rx_K mx := k_I (fun a0 c m => (True, (c, m), some (.int (en_placeOf c a0))))
def L_en_placeOf : List (rx_E mx) := [
  (0, .iload_n 0, 1, 0, 0, 0, [], kno),
  (1, .sipush 2047, 3, 0, 0, 2047, [], kno),
  (4, .iand, 1, 0, 0, 0, [], kno),
  (5, .ireturn, 1, 5, 0, 0, [], kno)]
theorem E_en_placeOf (c : mx_C) (m : mx_M) (a1 : Int32)  : rx_ev L_en_placeOf [] 6 L_en_placeOf (c, m) [some (.int a1)] [] = rw_p c m (en_placeOf c a1) :=
  rfl
theorem S_en_placeOf (c : mx_C) (m : mx_M) (a1 : Int32)  : rx_sf L_en_placeOf [] 6 L_en_placeOf (c, m) [some (.int a1)] [] :=
  trivial

theorem ok_en_placeOf : rx_okF prog_3_method_12_code 1 (some .int) L_en_placeOf 0 L_en_placeOf = true := by decide +kernel
theorem V_en_placeOf {l : Launch} {D : va_G} {g : Nat → ClassId} {ad : Nat → Nat} {B : Nat} (had : mx_A ad B) : rx_V l D g ad B ⟨"SubscriberLines$End", "placeOf", "(I)I"⟩ prog_3_method_12_code 1 (some .int) 0 0 K_en_placeOf := by
  intro av x hp
  obtain ⟨a0, rfl⟩ := k_I_inv hp
  exact rx_met (k := 0) had (by decide) (Nat.le_of_ble_eq_true rfl) ok_en_placeOf rfl rfl 6 (fun p e s m args below meth c X => trivial) (S_en_placeOf x.1 x.2 a0 ) (E_en_placeOf x.1 x.2 a0)
end
section
section LP
variable {p : Program} {l : Launch} {e : Env} {R : Room} {s : State} {m : MethodId} {args : Array Value} {below : List Frame} {meth : Method} {c : Code} {cc : ByteArray} {nL : Nat} {ad : Nat → Nat} {D : va_G} {g : Nat → ClassId} {B : Nat} {ret : Option FieldType} {res : rx_R mx} {own : String} {code : List (rx_E mx)}
abbrev rx_G : Type := mx → rx_L → List Value → Prop × rx_R mx
/-- the walk from a place of the code, given what is known at the cuts -/
theorem rx_walk {cut : rx_C mx} (X : ox_C p s m args c cc nL own D g ad B) (hr : meth.sig.returnType = ret) (hlk : meth.locks = false) (hok : rx_okF cc nL ret code 0 code = true) (hops : rx_ops p l e R s m args below meth c cc nL ad (mx_W D g ad B s.heap) mx_cs code)
    (hcut : ∀ (pc : Nat) (f : rx_G), rx_cut cut pc = some f → ∀ (mem : mx) (ls : rx_L) (st : List Value), (f mem ls st).1 → (f mem ls st).2 = res → rx_X p l e R s m args below meth c (MQ below (rx_Qc D g ad B res) args s 0 0 (fun q => B ≤ q)) nL ad (mx_W D g ad B s.heap) mx_cs pc mem ls st)
    (fuel i : Nat) {e0 : rx_E mx} (h0 : code[i]? = some e0) {mem : mx} {ls : rx_L} {st : List Value} (hsf : rx_sf code cut fuel (code.drop i) mem ls st) (hev : rx_ev code cut fuel (code.drop i) mem ls st = res) :
    rx_X p l e R s m args below meth c (MQ below (rx_Qc D g ad B res) args s 0 0 (fun q => B ≤ q)) nL ad (mx_W D g ad B s.heap) mx_cs e0.1 mem ls st :=
  rx_sound (WM := mx_W D g ad B s.heap) (cs := mx_cs) (Qc := rx_Qc D g ad B res) (free := fun q => B ≤ q) (mc := 0) (ms := 0) X.1 X.2.1 hr hlk hok hops (fun mem r h H locs hW => rx_hret mem r h H locs hW) hcut fuel i e0 mem ls st h0 hsf hev
/-- a loop: G n says what is known at its head with n rounds of fuel; cs0 are the cuts behind it -/
theorem rx_loop {cs0 : rx_C mx} {G : Nat → rx_G} (X : ox_C p s m args c cc nL own D g ad B) (hr : meth.sig.returnType = ret) (hlk : meth.locks = false) (hok : rx_okF cc nL ret code 0 code = true) (hops : rx_ops p l e R s m args below meth c cc nL ad (mx_W D g ad B s.heap) mx_cs code)
    (hcut : ∀ (pc : Nat) (f : rx_G), rx_cut cs0 pc = some f → ∀ (mem : mx) (ls : rx_L) (st : List Value), (f mem ls st).1 → (f mem ls st).2 = res → rx_X p l e R s m args below meth c (MQ below (rx_Qc D g ad B res) args s 0 0 (fun q => B ≤ q)) nL ad (mx_W D g ad B s.heap) mx_cs pc mem ls st)
    (fuel i : Nat) {e0 : rx_E mx} (h0 : code[i]? = some e0) (hG0 : ∀ mem ls st, ¬ (G 0 mem ls st).1)
    (hstep : ∀ (n : Nat) (mem : mx) (ls : rx_L) (st : List Value), (G (n + 1) mem ls st).1 → rx_sf code ((e0.1, G n) :: cs0) fuel (code.drop i) mem ls st ∧ rx_ev code ((e0.1, G n) :: cs0) fuel (code.drop i) mem ls st = (G (n + 1) mem ls st).2) :
    ∀ (n : Nat) (mem : mx) (ls : rx_L) (st : List Value), (G n mem ls st).1 → (G n mem ls st).2 = res → rx_X p l e R s m args below meth c (MQ below (rx_Qc D g ad B res) args s 0 0 (fun q => B ≤ q)) nL ad (mx_W D g ad B s.heap) mx_cs e0.1 mem ls st := by
  intro n
  induction n with
  | zero => intro mem ls st h; exact absurd h (hG0 mem ls st)
  | succ n ih =>
    intro mem ls st h hres
    obtain ⟨hsf, hev⟩ := hstep n mem ls st h
    refine rx_walk X hr hlk hok hops (fun pc f hf => ?_) fuel i h0 hsf (hev.trans hres)
    rw [rx_cut] at hf
    cases hb : Nat.beq e0.1 pc with
    | false => rw [hb, cond_false] at hf; exact hcut pc f hf
    | true =>
      rw [hb, cond_true] at hf
      cases hf
      rw [← Nat.eq_of_beq_eq_true hb]
      exact ih
end LP
end
section
theorem rx_litT {α : Type} {c : Prop} [Decidable c] {a b r : α} (h : c) (h2 : a = r) : (if c then a else b) = r := (if_pos h).trans h2
theorem rx_litF {α : Type} {c : Prop} [Decidable c] {a b r : α} (h : ¬ c) (h2 : b = r) : (if c then a else b) = r := (if_neg h).trans h2
theorem rx_cc {cs0 : rx_C mx} {h : Nat} {f0 : rx_G} {Z : Nat → rx_G → Prop} (h1 : Z h f0) (h2 : ∀ pc f, rx_cut cs0 pc = some f → Z pc f) : ∀ pc f, rx_cut ((h, f0) :: cs0) pc = some f → Z pc f := by
  intro pc f hf
  rw [rx_cut] at hf
  cases hb : Nat.beq h pc with
  | false => rw [hb, cond_false] at hf; exact h2 pc f hf
  | true =>
    rw [hb, cond_true] at hf
    cases hf
    rw [← Nat.eq_of_beq_eq_true hb]
    exact h1
theorem rx_c0 {Z : Nat → rx_G → Prop} : ∀ pc f, rx_cut ([] : rx_C mx) pc = some f → Z pc f := fun _ _ h => by cases h
/-! numbers -/
theorem i_add {a b : Int32} (h1 : -2147483648 ≤ a.toInt + b.toInt) (h2 : a.toInt + b.toInt < 2147483648) : (a + b).toInt = a.toInt + b.toInt := by
  rw [Int32.toInt_add]
  exact Int.bmod_eq_of_le (by omega) (by omega)
theorem i_sub {a b : Int32} (h1 : -2147483648 ≤ a.toInt - b.toInt) (h2 : a.toInt - b.toInt < 2147483648) : (a - b).toInt = a.toInt - b.toInt := by
  rw [Int32.toInt_sub]
  exact Int.bmod_eq_of_le (by omega) (by omega)
theorem i_mul {a b : Int32} (h1 : -2147483648 ≤ a.toInt * b.toInt) (h2 : a.toInt * b.toInt < 2147483648) : (a * b).toInt = a.toInt * b.toInt := by
  rw [Int32.toInt_mul]
  exact Int.bmod_eq_of_le (by omega) (by omega)
theorem i_rng (a : Int32) : -2147483648 ≤ a.toInt ∧ a.toInt < 2147483648 := ⟨a.le_toInt, a.toInt_lt⟩
theorem i_cl (a : Int32) : (a.toNatClampNeg : Int) = if 0 ≤ a.toInt then a.toInt else 0 := by
  show ((a.toInt.toNat : Nat) : Int) = _
  split <;> omega
theorem i_of (n : Nat) (h : n < 2147483648) : (Int32.ofNat n).toInt = (n : Int) := Int32.toInt_ofNat_of_lt (by omega)
theorem i_lt {a b : Int32} : a < b ↔ a.toInt < b.toInt := Int32.lt_iff_toInt_lt
theorem i_le {a b : Int32} : a ≤ b ↔ a.toInt ≤ b.toInt := Int32.le_iff_toInt_le
theorem i_eq {a b : Int32} : a = b ↔ a.toInt = b.toInt := Int32.toInt_inj.symm
theorem i_in {j : Int32} {n : Nat} : vp_in j n ↔ 0 ≤ j.toInt ∧ j.toInt < (n : Int) := by
  unfold vp_in
  rw [i_lt, Int32.toInt_zero]
  have := i_cl j
  split at this <;> omega
theorem i_inN {n k : Nat} (h : n < k) (hk : k < 2147483648) : vp_in (Int32.ofNat n) k := by
  rw [i_in, i_of n (by omega)]
  omega
end
section
theorem fl_holds_in {c : mx_C} {k : Int32} (h : ¬ fl_holds c k = 0) : 0 ≤ k.toInt ∧ k.toInt < (c.2.2.2.1.val : Int) := by
  unfold fl_holds at h
  split at h
  · exact absurd rfl h
  · rename_i h1
    split at h
    · rename_i h2
      rw [i_lt, Int32.toInt_zero] at h1
      rw [i_lt, i_of _ (by omega)] at h2
      omega
    · exact absurd rfl h
theorem fl_row_in (q : Fin 41) : 4 ≤ 4 + q.val ∧ 4 + q.val < 45 := by omega
theorem fl_k_in {k : Int32} {q : Fin 41} (h : 0 ≤ k.toInt ∧ k.toInt < (q.val : Int)) : vp_in k (mx_lenG 2 2 2) := by
  rw [i_in]
  show 0 ≤ k.toInt ∧ k.toInt < (41 : Int)
  omega
abbrev fl_P (n : Nat) (v : Int32) (r f : Nat) : Prop := 0 ≤ v.toInt ∧ v.toInt ≤ 40 ∧ 40 < (n : Int) + v.toInt ∧ 4 ≤ r ∧ r < 45 ∧ 1 ≤ f
theorem fl_P1 {n : Nat} {v : Int32} {r f : Nat} (h : v < 40) (hP : fl_P (n + 1) v r f) : (vp_in v (mx_lenG 2 2 2) ∧ vp_in (v + 1) (mx_lenG 2 2 2)) ∧ fl_P n (v + 1) r f := by
  rw [i_lt] at h
  have h : v.toInt < 40 := h
  have e : (v + 1).toInt = v.toInt + 1 := i_add (show _ ≤ v.toInt + 1 by omega) (show v.toInt + 1 < _ by omega)
  rw [i_in, i_in, e]
  show ((_ ∧ v.toInt < (41 : Int)) ∧ (_ ∧ v.toInt + 1 < (41 : Int))) ∧ fl_P n (v + 1) r f
  obtain ⟨p1, p2, p3, p4, p5, p6⟩ := hP
  exact ⟨by omega, by rw [e]; omega, by rw [e]; omega, by rw [e]; omega, p4, p5, p6⟩
theorem fl_P0 {k : Int32} {q r : Fin 41} (h : 0 ≤ k.toInt ∧ k.toInt < (q.val : Int)) : fl_P 42 k (4 + r.val) q.val := ⟨h.1, by omega, by omega, by omega, by omega, by omega⟩
theorem fl_dec {q : Fin 41} (h : 1 ≤ q.val) : vp_in (Int32.ofNat q.val - 1) 41 := by
  have e : (Int32.ofNat q.val - 1).toInt = (q.val : Int) - 1 := by
    rw [i_sub, i_of _ (by omega)]
    · rfl
    · rw [i_of _ (by omega)]; show _ ≤ (q.val : Int) - 1; omega
    · rw [i_of _ (by omega)]; show (q.val : Int) - 1 < _; omega
  rw [i_in, e]
  omega
def fl_take_19 : Nat → mx_C → Int32 → Nat → Int32 → mx_C × Nat
  | 0, c, _, _, _ => (c, 0)
  | n + 1, c, v1, r2, v3 =>
    if v3 < 40 then
      let c1 := mx_pr c (Int32.toNatClampNeg v3) (Fin.ofNat 41 ((4 + (c.2.1 (Int32.toNatClampNeg (v3 + 1))).val) - 4))
      fl_take_19 n c1 v1 r2 (v3 + 1)
    else
      let c2 := mx_pr c 40 (Fin.ofNat 41 (r2 - 4))
      let c3 := mx_pf c2 ((Int32.ofNat c2.2.2.2.1.val) - 1)
      (c3, r2)
def fl_take (c : mx_C) (a1 : Int32) : mx_C × Nat :=
  fl_take_19 (42) c a1 (4 + (c.2.1 (Int32.toNatClampNeg a1)).val) a1
def K_fl_take : rx_K mx := k_RI (fun a0 a1 c m => (a0 = 1 ∧ ¬ fl_holds c a1 = 0, ((fl_take c a1).1, m), some (.ref (fl_take c a1).2)))
def L_fl_take : List (rx_E mx) := [
  (0, .aload_n 0, 1, 0, 0, 0, [], kno),
  (1, .iload_n 1, 1, 0, 1, 0, [], kno),
  (2, .invokevirtual 53, 3, 7, 2, 0, [], K_fl_holds),
  (5, .ifCond .ne 5, 3, 2, 6, 0, [], kno),
  (8, .aconst_null, 1, 0, 0, 0, [], kno),
  (9, .areturn, 1, 5, 2, 0, [], kno),
  (10, .aload_n 0, 1, 0, 0, 0, [], kno),
  (11, .getfield 11, 3, 7, 1, 0, [], kgr0 1 0 2),
  (14, .iload_n 1, 1, 0, 1, 0, [], kno),
  (15, .aaload, 1, 7, 2, 0, [], kar),
  (16, .astore_n 2, 1, 0, 2, 0, [], kno),
  (17, .iload_n 1, 1, 0, 1, 0, [], kno),
  (18, .istore_n 3, 1, 0, 3, 0, [], kno),
  (19, .iload_n 3, 1, 0, 3, 0, [], kno),
  (20, .bipush 40, 2, 0, 0, 40, [], kno),
  (22, .if_icmp .ge 23, 3, 2, 28, 0, [], kno),
  (25, .aload_n 0, 1, 0, 0, 0, [], kno),
  (26, .getfield 11, 3, 7, 1, 0, [], kgr0 1 0 2),
  (29, .iload_n 3, 1, 0, 3, 0, [], kno),
  (30, .aload_n 0, 1, 0, 0, 0, [], kno),
  (31, .getfield 11, 3, 7, 1, 0, [], kgr0 1 0 2),
  (34, .iload_n 3, 1, 0, 3, 0, [], kno),
  (35, .iconst 1, 1, 0, 0, 1, [], kno),
  (36, .iadd, 1, 0, 0, 0, [], kno),
  (37, .aaload, 1, 7, 2, 0, [], kar),
  (38, .aastore, 1, 7, 3, 0, [], kpr),
  (39, .iinc 3 1, 3, 0, 3, 1, [], kno),
  (42, .goto (-23), 3, 1, 13, 0, [], kno),
  (45, .aload_n 0, 1, 0, 0, 0, [], kno),
  (46, .getfield 11, 3, 7, 1, 0, [], kgr0 1 0 2),
  (49, .bipush 40, 2, 0, 0, 40, [], kno),
  (51, .aload_n 2, 1, 0, 2, 0, [], kno),
  (52, .aastore, 1, 7, 3, 0, [], kpr),
  (53, .aload_n 0, 1, 0, 0, 0, [], kno),
  (54, .dup, 1, 0, 0, 0, [], kno),
  (55, .getfield 22, 3, 7, 1, 0, [], kgf),
  (58, .iconst 1, 1, 0, 0, 1, [], kno),
  (59, .isub, 1, 0, 0, 0, [], kno),
  (60, .putfield 22, 3, 7, 2, 0, [], kpf),
  (63, .aload_n 2, 1, 0, 2, 0, [], kno),
  (64, .areturn, 1, 5, 2, 0, [], kno)]
def G_fl_take (n : Nat) : rx_G := fun x ls st =>
  match ls, st with
  | [some (.ref r0), some (.int v1), some (.ref r2), some (.int v3)], [] => (r0 = 1 ∧ fl_P n v3 r2 x.1.2.2.2.1.val, rw_r x.2 (fl_take_19 n x.1 v1 r2 v3))
  | _, _ => (False, (x, none))
theorem GI_fl_take {n : Nat} {x : mx} {ls : rx_L} {st : List Value} (h : (G_fl_take n x ls st).1) : ∃ (r0 : Nat) (v1 : Int32) (r2 : Nat) (v3 : Int32), ls = [some (.ref r0), some (.int v1), some (.ref r2), some (.int v3)] ∧ st = [] ∧ r0 = 1 ∧ fl_P n v3 r2 x.1.2.2.2.1.val := by
  unfold G_fl_take at h
  split at h
  · exact ⟨_, _, _, _, rfl, rfl, h⟩
  · exact False.elim h
theorem EH_fl_take (n : Nat) (c : mx_C) (m : mx_M) (v1 : Int32) (r2 : Nat) (v3 : Int32) : rx_ev L_fl_take [(19, G_fl_take n)] 43 (L_fl_take.drop 13) (c, m) [some (.ref 1), some (.int v1), some (.ref r2), some (.int v3)] [] = rw_r m (fl_take_19 (n + 1) c v1 r2 v3) :=
  rx_ite2 (f := rw_r m) (fun _ => rfl) (fun _ => rfl)
theorem SH_fl_take (n : Nat) (c : mx_C) (m : mx_M) (v1 : Int32) (r2 : Nat) (v3 : Int32) (hP : fl_P (n + 1) v3 r2 c.2.2.2.1.val) : rx_sf L_fl_take [(19, G_fl_take n)] 43 (L_fl_take.drop 13) (c, m) [some (.ref 1), some (.int v1), some (.ref r2), some (.int v3)] [] :=
  And.intro (fun h0 => And.intro rfl (And.intro rfl (And.intro (fl_P1 h0 hP).1.2 (And.intro (And.intro (fl_P1 h0 hP).1.1 (fl_row_in _)) (And.intro rfl (fl_P1 h0 hP).2))))) (fun h0 => And.intro rfl (And.intro (And.intro (i_in.mpr (by decide)) (And.intro hP.2.2.2.1 hP.2.2.2.2.1)) (And.intro rfl (And.intro (And.intro rfl (fl_dec hP.2.2.2.2.2)) (trivial)))))
theorem E_fl_take (c : mx_C) (m : mx_M) (a1 : Int32) (hh : ¬ fl_holds c a1 = 0) : rx_ev L_fl_take [(19, G_fl_take (42))] 43 L_fl_take (c, m) [some (.ref 1), some (.int a1), none, none] [] = rw_r m (fl_take c a1) :=
  rx_litF hh (rfl)
theorem S_fl_take (c : mx_C) (m : mx_M) (a1 : Int32) (hh : ¬ fl_holds c a1 = 0) : rx_sf L_fl_take [(19, G_fl_take (42))] 43 L_fl_take (c, m) [some (.ref 1), some (.int a1), none, none] [] :=
  And.intro rfl (And.intro (fun h => absurd h hh) (fun _ => And.intro rfl (And.intro (fl_k_in (fl_holds_in hh)) (And.intro rfl (fl_P0 (fl_holds_in hh))))))
theorem cv_fl_holds {p : Program} {l : Launch} {e : Env} {R : Room} {s : State} {m : MethodId} {args : Array Value} {below : List Frame} {meth : Method} {c : Code} {cc : ByteArray} {nL : Nat} {ad : Nat → Nat} {D : va_G} {g : Nat → ClassId} {B : Nat} {own : String} {idx : Nat} (X : ox_C p s m args c cc nL own D g ad B) (hV : rx_V l D g ad B ⟨"SubscriberLines$Flight", "holds", "(I)Z"⟩ prog_4_method_2_code 2 (some .boolean) 0 0 K_fl_holds) (hl : Cond.methodLink own idx ⟨"SubscriberLines$Flight", "holds", "(I)Z"⟩ ∈ al) (hR : 0 + 1 ≤ R.frames ∧ 8 + (2 + 11) + 0 ≤ R.locals) : rx_OK p l e R s m args below meth c cc nL ad (mx_W D g ad B s.heap) mx_cs (.invokevirtual idx) 3 2 (K_fl_holds) :=
  ox_callV (q := 1) (T := T_1) X hV (fun av x h => by obtain ⟨a0, a1, rfl⟩ := k_RI_inv h; exact ⟨a0, _, rfl, by have h2 : a0 = 1 := h; rw [h2]; rfl⟩) (by decide) rfl hl (al_at 445 (by decide +kernel) rfl) (al_at 446 (by decide +kernel) rfl) (al_at 2 (by decide +kernel) rfl) (al_at 447 (by decide +kernel) rfl) ⟨by decide, by decide, by decide +kernel⟩ hR
theorem ok_fl_take : rx_okF prog_4_method_4_code 4 (some (.object "SubscriberLines$Packet")) L_fl_take 0 L_fl_take = true := by decide +kernel
theorem O_fl_take {l : Launch} {D : va_G} {g : Nat → ClassId} {ad : Nat → Nat} {B : Nat} (had : mx_A ad B) {p : Program} {e : Env} {s : State} {m : MethodId} {args : Array Value} {below : List Frame} {meth : Method} {c : Code} (X : ox_C p s m args c prog_4_method_4_code 4 "SubscriberLines$Flight" D g ad B) : rx_ops p l e ({ frames := 1, cells := 0, slots := 0, locals := 21 } : Room) s m args below meth c prog_4_method_4_code 4 ad (mx_W D g ad B s.heap) mx_cs L_fl_take :=
  And.intro (cv_fl_holds X (V_fl_holds had) (al_at 444 (by decide +kernel) rfl) ⟨by decide, by decide⟩) (And.intro (og_fl_11_g X) (And.intro (ox_ar X) (And.intro (og_fl_11_g X) (And.intro (og_fl_11_g X) (And.intro (ox_ar X) (And.intro (ox_pr X) (And.intro (og_fl_11_g X) (And.intro (ox_pr X) (And.intro (og_fl_22_g X) (And.intro (og_fl_22_p X) (trivial)))))))))))
theorem V_fl_take {l : Launch} {D : va_G} {g : Nat → ClassId} {ad : Nat → Nat} {B : Nat} (had : mx_A ad B) : rx_V l D g ad B ⟨"SubscriberLines$Flight", "take", "(I)LSubscriberLines$Packet;"⟩ prog_4_method_4_code 4 (some (.object "SubscriberLines$Packet")) 1 21 K_fl_take := by
  intro av x hp
  obtain ⟨a0, a1, rfl⟩ := k_RI_inv hp
  have hp : a0 = 1 ∧ ¬ fl_holds x.1 a1 = 0 := hp
  have h0 : a0 = 1 := hp.1
  subst h0
  refine rx_metX (k := 2) had (by decide) (Nat.le_of_ble_eq_true rfl) fun p e s m args below meth c X hr hlk => ?_
  refine rx_walk X hr hlk ok_fl_take (O_fl_take had X) (cut := [(19, G_fl_take (42))]) (rx_cc ?_ rx_c0) 43 0 rfl (S_fl_take x.1 x.2 a1 hp.2) (E_fl_take x.1 x.2 a1 hp.2)
  refine rx_loop (G := G_fl_take) X hr hlk ok_fl_take (O_fl_take had X) rx_c0 43 13 rfl (fun x ls st h => ?_) (fun n x ls st h => ?_) _
  · obtain ⟨r0, v1, r2, v3, -, -, h3⟩ := GI_fl_take h
    have h4 := h3.2
    omega
  · obtain ⟨r0, v1, r2, v3, rfl, rfl, h3⟩ := GI_fl_take h
    obtain ⟨rfl, hP⟩ := h3
    exact ⟨SH_fl_take n x.1 x.2 v1 r2 v3 hP, EH_fl_take n x.1 x.2 v1 r2 v3⟩
end
section
theorem fl_ex {k : Int32} {q : Fin 41} (h0 : ¬ k < 0) (h1 : k < Int32.ofNat q.val - 1) : vp_in k (mx_lenG 2 2 2) ∧ vp_in (k + 1) (mx_lenG 2 2 2) := by
  rw [i_lt, Int32.toInt_zero] at h0
  rw [i_lt] at h1
  have e : (Int32.ofNat q.val - 1).toInt = (q.val : Int) - 1 := by
    rw [i_sub, i_of _ (by omega)]
    · rfl
    · rw [i_of _ (by omega)]; show _ ≤ (q.val : Int) - 1; omega
    · rw [i_of _ (by omega)]; show (q.val : Int) - 1 < _; omega
  rw [e] at h1
  have e2 : (k + 1).toInt = k.toInt + 1 := i_add (show _ ≤ k.toInt + 1 by omega) (show k.toInt + 1 < _ by omega)
  rw [i_in, i_in, e2]
  show (_ ∧ k.toInt < (41 : Int)) ∧ (_ ∧ k.toInt + 1 < (41 : Int))
  omega
def fl_exchange (c : mx_C) (a1 : Int32) : mx_C × Int32 :=
  if a1 < 0 then
    (c, 0)
  else
    if a1 < ((Int32.ofNat c.2.2.2.1.val) - 1) then
      let c1 := mx_pr c (Int32.toNatClampNeg a1) (Fin.ofNat 41 ((4 + (c.2.1 (Int32.toNatClampNeg (a1 + 1))).val) - 4))
      let c2 := mx_pr c1 (Int32.toNatClampNeg (a1 + 1)) (Fin.ofNat 41 ((4 + (c.2.1 (Int32.toNatClampNeg a1)).val) - 4))
      (c2, 1)
    else
      (c, 0)
def K_fl_exchange : rx_K mx := k_RI (fun a0 a1 c m => (a0 = 1, ((fl_exchange c a1).1, m), some (.int (fl_exchange c a1).2)))
def L_fl_exchange : List (rx_E mx) := [
  (0, .iload_n 1, 1, 0, 1, 0, [], kno),
  (1, .ifCond .lt 13, 3, 2, 8, 0, [], kno),
  (4, .iload_n 1, 1, 0, 1, 0, [], kno),
  (5, .aload_n 0, 1, 0, 0, 0, [], kno),
  (6, .getfield 22, 3, 7, 1, 0, [], kgf),
  (9, .iconst 1, 1, 0, 0, 1, [], kno),
  (10, .isub, 1, 0, 0, 0, [], kno),
  (11, .if_icmp .lt 5, 3, 2, 10, 0, [], kno),
  (14, .iconst 0, 1, 0, 0, 0, [], kno),
  (15, .ireturn, 1, 5, 1, 0, [], kno),
  (16, .aload_n 0, 1, 0, 0, 0, [], kno),
  (17, .getfield 11, 3, 7, 1, 0, [], kgr0 1 0 2),
  (20, .iload_n 1, 1, 0, 1, 0, [], kno),
  (21, .aaload, 1, 7, 2, 0, [], kar),
  (22, .astore_n 2, 1, 0, 2, 0, [], kno),
  (23, .aload_n 0, 1, 0, 0, 0, [], kno),
  (24, .getfield 11, 3, 7, 1, 0, [], kgr0 1 0 2),
  (27, .iload_n 1, 1, 0, 1, 0, [], kno),
  (28, .aload_n 0, 1, 0, 0, 0, [], kno),
  (29, .getfield 11, 3, 7, 1, 0, [], kgr0 1 0 2),
  (32, .iload_n 1, 1, 0, 1, 0, [], kno),
  (33, .iconst 1, 1, 0, 0, 1, [], kno),
  (34, .iadd, 1, 0, 0, 0, [], kno),
  (35, .aaload, 1, 7, 2, 0, [], kar),
  (36, .aastore, 1, 7, 3, 0, [], kpr),
  (37, .aload_n 0, 1, 0, 0, 0, [], kno),
  (38, .getfield 11, 3, 7, 1, 0, [], kgr0 1 0 2),
  (41, .iload_n 1, 1, 0, 1, 0, [], kno),
  (42, .iconst 1, 1, 0, 0, 1, [], kno),
  (43, .iadd, 1, 0, 0, 0, [], kno),
  (44, .aload_n 2, 1, 0, 2, 0, [], kno),
  (45, .aastore, 1, 7, 3, 0, [], kpr),
  (46, .iconst 1, 1, 0, 0, 1, [], kno),
  (47, .ireturn, 1, 5, 1, 0, [], kno)]
theorem E_fl_exchange (c : mx_C) (m : mx_M) (a1 : Int32)  : rx_ev L_fl_exchange [] 36 L_fl_exchange (c, m) [some (.ref 1), some (.int a1), none] [] = rw_i m (fl_exchange c a1) :=
  rx_ite2 (f := rw_i m) (fun _ => rfl) (fun _ => rx_ite2 (f := rw_i m) (fun _ => rfl) (fun _ => rfl))
theorem S_fl_exchange (c : mx_C) (m : mx_M) (a1 : Int32)  : rx_sf L_fl_exchange [] 36 L_fl_exchange (c, m) [some (.ref 1), some (.int a1), none] [] :=
  And.intro (fun h0 => Or.inl rfl) (fun h0 => And.intro rfl (And.intro (fun h1 => And.intro rfl (And.intro (fl_ex h0 h1).1 (And.intro rfl (And.intro rfl (And.intro (fl_ex h0 h1).2 (And.intro (And.intro (fl_ex h0 h1).1 (fl_row_in _)) (And.intro rfl (And.intro (And.intro (fl_ex h0 h1).2 (fl_row_in _)) (Or.inr rfl))))))))) (fun h1 => Or.inl rfl)))

theorem ok_fl_exchange : rx_okF prog_4_method_5_code 3 (some .boolean) L_fl_exchange 0 L_fl_exchange = true := by decide +kernel
theorem V_fl_exchange {l : Launch} {D : va_G} {g : Nat → ClassId} {ad : Nat → Nat} {B : Nat} (had : mx_A ad B) : rx_V l D g ad B ⟨"SubscriberLines$Flight", "exchange", "(I)Z"⟩ prog_4_method_5_code 3 (some .boolean) 0 0 K_fl_exchange := by
  intro av x hp
  obtain ⟨a0, a1, rfl⟩ := k_RI_inv hp
  have hp : a0 = 1 := hp
  have h0 : a0 = 1 := hp
  subst h0
  exact rx_met (k := 1) had (by decide) (Nat.le_of_ble_eq_true rfl) ok_fl_exchange rfl rfl 36 (fun p e s m args below meth c X => And.intro (og_fl_22_g X) (And.intro (og_fl_11_g X) (And.intro (ox_ar X) (And.intro (og_fl_11_g X) (And.intro (og_fl_11_g X) (And.intro (ox_ar X) (And.intro (ox_pr X) (And.intro (og_fl_11_g X) (And.intro (ox_pr X) (trivial)))))))))) (S_fl_exchange x.1 x.2 a1 ) (E_fl_exchange x.1 x.2 a1)
def K_fl_takeN : rx_K mx := k_RI (fun a0 a1 c m => (a0 = 1 ∧ fl_holds c a1 = 0, (c, m), some .null))
theorem E_fl_takeN (c : mx_C) (m : mx_M) (a1 : Int32) (hh : fl_holds c a1 = 0) : rx_ev L_fl_take [] 43 L_fl_take (c, m) [some (.ref 1), some (.int a1), none, none] [] = ((c, m), some .null) := rx_litT hh rfl
theorem S_fl_takeN (c : mx_C) (m : mx_M) (a1 : Int32) (hh : fl_holds c a1 = 0) : rx_sf L_fl_take [] 43 L_fl_take (c, m) [some (.ref 1), some (.int a1), none, none] [] := And.intro rfl (And.intro (fun _ => trivial) (fun h => absurd hh h))
theorem ok_fl_takeN : rx_okF prog_4_method_4_code 4 (some (.object "SubscriberLines$Packet")) L_fl_take 0 L_fl_take = true := by decide +kernel
theorem V_fl_takeN {l : Launch} {D : va_G} {g : Nat → ClassId} {ad : Nat → Nat} {B : Nat} (had : mx_A ad B) : rx_V l D g ad B ⟨"SubscriberLines$Flight", "take", "(I)LSubscriberLines$Packet;"⟩ prog_4_method_4_code 4 (some (.object "SubscriberLines$Packet")) 1 21 K_fl_takeN := by
  intro av x hp
  obtain ⟨a0, a1, rfl⟩ := k_RI_inv hp
  have hp : a0 = 1 ∧ fl_holds x.1 a1 = 0 := hp
  have h0 : a0 = 1 := hp.1
  subst h0
  exact rx_met (k := 2) had (by decide) (Nat.le_of_ble_eq_true rfl) ok_fl_takeN rfl rfl 43 (fun p e s m args below meth c X => And.intro (cv_fl_holds X (V_fl_holds had) (al_at 444 (by decide +kernel) rfl) ⟨by decide, by decide⟩) (And.intro (og_fl_11_g X) (And.intro (ox_ar X) (And.intro (og_fl_11_g X) (And.intro (og_fl_11_g X) (And.intro (ox_ar X) (And.intro (ox_pr X) (And.intro (og_fl_11_g X) (And.intro (ox_pr X) (And.intro (og_fl_22_g X) (And.intro (og_fl_22_p X) (trivial)))))))))))) (S_fl_takeN x.1 x.2 a1 hp.2) (E_fl_takeN x.1 x.2 a1 hp.2)
theorem hi_len {t : Nat} (h : mx_kl t = 3) : mx_lenG 0 0 (t + 1) = mx_len (t + 1) ∧ (mx_len (t + 1) = 4 ∨ mx_len (t + 1) = 8) := by
  have hi := mx_kl_lt h (by decide)
  have k : ∀ j : Fin 116, mx_kl j.val = 3 → mx_lenG 0 0 (j.val + 1) = mx_len (j.val + 1) ∧ (mx_len (j.val + 1) = 4 ∨ mx_len (j.val + 1) = 8) := by decide +kernel
  exact k ⟨t, hi⟩ h
abbrev hi_P (n : Nat) (v : Int32) (t : Nat) : Prop := 0 ≤ v.toInt ∧ v.toInt < (mx_len (t + 1) : Int) ∧ v.toInt < (n : Int)
theorem hi_P0 {t : Nat} (h : mx_kl t = 3) : 0 < mx_len (t + 1) ∧ hi_P 9 (Int32.ofNat (mx_len (t + 1)) - 1) t := by
  have hl := (hi_len h).2
  unfold hi_P
  rcases hl with hl | hl <;> rw [hl] <;> decide
theorem hi_in {v : Int32} {t : Nat} (h : mx_kl t = 3) (h1 : 0 ≤ v.toInt) (h2 : v.toInt < (mx_len (t + 1) : Int)) : vp_in v (mx_lenG 0 0 (t + 1)) := by
  rw [(hi_len h).1, i_in]
  exact ⟨h1, h2⟩
theorem hi_P1 {n : Nat} {v : Int32} {t : Nat} (hk : mx_kl t = 3) (h : 0 < v) (hP : hi_P (n + 1) v t) : (vp_in v (mx_lenG 0 0 (t + 1)) ∧ vp_in (v - 1) (mx_lenG 0 0 (t + 1))) ∧ hi_P n (v + -1) t := by
  rw [i_lt, Int32.toInt_zero] at h
  obtain ⟨p1, p2, p3⟩ := hP
  have hr := i_rng v
  have e : (v - 1).toInt = v.toInt - 1 := i_sub (show _ ≤ v.toInt - 1 by omega) (show v.toInt - 1 < _ by omega)
  have e2 : (v + -1).toInt = v.toInt + -1 := i_add (show _ ≤ v.toInt + -1 by omega) (show v.toInt + -1 < _ by omega)
  refine ⟨⟨hi_in hk p1 p2, hi_in hk (by rw [e]; omega) (by rw [e]; omega)⟩, ?_⟩
  unfold hi_P
  rw [e2]
  omega
theorem hi_z {t : Nat} (hk : mx_kl t = 3) : vp_in 0 (mx_lenG 0 0 (t + 1)) := by
  refine hi_in hk (by decide) ?_
  show (0 : Int) < _
  have := (hi_len hk).2
  omega
theorem hi_lt {t : Nat} {k : Int32} (hk : mx_kl t = 3) (h0 : ¬ k < 0) (h1 : k < Int32.ofNat (mx_len (t + 1))) : vp_in k (mx_lenG 0 0 (t + 1)) := by
  have hl := (hi_len hk).2
  rw [i_lt, Int32.toInt_zero] at h0
  rw [i_lt, i_of _ (by omega)] at h1
  exact hi_in hk (by omega) h1
def hi_add_8 : Nat → mx_C → Nat → Int32 → Int32 → mx_C
  | 0, c, _, _, _ => c
  | n + 1, c, r0, v1, v2 =>
    if 0 < v2 then
      let c1 := mx_pi c (r0 + 1) (Int32.toNatClampNeg v2) (c.1 (r0 + 1) (Int32.toNatClampNeg (v2 - 1)))
      hi_add_8 n c1 r0 v1 (v2 + (-1))
    else
      let c2 := mx_pi c (r0 + 1) 0 v1
      let c3 := mx_pi c2 r0 1 ((c2.1 r0 1) + 1)
      c3
def hi_add (c : mx_C) (t : Nat) (a1 : Int32) : mx_C :=
  hi_add_8 (9) c t a1 ((Int32.ofNat (mx_len (t + 1))) - 1)
def K_hi_add : rx_K mx := k_RI (fun a0 a1 c m => (mx_kl a0 = 3, (hi_add c a0 a1, m), none))
def L_hi_add : List (rx_E mx) := [
  (0, .aload_n 0, 1, 0, 0, 0, [], kno),
  (1, .getfield 7, 3, 7, 1, 0, [], kgr1 3 0 1),
  (4, .arraylength, 1, 7, 1, 0, [], kal),
  (5, .iconst 1, 1, 0, 0, 1, [], kno),
  (6, .isub, 1, 0, 0, 0, [], kno),
  (7, .istore_n 2, 1, 0, 2, 0, [], kno),
  (8, .iload_n 2, 1, 0, 2, 0, [], kno),
  (9, .ifCond .le 23, 3, 2, 20, 0, [], kno),
  (12, .aload_n 0, 1, 0, 0, 0, [], kno),
  (13, .getfield 7, 3, 7, 1, 0, [], kgr1 3 0 1),
  (16, .iload_n 2, 1, 0, 2, 0, [], kno),
  (17, .aload_n 0, 1, 0, 0, 0, [], kno),
  (18, .getfield 7, 3, 7, 1, 0, [], kgr1 3 0 1),
  (21, .iload_n 2, 1, 0, 2, 0, [], kno),
  (22, .iconst 1, 1, 0, 0, 1, [], kno),
  (23, .isub, 1, 0, 0, 0, [], kno),
  (24, .iaload, 1, 7, 2, 0, [], kai),
  (25, .iastore, 1, 7, 3, 0, [], kpa),
  (26, .iinc 2 (-1), 3, 0, 2, (-1), [], kno),
  (29, .goto (-21), 3, 1, 6, 0, [], kno),
  (32, .aload_n 0, 1, 0, 0, 0, [], kno),
  (33, .getfield 7, 3, 7, 1, 0, [], kgr1 3 0 1),
  (36, .iconst 0, 1, 0, 0, 0, [], kno),
  (37, .iload_n 1, 1, 0, 1, 0, [], kno),
  (38, .iastore, 1, 7, 3, 0, [], kpa),
  (39, .aload_n 0, 1, 0, 0, 0, [], kno),
  (40, .dup, 1, 0, 0, 0, [], kno),
  (41, .getfield 13, 3, 7, 1, 0, [], kgi 3 1),
  (44, .iconst 1, 1, 0, 0, 1, [], kno),
  (45, .iadd, 1, 0, 0, 0, [], kno),
  (46, .putfield 13, 3, 7, 2, 0, [], kpi 3 1),
  (49, .return_, 1, 6, 0, 0, [], kno)]
def G_hi_add (n : Nat) : rx_G := fun x ls st =>
  match ls, st with
  | [some (.ref r0), some (.int v1), some (.int v2)], [] => (mx_kl r0 = 3 ∧ hi_P n v2 r0, rw_v x.2 (hi_add_8 n x.1 r0 v1 v2))
  | _, _ => (False, (x, none))
theorem GI_hi_add {n : Nat} {x : mx} {ls : rx_L} {st : List Value} (h : (G_hi_add n x ls st).1) : ∃ (r0 : Nat) (v1 : Int32) (v2 : Int32), ls = [some (.ref r0), some (.int v1), some (.int v2)] ∧ st = [] ∧ mx_kl r0 = 3 ∧ hi_P n v2 r0 := by
  unfold G_hi_add at h
  split at h
  · exact ⟨_, _, _, rfl, rfl, h⟩
  · exact False.elim h
theorem EH_hi_add (n : Nat) (c : mx_C) (m : mx_M) (r0 : Nat) (v1 : Int32) (v2 : Int32) : rx_ev L_hi_add [(8, G_hi_add n)] 34 (L_hi_add.drop 6) (c, m) [some (.ref r0), some (.int v1), some (.int v2)] [] = rw_v m (hi_add_8 (n + 1) c r0 v1 v2) :=
  rx_ite2 (f := rw_v m) (fun _ => rfl) (fun _ => rfl)
theorem SH_hi_add (n : Nat) (c : mx_C) (m : mx_M) (r0 : Nat) (v1 : Int32) (v2 : Int32) (hk : mx_kl r0 = 3) (hP : hi_P (n + 1) v2 r0) : rx_sf L_hi_add [(8, G_hi_add n)] 34 (L_hi_add.drop 6) (c, m) [some (.ref r0), some (.int v1), some (.int v2)] [] :=
  And.intro (fun h0 => And.intro hk (And.intro hk (And.intro (hi_P1 hk h0 hP).1.2 (And.intro (hi_P1 hk h0 hP).1.1 (And.intro hk (hi_P1 hk h0 hP).2))))) (fun h0 => And.intro hk (And.intro (hi_z hk) (And.intro hk (And.intro hk (trivial)))))
theorem E_hi_add (c : mx_C) (m : mx_M) (t : Nat) (a1 : Int32)  : rx_ev L_hi_add [(8, G_hi_add (9))] 34 L_hi_add (c, m) [some (.ref t), some (.int a1), none] [] = rw_v m (hi_add c t a1) :=
  rfl
theorem S_hi_add (c : mx_C) (m : mx_M) (t : Nat) (a1 : Int32) (ht : mx_kl t = 3) : rx_sf L_hi_add [(8, G_hi_add (9))] 34 L_hi_add (c, m) [some (.ref t), some (.int a1), none] [] :=
  And.intro ht (And.intro (hi_P0 ht).1 (And.intro ht (hi_P0 ht).2))
theorem og_hi_7_g {p : Program} {l : Launch} {e : Env} {R : Room} {s : State} {m : MethodId} {args : Array Value} {below : List Frame} {meth : Method} {c : Code} {cc : ByteArray} {nL : Nat} {ad : Nat → Nat} {D : va_G} {g : Nat → ClassId} {B : Nat} (X : ox_C p s m args c cc nL "SubscriberLines$History" D g ad B) : rx_OK p l e R s m args below meth c cc nL ad (mx_W D g ad B s.heap) mx_cs (.getfield 7) 3 1 (kgr1 3 0 1) := ox_gr1 (T := T_3) X rfl (by decide) (by decide) in_3 rfl (al_at 120 (by decide +kernel) rfl)
theorem og_hi_13_g {p : Program} {l : Launch} {e : Env} {R : Room} {s : State} {m : MethodId} {args : Array Value} {below : List Frame} {meth : Method} {c : Code} {cc : ByteArray} {nL : Nat} {ad : Nat → Nat} {D : va_G} {g : Nat → ClassId} {B : Nat} (X : ox_C p s m args c cc nL "SubscriberLines$History" D g ad B) : rx_OK p l e R s m args below meth c cc nL ad (mx_W D g ad B s.heap) mx_cs (.getfield 13) 3 1 (kgi 3 1) := ox_gi (T := T_3) X rfl (by decide) (by decide) in_3 rfl (al_at 121 (by decide +kernel) rfl)
theorem og_hi_13_p {p : Program} {l : Launch} {e : Env} {R : Room} {s : State} {m : MethodId} {args : Array Value} {below : List Frame} {meth : Method} {c : Code} {cc : ByteArray} {nL : Nat} {ad : Nat → Nat} {D : va_G} {g : Nat → ClassId} {B : Nat} (X : ox_C p s m args c cc nL "SubscriberLines$History" D g ad B) : rx_OK p l e R s m args below meth c cc nL ad (mx_W D g ad B s.heap) mx_cs (.putfield 13) 3 2 (kpi 3 1) := ox_pi (T := T_3) X rfl (by decide) (by decide) in_3 rfl ty_3 ty_3_ok nm_3 rfl rfl rfl (al_at 121 (by decide +kernel) rfl)
theorem ok_hi_add : rx_okF prog_5_method_2_code 3 none L_hi_add 0 L_hi_add = true := by decide +kernel
theorem O_hi_add {l : Launch} {D : va_G} {g : Nat → ClassId} {ad : Nat → Nat} {B : Nat} (had : mx_A ad B) {p : Program} {e : Env} {s : State} {m : MethodId} {args : Array Value} {below : List Frame} {meth : Method} {c : Code} (X : ox_C p s m args c prog_5_method_2_code 3 "SubscriberLines$History" D g ad B) : rx_ops p l e ({ frames := 0, cells := 0, slots := 0, locals := 0 } : Room) s m args below meth c prog_5_method_2_code 3 ad (mx_W D g ad B s.heap) mx_cs L_hi_add :=
  And.intro (og_hi_7_g X) (And.intro (ox_al X) (And.intro (og_hi_7_g X) (And.intro (og_hi_7_g X) (And.intro (ox_ai X) (And.intro (ox_pa X) (And.intro (og_hi_7_g X) (And.intro (ox_pa X) (And.intro (og_hi_13_g X) (And.intro (og_hi_13_p X) (trivial))))))))))
theorem V_hi_add {l : Launch} {D : va_G} {g : Nat → ClassId} {ad : Nat → Nat} {B : Nat} (had : mx_A ad B) : rx_V l D g ad B ⟨"SubscriberLines$History", "add", "(I)V"⟩ prog_5_method_2_code 3 none 0 0 K_hi_add := by
  intro av x hp
  obtain ⟨a0, a1, rfl⟩ := k_RI_inv hp
  have hp : mx_kl a0 = 3 := hp
  refine rx_metX (k := 1) had (by decide) (Nat.le_of_ble_eq_true rfl) fun p e s m args below meth c X hr hlk => ?_
  refine rx_walk X hr hlk ok_hi_add (O_hi_add had X) (cut := [(8, G_hi_add (9))]) (rx_cc ?_ rx_c0) 34 0 rfl (S_hi_add x.1 x.2 a0 a1 hp) (E_hi_add x.1 x.2 a0 a1 )
  refine rx_loop (G := G_hi_add) X hr hlk ok_hi_add (O_hi_add had X) rx_c0 34 6 rfl (fun x ls st h => ?_) (fun n x ls st h => ?_) _
  · obtain ⟨r0, v1, v2, -, -, h3⟩ := GI_hi_add h
    have h4 := h3.2
    omega
  · obtain ⟨r0, v1, v2, rfl, rfl, h3⟩ := GI_hi_add h
    obtain ⟨hk, hP⟩ := h3
    exact ⟨SH_hi_add n x.1 x.2 r0 v1 v2 hk hP, EH_hi_add n x.1 x.2 r0 v1 v2⟩
def hi_latest (c : mx_C) (t : Nat) (a1 : Int32) : Int32 :=
  if a1 < 0 then
    0
  else
    if a1 < (Int32.ofNat (mx_len (t + 1))) then
      (c.1 (t + 1) (Int32.toNatClampNeg a1))
    else
      0
def K_hi_latest : rx_K mx := k_RI (fun a0 a1 c m => (mx_kl a0 = 3, (c, m), some (.int (hi_latest c a0 a1))))
def L_hi_latest : List (rx_E mx) := [
  (0, .iload_n 1, 1, 0, 1, 0, [], kno),
  (1, .ifCond .lt 21, 3, 2, 12, 0, [], kno),
  (4, .iload_n 1, 1, 0, 1, 0, [], kno),
  (5, .aload_n 0, 1, 0, 0, 0, [], kno),
  (6, .getfield 7, 3, 7, 1, 0, [], kgr1 3 0 1),
  (9, .arraylength, 1, 7, 1, 0, [], kal),
  (10, .if_icmp .ge 12, 3, 2, 12, 0, [], kno),
  (13, .aload_n 0, 1, 0, 0, 0, [], kno),
  (14, .getfield 7, 3, 7, 1, 0, [], kgr1 3 0 1),
  (17, .iload_n 1, 1, 0, 1, 0, [], kno),
  (18, .iaload, 1, 7, 2, 0, [], kai),
  (19, .goto 4, 3, 1, 13, 0, [], kno),
  (22, .iconst 0, 1, 0, 0, 0, [], kno),
  (23, .ireturn, 1, 5, 0, 0, [], kno)]
theorem E_hi_latest (c : mx_C) (m : mx_M) (t : Nat) (a1 : Int32)  : rx_ev L_hi_latest [] 16 L_hi_latest (c, m) [some (.ref t), some (.int a1)] [] = rw_p c m (hi_latest c t a1) :=
  rx_ite2 (f := rw_p c m) (fun _ => rfl) (fun _ => rx_ite2 (f := rw_p c m) (fun _ => rfl) (fun _ => rfl))
theorem S_hi_latest (c : mx_C) (m : mx_M) (t : Nat) (a1 : Int32) (ht : mx_kl t = 3) : rx_sf L_hi_latest [] 16 L_hi_latest (c, m) [some (.ref t), some (.int a1)] [] :=
  And.intro (fun h0 => trivial) (fun h0 => And.intro ht (And.intro (hi_P0 ht).1 (And.intro (fun h1 => And.intro ht (And.intro (hi_lt ht h0 h1) (trivial))) (fun h1 => trivial))))

theorem ok_hi_latest : rx_okF prog_5_method_3_code 2 (some .int) L_hi_latest 0 L_hi_latest = true := by decide +kernel
theorem V_hi_latest {l : Launch} {D : va_G} {g : Nat → ClassId} {ad : Nat → Nat} {B : Nat} (had : mx_A ad B) : rx_V l D g ad B ⟨"SubscriberLines$History", "latest", "(I)I"⟩ prog_5_method_3_code 2 (some .int) 0 0 K_hi_latest := by
  intro av x hp
  obtain ⟨a0, a1, rfl⟩ := k_RI_inv hp
  have hp : mx_kl a0 = 3 := hp
  exact rx_met (k := 0) had (by decide) (Nat.le_of_ble_eq_true rfl) ok_hi_latest rfl rfl 16 (fun p e s m args below meth c X => And.intro (og_hi_7_g X) (And.intro (ox_al X) (And.intro (og_hi_7_g X) (And.intro (ox_ai X) (trivial))))) (S_hi_latest x.1 x.2 a0 a1 hp) (E_hi_latest x.1 x.2 a0 a1)
theorem su_wcell {t : Nat} (h : mx_kl t = 4) : mx_kl (t + 1) = 3 := by
  have hi := mx_kl_lt h (by decide)
  have k : ∀ j : Fin 116, mx_kl j.val = 4 → mx_kl (j.val + 1) = 3 := by decide +kernel
  exact k ⟨t, hi⟩ h
def su_receiveOnLink (c : mx_C) (t : Nat) (a1 : Nat) : mx_C :=
  if (c.1 a1 0) = 3 then
    let c1 := su_turnOff c t
    c1
  else
    if (c.1 a1 0) = 5 then
      let c2 := su_becomeAccepted c t (c.1 a1 4)
      c2
    else
      if (c.1 a1 0) = 6 then
        if (c.1 t 4) = 2 then
          let c3 := su_leave c t
          c3
        else
          if (c.1 a1 0) = 8 then
            if (c.1 t 4) = 3 then
              let c4 := mx_pi c t 11 0
              let q5 := fl_launch c4 9 (c4.1 t 1) 4
              let c6 := pk_bear q5.1 q5.2 (q5.1.1 t 6) 0 0
              c6
            else
              if (c.1 a1 0) = 11 then
                if (c.1 t 4) = 3 then
                  if (c.1 a1 4) = (c.1 t 5) then
                    let c7 := mx_pi c t 11 0
                    let c8 := hi_add c7 (t + 1) (c7.1 a1 5)
                    c8
                  else
                    c
                else
                  c
              else
                c
          else
            if (c.1 a1 0) = 11 then
              if (c.1 t 4) = 3 then
                if (c.1 a1 4) = (c.1 t 5) then
                  let c9 := mx_pi c t 11 0
                  let c10 := hi_add c9 (t + 1) (c9.1 a1 5)
                  c10
                else
                  c
              else
                c
            else
              c
      else
        if (c.1 a1 0) = 8 then
          if (c.1 t 4) = 3 then
            let c11 := mx_pi c t 11 0
            let q12 := fl_launch c11 9 (c11.1 t 1) 4
            let c13 := pk_bear q12.1 q12.2 (q12.1.1 t 6) 0 0
            c13
          else
            if (c.1 a1 0) = 11 then
              if (c.1 t 4) = 3 then
                if (c.1 a1 4) = (c.1 t 5) then
                  let c14 := mx_pi c t 11 0
                  let c15 := hi_add c14 (t + 1) (c14.1 a1 5)
                  c15
                else
                  c
              else
                c
            else
              c
        else
          if (c.1 a1 0) = 11 then
            if (c.1 t 4) = 3 then
              if (c.1 a1 4) = (c.1 t 5) then
                let c16 := mx_pi c t 11 0
                let c17 := hi_add c16 (t + 1) (c16.1 a1 5)
                c17
              else
                c
            else
              c
          else
            c
def K_su_receiveOnLink : rx_K mx := k_RR (fun a0 a1 c m => (mx_kl a0 = 4 ∧ mx_kl a1 = 2, (su_receiveOnLink c a0 a1, m), none))
def L_su_receiveOnLink : List (rx_E mx) := [
  (0, .aload_n 1, 1, 0, 1, 0, [], kno),
  (1, .getfield 61, 3, 7, 1, 0, [], kgi 2 0),
  (4, .iconst 3, 1, 0, 0, 3, [], kno),
  (5, .if_icmp .ne 10, 3, 2, 7, 0, [], kno),
  (8, .aload_n 0, 1, 0, 0, 0, [], kno),
  (9, .invokevirtual 87, 3, 7, 1, 0, [], K_su_turnOff),
  (12, .goto 138, 3, 1, 72, 0, [], kno),
  (15, .aload_n 1, 1, 0, 1, 0, [], kno),
  (16, .getfield 61, 3, 7, 1, 0, [], kgi 2 0),
  (19, .iconst 5, 1, 0, 0, 5, [], kno),
  (20, .if_icmp .ne 14, 3, 2, 16, 0, [], kno),
  (23, .aload_n 0, 1, 0, 0, 0, [], kno),
  (24, .aload_n 1, 1, 0, 1, 0, [], kno),
  (25, .getfield 90, 3, 7, 1, 0, [], kgi 2 4),
  (28, .invokevirtual 93, 3, 7, 2, 0, [], K_su_becomeAccepted),
  (31, .goto 119, 3, 1, 72, 0, [], kno),
  (34, .aload_n 1, 1, 0, 1, 0, [], kno),
  (35, .getfield 61, 3, 7, 1, 0, [], kgi 2 0),
  (38, .bipush 6, 2, 0, 0, 6, [], kno),
  (40, .if_icmp .ne 18, 3, 2, 27, 0, [], kno),
  (43, .aload_n 0, 1, 0, 0, 0, [], kno),
  (44, .getfield 28, 3, 7, 1, 0, [], kgi 4 4),
  (47, .iconst 2, 1, 0, 0, 2, [], kno),
  (48, .if_icmp .ne 10, 3, 2, 27, 0, [], kno),
  (51, .aload_n 0, 1, 0, 0, 0, [], kno),
  (52, .invokevirtual 43, 3, 7, 1, 0, [], K_su_leave),
  (55, .goto 95, 3, 1, 72, 0, [], kno),
  (58, .aload_n 1, 1, 0, 1, 0, [], kno),
  (59, .getfield 61, 3, 7, 1, 0, [], kgi 2 0),
  (62, .bipush 8, 2, 0, 0, 8, [], kno),
  (64, .if_icmp .ne 42, 3, 2, 51, 0, [], kno),
  (67, .aload_n 0, 1, 0, 0, 0, [], kno),
  (68, .getfield 28, 3, 7, 1, 0, [], kgi 4 4),
  (71, .iconst 3, 1, 0, 0, 3, [], kno),
  (72, .if_icmp .ne 34, 3, 2, 51, 0, [], kno),
  (75, .aload_n 0, 1, 0, 0, 0, [], kno),
  (76, .iconst 0, 1, 0, 0, 0, [], kno),
  (77, .putfield 78, 3, 7, 2, 0, [], kpi 4 11),
  (80, .aload_n 0, 1, 0, 0, 0, [], kno),
  (81, .getfield 24, 3, 7, 1, 0, [], kgr0 4 2 1),
  (84, .bipush 9, 2, 0, 0, 9, [], kno),
  (86, .aload_n 0, 1, 0, 0, 0, [], kno),
  (87, .getfield 20, 3, 7, 1, 0, [], kgi 4 1),
  (90, .iconst 4, 1, 0, 0, 4, [], kno),
  (91, .invokevirtual 46, 3, 7, 4, 0, [], K_fl_launch),
  (94, .aload_n 0, 1, 0, 0, 0, [], kno),
  (95, .getfield 52, 3, 7, 1, 0, [], kgi 4 6),
  (98, .iconst 0, 1, 0, 0, 0, [], kno),
  (99, .iconst 0, 1, 0, 0, 0, [], kno),
  (100, .invokevirtual 55, 3, 7, 4, 0, [], K_pk_bear),
  (103, .goto 47, 3, 1, 72, 0, [], kno),
  (106, .aload_n 1, 1, 0, 1, 0, [], kno),
  (107, .getfield 61, 3, 7, 1, 0, [], kgi 2 0),
  (110, .bipush 11, 2, 0, 0, 11, [], kno),
  (112, .if_icmp .ne 38, 3, 2, 72, 0, [], kno),
  (115, .aload_n 0, 1, 0, 0, 0, [], kno),
  (116, .getfield 28, 3, 7, 1, 0, [], kgi 4 4),
  (119, .iconst 3, 1, 0, 0, 3, [], kno),
  (120, .if_icmp .ne 30, 3, 2, 72, 0, [], kno),
  (123, .aload_n 1, 1, 0, 1, 0, [], kno),
  (124, .getfield 90, 3, 7, 1, 0, [], kgi 2 4),
  (127, .aload_n 0, 1, 0, 0, 0, [], kno),
  (128, .getfield 96, 3, 7, 1, 0, [], kgi 4 5),
  (131, .if_icmp .ne 19, 3, 2, 72, 0, [], kno),
  (134, .aload_n 0, 1, 0, 0, 0, [], kno),
  (135, .iconst 0, 1, 0, 0, 0, [], kno),
  (136, .putfield 78, 3, 7, 2, 0, [], kpi 4 11),
  (139, .aload_n 0, 1, 0, 0, 0, [], kno),
  (140, .getfield 16, 3, 7, 1, 0, [], kgr1 4 3 1),
  (143, .aload_n 1, 1, 0, 1, 0, [], kno),
  (144, .getfield 99, 3, 7, 1, 0, [], kgi 2 5),
  (147, .invokevirtual 102, 3, 7, 2, 0, [], K_hi_add),
  (150, .return_, 1, 6, 0, 0, [], kno)]
theorem E_su_receiveOnLink (c : mx_C) (m : mx_M) (t : Nat) (a1 : Nat)  : rx_ev L_su_receiveOnLink [] 75 L_su_receiveOnLink (c, m) [some (.ref t), some (.ref a1)] [] = rw_v m (su_receiveOnLink c t a1) :=
  rx_ite2 (f := rw_v m) (fun _ => rfl) (fun _ => rx_ite2 (f := rw_v m) (fun _ => rfl) (fun _ => rx_ite2 (f := rw_v m) (fun _ => rx_ite2 (f := rw_v m) (fun _ => rfl) (fun _ => rx_ite2 (f := rw_v m) (fun _ => rx_ite2 (f := rw_v m) (fun _ => rfl) (fun _ => rx_ite2 (f := rw_v m) (fun _ => rx_ite2 (f := rw_v m) (fun _ => rx_ite2 (f := rw_v m) (fun _ => rfl) (fun _ => rfl)) (fun _ => rfl)) (fun _ => rfl))) (fun _ => rx_ite2 (f := rw_v m) (fun _ => rx_ite2 (f := rw_v m) (fun _ => rx_ite2 (f := rw_v m) (fun _ => rfl) (fun _ => rfl)) (fun _ => rfl)) (fun _ => rfl)))) (fun _ => rx_ite2 (f := rw_v m) (fun _ => rx_ite2 (f := rw_v m) (fun _ => rfl) (fun _ => rx_ite2 (f := rw_v m) (fun _ => rx_ite2 (f := rw_v m) (fun _ => rx_ite2 (f := rw_v m) (fun _ => rfl) (fun _ => rfl)) (fun _ => rfl)) (fun _ => rfl))) (fun _ => rx_ite2 (f := rw_v m) (fun _ => rx_ite2 (f := rw_v m) (fun _ => rx_ite2 (f := rw_v m) (fun _ => rfl) (fun _ => rfl)) (fun _ => rfl)) (fun _ => rfl)))))
theorem S_su_receiveOnLink (c : mx_C) (m : mx_M) (t : Nat) (a1 : Nat) (ht : mx_kl t = 4) (ha1 : mx_kl a1 = 2) : rx_sf L_su_receiveOnLink [] 75 L_su_receiveOnLink (c, m) [some (.ref t), some (.ref a1)] [] :=
  And.intro ha1 (And.intro (fun h0 => And.intro ht (trivial)) (fun h0 => And.intro ha1 (And.intro (fun h1 => And.intro ha1 (And.intro ht (trivial))) (fun h1 => And.intro ha1 (And.intro (fun h2 => And.intro ht (And.intro (fun h3 => And.intro ht (trivial)) (fun h3 => And.intro ha1 (And.intro (fun h4 => And.intro ht (And.intro (fun h5 => And.intro ht (And.intro ht (And.intro ht (And.intro rfl (And.intro ht (And.intro (fl_launch_pk _ _ _ _) (trivial))))))) (fun h5 => And.intro ha1 (And.intro (fun h6 => And.intro ht (And.intro (fun h7 => And.intro ha1 (And.intro ht (And.intro (fun h8 => And.intro ht (And.intro ht (And.intro ha1 (And.intro (su_wcell ht) (trivial))))) (fun h8 => trivial)))) (fun h7 => trivial))) (fun h6 => trivial))))) (fun h4 => And.intro ha1 (And.intro (fun h5 => And.intro ht (And.intro (fun h6 => And.intro ha1 (And.intro ht (And.intro (fun h7 => And.intro ht (And.intro ht (And.intro ha1 (And.intro (su_wcell ht) (trivial))))) (fun h7 => trivial)))) (fun h6 => trivial))) (fun h5 => trivial))))))) (fun h2 => And.intro ha1 (And.intro (fun h3 => And.intro ht (And.intro (fun h4 => And.intro ht (And.intro ht (And.intro ht (And.intro rfl (And.intro ht (And.intro (fl_launch_pk _ _ _ _) (trivial))))))) (fun h4 => And.intro ha1 (And.intro (fun h5 => And.intro ht (And.intro (fun h6 => And.intro ha1 (And.intro ht (And.intro (fun h7 => And.intro ht (And.intro ht (And.intro ha1 (And.intro (su_wcell ht) (trivial))))) (fun h7 => trivial)))) (fun h6 => trivial))) (fun h5 => trivial))))) (fun h3 => And.intro ha1 (And.intro (fun h4 => And.intro ht (And.intro (fun h5 => And.intro ha1 (And.intro ht (And.intro (fun h6 => And.intro ht (And.intro ht (And.intro ha1 (And.intro (su_wcell ht) (trivial))))) (fun h6 => trivial)))) (fun h5 => trivial))) (fun h4 => trivial))))))))))

theorem og_su_61_g {p : Program} {l : Launch} {e : Env} {R : Room} {s : State} {m : MethodId} {args : Array Value} {below : List Frame} {meth : Method} {c : Code} {cc : ByteArray} {nL : Nat} {ad : Nat → Nat} {D : va_G} {g : Nat → ClassId} {B : Nat} (X : ox_C p s m args c cc nL "SubscriberLines$Subscriber" D g ad B) : rx_OK p l e R s m args below meth c cc nL ad (mx_W D g ad B s.heap) mx_cs (.getfield 61) 3 1 (kgi 2 0) := ox_gi (T := T_2) X rfl (by decide) (by decide) in_2 rfl (al_at 38 (by decide +kernel) rfl)
theorem og_su_90_g {p : Program} {l : Launch} {e : Env} {R : Room} {s : State} {m : MethodId} {args : Array Value} {below : List Frame} {meth : Method} {c : Code} {cc : ByteArray} {nL : Nat} {ad : Nat → Nat} {D : va_G} {g : Nat → ClassId} {B : Nat} (X : ox_C p s m args c cc nL "SubscriberLines$Subscriber" D g ad B) : rx_OK p l e R s m args below meth c cc nL ad (mx_W D g ad B s.heap) mx_cs (.getfield 90) 3 1 (kgi 2 4) := ox_gi (T := T_2) X rfl (by decide) (by decide) in_2 rfl (al_at 54 (by decide +kernel) rfl)
theorem cv_su_becomeAccepted {p : Program} {l : Launch} {e : Env} {R : Room} {s : State} {m : MethodId} {args : Array Value} {below : List Frame} {meth : Method} {c : Code} {cc : ByteArray} {nL : Nat} {ad : Nat → Nat} {D : va_G} {g : Nat → ClassId} {B : Nat} {own : String} {idx : Nat} (X : ox_C p s m args c cc nL own D g ad B) (hV : rx_V l D g ad B ⟨"SubscriberLines$Subscriber", "becomeAccepted", "(I)V"⟩ prog_10_method_10_code 2 none 1 24 K_su_becomeAccepted) (hl : Cond.methodLink own idx ⟨"SubscriberLines$Subscriber", "becomeAccepted", "(I)V"⟩ ∈ al) (hR : 1 + 1 ≤ R.frames ∧ 8 + (2 + 11) + 24 ≤ R.locals) : rx_OK p l e R s m args below meth c cc nL ad (mx_W D g ad B s.heap) mx_cs (.invokevirtual idx) 3 2 (K_su_becomeAccepted) :=
  ox_callV (q := 4) (T := T_4) X hV (fun av x h => by obtain ⟨a0, a1, rfl⟩ := k_RI_inv h; exact ⟨a0, _, rfl, h⟩) (by decide) rfl hl (al_at 599 (by decide +kernel) rfl) (al_pr (y := (⟨"SubscriberLines$Subscriber", "becomeAccepted", "(I)V"⟩, _)) 29 rfl) (al_at 5 (by decide +kernel) rfl) (al_at 600 (by decide +kernel) rfl) ⟨by decide, by decide, by decide +kernel⟩ hR
theorem og_su_16_g {p : Program} {l : Launch} {e : Env} {R : Room} {s : State} {m : MethodId} {args : Array Value} {below : List Frame} {meth : Method} {c : Code} {cc : ByteArray} {nL : Nat} {ad : Nat → Nat} {D : va_G} {g : Nat → ClassId} {B : Nat} (X : ox_C p s m args c cc nL "SubscriberLines$Subscriber" D g ad B) : rx_OK p l e R s m args below meth c cc nL ad (mx_W D g ad B s.heap) mx_cs (.getfield 16) 3 1 (kgr1 4 3 1) := ox_gr1 (T := T_4) X rfl (by decide) (by decide) in_4 rfl (al_at 131 (by decide +kernel) rfl)
theorem og_su_99_g {p : Program} {l : Launch} {e : Env} {R : Room} {s : State} {m : MethodId} {args : Array Value} {below : List Frame} {meth : Method} {c : Code} {cc : ByteArray} {nL : Nat} {ad : Nat → Nat} {D : va_G} {g : Nat → ClassId} {B : Nat} (X : ox_C p s m args c cc nL "SubscriberLines$Subscriber" D g ad B) : rx_OK p l e R s m args below meth c cc nL ad (mx_W D g ad B s.heap) mx_cs (.getfield 99) 3 1 (kgi 2 5) := ox_gi (T := T_2) X rfl (by decide) (by decide) in_2 rfl (al_at 59 (by decide +kernel) rfl)
theorem cv_hi_add {p : Program} {l : Launch} {e : Env} {R : Room} {s : State} {m : MethodId} {args : Array Value} {below : List Frame} {meth : Method} {c : Code} {cc : ByteArray} {nL : Nat} {ad : Nat → Nat} {D : va_G} {g : Nat → ClassId} {B : Nat} {own : String} {idx : Nat} (X : ox_C p s m args c cc nL own D g ad B) (hV : rx_V l D g ad B ⟨"SubscriberLines$History", "add", "(I)V"⟩ prog_5_method_2_code 3 none 0 0 K_hi_add) (hl : Cond.methodLink own idx ⟨"SubscriberLines$History", "add", "(I)V"⟩ ∈ al) (hR : 0 + 1 ≤ R.frames ∧ 8 + (3 + 11) + 0 ≤ R.locals) : rx_OK p l e R s m args below meth c cc nL ad (mx_W D g ad B s.heap) mx_cs (.invokevirtual idx) 3 2 (K_hi_add) :=
  ox_callV (q := 3) (T := T_3) X hV (fun av x h => by obtain ⟨a0, a1, rfl⟩ := k_RI_inv h; exact ⟨a0, _, rfl, h⟩) (by decide) rfl hl (al_at 569 (by decide +kernel) rfl) (al_at 570 (by decide +kernel) rfl) (al_at 6 (by decide +kernel) rfl) (al_at 571 (by decide +kernel) rfl) ⟨by decide, by decide, by decide +kernel⟩ hR
theorem ok_su_receiveOnLink : rx_okF prog_10_method_9_code 2 none L_su_receiveOnLink 0 L_su_receiveOnLink = true := by decide +kernel
theorem V_su_receiveOnLink {l : Launch} {D : va_G} {g : Nat → ClassId} {ad : Nat → Nat} {B : Nat} (had : mx_A ad B) : rx_V l D g ad B ⟨"SubscriberLines$Subscriber", "receiveOnLink", "(LSubscriberLines$Packet;)V"⟩ prog_10_method_9_code 2 none 2 45 K_su_receiveOnLink := by
  intro av x hp
  obtain ⟨a0, a1, rfl⟩ := k_RR_inv hp
  have hp : mx_kl a0 = 4 ∧ mx_kl a1 = 2 := hp
  exact rx_met (k := 0) had (by decide) (Nat.le_of_ble_eq_true rfl) ok_su_receiveOnLink rfl rfl 75 (fun p e s m args below meth c X => And.intro (og_su_61_g X) (And.intro (cv_su_turnOff X (V_su_turnOff had) (al_at 393 (by decide +kernel) rfl) ⟨by decide, by decide⟩) (And.intro (og_su_61_g X) (And.intro (og_su_90_g X) (And.intro (cv_su_becomeAccepted X (V_su_becomeAccepted had) (al_at 597 (by decide +kernel) rfl) ⟨by decide, by decide⟩) (And.intro (og_su_61_g X) (And.intro (og_su_28_g X) (And.intro (cv_su_leave X (V_su_leave had) (al_at 385 (by decide +kernel) rfl) ⟨by decide, by decide⟩) (And.intro (og_su_61_g X) (And.intro (og_su_28_g X) (And.intro (og_su_78_p X) (And.intro (og_su_24_g X) (And.intro (og_su_20_g X) (And.intro (cv_fl_launch X (V_fl_launch had) (al_at 369 (by decide +kernel) rfl) ⟨by decide, by decide⟩) (And.intro (og_su_52_g X) (And.intro (cv_pk_bear X (V_pk_bear had) (al_at 373 (by decide +kernel) rfl) ⟨by decide, by decide⟩) (And.intro (og_su_61_g X) (And.intro (og_su_28_g X) (And.intro (og_su_90_g X) (And.intro (og_su_96_g X) (And.intro (og_su_78_p X) (And.intro (og_su_16_g X) (And.intro (og_su_99_g X) (And.intro (cv_hi_add X (V_hi_add had) (al_at 601 (by decide +kernel) rfl) ⟨by decide, by decide⟩) (trivial))))))))))))))))))))))))) (S_su_receiveOnLink x.1 x.2 a0 a1 hp.1 hp.2) (E_su_receiveOnLink x.1 x.2 a0 a1)
def su_receive (c : mx_C) (t : Nat) (a1 : Nat) : mx_C :=
  if (c.1 a1 0) = 2 then
    let c1 := su_becomeLinked c t (c.1 a1 3)
    c1
  else
    if (su_hasLink c t) = 0 then
      c
    else
      if (c.1 a1 3) = (c.1 t 6) then
        let c2 := su_receiveOnLink c t a1
        c2
      else
        c
def K_su_receive : rx_K mx := k_RR (fun a0 a1 c m => (mx_kl a0 = 4 ∧ mx_kl a1 = 2, (su_receive c a0 a1, m), none))
def L_su_receive : List (rx_E mx) := [
  (0, .aload_n 1, 1, 0, 1, 0, [], kno),
  (1, .getfield 61, 3, 7, 1, 0, [], kgi 2 0),
  (4, .iconst 2, 1, 0, 0, 2, [], kno),
  (5, .if_icmp .ne 14, 3, 2, 9, 0, [], kno),
  (8, .aload_n 0, 1, 0, 0, 0, [], kno),
  (9, .aload_n 1, 1, 0, 1, 0, [], kno),
  (10, .getfield 64, 3, 7, 1, 0, [], kgi 2 3),
  (13, .invokevirtual 67, 3, 7, 2, 0, [], K_su_becomeLinked),
  (16, .goto 26, 3, 1, 20, 0, [], kno),
  (19, .aload_n 0, 1, 0, 0, 0, [], kno),
  (20, .invokevirtual 70, 3, 7, 1, 0, [], K_su_hasLink),
  (23, .ifCond .eq 19, 3, 2, 20, 0, [], kno),
  (26, .aload_n 1, 1, 0, 1, 0, [], kno),
  (27, .getfield 64, 3, 7, 1, 0, [], kgi 2 3),
  (30, .aload_n 0, 1, 0, 0, 0, [], kno),
  (31, .getfield 52, 3, 7, 1, 0, [], kgi 4 6),
  (34, .if_icmp .ne 8, 3, 2, 20, 0, [], kno),
  (37, .aload_n 0, 1, 0, 0, 0, [], kno),
  (38, .aload_n 1, 1, 0, 1, 0, [], kno),
  (39, .invokevirtual 74, 3, 7, 2, 0, [], K_su_receiveOnLink),
  (42, .return_, 1, 6, 0, 0, [], kno)]
theorem E_su_receive (c : mx_C) (m : mx_M) (t : Nat) (a1 : Nat)  : rx_ev L_su_receive [] 23 L_su_receive (c, m) [some (.ref t), some (.ref a1)] [] = rw_v m (su_receive c t a1) :=
  rx_ite2 (f := rw_v m) (fun _ => rfl) (fun _ => rx_ite2 (f := rw_v m) (fun _ => rfl) (fun _ => rx_ite2 (f := rw_v m) (fun _ => rfl) (fun _ => rfl)))
theorem S_su_receive (c : mx_C) (m : mx_M) (t : Nat) (a1 : Nat) (ht : mx_kl t = 4) (ha1 : mx_kl a1 = 2) : rx_sf L_su_receive [] 23 L_su_receive (c, m) [some (.ref t), some (.ref a1)] [] :=
  And.intro ha1 (And.intro (fun h0 => And.intro ha1 (And.intro ht (trivial))) (fun h0 => And.intro ht (And.intro (fun h1 => trivial) (fun h1 => And.intro ha1 (And.intro ht (And.intro (fun h2 => And.intro (And.intro ht ha1) (trivial)) (fun h2 => trivial)))))))

theorem og_su_64_g {p : Program} {l : Launch} {e : Env} {R : Room} {s : State} {m : MethodId} {args : Array Value} {below : List Frame} {meth : Method} {c : Code} {cc : ByteArray} {nL : Nat} {ad : Nat → Nat} {D : va_G} {g : Nat → ClassId} {B : Nat} (X : ox_C p s m args c cc nL "SubscriberLines$Subscriber" D g ad B) : rx_OK p l e R s m args below meth c cc nL ad (mx_W D g ad B s.heap) mx_cs (.getfield 64) 3 1 (kgi 2 3) := ox_gi (T := T_2) X rfl (by decide) (by decide) in_2 rfl (al_at 49 (by decide +kernel) rfl)
theorem cv_su_becomeLinked {p : Program} {l : Launch} {e : Env} {R : Room} {s : State} {m : MethodId} {args : Array Value} {below : List Frame} {meth : Method} {c : Code} {cc : ByteArray} {nL : Nat} {ad : Nat → Nat} {D : va_G} {g : Nat → ClassId} {B : Nat} {own : String} {idx : Nat} (X : ox_C p s m args c cc nL own D g ad B) (hV : rx_V l D g ad B ⟨"SubscriberLines$Subscriber", "becomeLinked", "(I)V"⟩ prog_10_method_8_code 2 none 2 44 K_su_becomeLinked) (hl : Cond.methodLink own idx ⟨"SubscriberLines$Subscriber", "becomeLinked", "(I)V"⟩ ∈ al) (hR : 2 + 1 ≤ R.frames ∧ 8 + (2 + 11) + 44 ≤ R.locals) : rx_OK p l e R s m args below meth c cc nL ad (mx_W D g ad B s.heap) mx_cs (.invokevirtual idx) 3 2 (K_su_becomeLinked) :=
  ox_callV (q := 4) (T := T_4) X hV (fun av x h => by obtain ⟨a0, a1, rfl⟩ := k_RI_inv h; exact ⟨a0, _, rfl, h⟩) (by decide) rfl hl (al_at 591 (by decide +kernel) rfl) (al_pr (y := (⟨"SubscriberLines$Subscriber", "becomeLinked", "(I)V"⟩, _)) 27 rfl) (al_at 5 (by decide +kernel) rfl) (al_at 592 (by decide +kernel) rfl) ⟨by decide, by decide, by decide +kernel⟩ hR
theorem cv_su_receiveOnLink {p : Program} {l : Launch} {e : Env} {R : Room} {s : State} {m : MethodId} {args : Array Value} {below : List Frame} {meth : Method} {c : Code} {cc : ByteArray} {nL : Nat} {ad : Nat → Nat} {D : va_G} {g : Nat → ClassId} {B : Nat} {own : String} {idx : Nat} (X : ox_C p s m args c cc nL own D g ad B) (hV : rx_V l D g ad B ⟨"SubscriberLines$Subscriber", "receiveOnLink", "(LSubscriberLines$Packet;)V"⟩ prog_10_method_9_code 2 none 2 45 K_su_receiveOnLink) (hl : Cond.methodLink own idx ⟨"SubscriberLines$Subscriber", "receiveOnLink", "(LSubscriberLines$Packet;)V"⟩ ∈ al) (hR : 2 + 1 ≤ R.frames ∧ 8 + (2 + 11) + 45 ≤ R.locals) : rx_OK p l e R s m args below meth c cc nL ad (mx_W D g ad B s.heap) mx_cs (.invokevirtual idx) 3 2 (K_su_receiveOnLink) :=
  ox_callV (q := 4) (T := T_4) X hV (fun av x h => by obtain ⟨a0, a1, rfl⟩ := k_RR_inv h; exact ⟨a0, _, rfl, h.1⟩) (by decide) rfl hl (al_at 595 (by decide +kernel) rfl) (al_pr (y := (⟨"SubscriberLines$Subscriber", "receiveOnLink", "(LSubscriberLines$Packet;)V"⟩, _)) 28 rfl) (al_at 5 (by decide +kernel) rfl) (al_at 596 (by decide +kernel) rfl) ⟨by decide, by decide, by decide +kernel⟩ hR
theorem ok_su_receive : rx_okF prog_10_method_5_code 2 none L_su_receive 0 L_su_receive = true := by decide +kernel
theorem V_su_receive {l : Launch} {D : va_G} {g : Nat → ClassId} {ad : Nat → Nat} {B : Nat} (had : mx_A ad B) : rx_V l D g ad B ⟨"SubscriberLines$Subscriber", "receive", "(LSubscriberLines$Packet;)V"⟩ prog_10_method_5_code 2 none 3 66 K_su_receive := by
  intro av x hp
  obtain ⟨a0, a1, rfl⟩ := k_RR_inv hp
  have hp : mx_kl a0 = 4 ∧ mx_kl a1 = 2 := hp
  exact rx_met (k := 0) had (by decide) (Nat.le_of_ble_eq_true rfl) ok_su_receive rfl rfl 23 (fun p e s m args below meth c X => And.intro (og_su_61_g X) (And.intro (og_su_64_g X) (And.intro (cv_su_becomeLinked X (V_su_becomeLinked had) (al_at 589 (by decide +kernel) rfl) ⟨by decide, by decide⟩) (And.intro (cv_su_hasLink X (V_su_hasLink had) (al_at 389 (by decide +kernel) rfl) ⟨by decide, by decide⟩) (And.intro (og_su_64_g X) (And.intro (og_su_52_g X) (And.intro (cv_su_receiveOnLink X (V_su_receiveOnLink had) (al_at 593 (by decide +kernel) rfl) ⟨by decide, by decide⟩) (trivial)))))))) (S_su_receive x.1 x.2 a0 a1 hp.1 hp.2) (E_su_receive x.1 x.2 a0 a1)
def su_runTimer (c : mx_C) (t : Nat) : mx_C :=
  if (c.1 t 4) = 3 then
    let c1 := mx_pi c t 11 ((c.1 t 11) + 1)
    if (c1.1 t 11) = 16 then
      let c2 := su_leave c1 t
      c2
    else
      c1
  else
    if (c.1 t 4) = 0 then
      c
    else
      let c3 := mx_pi c t 10 ((c.1 t 10) + 1)
      if (c3.1 t 10) = 3 then
        let c4 := su_requestAgain c3 t
        c4
      else
        c3
def K_su_runTimer : rx_K mx := k_R (fun a0 c m => (mx_kl a0 = 4, (su_runTimer c a0, m), none))
def L_su_runTimer : List (rx_E mx) := [
  (0, .aload_n 0, 1, 0, 0, 0, [], kno),
  (1, .getfield 28, 3, 7, 1, 0, [], kgi 4 4),
  (4, .iconst 3, 1, 0, 0, 3, [], kno),
  (5, .if_icmp .ne 29, 3, 2, 17, 0, [], kno),
  (8, .aload_n 0, 1, 0, 0, 0, [], kno),
  (9, .dup, 1, 0, 0, 0, [], kno),
  (10, .getfield 78, 3, 7, 1, 0, [], kgi 4 11),
  (13, .iconst 1, 1, 0, 0, 1, [], kno),
  (14, .iadd, 1, 0, 0, 0, [], kno),
  (15, .putfield 78, 3, 7, 2, 0, [], kpi 4 11),
  (18, .aload_n 0, 1, 0, 0, 0, [], kno),
  (19, .getfield 78, 3, 7, 1, 0, [], kgi 4 11),
  (22, .bipush 16, 2, 0, 0, 16, [], kno),
  (24, .if_icmp .ne 39, 3, 2, 32, 0, [], kno),
  (27, .aload_n 0, 1, 0, 0, 0, [], kno),
  (28, .invokevirtual 43, 3, 7, 1, 0, [], K_su_leave),
  (31, .goto 32, 3, 1, 32, 0, [], kno),
  (34, .aload_n 0, 1, 0, 0, 0, [], kno),
  (35, .getfield 28, 3, 7, 1, 0, [], kgi 4 4),
  (38, .ifCond .eq 25, 3, 2, 32, 0, [], kno),
  (41, .aload_n 0, 1, 0, 0, 0, [], kno),
  (42, .dup, 1, 0, 0, 0, [], kno),
  (43, .getfield 81, 3, 7, 1, 0, [], kgi 4 10),
  (46, .iconst 1, 1, 0, 0, 1, [], kno),
  (47, .iadd, 1, 0, 0, 0, [], kno),
  (48, .putfield 81, 3, 7, 2, 0, [], kpi 4 10),
  (51, .aload_n 0, 1, 0, 0, 0, [], kno),
  (52, .getfield 81, 3, 7, 1, 0, [], kgi 4 10),
  (55, .iconst 3, 1, 0, 0, 3, [], kno),
  (56, .if_icmp .ne 7, 3, 2, 32, 0, [], kno),
  (59, .aload_n 0, 1, 0, 0, 0, [], kno),
  (60, .invokevirtual 84, 3, 7, 1, 0, [], K_su_requestAgain),
  (63, .return_, 1, 6, 0, 0, [], kno)]
theorem E_su_runTimer (c : mx_C) (m : mx_M) (t : Nat)  : rx_ev L_su_runTimer [] 35 L_su_runTimer (c, m) [some (.ref t)] [] = rw_v m (su_runTimer c t) :=
  rx_ite2 (f := rw_v m) (fun _ => rx_ite2 (f := rw_v m) (fun _ => rfl) (fun _ => rfl)) (fun _ => rx_ite2 (f := rw_v m) (fun _ => rfl) (fun _ => rx_ite2 (f := rw_v m) (fun _ => rfl) (fun _ => rfl)))
theorem S_su_runTimer (c : mx_C) (m : mx_M) (t : Nat) (ht : mx_kl t = 4) : rx_sf L_su_runTimer [] 35 L_su_runTimer (c, m) [some (.ref t)] [] :=
  And.intro ht (And.intro (fun h0 => And.intro ht (And.intro ht (And.intro ht (And.intro (fun h1 => And.intro ht (trivial)) (fun h1 => trivial))))) (fun h0 => And.intro ht (And.intro (fun h1 => trivial) (fun h1 => And.intro ht (And.intro ht (And.intro ht (And.intro (fun h2 => And.intro ht (trivial)) (fun h2 => trivial))))))))

theorem og_su_78_g {p : Program} {l : Launch} {e : Env} {R : Room} {s : State} {m : MethodId} {args : Array Value} {below : List Frame} {meth : Method} {c : Code} {cc : ByteArray} {nL : Nat} {ad : Nat → Nat} {D : va_G} {g : Nat → ClassId} {B : Nat} (X : ox_C p s m args c cc nL "SubscriberLines$Subscriber" D g ad B) : rx_OK p l e R s m args below meth c cc nL ad (mx_W D g ad B s.heap) mx_cs (.getfield 78) 3 1 (kgi 4 11) := ox_gi (T := T_4) X rfl (by decide) (by decide) in_4 rfl (al_at 142 (by decide +kernel) rfl)
theorem og_su_81_g {p : Program} {l : Launch} {e : Env} {R : Room} {s : State} {m : MethodId} {args : Array Value} {below : List Frame} {meth : Method} {c : Code} {cc : ByteArray} {nL : Nat} {ad : Nat → Nat} {D : va_G} {g : Nat → ClassId} {B : Nat} (X : ox_C p s m args c cc nL "SubscriberLines$Subscriber" D g ad B) : rx_OK p l e R s m args below meth c cc nL ad (mx_W D g ad B s.heap) mx_cs (.getfield 81) 3 1 (kgi 4 10) := ox_gi (T := T_4) X rfl (by decide) (by decide) in_4 rfl (al_at 141 (by decide +kernel) rfl)
theorem cv_su_requestAgain {p : Program} {l : Launch} {e : Env} {R : Room} {s : State} {m : MethodId} {args : Array Value} {below : List Frame} {meth : Method} {c : Code} {cc : ByteArray} {nL : Nat} {ad : Nat → Nat} {D : va_G} {g : Nat → ClassId} {B : Nat} {own : String} {idx : Nat} (X : ox_C p s m args c cc nL own D g ad B) (hV : rx_V l D g ad B ⟨"SubscriberLines$Subscriber", "requestAgain", "()V"⟩ prog_10_method_12_code 1 none 2 44 K_su_requestAgain) (hl : Cond.methodLink own idx ⟨"SubscriberLines$Subscriber", "requestAgain", "()V"⟩ ∈ al) (hR : 2 + 1 ≤ R.frames ∧ 8 + (1 + 11) + 44 ≤ R.locals) : rx_OK p l e R s m args below meth c cc nL ad (mx_W D g ad B s.heap) mx_cs (.invokevirtual idx) 3 1 (K_su_requestAgain) :=
  ox_callV (q := 4) (T := T_4) X hV (fun av x h => by obtain ⟨a0, rfl⟩ := k_R_inv h; exact ⟨a0, _, rfl, h⟩) (by decide) rfl hl (al_at 627 (by decide +kernel) rfl) (al_pr (y := (⟨"SubscriberLines$Subscriber", "requestAgain", "()V"⟩, _)) 31 rfl) (al_at 5 (by decide +kernel) rfl) (al_at 628 (by decide +kernel) rfl) ⟨by decide, by decide, by decide +kernel⟩ hR
theorem ok_su_runTimer : rx_okF prog_10_method_6_code 1 none L_su_runTimer 0 L_su_runTimer = true := by decide +kernel
theorem V_su_runTimer {l : Launch} {D : va_G} {g : Nat → ClassId} {ad : Nat → Nat} {B : Nat} (had : mx_A ad B) : rx_V l D g ad B ⟨"SubscriberLines$Subscriber", "runTimer", "()V"⟩ prog_10_method_6_code 1 none 3 64 K_su_runTimer := by
  intro av x hp
  obtain ⟨a0, rfl⟩ := k_R_inv hp
  have hp : mx_kl a0 = 4 := hp
  exact rx_met (k := 0) had (by decide) (Nat.le_of_ble_eq_true rfl) ok_su_runTimer rfl rfl 35 (fun p e s m args below meth c X => And.intro (og_su_28_g X) (And.intro (og_su_78_g X) (And.intro (og_su_78_p X) (And.intro (og_su_78_g X) (And.intro (cv_su_leave X (V_su_leave had) (al_at 385 (by decide +kernel) rfl) ⟨by decide, by decide⟩) (And.intro (og_su_28_g X) (And.intro (og_su_81_g X) (And.intro (og_su_81_p X) (And.intro (og_su_81_g X) (And.intro (cv_su_requestAgain X (V_su_requestAgain had) (al_at 625 (by decide +kernel) rfl) ⟨by decide, by decide⟩) (trivial))))))))))) (S_su_runTimer x.1 x.2 a0 hp) (E_su_runTimer x.1 x.2 a0)
end
section
theorem en_len {t : Nat} (h : mx_kl t = 8) : mx_lenG 0 0 (t + 1) = 2048 ∧ mx_lenG 0 0 (t + 2) = 2048 ∧ mx_lenG 0 0 (t + 3) = 2048 := by
  have hi := mx_kl_lt h (by decide)
  have k : ∀ j : Fin 116, mx_kl j.val = 8 → mx_lenG 0 0 (j.val + 1) = 2048 ∧ mx_lenG 0 0 (j.val + 2) = 2048 ∧ mx_lenG 0 0 (j.val + 3) = 2048 := by decide +kernel
  exact k ⟨t, hi⟩ h
theorem en_and (n : Int32) : 0 ≤ (n &&& 2047).toInt ∧ (n &&& 2047).toInt < 2048 := by
  have h1 : (n &&& 2047).toBitVec.toNat ≤ 2047 := by
    rw [Int32.toBitVec_and, BitVec.toNat_and]
    exact Nat.and_le_right
  have h2 : (n &&& 2047).toInt = ((n &&& 2047).toBitVec.toNat : Int) := by
    show (n &&& 2047).toBitVec.toInt = _
    exact BitVec.toInt_eq_toNat_of_lt (by omega)
  omega
theorem en_in1 {c : mx_C} {t : Nat} (h : mx_kl t = 8) (n : Int32) : vp_in (en_placeOf c n) (mx_lenG 0 0 (t + 1)) ∧ vp_in (en_placeOf c n) (mx_lenG 0 0 (t + 2)) ∧ vp_in (en_placeOf c n) (mx_lenG 0 0 (t + 3)) := by
  obtain ⟨h1, h2, h3⟩ := en_len h
  rw [h1, h2, h3, i_in]
  have := en_and n
  exact ⟨this, this, this⟩
abbrev en_P (n : Nat) (v w : Int32) : Prop := w.toInt - v.toInt < (n : Int) ∧ 0 < n
theorem en_P1 {n : Nat} {v w : Int32} (h : v < w) (hP : en_P (n + 1) v w) : en_P n (v + 1) w := by
  rw [i_lt] at h
  have h1 := i_rng w
  have h2 := i_rng v
  obtain ⟨p1, p2⟩ := hP
  have e : (v + 1).toInt = v.toInt + 1 := i_add (show _ ≤ v.toInt + 1 by omega) (show v.toInt + 1 < _ by omega)
  unfold en_P
  rw [e]
  omega
theorem en_P0 (u o x : Int32) : en_P 4 (jx_max u o) (jx_min (o + 3) x) := by
  have h1 : o.toInt ≤ (jx_max u o).toInt := by
    unfold jx_max
    split
    · exact Int.le_refl _
    · rename_i h; rw [i_lt] at h; omega
  have h2 : (jx_min (o + 3) x).toInt ≤ (o + 3).toInt := by
    unfold jx_min
    split
    · rename_i h; rw [i_lt] at h; omega
    · exact Int.le_refl _
  have h3 : (o + 3).toInt ≤ o.toInt + 3 := by
    have hr := i_rng o
    rw [Int32.toInt_add]
    show (o.toInt + 3).bmod 4294967296 ≤ _
    rw [Int.bmod_eq_emod]
    split <;> omega
  unfold en_P
  omega
def en_transmit (c : mx_C) (t : Nat) (a1 : Int32) : mx_C :=
  let q1 := fl_launch c (c.1 (t + 1) (Int32.toNatClampNeg (en_placeOf c a1))) (c.1 t 0) (c.1 t 1)
  let c2 := pk_bear q1.1 q1.2 (q1.1.1 (t + 2) (Int32.toNatClampNeg (en_placeOf c a1))) (q1.1.1 (t + 3) (Int32.toNatClampNeg (en_placeOf c a1))) 0
  let c3 := pk_number c2 q1.2 (c2.1 t 3) a1 (c2.1 t 4)
  c3
def K_en_transmit : rx_K mx := k_RI (fun a0 a1 c m => (mx_kl a0 = 8, (en_transmit c a0 a1, m), none))
def L_en_transmit : List (rx_E mx) := [
  (0, .iload_n 1, 1, 0, 1, 0, [], kno),
  (1, .invokestatic 57, 3, 7, 1, 0, [], K_en_placeOf),
  (4, .istore_n 2, 1, 0, 2, 0, [], kno),
  (5, .aload_n 0, 1, 0, 0, 0, [], kno),
  (6, .getfield 28, 3, 7, 1, 0, [], kgr0 8 2 1),
  (9, .aload_n 0, 1, 0, 0, 0, [], kno),
  (10, .getfield 11, 3, 7, 1, 0, [], kgr1 8 9 1),
  (13, .iload_n 2, 1, 0, 2, 0, [], kno),
  (14, .iaload, 1, 7, 2, 0, [], kai),
  (15, .aload_n 0, 1, 0, 0, 0, [], kno),
  (16, .getfield 21, 3, 7, 1, 0, [], kgi 8 0),
  (19, .aload_n 0, 1, 0, 0, 0, [], kno),
  (20, .getfield 25, 3, 7, 1, 0, [], kgi 8 1),
  (23, .invokevirtual 83, 3, 7, 4, 0, [], K_fl_launch),
  (26, .astore_n 3, 1, 0, 3, 0, [], kno),
  (27, .aload_n 3, 1, 0, 3, 0, [], kno),
  (28, .aload_n 0, 1, 0, 0, 0, [], kno),
  (29, .getfield 15, 3, 7, 1, 0, [], kgr1 8 10 2),
  (32, .iload_n 2, 1, 0, 2, 0, [], kno),
  (33, .iaload, 1, 7, 2, 0, [], kai),
  (34, .aload_n 0, 1, 0, 0, 0, [], kno),
  (35, .getfield 18, 3, 7, 1, 0, [], kgr1 8 11 3),
  (38, .iload_n 2, 1, 0, 2, 0, [], kno),
  (39, .iaload, 1, 7, 2, 0, [], kai),
  (40, .iconst 0, 1, 0, 0, 0, [], kno),
  (41, .invokevirtual 104, 3, 7, 4, 0, [], K_pk_bear),
  (44, .aload_n 3, 1, 0, 3, 0, [], kno),
  (45, .aload_n 0, 1, 0, 0, 0, [], kno),
  (46, .getfield 32, 3, 7, 1, 0, [], kgi 8 3),
  (49, .iload_n 1, 1, 0, 1, 0, [], kno),
  (50, .aload_n 0, 1, 0, 0, 0, [], kno),
  (51, .getfield 35, 3, 7, 1, 0, [], kgi 8 4),
  (54, .invokevirtual 89, 3, 7, 4, 0, [], K_pk_number),
  (57, .return_, 1, 6, 0, 0, [], kno)]
theorem E_en_transmit (c : mx_C) (m : mx_M) (t : Nat) (a1 : Int32)  : rx_ev L_en_transmit [] 36 L_en_transmit (c, m) [some (.ref t), some (.int a1), none, none] [] = rw_v m (en_transmit c t a1) :=
  rfl
theorem S_en_transmit (c : mx_C) (m : mx_M) (t : Nat) (a1 : Int32) (ht : mx_kl t = 8) : rx_sf L_en_transmit [] 36 L_en_transmit (c, m) [some (.ref t), some (.int a1), none, none] [] :=
  And.intro trivial (And.intro ht (And.intro ht (And.intro (en_in1 ht _).1 (And.intro ht (And.intro ht (And.intro rfl (And.intro ht (And.intro (en_in1 ht _).2.1 (And.intro ht (And.intro (en_in1 ht _).2.2 (And.intro (fl_launch_pk _ _ _ _) (And.intro ht (And.intro ht (And.intro (fl_launch_pk _ _ _ _) (trivial)))))))))))))))

theorem cv_en_placeOf {p : Program} {l : Launch} {e : Env} {R : Room} {s : State} {m : MethodId} {args : Array Value} {below : List Frame} {meth : Method} {c : Code} {cc : ByteArray} {nL : Nat} {ad : Nat → Nat} {D : va_G} {g : Nat → ClassId} {B : Nat} {idx : Nat} (X : ox_C p s m args c cc nL "SubscriberLines$End" D g ad B) (hV : rx_V l D g ad B ⟨"SubscriberLines$End", "placeOf", "(I)I"⟩ prog_3_method_12_code 1 (some .int) 0 0 K_en_placeOf) (hl : Cond.methodLink "SubscriberLines$End" idx ⟨"SubscriberLines$End", "placeOf", "(I)I"⟩ ∈ al) (hR : 0 + 1 ≤ R.frames ∧ 8 + (1 + 11) + 0 ≤ R.locals) : rx_OK p l e R s m args below meth c cc nL ad (mx_W D g ad B s.heap) mx_cs (.invokestatic idx) 3 1 (K_en_placeOf) :=
  ox_callS X hV hl (al_at 473 (by decide +kernel) rfl) (al_at 8 (by decide +kernel) rfl) (al_at 474 (by decide +kernel) rfl) ⟨rfl, by decide, by decide, by decide +kernel⟩ hR
theorem og_en_28_g {p : Program} {l : Launch} {e : Env} {R : Room} {s : State} {m : MethodId} {args : Array Value} {below : List Frame} {meth : Method} {c : Code} {cc : ByteArray} {nL : Nat} {ad : Nat → Nat} {D : va_G} {g : Nat → ClassId} {B : Nat} (X : ox_C p s m args c cc nL "SubscriberLines$End" D g ad B) : rx_OK p l e R s m args below meth c cc nL ad (mx_W D g ad B s.heap) mx_cs (.getfield 28) 3 1 (kgr0 8 2 1) := ox_gr0 (T := T_8) X rfl (by decide) (by decide) in_8 rfl (al_at 183 (by decide +kernel) rfl)
theorem og_en_11_g {p : Program} {l : Launch} {e : Env} {R : Room} {s : State} {m : MethodId} {args : Array Value} {below : List Frame} {meth : Method} {c : Code} {cc : ByteArray} {nL : Nat} {ad : Nat → Nat} {D : va_G} {g : Nat → ClassId} {B : Nat} (X : ox_C p s m args c cc nL "SubscriberLines$End" D g ad B) : rx_OK p l e R s m args below meth c cc nL ad (mx_W D g ad B s.heap) mx_cs (.getfield 11) 3 1 (kgr1 8 9 1) := ox_gr1 (T := T_8) X rfl (by decide) (by decide) in_8 rfl (al_at 192 (by decide +kernel) rfl)
theorem og_en_21_g {p : Program} {l : Launch} {e : Env} {R : Room} {s : State} {m : MethodId} {args : Array Value} {below : List Frame} {meth : Method} {c : Code} {cc : ByteArray} {nL : Nat} {ad : Nat → Nat} {D : va_G} {g : Nat → ClassId} {B : Nat} (X : ox_C p s m args c cc nL "SubscriberLines$End" D g ad B) : rx_OK p l e R s m args below meth c cc nL ad (mx_W D g ad B s.heap) mx_cs (.getfield 21) 3 1 (kgi 8 0) := ox_gi (T := T_8) X rfl (by decide) (by decide) in_8 rfl (al_at 181 (by decide +kernel) rfl)
theorem og_en_25_g {p : Program} {l : Launch} {e : Env} {R : Room} {s : State} {m : MethodId} {args : Array Value} {below : List Frame} {meth : Method} {c : Code} {cc : ByteArray} {nL : Nat} {ad : Nat → Nat} {D : va_G} {g : Nat → ClassId} {B : Nat} (X : ox_C p s m args c cc nL "SubscriberLines$End" D g ad B) : rx_OK p l e R s m args below meth c cc nL ad (mx_W D g ad B s.heap) mx_cs (.getfield 25) 3 1 (kgi 8 1) := ox_gi (T := T_8) X rfl (by decide) (by decide) in_8 rfl (al_at 182 (by decide +kernel) rfl)
theorem og_en_15_g {p : Program} {l : Launch} {e : Env} {R : Room} {s : State} {m : MethodId} {args : Array Value} {below : List Frame} {meth : Method} {c : Code} {cc : ByteArray} {nL : Nat} {ad : Nat → Nat} {D : va_G} {g : Nat → ClassId} {B : Nat} (X : ox_C p s m args c cc nL "SubscriberLines$End" D g ad B) : rx_OK p l e R s m args below meth c cc nL ad (mx_W D g ad B s.heap) mx_cs (.getfield 15) 3 1 (kgr1 8 10 2) := ox_gr1 (T := T_8) X rfl (by decide) (by decide) in_8 rfl (al_at 193 (by decide +kernel) rfl)
theorem og_en_18_g {p : Program} {l : Launch} {e : Env} {R : Room} {s : State} {m : MethodId} {args : Array Value} {below : List Frame} {meth : Method} {c : Code} {cc : ByteArray} {nL : Nat} {ad : Nat → Nat} {D : va_G} {g : Nat → ClassId} {B : Nat} (X : ox_C p s m args c cc nL "SubscriberLines$End" D g ad B) : rx_OK p l e R s m args below meth c cc nL ad (mx_W D g ad B s.heap) mx_cs (.getfield 18) 3 1 (kgr1 8 11 3) := ox_gr1 (T := T_8) X rfl (by decide) (by decide) in_8 rfl (al_at 194 (by decide +kernel) rfl)
theorem og_en_32_g {p : Program} {l : Launch} {e : Env} {R : Room} {s : State} {m : MethodId} {args : Array Value} {below : List Frame} {meth : Method} {c : Code} {cc : ByteArray} {nL : Nat} {ad : Nat → Nat} {D : va_G} {g : Nat → ClassId} {B : Nat} (X : ox_C p s m args c cc nL "SubscriberLines$End" D g ad B) : rx_OK p l e R s m args below meth c cc nL ad (mx_W D g ad B s.heap) mx_cs (.getfield 32) 3 1 (kgi 8 3) := ox_gi (T := T_8) X rfl (by decide) (by decide) in_8 rfl (al_at 184 (by decide +kernel) rfl)
theorem og_en_35_g {p : Program} {l : Launch} {e : Env} {R : Room} {s : State} {m : MethodId} {args : Array Value} {below : List Frame} {meth : Method} {c : Code} {cc : ByteArray} {nL : Nat} {ad : Nat → Nat} {D : va_G} {g : Nat → ClassId} {B : Nat} (X : ox_C p s m args c cc nL "SubscriberLines$End" D g ad B) : rx_OK p l e R s m args below meth c cc nL ad (mx_W D g ad B s.heap) mx_cs (.getfield 35) 3 1 (kgi 8 4) := ox_gi (T := T_8) X rfl (by decide) (by decide) in_8 rfl (al_at 187 (by decide +kernel) rfl)
theorem cv_pk_number {p : Program} {l : Launch} {e : Env} {R : Room} {s : State} {m : MethodId} {args : Array Value} {below : List Frame} {meth : Method} {c : Code} {cc : ByteArray} {nL : Nat} {ad : Nat → Nat} {D : va_G} {g : Nat → ClassId} {B : Nat} {own : String} {idx : Nat} (X : ox_C p s m args c cc nL own D g ad B) (hV : rx_V l D g ad B ⟨"SubscriberLines$Packet", "number", "(III)V"⟩ prog_7_method_3_code 4 none 0 0 K_pk_number) (hl : Cond.methodLink own idx ⟨"SubscriberLines$Packet", "number", "(III)V"⟩ ∈ al) (hR : 0 + 1 ≤ R.frames ∧ 8 + (4 + 11) + 0 ≤ R.locals) : rx_OK p l e R s m args below meth c cc nL ad (mx_W D g ad B s.heap) mx_cs (.invokevirtual idx) 3 4 (K_pk_number) :=
  ox_callV (q := 2) (T := T_2) X hV (fun av x h => by obtain ⟨a0, a1, a2, a3, rfl⟩ := k_RIII_inv h; exact ⟨a0, _, rfl, h⟩) (by decide) rfl hl (al_at 478 (by decide +kernel) rfl) (al_at 479 (by decide +kernel) rfl) (al_at 3 (by decide +kernel) rfl) (al_at 480 (by decide +kernel) rfl) ⟨by decide, by decide, by decide +kernel⟩ hR
theorem ok_en_transmit : rx_okF prog_3_method_11_code 4 none L_en_transmit 0 L_en_transmit = true := by decide +kernel
theorem V_en_transmit {l : Launch} {D : va_G} {g : Nat → ClassId} {ad : Nat → Nat} {B : Nat} (had : mx_A ad B) : rx_V l D g ad B ⟨"SubscriberLines$End", "transmit", "(I)V"⟩ prog_3_method_11_code 4 none 1 24 K_en_transmit := by
  intro av x hp
  obtain ⟨a0, a1, rfl⟩ := k_RI_inv hp
  have hp : mx_kl a0 = 8 := hp
  exact rx_met (k := 2) had (by decide) (Nat.le_of_ble_eq_true rfl) ok_en_transmit rfl rfl 36 (fun p e s m args below meth c X => And.intro (cv_en_placeOf X (V_en_placeOf had) (al_at 472 (by decide +kernel) rfl) ⟨by decide, by decide⟩) (And.intro (og_en_28_g X) (And.intro (og_en_11_g X) (And.intro (ox_ai X) (And.intro (og_en_21_g X) (And.intro (og_en_25_g X) (And.intro (cv_fl_launch X (V_fl_launch had) (al_at 475 (by decide +kernel) rfl) ⟨by decide, by decide⟩) (And.intro (og_en_15_g X) (And.intro (ox_ai X) (And.intro (og_en_18_g X) (And.intro (ox_ai X) (And.intro (cv_pk_bear X (V_pk_bear had) (al_at 476 (by decide +kernel) rfl) ⟨by decide, by decide⟩) (And.intro (og_en_32_g X) (And.intro (og_en_35_g X) (And.intro (cv_pk_number X (V_pk_number had) (al_at 477 (by decide +kernel) rfl) ⟨by decide, by decide⟩) (trivial)))))))))))))))) (S_en_transmit x.1 x.2 a0 a1 hp) (E_en_transmit x.1 x.2 a0 a1)
def en_put (c : mx_C) (t : Nat) (a1 : Int32) (a2 : Int32) (a3 : Int32) : mx_C :=
  if (c.1 t 3) = 0 then
    c
  else
    if ((c.1 t 8) - (c.1 t 7)) = 2048 then
      c
    else
      if (en_isEmpty c t) = 0 then
        let c1 := mx_pi c (t + 1) (Int32.toNatClampNeg (en_placeOf c (c.1 t 8))) a1
        let c2 := mx_pi c1 (t + 2) (Int32.toNatClampNeg (en_placeOf c (c.1 t 8))) a2
        let c3 := mx_pi c2 (t + 3) (Int32.toNatClampNeg (en_placeOf c (c.1 t 8))) a3
        let c4 := mx_pi c3 t 8 ((c3.1 t 8) + 1)
        if 3 < ((c4.1 t 8) - (c4.1 t 7)) then
          c4
        else
          let c5 := en_transmit c4 t ((c4.1 t 8) - 1)
          c5
      else
        let c6 := en_startWaiting c t
        let c7 := mx_pi c6 (t + 1) (Int32.toNatClampNeg (en_placeOf c6 (c6.1 t 8))) a1
        let c8 := mx_pi c7 (t + 2) (Int32.toNatClampNeg (en_placeOf c6 (c6.1 t 8))) a2
        let c9 := mx_pi c8 (t + 3) (Int32.toNatClampNeg (en_placeOf c6 (c6.1 t 8))) a3
        let c10 := mx_pi c9 t 8 ((c9.1 t 8) + 1)
        if 3 < ((c10.1 t 8) - (c10.1 t 7)) then
          c10
        else
          let c11 := en_transmit c10 t ((c10.1 t 8) - 1)
          c11
def K_en_put : rx_K mx := k_RIII (fun a0 a1 a2 a3 c m => (mx_kl a0 = 8, (en_put c a0 a1 a2 a3, m), none))
def L_en_put : List (rx_E mx) := [
  (0, .aload_n 0, 1, 0, 0, 0, [], kno),
  (1, .getfield 32, 3, 7, 1, 0, [], kgi 8 3),
  (4, .ifCond .eq 18, 3, 2, 10, 0, [], kno),
  (7, .aload_n 0, 1, 0, 0, 0, [], kno),
  (8, .getfield 41, 3, 7, 1, 0, [], kgi 8 8),
  (11, .aload_n 0, 1, 0, 0, 0, [], kno),
  (12, .getfield 38, 3, 7, 1, 0, [], kgi 8 7),
  (15, .isub, 1, 0, 0, 0, [], kno),
  (16, .sipush 2048, 3, 0, 0, 2048, [], kno),
  (19, .if_icmp .ne 4, 3, 2, 11, 0, [], kno),
  (22, .return_, 1, 6, 0, 0, [], kno),
  (23, .aload_n 0, 1, 0, 0, 0, [], kno),
  (24, .invokevirtual 50, 3, 7, 1, 0, [], K_en_isEmpty),
  (27, .ifCond .eq 7, 3, 2, 16, 0, [], kno),
  (30, .aload_n 0, 1, 0, 0, 0, [], kno),
  (31, .invokevirtual 54, 3, 7, 1, 0, [], K_en_startWaiting),
  (34, .aload_n 0, 1, 0, 0, 0, [], kno),
  (35, .getfield 41, 3, 7, 1, 0, [], kgi 8 8),
  (38, .invokestatic 57, 3, 7, 1, 0, [], K_en_placeOf),
  (41, .istore 4, 2, 0, 4, 0, [], kno),
  (43, .aload_n 0, 1, 0, 0, 0, [], kno),
  (44, .getfield 11, 3, 7, 1, 0, [], kgr1 8 9 1),
  (47, .iload 4, 2, 0, 4, 0, [], kno),
  (49, .iload_n 1, 1, 0, 1, 0, [], kno),
  (50, .iastore, 1, 7, 3, 0, [], kpa),
  (51, .aload_n 0, 1, 0, 0, 0, [], kno),
  (52, .getfield 15, 3, 7, 1, 0, [], kgr1 8 10 2),
  (55, .iload 4, 2, 0, 4, 0, [], kno),
  (57, .iload_n 2, 1, 0, 2, 0, [], kno),
  (58, .iastore, 1, 7, 3, 0, [], kpa),
  (59, .aload_n 0, 1, 0, 0, 0, [], kno),
  (60, .getfield 18, 3, 7, 1, 0, [], kgr1 8 11 3),
  (63, .iload 4, 2, 0, 4, 0, [], kno),
  (65, .iload_n 3, 1, 0, 3, 0, [], kno),
  (66, .iastore, 1, 7, 3, 0, [], kpa),
  (67, .aload_n 0, 1, 0, 0, 0, [], kno),
  (68, .dup, 1, 0, 0, 0, [], kno),
  (69, .getfield 41, 3, 7, 1, 0, [], kgi 8 8),
  (72, .iconst 1, 1, 0, 0, 1, [], kno),
  (73, .iadd, 1, 0, 0, 0, [], kno),
  (74, .putfield 41, 3, 7, 2, 0, [], kpi 8 8),
  (77, .aload_n 0, 1, 0, 0, 0, [], kno),
  (78, .getfield 41, 3, 7, 1, 0, [], kgi 8 8),
  (81, .aload_n 0, 1, 0, 0, 0, [], kno),
  (82, .getfield 38, 3, 7, 1, 0, [], kgi 8 7),
  (85, .isub, 1, 0, 0, 0, [], kno),
  (86, .iconst 3, 1, 0, 0, 3, [], kno),
  (87, .if_icmp .gt 13, 3, 2, 54, 0, [], kno),
  (90, .aload_n 0, 1, 0, 0, 0, [], kno),
  (91, .aload_n 0, 1, 0, 0, 0, [], kno),
  (92, .getfield 41, 3, 7, 1, 0, [], kgi 8 8),
  (95, .iconst 1, 1, 0, 0, 1, [], kno),
  (96, .isub, 1, 0, 0, 0, [], kno),
  (97, .invokevirtual 61, 3, 7, 2, 0, [], K_en_transmit),
  (100, .return_, 1, 6, 0, 0, [], kno)]
theorem E_en_put (c : mx_C) (m : mx_M) (t : Nat) (a1 : Int32) (a2 : Int32) (a3 : Int32)  : rx_ev L_en_put [] 57 L_en_put (c, m) [some (.ref t), some (.int a1), some (.int a2), some (.int a3), none] [] = rw_v m (en_put c t a1 a2 a3) :=
  rx_ite2 (f := rw_v m) (fun _ => rfl) (fun _ => rx_ite2 (f := rw_v m) (fun _ => rfl) (fun _ => rx_ite2 (f := rw_v m) (fun _ => rx_ite2 (f := rw_v m) (fun _ => rfl) (fun _ => rfl)) (fun _ => rx_ite2 (f := rw_v m) (fun _ => rfl) (fun _ => rfl))))
theorem S_en_put (c : mx_C) (m : mx_M) (t : Nat) (a1 : Int32) (a2 : Int32) (a3 : Int32) (ht : mx_kl t = 8) : rx_sf L_en_put [] 57 L_en_put (c, m) [some (.ref t), some (.int a1), some (.int a2), some (.int a3), none] [] :=
  And.intro ht (And.intro (fun h0 => trivial) (fun h0 => And.intro ht (And.intro ht (And.intro (fun h1 => trivial) (fun h1 => And.intro ht (And.intro (fun h2 => And.intro ht (And.intro trivial (And.intro ht (And.intro (en_in1 ht _).1 (And.intro ht (And.intro (en_in1 ht _).2.1 (And.intro ht (And.intro (en_in1 ht _).2.2 (And.intro ht (And.intro ht (And.intro ht (And.intro ht (And.intro (fun h3 => trivial) (fun h3 => And.intro ht (And.intro ht (trivial)))))))))))))))) (fun h2 => And.intro ht (And.intro ht (And.intro trivial (And.intro ht (And.intro (en_in1 ht _).1 (And.intro ht (And.intro (en_in1 ht _).2.1 (And.intro ht (And.intro (en_in1 ht _).2.2 (And.intro ht (And.intro ht (And.intro ht (And.intro ht (And.intro (fun h3 => trivial) (fun h3 => And.intro ht (And.intro ht (trivial)))))))))))))))))))))))

theorem cv_en_isEmpty {p : Program} {l : Launch} {e : Env} {R : Room} {s : State} {m : MethodId} {args : Array Value} {below : List Frame} {meth : Method} {c : Code} {cc : ByteArray} {nL : Nat} {ad : Nat → Nat} {D : va_G} {g : Nat → ClassId} {B : Nat} {own : String} {idx : Nat} (X : ox_C p s m args c cc nL own D g ad B) (hV : rx_V l D g ad B ⟨"SubscriberLines$End", "isEmpty", "()Z"⟩ prog_3_method_3_code 1 (some .boolean) 0 0 K_en_isEmpty) (hl : Cond.methodLink own idx ⟨"SubscriberLines$End", "isEmpty", "()Z"⟩ ∈ al) (hR : 0 + 1 ≤ R.frames ∧ 8 + (1 + 11) + 0 ≤ R.locals) : rx_OK p l e R s m args below meth c cc nL ad (mx_W D g ad B s.heap) mx_cs (.invokevirtual idx) 3 1 (K_en_isEmpty) :=
  ox_callV (q := 8) (T := T_8) X hV (fun av x h => by obtain ⟨a0, rfl⟩ := k_R_inv h; exact ⟨a0, _, rfl, h⟩) (by decide) rfl hl (al_at 504 (by decide +kernel) rfl) (al_at 505 (by decide +kernel) rfl) (al_at 8 (by decide +kernel) rfl) (al_at 506 (by decide +kernel) rfl) ⟨by decide, by decide, by decide +kernel⟩ hR
theorem cv_en_startWaiting {p : Program} {l : Launch} {e : Env} {R : Room} {s : State} {m : MethodId} {args : Array Value} {below : List Frame} {meth : Method} {c : Code} {cc : ByteArray} {nL : Nat} {ad : Nat → Nat} {D : va_G} {g : Nat → ClassId} {B : Nat} {own : String} {idx : Nat} (X : ox_C p s m args c cc nL own D g ad B) (hV : rx_V l D g ad B ⟨"SubscriberLines$End", "startWaiting", "()V"⟩ prog_3_method_10_code 1 none 0 0 K_en_startWaiting) (hl : Cond.methodLink own idx ⟨"SubscriberLines$End", "startWaiting", "()V"⟩ ∈ al) (hR : 0 + 1 ≤ R.frames ∧ 8 + (1 + 11) + 0 ≤ R.locals) : rx_OK p l e R s m args below meth c cc nL ad (mx_W D g ad B s.heap) mx_cs (.invokevirtual idx) 3 1 (K_en_startWaiting) :=
  ox_callV (q := 8) (T := T_8) X hV (fun av x h => by obtain ⟨a0, rfl⟩ := k_R_inv h; exact ⟨a0, _, rfl, h⟩) (by decide) rfl hl (al_at 465 (by decide +kernel) rfl) (al_pr (y := (⟨"SubscriberLines$End", "startWaiting", "()V"⟩, _)) 6 rfl) (al_at 8 (by decide +kernel) rfl) (al_at 466 (by decide +kernel) rfl) ⟨by decide, by decide, by decide +kernel⟩ hR
theorem cv_en_transmit {p : Program} {l : Launch} {e : Env} {R : Room} {s : State} {m : MethodId} {args : Array Value} {below : List Frame} {meth : Method} {c : Code} {cc : ByteArray} {nL : Nat} {ad : Nat → Nat} {D : va_G} {g : Nat → ClassId} {B : Nat} {own : String} {idx : Nat} (X : ox_C p s m args c cc nL own D g ad B) (hV : rx_V l D g ad B ⟨"SubscriberLines$End", "transmit", "(I)V"⟩ prog_3_method_11_code 4 none 1 24 K_en_transmit) (hl : Cond.methodLink own idx ⟨"SubscriberLines$End", "transmit", "(I)V"⟩ ∈ al) (hR : 1 + 1 ≤ R.frames ∧ 8 + (4 + 11) + 24 ≤ R.locals) : rx_OK p l e R s m args below meth c cc nL ad (mx_W D g ad B s.heap) mx_cs (.invokevirtual idx) 3 2 (K_en_transmit) :=
  ox_callV (q := 8) (T := T_8) X hV (fun av x h => by obtain ⟨a0, a1, rfl⟩ := k_RI_inv h; exact ⟨a0, _, rfl, h⟩) (by decide) rfl hl (al_at 470 (by decide +kernel) rfl) (al_pr (y := (⟨"SubscriberLines$End", "transmit", "(I)V"⟩, _)) 7 rfl) (al_at 8 (by decide +kernel) rfl) (al_at 471 (by decide +kernel) rfl) ⟨by decide, by decide, by decide +kernel⟩ hR
theorem ok_en_put : rx_okF prog_3_method_4_code 5 none L_en_put 0 L_en_put = true := by decide +kernel
theorem V_en_put {l : Launch} {D : va_G} {g : Nat → ClassId} {ad : Nat → Nat} {B : Nat} (had : mx_A ad B) : rx_V l D g ad B ⟨"SubscriberLines$End", "put", "(III)V"⟩ prog_3_method_4_code 5 none 2 47 K_en_put := by
  intro av x hp
  obtain ⟨a0, a1, a2, a3, rfl⟩ := k_RIII_inv hp
  have hp : mx_kl a0 = 8 := hp
  exact rx_met (k := 1) had (by decide) (Nat.le_of_ble_eq_true rfl) ok_en_put rfl rfl 57 (fun p e s m args below meth c X => And.intro (og_en_32_g X) (And.intro (og_en_41_g X) (And.intro (og_en_38_g X) (And.intro (cv_en_isEmpty X (V_en_isEmpty had) (al_at 503 (by decide +kernel) rfl) ⟨by decide, by decide⟩) (And.intro (cv_en_startWaiting X (V_en_startWaiting had) (al_at 463 (by decide +kernel) rfl) ⟨by decide, by decide⟩) (And.intro (og_en_41_g X) (And.intro (cv_en_placeOf X (V_en_placeOf had) (al_at 472 (by decide +kernel) rfl) ⟨by decide, by decide⟩) (And.intro (og_en_11_g X) (And.intro (ox_pa X) (And.intro (og_en_15_g X) (And.intro (ox_pa X) (And.intro (og_en_18_g X) (And.intro (ox_pa X) (And.intro (og_en_41_g X) (And.intro (og_en_41_p X) (And.intro (og_en_41_g X) (And.intro (og_en_38_g X) (And.intro (og_en_41_g X) (And.intro (cv_en_transmit X (V_en_transmit had) (al_at 468 (by decide +kernel) rfl) ⟨by decide, by decide⟩) (trivial)))))))))))))))))))) (S_en_put x.1 x.2 a0 a1 a2 a3 hp) (E_en_put x.1 x.2 a0 a1 a2 a3)
def en_acknowledge (c : mx_C) (t : Nat) : mx_C :=
  let q1 := fl_launch c 17 (c.1 t 0) (c.1 t 1)
  let c2 := pk_number q1.1 q1.2 (q1.1.1 t 3) 0 (q1.1.1 t 4)
  c2
def K_en_acknowledge : rx_K mx := k_R (fun a0 c m => (mx_kl a0 = 8, (en_acknowledge c a0, m), none))
def L_en_acknowledge : List (rx_E mx) := [
  (0, .aload_n 0, 1, 0, 0, 0, [], kno),
  (1, .getfield 28, 3, 7, 1, 0, [], kgr0 8 2 1),
  (4, .bipush 17, 2, 0, 0, 17, [], kno),
  (6, .aload_n 0, 1, 0, 0, 0, [], kno),
  (7, .getfield 21, 3, 7, 1, 0, [], kgi 8 0),
  (10, .aload_n 0, 1, 0, 0, 0, [], kno),
  (11, .getfield 25, 3, 7, 1, 0, [], kgi 8 1),
  (14, .invokevirtual 83, 3, 7, 4, 0, [], K_fl_launch),
  (17, .aload_n 0, 1, 0, 0, 0, [], kno),
  (18, .getfield 32, 3, 7, 1, 0, [], kgi 8 3),
  (21, .iconst 0, 1, 0, 0, 0, [], kno),
  (22, .aload_n 0, 1, 0, 0, 0, [], kno),
  (23, .getfield 35, 3, 7, 1, 0, [], kgi 8 4),
  (26, .invokevirtual 89, 3, 7, 4, 0, [], K_pk_number),
  (29, .return_, 1, 6, 0, 0, [], kno)]
theorem E_en_acknowledge (c : mx_C) (m : mx_M) (t : Nat)  : rx_ev L_en_acknowledge [] 17 L_en_acknowledge (c, m) [some (.ref t)] [] = rw_v m (en_acknowledge c t) :=
  rfl
theorem S_en_acknowledge (c : mx_C) (m : mx_M) (t : Nat) (ht : mx_kl t = 8) : rx_sf L_en_acknowledge [] 17 L_en_acknowledge (c, m) [some (.ref t)] [] :=
  And.intro ht (And.intro ht (And.intro ht (And.intro rfl (And.intro ht (And.intro ht (And.intro (fl_launch_pk _ _ _ _) (trivial)))))))

theorem ok_en_acknowledge : rx_okF prog_3_method_6_code 1 none L_en_acknowledge 0 L_en_acknowledge = true := by decide +kernel
theorem V_en_acknowledge {l : Launch} {D : va_G} {g : Nat → ClassId} {ad : Nat → Nat} {B : Nat} (had : mx_A ad B) : rx_V l D g ad B ⟨"SubscriberLines$End", "acknowledge", "()V"⟩ prog_3_method_6_code 1 none 1 24 K_en_acknowledge := by
  intro av x hp
  obtain ⟨a0, rfl⟩ := k_R_inv hp
  have hp : mx_kl a0 = 8 := hp
  exact rx_met (k := 0) had (by decide) (Nat.le_of_ble_eq_true rfl) ok_en_acknowledge rfl rfl 17 (fun p e s m args below meth c X => And.intro (og_en_28_g X) (And.intro (og_en_21_g X) (And.intro (og_en_25_g X) (And.intro (cv_fl_launch X (V_fl_launch had) (al_at 475 (by decide +kernel) rfl) ⟨by decide, by decide⟩) (And.intro (og_en_32_g X) (And.intro (og_en_35_g X) (And.intro (cv_pk_number X (V_pk_number had) (al_at 477 (by decide +kernel) rfl) ⟨by decide, by decide⟩) (trivial)))))))) (S_en_acknowledge x.1 x.2 a0 hp) (E_en_acknowledge x.1 x.2 a0)
def en_settle_66 : Nat → mx_C → Nat → Int32 → Int32 → Int32 → Int32 → Int32 → mx_C
  | 0, c, _, _, _, _, _, _ => c
  | n + 1, c, r0, v1, v2, v3, v4, v5 =>
    if v5 < v4 then
      let c1 := en_transmit c r0 v5
      en_settle_66 n c1 r0 v1 v2 v3 v4 (v5 + 1)
    else
      c
def en_settle (c : mx_C) (t : Nat) (a1 : Int32) : mx_C :=
  if (c.1 t 7) < (jx_min a1 (c.1 t 8)) then
    let c1 := mx_pi c t 7 (jx_min a1 (c.1 t 8))
    let c2 := en_startWaiting c1 t
    en_settle_66 (4) c2 t a1 (jx_min ((c.1 t 7) + 3) (c.1 t 8)) (jx_min a1 (c.1 t 8)) (jx_min ((c2.1 t 7) + 3) (c2.1 t 8)) (jx_max (jx_min ((c.1 t 7) + 3) (c.1 t 8)) (c2.1 t 7))
  else
    c
def K_en_settle : rx_K mx := k_RI (fun a0 a1 c m => (mx_kl a0 = 8, (en_settle c a0 a1, m), none))
def L_en_settle : List (rx_E mx) := [
  (0, .aload_n 0, 1, 0, 0, 0, [], kno),
  (1, .getfield 38, 3, 7, 1, 0, [], kgi 8 7),
  (4, .iconst 3, 1, 0, 0, 3, [], kno),
  (5, .iadd, 1, 0, 0, 0, [], kno),
  (6, .aload_n 0, 1, 0, 0, 0, [], kno),
  (7, .getfield 41, 3, 7, 1, 0, [], kgi 8 8),
  (10, .invokestatic 95, 3, 7, 2, 0, [], kmin),
  (13, .istore_n 2, 1, 0, 2, 0, [], kno),
  (14, .iload_n 1, 1, 0, 1, 0, [], kno),
  (15, .aload_n 0, 1, 0, 0, 0, [], kno),
  (16, .getfield 41, 3, 7, 1, 0, [], kgi 8 8),
  (19, .invokestatic 95, 3, 7, 2, 0, [], kmin),
  (22, .istore_n 3, 1, 0, 3, 0, [], kno),
  (23, .iload_n 3, 1, 0, 3, 0, [], kno),
  (24, .aload_n 0, 1, 0, 0, 0, [], kno),
  (25, .getfield 38, 3, 7, 1, 0, [], kgi 8 7),
  (28, .if_icmp .gt 4, 3, 2, 18, 0, [], kno),
  (31, .return_, 1, 6, 0, 0, [], kno),
  (32, .aload_n 0, 1, 0, 0, 0, [], kno),
  (33, .iload_n 3, 1, 0, 3, 0, [], kno),
  (34, .putfield 38, 3, 7, 2, 0, [], kpi 8 7),
  (37, .aload_n 0, 1, 0, 0, 0, [], kno),
  (38, .invokevirtual 54, 3, 7, 1, 0, [], K_en_startWaiting),
  (41, .aload_n 0, 1, 0, 0, 0, [], kno),
  (42, .getfield 38, 3, 7, 1, 0, [], kgi 8 7),
  (45, .iconst 3, 1, 0, 0, 3, [], kno),
  (46, .iadd, 1, 0, 0, 0, [], kno),
  (47, .aload_n 0, 1, 0, 0, 0, [], kno),
  (48, .getfield 41, 3, 7, 1, 0, [], kgi 8 8),
  (51, .invokestatic 95, 3, 7, 2, 0, [], kmin),
  (54, .istore 4, 2, 0, 4, 0, [], kno),
  (56, .iload_n 2, 1, 0, 2, 0, [], kno),
  (57, .aload_n 0, 1, 0, 0, 0, [], kno),
  (58, .getfield 38, 3, 7, 1, 0, [], kgi 8 7),
  (61, .invokestatic 101, 3, 7, 2, 0, [], kmax),
  (64, .istore 5, 2, 0, 5, 0, [], kno),
  (66, .iload 5, 2, 0, 5, 0, [], kno),
  (68, .iload 4, 2, 0, 4, 0, [], kno),
  (70, .if_icmp .ge 15, 3, 2, 44, 0, [], kno),
  (73, .aload_n 0, 1, 0, 0, 0, [], kno),
  (74, .iload 5, 2, 0, 5, 0, [], kno),
  (76, .invokevirtual 61, 3, 7, 2, 0, [], K_en_transmit),
  (79, .iinc 5 1, 3, 0, 5, 1, [], kno),
  (82, .goto (-16), 3, 1, 36, 0, [], kno),
  (85, .return_, 1, 6, 0, 0, [], kno)]
def G_en_settle (n : Nat) : rx_G := fun x ls st =>
  match ls, st with
  | [some (.ref r0), some (.int v1), some (.int v2), some (.int v3), some (.int v4), some (.int v5)], [] => (mx_kl r0 = 8 ∧ en_P n v5 v4, rw_v x.2 (en_settle_66 n x.1 r0 v1 v2 v3 v4 v5))
  | _, _ => (False, (x, none))
theorem GI_en_settle {n : Nat} {x : mx} {ls : rx_L} {st : List Value} (h : (G_en_settle n x ls st).1) : ∃ (r0 : Nat) (v1 : Int32) (v2 : Int32) (v3 : Int32) (v4 : Int32) (v5 : Int32), ls = [some (.ref r0), some (.int v1), some (.int v2), some (.int v3), some (.int v4), some (.int v5)] ∧ st = [] ∧ mx_kl r0 = 8 ∧ en_P n v5 v4 := by
  unfold G_en_settle at h
  split at h
  · exact ⟨_, _, _, _, _, _, rfl, rfl, h⟩
  · exact False.elim h
theorem EH_en_settle (n : Nat) (c : mx_C) (m : mx_M) (r0 : Nat) (v1 : Int32) (v2 : Int32) (v3 : Int32) (v4 : Int32) (v5 : Int32) : rx_ev L_en_settle [(66, G_en_settle n)] 47 (L_en_settle.drop 36) (c, m) [some (.ref r0), some (.int v1), some (.int v2), some (.int v3), some (.int v4), some (.int v5)] [] = rw_v m (en_settle_66 (n + 1) c r0 v1 v2 v3 v4 v5) :=
  rx_ite2 (f := rw_v m) (fun _ => rfl) (fun _ => rfl)
theorem SH_en_settle (n : Nat) (c : mx_C) (m : mx_M) (r0 : Nat) (v1 : Int32) (v2 : Int32) (v3 : Int32) (v4 : Int32) (v5 : Int32) (hk : mx_kl r0 = 8) (hP : en_P (n + 1) v5 v4) : rx_sf L_en_settle [(66, G_en_settle n)] 47 (L_en_settle.drop 36) (c, m) [some (.ref r0), some (.int v1), some (.int v2), some (.int v3), some (.int v4), some (.int v5)] [] :=
  And.intro (fun h0 => And.intro hk (And.intro hk (en_P1 h0 hP))) (fun h0 => trivial)
theorem E_en_settle (c : mx_C) (m : mx_M) (t : Nat) (a1 : Int32)  : rx_ev L_en_settle [(66, G_en_settle (4))] 47 L_en_settle (c, m) [some (.ref t), some (.int a1), none, none, none, none] [] = rw_v m (en_settle c t a1) :=
  rx_ite2 (f := rw_v m) (fun _ => rfl) (fun _ => rfl)
theorem S_en_settle (c : mx_C) (m : mx_M) (t : Nat) (a1 : Int32) (ht : mx_kl t = 8) : rx_sf L_en_settle [(66, G_en_settle (4))] 47 L_en_settle (c, m) [some (.ref t), some (.int a1), none, none, none, none] [] :=
  And.intro ht (And.intro ht (And.intro trivial (And.intro ht (And.intro trivial (And.intro ht (And.intro (fun h0 => And.intro ht (And.intro ht (And.intro ht (And.intro ht (And.intro trivial (And.intro ht (And.intro trivial (And.intro ht (en_P0 _ _ _))))))))) (fun h0 => trivial)))))))
theorem ok_en_settle : rx_okF prog_3_method_9_code 6 none L_en_settle 0 L_en_settle = true := by decide +kernel
theorem O_en_settle {l : Launch} {D : va_G} {g : Nat → ClassId} {ad : Nat → Nat} {B : Nat} (had : mx_A ad B) {p : Program} {e : Env} {s : State} {m : MethodId} {args : Array Value} {below : List Frame} {meth : Method} {c : Code} (X : ox_C p s m args c prog_3_method_9_code 6 "SubscriberLines$End" D g ad B) : rx_ops p l e ({ frames := 2, cells := 0, slots := 0, locals := 47 } : Room) s m args below meth c prog_3_method_9_code 6 ad (mx_W D g ad B s.heap) mx_cs L_en_settle :=
  And.intro (og_en_38_g X) (And.intro (og_en_41_g X) (And.intro (ox_min X (al_at 462 (by decide +kernel) rfl) (by decide) (by decide)) (And.intro (og_en_41_g X) (And.intro (ox_min X (al_at 462 (by decide +kernel) rfl) (by decide) (by decide)) (And.intro (og_en_38_g X) (And.intro (og_en_38_p X) (And.intro (cv_en_startWaiting X (V_en_startWaiting had) (al_at 463 (by decide +kernel) rfl) ⟨by decide, by decide⟩) (And.intro (og_en_38_g X) (And.intro (og_en_41_g X) (And.intro (ox_min X (al_at 462 (by decide +kernel) rfl) (by decide) (by decide)) (And.intro (og_en_38_g X) (And.intro (ox_max X (al_at 467 (by decide +kernel) rfl) (by decide) (by decide)) (And.intro (cv_en_transmit X (V_en_transmit had) (al_at 468 (by decide +kernel) rfl) ⟨by decide, by decide⟩) (trivial))))))))))))))
theorem V_en_settle {l : Launch} {D : va_G} {g : Nat → ClassId} {ad : Nat → Nat} {B : Nat} (had : mx_A ad B) : rx_V l D g ad B ⟨"SubscriberLines$End", "settle", "(I)V"⟩ prog_3_method_9_code 6 none 2 47 K_en_settle := by
  intro av x hp
  obtain ⟨a0, a1, rfl⟩ := k_RI_inv hp
  have hp : mx_kl a0 = 8 := hp
  refine rx_metX (k := 4) had (by decide) (Nat.le_of_ble_eq_true rfl) fun p e s m args below meth c X hr hlk => ?_
  refine rx_walk X hr hlk ok_en_settle (O_en_settle had X) (cut := [(66, G_en_settle (4))]) (rx_cc ?_ rx_c0) 47 0 rfl (S_en_settle x.1 x.2 a0 a1 hp) (E_en_settle x.1 x.2 a0 a1 )
  refine rx_loop (G := G_en_settle) X hr hlk ok_en_settle (O_en_settle had X) rx_c0 47 36 rfl (fun x ls st h => ?_) (fun n x ls st h => ?_) _
  · obtain ⟨r0, v1, v2, v3, v4, v5, -, -, h3⟩ := GI_en_settle h
    have h4 := h3.2
    omega
  · obtain ⟨r0, v1, v2, v3, v4, v5, rfl, rfl, h3⟩ := GI_en_settle h
    obtain ⟨hk, hP⟩ := h3
    exact ⟨SH_en_settle n x.1 x.2 r0 v1 v2 v3 v4 v5 hk hP, EH_en_settle n x.1 x.2 r0 v1 v2 v3 v4 v5⟩
def en_isNext (c : mx_C) (t : Nat) (a1 : Nat) : mx_C × Int32 :=
  if (c.1 a1 6) = (c.1 t 3) then
    let c1 := en_settle c t (c.1 a1 8)
    if (c1.1 a1 0) = 17 then
      (c1, 0)
    else
      if (c1.1 a1 7) = (c1.1 t 4) then
        let c2 := mx_pi c1 t 4 ((c1.1 t 4) + 1)
        (c2, 1)
      else
        let c3 := en_acknowledge c1 t
        (c3, 0)
  else
    (c, 0)
def K_en_isNext : rx_K mx := k_RR (fun a0 a1 c m => (mx_kl a0 = 8 ∧ mx_kl a1 = 2, ((en_isNext c a0 a1).1, m), some (.int (en_isNext c a0 a1).2)))
def L_en_isNext : List (rx_E mx) := [
  (0, .aload_n 1, 1, 0, 1, 0, [], kno),
  (1, .getfield 65, 3, 7, 1, 0, [], kgi 2 6),
  (4, .aload_n 0, 1, 0, 0, 0, [], kno),
  (5, .getfield 32, 3, 7, 1, 0, [], kgi 8 3),
  (8, .if_icmp .eq 5, 3, 2, 7, 0, [], kno),
  (11, .iconst 0, 1, 0, 0, 0, [], kno),
  (12, .ireturn, 1, 5, 1, 0, [], kno),
  (13, .aload_n 0, 1, 0, 0, 0, [], kno),
  (14, .aload_n 1, 1, 0, 1, 0, [], kno),
  (15, .getfield 70, 3, 7, 1, 0, [], kgi 2 8),
  (18, .invokevirtual 71, 3, 7, 2, 0, [], K_en_settle),
  (21, .aload_n 1, 1, 0, 1, 0, [], kno),
  (22, .getfield 74, 3, 7, 1, 0, [], kgi 2 0),
  (25, .bipush 17, 2, 0, 0, 17, [], kno),
  (27, .if_icmp .ne 5, 3, 2, 17, 0, [], kno),
  (30, .iconst 0, 1, 0, 0, 0, [], kno),
  (31, .ireturn, 1, 5, 1, 0, [], kno),
  (32, .aload_n 1, 1, 0, 1, 0, [], kno),
  (33, .getfield 77, 3, 7, 1, 0, [], kgi 2 7),
  (36, .aload_n 0, 1, 0, 0, 0, [], kno),
  (37, .getfield 35, 3, 7, 1, 0, [], kgi 8 4),
  (40, .if_icmp .eq 9, 3, 2, 26, 0, [], kno),
  (43, .aload_n 0, 1, 0, 0, 0, [], kno),
  (44, .invokevirtual 80, 3, 7, 1, 0, [], K_en_acknowledge),
  (47, .iconst 0, 1, 0, 0, 0, [], kno),
  (48, .ireturn, 1, 5, 1, 0, [], kno),
  (49, .aload_n 0, 1, 0, 0, 0, [], kno),
  (50, .dup, 1, 0, 0, 0, [], kno),
  (51, .getfield 35, 3, 7, 1, 0, [], kgi 8 4),
  (54, .iconst 1, 1, 0, 0, 1, [], kno),
  (55, .iadd, 1, 0, 0, 0, [], kno),
  (56, .putfield 35, 3, 7, 2, 0, [], kpi 8 4),
  (59, .iconst 1, 1, 0, 0, 1, [], kno),
  (60, .ireturn, 1, 5, 1, 0, [], kno)]
theorem E_en_isNext (c : mx_C) (m : mx_M) (t : Nat) (a1 : Nat)  : rx_ev L_en_isNext [] 36 L_en_isNext (c, m) [some (.ref t), some (.ref a1)] [] = rw_i m (en_isNext c t a1) :=
  rx_ite2 (f := rw_i m) (fun _ => rx_ite2 (f := rw_i m) (fun _ => rfl) (fun _ => rx_ite2 (f := rw_i m) (fun _ => rfl) (fun _ => rfl))) (fun _ => rfl)
theorem S_en_isNext (c : mx_C) (m : mx_M) (t : Nat) (a1 : Nat) (ht : mx_kl t = 8) (ha1 : mx_kl a1 = 2) : rx_sf L_en_isNext [] 36 L_en_isNext (c, m) [some (.ref t), some (.ref a1)] [] :=
  And.intro ha1 (And.intro ht (And.intro (fun h0 => And.intro ha1 (And.intro ht (And.intro ha1 (And.intro (fun h1 => Or.inl rfl) (fun h1 => And.intro ha1 (And.intro ht (And.intro (fun h2 => And.intro ht (And.intro ht (Or.inr rfl))) (fun h2 => And.intro ht (Or.inl rfl))))))))) (fun h0 => Or.inl rfl)))

theorem og_en_65_g {p : Program} {l : Launch} {e : Env} {R : Room} {s : State} {m : MethodId} {args : Array Value} {below : List Frame} {meth : Method} {c : Code} {cc : ByteArray} {nL : Nat} {ad : Nat → Nat} {D : va_G} {g : Nat → ClassId} {B : Nat} (X : ox_C p s m args c cc nL "SubscriberLines$End" D g ad B) : rx_OK p l e R s m args below meth c cc nL ad (mx_W D g ad B s.heap) mx_cs (.getfield 65) 3 1 (kgi 2 6) := ox_gi (T := T_2) X rfl (by decide) (by decide) in_2 rfl (al_at 63 (by decide +kernel) rfl)
theorem og_en_70_g {p : Program} {l : Launch} {e : Env} {R : Room} {s : State} {m : MethodId} {args : Array Value} {below : List Frame} {meth : Method} {c : Code} {cc : ByteArray} {nL : Nat} {ad : Nat → Nat} {D : va_G} {g : Nat → ClassId} {B : Nat} (X : ox_C p s m args c cc nL "SubscriberLines$End" D g ad B) : rx_OK p l e R s m args below meth c cc nL ad (mx_W D g ad B s.heap) mx_cs (.getfield 70) 3 1 (kgi 2 8) := ox_gi (T := T_2) X rfl (by decide) (by decide) in_2 rfl (al_at 70 (by decide +kernel) rfl)
theorem cv_en_settle {p : Program} {l : Launch} {e : Env} {R : Room} {s : State} {m : MethodId} {args : Array Value} {below : List Frame} {meth : Method} {c : Code} {cc : ByteArray} {nL : Nat} {ad : Nat → Nat} {D : va_G} {g : Nat → ClassId} {B : Nat} {own : String} {idx : Nat} (X : ox_C p s m args c cc nL own D g ad B) (hV : rx_V l D g ad B ⟨"SubscriberLines$End", "settle", "(I)V"⟩ prog_3_method_9_code 6 none 2 47 K_en_settle) (hl : Cond.methodLink own idx ⟨"SubscriberLines$End", "settle", "(I)V"⟩ ∈ al) (hR : 2 + 1 ≤ R.frames ∧ 8 + (6 + 11) + 47 ≤ R.locals) : rx_OK p l e R s m args below meth c cc nL ad (mx_W D g ad B s.heap) mx_cs (.invokevirtual idx) 3 2 (K_en_settle) :=
  ox_callV (q := 8) (T := T_8) X hV (fun av x h => by obtain ⟨a0, a1, rfl⟩ := k_RI_inv h; exact ⟨a0, _, rfl, h⟩) (by decide) rfl hl (al_at 460 (by decide +kernel) rfl) (al_pr (y := (⟨"SubscriberLines$End", "settle", "(I)V"⟩, _)) 5 rfl) (al_at 8 (by decide +kernel) rfl) (al_at 461 (by decide +kernel) rfl) ⟨by decide, by decide, by decide +kernel⟩ hR
theorem og_en_74_g {p : Program} {l : Launch} {e : Env} {R : Room} {s : State} {m : MethodId} {args : Array Value} {below : List Frame} {meth : Method} {c : Code} {cc : ByteArray} {nL : Nat} {ad : Nat → Nat} {D : va_G} {g : Nat → ClassId} {B : Nat} (X : ox_C p s m args c cc nL "SubscriberLines$End" D g ad B) : rx_OK p l e R s m args below meth c cc nL ad (mx_W D g ad B s.heap) mx_cs (.getfield 74) 3 1 (kgi 2 0) := ox_gi (T := T_2) X rfl (by decide) (by decide) in_2 rfl (al_at 39 (by decide +kernel) rfl)
theorem og_en_77_g {p : Program} {l : Launch} {e : Env} {R : Room} {s : State} {m : MethodId} {args : Array Value} {below : List Frame} {meth : Method} {c : Code} {cc : ByteArray} {nL : Nat} {ad : Nat → Nat} {D : va_G} {g : Nat → ClassId} {B : Nat} (X : ox_C p s m args c cc nL "SubscriberLines$End" D g ad B) : rx_OK p l e R s m args below meth c cc nL ad (mx_W D g ad B s.heap) mx_cs (.getfield 77) 3 1 (kgi 2 7) := ox_gi (T := T_2) X rfl (by decide) (by decide) in_2 rfl (al_at 67 (by decide +kernel) rfl)
theorem cv_en_acknowledge {p : Program} {l : Launch} {e : Env} {R : Room} {s : State} {m : MethodId} {args : Array Value} {below : List Frame} {meth : Method} {c : Code} {cc : ByteArray} {nL : Nat} {ad : Nat → Nat} {D : va_G} {g : Nat → ClassId} {B : Nat} {own : String} {idx : Nat} (X : ox_C p s m args c cc nL own D g ad B) (hV : rx_V l D g ad B ⟨"SubscriberLines$End", "acknowledge", "()V"⟩ prog_3_method_6_code 1 none 1 24 K_en_acknowledge) (hl : Cond.methodLink own idx ⟨"SubscriberLines$End", "acknowledge", "()V"⟩ ∈ al) (hR : 1 + 1 ≤ R.frames ∧ 8 + (1 + 11) + 24 ≤ R.locals) : rx_OK p l e R s m args below meth c cc nL ad (mx_W D g ad B s.heap) mx_cs (.invokevirtual idx) 3 1 (K_en_acknowledge) :=
  ox_callV (q := 8) (T := T_8) X hV (fun av x h => by obtain ⟨a0, rfl⟩ := k_R_inv h; exact ⟨a0, _, rfl, h⟩) (by decide) rfl hl (al_at 482 (by decide +kernel) rfl) (al_at 483 (by decide +kernel) rfl) (al_at 8 (by decide +kernel) rfl) (al_at 484 (by decide +kernel) rfl) ⟨by decide, by decide, by decide +kernel⟩ hR
theorem ok_en_isNext : rx_okF prog_3_method_5_code 2 (some .boolean) L_en_isNext 0 L_en_isNext = true := by decide +kernel
theorem V_en_isNext {l : Launch} {D : va_G} {g : Nat → ClassId} {ad : Nat → Nat} {B : Nat} (had : mx_A ad B) : rx_V l D g ad B ⟨"SubscriberLines$End", "isNext", "(LSubscriberLines$Packet;)Z"⟩ prog_3_method_5_code 2 (some .boolean) 3 72 K_en_isNext := by
  intro av x hp
  obtain ⟨a0, a1, rfl⟩ := k_RR_inv hp
  have hp : mx_kl a0 = 8 ∧ mx_kl a1 = 2 := hp
  exact rx_met (k := 0) had (by decide) (Nat.le_of_ble_eq_true rfl) ok_en_isNext rfl rfl 36 (fun p e s m args below meth c X => And.intro (og_en_65_g X) (And.intro (og_en_32_g X) (And.intro (og_en_70_g X) (And.intro (cv_en_settle X (V_en_settle had) (al_at 458 (by decide +kernel) rfl) ⟨by decide, by decide⟩) (And.intro (og_en_74_g X) (And.intro (og_en_77_g X) (And.intro (og_en_35_g X) (And.intro (cv_en_acknowledge X (V_en_acknowledge had) (al_at 481 (by decide +kernel) rfl) ⟨by decide, by decide⟩) (And.intro (og_en_35_g X) (And.intro (og_en_35_p X) (trivial))))))))))) (S_en_isNext x.1 x.2 a0 a1 hp.1 hp.2) (E_en_isNext x.1 x.2 a0 a1)
def en_breaksAtTimer (c : mx_C) (t : Nat) : mx_C × Int32 :=
  if (en_isEmpty c t) = 0 then
    let c1 := mx_pi c t 6 ((c.1 t 6) - 1)
    if 0 < (c1.1 t 6) then
      (c1, 0)
    else
      if (c1.1 t 5) = 3 then
        let c2 := en_begin c1 t 0
        (c2, 1)
      else
        let c3 := mx_pi c1 t 5 ((c1.1 t 5) + 1)
        let c4 := mx_pi c3 t 6 (2 <<< ((c3.1 t 5) &&& 31))
        let c5 := en_transmit c4 t (c4.1 t 7)
        (c5, 0)
  else
    (c, 0)
def K_en_breaksAtTimer : rx_K mx := k_R (fun a0 c m => (mx_kl a0 = 8, ((en_breaksAtTimer c a0).1, m), some (.int (en_breaksAtTimer c a0).2)))
def L_en_breaksAtTimer : List (rx_E mx) := [
  (0, .aload_n 0, 1, 0, 0, 0, [], kno),
  (1, .invokevirtual 50, 3, 7, 1, 0, [], K_en_isEmpty),
  (4, .ifCond .eq 5, 3, 2, 5, 0, [], kno),
  (7, .iconst 0, 1, 0, 0, 0, [], kno),
  (8, .ireturn, 1, 5, 1, 0, [], kno),
  (9, .aload_n 0, 1, 0, 0, 0, [], kno),
  (10, .dup, 1, 0, 0, 0, [], kno),
  (11, .getfield 47, 3, 7, 1, 0, [], kgi 8 6),
  (14, .iconst 1, 1, 0, 0, 1, [], kno),
  (15, .isub, 1, 0, 0, 0, [], kno),
  (16, .putfield 47, 3, 7, 2, 0, [], kpi 8 6),
  (19, .aload_n 0, 1, 0, 0, 0, [], kno),
  (20, .getfield 47, 3, 7, 1, 0, [], kgi 8 6),
  (23, .ifCond .le 5, 3, 2, 16, 0, [], kno),
  (26, .iconst 0, 1, 0, 0, 0, [], kno),
  (27, .ireturn, 1, 5, 1, 0, [], kno),
  (28, .aload_n 0, 1, 0, 0, 0, [], kno),
  (29, .getfield 44, 3, 7, 1, 0, [], kgi 8 5),
  (32, .iconst 3, 1, 0, 0, 3, [], kno),
  (33, .if_icmp .ne 10, 3, 2, 25, 0, [], kno),
  (36, .aload_n 0, 1, 0, 0, 0, [], kno),
  (37, .iconst 0, 1, 0, 0, 0, [], kno),
  (38, .invokevirtual 92, 3, 7, 2, 0, [], K_en_begin),
  (41, .iconst 1, 1, 0, 0, 1, [], kno),
  (42, .ireturn, 1, 5, 1, 0, [], kno),
  (43, .aload_n 0, 1, 0, 0, 0, [], kno),
  (44, .dup, 1, 0, 0, 0, [], kno),
  (45, .getfield 44, 3, 7, 1, 0, [], kgi 8 5),
  (48, .iconst 1, 1, 0, 0, 1, [], kno),
  (49, .iadd, 1, 0, 0, 0, [], kno),
  (50, .putfield 44, 3, 7, 2, 0, [], kpi 8 5),
  (53, .aload_n 0, 1, 0, 0, 0, [], kno),
  (54, .iconst 2, 1, 0, 0, 2, [], kno),
  (55, .aload_n 0, 1, 0, 0, 0, [], kno),
  (56, .getfield 44, 3, 7, 1, 0, [], kgi 8 5),
  (59, .ishl, 1, 0, 0, 0, [], kno),
  (60, .putfield 47, 3, 7, 2, 0, [], kpi 8 6),
  (63, .aload_n 0, 1, 0, 0, 0, [], kno),
  (64, .aload_n 0, 1, 0, 0, 0, [], kno),
  (65, .getfield 38, 3, 7, 1, 0, [], kgi 8 7),
  (68, .invokevirtual 61, 3, 7, 2, 0, [], K_en_transmit),
  (71, .iconst 0, 1, 0, 0, 0, [], kno),
  (72, .ireturn, 1, 5, 1, 0, [], kno)]
theorem E_en_breaksAtTimer (c : mx_C) (m : mx_M) (t : Nat)  : rx_ev L_en_breaksAtTimer [] 45 L_en_breaksAtTimer (c, m) [some (.ref t)] [] = rw_i m (en_breaksAtTimer c t) :=
  rx_ite2 (f := rw_i m) (fun _ => rx_ite2 (f := rw_i m) (fun _ => rfl) (fun _ => rx_ite2 (f := rw_i m) (fun _ => rfl) (fun _ => rfl))) (fun _ => rfl)
theorem S_en_breaksAtTimer (c : mx_C) (m : mx_M) (t : Nat) (ht : mx_kl t = 8) : rx_sf L_en_breaksAtTimer [] 45 L_en_breaksAtTimer (c, m) [some (.ref t)] [] :=
  And.intro ht (And.intro (fun h0 => And.intro ht (And.intro ht (And.intro ht (And.intro (fun h1 => Or.inl rfl) (fun h1 => And.intro ht (And.intro (fun h2 => And.intro ht (Or.inr rfl)) (fun h2 => And.intro ht (And.intro ht (And.intro ht (And.intro ht (And.intro ht (And.intro ht (Or.inl rfl))))))))))))) (fun h0 => Or.inl rfl))

theorem og_en_47_g {p : Program} {l : Launch} {e : Env} {R : Room} {s : State} {m : MethodId} {args : Array Value} {below : List Frame} {meth : Method} {c : Code} {cc : ByteArray} {nL : Nat} {ad : Nat → Nat} {D : va_G} {g : Nat → ClassId} {B : Nat} (X : ox_C p s m args c cc nL "SubscriberLines$End" D g ad B) : rx_OK p l e R s m args below meth c cc nL ad (mx_W D g ad B s.heap) mx_cs (.getfield 47) 3 1 (kgi 8 6) := ox_gi (T := T_8) X rfl (by decide) (by decide) in_8 rfl (al_at 189 (by decide +kernel) rfl)
theorem og_en_44_g {p : Program} {l : Launch} {e : Env} {R : Room} {s : State} {m : MethodId} {args : Array Value} {below : List Frame} {meth : Method} {c : Code} {cc : ByteArray} {nL : Nat} {ad : Nat → Nat} {D : va_G} {g : Nat → ClassId} {B : Nat} (X : ox_C p s m args c cc nL "SubscriberLines$End" D g ad B) : rx_OK p l e R s m args below meth c cc nL ad (mx_W D g ad B s.heap) mx_cs (.getfield 44) 3 1 (kgi 8 5) := ox_gi (T := T_8) X rfl (by decide) (by decide) in_8 rfl (al_at 188 (by decide +kernel) rfl)
theorem cv_en_begin {p : Program} {l : Launch} {e : Env} {R : Room} {s : State} {m : MethodId} {args : Array Value} {below : List Frame} {meth : Method} {c : Code} {cc : ByteArray} {nL : Nat} {ad : Nat → Nat} {D : va_G} {g : Nat → ClassId} {B : Nat} {own : String} {idx : Nat} (X : ox_C p s m args c cc nL own D g ad B) (hV : rx_V l D g ad B ⟨"SubscriberLines$End", "begin", "(I)V"⟩ prog_3_method_2_code 2 none 0 0 K_en_begin) (hl : Cond.methodLink own idx ⟨"SubscriberLines$End", "begin", "(I)V"⟩ ∈ al) (hR : 0 + 1 ≤ R.frames ∧ 8 + (2 + 11) + 0 ≤ R.locals) : rx_OK p l e R s m args below meth c cc nL ad (mx_W D g ad B s.heap) mx_cs (.invokevirtual idx) 3 2 (K_en_begin) :=
  ox_callV (q := 8) (T := T_8) X hV (fun av x h => by obtain ⟨a0, a1, rfl⟩ := k_RI_inv h; exact ⟨a0, _, rfl, h⟩) (by decide) rfl hl (al_at 424 (by decide +kernel) rfl) (al_at 425 (by decide +kernel) rfl) (al_at 8 (by decide +kernel) rfl) (al_at 426 (by decide +kernel) rfl) ⟨by decide, by decide, by decide +kernel⟩ hR
theorem ok_en_breaksAtTimer : rx_okF prog_3_method_7_code 1 (some .boolean) L_en_breaksAtTimer 0 L_en_breaksAtTimer = true := by decide +kernel
theorem V_en_breaksAtTimer {l : Launch} {D : va_G} {g : Nat → ClassId} {ad : Nat → Nat} {B : Nat} (had : mx_A ad B) : rx_V l D g ad B ⟨"SubscriberLines$End", "breaksAtTimer", "()Z"⟩ prog_3_method_7_code 1 (some .boolean) 2 47 K_en_breaksAtTimer := by
  intro av x hp
  obtain ⟨a0, rfl⟩ := k_R_inv hp
  have hp : mx_kl a0 = 8 := hp
  exact rx_met (k := 0) had (by decide) (Nat.le_of_ble_eq_true rfl) ok_en_breaksAtTimer rfl rfl 45 (fun p e s m args below meth c X => And.intro (cv_en_isEmpty X (V_en_isEmpty had) (al_at 503 (by decide +kernel) rfl) ⟨by decide, by decide⟩) (And.intro (og_en_47_g X) (And.intro (og_en_47_p X) (And.intro (og_en_47_g X) (And.intro (og_en_44_g X) (And.intro (cv_en_begin X (V_en_begin had) (al_at 612 (by decide +kernel) rfl) ⟨by decide, by decide⟩) (And.intro (og_en_44_g X) (And.intro (og_en_44_p X) (And.intro (og_en_44_g X) (And.intro (og_en_47_p X) (And.intro (og_en_38_g X) (And.intro (cv_en_transmit X (V_en_transmit had) (al_at 468 (by decide +kernel) rfl) ⟨by decide, by decide⟩) (trivial))))))))))))) (S_en_breaksAtTimer x.1 x.2 a0 hp) (E_en_breaksAtTimer x.1 x.2 a0)
def en_tell (c : mx_C) (t : Nat) (a1 : Int32) : Int32 :=
  if a1 = 0 then
    (c.1 t 3)
  else
    if a1 = 1 then
      ((c.1 t 8) - (c.1 t 7))
    else
      if a1 = 2 then
        (c.1 t 4)
      else
        if a1 = 3 then
          if (en_isEmpty c t) = 0 then
            (c.1 t 5)
          else
            0
        else
          if a1 = 4 then
            if (en_isEmpty c t) = 0 then
              (c.1 t 6)
            else
              0
          else
            0
def K_en_tell : rx_K mx := k_RI (fun a0 a1 c m => (mx_kl a0 = 8, (c, m), some (.int (en_tell c a0 a1))))
def L_en_tell : List (rx_E mx) := [
  (0, .iload_n 1, 1, 0, 1, 0, [], kno),
  (1, .tableswitch 87 0 4 #[35, 40, 50, 55, 71], 35, 4, 30, 0, [(0, 2), (1, 5), (2, 11), (3, 14), (4, 22)], kno),
  (36, .aload_n 0, 1, 0, 0, 0, [], kno),
  (37, .getfield 32, 3, 7, 1, 0, [], kgi 8 3),
  (40, .ireturn, 1, 5, 0, 0, [], kno),
  (41, .aload_n 0, 1, 0, 0, 0, [], kno),
  (42, .getfield 41, 3, 7, 1, 0, [], kgi 8 8),
  (45, .aload_n 0, 1, 0, 0, 0, [], kno),
  (46, .getfield 38, 3, 7, 1, 0, [], kgi 8 7),
  (49, .isub, 1, 0, 0, 0, [], kno),
  (50, .ireturn, 1, 5, 0, 0, [], kno),
  (51, .aload_n 0, 1, 0, 0, 0, [], kno),
  (52, .getfield 35, 3, 7, 1, 0, [], kgi 8 4),
  (55, .ireturn, 1, 5, 0, 0, [], kno),
  (56, .aload_n 0, 1, 0, 0, 0, [], kno),
  (57, .invokevirtual 50, 3, 7, 1, 0, [], K_en_isEmpty),
  (60, .ifCond .eq 7, 3, 2, 19, 0, [], kno),
  (63, .iconst 0, 1, 0, 0, 0, [], kno),
  (64, .goto 7, 3, 1, 21, 0, [], kno),
  (67, .aload_n 0, 1, 0, 0, 0, [], kno),
  (68, .getfield 44, 3, 7, 1, 0, [], kgi 8 5),
  (71, .ireturn, 1, 5, 0, 0, [], kno),
  (72, .aload_n 0, 1, 0, 0, 0, [], kno),
  (73, .invokevirtual 50, 3, 7, 1, 0, [], K_en_isEmpty),
  (76, .ifCond .eq 7, 3, 2, 27, 0, [], kno),
  (79, .iconst 0, 1, 0, 0, 0, [], kno),
  (80, .goto 7, 3, 1, 29, 0, [], kno),
  (83, .aload_n 0, 1, 0, 0, 0, [], kno),
  (84, .getfield 47, 3, 7, 1, 0, [], kgi 8 6),
  (87, .ireturn, 1, 5, 0, 0, [], kno),
  (88, .iconst 0, 1, 0, 0, 0, [], kno),
  (89, .ireturn, 1, 5, 0, 0, [], kno)]
theorem E_en_tell (c : mx_C) (m : mx_M) (t : Nat) (a1 : Int32)  : rx_ev L_en_tell [] 34 L_en_tell (c, m) [some (.ref t), some (.int a1)] [] = rw_p c m (en_tell c t a1) :=
  rx_ite2 (f := rw_p c m) (fun _ => rfl) (fun _ => rx_ite2 (f := rw_p c m) (fun _ => rfl) (fun _ => rx_ite2 (f := rw_p c m) (fun _ => rfl) (fun _ => rx_ite2 (f := rw_p c m) (fun _ => rx_ite2 (f := rw_p c m) (fun _ => rfl) (fun _ => rfl)) (fun _ => rx_ite2 (f := rw_p c m) (fun _ => rx_ite2 (f := rw_p c m) (fun _ => rfl) (fun _ => rfl)) (fun _ => rfl)))))
theorem S_en_tell (c : mx_C) (m : mx_M) (t : Nat) (a1 : Int32) (ht : mx_kl t = 8) : rx_sf L_en_tell [] 34 L_en_tell (c, m) [some (.ref t), some (.int a1)] [] :=
  And.intro (fun h0 => And.intro ht (trivial)) (fun h0 => And.intro (fun h1 => And.intro ht (And.intro ht (trivial))) (fun h1 => And.intro (fun h2 => And.intro ht (trivial)) (fun h2 => And.intro (fun h3 => And.intro ht (And.intro (fun h4 => And.intro ht (trivial)) (fun h4 => trivial))) (fun h3 => And.intro (fun h4 => And.intro ht (And.intro (fun h5 => And.intro ht (trivial)) (fun h5 => trivial))) (fun h4 => trivial)))))

theorem ok_en_tell : rx_okF prog_3_method_8_code 2 (some .int) L_en_tell 0 L_en_tell = true := by decide +kernel
theorem V_en_tell {l : Launch} {D : va_G} {g : Nat → ClassId} {ad : Nat → Nat} {B : Nat} (had : mx_A ad B) : rx_V l D g ad B ⟨"SubscriberLines$End", "tell", "(I)I"⟩ prog_3_method_8_code 2 (some .int) 1 20 K_en_tell := by
  intro av x hp
  obtain ⟨a0, a1, rfl⟩ := k_RI_inv hp
  have hp : mx_kl a0 = 8 := hp
  exact rx_met (k := 0) had (by decide) (Nat.le_of_ble_eq_true rfl) ok_en_tell rfl rfl 34 (fun p e s m args below meth c X => And.intro (og_en_32_g X) (And.intro (og_en_41_g X) (And.intro (og_en_38_g X) (And.intro (og_en_35_g X) (And.intro (cv_en_isEmpty X (V_en_isEmpty had) (al_at 503 (by decide +kernel) rfl) ⟨by decide, by decide⟩) (And.intro (og_en_44_g X) (And.intro (cv_en_isEmpty X (V_en_isEmpty had) (al_at 503 (by decide +kernel) rfl) ⟨by decide, by decide⟩) (And.intro (og_en_47_g X) (trivial))))))))) (S_en_tell x.1 x.2 a0 a1 hp) (E_en_tell x.1 x.2 a0 a1)
end
section
def ac_removeCircuit (c : mx_C) (a1 : Int32) : mx_C :=
  let c1 := mx_pi c 60 (Int32.toNatClampNeg a1) 0
  let c2 := mx_pi c1 61 (Int32.toNatClampNeg a1) 0
  c2
def K_ac_removeCircuit : rx_K mx := k_RI (fun a0 a1 c m => (a0 = 59 ∧ vp_in a1 4, (ac_removeCircuit c a1, m), none))
def L_ac_removeCircuit : List (rx_E mx) := [
  (0, .aload_n 0, 1, 0, 0, 0, [], kno),
  (1, .getfield 9, 3, 7, 1, 0, [], kgr0 5 3 60),
  (4, .iload_n 1, 1, 0, 1, 0, [], kno),
  (5, .iconst 0, 1, 0, 0, 0, [], kno),
  (6, .iastore, 1, 7, 3, 0, [], kpa),
  (7, .aload_n 0, 1, 0, 0, 0, [], kno),
  (8, .getfield 15, 3, 7, 1, 0, [], kgr0 5 4 61),
  (11, .iload_n 1, 1, 0, 1, 0, [], kno),
  (12, .iconst 0, 1, 0, 0, 0, [], kno),
  (13, .iastore, 1, 7, 3, 0, [], kpa),
  (14, .return_, 1, 6, 0, 0, [], kno)]
theorem E_ac_removeCircuit (c : mx_C) (m : mx_M) (a1 : Int32)  : rx_ev L_ac_removeCircuit [] 13 L_ac_removeCircuit (c, m) [some (.ref 59), some (.int a1)] [] = rw_v m (ac_removeCircuit c a1) :=
  rfl
theorem S_ac_removeCircuit (c : mx_C) (m : mx_M) (a1 : Int32) (hs : vp_in a1 4) : rx_sf L_ac_removeCircuit [] 13 L_ac_removeCircuit (c, m) [some (.ref 59), some (.int a1)] [] :=
  And.intro rfl (And.intro hs (And.intro rfl (And.intro hs (trivial))))

theorem og_ac_9_g {p : Program} {l : Launch} {e : Env} {R : Room} {s : State} {m : MethodId} {args : Array Value} {below : List Frame} {meth : Method} {c : Code} {cc : ByteArray} {nL : Nat} {ad : Nat → Nat} {D : va_G} {g : Nat → ClassId} {B : Nat} (X : ox_C p s m args c cc nL "SubscriberLines$Access" D g ad B) : rx_OK p l e R s m args below meth c cc nL ad (mx_W D g ad B s.heap) mx_cs (.getfield 9) 3 1 (kgr0 5 3 60) := ox_gr0 (T := T_5) X rfl (by decide) (by decide) in_5 rfl (al_at 223 (by decide +kernel) rfl)
theorem og_ac_15_g {p : Program} {l : Launch} {e : Env} {R : Room} {s : State} {m : MethodId} {args : Array Value} {below : List Frame} {meth : Method} {c : Code} {cc : ByteArray} {nL : Nat} {ad : Nat → Nat} {D : va_G} {g : Nat → ClassId} {B : Nat} (X : ox_C p s m args c cc nL "SubscriberLines$Access" D g ad B) : rx_OK p l e R s m args below meth c cc nL ad (mx_W D g ad B s.heap) mx_cs (.getfield 15) 3 1 (kgr0 5 4 61) := ox_gr0 (T := T_5) X rfl (by decide) (by decide) in_5 rfl (al_at 224 (by decide +kernel) rfl)
theorem ok_ac_removeCircuit : rx_okF prog_2_method_13_code 2 none L_ac_removeCircuit 0 L_ac_removeCircuit = true := by decide +kernel
theorem V_ac_removeCircuit {l : Launch} {D : va_G} {g : Nat → ClassId} {ad : Nat → Nat} {B : Nat} (had : mx_A ad B) : rx_V l D g ad B ⟨"SubscriberLines$Access", "removeCircuit", "(I)V"⟩ prog_2_method_13_code 2 none 0 0 K_ac_removeCircuit := by
  intro av x hp
  obtain ⟨a0, a1, rfl⟩ := k_RI_inv hp
  have hp : a0 = 59 ∧ vp_in a1 4 := hp
  have h0 : a0 = 59 := hp.1
  subst h0
  exact rx_met (k := 0) had (by decide) (Nat.le_of_ble_eq_true rfl) ok_ac_removeCircuit rfl rfl 13 (fun p e s m args below meth c X => And.intro (og_ac_9_g X) (And.intro (ox_pa X) (And.intro (og_ac_15_g X) (And.intro (ox_pa X) (trivial))))) (S_ac_removeCircuit x.1 x.2 a1 hp.2) (E_ac_removeCircuit x.1 x.2 a1)
def ac_tell (c : mx_C) (a1 : Int32) (a2 : Int32) : Int32 :=
  if a2 = 0 then
    (c.1 60 (Int32.toNatClampNeg a1))
  else
    if a2 = 1 then
      (c.1 61 (Int32.toNatClampNeg a1))
    else
      0
def K_ac_tell : rx_K mx := k_RII (fun a0 a1 a2 c m => (a0 = 59 ∧ vp_in a1 4, (c, m), some (.int (ac_tell c a1 a2))))
def L_ac_tell : List (rx_E mx) := [
  (0, .iload_n 2, 1, 0, 2, 0, [], kno),
  (1, .ifCond .ne 10, 3, 2, 7, 0, [], kno),
  (4, .aload_n 0, 1, 0, 0, 0, [], kno),
  (5, .getfield 9, 3, 7, 1, 0, [], kgr0 5 3 60),
  (8, .iload_n 1, 1, 0, 1, 0, [], kno),
  (9, .iaload, 1, 7, 2, 0, [], kai),
  (10, .ireturn, 1, 5, 0, 0, [], kno),
  (11, .iload_n 2, 1, 0, 2, 0, [], kno),
  (12, .iconst 1, 1, 0, 0, 1, [], kno),
  (13, .if_icmp .ne 12, 3, 2, 15, 0, [], kno),
  (16, .aload_n 0, 1, 0, 0, 0, [], kno),
  (17, .getfield 15, 3, 7, 1, 0, [], kgr0 5 4 61),
  (20, .iload_n 1, 1, 0, 1, 0, [], kno),
  (21, .iaload, 1, 7, 2, 0, [], kai),
  (22, .goto 4, 3, 1, 16, 0, [], kno),
  (25, .iconst 0, 1, 0, 0, 0, [], kno),
  (26, .ireturn, 1, 5, 0, 0, [], kno)]
theorem E_ac_tell (c : mx_C) (m : mx_M) (a1 : Int32) (a2 : Int32)  : rx_ev L_ac_tell [] 19 L_ac_tell (c, m) [some (.ref 59), some (.int a1), some (.int a2)] [] = rw_p c m (ac_tell c a1 a2) :=
  rx_ite2 (f := rw_p c m) (fun _ => rfl) (fun _ => rx_ite2 (f := rw_p c m) (fun _ => rfl) (fun _ => rfl))
theorem S_ac_tell (c : mx_C) (m : mx_M) (a1 : Int32) (a2 : Int32) (hs : vp_in a1 4) : rx_sf L_ac_tell [] 19 L_ac_tell (c, m) [some (.ref 59), some (.int a1), some (.int a2)] [] :=
  And.intro (fun h0 => And.intro rfl (And.intro hs (trivial))) (fun h0 => And.intro (fun h1 => And.intro rfl (And.intro hs (trivial))) (fun h1 => trivial))

theorem ok_ac_tell : rx_okF prog_2_method_3_code 3 (some .int) L_ac_tell 0 L_ac_tell = true := by decide +kernel
theorem V_ac_tell {l : Launch} {D : va_G} {g : Nat → ClassId} {ad : Nat → Nat} {B : Nat} (had : mx_A ad B) : rx_V l D g ad B ⟨"SubscriberLines$Access", "tell", "(II)I"⟩ prog_2_method_3_code 3 (some .int) 0 0 K_ac_tell := by
  intro av x hp
  obtain ⟨a0, a1, a2, rfl⟩ := k_RII_inv hp
  have hp : a0 = 59 ∧ vp_in a1 4 := hp
  have h0 : a0 = 59 := hp.1
  subst h0
  exact rx_met (k := 0) had (by decide) (Nat.le_of_ble_eq_true rfl) ok_ac_tell rfl rfl 19 (fun p e s m args below meth c X => And.intro (og_ac_9_g X) (And.intro (ox_ai X) (And.intro (og_ac_15_g X) (And.intro (ox_ai X) (trivial))))) (S_ac_tell x.1 x.2 a1 a2 hp.2) (E_ac_tell x.1 x.2 a1 a2)
def ac_takeDown (c : mx_C) (a1 : Int32) : mx_C :=
  let c1 := ac_removeCircuit c a1
  if (c.1 61 (Int32.toNatClampNeg a1)) = 0 then
    c1
  else
    let c2 := en_put c1 62 15 (c.1 61 (Int32.toNatClampNeg a1)) 0
    c2
def K_ac_takeDown : rx_K mx := k_RI (fun a0 a1 c m => (a0 = 59 ∧ vp_in a1 4, (ac_takeDown c a1, m), none))
def L_ac_takeDown : List (rx_E mx) := [
  (0, .aload_n 0, 1, 0, 0, 0, [], kno),
  (1, .getfield 15, 3, 7, 1, 0, [], kgr0 5 4 61),
  (4, .iload_n 1, 1, 0, 1, 0, [], kno),
  (5, .iaload, 1, 7, 2, 0, [], kai),
  (6, .istore_n 2, 1, 0, 2, 0, [], kno),
  (7, .aload_n 0, 1, 0, 0, 0, [], kno),
  (8, .iload_n 1, 1, 0, 1, 0, [], kno),
  (9, .invokevirtual 39, 3, 7, 2, 0, [], K_ac_removeCircuit),
  (12, .iload_n 2, 1, 0, 2, 0, [], kno),
  (13, .ifCond .eq 14, 3, 2, 16, 0, [], kno),
  (16, .aload_n 0, 1, 0, 0, 0, [], kno),
  (17, .getfield 27, 3, 7, 1, 0, [], kgr0 5 2 62),
  (20, .bipush 15, 2, 0, 0, 15, [], kno),
  (22, .iload_n 2, 1, 0, 2, 0, [], kno),
  (23, .iconst 0, 1, 0, 0, 0, [], kno),
  (24, .invokevirtual 86, 3, 7, 4, 0, [], K_en_put),
  (27, .return_, 1, 6, 0, 0, [], kno)]
theorem E_ac_takeDown (c : mx_C) (m : mx_M) (a1 : Int32)  : rx_ev L_ac_takeDown [] 19 L_ac_takeDown (c, m) [some (.ref 59), some (.int a1), none] [] = rw_v m (ac_takeDown c a1) :=
  rx_ite2 (f := rw_v m) (fun _ => rfl) (fun _ => rfl)
theorem S_ac_takeDown (c : mx_C) (m : mx_M) (a1 : Int32) (hs : vp_in a1 4) : rx_sf L_ac_takeDown [] 19 L_ac_takeDown (c, m) [some (.ref 59), some (.int a1), none] [] :=
  And.intro rfl (And.intro hs (And.intro (And.intro rfl hs) (And.intro (fun h0 => trivial) (fun h0 => And.intro rfl (And.intro rfl (trivial))))))

theorem cv_ac_removeCircuit {p : Program} {l : Launch} {e : Env} {R : Room} {s : State} {m : MethodId} {args : Array Value} {below : List Frame} {meth : Method} {c : Code} {cc : ByteArray} {nL : Nat} {ad : Nat → Nat} {D : va_G} {g : Nat → ClassId} {B : Nat} {own : String} {idx : Nat} (X : ox_C p s m args c cc nL own D g ad B) (hV : rx_V l D g ad B ⟨"SubscriberLines$Access", "removeCircuit", "(I)V"⟩ prog_2_method_13_code 2 none 0 0 K_ac_removeCircuit) (hl : Cond.methodLink own idx ⟨"SubscriberLines$Access", "removeCircuit", "(I)V"⟩ ∈ al) (hR : 0 + 1 ≤ R.frames ∧ 8 + (2 + 11) + 0 ≤ R.locals) : rx_OK p l e R s m args below meth c cc nL ad (mx_W D g ad B s.heap) mx_cs (.invokevirtual idx) 3 2 (K_ac_removeCircuit) :=
  ox_callV (q := 5) (T := T_5) X hV (fun av x h => by obtain ⟨a0, a1, rfl⟩ := k_RI_inv h; exact ⟨a0, _, rfl, by have h2 : a0 = 59 := h.1; rw [h2]; rfl⟩) (by decide) rfl hl (al_at 429 (by decide +kernel) rfl) (al_pr (y := (⟨"SubscriberLines$Access", "removeCircuit", "(I)V"⟩, _)) 4 rfl) (al_at 7 (by decide +kernel) rfl) (al_at 430 (by decide +kernel) rfl) ⟨by decide, by decide, by decide +kernel⟩ hR
theorem og_ac_27_g {p : Program} {l : Launch} {e : Env} {R : Room} {s : State} {m : MethodId} {args : Array Value} {below : List Frame} {meth : Method} {c : Code} {cc : ByteArray} {nL : Nat} {ad : Nat → Nat} {D : va_G} {g : Nat → ClassId} {B : Nat} (X : ox_C p s m args c cc nL "SubscriberLines$Access" D g ad B) : rx_OK p l e R s m args below meth c cc nL ad (mx_W D g ad B s.heap) mx_cs (.getfield 27) 3 1 (kgr0 5 2 62) := ox_gr0 (T := T_5) X rfl (by decide) (by decide) in_5 rfl (al_at 221 (by decide +kernel) rfl)
theorem cv_en_put {p : Program} {l : Launch} {e : Env} {R : Room} {s : State} {m : MethodId} {args : Array Value} {below : List Frame} {meth : Method} {c : Code} {cc : ByteArray} {nL : Nat} {ad : Nat → Nat} {D : va_G} {g : Nat → ClassId} {B : Nat} {own : String} {idx : Nat} (X : ox_C p s m args c cc nL own D g ad B) (hV : rx_V l D g ad B ⟨"SubscriberLines$End", "put", "(III)V"⟩ prog_3_method_4_code 5 none 2 47 K_en_put) (hl : Cond.methodLink own idx ⟨"SubscriberLines$End", "put", "(III)V"⟩ ∈ al) (hR : 2 + 1 ≤ R.frames ∧ 8 + (5 + 11) + 47 ≤ R.locals) : rx_OK p l e R s m args below meth c cc nL ad (mx_W D g ad B s.heap) mx_cs (.invokevirtual idx) 3 4 (K_en_put) :=
  ox_callV (q := 8) (T := T_8) X hV (fun av x h => by obtain ⟨a0, a1, a2, a3, rfl⟩ := k_RIII_inv h; exact ⟨a0, _, rfl, h⟩) (by decide) rfl hl (al_at 500 (by decide +kernel) rfl) (al_at 501 (by decide +kernel) rfl) (al_at 8 (by decide +kernel) rfl) (al_at 502 (by decide +kernel) rfl) ⟨by decide, by decide, by decide +kernel⟩ hR
theorem ok_ac_takeDown : rx_okF prog_2_method_11_code 3 none L_ac_takeDown 0 L_ac_takeDown = true := by decide +kernel
theorem V_ac_takeDown {l : Launch} {D : va_G} {g : Nat → ClassId} {ad : Nat → Nat} {B : Nat} (had : mx_A ad B) : rx_V l D g ad B ⟨"SubscriberLines$Access", "takeDown", "(I)V"⟩ prog_2_method_11_code 3 none 3 71 K_ac_takeDown := by
  intro av x hp
  obtain ⟨a0, a1, rfl⟩ := k_RI_inv hp
  have hp : a0 = 59 ∧ vp_in a1 4 := hp
  have h0 : a0 = 59 := hp.1
  subst h0
  exact rx_met (k := 1) had (by decide) (Nat.le_of_ble_eq_true rfl) ok_ac_takeDown rfl rfl 19 (fun p e s m args below meth c X => And.intro (og_ac_15_g X) (And.intro (ox_ai X) (And.intro (cv_ac_removeCircuit X (V_ac_removeCircuit had) (al_at 427 (by decide +kernel) rfl) ⟨by decide, by decide⟩) (And.intro (og_ac_27_g X) (And.intro (cv_en_put X (V_en_put had) (al_at 499 (by decide +kernel) rfl) ⟨by decide, by decide⟩) (trivial)))))) (S_ac_takeDown x.1 x.2 a1 hp.2) (E_ac_takeDown x.1 x.2 a1)
def ac_closeCircuit (c : mx_C) (a1 : Int32) : mx_C :=
  if (c.1 60 (Int32.toNatClampNeg a1)) = 0 then
    c
  else
    let q1 := fl_launch c 3 4 a1
    let c2 := pk_bear q1.1 q1.2 (q1.1.1 60 (Int32.toNatClampNeg a1)) 0 0
    let c3 := ac_removeCircuit c2 a1
    c3
def K_ac_closeCircuit : rx_K mx := k_RI (fun a0 a1 c m => (a0 = 59 ∧ vp_in a1 4, (ac_closeCircuit c a1, m), none))
def L_ac_closeCircuit : List (rx_E mx) := [
  (0, .aload_n 0, 1, 0, 0, 0, [], kno),
  (1, .getfield 9, 3, 7, 1, 0, [], kgr0 5 3 60),
  (4, .iload_n 1, 1, 0, 1, 0, [], kno),
  (5, .iaload, 1, 7, 2, 0, [], kai),
  (6, .ifCond .eq 29, 3, 2, 21, 0, [], kno),
  (9, .aload_n 0, 1, 0, 0, 0, [], kno),
  (10, .getfield 18, 3, 7, 1, 0, [], kgr0 5 1 1),
  (13, .iconst 3, 1, 0, 0, 3, [], kno),
  (14, .iconst 4, 1, 0, 0, 4, [], kno),
  (15, .iload_n 1, 1, 0, 1, 0, [], kno),
  (16, .invokevirtual 96, 3, 7, 4, 0, [], K_fl_launch),
  (19, .aload_n 0, 1, 0, 0, 0, [], kno),
  (20, .getfield 9, 3, 7, 1, 0, [], kgr0 5 3 60),
  (23, .iload_n 1, 1, 0, 1, 0, [], kno),
  (24, .iaload, 1, 7, 2, 0, [], kai),
  (25, .iconst 0, 1, 0, 0, 0, [], kno),
  (26, .iconst 0, 1, 0, 0, 0, [], kno),
  (27, .invokevirtual 102, 3, 7, 4, 0, [], K_pk_bear),
  (30, .aload_n 0, 1, 0, 0, 0, [], kno),
  (31, .iload_n 1, 1, 0, 1, 0, [], kno),
  (32, .invokevirtual 39, 3, 7, 2, 0, [], K_ac_removeCircuit),
  (35, .return_, 1, 6, 0, 0, [], kno)]
theorem E_ac_closeCircuit (c : mx_C) (m : mx_M) (a1 : Int32)  : rx_ev L_ac_closeCircuit [] 24 L_ac_closeCircuit (c, m) [some (.ref 59), some (.int a1)] [] = rw_v m (ac_closeCircuit c a1) :=
  rx_ite2 (f := rw_v m) (fun _ => rfl) (fun _ => rfl)
theorem S_ac_closeCircuit (c : mx_C) (m : mx_M) (a1 : Int32) (hs : vp_in a1 4) : rx_sf L_ac_closeCircuit [] 24 L_ac_closeCircuit (c, m) [some (.ref 59), some (.int a1)] [] :=
  And.intro rfl (And.intro hs (And.intro (fun h0 => trivial) (fun h0 => And.intro rfl (And.intro rfl (And.intro rfl (And.intro hs (And.intro (fl_launch_pk _ _ _ _) (And.intro (And.intro rfl hs) (trivial)))))))))

theorem og_ac_18_g {p : Program} {l : Launch} {e : Env} {R : Room} {s : State} {m : MethodId} {args : Array Value} {below : List Frame} {meth : Method} {c : Code} {cc : ByteArray} {nL : Nat} {ad : Nat → Nat} {D : va_G} {g : Nat → ClassId} {B : Nat} (X : ox_C p s m args c cc nL "SubscriberLines$Access" D g ad B) : rx_OK p l e R s m args below meth c cc nL ad (mx_W D g ad B s.heap) mx_cs (.getfield 18) 3 1 (kgr0 5 1 1) := ox_gr0 (T := T_5) X rfl (by decide) (by decide) in_5 rfl (al_at 220 (by decide +kernel) rfl)
theorem ok_ac_closeCircuit : rx_okF prog_2_method_12_code 2 none L_ac_closeCircuit 0 L_ac_closeCircuit = true := by decide +kernel
theorem V_ac_closeCircuit {l : Launch} {D : va_G} {g : Nat → ClassId} {ad : Nat → Nat} {B : Nat} (had : mx_A ad B) : rx_V l D g ad B ⟨"SubscriberLines$Access", "closeCircuit", "(I)V"⟩ prog_2_method_12_code 2 none 1 24 K_ac_closeCircuit := by
  intro av x hp
  obtain ⟨a0, a1, rfl⟩ := k_RI_inv hp
  have hp : a0 = 59 ∧ vp_in a1 4 := hp
  have h0 : a0 = 59 := hp.1
  subst h0
  exact rx_met (k := 0) had (by decide) (Nat.le_of_ble_eq_true rfl) ok_ac_closeCircuit rfl rfl 24 (fun p e s m args below meth c X => And.intro (og_ac_9_g X) (And.intro (ox_ai X) (And.intro (og_ac_18_g X) (And.intro (cv_fl_launch X (V_fl_launch had) (al_at 497 (by decide +kernel) rfl) ⟨by decide, by decide⟩) (And.intro (og_ac_9_g X) (And.intro (ox_ai X) (And.intro (cv_pk_bear X (V_pk_bear had) (al_at 498 (by decide +kernel) rfl) ⟨by decide, by decide⟩) (And.intro (cv_ac_removeCircuit X (V_ac_removeCircuit had) (al_at 427 (by decide +kernel) rfl) ⟨by decide, by decide⟩) (trivial))))))))) (S_ac_closeCircuit x.1 x.2 a1 hp.2) (E_ac_closeCircuit x.1 x.2 a1)
abbrev up4 (n : Nat) (v : Int32) : Prop := 0 ≤ v.toInt ∧ v.toInt ≤ 4 ∧ 4 < (n : Int) + v.toInt
theorem up4_in {n : Nat} {v : Int32} (h : v < 4) (hP : up4 n v) : vp_in v 4 := by
  rw [i_lt] at h
  have h : v.toInt < 4 := h
  rw [i_in]
  exact ⟨hP.1, h⟩
theorem up4_1 {n : Nat} {v : Int32} (h : v < 4) (hP : up4 (n + 1) v) : up4 n (v + 1) := by
  rw [i_lt] at h
  have h : v.toInt < 4 := h
  obtain ⟨p1, p2, p3⟩ := hP
  have e : (v + 1).toInt = v.toInt + 1 := i_add (show _ ≤ v.toInt + 1 by omega) (show v.toInt + 1 < _ by omega)
  unfold up4
  rw [e]
  omega
def ac_forget_15 : Nat → mx_C → Int32 → mx_C
  | 0, c, _ => c
  | n + 1, c, v1 =>
    if v1 < 4 then
      let c1 := ac_removeCircuit c v1
      ac_forget_15 n c1 (v1 + 1)
    else
      c
def ac_forget (c : mx_C)  : mx_C :=
  let c1 := en_begin c 62 0
  let c2 := mx_pi c1 59 5 0
  ac_forget_15 (5) c2 0
def K_ac_forget : rx_K mx := k_R (fun a0 c m => (a0 = 59, (ac_forget c, m), none))
def L_ac_forget : List (rx_E mx) := [
  (0, .aload_n 0, 1, 0, 0, 0, [], kno),
  (1, .getfield 27, 3, 7, 1, 0, [], kgr0 5 2 62),
  (4, .iconst 0, 1, 0, 0, 0, [], kno),
  (5, .invokevirtual 31, 3, 7, 2, 0, [], K_en_begin),
  (8, .aload_n 0, 1, 0, 0, 0, [], kno),
  (9, .iconst 0, 1, 0, 0, 0, [], kno),
  (10, .putfield 35, 3, 7, 2, 0, [], kpi 5 5),
  (13, .iconst 0, 1, 0, 0, 0, [], kno),
  (14, .istore_n 1, 1, 0, 1, 0, [], kno),
  (15, .iload_n 1, 1, 0, 1, 0, [], kno),
  (16, .iconst 4, 1, 0, 0, 4, [], kno),
  (17, .if_icmp .ge 14, 3, 2, 17, 0, [], kno),
  (20, .aload_n 0, 1, 0, 0, 0, [], kno),
  (21, .iload_n 1, 1, 0, 1, 0, [], kno),
  (22, .invokevirtual 39, 3, 7, 2, 0, [], K_ac_removeCircuit),
  (25, .iinc 1 1, 3, 0, 1, 1, [], kno),
  (28, .goto (-13), 3, 1, 9, 0, [], kno),
  (31, .return_, 1, 6, 0, 0, [], kno)]
def G_ac_forget (n : Nat) : rx_G := fun x ls st =>
  match ls, st with
  | [some (.ref r0), some (.int v1)], [] => (r0 = 59 ∧ up4 n v1, rw_v x.2 (ac_forget_15 n x.1 v1))
  | _, _ => (False, (x, none))
theorem GI_ac_forget {n : Nat} {x : mx} {ls : rx_L} {st : List Value} (h : (G_ac_forget n x ls st).1) : ∃ (r0 : Nat) (v1 : Int32), ls = [some (.ref r0), some (.int v1)] ∧ st = [] ∧ r0 = 59 ∧ up4 n v1 := by
  unfold G_ac_forget at h
  split at h
  · exact ⟨_, _, rfl, rfl, h⟩
  · exact False.elim h
theorem EH_ac_forget (n : Nat) (c : mx_C) (m : mx_M) (v1 : Int32) : rx_ev L_ac_forget [(15, G_ac_forget n)] 20 (L_ac_forget.drop 9) (c, m) [some (.ref 59), some (.int v1)] [] = rw_v m (ac_forget_15 (n + 1) c v1) :=
  rx_ite2 (f := rw_v m) (fun _ => rfl) (fun _ => rfl)
theorem SH_ac_forget (n : Nat) (c : mx_C) (m : mx_M) (v1 : Int32) (hP : up4 (n + 1) v1) : rx_sf L_ac_forget [(15, G_ac_forget n)] 20 (L_ac_forget.drop 9) (c, m) [some (.ref 59), some (.int v1)] [] :=
  And.intro (fun h0 => And.intro (And.intro rfl (up4_in h0 hP)) (And.intro rfl (up4_1 h0 hP))) (fun h0 => trivial)
theorem E_ac_forget (c : mx_C) (m : mx_M)   : rx_ev L_ac_forget [(15, G_ac_forget (5))] 20 L_ac_forget (c, m) [some (.ref 59), none] [] = rw_v m (ac_forget c) :=
  rfl
theorem S_ac_forget (c : mx_C) (m : mx_M)   : rx_sf L_ac_forget [(15, G_ac_forget (5))] 20 L_ac_forget (c, m) [some (.ref 59), none] [] :=
  And.intro rfl (And.intro rfl (And.intro rfl (And.intro rfl (by decide))))
theorem og_ac_35_p {p : Program} {l : Launch} {e : Env} {R : Room} {s : State} {m : MethodId} {args : Array Value} {below : List Frame} {meth : Method} {c : Code} {cc : ByteArray} {nL : Nat} {ad : Nat → Nat} {D : va_G} {g : Nat → ClassId} {B : Nat} (X : ox_C p s m args c cc nL "SubscriberLines$Access" D g ad B) : rx_OK p l e R s m args below meth c cc nL ad (mx_W D g ad B s.heap) mx_cs (.putfield 35) 3 2 (kpi 5 5) := ox_pi (T := T_5) X rfl (by decide) (by decide) in_5 rfl ty_5 ty_5_ok nm_5 rfl rfl rfl (al_at 225 (by decide +kernel) rfl)
theorem ok_ac_forget : rx_okF prog_2_method_2_code 2 none L_ac_forget 0 L_ac_forget = true := by decide +kernel
theorem O_ac_forget {l : Launch} {D : va_G} {g : Nat → ClassId} {ad : Nat → Nat} {B : Nat} (had : mx_A ad B) {p : Program} {e : Env} {s : State} {m : MethodId} {args : Array Value} {below : List Frame} {meth : Method} {c : Code} (X : ox_C p s m args c prog_2_method_2_code 2 "SubscriberLines$Access" D g ad B) : rx_ops p l e ({ frames := 1, cells := 0, slots := 0, locals := 21 } : Room) s m args below meth c prog_2_method_2_code 2 ad (mx_W D g ad B s.heap) mx_cs L_ac_forget :=
  And.intro (og_ac_27_g X) (And.intro (cv_en_begin X (V_en_begin had) (al_at 423 (by decide +kernel) rfl) ⟨by decide, by decide⟩) (And.intro (og_ac_35_p X) (And.intro (cv_ac_removeCircuit X (V_ac_removeCircuit had) (al_at 427 (by decide +kernel) rfl) ⟨by decide, by decide⟩) (trivial))))
theorem V_ac_forget {l : Launch} {D : va_G} {g : Nat → ClassId} {ad : Nat → Nat} {B : Nat} (had : mx_A ad B) : rx_V l D g ad B ⟨"SubscriberLines$Access", "forget", "()V"⟩ prog_2_method_2_code 2 none 1 21 K_ac_forget := by
  intro av x hp
  obtain ⟨a0, rfl⟩ := k_R_inv hp
  have hp : a0 = 59 := hp
  have h0 : a0 = 59 := hp
  subst h0
  refine rx_metX (k := 1) had (by decide) (Nat.le_of_ble_eq_true rfl) fun p e s m args below meth c X hr hlk => ?_
  refine rx_walk X hr hlk ok_ac_forget (O_ac_forget had X) (cut := [(15, G_ac_forget (5))]) (rx_cc ?_ rx_c0) 20 0 rfl (S_ac_forget x.1 x.2  ) (E_ac_forget x.1 x.2  )
  refine rx_loop (G := G_ac_forget) X hr hlk ok_ac_forget (O_ac_forget had X) rx_c0 20 9 rfl (fun x ls st h => ?_) (fun n x ls st h => ?_) _
  · obtain ⟨r0, v1, -, -, h3⟩ := GI_ac_forget h
    have h4 := h3.2
    omega
  · obtain ⟨r0, v1, rfl, rfl, h3⟩ := GI_ac_forget h
    obtain ⟨rfl, hP⟩ := h3
    exact ⟨SH_ac_forget n x.1 x.2 v1 hP, EH_ac_forget n x.1 x.2 v1⟩
def ac_subscriberOf_2 : Nat → mx_C → Int32 → Int32 → Int32
  | 0, c, _, _ => 0
  | n + 1, c, v1, v2 =>
    if v2 < 4 then
      if v1 = 0 then
        ac_subscriberOf_2 n c v1 (v2 + 1)
      else
        if (c.1 60 (Int32.toNatClampNeg v2)) = v1 then
          v2
        else
          ac_subscriberOf_2 n c v1 (v2 + 1)
    else
      (-1)
def ac_subscriberOf (c : mx_C) (a1 : Int32) : Int32 :=
  ac_subscriberOf_2 (5) c a1 0
def K_ac_subscriberOf : rx_K mx := k_RI (fun a0 a1 c m => (a0 = 59, (c, m), some (.int (ac_subscriberOf c a1))))
def L_ac_subscriberOf : List (rx_E mx) := [
  (0, .iconst 0, 1, 0, 0, 0, [], kno),
  (1, .istore_n 2, 1, 0, 2, 0, [], kno),
  (2, .iload_n 2, 1, 0, 2, 0, [], kno),
  (3, .iconst 4, 1, 0, 0, 4, [], kno),
  (4, .if_icmp .ge 25, 3, 2, 17, 0, [], kno),
  (7, .iload_n 1, 1, 0, 1, 0, [], kno),
  (8, .ifCond .eq 15, 3, 2, 15, 0, [], kno),
  (11, .aload_n 0, 1, 0, 0, 0, [], kno),
  (12, .getfield 9, 3, 7, 1, 0, [], kgr0 5 3 60),
  (15, .iload_n 2, 1, 0, 2, 0, [], kno),
  (16, .iaload, 1, 7, 2, 0, [], kai),
  (17, .iload_n 1, 1, 0, 1, 0, [], kno),
  (18, .if_icmp .ne 5, 3, 2, 15, 0, [], kno),
  (21, .iload_n 2, 1, 0, 2, 0, [], kno),
  (22, .ireturn, 1, 5, 0, 0, [], kno),
  (23, .iinc 2 1, 3, 0, 2, 1, [], kno),
  (26, .goto (-24), 3, 1, 2, 0, [], kno),
  (29, .iconst (-1), 1, 0, 0, (-1), [], kno),
  (30, .ireturn, 1, 5, 0, 0, [], kno)]
def G_ac_subscriberOf (n : Nat) : rx_G := fun x ls st =>
  match ls, st with
  | [some (.ref r0), some (.int v1), some (.int v2)], [] => (r0 = 59 ∧ up4 n v2, rw_p x.1 x.2 (ac_subscriberOf_2 n x.1 v1 v2))
  | _, _ => (False, (x, none))
theorem GI_ac_subscriberOf {n : Nat} {x : mx} {ls : rx_L} {st : List Value} (h : (G_ac_subscriberOf n x ls st).1) : ∃ (r0 : Nat) (v1 : Int32) (v2 : Int32), ls = [some (.ref r0), some (.int v1), some (.int v2)] ∧ st = [] ∧ r0 = 59 ∧ up4 n v2 := by
  unfold G_ac_subscriberOf at h
  split at h
  · exact ⟨_, _, _, rfl, rfl, h⟩
  · exact False.elim h
theorem EH_ac_subscriberOf (n : Nat) (c : mx_C) (m : mx_M) (v1 : Int32) (v2 : Int32) : rx_ev L_ac_subscriberOf [(2, G_ac_subscriberOf n)] 21 (L_ac_subscriberOf.drop 2) (c, m) [some (.ref 59), some (.int v1), some (.int v2)] [] = rw_p c m (ac_subscriberOf_2 (n + 1) c v1 v2) :=
  rx_ite2 (f := rw_p c m) (fun _ => rx_ite2 (f := rw_p c m) (fun _ => rfl) (fun _ => rx_ite2 (f := rw_p c m) (fun _ => rfl) (fun _ => rfl))) (fun _ => rfl)
theorem SH_ac_subscriberOf (n : Nat) (c : mx_C) (m : mx_M) (v1 : Int32) (v2 : Int32) (hP : up4 (n + 1) v2) : rx_sf L_ac_subscriberOf [(2, G_ac_subscriberOf n)] 21 (L_ac_subscriberOf.drop 2) (c, m) [some (.ref 59), some (.int v1), some (.int v2)] [] :=
  And.intro (fun h0 => And.intro (fun h1 => And.intro rfl (up4_1 h0 hP)) (fun h1 => And.intro rfl (And.intro (up4_in h0 hP) (And.intro (fun h2 => trivial) (fun h2 => And.intro rfl (up4_1 h0 hP)))))) (fun h0 => trivial)
theorem E_ac_subscriberOf (c : mx_C) (m : mx_M) (a1 : Int32)  : rx_ev L_ac_subscriberOf [(2, G_ac_subscriberOf (5))] 21 L_ac_subscriberOf (c, m) [some (.ref 59), some (.int a1), none] [] = rw_p c m (ac_subscriberOf c a1) :=
  rfl
theorem S_ac_subscriberOf (c : mx_C) (m : mx_M) (a1 : Int32)  : rx_sf L_ac_subscriberOf [(2, G_ac_subscriberOf (5))] 21 L_ac_subscriberOf (c, m) [some (.ref 59), some (.int a1), none] [] :=
  And.intro rfl (by decide)
theorem ok_ac_subscriberOf : rx_okF prog_2_method_10_code 3 (some .int) L_ac_subscriberOf 0 L_ac_subscriberOf = true := by decide +kernel
theorem O_ac_subscriberOf {l : Launch} {D : va_G} {g : Nat → ClassId} {ad : Nat → Nat} {B : Nat} (had : mx_A ad B) {p : Program} {e : Env} {s : State} {m : MethodId} {args : Array Value} {below : List Frame} {meth : Method} {c : Code} (X : ox_C p s m args c prog_2_method_10_code 3 "SubscriberLines$Access" D g ad B) : rx_ops p l e ({ frames := 0, cells := 0, slots := 0, locals := 0 } : Room) s m args below meth c prog_2_method_10_code 3 ad (mx_W D g ad B s.heap) mx_cs L_ac_subscriberOf :=
  And.intro (og_ac_9_g X) (And.intro (ox_ai X) (trivial))
theorem V_ac_subscriberOf {l : Launch} {D : va_G} {g : Nat → ClassId} {ad : Nat → Nat} {B : Nat} (had : mx_A ad B) : rx_V l D g ad B ⟨"SubscriberLines$Access", "subscriberOf", "(I)I"⟩ prog_2_method_10_code 3 (some .int) 0 0 K_ac_subscriberOf := by
  intro av x hp
  obtain ⟨a0, a1, rfl⟩ := k_RI_inv hp
  have hp : a0 = 59 := hp
  have h0 : a0 = 59 := hp
  subst h0
  refine rx_metX (k := 1) had (by decide) (Nat.le_of_ble_eq_true rfl) fun p e s m args below meth c X hr hlk => ?_
  refine rx_walk X hr hlk ok_ac_subscriberOf (O_ac_subscriberOf had X) (cut := [(2, G_ac_subscriberOf (5))]) (rx_cc ?_ rx_c0) 21 0 rfl (S_ac_subscriberOf x.1 x.2 a1 ) (E_ac_subscriberOf x.1 x.2 a1 )
  refine rx_loop (G := G_ac_subscriberOf) X hr hlk ok_ac_subscriberOf (O_ac_subscriberOf had X) rx_c0 21 2 rfl (fun x ls st h => ?_) (fun n x ls st h => ?_) _
  · obtain ⟨r0, v1, v2, -, -, h3⟩ := GI_ac_subscriberOf h
    have h4 := h3.2
    omega
  · obtain ⟨r0, v1, v2, rfl, rfl, h3⟩ := GI_ac_subscriberOf h
    obtain ⟨rfl, hP⟩ := h3
    exact ⟨SH_ac_subscriberOf n x.1 x.2 v1 v2 hP, EH_ac_subscriberOf n x.1 x.2 v1 v2⟩
theorem ac_subL (c : mx_C) (l : Int32) : ∀ (n : Nat) (v : Int32), up4 n v → ¬ ac_subscriberOf_2 n c l v < 0 → vp_in (ac_subscriberOf_2 n c l v) 4 := by
  intro n
  induction n with
  | zero => intro v hP; omega
  | succ n ih =>
    intro v hP
    unfold ac_subscriberOf_2
    split
    · rename_i h
      split
      · exact ih _ (up4_1 h hP)
      · split
        · intro _; exact up4_in h hP
        · exact ih _ (up4_1 h hP)
    · intro h; exact absurd (by decide) h
theorem ac_sub_in {c : mx_C} {l : Int32} (h : ¬ ac_subscriberOf c l < 0) : vp_in (ac_subscriberOf c l) 4 := ac_subL c l 5 0 (by decide) h
def ac_runTimer_12 : Nat → mx_C → Int32 → mx_C
  | 0, c, _ => c
  | n + 1, c, v1 =>
    if v1 < 4 then
      let c1 := ac_closeCircuit c v1
      ac_runTimer_12 n c1 (v1 + 1)
    else
      if (c.1 62 3) = 0 then
        let c2 := mx_pi c 59 5 0
        c2
      else
        if (en_isEmpty c 62) = 0 then
          let c3 := mx_pi c 59 5 0
          c3
        else
          let c4 := mx_pi c 59 5 ((c.1 59 5) + 1)
          if (c4.1 59 5) = 10 then
            let c5 := en_put c4 62 16 0 0
            let c6 := mx_pi c5 59 5 0
            c6
          else
            c4
def ac_runTimer (c : mx_C)  : mx_C :=
  let q1 := en_breaksAtTimer c 62
  if q1.2 = 0 then
    if (q1.1.1 62 3) = 0 then
      let c2 := mx_pi q1.1 59 5 0
      c2
    else
      if (en_isEmpty q1.1 62) = 0 then
        let c3 := mx_pi q1.1 59 5 0
        c3
      else
        let c4 := mx_pi q1.1 59 5 ((q1.1.1 59 5) + 1)
        if (c4.1 59 5) = 10 then
          let c5 := en_put c4 62 16 0 0
          let c6 := mx_pi c5 59 5 0
          c6
        else
          c4
  else
    ac_runTimer_12 (5) q1.1 0
def K_ac_runTimer : rx_K mx := k_R (fun a0 c m => (a0 = 59, (ac_runTimer c, m), none))
def L_ac_runTimer : List (rx_E mx) := [
  (0, .aload_n 0, 1, 0, 0, 0, [], kno),
  (1, .getfield 27, 3, 7, 1, 0, [], kgr0 5 2 62),
  (4, .invokevirtual 73, 3, 7, 1, 0, [], K_en_breaksAtTimer),
  (7, .ifCond .eq 21, 3, 2, 14, 0, [], kno),
  (10, .iconst 0, 1, 0, 0, 0, [], kno),
  (11, .istore_n 1, 1, 0, 1, 0, [], kno),
  (12, .iload_n 1, 1, 0, 1, 0, [], kno),
  (13, .iconst 4, 1, 0, 0, 4, [], kno),
  (14, .if_icmp .ge 14, 3, 2, 14, 0, [], kno),
  (17, .aload_n 0, 1, 0, 0, 0, [], kno),
  (18, .iload_n 1, 1, 0, 1, 0, [], kno),
  (19, .invokevirtual 77, 3, 7, 2, 0, [], K_ac_closeCircuit),
  (22, .iinc 1 1, 3, 0, 1, 1, [], kno),
  (25, .goto (-13), 3, 1, 6, 0, [], kno),
  (28, .aload_n 0, 1, 0, 0, 0, [], kno),
  (29, .getfield 27, 3, 7, 1, 0, [], kgr0 5 2 62),
  (32, .getfield 80, 3, 7, 1, 0, [], kgi 8 3),
  (35, .ifCond .eq 26, 3, 2, 29, 0, [], kno),
  (38, .aload_n 0, 1, 0, 0, 0, [], kno),
  (39, .getfield 27, 3, 7, 1, 0, [], kgr0 5 2 62),
  (42, .invokevirtual 83, 3, 7, 1, 0, [], K_en_isEmpty),
  (45, .ifCond .eq 16, 3, 2, 29, 0, [], kno),
  (48, .aload_n 0, 1, 0, 0, 0, [], kno),
  (49, .dup, 1, 0, 0, 0, [], kno),
  (50, .getfield 35, 3, 7, 1, 0, [], kgi 5 5),
  (53, .iconst 1, 1, 0, 0, 1, [], kno),
  (54, .iadd, 1, 0, 0, 0, [], kno),
  (55, .putfield 35, 3, 7, 2, 0, [], kpi 5 5),
  (58, .goto 8, 3, 1, 32, 0, [], kno),
  (61, .aload_n 0, 1, 0, 0, 0, [], kno),
  (62, .iconst 0, 1, 0, 0, 0, [], kno),
  (63, .putfield 35, 3, 7, 2, 0, [], kpi 5 5),
  (66, .aload_n 0, 1, 0, 0, 0, [], kno),
  (67, .getfield 35, 3, 7, 1, 0, [], kgi 5 5),
  (70, .bipush 10, 2, 0, 0, 10, [], kno),
  (72, .if_icmp .ne 19, 3, 2, 45, 0, [], kno),
  (75, .aload_n 0, 1, 0, 0, 0, [], kno),
  (76, .getfield 27, 3, 7, 1, 0, [], kgr0 5 2 62),
  (79, .bipush 16, 2, 0, 0, 16, [], kno),
  (81, .iconst 0, 1, 0, 0, 0, [], kno),
  (82, .iconst 0, 1, 0, 0, 0, [], kno),
  (83, .invokevirtual 86, 3, 7, 4, 0, [], K_en_put),
  (86, .aload_n 0, 1, 0, 0, 0, [], kno),
  (87, .iconst 0, 1, 0, 0, 0, [], kno),
  (88, .putfield 35, 3, 7, 2, 0, [], kpi 5 5),
  (91, .return_, 1, 6, 0, 0, [], kno)]
def G_ac_runTimer (n : Nat) : rx_G := fun x ls st =>
  match ls, st with
  | [some (.ref r0), some (.int v1)], [] => (r0 = 59 ∧ up4 n v1, rw_v x.2 (ac_runTimer_12 n x.1 v1))
  | _, _ => (False, (x, none))
theorem GI_ac_runTimer {n : Nat} {x : mx} {ls : rx_L} {st : List Value} (h : (G_ac_runTimer n x ls st).1) : ∃ (r0 : Nat) (v1 : Int32), ls = [some (.ref r0), some (.int v1)] ∧ st = [] ∧ r0 = 59 ∧ up4 n v1 := by
  unfold G_ac_runTimer at h
  split at h
  · exact ⟨_, _, rfl, rfl, h⟩
  · exact False.elim h
theorem EH_ac_runTimer (n : Nat) (c : mx_C) (m : mx_M) (v1 : Int32) : rx_ev L_ac_runTimer [(12, G_ac_runTimer n)] 48 (L_ac_runTimer.drop 6) (c, m) [some (.ref 59), some (.int v1)] [] = rw_v m (ac_runTimer_12 (n + 1) c v1) :=
  rx_ite2 (f := rw_v m) (fun _ => rfl) (fun _ => rx_ite2 (f := rw_v m) (fun _ => rfl) (fun _ => rx_ite2 (f := rw_v m) (fun _ => rfl) (fun _ => rx_ite2 (f := rw_v m) (fun _ => rfl) (fun _ => rfl))))
theorem SH_ac_runTimer (n : Nat) (c : mx_C) (m : mx_M) (v1 : Int32) (hP : up4 (n + 1) v1) : rx_sf L_ac_runTimer [(12, G_ac_runTimer n)] 48 (L_ac_runTimer.drop 6) (c, m) [some (.ref 59), some (.int v1)] [] :=
  And.intro (fun h0 => And.intro (And.intro rfl (up4_in h0 hP)) (And.intro rfl (up4_1 h0 hP))) (fun h0 => And.intro rfl (And.intro rfl (And.intro (fun h1 => And.intro rfl (And.intro rfl (And.intro (fun h => absurd h (by decide : ¬ ((0 : Int32) = 10))) (fun _ => trivial)))) (fun h1 => And.intro rfl (And.intro rfl (And.intro (fun h2 => And.intro rfl (And.intro rfl (And.intro (fun h => absurd h (by decide : ¬ ((0 : Int32) = 10))) (fun _ => trivial)))) (fun h2 => And.intro rfl (And.intro rfl (And.intro rfl (And.intro (fun h3 => And.intro rfl (And.intro rfl (And.intro rfl (trivial)))) (fun h3 => trivial)))))))))))
theorem E_ac_runTimer (c : mx_C) (m : mx_M)   : rx_ev L_ac_runTimer [(12, G_ac_runTimer (5))] 48 L_ac_runTimer (c, m) [some (.ref 59), none] [] = rw_v m (ac_runTimer c) :=
  rx_ite2 (f := rw_v m) (fun _ => rx_ite2 (f := rw_v m) (fun _ => rfl) (fun _ => rx_ite2 (f := rw_v m) (fun _ => rfl) (fun _ => rx_ite2 (f := rw_v m) (fun _ => rfl) (fun _ => rfl)))) (fun _ => rfl)
theorem S_ac_runTimer (c : mx_C) (m : mx_M)   : rx_sf L_ac_runTimer [(12, G_ac_runTimer (5))] 48 L_ac_runTimer (c, m) [some (.ref 59), none] [] :=
  And.intro rfl (And.intro rfl (And.intro (fun h0 => And.intro rfl (And.intro rfl (And.intro (fun h1 => And.intro rfl (And.intro rfl (And.intro (fun h => absurd h (by decide : ¬ ((0 : Int32) = 10))) (fun _ => trivial)))) (fun h1 => And.intro rfl (And.intro rfl (And.intro (fun h2 => And.intro rfl (And.intro rfl (And.intro (fun h => absurd h (by decide : ¬ ((0 : Int32) = 10))) (fun _ => trivial)))) (fun h2 => And.intro rfl (And.intro rfl (And.intro rfl (And.intro (fun h3 => And.intro rfl (And.intro rfl (And.intro rfl (trivial)))) (fun h3 => trivial))))))))))) (fun h0 => And.intro rfl (by decide))))
theorem cv_en_breaksAtTimer {p : Program} {l : Launch} {e : Env} {R : Room} {s : State} {m : MethodId} {args : Array Value} {below : List Frame} {meth : Method} {c : Code} {cc : ByteArray} {nL : Nat} {ad : Nat → Nat} {D : va_G} {g : Nat → ClassId} {B : Nat} {own : String} {idx : Nat} (X : ox_C p s m args c cc nL own D g ad B) (hV : rx_V l D g ad B ⟨"SubscriberLines$End", "breaksAtTimer", "()Z"⟩ prog_3_method_7_code 1 (some .boolean) 2 47 K_en_breaksAtTimer) (hl : Cond.methodLink own idx ⟨"SubscriberLines$End", "breaksAtTimer", "()Z"⟩ ∈ al) (hR : 2 + 1 ≤ R.frames ∧ 8 + (1 + 11) + 47 ≤ R.locals) : rx_OK p l e R s m args below meth c cc nL ad (mx_W D g ad B s.heap) mx_cs (.invokevirtual idx) 3 1 (K_en_breaksAtTimer) :=
  ox_callV (q := 8) (T := T_8) X hV (fun av x h => by obtain ⟨a0, rfl⟩ := k_R_inv h; exact ⟨a0, _, rfl, h⟩) (by decide) rfl hl (al_at 609 (by decide +kernel) rfl) (al_at 610 (by decide +kernel) rfl) (al_at 8 (by decide +kernel) rfl) (al_at 611 (by decide +kernel) rfl) ⟨by decide, by decide, by decide +kernel⟩ hR
theorem cv_ac_closeCircuit {p : Program} {l : Launch} {e : Env} {R : Room} {s : State} {m : MethodId} {args : Array Value} {below : List Frame} {meth : Method} {c : Code} {cc : ByteArray} {nL : Nat} {ad : Nat → Nat} {D : va_G} {g : Nat → ClassId} {B : Nat} {own : String} {idx : Nat} (X : ox_C p s m args c cc nL own D g ad B) (hV : rx_V l D g ad B ⟨"SubscriberLines$Access", "closeCircuit", "(I)V"⟩ prog_2_method_12_code 2 none 1 24 K_ac_closeCircuit) (hl : Cond.methodLink own idx ⟨"SubscriberLines$Access", "closeCircuit", "(I)V"⟩ ∈ al) (hR : 1 + 1 ≤ R.frames ∧ 8 + (2 + 11) + 24 ≤ R.locals) : rx_OK p l e R s m args below meth c cc nL ad (mx_W D g ad B s.heap) mx_cs (.invokevirtual idx) 3 2 (K_ac_closeCircuit) :=
  ox_callV (q := 5) (T := T_5) X hV (fun av x h => by obtain ⟨a0, a1, rfl⟩ := k_RI_inv h; exact ⟨a0, _, rfl, by have h2 : a0 = 59 := h.1; rw [h2]; rfl⟩) (by decide) rfl hl (al_at 495 (by decide +kernel) rfl) (al_pr (y := (⟨"SubscriberLines$Access", "closeCircuit", "(I)V"⟩, _)) 10 rfl) (al_at 7 (by decide +kernel) rfl) (al_at 496 (by decide +kernel) rfl) ⟨by decide, by decide, by decide +kernel⟩ hR
theorem og_ac_80_g {p : Program} {l : Launch} {e : Env} {R : Room} {s : State} {m : MethodId} {args : Array Value} {below : List Frame} {meth : Method} {c : Code} {cc : ByteArray} {nL : Nat} {ad : Nat → Nat} {D : va_G} {g : Nat → ClassId} {B : Nat} (X : ox_C p s m args c cc nL "SubscriberLines$Access" D g ad B) : rx_OK p l e R s m args below meth c cc nL ad (mx_W D g ad B s.heap) mx_cs (.getfield 80) 3 1 (kgi 8 3) := ox_gi (T := T_8) X rfl (by decide) (by decide) in_8 rfl (al_at 186 (by decide +kernel) rfl)
theorem og_ac_35_g {p : Program} {l : Launch} {e : Env} {R : Room} {s : State} {m : MethodId} {args : Array Value} {below : List Frame} {meth : Method} {c : Code} {cc : ByteArray} {nL : Nat} {ad : Nat → Nat} {D : va_G} {g : Nat → ClassId} {B : Nat} (X : ox_C p s m args c cc nL "SubscriberLines$Access" D g ad B) : rx_OK p l e R s m args below meth c cc nL ad (mx_W D g ad B s.heap) mx_cs (.getfield 35) 3 1 (kgi 5 5) := ox_gi (T := T_5) X rfl (by decide) (by decide) in_5 rfl (al_at 225 (by decide +kernel) rfl)
theorem ok_ac_runTimer : rx_okF prog_2_method_5_code 2 none L_ac_runTimer 0 L_ac_runTimer = true := by decide +kernel
theorem O_ac_runTimer {l : Launch} {D : va_G} {g : Nat → ClassId} {ad : Nat → Nat} {B : Nat} (had : mx_A ad B) {p : Program} {e : Env} {s : State} {m : MethodId} {args : Array Value} {below : List Frame} {meth : Method} {c : Code} (X : ox_C p s m args c prog_2_method_5_code 2 "SubscriberLines$Access" D g ad B) : rx_ops p l e ({ frames := 3, cells := 0, slots := 0, locals := 71 } : Room) s m args below meth c prog_2_method_5_code 2 ad (mx_W D g ad B s.heap) mx_cs L_ac_runTimer :=
  And.intro (og_ac_27_g X) (And.intro (cv_en_breaksAtTimer X (V_en_breaksAtTimer had) (al_at 608 (by decide +kernel) rfl) ⟨by decide, by decide⟩) (And.intro (cv_ac_closeCircuit X (V_ac_closeCircuit had) (al_at 493 (by decide +kernel) rfl) ⟨by decide, by decide⟩) (And.intro (og_ac_27_g X) (And.intro (og_ac_80_g X) (And.intro (og_ac_27_g X) (And.intro (cv_en_isEmpty X (V_en_isEmpty had) (al_at 613 (by decide +kernel) rfl) ⟨by decide, by decide⟩) (And.intro (og_ac_35_g X) (And.intro (og_ac_35_p X) (And.intro (og_ac_35_p X) (And.intro (og_ac_35_g X) (And.intro (og_ac_27_g X) (And.intro (cv_en_put X (V_en_put had) (al_at 499 (by decide +kernel) rfl) ⟨by decide, by decide⟩) (And.intro (og_ac_35_p X) (trivial))))))))))))))
theorem V_ac_runTimer {l : Launch} {D : va_G} {g : Nat → ClassId} {ad : Nat → Nat} {B : Nat} (had : mx_A ad B) : rx_V l D g ad B ⟨"SubscriberLines$Access", "runTimer", "()V"⟩ prog_2_method_5_code 2 none 3 71 K_ac_runTimer := by
  intro av x hp
  obtain ⟨a0, rfl⟩ := k_R_inv hp
  have hp : a0 = 59 := hp
  have h0 : a0 = 59 := hp
  subst h0
  refine rx_metX (k := 1) had (by decide) (Nat.le_of_ble_eq_true rfl) fun p e s m args below meth c X hr hlk => ?_
  refine rx_walk X hr hlk ok_ac_runTimer (O_ac_runTimer had X) (cut := [(12, G_ac_runTimer (5))]) (rx_cc ?_ rx_c0) 48 0 rfl (S_ac_runTimer x.1 x.2  ) (E_ac_runTimer x.1 x.2  )
  refine rx_loop (G := G_ac_runTimer) X hr hlk ok_ac_runTimer (O_ac_runTimer had X) rx_c0 48 6 rfl (fun x ls st h => ?_) (fun n x ls st h => ?_) _
  · obtain ⟨r0, v1, -, -, h3⟩ := GI_ac_runTimer h
    have h4 := h3.2
    omega
  · obtain ⟨r0, v1, rfl, rfl, h3⟩ := GI_ac_runTimer h
    obtain ⟨rfl, hP⟩ := h3
    exact ⟨SH_ac_runTimer n x.1 x.2 v1 hP, EH_ac_runTimer n x.1 x.2 v1⟩
def ac_join (c : mx_C) (a1 : Int32) : mx_C :=
  let c1 := ac_takeDown c a1
  let c2 := mx_pi c1 59 6 ((c1.1 59 6) + 1)
  let c3 := mx_pi c2 60 (Int32.toNatClampNeg a1) (c2.1 59 6)
  let q4 := fl_launch c3 2 4 a1
  let c5 := pk_bear q4.1 q4.2 (q4.1.1 59 6) 0 0
  if (c5.1 62 3) = 0 then
    let c6 := mx_pi c5 59 7 ((c5.1 59 7) + 1)
    let c7 := en_begin c6 62 (c6.1 59 7)
    let c8 := mx_pi c7 59 5 0
    let c9 := en_put c8 62 12 0 0
    let c10 := en_put c9 62 13 (c9.1 59 6) 0
    c10
  else
    let c11 := en_put c5 62 13 (c5.1 59 6) 0
    c11
def K_ac_join : rx_K mx := k_RI (fun a0 a1 c m => (a0 = 59 ∧ vp_in a1 4, (ac_join c a1, m), none))
def L_ac_join : List (rx_E mx) := [
  (0, .aload_n 0, 1, 0, 0, 0, [], kno),
  (1, .iload_n 1, 1, 0, 1, 0, [], kno),
  (2, .invokevirtual 90, 3, 7, 2, 0, [], K_ac_takeDown),
  (5, .aload_n 0, 1, 0, 0, 0, [], kno),
  (6, .dup, 1, 0, 0, 0, [], kno),
  (7, .getfield 93, 3, 7, 1, 0, [], kgi 5 6),
  (10, .iconst 1, 1, 0, 0, 1, [], kno),
  (11, .iadd, 1, 0, 0, 0, [], kno),
  (12, .putfield 93, 3, 7, 2, 0, [], kpi 5 6),
  (15, .aload_n 0, 1, 0, 0, 0, [], kno),
  (16, .getfield 9, 3, 7, 1, 0, [], kgr0 5 3 60),
  (19, .iload_n 1, 1, 0, 1, 0, [], kno),
  (20, .aload_n 0, 1, 0, 0, 0, [], kno),
  (21, .getfield 93, 3, 7, 1, 0, [], kgi 5 6),
  (24, .iastore, 1, 7, 3, 0, [], kpa),
  (25, .aload_n 0, 1, 0, 0, 0, [], kno),
  (26, .getfield 18, 3, 7, 1, 0, [], kgr0 5 1 1),
  (29, .iconst 2, 1, 0, 0, 2, [], kno),
  (30, .iconst 4, 1, 0, 0, 4, [], kno),
  (31, .iload_n 1, 1, 0, 1, 0, [], kno),
  (32, .invokevirtual 96, 3, 7, 4, 0, [], K_fl_launch),
  (35, .aload_n 0, 1, 0, 0, 0, [], kno),
  (36, .getfield 93, 3, 7, 1, 0, [], kgi 5 6),
  (39, .iconst 0, 1, 0, 0, 0, [], kno),
  (40, .iconst 0, 1, 0, 0, 0, [], kno),
  (41, .invokevirtual 102, 3, 7, 4, 0, [], K_pk_bear),
  (44, .aload_n 0, 1, 0, 0, 0, [], kno),
  (45, .getfield 27, 3, 7, 1, 0, [], kgr0 5 2 62),
  (48, .getfield 80, 3, 7, 1, 0, [], kgi 8 3),
  (51, .ifCond .ne 40, 3, 2, 50, 0, [], kno),
  (54, .aload_n 0, 1, 0, 0, 0, [], kno),
  (55, .dup, 1, 0, 0, 0, [], kno),
  (56, .getfield 105, 3, 7, 1, 0, [], kgi 5 7),
  (59, .iconst 1, 1, 0, 0, 1, [], kno),
  (60, .iadd, 1, 0, 0, 0, [], kno),
  (61, .putfield 105, 3, 7, 2, 0, [], kpi 5 7),
  (64, .aload_n 0, 1, 0, 0, 0, [], kno),
  (65, .getfield 27, 3, 7, 1, 0, [], kgr0 5 2 62),
  (68, .aload_n 0, 1, 0, 0, 0, [], kno),
  (69, .getfield 105, 3, 7, 1, 0, [], kgi 5 7),
  (72, .invokevirtual 31, 3, 7, 2, 0, [], K_en_begin),
  (75, .aload_n 0, 1, 0, 0, 0, [], kno),
  (76, .iconst 0, 1, 0, 0, 0, [], kno),
  (77, .putfield 35, 3, 7, 2, 0, [], kpi 5 5),
  (80, .aload_n 0, 1, 0, 0, 0, [], kno),
  (81, .getfield 27, 3, 7, 1, 0, [], kgr0 5 2 62),
  (84, .bipush 12, 2, 0, 0, 12, [], kno),
  (86, .iconst 0, 1, 0, 0, 0, [], kno),
  (87, .iconst 0, 1, 0, 0, 0, [], kno),
  (88, .invokevirtual 86, 3, 7, 4, 0, [], K_en_put),
  (91, .aload_n 0, 1, 0, 0, 0, [], kno),
  (92, .getfield 27, 3, 7, 1, 0, [], kgr0 5 2 62),
  (95, .bipush 13, 2, 0, 0, 13, [], kno),
  (97, .aload_n 0, 1, 0, 0, 0, [], kno),
  (98, .getfield 93, 3, 7, 1, 0, [], kgi 5 6),
  (101, .iconst 0, 1, 0, 0, 0, [], kno),
  (102, .invokevirtual 86, 3, 7, 4, 0, [], K_en_put),
  (105, .return_, 1, 6, 0, 0, [], kno)]
theorem E_ac_join (c : mx_C) (m : mx_M) (a1 : Int32)  : rx_ev L_ac_join [] 60 L_ac_join (c, m) [some (.ref 59), some (.int a1)] [] = rw_v m (ac_join c a1) :=
  rx_ite2 (f := rw_v m) (fun _ => rfl) (fun _ => rfl)
theorem S_ac_join (c : mx_C) (m : mx_M) (a1 : Int32) (hs : vp_in a1 4) : rx_sf L_ac_join [] 60 L_ac_join (c, m) [some (.ref 59), some (.int a1)] [] :=
  And.intro (And.intro rfl hs) (And.intro rfl (And.intro rfl (And.intro rfl (And.intro rfl (And.intro hs (And.intro rfl (And.intro rfl (And.intro rfl (And.intro (fl_launch_pk _ _ _ _) (And.intro rfl (And.intro rfl (And.intro (fun h0 => And.intro rfl (And.intro rfl (And.intro rfl (And.intro rfl (And.intro rfl (And.intro rfl (And.intro rfl (And.intro rfl (And.intro rfl (And.intro rfl (And.intro rfl (trivial)))))))))))) (fun h0 => And.intro rfl (And.intro rfl (And.intro rfl (trivial))))))))))))))))

theorem cv_ac_takeDown {p : Program} {l : Launch} {e : Env} {R : Room} {s : State} {m : MethodId} {args : Array Value} {below : List Frame} {meth : Method} {c : Code} {cc : ByteArray} {nL : Nat} {ad : Nat → Nat} {D : va_G} {g : Nat → ClassId} {B : Nat} {own : String} {idx : Nat} (X : ox_C p s m args c cc nL own D g ad B) (hV : rx_V l D g ad B ⟨"SubscriberLines$Access", "takeDown", "(I)V"⟩ prog_2_method_11_code 3 none 3 71 K_ac_takeDown) (hl : Cond.methodLink own idx ⟨"SubscriberLines$Access", "takeDown", "(I)V"⟩ ∈ al) (hR : 3 + 1 ≤ R.frames ∧ 8 + (3 + 11) + 71 ≤ R.locals) : rx_OK p l e R s m args below meth c cc nL ad (mx_W D g ad B s.heap) mx_cs (.invokevirtual idx) 3 2 (K_ac_takeDown) :=
  ox_callV (q := 5) (T := T_5) X hV (fun av x h => by obtain ⟨a0, a1, rfl⟩ := k_RI_inv h; exact ⟨a0, _, rfl, by have h2 : a0 = 59 := h.1; rw [h2]; rfl⟩) (by decide) rfl hl (al_at 518 (by decide +kernel) rfl) (al_pr (y := (⟨"SubscriberLines$Access", "takeDown", "(I)V"⟩, _)) 13 rfl) (al_at 7 (by decide +kernel) rfl) (al_at 519 (by decide +kernel) rfl) ⟨by decide, by decide, by decide +kernel⟩ hR
theorem og_ac_93_g {p : Program} {l : Launch} {e : Env} {R : Room} {s : State} {m : MethodId} {args : Array Value} {below : List Frame} {meth : Method} {c : Code} {cc : ByteArray} {nL : Nat} {ad : Nat → Nat} {D : va_G} {g : Nat → ClassId} {B : Nat} (X : ox_C p s m args c cc nL "SubscriberLines$Access" D g ad B) : rx_OK p l e R s m args below meth c cc nL ad (mx_W D g ad B s.heap) mx_cs (.getfield 93) 3 1 (kgi 5 6) := ox_gi (T := T_5) X rfl (by decide) (by decide) in_5 rfl (al_at 226 (by decide +kernel) rfl)
theorem og_ac_93_p {p : Program} {l : Launch} {e : Env} {R : Room} {s : State} {m : MethodId} {args : Array Value} {below : List Frame} {meth : Method} {c : Code} {cc : ByteArray} {nL : Nat} {ad : Nat → Nat} {D : va_G} {g : Nat → ClassId} {B : Nat} (X : ox_C p s m args c cc nL "SubscriberLines$Access" D g ad B) : rx_OK p l e R s m args below meth c cc nL ad (mx_W D g ad B s.heap) mx_cs (.putfield 93) 3 2 (kpi 5 6) := ox_pi (T := T_5) X rfl (by decide) (by decide) in_5 rfl ty_5 ty_5_ok nm_5 rfl rfl rfl (al_at 226 (by decide +kernel) rfl)
theorem og_ac_105_g {p : Program} {l : Launch} {e : Env} {R : Room} {s : State} {m : MethodId} {args : Array Value} {below : List Frame} {meth : Method} {c : Code} {cc : ByteArray} {nL : Nat} {ad : Nat → Nat} {D : va_G} {g : Nat → ClassId} {B : Nat} (X : ox_C p s m args c cc nL "SubscriberLines$Access" D g ad B) : rx_OK p l e R s m args below meth c cc nL ad (mx_W D g ad B s.heap) mx_cs (.getfield 105) 3 1 (kgi 5 7) := ox_gi (T := T_5) X rfl (by decide) (by decide) in_5 rfl (al_at 227 (by decide +kernel) rfl)
theorem og_ac_105_p {p : Program} {l : Launch} {e : Env} {R : Room} {s : State} {m : MethodId} {args : Array Value} {below : List Frame} {meth : Method} {c : Code} {cc : ByteArray} {nL : Nat} {ad : Nat → Nat} {D : va_G} {g : Nat → ClassId} {B : Nat} (X : ox_C p s m args c cc nL "SubscriberLines$Access" D g ad B) : rx_OK p l e R s m args below meth c cc nL ad (mx_W D g ad B s.heap) mx_cs (.putfield 105) 3 2 (kpi 5 7) := ox_pi (T := T_5) X rfl (by decide) (by decide) in_5 rfl ty_5 ty_5_ok nm_5 rfl rfl rfl (al_at 227 (by decide +kernel) rfl)
theorem ok_ac_join : rx_okF prog_2_method_6_code 2 none L_ac_join 0 L_ac_join = true := by decide +kernel
theorem V_ac_join {l : Launch} {D : va_G} {g : Nat → ClassId} {ad : Nat → Nat} {B : Nat} (had : mx_A ad B) : rx_V l D g ad B ⟨"SubscriberLines$Access", "join", "(I)V"⟩ prog_2_method_6_code 2 none 4 93 K_ac_join := by
  intro av x hp
  obtain ⟨a0, a1, rfl⟩ := k_RI_inv hp
  have hp : a0 = 59 ∧ vp_in a1 4 := hp
  have h0 : a0 = 59 := hp.1
  subst h0
  exact rx_met (k := 0) had (by decide) (Nat.le_of_ble_eq_true rfl) ok_ac_join rfl rfl 60 (fun p e s m args below meth c X => And.intro (cv_ac_takeDown X (V_ac_takeDown had) (al_at 516 (by decide +kernel) rfl) ⟨by decide, by decide⟩) (And.intro (og_ac_93_g X) (And.intro (og_ac_93_p X) (And.intro (og_ac_9_g X) (And.intro (og_ac_93_g X) (And.intro (ox_pa X) (And.intro (og_ac_18_g X) (And.intro (cv_fl_launch X (V_fl_launch had) (al_at 497 (by decide +kernel) rfl) ⟨by decide, by decide⟩) (And.intro (og_ac_93_g X) (And.intro (cv_pk_bear X (V_pk_bear had) (al_at 498 (by decide +kernel) rfl) ⟨by decide, by decide⟩) (And.intro (og_ac_27_g X) (And.intro (og_ac_80_g X) (And.intro (og_ac_105_g X) (And.intro (og_ac_105_p X) (And.intro (og_ac_27_g X) (And.intro (og_ac_105_g X) (And.intro (cv_en_begin X (V_en_begin had) (al_at 423 (by decide +kernel) rfl) ⟨by decide, by decide⟩) (And.intro (og_ac_35_p X) (And.intro (og_ac_27_g X) (And.intro (cv_en_put X (V_en_put had) (al_at 499 (by decide +kernel) rfl) ⟨by decide, by decide⟩) (And.intro (og_ac_27_g X) (And.intro (og_ac_93_g X) (And.intro (cv_en_put X (V_en_put had) (al_at 499 (by decide +kernel) rfl) ⟨by decide, by decide⟩) (trivial)))))))))))))))))))))))) (S_ac_join x.1 x.2 a1 hp.2) (E_ac_join x.1 x.2 a1)
/-- a packet that no sending takes: none of the places that a sending may take holds it -/
def pk_safe (c : mx_C) (p : Nat) : Prop := ¬ p = 3 ∧ ∀ j : Nat, j < 40 → ¬ 4 + (c.2.1 j).val = p
theorem fl_launch_cell (c : mx_C) (k a b : Int32) {i : Nat} (h3 : ¬ i = 3) (h : ∀ j : Nat, j < 40 → ¬ 4 + (c.2.1 j).val = i) : (fl_launch c k a b).1.1 i = c.1 i := by
  unfold fl_launch
  split
  · rename_i hc
    have hc2 : c.2.2.2.1.val < 40 := by
      rw [i_lt, i_of _ (by omega)] at hc
      have hc : (c.2.2.2.1.val : Int) < 40 := hc
      omega
    have e : Int32.toNatClampNeg (Int32.ofNat c.2.2.2.1.val) = c.2.2.2.1.val := Int32.toNatClampNeg_ofNat_of_lt (by omega)
    have hn := h _ hc2
    simp only [mx_pi, mx_pf, e]
    repeat rw [mx_up_row _ _ _ _ (fun q => hn q.symm)]
  · simp only [mx_pi]
    repeat rw [mx_up_row _ _ _ _ h3]
def ac_rcP (c : mx_C) (p : Nat) : Prop := vp_in (c.1 p 1) 4 ∧ pk_safe c p
theorem ac_rc1 {c : mx_C} {p : Nat} (h : ac_rcP c p) (k a b : Int32) : vp_in ((fl_launch c k a b).1.1 p 1) 4 := by
  rw [fl_launch_cell c k a b h.2.1 h.2.2]
  exact h.1
def ac_reP (c : mx_C) (p : Nat) : Prop := c.1 p 0 < 12 → ¬ c.1 p 1 = 5 → ac_rcP c p
def ac_receiveOnCircuit (c : mx_C) (a1 : Nat) : mx_C :=
  if (c.1 a1 0) = 3 then
    let c1 := ac_takeDown c (c.1 a1 1)
    c1
  else
    if (c.1 61 (Int32.toNatClampNeg (c.1 a1 1))) = 0 then
      c
    else
      let q2 := fl_launch c (c.1 a1 0) 4 5
      let c3 := pk_bear q2.1 q2.2 (q2.1.1 61 (Int32.toNatClampNeg (q2.1.1 a1 1))) (q2.1.1 a1 4) (q2.1.1 a1 5)
      c3
def K_ac_receiveOnCircuit : rx_K mx := k_RR (fun a0 a1 c m => (a0 = 59 ∧ mx_kl a1 = 2 ∧ ac_rcP c a1, (ac_receiveOnCircuit c a1, m), none))
def L_ac_receiveOnCircuit : List (rx_E mx) := [
  (0, .aload_n 1, 1, 0, 1, 0, [], kno),
  (1, .getfield 42, 3, 7, 1, 0, [], kgi 2 0),
  (4, .iconst 3, 1, 0, 0, 3, [], kno),
  (5, .if_icmp .ne 14, 3, 2, 9, 0, [], kno),
  (8, .aload_n 0, 1, 0, 0, 0, [], kno),
  (9, .aload_n 1, 1, 0, 1, 0, [], kno),
  (10, .getfield 58, 3, 7, 1, 0, [], kgi 2 1),
  (13, .invokevirtual 90, 3, 7, 2, 0, [], K_ac_takeDown),
  (16, .goto 48, 3, 1, 32, 0, [], kno),
  (19, .aload_n 0, 1, 0, 0, 0, [], kno),
  (20, .getfield 15, 3, 7, 1, 0, [], kgr0 5 4 61),
  (23, .aload_n 1, 1, 0, 1, 0, [], kno),
  (24, .getfield 58, 3, 7, 1, 0, [], kgi 2 1),
  (27, .iaload, 1, 7, 2, 0, [], kai),
  (28, .ifCond .eq 36, 3, 2, 32, 0, [], kno),
  (31, .aload_n 0, 1, 0, 0, 0, [], kno),
  (32, .getfield 18, 3, 7, 1, 0, [], kgr0 5 1 1),
  (35, .aload_n 1, 1, 0, 1, 0, [], kno),
  (36, .getfield 42, 3, 7, 1, 0, [], kgi 2 0),
  (39, .iconst 4, 1, 0, 0, 4, [], kno),
  (40, .iconst 5, 1, 0, 0, 5, [], kno),
  (41, .invokevirtual 96, 3, 7, 4, 0, [], K_fl_launch),
  (44, .aload_n 0, 1, 0, 0, 0, [], kno),
  (45, .getfield 15, 3, 7, 1, 0, [], kgr0 5 4 61),
  (48, .aload_n 1, 1, 0, 1, 0, [], kno),
  (49, .getfield 58, 3, 7, 1, 0, [], kgi 2 1),
  (52, .iaload, 1, 7, 2, 0, [], kai),
  (53, .aload_n 1, 1, 0, 1, 0, [], kno),
  (54, .getfield 108, 3, 7, 1, 0, [], kgi 2 4),
  (57, .aload_n 1, 1, 0, 1, 0, [], kno),
  (58, .getfield 111, 3, 7, 1, 0, [], kgi 2 5),
  (61, .invokevirtual 102, 3, 7, 4, 0, [], K_pk_bear),
  (64, .return_, 1, 6, 0, 0, [], kno)]
theorem E_ac_receiveOnCircuit (c : mx_C) (m : mx_M) (a1 : Nat)  : rx_ev L_ac_receiveOnCircuit [] 35 L_ac_receiveOnCircuit (c, m) [some (.ref 59), some (.ref a1)] [] = rw_v m (ac_receiveOnCircuit c a1) :=
  rx_ite2 (f := rw_v m) (fun _ => rfl) (fun _ => rx_ite2 (f := rw_v m) (fun _ => rfl) (fun _ => rfl))
theorem S_ac_receiveOnCircuit (c : mx_C) (m : mx_M) (a1 : Nat) (ha1 : mx_kl a1 = 2) (hr : ac_rcP c a1) : rx_sf L_ac_receiveOnCircuit [] 35 L_ac_receiveOnCircuit (c, m) [some (.ref 59), some (.ref a1)] [] :=
  And.intro ha1 (And.intro (fun h0 => And.intro ha1 (And.intro (And.intro rfl hr.1) (trivial))) (fun h0 => And.intro rfl (And.intro ha1 (And.intro hr.1 (And.intro (fun h1 => trivial) (fun h1 => And.intro rfl (And.intro ha1 (And.intro rfl (And.intro rfl (And.intro ha1 (And.intro (ac_rc1 hr _ _ _) (And.intro ha1 (And.intro ha1 (And.intro (fl_launch_pk _ _ _ _) (trivial)))))))))))))))

theorem og_ac_42_g {p : Program} {l : Launch} {e : Env} {R : Room} {s : State} {m : MethodId} {args : Array Value} {below : List Frame} {meth : Method} {c : Code} {cc : ByteArray} {nL : Nat} {ad : Nat → Nat} {D : va_G} {g : Nat → ClassId} {B : Nat} (X : ox_C p s m args c cc nL "SubscriberLines$Access" D g ad B) : rx_OK p l e R s m args below meth c cc nL ad (mx_W D g ad B s.heap) mx_cs (.getfield 42) 3 1 (kgi 2 0) := ox_gi (T := T_2) X rfl (by decide) (by decide) in_2 rfl (al_at 35 (by decide +kernel) rfl)
theorem og_ac_58_g {p : Program} {l : Launch} {e : Env} {R : Room} {s : State} {m : MethodId} {args : Array Value} {below : List Frame} {meth : Method} {c : Code} {cc : ByteArray} {nL : Nat} {ad : Nat → Nat} {D : va_G} {g : Nat → ClassId} {B : Nat} (X : ox_C p s m args c cc nL "SubscriberLines$Access" D g ad B) : rx_OK p l e R s m args below meth c cc nL ad (mx_W D g ad B s.heap) mx_cs (.getfield 58) 3 1 (kgi 2 1) := ox_gi (T := T_2) X rfl (by decide) (by decide) in_2 rfl (al_at 41 (by decide +kernel) rfl)
theorem og_ac_108_g {p : Program} {l : Launch} {e : Env} {R : Room} {s : State} {m : MethodId} {args : Array Value} {below : List Frame} {meth : Method} {c : Code} {cc : ByteArray} {nL : Nat} {ad : Nat → Nat} {D : va_G} {g : Nat → ClassId} {B : Nat} (X : ox_C p s m args c cc nL "SubscriberLines$Access" D g ad B) : rx_OK p l e R s m args below meth c cc nL ad (mx_W D g ad B s.heap) mx_cs (.getfield 108) 3 1 (kgi 2 4) := ox_gi (T := T_2) X rfl (by decide) (by decide) in_2 rfl (al_at 53 (by decide +kernel) rfl)
theorem og_ac_111_g {p : Program} {l : Launch} {e : Env} {R : Room} {s : State} {m : MethodId} {args : Array Value} {below : List Frame} {meth : Method} {c : Code} {cc : ByteArray} {nL : Nat} {ad : Nat → Nat} {D : va_G} {g : Nat → ClassId} {B : Nat} (X : ox_C p s m args c cc nL "SubscriberLines$Access" D g ad B) : rx_OK p l e R s m args below meth c cc nL ad (mx_W D g ad B s.heap) mx_cs (.getfield 111) 3 1 (kgi 2 5) := ox_gi (T := T_2) X rfl (by decide) (by decide) in_2 rfl (al_at 58 (by decide +kernel) rfl)
theorem ok_ac_receiveOnCircuit : rx_okF prog_2_method_7_code 2 none L_ac_receiveOnCircuit 0 L_ac_receiveOnCircuit = true := by decide +kernel
theorem V_ac_receiveOnCircuit {l : Launch} {D : va_G} {g : Nat → ClassId} {ad : Nat → Nat} {B : Nat} (had : mx_A ad B) : rx_V l D g ad B ⟨"SubscriberLines$Access", "receiveOnCircuit", "(LSubscriberLines$Packet;)V"⟩ prog_2_method_7_code 2 none 4 93 K_ac_receiveOnCircuit := by
  intro av x hp
  obtain ⟨a0, a1, rfl⟩ := k_RR_inv hp
  have hp : a0 = 59 ∧ mx_kl a1 = 2 ∧ ac_rcP x.1 a1 := hp
  have h0 : a0 = 59 := hp.1
  subst h0
  exact rx_met (k := 0) had (by decide) (Nat.le_of_ble_eq_true rfl) ok_ac_receiveOnCircuit rfl rfl 35 (fun p e s m args below meth c X => And.intro (og_ac_42_g X) (And.intro (og_ac_58_g X) (And.intro (cv_ac_takeDown X (V_ac_takeDown had) (al_at 516 (by decide +kernel) rfl) ⟨by decide, by decide⟩) (And.intro (og_ac_15_g X) (And.intro (og_ac_58_g X) (And.intro (ox_ai X) (And.intro (og_ac_18_g X) (And.intro (og_ac_42_g X) (And.intro (cv_fl_launch X (V_fl_launch had) (al_at 497 (by decide +kernel) rfl) ⟨by decide, by decide⟩) (And.intro (og_ac_15_g X) (And.intro (og_ac_58_g X) (And.intro (ox_ai X) (And.intro (og_ac_108_g X) (And.intro (og_ac_111_g X) (And.intro (cv_pk_bear X (V_pk_bear had) (al_at 498 (by decide +kernel) rfl) ⟨by decide, by decide⟩) (trivial)))))))))))))))) (S_ac_receiveOnCircuit x.1 x.2 a1 hp.2.1 hp.2.2) (E_ac_receiveOnCircuit x.1 x.2 a1)
def ac_passToSubscriber (c : mx_C) (a1 : Nat) : mx_C :=
  if (ac_subscriberOf c (c.1 a1 3)) < 0 then
    c
  else
    let q1 := fl_launch c (c.1 a1 0) 4 (ac_subscriberOf c (c.1 a1 3))
    let c2 := pk_bear q1.1 q1.2 (q1.1.1 a1 3) (q1.1.1 a1 4) (q1.1.1 a1 5)
    c2
def K_ac_passToSubscriber : rx_K mx := k_RR (fun a0 a1 c m => (a0 = 59 ∧ mx_kl a1 = 2, (ac_passToSubscriber c a1, m), none))
def L_ac_passToSubscriber : List (rx_E mx) := [
  (0, .aload_n 0, 1, 0, 0, 0, [], kno),
  (1, .aload_n 1, 1, 0, 1, 0, [], kno),
  (2, .getfield 67, 3, 7, 1, 0, [], kgi 2 3),
  (5, .invokevirtual 114, 3, 7, 2, 0, [], K_ac_subscriberOf),
  (8, .istore_n 2, 1, 0, 2, 0, [], kno),
  (9, .iload_n 2, 1, 0, 2, 0, [], kno),
  (10, .ifCond .lt 31, 3, 2, 21, 0, [], kno),
  (13, .aload_n 0, 1, 0, 0, 0, [], kno),
  (14, .getfield 18, 3, 7, 1, 0, [], kgr0 5 1 1),
  (17, .aload_n 1, 1, 0, 1, 0, [], kno),
  (18, .getfield 42, 3, 7, 1, 0, [], kgi 2 0),
  (21, .iconst 4, 1, 0, 0, 4, [], kno),
  (22, .iload_n 2, 1, 0, 2, 0, [], kno),
  (23, .invokevirtual 96, 3, 7, 4, 0, [], K_fl_launch),
  (26, .aload_n 1, 1, 0, 1, 0, [], kno),
  (27, .getfield 67, 3, 7, 1, 0, [], kgi 2 3),
  (30, .aload_n 1, 1, 0, 1, 0, [], kno),
  (31, .getfield 108, 3, 7, 1, 0, [], kgi 2 4),
  (34, .aload_n 1, 1, 0, 1, 0, [], kno),
  (35, .getfield 111, 3, 7, 1, 0, [], kgi 2 5),
  (38, .invokevirtual 102, 3, 7, 4, 0, [], K_pk_bear),
  (41, .return_, 1, 6, 0, 0, [], kno)]
theorem E_ac_passToSubscriber (c : mx_C) (m : mx_M) (a1 : Nat)  : rx_ev L_ac_passToSubscriber [] 24 L_ac_passToSubscriber (c, m) [some (.ref 59), some (.ref a1), none] [] = rw_v m (ac_passToSubscriber c a1) :=
  rx_ite2 (f := rw_v m) (fun _ => rfl) (fun _ => rfl)
theorem S_ac_passToSubscriber (c : mx_C) (m : mx_M) (a1 : Nat) (ha1 : mx_kl a1 = 2) : rx_sf L_ac_passToSubscriber [] 24 L_ac_passToSubscriber (c, m) [some (.ref 59), some (.ref a1), none] [] :=
  And.intro ha1 (And.intro rfl (And.intro (fun h0 => trivial) (fun h0 => And.intro rfl (And.intro ha1 (And.intro rfl (And.intro ha1 (And.intro ha1 (And.intro ha1 (And.intro (fl_launch_pk _ _ _ _) (trivial))))))))))

theorem og_ac_67_g {p : Program} {l : Launch} {e : Env} {R : Room} {s : State} {m : MethodId} {args : Array Value} {below : List Frame} {meth : Method} {c : Code} {cc : ByteArray} {nL : Nat} {ad : Nat → Nat} {D : va_G} {g : Nat → ClassId} {B : Nat} (X : ox_C p s m args c cc nL "SubscriberLines$Access" D g ad B) : rx_OK p l e R s m args below meth c cc nL ad (mx_W D g ad B s.heap) mx_cs (.getfield 67) 3 1 (kgi 2 3) := ox_gi (T := T_2) X rfl (by decide) (by decide) in_2 rfl (al_at 48 (by decide +kernel) rfl)
theorem cv_ac_subscriberOf {p : Program} {l : Launch} {e : Env} {R : Room} {s : State} {m : MethodId} {args : Array Value} {below : List Frame} {meth : Method} {c : Code} {cc : ByteArray} {nL : Nat} {ad : Nat → Nat} {D : va_G} {g : Nat → ClassId} {B : Nat} {own : String} {idx : Nat} (X : ox_C p s m args c cc nL own D g ad B) (hV : rx_V l D g ad B ⟨"SubscriberLines$Access", "subscriberOf", "(I)I"⟩ prog_2_method_10_code 3 (some .int) 0 0 K_ac_subscriberOf) (hl : Cond.methodLink own idx ⟨"SubscriberLines$Access", "subscriberOf", "(I)I"⟩ ∈ al) (hR : 0 + 1 ≤ R.frames ∧ 8 + (3 + 11) + 0 ≤ R.locals) : rx_OK p l e R s m args below meth c cc nL ad (mx_W D g ad B s.heap) mx_cs (.invokevirtual idx) 3 2 (K_ac_subscriberOf) :=
  ox_callV (q := 5) (T := T_5) X hV (fun av x h => by obtain ⟨a0, a1, rfl⟩ := k_RI_inv h; exact ⟨a0, _, rfl, by have h2 : a0 = 59 := h; rw [h2]; rfl⟩) (by decide) rfl hl (al_at 491 (by decide +kernel) rfl) (al_pr (y := (⟨"SubscriberLines$Access", "subscriberOf", "(I)I"⟩, _)) 9 rfl) (al_at 7 (by decide +kernel) rfl) (al_at 492 (by decide +kernel) rfl) ⟨by decide, by decide, by decide +kernel⟩ hR
theorem ok_ac_passToSubscriber : rx_okF prog_2_method_8_code 3 none L_ac_passToSubscriber 0 L_ac_passToSubscriber = true := by decide +kernel
theorem V_ac_passToSubscriber {l : Launch} {D : va_G} {g : Nat → ClassId} {ad : Nat → Nat} {B : Nat} (had : mx_A ad B) : rx_V l D g ad B ⟨"SubscriberLines$Access", "passToSubscriber", "(LSubscriberLines$Packet;)V"⟩ prog_2_method_8_code 3 none 1 24 K_ac_passToSubscriber := by
  intro av x hp
  obtain ⟨a0, a1, rfl⟩ := k_RR_inv hp
  have hp : a0 = 59 ∧ mx_kl a1 = 2 := hp
  have h0 : a0 = 59 := hp.1
  subst h0
  exact rx_met (k := 1) had (by decide) (Nat.le_of_ble_eq_true rfl) ok_ac_passToSubscriber rfl rfl 24 (fun p e s m args below meth c X => And.intro (og_ac_67_g X) (And.intro (cv_ac_subscriberOf X (V_ac_subscriberOf had) (al_at 489 (by decide +kernel) rfl) ⟨by decide, by decide⟩) (And.intro (og_ac_18_g X) (And.intro (og_ac_42_g X) (And.intro (cv_fl_launch X (V_fl_launch had) (al_at 497 (by decide +kernel) rfl) ⟨by decide, by decide⟩) (And.intro (og_ac_67_g X) (And.intro (og_ac_108_g X) (And.intro (og_ac_111_g X) (And.intro (cv_pk_bear X (V_pk_bear had) (al_at 498 (by decide +kernel) rfl) ⟨by decide, by decide⟩) (trivial)))))))))) (S_ac_passToSubscriber x.1 x.2 a1 hp.2) (E_ac_passToSubscriber x.1 x.2 a1)
def ac_perform (c : mx_C) (a1 : Nat) : mx_C :=
  if (c.1 a1 0) = 15 then
    if (ac_subscriberOf c (c.1 a1 3)) < 0 then
      if (c.1 a1 0) = 14 then
        if (ac_subscriberOf c (c.1 a1 3)) < 0 then
          if (c.1 a1 0) = 14 then
            let c1 := en_put c 62 15 (c.1 a1 4) 0
            c1
          else
            c
        else
          let c2 := mx_pi c 61 (Int32.toNatClampNeg (ac_subscriberOf c (c.1 a1 3))) (c.1 a1 4)
          c2
      else
        if (c.1 a1 0) = 14 then
          let c3 := en_put c 62 15 (c.1 a1 4) 0
          c3
        else
          c
    else
      let c4 := ac_closeCircuit c (ac_subscriberOf c (c.1 a1 3))
      c4
  else
    if (c.1 a1 0) = 14 then
      if (ac_subscriberOf c (c.1 a1 3)) < 0 then
        if (c.1 a1 0) = 14 then
          let c5 := en_put c 62 15 (c.1 a1 4) 0
          c5
        else
          c
      else
        let c6 := mx_pi c 61 (Int32.toNatClampNeg (ac_subscriberOf c (c.1 a1 3))) (c.1 a1 4)
        c6
    else
      if (c.1 a1 0) = 14 then
        let c7 := en_put c 62 15 (c.1 a1 4) 0
        c7
      else
        c
def K_ac_perform : rx_K mx := k_RR (fun a0 a1 c m => (a0 = 59 ∧ mx_kl a1 = 2, (ac_perform c a1, m), none))
def L_ac_perform : List (rx_E mx) := [
  (0, .aload_n 0, 1, 0, 0, 0, [], kno),
  (1, .aload_n 1, 1, 0, 1, 0, [], kno),
  (2, .getfield 67, 3, 7, 1, 0, [], kgi 2 3),
  (5, .invokevirtual 114, 3, 7, 2, 0, [], K_ac_subscriberOf),
  (8, .istore_n 2, 1, 0, 2, 0, [], kno),
  (9, .aload_n 1, 1, 0, 1, 0, [], kno),
  (10, .getfield 42, 3, 7, 1, 0, [], kgi 2 0),
  (13, .bipush 15, 2, 0, 0, 15, [], kno),
  (15, .if_icmp .ne 15, 3, 2, 15, 0, [], kno),
  (18, .iload_n 2, 1, 0, 2, 0, [], kno),
  (19, .ifCond .lt 11, 3, 2, 15, 0, [], kno),
  (22, .aload_n 0, 1, 0, 0, 0, [], kno),
  (23, .iload_n 2, 1, 0, 2, 0, [], kno),
  (24, .invokevirtual 77, 3, 7, 2, 0, [], K_ac_closeCircuit),
  (27, .goto 52, 3, 1, 39, 0, [], kno),
  (30, .aload_n 1, 1, 0, 1, 0, [], kno),
  (31, .getfield 42, 3, 7, 1, 0, [], kgi 2 0),
  (34, .bipush 14, 2, 0, 0, 14, [], kno),
  (36, .if_icmp .ne 20, 3, 2, 28, 0, [], kno),
  (39, .iload_n 2, 1, 0, 2, 0, [], kno),
  (40, .ifCond .lt 16, 3, 2, 28, 0, [], kno),
  (43, .aload_n 0, 1, 0, 0, 0, [], kno),
  (44, .getfield 15, 3, 7, 1, 0, [], kgr0 5 4 61),
  (47, .iload_n 2, 1, 0, 2, 0, [], kno),
  (48, .aload_n 1, 1, 0, 1, 0, [], kno),
  (49, .getfield 108, 3, 7, 1, 0, [], kgi 2 4),
  (52, .iastore, 1, 7, 3, 0, [], kpa),
  (53, .goto 26, 3, 1, 39, 0, [], kno),
  (56, .aload_n 1, 1, 0, 1, 0, [], kno),
  (57, .getfield 42, 3, 7, 1, 0, [], kgi 2 0),
  (60, .bipush 14, 2, 0, 0, 14, [], kno),
  (62, .if_icmp .ne 17, 3, 2, 39, 0, [], kno),
  (65, .aload_n 0, 1, 0, 0, 0, [], kno),
  (66, .getfield 27, 3, 7, 1, 0, [], kgr0 5 2 62),
  (69, .bipush 15, 2, 0, 0, 15, [], kno),
  (71, .aload_n 1, 1, 0, 1, 0, [], kno),
  (72, .getfield 108, 3, 7, 1, 0, [], kgi 2 4),
  (75, .iconst 0, 1, 0, 0, 0, [], kno),
  (76, .invokevirtual 86, 3, 7, 4, 0, [], K_en_put),
  (79, .return_, 1, 6, 0, 0, [], kno)]
theorem E_ac_perform (c : mx_C) (m : mx_M) (a1 : Nat)  : rx_ev L_ac_perform [] 42 L_ac_perform (c, m) [some (.ref 59), some (.ref a1), none] [] = rw_v m (ac_perform c a1) :=
  rx_ite2 (f := rw_v m) (fun _ => rx_ite2 (f := rw_v m) (fun _ => rx_ite2 (f := rw_v m) (fun _ => rx_ite2 (f := rw_v m) (fun _ => rx_ite2 (f := rw_v m) (fun _ => rfl) (fun _ => rfl)) (fun _ => rfl)) (fun _ => rx_ite2 (f := rw_v m) (fun _ => rfl) (fun _ => rfl))) (fun _ => rfl)) (fun _ => rx_ite2 (f := rw_v m) (fun _ => rx_ite2 (f := rw_v m) (fun _ => rx_ite2 (f := rw_v m) (fun _ => rfl) (fun _ => rfl)) (fun _ => rfl)) (fun _ => rx_ite2 (f := rw_v m) (fun _ => rfl) (fun _ => rfl)))
theorem S_ac_perform (c : mx_C) (m : mx_M) (a1 : Nat) (ha1 : mx_kl a1 = 2) : rx_sf L_ac_perform [] 42 L_ac_perform (c, m) [some (.ref 59), some (.ref a1), none] [] :=
  And.intro ha1 (And.intro rfl (And.intro ha1 (And.intro (fun h0 => And.intro (fun h1 => And.intro ha1 (And.intro (fun h2 => And.intro (fun h3 => And.intro ha1 (And.intro (fun h4 => And.intro rfl (And.intro ha1 (And.intro rfl (trivial)))) (fun h4 => trivial))) (fun h3 => And.intro rfl (And.intro ha1 (And.intro (ac_sub_in (by assumption)) (trivial))))) (fun h2 => And.intro ha1 (And.intro (fun h3 => And.intro rfl (And.intro ha1 (And.intro rfl (trivial)))) (fun h3 => trivial))))) (fun h1 => And.intro (And.intro rfl (ac_sub_in (by assumption))) (trivial))) (fun h0 => And.intro ha1 (And.intro (fun h1 => And.intro (fun h2 => And.intro ha1 (And.intro (fun h3 => And.intro rfl (And.intro ha1 (And.intro rfl (trivial)))) (fun h3 => trivial))) (fun h2 => And.intro rfl (And.intro ha1 (And.intro (ac_sub_in (by assumption)) (trivial))))) (fun h1 => And.intro ha1 (And.intro (fun h2 => And.intro rfl (And.intro ha1 (And.intro rfl (trivial)))) (fun h2 => trivial))))))))

theorem ok_ac_perform : rx_okF prog_2_method_9_code 3 none L_ac_perform 0 L_ac_perform = true := by decide +kernel
theorem V_ac_perform {l : Launch} {D : va_G} {g : Nat → ClassId} {ad : Nat → Nat} {B : Nat} (had : mx_A ad B) : rx_V l D g ad B ⟨"SubscriberLines$Access", "perform", "(LSubscriberLines$Packet;)V"⟩ prog_2_method_9_code 3 none 3 71 K_ac_perform := by
  intro av x hp
  obtain ⟨a0, a1, rfl⟩ := k_RR_inv hp
  have hp : a0 = 59 ∧ mx_kl a1 = 2 := hp
  have h0 : a0 = 59 := hp.1
  subst h0
  exact rx_met (k := 1) had (by decide) (Nat.le_of_ble_eq_true rfl) ok_ac_perform rfl rfl 42 (fun p e s m args below meth c X => And.intro (og_ac_67_g X) (And.intro (cv_ac_subscriberOf X (V_ac_subscriberOf had) (al_at 489 (by decide +kernel) rfl) ⟨by decide, by decide⟩) (And.intro (og_ac_42_g X) (And.intro (cv_ac_closeCircuit X (V_ac_closeCircuit had) (al_at 493 (by decide +kernel) rfl) ⟨by decide, by decide⟩) (And.intro (og_ac_42_g X) (And.intro (og_ac_15_g X) (And.intro (og_ac_108_g X) (And.intro (ox_pa X) (And.intro (og_ac_42_g X) (And.intro (og_ac_27_g X) (And.intro (og_ac_108_g X) (And.intro (cv_en_put X (V_en_put had) (al_at 499 (by decide +kernel) rfl) ⟨by decide, by decide⟩) (trivial))))))))))))) (S_ac_perform x.1 x.2 a1 hp.2) (E_ac_perform x.1 x.2 a1)
def ac_receive (c : mx_C) (a1 : Nat) : mx_C :=
  if (c.1 a1 0) < 12 then
    if (c.1 a1 1) = 5 then
      let c1 := ac_passToSubscriber c a1
      c1
    else
      if (c.1 a1 0) = 1 then
        let c2 := ac_join c (c.1 a1 1)
        c2
      else
        if (c.1 a1 3) = (c.1 60 (Int32.toNatClampNeg (c.1 a1 1))) then
          let c3 := ac_receiveOnCircuit c a1
          c3
        else
          c
  else
    let q4 := en_isNext c 62 a1
    if q4.2 = 0 then
      q4.1
    else
      let c5 := ac_perform q4.1 a1
      let c6 := en_acknowledge c5 62
      c6
def K_ac_receive : rx_K mx := k_RR (fun a0 a1 c m => (a0 = 59 ∧ mx_kl a1 = 2 ∧ ac_reP c a1, (ac_receive c a1, m), none))
def L_ac_receive : List (rx_E mx) := [
  (0, .aload_n 1, 1, 0, 1, 0, [], kno),
  (1, .getfield 42, 3, 7, 1, 0, [], kgi 2 0),
  (4, .bipush 12, 2, 0, 0, 12, [], kno),
  (6, .if_icmp .lt 29, 3, 2, 16, 0, [], kno),
  (9, .aload_n 0, 1, 0, 0, 0, [], kno),
  (10, .getfield 27, 3, 7, 1, 0, [], kgr0 5 2 62),
  (13, .aload_n 1, 1, 0, 1, 0, [], kno),
  (14, .invokevirtual 47, 3, 7, 2, 0, [], K_en_isNext),
  (17, .ifCond .eq 74, 3, 2, 44, 0, [], kno),
  (20, .aload_n 0, 1, 0, 0, 0, [], kno),
  (21, .aload_n 1, 1, 0, 1, 0, [], kno),
  (22, .invokevirtual 51, 3, 7, 2, 0, [], K_ac_perform),
  (25, .aload_n 0, 1, 0, 0, 0, [], kno),
  (26, .getfield 27, 3, 7, 1, 0, [], kgr0 5 2 62),
  (29, .invokevirtual 55, 3, 7, 1, 0, [], K_en_acknowledge),
  (32, .goto 59, 3, 1, 44, 0, [], kno),
  (35, .aload_n 1, 1, 0, 1, 0, [], kno),
  (36, .getfield 58, 3, 7, 1, 0, [], kgi 2 1),
  (39, .iconst 5, 1, 0, 0, 5, [], kno),
  (40, .if_icmp .ne 11, 3, 2, 24, 0, [], kno),
  (43, .aload_n 0, 1, 0, 0, 0, [], kno),
  (44, .aload_n 1, 1, 0, 1, 0, [], kno),
  (45, .invokevirtual 61, 3, 7, 2, 0, [], K_ac_passToSubscriber),
  (48, .goto 43, 3, 1, 44, 0, [], kno),
  (51, .aload_n 1, 1, 0, 1, 0, [], kno),
  (52, .getfield 42, 3, 7, 1, 0, [], kgi 2 0),
  (55, .iconst 1, 1, 0, 0, 1, [], kno),
  (56, .if_icmp .ne 14, 3, 2, 33, 0, [], kno),
  (59, .aload_n 0, 1, 0, 0, 0, [], kno),
  (60, .aload_n 1, 1, 0, 1, 0, [], kno),
  (61, .getfield 58, 3, 7, 1, 0, [], kgi 2 1),
  (64, .invokevirtual 64, 3, 7, 2, 0, [], K_ac_join),
  (67, .goto 24, 3, 1, 44, 0, [], kno),
  (70, .aload_n 1, 1, 0, 1, 0, [], kno),
  (71, .getfield 67, 3, 7, 1, 0, [], kgi 2 3),
  (74, .aload_n 0, 1, 0, 0, 0, [], kno),
  (75, .getfield 9, 3, 7, 1, 0, [], kgr0 5 3 60),
  (78, .aload_n 1, 1, 0, 1, 0, [], kno),
  (79, .getfield 58, 3, 7, 1, 0, [], kgi 2 1),
  (82, .iaload, 1, 7, 2, 0, [], kai),
  (83, .if_icmp .ne 8, 3, 2, 44, 0, [], kno),
  (86, .aload_n 0, 1, 0, 0, 0, [], kno),
  (87, .aload_n 1, 1, 0, 1, 0, [], kno),
  (88, .invokevirtual 70, 3, 7, 2, 0, [], K_ac_receiveOnCircuit),
  (91, .return_, 1, 6, 0, 0, [], kno)]
theorem E_ac_receive (c : mx_C) (m : mx_M) (a1 : Nat)  : rx_ev L_ac_receive [] 47 L_ac_receive (c, m) [some (.ref 59), some (.ref a1)] [] = rw_v m (ac_receive c a1) :=
  rx_ite2 (f := rw_v m) (fun _ => rx_ite2 (f := rw_v m) (fun _ => rfl) (fun _ => rx_ite2 (f := rw_v m) (fun _ => rfl) (fun _ => rx_ite2 (f := rw_v m) (fun _ => rfl) (fun _ => rfl)))) (fun _ => rx_ite2 (f := rw_v m) (fun _ => rfl) (fun _ => rfl))
theorem S_ac_receive (c : mx_C) (m : mx_M) (a1 : Nat) (ha1 : mx_kl a1 = 2) (hr : ac_reP c a1) : rx_sf L_ac_receive [] 47 L_ac_receive (c, m) [some (.ref 59), some (.ref a1)] [] :=
  And.intro ha1 (And.intro (fun h0 => And.intro ha1 (And.intro (fun h1 => And.intro (And.intro rfl ha1) (trivial)) (fun h1 => And.intro ha1 (And.intro (fun h2 => And.intro ha1 (And.intro (And.intro rfl (hr h0 h1).1) (trivial))) (fun h2 => And.intro ha1 (And.intro rfl (And.intro ha1 (And.intro (hr h0 h1).1 (And.intro (fun h3 => And.intro (And.intro rfl (And.intro ha1 (hr h0 h1))) (trivial)) (fun h3 => trivial)))))))))) (fun h0 => And.intro rfl (And.intro (And.intro rfl ha1) (And.intro (fun h1 => trivial) (fun h1 => And.intro (And.intro rfl ha1) (And.intro rfl (And.intro rfl (trivial))))))))

theorem cv_en_isNext {p : Program} {l : Launch} {e : Env} {R : Room} {s : State} {m : MethodId} {args : Array Value} {below : List Frame} {meth : Method} {c : Code} {cc : ByteArray} {nL : Nat} {ad : Nat → Nat} {D : va_G} {g : Nat → ClassId} {B : Nat} {own : String} {idx : Nat} (X : ox_C p s m args c cc nL own D g ad B) (hV : rx_V l D g ad B ⟨"SubscriberLines$End", "isNext", "(LSubscriberLines$Packet;)Z"⟩ prog_3_method_5_code 2 (some .boolean) 3 72 K_en_isNext) (hl : Cond.methodLink own idx ⟨"SubscriberLines$End", "isNext", "(LSubscriberLines$Packet;)Z"⟩ ∈ al) (hR : 3 + 1 ≤ R.frames ∧ 8 + (2 + 11) + 72 ≤ R.locals) : rx_OK p l e R s m args below meth c cc nL ad (mx_W D g ad B s.heap) mx_cs (.invokevirtual idx) 3 2 (K_en_isNext) :=
  ox_callV (q := 8) (T := T_8) X hV (fun av x h => by obtain ⟨a0, a1, rfl⟩ := k_RR_inv h; exact ⟨a0, _, rfl, h.1⟩) (by decide) rfl hl (al_at 455 (by decide +kernel) rfl) (al_at 456 (by decide +kernel) rfl) (al_at 8 (by decide +kernel) rfl) (al_at 457 (by decide +kernel) rfl) ⟨by decide, by decide, by decide +kernel⟩ hR
theorem cv_ac_perform {p : Program} {l : Launch} {e : Env} {R : Room} {s : State} {m : MethodId} {args : Array Value} {below : List Frame} {meth : Method} {c : Code} {cc : ByteArray} {nL : Nat} {ad : Nat → Nat} {D : va_G} {g : Nat → ClassId} {B : Nat} {own : String} {idx : Nat} (X : ox_C p s m args c cc nL own D g ad B) (hV : rx_V l D g ad B ⟨"SubscriberLines$Access", "perform", "(LSubscriberLines$Packet;)V"⟩ prog_2_method_9_code 3 none 3 71 K_ac_perform) (hl : Cond.methodLink own idx ⟨"SubscriberLines$Access", "perform", "(LSubscriberLines$Packet;)V"⟩ ∈ al) (hR : 3 + 1 ≤ R.frames ∧ 8 + (3 + 11) + 71 ≤ R.locals) : rx_OK p l e R s m args below meth c cc nL ad (mx_W D g ad B s.heap) mx_cs (.invokevirtual idx) 3 2 (K_ac_perform) :=
  ox_callV (q := 5) (T := T_5) X hV (fun av x h => by obtain ⟨a0, a1, rfl⟩ := k_RR_inv h; exact ⟨a0, _, rfl, by have h2 : a0 = 59 := h.1; rw [h2]; rfl⟩) (by decide) rfl hl (al_at 487 (by decide +kernel) rfl) (al_pr (y := (⟨"SubscriberLines$Access", "perform", "(LSubscriberLines$Packet;)V"⟩, _)) 8 rfl) (al_at 7 (by decide +kernel) rfl) (al_at 488 (by decide +kernel) rfl) ⟨by decide, by decide, by decide +kernel⟩ hR
theorem cv_ac_passToSubscriber {p : Program} {l : Launch} {e : Env} {R : Room} {s : State} {m : MethodId} {args : Array Value} {below : List Frame} {meth : Method} {c : Code} {cc : ByteArray} {nL : Nat} {ad : Nat → Nat} {D : va_G} {g : Nat → ClassId} {B : Nat} {own : String} {idx : Nat} (X : ox_C p s m args c cc nL own D g ad B) (hV : rx_V l D g ad B ⟨"SubscriberLines$Access", "passToSubscriber", "(LSubscriberLines$Packet;)V"⟩ prog_2_method_8_code 3 none 1 24 K_ac_passToSubscriber) (hl : Cond.methodLink own idx ⟨"SubscriberLines$Access", "passToSubscriber", "(LSubscriberLines$Packet;)V"⟩ ∈ al) (hR : 1 + 1 ≤ R.frames ∧ 8 + (3 + 11) + 24 ≤ R.locals) : rx_OK p l e R s m args below meth c cc nL ad (mx_W D g ad B s.heap) mx_cs (.invokevirtual idx) 3 2 (K_ac_passToSubscriber) :=
  ox_callV (q := 5) (T := T_5) X hV (fun av x h => by obtain ⟨a0, a1, rfl⟩ := k_RR_inv h; exact ⟨a0, _, rfl, by have h2 : a0 = 59 := h.1; rw [h2]; rfl⟩) (by decide) rfl hl (al_at 510 (by decide +kernel) rfl) (al_pr (y := (⟨"SubscriberLines$Access", "passToSubscriber", "(LSubscriberLines$Packet;)V"⟩, _)) 11 rfl) (al_at 7 (by decide +kernel) rfl) (al_at 511 (by decide +kernel) rfl) ⟨by decide, by decide, by decide +kernel⟩ hR
theorem cv_ac_join {p : Program} {l : Launch} {e : Env} {R : Room} {s : State} {m : MethodId} {args : Array Value} {below : List Frame} {meth : Method} {c : Code} {cc : ByteArray} {nL : Nat} {ad : Nat → Nat} {D : va_G} {g : Nat → ClassId} {B : Nat} {own : String} {idx : Nat} (X : ox_C p s m args c cc nL own D g ad B) (hV : rx_V l D g ad B ⟨"SubscriberLines$Access", "join", "(I)V"⟩ prog_2_method_6_code 2 none 4 93 K_ac_join) (hl : Cond.methodLink own idx ⟨"SubscriberLines$Access", "join", "(I)V"⟩ ∈ al) (hR : 4 + 1 ≤ R.frames ∧ 8 + (2 + 11) + 93 ≤ R.locals) : rx_OK p l e R s m args below meth c cc nL ad (mx_W D g ad B s.heap) mx_cs (.invokevirtual idx) 3 2 (K_ac_join) :=
  ox_callV (q := 5) (T := T_5) X hV (fun av x h => by obtain ⟨a0, a1, rfl⟩ := k_RI_inv h; exact ⟨a0, _, rfl, by have h2 : a0 = 59 := h.1; rw [h2]; rfl⟩) (by decide) rfl hl (al_at 514 (by decide +kernel) rfl) (al_pr (y := (⟨"SubscriberLines$Access", "join", "(I)V"⟩, _)) 12 rfl) (al_at 7 (by decide +kernel) rfl) (al_at 515 (by decide +kernel) rfl) ⟨by decide, by decide, by decide +kernel⟩ hR
theorem cv_ac_receiveOnCircuit {p : Program} {l : Launch} {e : Env} {R : Room} {s : State} {m : MethodId} {args : Array Value} {below : List Frame} {meth : Method} {c : Code} {cc : ByteArray} {nL : Nat} {ad : Nat → Nat} {D : va_G} {g : Nat → ClassId} {B : Nat} {own : String} {idx : Nat} (X : ox_C p s m args c cc nL own D g ad B) (hV : rx_V l D g ad B ⟨"SubscriberLines$Access", "receiveOnCircuit", "(LSubscriberLines$Packet;)V"⟩ prog_2_method_7_code 2 none 4 93 K_ac_receiveOnCircuit) (hl : Cond.methodLink own idx ⟨"SubscriberLines$Access", "receiveOnCircuit", "(LSubscriberLines$Packet;)V"⟩ ∈ al) (hR : 4 + 1 ≤ R.frames ∧ 8 + (2 + 11) + 93 ≤ R.locals) : rx_OK p l e R s m args below meth c cc nL ad (mx_W D g ad B s.heap) mx_cs (.invokevirtual idx) 3 2 (K_ac_receiveOnCircuit) :=
  ox_callV (q := 5) (T := T_5) X hV (fun av x h => by obtain ⟨a0, a1, rfl⟩ := k_RR_inv h; exact ⟨a0, _, rfl, by have h2 : a0 = 59 := h.1; rw [h2]; rfl⟩) (by decide) rfl hl (al_at 522 (by decide +kernel) rfl) (al_pr (y := (⟨"SubscriberLines$Access", "receiveOnCircuit", "(LSubscriberLines$Packet;)V"⟩, _)) 14 rfl) (al_at 7 (by decide +kernel) rfl) (al_at 523 (by decide +kernel) rfl) ⟨by decide, by decide, by decide +kernel⟩ hR
theorem ok_ac_receive : rx_okF prog_2_method_4_code 2 none L_ac_receive 0 L_ac_receive = true := by decide +kernel
theorem V_ac_receive {l : Launch} {D : va_G} {g : Nat → ClassId} {ad : Nat → Nat} {B : Nat} (had : mx_A ad B) : rx_V l D g ad B ⟨"SubscriberLines$Access", "receive", "(LSubscriberLines$Packet;)V"⟩ prog_2_method_4_code 2 none 5 114 K_ac_receive := by
  intro av x hp
  obtain ⟨a0, a1, rfl⟩ := k_RR_inv hp
  have hp : a0 = 59 ∧ mx_kl a1 = 2 ∧ ac_reP x.1 a1 := hp
  have h0 : a0 = 59 := hp.1
  subst h0
  exact rx_met (k := 0) had (by decide) (Nat.le_of_ble_eq_true rfl) ok_ac_receive rfl rfl 47 (fun p e s m args below meth c X => And.intro (og_ac_42_g X) (And.intro (og_ac_27_g X) (And.intro (cv_en_isNext X (V_en_isNext had) (al_at 454 (by decide +kernel) rfl) ⟨by decide, by decide⟩) (And.intro (cv_ac_perform X (V_ac_perform had) (al_at 485 (by decide +kernel) rfl) ⟨by decide, by decide⟩) (And.intro (og_ac_27_g X) (And.intro (cv_en_acknowledge X (V_en_acknowledge had) (al_at 507 (by decide +kernel) rfl) ⟨by decide, by decide⟩) (And.intro (og_ac_58_g X) (And.intro (cv_ac_passToSubscriber X (V_ac_passToSubscriber had) (al_at 508 (by decide +kernel) rfl) ⟨by decide, by decide⟩) (And.intro (og_ac_42_g X) (And.intro (og_ac_58_g X) (And.intro (cv_ac_join X (V_ac_join had) (al_at 512 (by decide +kernel) rfl) ⟨by decide, by decide⟩) (And.intro (og_ac_67_g X) (And.intro (og_ac_9_g X) (And.intro (og_ac_58_g X) (And.intro (ox_ai X) (And.intro (cv_ac_receiveOnCircuit X (V_ac_receiveOnCircuit had) (al_at 520 (by decide +kernel) rfl) ⟨by decide, by decide⟩) (trivial))))))))))))))))) (S_ac_receive x.1 x.2 a1 hp.2.1 hp.2.2) (E_ac_receive x.1 x.2 a1)
end
section
theorem in4 {k : Int32} (h0 : ¬ k < 0) (h1 : k < 4) : vp_in k 4 := by
  rw [i_lt, Int32.toInt_zero] at h0
  rw [i_lt] at h1
  have h1 : k.toInt < 4 := h1
  rw [i_in]
  omega
abbrev sv_at (c : mx_C) (v : Int32) : Prop := 0 ≤ v.toInt ∧ v.toInt < (c.2.2.2.2.val : Int)
theorem sv_at_in {c : mx_C} {v : Int32} (h : sv_at c v) : vp_in v (mx_lenG 3 3 67) := by
  rw [i_in]
  show _ ∧ v.toInt < (4 : Int)
  omega
theorem up4_s {n : Nat} {v : Int32} {q : Fin 5} (h : v < Int32.ofNat q.val) (hP : up4 (n + 1) v) : vp_in v (mx_lenG 3 3 67) ∧ up4 n (v + 1) := by
  rw [i_lt, i_of _ (by omega)] at h
  obtain ⟨p1, p2, p3⟩ := hP
  have e : (v + 1).toInt = v.toInt + 1 := i_add (show _ ≤ v.toInt + 1 by omega) (show v.toInt + 1 < _ by omega)
  refine ⟨?_, ?_⟩
  · rw [i_in]
    show _ ∧ v.toInt < (4 : Int)
    omega
  · unfold up4
    rw [e]
    omega
theorem sc_sub {q : Fin 5} (h : 1 ≤ q.val) : (Int32.ofNat q.val - 1).toInt = (q.val : Int) - 1 := by
  rw [i_sub, i_of _ (by omega)]
  · rfl
  · rw [i_of _ (by omega)]; show _ ≤ (q.val : Int) - 1; omega
  · rw [i_of _ (by omega)]; show (q.val : Int) - 1 < _; omega
theorem sc_dec {q : Fin 5} (h : 1 ≤ q.val) : vp_in (Int32.ofNat q.val - 1) 5 := by
  rw [i_in, sc_sub h]
  omega
theorem sc_nat {q : Fin 5} (h : 1 ≤ q.val) : (Int32.ofNat q.val - 1).toNatClampNeg = q.val - 1 := by
  have e := sc_sub h
  have := i_cl (Int32.ofNat q.val - 1)
  rw [e] at this
  split at this <;> omega
theorem sc_ix {q : Fin 5} (h : 1 ≤ q.val) : vp_in (Int32.ofNat (Fin.ofNat 5 (Int32.toNatClampNeg (Int32.ofNat q.val - 1))).val) (mx_lenG 3 3 67) := by
  rw [sc_nat h]
  show vp_in (Int32.ofNat ((q.val - 1) % 5)) 4
  rw [Nat.mod_eq_of_lt (by omega)]
  exact i_inN (by omega) (by omega)
abbrev sv_rP (n : Nat) (v : Int32) (r : Nat) (q : Fin 5) : Prop := 0 ≤ v.toInt ∧ v.toInt ≤ 4 ∧ 4 < (n : Int) + v.toInt ∧ (78 ≤ r ∧ r < 82) ∧ 1 ≤ q.val
theorem sv_rP1 {n : Nat} {v : Int32} {r : Nat} {q : Fin 5} (h : v < Int32.ofNat q.val - 1) (hP : sv_rP (n + 1) v r q) : (vp_in v (mx_lenG 3 3 67) ∧ vp_in (v + 1) (mx_lenG 3 3 67)) ∧ sv_rP n (v + 1) r q := by
  obtain ⟨p1, p2, p3, p4, p5⟩ := hP
  rw [i_lt, sc_sub p5] at h
  have e : (v + 1).toInt = v.toInt + 1 := i_add (show _ ≤ v.toInt + 1 by omega) (show v.toInt + 1 < _ by omega)
  rw [i_in, i_in, e]
  show ((_ ∧ v.toInt < (4 : Int)) ∧ (_ ∧ v.toInt + 1 < (4 : Int))) ∧ sv_rP n (v + 1) r q
  exact ⟨by omega, by rw [e]; omega, by rw [e]; omega, by rw [e]; omega, p4, p5⟩
theorem sv_ses_in (q : Fin 4) : 78 ≤ 78 + q.val ∧ 78 + q.val < 82 := by omega
theorem sv_rP0 {c : mx_C} {v : Int32} {r : Fin 4} (h : sv_at c v) : sv_rP 6 v (78 + r.val) c.2.2.2.2 := by
  have := c.2.2.2.2.isLt
  exact ⟨h.1, by omega, by omega, sv_ses_in r, by omega⟩
theorem sc_z : vp_in 0 5 := i_in.mpr (by decide)
theorem sc_inc {q : Fin 5} (h : ¬ Int32.ofNat q.val = 4) : vp_in (Int32.ofNat q.val) (mx_lenG 3 3 67) ∧ vp_in (Int32.ofNat q.val + 1) 5 := by
  have hq : q.val < 4 := by
    refine Classical.byContradiction fun hn => h ?_
    have : q.val = 4 := by omega
    rw [this]
    rfl
  refine ⟨i_inN (show q.val < 4 from hq) (by decide), ?_⟩
  have : Int32.ofNat q.val + 1 = Int32.ofNat (q.val + 1) := by rw [Int32.ofNat_add]; rfl
  rw [this]
  exact i_inN (by omega) (by omega)
def sv_forget (c : mx_C)  : mx_C :=
  let c1 := en_begin c 74 0
  let c2 := mx_pc c1 0
  c2
def K_sv_forget : rx_K mx := k_R (fun a0 c m => (a0 = 66, (sv_forget c, m), none))
def L_sv_forget : List (rx_E mx) := [
  (0, .aload_n 0, 1, 0, 0, 0, [], kno),
  (1, .getfield 50, 3, 7, 1, 0, [], kgr0 7 2 74),
  (4, .iconst 0, 1, 0, 0, 0, [], kno),
  (5, .invokevirtual 55, 3, 7, 2, 0, [], K_en_begin),
  (8, .aload_n 0, 1, 0, 0, 0, [], kno),
  (9, .iconst 0, 1, 0, 0, 0, [], kno),
  (10, .putfield 58, 3, 7, 2, 0, [], kps),
  (13, .return_, 1, 6, 0, 0, [], kno)]
theorem E_sv_forget (c : mx_C) (m : mx_M)   : rx_ev L_sv_forget [] 10 L_sv_forget (c, m) [some (.ref 66)] [] = rw_v m (sv_forget c) :=
  rfl
theorem S_sv_forget (c : mx_C) (m : mx_M)   : rx_sf L_sv_forget [] 10 L_sv_forget (c, m) [some (.ref 66)] [] :=
  And.intro rfl (And.intro rfl (And.intro (And.intro rfl sc_z) (trivial)))

theorem og_sv_50_g {p : Program} {l : Launch} {e : Env} {R : Room} {s : State} {m : MethodId} {args : Array Value} {below : List Frame} {meth : Method} {c : Code} {cc : ByteArray} {nL : Nat} {ad : Nat → Nat} {D : va_G} {g : Nat → ClassId} {B : Nat} (X : ox_C p s m args c cc nL "SubscriberLines$Server" D g ad B) : rx_OK p l e R s m args below meth c cc nL ad (mx_W D g ad B s.heap) mx_cs (.getfield 50) 3 1 (kgr0 7 2 74) := ox_gr0 (T := T_7) X rfl (by decide) (by decide) in_7 rfl (al_at 290 (by decide +kernel) rfl)
theorem og_sv_58_p {p : Program} {l : Launch} {e : Env} {R : Room} {s : State} {m : MethodId} {args : Array Value} {below : List Frame} {meth : Method} {c : Code} {cc : ByteArray} {nL : Nat} {ad : Nat → Nat} {D : va_G} {g : Nat → ClassId} {B : Nat} (X : ox_C p s m args c cc nL "SubscriberLines$Server" D g ad B) : rx_OK p l e R s m args below meth c cc nL ad (mx_W D g ad B s.heap) mx_cs (.putfield 58) 3 2 (kps) := ox_ps X (al_at 295 (by decide +kernel) rfl)
theorem ok_sv_forget : rx_okF prog_8_method_2_code 1 none L_sv_forget 0 L_sv_forget = true := by decide +kernel
theorem V_sv_forget {l : Launch} {D : va_G} {g : Nat → ClassId} {ad : Nat → Nat} {B : Nat} (had : mx_A ad B) : rx_V l D g ad B ⟨"SubscriberLines$Server", "forget", "()V"⟩ prog_8_method_2_code 1 none 1 21 K_sv_forget := by
  intro av x hp
  obtain ⟨a0, rfl⟩ := k_R_inv hp
  have hp : a0 = 66 := hp
  have h0 : a0 = 66 := hp
  subst h0
  exact rx_met (k := 0) had (by decide) (Nat.le_of_ble_eq_true rfl) ok_sv_forget rfl rfl 10 (fun p e s m args below meth c X => And.intro (og_sv_50_g X) (And.intro (cv_en_begin X (V_en_begin had) (al_at 435 (by decide +kernel) rfl) ⟨by decide, by decide⟩) (And.intro (og_sv_58_p X) (trivial)))) (S_sv_forget x.1 x.2  ) (E_sv_forget x.1 x.2 )
def sv_admit (c : mx_C) (a1 : Int32) (a2 : Int32) : mx_C × Int32 :=
  if a1 < 0 then
    (c, 0)
  else
    if a1 < 4 then
      let c1 := mx_pi c 68 (Int32.toNatClampNeg a1) 1
      let c2 := mx_pi c1 69 (Int32.toNatClampNeg a1) a2
      (c2, 1)
    else
      (c, 0)
def K_sv_admit : rx_K mx := k_RII (fun a0 a1 a2 c m => (a0 = 66, ((sv_admit c a1 a2).1, m), some (.int (sv_admit c a1 a2).2)))
def L_sv_admit : List (rx_E mx) := [
  (0, .iload_n 1, 1, 0, 1, 0, [], kno),
  (1, .ifCond .lt 8, 3, 2, 5, 0, [], kno),
  (4, .iload_n 1, 1, 0, 1, 0, [], kno),
  (5, .iconst 4, 1, 0, 0, 4, [], kno),
  (6, .if_icmp .lt 5, 3, 2, 7, 0, [], kno),
  (9, .iconst 0, 1, 0, 0, 0, [], kno),
  (10, .ireturn, 1, 5, 1, 0, [], kno),
  (11, .aload_n 0, 1, 0, 0, 0, [], kno),
  (12, .getfield 17, 3, 7, 1, 0, [], kgr0 7 6 68),
  (15, .iload_n 1, 1, 0, 1, 0, [], kno),
  (16, .iconst 1, 1, 0, 0, 1, [], kno),
  (17, .bastore, 1, 7, 3, 0, [], kpb),
  (18, .aload_n 0, 1, 0, 0, 0, [], kno),
  (19, .getfield 21, 3, 7, 1, 0, [], kgr0 7 7 69),
  (22, .iload_n 1, 1, 0, 1, 0, [], kno),
  (23, .iload_n 2, 1, 0, 2, 0, [], kno),
  (24, .iastore, 1, 7, 3, 0, [], kpa),
  (25, .iconst 1, 1, 0, 0, 1, [], kno),
  (26, .ireturn, 1, 5, 1, 0, [], kno)]
theorem E_sv_admit (c : mx_C) (m : mx_M) (a1 : Int32) (a2 : Int32)  : rx_ev L_sv_admit [] 21 L_sv_admit (c, m) [some (.ref 66), some (.int a1), some (.int a2)] [] = rw_i m (sv_admit c a1 a2) :=
  rx_ite2 (f := rw_i m) (fun _ => rfl) (fun _ => rx_ite2 (f := rw_i m) (fun _ => rfl) (fun _ => rfl))
theorem S_sv_admit (c : mx_C) (m : mx_M) (a1 : Int32) (a2 : Int32)  : rx_sf L_sv_admit [] 21 L_sv_admit (c, m) [some (.ref 66), some (.int a1), some (.int a2)] [] :=
  And.intro (fun h0 => Or.inl rfl) (fun h0 => And.intro (fun h1 => And.intro rfl (And.intro (And.intro (in4 h0 h1) rfl) (And.intro rfl (And.intro (in4 h0 h1) (Or.inr rfl))))) (fun h1 => Or.inl rfl))

theorem og_sv_17_g {p : Program} {l : Launch} {e : Env} {R : Room} {s : State} {m : MethodId} {args : Array Value} {below : List Frame} {meth : Method} {c : Code} {cc : ByteArray} {nL : Nat} {ad : Nat → Nat} {D : va_G} {g : Nat → ClassId} {B : Nat} (X : ox_C p s m args c cc nL "SubscriberLines$Server" D g ad B) : rx_OK p l e R s m args below meth c cc nL ad (mx_W D g ad B s.heap) mx_cs (.getfield 17) 3 1 (kgr0 7 6 68) := ox_gr0 (T := T_7) X rfl (by decide) (by decide) in_7 rfl (al_at 297 (by decide +kernel) rfl)
theorem og_sv_21_g {p : Program} {l : Launch} {e : Env} {R : Room} {s : State} {m : MethodId} {args : Array Value} {below : List Frame} {meth : Method} {c : Code} {cc : ByteArray} {nL : Nat} {ad : Nat → Nat} {D : va_G} {g : Nat → ClassId} {B : Nat} (X : ox_C p s m args c cc nL "SubscriberLines$Server" D g ad B) : rx_OK p l e R s m args below meth c cc nL ad (mx_W D g ad B s.heap) mx_cs (.getfield 21) 3 1 (kgr0 7 7 69) := ox_gr0 (T := T_7) X rfl (by decide) (by decide) in_7 rfl (al_at 298 (by decide +kernel) rfl)
theorem ok_sv_admit : rx_okF prog_8_method_3_code 3 (some .boolean) L_sv_admit 0 L_sv_admit = true := by decide +kernel
theorem V_sv_admit {l : Launch} {D : va_G} {g : Nat → ClassId} {ad : Nat → Nat} {B : Nat} (had : mx_A ad B) : rx_V l D g ad B ⟨"SubscriberLines$Server", "admit", "(II)Z"⟩ prog_8_method_3_code 3 (some .boolean) 0 0 K_sv_admit := by
  intro av x hp
  obtain ⟨a0, a1, a2, rfl⟩ := k_RII_inv hp
  have hp : a0 = 66 := hp
  have h0 : a0 = 66 := hp
  subst h0
  exact rx_met (k := 0) had (by decide) (Nat.le_of_ble_eq_true rfl) ok_sv_admit rfl rfl 21 (fun p e s m args below meth c X => And.intro (og_sv_17_g X) (And.intro (ox_pb X) (And.intro (og_sv_21_g X) (And.intro (ox_pa X) (trivial))))) (S_sv_admit x.1 x.2 a1 a2 ) (E_sv_admit x.1 x.2 a1 a2)
def sv_sendAccept (c : mx_C) (a1 : Nat) : mx_C :=
  let q1 := fl_launch c 5 5 4
  let c2 := pk_bear q1.1 q1.2 (q1.1.1 a1 1) (q1.1.1 a1 3) 0
  c2
def K_sv_sendAccept : rx_K mx := k_RR (fun a0 a1 c m => (a0 = 66 ∧ mx_kl a1 = 6, (sv_sendAccept c a1, m), none))
def L_sv_sendAccept : List (rx_E mx) := [
  (0, .aload_n 0, 1, 0, 0, 0, [], kno),
  (1, .getfield 37, 3, 7, 1, 0, [], kgr0 7 1 1),
  (4, .iconst 5, 1, 0, 0, 5, [], kno),
  (5, .iconst 5, 1, 0, 0, 5, [], kno),
  (6, .iconst 4, 1, 0, 0, 4, [], kno),
  (7, .invokevirtual 67, 3, 7, 4, 0, [], K_fl_launch),
  (10, .aload_n 1, 1, 0, 1, 0, [], kno),
  (11, .getfield 73, 3, 7, 1, 0, [], kgi 6 1),
  (14, .aload_n 1, 1, 0, 1, 0, [], kno),
  (15, .getfield 64, 3, 7, 1, 0, [], kgi 6 3),
  (18, .iconst 0, 1, 0, 0, 0, [], kno),
  (19, .invokevirtual 76, 3, 7, 4, 0, [], K_pk_bear),
  (22, .return_, 1, 6, 0, 0, [], kno)]
theorem E_sv_sendAccept (c : mx_C) (m : mx_M) (a1 : Nat)  : rx_ev L_sv_sendAccept [] 15 L_sv_sendAccept (c, m) [some (.ref 66), some (.ref a1)] [] = rw_v m (sv_sendAccept c a1) :=
  rfl
theorem S_sv_sendAccept (c : mx_C) (m : mx_M) (a1 : Nat) (ha1 : mx_kl a1 = 6) : rx_sf L_sv_sendAccept [] 15 L_sv_sendAccept (c, m) [some (.ref 66), some (.ref a1)] [] :=
  And.intro rfl (And.intro rfl (And.intro ha1 (And.intro ha1 (And.intro (fl_launch_pk _ _ _ _) (trivial)))))

theorem og_sv_37_g {p : Program} {l : Launch} {e : Env} {R : Room} {s : State} {m : MethodId} {args : Array Value} {below : List Frame} {meth : Method} {c : Code} {cc : ByteArray} {nL : Nat} {ad : Nat → Nat} {D : va_G} {g : Nat → ClassId} {B : Nat} (X : ox_C p s m args c cc nL "SubscriberLines$Server" D g ad B) : rx_OK p l e R s m args below meth c cc nL ad (mx_W D g ad B s.heap) mx_cs (.getfield 37) 3 1 (kgr0 7 1 1) := ox_gr0 (T := T_7) X rfl (by decide) (by decide) in_7 rfl (al_at 289 (by decide +kernel) rfl)
theorem og_sv_73_g {p : Program} {l : Launch} {e : Env} {R : Room} {s : State} {m : MethodId} {args : Array Value} {below : List Frame} {meth : Method} {c : Code} {cc : ByteArray} {nL : Nat} {ad : Nat → Nat} {D : va_G} {g : Nat → ClassId} {B : Nat} (X : ox_C p s m args c cc nL "SubscriberLines$Server" D g ad B) : rx_OK p l e R s m args below meth c cc nL ad (mx_W D g ad B s.heap) mx_cs (.getfield 73) 3 1 (kgi 6 1) := ox_gi (T := T_6) X rfl (by decide) (by decide) in_6 rfl (al_at 270 (by decide +kernel) rfl)
theorem og_sv_64_g {p : Program} {l : Launch} {e : Env} {R : Room} {s : State} {m : MethodId} {args : Array Value} {below : List Frame} {meth : Method} {c : Code} {cc : ByteArray} {nL : Nat} {ad : Nat → Nat} {D : va_G} {g : Nat → ClassId} {B : Nat} (X : ox_C p s m args c cc nL "SubscriberLines$Server" D g ad B) : rx_OK p l e R s m args below meth c cc nL ad (mx_W D g ad B s.heap) mx_cs (.getfield 64) 3 1 (kgi 6 3) := ox_gi (T := T_6) X rfl (by decide) (by decide) in_6 rfl (al_at 274 (by decide +kernel) rfl)
theorem ok_sv_sendAccept : rx_okF prog_8_method_16_code 2 none L_sv_sendAccept 0 L_sv_sendAccept = true := by decide +kernel
theorem V_sv_sendAccept {l : Launch} {D : va_G} {g : Nat → ClassId} {ad : Nat → Nat} {B : Nat} (had : mx_A ad B) : rx_V l D g ad B ⟨"SubscriberLines$Server", "sendAccept", "(LSubscriberLines$Session;)V"⟩ prog_8_method_16_code 2 none 1 24 K_sv_sendAccept := by
  intro av x hp
  obtain ⟨a0, a1, rfl⟩ := k_RR_inv hp
  have hp : a0 = 66 ∧ mx_kl a1 = 6 := hp
  have h0 : a0 = 66 := hp.1
  subst h0
  exact rx_met (k := 0) had (by decide) (Nat.le_of_ble_eq_true rfl) ok_sv_sendAccept rfl rfl 15 (fun p e s m args below meth c X => And.intro (og_sv_37_g X) (And.intro (cv_fl_launch X (V_fl_launch had) (al_at 413 (by decide +kernel) rfl) ⟨by decide, by decide⟩) (And.intro (og_sv_73_g X) (And.intro (og_sv_64_g X) (And.intro (cv_pk_bear X (V_pk_bear had) (al_at 414 (by decide +kernel) rfl) ⟨by decide, by decide⟩) (trivial)))))) (S_sv_sendAccept x.1 x.2 a1 hp.2) (E_sv_sendAccept x.1 x.2 a1)
def sv_isAllowed (c : mx_C) (a1 : Int32) (a2 : Int32) : Int32 :=
  if a1 < 0 then
    0
  else
    if a1 < 4 then
      if (c.1 68 (Int32.toNatClampNeg a1)) = 0 then
        0
      else
        if (c.1 69 (Int32.toNatClampNeg a1)) = a2 then
          1
        else
          0
    else
      0
def K_sv_isAllowed : rx_K mx := k_RII (fun a0 a1 a2 c m => (a0 = 66, (c, m), some (.int (sv_isAllowed c a1 a2))))
def L_sv_isAllowed : List (rx_E mx) := [
  (0, .iload_n 1, 1, 0, 1, 0, [], kno),
  (1, .ifCond .lt 31, 3, 2, 18, 0, [], kno),
  (4, .iload_n 1, 1, 0, 1, 0, [], kno),
  (5, .iconst 4, 1, 0, 0, 4, [], kno),
  (6, .if_icmp .ge 26, 3, 2, 18, 0, [], kno),
  (9, .aload_n 0, 1, 0, 0, 0, [], kno),
  (10, .getfield 17, 3, 7, 1, 0, [], kgr0 7 6 68),
  (13, .iload_n 1, 1, 0, 1, 0, [], kno),
  (14, .baload, 1, 7, 2, 0, [], kab),
  (15, .ifCond .eq 17, 3, 2, 18, 0, [], kno),
  (18, .aload_n 0, 1, 0, 0, 0, [], kno),
  (19, .getfield 21, 3, 7, 1, 0, [], kgr0 7 7 69),
  (22, .iload_n 1, 1, 0, 1, 0, [], kno),
  (23, .iaload, 1, 7, 2, 0, [], kai),
  (24, .iload_n 2, 1, 0, 2, 0, [], kno),
  (25, .if_icmp .ne 7, 3, 2, 18, 0, [], kno),
  (28, .iconst 1, 1, 0, 0, 1, [], kno),
  (29, .goto 4, 3, 1, 19, 0, [], kno),
  (32, .iconst 0, 1, 0, 0, 0, [], kno),
  (33, .ireturn, 1, 5, 1, 0, [], kno)]
theorem E_sv_isAllowed (c : mx_C) (m : mx_M) (a1 : Int32) (a2 : Int32)  : rx_ev L_sv_isAllowed [] 22 L_sv_isAllowed (c, m) [some (.ref 66), some (.int a1), some (.int a2)] [] = rw_p c m (sv_isAllowed c a1 a2) :=
  rx_ite2 (f := rw_p c m) (fun _ => rfl) (fun _ => rx_ite2 (f := rw_p c m) (fun _ => rx_ite2 (f := rw_p c m) (fun _ => rfl) (fun _ => rx_ite2 (f := rw_p c m) (fun _ => rfl) (fun _ => rfl))) (fun _ => rfl))
theorem S_sv_isAllowed (c : mx_C) (m : mx_M) (a1 : Int32) (a2 : Int32)  : rx_sf L_sv_isAllowed [] 22 L_sv_isAllowed (c, m) [some (.ref 66), some (.int a1), some (.int a2)] [] :=
  And.intro (fun h0 => Or.inl rfl) (fun h0 => And.intro (fun h1 => And.intro rfl (And.intro (in4 h0 h1) (And.intro (fun h2 => Or.inl rfl) (fun h2 => And.intro rfl (And.intro (in4 h0 h1) (And.intro (fun h3 => Or.inr rfl) (fun h3 => Or.inl rfl))))))) (fun h1 => Or.inl rfl))

theorem ok_sv_isAllowed : rx_okF prog_8_method_11_code 3 (some .boolean) L_sv_isAllowed 0 L_sv_isAllowed = true := by decide +kernel
theorem V_sv_isAllowed {l : Launch} {D : va_G} {g : Nat → ClassId} {ad : Nat → Nat} {B : Nat} (had : mx_A ad B) : rx_V l D g ad B ⟨"SubscriberLines$Server", "isAllowed", "(II)Z"⟩ prog_8_method_11_code 3 (some .boolean) 0 0 K_sv_isAllowed := by
  intro av x hp
  obtain ⟨a0, a1, a2, rfl⟩ := k_RII_inv hp
  have hp : a0 = 66 := hp
  have h0 : a0 = 66 := hp
  subst h0
  exact rx_met (k := 0) had (by decide) (Nat.le_of_ble_eq_true rfl) ok_sv_isAllowed rfl rfl 22 (fun p e s m args below meth c X => And.intro (og_sv_17_g X) (And.intro (ox_ab X) (And.intro (og_sv_21_g X) (And.intro (ox_ai X) (trivial))))) (S_sv_isAllowed x.1 x.2 a1 a2 ) (E_sv_isAllowed x.1 x.2 a1 a2)
def sv_isFree_2 : Nat → mx_C → Int32 → Int32 → Int32
  | 0, c, _, _ => 0
  | n + 1, c, v1, v2 =>
    if v2 < (Int32.ofNat c.2.2.2.2.val) then
      if (c.1 (78 + (c.2.2.1 (Int32.toNatClampNeg v2)).val) 3) = v1 then
        0
      else
        sv_isFree_2 n c v1 (v2 + 1)
    else
      1
def sv_isFree (c : mx_C) (a1 : Int32) : Int32 :=
  sv_isFree_2 (5) c a1 0
def K_sv_isFree : rx_K mx := k_RI (fun a0 a1 c m => (a0 = 66, (c, m), some (.int (sv_isFree c a1))))
def L_sv_isFree : List (rx_E mx) := [
  (0, .iconst 0, 1, 0, 0, 0, [], kno),
  (1, .istore_n 2, 1, 0, 2, 0, [], kno),
  (2, .iload_n 2, 1, 0, 2, 0, [], kno),
  (3, .aload_n 0, 1, 0, 0, 0, [], kno),
  (4, .getfield 58, 3, 7, 1, 0, [], kgs),
  (7, .if_icmp .ge 24, 3, 2, 17, 0, [], kno),
  (10, .aload_n 0, 1, 0, 0, 0, [], kno),
  (11, .getfield 13, 3, 7, 1, 0, [], kgr0 7 4 67),
  (14, .iload_n 2, 1, 0, 2, 0, [], kno),
  (15, .aaload, 1, 7, 2, 0, [], kas),
  (16, .getfield 64, 3, 7, 1, 0, [], kgi 6 3),
  (19, .iload_n 1, 1, 0, 1, 0, [], kno),
  (20, .if_icmp .ne 5, 3, 2, 15, 0, [], kno),
  (23, .iconst 0, 1, 0, 0, 0, [], kno),
  (24, .ireturn, 1, 5, 1, 0, [], kno),
  (25, .iinc 2 1, 3, 0, 2, 1, [], kno),
  (28, .goto (-26), 3, 1, 2, 0, [], kno),
  (31, .iconst 1, 1, 0, 0, 1, [], kno),
  (32, .ireturn, 1, 5, 1, 0, [], kno)]
def G_sv_isFree (n : Nat) : rx_G := fun x ls st =>
  match ls, st with
  | [some (.ref r0), some (.int v1), some (.int v2)], [] => (r0 = 66 ∧ up4 n v2, rw_p x.1 x.2 (sv_isFree_2 n x.1 v1 v2))
  | _, _ => (False, (x, none))
theorem GI_sv_isFree {n : Nat} {x : mx} {ls : rx_L} {st : List Value} (h : (G_sv_isFree n x ls st).1) : ∃ (r0 : Nat) (v1 : Int32) (v2 : Int32), ls = [some (.ref r0), some (.int v1), some (.int v2)] ∧ st = [] ∧ r0 = 66 ∧ up4 n v2 := by
  unfold G_sv_isFree at h
  split at h
  · exact ⟨_, _, _, rfl, rfl, h⟩
  · exact False.elim h
theorem EH_sv_isFree (n : Nat) (c : mx_C) (m : mx_M) (v1 : Int32) (v2 : Int32) : rx_ev L_sv_isFree [(2, G_sv_isFree n)] 21 (L_sv_isFree.drop 2) (c, m) [some (.ref 66), some (.int v1), some (.int v2)] [] = rw_p c m (sv_isFree_2 (n + 1) c v1 v2) :=
  rx_ite2 (f := rw_p c m) (fun _ => rx_ite2 (f := rw_p c m) (fun _ => rfl) (fun _ => rfl)) (fun _ => rfl)
theorem SH_sv_isFree (n : Nat) (c : mx_C) (m : mx_M) (v1 : Int32) (v2 : Int32) (hP : up4 (n + 1) v2) : rx_sf L_sv_isFree [(2, G_sv_isFree n)] 21 (L_sv_isFree.drop 2) (c, m) [some (.ref 66), some (.int v1), some (.int v2)] [] :=
  And.intro rfl (And.intro (fun h0 => And.intro rfl (And.intro (up4_s h0 hP).1 (And.intro (mx_kl_ses _) (And.intro (fun h1 => Or.inl rfl) (fun h1 => And.intro rfl (up4_s h0 hP).2))))) (fun h0 => Or.inr rfl))
theorem E_sv_isFree (c : mx_C) (m : mx_M) (a1 : Int32)  : rx_ev L_sv_isFree [(2, G_sv_isFree (5))] 21 L_sv_isFree (c, m) [some (.ref 66), some (.int a1), none] [] = rw_p c m (sv_isFree c a1) :=
  rfl
theorem S_sv_isFree (c : mx_C) (m : mx_M) (a1 : Int32)  : rx_sf L_sv_isFree [(2, G_sv_isFree (5))] 21 L_sv_isFree (c, m) [some (.ref 66), some (.int a1), none] [] :=
  And.intro rfl (by decide)
theorem og_sv_58_g {p : Program} {l : Launch} {e : Env} {R : Room} {s : State} {m : MethodId} {args : Array Value} {below : List Frame} {meth : Method} {c : Code} {cc : ByteArray} {nL : Nat} {ad : Nat → Nat} {D : va_G} {g : Nat → ClassId} {B : Nat} (X : ox_C p s m args c cc nL "SubscriberLines$Server" D g ad B) : rx_OK p l e R s m args below meth c cc nL ad (mx_W D g ad B s.heap) mx_cs (.getfield 58) 3 1 (kgs) := ox_gs X (al_at 295 (by decide +kernel) rfl)
theorem og_sv_13_g {p : Program} {l : Launch} {e : Env} {R : Room} {s : State} {m : MethodId} {args : Array Value} {below : List Frame} {meth : Method} {c : Code} {cc : ByteArray} {nL : Nat} {ad : Nat → Nat} {D : va_G} {g : Nat → ClassId} {B : Nat} (X : ox_C p s m args c cc nL "SubscriberLines$Server" D g ad B) : rx_OK p l e R s m args below meth c cc nL ad (mx_W D g ad B s.heap) mx_cs (.getfield 13) 3 1 (kgr0 7 4 67) := ox_gr0 (T := T_7) X rfl (by decide) (by decide) in_7 rfl (al_at 293 (by decide +kernel) rfl)
theorem ok_sv_isFree : rx_okF prog_8_method_13_code 3 (some .boolean) L_sv_isFree 0 L_sv_isFree = true := by decide +kernel
theorem O_sv_isFree {l : Launch} {D : va_G} {g : Nat → ClassId} {ad : Nat → Nat} {B : Nat} (had : mx_A ad B) {p : Program} {e : Env} {s : State} {m : MethodId} {args : Array Value} {below : List Frame} {meth : Method} {c : Code} (X : ox_C p s m args c prog_8_method_13_code 3 "SubscriberLines$Server" D g ad B) : rx_ops p l e ({ frames := 0, cells := 0, slots := 0, locals := 0 } : Room) s m args below meth c prog_8_method_13_code 3 ad (mx_W D g ad B s.heap) mx_cs L_sv_isFree :=
  And.intro (og_sv_58_g X) (And.intro (og_sv_13_g X) (And.intro (ox_as X) (And.intro (og_sv_64_g X) (trivial))))
theorem V_sv_isFree {l : Launch} {D : va_G} {g : Nat → ClassId} {ad : Nat → Nat} {B : Nat} (had : mx_A ad B) : rx_V l D g ad B ⟨"SubscriberLines$Server", "isFree", "(I)Z"⟩ prog_8_method_13_code 3 (some .boolean) 0 0 K_sv_isFree := by
  intro av x hp
  obtain ⟨a0, a1, rfl⟩ := k_RI_inv hp
  have hp : a0 = 66 := hp
  have h0 : a0 = 66 := hp
  subst h0
  refine rx_metX (k := 1) had (by decide) (Nat.le_of_ble_eq_true rfl) fun p e s m args below meth c X hr hlk => ?_
  refine rx_walk X hr hlk ok_sv_isFree (O_sv_isFree had X) (cut := [(2, G_sv_isFree (5))]) (rx_cc ?_ rx_c0) 21 0 rfl (S_sv_isFree x.1 x.2 a1 ) (E_sv_isFree x.1 x.2 a1 )
  refine rx_loop (G := G_sv_isFree) X hr hlk ok_sv_isFree (O_sv_isFree had X) rx_c0 21 2 rfl (fun x ls st h => ?_) (fun n x ls st h => ?_) _
  · obtain ⟨r0, v1, v2, -, -, h3⟩ := GI_sv_isFree h
    have h4 := h3.2
    omega
  · obtain ⟨r0, v1, v2, rfl, rfl, h3⟩ := GI_sv_isFree h
    obtain ⟨rfl, hP⟩ := h3
    exact ⟨SH_sv_isFree n x.1 x.2 v1 v2 hP, EH_sv_isFree n x.1 x.2 v1 v2⟩
def sv_indexOf_2 : Nat → mx_C → Int32 → Int32 → Int32
  | 0, c, _, _ => 0
  | n + 1, c, v1, v2 =>
    if v2 < (Int32.ofNat c.2.2.2.2.val) then
      if (c.1 (78 + (c.2.2.1 (Int32.toNatClampNeg v2)).val) 0) = v1 then
        v2
      else
        sv_indexOf_2 n c v1 (v2 + 1)
    else
      (-1)
def sv_indexOf (c : mx_C) (a1 : Int32) : Int32 :=
  sv_indexOf_2 (5) c a1 0
def K_sv_indexOf : rx_K mx := k_RI (fun a0 a1 c m => (a0 = 66, (c, m), some (.int (sv_indexOf c a1))))
def L_sv_indexOf : List (rx_E mx) := [
  (0, .iconst 0, 1, 0, 0, 0, [], kno),
  (1, .istore_n 2, 1, 0, 2, 0, [], kno),
  (2, .iload_n 2, 1, 0, 2, 0, [], kno),
  (3, .aload_n 0, 1, 0, 0, 0, [], kno),
  (4, .getfield 58, 3, 7, 1, 0, [], kgs),
  (7, .if_icmp .ge 24, 3, 2, 17, 0, [], kno),
  (10, .aload_n 0, 1, 0, 0, 0, [], kno),
  (11, .getfield 13, 3, 7, 1, 0, [], kgr0 7 4 67),
  (14, .iload_n 2, 1, 0, 2, 0, [], kno),
  (15, .aaload, 1, 7, 2, 0, [], kas),
  (16, .getfield 176, 3, 7, 1, 0, [], kgi 6 0),
  (19, .iload_n 1, 1, 0, 1, 0, [], kno),
  (20, .if_icmp .ne 5, 3, 2, 15, 0, [], kno),
  (23, .iload_n 2, 1, 0, 2, 0, [], kno),
  (24, .ireturn, 1, 5, 0, 0, [], kno),
  (25, .iinc 2 1, 3, 0, 2, 1, [], kno),
  (28, .goto (-26), 3, 1, 2, 0, [], kno),
  (31, .iconst (-1), 1, 0, 0, (-1), [], kno),
  (32, .ireturn, 1, 5, 0, 0, [], kno)]
def G_sv_indexOf (n : Nat) : rx_G := fun x ls st =>
  match ls, st with
  | [some (.ref r0), some (.int v1), some (.int v2)], [] => (r0 = 66 ∧ up4 n v2, rw_p x.1 x.2 (sv_indexOf_2 n x.1 v1 v2))
  | _, _ => (False, (x, none))
theorem GI_sv_indexOf {n : Nat} {x : mx} {ls : rx_L} {st : List Value} (h : (G_sv_indexOf n x ls st).1) : ∃ (r0 : Nat) (v1 : Int32) (v2 : Int32), ls = [some (.ref r0), some (.int v1), some (.int v2)] ∧ st = [] ∧ r0 = 66 ∧ up4 n v2 := by
  unfold G_sv_indexOf at h
  split at h
  · exact ⟨_, _, _, rfl, rfl, h⟩
  · exact False.elim h
theorem EH_sv_indexOf (n : Nat) (c : mx_C) (m : mx_M) (v1 : Int32) (v2 : Int32) : rx_ev L_sv_indexOf [(2, G_sv_indexOf n)] 21 (L_sv_indexOf.drop 2) (c, m) [some (.ref 66), some (.int v1), some (.int v2)] [] = rw_p c m (sv_indexOf_2 (n + 1) c v1 v2) :=
  rx_ite2 (f := rw_p c m) (fun _ => rx_ite2 (f := rw_p c m) (fun _ => rfl) (fun _ => rfl)) (fun _ => rfl)
theorem SH_sv_indexOf (n : Nat) (c : mx_C) (m : mx_M) (v1 : Int32) (v2 : Int32) (hP : up4 (n + 1) v2) : rx_sf L_sv_indexOf [(2, G_sv_indexOf n)] 21 (L_sv_indexOf.drop 2) (c, m) [some (.ref 66), some (.int v1), some (.int v2)] [] :=
  And.intro rfl (And.intro (fun h0 => And.intro rfl (And.intro (up4_s h0 hP).1 (And.intro (mx_kl_ses _) (And.intro (fun h1 => trivial) (fun h1 => And.intro rfl (up4_s h0 hP).2))))) (fun h0 => trivial))
theorem E_sv_indexOf (c : mx_C) (m : mx_M) (a1 : Int32)  : rx_ev L_sv_indexOf [(2, G_sv_indexOf (5))] 21 L_sv_indexOf (c, m) [some (.ref 66), some (.int a1), none] [] = rw_p c m (sv_indexOf c a1) :=
  rfl
theorem S_sv_indexOf (c : mx_C) (m : mx_M) (a1 : Int32)  : rx_sf L_sv_indexOf [(2, G_sv_indexOf (5))] 21 L_sv_indexOf (c, m) [some (.ref 66), some (.int a1), none] [] :=
  And.intro rfl (by decide)
theorem og_sv_176_g {p : Program} {l : Launch} {e : Env} {R : Room} {s : State} {m : MethodId} {args : Array Value} {below : List Frame} {meth : Method} {c : Code} {cc : ByteArray} {nL : Nat} {ad : Nat → Nat} {D : va_G} {g : Nat → ClassId} {B : Nat} (X : ox_C p s m args c cc nL "SubscriberLines$Server" D g ad B) : rx_OK p l e R s m args below meth c cc nL ad (mx_W D g ad B s.heap) mx_cs (.getfield 176) 3 1 (kgi 6 0) := ox_gi (T := T_6) X rfl (by decide) (by decide) in_6 rfl (al_at 268 (by decide +kernel) rfl)
theorem ok_sv_indexOf : rx_okF prog_8_method_17_code 3 (some .int) L_sv_indexOf 0 L_sv_indexOf = true := by decide +kernel
theorem O_sv_indexOf {l : Launch} {D : va_G} {g : Nat → ClassId} {ad : Nat → Nat} {B : Nat} (had : mx_A ad B) {p : Program} {e : Env} {s : State} {m : MethodId} {args : Array Value} {below : List Frame} {meth : Method} {c : Code} (X : ox_C p s m args c prog_8_method_17_code 3 "SubscriberLines$Server" D g ad B) : rx_ops p l e ({ frames := 0, cells := 0, slots := 0, locals := 0 } : Room) s m args below meth c prog_8_method_17_code 3 ad (mx_W D g ad B s.heap) mx_cs L_sv_indexOf :=
  And.intro (og_sv_58_g X) (And.intro (og_sv_13_g X) (And.intro (ox_as X) (And.intro (og_sv_176_g X) (trivial))))
theorem V_sv_indexOf {l : Launch} {D : va_G} {g : Nat → ClassId} {ad : Nat → Nat} {B : Nat} (had : mx_A ad B) : rx_V l D g ad B ⟨"SubscriberLines$Server", "indexOf", "(I)I"⟩ prog_8_method_17_code 3 (some .int) 0 0 K_sv_indexOf := by
  intro av x hp
  obtain ⟨a0, a1, rfl⟩ := k_RI_inv hp
  have hp : a0 = 66 := hp
  have h0 : a0 = 66 := hp
  subst h0
  refine rx_metX (k := 1) had (by decide) (Nat.le_of_ble_eq_true rfl) fun p e s m args below meth c X hr hlk => ?_
  refine rx_walk X hr hlk ok_sv_indexOf (O_sv_indexOf had X) (cut := [(2, G_sv_indexOf (5))]) (rx_cc ?_ rx_c0) 21 0 rfl (S_sv_indexOf x.1 x.2 a1 ) (E_sv_indexOf x.1 x.2 a1 )
  refine rx_loop (G := G_sv_indexOf) X hr hlk ok_sv_indexOf (O_sv_indexOf had X) rx_c0 21 2 rfl (fun x ls st h => ?_) (fun n x ls st h => ?_) _
  · obtain ⟨r0, v1, v2, -, -, h3⟩ := GI_sv_indexOf h
    have h4 := h3.2
    omega
  · obtain ⟨r0, v1, v2, rfl, rfl, h3⟩ := GI_sv_indexOf h
    obtain ⟨rfl, hP⟩ := h3
    exact ⟨SH_sv_indexOf n x.1 x.2 v1 v2 hP, EH_sv_indexOf n x.1 x.2 v1 v2⟩
def sv_speak_2 : Nat → mx_C → Int32 → Int32 → Int32 → mx_C × Int32
  | 0, c, _, _, _ => (c, 0)
  | n + 1, c, v1, v2, v3 =>
    if v3 < (Int32.ofNat c.2.2.2.2.val) then
      if (c.1 (78 + (c.2.2.1 (Int32.toNatClampNeg v3)).val) 2) = 3 then
        if (c.1 (78 + (c.2.2.1 (Int32.toNatClampNeg v3)).val) 3) = v1 then
          let q1 := fl_launch c 11 5 4
          let c2 := pk_bear q1.1 q1.2 (q1.1.1 (78 + (c.2.2.1 (Int32.toNatClampNeg v3)).val) 1) v1 v2
          (c2, 1)
        else
          sv_speak_2 n c v1 v2 (v3 + 1)
      else
        sv_speak_2 n c v1 v2 (v3 + 1)
    else
      (c, 0)
def sv_speak (c : mx_C) (a1 : Int32) (a2 : Int32) : mx_C × Int32 :=
  sv_speak_2 (5) c a1 a2 0
def K_sv_speak : rx_K mx := k_RII (fun a0 a1 a2 c m => (a0 = 66, ((sv_speak c a1 a2).1, m), some (.int (sv_speak c a1 a2).2)))
def L_sv_speak : List (rx_E mx) := [
  (0, .iconst 0, 1, 0, 0, 0, [], kno),
  (1, .istore_n 3, 1, 0, 3, 0, [], kno),
  (2, .iload_n 3, 1, 0, 3, 0, [], kno),
  (3, .aload_n 0, 1, 0, 0, 0, [], kno),
  (4, .getfield 58, 3, 7, 1, 0, [], kgs),
  (7, .if_icmp .ge 58, 3, 2, 34, 0, [], kno),
  (10, .aload_n 0, 1, 0, 0, 0, [], kno),
  (11, .getfield 13, 3, 7, 1, 0, [], kgr0 7 4 67),
  (14, .iload_n 3, 1, 0, 3, 0, [], kno),
  (15, .aaload, 1, 7, 2, 0, [], kas),
  (16, .astore 4, 2, 0, 4, 0, [], kno),
  (18, .aload 4, 2, 0, 4, 0, [], kno),
  (20, .getfield 61, 3, 7, 1, 0, [], kgi 6 2),
  (23, .iconst 3, 1, 0, 0, 3, [], kno),
  (24, .if_icmp .ne 35, 3, 2, 32, 0, [], kno),
  (27, .aload 4, 2, 0, 4, 0, [], kno),
  (29, .getfield 64, 3, 7, 1, 0, [], kgi 6 3),
  (32, .iload_n 1, 1, 0, 1, 0, [], kno),
  (33, .if_icmp .ne 26, 3, 2, 32, 0, [], kno),
  (36, .aload_n 0, 1, 0, 0, 0, [], kno),
  (37, .getfield 37, 3, 7, 1, 0, [], kgr0 7 1 1),
  (40, .bipush 11, 2, 0, 0, 11, [], kno),
  (42, .iconst 5, 1, 0, 0, 5, [], kno),
  (43, .iconst 4, 1, 0, 0, 4, [], kno),
  (44, .invokevirtual 67, 3, 7, 4, 0, [], K_fl_launch),
  (47, .aload 4, 2, 0, 4, 0, [], kno),
  (49, .getfield 73, 3, 7, 1, 0, [], kgi 6 1),
  (52, .iload_n 1, 1, 0, 1, 0, [], kno),
  (53, .iload_n 2, 1, 0, 2, 0, [], kno),
  (54, .invokevirtual 76, 3, 7, 4, 0, [], K_pk_bear),
  (57, .iconst 1, 1, 0, 0, 1, [], kno),
  (58, .ireturn, 1, 5, 1, 0, [], kno),
  (59, .iinc 3 1, 3, 0, 3, 1, [], kno),
  (62, .goto (-60), 3, 1, 2, 0, [], kno),
  (65, .iconst 0, 1, 0, 0, 0, [], kno),
  (66, .ireturn, 1, 5, 1, 0, [], kno)]
def G_sv_speak (n : Nat) : rx_G := fun x ls st =>
  match ls, st with
  | [some (.ref r0), some (.int v1), some (.int v2), some (.int v3), o4], [] => (r0 = 66 ∧ up4 n v3, rw_i x.2 (sv_speak_2 n x.1 v1 v2 v3))
  | _, _ => (False, (x, none))
theorem GI_sv_speak {n : Nat} {x : mx} {ls : rx_L} {st : List Value} (h : (G_sv_speak n x ls st).1) : ∃ (r0 : Nat) (v1 : Int32) (v2 : Int32) (v3 : Int32) (o4 : Option Value), ls = [some (.ref r0), some (.int v1), some (.int v2), some (.int v3), o4] ∧ st = [] ∧ r0 = 66 ∧ up4 n v3 := by
  unfold G_sv_speak at h
  split at h
  · exact ⟨_, _, _, _, _, rfl, rfl, h⟩
  · exact False.elim h
theorem EH_sv_speak (n : Nat) (c : mx_C) (m : mx_M) (v1 : Int32) (v2 : Int32) (v3 : Int32) (o4 : Option Value) : rx_ev L_sv_speak [(2, G_sv_speak n)] 38 (L_sv_speak.drop 2) (c, m) [some (.ref 66), some (.int v1), some (.int v2), some (.int v3), o4] [] = rw_i m (sv_speak_2 (n + 1) c v1 v2 v3) :=
  rx_ite2 (f := rw_i m) (fun _ => rx_ite2 (f := rw_i m) (fun _ => rx_ite2 (f := rw_i m) (fun _ => rfl) (fun _ => rfl)) (fun _ => rfl)) (fun _ => rfl)
theorem SH_sv_speak (n : Nat) (c : mx_C) (m : mx_M) (v1 : Int32) (v2 : Int32) (v3 : Int32) (o4 : Option Value) (hP : up4 (n + 1) v3) : rx_sf L_sv_speak [(2, G_sv_speak n)] 38 (L_sv_speak.drop 2) (c, m) [some (.ref 66), some (.int v1), some (.int v2), some (.int v3), o4] [] :=
  And.intro rfl (And.intro (fun h0 => And.intro rfl (And.intro (up4_s h0 hP).1 (And.intro (mx_kl_ses _) (And.intro (fun h1 => And.intro (mx_kl_ses _) (And.intro (fun h2 => And.intro rfl (And.intro rfl (And.intro (mx_kl_ses _) (And.intro (fl_launch_pk _ _ _ _) (Or.inr rfl))))) (fun h2 => And.intro rfl (up4_s h0 hP).2))) (fun h1 => And.intro rfl (up4_s h0 hP).2))))) (fun h0 => Or.inl rfl))
theorem E_sv_speak (c : mx_C) (m : mx_M) (a1 : Int32) (a2 : Int32)  : rx_ev L_sv_speak [(2, G_sv_speak (5))] 38 L_sv_speak (c, m) [some (.ref 66), some (.int a1), some (.int a2), none, none] [] = rw_i m (sv_speak c a1 a2) :=
  rfl
theorem S_sv_speak (c : mx_C) (m : mx_M) (a1 : Int32) (a2 : Int32)  : rx_sf L_sv_speak [(2, G_sv_speak (5))] 38 L_sv_speak (c, m) [some (.ref 66), some (.int a1), some (.int a2), none, none] [] :=
  And.intro rfl (by decide)
theorem og_sv_61_g {p : Program} {l : Launch} {e : Env} {R : Room} {s : State} {m : MethodId} {args : Array Value} {below : List Frame} {meth : Method} {c : Code} {cc : ByteArray} {nL : Nat} {ad : Nat → Nat} {D : va_G} {g : Nat → ClassId} {B : Nat} (X : ox_C p s m args c cc nL "SubscriberLines$Server" D g ad B) : rx_OK p l e R s m args below meth c cc nL ad (mx_W D g ad B s.heap) mx_cs (.getfield 61) 3 1 (kgi 6 2) := ox_gi (T := T_6) X rfl (by decide) (by decide) in_6 rfl (al_at 272 (by decide +kernel) rfl)
theorem ok_sv_speak : rx_okF prog_8_method_4_code 5 (some .boolean) L_sv_speak 0 L_sv_speak = true := by decide +kernel
theorem O_sv_speak {l : Launch} {D : va_G} {g : Nat → ClassId} {ad : Nat → Nat} {B : Nat} (had : mx_A ad B) {p : Program} {e : Env} {s : State} {m : MethodId} {args : Array Value} {below : List Frame} {meth : Method} {c : Code} (X : ox_C p s m args c prog_8_method_4_code 5 "SubscriberLines$Server" D g ad B) : rx_ops p l e ({ frames := 1, cells := 0, slots := 0, locals := 24 } : Room) s m args below meth c prog_8_method_4_code 5 ad (mx_W D g ad B s.heap) mx_cs L_sv_speak :=
  And.intro (og_sv_58_g X) (And.intro (og_sv_13_g X) (And.intro (ox_as X) (And.intro (og_sv_61_g X) (And.intro (og_sv_64_g X) (And.intro (og_sv_37_g X) (And.intro (cv_fl_launch X (V_fl_launch had) (al_at 413 (by decide +kernel) rfl) ⟨by decide, by decide⟩) (And.intro (og_sv_73_g X) (And.intro (cv_pk_bear X (V_pk_bear had) (al_at 414 (by decide +kernel) rfl) ⟨by decide, by decide⟩) (trivial)))))))))
theorem V_sv_speak {l : Launch} {D : va_G} {g : Nat → ClassId} {ad : Nat → Nat} {B : Nat} (had : mx_A ad B) : rx_V l D g ad B ⟨"SubscriberLines$Server", "speak", "(II)Z"⟩ prog_8_method_4_code 5 (some .boolean) 1 24 K_sv_speak := by
  intro av x hp
  obtain ⟨a0, a1, a2, rfl⟩ := k_RII_inv hp
  have hp : a0 = 66 := hp
  have h0 : a0 = 66 := hp
  subst h0
  refine rx_metX (k := 2) had (by decide) (Nat.le_of_ble_eq_true rfl) fun p e s m args below meth c X hr hlk => ?_
  refine rx_walk X hr hlk ok_sv_speak (O_sv_speak had X) (cut := [(2, G_sv_speak (5))]) (rx_cc ?_ rx_c0) 38 0 rfl (S_sv_speak x.1 x.2 a1 a2 ) (E_sv_speak x.1 x.2 a1 a2 )
  refine rx_loop (G := G_sv_speak) X hr hlk ok_sv_speak (O_sv_speak had X) rx_c0 38 2 rfl (fun x ls st h => ?_) (fun n x ls st h => ?_) _
  · obtain ⟨r0, v1, v2, v3, o4, -, -, h3⟩ := GI_sv_speak h
    have h4 := h3.2
    omega
  · obtain ⟨r0, v1, v2, v3, o4, rfl, rfl, h3⟩ := GI_sv_speak h
    obtain ⟨rfl, hP⟩ := h3
    exact ⟨SH_sv_speak n x.1 x.2 v1 v2 v3 o4 hP, EH_sv_speak n x.1 x.2 v1 v2 v3 o4⟩
theorem sv_idxL (c : mx_C) (a : Int32) : ∀ (n : Nat) (v : Int32), up4 n v → ¬ sv_indexOf_2 n c a v < 0 → sv_at c (sv_indexOf_2 n c a v) := by
  intro n
  induction n with
  | zero => intro v hP; omega
  | succ n ih =>
    intro v hP
    unfold sv_indexOf_2
    split
    · rename_i h
      split
      · intro _
        rw [i_lt, i_of _ (by omega)] at h
        exact ⟨hP.1, h⟩
      · exact ih _ (up4_s h hP).2
    · intro h; exact absurd (by decide) h
theorem sv_idx_in {c : mx_C} {a : Int32} (h : ¬ sv_indexOf c a < 0) : sv_at c (sv_indexOf c a) := sv_idxL c a 5 0 (by decide) h
abbrev sv_pool (c : mx_C) : Prop := (c.1 66 3).toInt ≤ 4
abbrev up5 (n : Nat) (v : Int32) : Prop := 1 ≤ v.toInt ∧ v.toInt ≤ 5 ∧ 5 < (n : Int) + v.toInt
theorem up5_1 {n : Nat} {v q : Int32} (hq : q.toInt ≤ 4) (h : ¬ q < v) (hP : up5 (n + 1) v) : up5 n (v + 1) := by
  rw [i_lt] at h
  obtain ⟨p1, p2, p3⟩ := hP
  have e : (v + 1).toInt = v.toInt + 1 := i_add (show _ ≤ v.toInt + 1 by omega) (show v.toInt + 1 < _ by omega)
  unfold up5
  rw [e]
  omega
def sv_lowestFreeAddress_2 : Nat → mx_C → Int32 → Int32
  | 0, c, _ => 0
  | n + 1, c, v1 =>
    if (c.1 66 3) < v1 then
      0
    else
      if (sv_isFree c v1) = 0 then
        sv_lowestFreeAddress_2 n c (v1 + 1)
      else
        v1
def sv_lowestFreeAddress (c : mx_C)  : Int32 :=
  sv_lowestFreeAddress_2 (5) c 1
def K_sv_lowestFreeAddress : rx_K mx := k_R (fun a0 c m => (a0 = 66 ∧ sv_pool c, (c, m), some (.int (sv_lowestFreeAddress c))))
def L_sv_lowestFreeAddress : List (rx_E mx) := [
  (0, .iconst 1, 1, 0, 0, 1, [], kno),
  (1, .istore_n 1, 1, 0, 1, 0, [], kno),
  (2, .iload_n 1, 1, 0, 1, 0, [], kno),
  (3, .aload_n 0, 1, 0, 0, 0, [], kno),
  (4, .getfield 41, 3, 7, 1, 0, [], kgi 7 3),
  (7, .if_icmp .gt 19, 3, 2, 14, 0, [], kno),
  (10, .aload_n 0, 1, 0, 0, 0, [], kno),
  (11, .iload_n 1, 1, 0, 1, 0, [], kno),
  (12, .invokevirtual 167, 3, 7, 2, 0, [], K_sv_isFree),
  (15, .ifCond .eq 5, 3, 2, 12, 0, [], kno),
  (18, .iload_n 1, 1, 0, 1, 0, [], kno),
  (19, .ireturn, 1, 5, 0, 0, [], kno),
  (20, .iinc 1 1, 3, 0, 1, 1, [], kno),
  (23, .goto (-21), 3, 1, 2, 0, [], kno),
  (26, .iconst 0, 1, 0, 0, 0, [], kno),
  (27, .ireturn, 1, 5, 0, 0, [], kno)]
def G_sv_lowestFreeAddress (n : Nat) : rx_G := fun x ls st =>
  match ls, st with
  | [some (.ref r0), some (.int v1)], [] => (r0 = 66 ∧ (up5 n v1 ∧ sv_pool x.1), rw_p x.1 x.2 (sv_lowestFreeAddress_2 n x.1 v1))
  | _, _ => (False, (x, none))
theorem GI_sv_lowestFreeAddress {n : Nat} {x : mx} {ls : rx_L} {st : List Value} (h : (G_sv_lowestFreeAddress n x ls st).1) : ∃ (r0 : Nat) (v1 : Int32), ls = [some (.ref r0), some (.int v1)] ∧ st = [] ∧ r0 = 66 ∧ (up5 n v1 ∧ sv_pool x.1) := by
  unfold G_sv_lowestFreeAddress at h
  split at h
  · exact ⟨_, _, rfl, rfl, h⟩
  · exact False.elim h
theorem EH_sv_lowestFreeAddress (n : Nat) (c : mx_C) (m : mx_M) (v1 : Int32) : rx_ev L_sv_lowestFreeAddress [(2, G_sv_lowestFreeAddress n)] 18 (L_sv_lowestFreeAddress.drop 2) (c, m) [some (.ref 66), some (.int v1)] [] = rw_p c m (sv_lowestFreeAddress_2 (n + 1) c v1) :=
  rx_ite2 (f := rw_p c m) (fun _ => rfl) (fun _ => rx_ite2 (f := rw_p c m) (fun _ => rfl) (fun _ => rfl))
theorem SH_sv_lowestFreeAddress (n : Nat) (c : mx_C) (m : mx_M) (v1 : Int32) (hP : (up5 (n + 1) v1 ∧ sv_pool c)) : rx_sf L_sv_lowestFreeAddress [(2, G_sv_lowestFreeAddress n)] 18 (L_sv_lowestFreeAddress.drop 2) (c, m) [some (.ref 66), some (.int v1)] [] :=
  And.intro rfl (And.intro (fun h0 => trivial) (fun h0 => And.intro rfl (And.intro (fun h1 => And.intro rfl (And.intro (up5_1 hP.2 h0 hP.1) hP.2)) (fun h1 => trivial))))
theorem E_sv_lowestFreeAddress (c : mx_C) (m : mx_M)   : rx_ev L_sv_lowestFreeAddress [(2, G_sv_lowestFreeAddress (5))] 18 L_sv_lowestFreeAddress (c, m) [some (.ref 66), none] [] = rw_p c m (sv_lowestFreeAddress c) :=
  rfl
theorem S_sv_lowestFreeAddress (c : mx_C) (m : mx_M)  (hq : sv_pool c) : rx_sf L_sv_lowestFreeAddress [(2, G_sv_lowestFreeAddress (5))] 18 L_sv_lowestFreeAddress (c, m) [some (.ref 66), none] [] :=
  And.intro rfl (And.intro (by decide) hq)
theorem og_sv_41_g {p : Program} {l : Launch} {e : Env} {R : Room} {s : State} {m : MethodId} {args : Array Value} {below : List Frame} {meth : Method} {c : Code} {cc : ByteArray} {nL : Nat} {ad : Nat → Nat} {D : va_G} {g : Nat → ClassId} {B : Nat} (X : ox_C p s m args c cc nL "SubscriberLines$Server" D g ad B) : rx_OK p l e R s m args below meth c cc nL ad (mx_W D g ad B s.heap) mx_cs (.getfield 41) 3 1 (kgi 7 3) := ox_gi (T := T_7) X rfl (by decide) (by decide) in_7 rfl (al_at 292 (by decide +kernel) rfl)
theorem cv_sv_isFree {p : Program} {l : Launch} {e : Env} {R : Room} {s : State} {m : MethodId} {args : Array Value} {below : List Frame} {meth : Method} {c : Code} {cc : ByteArray} {nL : Nat} {ad : Nat → Nat} {D : va_G} {g : Nat → ClassId} {B : Nat} {own : String} {idx : Nat} (X : ox_C p s m args c cc nL own D g ad B) (hV : rx_V l D g ad B ⟨"SubscriberLines$Server", "isFree", "(I)Z"⟩ prog_8_method_13_code 3 (some .boolean) 0 0 K_sv_isFree) (hl : Cond.methodLink own idx ⟨"SubscriberLines$Server", "isFree", "(I)Z"⟩ ∈ al) (hR : 0 + 1 ≤ R.frames ∧ 8 + (3 + 11) + 0 ≤ R.locals) : rx_OK p l e R s m args below meth c cc nL ad (mx_W D g ad B s.heap) mx_cs (.invokevirtual idx) 3 2 (K_sv_isFree) :=
  ox_callV (q := 7) (T := T_7) X hV (fun av x h => by obtain ⟨a0, a1, rfl⟩ := k_RI_inv h; exact ⟨a0, _, rfl, by have h2 : a0 = 66 := h; rw [h2]; rfl⟩) (by decide) rfl hl (al_at 545 (by decide +kernel) rfl) (al_pr (y := (⟨"SubscriberLines$Server", "isFree", "(I)Z"⟩, _)) 19 rfl) (al_at 9 (by decide +kernel) rfl) (al_at 546 (by decide +kernel) rfl) ⟨by decide, by decide, by decide +kernel⟩ hR
theorem ok_sv_lowestFreeAddress : rx_okF prog_8_method_12_code 2 (some .int) L_sv_lowestFreeAddress 0 L_sv_lowestFreeAddress = true := by decide +kernel
theorem O_sv_lowestFreeAddress {l : Launch} {D : va_G} {g : Nat → ClassId} {ad : Nat → Nat} {B : Nat} (had : mx_A ad B) {p : Program} {e : Env} {s : State} {m : MethodId} {args : Array Value} {below : List Frame} {meth : Method} {c : Code} (X : ox_C p s m args c prog_8_method_12_code 2 "SubscriberLines$Server" D g ad B) : rx_ops p l e ({ frames := 1, cells := 0, slots := 0, locals := 22 } : Room) s m args below meth c prog_8_method_12_code 2 ad (mx_W D g ad B s.heap) mx_cs L_sv_lowestFreeAddress :=
  And.intro (og_sv_41_g X) (And.intro (cv_sv_isFree X (V_sv_isFree had) (al_at 543 (by decide +kernel) rfl) ⟨by decide, by decide⟩) (trivial))
theorem V_sv_lowestFreeAddress {l : Launch} {D : va_G} {g : Nat → ClassId} {ad : Nat → Nat} {B : Nat} (had : mx_A ad B) : rx_V l D g ad B ⟨"SubscriberLines$Server", "lowestFreeAddress", "()I"⟩ prog_8_method_12_code 2 (some .int) 1 22 K_sv_lowestFreeAddress := by
  intro av x hp
  obtain ⟨a0, rfl⟩ := k_R_inv hp
  have hp : a0 = 66 ∧ sv_pool x.1 := hp
  have h0 : a0 = 66 := hp.1
  subst h0
  refine rx_metX (k := 1) had (by decide) (Nat.le_of_ble_eq_true rfl) fun p e s m args below meth c X hr hlk => ?_
  refine rx_walk X hr hlk ok_sv_lowestFreeAddress (O_sv_lowestFreeAddress had X) (cut := [(2, G_sv_lowestFreeAddress (5))]) (rx_cc ?_ rx_c0) 18 0 rfl (S_sv_lowestFreeAddress x.1 x.2  hp.2) (E_sv_lowestFreeAddress x.1 x.2  )
  refine rx_loop (G := G_sv_lowestFreeAddress) X hr hlk ok_sv_lowestFreeAddress (O_sv_lowestFreeAddress had X) rx_c0 18 2 rfl (fun x ls st h => ?_) (fun n x ls st h => ?_) _
  · obtain ⟨r0, v1, -, -, h3⟩ := GI_sv_lowestFreeAddress h
    have h4 := h3.2
    omega
  · obtain ⟨r0, v1, rfl, rfl, h3⟩ := GI_sv_lowestFreeAddress h
    obtain ⟨rfl, hP⟩ := h3
    exact ⟨SH_sv_lowestFreeAddress n x.1 x.2 v1 hP, EH_sv_lowestFreeAddress n x.1 x.2 v1⟩
def sv_remove_9 : Nat → mx_C → Int32 → Nat → Int32 → mx_C
  | 0, c, _, _, _ => c
  | n + 1, c, v1, r2, v3 =>
    if v3 < ((Int32.ofNat c.2.2.2.2.val) - 1) then
      let c1 := mx_ps c (Int32.toNatClampNeg v3) (Fin.ofNat 4 ((78 + (c.2.2.1 (Int32.toNatClampNeg (v3 + 1))).val) - 78))
      sv_remove_9 n c1 v1 r2 (v3 + 1)
    else
      let c2 := mx_pc c ((Int32.ofNat c.2.2.2.2.val) - 1)
      let c3 := mx_ps c2 (Int32.toNatClampNeg (Int32.ofNat c2.2.2.2.2.val)) (Fin.ofNat 4 (r2 - 78))
      c3
def sv_remove (c : mx_C) (a1 : Int32) : mx_C :=
  sv_remove_9 (6) c a1 (78 + (c.2.2.1 (Int32.toNatClampNeg a1)).val) a1
def K_sv_remove : rx_K mx := k_RI (fun a0 a1 c m => (a0 = 66 ∧ sv_at c a1, (sv_remove c a1, m), none))
def L_sv_remove : List (rx_E mx) := [
  (0, .aload_n 0, 1, 0, 0, 0, [], kno),
  (1, .getfield 13, 3, 7, 1, 0, [], kgr0 7 4 67),
  (4, .iload_n 1, 1, 0, 1, 0, [], kno),
  (5, .aaload, 1, 7, 2, 0, [], kas),
  (6, .astore_n 2, 1, 0, 2, 0, [], kno),
  (7, .iload_n 1, 1, 0, 1, 0, [], kno),
  (8, .istore_n 3, 1, 0, 3, 0, [], kno),
  (9, .iload_n 3, 1, 0, 3, 0, [], kno),
  (10, .aload_n 0, 1, 0, 0, 0, [], kno),
  (11, .getfield 58, 3, 7, 1, 0, [], kgs),
  (14, .iconst 1, 1, 0, 0, 1, [], kno),
  (15, .isub, 1, 0, 0, 0, [], kno),
  (16, .if_icmp .ge 23, 3, 2, 25, 0, [], kno),
  (19, .aload_n 0, 1, 0, 0, 0, [], kno),
  (20, .getfield 13, 3, 7, 1, 0, [], kgr0 7 4 67),
  (23, .iload_n 3, 1, 0, 3, 0, [], kno),
  (24, .aload_n 0, 1, 0, 0, 0, [], kno),
  (25, .getfield 13, 3, 7, 1, 0, [], kgr0 7 4 67),
  (28, .iload_n 3, 1, 0, 3, 0, [], kno),
  (29, .iconst 1, 1, 0, 0, 1, [], kno),
  (30, .iadd, 1, 0, 0, 0, [], kno),
  (31, .aaload, 1, 7, 2, 0, [], kas),
  (32, .aastore, 1, 7, 3, 0, [], kpq),
  (33, .iinc 3 1, 3, 0, 3, 1, [], kno),
  (36, .goto (-27), 3, 1, 7, 0, [], kno),
  (39, .aload_n 0, 1, 0, 0, 0, [], kno),
  (40, .dup, 1, 0, 0, 0, [], kno),
  (41, .getfield 58, 3, 7, 1, 0, [], kgs),
  (44, .iconst 1, 1, 0, 0, 1, [], kno),
  (45, .isub, 1, 0, 0, 0, [], kno),
  (46, .putfield 58, 3, 7, 2, 0, [], kps),
  (49, .aload_n 0, 1, 0, 0, 0, [], kno),
  (50, .getfield 13, 3, 7, 1, 0, [], kgr0 7 4 67),
  (53, .aload_n 0, 1, 0, 0, 0, [], kno),
  (54, .getfield 58, 3, 7, 1, 0, [], kgs),
  (57, .aload_n 2, 1, 0, 2, 0, [], kno),
  (58, .aastore, 1, 7, 3, 0, [], kpq),
  (59, .return_, 1, 6, 0, 0, [], kno)]
def G_sv_remove (n : Nat) : rx_G := fun x ls st =>
  match ls, st with
  | [some (.ref r0), some (.int v1), some (.ref r2), some (.int v3)], [] => (r0 = 66 ∧ sv_rP n v3 r2 x.1.2.2.2.2, rw_v x.2 (sv_remove_9 n x.1 v1 r2 v3))
  | _, _ => (False, (x, none))
theorem GI_sv_remove {n : Nat} {x : mx} {ls : rx_L} {st : List Value} (h : (G_sv_remove n x ls st).1) : ∃ (r0 : Nat) (v1 : Int32) (r2 : Nat) (v3 : Int32), ls = [some (.ref r0), some (.int v1), some (.ref r2), some (.int v3)] ∧ st = [] ∧ r0 = 66 ∧ sv_rP n v3 r2 x.1.2.2.2.2 := by
  unfold G_sv_remove at h
  split at h
  · exact ⟨_, _, _, _, rfl, rfl, h⟩
  · exact False.elim h
theorem EH_sv_remove (n : Nat) (c : mx_C) (m : mx_M) (v1 : Int32) (r2 : Nat) (v3 : Int32) : rx_ev L_sv_remove [(9, G_sv_remove n)] 40 (L_sv_remove.drop 7) (c, m) [some (.ref 66), some (.int v1), some (.ref r2), some (.int v3)] [] = rw_v m (sv_remove_9 (n + 1) c v1 r2 v3) :=
  rx_ite2 (f := rw_v m) (fun _ => rfl) (fun _ => rfl)
theorem SH_sv_remove (n : Nat) (c : mx_C) (m : mx_M) (v1 : Int32) (r2 : Nat) (v3 : Int32) (hP : sv_rP (n + 1) v3 r2 c.2.2.2.2) : rx_sf L_sv_remove [(9, G_sv_remove n)] 40 (L_sv_remove.drop 7) (c, m) [some (.ref 66), some (.int v1), some (.ref r2), some (.int v3)] [] :=
  And.intro rfl (And.intro (fun h0 => And.intro rfl (And.intro rfl (And.intro (sv_rP1 h0 hP).1.2 (And.intro (And.intro (sv_rP1 h0 hP).1.1 (sv_ses_in _)) (And.intro rfl (sv_rP1 h0 hP).2))))) (fun h0 => And.intro rfl (And.intro (And.intro rfl (sc_dec hP.2.2.2.2)) (And.intro rfl (And.intro rfl (And.intro (And.intro (sc_ix hP.2.2.2.2) hP.2.2.2.1) (trivial)))))))
theorem E_sv_remove (c : mx_C) (m : mx_M) (a1 : Int32)  : rx_ev L_sv_remove [(9, G_sv_remove (6))] 40 L_sv_remove (c, m) [some (.ref 66), some (.int a1), none, none] [] = rw_v m (sv_remove c a1) :=
  rfl
theorem S_sv_remove (c : mx_C) (m : mx_M) (a1 : Int32) (ha : sv_at c a1) : rx_sf L_sv_remove [(9, G_sv_remove (6))] 40 L_sv_remove (c, m) [some (.ref 66), some (.int a1), none, none] [] :=
  And.intro rfl (And.intro (sv_at_in ha) (And.intro rfl (sv_rP0 ha)))
theorem ok_sv_remove : rx_okF prog_8_method_19_code 4 none L_sv_remove 0 L_sv_remove = true := by decide +kernel
theorem O_sv_remove {l : Launch} {D : va_G} {g : Nat → ClassId} {ad : Nat → Nat} {B : Nat} (had : mx_A ad B) {p : Program} {e : Env} {s : State} {m : MethodId} {args : Array Value} {below : List Frame} {meth : Method} {c : Code} (X : ox_C p s m args c prog_8_method_19_code 4 "SubscriberLines$Server" D g ad B) : rx_ops p l e ({ frames := 0, cells := 0, slots := 0, locals := 0 } : Room) s m args below meth c prog_8_method_19_code 4 ad (mx_W D g ad B s.heap) mx_cs L_sv_remove :=
  And.intro (og_sv_13_g X) (And.intro (ox_as X) (And.intro (og_sv_58_g X) (And.intro (og_sv_13_g X) (And.intro (og_sv_13_g X) (And.intro (ox_as X) (And.intro (ox_pq X) (And.intro (og_sv_58_g X) (And.intro (og_sv_58_p X) (And.intro (og_sv_13_g X) (And.intro (og_sv_58_g X) (And.intro (ox_pq X) (trivial))))))))))))
theorem V_sv_remove {l : Launch} {D : va_G} {g : Nat → ClassId} {ad : Nat → Nat} {B : Nat} (had : mx_A ad B) : rx_V l D g ad B ⟨"SubscriberLines$Server", "remove", "(I)V"⟩ prog_8_method_19_code 4 none 0 0 K_sv_remove := by
  intro av x hp
  obtain ⟨a0, a1, rfl⟩ := k_RI_inv hp
  have hp : a0 = 66 ∧ sv_at x.1 a1 := hp
  have h0 : a0 = 66 := hp.1
  subst h0
  refine rx_metX (k := 2) had (by decide) (Nat.le_of_ble_eq_true rfl) fun p e s m args below meth c X hr hlk => ?_
  refine rx_walk X hr hlk ok_sv_remove (O_sv_remove had X) (cut := [(9, G_sv_remove (6))]) (rx_cc ?_ rx_c0) 40 0 rfl (S_sv_remove x.1 x.2 a1 hp.2) (E_sv_remove x.1 x.2 a1 )
  refine rx_loop (G := G_sv_remove) X hr hlk ok_sv_remove (O_sv_remove had X) rx_c0 40 7 rfl (fun x ls st h => ?_) (fun n x ls st h => ?_) _
  · obtain ⟨r0, v1, r2, v3, -, -, h3⟩ := GI_sv_remove h
    have h4 := h3.2
    omega
  · obtain ⟨r0, v1, r2, v3, rfl, rfl, h3⟩ := GI_sv_remove h
    obtain ⟨rfl, hP⟩ := h3
    exact ⟨SH_sv_remove n x.1 x.2 v1 r2 v3 hP, EH_sv_remove n x.1 x.2 v1 r2 v3⟩
def sv_endSession (c : mx_C) (a1 : Int32) : mx_C :=
  let c1 := sv_remove c a1
  let c2 := en_put c1 74 15 (c.1 (78 + (c.2.2.1 (Int32.toNatClampNeg a1)).val) 1) 0
  c2
def K_sv_endSession : rx_K mx := k_RI (fun a0 a1 c m => (a0 = 66 ∧ sv_at c a1, (sv_endSession c a1, m), none))
def L_sv_endSession : List (rx_E mx) := [
  (0, .aload_n 0, 1, 0, 0, 0, [], kno),
  (1, .getfield 13, 3, 7, 1, 0, [], kgr0 7 4 67),
  (4, .iload_n 1, 1, 0, 1, 0, [], kno),
  (5, .aaload, 1, 7, 2, 0, [], kas),
  (6, .getfield 73, 3, 7, 1, 0, [], kgi 6 1),
  (9, .istore_n 2, 1, 0, 2, 0, [], kno),
  (10, .aload_n 0, 1, 0, 0, 0, [], kno),
  (11, .iload_n 1, 1, 0, 1, 0, [], kno),
  (12, .invokevirtual 123, 3, 7, 2, 0, [], K_sv_remove),
  (15, .aload_n 0, 1, 0, 0, 0, [], kno),
  (16, .getfield 50, 3, 7, 1, 0, [], kgr0 7 2 74),
  (19, .bipush 15, 2, 0, 0, 15, [], kno),
  (21, .iload_n 2, 1, 0, 2, 0, [], kno),
  (22, .iconst 0, 1, 0, 0, 0, [], kno),
  (23, .invokevirtual 126, 3, 7, 4, 0, [], K_en_put),
  (26, .return_, 1, 6, 0, 0, [], kno)]
theorem E_sv_endSession (c : mx_C) (m : mx_M) (a1 : Int32)  : rx_ev L_sv_endSession [] 18 L_sv_endSession (c, m) [some (.ref 66), some (.int a1), none] [] = rw_v m (sv_endSession c a1) :=
  rfl
theorem S_sv_endSession (c : mx_C) (m : mx_M) (a1 : Int32) (ha : sv_at c a1) : rx_sf L_sv_endSession [] 18 L_sv_endSession (c, m) [some (.ref 66), some (.int a1), none] [] :=
  And.intro rfl (And.intro (sv_at_in ha) (And.intro (mx_kl_ses _) (And.intro (And.intro rfl ha) (And.intro rfl (And.intro rfl (trivial))))))

theorem cv_sv_remove {p : Program} {l : Launch} {e : Env} {R : Room} {s : State} {m : MethodId} {args : Array Value} {below : List Frame} {meth : Method} {c : Code} {cc : ByteArray} {nL : Nat} {ad : Nat → Nat} {D : va_G} {g : Nat → ClassId} {B : Nat} {own : String} {idx : Nat} (X : ox_C p s m args c cc nL own D g ad B) (hV : rx_V l D g ad B ⟨"SubscriberLines$Server", "remove", "(I)V"⟩ prog_8_method_19_code 4 none 0 0 K_sv_remove) (hl : Cond.methodLink own idx ⟨"SubscriberLines$Server", "remove", "(I)V"⟩ ∈ al) (hR : 0 + 1 ≤ R.frames ∧ 8 + (4 + 11) + 0 ≤ R.locals) : rx_OK p l e R s m args below meth c cc nL ad (mx_W D g ad B s.heap) mx_cs (.invokevirtual idx) 3 2 (K_sv_remove) :=
  ox_callV (q := 7) (T := T_7) X hV (fun av x h => by obtain ⟨a0, a1, rfl⟩ := k_RI_inv h; exact ⟨a0, _, rfl, by have h2 : a0 = 66 := h.1; rw [h2]; rfl⟩) (by decide) rfl hl (al_at 561 (by decide +kernel) rfl) (al_pr (y := (⟨"SubscriberLines$Server", "remove", "(I)V"⟩, _)) 23 rfl) (al_at 9 (by decide +kernel) rfl) (al_at 562 (by decide +kernel) rfl) ⟨by decide, by decide, by decide +kernel⟩ hR
theorem ok_sv_endSession : rx_okF prog_8_method_18_code 3 none L_sv_endSession 0 L_sv_endSession = true := by decide +kernel
theorem V_sv_endSession {l : Launch} {D : va_G} {g : Nat → ClassId} {ad : Nat → Nat} {B : Nat} (had : mx_A ad B) : rx_V l D g ad B ⟨"SubscriberLines$Server", "endSession", "(I)V"⟩ prog_8_method_18_code 3 none 3 71 K_sv_endSession := by
  intro av x hp
  obtain ⟨a0, a1, rfl⟩ := k_RI_inv hp
  have hp : a0 = 66 ∧ sv_at x.1 a1 := hp
  have h0 : a0 = 66 := hp.1
  subst h0
  exact rx_met (k := 1) had (by decide) (Nat.le_of_ble_eq_true rfl) ok_sv_endSession rfl rfl 18 (fun p e s m args below meth c X => And.intro (og_sv_13_g X) (And.intro (ox_as X) (And.intro (og_sv_73_g X) (And.intro (cv_sv_remove X (V_sv_remove had) (al_at 559 (by decide +kernel) rfl) ⟨by decide, by decide⟩) (And.intro (og_sv_50_g X) (And.intro (cv_en_put X (V_en_put had) (al_at 563 (by decide +kernel) rfl) ⟨by decide, by decide⟩) (trivial))))))) (S_sv_endSession x.1 x.2 a1 hp.2) (E_sv_endSession x.1 x.2 a1)
def sv_passToCore (c : mx_C) (a1 : Nat) (a2 : Nat) : mx_C :=
  if (c.1 a1 2) = 3 then
    if (c.1 a2 4) = (c.1 a1 3) then
      let c1 := hi_add c 70 (c.1 a2 5)
      let c2 := hi_add c1 72 (c1.1 a2 4)
      c2
    else
      let c3 := mx_pi c 66 10 ((c.1 66 10) + 1)
      c3
  else
    let c4 := mx_pi c 66 10 ((c.1 66 10) + 1)
    c4
def K_sv_passToCore : rx_K mx := k_RRR (fun a0 a1 a2 c m => (a0 = 66 ∧ mx_kl a1 = 6 ∧ mx_kl a2 = 2, (sv_passToCore c a1 a2, m), none))
def L_sv_passToCore : List (rx_E mx) := [
  (0, .aload_n 1, 1, 0, 1, 0, [], kno),
  (1, .getfield 61, 3, 7, 1, 0, [], kgi 6 2),
  (4, .iconst 3, 1, 0, 0, 3, [], kno),
  (5, .if_icmp .ne 39, 3, 2, 20, 0, [], kno),
  (8, .aload_n 2, 1, 0, 2, 0, [], kno),
  (9, .getfield 157, 3, 7, 1, 0, [], kgi 2 4),
  (12, .aload_n 1, 1, 0, 1, 0, [], kno),
  (13, .getfield 64, 3, 7, 1, 0, [], kgi 6 3),
  (16, .if_icmp .ne 28, 3, 2, 20, 0, [], kno),
  (19, .aload_n 0, 1, 0, 0, 0, [], kno),
  (20, .getfield 30, 3, 7, 1, 0, [], kgr0 7 8 70),
  (23, .aload_n 2, 1, 0, 2, 0, [], kno),
  (24, .getfield 160, 3, 7, 1, 0, [], kgi 2 5),
  (27, .invokevirtual 170, 3, 7, 2, 0, [], K_hi_add),
  (30, .aload_n 0, 1, 0, 0, 0, [], kno),
  (31, .getfield 34, 3, 7, 1, 0, [], kgr0 7 9 72),
  (34, .aload_n 2, 1, 0, 2, 0, [], kno),
  (35, .getfield 157, 3, 7, 1, 0, [], kgi 2 4),
  (38, .invokevirtual 170, 3, 7, 2, 0, [], K_hi_add),
  (41, .goto 13, 3, 1, 26, 0, [], kno),
  (44, .aload_n 0, 1, 0, 0, 0, [], kno),
  (45, .dup, 1, 0, 0, 0, [], kno),
  (46, .getfield 173, 3, 7, 1, 0, [], kgi 7 10),
  (49, .iconst 1, 1, 0, 0, 1, [], kno),
  (50, .iadd, 1, 0, 0, 0, [], kno),
  (51, .putfield 173, 3, 7, 2, 0, [], kpi 7 10),
  (54, .return_, 1, 6, 0, 0, [], kno)]
theorem E_sv_passToCore (c : mx_C) (m : mx_M) (a1 : Nat) (a2 : Nat)  : rx_ev L_sv_passToCore [] 29 L_sv_passToCore (c, m) [some (.ref 66), some (.ref a1), some (.ref a2)] [] = rw_v m (sv_passToCore c a1 a2) :=
  rx_ite2 (f := rw_v m) (fun _ => rx_ite2 (f := rw_v m) (fun _ => rfl) (fun _ => rfl)) (fun _ => rfl)
theorem S_sv_passToCore (c : mx_C) (m : mx_M) (a1 : Nat) (a2 : Nat) (ha1 : mx_kl a1 = 6) (ha2 : mx_kl a2 = 2) : rx_sf L_sv_passToCore [] 29 L_sv_passToCore (c, m) [some (.ref 66), some (.ref a1), some (.ref a2)] [] :=
  And.intro ha1 (And.intro (fun h0 => And.intro ha2 (And.intro ha1 (And.intro (fun h1 => And.intro rfl (And.intro ha2 (And.intro rfl (And.intro rfl (And.intro ha2 (And.intro rfl (trivial))))))) (fun h1 => And.intro rfl (And.intro rfl (trivial)))))) (fun h0 => And.intro rfl (And.intro rfl (trivial))))

theorem og_sv_157_g {p : Program} {l : Launch} {e : Env} {R : Room} {s : State} {m : MethodId} {args : Array Value} {below : List Frame} {meth : Method} {c : Code} {cc : ByteArray} {nL : Nat} {ad : Nat → Nat} {D : va_G} {g : Nat → ClassId} {B : Nat} (X : ox_C p s m args c cc nL "SubscriberLines$Server" D g ad B) : rx_OK p l e R s m args below meth c cc nL ad (mx_W D g ad B s.heap) mx_cs (.getfield 157) 3 1 (kgi 2 4) := ox_gi (T := T_2) X rfl (by decide) (by decide) in_2 rfl (al_at 55 (by decide +kernel) rfl)
theorem og_sv_30_g {p : Program} {l : Launch} {e : Env} {R : Room} {s : State} {m : MethodId} {args : Array Value} {below : List Frame} {meth : Method} {c : Code} {cc : ByteArray} {nL : Nat} {ad : Nat → Nat} {D : va_G} {g : Nat → ClassId} {B : Nat} (X : ox_C p s m args c cc nL "SubscriberLines$Server" D g ad B) : rx_OK p l e R s m args below meth c cc nL ad (mx_W D g ad B s.heap) mx_cs (.getfield 30) 3 1 (kgr0 7 8 70) := ox_gr0 (T := T_7) X rfl (by decide) (by decide) in_7 rfl (al_at 299 (by decide +kernel) rfl)
theorem og_sv_160_g {p : Program} {l : Launch} {e : Env} {R : Room} {s : State} {m : MethodId} {args : Array Value} {below : List Frame} {meth : Method} {c : Code} {cc : ByteArray} {nL : Nat} {ad : Nat → Nat} {D : va_G} {g : Nat → ClassId} {B : Nat} (X : ox_C p s m args c cc nL "SubscriberLines$Server" D g ad B) : rx_OK p l e R s m args below meth c cc nL ad (mx_W D g ad B s.heap) mx_cs (.getfield 160) 3 1 (kgi 2 5) := ox_gi (T := T_2) X rfl (by decide) (by decide) in_2 rfl (al_at 60 (by decide +kernel) rfl)
theorem og_sv_34_g {p : Program} {l : Launch} {e : Env} {R : Room} {s : State} {m : MethodId} {args : Array Value} {below : List Frame} {meth : Method} {c : Code} {cc : ByteArray} {nL : Nat} {ad : Nat → Nat} {D : va_G} {g : Nat → ClassId} {B : Nat} (X : ox_C p s m args c cc nL "SubscriberLines$Server" D g ad B) : rx_OK p l e R s m args below meth c cc nL ad (mx_W D g ad B s.heap) mx_cs (.getfield 34) 3 1 (kgr0 7 9 72) := ox_gr0 (T := T_7) X rfl (by decide) (by decide) in_7 rfl (al_at 301 (by decide +kernel) rfl)
theorem og_sv_173_g {p : Program} {l : Launch} {e : Env} {R : Room} {s : State} {m : MethodId} {args : Array Value} {below : List Frame} {meth : Method} {c : Code} {cc : ByteArray} {nL : Nat} {ad : Nat → Nat} {D : va_G} {g : Nat → ClassId} {B : Nat} (X : ox_C p s m args c cc nL "SubscriberLines$Server" D g ad B) : rx_OK p l e R s m args below meth c cc nL ad (mx_W D g ad B s.heap) mx_cs (.getfield 173) 3 1 (kgi 7 10) := ox_gi (T := T_7) X rfl (by decide) (by decide) in_7 rfl (al_at 303 (by decide +kernel) rfl)
theorem og_sv_173_p {p : Program} {l : Launch} {e : Env} {R : Room} {s : State} {m : MethodId} {args : Array Value} {below : List Frame} {meth : Method} {c : Code} {cc : ByteArray} {nL : Nat} {ad : Nat → Nat} {D : va_G} {g : Nat → ClassId} {B : Nat} (X : ox_C p s m args c cc nL "SubscriberLines$Server" D g ad B) : rx_OK p l e R s m args below meth c cc nL ad (mx_W D g ad B s.heap) mx_cs (.putfield 173) 3 2 (kpi 7 10) := ox_pi (T := T_7) X rfl (by decide) (by decide) in_7 rfl ty_7 ty_7_ok nm_7 rfl rfl rfl (al_at 303 (by decide +kernel) rfl)
theorem ok_sv_passToCore : rx_okF prog_8_method_14_code 3 none L_sv_passToCore 0 L_sv_passToCore = true := by decide +kernel
theorem V_sv_passToCore {l : Launch} {D : va_G} {g : Nat → ClassId} {ad : Nat → Nat} {B : Nat} (had : mx_A ad B) : rx_V l D g ad B ⟨"SubscriberLines$Server", "passToCore", "(LSubscriberLines$Session;LSubscriberLines$Packet;)V"⟩ prog_8_method_14_code 3 none 1 22 K_sv_passToCore := by
  intro av x hp
  obtain ⟨a0, a1, a2, rfl⟩ := k_RRR_inv hp
  have hp : a0 = 66 ∧ mx_kl a1 = 6 ∧ mx_kl a2 = 2 := hp
  have h0 : a0 = 66 := hp.1
  subst h0
  exact rx_met (k := 0) had (by decide) (Nat.le_of_ble_eq_true rfl) ok_sv_passToCore rfl rfl 29 (fun p e s m args below meth c X => And.intro (og_sv_61_g X) (And.intro (og_sv_157_g X) (And.intro (og_sv_64_g X) (And.intro (og_sv_30_g X) (And.intro (og_sv_160_g X) (And.intro (cv_hi_add X (V_hi_add had) (al_at 568 (by decide +kernel) rfl) ⟨by decide, by decide⟩) (And.intro (og_sv_34_g X) (And.intro (og_sv_157_g X) (And.intro (cv_hi_add X (V_hi_add had) (al_at 568 (by decide +kernel) rfl) ⟨by decide, by decide⟩) (And.intro (og_sv_173_g X) (And.intro (og_sv_173_p X) (trivial)))))))))))) (S_sv_passToCore x.1 x.2 a1 a2 hp.2.1 hp.2.2) (E_sv_passToCore x.1 x.2 a1 a2)
def sv_endsAtTimer (c : mx_C) (a1 : Int32) : mx_C × Int32 :=
  let c1 := mx_pi c (78 + (c.2.2.1 (Int32.toNatClampNeg a1)).val) 4 ((c.1 (78 + (c.2.2.1 (Int32.toNatClampNeg a1)).val) 4) + 1)
  if (c1.1 (78 + (c.2.2.1 (Int32.toNatClampNeg a1)).val) 4) = 12 then
    let c2 := sv_endSession c1 a1
    (c2, 1)
  else
    if (c1.1 (78 + (c.2.2.1 (Int32.toNatClampNeg a1)).val) 2) = 2 then
      if ((c1.1 (78 + (c.2.2.1 (Int32.toNatClampNeg a1)).val) 4) - (c1.1 (78 + (c.2.2.1 (Int32.toNatClampNeg a1)).val) 4) / 3 * 3) = 0 then
        let c3 := sv_sendAccept c1 (78 + (c.2.2.1 (Int32.toNatClampNeg a1)).val)
        (c3, 0)
      else
        if (c1.1 (78 + (c.2.2.1 (Int32.toNatClampNeg a1)).val) 2) = 3 then
          if ((c1.1 (78 + (c.2.2.1 (Int32.toNatClampNeg a1)).val) 4) - (c1.1 (78 + (c.2.2.1 (Int32.toNatClampNeg a1)).val) 4) / 4 * 4) = 0 then
            let q4 := fl_launch c1 8 5 4
            let c5 := pk_bear q4.1 q4.2 (q4.1.1 (78 + (c.2.2.1 (Int32.toNatClampNeg a1)).val) 1) 0 0
            (c5, 0)
          else
            (c1, 0)
        else
          (c1, 0)
    else
      if (c1.1 (78 + (c.2.2.1 (Int32.toNatClampNeg a1)).val) 2) = 3 then
        if ((c1.1 (78 + (c.2.2.1 (Int32.toNatClampNeg a1)).val) 4) - (c1.1 (78 + (c.2.2.1 (Int32.toNatClampNeg a1)).val) 4) / 4 * 4) = 0 then
          let q6 := fl_launch c1 8 5 4
          let c7 := pk_bear q6.1 q6.2 (q6.1.1 (78 + (c.2.2.1 (Int32.toNatClampNeg a1)).val) 1) 0 0
          (c7, 0)
        else
          (c1, 0)
      else
        (c1, 0)
def K_sv_endsAtTimer : rx_K mx := k_RI (fun a0 a1 c m => (a0 = 66 ∧ sv_at c a1, ((sv_endsAtTimer c a1).1, m), some (.int (sv_endsAtTimer c a1).2)))
def L_sv_endsAtTimer : List (rx_E mx) := [
  (0, .aload_n 0, 1, 0, 0, 0, [], kno),
  (1, .getfield 13, 3, 7, 1, 0, [], kgr0 7 4 67),
  (4, .iload_n 1, 1, 0, 1, 0, [], kno),
  (5, .aaload, 1, 7, 2, 0, [], kas),
  (6, .astore_n 2, 1, 0, 2, 0, [], kno),
  (7, .aload_n 2, 1, 0, 2, 0, [], kno),
  (8, .dup, 1, 0, 0, 0, [], kno),
  (9, .getfield 135, 3, 7, 1, 0, [], kgi 6 4),
  (12, .iconst 1, 1, 0, 0, 1, [], kno),
  (13, .iadd, 1, 0, 0, 0, [], kno),
  (14, .putfield 135, 3, 7, 2, 0, [], kpi 6 4),
  (17, .aload_n 2, 1, 0, 2, 0, [], kno),
  (18, .getfield 135, 3, 7, 1, 0, [], kgi 6 4),
  (21, .bipush 12, 2, 0, 0, 12, [], kno),
  (23, .if_icmp .ne 10, 3, 2, 20, 0, [], kno),
  (26, .aload_n 0, 1, 0, 0, 0, [], kno),
  (27, .iload_n 1, 1, 0, 1, 0, [], kno),
  (28, .invokevirtual 142, 3, 7, 2, 0, [], K_sv_endSession),
  (31, .iconst 1, 1, 0, 0, 1, [], kno),
  (32, .ireturn, 1, 5, 1, 0, [], kno),
  (33, .aload_n 2, 1, 0, 2, 0, [], kno),
  (34, .getfield 61, 3, 7, 1, 0, [], kgi 6 2),
  (37, .iconst 2, 1, 0, 0, 2, [], kno),
  (38, .if_icmp .ne 20, 3, 2, 33, 0, [], kno),
  (41, .aload_n 2, 1, 0, 2, 0, [], kno),
  (42, .getfield 135, 3, 7, 1, 0, [], kgi 6 4),
  (45, .iconst 3, 1, 0, 0, 3, [], kno),
  (46, .irem, 1, 0, 0, 0, [], kno),
  (47, .ifCond .ne 11, 3, 2, 33, 0, [], kno),
  (50, .aload_n 0, 1, 0, 0, 0, [], kno),
  (51, .aload_n 2, 1, 0, 2, 0, [], kno),
  (52, .invokevirtual 145, 3, 7, 2, 0, [], K_sv_sendAccept),
  (55, .goto 40, 3, 1, 53, 0, [], kno),
  (58, .aload_n 2, 1, 0, 2, 0, [], kno),
  (59, .getfield 61, 3, 7, 1, 0, [], kgi 6 2),
  (62, .iconst 3, 1, 0, 0, 3, [], kno),
  (63, .if_icmp .ne 32, 3, 2, 53, 0, [], kno),
  (66, .aload_n 2, 1, 0, 2, 0, [], kno),
  (67, .getfield 135, 3, 7, 1, 0, [], kgi 6 4),
  (70, .iconst 4, 1, 0, 0, 4, [], kno),
  (71, .irem, 1, 0, 0, 0, [], kno),
  (72, .ifCond .ne 23, 3, 2, 53, 0, [], kno),
  (75, .aload_n 0, 1, 0, 0, 0, [], kno),
  (76, .getfield 37, 3, 7, 1, 0, [], kgr0 7 1 1),
  (79, .bipush 8, 2, 0, 0, 8, [], kno),
  (81, .iconst 5, 1, 0, 0, 5, [], kno),
  (82, .iconst 4, 1, 0, 0, 4, [], kno),
  (83, .invokevirtual 67, 3, 7, 4, 0, [], K_fl_launch),
  (86, .aload_n 2, 1, 0, 2, 0, [], kno),
  (87, .getfield 73, 3, 7, 1, 0, [], kgi 6 1),
  (90, .iconst 0, 1, 0, 0, 0, [], kno),
  (91, .iconst 0, 1, 0, 0, 0, [], kno),
  (92, .invokevirtual 76, 3, 7, 4, 0, [], K_pk_bear),
  (95, .iconst 0, 1, 0, 0, 0, [], kno),
  (96, .ireturn, 1, 5, 1, 0, [], kno)]
theorem E_sv_endsAtTimer (c : mx_C) (m : mx_M) (a1 : Int32)  : rx_ev L_sv_endsAtTimer [] 57 L_sv_endsAtTimer (c, m) [some (.ref 66), some (.int a1), none] [] = rw_i m (sv_endsAtTimer c a1) :=
  rx_ite2 (f := rw_i m) (fun _ => rfl) (fun _ => rx_ite2 (f := rw_i m) (fun _ => rx_ite2 (f := rw_i m) (fun _ => rfl) (fun _ => rx_ite2 (f := rw_i m) (fun _ => rx_ite2 (f := rw_i m) (fun _ => rfl) (fun _ => rfl)) (fun _ => rfl))) (fun _ => rx_ite2 (f := rw_i m) (fun _ => rx_ite2 (f := rw_i m) (fun _ => rfl) (fun _ => rfl)) (fun _ => rfl)))
theorem S_sv_endsAtTimer (c : mx_C) (m : mx_M) (a1 : Int32) (ha : sv_at c a1) : rx_sf L_sv_endsAtTimer [] 57 L_sv_endsAtTimer (c, m) [some (.ref 66), some (.int a1), none] [] :=
  And.intro rfl (And.intro (sv_at_in ha) (And.intro (mx_kl_ses _) (And.intro (mx_kl_ses _) (And.intro (mx_kl_ses _) (And.intro (fun h0 => And.intro (And.intro rfl ha) (Or.inr rfl)) (fun h0 => And.intro (mx_kl_ses _) (And.intro (fun h1 => And.intro (mx_kl_ses _) (And.intro (fun h2 => And.intro (And.intro rfl (mx_kl_ses _)) (Or.inl rfl)) (fun h2 => And.intro (mx_kl_ses _) (And.intro (fun h3 => And.intro (mx_kl_ses _) (And.intro (fun h4 => And.intro rfl (And.intro rfl (And.intro (mx_kl_ses _) (And.intro (fl_launch_pk _ _ _ _) (Or.inl rfl))))) (fun h4 => Or.inl rfl))) (fun h3 => Or.inl rfl))))) (fun h1 => And.intro (mx_kl_ses _) (And.intro (fun h2 => And.intro (mx_kl_ses _) (And.intro (fun h3 => And.intro rfl (And.intro rfl (And.intro (mx_kl_ses _) (And.intro (fl_launch_pk _ _ _ _) (Or.inl rfl))))) (fun h3 => Or.inl rfl))) (fun h2 => Or.inl rfl))))))))))

theorem og_sv_135_g {p : Program} {l : Launch} {e : Env} {R : Room} {s : State} {m : MethodId} {args : Array Value} {below : List Frame} {meth : Method} {c : Code} {cc : ByteArray} {nL : Nat} {ad : Nat → Nat} {D : va_G} {g : Nat → ClassId} {B : Nat} (X : ox_C p s m args c cc nL "SubscriberLines$Server" D g ad B) : rx_OK p l e R s m args below meth c cc nL ad (mx_W D g ad B s.heap) mx_cs (.getfield 135) 3 1 (kgi 6 4) := ox_gi (T := T_6) X rfl (by decide) (by decide) in_6 rfl (al_at 276 (by decide +kernel) rfl)
theorem og_sv_135_p {p : Program} {l : Launch} {e : Env} {R : Room} {s : State} {m : MethodId} {args : Array Value} {below : List Frame} {meth : Method} {c : Code} {cc : ByteArray} {nL : Nat} {ad : Nat → Nat} {D : va_G} {g : Nat → ClassId} {B : Nat} (X : ox_C p s m args c cc nL "SubscriberLines$Server" D g ad B) : rx_OK p l e R s m args below meth c cc nL ad (mx_W D g ad B s.heap) mx_cs (.putfield 135) 3 2 (kpi 6 4) := ox_pi (T := T_6) X rfl (by decide) (by decide) in_6 rfl ty_6 ty_6_ok nm_6 rfl rfl rfl (al_at 276 (by decide +kernel) rfl)
theorem cv_sv_endSession {p : Program} {l : Launch} {e : Env} {R : Room} {s : State} {m : MethodId} {args : Array Value} {below : List Frame} {meth : Method} {c : Code} {cc : ByteArray} {nL : Nat} {ad : Nat → Nat} {D : va_G} {g : Nat → ClassId} {B : Nat} {own : String} {idx : Nat} (X : ox_C p s m args c cc nL own D g ad B) (hV : rx_V l D g ad B ⟨"SubscriberLines$Server", "endSession", "(I)V"⟩ prog_8_method_18_code 3 none 3 71 K_sv_endSession) (hl : Cond.methodLink own idx ⟨"SubscriberLines$Server", "endSession", "(I)V"⟩ ∈ al) (hR : 3 + 1 ≤ R.frames ∧ 8 + (3 + 11) + 71 ≤ R.locals) : rx_OK p l e R s m args below meth c cc nL ad (mx_W D g ad B s.heap) mx_cs (.invokevirtual idx) 3 2 (K_sv_endSession) :=
  ox_callV (q := 7) (T := T_7) X hV (fun av x h => by obtain ⟨a0, a1, rfl⟩ := k_RI_inv h; exact ⟨a0, _, rfl, by have h2 : a0 = 66 := h.1; rw [h2]; rfl⟩) (by decide) rfl hl (al_at 557 (by decide +kernel) rfl) (al_pr (y := (⟨"SubscriberLines$Server", "endSession", "(I)V"⟩, _)) 22 rfl) (al_at 9 (by decide +kernel) rfl) (al_at 558 (by decide +kernel) rfl) ⟨by decide, by decide, by decide +kernel⟩ hR
theorem cv_sv_sendAccept {p : Program} {l : Launch} {e : Env} {R : Room} {s : State} {m : MethodId} {args : Array Value} {below : List Frame} {meth : Method} {c : Code} {cc : ByteArray} {nL : Nat} {ad : Nat → Nat} {D : va_G} {g : Nat → ClassId} {B : Nat} {own : String} {idx : Nat} (X : ox_C p s m args c cc nL own D g ad B) (hV : rx_V l D g ad B ⟨"SubscriberLines$Server", "sendAccept", "(LSubscriberLines$Session;)V"⟩ prog_8_method_16_code 2 none 1 24 K_sv_sendAccept) (hl : Cond.methodLink own idx ⟨"SubscriberLines$Server", "sendAccept", "(LSubscriberLines$Session;)V"⟩ ∈ al) (hR : 1 + 1 ≤ R.frames ∧ 8 + (2 + 11) + 24 ≤ R.locals) : rx_OK p l e R s m args below meth c cc nL ad (mx_W D g ad B s.heap) mx_cs (.invokevirtual idx) 3 2 (K_sv_sendAccept) :=
  ox_callV (q := 7) (T := T_7) X hV (fun av x h => by obtain ⟨a0, a1, rfl⟩ := k_RR_inv h; exact ⟨a0, _, rfl, by have h2 : a0 = 66 := h.1; rw [h2]; rfl⟩) (by decide) rfl hl (al_at 553 (by decide +kernel) rfl) (al_pr (y := (⟨"SubscriberLines$Server", "sendAccept", "(LSubscriberLines$Session;)V"⟩, _)) 21 rfl) (al_at 9 (by decide +kernel) rfl) (al_at 554 (by decide +kernel) rfl) ⟨by decide, by decide, by decide +kernel⟩ hR
theorem ok_sv_endsAtTimer : rx_okF prog_8_method_15_code 3 (some .boolean) L_sv_endsAtTimer 0 L_sv_endsAtTimer = true := by decide +kernel
theorem V_sv_endsAtTimer {l : Launch} {D : va_G} {g : Nat → ClassId} {ad : Nat → Nat} {B : Nat} (had : mx_A ad B) : rx_V l D g ad B ⟨"SubscriberLines$Server", "endsAtTimer", "(I)Z"⟩ prog_8_method_15_code 3 (some .boolean) 4 93 K_sv_endsAtTimer := by
  intro av x hp
  obtain ⟨a0, a1, rfl⟩ := k_RI_inv hp
  have hp : a0 = 66 ∧ sv_at x.1 a1 := hp
  have h0 : a0 = 66 := hp.1
  subst h0
  exact rx_met (k := 1) had (by decide) (Nat.le_of_ble_eq_true rfl) ok_sv_endsAtTimer rfl rfl 57 (fun p e s m args below meth c X => And.intro (og_sv_13_g X) (And.intro (ox_as X) (And.intro (og_sv_135_g X) (And.intro (og_sv_135_p X) (And.intro (og_sv_135_g X) (And.intro (cv_sv_endSession X (V_sv_endSession had) (al_at 555 (by decide +kernel) rfl) ⟨by decide, by decide⟩) (And.intro (og_sv_61_g X) (And.intro (og_sv_135_g X) (And.intro (cv_sv_sendAccept X (V_sv_sendAccept had) (al_at 551 (by decide +kernel) rfl) ⟨by decide, by decide⟩) (And.intro (og_sv_61_g X) (And.intro (og_sv_135_g X) (And.intro (og_sv_37_g X) (And.intro (cv_fl_launch X (V_fl_launch had) (al_at 413 (by decide +kernel) rfl) ⟨by decide, by decide⟩) (And.intro (og_sv_73_g X) (And.intro (cv_pk_bear X (V_pk_bear had) (al_at 414 (by decide +kernel) rfl) ⟨by decide, by decide⟩) (trivial)))))))))))))))) (S_sv_endsAtTimer x.1 x.2 a1 hp.2) (E_sv_endsAtTimer x.1 x.2 a1)
def sv_grantOrDrop (c : mx_C) (a1 : Int32) : mx_C :=
  if (Int32.ofNat c.2.2.2.2.val) = 4 then
    let c1 := en_put c 74 15 a1 0
    c1
  else
    let c2 := mx_pi c 66 11 ((c.1 66 11) + 1)
    let c3 := se_begin c2 (78 + (c2.2.2.1 (Int32.toNatClampNeg (Int32.ofNat c2.2.2.2.2.val))).val) (c2.1 66 11) a1
    let c4 := mx_pc c3 ((Int32.ofNat c3.2.2.2.2.val) + 1)
    let c5 := en_put c4 74 14 a1 (c4.1 66 11)
    c5
def K_sv_grantOrDrop : rx_K mx := k_RI (fun a0 a1 c m => (a0 = 66, (sv_grantOrDrop c a1, m), none))
def L_sv_grantOrDrop : List (rx_E mx) := [
  (0, .aload_n 0, 1, 0, 0, 0, [], kno),
  (1, .getfield 58, 3, 7, 1, 0, [], kgs),
  (4, .iconst 4, 1, 0, 0, 4, [], kno),
  (5, .if_icmp .ne 15, 3, 2, 11, 0, [], kno),
  (8, .aload_n 0, 1, 0, 0, 0, [], kno),
  (9, .getfield 50, 3, 7, 1, 0, [], kgr0 7 2 74),
  (12, .bipush 15, 2, 0, 0, 15, [], kno),
  (14, .iload_n 1, 1, 0, 1, 0, [], kno),
  (15, .iconst 0, 1, 0, 0, 0, [], kno),
  (16, .invokevirtual 126, 3, 7, 4, 0, [], K_en_put),
  (19, .return_, 1, 6, 0, 0, [], kno),
  (20, .aload_n 0, 1, 0, 0, 0, [], kno),
  (21, .dup, 1, 0, 0, 0, [], kno),
  (22, .getfield 129, 3, 7, 1, 0, [], kgi 7 11),
  (25, .iconst 1, 1, 0, 0, 1, [], kno),
  (26, .iadd, 1, 0, 0, 0, [], kno),
  (27, .putfield 129, 3, 7, 2, 0, [], kpi 7 11),
  (30, .aload_n 0, 1, 0, 0, 0, [], kno),
  (31, .getfield 13, 3, 7, 1, 0, [], kgr0 7 4 67),
  (34, .aload_n 0, 1, 0, 0, 0, [], kno),
  (35, .getfield 58, 3, 7, 1, 0, [], kgs),
  (38, .aaload, 1, 7, 2, 0, [], kas),
  (39, .aload_n 0, 1, 0, 0, 0, [], kno),
  (40, .getfield 129, 3, 7, 1, 0, [], kgi 7 11),
  (43, .iload_n 1, 1, 0, 1, 0, [], kno),
  (44, .invokevirtual 132, 3, 7, 3, 0, [], K_se_begin),
  (47, .aload_n 0, 1, 0, 0, 0, [], kno),
  (48, .dup, 1, 0, 0, 0, [], kno),
  (49, .getfield 58, 3, 7, 1, 0, [], kgs),
  (52, .iconst 1, 1, 0, 0, 1, [], kno),
  (53, .iadd, 1, 0, 0, 0, [], kno),
  (54, .putfield 58, 3, 7, 2, 0, [], kps),
  (57, .aload_n 0, 1, 0, 0, 0, [], kno),
  (58, .getfield 50, 3, 7, 1, 0, [], kgr0 7 2 74),
  (61, .bipush 14, 2, 0, 0, 14, [], kno),
  (63, .iload_n 1, 1, 0, 1, 0, [], kno),
  (64, .aload_n 0, 1, 0, 0, 0, [], kno),
  (65, .getfield 129, 3, 7, 1, 0, [], kgi 7 11),
  (68, .invokevirtual 126, 3, 7, 4, 0, [], K_en_put),
  (71, .return_, 1, 6, 0, 0, [], kno)]
theorem E_sv_grantOrDrop (c : mx_C) (m : mx_M) (a1 : Int32)  : rx_ev L_sv_grantOrDrop [] 42 L_sv_grantOrDrop (c, m) [some (.ref 66), some (.int a1)] [] = rw_v m (sv_grantOrDrop c a1) :=
  rx_ite2 (f := rw_v m) (fun _ => rfl) (fun _ => rfl)
theorem S_sv_grantOrDrop (c : mx_C) (m : mx_M) (a1 : Int32)  : rx_sf L_sv_grantOrDrop [] 42 L_sv_grantOrDrop (c, m) [some (.ref 66), some (.int a1)] [] :=
  And.intro rfl (And.intro (fun h0 => And.intro rfl (And.intro rfl (trivial))) (fun h0 => And.intro rfl (And.intro rfl (And.intro rfl (And.intro rfl (And.intro (sc_inc h0).1 (And.intro rfl (And.intro (mx_kl_ses _) (And.intro rfl (And.intro (And.intro rfl (sc_inc h0).2) (And.intro rfl (And.intro rfl (And.intro rfl (trivial))))))))))))))

theorem og_sv_129_g {p : Program} {l : Launch} {e : Env} {R : Room} {s : State} {m : MethodId} {args : Array Value} {below : List Frame} {meth : Method} {c : Code} {cc : ByteArray} {nL : Nat} {ad : Nat → Nat} {D : va_G} {g : Nat → ClassId} {B : Nat} (X : ox_C p s m args c cc nL "SubscriberLines$Server" D g ad B) : rx_OK p l e R s m args below meth c cc nL ad (mx_W D g ad B s.heap) mx_cs (.getfield 129) 3 1 (kgi 7 11) := ox_gi (T := T_7) X rfl (by decide) (by decide) in_7 rfl (al_at 305 (by decide +kernel) rfl)
theorem og_sv_129_p {p : Program} {l : Launch} {e : Env} {R : Room} {s : State} {m : MethodId} {args : Array Value} {below : List Frame} {meth : Method} {c : Code} {cc : ByteArray} {nL : Nat} {ad : Nat → Nat} {D : va_G} {g : Nat → ClassId} {B : Nat} (X : ox_C p s m args c cc nL "SubscriberLines$Server" D g ad B) : rx_OK p l e R s m args below meth c cc nL ad (mx_W D g ad B s.heap) mx_cs (.putfield 129) 3 2 (kpi 7 11) := ox_pi (T := T_7) X rfl (by decide) (by decide) in_7 rfl ty_7 ty_7_ok nm_7 rfl rfl rfl (al_at 305 (by decide +kernel) rfl)
theorem cv_se_begin {p : Program} {l : Launch} {e : Env} {R : Room} {s : State} {m : MethodId} {args : Array Value} {below : List Frame} {meth : Method} {c : Code} {cc : ByteArray} {nL : Nat} {ad : Nat → Nat} {D : va_G} {g : Nat → ClassId} {B : Nat} {own : String} {idx : Nat} (X : ox_C p s m args c cc nL own D g ad B) (hV : rx_V l D g ad B ⟨"SubscriberLines$Session", "begin", "(II)V"⟩ prog_9_method_2_code 3 none 0 0 K_se_begin) (hl : Cond.methodLink own idx ⟨"SubscriberLines$Session", "begin", "(II)V"⟩ ∈ al) (hR : 0 + 1 ≤ R.frames ∧ 8 + (3 + 11) + 0 ≤ R.locals) : rx_OK p l e R s m args below meth c cc nL ad (mx_W D g ad B s.heap) mx_cs (.invokevirtual idx) 3 3 (K_se_begin) :=
  ox_callV (q := 6) (T := T_6) X hV (fun av x h => by obtain ⟨a0, a1, a2, rfl⟩ := k_RII_inv h; exact ⟨a0, _, rfl, h⟩) (by decide) rfl hl (al_at 582 (by decide +kernel) rfl) (al_at 583 (by decide +kernel) rfl) (al_at 11 (by decide +kernel) rfl) (al_at 584 (by decide +kernel) rfl) ⟨by decide, by decide, by decide +kernel⟩ hR
theorem ok_sv_grantOrDrop : rx_okF prog_8_method_8_code 2 none L_sv_grantOrDrop 0 L_sv_grantOrDrop = true := by decide +kernel
theorem V_sv_grantOrDrop {l : Launch} {D : va_G} {g : Nat → ClassId} {ad : Nat → Nat} {B : Nat} (had : mx_A ad B) : rx_V l D g ad B ⟨"SubscriberLines$Server", "grantOrDrop", "(I)V"⟩ prog_8_method_8_code 2 none 3 71 K_sv_grantOrDrop := by
  intro av x hp
  obtain ⟨a0, a1, rfl⟩ := k_RI_inv hp
  have hp : a0 = 66 := hp
  have h0 : a0 = 66 := hp
  subst h0
  exact rx_met (k := 0) had (by decide) (Nat.le_of_ble_eq_true rfl) ok_sv_grantOrDrop rfl rfl 42 (fun p e s m args below meth c X => And.intro (og_sv_58_g X) (And.intro (og_sv_50_g X) (And.intro (cv_en_put X (V_en_put had) (al_at 563 (by decide +kernel) rfl) ⟨by decide, by decide⟩) (And.intro (og_sv_129_g X) (And.intro (og_sv_129_p X) (And.intro (og_sv_13_g X) (And.intro (og_sv_58_g X) (And.intro (ox_as X) (And.intro (og_sv_129_g X) (And.intro (cv_se_begin X (V_se_begin had) (al_at 581 (by decide +kernel) rfl) ⟨by decide, by decide⟩) (And.intro (og_sv_58_g X) (And.intro (og_sv_58_p X) (And.intro (og_sv_50_g X) (And.intro (og_sv_129_g X) (And.intro (cv_en_put X (V_en_put had) (al_at 563 (by decide +kernel) rfl) ⟨by decide, by decide⟩) (trivial)))))))))))))))) (S_sv_grantOrDrop x.1 x.2 a1 ) (E_sv_grantOrDrop x.1 x.2 a1)
def sv_logsIn (c : mx_C) (a1 : Nat) (a2 : Nat) : mx_C × Int32 :=
  if (sv_lowestFreeAddress c) = 0 then
    let q1 := fl_launch c 6 5 4
    let c2 := pk_bear q1.1 q1.2 (q1.1.1 a1 1) 0 0
    (c2, 0)
  else
    if (sv_isAllowed c (c.1 a2 4) (c.1 a2 5)) = 0 then
      let q3 := fl_launch c 6 5 4
      let c4 := pk_bear q3.1 q3.2 (q3.1.1 a1 1) 0 0
      (c4, 0)
    else
      let c5 := mx_pi c a1 2 2
      let c6 := mx_pi c5 a1 3 (sv_lowestFreeAddress c)
      let c7 := sv_sendAccept c6 a1
      (c7, 1)
def K_sv_logsIn : rx_K mx := k_RRR (fun a0 a1 a2 c m => (a0 = 66 ∧ mx_kl a1 = 6 ∧ mx_kl a2 = 2 ∧ sv_pool c, ((sv_logsIn c a1 a2).1, m), some (.int (sv_logsIn c a1 a2).2)))
def L_sv_logsIn : List (rx_E mx) := [
  (0, .aload_n 0, 1, 0, 0, 0, [], kno),
  (1, .invokevirtual 153, 3, 7, 1, 0, [], K_sv_lowestFreeAddress),
  (4, .istore_n 3, 1, 0, 3, 0, [], kno),
  (5, .iload_n 3, 1, 0, 3, 0, [], kno),
  (6, .ifCond .eq 18, 3, 2, 12, 0, [], kno),
  (9, .aload_n 0, 1, 0, 0, 0, [], kno),
  (10, .aload_n 2, 1, 0, 2, 0, [], kno),
  (11, .getfield 157, 3, 7, 1, 0, [], kgi 2 4),
  (14, .aload_n 2, 1, 0, 2, 0, [], kno),
  (15, .getfield 160, 3, 7, 1, 0, [], kgi 2 5),
  (18, .invokevirtual 163, 3, 7, 3, 0, [], K_sv_isAllowed),
  (21, .ifCond .ne 25, 3, 2, 25, 0, [], kno),
  (24, .aload_n 0, 1, 0, 0, 0, [], kno),
  (25, .getfield 37, 3, 7, 1, 0, [], kgr0 7 1 1),
  (28, .bipush 6, 2, 0, 0, 6, [], kno),
  (30, .iconst 5, 1, 0, 0, 5, [], kno),
  (31, .iconst 4, 1, 0, 0, 4, [], kno),
  (32, .invokevirtual 67, 3, 7, 4, 0, [], K_fl_launch),
  (35, .aload_n 1, 1, 0, 1, 0, [], kno),
  (36, .getfield 73, 3, 7, 1, 0, [], kgi 6 1),
  (39, .iconst 0, 1, 0, 0, 0, [], kno),
  (40, .iconst 0, 1, 0, 0, 0, [], kno),
  (41, .invokevirtual 76, 3, 7, 4, 0, [], K_pk_bear),
  (44, .iconst 0, 1, 0, 0, 0, [], kno),
  (45, .ireturn, 1, 5, 1, 0, [], kno),
  (46, .aload_n 1, 1, 0, 1, 0, [], kno),
  (47, .iconst 2, 1, 0, 0, 2, [], kno),
  (48, .putfield 61, 3, 7, 2, 0, [], kpi 6 2),
  (51, .aload_n 1, 1, 0, 1, 0, [], kno),
  (52, .iload_n 3, 1, 0, 3, 0, [], kno),
  (53, .putfield 64, 3, 7, 2, 0, [], kpi 6 3),
  (56, .aload_n 0, 1, 0, 0, 0, [], kno),
  (57, .aload_n 1, 1, 0, 1, 0, [], kno),
  (58, .invokevirtual 145, 3, 7, 2, 0, [], K_sv_sendAccept),
  (61, .iconst 1, 1, 0, 0, 1, [], kno),
  (62, .ireturn, 1, 5, 1, 0, [], kno)]
theorem E_sv_logsIn (c : mx_C) (m : mx_M) (a1 : Nat) (a2 : Nat)  : rx_ev L_sv_logsIn [] 38 L_sv_logsIn (c, m) [some (.ref 66), some (.ref a1), some (.ref a2), none] [] = rw_i m (sv_logsIn c a1 a2) :=
  rx_ite2 (f := rw_i m) (fun _ => rfl) (fun _ => rx_ite2 (f := rw_i m) (fun _ => rfl) (fun _ => rfl))
theorem S_sv_logsIn (c : mx_C) (m : mx_M) (a1 : Nat) (a2 : Nat) (ha1 : mx_kl a1 = 6) (ha2 : mx_kl a2 = 2) (hq : sv_pool c) : rx_sf L_sv_logsIn [] 38 L_sv_logsIn (c, m) [some (.ref 66), some (.ref a1), some (.ref a2), none] [] :=
  And.intro (And.intro rfl hq) (And.intro (fun h0 => And.intro rfl (And.intro rfl (And.intro ha1 (And.intro (fl_launch_pk _ _ _ _) (Or.inl rfl))))) (fun h0 => And.intro ha2 (And.intro ha2 (And.intro rfl (And.intro (fun h1 => And.intro rfl (And.intro rfl (And.intro ha1 (And.intro (fl_launch_pk _ _ _ _) (Or.inl rfl))))) (fun h1 => And.intro ha1 (And.intro ha1 (And.intro (And.intro rfl ha1) (Or.inr rfl)))))))))

theorem cv_sv_lowestFreeAddress {p : Program} {l : Launch} {e : Env} {R : Room} {s : State} {m : MethodId} {args : Array Value} {below : List Frame} {meth : Method} {c : Code} {cc : ByteArray} {nL : Nat} {ad : Nat → Nat} {D : va_G} {g : Nat → ClassId} {B : Nat} {own : String} {idx : Nat} (X : ox_C p s m args c cc nL own D g ad B) (hV : rx_V l D g ad B ⟨"SubscriberLines$Server", "lowestFreeAddress", "()I"⟩ prog_8_method_12_code 2 (some .int) 1 22 K_sv_lowestFreeAddress) (hl : Cond.methodLink own idx ⟨"SubscriberLines$Server", "lowestFreeAddress", "()I"⟩ ∈ al) (hR : 1 + 1 ≤ R.frames ∧ 8 + (2 + 11) + 22 ≤ R.locals) : rx_OK p l e R s m args below meth c cc nL ad (mx_W D g ad B s.heap) mx_cs (.invokevirtual idx) 3 1 (K_sv_lowestFreeAddress) :=
  ox_callV (q := 7) (T := T_7) X hV (fun av x h => by obtain ⟨a0, rfl⟩ := k_R_inv h; exact ⟨a0, _, rfl, by have h2 : a0 = 66 := h.1; rw [h2]; rfl⟩) (by decide) rfl hl (al_at 541 (by decide +kernel) rfl) (al_pr (y := (⟨"SubscriberLines$Server", "lowestFreeAddress", "()I"⟩, _)) 18 rfl) (al_at 9 (by decide +kernel) rfl) (al_at 542 (by decide +kernel) rfl) ⟨by decide, by decide, by decide +kernel⟩ hR
theorem cv_sv_isAllowed {p : Program} {l : Launch} {e : Env} {R : Room} {s : State} {m : MethodId} {args : Array Value} {below : List Frame} {meth : Method} {c : Code} {cc : ByteArray} {nL : Nat} {ad : Nat → Nat} {D : va_G} {g : Nat → ClassId} {B : Nat} {own : String} {idx : Nat} (X : ox_C p s m args c cc nL own D g ad B) (hV : rx_V l D g ad B ⟨"SubscriberLines$Server", "isAllowed", "(II)Z"⟩ prog_8_method_11_code 3 (some .boolean) 0 0 K_sv_isAllowed) (hl : Cond.methodLink own idx ⟨"SubscriberLines$Server", "isAllowed", "(II)Z"⟩ ∈ al) (hR : 0 + 1 ≤ R.frames ∧ 8 + (3 + 11) + 0 ≤ R.locals) : rx_OK p l e R s m args below meth c cc nL ad (mx_W D g ad B s.heap) mx_cs (.invokevirtual idx) 3 3 (K_sv_isAllowed) :=
  ox_callV (q := 7) (T := T_7) X hV (fun av x h => by obtain ⟨a0, a1, a2, rfl⟩ := k_RII_inv h; exact ⟨a0, _, rfl, by have h2 : a0 = 66 := h; rw [h2]; rfl⟩) (by decide) rfl hl (al_at 549 (by decide +kernel) rfl) (al_pr (y := (⟨"SubscriberLines$Server", "isAllowed", "(II)Z"⟩, _)) 20 rfl) (al_at 9 (by decide +kernel) rfl) (al_at 550 (by decide +kernel) rfl) ⟨by decide, by decide, by decide +kernel⟩ hR
theorem og_sv_61_p {p : Program} {l : Launch} {e : Env} {R : Room} {s : State} {m : MethodId} {args : Array Value} {below : List Frame} {meth : Method} {c : Code} {cc : ByteArray} {nL : Nat} {ad : Nat → Nat} {D : va_G} {g : Nat → ClassId} {B : Nat} (X : ox_C p s m args c cc nL "SubscriberLines$Server" D g ad B) : rx_OK p l e R s m args below meth c cc nL ad (mx_W D g ad B s.heap) mx_cs (.putfield 61) 3 2 (kpi 6 2) := ox_pi (T := T_6) X rfl (by decide) (by decide) in_6 rfl ty_6 ty_6_ok nm_6 rfl rfl rfl (al_at 272 (by decide +kernel) rfl)
theorem og_sv_64_p {p : Program} {l : Launch} {e : Env} {R : Room} {s : State} {m : MethodId} {args : Array Value} {below : List Frame} {meth : Method} {c : Code} {cc : ByteArray} {nL : Nat} {ad : Nat → Nat} {D : va_G} {g : Nat → ClassId} {B : Nat} (X : ox_C p s m args c cc nL "SubscriberLines$Server" D g ad B) : rx_OK p l e R s m args below meth c cc nL ad (mx_W D g ad B s.heap) mx_cs (.putfield 64) 3 2 (kpi 6 3) := ox_pi (T := T_6) X rfl (by decide) (by decide) in_6 rfl ty_6 ty_6_ok nm_6 rfl rfl rfl (al_at 274 (by decide +kernel) rfl)
theorem ok_sv_logsIn : rx_okF prog_8_method_10_code 4 (some .boolean) L_sv_logsIn 0 L_sv_logsIn = true := by decide +kernel
theorem V_sv_logsIn {l : Launch} {D : va_G} {g : Nat → ClassId} {ad : Nat → Nat} {B : Nat} (had : mx_A ad B) : rx_V l D g ad B ⟨"SubscriberLines$Server", "logsIn", "(LSubscriberLines$Session;LSubscriberLines$Packet;)Z"⟩ prog_8_method_10_code 4 (some .boolean) 2 45 K_sv_logsIn := by
  intro av x hp
  obtain ⟨a0, a1, a2, rfl⟩ := k_RRR_inv hp
  have hp : a0 = 66 ∧ mx_kl a1 = 6 ∧ mx_kl a2 = 2 ∧ sv_pool x.1 := hp
  have h0 : a0 = 66 := hp.1
  subst h0
  exact rx_met (k := 1) had (by decide) (Nat.le_of_ble_eq_true rfl) ok_sv_logsIn rfl rfl 38 (fun p e s m args below meth c X => And.intro (cv_sv_lowestFreeAddress X (V_sv_lowestFreeAddress had) (al_at 539 (by decide +kernel) rfl) ⟨by decide, by decide⟩) (And.intro (og_sv_157_g X) (And.intro (og_sv_160_g X) (And.intro (cv_sv_isAllowed X (V_sv_isAllowed had) (al_at 547 (by decide +kernel) rfl) ⟨by decide, by decide⟩) (And.intro (og_sv_37_g X) (And.intro (cv_fl_launch X (V_fl_launch had) (al_at 413 (by decide +kernel) rfl) ⟨by decide, by decide⟩) (And.intro (og_sv_73_g X) (And.intro (cv_pk_bear X (V_pk_bear had) (al_at 414 (by decide +kernel) rfl) ⟨by decide, by decide⟩) (And.intro (og_sv_61_p X) (And.intro (og_sv_64_p X) (And.intro (cv_sv_sendAccept X (V_sv_sendAccept had) (al_at 551 (by decide +kernel) rfl) ⟨by decide, by decide⟩) (trivial)))))))))))) (S_sv_logsIn x.1 x.2 a1 a2 hp.2.1 hp.2.2.1 hp.2.2.2) (E_sv_logsIn x.1 x.2 a1 a2)
def sv_perform (c : mx_C) (a1 : Nat) : mx_C :=
  if (c.1 a1 0) = 13 then
    let c1 := sv_grantOrDrop c (c.1 a1 3)
    c1
  else
    if (c.1 a1 0) = 15 then
      if (sv_indexOf c (c.1 a1 3)) < 0 then
        c
      else
        let c2 := sv_remove c (sv_indexOf c (c.1 a1 3))
        c2
    else
      c
def K_sv_perform : rx_K mx := k_RR (fun a0 a1 c m => (a0 = 66 ∧ mx_kl a1 = 2, (sv_perform c a1, m), none))
def L_sv_perform : List (rx_E mx) := [
  (0, .aload_n 1, 1, 0, 1, 0, [], kno),
  (1, .getfield 82, 3, 7, 1, 0, [], kgi 2 0),
  (4, .bipush 13, 2, 0, 0, 13, [], kno),
  (6, .if_icmp .ne 14, 3, 2, 9, 0, [], kno),
  (9, .aload_n 0, 1, 0, 0, 0, [], kno),
  (10, .aload_n 1, 1, 0, 1, 0, [], kno),
  (11, .getfield 113, 3, 7, 1, 0, [], kgi 2 3),
  (14, .invokevirtual 116, 3, 7, 2, 0, [], K_sv_grantOrDrop),
  (17, .goto 30, 3, 1, 23, 0, [], kno),
  (20, .aload_n 1, 1, 0, 1, 0, [], kno),
  (21, .getfield 82, 3, 7, 1, 0, [], kgi 2 0),
  (24, .bipush 15, 2, 0, 0, 15, [], kno),
  (26, .if_icmp .ne 21, 3, 2, 23, 0, [], kno),
  (29, .aload_n 0, 1, 0, 0, 0, [], kno),
  (30, .aload_n 1, 1, 0, 1, 0, [], kno),
  (31, .getfield 113, 3, 7, 1, 0, [], kgi 2 3),
  (34, .invokevirtual 119, 3, 7, 2, 0, [], K_sv_indexOf),
  (37, .istore_n 2, 1, 0, 2, 0, [], kno),
  (38, .iload_n 2, 1, 0, 2, 0, [], kno),
  (39, .ifCond .lt 8, 3, 2, 23, 0, [], kno),
  (42, .aload_n 0, 1, 0, 0, 0, [], kno),
  (43, .iload_n 2, 1, 0, 2, 0, [], kno),
  (44, .invokevirtual 123, 3, 7, 2, 0, [], K_sv_remove),
  (47, .return_, 1, 6, 0, 0, [], kno)]
theorem E_sv_perform (c : mx_C) (m : mx_M) (a1 : Nat)  : rx_ev L_sv_perform [] 26 L_sv_perform (c, m) [some (.ref 66), some (.ref a1), none] [] = rw_v m (sv_perform c a1) :=
  rx_ite2 (f := rw_v m) (fun _ => rfl) (fun _ => rx_ite2 (f := rw_v m) (fun _ => rx_ite2 (f := rw_v m) (fun _ => rfl) (fun _ => rfl)) (fun _ => rfl))
theorem S_sv_perform (c : mx_C) (m : mx_M) (a1 : Nat) (ha1 : mx_kl a1 = 2) : rx_sf L_sv_perform [] 26 L_sv_perform (c, m) [some (.ref 66), some (.ref a1), none] [] :=
  And.intro ha1 (And.intro (fun h0 => And.intro ha1 (And.intro rfl (trivial))) (fun h0 => And.intro ha1 (And.intro (fun h1 => And.intro ha1 (And.intro rfl (And.intro (fun h2 => trivial) (fun h2 => And.intro (And.intro rfl (sv_idx_in (by assumption))) (trivial))))) (fun h1 => trivial))))

theorem og_sv_82_g {p : Program} {l : Launch} {e : Env} {R : Room} {s : State} {m : MethodId} {args : Array Value} {below : List Frame} {meth : Method} {c : Code} {cc : ByteArray} {nL : Nat} {ad : Nat → Nat} {D : va_G} {g : Nat → ClassId} {B : Nat} (X : ox_C p s m args c cc nL "SubscriberLines$Server" D g ad B) : rx_OK p l e R s m args below meth c cc nL ad (mx_W D g ad B s.heap) mx_cs (.getfield 82) 3 1 (kgi 2 0) := ox_gi (T := T_2) X rfl (by decide) (by decide) in_2 rfl (al_at 37 (by decide +kernel) rfl)
theorem og_sv_113_g {p : Program} {l : Launch} {e : Env} {R : Room} {s : State} {m : MethodId} {args : Array Value} {below : List Frame} {meth : Method} {c : Code} {cc : ByteArray} {nL : Nat} {ad : Nat → Nat} {D : va_G} {g : Nat → ClassId} {B : Nat} (X : ox_C p s m args c cc nL "SubscriberLines$Server" D g ad B) : rx_OK p l e R s m args below meth c cc nL ad (mx_W D g ad B s.heap) mx_cs (.getfield 113) 3 1 (kgi 2 3) := ox_gi (T := T_2) X rfl (by decide) (by decide) in_2 rfl (al_at 50 (by decide +kernel) rfl)
theorem cv_sv_grantOrDrop {p : Program} {l : Launch} {e : Env} {R : Room} {s : State} {m : MethodId} {args : Array Value} {below : List Frame} {meth : Method} {c : Code} {cc : ByteArray} {nL : Nat} {ad : Nat → Nat} {D : va_G} {g : Nat → ClassId} {B : Nat} {own : String} {idx : Nat} (X : ox_C p s m args c cc nL own D g ad B) (hV : rx_V l D g ad B ⟨"SubscriberLines$Server", "grantOrDrop", "(I)V"⟩ prog_8_method_8_code 2 none 3 71 K_sv_grantOrDrop) (hl : Cond.methodLink own idx ⟨"SubscriberLines$Server", "grantOrDrop", "(I)V"⟩ ∈ al) (hR : 3 + 1 ≤ R.frames ∧ 8 + (2 + 11) + 71 ≤ R.locals) : rx_OK p l e R s m args below meth c cc nL ad (mx_W D g ad B s.heap) mx_cs (.invokevirtual idx) 3 2 (K_sv_grantOrDrop) :=
  ox_callV (q := 7) (T := T_7) X hV (fun av x h => by obtain ⟨a0, a1, rfl⟩ := k_RI_inv h; exact ⟨a0, _, rfl, by have h2 : a0 = 66 := h; rw [h2]; rfl⟩) (by decide) rfl hl (al_at 579 (by decide +kernel) rfl) (al_pr (y := (⟨"SubscriberLines$Server", "grantOrDrop", "(I)V"⟩, _)) 26 rfl) (al_at 9 (by decide +kernel) rfl) (al_at 580 (by decide +kernel) rfl) ⟨by decide, by decide, by decide +kernel⟩ hR
theorem cv_sv_indexOf {p : Program} {l : Launch} {e : Env} {R : Room} {s : State} {m : MethodId} {args : Array Value} {below : List Frame} {meth : Method} {c : Code} {cc : ByteArray} {nL : Nat} {ad : Nat → Nat} {D : va_G} {g : Nat → ClassId} {B : Nat} {own : String} {idx : Nat} (X : ox_C p s m args c cc nL own D g ad B) (hV : rx_V l D g ad B ⟨"SubscriberLines$Server", "indexOf", "(I)I"⟩ prog_8_method_17_code 3 (some .int) 0 0 K_sv_indexOf) (hl : Cond.methodLink own idx ⟨"SubscriberLines$Server", "indexOf", "(I)I"⟩ ∈ al) (hR : 0 + 1 ≤ R.frames ∧ 8 + (3 + 11) + 0 ≤ R.locals) : rx_OK p l e R s m args below meth c cc nL ad (mx_W D g ad B s.heap) mx_cs (.invokevirtual idx) 3 2 (K_sv_indexOf) :=
  ox_callV (q := 7) (T := T_7) X hV (fun av x h => by obtain ⟨a0, a1, rfl⟩ := k_RI_inv h; exact ⟨a0, _, rfl, by have h2 : a0 = 66 := h; rw [h2]; rfl⟩) (by decide) rfl hl (al_at 533 (by decide +kernel) rfl) (al_pr (y := (⟨"SubscriberLines$Server", "indexOf", "(I)I"⟩, _)) 16 rfl) (al_at 9 (by decide +kernel) rfl) (al_at 534 (by decide +kernel) rfl) ⟨by decide, by decide, by decide +kernel⟩ hR
theorem ok_sv_perform : rx_okF prog_8_method_7_code 3 none L_sv_perform 0 L_sv_perform = true := by decide +kernel
theorem V_sv_perform {l : Launch} {D : va_G} {g : Nat → ClassId} {ad : Nat → Nat} {B : Nat} (had : mx_A ad B) : rx_V l D g ad B ⟨"SubscriberLines$Server", "perform", "(LSubscriberLines$Packet;)V"⟩ prog_8_method_7_code 3 none 4 92 K_sv_perform := by
  intro av x hp
  obtain ⟨a0, a1, rfl⟩ := k_RR_inv hp
  have hp : a0 = 66 ∧ mx_kl a1 = 2 := hp
  have h0 : a0 = 66 := hp.1
  subst h0
  exact rx_met (k := 1) had (by decide) (Nat.le_of_ble_eq_true rfl) ok_sv_perform rfl rfl 26 (fun p e s m args below meth c X => And.intro (og_sv_82_g X) (And.intro (og_sv_113_g X) (And.intro (cv_sv_grantOrDrop X (V_sv_grantOrDrop had) (al_at 577 (by decide +kernel) rfl) ⟨by decide, by decide⟩) (And.intro (og_sv_82_g X) (And.intro (og_sv_113_g X) (And.intro (cv_sv_indexOf X (V_sv_indexOf had) (al_at 531 (by decide +kernel) rfl) ⟨by decide, by decide⟩) (And.intro (cv_sv_remove X (V_sv_remove had) (al_at 559 (by decide +kernel) rfl) ⟨by decide, by decide⟩) (trivial)))))))) (S_sv_perform x.1 x.2 a1 hp.2) (E_sv_perform x.1 x.2 a1)
end
section
/-- what sending leaves alone: the two rows of references and the count of sessions -/
def fx (c c' : mx_C) : Prop := c'.2.1 = c.2.1 ∧ c'.2.2.1 = c.2.2.1 ∧ c'.2.2.2.2 = c.2.2.2.2
theorem fx_rf (c : mx_C) : fx c c := ⟨rfl, rfl, rfl⟩
theorem fx_tr {a b c : mx_C} (h1 : fx a b) (h2 : fx b c) : fx a c := ⟨h2.1.trans h1.1, h2.2.1.trans h1.2.1, h2.2.2.trans h1.2.2⟩
theorem fx_pi (c : mx_C) (i k : Nat) (v : Int32) : fx c (mx_pi c i k v) := ⟨rfl, rfl, rfl⟩
theorem fx_launch (c : mx_C) (k a b : Int32) : fx c (fl_launch c k a b).1 := by
  unfold fl_launch
  split <;> exact ⟨rfl, rfl, rfl⟩
theorem fx_bear (c : mx_C) (t : Nat) (x y z : Int32) : fx c (pk_bear c t x y z) := ⟨rfl, rfl, rfl⟩
theorem fx_number (c : mx_C) (t : Nat) (x y z : Int32) : fx c (pk_number c t x y z) := ⟨rfl, rfl, rfl⟩
theorem fx_transmit (c : mx_C) (t : Nat) (n : Int32) : fx c (en_transmit c t n) := by
  unfold en_transmit
  exact fx_tr (fx_launch _ _ _ _) (fx_tr (fx_bear _ _ _ _ _) (fx_number _ _ _ _ _))
theorem fx_startWaiting (c : mx_C) (t : Nat) : fx c (en_startWaiting c t) := ⟨rfl, rfl, rfl⟩
theorem fx_put (c : mx_C) (t : Nat) (k a b : Int32) : fx c (en_put c t k a b) := by
  unfold en_put
  split
  · exact fx_rf c
  · split
    · exact fx_rf c
    · split
      · dsimp only
        split
        · exact ⟨rfl, rfl, rfl⟩
        · refine fx_tr ?_ (fx_transmit _ _ _)
          exact ⟨rfl, rfl, rfl⟩
      · dsimp only
        split
        · exact ⟨rfl, rfl, rfl⟩
        · refine fx_tr ?_ (fx_transmit _ _ _)
          exact ⟨rfl, rfl, rfl⟩
theorem fx_sendAccept (c : mx_C) (a : Nat) : fx c (sv_sendAccept c a) := by
  unfold sv_sendAccept
  exact fx_tr (fx_launch _ _ _ _) (fx_bear _ _ _ _ _)
theorem fx_logsIn (c : mx_C) (a b : Nat) : fx c (sv_logsIn c a b).1 := by
  unfold sv_logsIn
  split
  · exact fx_tr (fx_launch _ _ _ _) (fx_bear _ _ _ _ _)
  · split
    · exact fx_tr (fx_launch _ _ _ _) (fx_bear _ _ _ _ _)
    · exact fx_tr (fx_tr (fx_pi _ _ _ _) (fx_pi _ _ _ _)) (fx_sendAccept _ _)
theorem sv_at_fx {c c' : mx_C} {v : Int32} (h : sv_at c v) (hf : fx c c') : sv_at c' v := by
  unfold sv_at
  rw [hf.2.2]
  exact h
theorem sv_removeL (a : Int32) (r : Nat) : ∀ (n : Nat) (c : mx_C) (v : Int32), sv_rP n v r c.2.2.2.2 → (sv_remove_9 n c a r v).2.2.2.2.val = c.2.2.2.2.val - 1 := by
  intro n
  induction n with
  | zero => intro c v hP; omega
  | succ n ih =>
    intro c v hP
    unfold sv_remove_9
    split
    · rename_i h
      exact ih (mx_ps c _ _) _ (sv_rP1 h hP).2
    · show (Int32.toNatClampNeg (Int32.ofNat c.2.2.2.2.val - 1)) % 5 = _
      rw [sc_nat hP.2.2.2.2, Nat.mod_eq_of_lt (by omega)]
theorem sv_remove_sc {c : mx_C} {v : Int32} (h : sv_at c v) : (sv_remove c v).2.2.2.2.val = c.2.2.2.2.val - 1 := sv_removeL v _ 6 c v (sv_rP0 h)
theorem sv_endSession_sc {c : mx_C} {v : Int32} (h : sv_at c v) : (sv_endSession c v).2.2.2.2.val = c.2.2.2.2.val - 1 := by
  unfold sv_endSession
  dsimp only
  rw [(fx_put _ _ _ _ _).2.2]
  exact sv_remove_sc h
theorem sv_ends0 (c : mx_C) (v : Int32) (h : (sv_endsAtTimer c v).2 = 0) : fx c (sv_endsAtTimer c v).1 := by
  unfold sv_endsAtTimer at h ⊢
  dsimp only at h ⊢
  split at h
  · exact absurd h (show ¬ ((1 : Int32) = 0) by decide)
  · rename_i h1
    rw [if_neg h1]
    split
    · split
      · exact fx_tr (fx_pi _ _ _ _) (fx_sendAccept _ _)
      · split
        · split
          · exact fx_tr (fx_pi _ _ _ _) (fx_tr (fx_launch _ _ _ _) (fx_bear _ _ _ _ _))
          · exact fx_pi _ _ _ _
        · exact fx_pi _ _ _ _
    · split
      · split
        · exact fx_tr (fx_pi _ _ _ _) (fx_tr (fx_launch _ _ _ _) (fx_bear _ _ _ _ _))
        · exact fx_pi _ _ _ _
      · exact fx_pi _ _ _ _
theorem sv_ends1 {c : mx_C} {v : Int32} (ha : sv_at c v) (h : ¬ (sv_endsAtTimer c v).2 = 0) : (sv_endsAtTimer c v).1.2.2.2.2.val = c.2.2.2.2.val - 1 := by
  unfold sv_endsAtTimer at h ⊢
  dsimp only at h ⊢
  split at h
  · rename_i h1
    rw [if_pos h1]
    exact sv_endSession_sc ha
  · refine absurd ?_ h
    repeat (first | rfl | split)
abbrev sv_tP (n : Nat) (v w : Int32) (q : Fin 5) : Prop := 0 ≤ v.toInt ∧ 0 ≤ w.toInt ∧ v.toInt + w.toInt = (q.val : Int) ∧ w.toInt < (n : Int)
theorem sv_tP_at {n : Nat} {v w : Int32} {c : mx_C} (h : 0 < w) (hP : sv_tP n v w c.2.2.2.2) : sv_at c v := by
  rw [i_lt, Int32.toInt_zero] at h
  obtain ⟨p1, p2, p3, p4⟩ := hP
  exact ⟨p1, by omega⟩
theorem sv_tP1 {n : Nat} {v w : Int32} {c : mx_C} (h : 0 < w) (h1 : (sv_endsAtTimer c v).2 = 0) (hP : sv_tP (n + 1) v w c.2.2.2.2) : sv_tP n (v + 1) (w + -1) (sv_endsAtTimer c v).1.2.2.2.2 := by
  rw [(sv_ends0 c v h1).2.2]
  rw [i_lt, Int32.toInt_zero] at h
  have hq := c.2.2.2.2.isLt
  obtain ⟨p1, p2, p3, p4⟩ := hP
  have e : (v + 1).toInt = v.toInt + 1 := i_add (show _ ≤ v.toInt + 1 by omega) (show v.toInt + 1 < _ by omega)
  have e2 : (w + -1).toInt = w.toInt + -1 := i_add (show _ ≤ w.toInt + -1 by omega) (show w.toInt + -1 < _ by omega)
  unfold sv_tP
  rw [e, e2]
  omega
theorem sv_tP2 {n : Nat} {v w : Int32} {c : mx_C} (h : 0 < w) (h1 : ¬ (sv_endsAtTimer c v).2 = 0) (hP : sv_tP (n + 1) v w c.2.2.2.2) : sv_tP n v (w + -1) (sv_endsAtTimer c v).1.2.2.2.2 := by
  have hs := sv_ends1 (sv_tP_at h hP) h1
  rw [i_lt, Int32.toInt_zero] at h
  have hq := c.2.2.2.2.isLt
  obtain ⟨p1, p2, p3, p4⟩ := hP
  have e2 : (w + -1).toInt = w.toInt + -1 := i_add (show _ ≤ w.toInt + -1 by omega) (show w.toInt + -1 < _ by omega)
  unfold sv_tP
  rw [e2, hs]
  omega
theorem sv_tP0 (q : Fin 5) : sv_tP 6 0 (Int32.ofNat q.val) q := by
  unfold sv_tP
  rw [i_of _ (by omega), Int32.toInt_zero]
  omega
def sv_receiveInSession (c : mx_C) (a1 : Nat) : mx_C :=
  if (sv_indexOf c (c.1 a1 3)) < 0 then
    c
  else
    let c1 := mx_pi c (78 + (c.2.2.1 (Int32.toNatClampNeg (sv_indexOf c (c.1 a1 3)))).val) 4 0
    if (c1.1 a1 0) = 4 then
      if (c1.1 (78 + (c.2.2.1 (Int32.toNatClampNeg (sv_indexOf c (c.1 a1 3)))).val) 2) = 1 then
        let q2 := sv_logsIn c1 (78 + (c.2.2.1 (Int32.toNatClampNeg (sv_indexOf c (c.1 a1 3)))).val) a1
        if q2.2 = 0 then
          let c3 := sv_endSession q2.1 (sv_indexOf c (c.1 a1 3))
          c3
        else
          q2.1
      else
        if (c1.1 a1 0) = 4 then
          if (c1.1 (78 + (c.2.2.1 (Int32.toNatClampNeg (sv_indexOf c (c.1 a1 3)))).val) 2) = 2 then
            let c4 := sv_sendAccept c1 (78 + (c.2.2.1 (Int32.toNatClampNeg (sv_indexOf c (c.1 a1 3)))).val)
            c4
          else
            if (c1.1 a1 0) = 7 then
              if (c1.1 (78 + (c.2.2.1 (Int32.toNatClampNeg (sv_indexOf c (c.1 a1 3)))).val) 2) = 2 then
                let c5 := mx_pi c1 (78 + (c.2.2.1 (Int32.toNatClampNeg (sv_indexOf c (c.1 a1 3)))).val) 2 3
                c5
              else
                if (c1.1 a1 0) = 10 then
                  let c6 := sv_passToCore c1 (78 + (c.2.2.1 (Int32.toNatClampNeg (sv_indexOf c (c.1 a1 3)))).val) a1
                  c6
                else
                  c1
            else
              if (c1.1 a1 0) = 10 then
                let c7 := sv_passToCore c1 (78 + (c.2.2.1 (Int32.toNatClampNeg (sv_indexOf c (c.1 a1 3)))).val) a1
                c7
              else
                c1
        else
          if (c1.1 a1 0) = 7 then
            if (c1.1 (78 + (c.2.2.1 (Int32.toNatClampNeg (sv_indexOf c (c.1 a1 3)))).val) 2) = 2 then
              let c8 := mx_pi c1 (78 + (c.2.2.1 (Int32.toNatClampNeg (sv_indexOf c (c.1 a1 3)))).val) 2 3
              c8
            else
              if (c1.1 a1 0) = 10 then
                let c9 := sv_passToCore c1 (78 + (c.2.2.1 (Int32.toNatClampNeg (sv_indexOf c (c.1 a1 3)))).val) a1
                c9
              else
                c1
          else
            if (c1.1 a1 0) = 10 then
              let c10 := sv_passToCore c1 (78 + (c.2.2.1 (Int32.toNatClampNeg (sv_indexOf c (c.1 a1 3)))).val) a1
              c10
            else
              c1
    else
      if (c1.1 a1 0) = 4 then
        if (c1.1 (78 + (c.2.2.1 (Int32.toNatClampNeg (sv_indexOf c (c.1 a1 3)))).val) 2) = 2 then
          let c11 := sv_sendAccept c1 (78 + (c.2.2.1 (Int32.toNatClampNeg (sv_indexOf c (c.1 a1 3)))).val)
          c11
        else
          if (c1.1 a1 0) = 7 then
            if (c1.1 (78 + (c.2.2.1 (Int32.toNatClampNeg (sv_indexOf c (c.1 a1 3)))).val) 2) = 2 then
              let c12 := mx_pi c1 (78 + (c.2.2.1 (Int32.toNatClampNeg (sv_indexOf c (c.1 a1 3)))).val) 2 3
              c12
            else
              if (c1.1 a1 0) = 10 then
                let c13 := sv_passToCore c1 (78 + (c.2.2.1 (Int32.toNatClampNeg (sv_indexOf c (c.1 a1 3)))).val) a1
                c13
              else
                c1
          else
            if (c1.1 a1 0) = 10 then
              let c14 := sv_passToCore c1 (78 + (c.2.2.1 (Int32.toNatClampNeg (sv_indexOf c (c.1 a1 3)))).val) a1
              c14
            else
              c1
      else
        if (c1.1 a1 0) = 7 then
          if (c1.1 (78 + (c.2.2.1 (Int32.toNatClampNeg (sv_indexOf c (c.1 a1 3)))).val) 2) = 2 then
            let c15 := mx_pi c1 (78 + (c.2.2.1 (Int32.toNatClampNeg (sv_indexOf c (c.1 a1 3)))).val) 2 3
            c15
          else
            if (c1.1 a1 0) = 10 then
              let c16 := sv_passToCore c1 (78 + (c.2.2.1 (Int32.toNatClampNeg (sv_indexOf c (c.1 a1 3)))).val) a1
              c16
            else
              c1
        else
          if (c1.1 a1 0) = 10 then
            let c17 := sv_passToCore c1 (78 + (c.2.2.1 (Int32.toNatClampNeg (sv_indexOf c (c.1 a1 3)))).val) a1
            c17
          else
            c1
def K_sv_receiveInSession : rx_K mx := k_RR (fun a0 a1 c m => (a0 = 66 ∧ mx_kl a1 = 2 ∧ sv_pool c, (sv_receiveInSession c a1, m), none))
def L_sv_receiveInSession : List (rx_E mx) := [
  (0, .aload_n 0, 1, 0, 0, 0, [], kno),
  (1, .aload_n 1, 1, 0, 1, 0, [], kno),
  (2, .getfield 113, 3, 7, 1, 0, [], kgi 2 3),
  (5, .invokevirtual 119, 3, 7, 2, 0, [], K_sv_indexOf),
  (8, .istore_n 2, 1, 0, 2, 0, [], kno),
  (9, .iload_n 2, 1, 0, 2, 0, [], kno),
  (10, .ifCond .ge 4, 3, 2, 8, 0, [], kno),
  (13, .return_, 1, 6, 0, 0, [], kno),
  (14, .aload_n 0, 1, 0, 0, 0, [], kno),
  (15, .getfield 13, 3, 7, 1, 0, [], kgr0 7 4 67),
  (18, .iload_n 2, 1, 0, 2, 0, [], kno),
  (19, .aaload, 1, 7, 2, 0, [], kas),
  (20, .astore_n 3, 1, 0, 3, 0, [], kno),
  (21, .aload_n 3, 1, 0, 3, 0, [], kno),
  (22, .iconst 0, 1, 0, 0, 0, [], kno),
  (23, .putfield 135, 3, 7, 2, 0, [], kpi 6 4),
  (26, .aload_n 1, 1, 0, 1, 0, [], kno),
  (27, .getfield 82, 3, 7, 1, 0, [], kgi 2 0),
  (30, .iconst 4, 1, 0, 0, 4, [], kno),
  (31, .if_icmp .ne 28, 3, 2, 33, 0, [], kno),
  (34, .aload_n 3, 1, 0, 3, 0, [], kno),
  (35, .getfield 61, 3, 7, 1, 0, [], kgi 6 2),
  (38, .iconst 1, 1, 0, 0, 1, [], kno),
  (39, .if_icmp .ne 20, 3, 2, 33, 0, [], kno),
  (42, .aload_n 0, 1, 0, 0, 0, [], kno),
  (43, .aload_n 3, 1, 0, 3, 0, [], kno),
  (44, .aload_n 1, 1, 0, 1, 0, [], kno),
  (45, .invokevirtual 138, 3, 7, 3, 0, [], K_sv_logsIn),
  (48, .ifCond .ne 75, 3, 2, 65, 0, [], kno),
  (51, .aload_n 0, 1, 0, 0, 0, [], kno),
  (52, .iload_n 2, 1, 0, 2, 0, [], kno),
  (53, .invokevirtual 142, 3, 7, 2, 0, [], K_sv_endSession),
  (56, .goto 67, 3, 1, 65, 0, [], kno),
  (59, .aload_n 1, 1, 0, 1, 0, [], kno),
  (60, .getfield 82, 3, 7, 1, 0, [], kgi 2 0),
  (63, .iconst 4, 1, 0, 0, 4, [], kno),
  (64, .if_icmp .ne 19, 3, 2, 45, 0, [], kno),
  (67, .aload_n 3, 1, 0, 3, 0, [], kno),
  (68, .getfield 61, 3, 7, 1, 0, [], kgi 6 2),
  (71, .iconst 2, 1, 0, 0, 2, [], kno),
  (72, .if_icmp .ne 11, 3, 2, 45, 0, [], kno),
  (75, .aload_n 0, 1, 0, 0, 0, [], kno),
  (76, .aload_n 3, 1, 0, 3, 0, [], kno),
  (77, .invokevirtual 145, 3, 7, 2, 0, [], K_sv_sendAccept),
  (80, .goto 43, 3, 1, 65, 0, [], kno),
  (83, .aload_n 1, 1, 0, 1, 0, [], kno),
  (84, .getfield 82, 3, 7, 1, 0, [], kgi 2 0),
  (87, .bipush 7, 2, 0, 0, 7, [], kno),
  (89, .if_icmp .ne 19, 3, 2, 57, 0, [], kno),
  (92, .aload_n 3, 1, 0, 3, 0, [], kno),
  (93, .getfield 61, 3, 7, 1, 0, [], kgi 6 2),
  (96, .iconst 2, 1, 0, 0, 2, [], kno),
  (97, .if_icmp .ne 11, 3, 2, 57, 0, [], kno),
  (100, .aload_n 3, 1, 0, 3, 0, [], kno),
  (101, .iconst 3, 1, 0, 0, 3, [], kno),
  (102, .putfield 61, 3, 7, 2, 0, [], kpi 6 2),
  (105, .goto 18, 3, 1, 65, 0, [], kno),
  (108, .aload_n 1, 1, 0, 1, 0, [], kno),
  (109, .getfield 82, 3, 7, 1, 0, [], kgi 2 0),
  (112, .bipush 10, 2, 0, 0, 10, [], kno),
  (114, .if_icmp .ne 9, 3, 2, 65, 0, [], kno),
  (117, .aload_n 0, 1, 0, 0, 0, [], kno),
  (118, .aload_n 3, 1, 0, 3, 0, [], kno),
  (119, .aload_n 1, 1, 0, 1, 0, [], kno),
  (120, .invokevirtual 149, 3, 7, 3, 0, [], K_sv_passToCore),
  (123, .return_, 1, 6, 0, 0, [], kno)]
theorem E_sv_receiveInSession (c : mx_C) (m : mx_M) (a1 : Nat)  : rx_ev L_sv_receiveInSession [] 68 L_sv_receiveInSession (c, m) [some (.ref 66), some (.ref a1), none, none] [] = rw_v m (sv_receiveInSession c a1) :=
  rx_ite2 (f := rw_v m) (fun _ => rfl) (fun _ => rx_ite2 (f := rw_v m) (fun _ => rx_ite2 (f := rw_v m) (fun _ => rx_ite2 (f := rw_v m) (fun _ => rfl) (fun _ => rfl)) (fun _ => rx_ite2 (f := rw_v m) (fun _ => rx_ite2 (f := rw_v m) (fun _ => rfl) (fun _ => rx_ite2 (f := rw_v m) (fun _ => rx_ite2 (f := rw_v m) (fun _ => rfl) (fun _ => rx_ite2 (f := rw_v m) (fun _ => rfl) (fun _ => rfl))) (fun _ => rx_ite2 (f := rw_v m) (fun _ => rfl) (fun _ => rfl)))) (fun _ => rx_ite2 (f := rw_v m) (fun _ => rx_ite2 (f := rw_v m) (fun _ => rfl) (fun _ => rx_ite2 (f := rw_v m) (fun _ => rfl) (fun _ => rfl))) (fun _ => rx_ite2 (f := rw_v m) (fun _ => rfl) (fun _ => rfl))))) (fun _ => rx_ite2 (f := rw_v m) (fun _ => rx_ite2 (f := rw_v m) (fun _ => rfl) (fun _ => rx_ite2 (f := rw_v m) (fun _ => rx_ite2 (f := rw_v m) (fun _ => rfl) (fun _ => rx_ite2 (f := rw_v m) (fun _ => rfl) (fun _ => rfl))) (fun _ => rx_ite2 (f := rw_v m) (fun _ => rfl) (fun _ => rfl)))) (fun _ => rx_ite2 (f := rw_v m) (fun _ => rx_ite2 (f := rw_v m) (fun _ => rfl) (fun _ => rx_ite2 (f := rw_v m) (fun _ => rfl) (fun _ => rfl))) (fun _ => rx_ite2 (f := rw_v m) (fun _ => rfl) (fun _ => rfl)))))
theorem S_sv_receiveInSession (c : mx_C) (m : mx_M) (a1 : Nat) (ha1 : mx_kl a1 = 2) (hq : sv_pool c) : rx_sf L_sv_receiveInSession [] 68 L_sv_receiveInSession (c, m) [some (.ref 66), some (.ref a1), none, none] [] :=
  And.intro ha1 (And.intro rfl (And.intro (fun h0 => trivial) (fun h0 => And.intro rfl (And.intro (sv_at_in (sv_idx_in h0)) (And.intro (mx_kl_ses _) (And.intro ha1 (And.intro (fun h1 => And.intro (mx_kl_ses _) (And.intro (fun h2 => And.intro (And.intro rfl (And.intro (mx_kl_ses _) (And.intro ha1 hq))) (And.intro (fun h3 => And.intro (And.intro rfl (sv_at_fx (sv_idx_in h0) (fx_tr (fx_pi _ _ _ _) (fx_logsIn _ _ _)))) (trivial)) (fun h3 => trivial))) (fun h2 => And.intro ha1 (And.intro (fun h3 => And.intro (mx_kl_ses _) (And.intro (fun h4 => And.intro (And.intro rfl (mx_kl_ses _)) (trivial)) (fun h4 => And.intro ha1 (And.intro (fun h5 => And.intro (mx_kl_ses _) (And.intro (fun h6 => And.intro (mx_kl_ses _) (trivial)) (fun h6 => And.intro ha1 (And.intro (fun h7 => And.intro (And.intro rfl (And.intro (mx_kl_ses _) ha1)) (trivial)) (fun h7 => trivial))))) (fun h5 => And.intro ha1 (And.intro (fun h6 => And.intro (And.intro rfl (And.intro (mx_kl_ses _) ha1)) (trivial)) (fun h6 => trivial))))))) (fun h3 => And.intro ha1 (And.intro (fun h4 => And.intro (mx_kl_ses _) (And.intro (fun h5 => And.intro (mx_kl_ses _) (trivial)) (fun h5 => And.intro ha1 (And.intro (fun h6 => And.intro (And.intro rfl (And.intro (mx_kl_ses _) ha1)) (trivial)) (fun h6 => trivial))))) (fun h4 => And.intro ha1 (And.intro (fun h5 => And.intro (And.intro rfl (And.intro (mx_kl_ses _) ha1)) (trivial)) (fun h5 => trivial))))))))) (fun h1 => And.intro ha1 (And.intro (fun h2 => And.intro (mx_kl_ses _) (And.intro (fun h3 => And.intro (And.intro rfl (mx_kl_ses _)) (trivial)) (fun h3 => And.intro ha1 (And.intro (fun h4 => And.intro (mx_kl_ses _) (And.intro (fun h5 => And.intro (mx_kl_ses _) (trivial)) (fun h5 => And.intro ha1 (And.intro (fun h6 => And.intro (And.intro rfl (And.intro (mx_kl_ses _) ha1)) (trivial)) (fun h6 => trivial))))) (fun h4 => And.intro ha1 (And.intro (fun h5 => And.intro (And.intro rfl (And.intro (mx_kl_ses _) ha1)) (trivial)) (fun h5 => trivial))))))) (fun h2 => And.intro ha1 (And.intro (fun h3 => And.intro (mx_kl_ses _) (And.intro (fun h4 => And.intro (mx_kl_ses _) (trivial)) (fun h4 => And.intro ha1 (And.intro (fun h5 => And.intro (And.intro rfl (And.intro (mx_kl_ses _) ha1)) (trivial)) (fun h5 => trivial))))) (fun h3 => And.intro ha1 (And.intro (fun h4 => And.intro (And.intro rfl (And.intro (mx_kl_ses _) ha1)) (trivial)) (fun h4 => trivial))))))))))))))

theorem cv_sv_logsIn {p : Program} {l : Launch} {e : Env} {R : Room} {s : State} {m : MethodId} {args : Array Value} {below : List Frame} {meth : Method} {c : Code} {cc : ByteArray} {nL : Nat} {ad : Nat → Nat} {D : va_G} {g : Nat → ClassId} {B : Nat} {own : String} {idx : Nat} (X : ox_C p s m args c cc nL own D g ad B) (hV : rx_V l D g ad B ⟨"SubscriberLines$Server", "logsIn", "(LSubscriberLines$Session;LSubscriberLines$Packet;)Z"⟩ prog_8_method_10_code 4 (some .boolean) 2 45 K_sv_logsIn) (hl : Cond.methodLink own idx ⟨"SubscriberLines$Server", "logsIn", "(LSubscriberLines$Session;LSubscriberLines$Packet;)Z"⟩ ∈ al) (hR : 2 + 1 ≤ R.frames ∧ 8 + (4 + 11) + 45 ≤ R.locals) : rx_OK p l e R s m args below meth c cc nL ad (mx_W D g ad B s.heap) mx_cs (.invokevirtual idx) 3 3 (K_sv_logsIn) :=
  ox_callV (q := 7) (T := T_7) X hV (fun av x h => by obtain ⟨a0, a1, a2, rfl⟩ := k_RRR_inv h; exact ⟨a0, _, rfl, by have h2 : a0 = 66 := h.1; rw [h2]; rfl⟩) (by decide) rfl hl (al_at 537 (by decide +kernel) rfl) (al_pr (y := (⟨"SubscriberLines$Server", "logsIn", "(LSubscriberLines$Session;LSubscriberLines$Packet;)Z"⟩, _)) 17 rfl) (al_at 9 (by decide +kernel) rfl) (al_at 538 (by decide +kernel) rfl) ⟨by decide, by decide, by decide +kernel⟩ hR
theorem cv_sv_passToCore {p : Program} {l : Launch} {e : Env} {R : Room} {s : State} {m : MethodId} {args : Array Value} {below : List Frame} {meth : Method} {c : Code} {cc : ByteArray} {nL : Nat} {ad : Nat → Nat} {D : va_G} {g : Nat → ClassId} {B : Nat} {own : String} {idx : Nat} (X : ox_C p s m args c cc nL own D g ad B) (hV : rx_V l D g ad B ⟨"SubscriberLines$Server", "passToCore", "(LSubscriberLines$Session;LSubscriberLines$Packet;)V"⟩ prog_8_method_14_code 3 none 1 22 K_sv_passToCore) (hl : Cond.methodLink own idx ⟨"SubscriberLines$Server", "passToCore", "(LSubscriberLines$Session;LSubscriberLines$Packet;)V"⟩ ∈ al) (hR : 1 + 1 ≤ R.frames ∧ 8 + (3 + 11) + 22 ≤ R.locals) : rx_OK p l e R s m args below meth c cc nL ad (mx_W D g ad B s.heap) mx_cs (.invokevirtual idx) 3 3 (K_sv_passToCore) :=
  ox_callV (q := 7) (T := T_7) X hV (fun av x h => by obtain ⟨a0, a1, a2, rfl⟩ := k_RRR_inv h; exact ⟨a0, _, rfl, by have h2 : a0 = 66 := h.1; rw [h2]; rfl⟩) (by decide) rfl hl (al_at 566 (by decide +kernel) rfl) (al_pr (y := (⟨"SubscriberLines$Server", "passToCore", "(LSubscriberLines$Session;LSubscriberLines$Packet;)V"⟩, _)) 24 rfl) (al_at 9 (by decide +kernel) rfl) (al_at 567 (by decide +kernel) rfl) ⟨by decide, by decide, by decide +kernel⟩ hR
theorem ok_sv_receiveInSession : rx_okF prog_8_method_9_code 4 none L_sv_receiveInSession 0 L_sv_receiveInSession = true := by decide +kernel
theorem V_sv_receiveInSession {l : Launch} {D : va_G} {g : Nat → ClassId} {ad : Nat → Nat} {B : Nat} (had : mx_A ad B) : rx_V l D g ad B ⟨"SubscriberLines$Server", "receiveInSession", "(LSubscriberLines$Packet;)V"⟩ prog_8_method_9_code 4 none 4 93 K_sv_receiveInSession := by
  intro av x hp
  obtain ⟨a0, a1, rfl⟩ := k_RR_inv hp
  have hp : a0 = 66 ∧ mx_kl a1 = 2 ∧ sv_pool x.1 := hp
  have h0 : a0 = 66 := hp.1
  subst h0
  exact rx_met (k := 2) had (by decide) (Nat.le_of_ble_eq_true rfl) ok_sv_receiveInSession rfl rfl 68 (fun p e s m args below meth c X => And.intro (og_sv_113_g X) (And.intro (cv_sv_indexOf X (V_sv_indexOf had) (al_at 531 (by decide +kernel) rfl) ⟨by decide, by decide⟩) (And.intro (og_sv_13_g X) (And.intro (ox_as X) (And.intro (og_sv_135_p X) (And.intro (og_sv_82_g X) (And.intro (og_sv_61_g X) (And.intro (cv_sv_logsIn X (V_sv_logsIn had) (al_at 535 (by decide +kernel) rfl) ⟨by decide, by decide⟩) (And.intro (cv_sv_endSession X (V_sv_endSession had) (al_at 555 (by decide +kernel) rfl) ⟨by decide, by decide⟩) (And.intro (og_sv_82_g X) (And.intro (og_sv_61_g X) (And.intro (cv_sv_sendAccept X (V_sv_sendAccept had) (al_at 551 (by decide +kernel) rfl) ⟨by decide, by decide⟩) (And.intro (og_sv_82_g X) (And.intro (og_sv_61_g X) (And.intro (og_sv_61_p X) (And.intro (og_sv_82_g X) (And.intro (cv_sv_passToCore X (V_sv_passToCore had) (al_at 564 (by decide +kernel) rfl) ⟨by decide, by decide⟩) (trivial)))))))))))))))))) (S_sv_receiveInSession x.1 x.2 a1 hp.2.1 hp.2.2) (E_sv_receiveInSession x.1 x.2 a1)
def sv_receive (c : mx_C) (a1 : Nat) : mx_C :=
  if (c.1 a1 0) < 12 then
    let c1 := sv_receiveInSession c a1
    c1
  else
    if (c.1 a1 0) = 12 then
      if (c.1 74 3) < (c.1 a1 6) then
        let c2 := en_begin c 74 (c.1 a1 6)
        let c3 := mx_pc c2 0
        let q4 := en_isNext c3 74 a1
        if q4.2 = 0 then
          q4.1
        else
          let c5 := sv_perform q4.1 a1
          let c6 := en_acknowledge c5 74
          c6
      else
        let q7 := en_isNext c 74 a1
        if q7.2 = 0 then
          q7.1
        else
          let c8 := sv_perform q7.1 a1
          let c9 := en_acknowledge c8 74
          c9
    else
      let q10 := en_isNext c 74 a1
      if q10.2 = 0 then
        q10.1
      else
        let c11 := sv_perform q10.1 a1
        let c12 := en_acknowledge c11 74
        c12
def K_sv_receive : rx_K mx := k_RR (fun a0 a1 c m => (a0 = 66 ∧ mx_kl a1 = 2 ∧ sv_pool c, (sv_receive c a1, m), none))
def L_sv_receive : List (rx_E mx) := [
  (0, .aload_n 1, 1, 0, 1, 0, [], kno),
  (1, .getfield 82, 3, 7, 1, 0, [], kgi 2 0),
  (4, .bipush 12, 2, 0, 0, 12, [], kno),
  (6, .if_icmp .ge 9, 3, 2, 8, 0, [], kno),
  (9, .aload_n 0, 1, 0, 0, 0, [], kno),
  (10, .aload_n 1, 1, 0, 1, 0, [], kno),
  (11, .invokevirtual 85, 3, 7, 2, 0, [], K_sv_receiveInSession),
  (14, .return_, 1, 6, 0, 0, [], kno),
  (15, .aload_n 1, 1, 0, 1, 0, [], kno),
  (16, .getfield 82, 3, 7, 1, 0, [], kgi 2 0),
  (19, .bipush 12, 2, 0, 0, 12, [], kno),
  (21, .if_icmp .ne 33, 3, 2, 26, 0, [], kno),
  (24, .aload_n 1, 1, 0, 1, 0, [], kno),
  (25, .getfield 89, 3, 7, 1, 0, [], kgi 2 6),
  (28, .aload_n 0, 1, 0, 0, 0, [], kno),
  (29, .getfield 50, 3, 7, 1, 0, [], kgr0 7 2 74),
  (32, .getfield 92, 3, 7, 1, 0, [], kgi 8 3),
  (35, .if_icmp .le 19, 3, 2, 26, 0, [], kno),
  (38, .aload_n 0, 1, 0, 0, 0, [], kno),
  (39, .getfield 50, 3, 7, 1, 0, [], kgr0 7 2 74),
  (42, .aload_n 1, 1, 0, 1, 0, [], kno),
  (43, .getfield 89, 3, 7, 1, 0, [], kgi 2 6),
  (46, .invokevirtual 55, 3, 7, 2, 0, [], K_en_begin),
  (49, .aload_n 0, 1, 0, 0, 0, [], kno),
  (50, .iconst 0, 1, 0, 0, 0, [], kno),
  (51, .putfield 58, 3, 7, 2, 0, [], kps),
  (54, .aload_n 0, 1, 0, 0, 0, [], kno),
  (55, .getfield 50, 3, 7, 1, 0, [], kgr0 7 2 74),
  (58, .aload_n 1, 1, 0, 1, 0, [], kno),
  (59, .invokevirtual 95, 3, 7, 2, 0, [], K_en_isNext),
  (62, .ifCond .eq 15, 3, 2, 37, 0, [], kno),
  (65, .aload_n 0, 1, 0, 0, 0, [], kno),
  (66, .aload_n 1, 1, 0, 1, 0, [], kno),
  (67, .invokevirtual 99, 3, 7, 2, 0, [], K_sv_perform),
  (70, .aload_n 0, 1, 0, 0, 0, [], kno),
  (71, .getfield 50, 3, 7, 1, 0, [], kgr0 7 2 74),
  (74, .invokevirtual 102, 3, 7, 1, 0, [], K_en_acknowledge),
  (77, .return_, 1, 6, 0, 0, [], kno)]
theorem E_sv_receive (c : mx_C) (m : mx_M) (a1 : Nat)  : rx_ev L_sv_receive [] 40 L_sv_receive (c, m) [some (.ref 66), some (.ref a1)] [] = rw_v m (sv_receive c a1) :=
  rx_ite2 (f := rw_v m) (fun _ => rfl) (fun _ => rx_ite2 (f := rw_v m) (fun _ => rx_ite2 (f := rw_v m) (fun _ => rx_ite2 (f := rw_v m) (fun _ => rfl) (fun _ => rfl)) (fun _ => rx_ite2 (f := rw_v m) (fun _ => rfl) (fun _ => rfl))) (fun _ => rx_ite2 (f := rw_v m) (fun _ => rfl) (fun _ => rfl)))
theorem S_sv_receive (c : mx_C) (m : mx_M) (a1 : Nat) (ha1 : mx_kl a1 = 2) (hq : sv_pool c) : rx_sf L_sv_receive [] 40 L_sv_receive (c, m) [some (.ref 66), some (.ref a1)] [] :=
  And.intro ha1 (And.intro (fun h0 => And.intro (And.intro rfl (And.intro ha1 hq)) (trivial)) (fun h0 => And.intro ha1 (And.intro (fun h1 => And.intro ha1 (And.intro rfl (And.intro rfl (And.intro (fun h2 => And.intro rfl (And.intro ha1 (And.intro rfl (And.intro (And.intro rfl sc_z) (And.intro rfl (And.intro (And.intro rfl ha1) (And.intro (fun h3 => trivial) (fun h3 => And.intro (And.intro rfl ha1) (And.intro rfl (And.intro rfl (trivial))))))))))) (fun h2 => And.intro rfl (And.intro (And.intro rfl ha1) (And.intro (fun h3 => trivial) (fun h3 => And.intro (And.intro rfl ha1) (And.intro rfl (And.intro rfl (trivial))))))))))) (fun h1 => And.intro rfl (And.intro (And.intro rfl ha1) (And.intro (fun h2 => trivial) (fun h2 => And.intro (And.intro rfl ha1) (And.intro rfl (And.intro rfl (trivial))))))))))

theorem cv_sv_receiveInSession {p : Program} {l : Launch} {e : Env} {R : Room} {s : State} {m : MethodId} {args : Array Value} {below : List Frame} {meth : Method} {c : Code} {cc : ByteArray} {nL : Nat} {ad : Nat → Nat} {D : va_G} {g : Nat → ClassId} {B : Nat} {own : String} {idx : Nat} (X : ox_C p s m args c cc nL own D g ad B) (hV : rx_V l D g ad B ⟨"SubscriberLines$Server", "receiveInSession", "(LSubscriberLines$Packet;)V"⟩ prog_8_method_9_code 4 none 4 93 K_sv_receiveInSession) (hl : Cond.methodLink own idx ⟨"SubscriberLines$Server", "receiveInSession", "(LSubscriberLines$Packet;)V"⟩ ∈ al) (hR : 4 + 1 ≤ R.frames ∧ 8 + (4 + 11) + 93 ≤ R.locals) : rx_OK p l e R s m args below meth c cc nL ad (mx_W D g ad B s.heap) mx_cs (.invokevirtual idx) 3 2 (K_sv_receiveInSession) :=
  ox_callV (q := 7) (T := T_7) X hV (fun av x h => by obtain ⟨a0, a1, rfl⟩ := k_RR_inv h; exact ⟨a0, _, rfl, by have h2 : a0 = 66 := h.1; rw [h2]; rfl⟩) (by decide) rfl hl (al_at 529 (by decide +kernel) rfl) (al_pr (y := (⟨"SubscriberLines$Server", "receiveInSession", "(LSubscriberLines$Packet;)V"⟩, _)) 15 rfl) (al_at 9 (by decide +kernel) rfl) (al_at 530 (by decide +kernel) rfl) ⟨by decide, by decide, by decide +kernel⟩ hR
theorem og_sv_89_g {p : Program} {l : Launch} {e : Env} {R : Room} {s : State} {m : MethodId} {args : Array Value} {below : List Frame} {meth : Method} {c : Code} {cc : ByteArray} {nL : Nat} {ad : Nat → Nat} {D : va_G} {g : Nat → ClassId} {B : Nat} (X : ox_C p s m args c cc nL "SubscriberLines$Server" D g ad B) : rx_OK p l e R s m args below meth c cc nL ad (mx_W D g ad B s.heap) mx_cs (.getfield 89) 3 1 (kgi 2 6) := ox_gi (T := T_2) X rfl (by decide) (by decide) in_2 rfl (al_at 64 (by decide +kernel) rfl)
theorem og_sv_92_g {p : Program} {l : Launch} {e : Env} {R : Room} {s : State} {m : MethodId} {args : Array Value} {below : List Frame} {meth : Method} {c : Code} {cc : ByteArray} {nL : Nat} {ad : Nat → Nat} {D : va_G} {g : Nat → ClassId} {B : Nat} (X : ox_C p s m args c cc nL "SubscriberLines$Server" D g ad B) : rx_OK p l e R s m args below meth c cc nL ad (mx_W D g ad B s.heap) mx_cs (.getfield 92) 3 1 (kgi 8 3) := ox_gi (T := T_8) X rfl (by decide) (by decide) in_8 rfl (al_at 185 (by decide +kernel) rfl)
theorem cv_sv_perform {p : Program} {l : Launch} {e : Env} {R : Room} {s : State} {m : MethodId} {args : Array Value} {below : List Frame} {meth : Method} {c : Code} {cc : ByteArray} {nL : Nat} {ad : Nat → Nat} {D : va_G} {g : Nat → ClassId} {B : Nat} {own : String} {idx : Nat} (X : ox_C p s m args c cc nL own D g ad B) (hV : rx_V l D g ad B ⟨"SubscriberLines$Server", "perform", "(LSubscriberLines$Packet;)V"⟩ prog_8_method_7_code 3 none 4 92 K_sv_perform) (hl : Cond.methodLink own idx ⟨"SubscriberLines$Server", "perform", "(LSubscriberLines$Packet;)V"⟩ ∈ al) (hR : 4 + 1 ≤ R.frames ∧ 8 + (3 + 11) + 92 ≤ R.locals) : rx_OK p l e R s m args below meth c cc nL ad (mx_W D g ad B s.heap) mx_cs (.invokevirtual idx) 3 2 (K_sv_perform) :=
  ox_callV (q := 7) (T := T_7) X hV (fun av x h => by obtain ⟨a0, a1, rfl⟩ := k_RR_inv h; exact ⟨a0, _, rfl, by have h2 : a0 = 66 := h.1; rw [h2]; rfl⟩) (by decide) rfl hl (al_at 575 (by decide +kernel) rfl) (al_pr (y := (⟨"SubscriberLines$Server", "perform", "(LSubscriberLines$Packet;)V"⟩, _)) 25 rfl) (al_at 9 (by decide +kernel) rfl) (al_at 576 (by decide +kernel) rfl) ⟨by decide, by decide, by decide +kernel⟩ hR
theorem ok_sv_receive : rx_okF prog_8_method_5_code 2 none L_sv_receive 0 L_sv_receive = true := by decide +kernel
theorem V_sv_receive {l : Launch} {D : va_G} {g : Nat → ClassId} {ad : Nat → Nat} {B : Nat} (had : mx_A ad B) : rx_V l D g ad B ⟨"SubscriberLines$Server", "receive", "(LSubscriberLines$Packet;)V"⟩ prog_8_method_5_code 2 none 5 116 K_sv_receive := by
  intro av x hp
  obtain ⟨a0, a1, rfl⟩ := k_RR_inv hp
  have hp : a0 = 66 ∧ mx_kl a1 = 2 ∧ sv_pool x.1 := hp
  have h0 : a0 = 66 := hp.1
  subst h0
  exact rx_met (k := 0) had (by decide) (Nat.le_of_ble_eq_true rfl) ok_sv_receive rfl rfl 40 (fun p e s m args below meth c X => And.intro (og_sv_82_g X) (And.intro (cv_sv_receiveInSession X (V_sv_receiveInSession had) (al_at 527 (by decide +kernel) rfl) ⟨by decide, by decide⟩) (And.intro (og_sv_82_g X) (And.intro (og_sv_89_g X) (And.intro (og_sv_50_g X) (And.intro (og_sv_92_g X) (And.intro (og_sv_50_g X) (And.intro (og_sv_89_g X) (And.intro (cv_en_begin X (V_en_begin had) (al_at 435 (by decide +kernel) rfl) ⟨by decide, by decide⟩) (And.intro (og_sv_58_p X) (And.intro (og_sv_50_g X) (And.intro (cv_en_isNext X (V_en_isNext had) (al_at 572 (by decide +kernel) rfl) ⟨by decide, by decide⟩) (And.intro (cv_sv_perform X (V_sv_perform had) (al_at 573 (by decide +kernel) rfl) ⟨by decide, by decide⟩) (And.intro (og_sv_50_g X) (And.intro (cv_en_acknowledge X (V_en_acknowledge had) (al_at 585 (by decide +kernel) rfl) ⟨by decide, by decide⟩) (trivial)))))))))))))))) (S_sv_receive x.1 x.2 a1 hp.2.1 hp.2.2) (E_sv_receive x.1 x.2 a1)
def sv_runTimer_7 : Nat → mx_C → Int32 → Int32 → mx_C
  | 0, c, _, _ => c
  | n + 1, c, v1, v2 =>
    if 0 < v2 then
      let q1 := sv_endsAtTimer c v1
      if q1.2 = 0 then
        sv_runTimer_7 n q1.1 (v1 + 1) (v2 + (-1))
      else
        sv_runTimer_7 n q1.1 v1 (v2 + (-1))
    else
      let q2 := en_breaksAtTimer c 74
      if q2.2 = 0 then
        q2.1
      else
        let c3 := mx_pc q2.1 0
        c3
def sv_runTimer (c : mx_C)  : mx_C :=
  sv_runTimer_7 (6) c 0 (Int32.ofNat c.2.2.2.2.val)
def K_sv_runTimer : rx_K mx := k_R (fun a0 c m => (a0 = 66, (sv_runTimer c, m), none))
def L_sv_runTimer : List (rx_E mx) := [
  (0, .iconst 0, 1, 0, 0, 0, [], kno),
  (1, .istore_n 1, 1, 0, 1, 0, [], kno),
  (2, .aload_n 0, 1, 0, 0, 0, [], kno),
  (3, .getfield 58, 3, 7, 1, 0, [], kgs),
  (6, .istore_n 2, 1, 0, 2, 0, [], kno),
  (7, .iload_n 2, 1, 0, 2, 0, [], kno),
  (8, .ifCond .le 20, 3, 2, 14, 0, [], kno),
  (11, .aload_n 0, 1, 0, 0, 0, [], kno),
  (12, .iload_n 1, 1, 0, 1, 0, [], kno),
  (13, .invokevirtual 105, 3, 7, 2, 0, [], K_sv_endsAtTimer),
  (16, .ifCond .ne 6, 3, 2, 12, 0, [], kno),
  (19, .iinc 1 1, 3, 0, 1, 1, [], kno),
  (22, .iinc 2 (-1), 3, 0, 2, (-1), [], kno),
  (25, .goto (-18), 3, 1, 5, 0, [], kno),
  (28, .aload_n 0, 1, 0, 0, 0, [], kno),
  (29, .getfield 50, 3, 7, 1, 0, [], kgr0 7 2 74),
  (32, .invokevirtual 109, 3, 7, 1, 0, [], K_en_breaksAtTimer),
  (35, .ifCond .eq 8, 3, 2, 21, 0, [], kno),
  (38, .aload_n 0, 1, 0, 0, 0, [], kno),
  (39, .iconst 0, 1, 0, 0, 0, [], kno),
  (40, .putfield 58, 3, 7, 2, 0, [], kps),
  (43, .return_, 1, 6, 0, 0, [], kno)]
def G_sv_runTimer (n : Nat) : rx_G := fun x ls st =>
  match ls, st with
  | [some (.ref r0), some (.int v1), some (.int v2)], [] => (r0 = 66 ∧ sv_tP n v1 v2 x.1.2.2.2.2, rw_v x.2 (sv_runTimer_7 n x.1 v1 v2))
  | _, _ => (False, (x, none))
theorem GI_sv_runTimer {n : Nat} {x : mx} {ls : rx_L} {st : List Value} (h : (G_sv_runTimer n x ls st).1) : ∃ (r0 : Nat) (v1 : Int32) (v2 : Int32), ls = [some (.ref r0), some (.int v1), some (.int v2)] ∧ st = [] ∧ r0 = 66 ∧ sv_tP n v1 v2 x.1.2.2.2.2 := by
  unfold G_sv_runTimer at h
  split at h
  · exact ⟨_, _, _, rfl, rfl, h⟩
  · exact False.elim h
theorem EH_sv_runTimer (n : Nat) (c : mx_C) (m : mx_M) (v1 : Int32) (v2 : Int32) : rx_ev L_sv_runTimer [(7, G_sv_runTimer n)] 24 (L_sv_runTimer.drop 5) (c, m) [some (.ref 66), some (.int v1), some (.int v2)] [] = rw_v m (sv_runTimer_7 (n + 1) c v1 v2) :=
  rx_ite2 (f := rw_v m) (fun _ => rx_ite2 (f := rw_v m) (fun _ => rfl) (fun _ => rfl)) (fun _ => rx_ite2 (f := rw_v m) (fun _ => rfl) (fun _ => rfl))
theorem SH_sv_runTimer (n : Nat) (c : mx_C) (m : mx_M) (v1 : Int32) (v2 : Int32) (hP : sv_tP (n + 1) v1 v2 c.2.2.2.2) : rx_sf L_sv_runTimer [(7, G_sv_runTimer n)] 24 (L_sv_runTimer.drop 5) (c, m) [some (.ref 66), some (.int v1), some (.int v2)] [] :=
  And.intro (fun h0 => And.intro (And.intro rfl (sv_tP_at h0 hP)) (And.intro (fun h1 => And.intro rfl (sv_tP1 h0 h1 hP)) (fun h1 => And.intro rfl (sv_tP2 h0 h1 hP)))) (fun h0 => And.intro rfl (And.intro rfl (And.intro (fun h1 => trivial) (fun h1 => And.intro (And.intro rfl sc_z) (trivial)))))
theorem E_sv_runTimer (c : mx_C) (m : mx_M)   : rx_ev L_sv_runTimer [(7, G_sv_runTimer (6))] 24 L_sv_runTimer (c, m) [some (.ref 66), none, none] [] = rw_v m (sv_runTimer c) :=
  rfl
theorem S_sv_runTimer (c : mx_C) (m : mx_M)   : rx_sf L_sv_runTimer [(7, G_sv_runTimer (6))] 24 L_sv_runTimer (c, m) [some (.ref 66), none, none] [] :=
  And.intro rfl (And.intro rfl (sv_tP0 _))
theorem cv_sv_endsAtTimer {p : Program} {l : Launch} {e : Env} {R : Room} {s : State} {m : MethodId} {args : Array Value} {below : List Frame} {meth : Method} {c : Code} {cc : ByteArray} {nL : Nat} {ad : Nat → Nat} {D : va_G} {g : Nat → ClassId} {B : Nat} {own : String} {idx : Nat} (X : ox_C p s m args c cc nL own D g ad B) (hV : rx_V l D g ad B ⟨"SubscriberLines$Server", "endsAtTimer", "(I)Z"⟩ prog_8_method_15_code 3 (some .boolean) 4 93 K_sv_endsAtTimer) (hl : Cond.methodLink own idx ⟨"SubscriberLines$Server", "endsAtTimer", "(I)Z"⟩ ∈ al) (hR : 4 + 1 ≤ R.frames ∧ 8 + (3 + 11) + 93 ≤ R.locals) : rx_OK p l e R s m args below meth c cc nL ad (mx_W D g ad B s.heap) mx_cs (.invokevirtual idx) 3 2 (K_sv_endsAtTimer) :=
  ox_callV (q := 7) (T := T_7) X hV (fun av x h => by obtain ⟨a0, a1, rfl⟩ := k_RI_inv h; exact ⟨a0, _, rfl, by have h2 : a0 = 66 := h.1; rw [h2]; rfl⟩) (by decide) rfl hl (al_at 619 (by decide +kernel) rfl) (al_pr (y := (⟨"SubscriberLines$Server", "endsAtTimer", "(I)Z"⟩, _)) 30 rfl) (al_at 9 (by decide +kernel) rfl) (al_at 620 (by decide +kernel) rfl) ⟨by decide, by decide, by decide +kernel⟩ hR
theorem ok_sv_runTimer : rx_okF prog_8_method_6_code 3 none L_sv_runTimer 0 L_sv_runTimer = true := by decide +kernel
theorem O_sv_runTimer {l : Launch} {D : va_G} {g : Nat → ClassId} {ad : Nat → Nat} {B : Nat} (had : mx_A ad B) {p : Program} {e : Env} {s : State} {m : MethodId} {args : Array Value} {below : List Frame} {meth : Method} {c : Code} (X : ox_C p s m args c prog_8_method_6_code 3 "SubscriberLines$Server" D g ad B) : rx_ops p l e ({ frames := 5, cells := 0, slots := 0, locals := 115 } : Room) s m args below meth c prog_8_method_6_code 3 ad (mx_W D g ad B s.heap) mx_cs L_sv_runTimer :=
  And.intro (og_sv_58_g X) (And.intro (cv_sv_endsAtTimer X (V_sv_endsAtTimer had) (al_at 617 (by decide +kernel) rfl) ⟨by decide, by decide⟩) (And.intro (og_sv_50_g X) (And.intro (cv_en_breaksAtTimer X (V_en_breaksAtTimer had) (al_at 621 (by decide +kernel) rfl) ⟨by decide, by decide⟩) (And.intro (og_sv_58_p X) (trivial)))))
theorem V_sv_runTimer {l : Launch} {D : va_G} {g : Nat → ClassId} {ad : Nat → Nat} {B : Nat} (had : mx_A ad B) : rx_V l D g ad B ⟨"SubscriberLines$Server", "runTimer", "()V"⟩ prog_8_method_6_code 3 none 5 115 K_sv_runTimer := by
  intro av x hp
  obtain ⟨a0, rfl⟩ := k_R_inv hp
  have hp : a0 = 66 := hp
  have h0 : a0 = 66 := hp
  subst h0
  refine rx_metX (k := 2) had (by decide) (Nat.le_of_ble_eq_true rfl) fun p e s m args below meth c X hr hlk => ?_
  refine rx_walk X hr hlk ok_sv_runTimer (O_sv_runTimer had X) (cut := [(7, G_sv_runTimer (6))]) (rx_cc ?_ rx_c0) 24 0 rfl (S_sv_runTimer x.1 x.2  ) (E_sv_runTimer x.1 x.2  )
  refine rx_loop (G := G_sv_runTimer) X hr hlk ok_sv_runTimer (O_sv_runTimer had X) rx_c0 24 5 rfl (fun x ls st h => ?_) (fun n x ls st h => ?_) _
  · obtain ⟨r0, v1, v2, -, -, h3⟩ := GI_sv_runTimer h
    have h4 := h3.2
    omega
  · obtain ⟨r0, v1, v2, rfl, rfl, h3⟩ := GI_sv_runTimer h
    obtain ⟨rfl, hP⟩ := h3
    exact ⟨SH_sv_runTimer n x.1 x.2 v1 v2 hP, EH_sv_runTimer n x.1 x.2 v1 v2⟩
end
section
def sl_isSubscriber (c : mx_C) (a1 : Int32) : Int32 :=
  if a1 < 0 then
    0
  else
    if a1 < 4 then
      1
    else
      0
def K_sl_isSubscriber : rx_K mx := k_I (fun a0 c m => (True, (c, m), some (.int (sl_isSubscriber c a0))))
def L_sl_isSubscriber : List (rx_E mx) := [
  (0, .iload_n 0, 1, 0, 0, 0, [], kno),
  (1, .ifCond .lt 12, 3, 2, 7, 0, [], kno),
  (4, .iload_n 0, 1, 0, 0, 0, [], kno),
  (5, .iconst 4, 1, 0, 0, 4, [], kno),
  (6, .if_icmp .ge 7, 3, 2, 7, 0, [], kno),
  (9, .iconst 1, 1, 0, 0, 1, [], kno),
  (10, .goto 4, 3, 1, 8, 0, [], kno),
  (13, .iconst 0, 1, 0, 0, 0, [], kno),
  (14, .ireturn, 1, 5, 1, 0, [], kno)]
theorem E_sl_isSubscriber (c : mx_C) (m : mx_M) (a1 : Int32)  : rx_ev L_sl_isSubscriber [] 11 L_sl_isSubscriber (c, m) [some (.int a1)] [] = rw_p c m (sl_isSubscriber c a1) :=
  rx_ite2 (f := rw_p c m) (fun _ => rfl) (fun _ => rx_ite2 (f := rw_p c m) (fun _ => rfl) (fun _ => rfl))
theorem S_sl_isSubscriber (c : mx_C) (m : mx_M) (a1 : Int32)  : rx_sf L_sl_isSubscriber [] 11 L_sl_isSubscriber (c, m) [some (.int a1)] [] :=
  And.intro (fun h0 => Or.inl rfl) (fun h0 => And.intro (fun h1 => Or.inr rfl) (fun h1 => Or.inl rfl))

theorem ok_sl_isSubscriber : rx_okF prog_1_method_21_code 1 (some .boolean) L_sl_isSubscriber 0 L_sl_isSubscriber = true := by decide +kernel
theorem V_sl_isSubscriber {l : Launch} {D : va_G} {g : Nat → ClassId} {ad : Nat → Nat} {B : Nat} (had : mx_A ad B) : rx_V l D g ad B ⟨"SubscriberLines", "isSubscriber", "(I)Z"⟩ prog_1_method_21_code 1 (some .boolean) 0 0 K_sl_isSubscriber := by
  intro av x hp
  obtain ⟨a0, rfl⟩ := k_I_inv hp
  exact rx_met (k := 0) had (by decide) (Nat.le_of_ble_eq_true rfl) ok_sl_isSubscriber rfl rfl 11 (fun p e s m args below meth c X => trivial) (S_sl_isSubscriber x.1 x.2 a0 ) (E_sl_isSubscriber x.1 x.2 a0)
theorem sl_sub_in {c : mx_C} {k : Int32} (h : ¬ sl_isSubscriber c k = 0) : vp_in k 4 := by
  unfold sl_isSubscriber at h
  split at h
  · exact absurd rfl h
  · rename_i h0
    split at h
    · rename_i h1
      exact in4 h0 h1
    · exact absurd rfl h
theorem sl_kl {k : Int32} (h : vp_in k 4) : mx_kl (47 + 3 * k.toNatClampNeg) = 4 ∧ mx_kl (47 + 3 * k.toNatClampNeg + 1) = 3 := by
  have hk : k.toNatClampNeg < 4 := Nat.not_le.mp fun q => h (Or.inr q)
  have key : ∀ j : Fin 4, mx_kl (47 + 3 * j.val) = 4 ∧ mx_kl (47 + 3 * j.val + 1) = 3 := by decide
  exact key ⟨_, hk⟩
theorem sv_admit_01 (c : mx_C) (a b : Int32) : (sv_admit c a b).2 = 0 ∨ (sv_admit c a b).2 = 1 := by
  unfold sv_admit
  repeat (first | exact Or.inl rfl | exact Or.inr rfl | split)
theorem fl_exchange_01 (c : mx_C) (a : Int32) : (fl_exchange c a).2 = 0 ∨ (fl_exchange c a).2 = 1 := by
  unfold fl_exchange
  repeat (first | exact Or.inl rfl | exact Or.inr rfl | split)
theorem sv_speakL (a b : Int32) : ∀ (n : Nat) (c : mx_C) (v : Int32), (sv_speak_2 n c a b v).2 = 0 ∨ (sv_speak_2 n c a b v).2 = 1 := by
  intro n
  induction n with
  | zero => intro c v; exact Or.inl rfl
  | succ n ih =>
    intro c v
    unfold sv_speak_2
    repeat (first | exact Or.inl rfl | exact Or.inr rfl | exact ih _ _ | split)
theorem sv_speak_01 (c : mx_C) (a b : Int32) : (sv_speak c a b).2 = 0 ∨ (sv_speak c a b).2 = 1 := sv_speakL a b 5 c 0
theorem sl_nd4 {a : Int32} (h : a = 4) : mx_nd (mx_no a.toNatClampNeg) ∧ vp_in a (mx_lenG 5 5 46) := by
  subst h
  exact ⟨Or.inr (Or.inl rfl), i_in.mpr (by decide)⟩
theorem sl_nd5 {a : Int32} (h : a = 5) : mx_nd (mx_no a.toNatClampNeg) ∧ vp_in a (mx_lenG 5 5 46) := by
  subst h
  exact ⟨Or.inr (Or.inr rfl), i_in.mpr (by decide)⟩
theorem sl_ses {k : Int32} {q : Fin 5} (h0 : ¬ k < 0) (h1 : k < Int32.ofNat q.val) : vp_in k (mx_lenG 3 3 67) := by
  rw [i_lt, Int32.toInt_zero] at h0
  rw [i_lt, i_of _ (by omega)] at h1
  rw [i_in]
  show _ ∧ k.toInt < (4 : Int)
  omega
def sl_allow (c : mx_C) (a1 : Int32) (a2 : Int32) : mx_C × Int32 :=
  let q1 := sv_admit c a1 a2
  (q1.1, q1.2)
def K_sl_allow : rx_K mx := k_RII (fun a0 a1 a2 c m => (a0 = 0, ((sl_allow c a1 a2).1, m), some (.int (sl_allow c a1 a2).2)))
def L_sl_allow : List (rx_E mx) := [
  (0, .aload_n 0, 1, 0, 0, 0, [], kno),
  (1, .getfield 54, 3, 7, 1, 0, [], kgr0 0 3 66),
  (4, .iload_n 1, 1, 0, 1, 0, [], kno),
  (5, .iload_n 2, 1, 0, 2, 0, [], kno),
  (6, .invokevirtual 58, 3, 7, 3, 0, [], K_sv_admit),
  (9, .ireturn, 1, 5, 1, 0, [], kno)]
theorem E_sl_allow (c : mx_C) (m : mx_M) (a1 : Int32) (a2 : Int32)  : rx_ev L_sl_allow [] 8 L_sl_allow (c, m) [some (.ref 0), some (.int a1), some (.int a2)] [] = rw_i m (sl_allow c a1 a2) :=
  rfl
theorem S_sl_allow (c : mx_C) (m : mx_M) (a1 : Int32) (a2 : Int32)  : rx_sf L_sl_allow [] 8 L_sl_allow (c, m) [some (.ref 0), some (.int a1), some (.int a2)] [] :=
  And.intro rfl (And.intro rfl ((sv_admit_01 _ _ _)))

theorem og_sl_54_g {p : Program} {l : Launch} {e : Env} {R : Room} {s : State} {m : MethodId} {args : Array Value} {below : List Frame} {meth : Method} {c : Code} {cc : ByteArray} {nL : Nat} {ad : Nat → Nat} {D : va_G} {g : Nat → ClassId} {B : Nat} (X : ox_C p s m args c cc nL "SubscriberLines" D g ad B) : rx_OK p l e R s m args below meth c cc nL ad (mx_W D g ad B s.heap) mx_cs (.getfield 54) 3 1 (kgr0 0 3 66) := ox_gr0 (T := T_0) X rfl (by decide) (by decide) in_0 rfl (al_at 333 (by decide +kernel) rfl)
theorem cv_sv_admit {p : Program} {l : Launch} {e : Env} {R : Room} {s : State} {m : MethodId} {args : Array Value} {below : List Frame} {meth : Method} {c : Code} {cc : ByteArray} {nL : Nat} {ad : Nat → Nat} {D : va_G} {g : Nat → ClassId} {B : Nat} {own : String} {idx : Nat} (X : ox_C p s m args c cc nL own D g ad B) (hV : rx_V l D g ad B ⟨"SubscriberLines$Server", "admit", "(II)Z"⟩ prog_8_method_3_code 3 (some .boolean) 0 0 K_sv_admit) (hl : Cond.methodLink own idx ⟨"SubscriberLines$Server", "admit", "(II)Z"⟩ ∈ al) (hR : 0 + 1 ≤ R.frames ∧ 8 + (3 + 11) + 0 ≤ R.locals) : rx_OK p l e R s m args below meth c cc nL ad (mx_W D g ad B s.heap) mx_cs (.invokevirtual idx) 3 3 (K_sv_admit) :=
  ox_callV (q := 7) (T := T_7) X hV (fun av x h => by obtain ⟨a0, a1, a2, rfl⟩ := k_RII_inv h; exact ⟨a0, _, rfl, by have h2 : a0 = 66 := h; rw [h2]; rfl⟩) (by decide) rfl hl (al_at 351 (by decide +kernel) rfl) (al_at 352 (by decide +kernel) rfl) (al_at 9 (by decide +kernel) rfl) (al_at 353 (by decide +kernel) rfl) ⟨by decide, by decide, by decide +kernel⟩ hR
theorem ok_sl_allow : rx_okF prog_1_method_2_code 3 (some .boolean) L_sl_allow 0 L_sl_allow = true := by decide +kernel
theorem V_sl_allow {l : Launch} {D : va_G} {g : Nat → ClassId} {ad : Nat → Nat} {B : Nat} (had : mx_A ad B) : rx_V l D g ad B ⟨"SubscriberLines", "allow", "(II)Z"⟩ prog_1_method_2_code 3 (some .boolean) 1 22 K_sl_allow := by
  intro av x hp
  obtain ⟨a0, a1, a2, rfl⟩ := k_RII_inv hp
  have hp : a0 = 0 := hp
  have h0 : a0 = 0 := hp
  subst h0
  exact rx_met (k := 0) had (by decide) (Nat.le_of_ble_eq_true rfl) ok_sl_allow rfl rfl 8 (fun p e s m args below meth c X => And.intro (og_sl_54_g X) (And.intro (cv_sv_admit X (V_sv_admit had) (al_at 350 (by decide +kernel) rfl) ⟨by decide, by decide⟩) (trivial))) (S_sl_allow x.1 x.2 a1 a2 ) (E_sl_allow x.1 x.2 a1 a2)
def sl_core (c : mx_C) (a1 : Int32) (a2 : Int32) : mx_C × Int32 :=
  let q1 := sv_speak c a1 a2
  (q1.1, q1.2)
def K_sl_core : rx_K mx := k_RII (fun a0 a1 a2 c m => (a0 = 0, ((sl_core c a1 a2).1, m), some (.int (sl_core c a1 a2).2)))
def L_sl_core : List (rx_E mx) := [
  (0, .aload_n 0, 1, 0, 0, 0, [], kno),
  (1, .getfield 54, 3, 7, 1, 0, [], kgr0 0 3 66),
  (4, .iload_n 1, 1, 0, 1, 0, [], kno),
  (5, .iload_n 2, 1, 0, 2, 0, [], kno),
  (6, .invokevirtual 76, 3, 7, 3, 0, [], K_sv_speak),
  (9, .ireturn, 1, 5, 1, 0, [], kno)]
theorem E_sl_core (c : mx_C) (m : mx_M) (a1 : Int32) (a2 : Int32)  : rx_ev L_sl_core [] 8 L_sl_core (c, m) [some (.ref 0), some (.int a1), some (.int a2)] [] = rw_i m (sl_core c a1 a2) :=
  rfl
theorem S_sl_core (c : mx_C) (m : mx_M) (a1 : Int32) (a2 : Int32)  : rx_sf L_sl_core [] 8 L_sl_core (c, m) [some (.ref 0), some (.int a1), some (.int a2)] [] :=
  And.intro rfl (And.intro rfl ((sv_speak_01 _ _ _)))

theorem cv_sv_speak {p : Program} {l : Launch} {e : Env} {R : Room} {s : State} {m : MethodId} {args : Array Value} {below : List Frame} {meth : Method} {c : Code} {cc : ByteArray} {nL : Nat} {ad : Nat → Nat} {D : va_G} {g : Nat → ClassId} {B : Nat} {own : String} {idx : Nat} (X : ox_C p s m args c cc nL own D g ad B) (hV : rx_V l D g ad B ⟨"SubscriberLines$Server", "speak", "(II)Z"⟩ prog_8_method_4_code 5 (some .boolean) 1 24 K_sv_speak) (hl : Cond.methodLink own idx ⟨"SubscriberLines$Server", "speak", "(II)Z"⟩ ∈ al) (hR : 1 + 1 ≤ R.frames ∧ 8 + (5 + 11) + 24 ≤ R.locals) : rx_OK p l e R s m args below meth c cc nL ad (mx_W D g ad B s.heap) mx_cs (.invokevirtual idx) 3 3 (K_sv_speak) :=
  ox_callV (q := 7) (T := T_7) X hV (fun av x h => by obtain ⟨a0, a1, a2, rfl⟩ := k_RII_inv h; exact ⟨a0, _, rfl, by have h2 : a0 = 66 := h; rw [h2]; rfl⟩) (by decide) rfl hl (al_at 410 (by decide +kernel) rfl) (al_at 411 (by decide +kernel) rfl) (al_at 9 (by decide +kernel) rfl) (al_at 412 (by decide +kernel) rfl) ⟨by decide, by decide, by decide +kernel⟩ hR
theorem ok_sl_core : rx_okF prog_1_method_6_code 3 (some .boolean) L_sl_core 0 L_sl_core = true := by decide +kernel
theorem V_sl_core {l : Launch} {D : va_G} {g : Nat → ClassId} {ad : Nat → Nat} {B : Nat} (had : mx_A ad B) : rx_V l D g ad B ⟨"SubscriberLines", "core", "(II)Z"⟩ prog_1_method_6_code 3 (some .boolean) 2 48 K_sl_core := by
  intro av x hp
  obtain ⟨a0, a1, a2, rfl⟩ := k_RII_inv hp
  have hp : a0 = 0 := hp
  have h0 : a0 = 0 := hp
  subst h0
  exact rx_met (k := 0) had (by decide) (Nat.le_of_ble_eq_true rfl) ok_sl_core rfl rfl 8 (fun p e s m args below meth c X => And.intro (og_sl_54_g X) (And.intro (cv_sv_speak X (V_sv_speak had) (al_at 409 (by decide +kernel) rfl) ⟨by decide, by decide⟩) (trivial))) (S_sl_core x.1 x.2 a1 a2 ) (E_sl_core x.1 x.2 a1 a2)
def sl_swap (c : mx_C) (a1 : Int32) : mx_C × Int32 :=
  let q1 := fl_exchange c a1
  (q1.1, q1.2)
def K_sl_swap : rx_K mx := k_RI (fun a0 a1 c m => (a0 = 0, ((sl_swap c a1).1, m), some (.int (sl_swap c a1).2)))
def L_sl_swap : List (rx_E mx) := [
  (0, .aload_n 0, 1, 0, 0, 0, [], kno),
  (1, .getfield 10, 3, 7, 1, 0, [], kgr0 0 0 1),
  (4, .iload_n 1, 1, 0, 1, 0, [], kno),
  (5, .invokevirtual 104, 3, 7, 2, 0, [], K_fl_exchange),
  (8, .ireturn, 1, 5, 1, 0, [], kno)]
theorem E_sl_swap (c : mx_C) (m : mx_M) (a1 : Int32)  : rx_ev L_sl_swap [] 7 L_sl_swap (c, m) [some (.ref 0), some (.int a1)] [] = rw_i m (sl_swap c a1) :=
  rfl
theorem S_sl_swap (c : mx_C) (m : mx_M) (a1 : Int32)  : rx_sf L_sl_swap [] 7 L_sl_swap (c, m) [some (.ref 0), some (.int a1)] [] :=
  And.intro rfl (And.intro rfl ((fl_exchange_01 _ _)))

theorem og_sl_10_g {p : Program} {l : Launch} {e : Env} {R : Room} {s : State} {m : MethodId} {args : Array Value} {below : List Frame} {meth : Method} {c : Code} {cc : ByteArray} {nL : Nat} {ad : Nat → Nat} {D : va_G} {g : Nat → ClassId} {B : Nat} (X : ox_C p s m args c cc nL "SubscriberLines" D g ad B) : rx_OK p l e R s m args below meth c cc nL ad (mx_W D g ad B s.heap) mx_cs (.getfield 10) 3 1 (kgr0 0 0 1) := ox_gr0 (T := T_0) X rfl (by decide) (by decide) in_0 rfl (al_at 330 (by decide +kernel) rfl)
theorem cv_fl_exchange {p : Program} {l : Launch} {e : Env} {R : Room} {s : State} {m : MethodId} {args : Array Value} {below : List Frame} {meth : Method} {c : Code} {cc : ByteArray} {nL : Nat} {ad : Nat → Nat} {D : va_G} {g : Nat → ClassId} {B : Nat} {own : String} {idx : Nat} (X : ox_C p s m args c cc nL own D g ad B) (hV : rx_V l D g ad B ⟨"SubscriberLines$Flight", "exchange", "(I)Z"⟩ prog_4_method_5_code 3 (some .boolean) 0 0 K_fl_exchange) (hl : Cond.methodLink own idx ⟨"SubscriberLines$Flight", "exchange", "(I)Z"⟩ ∈ al) (hR : 0 + 1 ≤ R.frames ∧ 8 + (3 + 11) + 0 ≤ R.locals) : rx_OK p l e R s m args below meth c cc nL ad (mx_W D g ad B s.heap) mx_cs (.invokevirtual idx) 3 2 (K_fl_exchange) :=
  ox_callV (q := 1) (T := T_1) X hV (fun av x h => by obtain ⟨a0, a1, rfl⟩ := k_RI_inv h; exact ⟨a0, _, rfl, by have h2 : a0 = 1 := h; rw [h2]; rfl⟩) (by decide) rfl hl (al_at 638 (by decide +kernel) rfl) (al_at 639 (by decide +kernel) rfl) (al_at 2 (by decide +kernel) rfl) (al_at 640 (by decide +kernel) rfl) ⟨by decide, by decide, by decide +kernel⟩ hR
theorem ok_sl_swap : rx_okF prog_1_method_10_code 2 (some .boolean) L_sl_swap 0 L_sl_swap = true := by decide +kernel
theorem V_sl_swap {l : Launch} {D : va_G} {g : Nat → ClassId} {ad : Nat → Nat} {B : Nat} (had : mx_A ad B) : rx_V l D g ad B ⟨"SubscriberLines", "swap", "(I)Z"⟩ prog_1_method_10_code 2 (some .boolean) 1 22 K_sl_swap := by
  intro av x hp
  obtain ⟨a0, a1, rfl⟩ := k_RI_inv hp
  have hp : a0 = 0 := hp
  have h0 : a0 = 0 := hp
  subst h0
  exact rx_met (k := 0) had (by decide) (Nat.le_of_ble_eq_true rfl) ok_sl_swap rfl rfl 7 (fun p e s m args below meth c X => And.intro (og_sl_10_g X) (And.intro (cv_fl_exchange X (V_fl_exchange had) (al_at 637 (by decide +kernel) rfl) ⟨by decide, by decide⟩) (trivial))) (S_sl_swap x.1 x.2 a1 ) (E_sl_swap x.1 x.2 a1)
def sl_flight (c : mx_C)  : Int32 :=
  (Int32.ofNat c.2.2.2.1.val)
def K_sl_flight : rx_K mx := k_R (fun a0 c m => (a0 = 0, (c, m), some (.int (sl_flight c))))
def L_sl_flight : List (rx_E mx) := [
  (0, .aload_n 0, 1, 0, 0, 0, [], kno),
  (1, .getfield 10, 3, 7, 1, 0, [], kgr0 0 0 1),
  (4, .getfield 85, 3, 7, 1, 0, [], kgf),
  (7, .ireturn, 1, 5, 0, 0, [], kno)]
theorem E_sl_flight (c : mx_C) (m : mx_M)   : rx_ev L_sl_flight [] 6 L_sl_flight (c, m) [some (.ref 0)] [] = rw_p c m (sl_flight c) :=
  rfl
theorem S_sl_flight (c : mx_C) (m : mx_M)   : rx_sf L_sl_flight [] 6 L_sl_flight (c, m) [some (.ref 0)] [] :=
  And.intro rfl (And.intro rfl (trivial))

theorem og_sl_85_g {p : Program} {l : Launch} {e : Env} {R : Room} {s : State} {m : MethodId} {args : Array Value} {below : List Frame} {meth : Method} {c : Code} {cc : ByteArray} {nL : Nat} {ad : Nat → Nat} {D : va_G} {g : Nat → ClassId} {B : Nat} (X : ox_C p s m args c cc nL "SubscriberLines" D g ad B) : rx_OK p l e R s m args below meth c cc nL ad (mx_W D g ad B s.heap) mx_cs (.getfield 85) 3 1 (kgf) := ox_gf X (al_at 94 (by decide +kernel) rfl)
theorem ok_sl_flight : rx_okF prog_1_method_11_code 1 (some .int) L_sl_flight 0 L_sl_flight = true := by decide +kernel
theorem V_sl_flight {l : Launch} {D : va_G} {g : Nat → ClassId} {ad : Nat → Nat} {B : Nat} (had : mx_A ad B) : rx_V l D g ad B ⟨"SubscriberLines", "flight", "()I"⟩ prog_1_method_11_code 1 (some .int) 0 0 K_sl_flight := by
  intro av x hp
  obtain ⟨a0, rfl⟩ := k_R_inv hp
  have hp : a0 = 0 := hp
  have h0 : a0 = 0 := hp
  subst h0
  exact rx_met (k := 0) had (by decide) (Nat.le_of_ble_eq_true rfl) ok_sl_flight rfl rfl 6 (fun p e s m args below meth c X => And.intro (og_sl_10_g X) (And.intro (og_sl_85_g X) (trivial))) (S_sl_flight x.1 x.2  ) (E_sl_flight x.1 x.2 )
def sl_dial (c : mx_C) (a1 : Int32) (a2 : Int32) (a3 : Int32) : mx_C × Int32 :=
  if (sl_isSubscriber c a1) = 0 then
    (c, 0)
  else
    let q1 := su_connect c (47 + 3 * (Int32.toNatClampNeg a1)) a2 a3
    if q1.2 = 0 then
      (q1.1, 0)
    else
      (q1.1, 1)
def K_sl_dial : rx_K mx := k_RIII (fun a0 a1 a2 a3 c m => (a0 = 0, ((sl_dial c a1 a2 a3).1, m), some (.int (sl_dial c a1 a2 a3).2)))
def L_sl_dial : List (rx_E mx) := [
  (0, .iload_n 1, 1, 0, 1, 0, [], kno),
  (1, .invokestatic 62, 3, 7, 1, 0, [], K_sl_isSubscriber),
  (4, .ifCond .eq 21, 3, 2, 13, 0, [], kno),
  (7, .aload_n 0, 1, 0, 0, 0, [], kno),
  (8, .getfield 18, 3, 7, 1, 0, [], kgr0 0 1 45),
  (11, .iload_n 1, 1, 0, 1, 0, [], kno),
  (12, .aaload, 1, 7, 2, 0, [], kau),
  (13, .iload_n 2, 1, 0, 2, 0, [], kno),
  (14, .iload_n 3, 1, 0, 3, 0, [], kno),
  (15, .invokevirtual 66, 3, 7, 3, 0, [], K_su_connect),
  (18, .ifCond .eq 7, 3, 2, 13, 0, [], kno),
  (21, .iconst 1, 1, 0, 0, 1, [], kno),
  (22, .goto 4, 3, 1, 14, 0, [], kno),
  (25, .iconst 0, 1, 0, 0, 0, [], kno),
  (26, .ireturn, 1, 5, 1, 0, [], kno)]
theorem E_sl_dial (c : mx_C) (m : mx_M) (a1 : Int32) (a2 : Int32) (a3 : Int32)  : rx_ev L_sl_dial [] 17 L_sl_dial (c, m) [some (.ref 0), some (.int a1), some (.int a2), some (.int a3)] [] = rw_i m (sl_dial c a1 a2 a3) :=
  rx_ite2 (f := rw_i m) (fun _ => rfl) (fun _ => rx_ite2 (f := rw_i m) (fun _ => rfl) (fun _ => rfl))
theorem S_sl_dial (c : mx_C) (m : mx_M) (a1 : Int32) (a2 : Int32) (a3 : Int32)  : rx_sf L_sl_dial [] 17 L_sl_dial (c, m) [some (.ref 0), some (.int a1), some (.int a2), some (.int a3)] [] :=
  And.intro trivial (And.intro (fun h0 => Or.inl rfl) (fun h0 => And.intro rfl (And.intro (sl_sub_in h0) (And.intro (sl_kl (sl_sub_in h0)).1 (And.intro (fun h1 => Or.inl rfl) (fun h1 => Or.inr rfl))))))

theorem cv_sl_isSubscriber {p : Program} {l : Launch} {e : Env} {R : Room} {s : State} {m : MethodId} {args : Array Value} {below : List Frame} {meth : Method} {c : Code} {cc : ByteArray} {nL : Nat} {ad : Nat → Nat} {D : va_G} {g : Nat → ClassId} {B : Nat} {idx : Nat} (X : ox_C p s m args c cc nL "SubscriberLines" D g ad B) (hV : rx_V l D g ad B ⟨"SubscriberLines", "isSubscriber", "(I)Z"⟩ prog_1_method_21_code 1 (some .boolean) 0 0 K_sl_isSubscriber) (hl : Cond.methodLink "SubscriberLines" idx ⟨"SubscriberLines", "isSubscriber", "(I)Z"⟩ ∈ al) (hR : 0 + 1 ≤ R.frames ∧ 8 + (1 + 11) + 0 ≤ R.locals) : rx_OK p l e R s m args below meth c cc nL ad (mx_W D g ad B s.heap) mx_cs (.invokestatic idx) 3 1 (K_sl_isSubscriber) :=
  ox_callS X hV hl (al_at 359 (by decide +kernel) rfl) (al_at 1 (by decide +kernel) rfl) (al_at 360 (by decide +kernel) rfl) ⟨rfl, by decide, by decide, by decide +kernel⟩ hR
theorem og_sl_18_g {p : Program} {l : Launch} {e : Env} {R : Room} {s : State} {m : MethodId} {args : Array Value} {below : List Frame} {meth : Method} {c : Code} {cc : ByteArray} {nL : Nat} {ad : Nat → Nat} {D : va_G} {g : Nat → ClassId} {B : Nat} (X : ox_C p s m args c cc nL "SubscriberLines" D g ad B) : rx_OK p l e R s m args below meth c cc nL ad (mx_W D g ad B s.heap) mx_cs (.getfield 18) 3 1 (kgr0 0 1 45) := ox_gr0 (T := T_0) X rfl (by decide) (by decide) in_0 rfl (al_at 331 (by decide +kernel) rfl)
theorem cv_su_connect {p : Program} {l : Launch} {e : Env} {R : Room} {s : State} {m : MethodId} {args : Array Value} {below : List Frame} {meth : Method} {c : Code} {cc : ByteArray} {nL : Nat} {ad : Nat → Nat} {D : va_G} {g : Nat → ClassId} {B : Nat} {own : String} {idx : Nat} (X : ox_C p s m args c cc nL own D g ad B) (hV : rx_V l D g ad B ⟨"SubscriberLines$Subscriber", "connect", "(II)Z"⟩ prog_10_method_2_code 3 (some .boolean) 2 44 K_su_connect) (hl : Cond.methodLink own idx ⟨"SubscriberLines$Subscriber", "connect", "(II)Z"⟩ ∈ al) (hR : 2 + 1 ≤ R.frames ∧ 8 + (3 + 11) + 44 ≤ R.locals) : rx_OK p l e R s m args below meth c cc nL ad (mx_W D g ad B s.heap) mx_cs (.invokevirtual idx) 3 3 (K_su_connect) :=
  ox_callV (q := 4) (T := T_4) X hV (fun av x h => by obtain ⟨a0, a1, a2, rfl⟩ := k_RII_inv h; exact ⟨a0, _, rfl, h⟩) (by decide) rfl hl (al_at 362 (by decide +kernel) rfl) (al_at 363 (by decide +kernel) rfl) (al_at 5 (by decide +kernel) rfl) (al_at 364 (by decide +kernel) rfl) ⟨by decide, by decide, by decide +kernel⟩ hR
theorem ok_sl_dial : rx_okF prog_1_method_3_code 4 (some .boolean) L_sl_dial 0 L_sl_dial = true := by decide +kernel
theorem V_sl_dial {l : Launch} {D : va_G} {g : Nat → ClassId} {ad : Nat → Nat} {B : Nat} (had : mx_A ad B) : rx_V l D g ad B ⟨"SubscriberLines", "dial", "(III)Z"⟩ prog_1_method_3_code 4 (some .boolean) 3 66 K_sl_dial := by
  intro av x hp
  obtain ⟨a0, a1, a2, a3, rfl⟩ := k_RIII_inv hp
  have hp : a0 = 0 := hp
  have h0 : a0 = 0 := hp
  subst h0
  exact rx_met (k := 0) had (by decide) (Nat.le_of_ble_eq_true rfl) ok_sl_dial rfl rfl 17 (fun p e s m args below meth c X => And.intro (cv_sl_isSubscriber X (V_sl_isSubscriber had) (al_at 358 (by decide +kernel) rfl) ⟨by decide, by decide⟩) (And.intro (og_sl_18_g X) (And.intro (ox_au X) (And.intro (cv_su_connect X (V_su_connect had) (al_at 361 (by decide +kernel) rfl) ⟨by decide, by decide⟩) (trivial))))) (S_sl_dial x.1 x.2 a1 a2 a3 ) (E_sl_dial x.1 x.2 a1 a2 a3)
def sl_hangup (c : mx_C) (a1 : Int32) : mx_C × Int32 :=
  if (sl_isSubscriber c a1) = 0 then
    (c, 0)
  else
    let q1 := su_disconnect c (47 + 3 * (Int32.toNatClampNeg a1))
    if q1.2 = 0 then
      (q1.1, 0)
    else
      (q1.1, 1)
def K_sl_hangup : rx_K mx := k_RI (fun a0 a1 c m => (a0 = 0, ((sl_hangup c a1).1, m), some (.int (sl_hangup c a1).2)))
def L_sl_hangup : List (rx_E mx) := [
  (0, .iload_n 1, 1, 0, 1, 0, [], kno),
  (1, .invokestatic 62, 3, 7, 1, 0, [], K_sl_isSubscriber),
  (4, .ifCond .eq 19, 3, 2, 11, 0, [], kno),
  (7, .aload_n 0, 1, 0, 0, 0, [], kno),
  (8, .getfield 18, 3, 7, 1, 0, [], kgr0 0 1 45),
  (11, .iload_n 1, 1, 0, 1, 0, [], kno),
  (12, .aaload, 1, 7, 2, 0, [], kau),
  (13, .invokevirtual 69, 3, 7, 1, 0, [], K_su_disconnect),
  (16, .ifCond .eq 7, 3, 2, 11, 0, [], kno),
  (19, .iconst 1, 1, 0, 0, 1, [], kno),
  (20, .goto 4, 3, 1, 12, 0, [], kno),
  (23, .iconst 0, 1, 0, 0, 0, [], kno),
  (24, .ireturn, 1, 5, 1, 0, [], kno)]
theorem E_sl_hangup (c : mx_C) (m : mx_M) (a1 : Int32)  : rx_ev L_sl_hangup [] 15 L_sl_hangup (c, m) [some (.ref 0), some (.int a1)] [] = rw_i m (sl_hangup c a1) :=
  rx_ite2 (f := rw_i m) (fun _ => rfl) (fun _ => rx_ite2 (f := rw_i m) (fun _ => rfl) (fun _ => rfl))
theorem S_sl_hangup (c : mx_C) (m : mx_M) (a1 : Int32)  : rx_sf L_sl_hangup [] 15 L_sl_hangup (c, m) [some (.ref 0), some (.int a1)] [] :=
  And.intro trivial (And.intro (fun h0 => Or.inl rfl) (fun h0 => And.intro rfl (And.intro (sl_sub_in h0) (And.intro (sl_kl (sl_sub_in h0)).1 (And.intro (fun h1 => Or.inl rfl) (fun h1 => Or.inr rfl))))))

theorem cv_su_disconnect {p : Program} {l : Launch} {e : Env} {R : Room} {s : State} {m : MethodId} {args : Array Value} {below : List Frame} {meth : Method} {c : Code} {cc : ByteArray} {nL : Nat} {ad : Nat → Nat} {D : va_G} {g : Nat → ClassId} {B : Nat} {own : String} {idx : Nat} (X : ox_C p s m args c cc nL own D g ad B) (hV : rx_V l D g ad B ⟨"SubscriberLines$Subscriber", "disconnect", "()Z"⟩ prog_10_method_3_code 1 (some .boolean) 2 44 K_su_disconnect) (hl : Cond.methodLink own idx ⟨"SubscriberLines$Subscriber", "disconnect", "()Z"⟩ ∈ al) (hR : 2 + 1 ≤ R.frames ∧ 8 + (1 + 11) + 44 ≤ R.locals) : rx_OK p l e R s m args below meth c cc nL ad (mx_W D g ad B s.heap) mx_cs (.invokevirtual idx) 3 1 (K_su_disconnect) :=
  ox_callV (q := 4) (T := T_4) X hV (fun av x h => by obtain ⟨a0, rfl⟩ := k_R_inv h; exact ⟨a0, _, rfl, h⟩) (by decide) rfl hl (al_at 382 (by decide +kernel) rfl) (al_at 383 (by decide +kernel) rfl) (al_at 5 (by decide +kernel) rfl) (al_at 384 (by decide +kernel) rfl) ⟨by decide, by decide, by decide +kernel⟩ hR
theorem ok_sl_hangup : rx_okF prog_1_method_4_code 2 (some .boolean) L_sl_hangup 0 L_sl_hangup = true := by decide +kernel
theorem V_sl_hangup {l : Launch} {D : va_G} {g : Nat → ClassId} {ad : Nat → Nat} {B : Nat} (had : mx_A ad B) : rx_V l D g ad B ⟨"SubscriberLines", "hangup", "(I)Z"⟩ prog_1_method_4_code 2 (some .boolean) 3 64 K_sl_hangup := by
  intro av x hp
  obtain ⟨a0, a1, rfl⟩ := k_RI_inv hp
  have hp : a0 = 0 := hp
  have h0 : a0 = 0 := hp
  subst h0
  exact rx_met (k := 0) had (by decide) (Nat.le_of_ble_eq_true rfl) ok_sl_hangup rfl rfl 15 (fun p e s m args below meth c X => And.intro (cv_sl_isSubscriber X (V_sl_isSubscriber had) (al_at 358 (by decide +kernel) rfl) ⟨by decide, by decide⟩) (And.intro (og_sl_18_g X) (And.intro (ox_au X) (And.intro (cv_su_disconnect X (V_su_disconnect had) (al_at 381 (by decide +kernel) rfl) ⟨by decide, by decide⟩) (trivial))))) (S_sl_hangup x.1 x.2 a1 ) (E_sl_hangup x.1 x.2 a1)
def sl_send (c : mx_C) (a1 : Int32) (a2 : Int32) (a3 : Int32) : mx_C × Int32 :=
  if (sl_isSubscriber c a1) = 0 then
    (c, 0)
  else
    let q1 := su_speak c (47 + 3 * (Int32.toNatClampNeg a1)) a2 a3
    if q1.2 = 0 then
      (q1.1, 0)
    else
      (q1.1, 1)
def K_sl_send : rx_K mx := k_RIII (fun a0 a1 a2 a3 c m => (a0 = 0, ((sl_send c a1 a2 a3).1, m), some (.int (sl_send c a1 a2 a3).2)))
def L_sl_send : List (rx_E mx) := [
  (0, .iload_n 1, 1, 0, 1, 0, [], kno),
  (1, .invokestatic 62, 3, 7, 1, 0, [], K_sl_isSubscriber),
  (4, .ifCond .eq 21, 3, 2, 13, 0, [], kno),
  (7, .aload_n 0, 1, 0, 0, 0, [], kno),
  (8, .getfield 18, 3, 7, 1, 0, [], kgr0 0 1 45),
  (11, .iload_n 1, 1, 0, 1, 0, [], kno),
  (12, .aaload, 1, 7, 2, 0, [], kau),
  (13, .iload_n 2, 1, 0, 2, 0, [], kno),
  (14, .iload_n 3, 1, 0, 3, 0, [], kno),
  (15, .invokevirtual 73, 3, 7, 3, 0, [], K_su_speak),
  (18, .ifCond .eq 7, 3, 2, 13, 0, [], kno),
  (21, .iconst 1, 1, 0, 0, 1, [], kno),
  (22, .goto 4, 3, 1, 14, 0, [], kno),
  (25, .iconst 0, 1, 0, 0, 0, [], kno),
  (26, .ireturn, 1, 5, 1, 0, [], kno)]
theorem E_sl_send (c : mx_C) (m : mx_M) (a1 : Int32) (a2 : Int32) (a3 : Int32)  : rx_ev L_sl_send [] 17 L_sl_send (c, m) [some (.ref 0), some (.int a1), some (.int a2), some (.int a3)] [] = rw_i m (sl_send c a1 a2 a3) :=
  rx_ite2 (f := rw_i m) (fun _ => rfl) (fun _ => rx_ite2 (f := rw_i m) (fun _ => rfl) (fun _ => rfl))
theorem S_sl_send (c : mx_C) (m : mx_M) (a1 : Int32) (a2 : Int32) (a3 : Int32)  : rx_sf L_sl_send [] 17 L_sl_send (c, m) [some (.ref 0), some (.int a1), some (.int a2), some (.int a3)] [] :=
  And.intro trivial (And.intro (fun h0 => Or.inl rfl) (fun h0 => And.intro rfl (And.intro (sl_sub_in h0) (And.intro (sl_kl (sl_sub_in h0)).1 (And.intro (fun h1 => Or.inl rfl) (fun h1 => Or.inr rfl))))))

theorem cv_su_speak {p : Program} {l : Launch} {e : Env} {R : Room} {s : State} {m : MethodId} {args : Array Value} {below : List Frame} {meth : Method} {c : Code} {cc : ByteArray} {nL : Nat} {ad : Nat → Nat} {D : va_G} {g : Nat → ClassId} {B : Nat} {own : String} {idx : Nat} (X : ox_C p s m args c cc nL own D g ad B) (hV : rx_V l D g ad B ⟨"SubscriberLines$Subscriber", "speak", "(II)Z"⟩ prog_10_method_4_code 3 (some .boolean) 1 24 K_su_speak) (hl : Cond.methodLink own idx ⟨"SubscriberLines$Subscriber", "speak", "(II)Z"⟩ ∈ al) (hR : 1 + 1 ≤ R.frames ∧ 8 + (3 + 11) + 24 ≤ R.locals) : rx_OK p l e R s m args below meth c cc nL ad (mx_W D g ad B s.heap) mx_cs (.invokevirtual idx) 3 3 (K_su_speak) :=
  ox_callV (q := 4) (T := T_4) X hV (fun av x h => by obtain ⟨a0, a1, a2, rfl⟩ := k_RII_inv h; exact ⟨a0, _, rfl, h⟩) (by decide) rfl hl (al_at 402 (by decide +kernel) rfl) (al_at 403 (by decide +kernel) rfl) (al_at 5 (by decide +kernel) rfl) (al_at 404 (by decide +kernel) rfl) ⟨by decide, by decide, by decide +kernel⟩ hR
theorem ok_sl_send : rx_okF prog_1_method_5_code 4 (some .boolean) L_sl_send 0 L_sl_send = true := by decide +kernel
theorem V_sl_send {l : Launch} {D : va_G} {g : Nat → ClassId} {ad : Nat → Nat} {B : Nat} (had : mx_A ad B) : rx_V l D g ad B ⟨"SubscriberLines", "send", "(III)Z"⟩ prog_1_method_5_code 4 (some .boolean) 2 46 K_sl_send := by
  intro av x hp
  obtain ⟨a0, a1, a2, a3, rfl⟩ := k_RIII_inv hp
  have hp : a0 = 0 := hp
  have h0 : a0 = 0 := hp
  subst h0
  exact rx_met (k := 0) had (by decide) (Nat.le_of_ble_eq_true rfl) ok_sl_send rfl rfl 17 (fun p e s m args below meth c X => And.intro (cv_sl_isSubscriber X (V_sl_isSubscriber had) (al_at 358 (by decide +kernel) rfl) ⟨by decide, by decide⟩) (And.intro (og_sl_18_g X) (And.intro (ox_au X) (And.intro (cv_su_speak X (V_su_speak had) (al_at 401 (by decide +kernel) rfl) ⟨by decide, by decide⟩) (trivial))))) (S_sl_send x.1 x.2 a1 a2 a3 ) (E_sl_send x.1 x.2 a1 a2 a3)
def sl_state (c : mx_C) (a1 : Int32) : Int32 :=
  if (sl_isSubscriber c a1) = 0 then
    (-1)
  else
    (c.1 (47 + 3 * (Int32.toNatClampNeg a1)) 4)
def K_sl_state : rx_K mx := k_RI (fun a0 a1 c m => (a0 = 0, (c, m), some (.int (sl_state c a1))))
def L_sl_state : List (rx_E mx) := [
  (0, .iload_n 1, 1, 0, 1, 0, [], kno),
  (1, .invokestatic 62, 3, 7, 1, 0, [], K_sl_isSubscriber),
  (4, .ifCond .eq 15, 3, 2, 9, 0, [], kno),
  (7, .aload_n 0, 1, 0, 0, 0, [], kno),
  (8, .getfield 18, 3, 7, 1, 0, [], kgr0 0 1 45),
  (11, .iload_n 1, 1, 0, 1, 0, [], kno),
  (12, .aaload, 1, 7, 2, 0, [], kau),
  (13, .getfield 118, 3, 7, 1, 0, [], kgi 4 4),
  (16, .goto 4, 3, 1, 10, 0, [], kno),
  (19, .iconst (-1), 1, 0, 0, (-1), [], kno),
  (20, .ireturn, 1, 5, 0, 0, [], kno)]
theorem E_sl_state (c : mx_C) (m : mx_M) (a1 : Int32)  : rx_ev L_sl_state [] 13 L_sl_state (c, m) [some (.ref 0), some (.int a1)] [] = rw_p c m (sl_state c a1) :=
  rx_ite2 (f := rw_p c m) (fun _ => rfl) (fun _ => rfl)
theorem S_sl_state (c : mx_C) (m : mx_M) (a1 : Int32)  : rx_sf L_sl_state [] 13 L_sl_state (c, m) [some (.ref 0), some (.int a1)] [] :=
  And.intro trivial (And.intro (fun h0 => trivial) (fun h0 => And.intro rfl (And.intro (sl_sub_in h0) (And.intro (sl_kl (sl_sub_in h0)).1 (trivial)))))

theorem og_sl_118_g {p : Program} {l : Launch} {e : Env} {R : Room} {s : State} {m : MethodId} {args : Array Value} {below : List Frame} {meth : Method} {c : Code} {cc : ByteArray} {nL : Nat} {ad : Nat → Nat} {D : va_G} {g : Nat → ClassId} {B : Nat} (X : ox_C p s m args c cc nL "SubscriberLines" D g ad B) : rx_OK p l e R s m args below meth c cc nL ad (mx_W D g ad B s.heap) mx_cs (.getfield 118) 3 1 (kgi 4 4) := ox_gi (T := T_4) X rfl (by decide) (by decide) in_4 rfl (al_at 134 (by decide +kernel) rfl)
theorem ok_sl_state : rx_okF prog_1_method_13_code 2 (some .int) L_sl_state 0 L_sl_state = true := by decide +kernel
theorem V_sl_state {l : Launch} {D : va_G} {g : Nat → ClassId} {ad : Nat → Nat} {B : Nat} (had : mx_A ad B) : rx_V l D g ad B ⟨"SubscriberLines", "state", "(I)I"⟩ prog_1_method_13_code 2 (some .int) 1 20 K_sl_state := by
  intro av x hp
  obtain ⟨a0, a1, rfl⟩ := k_RI_inv hp
  have hp : a0 = 0 := hp
  have h0 : a0 = 0 := hp
  subst h0
  exact rx_met (k := 0) had (by decide) (Nat.le_of_ble_eq_true rfl) ok_sl_state rfl rfl 13 (fun p e s m args below meth c X => And.intro (cv_sl_isSubscriber X (V_sl_isSubscriber had) (al_at 358 (by decide +kernel) rfl) ⟨by decide, by decide⟩) (And.intro (og_sl_18_g X) (And.intro (ox_au X) (And.intro (og_sl_118_g X) (trivial))))) (S_sl_state x.1 x.2 a1 ) (E_sl_state x.1 x.2 a1)
def sl_address (c : mx_C) (a1 : Int32) : Int32 :=
  if (sl_isSubscriber c a1) = 0 then
    0
  else
    (c.1 (47 + 3 * (Int32.toNatClampNeg a1)) 5)
def K_sl_address : rx_K mx := k_RI (fun a0 a1 c m => (a0 = 0, (c, m), some (.int (sl_address c a1))))
def L_sl_address : List (rx_E mx) := [
  (0, .iload_n 1, 1, 0, 1, 0, [], kno),
  (1, .invokestatic 62, 3, 7, 1, 0, [], K_sl_isSubscriber),
  (4, .ifCond .eq 15, 3, 2, 9, 0, [], kno),
  (7, .aload_n 0, 1, 0, 0, 0, [], kno),
  (8, .getfield 18, 3, 7, 1, 0, [], kgr0 0 1 45),
  (11, .iload_n 1, 1, 0, 1, 0, [], kno),
  (12, .aaload, 1, 7, 2, 0, [], kau),
  (13, .getfield 121, 3, 7, 1, 0, [], kgi 4 5),
  (16, .goto 4, 3, 1, 10, 0, [], kno),
  (19, .iconst 0, 1, 0, 0, 0, [], kno),
  (20, .ireturn, 1, 5, 0, 0, [], kno)]
theorem E_sl_address (c : mx_C) (m : mx_M) (a1 : Int32)  : rx_ev L_sl_address [] 13 L_sl_address (c, m) [some (.ref 0), some (.int a1)] [] = rw_p c m (sl_address c a1) :=
  rx_ite2 (f := rw_p c m) (fun _ => rfl) (fun _ => rfl)
theorem S_sl_address (c : mx_C) (m : mx_M) (a1 : Int32)  : rx_sf L_sl_address [] 13 L_sl_address (c, m) [some (.ref 0), some (.int a1)] [] :=
  And.intro trivial (And.intro (fun h0 => trivial) (fun h0 => And.intro rfl (And.intro (sl_sub_in h0) (And.intro (sl_kl (sl_sub_in h0)).1 (trivial)))))

theorem og_sl_121_g {p : Program} {l : Launch} {e : Env} {R : Room} {s : State} {m : MethodId} {args : Array Value} {below : List Frame} {meth : Method} {c : Code} {cc : ByteArray} {nL : Nat} {ad : Nat → Nat} {D : va_G} {g : Nat → ClassId} {B : Nat} (X : ox_C p s m args c cc nL "SubscriberLines" D g ad B) : rx_OK p l e R s m args below meth c cc nL ad (mx_W D g ad B s.heap) mx_cs (.getfield 121) 3 1 (kgi 4 5) := ox_gi (T := T_4) X rfl (by decide) (by decide) in_4 rfl (al_at 136 (by decide +kernel) rfl)
theorem ok_sl_address : rx_okF prog_1_method_14_code 2 (some .int) L_sl_address 0 L_sl_address = true := by decide +kernel
theorem V_sl_address {l : Launch} {D : va_G} {g : Nat → ClassId} {ad : Nat → Nat} {B : Nat} (had : mx_A ad B) : rx_V l D g ad B ⟨"SubscriberLines", "address", "(I)I"⟩ prog_1_method_14_code 2 (some .int) 1 20 K_sl_address := by
  intro av x hp
  obtain ⟨a0, a1, rfl⟩ := k_RI_inv hp
  have hp : a0 = 0 := hp
  have h0 : a0 = 0 := hp
  subst h0
  exact rx_met (k := 0) had (by decide) (Nat.le_of_ble_eq_true rfl) ok_sl_address rfl rfl 13 (fun p e s m args below meth c X => And.intro (cv_sl_isSubscriber X (V_sl_isSubscriber had) (al_at 358 (by decide +kernel) rfl) ⟨by decide, by decide⟩) (And.intro (og_sl_18_g X) (And.intro (ox_au X) (And.intro (og_sl_121_g X) (trivial))))) (S_sl_address x.1 x.2 a1 ) (E_sl_address x.1 x.2 a1)
def sl_heard (c : mx_C) (a1 : Int32) (a2 : Int32) : Int32 :=
  if (sl_isSubscriber c a1) = 0 then
    0
  else
    if a2 = (-1) then
      (c.1 ((47 + 3 * (Int32.toNatClampNeg a1)) + 1) 1)
    else
      (hi_latest c ((47 + 3 * (Int32.toNatClampNeg a1)) + 1) a2)
def K_sl_heard : rx_K mx := k_RII (fun a0 a1 a2 c m => (a0 = 0, (c, m), some (.int (sl_heard c a1 a2))))
def L_sl_heard : List (rx_E mx) := [
  (0, .iload_n 1, 1, 0, 1, 0, [], kno),
  (1, .invokestatic 62, 3, 7, 1, 0, [], K_sl_isSubscriber),
  (4, .ifCond .ne 5, 3, 2, 5, 0, [], kno),
  (7, .iconst 0, 1, 0, 0, 0, [], kno),
  (8, .ireturn, 1, 5, 0, 0, [], kno),
  (9, .aload_n 0, 1, 0, 0, 0, [], kno),
  (10, .getfield 18, 3, 7, 1, 0, [], kgr0 0 1 45),
  (13, .iload_n 1, 1, 0, 1, 0, [], kno),
  (14, .aaload, 1, 7, 2, 0, [], kau),
  (15, .getfield 124, 3, 7, 1, 0, [], kgr1 4 3 1),
  (18, .astore_n 3, 1, 0, 3, 0, [], kno),
  (19, .iload_n 2, 1, 0, 2, 0, [], kno),
  (20, .iconst (-1), 1, 0, 0, (-1), [], kno),
  (21, .if_icmp .ne 10, 3, 2, 17, 0, [], kno),
  (24, .aload_n 3, 1, 0, 3, 0, [], kno),
  (25, .getfield 128, 3, 7, 1, 0, [], kgi 3 1),
  (28, .goto 8, 3, 1, 20, 0, [], kno),
  (31, .aload_n 3, 1, 0, 3, 0, [], kno),
  (32, .iload_n 2, 1, 0, 2, 0, [], kno),
  (33, .invokevirtual 131, 3, 7, 2, 0, [], K_hi_latest),
  (36, .ireturn, 1, 5, 0, 0, [], kno)]
theorem E_sl_heard (c : mx_C) (m : mx_M) (a1 : Int32) (a2 : Int32)  : rx_ev L_sl_heard [] 23 L_sl_heard (c, m) [some (.ref 0), some (.int a1), some (.int a2), none] [] = rw_p c m (sl_heard c a1 a2) :=
  rx_ite2 (f := rw_p c m) (fun _ => rfl) (fun _ => rx_ite2 (f := rw_p c m) (fun _ => rfl) (fun _ => rfl))
theorem S_sl_heard (c : mx_C) (m : mx_M) (a1 : Int32) (a2 : Int32)  : rx_sf L_sl_heard [] 23 L_sl_heard (c, m) [some (.ref 0), some (.int a1), some (.int a2), none] [] :=
  And.intro trivial (And.intro (fun h0 => trivial) (fun h0 => And.intro rfl (And.intro (sl_sub_in h0) (And.intro (sl_kl (sl_sub_in h0)).1 (And.intro (fun h1 => And.intro (sl_kl (sl_sub_in h0)).2 (trivial)) (fun h1 => And.intro (sl_kl (sl_sub_in h0)).2 (trivial)))))))

theorem og_sl_124_g {p : Program} {l : Launch} {e : Env} {R : Room} {s : State} {m : MethodId} {args : Array Value} {below : List Frame} {meth : Method} {c : Code} {cc : ByteArray} {nL : Nat} {ad : Nat → Nat} {D : va_G} {g : Nat → ClassId} {B : Nat} (X : ox_C p s m args c cc nL "SubscriberLines" D g ad B) : rx_OK p l e R s m args below meth c cc nL ad (mx_W D g ad B s.heap) mx_cs (.getfield 124) 3 1 (kgr1 4 3 1) := ox_gr1 (T := T_4) X rfl (by decide) (by decide) in_4 rfl (al_at 132 (by decide +kernel) rfl)
theorem og_sl_128_g {p : Program} {l : Launch} {e : Env} {R : Room} {s : State} {m : MethodId} {args : Array Value} {below : List Frame} {meth : Method} {c : Code} {cc : ByteArray} {nL : Nat} {ad : Nat → Nat} {D : va_G} {g : Nat → ClassId} {B : Nat} (X : ox_C p s m args c cc nL "SubscriberLines" D g ad B) : rx_OK p l e R s m args below meth c cc nL ad (mx_W D g ad B s.heap) mx_cs (.getfield 128) 3 1 (kgi 3 1) := ox_gi (T := T_3) X rfl (by decide) (by decide) in_3 rfl (al_at 122 (by decide +kernel) rfl)
theorem cv_hi_latest {p : Program} {l : Launch} {e : Env} {R : Room} {s : State} {m : MethodId} {args : Array Value} {below : List Frame} {meth : Method} {c : Code} {cc : ByteArray} {nL : Nat} {ad : Nat → Nat} {D : va_G} {g : Nat → ClassId} {B : Nat} {own : String} {idx : Nat} (X : ox_C p s m args c cc nL own D g ad B) (hV : rx_V l D g ad B ⟨"SubscriberLines$History", "latest", "(I)I"⟩ prog_5_method_3_code 2 (some .int) 0 0 K_hi_latest) (hl : Cond.methodLink own idx ⟨"SubscriberLines$History", "latest", "(I)I"⟩ ∈ al) (hR : 0 + 1 ≤ R.frames ∧ 8 + (2 + 11) + 0 ≤ R.locals) : rx_OK p l e R s m args below meth c cc nL ad (mx_W D g ad B s.heap) mx_cs (.invokevirtual idx) 3 2 (K_hi_latest) :=
  ox_callV (q := 3) (T := T_3) X hV (fun av x h => by obtain ⟨a0, a1, rfl⟩ := k_RI_inv h; exact ⟨a0, _, rfl, h⟩) (by decide) rfl hl (al_at 667 (by decide +kernel) rfl) (al_at 668 (by decide +kernel) rfl) (al_at 6 (by decide +kernel) rfl) (al_at 669 (by decide +kernel) rfl) ⟨by decide, by decide, by decide +kernel⟩ hR
theorem ok_sl_heard : rx_okF prog_1_method_15_code 4 (some .int) L_sl_heard 0 L_sl_heard = true := by decide +kernel
theorem V_sl_heard {l : Launch} {D : va_G} {g : Nat → ClassId} {ad : Nat → Nat} {B : Nat} (had : mx_A ad B) : rx_V l D g ad B ⟨"SubscriberLines", "heard", "(II)I"⟩ prog_1_method_15_code 4 (some .int) 1 21 K_sl_heard := by
  intro av x hp
  obtain ⟨a0, a1, a2, rfl⟩ := k_RII_inv hp
  have hp : a0 = 0 := hp
  have h0 : a0 = 0 := hp
  subst h0
  exact rx_met (k := 1) had (by decide) (Nat.le_of_ble_eq_true rfl) ok_sl_heard rfl rfl 23 (fun p e s m args below meth c X => And.intro (cv_sl_isSubscriber X (V_sl_isSubscriber had) (al_at 358 (by decide +kernel) rfl) ⟨by decide, by decide⟩) (And.intro (og_sl_18_g X) (And.intro (ox_au X) (And.intro (og_sl_124_g X) (And.intro (og_sl_128_g X) (And.intro (cv_hi_latest X (V_hi_latest had) (al_at 666 (by decide +kernel) rfl) ⟨by decide, by decide⟩) (trivial))))))) (S_sl_heard x.1 x.2 a1 a2 ) (E_sl_heard x.1 x.2 a1 a2)
def sl_circuit (c : mx_C) (a1 : Int32) (a2 : Int32) : Int32 :=
  if (sl_isSubscriber c a1) = 0 then
    0
  else
    (ac_tell c a1 a2)
def K_sl_circuit : rx_K mx := k_RII (fun a0 a1 a2 c m => (a0 = 0, (c, m), some (.int (sl_circuit c a1 a2))))
def L_sl_circuit : List (rx_E mx) := [
  (0, .iload_n 1, 1, 0, 1, 0, [], kno),
  (1, .invokestatic 62, 3, 7, 1, 0, [], K_sl_isSubscriber),
  (4, .ifCond .eq 15, 3, 2, 9, 0, [], kno),
  (7, .aload_n 0, 1, 0, 0, 0, [], kno),
  (8, .getfield 36, 3, 7, 1, 0, [], kgr0 0 2 59),
  (11, .iload_n 1, 1, 0, 1, 0, [], kno),
  (12, .iload_n 2, 1, 0, 2, 0, [], kno),
  (13, .invokevirtual 141, 3, 7, 3, 0, [], K_ac_tell),
  (16, .goto 4, 3, 1, 10, 0, [], kno),
  (19, .iconst 0, 1, 0, 0, 0, [], kno),
  (20, .ireturn, 1, 5, 0, 0, [], kno)]
theorem E_sl_circuit (c : mx_C) (m : mx_M) (a1 : Int32) (a2 : Int32)  : rx_ev L_sl_circuit [] 13 L_sl_circuit (c, m) [some (.ref 0), some (.int a1), some (.int a2)] [] = rw_p c m (sl_circuit c a1 a2) :=
  rx_ite2 (f := rw_p c m) (fun _ => rfl) (fun _ => rfl)
theorem S_sl_circuit (c : mx_C) (m : mx_M) (a1 : Int32) (a2 : Int32)  : rx_sf L_sl_circuit [] 13 L_sl_circuit (c, m) [some (.ref 0), some (.int a1), some (.int a2)] [] :=
  And.intro trivial (And.intro (fun h0 => trivial) (fun h0 => And.intro rfl (And.intro (And.intro rfl (sl_sub_in h0)) (trivial))))

theorem og_sl_36_g {p : Program} {l : Launch} {e : Env} {R : Room} {s : State} {m : MethodId} {args : Array Value} {below : List Frame} {meth : Method} {c : Code} {cc : ByteArray} {nL : Nat} {ad : Nat → Nat} {D : va_G} {g : Nat → ClassId} {B : Nat} (X : ox_C p s m args c cc nL "SubscriberLines" D g ad B) : rx_OK p l e R s m args below meth c cc nL ad (mx_W D g ad B s.heap) mx_cs (.getfield 36) 3 1 (kgr0 0 2 59) := ox_gr0 (T := T_0) X rfl (by decide) (by decide) in_0 rfl (al_at 332 (by decide +kernel) rfl)
theorem cv_ac_tell {p : Program} {l : Launch} {e : Env} {R : Room} {s : State} {m : MethodId} {args : Array Value} {below : List Frame} {meth : Method} {c : Code} {cc : ByteArray} {nL : Nat} {ad : Nat → Nat} {D : va_G} {g : Nat → ClassId} {B : Nat} {own : String} {idx : Nat} (X : ox_C p s m args c cc nL own D g ad B) (hV : rx_V l D g ad B ⟨"SubscriberLines$Access", "tell", "(II)I"⟩ prog_2_method_3_code 3 (some .int) 0 0 K_ac_tell) (hl : Cond.methodLink own idx ⟨"SubscriberLines$Access", "tell", "(II)I"⟩ ∈ al) (hR : 0 + 1 ≤ R.frames ∧ 8 + (3 + 11) + 0 ≤ R.locals) : rx_OK p l e R s m args below meth c cc nL ad (mx_W D g ad B s.heap) mx_cs (.invokevirtual idx) 3 3 (K_ac_tell) :=
  ox_callV (q := 5) (T := T_5) X hV (fun av x h => by obtain ⟨a0, a1, a2, rfl⟩ := k_RII_inv h; exact ⟨a0, _, rfl, by have h2 : a0 = 59 := h.1; rw [h2]; rfl⟩) (by decide) rfl hl (al_at 683 (by decide +kernel) rfl) (al_at 684 (by decide +kernel) rfl) (al_at 7 (by decide +kernel) rfl) (al_at 685 (by decide +kernel) rfl) ⟨by decide, by decide, by decide +kernel⟩ hR
theorem ok_sl_circuit : rx_okF prog_1_method_18_code 3 (some .int) L_sl_circuit 0 L_sl_circuit = true := by decide +kernel
theorem V_sl_circuit {l : Launch} {D : va_G} {g : Nat → ClassId} {ad : Nat → Nat} {B : Nat} (had : mx_A ad B) : rx_V l D g ad B ⟨"SubscriberLines", "circuit", "(II)I"⟩ prog_1_method_18_code 3 (some .int) 1 22 K_sl_circuit := by
  intro av x hp
  obtain ⟨a0, a1, a2, rfl⟩ := k_RII_inv hp
  have hp : a0 = 0 := hp
  have h0 : a0 = 0 := hp
  subst h0
  exact rx_met (k := 0) had (by decide) (Nat.le_of_ble_eq_true rfl) ok_sl_circuit rfl rfl 13 (fun p e s m args below meth c X => And.intro (cv_sl_isSubscriber X (V_sl_isSubscriber had) (al_at 358 (by decide +kernel) rfl) ⟨by decide, by decide⟩) (And.intro (og_sl_36_g X) (And.intro (cv_ac_tell X (V_ac_tell had) (al_at 682 (by decide +kernel) rfl) ⟨by decide, by decide⟩) (trivial)))) (S_sl_circuit x.1 x.2 a1 a2 ) (E_sl_circuit x.1 x.2 a1 a2)
def sl_source (c : mx_C) (a1 : Int32) : Int32 :=
  (hi_latest c 72 a1)
def K_sl_source : rx_K mx := k_RI (fun a0 a1 c m => (a0 = 0, (c, m), some (.int (sl_source c a1))))
def L_sl_source : List (rx_E mx) := [
  (0, .aload_n 0, 1, 0, 0, 0, [], kno),
  (1, .getfield 54, 3, 7, 1, 0, [], kgr0 0 3 66),
  (4, .getfield 138, 3, 7, 1, 0, [], kgr0 7 9 72),
  (7, .iload_n 1, 1, 0, 1, 0, [], kno),
  (8, .invokevirtual 131, 3, 7, 2, 0, [], K_hi_latest),
  (11, .ireturn, 1, 5, 0, 0, [], kno)]
theorem E_sl_source (c : mx_C) (m : mx_M) (a1 : Int32)  : rx_ev L_sl_source [] 8 L_sl_source (c, m) [some (.ref 0), some (.int a1)] [] = rw_p c m (sl_source c a1) :=
  rfl
theorem S_sl_source (c : mx_C) (m : mx_M) (a1 : Int32)  : rx_sf L_sl_source [] 8 L_sl_source (c, m) [some (.ref 0), some (.int a1)] [] :=
  And.intro rfl (And.intro rfl (And.intro rfl (trivial)))

theorem og_sl_138_g {p : Program} {l : Launch} {e : Env} {R : Room} {s : State} {m : MethodId} {args : Array Value} {below : List Frame} {meth : Method} {c : Code} {cc : ByteArray} {nL : Nat} {ad : Nat → Nat} {D : va_G} {g : Nat → ClassId} {B : Nat} (X : ox_C p s m args c cc nL "SubscriberLines" D g ad B) : rx_OK p l e R s m args below meth c cc nL ad (mx_W D g ad B s.heap) mx_cs (.getfield 138) 3 1 (kgr0 7 9 72) := ox_gr0 (T := T_7) X rfl (by decide) (by decide) in_7 rfl (al_at 302 (by decide +kernel) rfl)
theorem ok_sl_source : rx_okF prog_1_method_17_code 2 (some .int) L_sl_source 0 L_sl_source = true := by decide +kernel
theorem V_sl_source {l : Launch} {D : va_G} {g : Nat → ClassId} {ad : Nat → Nat} {B : Nat} (had : mx_A ad B) : rx_V l D g ad B ⟨"SubscriberLines", "source", "(I)I"⟩ prog_1_method_17_code 2 (some .int) 1 21 K_sl_source := by
  intro av x hp
  obtain ⟨a0, a1, rfl⟩ := k_RI_inv hp
  have hp : a0 = 0 := hp
  have h0 : a0 = 0 := hp
  subst h0
  exact rx_met (k := 0) had (by decide) (Nat.le_of_ble_eq_true rfl) ok_sl_source rfl rfl 8 (fun p e s m args below meth c X => And.intro (og_sl_54_g X) (And.intro (og_sl_138_g X) (And.intro (cv_hi_latest X (V_hi_latest had) (al_at 666 (by decide +kernel) rfl) ⟨by decide, by decide⟩) (trivial)))) (S_sl_source x.1 x.2 a1 ) (E_sl_source x.1 x.2 a1)
def sl_cored (c : mx_C) (a1 : Int32) : Int32 :=
  if a1 = (-2) then
    (c.1 66 10)
  else
    if a1 = (-1) then
      (c.1 70 1)
    else
      (hi_latest c 70 a1)
def K_sl_cored : rx_K mx := k_RI (fun a0 a1 c m => (a0 = 0, (c, m), some (.int (sl_cored c a1))))
def L_sl_cored : List (rx_E mx) := [
  (0, .iload_n 1, 1, 0, 1, 0, [], kno),
  (1, .bipush (-2), 2, 0, 0, (-2), [], kno),
  (3, .if_icmp .ne 11, 3, 2, 7, 0, [], kno),
  (6, .aload_n 0, 1, 0, 0, 0, [], kno),
  (7, .getfield 54, 3, 7, 1, 0, [], kgr0 0 3 66),
  (10, .getfield 134, 3, 7, 1, 0, [], kgi 7 10),
  (13, .ireturn, 1, 5, 0, 0, [], kno),
  (14, .iload_n 1, 1, 0, 1, 0, [], kno),
  (15, .iconst (-1), 1, 0, 0, (-1), [], kno),
  (16, .if_icmp .ne 16, 3, 2, 15, 0, [], kno),
  (19, .aload_n 0, 1, 0, 0, 0, [], kno),
  (20, .getfield 54, 3, 7, 1, 0, [], kgr0 0 3 66),
  (23, .getfield 137, 3, 7, 1, 0, [], kgr0 7 8 70),
  (26, .getfield 128, 3, 7, 1, 0, [], kgi 3 1),
  (29, .goto 14, 3, 1, 20, 0, [], kno),
  (32, .aload_n 0, 1, 0, 0, 0, [], kno),
  (33, .getfield 54, 3, 7, 1, 0, [], kgr0 0 3 66),
  (36, .getfield 137, 3, 7, 1, 0, [], kgr0 7 8 70),
  (39, .iload_n 1, 1, 0, 1, 0, [], kno),
  (40, .invokevirtual 131, 3, 7, 2, 0, [], K_hi_latest),
  (43, .ireturn, 1, 5, 0, 0, [], kno)]
theorem E_sl_cored (c : mx_C) (m : mx_M) (a1 : Int32)  : rx_ev L_sl_cored [] 23 L_sl_cored (c, m) [some (.ref 0), some (.int a1)] [] = rw_p c m (sl_cored c a1) :=
  rx_ite2 (f := rw_p c m) (fun _ => rfl) (fun _ => rx_ite2 (f := rw_p c m) (fun _ => rfl) (fun _ => rfl))
theorem S_sl_cored (c : mx_C) (m : mx_M) (a1 : Int32)  : rx_sf L_sl_cored [] 23 L_sl_cored (c, m) [some (.ref 0), some (.int a1)] [] :=
  And.intro (fun h0 => And.intro rfl (And.intro rfl (trivial))) (fun h0 => And.intro (fun h1 => And.intro rfl (And.intro rfl (And.intro rfl (trivial)))) (fun h1 => And.intro rfl (And.intro rfl (And.intro rfl (trivial)))))

theorem og_sl_134_g {p : Program} {l : Launch} {e : Env} {R : Room} {s : State} {m : MethodId} {args : Array Value} {below : List Frame} {meth : Method} {c : Code} {cc : ByteArray} {nL : Nat} {ad : Nat → Nat} {D : va_G} {g : Nat → ClassId} {B : Nat} (X : ox_C p s m args c cc nL "SubscriberLines" D g ad B) : rx_OK p l e R s m args below meth c cc nL ad (mx_W D g ad B s.heap) mx_cs (.getfield 134) 3 1 (kgi 7 10) := ox_gi (T := T_7) X rfl (by decide) (by decide) in_7 rfl (al_at 304 (by decide +kernel) rfl)
theorem og_sl_137_g {p : Program} {l : Launch} {e : Env} {R : Room} {s : State} {m : MethodId} {args : Array Value} {below : List Frame} {meth : Method} {c : Code} {cc : ByteArray} {nL : Nat} {ad : Nat → Nat} {D : va_G} {g : Nat → ClassId} {B : Nat} (X : ox_C p s m args c cc nL "SubscriberLines" D g ad B) : rx_OK p l e R s m args below meth c cc nL ad (mx_W D g ad B s.heap) mx_cs (.getfield 137) 3 1 (kgr0 7 8 70) := ox_gr0 (T := T_7) X rfl (by decide) (by decide) in_7 rfl (al_at 300 (by decide +kernel) rfl)
theorem ok_sl_cored : rx_okF prog_1_method_16_code 2 (some .int) L_sl_cored 0 L_sl_cored = true := by decide +kernel
theorem V_sl_cored {l : Launch} {D : va_G} {g : Nat → ClassId} {ad : Nat → Nat} {B : Nat} (had : mx_A ad B) : rx_V l D g ad B ⟨"SubscriberLines", "cored", "(I)I"⟩ prog_1_method_16_code 2 (some .int) 1 21 K_sl_cored := by
  intro av x hp
  obtain ⟨a0, a1, rfl⟩ := k_RI_inv hp
  have hp : a0 = 0 := hp
  have h0 : a0 = 0 := hp
  subst h0
  exact rx_met (k := 0) had (by decide) (Nat.le_of_ble_eq_true rfl) ok_sl_cored rfl rfl 23 (fun p e s m args below meth c X => And.intro (og_sl_54_g X) (And.intro (og_sl_134_g X) (And.intro (og_sl_54_g X) (And.intro (og_sl_137_g X) (And.intro (og_sl_128_g X) (And.intro (og_sl_54_g X) (And.intro (og_sl_137_g X) (And.intro (cv_hi_latest X (V_hi_latest had) (al_at 666 (by decide +kernel) rfl) ⟨by decide, by decide⟩) (trivial))))))))) (S_sl_cored x.1 x.2 a1 ) (E_sl_cored x.1 x.2 a1)
def sl_channel (c : mx_C) (a1 : Int32) (a2 : Int32) : Int32 :=
  if a1 = 4 then
    (en_tell c 62 a2)
  else
    if a1 = 5 then
      (en_tell c 74 a2)
    else
      0
def K_sl_channel : rx_K mx := k_RII (fun a0 a1 a2 c m => (a0 = 0, (c, m), some (.int (sl_channel c a1 a2))))
def L_sl_channel : List (rx_E mx) := [
  (0, .iload_n 1, 1, 0, 1, 0, [], kno),
  (1, .iconst 4, 1, 0, 0, 4, [], kno),
  (2, .if_icmp .ne 15, 3, 2, 9, 0, [], kno),
  (5, .aload_n 0, 1, 0, 0, 0, [], kno),
  (6, .getfield 36, 3, 7, 1, 0, [], kgr0 0 2 59),
  (9, .getfield 151, 3, 7, 1, 0, [], kgr0 5 2 62),
  (12, .iload_n 2, 1, 0, 2, 0, [], kno),
  (13, .invokevirtual 155, 3, 7, 2, 0, [], K_en_tell),
  (16, .ireturn, 1, 5, 0, 0, [], kno),
  (17, .iload_n 1, 1, 0, 1, 0, [], kno),
  (18, .iconst 5, 1, 0, 0, 5, [], kno),
  (19, .if_icmp .ne 17, 3, 2, 18, 0, [], kno),
  (22, .aload_n 0, 1, 0, 0, 0, [], kno),
  (23, .getfield 54, 3, 7, 1, 0, [], kgr0 0 3 66),
  (26, .getfield 158, 3, 7, 1, 0, [], kgr0 7 2 74),
  (29, .iload_n 2, 1, 0, 2, 0, [], kno),
  (30, .invokevirtual 155, 3, 7, 2, 0, [], K_en_tell),
  (33, .goto 4, 3, 1, 19, 0, [], kno),
  (36, .iconst 0, 1, 0, 0, 0, [], kno),
  (37, .ireturn, 1, 5, 0, 0, [], kno)]
theorem E_sl_channel (c : mx_C) (m : mx_M) (a1 : Int32) (a2 : Int32)  : rx_ev L_sl_channel [] 22 L_sl_channel (c, m) [some (.ref 0), some (.int a1), some (.int a2)] [] = rw_p c m (sl_channel c a1 a2) :=
  rx_ite2 (f := rw_p c m) (fun _ => rfl) (fun _ => rx_ite2 (f := rw_p c m) (fun _ => rfl) (fun _ => rfl))
theorem S_sl_channel (c : mx_C) (m : mx_M) (a1 : Int32) (a2 : Int32)  : rx_sf L_sl_channel [] 22 L_sl_channel (c, m) [some (.ref 0), some (.int a1), some (.int a2)] [] :=
  And.intro (fun h0 => And.intro rfl (And.intro rfl (And.intro rfl (trivial)))) (fun h0 => And.intro (fun h1 => And.intro rfl (And.intro rfl (And.intro rfl (trivial)))) (fun h1 => trivial))

theorem og_sl_151_g {p : Program} {l : Launch} {e : Env} {R : Room} {s : State} {m : MethodId} {args : Array Value} {below : List Frame} {meth : Method} {c : Code} {cc : ByteArray} {nL : Nat} {ad : Nat → Nat} {D : va_G} {g : Nat → ClassId} {B : Nat} (X : ox_C p s m args c cc nL "SubscriberLines" D g ad B) : rx_OK p l e R s m args below meth c cc nL ad (mx_W D g ad B s.heap) mx_cs (.getfield 151) 3 1 (kgr0 5 2 62) := ox_gr0 (T := T_5) X rfl (by decide) (by decide) in_5 rfl (al_at 222 (by decide +kernel) rfl)
theorem cv_en_tell {p : Program} {l : Launch} {e : Env} {R : Room} {s : State} {m : MethodId} {args : Array Value} {below : List Frame} {meth : Method} {c : Code} {cc : ByteArray} {nL : Nat} {ad : Nat → Nat} {D : va_G} {g : Nat → ClassId} {B : Nat} {own : String} {idx : Nat} (X : ox_C p s m args c cc nL own D g ad B) (hV : rx_V l D g ad B ⟨"SubscriberLines$End", "tell", "(I)I"⟩ prog_3_method_8_code 2 (some .int) 1 20 K_en_tell) (hl : Cond.methodLink own idx ⟨"SubscriberLines$End", "tell", "(I)I"⟩ ∈ al) (hR : 1 + 1 ≤ R.frames ∧ 8 + (2 + 11) + 20 ≤ R.locals) : rx_OK p l e R s m args below meth c cc nL ad (mx_W D g ad B s.heap) mx_cs (.invokevirtual idx) 3 2 (K_en_tell) :=
  ox_callV (q := 8) (T := T_8) X hV (fun av x h => by obtain ⟨a0, a1, rfl⟩ := k_RI_inv h; exact ⟨a0, _, rfl, h⟩) (by decide) rfl hl (al_at 699 (by decide +kernel) rfl) (al_at 700 (by decide +kernel) rfl) (al_at 8 (by decide +kernel) rfl) (al_at 701 (by decide +kernel) rfl) ⟨by decide, by decide, by decide +kernel⟩ hR
theorem og_sl_158_g {p : Program} {l : Launch} {e : Env} {R : Room} {s : State} {m : MethodId} {args : Array Value} {below : List Frame} {meth : Method} {c : Code} {cc : ByteArray} {nL : Nat} {ad : Nat → Nat} {D : va_G} {g : Nat → ClassId} {B : Nat} (X : ox_C p s m args c cc nL "SubscriberLines" D g ad B) : rx_OK p l e R s m args below meth c cc nL ad (mx_W D g ad B s.heap) mx_cs (.getfield 158) 3 1 (kgr0 7 2 74) := ox_gr0 (T := T_7) X rfl (by decide) (by decide) in_7 rfl (al_at 291 (by decide +kernel) rfl)
theorem ok_sl_channel : rx_okF prog_1_method_20_code 3 (some .int) L_sl_channel 0 L_sl_channel = true := by decide +kernel
theorem V_sl_channel {l : Launch} {D : va_G} {g : Nat → ClassId} {ad : Nat → Nat} {B : Nat} (had : mx_A ad B) : rx_V l D g ad B ⟨"SubscriberLines", "channel", "(II)I"⟩ prog_1_method_20_code 3 (some .int) 2 41 K_sl_channel := by
  intro av x hp
  obtain ⟨a0, a1, a2, rfl⟩ := k_RII_inv hp
  have hp : a0 = 0 := hp
  have h0 : a0 = 0 := hp
  subst h0
  exact rx_met (k := 0) had (by decide) (Nat.le_of_ble_eq_true rfl) ok_sl_channel rfl rfl 22 (fun p e s m args below meth c X => And.intro (og_sl_36_g X) (And.intro (og_sl_151_g X) (And.intro (cv_en_tell X (V_en_tell had) (al_at 698 (by decide +kernel) rfl) ⟨by decide, by decide⟩) (And.intro (og_sl_54_g X) (And.intro (og_sl_158_g X) (And.intro (cv_en_tell X (V_en_tell had) (al_at 698 (by decide +kernel) rfl) ⟨by decide, by decide⟩) (trivial))))))) (S_sl_channel x.1 x.2 a1 a2 ) (E_sl_channel x.1 x.2 a1 a2)
def sl_packet (c : mx_C) (a1 : Int32) (a2 : Int32) : Int32 :=
  if (fl_holds c a1) = 0 then
    0
  else
    (pk_tell c (4 + (c.2.1 (Int32.toNatClampNeg a1)).val) a2)
def K_sl_packet : rx_K mx := k_RII (fun a0 a1 a2 c m => (a0 = 0, (c, m), some (.int (sl_packet c a1 a2))))
def L_sl_packet : List (rx_E mx) := [
  (0, .aload_n 0, 1, 0, 0, 0, [], kno),
  (1, .getfield 10, 3, 7, 1, 0, [], kgr0 0 0 1),
  (4, .iload_n 1, 1, 0, 1, 0, [], kno),
  (5, .invokevirtual 107, 3, 7, 2, 0, [], K_fl_holds),
  (8, .ifCond .eq 19, 3, 2, 13, 0, [], kno),
  (11, .aload_n 0, 1, 0, 0, 0, [], kno),
  (12, .getfield 10, 3, 7, 1, 0, [], kgr0 0 0 1),
  (15, .getfield 110, 3, 7, 1, 0, [], kgr0 1 0 2),
  (18, .iload_n 1, 1, 0, 1, 0, [], kno),
  (19, .aaload, 1, 7, 2, 0, [], kar),
  (20, .iload_n 2, 1, 0, 2, 0, [], kno),
  (21, .invokevirtual 114, 3, 7, 2, 0, [], K_pk_tell),
  (24, .goto 4, 3, 1, 14, 0, [], kno),
  (27, .iconst 0, 1, 0, 0, 0, [], kno),
  (28, .ireturn, 1, 5, 0, 0, [], kno)]
theorem E_sl_packet (c : mx_C) (m : mx_M) (a1 : Int32) (a2 : Int32)  : rx_ev L_sl_packet [] 17 L_sl_packet (c, m) [some (.ref 0), some (.int a1), some (.int a2)] [] = rw_p c m (sl_packet c a1 a2) :=
  rx_ite2 (f := rw_p c m) (fun _ => rfl) (fun _ => rfl)
theorem S_sl_packet (c : mx_C) (m : mx_M) (a1 : Int32) (a2 : Int32)  : rx_sf L_sl_packet [] 17 L_sl_packet (c, m) [some (.ref 0), some (.int a1), some (.int a2)] [] :=
  And.intro rfl (And.intro rfl (And.intro (fun h0 => trivial) (fun h0 => And.intro rfl (And.intro rfl (And.intro (fl_k_in (fl_holds_in h0)) (And.intro (mx_kl_row _) (trivial)))))))

theorem og_sl_110_g {p : Program} {l : Launch} {e : Env} {R : Room} {s : State} {m : MethodId} {args : Array Value} {below : List Frame} {meth : Method} {c : Code} {cc : ByteArray} {nL : Nat} {ad : Nat → Nat} {D : va_G} {g : Nat → ClassId} {B : Nat} (X : ox_C p s m args c cc nL "SubscriberLines" D g ad B) : rx_OK p l e R s m args below meth c cc nL ad (mx_W D g ad B s.heap) mx_cs (.getfield 110) 3 1 (kgr0 1 0 2) := ox_gr0 (T := T_1) X rfl (by decide) (by decide) in_1 rfl (al_at 91 (by decide +kernel) rfl)
theorem cv_pk_tell {p : Program} {l : Launch} {e : Env} {R : Room} {s : State} {m : MethodId} {args : Array Value} {below : List Frame} {meth : Method} {c : Code} {cc : ByteArray} {nL : Nat} {ad : Nat → Nat} {D : va_G} {g : Nat → ClassId} {B : Nat} {own : String} {idx : Nat} (X : ox_C p s m args c cc nL own D g ad B) (hV : rx_V l D g ad B ⟨"SubscriberLines$Packet", "tell", "(I)I"⟩ prog_7_method_4_code 2 (some .int) 0 0 K_pk_tell) (hl : Cond.methodLink own idx ⟨"SubscriberLines$Packet", "tell", "(I)I"⟩ ∈ al) (hR : 0 + 1 ≤ R.frames ∧ 8 + (2 + 11) + 0 ≤ R.locals) : rx_OK p l e R s m args below meth c cc nL ad (mx_W D g ad B s.heap) mx_cs (.invokevirtual idx) 3 2 (K_pk_tell) :=
  ox_callV (q := 2) (T := T_2) X hV (fun av x h => by obtain ⟨a0, a1, rfl⟩ := k_RI_inv h; exact ⟨a0, _, rfl, h⟩) (by decide) rfl hl (al_at 651 (by decide +kernel) rfl) (al_at 652 (by decide +kernel) rfl) (al_at 3 (by decide +kernel) rfl) (al_at 653 (by decide +kernel) rfl) ⟨by decide, by decide, by decide +kernel⟩ hR
theorem ok_sl_packet : rx_okF prog_1_method_12_code 3 (some .int) L_sl_packet 0 L_sl_packet = true := by decide +kernel
theorem V_sl_packet {l : Launch} {D : va_G} {g : Nat → ClassId} {ad : Nat → Nat} {B : Nat} (had : mx_A ad B) : rx_V l D g ad B ⟨"SubscriberLines", "packet", "(II)I"⟩ prog_1_method_12_code 3 (some .int) 1 21 K_sl_packet := by
  intro av x hp
  obtain ⟨a0, a1, a2, rfl⟩ := k_RII_inv hp
  have hp : a0 = 0 := hp
  have h0 : a0 = 0 := hp
  subst h0
  exact rx_met (k := 0) had (by decide) (Nat.le_of_ble_eq_true rfl) ok_sl_packet rfl rfl 17 (fun p e s m args below meth c X => And.intro (og_sl_10_g X) (And.intro (cv_fl_holds X (V_fl_holds had) (al_at 649 (by decide +kernel) rfl) ⟨by decide, by decide⟩) (And.intro (og_sl_10_g X) (And.intro (og_sl_110_g X) (And.intro (ox_ar X) (And.intro (cv_pk_tell X (V_pk_tell had) (al_at 650 (by decide +kernel) rfl) ⟨by decide, by decide⟩) (trivial))))))) (S_sl_packet x.1 x.2 a1 a2 ) (E_sl_packet x.1 x.2 a1 a2)
def sl_session (c : mx_C) (a1 : Int32) (a2 : Int32) : Int32 :=
  if a1 < 0 then
    0
  else
    if a1 < (Int32.ofNat c.2.2.2.2.val) then
      (se_tell c (78 + (c.2.2.1 (Int32.toNatClampNeg a1)).val) a2)
    else
      0
def K_sl_session : rx_K mx := k_RII (fun a0 a1 a2 c m => (a0 = 0, (c, m), some (.int (sl_session c a1 a2))))
def L_sl_session : List (rx_E mx) := [
  (0, .iload_n 1, 1, 0, 1, 0, [], kno),
  (1, .ifCond .lt 30, 3, 2, 15, 0, [], kno),
  (4, .iload_n 1, 1, 0, 1, 0, [], kno),
  (5, .aload_n 0, 1, 0, 0, 0, [], kno),
  (6, .getfield 54, 3, 7, 1, 0, [], kgr0 0 3 66),
  (9, .getfield 143, 3, 7, 1, 0, [], kgs),
  (12, .if_icmp .ge 19, 3, 2, 15, 0, [], kno),
  (15, .aload_n 0, 1, 0, 0, 0, [], kno),
  (16, .getfield 54, 3, 7, 1, 0, [], kgr0 0 3 66),
  (19, .getfield 144, 3, 7, 1, 0, [], kgr0 7 4 67),
  (22, .iload_n 1, 1, 0, 1, 0, [], kno),
  (23, .aaload, 1, 7, 2, 0, [], kas),
  (24, .iload_n 2, 1, 0, 2, 0, [], kno),
  (25, .invokevirtual 148, 3, 7, 2, 0, [], K_se_tell),
  (28, .goto 4, 3, 1, 16, 0, [], kno),
  (31, .iconst 0, 1, 0, 0, 0, [], kno),
  (32, .ireturn, 1, 5, 0, 0, [], kno)]
theorem E_sl_session (c : mx_C) (m : mx_M) (a1 : Int32) (a2 : Int32)  : rx_ev L_sl_session [] 19 L_sl_session (c, m) [some (.ref 0), some (.int a1), some (.int a2)] [] = rw_p c m (sl_session c a1 a2) :=
  rx_ite2 (f := rw_p c m) (fun _ => rfl) (fun _ => rx_ite2 (f := rw_p c m) (fun _ => rfl) (fun _ => rfl))
theorem S_sl_session (c : mx_C) (m : mx_M) (a1 : Int32) (a2 : Int32)  : rx_sf L_sl_session [] 19 L_sl_session (c, m) [some (.ref 0), some (.int a1), some (.int a2)] [] :=
  And.intro (fun h0 => trivial) (fun h0 => And.intro rfl (And.intro rfl (And.intro (fun h1 => And.intro rfl (And.intro rfl (And.intro (sl_ses h0 h1) (And.intro (mx_kl_ses _) (trivial))))) (fun h1 => trivial))))

theorem og_sl_143_g {p : Program} {l : Launch} {e : Env} {R : Room} {s : State} {m : MethodId} {args : Array Value} {below : List Frame} {meth : Method} {c : Code} {cc : ByteArray} {nL : Nat} {ad : Nat → Nat} {D : va_G} {g : Nat → ClassId} {B : Nat} (X : ox_C p s m args c cc nL "SubscriberLines" D g ad B) : rx_OK p l e R s m args below meth c cc nL ad (mx_W D g ad B s.heap) mx_cs (.getfield 143) 3 1 (kgs) := ox_gs X (al_at 296 (by decide +kernel) rfl)
theorem og_sl_144_g {p : Program} {l : Launch} {e : Env} {R : Room} {s : State} {m : MethodId} {args : Array Value} {below : List Frame} {meth : Method} {c : Code} {cc : ByteArray} {nL : Nat} {ad : Nat → Nat} {D : va_G} {g : Nat → ClassId} {B : Nat} (X : ox_C p s m args c cc nL "SubscriberLines" D g ad B) : rx_OK p l e R s m args below meth c cc nL ad (mx_W D g ad B s.heap) mx_cs (.getfield 144) 3 1 (kgr0 7 4 67) := ox_gr0 (T := T_7) X rfl (by decide) (by decide) in_7 rfl (al_at 294 (by decide +kernel) rfl)
theorem cv_se_tell {p : Program} {l : Launch} {e : Env} {R : Room} {s : State} {m : MethodId} {args : Array Value} {below : List Frame} {meth : Method} {c : Code} {cc : ByteArray} {nL : Nat} {ad : Nat → Nat} {D : va_G} {g : Nat → ClassId} {B : Nat} {own : String} {idx : Nat} (X : ox_C p s m args c cc nL own D g ad B) (hV : rx_V l D g ad B ⟨"SubscriberLines$Session", "tell", "(I)I"⟩ prog_9_method_3_code 2 (some .int) 0 0 K_se_tell) (hl : Cond.methodLink own idx ⟨"SubscriberLines$Session", "tell", "(I)I"⟩ ∈ al) (hR : 0 + 1 ≤ R.frames ∧ 8 + (2 + 11) + 0 ≤ R.locals) : rx_OK p l e R s m args below meth c cc nL ad (mx_W D g ad B s.heap) mx_cs (.invokevirtual idx) 3 2 (K_se_tell) :=
  ox_callV (q := 6) (T := T_6) X hV (fun av x h => by obtain ⟨a0, a1, rfl⟩ := k_RI_inv h; exact ⟨a0, _, rfl, h⟩) (by decide) rfl hl (al_at 691 (by decide +kernel) rfl) (al_at 692 (by decide +kernel) rfl) (al_at 11 (by decide +kernel) rfl) (al_at 693 (by decide +kernel) rfl) ⟨by decide, by decide, by decide +kernel⟩ hR
theorem ok_sl_session : rx_okF prog_1_method_19_code 3 (some .int) L_sl_session 0 L_sl_session = true := by decide +kernel
theorem V_sl_session {l : Launch} {D : va_G} {g : Nat → ClassId} {ad : Nat → Nat} {B : Nat} (had : mx_A ad B) : rx_V l D g ad B ⟨"SubscriberLines", "session", "(II)I"⟩ prog_1_method_19_code 3 (some .int) 1 21 K_sl_session := by
  intro av x hp
  obtain ⟨a0, a1, a2, rfl⟩ := k_RII_inv hp
  have hp : a0 = 0 := hp
  have h0 : a0 = 0 := hp
  subst h0
  exact rx_met (k := 0) had (by decide) (Nat.le_of_ble_eq_true rfl) ok_sl_session rfl rfl 19 (fun p e s m args below meth c X => And.intro (og_sl_54_g X) (And.intro (og_sl_143_g X) (And.intro (og_sl_54_g X) (And.intro (og_sl_144_g X) (And.intro (ox_as X) (And.intro (cv_se_tell X (V_se_tell had) (al_at 690 (by decide +kernel) rfl) ⟨by decide, by decide⟩) (trivial))))))) (S_sl_session x.1 x.2 a1 a2 ) (E_sl_session x.1 x.2 a1 a2)
def sl_restart (c : mx_C) (a1 : Int32) : mx_C × Int32 :=
  if a1 = 4 then
    let c1 := ac_forget c
    let c2 := mx_pi c1 (mx_no (Int32.toNatClampNeg a1)) 0 3
    (c2, 1)
  else
    if a1 = 5 then
      let c3 := sv_forget c
      let c4 := mx_pi c3 (mx_no (Int32.toNatClampNeg a1)) 0 3
      (c4, 1)
    else
      (c, 0)
def K_sl_restart : rx_K mx := k_RI (fun a0 a1 c m => (a0 = 0, ((sl_restart c a1).1, m), some (.int (sl_restart c a1).2)))
def L_sl_restart : List (rx_E mx) := [
  (0, .iload_n 1, 1, 0, 1, 0, [], kno),
  (1, .iconst 4, 1, 0, 0, 4, [], kno),
  (2, .if_icmp .ne 13, 3, 2, 7, 0, [], kno),
  (5, .aload_n 0, 1, 0, 0, 0, [], kno),
  (6, .getfield 36, 3, 7, 1, 0, [], kgr0 0 2 59),
  (9, .invokevirtual 77, 3, 7, 1, 0, [], K_ac_forget),
  (12, .goto 20, 3, 1, 16, 0, [], kno),
  (15, .iload_n 1, 1, 0, 1, 0, [], kno),
  (16, .iconst 5, 1, 0, 0, 5, [], kno),
  (17, .if_icmp .ne 13, 3, 2, 14, 0, [], kno),
  (20, .aload_n 0, 1, 0, 0, 0, [], kno),
  (21, .getfield 54, 3, 7, 1, 0, [], kgr0 0 3 66),
  (24, .invokevirtual 80, 3, 7, 1, 0, [], K_sv_forget),
  (27, .goto 5, 3, 1, 16, 0, [], kno),
  (30, .iconst 0, 1, 0, 0, 0, [], kno),
  (31, .ireturn, 1, 5, 1, 0, [], kno),
  (32, .aload_n 0, 1, 0, 0, 0, [], kno),
  (33, .getfield 24, 3, 7, 1, 0, [], kgr0 0 4 46),
  (36, .iload_n 1, 1, 0, 1, 0, [], kno),
  (37, .aaload, 1, 7, 2, 0, [], kan),
  (38, .iconst 3, 1, 0, 0, 3, [], kno),
  (39, .putfield 81, 3, 7, 2, 0, [], kpn),
  (42, .iconst 1, 1, 0, 0, 1, [], kno),
  (43, .ireturn, 1, 5, 1, 0, [], kno)]
theorem E_sl_restart (c : mx_C) (m : mx_M) (a1 : Int32)  : rx_ev L_sl_restart [] 26 L_sl_restart (c, m) [some (.ref 0), some (.int a1)] [] = rw_i m (sl_restart c a1) :=
  rx_ite2 (f := rw_i m) (fun _ => rfl) (fun _ => rx_ite2 (f := rw_i m) (fun _ => rfl) (fun _ => rfl))
theorem S_sl_restart (c : mx_C) (m : mx_M) (a1 : Int32)  : rx_sf L_sl_restart [] 26 L_sl_restart (c, m) [some (.ref 0), some (.int a1)] [] :=
  And.intro (fun h0 => And.intro rfl (And.intro rfl (And.intro rfl (And.intro (by first | exact (sl_nd4 (by assumption)).2 | exact (sl_nd5 (by assumption)).2) (And.intro (by first | exact (sl_nd4 (by assumption)).1 | exact (sl_nd5 (by assumption)).1) (Or.inr rfl)))))) (fun h0 => And.intro (fun h1 => And.intro rfl (And.intro rfl (And.intro rfl (And.intro (by first | exact (sl_nd4 (by assumption)).2 | exact (sl_nd5 (by assumption)).2) (And.intro (by first | exact (sl_nd4 (by assumption)).1 | exact (sl_nd5 (by assumption)).1) (Or.inr rfl)))))) (fun h1 => Or.inl rfl))

theorem cv_ac_forget {p : Program} {l : Launch} {e : Env} {R : Room} {s : State} {m : MethodId} {args : Array Value} {below : List Frame} {meth : Method} {c : Code} {cc : ByteArray} {nL : Nat} {ad : Nat → Nat} {D : va_G} {g : Nat → ClassId} {B : Nat} {own : String} {idx : Nat} (X : ox_C p s m args c cc nL own D g ad B) (hV : rx_V l D g ad B ⟨"SubscriberLines$Access", "forget", "()V"⟩ prog_2_method_2_code 2 none 1 21 K_ac_forget) (hl : Cond.methodLink own idx ⟨"SubscriberLines$Access", "forget", "()V"⟩ ∈ al) (hR : 1 + 1 ≤ R.frames ∧ 8 + (2 + 11) + 21 ≤ R.locals) : rx_OK p l e R s m args below meth c cc nL ad (mx_W D g ad B s.heap) mx_cs (.invokevirtual idx) 3 1 (K_ac_forget) :=
  ox_callV (q := 5) (T := T_5) X hV (fun av x h => by obtain ⟨a0, rfl⟩ := k_R_inv h; exact ⟨a0, _, rfl, by have h2 : a0 = 59 := h; rw [h2]; rfl⟩) (by decide) rfl hl (al_at 420 (by decide +kernel) rfl) (al_at 421 (by decide +kernel) rfl) (al_at 7 (by decide +kernel) rfl) (al_at 422 (by decide +kernel) rfl) ⟨by decide, by decide, by decide +kernel⟩ hR
theorem cv_sv_forget {p : Program} {l : Launch} {e : Env} {R : Room} {s : State} {m : MethodId} {args : Array Value} {below : List Frame} {meth : Method} {c : Code} {cc : ByteArray} {nL : Nat} {ad : Nat → Nat} {D : va_G} {g : Nat → ClassId} {B : Nat} {own : String} {idx : Nat} (X : ox_C p s m args c cc nL own D g ad B) (hV : rx_V l D g ad B ⟨"SubscriberLines$Server", "forget", "()V"⟩ prog_8_method_2_code 1 none 1 21 K_sv_forget) (hl : Cond.methodLink own idx ⟨"SubscriberLines$Server", "forget", "()V"⟩ ∈ al) (hR : 1 + 1 ≤ R.frames ∧ 8 + (1 + 11) + 21 ≤ R.locals) : rx_OK p l e R s m args below meth c cc nL ad (mx_W D g ad B s.heap) mx_cs (.invokevirtual idx) 3 1 (K_sv_forget) :=
  ox_callV (q := 7) (T := T_7) X hV (fun av x h => by obtain ⟨a0, rfl⟩ := k_R_inv h; exact ⟨a0, _, rfl, by have h2 : a0 = 66 := h; rw [h2]; rfl⟩) (by decide) rfl hl (al_at 432 (by decide +kernel) rfl) (al_at 433 (by decide +kernel) rfl) (al_at 9 (by decide +kernel) rfl) (al_at 434 (by decide +kernel) rfl) ⟨by decide, by decide, by decide +kernel⟩ hR
theorem og_sl_24_g {p : Program} {l : Launch} {e : Env} {R : Room} {s : State} {m : MethodId} {args : Array Value} {below : List Frame} {meth : Method} {c : Code} {cc : ByteArray} {nL : Nat} {ad : Nat → Nat} {D : va_G} {g : Nat → ClassId} {B : Nat} (X : ox_C p s m args c cc nL "SubscriberLines" D g ad B) : rx_OK p l e R s m args below meth c cc nL ad (mx_W D g ad B s.heap) mx_cs (.getfield 24) 3 1 (kgr0 0 4 46) := ox_gr0 (T := T_0) X rfl (by decide) (by decide) in_0 rfl (al_at 334 (by decide +kernel) rfl)
theorem og_sl_81_p {p : Program} {l : Launch} {e : Env} {R : Room} {s : State} {m : MethodId} {args : Array Value} {below : List Frame} {meth : Method} {c : Code} {cc : ByteArray} {nL : Nat} {ad : Nat → Nat} {D : va_G} {g : Nat → ClassId} {B : Nat} (X : ox_C p s m args c cc nL "SubscriberLines" D g ad B) : rx_OK p l e R s m args below meth c cc nL ad (mx_W D g ad B s.heap) mx_cs (.putfield 81) 3 2 (kpn) := ox_pn X (al_at 143 (by decide +kernel) rfl)
theorem ok_sl_restart : rx_okF prog_1_method_7_code 2 (some .boolean) L_sl_restart 0 L_sl_restart = true := by decide +kernel
theorem V_sl_restart {l : Launch} {D : va_G} {g : Nat → ClassId} {ad : Nat → Nat} {B : Nat} (had : mx_A ad B) : rx_V l D g ad B ⟨"SubscriberLines", "restart", "(I)Z"⟩ prog_1_method_7_code 2 (some .boolean) 2 42 K_sl_restart := by
  intro av x hp
  obtain ⟨a0, a1, rfl⟩ := k_RI_inv hp
  have hp : a0 = 0 := hp
  have h0 : a0 = 0 := hp
  subst h0
  exact rx_met (k := 0) had (by decide) (Nat.le_of_ble_eq_true rfl) ok_sl_restart rfl rfl 26 (fun p e s m args below meth c X => And.intro (og_sl_36_g X) (And.intro (cv_ac_forget X (V_ac_forget had) (al_at 419 (by decide +kernel) rfl) ⟨by decide, by decide⟩) (And.intro (og_sl_54_g X) (And.intro (cv_sv_forget X (V_sv_forget had) (al_at 431 (by decide +kernel) rfl) ⟨by decide, by decide⟩) (And.intro (og_sl_24_g X) (And.intro (ox_an X) (And.intro (og_sl_81_p X) (trivial)))))))) (S_sl_restart x.1 x.2 a1 ) (E_sl_restart x.1 x.2 a1)
end
section
def sl_drop (c : mx_C) (a1 : Int32) : mx_C × Int32 := if fl_holds c a1 = 0 then (c, 0) else ((fl_take c a1).1, 1)
def K_sl_drop : rx_K mx := k_RI (fun a0 a1 c m => (a0 = 0, ((sl_drop c a1).1, m), some (.int (sl_drop c a1).2)))
def L_sl_drop : List (rx_E mx) := [
  (0, .aload_n 0, 1, 0, 0, 0, [], kno),
  (1, .getfield 10, 3, 7, 1, 0, [], kgr0 0 0 1),
  (4, .iload_n 1, 1, 0, 1, 0, [], kno),
  (5, .invokevirtual 88, 3, 7, 2, 0, [], K_fl_take),
  (8, .ifnull 7, 3, 3, 7, 0, [], kno),
  (11, .iconst 1, 1, 0, 0, 1, [], kno),
  (12, .goto 4, 3, 1, 8, 0, [], kno),
  (15, .iconst 0, 1, 0, 0, 0, [], kno),
  (16, .ireturn, 1, 5, 1, 0, [], kno)]
def L_sl_dropN : List (rx_E mx) := [
  (0, .aload_n 0, 1, 0, 0, 0, [], kno),
  (1, .getfield 10, 3, 7, 1, 0, [], kgr0 0 0 1),
  (4, .iload_n 1, 1, 0, 1, 0, [], kno),
  (5, .invokevirtual 88, 3, 7, 2, 0, [], K_fl_takeN),
  (8, .ifnull 7, 3, 3, 7, 0, [], kno),
  (11, .iconst 1, 1, 0, 0, 1, [], kno),
  (12, .goto 4, 3, 1, 8, 0, [], kno),
  (15, .iconst 0, 1, 0, 0, 0, [], kno),
  (16, .ireturn, 1, 5, 1, 0, [], kno)]
theorem cv_fl_take {p : Program} {l : Launch} {e : Env} {R : Room} {s : State} {m : MethodId} {args : Array Value} {below : List Frame} {meth : Method} {c : Code} {cc : ByteArray} {nL : Nat} {ad : Nat → Nat} {D : va_G} {g : Nat → ClassId} {B : Nat} {own : String} {idx : Nat} (X : ox_C p s m args c cc nL own D g ad B) (hV : rx_V l D g ad B ⟨"SubscriberLines$Flight", "take", "(I)LSubscriberLines$Packet;"⟩ prog_4_method_4_code 4 (some (.object "SubscriberLines$Packet")) 1 21 K_fl_take) (hl : Cond.methodLink own idx ⟨"SubscriberLines$Flight", "take", "(I)LSubscriberLines$Packet;"⟩ ∈ al) (hR : 1 + 1 ≤ R.frames ∧ 8 + (4 + 11) + 21 ≤ R.locals) : rx_OK p l e R s m args below meth c cc nL ad (mx_W D g ad B s.heap) mx_cs (.invokevirtual idx) 3 2 (K_fl_take) :=
  ox_callV (q := 1) (T := T_1) X hV (fun av x h => by obtain ⟨a0, a1, rfl⟩ := k_RI_inv h; exact ⟨a0, _, rfl, by have h2 : a0 = 1 := h.1; rw [h2]; rfl⟩) (by decide) rfl hl (al_at 441 (by decide +kernel) rfl) (al_at 442 (by decide +kernel) rfl) (al_at 2 (by decide +kernel) rfl) (al_at 443 (by decide +kernel) rfl) ⟨by decide, by decide, by decide +kernel⟩ hR
theorem cv_fl_takeN {p : Program} {l : Launch} {e : Env} {R : Room} {s : State} {m : MethodId} {args : Array Value} {below : List Frame} {meth : Method} {c : Code} {cc : ByteArray} {nL : Nat} {ad : Nat → Nat} {D : va_G} {g : Nat → ClassId} {B : Nat} {own : String} {idx : Nat} (X : ox_C p s m args c cc nL own D g ad B) (hV : rx_V l D g ad B ⟨"SubscriberLines$Flight", "take", "(I)LSubscriberLines$Packet;"⟩ prog_4_method_4_code 4 (some (.object "SubscriberLines$Packet")) 1 21 K_fl_takeN) (hl : Cond.methodLink own idx ⟨"SubscriberLines$Flight", "take", "(I)LSubscriberLines$Packet;"⟩ ∈ al) (hR : 1 + 1 ≤ R.frames ∧ 8 + (4 + 11) + 21 ≤ R.locals) : rx_OK p l e R s m args below meth c cc nL ad (mx_W D g ad B s.heap) mx_cs (.invokevirtual idx) 3 2 (K_fl_takeN) :=
  ox_callV (q := 1) (T := T_1) X hV (fun av x h => by obtain ⟨a0, a1, rfl⟩ := k_RI_inv h; exact ⟨a0, _, rfl, by have h2 : a0 = 1 := h.1; rw [h2]; rfl⟩) (by decide) rfl hl (al_at 441 (by decide +kernel) rfl) (al_at 442 (by decide +kernel) rfl) (al_at 2 (by decide +kernel) rfl) (al_at 443 (by decide +kernel) rfl) ⟨by decide, by decide, by decide +kernel⟩ hR
theorem ok_sl_drop : rx_okF prog_1_method_9_code 2 (some .boolean) L_sl_drop 0 L_sl_drop = true := by decide +kernel
theorem ok_sl_dropN : rx_okF prog_1_method_9_code 2 (some .boolean) L_sl_dropN 0 L_sl_dropN = true := by decide +kernel
theorem E_sl_drop (c : mx_C) (m : mx_M) (a1 : Int32) (h : ¬ fl_holds c a1 = 0) : rx_ev L_sl_drop [] 11 L_sl_drop (c, m) [some (.ref 0), some (.int a1)] [] = rw_i m (sl_drop c a1) := by
  unfold sl_drop
  rw [if_neg h]
  rfl
theorem E_sl_dropN (c : mx_C) (m : mx_M) (a1 : Int32) (h : fl_holds c a1 = 0) : rx_ev L_sl_dropN [] 11 L_sl_dropN (c, m) [some (.ref 0), some (.int a1)] [] = rw_i m (sl_drop c a1) := by
  unfold sl_drop
  rw [if_pos h]
  rfl
theorem S_sl_drop (c : mx_C) (m : mx_M) (a1 : Int32) (h : ¬ fl_holds c a1 = 0) : rx_sf L_sl_drop [] 11 L_sl_drop (c, m) [some (.ref 0), some (.int a1)] [] := And.intro rfl (And.intro (And.intro rfl h) (Or.inr rfl))
theorem S_sl_dropN (c : mx_C) (m : mx_M) (a1 : Int32) (h : fl_holds c a1 = 0) : rx_sf L_sl_dropN [] 11 L_sl_dropN (c, m) [some (.ref 0), some (.int a1)] [] := And.intro rfl (And.intro (And.intro rfl h) (Or.inl rfl))
theorem V_sl_drop {l : Launch} {D : va_G} {g : Nat → ClassId} {ad : Nat → Nat} {B : Nat} (had : mx_A ad B) : rx_V l D g ad B ⟨"SubscriberLines", "drop", "(I)Z"⟩ prog_1_method_9_code 2 (some .boolean) 2 44 K_sl_drop := by
  intro av x hp
  obtain ⟨a0, a1, rfl⟩ := k_RI_inv hp
  have h0 : a0 = 0 := hp
  subst h0
  by_cases h : fl_holds x.1 a1 = 0
  · exact rx_met (k := 0) had (by decide) (Nat.le_of_ble_eq_true rfl) ok_sl_dropN rfl rfl 11 (fun p e s m args below meth c X => And.intro (og_sl_10_g X) (And.intro (cv_fl_takeN X (V_fl_takeN had) (al_at 440 (by decide +kernel) rfl) ⟨by decide, by decide⟩) (trivial))) (S_sl_dropN x.1 x.2 a1 h) (E_sl_dropN x.1 x.2 a1 h)
  · exact rx_met (k := 0) had (by decide) (Nat.le_of_ble_eq_true rfl) ok_sl_drop rfl rfl 11 (fun p e s m args below meth c X => And.intro (og_sl_10_g X) (And.intro (cv_fl_take X (V_fl_take had) (al_at 440 (by decide +kernel) rfl) ⟨by decide, by decide⟩) (trivial))) (S_sl_drop x.1 x.2 a1 h) (E_sl_drop x.1 x.2 a1 h)
def no_receive (c : mx_C) (t p : Nat) : mx_C := if mx_kl t = 4 then su_receive c t p else if mx_kl t = 5 then ac_receive c p else sv_receive c p
def no_runTimer (c : mx_C) (t : Nat) : mx_C := if mx_kl t = 4 then su_runTimer c t else if mx_kl t = 5 then ac_runTimer c else sv_runTimer c
def no_rP (c : mx_C) (t p : Nat) : Prop := mx_kl p = 2 ∧ (mx_kl t = 4 ∨ (mx_kl t = 5 ∧ ac_reP c p) ∨ (mx_kl t = 7 ∧ sv_pool c))
def K_no_receive : rx_K mx := k_RR (fun a0 a1 c m => (no_rP c a0 a1, (no_receive c a0 a1, m), none))
def K_no_runTimer : rx_K mx := k_R (fun a0 c m => (mx_nd a0, (no_runTimer c a0, m), none))
theorem mx_kl_five {i : Nat} (h : mx_kl i = 5) : i = 59 := by
  have hi := mx_kl_lt h (by decide)
  have k : ∀ j : Fin 116, mx_kl j.val = 5 → j.val = 59 := by decide
  exact k ⟨i, hi⟩ h
theorem ox_receive {p : Program} {l : Launch} {e : Env} {R : Room} {s : State} {m : MethodId} {args : Array Value} {below : List Frame} {meth : Method} {c : Code} {cc : ByteArray} {nL : Nat} {ad : Nat → Nat} {D : va_G} {g : Nat → ClassId} {B : Nat} (had : mx_A ad B) (X : ox_C p s m args c cc nL "SubscriberLines" D g ad B) (hR : 5 + 1 ≤ R.frames ∧ 8 + (2 + 11) + 116 ≤ R.locals) : rx_OK p l e R s m args below meth c cc nL ad (mx_W D g ad B s.heap) mx_cs (.invokevirtual 97) 3 2 (K_no_receive) := by
  intro pc mem H locs lA av rest Q ha hp hW hsz hrest hdec kk
  obtain ⟨a0, a1, rfl⟩ := k_RR_inv hp
  have hp : no_rP mem.1 a0 a1 := hp
  obtain ⟨hpk, ht | ⟨ht, hq⟩ | ⟨ht, hq⟩⟩ := hp
  · skip
    have e2 : (K_no_receive [.ref a0, .ref a1] mem).2 = (K_su_receive [.ref a0, .ref a1] mem).2 := by
      show ((no_receive mem.1 a0 a1, mem.2), none) = _
      unfold no_receive
      rw [if_pos ht]
      rfl
    rw [e2] at kk
    exact ow_callA (n := 1) (q := 4) (T := T_4) (xm := ⟨"SubscriberLines$Node", "receive", "(LSubscriberLines$Packet;)V"⟩) X (V_su_receive had) (r := [.ref a1]) ⟨ht, hpk⟩ ht (by decide) rfl (al_at 448 (by decide +kernel) rfl) (al_at 450 (by decide +kernel) rfl) (al_at 586 (by decide +kernel) rfl) (al_at 587 (by decide +kernel) rfl) (al_at 5 (by decide +kernel) rfl) (al_at 588 (by decide +kernel) rfl) X.2.2.2.2.2.1.2.1 (by decide +kernel) (by omega) hW hsz rfl hrest hdec kk
  · skip
    have ht0 : a0 = 59 := mx_kl_five ht
    subst ht0
    have e2 : (K_no_receive [.ref 59, .ref a1] mem).2 = (K_ac_receive [.ref 59, .ref a1] mem).2 := by
      show ((no_receive mem.1 59 a1, mem.2), none) = _
      unfold no_receive
      rw [if_neg (by decide), if_pos ht]
      rfl
    rw [e2] at kk
    exact ow_callA (n := 1) (q := 5) (T := T_5) (xm := ⟨"SubscriberLines$Node", "receive", "(LSubscriberLines$Packet;)V"⟩) X (V_ac_receive had) (r := [.ref a1]) ⟨rfl, hpk, hq⟩ rfl (by decide) rfl (al_at 448 (by decide +kernel) rfl) (al_at 450 (by decide +kernel) rfl) (al_at 451 (by decide +kernel) rfl) (al_at 452 (by decide +kernel) rfl) (al_at 7 (by decide +kernel) rfl) (al_at 453 (by decide +kernel) rfl) X.2.2.2.2.2.1.2.1 (by decide +kernel) (by omega) hW hsz rfl hrest hdec kk
  · skip
    have ht0 : a0 = 66 := mx_kl_seven ht
    subst ht0
    have e2 : (K_no_receive [.ref 66, .ref a1] mem).2 = (K_sv_receive [.ref 66, .ref a1] mem).2 := by
      show ((no_receive mem.1 66 a1, mem.2), none) = _
      unfold no_receive
      rw [if_neg (by decide), if_neg (by decide)]
      rfl
    rw [e2] at kk
    exact ow_callA (n := 1) (q := 7) (T := T_7) (xm := ⟨"SubscriberLines$Node", "receive", "(LSubscriberLines$Packet;)V"⟩) X (V_sv_receive had) (r := [.ref a1]) ⟨rfl, hpk, hq⟩ rfl (by decide) rfl (al_at 448 (by decide +kernel) rfl) (al_at 450 (by decide +kernel) rfl) (al_at 524 (by decide +kernel) rfl) (al_at 525 (by decide +kernel) rfl) (al_at 9 (by decide +kernel) rfl) (al_at 526 (by decide +kernel) rfl) X.2.2.2.2.2.1.2.1 (by decide +kernel) (by omega) hW hsz rfl hrest hdec kk

theorem ox_runTimer {p : Program} {l : Launch} {e : Env} {R : Room} {s : State} {m : MethodId} {args : Array Value} {below : List Frame} {meth : Method} {c : Code} {cc : ByteArray} {nL : Nat} {ad : Nat → Nat} {D : va_G} {g : Nat → ClassId} {B : Nat} (had : mx_A ad B) (X : ox_C p s m args c cc nL "SubscriberLines" D g ad B) (hR : 5 + 1 ≤ R.frames ∧ 8 + (3 + 11) + 115 ≤ R.locals) : rx_OK p l e R s m args below meth c cc nL ad (mx_W D g ad B s.heap) mx_cs (.invokevirtual 101) 3 1 (K_no_runTimer) := by
  intro pc mem H locs lA av rest Q ha hp hW hsz hrest hdec kk
  obtain ⟨a0, rfl⟩ := k_R_inv hp
  have hp : mx_nd a0 := hp
  obtain ht | ht | ht := hp
  · skip
    have e2 : (K_no_runTimer [.ref a0] mem).2 = (K_su_runTimer [.ref a0] mem).2 := by
      show ((no_runTimer mem.1 a0, mem.2), none) = _
      unfold no_runTimer
      rw [if_pos ht]
      rfl
    rw [e2] at kk
    exact ow_callA (n := 0) (q := 4) (T := T_4) (xm := ⟨"SubscriberLines$Node", "runTimer", "()V"⟩) X (V_su_runTimer had) (r := []) ht ht (by decide) rfl (al_at 602 (by decide +kernel) rfl) (al_at 604 (by decide +kernel) rfl) (al_at 622 (by decide +kernel) rfl) (al_at 623 (by decide +kernel) rfl) (al_at 5 (by decide +kernel) rfl) (al_at 624 (by decide +kernel) rfl) X.2.2.2.2.2.1.2.2 (by decide +kernel) (by omega) hW hsz rfl hrest hdec kk
  · skip
    have ht0 : a0 = 59 := mx_kl_five ht
    subst ht0
    have e2 : (K_no_runTimer [.ref 59] mem).2 = (K_ac_runTimer [.ref 59] mem).2 := by
      show ((no_runTimer mem.1 59, mem.2), none) = _
      unfold no_runTimer
      rw [if_neg (by decide), if_pos ht]
      rfl
    rw [e2] at kk
    exact ow_callA (n := 0) (q := 5) (T := T_5) (xm := ⟨"SubscriberLines$Node", "runTimer", "()V"⟩) X (V_ac_runTimer had) (r := []) rfl rfl (by decide) rfl (al_at 602 (by decide +kernel) rfl) (al_at 604 (by decide +kernel) rfl) (al_at 605 (by decide +kernel) rfl) (al_at 606 (by decide +kernel) rfl) (al_at 7 (by decide +kernel) rfl) (al_at 607 (by decide +kernel) rfl) X.2.2.2.2.2.1.2.2 (by decide +kernel) (by omega) hW hsz rfl hrest hdec kk
  · skip
    have ht0 : a0 = 66 := mx_kl_seven ht
    subst ht0
    have e2 : (K_no_runTimer [.ref 66] mem).2 = (K_sv_runTimer [.ref 66] mem).2 := by
      show ((no_runTimer mem.1 66, mem.2), none) = _
      unfold no_runTimer
      rw [if_neg (by decide), if_neg (by decide)]
      rfl
    rw [e2] at kk
    exact ow_callA (n := 0) (q := 7) (T := T_7) (xm := ⟨"SubscriberLines$Node", "runTimer", "()V"⟩) X (V_sv_runTimer had) (r := []) rfl rfl (by decide) rfl (al_at 602 (by decide +kernel) rfl) (al_at 604 (by decide +kernel) rfl) (al_at 614 (by decide +kernel) rfl) (al_at 615 (by decide +kernel) rfl) (al_at 9 (by decide +kernel) rfl) (al_at 616 (by decide +kernel) rfl) X.2.2.2.2.2.1.2.2 (by decide +kernel) (by omega) hW hsz rfl hrest hdec kk

theorem fl_takeL (a : Int32) (r : Nat) : ∀ (n : Nat) (c : mx_C) (v : Int32), fl_P n v r c.2.2.2.1.val → (fl_take_19 n c a r v).2 = r := by
  intro n
  induction n with
  | zero => intro c v hP; omega
  | succ n ih =>
    intro c v hP
    unfold fl_take_19
    split
    · rename_i h
      exact ih (mx_pr c _ _) _ (fl_P1 h hP).2
    · rfl
theorem fl_take_eq {c : mx_C} {k : Int32} (h : ¬ fl_holds c k = 0) : (fl_take c k).2 = 4 + (c.2.1 k.toNatClampNeg).val := by
  unfold fl_take
  exact fl_takeL k _ 42 c k (fl_P0 (fl_holds_in h))
theorem fl_take_pk {c : mx_C} {k : Int32} (h : ¬ fl_holds c k = 0) : mx_kl (fl_take c k).2 = 2 := by
  rw [fl_take_eq h]
  exact mx_kl_row _
/-- what a tick's deliveries ask, k of them -/
def tk1 : Nat → mx_C → Prop
  | 0, _ => True
  | k + 1, c => ¬ fl_holds c 0 = 0 ∧ vp_in ((fl_take c 0).1.1 (fl_take c 0).2 2) 6 ∧
    ((fl_take c 0).1.1 (mx_no (Int32.toNatClampNeg ((fl_take c 0).1.1 (fl_take c 0).2 2))) 0 = 0 → no_rP (fl_take c 0).1 (mx_no (Int32.toNatClampNeg ((fl_take c 0).1.1 (fl_take c 0).2 2))) (fl_take c 0).2 ∧ tk1 k (no_receive (fl_take c 0).1 (mx_no (Int32.toNatClampNeg ((fl_take c 0).1.1 (fl_take c 0).2 2))) (fl_take c 0).2)) ∧
    (¬ (fl_take c 0).1.1 (mx_no (Int32.toNatClampNeg ((fl_take c 0).1.1 (fl_take c 0).2 2))) 0 = 0 → tk1 k (fl_take c 0).1)
def tkP (n : Nat) (v : Int32) (c : mx_C) : Prop := ∃ k : Nat, v = Int32.ofNat k ∧ k ≤ 40 ∧ k < n ∧ tk1 k c
theorem tkP_s {n : Nat} {v : Int32} {c : mx_C} (h : 0 < v) (hP : tkP (n + 1) v c) : ∃ k : Nat, v + -1 = Int32.ofNat k ∧ k ≤ 40 ∧ k < n ∧ tk1 (k + 1) c := by
  obtain ⟨k, rfl, h2, h3, h4⟩ := hP
  cases k with
  | zero => exact absurd h (by decide)
  | succ k =>
    refine ⟨k, ?_, by omega, by omega, h4⟩
    rw [i_eq, i_add, i_of _ (by omega), i_of _ (by omega)]
    · show ((k + 1 : Nat) : Int) + -1 = _; omega
    · rw [i_of _ (by omega)]; show _ ≤ ((k + 1 : Nat) : Int) + -1; omega
    · rw [i_of _ (by omega)]; show ((k + 1 : Nat) : Int) + -1 < _; omega
theorem tkP_h {n : Nat} {v : Int32} {c : mx_C} (h : 0 < v) (hP : tkP (n + 1) v c) : ¬ fl_holds c 0 = 0 := by
  obtain ⟨k, -, -, -, h4⟩ := tkP_s h hP
  exact h4.1
theorem tkP_t {n : Nat} {v : Int32} {c : mx_C} (h : 0 < v) (hP : tkP (n + 1) v c) : vp_in ((fl_take c 0).1.1 (fl_take c 0).2 2) 6 := by
  obtain ⟨k, -, -, -, h4⟩ := tkP_s h hP
  exact h4.2.1
theorem tkP_r {n : Nat} {v : Int32} {c : mx_C} (h : 0 < v) (hP : tkP (n + 1) v c) (h1 : (fl_take c 0).1.1 (mx_no (Int32.toNatClampNeg ((fl_take c 0).1.1 (fl_take c 0).2 2))) 0 = 0) : no_rP (fl_take c 0).1 (mx_no (Int32.toNatClampNeg ((fl_take c 0).1.1 (fl_take c 0).2 2))) (fl_take c 0).2 := by
  obtain ⟨k, -, -, -, h4⟩ := tkP_s h hP
  exact (h4.2.2.1 h1).1
theorem tkP_1 {n : Nat} {v : Int32} {c : mx_C} (h : 0 < v) (hP : tkP (n + 1) v c) (h1 : (fl_take c 0).1.1 (mx_no (Int32.toNatClampNeg ((fl_take c 0).1.1 (fl_take c 0).2 2))) 0 = 0) : tkP n (v + -1) (no_receive (fl_take c 0).1 (mx_no (Int32.toNatClampNeg ((fl_take c 0).1.1 (fl_take c 0).2 2))) (fl_take c 0).2) := by
  obtain ⟨k, e1, e2, e3, h4⟩ := tkP_s h hP
  exact ⟨k, e1, e2, e3, (h4.2.2.1 h1).2⟩
theorem tkP_2 {n : Nat} {v : Int32} {c : mx_C} (h : 0 < v) (hP : tkP (n + 1) v c) (h1 : ¬ (fl_take c 0).1.1 (mx_no (Int32.toNatClampNeg ((fl_take c 0).1.1 (fl_take c 0).2 2))) 0 = 0) : tkP n (v + -1) (fl_take c 0).1 := by
  obtain ⟨k, e1, e2, e3, h4⟩ := tkP_s h hP
  exact ⟨k, e1, e2, e3, h4.2.2.2 h1⟩
theorem tkP_0 {c : mx_C} (h : tk1 c.2.2.2.1.val c) : tkP 42 (Int32.ofNat c.2.2.2.1.val) c := ⟨_, rfl, by omega, by omega, h⟩
theorem nd_in {v : Int32} (h : vp_in v 6) : mx_nd (mx_no v.toNatClampNeg) := by
  have hk : v.toNatClampNeg < 6 := Nat.not_le.mp fun q => h (Or.inr q)
  have key : ∀ j : Fin 6, mx_kl (mx_no j.val) = 4 ∨ mx_kl (mx_no j.val) = 5 ∨ mx_kl (mx_no j.val) = 7 := by decide
  exact key ⟨_, hk⟩
abbrev up6 (n : Nat) (v : Int32) : Prop := 0 ≤ v.toInt ∧ v.toInt ≤ 6 ∧ 6 < (n : Int) + v.toInt
theorem up6_in {n : Nat} {v : Int32} (h : v < 6) (hP : up6 n v) : vp_in v 6 := by
  rw [i_lt] at h
  have h : v.toInt < 6 := h
  rw [i_in]
  exact ⟨hP.1, h⟩
theorem up6_1 {n : Nat} {v : Int32} (h : v < 6) (hP : up6 (n + 1) v) : up6 n (v + 1) := by
  rw [i_lt] at h
  have h : v.toInt < 6 := h
  obtain ⟨p1, p2, p3⟩ := hP
  have e : (v + 1).toInt = v.toInt + 1 := i_add (show _ ≤ v.toInt + 1 by omega) (show v.toInt + 1 < _ by omega)
  unfold up6
  rw [e]
  omega
def sl_tick_66 : Nat → mx_C → Int32 → Int32 → mx_C × Int32
  | 0, c, _, _ => (c, 0)
  | n + 1, c, v1, v2 =>
    if v2 < 6 then
      if 0 < (c.1 (mx_no (Int32.toNatClampNeg v2)) 0) then
        let c1 := mx_pi c (mx_no (Int32.toNatClampNeg v2)) 0 ((c.1 (mx_no (Int32.toNatClampNeg v2)) 0) - 1)
        sl_tick_66 n c1 v1 (v2 + 1)
      else
        let c2 := no_runTimer c (mx_no (Int32.toNatClampNeg v2))
        sl_tick_66 n c2 v1 (v2 + 1)
    else
      (c, v1)
def sl_tick_10 : Nat → mx_C → Int32 → Int32 → mx_C × Int32
  | 0, c, _, _ => (c, 0)
  | n + 1, c, v1, v2 =>
    if 0 < v2 then
      let q1 := fl_take c 0
      if (q1.1.1 (mx_no (Int32.toNatClampNeg (q1.1.1 q1.2 2))) 0) = 0 then
        let c2 := no_receive q1.1 (mx_no (Int32.toNatClampNeg (q1.1.1 q1.2 2))) q1.2
        sl_tick_10 n c2 (v1 + 1) (v2 + (-1))
      else
        sl_tick_10 n q1.1 v1 (v2 + (-1))
    else
      sl_tick_66 (7) c v1 0
def sl_tick (c : mx_C)  : mx_C × Int32 :=
  sl_tick_10 (42) c 0 (Int32.ofNat c.2.2.2.1.val)
def K_sl_tick : rx_K mx := k_R (fun a0 c m => (a0 = 0 ∧ tk1 c.2.2.2.1.val c, ((sl_tick c).1, m), some (.int (sl_tick c).2)))
def L_sl_tick : List (rx_E mx) := [
  (0, .iconst 0, 1, 0, 0, 0, [], kno),
  (1, .istore_n 1, 1, 0, 1, 0, [], kno),
  (2, .aload_n 0, 1, 0, 0, 0, [], kno),
  (3, .getfield 10, 3, 7, 1, 0, [], kgr0 0 0 1),
  (6, .getfield 85, 3, 7, 1, 0, [], kgf),
  (9, .istore_n 2, 1, 0, 2, 0, [], kno),
  (10, .iload_n 2, 1, 0, 2, 0, [], kno),
  (11, .ifCond .le 53, 3, 2, 32, 0, [], kno),
  (14, .aload_n 0, 1, 0, 0, 0, [], kno),
  (15, .getfield 10, 3, 7, 1, 0, [], kgr0 0 0 1),
  (18, .iconst 0, 1, 0, 0, 0, [], kno),
  (19, .invokevirtual 88, 3, 7, 2, 0, [], K_fl_take),
  (22, .astore_n 3, 1, 0, 3, 0, [], kno),
  (23, .aload_n 3, 1, 0, 3, 0, [], kno),
  (24, .ifnull 34, 3, 3, 30, 0, [], kno),
  (27, .aload_n 0, 1, 0, 0, 0, [], kno),
  (28, .getfield 24, 3, 7, 1, 0, [], kgr0 0 4 46),
  (31, .aload_n 3, 1, 0, 3, 0, [], kno),
  (32, .getfield 92, 3, 7, 1, 0, [], kgi 2 2),
  (35, .aaload, 1, 7, 2, 0, [], kan),
  (36, .getfield 81, 3, 7, 1, 0, [], kgn),
  (39, .ifCond .ne 19, 3, 2, 30, 0, [], kno),
  (42, .iinc 1 1, 3, 0, 1, 1, [], kno),
  (45, .aload_n 0, 1, 0, 0, 0, [], kno),
  (46, .getfield 24, 3, 7, 1, 0, [], kgr0 0 4 46),
  (49, .aload_n 3, 1, 0, 3, 0, [], kno),
  (50, .getfield 92, 3, 7, 1, 0, [], kgi 2 2),
  (53, .aaload, 1, 7, 2, 0, [], kan),
  (54, .aload_n 3, 1, 0, 3, 0, [], kno),
  (55, .invokevirtual 97, 3, 7, 2, 0, [], K_no_receive),
  (58, .iinc 2 (-1), 3, 0, 2, (-1), [], kno),
  (61, .goto (-51), 3, 1, 6, 0, [], kno),
  (64, .iconst 0, 1, 0, 0, 0, [], kno),
  (65, .istore_n 2, 1, 0, 2, 0, [], kno),
  (66, .iload_n 2, 1, 0, 2, 0, [], kno),
  (67, .bipush 6, 2, 0, 0, 6, [], kno),
  (69, .if_icmp .ge 48, 3, 2, 60, 0, [], kno),
  (72, .aload_n 0, 1, 0, 0, 0, [], kno),
  (73, .getfield 24, 3, 7, 1, 0, [], kgr0 0 4 46),
  (76, .iload_n 2, 1, 0, 2, 0, [], kno),
  (77, .aaload, 1, 7, 2, 0, [], kan),
  (78, .getfield 81, 3, 7, 1, 0, [], kgn),
  (81, .ifCond .le 21, 3, 2, 53, 0, [], kno),
  (84, .aload_n 0, 1, 0, 0, 0, [], kno),
  (85, .getfield 24, 3, 7, 1, 0, [], kgr0 0 4 46),
  (88, .iload_n 2, 1, 0, 2, 0, [], kno),
  (89, .aaload, 1, 7, 2, 0, [], kan),
  (90, .dup, 1, 0, 0, 0, [], kno),
  (91, .getfield 81, 3, 7, 1, 0, [], kgn),
  (94, .iconst 1, 1, 0, 0, 1, [], kno),
  (95, .isub, 1, 0, 0, 0, [], kno),
  (96, .putfield 81, 3, 7, 2, 0, [], kpn),
  (99, .goto 12, 3, 1, 58, 0, [], kno),
  (102, .aload_n 0, 1, 0, 0, 0, [], kno),
  (103, .getfield 24, 3, 7, 1, 0, [], kgr0 0 4 46),
  (106, .iload_n 2, 1, 0, 2, 0, [], kno),
  (107, .aaload, 1, 7, 2, 0, [], kan),
  (108, .invokevirtual 101, 3, 7, 1, 0, [], K_no_runTimer),
  (111, .iinc 2 1, 3, 0, 2, 1, [], kno),
  (114, .goto (-48), 3, 1, 34, 0, [], kno),
  (117, .iload_n 1, 1, 0, 1, 0, [], kno),
  (118, .ireturn, 1, 5, 0, 0, [], kno)]
def G_sl_tick_10 (n : Nat) : rx_G := fun x ls st =>
  match ls, st with
  | [some (.ref r0), some (.int v1), some (.int v2), o3], [] => (r0 = 0 ∧ tkP n v2 x.1, rw_i x.2 (sl_tick_10 n x.1 v1 v2))
  | _, _ => (False, (x, none))
theorem GI_sl_tick_10 {n : Nat} {x : mx} {ls : rx_L} {st : List Value} (h : (G_sl_tick_10 n x ls st).1) : ∃ (r0 : Nat) (v1 : Int32) (v2 : Int32) (o3 : Option Value), ls = [some (.ref r0), some (.int v1), some (.int v2), o3] ∧ st = [] ∧ r0 = 0 ∧ tkP n v2 x.1 := by
  unfold G_sl_tick_10 at h
  split at h
  · exact ⟨_, _, _, _, rfl, rfl, h⟩
  · exact False.elim h
def G_sl_tick_66 (n : Nat) : rx_G := fun x ls st =>
  match ls, st with
  | [some (.ref r0), some (.int v1), some (.int v2), o3], [] => (r0 = 0 ∧ up6 n v2, rw_i x.2 (sl_tick_66 n x.1 v1 v2))
  | _, _ => (False, (x, none))
theorem GI_sl_tick_66 {n : Nat} {x : mx} {ls : rx_L} {st : List Value} (h : (G_sl_tick_66 n x ls st).1) : ∃ (r0 : Nat) (v1 : Int32) (v2 : Int32) (o3 : Option Value), ls = [some (.ref r0), some (.int v1), some (.int v2), o3] ∧ st = [] ∧ r0 = 0 ∧ up6 n v2 := by
  unfold G_sl_tick_66 at h
  split at h
  · exact ⟨_, _, _, _, rfl, rfl, h⟩
  · exact False.elim h
theorem EH_sl_tick_10 (n : Nat) (c : mx_C) (m : mx_M) (v1 : Int32) (v2 : Int32) (o3 : Option Value) : rx_ev L_sl_tick [(10, G_sl_tick_10 n), (66, G_sl_tick_66 (7))] 64 (L_sl_tick.drop 6) (c, m) [some (.ref 0), some (.int v1), some (.int v2), o3] [] = rw_i m (sl_tick_10 (n + 1) c v1 v2) :=
  rx_ite2 (f := rw_i m) (fun _ => rx_ite2 (f := rw_i m) (fun _ => rfl) (fun _ => rfl)) (fun _ => rfl)
theorem SH_sl_tick_10 (n : Nat) (c : mx_C) (m : mx_M) (v1 : Int32) (v2 : Int32) (o3 : Option Value) (hP : tkP (n + 1) v2 c) : rx_sf L_sl_tick [(10, G_sl_tick_10 n), (66, G_sl_tick_66 (7))] 64 (L_sl_tick.drop 6) (c, m) [some (.ref 0), some (.int v1), some (.int v2), o3] [] :=
  And.intro (fun h0 => And.intro rfl (And.intro (And.intro rfl (tkP_h h0 hP)) (And.intro rfl (And.intro (fl_take_pk (tkP_h h0 hP)) (And.intro (tkP_t h0 hP) (And.intro (nd_in (tkP_t h0 hP)) (And.intro (fun h1 => And.intro rfl (And.intro (fl_take_pk (tkP_h h0 hP)) (And.intro (tkP_t h0 hP) (And.intro (tkP_r h0 hP h1) (And.intro rfl (tkP_1 h0 hP h1)))))) (fun h1 => And.intro rfl (tkP_2 h0 hP h1))))))))) (fun h0 => And.intro rfl (by decide))
theorem EH_sl_tick_66 (n : Nat) (c : mx_C) (m : mx_M) (v1 : Int32) (v2 : Int32) (o3 : Option Value) : rx_ev L_sl_tick [(66, G_sl_tick_66 n)] 64 (L_sl_tick.drop 34) (c, m) [some (.ref 0), some (.int v1), some (.int v2), o3] [] = rw_i m (sl_tick_66 (n + 1) c v1 v2) :=
  rx_ite2 (f := rw_i m) (fun _ => rx_ite2 (f := rw_i m) (fun _ => rfl) (fun _ => rfl)) (fun _ => rfl)
theorem SH_sl_tick_66 (n : Nat) (c : mx_C) (m : mx_M) (v1 : Int32) (v2 : Int32) (o3 : Option Value) (hP : up6 (n + 1) v2) : rx_sf L_sl_tick [(66, G_sl_tick_66 n)] 64 (L_sl_tick.drop 34) (c, m) [some (.ref 0), some (.int v1), some (.int v2), o3] [] :=
  And.intro (fun h0 => And.intro rfl (And.intro (up6_in h0 hP) (And.intro (nd_in (up6_in h0 hP)) (And.intro (fun h1 => And.intro rfl (And.intro (up6_in h0 hP) (And.intro (nd_in (up6_in h0 hP)) (And.intro (nd_in (up6_in h0 hP)) (And.intro rfl (up6_1 h0 hP)))))) (fun h1 => And.intro rfl (And.intro (up6_in h0 hP) (And.intro (nd_in (up6_in h0 hP)) (And.intro rfl (up6_1 h0 hP))))))))) (fun h0 => trivial)
theorem E_sl_tick (c : mx_C) (m : mx_M)   : rx_ev L_sl_tick [(10, G_sl_tick_10 (42)), (66, G_sl_tick_66 (7))] 64 L_sl_tick (c, m) [some (.ref 0), none, none, none] [] = rw_i m (sl_tick c) :=
  rfl
theorem S_sl_tick (c : mx_C) (m : mx_M)  (hT : tk1 c.2.2.2.1.val c) : rx_sf L_sl_tick [(10, G_sl_tick_10 (42)), (66, G_sl_tick_66 (7))] 64 L_sl_tick (c, m) [some (.ref 0), none, none, none] [] :=
  And.intro rfl (And.intro rfl (And.intro rfl (tkP_0 hT)))
theorem og_sl_92_g {p : Program} {l : Launch} {e : Env} {R : Room} {s : State} {m : MethodId} {args : Array Value} {below : List Frame} {meth : Method} {c : Code} {cc : ByteArray} {nL : Nat} {ad : Nat → Nat} {D : va_G} {g : Nat → ClassId} {B : Nat} (X : ox_C p s m args c cc nL "SubscriberLines" D g ad B) : rx_OK p l e R s m args below meth c cc nL ad (mx_W D g ad B s.heap) mx_cs (.getfield 92) 3 1 (kgi 2 2) := ox_gi (T := T_2) X rfl (by decide) (by decide) in_2 rfl (al_at 45 (by decide +kernel) rfl)
theorem og_sl_81_g {p : Program} {l : Launch} {e : Env} {R : Room} {s : State} {m : MethodId} {args : Array Value} {below : List Frame} {meth : Method} {c : Code} {cc : ByteArray} {nL : Nat} {ad : Nat → Nat} {D : va_G} {g : Nat → ClassId} {B : Nat} (X : ox_C p s m args c cc nL "SubscriberLines" D g ad B) : rx_OK p l e R s m args below meth c cc nL ad (mx_W D g ad B s.heap) mx_cs (.getfield 81) 3 1 (kgn) := ox_gn X (al_at 143 (by decide +kernel) rfl)
theorem ok_sl_tick : rx_okF prog_1_method_8_code 4 (some .int) L_sl_tick 0 L_sl_tick = true := by decide +kernel
theorem O_sl_tick {l : Launch} {D : va_G} {g : Nat → ClassId} {ad : Nat → Nat} {B : Nat} (had : mx_A ad B) {p : Program} {e : Env} {s : State} {m : MethodId} {args : Array Value} {below : List Frame} {meth : Method} {c : Code} (X : ox_C p s m args c prog_1_method_8_code 4 "SubscriberLines" D g ad B) : rx_ops p l e ({ frames := 6, cells := 0, slots := 0, locals := 137 } : Room) s m args below meth c prog_1_method_8_code 4 ad (mx_W D g ad B s.heap) mx_cs L_sl_tick :=
  And.intro (og_sl_10_g X) (And.intro (og_sl_85_g X) (And.intro (og_sl_10_g X) (And.intro (cv_fl_take X (V_fl_take had) (al_at 440 (by decide +kernel) rfl) ⟨by decide, by decide⟩) (And.intro (og_sl_24_g X) (And.intro (og_sl_92_g X) (And.intro (ox_an X) (And.intro (og_sl_81_g X) (And.intro (og_sl_24_g X) (And.intro (og_sl_92_g X) (And.intro (ox_an X) (And.intro (ox_receive had X (by decide)) (And.intro (og_sl_24_g X) (And.intro (ox_an X) (And.intro (og_sl_81_g X) (And.intro (og_sl_24_g X) (And.intro (ox_an X) (And.intro (og_sl_81_g X) (And.intro (og_sl_81_p X) (And.intro (og_sl_24_g X) (And.intro (ox_an X) (And.intro (ox_runTimer had X (by decide)) (trivial))))))))))))))))))))))
theorem V_sl_tick {l : Launch} {D : va_G} {g : Nat → ClassId} {ad : Nat → Nat} {B : Nat} (had : mx_A ad B) : rx_V l D g ad B ⟨"SubscriberLines", "tick", "()I"⟩ prog_1_method_8_code 4 (some .int) 6 137 K_sl_tick := by
  intro av x hp
  obtain ⟨a0, rfl⟩ := k_R_inv hp
  have hp : a0 = 0 ∧ tk1 x.1.2.2.2.1.val x.1 := hp
  have h0 : a0 = 0 := hp.1
  subst h0
  refine rx_metX (k := 3) had (by decide) (Nat.le_of_ble_eq_true rfl) fun p e s m args below meth c X hr hlk => ?_
  have lp66 := fun n => rx_loop (l := l) (e := e) (below := below) (res := (K_sl_tick [.ref 0] x).2) (G := G_sl_tick_66) (cs0 := []) X hr hlk ok_sl_tick (O_sl_tick had X) rx_c0 64 34 rfl (fun x ls st h => by
    obtain ⟨r0, v1, v2, o3, -, -, h3⟩ := GI_sl_tick_66 h
    have h4 := h3.2
    omega) (fun n x ls st h => by
    obtain ⟨r0, v1, v2, o3, rfl, rfl, h3⟩ := GI_sl_tick_66 h
    obtain ⟨rfl, hP⟩ := h3
    exact ⟨SH_sl_tick_66 n x.1 x.2 v1 v2 o3 hP, EH_sl_tick_66 n x.1 x.2 v1 v2 o3⟩) n
  have lp10 := fun n => rx_loop (l := l) (e := e) (below := below) (res := (K_sl_tick [.ref 0] x).2) (G := G_sl_tick_10) (cs0 := [(66, G_sl_tick_66 (7))]) X hr hlk ok_sl_tick (O_sl_tick had X) (rx_cc (lp66 _) rx_c0) 64 6 rfl (fun x ls st h => by
    obtain ⟨r0, v1, v2, o3, -, -, h3⟩ := GI_sl_tick_10 h
    have h4 := h3.2
    obtain ⟨k, h5, h6, h7, h8⟩ := h4; omega) (fun n x ls st h => by
    obtain ⟨r0, v1, v2, o3, rfl, rfl, h3⟩ := GI_sl_tick_10 h
    obtain ⟨rfl, hP⟩ := h3
    exact ⟨SH_sl_tick_10 n x.1 x.2 v1 v2 o3 hP, EH_sl_tick_10 n x.1 x.2 v1 v2 o3⟩) n
  exact rx_walk X hr hlk ok_sl_tick (O_sl_tick had X) (cut := [(10, G_sl_tick_10 (42)), (66, G_sl_tick_66 (7))]) (rx_cc (lp10 _) (rx_cc (lp66 _) rx_c0)) 64 0 rfl (S_sl_tick x.1 x.2  hp.2) (E_sl_tick x.1 x.2  )
end
section
def ry_p (c : mx_C) (m : mx_M) (r : Int32) : rx_R mx := ((c, m), some (.int r))
abbrev mo_at (a : Int32) : Prop := 0 ≤ a.toInt ∧ a.toInt ≤ 351
theorem mo_at_j {a j : Int32} (h : mo_at a) (hj : 0 ≤ j.toInt ∧ j.toInt ≤ 8) : vp_in (a + j) 360 := by
  rw [i_in, i_add (by omega) (by omega)]
  omega
theorem mo_at_0 {a : Int32} (h : mo_at a) : vp_in a 360 := by
  rw [i_in]
  omega
theorem mo_nine {q : Fin 41} : (9 * Int32.ofNat q.val).toInt = 9 * (q.val : Int) := by
  rw [i_mul, i_of _ (by omega)]
  · rfl
  · rw [i_of _ (by omega)]; show _ ≤ 9 * (q.val : Int); omega
  · rw [i_of _ (by omega)]; show 9 * (q.val : Int) < _; omega
theorem mo_fl {q : Fin 41} (h : Int32.ofNat q.val < 40) : mo_at (9 * Int32.ofNat q.val) ∧ vp_in (Int32.ofNat q.val + 1) 41 := by
  refine ⟨?_, (fl_in0 q h).2⟩
  rw [i_lt, i_of _ (by omega)] at h
  have h : (q.val : Int) < 40 := h
  unfold mo_at
  rw [mo_nine]
  omega
abbrev mo_fP (n : Nat) (v a : Int32) : Prop := 6 ≤ v.toInt ∧ v.toInt ≤ 9 ∧ 9 < (n : Int) + v.toInt ∧ mo_at a
theorem mo_fP1 {n : Nat} {v a : Int32} (h : v < 9) (hP : mo_fP (n + 1) v a) : vp_in (a + v) 360 ∧ mo_fP n (v + 1) a := by
  rw [i_lt] at h
  have h : v.toInt < 9 := h
  obtain ⟨p1, p2, p3, p4⟩ := hP
  have e : (v + 1).toInt = v.toInt + 1 := i_add (show _ ≤ v.toInt + 1 by omega) (show v.toInt + 1 < _ by omega)
  refine ⟨mo_at_j p4 (by omega), ?_⟩
  unfold mo_fP
  rw [e]
  omega
def mo_out (m : mx_M) (a1 : Int32) (a2 : Int32) : Int32 :=
  if a1 < 0 then
    1
  else
    if a1 < a2 then
      0
    else
      1
def K_mo_out : rx_K mx := k_II (fun a0 a1 c m => (True, (c, m), some (.int (mo_out m a0 a1))))
def L_mo_out : List (rx_E mx) := [
  (0, .iload_n 0, 1, 0, 0, 0, [], kno),
  (1, .ifCond .lt 8, 3, 2, 5, 0, [], kno),
  (4, .iload_n 0, 1, 0, 0, 0, [], kno),
  (5, .iload_n 1, 1, 0, 1, 0, [], kno),
  (6, .if_icmp .lt 7, 3, 2, 7, 0, [], kno),
  (9, .iconst 1, 1, 0, 0, 1, [], kno),
  (10, .goto 4, 3, 1, 8, 0, [], kno),
  (13, .iconst 0, 1, 0, 0, 0, [], kno),
  (14, .ireturn, 1, 5, 1, 0, [], kno)]
theorem E_mo_out (c : mx_C) (m : mx_M) (a1 : Int32) (a2 : Int32)  : rx_ev L_mo_out [] 11 L_mo_out (c, m) [some (.int a1), some (.int a2)] [] = ry_p c m (mo_out m a1 a2) :=
  rx_ite2 (f := ry_p c m) (fun _ => rfl) (fun _ => rx_ite2 (f := ry_p c m) (fun _ => rfl) (fun _ => rfl))
theorem S_mo_out (c : mx_C) (m : mx_M) (a1 : Int32) (a2 : Int32)  : rx_sf L_mo_out [] 11 L_mo_out (c, m) [some (.int a1), some (.int a2)] [] :=
  And.intro (fun h0 => Or.inr rfl) (fun h0 => And.intro (fun h1 => Or.inl rfl) (fun h1 => Or.inr rfl))

theorem ok_mo_out : rx_okF prog_12_method_2_code 2 (some .boolean) L_mo_out 0 L_mo_out = true := by decide +kernel
theorem V_mo_out {l : Launch} {D : va_G} {g : Nat → ClassId} {ad : Nat → Nat} {B : Nat} (had : mx_A ad B) : rx_V l D g ad B ⟨"SubscriberLinesModel", "out", "(II)Z"⟩ prog_12_method_2_code 2 (some .boolean) 0 0 K_mo_out := by
  intro av x hp
  obtain ⟨a0, a1, rfl⟩ := k_II_inv hp
  exact rx_met (k := 0) had (by decide) (Nat.le_of_ble_eq_true rfl) ok_mo_out rfl rfl 11 (fun p e s m args below meth c X => trivial) (S_mo_out x.1 x.2 a0 a1 ) (E_mo_out x.1 x.2 a0 a1)
def mo_fill_60 : Nat → mx_M → Int32 → Int32 → Int32 → Int32 → Int32 → Int32 → Int32 → Int32 → mx_M
  | 0, m, _, _, _, _, _, _, _, _ => m
  | n + 1, m, v1, v2, v3, v4, v5, v6, v7, v8 =>
    if v8 < 9 then
      let m1 := my_pi m 85 (Int32.toNatClampNeg (v1 + v8)) 0
      mo_fill_60 n m1 v1 v2 v3 v4 v5 v6 v7 (v8 + 1)
    else
      m
def mo_fill (m : mx_M) (a1 : Int32) (a2 : Int32) (a3 : Int32) (a4 : Int32) (a5 : Int32) (a6 : Int32) (a7 : Int32) : mx_M :=
  let m1 := my_pi m 85 (Int32.toNatClampNeg a1) a2
  let m2 := my_pi m1 85 (Int32.toNatClampNeg (a1 + 1)) a3
  let m3 := my_pi m2 85 (Int32.toNatClampNeg (a1 + 2)) a4
  let m4 := my_pi m3 85 (Int32.toNatClampNeg (a1 + 3)) a5
  let m5 := my_pi m4 85 (Int32.toNatClampNeg (a1 + 4)) a6
  let m6 := my_pi m5 85 (Int32.toNatClampNeg (a1 + 5)) a7
  mo_fill_60 (4) m6 a1 a2 a3 a4 a5 a6 a7 6
def K_mo_fill : rx_K mx := k_RIIIIIII (fun a0 a1 a2 a3 a4 a5 a6 a7 c m => (a0 = 82 ∧ mo_at a1, (c, mo_fill m a1 a2 a3 a4 a5 a6 a7), none))
def L_mo_fill : List (rx_E mx) := [
  (0, .aload_n 0, 1, 0, 0, 0, [], kno),
  (1, .getfield 17, 3, 7, 1, 0, [], mgr 85),
  (4, .iload_n 1, 1, 0, 1, 0, [], kno),
  (5, .iload_n 2, 1, 0, 2, 0, [], kno),
  (6, .iastore, 1, 7, 3, 0, [], mpa),
  (7, .aload_n 0, 1, 0, 0, 0, [], kno),
  (8, .getfield 17, 3, 7, 1, 0, [], mgr 85),
  (11, .iload_n 1, 1, 0, 1, 0, [], kno),
  (12, .iconst 1, 1, 0, 0, 1, [], kno),
  (13, .iadd, 1, 0, 0, 0, [], kno),
  (14, .iload_n 3, 1, 0, 3, 0, [], kno),
  (15, .iastore, 1, 7, 3, 0, [], mpa),
  (16, .aload_n 0, 1, 0, 0, 0, [], kno),
  (17, .getfield 17, 3, 7, 1, 0, [], mgr 85),
  (20, .iload_n 1, 1, 0, 1, 0, [], kno),
  (21, .iconst 2, 1, 0, 0, 2, [], kno),
  (22, .iadd, 1, 0, 0, 0, [], kno),
  (23, .iload 4, 2, 0, 4, 0, [], kno),
  (25, .iastore, 1, 7, 3, 0, [], mpa),
  (26, .aload_n 0, 1, 0, 0, 0, [], kno),
  (27, .getfield 17, 3, 7, 1, 0, [], mgr 85),
  (30, .iload_n 1, 1, 0, 1, 0, [], kno),
  (31, .iconst 3, 1, 0, 0, 3, [], kno),
  (32, .iadd, 1, 0, 0, 0, [], kno),
  (33, .iload 5, 2, 0, 5, 0, [], kno),
  (35, .iastore, 1, 7, 3, 0, [], mpa),
  (36, .aload_n 0, 1, 0, 0, 0, [], kno),
  (37, .getfield 17, 3, 7, 1, 0, [], mgr 85),
  (40, .iload_n 1, 1, 0, 1, 0, [], kno),
  (41, .iconst 4, 1, 0, 0, 4, [], kno),
  (42, .iadd, 1, 0, 0, 0, [], kno),
  (43, .iload 6, 2, 0, 6, 0, [], kno),
  (45, .iastore, 1, 7, 3, 0, [], mpa),
  (46, .aload_n 0, 1, 0, 0, 0, [], kno),
  (47, .getfield 17, 3, 7, 1, 0, [], mgr 85),
  (50, .iload_n 1, 1, 0, 1, 0, [], kno),
  (51, .iconst 5, 1, 0, 0, 5, [], kno),
  (52, .iadd, 1, 0, 0, 0, [], kno),
  (53, .iload 7, 2, 0, 7, 0, [], kno),
  (55, .iastore, 1, 7, 3, 0, [], mpa),
  (56, .bipush 6, 2, 0, 0, 6, [], kno),
  (58, .istore 8, 2, 0, 8, 0, [], kno),
  (60, .iload 8, 2, 0, 8, 0, [], kno),
  (62, .bipush 9, 2, 0, 0, 9, [], kno),
  (64, .if_icmp .ge 19, 3, 2, 54, 0, [], kno),
  (67, .aload_n 0, 1, 0, 0, 0, [], kno),
  (68, .getfield 17, 3, 7, 1, 0, [], mgr 85),
  (71, .iload_n 1, 1, 0, 1, 0, [], kno),
  (72, .iload 8, 2, 0, 8, 0, [], kno),
  (74, .iadd, 1, 0, 0, 0, [], kno),
  (75, .iconst 0, 1, 0, 0, 0, [], kno),
  (76, .iastore, 1, 7, 3, 0, [], mpa),
  (77, .iinc 8 1, 3, 0, 8, 1, [], kno),
  (80, .goto (-20), 3, 1, 42, 0, [], kno),
  (83, .return_, 1, 6, 0, 0, [], kno)]
def G_mo_fill (n : Nat) : rx_G := fun x ls st =>
  match ls, st with
  | [some (.ref r0), some (.int v1), some (.int v2), some (.int v3), some (.int v4), some (.int v5), some (.int v6), some (.int v7), some (.int v8)], [] => (r0 = 82 ∧ mo_fP n v8 v1, ry_v x.1 (mo_fill_60 n x.2 v1 v2 v3 v4 v5 v6 v7 v8))
  | _, _ => (False, (x, none))
theorem GI_mo_fill {n : Nat} {x : mx} {ls : rx_L} {st : List Value} (h : (G_mo_fill n x ls st).1) : ∃ (r0 : Nat) (v1 : Int32) (v2 : Int32) (v3 : Int32) (v4 : Int32) (v5 : Int32) (v6 : Int32) (v7 : Int32) (v8 : Int32), ls = [some (.ref r0), some (.int v1), some (.int v2), some (.int v3), some (.int v4), some (.int v5), some (.int v6), some (.int v7), some (.int v8)] ∧ st = [] ∧ r0 = 82 ∧ mo_fP n v8 v1 := by
  unfold G_mo_fill at h
  split at h
  · exact ⟨_, _, _, _, _, _, _, _, _, rfl, rfl, h⟩
  · exact False.elim h
theorem EH_mo_fill (n : Nat) (c : mx_C) (m : mx_M) (v1 : Int32) (v2 : Int32) (v3 : Int32) (v4 : Int32) (v5 : Int32) (v6 : Int32) (v7 : Int32) (v8 : Int32) : rx_ev L_mo_fill [(60, G_mo_fill n)] 57 (L_mo_fill.drop 42) (c, m) [some (.ref 82), some (.int v1), some (.int v2), some (.int v3), some (.int v4), some (.int v5), some (.int v6), some (.int v7), some (.int v8)] [] = ry_v c (mo_fill_60 (n + 1) m v1 v2 v3 v4 v5 v6 v7 v8) :=
  rx_ite2 (f := ry_v c) (fun _ => rfl) (fun _ => rfl)
theorem SH_mo_fill (n : Nat) (c : mx_C) (m : mx_M) (v1 : Int32) (v2 : Int32) (v3 : Int32) (v4 : Int32) (v5 : Int32) (v6 : Int32) (v7 : Int32) (v8 : Int32) (hP : mo_fP (n + 1) v8 v1) : rx_sf L_mo_fill [(60, G_mo_fill n)] 57 (L_mo_fill.drop 42) (c, m) [some (.ref 82), some (.int v1), some (.int v2), some (.int v3), some (.int v4), some (.int v5), some (.int v6), some (.int v7), some (.int v8)] [] :=
  And.intro (fun h0 => And.intro rfl (And.intro (mo_fP1 h0 hP).1 (And.intro rfl (mo_fP1 h0 hP).2))) (fun h0 => trivial)
theorem E_mo_fill (c : mx_C) (m : mx_M) (a1 : Int32) (a2 : Int32) (a3 : Int32) (a4 : Int32) (a5 : Int32) (a6 : Int32) (a7 : Int32)  : rx_ev L_mo_fill [(60, G_mo_fill (4))] 57 L_mo_fill (c, m) [some (.ref 82), some (.int a1), some (.int a2), some (.int a3), some (.int a4), some (.int a5), some (.int a6), some (.int a7), none] [] = ry_v c (mo_fill m a1 a2 a3 a4 a5 a6 a7) :=
  rfl
theorem S_mo_fill (c : mx_C) (m : mx_M) (a1 : Int32) (a2 : Int32) (a3 : Int32) (a4 : Int32) (a5 : Int32) (a6 : Int32) (a7 : Int32) (ha : mo_at a1) : rx_sf L_mo_fill [(60, G_mo_fill (4))] 57 L_mo_fill (c, m) [some (.ref 82), some (.int a1), some (.int a2), some (.int a3), some (.int a4), some (.int a5), some (.int a6), some (.int a7), none] [] :=
  And.intro rfl (And.intro (mo_at_0 ha) (And.intro rfl (And.intro (mo_at_j ha (by decide)) (And.intro rfl (And.intro (mo_at_j ha (by decide)) (And.intro rfl (And.intro (mo_at_j ha (by decide)) (And.intro rfl (And.intro (mo_at_j ha (by decide)) (And.intro rfl (And.intro (mo_at_j ha (by decide)) (And.intro rfl (And.intro (by decide) (And.intro (by decide) (And.intro (by decide) ha)))))))))))))))
theorem og_mo_17_g {p : Program} {l : Launch} {e : Env} {R : Room} {s : State} {m : MethodId} {args : Array Value} {below : List Frame} {meth : Method} {c : Code} {cc : ByteArray} {nL : Nat} {ad : Nat → Nat} {D : va_G} {g : Nat → ClassId} {B : Nat} (X : ox_C p s m args c cc nL "SubscriberLinesModel" D g ad B) : rx_OK p l e R s m args below meth c cc nL ad (mx_W D g ad B s.heap) mx_cs (.getfield 17) 3 1 (mgr 85) := oy_gr (k := 4) X (by decide) rfl (al_at 715 (by decide +kernel) rfl)
theorem ok_mo_fill : rx_okF prog_12_method_3_code 9 none L_mo_fill 0 L_mo_fill = true := by decide +kernel
theorem O_mo_fill {l : Launch} {D : va_G} {g : Nat → ClassId} {ad : Nat → Nat} {B : Nat} (had : mx_A ad B) {p : Program} {e : Env} {s : State} {m : MethodId} {args : Array Value} {below : List Frame} {meth : Method} {c : Code} (X : ox_C p s m args c prog_12_method_3_code 9 "SubscriberLinesModel" D g ad B) : rx_ops p l e ({ frames := 0, cells := 0, slots := 0, locals := 0 } : Room) s m args below meth c prog_12_method_3_code 9 ad (mx_W D g ad B s.heap) mx_cs L_mo_fill :=
  And.intro (og_mo_17_g X) (And.intro (oy_pa X) (And.intro (og_mo_17_g X) (And.intro (oy_pa X) (And.intro (og_mo_17_g X) (And.intro (oy_pa X) (And.intro (og_mo_17_g X) (And.intro (oy_pa X) (And.intro (og_mo_17_g X) (And.intro (oy_pa X) (And.intro (og_mo_17_g X) (And.intro (oy_pa X) (And.intro (og_mo_17_g X) (And.intro (oy_pa X) (trivial))))))))))))))
theorem V_mo_fill {l : Launch} {D : va_G} {g : Nat → ClassId} {ad : Nat → Nat} {B : Nat} (had : mx_A ad B) : rx_V l D g ad B ⟨"SubscriberLinesModel", "fill", "(IIIIIII)V"⟩ prog_12_method_3_code 9 none 0 0 K_mo_fill := by
  intro av x hp
  obtain ⟨a0, a1, a2, a3, a4, a5, a6, a7, rfl⟩ := k_RIIIIIII_inv hp
  have hp : a0 = 82 ∧ mo_at a1 := hp
  have h0 : a0 = 82 := hp.1
  subst h0
  refine rx_metX (k := 1) had (by decide) (Nat.le_of_ble_eq_true rfl) fun p e s m args below meth c X hr hlk => ?_
  refine rx_walk X hr hlk ok_mo_fill (O_mo_fill had X) (cut := [(60, G_mo_fill (4))]) (rx_cc ?_ rx_c0) 57 0 rfl (S_mo_fill x.1 x.2 a1 a2 a3 a4 a5 a6 a7 hp.2) (E_mo_fill x.1 x.2 a1 a2 a3 a4 a5 a6 a7 )
  refine rx_loop (G := G_mo_fill) X hr hlk ok_mo_fill (O_mo_fill had X) rx_c0 57 42 rfl (fun x ls st h => ?_) (fun n x ls st h => ?_) _
  · obtain ⟨r0, v1, v2, v3, v4, v5, v6, v7, v8, -, -, h3⟩ := GI_mo_fill h
    have h4 := h3.2
    omega
  · obtain ⟨r0, v1, v2, v3, v4, v5, v6, v7, v8, rfl, rfl, h3⟩ := GI_mo_fill h
    obtain ⟨rfl, hP⟩ := h3
    exact ⟨SH_mo_fill n x.1 x.2 v1 v2 v3 v4 v5 v6 v7 v8 hP, EH_mo_fill n x.1 x.2 v1 v2 v3 v4 v5 v6 v7 v8⟩
def mo_sendOff (m : mx_M) (a1 : Int32) (a2 : Int32) (a3 : Int32) (a4 : Int32) (a5 : Int32) (a6 : Int32) : mx_M :=
  if (Int32.ofNat m.2.1.val) < 40 then
    let m1 := mo_fill m (9 * (Int32.ofNat m.2.1.val)) a1 a2 a3 a4 a5 a6
    let m2 := my_pf m1 ((Int32.ofNat m1.2.1.val) + 1)
    m2
  else
    m
def K_mo_sendOff : rx_K mx := k_RIIIIII (fun a0 a1 a2 a3 a4 a5 a6 c m => (a0 = 82, (c, mo_sendOff m a1 a2 a3 a4 a5 a6), none))
def L_mo_sendOff : List (rx_E mx) := [
  (0, .aload_n 0, 1, 0, 0, 0, [], kno),
  (1, .getfield 114, 3, 7, 1, 0, [], mgf),
  (4, .bipush 40, 2, 0, 0, 40, [], kno),
  (6, .if_icmp .lt 4, 3, 2, 5, 0, [], kno),
  (9, .return_, 1, 6, 0, 0, [], kno),
  (10, .aload_n 0, 1, 0, 0, 0, [], kno),
  (11, .bipush 9, 2, 0, 0, 9, [], kno),
  (13, .aload_n 0, 1, 0, 0, 0, [], kno),
  (14, .getfield 114, 3, 7, 1, 0, [], mgf),
  (17, .imul, 1, 0, 0, 0, [], kno),
  (18, .iload_n 1, 1, 0, 1, 0, [], kno),
  (19, .iload_n 2, 1, 0, 2, 0, [], kno),
  (20, .iload_n 3, 1, 0, 3, 0, [], kno),
  (21, .iload 4, 2, 0, 4, 0, [], kno),
  (23, .iload 5, 2, 0, 5, 0, [], kno),
  (25, .iload 6, 2, 0, 6, 0, [], kno),
  (27, .invokevirtual 117, 3, 7, 8, 0, [], K_mo_fill),
  (30, .aload_n 0, 1, 0, 0, 0, [], kno),
  (31, .dup, 1, 0, 0, 0, [], kno),
  (32, .getfield 114, 3, 7, 1, 0, [], mgf),
  (35, .iconst 1, 1, 0, 0, 1, [], kno),
  (36, .iadd, 1, 0, 0, 0, [], kno),
  (37, .putfield 114, 3, 7, 2, 0, [], mpf),
  (40, .return_, 1, 6, 0, 0, [], kno)]
theorem E_mo_sendOff (c : mx_C) (m : mx_M) (a1 : Int32) (a2 : Int32) (a3 : Int32) (a4 : Int32) (a5 : Int32) (a6 : Int32)  : rx_ev L_mo_sendOff [] 26 L_mo_sendOff (c, m) [some (.ref 82), some (.int a1), some (.int a2), some (.int a3), some (.int a4), some (.int a5), some (.int a6)] [] = ry_v c (mo_sendOff m a1 a2 a3 a4 a5 a6) :=
  rx_ite2 (f := ry_v c) (fun _ => rfl) (fun _ => rfl)
theorem S_mo_sendOff (c : mx_C) (m : mx_M) (a1 : Int32) (a2 : Int32) (a3 : Int32) (a4 : Int32) (a5 : Int32) (a6 : Int32)  : rx_sf L_mo_sendOff [] 26 L_mo_sendOff (c, m) [some (.ref 82), some (.int a1), some (.int a2), some (.int a3), some (.int a4), some (.int a5), some (.int a6)] [] :=
  And.intro rfl (And.intro (fun h0 => And.intro rfl (And.intro (And.intro rfl (mo_fl h0).1) (And.intro rfl (And.intro (And.intro rfl (mo_fl h0).2) (trivial))))) (fun h0 => trivial))

theorem og_mo_114_g {p : Program} {l : Launch} {e : Env} {R : Room} {s : State} {m : MethodId} {args : Array Value} {below : List Frame} {meth : Method} {c : Code} {cc : ByteArray} {nL : Nat} {ad : Nat → Nat} {D : va_G} {g : Nat → ClassId} {B : Nat} (X : ox_C p s m args c cc nL "SubscriberLinesModel" D g ad B) : rx_OK p l e R s m args below meth c cc nL ad (mx_W D g ad B s.heap) mx_cs (.getfield 114) 3 1 (mgf) := oy_gf X (al_at 714 (by decide +kernel) rfl)
theorem cv_mo_fill {p : Program} {l : Launch} {e : Env} {R : Room} {s : State} {m : MethodId} {args : Array Value} {below : List Frame} {meth : Method} {c : Code} {cc : ByteArray} {nL : Nat} {ad : Nat → Nat} {D : va_G} {g : Nat → ClassId} {B : Nat} {own : String} {idx : Nat} (X : ox_C p s m args c cc nL own D g ad B) (hV : rx_V l D g ad B ⟨"SubscriberLinesModel", "fill", "(IIIIIII)V"⟩ prog_12_method_3_code 9 none 0 0 K_mo_fill) (hl : Cond.methodLink own idx ⟨"SubscriberLinesModel", "fill", "(IIIIIII)V"⟩ ∈ al) (hR : 0 + 1 ≤ R.frames ∧ 8 + (9 + 11) + 0 ≤ R.locals) : rx_OK p l e R s m args below meth c cc nL ad (mx_W D g ad B s.heap) mx_cs (.invokevirtual idx) 3 8 (K_mo_fill) :=
  ox_callV (q := 9) (T := T_9) X hV (fun av x h => by obtain ⟨a0, a1, a2, a3, a4, a5, a6, a7, rfl⟩ := k_RIIIIIII_inv h; exact ⟨a0, _, rfl, by have h2 : a0 = 82 := h.1; rw [h2]; rfl⟩) (by decide) rfl hl (al_at 864 (by decide +kernel) rfl) (al_pr (y := (⟨"SubscriberLinesModel", "fill", "(IIIIIII)V"⟩, _)) 37 rfl) (al_at 12 (by decide +kernel) rfl) (al_at 865 (by decide +kernel) rfl) ⟨by decide, by decide, by decide +kernel⟩ hR
theorem og_mo_114_p {p : Program} {l : Launch} {e : Env} {R : Room} {s : State} {m : MethodId} {args : Array Value} {below : List Frame} {meth : Method} {c : Code} {cc : ByteArray} {nL : Nat} {ad : Nat → Nat} {D : va_G} {g : Nat → ClassId} {B : Nat} (X : ox_C p s m args c cc nL "SubscriberLinesModel" D g ad B) : rx_OK p l e R s m args below meth c cc nL ad (mx_W D g ad B s.heap) mx_cs (.putfield 114) 3 2 (mpf) := oy_pf X (al_at 714 (by decide +kernel) rfl)
theorem ok_mo_sendOff : rx_okF prog_12_method_4_code 7 none L_mo_sendOff 0 L_mo_sendOff = true := by decide +kernel
theorem V_mo_sendOff {l : Launch} {D : va_G} {g : Nat → ClassId} {ad : Nat → Nat} {B : Nat} (had : mx_A ad B) : rx_V l D g ad B ⟨"SubscriberLinesModel", "sendOff", "(IIIIII)V"⟩ prog_12_method_4_code 7 none 1 28 K_mo_sendOff := by
  intro av x hp
  obtain ⟨a0, a1, a2, a3, a4, a5, a6, rfl⟩ := k_RIIIIII_inv hp
  have hp : a0 = 82 := hp
  have h0 : a0 = 82 := hp
  subst h0
  exact rx_met (k := 0) had (by decide) (Nat.le_of_ble_eq_true rfl) ok_mo_sendOff rfl rfl 26 (fun p e s m args below meth c X => And.intro (og_mo_114_g X) (And.intro (og_mo_114_g X) (And.intro (cv_mo_fill X (V_mo_fill had) (al_at 862 (by decide +kernel) rfl) ⟨by decide, by decide⟩) (And.intro (og_mo_114_g X) (And.intro (og_mo_114_p X) (trivial)))))) (S_mo_sendOff x.1 x.2 a1 a2 a3 a4 a5 a6 ) (E_mo_sendOff x.1 x.2 a1 a2 a3 a4 a5 a6)
def mo_trP (e n : Int32) : Prop := vp_in e 2 ∧ (¬ n < 0 → n.toInt < 1400)
theorem mo_ix {e n : Int32} (he : vp_in e 2) (h0 : 0 ≤ n.toInt) (h1 : n.toInt < 1400) : vp_in (1400 * e + n) 2800 := by
  rw [i_in] at he
  have he2 : e.toInt < 2 := he.2
  have e1 : (1400 * e).toInt = 1400 * e.toInt := i_mul (show _ ≤ 1400 * e.toInt by omega) (show 1400 * e.toInt < _ by omega)
  rw [i_in, i_add (by rw [e1]; omega) (by rw [e1]; omega), e1]
  omega
theorem mo_tr_ix {e n : Int32} (h : mo_trP e n) (hn : ¬ n < 0) : vp_in (1400 * e + n) 2800 := by
  have h1 := h.2 hn
  rw [i_lt, Int32.toInt_zero] at hn
  exact mo_ix h.1 (by omega) h1
def mo_transmit (m : mx_M) (a1 : Int32) (a2 : Int32) : mx_M :=
  if (Int32.ofNat m.2.1.val) < 40 then
    if a1 = 0 then
      if a2 < 0 then
        let m1 := mo_fill m (9 * (Int32.ofNat m.2.1.val)) 17 4 5 0 0 0
        let m2 := my_pi m1 85 (Int32.toNatClampNeg ((9 * (Int32.ofNat m1.2.1.val)) + 6)) (m1.1 106 (Int32.toNatClampNeg a1))
        if a2 < 0 then
          let m3 := my_pi m2 85 (Int32.toNatClampNeg ((9 * (Int32.ofNat m2.2.1.val)) + 7)) 0
          let m4 := my_pi m3 85 (Int32.toNatClampNeg ((9 * (Int32.ofNat m3.2.1.val)) + 8)) (m3.1 110 (Int32.toNatClampNeg a1))
          let m5 := my_pf m4 ((Int32.ofNat m4.2.1.val) + 1)
          m5
        else
          let m6 := my_pi m2 85 (Int32.toNatClampNeg ((9 * (Int32.ofNat m2.2.1.val)) + 7)) a2
          let m7 := my_pi m6 85 (Int32.toNatClampNeg ((9 * (Int32.ofNat m6.2.1.val)) + 8)) (m6.1 110 (Int32.toNatClampNeg a1))
          let m8 := my_pf m7 ((Int32.ofNat m7.2.1.val) + 1)
          m8
      else
        let m9 := mo_fill m (9 * (Int32.ofNat m.2.1.val)) (m.1 113 (Int32.toNatClampNeg ((1400 * a1) + a2))) 4 5 (m.1 114 (Int32.toNatClampNeg ((1400 * a1) + a2))) (m.1 115 (Int32.toNatClampNeg ((1400 * a1) + a2))) 0
        let m10 := my_pi m9 85 (Int32.toNatClampNeg ((9 * (Int32.ofNat m9.2.1.val)) + 6)) (m9.1 106 (Int32.toNatClampNeg a1))
        if a2 < 0 then
          let m11 := my_pi m10 85 (Int32.toNatClampNeg ((9 * (Int32.ofNat m10.2.1.val)) + 7)) 0
          let m12 := my_pi m11 85 (Int32.toNatClampNeg ((9 * (Int32.ofNat m11.2.1.val)) + 8)) (m11.1 110 (Int32.toNatClampNeg a1))
          let m13 := my_pf m12 ((Int32.ofNat m12.2.1.val) + 1)
          m13
        else
          let m14 := my_pi m10 85 (Int32.toNatClampNeg ((9 * (Int32.ofNat m10.2.1.val)) + 7)) a2
          let m15 := my_pi m14 85 (Int32.toNatClampNeg ((9 * (Int32.ofNat m14.2.1.val)) + 8)) (m14.1 110 (Int32.toNatClampNeg a1))
          let m16 := my_pf m15 ((Int32.ofNat m15.2.1.val) + 1)
          m16
    else
      if a2 < 0 then
        let m17 := mo_fill m (9 * (Int32.ofNat m.2.1.val)) 17 5 4 0 0 0
        let m18 := my_pi m17 85 (Int32.toNatClampNeg ((9 * (Int32.ofNat m17.2.1.val)) + 6)) (m17.1 106 (Int32.toNatClampNeg a1))
        if a2 < 0 then
          let m19 := my_pi m18 85 (Int32.toNatClampNeg ((9 * (Int32.ofNat m18.2.1.val)) + 7)) 0
          let m20 := my_pi m19 85 (Int32.toNatClampNeg ((9 * (Int32.ofNat m19.2.1.val)) + 8)) (m19.1 110 (Int32.toNatClampNeg a1))
          let m21 := my_pf m20 ((Int32.ofNat m20.2.1.val) + 1)
          m21
        else
          let m22 := my_pi m18 85 (Int32.toNatClampNeg ((9 * (Int32.ofNat m18.2.1.val)) + 7)) a2
          let m23 := my_pi m22 85 (Int32.toNatClampNeg ((9 * (Int32.ofNat m22.2.1.val)) + 8)) (m22.1 110 (Int32.toNatClampNeg a1))
          let m24 := my_pf m23 ((Int32.ofNat m23.2.1.val) + 1)
          m24
      else
        let m25 := mo_fill m (9 * (Int32.ofNat m.2.1.val)) (m.1 113 (Int32.toNatClampNeg ((1400 * a1) + a2))) 5 4 (m.1 114 (Int32.toNatClampNeg ((1400 * a1) + a2))) (m.1 115 (Int32.toNatClampNeg ((1400 * a1) + a2))) 0
        let m26 := my_pi m25 85 (Int32.toNatClampNeg ((9 * (Int32.ofNat m25.2.1.val)) + 6)) (m25.1 106 (Int32.toNatClampNeg a1))
        if a2 < 0 then
          let m27 := my_pi m26 85 (Int32.toNatClampNeg ((9 * (Int32.ofNat m26.2.1.val)) + 7)) 0
          let m28 := my_pi m27 85 (Int32.toNatClampNeg ((9 * (Int32.ofNat m27.2.1.val)) + 8)) (m27.1 110 (Int32.toNatClampNeg a1))
          let m29 := my_pf m28 ((Int32.ofNat m28.2.1.val) + 1)
          m29
        else
          let m30 := my_pi m26 85 (Int32.toNatClampNeg ((9 * (Int32.ofNat m26.2.1.val)) + 7)) a2
          let m31 := my_pi m30 85 (Int32.toNatClampNeg ((9 * (Int32.ofNat m30.2.1.val)) + 8)) (m30.1 110 (Int32.toNatClampNeg a1))
          let m32 := my_pf m31 ((Int32.ofNat m31.2.1.val) + 1)
          m32
  else
    m
def K_mo_transmit : rx_K mx := k_RII (fun a0 a1 a2 c m => (a0 = 82 ∧ mo_trP a1 a2, (c, mo_transmit m a1 a2), none))
def L_mo_transmit : List (rx_E mx) := [
  (0, .aload_n 0, 1, 0, 0, 0, [], kno),
  (1, .getfield 114, 3, 7, 1, 0, [], mgf),
  (4, .bipush 40, 2, 0, 0, 40, [], kno),
  (6, .if_icmp .lt 4, 3, 2, 5, 0, [], kno),
  (9, .return_, 1, 6, 0, 0, [], kno),
  (10, .sipush 1400, 3, 0, 0, 1400, [], kno),
  (13, .iload_n 1, 1, 0, 1, 0, [], kno),
  (14, .imul, 1, 0, 0, 0, [], kno),
  (15, .iload_n 2, 1, 0, 2, 0, [], kno),
  (16, .iadd, 1, 0, 0, 0, [], kno),
  (17, .istore_n 3, 1, 0, 3, 0, [], kno),
  (18, .iload_n 1, 1, 0, 1, 0, [], kno),
  (19, .ifCond .ne 7, 3, 2, 15, 0, [], kno),
  (22, .iconst 4, 1, 0, 0, 4, [], kno),
  (23, .goto 4, 3, 1, 16, 0, [], kno),
  (26, .iconst 5, 1, 0, 0, 5, [], kno),
  (27, .istore 4, 2, 0, 4, 0, [], kno),
  (29, .iload_n 2, 1, 0, 2, 0, [], kno),
  (30, .ifCond .ge 29, 3, 2, 34, 0, [], kno),
  (33, .aload_n 0, 1, 0, 0, 0, [], kno),
  (34, .bipush 9, 2, 0, 0, 9, [], kno),
  (36, .aload_n 0, 1, 0, 0, 0, [], kno),
  (37, .getfield 114, 3, 7, 1, 0, [], mgf),
  (40, .imul, 1, 0, 0, 0, [], kno),
  (41, .bipush 17, 2, 0, 0, 17, [], kno),
  (43, .iload 4, 2, 0, 4, 0, [], kno),
  (45, .bipush 9, 2, 0, 0, 9, [], kno),
  (47, .iload 4, 2, 0, 4, 0, [], kno),
  (49, .isub, 1, 0, 0, 0, [], kno),
  (50, .iconst 0, 1, 0, 0, 0, [], kno),
  (51, .iconst 0, 1, 0, 0, 0, [], kno),
  (52, .iconst 0, 1, 0, 0, 0, [], kno),
  (53, .invokevirtual 117, 3, 7, 8, 0, [], K_mo_fill),
  (56, .goto 40, 3, 1, 57, 0, [], kno),
  (59, .aload_n 0, 1, 0, 0, 0, [], kno),
  (60, .bipush 9, 2, 0, 0, 9, [], kno),
  (62, .aload_n 0, 1, 0, 0, 0, [], kno),
  (63, .getfield 114, 3, 7, 1, 0, [], mgf),
  (66, .imul, 1, 0, 0, 0, [], kno),
  (67, .aload_n 0, 1, 0, 0, 0, [], kno),
  (68, .getfield 101, 3, 7, 1, 0, [], mgr 113),
  (71, .iload_n 3, 1, 0, 3, 0, [], kno),
  (72, .iaload, 1, 7, 2, 0, [], mai),
  (73, .iload 4, 2, 0, 4, 0, [], kno),
  (75, .bipush 9, 2, 0, 0, 9, [], kno),
  (77, .iload 4, 2, 0, 4, 0, [], kno),
  (79, .isub, 1, 0, 0, 0, [], kno),
  (80, .aload_n 0, 1, 0, 0, 0, [], kno),
  (81, .getfield 104, 3, 7, 1, 0, [], mgr 114),
  (84, .iload_n 3, 1, 0, 3, 0, [], kno),
  (85, .iaload, 1, 7, 2, 0, [], mai),
  (86, .aload_n 0, 1, 0, 0, 0, [], kno),
  (87, .getfield 107, 3, 7, 1, 0, [], mgr 115),
  (90, .iload_n 3, 1, 0, 3, 0, [], kno),
  (91, .iaload, 1, 7, 2, 0, [], mai),
  (92, .iconst 0, 1, 0, 0, 0, [], kno),
  (93, .invokevirtual 117, 3, 7, 8, 0, [], K_mo_fill),
  (96, .aload_n 0, 1, 0, 0, 0, [], kno),
  (97, .getfield 17, 3, 7, 1, 0, [], mgr 85),
  (100, .bipush 9, 2, 0, 0, 9, [], kno),
  (102, .aload_n 0, 1, 0, 0, 0, [], kno),
  (103, .getfield 114, 3, 7, 1, 0, [], mgf),
  (106, .imul, 1, 0, 0, 0, [], kno),
  (107, .bipush 6, 2, 0, 0, 6, [], kno),
  (109, .iadd, 1, 0, 0, 0, [], kno),
  (110, .aload_n 0, 1, 0, 0, 0, [], kno),
  (111, .getfield 80, 3, 7, 1, 0, [], mgr 106),
  (114, .iload_n 1, 1, 0, 1, 0, [], kno),
  (115, .iaload, 1, 7, 2, 0, [], mai),
  (116, .iastore, 1, 7, 3, 0, [], mpa),
  (117, .aload_n 0, 1, 0, 0, 0, [], kno),
  (118, .getfield 17, 3, 7, 1, 0, [], mgr 85),
  (121, .bipush 9, 2, 0, 0, 9, [], kno),
  (123, .aload_n 0, 1, 0, 0, 0, [], kno),
  (124, .getfield 114, 3, 7, 1, 0, [], mgf),
  (127, .imul, 1, 0, 0, 0, [], kno),
  (128, .bipush 7, 2, 0, 0, 7, [], kno),
  (130, .iadd, 1, 0, 0, 0, [], kno),
  (131, .iload_n 2, 1, 0, 2, 0, [], kno),
  (132, .ifCond .ge 7, 3, 2, 82, 0, [], kno),
  (135, .iconst 0, 1, 0, 0, 0, [], kno),
  (136, .goto 4, 3, 1, 83, 0, [], kno),
  (139, .iload_n 2, 1, 0, 2, 0, [], kno),
  (140, .iastore, 1, 7, 3, 0, [], mpa),
  (141, .aload_n 0, 1, 0, 0, 0, [], kno),
  (142, .getfield 17, 3, 7, 1, 0, [], mgr 85),
  (145, .bipush 9, 2, 0, 0, 9, [], kno),
  (147, .aload_n 0, 1, 0, 0, 0, [], kno),
  (148, .getfield 114, 3, 7, 1, 0, [], mgf),
  (151, .imul, 1, 0, 0, 0, [], kno),
  (152, .bipush 8, 2, 0, 0, 8, [], kno),
  (154, .iadd, 1, 0, 0, 0, [], kno),
  (155, .aload_n 0, 1, 0, 0, 0, [], kno),
  (156, .getfield 92, 3, 7, 1, 0, [], mgr 110),
  (159, .iload_n 1, 1, 0, 1, 0, [], kno),
  (160, .iaload, 1, 7, 2, 0, [], mai),
  (161, .iastore, 1, 7, 3, 0, [], mpa),
  (162, .aload_n 0, 1, 0, 0, 0, [], kno),
  (163, .dup, 1, 0, 0, 0, [], kno),
  (164, .getfield 114, 3, 7, 1, 0, [], mgf),
  (167, .iconst 1, 1, 0, 0, 1, [], kno),
  (168, .iadd, 1, 0, 0, 0, [], kno),
  (169, .putfield 114, 3, 7, 2, 0, [], mpf),
  (172, .return_, 1, 6, 0, 0, [], kno)]
theorem E_mo_transmit (c : mx_C) (m : mx_M) (a1 : Int32) (a2 : Int32)  : rx_ev L_mo_transmit [] 106 L_mo_transmit (c, m) [some (.ref 82), some (.int a1), some (.int a2), none, none] [] = ry_v c (mo_transmit m a1 a2) :=
  rx_ite2 (f := ry_v c) (fun _ => rx_ite2 (f := ry_v c) (fun _ => rx_ite2 (f := ry_v c) (fun _ => rx_ite2 (f := ry_v c) (fun _ => rfl) (fun _ => rfl)) (fun _ => rx_ite2 (f := ry_v c) (fun _ => rfl) (fun _ => rfl))) (fun _ => rx_ite2 (f := ry_v c) (fun _ => rx_ite2 (f := ry_v c) (fun _ => rfl) (fun _ => rfl)) (fun _ => rx_ite2 (f := ry_v c) (fun _ => rfl) (fun _ => rfl)))) (fun _ => rfl)
theorem S_mo_transmit (c : mx_C) (m : mx_M) (a1 : Int32) (a2 : Int32) (ht2 : mo_trP a1 a2) : rx_sf L_mo_transmit [] 106 L_mo_transmit (c, m) [some (.ref 82), some (.int a1), some (.int a2), none, none] [] :=
  And.intro rfl (And.intro (fun h0 => And.intro (fun h1 => And.intro (fun h2 => And.intro rfl (And.intro (And.intro rfl (mo_fl h0).1) (And.intro rfl (And.intro rfl (And.intro rfl (And.intro ht2.1 (And.intro (mo_at_j (mo_fl h0).1 (by decide)) (And.intro rfl (And.intro rfl (And.intro (fun h3 => And.intro (mo_at_j (mo_fl h0).1 (by decide)) (And.intro rfl (And.intro rfl (And.intro rfl (And.intro ht2.1 (And.intro (mo_at_j (mo_fl h0).1 (by decide)) (And.intro rfl (And.intro (And.intro rfl (mo_fl h0).2) (trivial))))))))) (fun h3 => And.intro (mo_at_j (mo_fl h0).1 (by decide)) (And.intro rfl (And.intro rfl (And.intro rfl (And.intro ht2.1 (And.intro (mo_at_j (mo_fl h0).1 (by decide)) (And.intro rfl (And.intro (And.intro rfl (mo_fl h0).2) (trivial))))))))))))))))))) (fun h2 => And.intro rfl (And.intro rfl (And.intro (mo_tr_ix ht2 (by assumption)) (And.intro rfl (And.intro (mo_tr_ix ht2 (by assumption)) (And.intro rfl (And.intro (mo_tr_ix ht2 (by assumption)) (And.intro (And.intro rfl (mo_fl h0).1) (And.intro rfl (And.intro rfl (And.intro rfl (And.intro ht2.1 (And.intro (mo_at_j (mo_fl h0).1 (by decide)) (And.intro rfl (And.intro rfl (And.intro (fun h3 => And.intro (mo_at_j (mo_fl h0).1 (by decide)) (And.intro rfl (And.intro rfl (And.intro rfl (And.intro ht2.1 (And.intro (mo_at_j (mo_fl h0).1 (by decide)) (And.intro rfl (And.intro (And.intro rfl (mo_fl h0).2) (trivial))))))))) (fun h3 => And.intro (mo_at_j (mo_fl h0).1 (by decide)) (And.intro rfl (And.intro rfl (And.intro rfl (And.intro ht2.1 (And.intro (mo_at_j (mo_fl h0).1 (by decide)) (And.intro rfl (And.intro (And.intro rfl (mo_fl h0).2) (trivial)))))))))))))))))))))))))) (fun h1 => And.intro (fun h2 => And.intro rfl (And.intro (And.intro rfl (mo_fl h0).1) (And.intro rfl (And.intro rfl (And.intro rfl (And.intro ht2.1 (And.intro (mo_at_j (mo_fl h0).1 (by decide)) (And.intro rfl (And.intro rfl (And.intro (fun h3 => And.intro (mo_at_j (mo_fl h0).1 (by decide)) (And.intro rfl (And.intro rfl (And.intro rfl (And.intro ht2.1 (And.intro (mo_at_j (mo_fl h0).1 (by decide)) (And.intro rfl (And.intro (And.intro rfl (mo_fl h0).2) (trivial))))))))) (fun h3 => And.intro (mo_at_j (mo_fl h0).1 (by decide)) (And.intro rfl (And.intro rfl (And.intro rfl (And.intro ht2.1 (And.intro (mo_at_j (mo_fl h0).1 (by decide)) (And.intro rfl (And.intro (And.intro rfl (mo_fl h0).2) (trivial))))))))))))))))))) (fun h2 => And.intro rfl (And.intro rfl (And.intro (mo_tr_ix ht2 (by assumption)) (And.intro rfl (And.intro (mo_tr_ix ht2 (by assumption)) (And.intro rfl (And.intro (mo_tr_ix ht2 (by assumption)) (And.intro (And.intro rfl (mo_fl h0).1) (And.intro rfl (And.intro rfl (And.intro rfl (And.intro ht2.1 (And.intro (mo_at_j (mo_fl h0).1 (by decide)) (And.intro rfl (And.intro rfl (And.intro (fun h3 => And.intro (mo_at_j (mo_fl h0).1 (by decide)) (And.intro rfl (And.intro rfl (And.intro rfl (And.intro ht2.1 (And.intro (mo_at_j (mo_fl h0).1 (by decide)) (And.intro rfl (And.intro (And.intro rfl (mo_fl h0).2) (trivial))))))))) (fun h3 => And.intro (mo_at_j (mo_fl h0).1 (by decide)) (And.intro rfl (And.intro rfl (And.intro rfl (And.intro ht2.1 (And.intro (mo_at_j (mo_fl h0).1 (by decide)) (And.intro rfl (And.intro (And.intro rfl (mo_fl h0).2) (trivial))))))))))))))))))))))))))) (fun h0 => trivial))

theorem og_mo_101_g {p : Program} {l : Launch} {e : Env} {R : Room} {s : State} {m : MethodId} {args : Array Value} {below : List Frame} {meth : Method} {c : Code} {cc : ByteArray} {nL : Nat} {ad : Nat → Nat} {D : va_G} {g : Nat → ClassId} {B : Nat} (X : ox_C p s m args c cc nL "SubscriberLinesModel" D g ad B) : rx_OK p l e R s m args below meth c cc nL ad (mx_W D g ad B s.heap) mx_cs (.getfield 101) 3 1 (mgr 113) := oy_gr (k := 39) X (by decide) rfl (al_at 750 (by decide +kernel) rfl)
theorem og_mo_104_g {p : Program} {l : Launch} {e : Env} {R : Room} {s : State} {m : MethodId} {args : Array Value} {below : List Frame} {meth : Method} {c : Code} {cc : ByteArray} {nL : Nat} {ad : Nat → Nat} {D : va_G} {g : Nat → ClassId} {B : Nat} (X : ox_C p s m args c cc nL "SubscriberLinesModel" D g ad B) : rx_OK p l e R s m args below meth c cc nL ad (mx_W D g ad B s.heap) mx_cs (.getfield 104) 3 1 (mgr 114) := oy_gr (k := 40) X (by decide) rfl (al_at 751 (by decide +kernel) rfl)
theorem og_mo_107_g {p : Program} {l : Launch} {e : Env} {R : Room} {s : State} {m : MethodId} {args : Array Value} {below : List Frame} {meth : Method} {c : Code} {cc : ByteArray} {nL : Nat} {ad : Nat → Nat} {D : va_G} {g : Nat → ClassId} {B : Nat} (X : ox_C p s m args c cc nL "SubscriberLinesModel" D g ad B) : rx_OK p l e R s m args below meth c cc nL ad (mx_W D g ad B s.heap) mx_cs (.getfield 107) 3 1 (mgr 115) := oy_gr (k := 41) X (by decide) rfl (al_at 752 (by decide +kernel) rfl)
theorem og_mo_80_g {p : Program} {l : Launch} {e : Env} {R : Room} {s : State} {m : MethodId} {args : Array Value} {below : List Frame} {meth : Method} {c : Code} {cc : ByteArray} {nL : Nat} {ad : Nat → Nat} {D : va_G} {g : Nat → ClassId} {B : Nat} (X : ox_C p s m args c cc nL "SubscriberLinesModel" D g ad B) : rx_OK p l e R s m args below meth c cc nL ad (mx_W D g ad B s.heap) mx_cs (.getfield 80) 3 1 (mgr 106) := oy_gr (k := 32) X (by decide) rfl (al_at 743 (by decide +kernel) rfl)
theorem og_mo_92_g {p : Program} {l : Launch} {e : Env} {R : Room} {s : State} {m : MethodId} {args : Array Value} {below : List Frame} {meth : Method} {c : Code} {cc : ByteArray} {nL : Nat} {ad : Nat → Nat} {D : va_G} {g : Nat → ClassId} {B : Nat} (X : ox_C p s m args c cc nL "SubscriberLinesModel" D g ad B) : rx_OK p l e R s m args below meth c cc nL ad (mx_W D g ad B s.heap) mx_cs (.getfield 92) 3 1 (mgr 110) := oy_gr (k := 36) X (by decide) rfl (al_at 747 (by decide +kernel) rfl)
theorem ok_mo_transmit : rx_okF prog_12_method_5_code 5 none L_mo_transmit 0 L_mo_transmit = true := by decide +kernel
theorem V_mo_transmit {l : Launch} {D : va_G} {g : Nat → ClassId} {ad : Nat → Nat} {B : Nat} (had : mx_A ad B) : rx_V l D g ad B ⟨"SubscriberLinesModel", "transmit", "(II)V"⟩ prog_12_method_5_code 5 none 1 28 K_mo_transmit := by
  intro av x hp
  obtain ⟨a0, a1, a2, rfl⟩ := k_RII_inv hp
  have hp : a0 = 82 ∧ mo_trP a1 a2 := hp
  have h0 : a0 = 82 := hp.1
  subst h0
  exact rx_met (k := 2) had (by decide) (Nat.le_of_ble_eq_true rfl) ok_mo_transmit rfl rfl 106 (fun p e s m args below meth c X => And.intro (og_mo_114_g X) (And.intro (og_mo_114_g X) (And.intro (cv_mo_fill X (V_mo_fill had) (al_at 862 (by decide +kernel) rfl) ⟨by decide, by decide⟩) (And.intro (og_mo_114_g X) (And.intro (og_mo_101_g X) (And.intro (oy_ai X) (And.intro (og_mo_104_g X) (And.intro (oy_ai X) (And.intro (og_mo_107_g X) (And.intro (oy_ai X) (And.intro (cv_mo_fill X (V_mo_fill had) (al_at 862 (by decide +kernel) rfl) ⟨by decide, by decide⟩) (And.intro (og_mo_17_g X) (And.intro (og_mo_114_g X) (And.intro (og_mo_80_g X) (And.intro (oy_ai X) (And.intro (oy_pa X) (And.intro (og_mo_17_g X) (And.intro (og_mo_114_g X) (And.intro (oy_pa X) (And.intro (og_mo_17_g X) (And.intro (og_mo_114_g X) (And.intro (og_mo_92_g X) (And.intro (oy_ai X) (And.intro (oy_pa X) (And.intro (og_mo_114_g X) (And.intro (og_mo_114_p X) (trivial))))))))))))))))))))))))))) (S_mo_transmit x.1 x.2 a1 a2 hp.2) (E_mo_transmit x.1 x.2 a1 a2)
end
section
def mo_toP (m : mx_M) (k : Int32) : Prop := 0 ≤ k.toInt ∧ k.toInt < (m.2.1.val : Int)
theorem mo_to1 {m : mx_M} {k : Int32} (h : mo_toP m k) : vp_in (Int32.ofNat m.2.1.val - 1) 41 ∧ (my_pf m (Int32.ofNat m.2.1.val - 1)).2.1.val ≤ 39 ∧ 0 ≤ (9 * k).toInt ∧ (9 * k).toInt ≤ 360 := by
  have hq := m.2.1.isLt
  unfold mo_toP at h
  have e : (Int32.ofNat m.2.1.val - 1).toInt = (m.2.1.val : Int) - 1 := by
    rw [i_sub, i_of _ (by omega)]
    · rfl
    · rw [i_of _ (by omega)]; show _ ≤ (m.2.1.val : Int) - 1; omega
    · rw [i_of _ (by omega)]; show (m.2.1.val : Int) - 1 < _; omega
  have e2 : (9 * k).toInt = 9 * k.toInt := i_mul (show _ ≤ 9 * k.toInt by omega) (show 9 * k.toInt < _ by omega)
  have e3 := i_cl (Int32.ofNat m.2.1.val - 1)
  rw [e, if_pos (by omega)] at e3
  refine ⟨by rw [i_in, e]; omega, ?_, by rw [e2]; omega, by rw [e2]; omega⟩
  show (Int32.ofNat m.2.1.val - 1).toNatClampNeg % 41 ≤ 39
  rw [Nat.mod_eq_of_lt (by omega)]
  omega
abbrev mo_toQ (n : Nat) (v : Int32) (q : Fin 41) : Prop := 0 ≤ v.toInt ∧ v.toInt ≤ 360 ∧ 360 < (n : Int) + v.toInt ∧ q.val ≤ 39
theorem mo_toQ1 {n : Nat} {v : Int32} {q : Fin 41} (h : v < 9 * Int32.ofNat q.val) (hP : mo_toQ (n + 1) v q) : (vp_in v 360 ∧ vp_in (v + 9) 360) ∧ mo_toQ n (v + 1) q := by
  rw [i_lt, mo_nine] at h
  obtain ⟨p1, p2, p3, p4⟩ := hP
  have e : (v + 1).toInt = v.toInt + 1 := i_add (show _ ≤ v.toInt + 1 by omega) (show v.toInt + 1 < _ by omega)
  have e9 : (v + 9).toInt = v.toInt + 9 := i_add (show _ ≤ v.toInt + 9 by omega) (show v.toInt + 9 < _ by omega)
  refine ⟨⟨by rw [i_in]; omega, by rw [i_in, e9]; omega⟩, ?_⟩
  unfold mo_toQ
  rw [e]
  omega
def mo_takeOut_15 : Nat → mx_M → Int32 → Int32 → mx_M
  | 0, m, _, _ => m
  | n + 1, m, v1, v2 =>
    if v2 < (9 * (Int32.ofNat m.2.1.val)) then
      let m1 := my_pi m 85 (Int32.toNatClampNeg v2) (m.1 85 (Int32.toNatClampNeg (v2 + 9)))
      mo_takeOut_15 n m1 v1 (v2 + 1)
    else
      m
def mo_takeOut (m : mx_M) (a1 : Int32) : mx_M :=
  let m1 := my_pf m ((Int32.ofNat m.2.1.val) - 1)
  mo_takeOut_15 (362) m1 a1 (9 * a1)
def K_mo_takeOut : rx_K mx := k_RI (fun a0 a1 c m => (a0 = 82 ∧ mo_toP m a1, (c, mo_takeOut m a1), none))
def L_mo_takeOut : List (rx_E mx) := [
  (0, .aload_n 0, 1, 0, 0, 0, [], kno),
  (1, .dup, 1, 0, 0, 0, [], kno),
  (2, .getfield 114, 3, 7, 1, 0, [], mgf),
  (5, .iconst 1, 1, 0, 0, 1, [], kno),
  (6, .isub, 1, 0, 0, 0, [], kno),
  (7, .putfield 114, 3, 7, 2, 0, [], mpf),
  (10, .bipush 9, 2, 0, 0, 9, [], kno),
  (12, .iload_n 1, 1, 0, 1, 0, [], kno),
  (13, .imul, 1, 0, 0, 0, [], kno),
  (14, .istore_n 2, 1, 0, 2, 0, [], kno),
  (15, .iload_n 2, 1, 0, 2, 0, [], kno),
  (16, .bipush 9, 2, 0, 0, 9, [], kno),
  (18, .aload_n 0, 1, 0, 0, 0, [], kno),
  (19, .getfield 114, 3, 7, 1, 0, [], mgf),
  (22, .imul, 1, 0, 0, 0, [], kno),
  (23, .if_icmp .ge 24, 3, 2, 28, 0, [], kno),
  (26, .aload_n 0, 1, 0, 0, 0, [], kno),
  (27, .getfield 17, 3, 7, 1, 0, [], mgr 85),
  (30, .iload_n 2, 1, 0, 2, 0, [], kno),
  (31, .aload_n 0, 1, 0, 0, 0, [], kno),
  (32, .getfield 17, 3, 7, 1, 0, [], mgr 85),
  (35, .iload_n 2, 1, 0, 2, 0, [], kno),
  (36, .bipush 9, 2, 0, 0, 9, [], kno),
  (38, .iadd, 1, 0, 0, 0, [], kno),
  (39, .iaload, 1, 7, 2, 0, [], mai),
  (40, .iastore, 1, 7, 3, 0, [], mpa),
  (41, .iinc 2 1, 3, 0, 2, 1, [], kno),
  (44, .goto (-29), 3, 1, 10, 0, [], kno),
  (47, .return_, 1, 6, 0, 0, [], kno)]
def G_mo_takeOut (n : Nat) : rx_G := fun x ls st =>
  match ls, st with
  | [some (.ref r0), some (.int v1), some (.int v2)], [] => (r0 = 82 ∧ mo_toQ n v2 x.2.2.1, ry_v x.1 (mo_takeOut_15 n x.2 v1 v2))
  | _, _ => (False, (x, none))
theorem GI_mo_takeOut {n : Nat} {x : mx} {ls : rx_L} {st : List Value} (h : (G_mo_takeOut n x ls st).1) : ∃ (r0 : Nat) (v1 : Int32) (v2 : Int32), ls = [some (.ref r0), some (.int v1), some (.int v2)] ∧ st = [] ∧ r0 = 82 ∧ mo_toQ n v2 x.2.2.1 := by
  unfold G_mo_takeOut at h
  split at h
  · exact ⟨_, _, _, rfl, rfl, h⟩
  · exact False.elim h
theorem EH_mo_takeOut (n : Nat) (c : mx_C) (m : mx_M) (v1 : Int32) (v2 : Int32) : rx_ev L_mo_takeOut [(15, G_mo_takeOut n)] 31 (L_mo_takeOut.drop 10) (c, m) [some (.ref 82), some (.int v1), some (.int v2)] [] = ry_v c (mo_takeOut_15 (n + 1) m v1 v2) :=
  rx_ite2 (f := ry_v c) (fun _ => rfl) (fun _ => rfl)
theorem SH_mo_takeOut (n : Nat) (c : mx_C) (m : mx_M) (v1 : Int32) (v2 : Int32) (hP : mo_toQ (n + 1) v2 m.2.1) : rx_sf L_mo_takeOut [(15, G_mo_takeOut n)] 31 (L_mo_takeOut.drop 10) (c, m) [some (.ref 82), some (.int v1), some (.int v2)] [] :=
  And.intro rfl (And.intro (fun h0 => And.intro rfl (And.intro rfl (And.intro (mo_toQ1 h0 hP).1.2 (And.intro (mo_toQ1 h0 hP).1.1 (And.intro rfl (mo_toQ1 h0 hP).2))))) (fun h0 => trivial))
theorem E_mo_takeOut (c : mx_C) (m : mx_M) (a1 : Int32)  : rx_ev L_mo_takeOut [(15, G_mo_takeOut (362))] 31 L_mo_takeOut (c, m) [some (.ref 82), some (.int a1), none] [] = ry_v c (mo_takeOut m a1) :=
  rfl
theorem S_mo_takeOut (c : mx_C) (m : mx_M) (a1 : Int32) (hk2 : mo_toP m a1) : rx_sf L_mo_takeOut [(15, G_mo_takeOut (362))] 31 L_mo_takeOut (c, m) [some (.ref 82), some (.int a1), none] [] :=
  And.intro rfl (And.intro (And.intro rfl (mo_to1 hk2).1) (And.intro rfl (And.intro (mo_to1 hk2).2.2.1 (And.intro (mo_to1 hk2).2.2.2 (And.intro (by have := (mo_to1 hk2).2.2.1; omega) (mo_to1 hk2).2.1)))))
theorem ok_mo_takeOut : rx_okF prog_12_method_6_code 3 none L_mo_takeOut 0 L_mo_takeOut = true := by decide +kernel
theorem O_mo_takeOut {l : Launch} {D : va_G} {g : Nat → ClassId} {ad : Nat → Nat} {B : Nat} (had : mx_A ad B) {p : Program} {e : Env} {s : State} {m : MethodId} {args : Array Value} {below : List Frame} {meth : Method} {c : Code} (X : ox_C p s m args c prog_12_method_6_code 3 "SubscriberLinesModel" D g ad B) : rx_ops p l e ({ frames := 0, cells := 0, slots := 0, locals := 0 } : Room) s m args below meth c prog_12_method_6_code 3 ad (mx_W D g ad B s.heap) mx_cs L_mo_takeOut :=
  And.intro (og_mo_114_g X) (And.intro (og_mo_114_p X) (And.intro (og_mo_114_g X) (And.intro (og_mo_17_g X) (And.intro (og_mo_17_g X) (And.intro (oy_ai X) (And.intro (oy_pa X) (trivial)))))))
theorem V_mo_takeOut {l : Launch} {D : va_G} {g : Nat → ClassId} {ad : Nat → Nat} {B : Nat} (had : mx_A ad B) : rx_V l D g ad B ⟨"SubscriberLinesModel", "takeOut", "(I)V"⟩ prog_12_method_6_code 3 none 0 0 K_mo_takeOut := by
  intro av x hp
  obtain ⟨a0, a1, rfl⟩ := k_RI_inv hp
  have hp : a0 = 82 ∧ mo_toP x.2 a1 := hp
  have h0 : a0 = 82 := hp.1
  subst h0
  refine rx_metX (k := 1) had (by decide) (Nat.le_of_ble_eq_true rfl) fun p e s m args below meth c X hr hlk => ?_
  refine rx_walk X hr hlk ok_mo_takeOut (O_mo_takeOut had X) (cut := [(15, G_mo_takeOut (362))]) (rx_cc ?_ rx_c0) 31 0 rfl (S_mo_takeOut x.1 x.2 a1 hp.2) (E_mo_takeOut x.1 x.2 a1 )
  refine rx_loop (G := G_mo_takeOut) X hr hlk ok_mo_takeOut (O_mo_takeOut had X) rx_c0 31 10 rfl (fun x ls st h => ?_) (fun n x ls st h => ?_) _
  · obtain ⟨r0, v1, v2, -, -, h3⟩ := GI_mo_takeOut h
    have h4 := h3.2
    omega
  · obtain ⟨r0, v1, v2, rfl, rfl, h3⟩ := GI_mo_takeOut h
    obtain ⟨rfl, hP⟩ := h3
    exact ⟨SH_mo_takeOut n x.1 x.2 v1 v2 hP, EH_mo_takeOut n x.1 x.2 v1 v2⟩
def mo_clear (m : mx_M) (a1 : Int32) (a2 : Int32) : mx_M :=
  let m1 := my_pi m 106 (Int32.toNatClampNeg a1) a2
  let m2 := my_pi m1 107 (Int32.toNatClampNeg a1) 0
  let m3 := my_pi m2 108 (Int32.toNatClampNeg a1) 0
  let m4 := my_pi m3 109 (Int32.toNatClampNeg a1) 0
  let m5 := my_pi m4 110 (Int32.toNatClampNeg a1) 0
  let m6 := my_pi m5 111 (Int32.toNatClampNeg a1) 0
  let m7 := my_pi m6 112 (Int32.toNatClampNeg a1) 0
  m7
def K_mo_clear : rx_K mx := k_RII (fun a0 a1 a2 c m => (a0 = 82 ∧ vp_in a1 2, (c, mo_clear m a1 a2), none))
def L_mo_clear : List (rx_E mx) := [
  (0, .aload_n 0, 1, 0, 0, 0, [], kno),
  (1, .getfield 80, 3, 7, 1, 0, [], mgr 106),
  (4, .iload_n 1, 1, 0, 1, 0, [], kno),
  (5, .iload_n 2, 1, 0, 2, 0, [], kno),
  (6, .iastore, 1, 7, 3, 0, [], mpa),
  (7, .aload_n 0, 1, 0, 0, 0, [], kno),
  (8, .getfield 83, 3, 7, 1, 0, [], mgr 107),
  (11, .iload_n 1, 1, 0, 1, 0, [], kno),
  (12, .iconst 0, 1, 0, 0, 0, [], kno),
  (13, .iastore, 1, 7, 3, 0, [], mpa),
  (14, .aload_n 0, 1, 0, 0, 0, [], kno),
  (15, .getfield 86, 3, 7, 1, 0, [], mgr 108),
  (18, .iload_n 1, 1, 0, 1, 0, [], kno),
  (19, .iconst 0, 1, 0, 0, 0, [], kno),
  (20, .iastore, 1, 7, 3, 0, [], mpa),
  (21, .aload_n 0, 1, 0, 0, 0, [], kno),
  (22, .getfield 89, 3, 7, 1, 0, [], mgr 109),
  (25, .iload_n 1, 1, 0, 1, 0, [], kno),
  (26, .iconst 0, 1, 0, 0, 0, [], kno),
  (27, .iastore, 1, 7, 3, 0, [], mpa),
  (28, .aload_n 0, 1, 0, 0, 0, [], kno),
  (29, .getfield 92, 3, 7, 1, 0, [], mgr 110),
  (32, .iload_n 1, 1, 0, 1, 0, [], kno),
  (33, .iconst 0, 1, 0, 0, 0, [], kno),
  (34, .iastore, 1, 7, 3, 0, [], mpa),
  (35, .aload_n 0, 1, 0, 0, 0, [], kno),
  (36, .getfield 95, 3, 7, 1, 0, [], mgr 111),
  (39, .iload_n 1, 1, 0, 1, 0, [], kno),
  (40, .iconst 0, 1, 0, 0, 0, [], kno),
  (41, .iastore, 1, 7, 3, 0, [], mpa),
  (42, .aload_n 0, 1, 0, 0, 0, [], kno),
  (43, .getfield 98, 3, 7, 1, 0, [], mgr 112),
  (46, .iload_n 1, 1, 0, 1, 0, [], kno),
  (47, .iconst 0, 1, 0, 0, 0, [], kno),
  (48, .iastore, 1, 7, 3, 0, [], mpa),
  (49, .return_, 1, 6, 0, 0, [], kno)]
theorem E_mo_clear (c : mx_C) (m : mx_M) (a1 : Int32) (a2 : Int32)  : rx_ev L_mo_clear [] 38 L_mo_clear (c, m) [some (.ref 82), some (.int a1), some (.int a2)] [] = ry_v c (mo_clear m a1 a2) :=
  rfl
theorem S_mo_clear (c : mx_C) (m : mx_M) (a1 : Int32) (a2 : Int32) (he : vp_in a1 2) : rx_sf L_mo_clear [] 38 L_mo_clear (c, m) [some (.ref 82), some (.int a1), some (.int a2)] [] :=
  And.intro rfl (And.intro he (And.intro rfl (And.intro he (And.intro rfl (And.intro he (And.intro rfl (And.intro he (And.intro rfl (And.intro he (And.intro rfl (And.intro he (And.intro rfl (And.intro he (trivial))))))))))))))

theorem og_mo_83_g {p : Program} {l : Launch} {e : Env} {R : Room} {s : State} {m : MethodId} {args : Array Value} {below : List Frame} {meth : Method} {c : Code} {cc : ByteArray} {nL : Nat} {ad : Nat → Nat} {D : va_G} {g : Nat → ClassId} {B : Nat} (X : ox_C p s m args c cc nL "SubscriberLinesModel" D g ad B) : rx_OK p l e R s m args below meth c cc nL ad (mx_W D g ad B s.heap) mx_cs (.getfield 83) 3 1 (mgr 107) := oy_gr (k := 33) X (by decide) rfl (al_at 744 (by decide +kernel) rfl)
theorem og_mo_86_g {p : Program} {l : Launch} {e : Env} {R : Room} {s : State} {m : MethodId} {args : Array Value} {below : List Frame} {meth : Method} {c : Code} {cc : ByteArray} {nL : Nat} {ad : Nat → Nat} {D : va_G} {g : Nat → ClassId} {B : Nat} (X : ox_C p s m args c cc nL "SubscriberLinesModel" D g ad B) : rx_OK p l e R s m args below meth c cc nL ad (mx_W D g ad B s.heap) mx_cs (.getfield 86) 3 1 (mgr 108) := oy_gr (k := 34) X (by decide) rfl (al_at 745 (by decide +kernel) rfl)
theorem og_mo_89_g {p : Program} {l : Launch} {e : Env} {R : Room} {s : State} {m : MethodId} {args : Array Value} {below : List Frame} {meth : Method} {c : Code} {cc : ByteArray} {nL : Nat} {ad : Nat → Nat} {D : va_G} {g : Nat → ClassId} {B : Nat} (X : ox_C p s m args c cc nL "SubscriberLinesModel" D g ad B) : rx_OK p l e R s m args below meth c cc nL ad (mx_W D g ad B s.heap) mx_cs (.getfield 89) 3 1 (mgr 109) := oy_gr (k := 35) X (by decide) rfl (al_at 746 (by decide +kernel) rfl)
theorem og_mo_95_g {p : Program} {l : Launch} {e : Env} {R : Room} {s : State} {m : MethodId} {args : Array Value} {below : List Frame} {meth : Method} {c : Code} {cc : ByteArray} {nL : Nat} {ad : Nat → Nat} {D : va_G} {g : Nat → ClassId} {B : Nat} (X : ox_C p s m args c cc nL "SubscriberLinesModel" D g ad B) : rx_OK p l e R s m args below meth c cc nL ad (mx_W D g ad B s.heap) mx_cs (.getfield 95) 3 1 (mgr 111) := oy_gr (k := 37) X (by decide) rfl (al_at 748 (by decide +kernel) rfl)
theorem og_mo_98_g {p : Program} {l : Launch} {e : Env} {R : Room} {s : State} {m : MethodId} {args : Array Value} {below : List Frame} {meth : Method} {c : Code} {cc : ByteArray} {nL : Nat} {ad : Nat → Nat} {D : va_G} {g : Nat → ClassId} {B : Nat} (X : ox_C p s m args c cc nL "SubscriberLinesModel" D g ad B) : rx_OK p l e R s m args below meth c cc nL ad (mx_W D g ad B s.heap) mx_cs (.getfield 98) 3 1 (mgr 112) := oy_gr (k := 38) X (by decide) rfl (al_at 749 (by decide +kernel) rfl)
theorem ok_mo_clear : rx_okF prog_12_method_7_code 3 none L_mo_clear 0 L_mo_clear = true := by decide +kernel
theorem V_mo_clear {l : Launch} {D : va_G} {g : Nat → ClassId} {ad : Nat → Nat} {B : Nat} (had : mx_A ad B) : rx_V l D g ad B ⟨"SubscriberLinesModel", "clear", "(II)V"⟩ prog_12_method_7_code 3 none 0 0 K_mo_clear := by
  intro av x hp
  obtain ⟨a0, a1, a2, rfl⟩ := k_RII_inv hp
  have hp : a0 = 82 ∧ vp_in a1 2 := hp
  have h0 : a0 = 82 := hp.1
  subst h0
  exact rx_met (k := 0) had (by decide) (Nat.le_of_ble_eq_true rfl) ok_mo_clear rfl rfl 38 (fun p e s m args below meth c X => And.intro (og_mo_80_g X) (And.intro (oy_pa X) (And.intro (og_mo_83_g X) (And.intro (oy_pa X) (And.intro (og_mo_86_g X) (And.intro (oy_pa X) (And.intro (og_mo_89_g X) (And.intro (oy_pa X) (And.intro (og_mo_92_g X) (And.intro (oy_pa X) (And.intro (og_mo_95_g X) (And.intro (oy_pa X) (And.intro (og_mo_98_g X) (And.intro (oy_pa X) (trivial))))))))))))))) (S_mo_clear x.1 x.2 a1 a2 hp.2) (E_mo_clear x.1 x.2 a1 a2)
/-- what sending leaves alone on the model's side: all but the row of packets and their count -/
def fy (m m' : mx_M) : Prop := m'.2.2 = m.2.2 ∧ ∀ i : Nat, ¬ i = 85 → m'.1 i = m.1 i
theorem fy_rf (m : mx_M) : fy m m := ⟨rfl, fun _ _ => rfl⟩
theorem fy_tr {a b c : mx_M} (h1 : fy a b) (h2 : fy b c) : fy a c := ⟨h2.1.trans h1.1, fun i hi => (h2.2 i hi).trans (h1.2 i hi)⟩
theorem fy_pi (m : mx_M) (k : Nat) (v : Int32) : fy m (my_pi m 85 k v) := ⟨rfl, fun _ hi => mx_up_row _ _ _ _ hi⟩
theorem fy_pf (m : mx_M) (v : Int32) : fy m (my_pf m v) := ⟨rfl, fun _ _ => rfl⟩
theorem fy_fillL (a1 a2 a3 a4 a5 a6 a7 : Int32) : ∀ (n : Nat) (m : mx_M) (v : Int32), fy m (mo_fill_60 n m a1 a2 a3 a4 a5 a6 a7 v) := by
  intro n
  induction n with
  | zero => intro m v; exact fy_rf m
  | succ n ih =>
    intro m v
    unfold mo_fill_60
    split
    · exact fy_tr (fy_pi _ _ _) (ih _ _)
    · exact fy_rf m
theorem fy_fill (m : mx_M) (a1 a2 a3 a4 a5 a6 a7 : Int32) : fy m (mo_fill m a1 a2 a3 a4 a5 a6 a7) := by
  unfold mo_fill
  exact fy_tr (fy_tr (fy_tr (fy_tr (fy_tr (fy_tr (fy_pi _ _ _) (fy_pi _ _ _)) (fy_pi _ _ _)) (fy_pi _ _ _)) (fy_pi _ _ _)) (fy_pi _ _ _)) (fy_fillL _ _ _ _ _ _ _ _ _ _)
theorem fy_sendOff (m : mx_M) (a1 a2 a3 a4 a5 a6 : Int32) : fy m (mo_sendOff m a1 a2 a3 a4 a5 a6) := by
  unfold mo_sendOff
  split
  · exact fy_tr (fy_fill _ _ _ _ _ _ _ _) (fy_pf _ _)
  · exact fy_rf m
theorem fy_transmit (m : mx_M) (e n : Int32) : fy m (mo_transmit m e n) := by
  unfold mo_transmit
  split
  · dsimp only
    repeat' split
    all_goals exact fy_tr (fy_tr (fy_tr (fy_tr (fy_fill _ _ _ _ _ _ _ _) (fy_pi _ _ _)) (fy_pi _ _ _)) (fy_pi _ _ _)) (fy_pf _ _)
  · exact fy_rf m
/-- bounds of an end's numbers -/
def mo_so (m : mx_M) (e : Int32) : Prop := vp_in e 2 ∧ 0 ≤ (m.1 108 e.toNatClampNeg).toInt ∧ (m.1 109 e.toNatClampNeg).toInt ≤ 1400
abbrev mo_soQ (n : Nat) (m : mx_M) (e : Int32) : Prop := mo_so m e ∧ (m.1 109 e.toNatClampNeg).toInt - (m.1 108 e.toNatClampNeg).toInt < (n : Int) ∧ 0 < n
theorem mo_so_tr {m : mx_M} {e : Int32} (h : mo_so m e) (h1 : m.1 108 e.toNatClampNeg < m.1 109 e.toNatClampNeg) : mo_trP e (m.1 108 e.toNatClampNeg) := by
  rw [i_lt] at h1
  exact ⟨h.1, fun _ => by have := h.2.2; omega⟩
theorem mo_soQ1 {n : Nat} {m m' : mx_M} {e : Int32} {v : Int32} (hf : fy m m') (hv : v = m'.1 108 e.toNatClampNeg + 1) (h : mo_soQ (n + 1) m e) (h1 : m.1 108 e.toNatClampNeg < m.1 109 e.toNatClampNeg) : mo_soQ n (my_pi m' 108 e.toNatClampNeg v) e := by
  obtain ⟨⟨p1, p2, p3⟩, p4, p5⟩ := h
  rw [i_lt] at h1
  have e8 : m'.1 108 = m.1 108 := hf.2 108 (by decide)
  have e9 : m'.1 109 = m.1 109 := hf.2 109 (by decide)
  have x8 : (my_pi m' 108 e.toNatClampNeg v).1 108 e.toNatClampNeg = v := mx_up_eq _ _ _ _
  have x9 : (my_pi m' 108 e.toNatClampNeg v).1 109 e.toNatClampNeg = m.1 109 e.toNatClampNeg := by
    show mx_up m'.1 108 e.toNatClampNeg v 109 e.toNatClampNeg = _
    rw [mx_up_ne _ _ (fun q => by omega), e9]
  have ev : v.toInt = (m.1 108 e.toNatClampNeg).toInt + 1 := by
    rw [hv, e8]
    exact i_add (show _ ≤ (m.1 108 e.toNatClampNeg).toInt + 1 by omega) (show (m.1 108 e.toNatClampNeg).toInt + 1 < _ by have := i_rng (m.1 109 e.toNatClampNeg); omega)
  refine ⟨⟨p1, ?_, ?_⟩, ?_, by omega⟩
  · rw [x8, ev]; omega
  · rw [x9]; exact p3
  · rw [x8, x9, ev]; omega
def mo_sendOpen_0 : Nat → mx_M → Int32 → mx_M
  | 0, m, _ => m
  | n + 1, m, v1 =>
    if (m.1 108 (Int32.toNatClampNeg v1)) < (m.1 109 (Int32.toNatClampNeg v1)) then
      if (m.1 108 (Int32.toNatClampNeg v1)) < ((m.1 107 (Int32.toNatClampNeg v1)) + 3) then
        let m1 := mo_transmit m v1 (m.1 108 (Int32.toNatClampNeg v1))
        let m2 := my_pi m1 108 (Int32.toNatClampNeg v1) ((m1.1 108 (Int32.toNatClampNeg v1)) + 1)
        mo_sendOpen_0 n m2 v1
      else
        m
    else
      m
def mo_sendOpen (m : mx_M) (a1 : Int32) : mx_M :=
  if (m.1 108 (Int32.toNatClampNeg a1)) < (m.1 109 (Int32.toNatClampNeg a1)) then
    if (m.1 108 (Int32.toNatClampNeg a1)) < ((m.1 107 (Int32.toNatClampNeg a1)) + 3) then
      let m1 := mo_transmit m a1 (m.1 108 (Int32.toNatClampNeg a1))
      let m2 := my_pi m1 108 (Int32.toNatClampNeg a1) ((m1.1 108 (Int32.toNatClampNeg a1)) + 1)
      mo_sendOpen_0 (1402) m2 a1
    else
      m
  else
    m
def K_mo_sendOpen : rx_K mx := k_RI (fun a0 a1 c m => (a0 = 82 ∧ mo_so m a1, (c, mo_sendOpen m a1), none))
def L_mo_sendOpen : List (rx_E mx) := [
  (0, .aload_n 0, 1, 0, 0, 0, [], kno),
  (1, .getfield 86, 3, 7, 1, 0, [], mgr 108),
  (4, .iload_n 1, 1, 0, 1, 0, [], kno),
  (5, .iaload, 1, 7, 2, 0, [], mai),
  (6, .aload_n 0, 1, 0, 0, 0, [], kno),
  (7, .getfield 89, 3, 7, 1, 0, [], mgr 109),
  (10, .iload_n 1, 1, 0, 1, 0, [], kno),
  (11, .iaload, 1, 7, 2, 0, [], mai),
  (12, .if_icmp .ge 44, 3, 2, 36, 0, [], kno),
  (15, .aload_n 0, 1, 0, 0, 0, [], kno),
  (16, .getfield 86, 3, 7, 1, 0, [], mgr 108),
  (19, .iload_n 1, 1, 0, 1, 0, [], kno),
  (20, .iaload, 1, 7, 2, 0, [], mai),
  (21, .aload_n 0, 1, 0, 0, 0, [], kno),
  (22, .getfield 83, 3, 7, 1, 0, [], mgr 107),
  (25, .iload_n 1, 1, 0, 1, 0, [], kno),
  (26, .iaload, 1, 7, 2, 0, [], mai),
  (27, .iconst 3, 1, 0, 0, 3, [], kno),
  (28, .iadd, 1, 0, 0, 0, [], kno),
  (29, .if_icmp .ge 27, 3, 2, 36, 0, [], kno),
  (32, .aload_n 0, 1, 0, 0, 0, [], kno),
  (33, .iload_n 1, 1, 0, 1, 0, [], kno),
  (34, .aload_n 0, 1, 0, 0, 0, [], kno),
  (35, .getfield 86, 3, 7, 1, 0, [], mgr 108),
  (38, .iload_n 1, 1, 0, 1, 0, [], kno),
  (39, .iaload, 1, 7, 2, 0, [], mai),
  (40, .invokevirtual 125, 3, 7, 3, 0, [], K_mo_transmit),
  (43, .aload_n 0, 1, 0, 0, 0, [], kno),
  (44, .getfield 86, 3, 7, 1, 0, [], mgr 108),
  (47, .iload_n 1, 1, 0, 1, 0, [], kno),
  (48, .dup2, 1, 0, 0, 0, [], kno),
  (49, .iaload, 1, 7, 2, 0, [], mai),
  (50, .iconst 1, 1, 0, 0, 1, [], kno),
  (51, .iadd, 1, 0, 0, 0, [], kno),
  (52, .iastore, 1, 7, 3, 0, [], mpa),
  (53, .goto (-53), 3, 1, 0, 0, [], kno),
  (56, .return_, 1, 6, 0, 0, [], kno)]
def G_mo_sendOpen (n : Nat) : rx_G := fun x ls st =>
  match ls, st with
  | [some (.ref r0), some (.int v1)], [] => (r0 = 82 ∧ mo_soQ n x.2 v1, ry_v x.1 (mo_sendOpen_0 n x.2 v1))
  | _, _ => (False, (x, none))
theorem GI_mo_sendOpen {n : Nat} {x : mx} {ls : rx_L} {st : List Value} (h : (G_mo_sendOpen n x ls st).1) : ∃ (r0 : Nat) (v1 : Int32), ls = [some (.ref r0), some (.int v1)] ∧ st = [] ∧ r0 = 82 ∧ mo_soQ n x.2 v1 := by
  unfold G_mo_sendOpen at h
  split at h
  · exact ⟨_, _, rfl, rfl, h⟩
  · exact False.elim h
theorem EH_mo_sendOpen (n : Nat) (c : mx_C) (m : mx_M) (v1 : Int32) : rx_ev L_mo_sendOpen [(0, G_mo_sendOpen n)] 39 (L_mo_sendOpen.drop 0) (c, m) [some (.ref 82), some (.int v1)] [] = ry_v c (mo_sendOpen_0 (n + 1) m v1) :=
  rx_ite2 (f := ry_v c) (fun _ => rx_ite2 (f := ry_v c) (fun _ => rfl) (fun _ => rfl)) (fun _ => rfl)
theorem SH_mo_sendOpen (n : Nat) (c : mx_C) (m : mx_M) (v1 : Int32) (hP : mo_soQ (n + 1) m v1) : rx_sf L_mo_sendOpen [(0, G_mo_sendOpen n)] 39 (L_mo_sendOpen.drop 0) (c, m) [some (.ref 82), some (.int v1)] [] :=
  And.intro rfl (And.intro hP.1.1 (And.intro rfl (And.intro hP.1.1 (And.intro (fun h0 => And.intro rfl (And.intro hP.1.1 (And.intro rfl (And.intro hP.1.1 (And.intro (fun h1 => And.intro rfl (And.intro hP.1.1 (And.intro (And.intro rfl (by first | exact mo_so_tr hP.1 h0 | exact mo_so_tr hs h0)) (And.intro rfl (And.intro hP.1.1 (And.intro hP.1.1 (And.intro rfl (mo_soQ1 (fy_transmit _ _ _) rfl hP h0)))))))) (fun h1 => trivial)))))) (fun h0 => trivial)))))
theorem E_mo_sendOpen (c : mx_C) (m : mx_M) (a1 : Int32)  : rx_ev L_mo_sendOpen [(0, G_mo_sendOpen (1402))] 39 L_mo_sendOpen (c, m) [some (.ref 82), some (.int a1)] [] = ry_v c (mo_sendOpen m a1) :=
  rx_ite2 (f := ry_v c) (fun _ => rx_ite2 (f := ry_v c) (fun _ => rfl) (fun _ => rfl)) (fun _ => rfl)
theorem S_mo_sendOpen (c : mx_C) (m : mx_M) (a1 : Int32) (hs : mo_so m a1) : rx_sf L_mo_sendOpen [(0, G_mo_sendOpen (1402))] 39 L_mo_sendOpen (c, m) [some (.ref 82), some (.int a1)] [] :=
  And.intro rfl (And.intro hs.1 (And.intro rfl (And.intro hs.1 (And.intro (fun h0 => And.intro rfl (And.intro hs.1 (And.intro rfl (And.intro hs.1 (And.intro (fun h1 => And.intro rfl (And.intro hs.1 (And.intro (And.intro rfl (by first | exact mo_so_tr hP.1 h0 | exact mo_so_tr hs h0)) (And.intro rfl (And.intro hs.1 (And.intro hs.1 (And.intro rfl (mo_soQ1 (n := 1402) (fy_transmit _ _ _) rfl (And.intro hs (And.intro (by have h5 := hs.2.1; have h6 := hs.2.2; omega) (by decide))) h0)))))))) (fun h1 => trivial)))))) (fun h0 => trivial)))))
theorem cv_mo_transmit {p : Program} {l : Launch} {e : Env} {R : Room} {s : State} {m : MethodId} {args : Array Value} {below : List Frame} {meth : Method} {c : Code} {cc : ByteArray} {nL : Nat} {ad : Nat → Nat} {D : va_G} {g : Nat → ClassId} {B : Nat} {own : String} {idx : Nat} (X : ox_C p s m args c cc nL own D g ad B) (hV : rx_V l D g ad B ⟨"SubscriberLinesModel", "transmit", "(II)V"⟩ prog_12_method_5_code 5 none 1 28 K_mo_transmit) (hl : Cond.methodLink own idx ⟨"SubscriberLinesModel", "transmit", "(II)V"⟩ ∈ al) (hR : 1 + 1 ≤ R.frames ∧ 8 + (5 + 11) + 28 ≤ R.locals) : rx_OK p l e R s m args below meth c cc nL ad (mx_W D g ad B s.heap) mx_cs (.invokevirtual idx) 3 3 (K_mo_transmit) :=
  ox_callV (q := 9) (T := T_9) X hV (fun av x h => by obtain ⟨a0, a1, a2, rfl⟩ := k_RII_inv h; exact ⟨a0, _, rfl, by have h2 : a0 = 82 := h.1; rw [h2]; rfl⟩) (by decide) rfl hl (al_at 892 (by decide +kernel) rfl) (al_pr (y := (⟨"SubscriberLinesModel", "transmit", "(II)V"⟩, _)) 44 rfl) (al_at 12 (by decide +kernel) rfl) (al_at 893 (by decide +kernel) rfl) ⟨by decide, by decide, by decide +kernel⟩ hR
theorem ok_mo_sendOpen : rx_okF prog_12_method_9_code 2 none L_mo_sendOpen 0 L_mo_sendOpen = true := by decide +kernel
theorem O_mo_sendOpen {l : Launch} {D : va_G} {g : Nat → ClassId} {ad : Nat → Nat} {B : Nat} (had : mx_A ad B) {p : Program} {e : Env} {s : State} {m : MethodId} {args : Array Value} {below : List Frame} {meth : Method} {c : Code} (X : ox_C p s m args c prog_12_method_9_code 2 "SubscriberLinesModel" D g ad B) : rx_ops p l e ({ frames := 2, cells := 0, slots := 0, locals := 52 } : Room) s m args below meth c prog_12_method_9_code 2 ad (mx_W D g ad B s.heap) mx_cs L_mo_sendOpen :=
  And.intro (og_mo_86_g X) (And.intro (oy_ai X) (And.intro (og_mo_89_g X) (And.intro (oy_ai X) (And.intro (og_mo_86_g X) (And.intro (oy_ai X) (And.intro (og_mo_83_g X) (And.intro (oy_ai X) (And.intro (og_mo_86_g X) (And.intro (oy_ai X) (And.intro (cv_mo_transmit X (V_mo_transmit had) (al_at 890 (by decide +kernel) rfl) ⟨by decide, by decide⟩) (And.intro (og_mo_86_g X) (And.intro (oy_ai X) (And.intro (oy_pa X) (trivial))))))))))))))
theorem V_mo_sendOpen {l : Launch} {D : va_G} {g : Nat → ClassId} {ad : Nat → Nat} {B : Nat} (had : mx_A ad B) : rx_V l D g ad B ⟨"SubscriberLinesModel", "sendOpen", "(I)V"⟩ prog_12_method_9_code 2 none 2 52 K_mo_sendOpen := by
  intro av x hp
  obtain ⟨a0, a1, rfl⟩ := k_RI_inv hp
  have hp : a0 = 82 ∧ mo_so x.2 a1 := hp
  have h0 : a0 = 82 := hp.1
  subst h0
  refine rx_metX (k := 0) had (by decide) (Nat.le_of_ble_eq_true rfl) fun p e s m args below meth c X hr hlk => ?_
  refine rx_walk X hr hlk ok_mo_sendOpen (O_mo_sendOpen had X) (cut := [(0, G_mo_sendOpen (1402))]) (rx_cc ?_ rx_c0) 39 0 rfl (S_mo_sendOpen x.1 x.2 a1 hp.2) (E_mo_sendOpen x.1 x.2 a1 )
  refine rx_loop (G := G_mo_sendOpen) X hr hlk ok_mo_sendOpen (O_mo_sendOpen had X) rx_c0 39 0 rfl (fun x ls st h => ?_) (fun n x ls st h => ?_) _
  · obtain ⟨r0, v1, -, -, h3⟩ := GI_mo_sendOpen h
    have h4 := h3.2
    omega
  · obtain ⟨r0, v1, rfl, rfl, h3⟩ := GI_mo_sendOpen h
    obtain ⟨rfl, hP⟩ := h3
    exact ⟨SH_mo_sendOpen n x.1 x.2 v1 hP, EH_mo_sendOpen n x.1 x.2 v1⟩
end
section
def mo_sy (m : mx_M) (e : Int32) : Prop := vp_in e 2 ∧ 0 ≤ (m.1 108 e.toNatClampNeg).toInt ∧ 0 ≤ (m.1 109 e.toNatClampNeg).toInt ∧ (m.1 109 e.toNatClampNeg).toInt ≤ 1399
theorem mo_sy_ix {m : mx_M} {e : Int32} (h : mo_sy m e) : vp_in (1400 * e + m.1 109 e.toNatClampNeg) 2800 := mo_ix h.1 h.2.2.1 (by have := h.2.2.2; omega)
theorem mo_sy_so {m m' : mx_M} {e : Int32} (h : mo_sy m e) (h8 : m'.1 108 e.toNatClampNeg = m.1 108 e.toNatClampNeg) (h9 : m'.1 109 e.toNatClampNeg = m.1 109 e.toNatClampNeg + 1) : mo_so m' e := by
  obtain ⟨p1, p2, p3, p4⟩ := h
  refine ⟨p1, by rw [h8]; exact p2, ?_⟩
  rw [h9, i_add (show _ ≤ (m.1 109 e.toNatClampNeg).toInt + 1 by omega) (show (m.1 109 e.toNatClampNeg).toInt + 1 < _ by omega)]
  show (m.1 109 e.toNatClampNeg).toInt + 1 ≤ 1400
  omega
def mo_et (m : mx_M) (e : Int32) : Prop := vp_in e 2 ∧ (m.1 107 e.toNatClampNeg).toInt < 1400
theorem mo_et_tr {m : mx_M} {e v : Int32} (h : mo_et m e) (hv : v = m.1 107 e.toNatClampNeg) : mo_trP e v := by
  subst hv
  exact ⟨h.1, fun _ => h.2⟩
def mo_say (m : mx_M) (a1 : Int32) (a2 : Int32) (a3 : Int32) (a4 : Int32) : mx_M :=
  if (m.1 106 (Int32.toNatClampNeg a1)) = 0 then
    m
  else
    let m1 := my_pi m 113 (Int32.toNatClampNeg ((1400 * a1) + (m.1 109 (Int32.toNatClampNeg a1)))) a2
    let m2 := my_pi m1 114 (Int32.toNatClampNeg ((1400 * a1) + (m.1 109 (Int32.toNatClampNeg a1)))) a3
    let m3 := my_pi m2 115 (Int32.toNatClampNeg ((1400 * a1) + (m.1 109 (Int32.toNatClampNeg a1)))) a4
    let m4 := my_pi m3 109 (Int32.toNatClampNeg a1) ((m3.1 109 (Int32.toNatClampNeg a1)) + 1)
    if (m.1 109 (Int32.toNatClampNeg a1)) = (m4.1 107 (Int32.toNatClampNeg a1)) then
      let m5 := my_pi m4 111 (Int32.toNatClampNeg a1) 0
      let m6 := my_pi m5 112 (Int32.toNatClampNeg a1) 2
      let m7 := mo_sendOpen m6 a1
      m7
    else
      let m8 := mo_sendOpen m4 a1
      m8
def K_mo_say : rx_K mx := k_RIIII (fun a0 a1 a2 a3 a4 c m => (a0 = 82 ∧ mo_sy m a1, (c, mo_say m a1 a2 a3 a4), none))
def L_mo_say : List (rx_E mx) := [
  (0, .aload_n 0, 1, 0, 0, 0, [], kno),
  (1, .getfield 80, 3, 7, 1, 0, [], mgr 106),
  (4, .iload_n 1, 1, 0, 1, 0, [], kno),
  (5, .iaload, 1, 7, 2, 0, [], mai),
  (6, .ifCond .ne 4, 3, 2, 6, 0, [], kno),
  (9, .return_, 1, 6, 0, 0, [], kno),
  (10, .aload_n 0, 1, 0, 0, 0, [], kno),
  (11, .getfield 89, 3, 7, 1, 0, [], mgr 109),
  (14, .iload_n 1, 1, 0, 1, 0, [], kno),
  (15, .iaload, 1, 7, 2, 0, [], mai),
  (16, .istore 5, 2, 0, 5, 0, [], kno),
  (18, .aload_n 0, 1, 0, 0, 0, [], kno),
  (19, .getfield 101, 3, 7, 1, 0, [], mgr 113),
  (22, .sipush 1400, 3, 0, 0, 1400, [], kno),
  (25, .iload_n 1, 1, 0, 1, 0, [], kno),
  (26, .imul, 1, 0, 0, 0, [], kno),
  (27, .iload 5, 2, 0, 5, 0, [], kno),
  (29, .iadd, 1, 0, 0, 0, [], kno),
  (30, .iload_n 2, 1, 0, 2, 0, [], kno),
  (31, .iastore, 1, 7, 3, 0, [], mpa),
  (32, .aload_n 0, 1, 0, 0, 0, [], kno),
  (33, .getfield 104, 3, 7, 1, 0, [], mgr 114),
  (36, .sipush 1400, 3, 0, 0, 1400, [], kno),
  (39, .iload_n 1, 1, 0, 1, 0, [], kno),
  (40, .imul, 1, 0, 0, 0, [], kno),
  (41, .iload 5, 2, 0, 5, 0, [], kno),
  (43, .iadd, 1, 0, 0, 0, [], kno),
  (44, .iload_n 3, 1, 0, 3, 0, [], kno),
  (45, .iastore, 1, 7, 3, 0, [], mpa),
  (46, .aload_n 0, 1, 0, 0, 0, [], kno),
  (47, .getfield 107, 3, 7, 1, 0, [], mgr 115),
  (50, .sipush 1400, 3, 0, 0, 1400, [], kno),
  (53, .iload_n 1, 1, 0, 1, 0, [], kno),
  (54, .imul, 1, 0, 0, 0, [], kno),
  (55, .iload 5, 2, 0, 5, 0, [], kno),
  (57, .iadd, 1, 0, 0, 0, [], kno),
  (58, .iload 4, 2, 0, 4, 0, [], kno),
  (60, .iastore, 1, 7, 3, 0, [], mpa),
  (61, .aload_n 0, 1, 0, 0, 0, [], kno),
  (62, .getfield 89, 3, 7, 1, 0, [], mgr 109),
  (65, .iload_n 1, 1, 0, 1, 0, [], kno),
  (66, .dup2, 1, 0, 0, 0, [], kno),
  (67, .iaload, 1, 7, 2, 0, [], mai),
  (68, .iconst 1, 1, 0, 0, 1, [], kno),
  (69, .iadd, 1, 0, 0, 0, [], kno),
  (70, .iastore, 1, 7, 3, 0, [], mpa),
  (71, .iload 5, 2, 0, 5, 0, [], kno),
  (73, .aload_n 0, 1, 0, 0, 0, [], kno),
  (74, .getfield 83, 3, 7, 1, 0, [], mgr 107),
  (77, .iload_n 1, 1, 0, 1, 0, [], kno),
  (78, .iaload, 1, 7, 2, 0, [], mai),
  (79, .if_icmp .ne 17, 3, 2, 62, 0, [], kno),
  (82, .aload_n 0, 1, 0, 0, 0, [], kno),
  (83, .getfield 95, 3, 7, 1, 0, [], mgr 111),
  (86, .iload_n 1, 1, 0, 1, 0, [], kno),
  (87, .iconst 0, 1, 0, 0, 0, [], kno),
  (88, .iastore, 1, 7, 3, 0, [], mpa),
  (89, .aload_n 0, 1, 0, 0, 0, [], kno),
  (90, .getfield 98, 3, 7, 1, 0, [], mgr 112),
  (93, .iload_n 1, 1, 0, 1, 0, [], kno),
  (94, .iconst 2, 1, 0, 0, 2, [], kno),
  (95, .iastore, 1, 7, 3, 0, [], mpa),
  (96, .aload_n 0, 1, 0, 0, 0, [], kno),
  (97, .iload_n 1, 1, 0, 1, 0, [], kno),
  (98, .invokevirtual 121, 3, 7, 2, 0, [], K_mo_sendOpen),
  (101, .return_, 1, 6, 0, 0, [], kno)]
theorem E_mo_say (c : mx_C) (m : mx_M) (a1 : Int32) (a2 : Int32) (a3 : Int32) (a4 : Int32)  : rx_ev L_mo_say [] 68 L_mo_say (c, m) [some (.ref 82), some (.int a1), some (.int a2), some (.int a3), some (.int a4), none] [] = ry_v c (mo_say m a1 a2 a3 a4) :=
  rx_ite2 (f := ry_v c) (fun _ => rfl) (fun _ => rx_ite2 (f := ry_v c) (fun _ => rfl) (fun _ => rfl))
theorem S_mo_say (c : mx_C) (m : mx_M) (a1 : Int32) (a2 : Int32) (a3 : Int32) (a4 : Int32) (hs : mo_sy m a1) : rx_sf L_mo_say [] 68 L_mo_say (c, m) [some (.ref 82), some (.int a1), some (.int a2), some (.int a3), some (.int a4), none] [] :=
  And.intro rfl (And.intro hs.1 (And.intro (fun h0 => trivial) (fun h0 => And.intro rfl (And.intro hs.1 (And.intro rfl (And.intro (mo_sy_ix hs) (And.intro rfl (And.intro (mo_sy_ix hs) (And.intro rfl (And.intro (mo_sy_ix hs) (And.intro rfl (And.intro hs.1 (And.intro hs.1 (And.intro rfl (And.intro hs.1 (And.intro (fun h1 => And.intro rfl (And.intro hs.1 (And.intro rfl (And.intro hs.1 (And.intro (And.intro rfl (mo_sy_so hs (by simp only [my_pi]; repeat (first | rw [mx_up_eq] | rw [mx_up_ne _ _ (by omega)])) (by simp only [my_pi]; repeat (first | rw [mx_up_eq] | rw [mx_up_ne _ _ (by omega)])))) (trivial)))))) (fun h1 => And.intro (And.intro rfl (mo_sy_so hs (by simp only [my_pi]; repeat (first | rw [mx_up_eq] | rw [mx_up_ne _ _ (by omega)])) (by simp only [my_pi]; repeat (first | rw [mx_up_eq] | rw [mx_up_ne _ _ (by omega)])))) (trivial))))))))))))))))))

theorem cv_mo_sendOpen {p : Program} {l : Launch} {e : Env} {R : Room} {s : State} {m : MethodId} {args : Array Value} {below : List Frame} {meth : Method} {c : Code} {cc : ByteArray} {nL : Nat} {ad : Nat → Nat} {D : va_G} {g : Nat → ClassId} {B : Nat} {own : String} {idx : Nat} (X : ox_C p s m args c cc nL own D g ad B) (hV : rx_V l D g ad B ⟨"SubscriberLinesModel", "sendOpen", "(I)V"⟩ prog_12_method_9_code 2 none 2 52 K_mo_sendOpen) (hl : Cond.methodLink own idx ⟨"SubscriberLinesModel", "sendOpen", "(I)V"⟩ ∈ al) (hR : 2 + 1 ≤ R.frames ∧ 8 + (2 + 11) + 52 ≤ R.locals) : rx_OK p l e R s m args below meth c cc nL ad (mx_W D g ad B s.heap) mx_cs (.invokevirtual idx) 3 2 (K_mo_sendOpen) :=
  ox_callV (q := 9) (T := T_9) X hV (fun av x h => by obtain ⟨a0, a1, rfl⟩ := k_RI_inv h; exact ⟨a0, _, rfl, by have h2 : a0 = 82 := h.1; rw [h2]; rfl⟩) (by decide) rfl hl (al_at 888 (by decide +kernel) rfl) (al_pr (y := (⟨"SubscriberLinesModel", "sendOpen", "(I)V"⟩, _)) 43 rfl) (al_at 12 (by decide +kernel) rfl) (al_at 889 (by decide +kernel) rfl) ⟨by decide, by decide, by decide +kernel⟩ hR
theorem ok_mo_say : rx_okF prog_12_method_8_code 6 none L_mo_say 0 L_mo_say = true := by decide +kernel
theorem V_mo_say {l : Launch} {D : va_G} {g : Nat → ClassId} {ad : Nat → Nat} {B : Nat} (had : mx_A ad B) : rx_V l D g ad B ⟨"SubscriberLinesModel", "say", "(IIII)V"⟩ prog_12_method_8_code 6 none 3 73 K_mo_say := by
  intro av x hp
  obtain ⟨a0, a1, a2, a3, a4, rfl⟩ := k_RIIII_inv hp
  have hp : a0 = 82 ∧ mo_sy x.2 a1 := hp
  have h0 : a0 = 82 := hp.1
  subst h0
  exact rx_met (k := 1) had (by decide) (Nat.le_of_ble_eq_true rfl) ok_mo_say rfl rfl 68 (fun p e s m args below meth c X => And.intro (og_mo_80_g X) (And.intro (oy_ai X) (And.intro (og_mo_89_g X) (And.intro (oy_ai X) (And.intro (og_mo_101_g X) (And.intro (oy_pa X) (And.intro (og_mo_104_g X) (And.intro (oy_pa X) (And.intro (og_mo_107_g X) (And.intro (oy_pa X) (And.intro (og_mo_89_g X) (And.intro (oy_ai X) (And.intro (oy_pa X) (And.intro (og_mo_83_g X) (And.intro (oy_ai X) (And.intro (og_mo_95_g X) (And.intro (oy_pa X) (And.intro (og_mo_98_g X) (And.intro (oy_pa X) (And.intro (cv_mo_sendOpen X (V_mo_sendOpen had) (al_at 886 (by decide +kernel) rfl) ⟨by decide, by decide⟩) (trivial))))))))))))))))))))) (S_mo_say x.1 x.2 a1 a2 a3 a4 hp.2) (E_mo_say x.1 x.2 a1 a2 a3 a4)
def mo_loseCircuits_2 : Nat → mx_M → Int32 → mx_M
  | 0, m, _ => m
  | n + 1, m, v1 =>
    if v1 < 4 then
      let m1 := my_pi m 96 (Int32.toNatClampNeg v1) 0
      let m2 := my_pi m1 97 (Int32.toNatClampNeg v1) 0
      if 0 < (m.1 96 (Int32.toNatClampNeg v1)) then
        let m3 := mo_sendOff m2 3 4 v1 (m.1 96 (Int32.toNatClampNeg v1)) 0 0
        mo_loseCircuits_2 n m3 (v1 + 1)
      else
        mo_loseCircuits_2 n m2 (v1 + 1)
    else
      m
def mo_loseCircuits (m : mx_M)  : mx_M :=
  mo_loseCircuits_2 (5) m 0
def K_mo_loseCircuits : rx_K mx := k_R (fun a0 c m => (a0 = 82, (c, mo_loseCircuits m), none))
def L_mo_loseCircuits : List (rx_E mx) := [
  (0, .iconst 0, 1, 0, 0, 0, [], kno),
  (1, .istore_n 1, 1, 0, 1, 0, [], kno),
  (2, .iload_n 1, 1, 0, 1, 0, [], kno),
  (3, .iconst 4, 1, 0, 0, 4, [], kno),
  (4, .if_icmp .ge 44, 3, 2, 32, 0, [], kno),
  (7, .aload_n 0, 1, 0, 0, 0, [], kno),
  (8, .getfield 50, 3, 7, 1, 0, [], mgr 96),
  (11, .iload_n 1, 1, 0, 1, 0, [], kno),
  (12, .iaload, 1, 7, 2, 0, [], mai),
  (13, .istore_n 2, 1, 0, 2, 0, [], kno),
  (14, .aload_n 0, 1, 0, 0, 0, [], kno),
  (15, .getfield 50, 3, 7, 1, 0, [], mgr 96),
  (18, .iload_n 1, 1, 0, 1, 0, [], kno),
  (19, .iconst 0, 1, 0, 0, 0, [], kno),
  (20, .iastore, 1, 7, 3, 0, [], mpa),
  (21, .aload_n 0, 1, 0, 0, 0, [], kno),
  (22, .getfield 53, 3, 7, 1, 0, [], mgr 97),
  (25, .iload_n 1, 1, 0, 1, 0, [], kno),
  (26, .iconst 0, 1, 0, 0, 0, [], kno),
  (27, .iastore, 1, 7, 3, 0, [], mpa),
  (28, .iload_n 2, 1, 0, 2, 0, [], kno),
  (29, .ifCond .le 13, 3, 2, 30, 0, [], kno),
  (32, .aload_n 0, 1, 0, 0, 0, [], kno),
  (33, .iconst 3, 1, 0, 0, 3, [], kno),
  (34, .iconst 4, 1, 0, 0, 4, [], kno),
  (35, .iload_n 1, 1, 0, 1, 0, [], kno),
  (36, .iload_n 2, 1, 0, 2, 0, [], kno),
  (37, .iconst 0, 1, 0, 0, 0, [], kno),
  (38, .iconst 0, 1, 0, 0, 0, [], kno),
  (39, .invokevirtual 138, 3, 7, 7, 0, [], K_mo_sendOff),
  (42, .iinc 1 1, 3, 0, 1, 1, [], kno),
  (45, .goto (-43), 3, 1, 2, 0, [], kno),
  (48, .return_, 1, 6, 0, 0, [], kno)]
def G_mo_loseCircuits (n : Nat) : rx_G := fun x ls st =>
  match ls, st with
  | [some (.ref r0), some (.int v1), o2], [] => (r0 = 82 ∧ up4 n v1, ry_v x.1 (mo_loseCircuits_2 n x.2 v1))
  | _, _ => (False, (x, none))
theorem GI_mo_loseCircuits {n : Nat} {x : mx} {ls : rx_L} {st : List Value} (h : (G_mo_loseCircuits n x ls st).1) : ∃ (r0 : Nat) (v1 : Int32) (o2 : Option Value), ls = [some (.ref r0), some (.int v1), o2] ∧ st = [] ∧ r0 = 82 ∧ up4 n v1 := by
  unfold G_mo_loseCircuits at h
  split at h
  · exact ⟨_, _, _, rfl, rfl, h⟩
  · exact False.elim h
theorem EH_mo_loseCircuits (n : Nat) (c : mx_C) (m : mx_M) (v1 : Int32) (o2 : Option Value) : rx_ev L_mo_loseCircuits [(2, G_mo_loseCircuits n)] 35 (L_mo_loseCircuits.drop 2) (c, m) [some (.ref 82), some (.int v1), o2] [] = ry_v c (mo_loseCircuits_2 (n + 1) m v1) :=
  rx_ite2 (f := ry_v c) (fun _ => rx_ite2 (f := ry_v c) (fun _ => rfl) (fun _ => rfl)) (fun _ => rfl)
theorem SH_mo_loseCircuits (n : Nat) (c : mx_C) (m : mx_M) (v1 : Int32) (o2 : Option Value) (hP : up4 (n + 1) v1) : rx_sf L_mo_loseCircuits [(2, G_mo_loseCircuits n)] 35 (L_mo_loseCircuits.drop 2) (c, m) [some (.ref 82), some (.int v1), o2] [] :=
  And.intro (fun h0 => And.intro rfl (And.intro (up4_in h0 hP) (And.intro rfl (And.intro (up4_in h0 hP) (And.intro rfl (And.intro (up4_in h0 hP) (And.intro (fun h1 => And.intro rfl (And.intro rfl (up4_1 h0 hP))) (fun h1 => And.intro rfl (up4_1 h0 hP))))))))) (fun h0 => trivial)
theorem E_mo_loseCircuits (c : mx_C) (m : mx_M)   : rx_ev L_mo_loseCircuits [(2, G_mo_loseCircuits (5))] 35 L_mo_loseCircuits (c, m) [some (.ref 82), none, none] [] = ry_v c (mo_loseCircuits m) :=
  rfl
theorem S_mo_loseCircuits (c : mx_C) (m : mx_M)   : rx_sf L_mo_loseCircuits [(2, G_mo_loseCircuits (5))] 35 L_mo_loseCircuits (c, m) [some (.ref 82), none, none] [] :=
  And.intro rfl (by decide)
theorem og_mo_50_g {p : Program} {l : Launch} {e : Env} {R : Room} {s : State} {m : MethodId} {args : Array Value} {below : List Frame} {meth : Method} {c : Code} {cc : ByteArray} {nL : Nat} {ad : Nat → Nat} {D : va_G} {g : Nat → ClassId} {B : Nat} (X : ox_C p s m args c cc nL "SubscriberLinesModel" D g ad B) : rx_OK p l e R s m args below meth c cc nL ad (mx_W D g ad B s.heap) mx_cs (.getfield 50) 3 1 (mgr 96) := oy_gr (k := 15) X (by decide) rfl (al_at 726 (by decide +kernel) rfl)
theorem og_mo_53_g {p : Program} {l : Launch} {e : Env} {R : Room} {s : State} {m : MethodId} {args : Array Value} {below : List Frame} {meth : Method} {c : Code} {cc : ByteArray} {nL : Nat} {ad : Nat → Nat} {D : va_G} {g : Nat → ClassId} {B : Nat} (X : ox_C p s m args c cc nL "SubscriberLinesModel" D g ad B) : rx_OK p l e R s m args below meth c cc nL ad (mx_W D g ad B s.heap) mx_cs (.getfield 53) 3 1 (mgr 97) := oy_gr (k := 16) X (by decide) rfl (al_at 727 (by decide +kernel) rfl)
theorem cv_mo_sendOff {p : Program} {l : Launch} {e : Env} {R : Room} {s : State} {m : MethodId} {args : Array Value} {below : List Frame} {meth : Method} {c : Code} {cc : ByteArray} {nL : Nat} {ad : Nat → Nat} {D : va_G} {g : Nat → ClassId} {B : Nat} {own : String} {idx : Nat} (X : ox_C p s m args c cc nL own D g ad B) (hV : rx_V l D g ad B ⟨"SubscriberLinesModel", "sendOff", "(IIIIII)V"⟩ prog_12_method_4_code 7 none 1 28 K_mo_sendOff) (hl : Cond.methodLink own idx ⟨"SubscriberLinesModel", "sendOff", "(IIIIII)V"⟩ ∈ al) (hR : 1 + 1 ≤ R.frames ∧ 8 + (7 + 11) + 28 ≤ R.locals) : rx_OK p l e R s m args below meth c cc nL ad (mx_W D g ad B s.heap) mx_cs (.invokevirtual idx) 3 7 (K_mo_sendOff) :=
  ox_callV (q := 9) (T := T_9) X hV (fun av x h => by obtain ⟨a0, a1, a2, a3, a4, a5, a6, rfl⟩ := k_RIIIIII_inv h; exact ⟨a0, _, rfl, by have h2 : a0 = 82 := h; rw [h2]; rfl⟩) (by decide) rfl hl (al_at 860 (by decide +kernel) rfl) (al_pr (y := (⟨"SubscriberLinesModel", "sendOff", "(IIIIII)V"⟩, _)) 36 rfl) (al_at 12 (by decide +kernel) rfl) (al_at 861 (by decide +kernel) rfl) ⟨by decide, by decide, by decide +kernel⟩ hR
theorem ok_mo_loseCircuits : rx_okF prog_12_method_11_code 3 none L_mo_loseCircuits 0 L_mo_loseCircuits = true := by decide +kernel
theorem O_mo_loseCircuits {l : Launch} {D : va_G} {g : Nat → ClassId} {ad : Nat → Nat} {B : Nat} (had : mx_A ad B) {p : Program} {e : Env} {s : State} {m : MethodId} {args : Array Value} {below : List Frame} {meth : Method} {c : Code} (X : ox_C p s m args c prog_12_method_11_code 3 "SubscriberLinesModel" D g ad B) : rx_ops p l e ({ frames := 2, cells := 0, slots := 0, locals := 54 } : Room) s m args below meth c prog_12_method_11_code 3 ad (mx_W D g ad B s.heap) mx_cs L_mo_loseCircuits :=
  And.intro (og_mo_50_g X) (And.intro (oy_ai X) (And.intro (og_mo_50_g X) (And.intro (oy_pa X) (And.intro (og_mo_53_g X) (And.intro (oy_pa X) (And.intro (cv_mo_sendOff X (V_mo_sendOff had) (al_at 858 (by decide +kernel) rfl) ⟨by decide, by decide⟩) (trivial)))))))
theorem V_mo_loseCircuits {l : Launch} {D : va_G} {g : Nat → ClassId} {ad : Nat → Nat} {B : Nat} (had : mx_A ad B) : rx_V l D g ad B ⟨"SubscriberLinesModel", "loseCircuits", "()V"⟩ prog_12_method_11_code 3 none 2 54 K_mo_loseCircuits := by
  intro av x hp
  obtain ⟨a0, rfl⟩ := k_R_inv hp
  have hp : a0 = 82 := hp
  have h0 : a0 = 82 := hp
  subst h0
  refine rx_metX (k := 2) had (by decide) (Nat.le_of_ble_eq_true rfl) fun p e s m args below meth c X hr hlk => ?_
  refine rx_walk X hr hlk ok_mo_loseCircuits (O_mo_loseCircuits had X) (cut := [(2, G_mo_loseCircuits (5))]) (rx_cc ?_ rx_c0) 35 0 rfl (S_mo_loseCircuits x.1 x.2  ) (E_mo_loseCircuits x.1 x.2  )
  refine rx_loop (G := G_mo_loseCircuits) X hr hlk ok_mo_loseCircuits (O_mo_loseCircuits had X) rx_c0 35 2 rfl (fun x ls st h => ?_) (fun n x ls st h => ?_) _
  · obtain ⟨r0, v1, o2, -, -, h3⟩ := GI_mo_loseCircuits h
    have h4 := h3.2
    omega
  · obtain ⟨r0, v1, o2, rfl, rfl, h3⟩ := GI_mo_loseCircuits h
    obtain ⟨rfl, hP⟩ := h3
    exact ⟨SH_mo_loseCircuits n x.1 x.2 v1 o2 hP, EH_mo_loseCircuits n x.1 x.2 v1 o2⟩
def mo_endTimer (m : mx_M) (a1 : Int32) : mx_M :=
  if (m.1 106 (Int32.toNatClampNeg a1)) = 0 then
    m
  else
    if (m.1 109 (Int32.toNatClampNeg a1)) = (m.1 107 (Int32.toNatClampNeg a1)) then
      m
    else
      let m1 := my_pi m 112 (Int32.toNatClampNeg a1) ((m.1 112 (Int32.toNatClampNeg a1)) - 1)
      if 0 < (m1.1 112 (Int32.toNatClampNeg a1)) then
        m1
      else
        if (m1.1 111 (Int32.toNatClampNeg a1)) = 3 then
          let m2 := mo_clear m1 a1 0
          if a1 = 0 then
            let m3 := mo_loseCircuits m2
            m3
          else
            let m4 := my_ps m2 0
            m4
        else
          let m5 := my_pi m1 111 (Int32.toNatClampNeg a1) ((m1.1 111 (Int32.toNatClampNeg a1)) + 1)
          let m6 := my_pi m5 112 (Int32.toNatClampNeg a1) (2 <<< ((m5.1 111 (Int32.toNatClampNeg a1)) &&& 31))
          let m7 := mo_transmit m6 a1 (m6.1 107 (Int32.toNatClampNeg a1))
          m7
def K_mo_endTimer : rx_K mx := k_RI (fun a0 a1 c m => (a0 = 82 ∧ mo_et m a1, (c, mo_endTimer m a1), none))
def L_mo_endTimer : List (rx_E mx) := [
  (0, .aload_n 0, 1, 0, 0, 0, [], kno),
  (1, .getfield 80, 3, 7, 1, 0, [], mgr 106),
  (4, .iload_n 1, 1, 0, 1, 0, [], kno),
  (5, .iaload, 1, 7, 2, 0, [], mai),
  (6, .ifCond .eq 18, 3, 2, 14, 0, [], kno),
  (9, .aload_n 0, 1, 0, 0, 0, [], kno),
  (10, .getfield 89, 3, 7, 1, 0, [], mgr 109),
  (13, .iload_n 1, 1, 0, 1, 0, [], kno),
  (14, .iaload, 1, 7, 2, 0, [], mai),
  (15, .aload_n 0, 1, 0, 0, 0, [], kno),
  (16, .getfield 83, 3, 7, 1, 0, [], mgr 107),
  (19, .iload_n 1, 1, 0, 1, 0, [], kno),
  (20, .iaload, 1, 7, 2, 0, [], mai),
  (21, .if_icmp .ne 4, 3, 2, 15, 0, [], kno),
  (24, .return_, 1, 6, 0, 0, [], kno),
  (25, .aload_n 0, 1, 0, 0, 0, [], kno),
  (26, .getfield 98, 3, 7, 1, 0, [], mgr 112),
  (29, .iload_n 1, 1, 0, 1, 0, [], kno),
  (30, .dup2, 1, 0, 0, 0, [], kno),
  (31, .iaload, 1, 7, 2, 0, [], mai),
  (32, .iconst 1, 1, 0, 0, 1, [], kno),
  (33, .isub, 1, 0, 0, 0, [], kno),
  (34, .iastore, 1, 7, 3, 0, [], mpa),
  (35, .aload_n 0, 1, 0, 0, 0, [], kno),
  (36, .getfield 98, 3, 7, 1, 0, [], mgr 112),
  (39, .iload_n 1, 1, 0, 1, 0, [], kno),
  (40, .iaload, 1, 7, 2, 0, [], mai),
  (41, .ifCond .le 4, 3, 2, 29, 0, [], kno),
  (44, .return_, 1, 6, 0, 0, [], kno),
  (45, .aload_n 0, 1, 0, 0, 0, [], kno),
  (46, .getfield 95, 3, 7, 1, 0, [], mgr 111),
  (49, .iload_n 1, 1, 0, 1, 0, [], kno),
  (50, .iaload, 1, 7, 2, 0, [], mai),
  (51, .iconst 3, 1, 0, 0, 3, [], kno),
  (52, .if_icmp .ne 26, 3, 2, 48, 0, [], kno),
  (55, .aload_n 0, 1, 0, 0, 0, [], kno),
  (56, .iload_n 1, 1, 0, 1, 0, [], kno),
  (57, .iconst 0, 1, 0, 0, 0, [], kno),
  (58, .invokevirtual 129, 3, 7, 3, 0, [], K_mo_clear),
  (61, .iload_n 1, 1, 0, 1, 0, [], kno),
  (62, .ifCond .ne 10, 3, 2, 44, 0, [], kno),
  (65, .aload_n 0, 1, 0, 0, 0, [], kno),
  (66, .invokevirtual 132, 3, 7, 1, 0, [], K_mo_loseCircuits),
  (69, .goto 8, 3, 1, 47, 0, [], kno),
  (72, .aload_n 0, 1, 0, 0, 0, [], kno),
  (73, .iconst 0, 1, 0, 0, 0, [], kno),
  (74, .putfield 135, 3, 7, 2, 0, [], mps),
  (77, .return_, 1, 6, 0, 0, [], kno),
  (78, .aload_n 0, 1, 0, 0, 0, [], kno),
  (79, .getfield 95, 3, 7, 1, 0, [], mgr 111),
  (82, .iload_n 1, 1, 0, 1, 0, [], kno),
  (83, .dup2, 1, 0, 0, 0, [], kno),
  (84, .iaload, 1, 7, 2, 0, [], mai),
  (85, .iconst 1, 1, 0, 0, 1, [], kno),
  (86, .iadd, 1, 0, 0, 0, [], kno),
  (87, .iastore, 1, 7, 3, 0, [], mpa),
  (88, .aload_n 0, 1, 0, 0, 0, [], kno),
  (89, .getfield 98, 3, 7, 1, 0, [], mgr 112),
  (92, .iload_n 1, 1, 0, 1, 0, [], kno),
  (93, .iconst 2, 1, 0, 0, 2, [], kno),
  (94, .aload_n 0, 1, 0, 0, 0, [], kno),
  (95, .getfield 95, 3, 7, 1, 0, [], mgr 111),
  (98, .iload_n 1, 1, 0, 1, 0, [], kno),
  (99, .iaload, 1, 7, 2, 0, [], mai),
  (100, .ishl, 1, 0, 0, 0, [], kno),
  (101, .iastore, 1, 7, 3, 0, [], mpa),
  (102, .aload_n 0, 1, 0, 0, 0, [], kno),
  (103, .iload_n 1, 1, 0, 1, 0, [], kno),
  (104, .aload_n 0, 1, 0, 0, 0, [], kno),
  (105, .getfield 83, 3, 7, 1, 0, [], mgr 107),
  (108, .iload_n 1, 1, 0, 1, 0, [], kno),
  (109, .iaload, 1, 7, 2, 0, [], mai),
  (110, .invokevirtual 125, 3, 7, 3, 0, [], K_mo_transmit),
  (113, .return_, 1, 6, 0, 0, [], kno)]
theorem E_mo_endTimer (c : mx_C) (m : mx_M) (a1 : Int32)  : rx_ev L_mo_endTimer [] 76 L_mo_endTimer (c, m) [some (.ref 82), some (.int a1)] [] = ry_v c (mo_endTimer m a1) :=
  rx_ite2 (f := ry_v c) (fun _ => rfl) (fun _ => rx_ite2 (f := ry_v c) (fun _ => rfl) (fun _ => rx_ite2 (f := ry_v c) (fun _ => rfl) (fun _ => rx_ite2 (f := ry_v c) (fun _ => rx_ite2 (f := ry_v c) (fun _ => rfl) (fun _ => rfl)) (fun _ => rfl))))
theorem S_mo_endTimer (c : mx_C) (m : mx_M) (a1 : Int32) (he : mo_et m a1) : rx_sf L_mo_endTimer [] 76 L_mo_endTimer (c, m) [some (.ref 82), some (.int a1)] [] :=
  And.intro rfl (And.intro he.1 (And.intro (fun h0 => trivial) (fun h0 => And.intro rfl (And.intro he.1 (And.intro rfl (And.intro he.1 (And.intro (fun h1 => trivial) (fun h1 => And.intro rfl (And.intro he.1 (And.intro he.1 (And.intro rfl (And.intro he.1 (And.intro (fun h2 => trivial) (fun h2 => And.intro rfl (And.intro he.1 (And.intro (fun h3 => And.intro (And.intro rfl he.1) (And.intro (fun h4 => And.intro rfl (trivial)) (fun h4 => And.intro (And.intro rfl sc_z) (trivial)))) (fun h3 => And.intro rfl (And.intro he.1 (And.intro he.1 (And.intro rfl (And.intro rfl (And.intro he.1 (And.intro he.1 (And.intro rfl (And.intro he.1 (And.intro (And.intro rfl (mo_et_tr he (by simp only [my_pi]; repeat (first | rw [mx_up_eq] | rw [mx_up_ne _ _ (by omega)])))) (trivial)))))))))))))))))))))))))))

theorem cv_mo_clear {p : Program} {l : Launch} {e : Env} {R : Room} {s : State} {m : MethodId} {args : Array Value} {below : List Frame} {meth : Method} {c : Code} {cc : ByteArray} {nL : Nat} {ad : Nat → Nat} {D : va_G} {g : Nat → ClassId} {B : Nat} {own : String} {idx : Nat} (X : ox_C p s m args c cc nL own D g ad B) (hV : rx_V l D g ad B ⟨"SubscriberLinesModel", "clear", "(II)V"⟩ prog_12_method_7_code 3 none 0 0 K_mo_clear) (hl : Cond.methodLink own idx ⟨"SubscriberLinesModel", "clear", "(II)V"⟩ ∈ al) (hR : 0 + 1 ≤ R.frames ∧ 8 + (3 + 11) + 0 ≤ R.locals) : rx_OK p l e R s m args below meth c cc nL ad (mx_W D g ad B s.heap) mx_cs (.invokevirtual idx) 3 3 (K_mo_clear) :=
  ox_callV (q := 9) (T := T_9) X hV (fun av x h => by obtain ⟨a0, a1, a2, rfl⟩ := k_RII_inv h; exact ⟨a0, _, rfl, by have h2 : a0 = 82 := h.1; rw [h2]; rfl⟩) (by decide) rfl hl (al_at 884 (by decide +kernel) rfl) (al_pr (y := (⟨"SubscriberLinesModel", "clear", "(II)V"⟩, _)) 42 rfl) (al_at 12 (by decide +kernel) rfl) (al_at 885 (by decide +kernel) rfl) ⟨by decide, by decide, by decide +kernel⟩ hR
theorem cv_mo_loseCircuits {p : Program} {l : Launch} {e : Env} {R : Room} {s : State} {m : MethodId} {args : Array Value} {below : List Frame} {meth : Method} {c : Code} {cc : ByteArray} {nL : Nat} {ad : Nat → Nat} {D : va_G} {g : Nat → ClassId} {B : Nat} {own : String} {idx : Nat} (X : ox_C p s m args c cc nL own D g ad B) (hV : rx_V l D g ad B ⟨"SubscriberLinesModel", "loseCircuits", "()V"⟩ prog_12_method_11_code 3 none 2 54 K_mo_loseCircuits) (hl : Cond.methodLink own idx ⟨"SubscriberLinesModel", "loseCircuits", "()V"⟩ ∈ al) (hR : 2 + 1 ≤ R.frames ∧ 8 + (3 + 11) + 54 ≤ R.locals) : rx_OK p l e R s m args below meth c cc nL ad (mx_W D g ad B s.heap) mx_cs (.invokevirtual idx) 3 1 (K_mo_loseCircuits) :=
  ox_callV (q := 9) (T := T_9) X hV (fun av x h => by obtain ⟨a0, rfl⟩ := k_R_inv h; exact ⟨a0, _, rfl, by have h2 : a0 = 82 := h; rw [h2]; rfl⟩) (by decide) rfl hl (al_at 963 (by decide +kernel) rfl) (al_pr (y := (⟨"SubscriberLinesModel", "loseCircuits", "()V"⟩, _)) 61 rfl) (al_at 12 (by decide +kernel) rfl) (al_at 964 (by decide +kernel) rfl) ⟨by decide, by decide, by decide +kernel⟩ hR
theorem og_mo_135_p {p : Program} {l : Launch} {e : Env} {R : Room} {s : State} {m : MethodId} {args : Array Value} {below : List Frame} {meth : Method} {c : Code} {cc : ByteArray} {nL : Nat} {ad : Nat → Nat} {D : va_G} {g : Nat → ClassId} {B : Nat} (X : ox_C p s m args c cc nL "SubscriberLinesModel" D g ad B) : rx_OK p l e R s m args below meth c cc nL ad (mx_W D g ad B s.heap) mx_cs (.putfield 135) 3 2 (mps) := oy_ps X (al_at 729 (by decide +kernel) rfl)
theorem ok_mo_endTimer : rx_okF prog_12_method_10_code 2 none L_mo_endTimer 0 L_mo_endTimer = true := by decide +kernel
theorem V_mo_endTimer {l : Launch} {D : va_G} {g : Nat → ClassId} {ad : Nat → Nat} {B : Nat} (had : mx_A ad B) : rx_V l D g ad B ⟨"SubscriberLinesModel", "endTimer", "(I)V"⟩ prog_12_method_10_code 2 none 3 76 K_mo_endTimer := by
  intro av x hp
  obtain ⟨a0, a1, rfl⟩ := k_RI_inv hp
  have hp : a0 = 82 ∧ mo_et x.2 a1 := hp
  have h0 : a0 = 82 := hp.1
  subst h0
  exact rx_met (k := 0) had (by decide) (Nat.le_of_ble_eq_true rfl) ok_mo_endTimer rfl rfl 76 (fun p e s m args below meth c X => And.intro (og_mo_80_g X) (And.intro (oy_ai X) (And.intro (og_mo_89_g X) (And.intro (oy_ai X) (And.intro (og_mo_83_g X) (And.intro (oy_ai X) (And.intro (og_mo_98_g X) (And.intro (oy_ai X) (And.intro (oy_pa X) (And.intro (og_mo_98_g X) (And.intro (oy_ai X) (And.intro (og_mo_95_g X) (And.intro (oy_ai X) (And.intro (cv_mo_clear X (V_mo_clear had) (al_at 882 (by decide +kernel) rfl) ⟨by decide, by decide⟩) (And.intro (cv_mo_loseCircuits X (V_mo_loseCircuits had) (al_at 961 (by decide +kernel) rfl) ⟨by decide, by decide⟩) (And.intro (og_mo_135_p X) (And.intro (og_mo_95_g X) (And.intro (oy_ai X) (And.intro (oy_pa X) (And.intro (og_mo_98_g X) (And.intro (og_mo_95_g X) (And.intro (oy_ai X) (And.intro (oy_pa X) (And.intro (og_mo_83_g X) (And.intro (oy_ai X) (And.intro (cv_mo_transmit X (V_mo_transmit had) (al_at 890 (by decide +kernel) rfl) ⟨by decide, by decide⟩) (trivial))))))))))))))))))))))))))) (S_mo_endTimer x.1 x.2 a1 hp.2) (E_mo_endTimer x.1 x.2 a1)
def mo_circuitOf_4 : Nat → mx_M → Int32 → Int32 → Int32 → Int32
  | 0, m, _, _, _ => 0
  | n + 1, m, v1, v2, v3 =>
    if v3 < 4 then
      if 0 < v1 then
        if (m.1 96 (Int32.toNatClampNeg v3)) = v1 then
          mo_circuitOf_4 n m v1 v3 (v3 + 1)
        else
          mo_circuitOf_4 n m v1 v2 (v3 + 1)
      else
        mo_circuitOf_4 n m v1 v2 (v3 + 1)
    else
      v2
def mo_circuitOf (m : mx_M) (a1 : Int32) : Int32 :=
  mo_circuitOf_4 (5) m a1 (-1) 0
def K_mo_circuitOf : rx_K mx := k_RI (fun a0 a1 c m => (a0 = 82, (c, m), some (.int (mo_circuitOf m a1))))
def L_mo_circuitOf : List (rx_E mx) := [
  (0, .iconst (-1), 1, 0, 0, (-1), [], kno),
  (1, .istore_n 2, 1, 0, 2, 0, [], kno),
  (2, .iconst 0, 1, 0, 0, 0, [], kno),
  (3, .istore_n 3, 1, 0, 3, 0, [], kno),
  (4, .iload_n 3, 1, 0, 3, 0, [], kno),
  (5, .iconst 4, 1, 0, 0, 4, [], kno),
  (6, .if_icmp .ge 29, 3, 2, 21, 0, [], kno),
  (9, .iload_n 1, 1, 0, 1, 0, [], kno),
  (10, .ifCond .le 17, 3, 2, 17, 0, [], kno),
  (13, .aload_n 0, 1, 0, 0, 0, [], kno),
  (14, .getfield 50, 3, 7, 1, 0, [], mgr 96),
  (17, .iload_n 3, 1, 0, 3, 0, [], kno),
  (18, .iaload, 1, 7, 2, 0, [], mai),
  (19, .iload_n 1, 1, 0, 1, 0, [], kno),
  (20, .if_icmp .ne 7, 3, 2, 17, 0, [], kno),
  (23, .iload_n 3, 1, 0, 3, 0, [], kno),
  (24, .goto 4, 3, 1, 18, 0, [], kno),
  (27, .iload_n 2, 1, 0, 2, 0, [], kno),
  (28, .istore_n 2, 1, 0, 2, 0, [], kno),
  (29, .iinc 3 1, 3, 0, 3, 1, [], kno),
  (32, .goto (-28), 3, 1, 4, 0, [], kno),
  (35, .iload_n 2, 1, 0, 2, 0, [], kno),
  (36, .ireturn, 1, 5, 0, 0, [], kno)]
def G_mo_circuitOf (n : Nat) : rx_G := fun x ls st =>
  match ls, st with
  | [some (.ref r0), some (.int v1), some (.int v2), some (.int v3)], [] => (r0 = 82 ∧ up4 n v3, ry_p x.1 x.2 (mo_circuitOf_4 n x.2 v1 v2 v3))
  | _, _ => (False, (x, none))
theorem GI_mo_circuitOf {n : Nat} {x : mx} {ls : rx_L} {st : List Value} (h : (G_mo_circuitOf n x ls st).1) : ∃ (r0 : Nat) (v1 : Int32) (v2 : Int32) (v3 : Int32), ls = [some (.ref r0), some (.int v1), some (.int v2), some (.int v3)] ∧ st = [] ∧ r0 = 82 ∧ up4 n v3 := by
  unfold G_mo_circuitOf at h
  split at h
  · exact ⟨_, _, _, _, rfl, rfl, h⟩
  · exact False.elim h
theorem EH_mo_circuitOf (n : Nat) (c : mx_C) (m : mx_M) (v1 : Int32) (v2 : Int32) (v3 : Int32) : rx_ev L_mo_circuitOf [(4, G_mo_circuitOf n)] 25 (L_mo_circuitOf.drop 4) (c, m) [some (.ref 82), some (.int v1), some (.int v2), some (.int v3)] [] = ry_p c m (mo_circuitOf_4 (n + 1) m v1 v2 v3) :=
  rx_ite2 (f := ry_p c m) (fun _ => rx_ite2 (f := ry_p c m) (fun _ => rx_ite2 (f := ry_p c m) (fun _ => rfl) (fun _ => rfl)) (fun _ => rfl)) (fun _ => rfl)
theorem SH_mo_circuitOf (n : Nat) (c : mx_C) (m : mx_M) (v1 : Int32) (v2 : Int32) (v3 : Int32) (hP : up4 (n + 1) v3) : rx_sf L_mo_circuitOf [(4, G_mo_circuitOf n)] 25 (L_mo_circuitOf.drop 4) (c, m) [some (.ref 82), some (.int v1), some (.int v2), some (.int v3)] [] :=
  And.intro (fun h0 => And.intro (fun h1 => And.intro rfl (And.intro (up4_in h0 hP) (And.intro (fun h2 => And.intro rfl (up4_1 h0 hP)) (fun h2 => And.intro rfl (up4_1 h0 hP))))) (fun h1 => And.intro rfl (up4_1 h0 hP))) (fun h0 => trivial)
theorem E_mo_circuitOf (c : mx_C) (m : mx_M) (a1 : Int32)  : rx_ev L_mo_circuitOf [(4, G_mo_circuitOf (5))] 25 L_mo_circuitOf (c, m) [some (.ref 82), some (.int a1), none, none] [] = ry_p c m (mo_circuitOf m a1) :=
  rfl
theorem S_mo_circuitOf (c : mx_C) (m : mx_M) (a1 : Int32)  : rx_sf L_mo_circuitOf [(4, G_mo_circuitOf (5))] 25 L_mo_circuitOf (c, m) [some (.ref 82), some (.int a1), none, none] [] :=
  And.intro rfl (by decide)
theorem ok_mo_circuitOf : rx_okF prog_12_method_13_code 4 (some .int) L_mo_circuitOf 0 L_mo_circuitOf = true := by decide +kernel
theorem O_mo_circuitOf {l : Launch} {D : va_G} {g : Nat → ClassId} {ad : Nat → Nat} {B : Nat} (had : mx_A ad B) {p : Program} {e : Env} {s : State} {m : MethodId} {args : Array Value} {below : List Frame} {meth : Method} {c : Code} (X : ox_C p s m args c prog_12_method_13_code 4 "SubscriberLinesModel" D g ad B) : rx_ops p l e ({ frames := 0, cells := 0, slots := 0, locals := 0 } : Room) s m args below meth c prog_12_method_13_code 4 ad (mx_W D g ad B s.heap) mx_cs L_mo_circuitOf :=
  And.intro (og_mo_50_g X) (And.intro (oy_ai X) (trivial))
theorem V_mo_circuitOf {l : Launch} {D : va_G} {g : Nat → ClassId} {ad : Nat → Nat} {B : Nat} (had : mx_A ad B) : rx_V l D g ad B ⟨"SubscriberLinesModel", "circuitOf", "(I)I"⟩ prog_12_method_13_code 4 (some .int) 0 0 K_mo_circuitOf := by
  intro av x hp
  obtain ⟨a0, a1, rfl⟩ := k_RI_inv hp
  have hp : a0 = 82 := hp
  have h0 : a0 = 82 := hp
  subst h0
  refine rx_metX (k := 2) had (by decide) (Nat.le_of_ble_eq_true rfl) fun p e s m args below meth c X hr hlk => ?_
  refine rx_walk X hr hlk ok_mo_circuitOf (O_mo_circuitOf had X) (cut := [(4, G_mo_circuitOf (5))]) (rx_cc ?_ rx_c0) 25 0 rfl (S_mo_circuitOf x.1 x.2 a1 ) (E_mo_circuitOf x.1 x.2 a1 )
  refine rx_loop (G := G_mo_circuitOf) X hr hlk ok_mo_circuitOf (O_mo_circuitOf had X) rx_c0 25 4 rfl (fun x ls st h => ?_) (fun n x ls st h => ?_) _
  · obtain ⟨r0, v1, v2, v3, -, -, h3⟩ := GI_mo_circuitOf h
    have h4 := h3.2
    omega
  · obtain ⟨r0, v1, v2, v3, rfl, rfl, h3⟩ := GI_mo_circuitOf h
    obtain ⟨rfl, hP⟩ := h3
    exact ⟨SH_mo_circuitOf n x.1 x.2 v1 v2 v3 hP, EH_mo_circuitOf n x.1 x.2 v1 v2 v3⟩
theorem mo_ses {n : Nat} {v : Int32} {q : Fin 5} (h : v < Int32.ofNat q.val) (hP : up4 (n + 1) v) : vp_in v 4 ∧ up4 n (v + 1) := up4_s h hP
def mo_sessionOf_4 : Nat → mx_M → Int32 → Int32 → Int32 → Int32
  | 0, m, _, _, _ => 0
  | n + 1, m, v1, v2, v3 =>
    if v3 < (Int32.ofNat m.2.2.val) then
      if (m.1 98 (Int32.toNatClampNeg v3)) = v1 then
        mo_sessionOf_4 n m v1 v3 (v3 + 1)
      else
        mo_sessionOf_4 n m v1 v2 (v3 + 1)
    else
      v2
def mo_sessionOf (m : mx_M) (a1 : Int32) : Int32 :=
  mo_sessionOf_4 (5) m a1 (-1) 0
def K_mo_sessionOf : rx_K mx := k_RI (fun a0 a1 c m => (a0 = 82, (c, m), some (.int (mo_sessionOf m a1))))
def L_mo_sessionOf : List (rx_E mx) := [
  (0, .iconst (-1), 1, 0, 0, (-1), [], kno),
  (1, .istore_n 2, 1, 0, 2, 0, [], kno),
  (2, .iconst 0, 1, 0, 0, 0, [], kno),
  (3, .istore_n 3, 1, 0, 3, 0, [], kno),
  (4, .iload_n 3, 1, 0, 3, 0, [], kno),
  (5, .aload_n 0, 1, 0, 0, 0, [], kno),
  (6, .getfield 135, 3, 7, 1, 0, [], mgs),
  (9, .if_icmp .ge 25, 3, 2, 20, 0, [], kno),
  (12, .aload_n 0, 1, 0, 0, 0, [], kno),
  (13, .getfield 56, 3, 7, 1, 0, [], mgr 98),
  (16, .iload_n 3, 1, 0, 3, 0, [], kno),
  (17, .iaload, 1, 7, 2, 0, [], mai),
  (18, .iload_n 1, 1, 0, 1, 0, [], kno),
  (19, .if_icmp .ne 7, 3, 2, 16, 0, [], kno),
  (22, .iload_n 3, 1, 0, 3, 0, [], kno),
  (23, .goto 4, 3, 1, 17, 0, [], kno),
  (26, .iload_n 2, 1, 0, 2, 0, [], kno),
  (27, .istore_n 2, 1, 0, 2, 0, [], kno),
  (28, .iinc 3 1, 3, 0, 3, 1, [], kno),
  (31, .goto (-27), 3, 1, 4, 0, [], kno),
  (34, .iload_n 2, 1, 0, 2, 0, [], kno),
  (35, .ireturn, 1, 5, 0, 0, [], kno)]
def G_mo_sessionOf (n : Nat) : rx_G := fun x ls st =>
  match ls, st with
  | [some (.ref r0), some (.int v1), some (.int v2), some (.int v3)], [] => (r0 = 82 ∧ up4 n v3, ry_p x.1 x.2 (mo_sessionOf_4 n x.2 v1 v2 v3))
  | _, _ => (False, (x, none))
theorem GI_mo_sessionOf {n : Nat} {x : mx} {ls : rx_L} {st : List Value} (h : (G_mo_sessionOf n x ls st).1) : ∃ (r0 : Nat) (v1 : Int32) (v2 : Int32) (v3 : Int32), ls = [some (.ref r0), some (.int v1), some (.int v2), some (.int v3)] ∧ st = [] ∧ r0 = 82 ∧ up4 n v3 := by
  unfold G_mo_sessionOf at h
  split at h
  · exact ⟨_, _, _, _, rfl, rfl, h⟩
  · exact False.elim h
theorem EH_mo_sessionOf (n : Nat) (c : mx_C) (m : mx_M) (v1 : Int32) (v2 : Int32) (v3 : Int32) : rx_ev L_mo_sessionOf [(4, G_mo_sessionOf n)] 24 (L_mo_sessionOf.drop 4) (c, m) [some (.ref 82), some (.int v1), some (.int v2), some (.int v3)] [] = ry_p c m (mo_sessionOf_4 (n + 1) m v1 v2 v3) :=
  rx_ite2 (f := ry_p c m) (fun _ => rx_ite2 (f := ry_p c m) (fun _ => rfl) (fun _ => rfl)) (fun _ => rfl)
theorem SH_mo_sessionOf (n : Nat) (c : mx_C) (m : mx_M) (v1 : Int32) (v2 : Int32) (v3 : Int32) (hP : up4 (n + 1) v3) : rx_sf L_mo_sessionOf [(4, G_mo_sessionOf n)] 24 (L_mo_sessionOf.drop 4) (c, m) [some (.ref 82), some (.int v1), some (.int v2), some (.int v3)] [] :=
  And.intro rfl (And.intro (fun h0 => And.intro rfl (And.intro (mo_ses h0 hP).1 (And.intro (fun h1 => And.intro rfl (mo_ses h0 hP).2) (fun h1 => And.intro rfl (mo_ses h0 hP).2)))) (fun h0 => trivial))
theorem E_mo_sessionOf (c : mx_C) (m : mx_M) (a1 : Int32)  : rx_ev L_mo_sessionOf [(4, G_mo_sessionOf (5))] 24 L_mo_sessionOf (c, m) [some (.ref 82), some (.int a1), none, none] [] = ry_p c m (mo_sessionOf m a1) :=
  rfl
theorem S_mo_sessionOf (c : mx_C) (m : mx_M) (a1 : Int32)  : rx_sf L_mo_sessionOf [(4, G_mo_sessionOf (5))] 24 L_mo_sessionOf (c, m) [some (.ref 82), some (.int a1), none, none] [] :=
  And.intro rfl (by decide)
theorem og_mo_135_g {p : Program} {l : Launch} {e : Env} {R : Room} {s : State} {m : MethodId} {args : Array Value} {below : List Frame} {meth : Method} {c : Code} {cc : ByteArray} {nL : Nat} {ad : Nat → Nat} {D : va_G} {g : Nat → ClassId} {B : Nat} (X : ox_C p s m args c cc nL "SubscriberLinesModel" D g ad B) : rx_OK p l e R s m args below meth c cc nL ad (mx_W D g ad B s.heap) mx_cs (.getfield 135) 3 1 (mgs) := oy_gs X (al_at 729 (by decide +kernel) rfl)
theorem og_mo_56_g {p : Program} {l : Launch} {e : Env} {R : Room} {s : State} {m : MethodId} {args : Array Value} {below : List Frame} {meth : Method} {c : Code} {cc : ByteArray} {nL : Nat} {ad : Nat → Nat} {D : va_G} {g : Nat → ClassId} {B : Nat} (X : ox_C p s m args c cc nL "SubscriberLinesModel" D g ad B) : rx_OK p l e R s m args below meth c cc nL ad (mx_W D g ad B s.heap) mx_cs (.getfield 56) 3 1 (mgr 98) := oy_gr (k := 19) X (by decide) rfl (al_at 730 (by decide +kernel) rfl)
theorem ok_mo_sessionOf : rx_okF prog_12_method_20_code 4 (some .int) L_mo_sessionOf 0 L_mo_sessionOf = true := by decide +kernel
theorem O_mo_sessionOf {l : Launch} {D : va_G} {g : Nat → ClassId} {ad : Nat → Nat} {B : Nat} (had : mx_A ad B) {p : Program} {e : Env} {s : State} {m : MethodId} {args : Array Value} {below : List Frame} {meth : Method} {c : Code} (X : ox_C p s m args c prog_12_method_20_code 4 "SubscriberLinesModel" D g ad B) : rx_ops p l e ({ frames := 0, cells := 0, slots := 0, locals := 0 } : Room) s m args below meth c prog_12_method_20_code 4 ad (mx_W D g ad B s.heap) mx_cs L_mo_sessionOf :=
  And.intro (og_mo_135_g X) (And.intro (og_mo_56_g X) (And.intro (oy_ai X) (trivial)))
theorem V_mo_sessionOf {l : Launch} {D : va_G} {g : Nat → ClassId} {ad : Nat → Nat} {B : Nat} (had : mx_A ad B) : rx_V l D g ad B ⟨"SubscriberLinesModel", "sessionOf", "(I)I"⟩ prog_12_method_20_code 4 (some .int) 0 0 K_mo_sessionOf := by
  intro av x hp
  obtain ⟨a0, a1, rfl⟩ := k_RI_inv hp
  have hp : a0 = 82 := hp
  have h0 : a0 = 82 := hp
  subst h0
  refine rx_metX (k := 2) had (by decide) (Nat.le_of_ble_eq_true rfl) fun p e s m args below meth c X hr hlk => ?_
  refine rx_walk X hr hlk ok_mo_sessionOf (O_mo_sessionOf had X) (cut := [(4, G_mo_sessionOf (5))]) (rx_cc ?_ rx_c0) 24 0 rfl (S_mo_sessionOf x.1 x.2 a1 ) (E_mo_sessionOf x.1 x.2 a1 )
  refine rx_loop (G := G_mo_sessionOf) X hr hlk ok_mo_sessionOf (O_mo_sessionOf had X) rx_c0 24 4 rfl (fun x ls st h => ?_) (fun n x ls st h => ?_) _
  · obtain ⟨r0, v1, v2, v3, -, -, h3⟩ := GI_mo_sessionOf h
    have h4 := h3.2
    omega
  · obtain ⟨r0, v1, v2, v3, rfl, rfl, h3⟩ := GI_mo_sessionOf h
    obtain ⟨rfl, hP⟩ := h3
    exact ⟨SH_mo_sessionOf n x.1 x.2 v1 v2 v3 hP, EH_mo_sessionOf n x.1 x.2 v1 v2 v3⟩
def mo_es (m : mx_M) (v : Int32) : Prop := 0 ≤ v.toInt ∧ v.toInt < (m.2.2.val : Int)
abbrev mo_eP (n : Nat) (v : Int32) (q : Fin 5) : Prop := 0 ≤ v.toInt ∧ v.toInt ≤ 4 ∧ 4 < (n : Int) + v.toInt ∧ q.val ≤ 3
theorem mo_eP1 {n : Nat} {v : Int32} {q : Fin 5} (h : v < Int32.ofNat q.val) (hP : mo_eP (n + 1) v q) : (vp_in v 4 ∧ vp_in (v + 1) 4) ∧ mo_eP n (v + 1) q := by
  obtain ⟨p1, p2, p3, p4⟩ := hP
  rw [i_lt, i_of _ (by omega)] at h
  have e : (v + 1).toInt = v.toInt + 1 := i_add (show _ ≤ v.toInt + 1 by omega) (show v.toInt + 1 < _ by omega)
  refine ⟨⟨by rw [i_in]; omega, by rw [i_in, e]; omega⟩, ?_⟩
  unfold mo_eP
  rw [e]
  omega
theorem mo_es1 {m : mx_M} {v : Int32} (h : mo_es m v) : vp_in (Int32.ofNat m.2.2.val - 1) 5 ∧ mo_eP 6 v (my_ps m (Int32.ofNat m.2.2.val - 1)).2.2 := by
  have hq := m.2.2.isLt
  unfold mo_es at h
  refine ⟨sc_dec (by omega), h.1, by omega, by omega, ?_⟩
  show (Int32.ofNat m.2.2.val - 1).toNatClampNeg % 5 ≤ 3
  rw [sc_nat (by omega), Nat.mod_eq_of_lt (by omega)]
  omega
def mo_endSession_12 : Nat → mx_M → Int32 → Int32 → mx_M
  | 0, m, _, _ => m
  | n + 1, m, v1, v2 =>
    if v2 < (Int32.ofNat m.2.2.val) then
      let m1 := my_pi m 98 (Int32.toNatClampNeg v2) (m.1 98 (Int32.toNatClampNeg (v2 + 1)))
      let m2 := my_pi m1 99 (Int32.toNatClampNeg v2) (m1.1 99 (Int32.toNatClampNeg (v2 + 1)))
      let m3 := my_pi m2 100 (Int32.toNatClampNeg v2) (m2.1 100 (Int32.toNatClampNeg (v2 + 1)))
      let m4 := my_pi m3 101 (Int32.toNatClampNeg v2) (m3.1 101 (Int32.toNatClampNeg (v2 + 1)))
      let m5 := my_pi m4 102 (Int32.toNatClampNeg v2) (m4.1 102 (Int32.toNatClampNeg (v2 + 1)))
      mo_endSession_12 n m5 v1 (v2 + 1)
    else
      m
def mo_endSession (m : mx_M) (a1 : Int32) : mx_M :=
  let m1 := my_ps m ((Int32.ofNat m.2.2.val) - 1)
  mo_endSession_12 (6) m1 a1 a1
def K_mo_endSession : rx_K mx := k_RI (fun a0 a1 c m => (a0 = 82 ∧ mo_es m a1, (c, mo_endSession m a1), none))
def L_mo_endSession : List (rx_E mx) := [
  (0, .aload_n 0, 1, 0, 0, 0, [], kno),
  (1, .dup, 1, 0, 0, 0, [], kno),
  (2, .getfield 135, 3, 7, 1, 0, [], mgs),
  (5, .iconst 1, 1, 0, 0, 1, [], kno),
  (6, .isub, 1, 0, 0, 0, [], kno),
  (7, .putfield 135, 3, 7, 2, 0, [], mps),
  (10, .iload_n 1, 1, 0, 1, 0, [], kno),
  (11, .istore_n 2, 1, 0, 2, 0, [], kno),
  (12, .iload_n 2, 1, 0, 2, 0, [], kno),
  (13, .aload_n 0, 1, 0, 0, 0, [], kno),
  (14, .getfield 135, 3, 7, 1, 0, [], mgs),
  (17, .if_icmp .ge 79, 3, 2, 64, 0, [], kno),
  (20, .aload_n 0, 1, 0, 0, 0, [], kno),
  (21, .getfield 56, 3, 7, 1, 0, [], mgr 98),
  (24, .iload_n 2, 1, 0, 2, 0, [], kno),
  (25, .aload_n 0, 1, 0, 0, 0, [], kno),
  (26, .getfield 56, 3, 7, 1, 0, [], mgr 98),
  (29, .iload_n 2, 1, 0, 2, 0, [], kno),
  (30, .iconst 1, 1, 0, 0, 1, [], kno),
  (31, .iadd, 1, 0, 0, 0, [], kno),
  (32, .iaload, 1, 7, 2, 0, [], mai),
  (33, .iastore, 1, 7, 3, 0, [], mpa),
  (34, .aload_n 0, 1, 0, 0, 0, [], kno),
  (35, .getfield 59, 3, 7, 1, 0, [], mgr 99),
  (38, .iload_n 2, 1, 0, 2, 0, [], kno),
  (39, .aload_n 0, 1, 0, 0, 0, [], kno),
  (40, .getfield 59, 3, 7, 1, 0, [], mgr 99),
  (43, .iload_n 2, 1, 0, 2, 0, [], kno),
  (44, .iconst 1, 1, 0, 0, 1, [], kno),
  (45, .iadd, 1, 0, 0, 0, [], kno),
  (46, .iaload, 1, 7, 2, 0, [], mai),
  (47, .iastore, 1, 7, 3, 0, [], mpa),
  (48, .aload_n 0, 1, 0, 0, 0, [], kno),
  (49, .getfield 62, 3, 7, 1, 0, [], mgr 100),
  (52, .iload_n 2, 1, 0, 2, 0, [], kno),
  (53, .aload_n 0, 1, 0, 0, 0, [], kno),
  (54, .getfield 62, 3, 7, 1, 0, [], mgr 100),
  (57, .iload_n 2, 1, 0, 2, 0, [], kno),
  (58, .iconst 1, 1, 0, 0, 1, [], kno),
  (59, .iadd, 1, 0, 0, 0, [], kno),
  (60, .iaload, 1, 7, 2, 0, [], mai),
  (61, .iastore, 1, 7, 3, 0, [], mpa),
  (62, .aload_n 0, 1, 0, 0, 0, [], kno),
  (63, .getfield 65, 3, 7, 1, 0, [], mgr 101),
  (66, .iload_n 2, 1, 0, 2, 0, [], kno),
  (67, .aload_n 0, 1, 0, 0, 0, [], kno),
  (68, .getfield 65, 3, 7, 1, 0, [], mgr 101),
  (71, .iload_n 2, 1, 0, 2, 0, [], kno),
  (72, .iconst 1, 1, 0, 0, 1, [], kno),
  (73, .iadd, 1, 0, 0, 0, [], kno),
  (74, .iaload, 1, 7, 2, 0, [], mai),
  (75, .iastore, 1, 7, 3, 0, [], mpa),
  (76, .aload_n 0, 1, 0, 0, 0, [], kno),
  (77, .getfield 68, 3, 7, 1, 0, [], mgr 102),
  (80, .iload_n 2, 1, 0, 2, 0, [], kno),
  (81, .aload_n 0, 1, 0, 0, 0, [], kno),
  (82, .getfield 68, 3, 7, 1, 0, [], mgr 102),
  (85, .iload_n 2, 1, 0, 2, 0, [], kno),
  (86, .iconst 1, 1, 0, 0, 1, [], kno),
  (87, .iadd, 1, 0, 0, 0, [], kno),
  (88, .iaload, 1, 7, 2, 0, [], mai),
  (89, .iastore, 1, 7, 3, 0, [], mpa),
  (90, .iinc 2 1, 3, 0, 2, 1, [], kno),
  (93, .goto (-81), 3, 1, 8, 0, [], kno),
  (96, .return_, 1, 6, 0, 0, [], kno)]
def G_mo_endSession (n : Nat) : rx_G := fun x ls st =>
  match ls, st with
  | [some (.ref r0), some (.int v1), some (.int v2)], [] => (r0 = 82 ∧ mo_eP n v2 x.2.2.2, ry_v x.1 (mo_endSession_12 n x.2 v1 v2))
  | _, _ => (False, (x, none))
theorem GI_mo_endSession {n : Nat} {x : mx} {ls : rx_L} {st : List Value} (h : (G_mo_endSession n x ls st).1) : ∃ (r0 : Nat) (v1 : Int32) (v2 : Int32), ls = [some (.ref r0), some (.int v1), some (.int v2)] ∧ st = [] ∧ r0 = 82 ∧ mo_eP n v2 x.2.2.2 := by
  unfold G_mo_endSession at h
  split at h
  · exact ⟨_, _, _, rfl, rfl, h⟩
  · exact False.elim h
theorem EH_mo_endSession (n : Nat) (c : mx_C) (m : mx_M) (v1 : Int32) (v2 : Int32) : rx_ev L_mo_endSession [(12, G_mo_endSession n)] 67 (L_mo_endSession.drop 8) (c, m) [some (.ref 82), some (.int v1), some (.int v2)] [] = ry_v c (mo_endSession_12 (n + 1) m v1 v2) :=
  rx_ite2 (f := ry_v c) (fun _ => rfl) (fun _ => rfl)
theorem SH_mo_endSession (n : Nat) (c : mx_C) (m : mx_M) (v1 : Int32) (v2 : Int32) (hP : mo_eP (n + 1) v2 m.2.2) : rx_sf L_mo_endSession [(12, G_mo_endSession n)] 67 (L_mo_endSession.drop 8) (c, m) [some (.ref 82), some (.int v1), some (.int v2)] [] :=
  And.intro rfl (And.intro (fun h0 => And.intro rfl (And.intro rfl (And.intro (mo_eP1 h0 hP).1.2 (And.intro (mo_eP1 h0 hP).1.1 (And.intro rfl (And.intro rfl (And.intro (mo_eP1 h0 hP).1.2 (And.intro (mo_eP1 h0 hP).1.1 (And.intro rfl (And.intro rfl (And.intro (mo_eP1 h0 hP).1.2 (And.intro (mo_eP1 h0 hP).1.1 (And.intro rfl (And.intro rfl (And.intro (mo_eP1 h0 hP).1.2 (And.intro (mo_eP1 h0 hP).1.1 (And.intro rfl (And.intro rfl (And.intro (mo_eP1 h0 hP).1.2 (And.intro (mo_eP1 h0 hP).1.1 (And.intro rfl (mo_eP1 h0 hP).2))))))))))))))))))))) (fun h0 => trivial))
theorem E_mo_endSession (c : mx_C) (m : mx_M) (a1 : Int32)  : rx_ev L_mo_endSession [(12, G_mo_endSession (6))] 67 L_mo_endSession (c, m) [some (.ref 82), some (.int a1), none] [] = ry_v c (mo_endSession m a1) :=
  rfl
theorem S_mo_endSession (c : mx_C) (m : mx_M) (a1 : Int32) (hs : mo_es m a1) : rx_sf L_mo_endSession [(12, G_mo_endSession (6))] 67 L_mo_endSession (c, m) [some (.ref 82), some (.int a1), none] [] :=
  And.intro rfl (And.intro (And.intro rfl (mo_es1 hs).1) (And.intro rfl (mo_es1 hs).2))
theorem og_mo_59_g {p : Program} {l : Launch} {e : Env} {R : Room} {s : State} {m : MethodId} {args : Array Value} {below : List Frame} {meth : Method} {c : Code} {cc : ByteArray} {nL : Nat} {ad : Nat → Nat} {D : va_G} {g : Nat → ClassId} {B : Nat} (X : ox_C p s m args c cc nL "SubscriberLinesModel" D g ad B) : rx_OK p l e R s m args below meth c cc nL ad (mx_W D g ad B s.heap) mx_cs (.getfield 59) 3 1 (mgr 99) := oy_gr (k := 20) X (by decide) rfl (al_at 731 (by decide +kernel) rfl)
theorem og_mo_62_g {p : Program} {l : Launch} {e : Env} {R : Room} {s : State} {m : MethodId} {args : Array Value} {below : List Frame} {meth : Method} {c : Code} {cc : ByteArray} {nL : Nat} {ad : Nat → Nat} {D : va_G} {g : Nat → ClassId} {B : Nat} (X : ox_C p s m args c cc nL "SubscriberLinesModel" D g ad B) : rx_OK p l e R s m args below meth c cc nL ad (mx_W D g ad B s.heap) mx_cs (.getfield 62) 3 1 (mgr 100) := oy_gr (k := 21) X (by decide) rfl (al_at 732 (by decide +kernel) rfl)
theorem og_mo_65_g {p : Program} {l : Launch} {e : Env} {R : Room} {s : State} {m : MethodId} {args : Array Value} {below : List Frame} {meth : Method} {c : Code} {cc : ByteArray} {nL : Nat} {ad : Nat → Nat} {D : va_G} {g : Nat → ClassId} {B : Nat} (X : ox_C p s m args c cc nL "SubscriberLinesModel" D g ad B) : rx_OK p l e R s m args below meth c cc nL ad (mx_W D g ad B s.heap) mx_cs (.getfield 65) 3 1 (mgr 101) := oy_gr (k := 22) X (by decide) rfl (al_at 733 (by decide +kernel) rfl)
theorem og_mo_68_g {p : Program} {l : Launch} {e : Env} {R : Room} {s : State} {m : MethodId} {args : Array Value} {below : List Frame} {meth : Method} {c : Code} {cc : ByteArray} {nL : Nat} {ad : Nat → Nat} {D : va_G} {g : Nat → ClassId} {B : Nat} (X : ox_C p s m args c cc nL "SubscriberLinesModel" D g ad B) : rx_OK p l e R s m args below meth c cc nL ad (mx_W D g ad B s.heap) mx_cs (.getfield 68) 3 1 (mgr 102) := oy_gr (k := 23) X (by decide) rfl (al_at 734 (by decide +kernel) rfl)
theorem ok_mo_endSession : rx_okF prog_12_method_21_code 3 none L_mo_endSession 0 L_mo_endSession = true := by decide +kernel
theorem O_mo_endSession {l : Launch} {D : va_G} {g : Nat → ClassId} {ad : Nat → Nat} {B : Nat} (had : mx_A ad B) {p : Program} {e : Env} {s : State} {m : MethodId} {args : Array Value} {below : List Frame} {meth : Method} {c : Code} (X : ox_C p s m args c prog_12_method_21_code 3 "SubscriberLinesModel" D g ad B) : rx_ops p l e ({ frames := 0, cells := 0, slots := 0, locals := 0 } : Room) s m args below meth c prog_12_method_21_code 3 ad (mx_W D g ad B s.heap) mx_cs L_mo_endSession :=
  And.intro (og_mo_135_g X) (And.intro (og_mo_135_p X) (And.intro (og_mo_135_g X) (And.intro (og_mo_56_g X) (And.intro (og_mo_56_g X) (And.intro (oy_ai X) (And.intro (oy_pa X) (And.intro (og_mo_59_g X) (And.intro (og_mo_59_g X) (And.intro (oy_ai X) (And.intro (oy_pa X) (And.intro (og_mo_62_g X) (And.intro (og_mo_62_g X) (And.intro (oy_ai X) (And.intro (oy_pa X) (And.intro (og_mo_65_g X) (And.intro (og_mo_65_g X) (And.intro (oy_ai X) (And.intro (oy_pa X) (And.intro (og_mo_68_g X) (And.intro (og_mo_68_g X) (And.intro (oy_ai X) (And.intro (oy_pa X) (trivial)))))))))))))))))))))))
theorem V_mo_endSession {l : Launch} {D : va_G} {g : Nat → ClassId} {ad : Nat → Nat} {B : Nat} (had : mx_A ad B) : rx_V l D g ad B ⟨"SubscriberLinesModel", "endSession", "(I)V"⟩ prog_12_method_21_code 3 none 0 0 K_mo_endSession := by
  intro av x hp
  obtain ⟨a0, a1, rfl⟩ := k_RI_inv hp
  have hp : a0 = 82 ∧ mo_es x.2 a1 := hp
  have h0 : a0 = 82 := hp.1
  subst h0
  refine rx_metX (k := 1) had (by decide) (Nat.le_of_ble_eq_true rfl) fun p e s m args below meth c X hr hlk => ?_
  refine rx_walk X hr hlk ok_mo_endSession (O_mo_endSession had X) (cut := [(12, G_mo_endSession (6))]) (rx_cc ?_ rx_c0) 67 0 rfl (S_mo_endSession x.1 x.2 a1 hp.2) (E_mo_endSession x.1 x.2 a1 )
  refine rx_loop (G := G_mo_endSession) X hr hlk ok_mo_endSession (O_mo_endSession had X) rx_c0 67 8 rfl (fun x ls st h => ?_) (fun n x ls st h => ?_) _
  · obtain ⟨r0, v1, v2, -, -, h3⟩ := GI_mo_endSession h
    have h4 := h3.2
    omega
  · obtain ⟨r0, v1, v2, rfl, rfl, h3⟩ := GI_mo_endSession h
    obtain ⟨rfl, hP⟩ := h3
    exact ⟨SH_mo_endSession n x.1 x.2 v1 v2 hP, EH_mo_endSession n x.1 x.2 v1 v2⟩
end
section
def fz (m m' : mx_M) : Prop := m'.1 107 = m.1 107 ∧ m'.1 108 = m.1 108 ∧ m'.1 109 = m.1 109
theorem fz_rf (m : mx_M) : fz m m := ⟨rfl, rfl, rfl⟩
theorem fz_tr {a b c : mx_M} (h1 : fz a b) (h2 : fz b c) : fz a c := ⟨h2.1.trans h1.1, h2.2.1.trans h1.2.1, h2.2.2.trans h1.2.2⟩
theorem fz_fy {m m' : mx_M} (h : fy m m') : fz m m' := ⟨h.2 107 (by decide), h.2 108 (by decide), h.2 109 (by decide)⟩
theorem fz_pi (m : mx_M) (i k : Nat) (v : Int32) (h : ¬ i = 107 ∧ ¬ i = 108 ∧ ¬ i = 109) : fz m (my_pi m i k v) := ⟨mx_up_row _ _ _ _ (fun q => h.1 q.symm), mx_up_row _ _ _ _ (fun q => h.2.1 q.symm), mx_up_row _ _ _ _ (fun q => h.2.2 q.symm)⟩
theorem fz_ps (m : mx_M) (v : Int32) : fz m (my_ps m v) := ⟨rfl, rfl, rfl⟩
def mo_b (m : mx_M) (k : Int) : Prop := ∀ e : Nat, e < 2 → 0 ≤ (m.1 107 e).toInt ∧ (m.1 107 e).toInt ≤ (m.1 109 e).toInt ∧ 0 ≤ (m.1 108 e).toInt ∧ (m.1 109 e).toInt ≤ k
theorem mo_b_fz {m m' : mx_M} {k : Int} (hf : fz m m') (h : mo_b m k) : mo_b m' k := by
  intro e he
  rw [hf.1, hf.2.1, hf.2.2]
  exact h e he
theorem mo_b_mono {m : mx_M} {k k' : Int} (h : mo_b m k) (hk : k ≤ k') : mo_b m k' := by
  intro e he
  have := h e he
  omega
theorem mo_b_pi {m : mx_M} {k : Int} {i j : Nat} {v : Int32} (h : ¬ i = 107 ∧ ¬ i = 108 ∧ ¬ i = 109) (hb : mo_b m k) : mo_b (my_pi m i j v) k := mo_b_fz (fz_pi m i j v h) hb
theorem mo_e2 {e : Int32} (he : vp_in e 2) : e.toNatClampNeg < 2 := Nat.not_le.mp fun q => he (Or.inr q)
theorem mo_b_sy {m : mx_M} {k : Int} {e : Int32} (h : mo_b m k) (hk : k ≤ 1399) (he : vp_in e 2) : mo_sy m e := by
  have := h _ (mo_e2 he)
  exact ⟨he, by omega, by omega, by omega⟩
theorem mo_b_so {m : mx_M} {k : Int} {e : Int32} (h : mo_b m k) (hk : k ≤ 1400) (he : vp_in e 2) : mo_so m e := by
  have := h _ (mo_e2 he)
  exact ⟨he, by omega, by omega⟩
theorem mo_b_et {m : mx_M} {k : Int} {e : Int32} (h : mo_b m k) (hk : k ≤ 1399) (he : vp_in e 2) : mo_et m e := by
  have := h _ (mo_e2 he)
  exact ⟨he, by omega⟩
theorem mo_b_clear {m : mx_M} {k : Int} {e n : Int32} (h : mo_b m k) (hk : 0 ≤ k) : mo_b (mo_clear m e n) k := by
  intro e' he'
  have hb := h e' he'
  unfold mo_clear
  simp only [my_pi]
  by_cases hq : e' = e.toNatClampNeg
  · subst hq
    have z : (0 : Int32).toInt = 0 := rfl
    refine ⟨?_, ?_, ?_, ?_⟩ <;> (repeat (first | rw [mx_up_eq] | rw [mx_up_ne _ _ (by omega)])) <;> simp [z, hk]
  · refine ⟨?_, ?_, ?_, ?_⟩ <;> (repeat rw [mx_up_ne _ _ (by omega)]) <;> omega
theorem mo_b_sent {m : mx_M} {k : Int} {j : Nat} {v : Int32} (h : mo_b m k) (hv : 0 ≤ v.toInt) : mo_b (my_pi m 108 j v) k := by
  intro e he
  have hb := h e he
  simp only [my_pi]
  rw [mx_up_ne (a := 107) _ _ (by omega), mx_up_ne (a := 109) _ _ (by omega)]
  by_cases hq : e = j
  · subst hq; rw [mx_up_eq]; omega
  · rw [mx_up_ne (a := 108) _ _ (by omega)]; omega
theorem mo_b_soL (e : Int32) (he : vp_in e 2) (k : Int) (hk : k ≤ 1400) : ∀ (n : Nat) (m : mx_M), mo_b m k → mo_b (mo_sendOpen_0 n m e) k := by
  intro n
  induction n with
  | zero => intro m h; exact h
  | succ n ih =>
    intro m h
    unfold mo_sendOpen_0
    split
    · rename_i h1
      split
      · refine ih _ (mo_b_sent (mo_b_fz (fz_fy (fy_transmit _ _ _)) h) ?_)
        have hb := h _ (mo_e2 he)
        rw [i_lt] at h1
        rw [(fy_transmit m e (m.1 108 (Int32.toNatClampNeg e))).2 108 (by decide), i_add (show _ ≤ (m.1 108 e.toNatClampNeg).toInt + 1 by omega) (show (m.1 108 e.toNatClampNeg).toInt + 1 < _ by omega)]
        show 0 ≤ (m.1 108 e.toNatClampNeg).toInt + 1
        omega
      · exact h
    · exact h
theorem mo_sendOpen_eq (m : mx_M) (e : Int32) : mo_sendOpen m e = mo_sendOpen_0 1403 m e := rfl
theorem mo_b_sendOpen {m : mx_M} {k : Int} {e : Int32} (h : mo_b m k) (hk : k ≤ 1400) (he : vp_in e 2) : mo_b (mo_sendOpen m e) k := by
  rw [mo_sendOpen_eq]
  exact mo_b_soL e he k hk 1403 m h
theorem mo_b_put {m : mx_M} {k k' : Int} {j : Nat} {v : Int32} (h : mo_b m k) (hj : j < 2) (hv : v = m.1 109 j + 1) (hk : k + 1 ≤ k') (hk2 : k ≤ 1399) : mo_b (my_pi m 109 j v) k' := by
  intro e he
  have hb := h e he
  simp only [my_pi]
  rw [mx_up_ne (a := 107) _ _ (by omega), mx_up_ne (a := 108) _ _ (by omega)]
  by_cases hq : e = j
  · subst hq
    rw [mx_up_eq, hv, i_add (show _ ≤ (m.1 109 e).toInt + 1 by omega) (show (m.1 109 e).toInt + 1 < _ by omega)]
    show _ ∧ _ ≤ (m.1 109 e).toInt + 1 ∧ _ ∧ (m.1 109 e).toInt + 1 ≤ k'
    omega
  · rw [mx_up_ne (a := 109) _ _ (by omega)]; omega
theorem mo_b_say {m : mx_M} {k k' : Int} {e a b c : Int32} (h : mo_b m k) (hk : k + 1 ≤ k') (hk2 : k ≤ 1399) (he : vp_in e 2) : mo_b (mo_say m e a b c) k' := by
  have hk3 : k' ≤ 1400 ∨ 1400 < k' := by omega
  unfold mo_say
  split
  · exact mo_b_mono h (by omega)
  · dsimp only
    have h1 : ∀ (i : Nat), mo_b (my_pi (my_pi (my_pi m 113 i a) 114 i b) 115 i c) k := fun i => mo_b_pi (by decide) (mo_b_pi (by decide) (mo_b_pi (by decide) h))
    have h2 := fun i => mo_b_put (k' := k + 1) (h1 i) (mo_e2 he) rfl (Int.le_refl _) hk2
    split
    · exact mo_b_mono (mo_b_sendOpen (mo_b_pi (by decide) (mo_b_pi (by decide) (h2 _))) (by omega) he) hk
    · exact mo_b_mono (mo_b_sendOpen (h2 _) (by omega) he) hk
def mo_j (m : mx_M) (k : Int) (s : Int32) : Prop := vp_in s 4 ∧ mo_b m k
def mo_takeDown (m : mx_M) (a1 : Int32) : mx_M :=
  let m1 := my_pi m 96 (Int32.toNatClampNeg a1) 0
  let m2 := my_pi m1 97 (Int32.toNatClampNeg a1) 0
  if 0 < (m.1 97 (Int32.toNatClampNeg a1)) then
    let m3 := mo_say m2 0 15 (m.1 97 (Int32.toNatClampNeg a1)) 0
    m3
  else
    m2
def K_mo_takeDown : rx_K mx := k_RI (fun a0 a1 c m => (a0 = 82 ∧ mo_j m 1399 a1, (c, mo_takeDown m a1), none))
def L_mo_takeDown : List (rx_E mx) := [
  (0, .aload_n 0, 1, 0, 0, 0, [], kno),
  (1, .getfield 53, 3, 7, 1, 0, [], mgr 97),
  (4, .iload_n 1, 1, 0, 1, 0, [], kno),
  (5, .iaload, 1, 7, 2, 0, [], mai),
  (6, .istore_n 2, 1, 0, 2, 0, [], kno),
  (7, .aload_n 0, 1, 0, 0, 0, [], kno),
  (8, .getfield 50, 3, 7, 1, 0, [], mgr 96),
  (11, .iload_n 1, 1, 0, 1, 0, [], kno),
  (12, .iconst 0, 1, 0, 0, 0, [], kno),
  (13, .iastore, 1, 7, 3, 0, [], mpa),
  (14, .aload_n 0, 1, 0, 0, 0, [], kno),
  (15, .getfield 53, 3, 7, 1, 0, [], mgr 97),
  (18, .iload_n 1, 1, 0, 1, 0, [], kno),
  (19, .iconst 0, 1, 0, 0, 0, [], kno),
  (20, .iastore, 1, 7, 3, 0, [], mpa),
  (21, .iload_n 2, 1, 0, 2, 0, [], kno),
  (22, .ifCond .le 12, 3, 2, 23, 0, [], kno),
  (25, .aload_n 0, 1, 0, 0, 0, [], kno),
  (26, .iconst 0, 1, 0, 0, 0, [], kno),
  (27, .bipush 15, 2, 0, 0, 15, [], kno),
  (29, .iload_n 2, 1, 0, 2, 0, [], kno),
  (30, .iconst 0, 1, 0, 0, 0, [], kno),
  (31, .invokevirtual 149, 3, 7, 5, 0, [], K_mo_say),
  (34, .return_, 1, 6, 0, 0, [], kno)]
theorem E_mo_takeDown (c : mx_C) (m : mx_M) (a1 : Int32)  : rx_ev L_mo_takeDown [] 26 L_mo_takeDown (c, m) [some (.ref 82), some (.int a1), none] [] = ry_v c (mo_takeDown m a1) :=
  rx_ite2 (f := ry_v c) (fun h0 => rfl) (fun h0 => rfl)
theorem S_mo_takeDown (c : mx_C) (m : mx_M) (a1 : Int32) (hj : mo_j m 1399 a1) : rx_sf L_mo_takeDown [] 26 L_mo_takeDown (c, m) [some (.ref 82), some (.int a1), none] [] :=
  And.intro rfl (And.intro hj.1 (And.intro rfl (And.intro hj.1 (And.intro rfl (And.intro hj.1 (And.intro (fun h0 => And.intro (And.intro rfl (mo_b_sy (mo_b_pi (by decide) (mo_b_pi (by decide) hj.2)) (by decide) (i_in.mpr (by decide)))) (trivial)) (fun h0 => trivial)))))))

theorem cv_mo_say {p : Program} {l : Launch} {e : Env} {R : Room} {s : State} {m : MethodId} {args : Array Value} {below : List Frame} {meth : Method} {c : Code} {cc : ByteArray} {nL : Nat} {ad : Nat → Nat} {D : va_G} {g : Nat → ClassId} {B : Nat} {own : String} {idx : Nat} (X : ox_C p s m args c cc nL own D g ad B) (hV : rx_V l D g ad B ⟨"SubscriberLinesModel", "say", "(IIII)V"⟩ prog_12_method_8_code 6 none 3 73 K_mo_say) (hl : Cond.methodLink own idx ⟨"SubscriberLinesModel", "say", "(IIII)V"⟩ ∈ al) (hR : 3 + 1 ≤ R.frames ∧ 8 + (6 + 11) + 73 ≤ R.locals) : rx_OK p l e R s m args below meth c cc nL ad (mx_W D g ad B s.heap) mx_cs (.invokevirtual idx) 3 5 (K_mo_say) :=
  ox_callV (q := 9) (T := T_9) X hV (fun av x h => by obtain ⟨a0, a1, a2, a3, a4, rfl⟩ := k_RIIII_inv h; exact ⟨a0, _, rfl, by have h2 : a0 = 82 := h.1; rw [h2]; rfl⟩) (by decide) rfl hl (al_at 904 (by decide +kernel) rfl) (al_pr (y := (⟨"SubscriberLinesModel", "say", "(IIII)V"⟩, _)) 47 rfl) (al_at 12 (by decide +kernel) rfl) (al_at 905 (by decide +kernel) rfl) ⟨by decide, by decide, by decide +kernel⟩ hR
theorem ok_mo_takeDown : rx_okF prog_12_method_14_code 3 none L_mo_takeDown 0 L_mo_takeDown = true := by decide +kernel
theorem V_mo_takeDown {l : Launch} {D : va_G} {g : Nat → ClassId} {ad : Nat → Nat} {B : Nat} (had : mx_A ad B) : rx_V l D g ad B ⟨"SubscriberLinesModel", "takeDown", "(I)V"⟩ prog_12_method_14_code 3 none 4 98 K_mo_takeDown := by
  intro av x hp
  obtain ⟨a0, a1, rfl⟩ := k_RI_inv hp
  have hp : a0 = 82 ∧ mo_j x.2 1399 a1 := hp
  have h0 : a0 = 82 := hp.1
  subst h0
  exact rx_met (k := 1) had (by decide) (Nat.le_of_ble_eq_true rfl) ok_mo_takeDown rfl rfl 26 (fun p e s m args below meth c X => And.intro (og_mo_53_g X) (And.intro (oy_ai X) (And.intro (og_mo_50_g X) (And.intro (oy_pa X) (And.intro (og_mo_53_g X) (And.intro (oy_pa X) (And.intro (cv_mo_say X (V_mo_say had) (al_at 902 (by decide +kernel) rfl) ⟨by decide, by decide⟩) (trivial)))))))) (S_mo_takeDown x.1 x.2 a1 hp.2) (E_mo_takeDown x.1 x.2 a1)
theorem mo_b_takeDown {m : mx_M} {k k' : Int} {s : Int32} (h : mo_b m k) (hk : k + 1 ≤ k') (hk2 : k ≤ 1399) : mo_b (mo_takeDown m s) k' := by
  unfold mo_takeDown
  dsimp only
  split
  · exact mo_b_say (mo_b_pi (by decide) (mo_b_pi (by decide) h)) hk hk2 (i_in.mpr (by decide))
  · exact mo_b_mono (mo_b_pi (by decide) (mo_b_pi (by decide) h)) (by omega)
def mo_join (m : mx_M) (a1 : Int32) : mx_M :=
  if 0 < (m.1 96 (Int32.toNatClampNeg a1)) then
    let m1 := mo_takeDown m a1
    let m2 := my_pi m1 82 28 ((m1.1 82 28) + 1)
    let m3 := my_pi m2 96 (Int32.toNatClampNeg a1) (m2.1 82 28)
    let m4 := mo_sendOff m3 2 4 a1 (m3.1 82 28) 0 0
    if (m4.1 106 0) = 0 then
      let m5 := my_pi m4 82 30 ((m4.1 82 30) + 1)
      let m6 := mo_clear m5 0 (m5.1 82 30)
      let m7 := my_pi m6 82 17 0
      let m8 := mo_say m7 0 12 0 0
      let m9 := mo_say m8 0 13 (m8.1 96 (Int32.toNatClampNeg a1)) 0
      m9
    else
      let m10 := mo_say m4 0 13 (m4.1 96 (Int32.toNatClampNeg a1)) 0
      m10
  else
    let m11 := my_pi m 82 28 ((m.1 82 28) + 1)
    let m12 := my_pi m11 96 (Int32.toNatClampNeg a1) (m11.1 82 28)
    let m13 := mo_sendOff m12 2 4 a1 (m12.1 82 28) 0 0
    if (m13.1 106 0) = 0 then
      let m14 := my_pi m13 82 30 ((m13.1 82 30) + 1)
      let m15 := mo_clear m14 0 (m14.1 82 30)
      let m16 := my_pi m15 82 17 0
      let m17 := mo_say m16 0 12 0 0
      let m18 := mo_say m17 0 13 (m17.1 96 (Int32.toNatClampNeg a1)) 0
      m18
    else
      let m19 := mo_say m13 0 13 (m13.1 96 (Int32.toNatClampNeg a1)) 0
      m19
def K_mo_join : rx_K mx := k_RI (fun a0 a1 c m => (a0 = 82 ∧ mo_j m 1397 a1, (c, mo_join m a1), none))
def L_mo_join : List (rx_E mx) := [
  (0, .aload_n 0, 1, 0, 0, 0, [], kno),
  (1, .getfield 50, 3, 7, 1, 0, [], mgr 96),
  (4, .iload_n 1, 1, 0, 1, 0, [], kno),
  (5, .iaload, 1, 7, 2, 0, [], mai),
  (6, .ifCond .le 8, 3, 2, 8, 0, [], kno),
  (9, .aload_n 0, 1, 0, 0, 0, [], kno),
  (10, .iload_n 1, 1, 0, 1, 0, [], kno),
  (11, .invokevirtual 153, 3, 7, 2, 0, [], K_mo_takeDown),
  (14, .aload_n 0, 1, 0, 0, 0, [], kno),
  (15, .dup, 1, 0, 0, 0, [], kno),
  (16, .getfield 156, 3, 7, 1, 0, [], mgi 28),
  (19, .iconst 1, 1, 0, 0, 1, [], kno),
  (20, .iadd, 1, 0, 0, 0, [], kno),
  (21, .putfield 156, 3, 7, 2, 0, [], mpi 28),
  (24, .aload_n 0, 1, 0, 0, 0, [], kno),
  (25, .getfield 50, 3, 7, 1, 0, [], mgr 96),
  (28, .iload_n 1, 1, 0, 1, 0, [], kno),
  (29, .aload_n 0, 1, 0, 0, 0, [], kno),
  (30, .getfield 156, 3, 7, 1, 0, [], mgi 28),
  (33, .iastore, 1, 7, 3, 0, [], mpa),
  (34, .aload_n 0, 1, 0, 0, 0, [], kno),
  (35, .iconst 2, 1, 0, 0, 2, [], kno),
  (36, .iconst 4, 1, 0, 0, 4, [], kno),
  (37, .iload_n 1, 1, 0, 1, 0, [], kno),
  (38, .aload_n 0, 1, 0, 0, 0, [], kno),
  (39, .getfield 156, 3, 7, 1, 0, [], mgi 28),
  (42, .iconst 0, 1, 0, 0, 0, [], kno),
  (43, .iconst 0, 1, 0, 0, 0, [], kno),
  (44, .invokevirtual 138, 3, 7, 7, 0, [], K_mo_sendOff),
  (47, .aload_n 0, 1, 0, 0, 0, [], kno),
  (48, .getfield 80, 3, 7, 1, 0, [], mgr 106),
  (51, .iconst 0, 1, 0, 0, 0, [], kno),
  (52, .iaload, 1, 7, 2, 0, [], mai),
  (53, .ifCond .ne 36, 3, 2, 54, 0, [], kno),
  (56, .aload_n 0, 1, 0, 0, 0, [], kno),
  (57, .dup, 1, 0, 0, 0, [], kno),
  (58, .getfield 159, 3, 7, 1, 0, [], mgi 30),
  (61, .iconst 1, 1, 0, 0, 1, [], kno),
  (62, .iadd, 1, 0, 0, 0, [], kno),
  (63, .putfield 159, 3, 7, 2, 0, [], mpi 30),
  (66, .aload_n 0, 1, 0, 0, 0, [], kno),
  (67, .iconst 0, 1, 0, 0, 0, [], kno),
  (68, .aload_n 0, 1, 0, 0, 0, [], kno),
  (69, .getfield 159, 3, 7, 1, 0, [], mgi 30),
  (72, .invokevirtual 129, 3, 7, 3, 0, [], K_mo_clear),
  (75, .aload_n 0, 1, 0, 0, 0, [], kno),
  (76, .iconst 0, 1, 0, 0, 0, [], kno),
  (77, .putfield 162, 3, 7, 2, 0, [], mpi 17),
  (80, .aload_n 0, 1, 0, 0, 0, [], kno),
  (81, .iconst 0, 1, 0, 0, 0, [], kno),
  (82, .bipush 12, 2, 0, 0, 12, [], kno),
  (84, .iconst 0, 1, 0, 0, 0, [], kno),
  (85, .iconst 0, 1, 0, 0, 0, [], kno),
  (86, .invokevirtual 149, 3, 7, 5, 0, [], K_mo_say),
  (89, .aload_n 0, 1, 0, 0, 0, [], kno),
  (90, .iconst 0, 1, 0, 0, 0, [], kno),
  (91, .bipush 13, 2, 0, 0, 13, [], kno),
  (93, .aload_n 0, 1, 0, 0, 0, [], kno),
  (94, .getfield 50, 3, 7, 1, 0, [], mgr 96),
  (97, .iload_n 1, 1, 0, 1, 0, [], kno),
  (98, .iaload, 1, 7, 2, 0, [], mai),
  (99, .iconst 0, 1, 0, 0, 0, [], kno),
  (100, .invokevirtual 149, 3, 7, 5, 0, [], K_mo_say),
  (103, .return_, 1, 6, 0, 0, [], kno)]
theorem E_mo_join (c : mx_C) (m : mx_M) (a1 : Int32)  : rx_ev L_mo_join [] 66 L_mo_join (c, m) [some (.ref 82), some (.int a1)] [] = ry_v c (mo_join m a1) :=
  rx_ite2 (f := ry_v c) (fun h0 => rx_ite2 (f := ry_v c) (fun h1 => rfl) (fun h1 => rfl)) (fun h0 => rx_ite2 (f := ry_v c) (fun h1 => rfl) (fun h1 => rfl))
theorem S_mo_join (c : mx_C) (m : mx_M) (a1 : Int32) (hj : mo_j m 1397 a1) : rx_sf L_mo_join [] 66 L_mo_join (c, m) [some (.ref 82), some (.int a1)] [] :=
  And.intro rfl (And.intro hj.1 (And.intro (fun h0 => And.intro (And.intro rfl (And.intro hj.1 (mo_b_mono hj.2 (by decide)))) (And.intro rfl (And.intro rfl (And.intro rfl (And.intro rfl (And.intro hj.1 (And.intro rfl (And.intro rfl (And.intro rfl (And.intro (i_in.mpr (by decide)) (And.intro (fun h1 => And.intro rfl (And.intro rfl (And.intro rfl (And.intro (And.intro rfl (i_in.mpr (by decide))) (And.intro rfl (And.intro (And.intro rfl (mo_b_sy (k := 1398) (mo_b_pi (by decide) (mo_b_clear (mo_b_pi (by decide) (mo_b_fz (fz_fy (fy_sendOff _ _ _ _ _ _ _)) (mo_b_pi (by decide) (mo_b_pi (by decide) (mo_b_takeDown (k := 1397) (k' := 1398) hj.2 (by decide) (by decide)))))) (by decide))) (by decide) (i_in.mpr (by decide)))) (And.intro rfl (And.intro hj.1 (And.intro (And.intro rfl (mo_b_sy (k := 1399) (mo_b_say (k := 1398) (k' := 1399) (mo_b_pi (by decide) (mo_b_clear (mo_b_pi (by decide) (mo_b_fz (fz_fy (fy_sendOff _ _ _ _ _ _ _)) (mo_b_pi (by decide) (mo_b_pi (by decide) (mo_b_takeDown (k := 1397) (k' := 1398) hj.2 (by decide) (by decide)))))) (by decide))) (by decide) (by decide) (i_in.mpr (by decide))) (by decide) (i_in.mpr (by decide)))) (trivial)))))))))) (fun h1 => And.intro rfl (And.intro hj.1 (And.intro (And.intro rfl (mo_b_sy (k := 1398) (mo_b_fz (fz_fy (fy_sendOff _ _ _ _ _ _ _)) (mo_b_pi (by decide) (mo_b_pi (by decide) (mo_b_takeDown (k := 1397) (k' := 1398) hj.2 (by decide) (by decide))))) (by decide) (i_in.mpr (by decide)))) (trivial))))))))))))))) (fun h0 => And.intro rfl (And.intro rfl (And.intro rfl (And.intro rfl (And.intro hj.1 (And.intro rfl (And.intro rfl (And.intro rfl (And.intro (i_in.mpr (by decide)) (And.intro (fun h1 => And.intro rfl (And.intro rfl (And.intro rfl (And.intro (And.intro rfl (i_in.mpr (by decide))) (And.intro rfl (And.intro (And.intro rfl (mo_b_sy (k := 1397) (mo_b_pi (by decide) (mo_b_clear (mo_b_pi (by decide) (mo_b_fz (fz_fy (fy_sendOff _ _ _ _ _ _ _)) (mo_b_pi (by decide) (mo_b_pi (by decide) hj.2)))) (by decide))) (by decide) (i_in.mpr (by decide)))) (And.intro rfl (And.intro hj.1 (And.intro (And.intro rfl (mo_b_sy (k := 1398) (mo_b_say (k := 1397) (k' := 1398) (mo_b_pi (by decide) (mo_b_clear (mo_b_pi (by decide) (mo_b_fz (fz_fy (fy_sendOff _ _ _ _ _ _ _)) (mo_b_pi (by decide) (mo_b_pi (by decide) hj.2)))) (by decide))) (by decide) (by decide) (i_in.mpr (by decide))) (by decide) (i_in.mpr (by decide)))) (trivial)))))))))) (fun h1 => And.intro rfl (And.intro hj.1 (And.intro (And.intro rfl (mo_b_sy (k := 1397) (mo_b_fz (fz_fy (fy_sendOff _ _ _ _ _ _ _)) (mo_b_pi (by decide) (mo_b_pi (by decide) hj.2))) (by decide) (i_in.mpr (by decide)))) (trivial))))))))))))))))

theorem cv_mo_takeDown {p : Program} {l : Launch} {e : Env} {R : Room} {s : State} {m : MethodId} {args : Array Value} {below : List Frame} {meth : Method} {c : Code} {cc : ByteArray} {nL : Nat} {ad : Nat → Nat} {D : va_G} {g : Nat → ClassId} {B : Nat} {own : String} {idx : Nat} (X : ox_C p s m args c cc nL own D g ad B) (hV : rx_V l D g ad B ⟨"SubscriberLinesModel", "takeDown", "(I)V"⟩ prog_12_method_14_code 3 none 4 98 K_mo_takeDown) (hl : Cond.methodLink own idx ⟨"SubscriberLinesModel", "takeDown", "(I)V"⟩ ∈ al) (hR : 4 + 1 ≤ R.frames ∧ 8 + (3 + 11) + 98 ≤ R.locals) : rx_OK p l e R s m args below meth c cc nL ad (mx_W D g ad B s.heap) mx_cs (.invokevirtual idx) 3 2 (K_mo_takeDown) :=
  ox_callV (q := 9) (T := T_9) X hV (fun av x h => by obtain ⟨a0, a1, rfl⟩ := k_RI_inv h; exact ⟨a0, _, rfl, by have h2 : a0 = 82 := h.1; rw [h2]; rfl⟩) (by decide) rfl hl (al_at 943 (by decide +kernel) rfl) (al_pr (y := (⟨"SubscriberLinesModel", "takeDown", "(I)V"⟩, _)) 56 rfl) (al_at 12 (by decide +kernel) rfl) (al_at 944 (by decide +kernel) rfl) ⟨by decide, by decide, by decide +kernel⟩ hR
theorem og_mo_156_g {p : Program} {l : Launch} {e : Env} {R : Room} {s : State} {m : MethodId} {args : Array Value} {below : List Frame} {meth : Method} {c : Code} {cc : ByteArray} {nL : Nat} {ad : Nat → Nat} {D : va_G} {g : Nat → ClassId} {B : Nat} (X : ox_C p s m args c cc nL "SubscriberLinesModel" D g ad B) : rx_OK p l e R s m args below meth c cc nL ad (mx_W D g ad B s.heap) mx_cs (.getfield 156) 3 1 (mgi 28) := oy_gi X (by decide) rfl (al_at 739 (by decide +kernel) rfl)
theorem og_mo_156_p {p : Program} {l : Launch} {e : Env} {R : Room} {s : State} {m : MethodId} {args : Array Value} {below : List Frame} {meth : Method} {c : Code} {cc : ByteArray} {nL : Nat} {ad : Nat → Nat} {D : va_G} {g : Nat → ClassId} {B : Nat} (X : ox_C p s m args c cc nL "SubscriberLinesModel" D g ad B) : rx_OK p l e R s m args below meth c cc nL ad (mx_W D g ad B s.heap) mx_cs (.putfield 156) 3 2 (mpi 28) := oy_pi X (by decide) rfl rfl rfl (al_at 739 (by decide +kernel) rfl)
theorem og_mo_159_g {p : Program} {l : Launch} {e : Env} {R : Room} {s : State} {m : MethodId} {args : Array Value} {below : List Frame} {meth : Method} {c : Code} {cc : ByteArray} {nL : Nat} {ad : Nat → Nat} {D : va_G} {g : Nat → ClassId} {B : Nat} (X : ox_C p s m args c cc nL "SubscriberLinesModel" D g ad B) : rx_OK p l e R s m args below meth c cc nL ad (mx_W D g ad B s.heap) mx_cs (.getfield 159) 3 1 (mgi 30) := oy_gi X (by decide) rfl (al_at 741 (by decide +kernel) rfl)
theorem og_mo_159_p {p : Program} {l : Launch} {e : Env} {R : Room} {s : State} {m : MethodId} {args : Array Value} {below : List Frame} {meth : Method} {c : Code} {cc : ByteArray} {nL : Nat} {ad : Nat → Nat} {D : va_G} {g : Nat → ClassId} {B : Nat} (X : ox_C p s m args c cc nL "SubscriberLinesModel" D g ad B) : rx_OK p l e R s m args below meth c cc nL ad (mx_W D g ad B s.heap) mx_cs (.putfield 159) 3 2 (mpi 30) := oy_pi X (by decide) rfl rfl rfl (al_at 741 (by decide +kernel) rfl)
theorem og_mo_162_p {p : Program} {l : Launch} {e : Env} {R : Room} {s : State} {m : MethodId} {args : Array Value} {below : List Frame} {meth : Method} {c : Code} {cc : ByteArray} {nL : Nat} {ad : Nat → Nat} {D : va_G} {g : Nat → ClassId} {B : Nat} (X : ox_C p s m args c cc nL "SubscriberLinesModel" D g ad B) : rx_OK p l e R s m args below meth c cc nL ad (mx_W D g ad B s.heap) mx_cs (.putfield 162) 3 2 (mpi 17) := oy_pi X (by decide) rfl rfl rfl (al_at 728 (by decide +kernel) rfl)
theorem ok_mo_join : rx_okF prog_12_method_15_code 2 none L_mo_join 0 L_mo_join = true := by decide +kernel
theorem V_mo_join {l : Launch} {D : va_G} {g : Nat → ClassId} {ad : Nat → Nat} {B : Nat} (had : mx_A ad B) : rx_V l D g ad B ⟨"SubscriberLinesModel", "join", "(I)V"⟩ prog_12_method_15_code 2 none 5 120 K_mo_join := by
  intro av x hp
  obtain ⟨a0, a1, rfl⟩ := k_RI_inv hp
  have hp : a0 = 82 ∧ mo_j x.2 1397 a1 := hp
  have h0 : a0 = 82 := hp.1
  subst h0
  exact rx_met (k := 0) had (by decide) (Nat.le_of_ble_eq_true rfl) ok_mo_join rfl rfl 66 (fun p e s m args below meth c X => And.intro (og_mo_50_g X) (And.intro (oy_ai X) (And.intro (cv_mo_takeDown X (V_mo_takeDown had) (al_at 941 (by decide +kernel) rfl) ⟨by decide, by decide⟩) (And.intro (og_mo_156_g X) (And.intro (og_mo_156_p X) (And.intro (og_mo_50_g X) (And.intro (og_mo_156_g X) (And.intro (oy_pa X) (And.intro (og_mo_156_g X) (And.intro (cv_mo_sendOff X (V_mo_sendOff had) (al_at 858 (by decide +kernel) rfl) ⟨by decide, by decide⟩) (And.intro (og_mo_80_g X) (And.intro (oy_ai X) (And.intro (og_mo_159_g X) (And.intro (og_mo_159_p X) (And.intro (og_mo_159_g X) (And.intro (cv_mo_clear X (V_mo_clear had) (al_at 882 (by decide +kernel) rfl) ⟨by decide, by decide⟩) (And.intro (og_mo_162_p X) (And.intro (cv_mo_say X (V_mo_say had) (al_at 902 (by decide +kernel) rfl) ⟨by decide, by decide⟩) (And.intro (og_mo_50_g X) (And.intro (oy_ai X) (And.intro (cv_mo_say X (V_mo_say had) (al_at 902 (by decide +kernel) rfl) ⟨by decide, by decide⟩) (trivial)))))))))))))))))))))) (S_mo_join x.1 x.2 a1 hp.2) (E_mo_join x.1 x.2 a1)
def mo_off (m : mx_M) (a1 : Int32) : mx_M :=
  let m1 := my_pi m 86 (Int32.toNatClampNeg a1) 0
  let m2 := my_pi m1 87 (Int32.toNatClampNeg a1) 0
  let m3 := my_pi m2 90 (Int32.toNatClampNeg a1) 0
  m3
def K_mo_off : rx_K mx := k_RI (fun a0 a1 c m => (a0 = 82 ∧ vp_in a1 4, (c, mo_off m a1), none))
def L_mo_off : List (rx_E mx) := [
  (0, .aload_n 0, 1, 0, 0, 0, [], kno),
  (1, .getfield 20, 3, 7, 1, 0, [], mgr 86),
  (4, .iload_n 1, 1, 0, 1, 0, [], kno),
  (5, .iconst 0, 1, 0, 0, 0, [], kno),
  (6, .iastore, 1, 7, 3, 0, [], mpa),
  (7, .aload_n 0, 1, 0, 0, 0, [], kno),
  (8, .getfield 23, 3, 7, 1, 0, [], mgr 87),
  (11, .iload_n 1, 1, 0, 1, 0, [], kno),
  (12, .iconst 0, 1, 0, 0, 0, [], kno),
  (13, .iastore, 1, 7, 3, 0, [], mpa),
  (14, .aload_n 0, 1, 0, 0, 0, [], kno),
  (15, .getfield 32, 3, 7, 1, 0, [], mgr 90),
  (18, .iload_n 1, 1, 0, 1, 0, [], kno),
  (19, .iconst 0, 1, 0, 0, 0, [], kno),
  (20, .iastore, 1, 7, 3, 0, [], mpa),
  (21, .return_, 1, 6, 0, 0, [], kno)]
theorem E_mo_off (c : mx_C) (m : mx_M) (a1 : Int32)  : rx_ev L_mo_off [] 18 L_mo_off (c, m) [some (.ref 82), some (.int a1)] [] = ry_v c (mo_off m a1) :=
  rfl
theorem S_mo_off (c : mx_C) (m : mx_M) (a1 : Int32) (hs : vp_in a1 4) : rx_sf L_mo_off [] 18 L_mo_off (c, m) [some (.ref 82), some (.int a1)] [] :=
  And.intro rfl (And.intro hs (And.intro rfl (And.intro hs (And.intro rfl (And.intro hs (trivial))))))

theorem og_mo_20_g {p : Program} {l : Launch} {e : Env} {R : Room} {s : State} {m : MethodId} {args : Array Value} {below : List Frame} {meth : Method} {c : Code} {cc : ByteArray} {nL : Nat} {ad : Nat → Nat} {D : va_G} {g : Nat → ClassId} {B : Nat} (X : ox_C p s m args c cc nL "SubscriberLinesModel" D g ad B) : rx_OK p l e R s m args below meth c cc nL ad (mx_W D g ad B s.heap) mx_cs (.getfield 20) 3 1 (mgr 86) := oy_gr (k := 5) X (by decide) rfl (al_at 716 (by decide +kernel) rfl)
theorem og_mo_23_g {p : Program} {l : Launch} {e : Env} {R : Room} {s : State} {m : MethodId} {args : Array Value} {below : List Frame} {meth : Method} {c : Code} {cc : ByteArray} {nL : Nat} {ad : Nat → Nat} {D : va_G} {g : Nat → ClassId} {B : Nat} (X : ox_C p s m args c cc nL "SubscriberLinesModel" D g ad B) : rx_OK p l e R s m args below meth c cc nL ad (mx_W D g ad B s.heap) mx_cs (.getfield 23) 3 1 (mgr 87) := oy_gr (k := 6) X (by decide) rfl (al_at 717 (by decide +kernel) rfl)
theorem og_mo_32_g {p : Program} {l : Launch} {e : Env} {R : Room} {s : State} {m : MethodId} {args : Array Value} {below : List Frame} {meth : Method} {c : Code} {cc : ByteArray} {nL : Nat} {ad : Nat → Nat} {D : va_G} {g : Nat → ClassId} {B : Nat} (X : ox_C p s m args c cc nL "SubscriberLinesModel" D g ad B) : rx_OK p l e R s m args below meth c cc nL ad (mx_W D g ad B s.heap) mx_cs (.getfield 32) 3 1 (mgr 90) := oy_gr (k := 9) X (by decide) rfl (al_at 720 (by decide +kernel) rfl)
theorem ok_mo_off : rx_okF prog_12_method_27_code 2 none L_mo_off 0 L_mo_off = true := by decide +kernel
theorem V_mo_off {l : Launch} {D : va_G} {g : Nat → ClassId} {ad : Nat → Nat} {B : Nat} (had : mx_A ad B) : rx_V l D g ad B ⟨"SubscriberLinesModel", "off", "(I)V"⟩ prog_12_method_27_code 2 none 0 0 K_mo_off := by
  intro av x hp
  obtain ⟨a0, a1, rfl⟩ := k_RI_inv hp
  have hp : a0 = 82 ∧ vp_in a1 4 := hp
  have h0 : a0 = 82 := hp.1
  subst h0
  exact rx_met (k := 0) had (by decide) (Nat.le_of_ble_eq_true rfl) ok_mo_off rfl rfl 18 (fun p e s m args below meth c X => And.intro (og_mo_20_g X) (And.intro (oy_pa X) (And.intro (og_mo_23_g X) (And.intro (oy_pa X) (And.intro (og_mo_32_g X) (And.intro (oy_pa X) (trivial))))))) (S_mo_off x.1 x.2 a1 hp.2) (E_mo_off x.1 x.2 a1)
def mo_leave (m : mx_M) (a1 : Int32) : mx_M :=
  let m1 := mo_sendOff m 3 a1 4 (m.1 87 (Int32.toNatClampNeg a1)) 0 0
  let m2 := mo_off m1 a1
  m2
def K_mo_leave : rx_K mx := k_RI (fun a0 a1 c m => (a0 = 82 ∧ vp_in a1 4, (c, mo_leave m a1), none))
def L_mo_leave : List (rx_E mx) := [
  (0, .aload_n 0, 1, 0, 0, 0, [], kno),
  (1, .iconst 3, 1, 0, 0, 3, [], kno),
  (2, .iload_n 1, 1, 0, 1, 0, [], kno),
  (3, .iconst 4, 1, 0, 0, 4, [], kno),
  (4, .aload_n 0, 1, 0, 0, 0, [], kno),
  (5, .getfield 23, 3, 7, 1, 0, [], mgr 87),
  (8, .iload_n 1, 1, 0, 1, 0, [], kno),
  (9, .iaload, 1, 7, 2, 0, [], mai),
  (10, .iconst 0, 1, 0, 0, 0, [], kno),
  (11, .iconst 0, 1, 0, 0, 0, [], kno),
  (12, .invokevirtual 138, 3, 7, 7, 0, [], K_mo_sendOff),
  (15, .aload_n 0, 1, 0, 0, 0, [], kno),
  (16, .iload_n 1, 1, 0, 1, 0, [], kno),
  (17, .invokevirtual 201, 3, 7, 2, 0, [], K_mo_off),
  (20, .return_, 1, 6, 0, 0, [], kno)]
theorem E_mo_leave (c : mx_C) (m : mx_M) (a1 : Int32)  : rx_ev L_mo_leave [] 17 L_mo_leave (c, m) [some (.ref 82), some (.int a1)] [] = ry_v c (mo_leave m a1) :=
  rfl
theorem S_mo_leave (c : mx_C) (m : mx_M) (a1 : Int32) (hs : vp_in a1 4) : rx_sf L_mo_leave [] 17 L_mo_leave (c, m) [some (.ref 82), some (.int a1)] [] :=
  And.intro rfl (And.intro hs (And.intro rfl (And.intro (And.intro rfl hs) (trivial))))

theorem cv_mo_off {p : Program} {l : Launch} {e : Env} {R : Room} {s : State} {m : MethodId} {args : Array Value} {below : List Frame} {meth : Method} {c : Code} {cc : ByteArray} {nL : Nat} {ad : Nat → Nat} {D : va_G} {g : Nat → ClassId} {B : Nat} {own : String} {idx : Nat} (X : ox_C p s m args c cc nL own D g ad B) (hV : rx_V l D g ad B ⟨"SubscriberLinesModel", "off", "(I)V"⟩ prog_12_method_27_code 2 none 0 0 K_mo_off) (hl : Cond.methodLink own idx ⟨"SubscriberLinesModel", "off", "(I)V"⟩ ∈ al) (hR : 0 + 1 ≤ R.frames ∧ 8 + (2 + 11) + 0 ≤ R.locals) : rx_OK p l e R s m args below meth c cc nL ad (mx_W D g ad B s.heap) mx_cs (.invokevirtual idx) 3 2 (K_mo_off) :=
  ox_callV (q := 9) (T := T_9) X hV (fun av x h => by obtain ⟨a0, a1, rfl⟩ := k_RI_inv h; exact ⟨a0, _, rfl, by have h2 : a0 = 82 := h.1; rw [h2]; rfl⟩) (by decide) rfl hl (al_at 876 (by decide +kernel) rfl) (al_pr (y := (⟨"SubscriberLinesModel", "off", "(I)V"⟩, _)) 40 rfl) (al_at 12 (by decide +kernel) rfl) (al_at 877 (by decide +kernel) rfl) ⟨by decide, by decide, by decide +kernel⟩ hR
theorem ok_mo_leave : rx_okF prog_12_method_28_code 2 none L_mo_leave 0 L_mo_leave = true := by decide +kernel
theorem V_mo_leave {l : Launch} {D : va_G} {g : Nat → ClassId} {ad : Nat → Nat} {B : Nat} (had : mx_A ad B) : rx_V l D g ad B ⟨"SubscriberLinesModel", "leave", "(I)V"⟩ prog_12_method_28_code 2 none 2 54 K_mo_leave := by
  intro av x hp
  obtain ⟨a0, a1, rfl⟩ := k_RI_inv hp
  have hp : a0 = 82 ∧ vp_in a1 4 := hp
  have h0 : a0 = 82 := hp.1
  subst h0
  exact rx_met (k := 0) had (by decide) (Nat.le_of_ble_eq_true rfl) ok_mo_leave rfl rfl 17 (fun p e s m args below meth c X => And.intro (og_mo_23_g X) (And.intro (oy_ai X) (And.intro (cv_mo_sendOff X (V_mo_sendOff had) (al_at 858 (by decide +kernel) rfl) ⟨by decide, by decide⟩) (And.intro (cv_mo_off X (V_mo_off had) (al_at 874 (by decide +kernel) rfl) ⟨by decide, by decide⟩) (trivial))))) (S_mo_leave x.1 x.2 a1 hp.2) (E_mo_leave x.1 x.2 a1)
def mo_ask (m : mx_M) (a1 : Int32) : mx_M :=
  if (m.1 86 (Int32.toNatClampNeg a1)) = 1 then
    let m1 := mo_sendOff m 1 a1 4 0 0 0
    let m2 := my_pi m1 92 (Int32.toNatClampNeg a1) ((m1.1 92 (Int32.toNatClampNeg a1)) + 1)
    let m3 := my_pi m2 91 (Int32.toNatClampNeg a1) 0
    m3
  else
    let m4 := mo_sendOff m 4 a1 4 (m.1 87 (Int32.toNatClampNeg a1)) (m.1 88 (Int32.toNatClampNeg a1)) (m.1 89 (Int32.toNatClampNeg a1))
    let m5 := my_pi m4 92 (Int32.toNatClampNeg a1) ((m4.1 92 (Int32.toNatClampNeg a1)) + 1)
    let m6 := my_pi m5 91 (Int32.toNatClampNeg a1) 0
    m6
def K_mo_ask : rx_K mx := k_RI (fun a0 a1 c m => (a0 = 82 ∧ vp_in a1 4, (c, mo_ask m a1), none))
def L_mo_ask : List (rx_E mx) := [
  (0, .aload_n 0, 1, 0, 0, 0, [], kno),
  (1, .getfield 20, 3, 7, 1, 0, [], mgr 86),
  (4, .iload_n 1, 1, 0, 1, 0, [], kno),
  (5, .iaload, 1, 7, 2, 0, [], mai),
  (6, .iconst 1, 1, 0, 0, 1, [], kno),
  (7, .if_icmp .ne 16, 3, 2, 15, 0, [], kno),
  (10, .aload_n 0, 1, 0, 0, 0, [], kno),
  (11, .iconst 1, 1, 0, 0, 1, [], kno),
  (12, .iload_n 1, 1, 0, 1, 0, [], kno),
  (13, .iconst 4, 1, 0, 0, 4, [], kno),
  (14, .iconst 0, 1, 0, 0, 0, [], kno),
  (15, .iconst 0, 1, 0, 0, 0, [], kno),
  (16, .iconst 0, 1, 0, 0, 0, [], kno),
  (17, .invokevirtual 138, 3, 7, 7, 0, [], K_mo_sendOff),
  (20, .goto 28, 3, 1, 32, 0, [], kno),
  (23, .aload_n 0, 1, 0, 0, 0, [], kno),
  (24, .iconst 4, 1, 0, 0, 4, [], kno),
  (25, .iload_n 1, 1, 0, 1, 0, [], kno),
  (26, .iconst 4, 1, 0, 0, 4, [], kno),
  (27, .aload_n 0, 1, 0, 0, 0, [], kno),
  (28, .getfield 23, 3, 7, 1, 0, [], mgr 87),
  (31, .iload_n 1, 1, 0, 1, 0, [], kno),
  (32, .iaload, 1, 7, 2, 0, [], mai),
  (33, .aload_n 0, 1, 0, 0, 0, [], kno),
  (34, .getfield 26, 3, 7, 1, 0, [], mgr 88),
  (37, .iload_n 1, 1, 0, 1, 0, [], kno),
  (38, .iaload, 1, 7, 2, 0, [], mai),
  (39, .aload_n 0, 1, 0, 0, 0, [], kno),
  (40, .getfield 29, 3, 7, 1, 0, [], mgr 89),
  (43, .iload_n 1, 1, 0, 1, 0, [], kno),
  (44, .iaload, 1, 7, 2, 0, [], mai),
  (45, .invokevirtual 138, 3, 7, 7, 0, [], K_mo_sendOff),
  (48, .aload_n 0, 1, 0, 0, 0, [], kno),
  (49, .getfield 38, 3, 7, 1, 0, [], mgr 92),
  (52, .iload_n 1, 1, 0, 1, 0, [], kno),
  (53, .dup2, 1, 0, 0, 0, [], kno),
  (54, .iaload, 1, 7, 2, 0, [], mai),
  (55, .iconst 1, 1, 0, 0, 1, [], kno),
  (56, .iadd, 1, 0, 0, 0, [], kno),
  (57, .iastore, 1, 7, 3, 0, [], mpa),
  (58, .aload_n 0, 1, 0, 0, 0, [], kno),
  (59, .getfield 35, 3, 7, 1, 0, [], mgr 91),
  (62, .iload_n 1, 1, 0, 1, 0, [], kno),
  (63, .iconst 0, 1, 0, 0, 0, [], kno),
  (64, .iastore, 1, 7, 3, 0, [], mpa),
  (65, .return_, 1, 6, 0, 0, [], kno)]
theorem E_mo_ask (c : mx_C) (m : mx_M) (a1 : Int32)  : rx_ev L_mo_ask [] 48 L_mo_ask (c, m) [some (.ref 82), some (.int a1)] [] = ry_v c (mo_ask m a1) :=
  rx_ite2 (f := ry_v c) (fun h0 => rfl) (fun h0 => rfl)
theorem S_mo_ask (c : mx_C) (m : mx_M) (a1 : Int32) (hs : vp_in a1 4) : rx_sf L_mo_ask [] 48 L_mo_ask (c, m) [some (.ref 82), some (.int a1)] [] :=
  And.intro rfl (And.intro hs (And.intro (fun h0 => And.intro rfl (And.intro rfl (And.intro hs (And.intro hs (And.intro rfl (And.intro hs (trivial))))))) (fun h0 => And.intro rfl (And.intro hs (And.intro rfl (And.intro hs (And.intro rfl (And.intro hs (And.intro rfl (And.intro rfl (And.intro hs (And.intro hs (And.intro rfl (And.intro hs (trivial)))))))))))))))

theorem og_mo_26_g {p : Program} {l : Launch} {e : Env} {R : Room} {s : State} {m : MethodId} {args : Array Value} {below : List Frame} {meth : Method} {c : Code} {cc : ByteArray} {nL : Nat} {ad : Nat → Nat} {D : va_G} {g : Nat → ClassId} {B : Nat} (X : ox_C p s m args c cc nL "SubscriberLinesModel" D g ad B) : rx_OK p l e R s m args below meth c cc nL ad (mx_W D g ad B s.heap) mx_cs (.getfield 26) 3 1 (mgr 88) := oy_gr (k := 7) X (by decide) rfl (al_at 718 (by decide +kernel) rfl)
theorem og_mo_29_g {p : Program} {l : Launch} {e : Env} {R : Room} {s : State} {m : MethodId} {args : Array Value} {below : List Frame} {meth : Method} {c : Code} {cc : ByteArray} {nL : Nat} {ad : Nat → Nat} {D : va_G} {g : Nat → ClassId} {B : Nat} (X : ox_C p s m args c cc nL "SubscriberLinesModel" D g ad B) : rx_OK p l e R s m args below meth c cc nL ad (mx_W D g ad B s.heap) mx_cs (.getfield 29) 3 1 (mgr 89) := oy_gr (k := 8) X (by decide) rfl (al_at 719 (by decide +kernel) rfl)
theorem og_mo_38_g {p : Program} {l : Launch} {e : Env} {R : Room} {s : State} {m : MethodId} {args : Array Value} {below : List Frame} {meth : Method} {c : Code} {cc : ByteArray} {nL : Nat} {ad : Nat → Nat} {D : va_G} {g : Nat → ClassId} {B : Nat} (X : ox_C p s m args c cc nL "SubscriberLinesModel" D g ad B) : rx_OK p l e R s m args below meth c cc nL ad (mx_W D g ad B s.heap) mx_cs (.getfield 38) 3 1 (mgr 92) := oy_gr (k := 11) X (by decide) rfl (al_at 722 (by decide +kernel) rfl)
theorem og_mo_35_g {p : Program} {l : Launch} {e : Env} {R : Room} {s : State} {m : MethodId} {args : Array Value} {below : List Frame} {meth : Method} {c : Code} {cc : ByteArray} {nL : Nat} {ad : Nat → Nat} {D : va_G} {g : Nat → ClassId} {B : Nat} (X : ox_C p s m args c cc nL "SubscriberLinesModel" D g ad B) : rx_OK p l e R s m args below meth c cc nL ad (mx_W D g ad B s.heap) mx_cs (.getfield 35) 3 1 (mgr 91) := oy_gr (k := 10) X (by decide) rfl (al_at 721 (by decide +kernel) rfl)
theorem ok_mo_ask : rx_okF prog_12_method_29_code 2 none L_mo_ask 0 L_mo_ask = true := by decide +kernel
theorem V_mo_ask {l : Launch} {D : va_G} {g : Nat → ClassId} {ad : Nat → Nat} {B : Nat} (had : mx_A ad B) : rx_V l D g ad B ⟨"SubscriberLinesModel", "ask", "(I)V"⟩ prog_12_method_29_code 2 none 2 54 K_mo_ask := by
  intro av x hp
  obtain ⟨a0, a1, rfl⟩ := k_RI_inv hp
  have hp : a0 = 82 ∧ vp_in a1 4 := hp
  have h0 : a0 = 82 := hp.1
  subst h0
  exact rx_met (k := 0) had (by decide) (Nat.le_of_ble_eq_true rfl) ok_mo_ask rfl rfl 48 (fun p e s m args below meth c X => And.intro (og_mo_20_g X) (And.intro (oy_ai X) (And.intro (cv_mo_sendOff X (V_mo_sendOff had) (al_at 858 (by decide +kernel) rfl) ⟨by decide, by decide⟩) (And.intro (og_mo_23_g X) (And.intro (oy_ai X) (And.intro (og_mo_26_g X) (And.intro (oy_ai X) (And.intro (og_mo_29_g X) (And.intro (oy_ai X) (And.intro (cv_mo_sendOff X (V_mo_sendOff had) (al_at 858 (by decide +kernel) rfl) ⟨by decide, by decide⟩) (And.intro (og_mo_38_g X) (And.intro (oy_ai X) (And.intro (oy_pa X) (And.intro (og_mo_35_g X) (And.intro (oy_pa X) (trivial)))))))))))))))) (S_mo_ask x.1 x.2 a1 hp.2) (E_mo_ask x.1 x.2 a1)
def mo_accepted (m : mx_M) (a1 : Int32) (a2 : Int32) : mx_M :=
  if (m.1 86 (Int32.toNatClampNeg a1)) = 3 then
    if (m.1 90 (Int32.toNatClampNeg a1)) = a2 then
      let m1 := my_pi m 86 (Int32.toNatClampNeg a1) 3
      let m2 := my_pi m1 90 (Int32.toNatClampNeg a1) a2
      let m3 := my_pi m2 93 (Int32.toNatClampNeg a1) 0
      let m4 := mo_sendOff m3 7 a1 4 (m3.1 87 (Int32.toNatClampNeg a1)) 0 0
      m4
    else
      m
  else
    let m5 := my_pi m 86 (Int32.toNatClampNeg a1) 3
    let m6 := my_pi m5 90 (Int32.toNatClampNeg a1) a2
    let m7 := my_pi m6 93 (Int32.toNatClampNeg a1) 0
    let m8 := mo_sendOff m7 7 a1 4 (m7.1 87 (Int32.toNatClampNeg a1)) 0 0
    m8
def K_mo_accepted : rx_K mx := k_RII (fun a0 a1 a2 c m => (a0 = 82 ∧ vp_in a1 4, (c, mo_accepted m a1 a2), none))
def L_mo_accepted : List (rx_E mx) := [
  (0, .aload_n 0, 1, 0, 0, 0, [], kno),
  (1, .getfield 20, 3, 7, 1, 0, [], mgr 86),
  (4, .iload_n 1, 1, 0, 1, 0, [], kno),
  (5, .iaload, 1, 7, 2, 0, [], mai),
  (6, .iconst 3, 1, 0, 0, 3, [], kno),
  (7, .if_icmp .ne 14, 3, 2, 13, 0, [], kno),
  (10, .aload_n 0, 1, 0, 0, 0, [], kno),
  (11, .getfield 32, 3, 7, 1, 0, [], mgr 90),
  (14, .iload_n 1, 1, 0, 1, 0, [], kno),
  (15, .iaload, 1, 7, 2, 0, [], mai),
  (16, .iload_n 2, 1, 0, 2, 0, [], kno),
  (17, .if_icmp .eq 4, 3, 2, 13, 0, [], kno),
  (20, .return_, 1, 6, 0, 0, [], kno),
  (21, .aload_n 0, 1, 0, 0, 0, [], kno),
  (22, .getfield 20, 3, 7, 1, 0, [], mgr 86),
  (25, .iload_n 1, 1, 0, 1, 0, [], kno),
  (26, .iconst 3, 1, 0, 0, 3, [], kno),
  (27, .iastore, 1, 7, 3, 0, [], mpa),
  (28, .aload_n 0, 1, 0, 0, 0, [], kno),
  (29, .getfield 32, 3, 7, 1, 0, [], mgr 90),
  (32, .iload_n 1, 1, 0, 1, 0, [], kno),
  (33, .iload_n 2, 1, 0, 2, 0, [], kno),
  (34, .iastore, 1, 7, 3, 0, [], mpa),
  (35, .aload_n 0, 1, 0, 0, 0, [], kno),
  (36, .getfield 41, 3, 7, 1, 0, [], mgr 93),
  (39, .iload_n 1, 1, 0, 1, 0, [], kno),
  (40, .iconst 0, 1, 0, 0, 0, [], kno),
  (41, .iastore, 1, 7, 3, 0, [], mpa),
  (42, .aload_n 0, 1, 0, 0, 0, [], kno),
  (43, .bipush 7, 2, 0, 0, 7, [], kno),
  (45, .iload_n 1, 1, 0, 1, 0, [], kno),
  (46, .iconst 4, 1, 0, 0, 4, [], kno),
  (47, .aload_n 0, 1, 0, 0, 0, [], kno),
  (48, .getfield 23, 3, 7, 1, 0, [], mgr 87),
  (51, .iload_n 1, 1, 0, 1, 0, [], kno),
  (52, .iaload, 1, 7, 2, 0, [], mai),
  (53, .iconst 0, 1, 0, 0, 0, [], kno),
  (54, .iconst 0, 1, 0, 0, 0, [], kno),
  (55, .invokevirtual 138, 3, 7, 7, 0, [], K_mo_sendOff),
  (58, .return_, 1, 6, 0, 0, [], kno)]
theorem E_mo_accepted (c : mx_C) (m : mx_M) (a1 : Int32) (a2 : Int32)  : rx_ev L_mo_accepted [] 42 L_mo_accepted (c, m) [some (.ref 82), some (.int a1), some (.int a2)] [] = ry_v c (mo_accepted m a1 a2) :=
  rx_ite2 (f := ry_v c) (fun h0 => rx_ite2 (f := ry_v c) (fun h1 => rfl) (fun h1 => rfl)) (fun h0 => rfl)
theorem S_mo_accepted (c : mx_C) (m : mx_M) (a1 : Int32) (a2 : Int32) (hs : vp_in a1 4) : rx_sf L_mo_accepted [] 42 L_mo_accepted (c, m) [some (.ref 82), some (.int a1), some (.int a2)] [] :=
  And.intro rfl (And.intro hs (And.intro (fun h0 => And.intro rfl (And.intro hs (And.intro (fun h1 => And.intro rfl (And.intro hs (And.intro rfl (And.intro hs (And.intro rfl (And.intro hs (And.intro rfl (And.intro hs (And.intro rfl (trivial)))))))))) (fun h1 => trivial)))) (fun h0 => And.intro rfl (And.intro hs (And.intro rfl (And.intro hs (And.intro rfl (And.intro hs (And.intro rfl (And.intro hs (And.intro rfl (trivial))))))))))))

theorem og_mo_41_g {p : Program} {l : Launch} {e : Env} {R : Room} {s : State} {m : MethodId} {args : Array Value} {below : List Frame} {meth : Method} {c : Code} {cc : ByteArray} {nL : Nat} {ad : Nat → Nat} {D : va_G} {g : Nat → ClassId} {B : Nat} (X : ox_C p s m args c cc nL "SubscriberLinesModel" D g ad B) : rx_OK p l e R s m args below meth c cc nL ad (mx_W D g ad B s.heap) mx_cs (.getfield 41) 3 1 (mgr 93) := oy_gr (k := 12) X (by decide) rfl (al_at 723 (by decide +kernel) rfl)
theorem ok_mo_accepted : rx_okF prog_12_method_30_code 3 none L_mo_accepted 0 L_mo_accepted = true := by decide +kernel
theorem V_mo_accepted {l : Launch} {D : va_G} {g : Nat → ClassId} {ad : Nat → Nat} {B : Nat} (had : mx_A ad B) : rx_V l D g ad B ⟨"SubscriberLinesModel", "accepted", "(II)V"⟩ prog_12_method_30_code 3 none 2 54 K_mo_accepted := by
  intro av x hp
  obtain ⟨a0, a1, a2, rfl⟩ := k_RII_inv hp
  have hp : a0 = 82 ∧ vp_in a1 4 := hp
  have h0 : a0 = 82 := hp.1
  subst h0
  exact rx_met (k := 0) had (by decide) (Nat.le_of_ble_eq_true rfl) ok_mo_accepted rfl rfl 42 (fun p e s m args below meth c X => And.intro (og_mo_20_g X) (And.intro (oy_ai X) (And.intro (og_mo_32_g X) (And.intro (oy_ai X) (And.intro (og_mo_20_g X) (And.intro (oy_pa X) (And.intro (og_mo_32_g X) (And.intro (oy_pa X) (And.intro (og_mo_41_g X) (And.intro (oy_pa X) (And.intro (og_mo_23_g X) (And.intro (oy_ai X) (And.intro (cv_mo_sendOff X (V_mo_sendOff had) (al_at 858 (by decide +kernel) rfl) ⟨by decide, by decide⟩) (trivial)))))))))))))) (S_mo_accepted x.1 x.2 a1 a2 hp.2) (E_mo_accepted x.1 x.2 a1 a2)
def mo_subscriberTimer (m : mx_M) (a1 : Int32) : mx_M :=
  if (m.1 86 (Int32.toNatClampNeg a1)) = 3 then
    let m1 := my_pi m 93 (Int32.toNatClampNeg a1) ((m.1 93 (Int32.toNatClampNeg a1)) + 1)
    if (m1.1 93 (Int32.toNatClampNeg a1)) = 16 then
      let m2 := mo_leave m1 a1
      m2
    else
      m1
  else
    if (m.1 86 (Int32.toNatClampNeg a1)) = 0 then
      m
    else
      let m3 := my_pi m 91 (Int32.toNatClampNeg a1) ((m.1 91 (Int32.toNatClampNeg a1)) + 1)
      if (m3.1 91 (Int32.toNatClampNeg a1)) < 3 then
        m3
      else
        if (m3.1 92 (Int32.toNatClampNeg a1)) < 4 then
          let m4 := mo_ask m3 a1
          m4
        else
          if (m3.1 86 (Int32.toNatClampNeg a1)) = 2 then
            let m5 := mo_leave m3 a1
            m5
          else
            let m6 := mo_off m3 a1
            m6
def K_mo_subscriberTimer : rx_K mx := k_RI (fun a0 a1 c m => (a0 = 82 ∧ vp_in a1 4, (c, mo_subscriberTimer m a1), none))
def L_mo_subscriberTimer : List (rx_E mx) := [
  (0, .aload_n 0, 1, 0, 0, 0, [], kno),
  (1, .getfield 20, 3, 7, 1, 0, [], mgr 86),
  (4, .iload_n 1, 1, 0, 1, 0, [], kno),
  (5, .iaload, 1, 7, 2, 0, [], mai),
  (6, .iconst 3, 1, 0, 0, 3, [], kno),
  (7, .if_icmp .ne 30, 3, 2, 24, 0, [], kno),
  (10, .aload_n 0, 1, 0, 0, 0, [], kno),
  (11, .getfield 41, 3, 7, 1, 0, [], mgr 93),
  (14, .iload_n 1, 1, 0, 1, 0, [], kno),
  (15, .dup2, 1, 0, 0, 0, [], kno),
  (16, .iaload, 1, 7, 2, 0, [], mai),
  (17, .iconst 1, 1, 0, 0, 1, [], kno),
  (18, .iadd, 1, 0, 0, 0, [], kno),
  (19, .iastore, 1, 7, 3, 0, [], mpa),
  (20, .aload_n 0, 1, 0, 0, 0, [], kno),
  (21, .getfield 41, 3, 7, 1, 0, [], mgr 93),
  (24, .iload_n 1, 1, 0, 1, 0, [], kno),
  (25, .iaload, 1, 7, 2, 0, [], mai),
  (26, .bipush 16, 2, 0, 0, 16, [], kno),
  (28, .if_icmp .ne 8, 3, 2, 23, 0, [], kno),
  (31, .aload_n 0, 1, 0, 0, 0, [], kno),
  (32, .iload_n 1, 1, 0, 1, 0, [], kno),
  (33, .invokevirtual 210, 3, 7, 2, 0, [], K_mo_leave),
  (36, .return_, 1, 6, 0, 0, [], kno),
  (37, .aload_n 0, 1, 0, 0, 0, [], kno),
  (38, .getfield 20, 3, 7, 1, 0, [], mgr 86),
  (41, .iload_n 1, 1, 0, 1, 0, [], kno),
  (42, .iaload, 1, 7, 2, 0, [], mai),
  (43, .ifCond .ne 4, 3, 2, 30, 0, [], kno),
  (46, .return_, 1, 6, 0, 0, [], kno),
  (47, .aload_n 0, 1, 0, 0, 0, [], kno),
  (48, .getfield 35, 3, 7, 1, 0, [], mgr 91),
  (51, .iload_n 1, 1, 0, 1, 0, [], kno),
  (52, .dup2, 1, 0, 0, 0, [], kno),
  (53, .iaload, 1, 7, 2, 0, [], mai),
  (54, .iconst 1, 1, 0, 0, 1, [], kno),
  (55, .iadd, 1, 0, 0, 0, [], kno),
  (56, .iastore, 1, 7, 3, 0, [], mpa),
  (57, .aload_n 0, 1, 0, 0, 0, [], kno),
  (58, .getfield 35, 3, 7, 1, 0, [], mgr 91),
  (61, .iload_n 1, 1, 0, 1, 0, [], kno),
  (62, .iaload, 1, 7, 2, 0, [], mai),
  (63, .iconst 3, 1, 0, 0, 3, [], kno),
  (64, .if_icmp .ge 4, 3, 2, 45, 0, [], kno),
  (67, .return_, 1, 6, 0, 0, [], kno),
  (68, .aload_n 0, 1, 0, 0, 0, [], kno),
  (69, .getfield 38, 3, 7, 1, 0, [], mgr 92),
  (72, .iload_n 1, 1, 0, 1, 0, [], kno),
  (73, .iaload, 1, 7, 2, 0, [], mai),
  (74, .iconst 4, 1, 0, 0, 4, [], kno),
  (75, .if_icmp .ge 11, 3, 2, 55, 0, [], kno),
  (78, .aload_n 0, 1, 0, 0, 0, [], kno),
  (79, .iload_n 1, 1, 0, 1, 0, [], kno),
  (80, .invokevirtual 204, 3, 7, 2, 0, [], K_mo_ask),
  (83, .goto 26, 3, 1, 68, 0, [], kno),
  (86, .aload_n 0, 1, 0, 0, 0, [], kno),
  (87, .getfield 20, 3, 7, 1, 0, [], mgr 86),
  (90, .iload_n 1, 1, 0, 1, 0, [], kno),
  (91, .iaload, 1, 7, 2, 0, [], mai),
  (92, .iconst 2, 1, 0, 0, 2, [], kno),
  (93, .if_icmp .ne 11, 3, 2, 65, 0, [], kno),
  (96, .aload_n 0, 1, 0, 0, 0, [], kno),
  (97, .iload_n 1, 1, 0, 1, 0, [], kno),
  (98, .invokevirtual 210, 3, 7, 2, 0, [], K_mo_leave),
  (101, .goto 8, 3, 1, 68, 0, [], kno),
  (104, .aload_n 0, 1, 0, 0, 0, [], kno),
  (105, .iload_n 1, 1, 0, 1, 0, [], kno),
  (106, .invokevirtual 201, 3, 7, 2, 0, [], K_mo_off),
  (109, .return_, 1, 6, 0, 0, [], kno)]
theorem E_mo_subscriberTimer (c : mx_C) (m : mx_M) (a1 : Int32)  : rx_ev L_mo_subscriberTimer [] 71 L_mo_subscriberTimer (c, m) [some (.ref 82), some (.int a1)] [] = ry_v c (mo_subscriberTimer m a1) :=
  rx_ite2 (f := ry_v c) (fun h0 => rx_ite2 (f := ry_v c) (fun h1 => rfl) (fun h1 => rfl)) (fun h0 => rx_ite2 (f := ry_v c) (fun h1 => rfl) (fun h1 => rx_ite2 (f := ry_v c) (fun h2 => rfl) (fun h2 => rx_ite2 (f := ry_v c) (fun h3 => rfl) (fun h3 => rx_ite2 (f := ry_v c) (fun h4 => rfl) (fun h4 => rfl)))))
theorem S_mo_subscriberTimer (c : mx_C) (m : mx_M) (a1 : Int32) (hs : vp_in a1 4) : rx_sf L_mo_subscriberTimer [] 71 L_mo_subscriberTimer (c, m) [some (.ref 82), some (.int a1)] [] :=
  And.intro rfl (And.intro hs (And.intro (fun h0 => And.intro rfl (And.intro hs (And.intro hs (And.intro rfl (And.intro hs (And.intro (fun h1 => And.intro (And.intro rfl hs) (trivial)) (fun h1 => trivial))))))) (fun h0 => And.intro rfl (And.intro hs (And.intro (fun h1 => trivial) (fun h1 => And.intro rfl (And.intro hs (And.intro hs (And.intro rfl (And.intro hs (And.intro (fun h2 => trivial) (fun h2 => And.intro rfl (And.intro hs (And.intro (fun h3 => And.intro (And.intro rfl hs) (trivial)) (fun h3 => And.intro rfl (And.intro hs (And.intro (fun h4 => And.intro (And.intro rfl hs) (trivial)) (fun h4 => And.intro (And.intro rfl hs) (trivial)))))))))))))))))))

theorem cv_mo_leave {p : Program} {l : Launch} {e : Env} {R : Room} {s : State} {m : MethodId} {args : Array Value} {below : List Frame} {meth : Method} {c : Code} {cc : ByteArray} {nL : Nat} {ad : Nat → Nat} {D : va_G} {g : Nat → ClassId} {B : Nat} {own : String} {idx : Nat} (X : ox_C p s m args c cc nL own D g ad B) (hV : rx_V l D g ad B ⟨"SubscriberLinesModel", "leave", "(I)V"⟩ prog_12_method_28_code 2 none 2 54 K_mo_leave) (hl : Cond.methodLink own idx ⟨"SubscriberLinesModel", "leave", "(I)V"⟩ ∈ al) (hR : 2 + 1 ≤ R.frames ∧ 8 + (2 + 11) + 54 ≤ R.locals) : rx_OK p l e R s m args below meth c cc nL ad (mx_W D g ad B s.heap) mx_cs (.invokevirtual idx) 3 2 (K_mo_leave) :=
  ox_callV (q := 9) (T := T_9) X hV (fun av x h => by obtain ⟨a0, a1, rfl⟩ := k_RI_inv h; exact ⟨a0, _, rfl, by have h2 : a0 = 82 := h.1; rw [h2]; rfl⟩) (by decide) rfl hl (al_at 872 (by decide +kernel) rfl) (al_pr (y := (⟨"SubscriberLinesModel", "leave", "(I)V"⟩, _)) 39 rfl) (al_at 12 (by decide +kernel) rfl) (al_at 873 (by decide +kernel) rfl) ⟨by decide, by decide, by decide +kernel⟩ hR
theorem cv_mo_ask {p : Program} {l : Launch} {e : Env} {R : Room} {s : State} {m : MethodId} {args : Array Value} {below : List Frame} {meth : Method} {c : Code} {cc : ByteArray} {nL : Nat} {ad : Nat → Nat} {D : va_G} {g : Nat → ClassId} {B : Nat} {own : String} {idx : Nat} (X : ox_C p s m args c cc nL own D g ad B) (hV : rx_V l D g ad B ⟨"SubscriberLinesModel", "ask", "(I)V"⟩ prog_12_method_29_code 2 none 2 54 K_mo_ask) (hl : Cond.methodLink own idx ⟨"SubscriberLinesModel", "ask", "(I)V"⟩ ∈ al) (hR : 2 + 1 ≤ R.frames ∧ 8 + (2 + 11) + 54 ≤ R.locals) : rx_OK p l e R s m args below meth c cc nL ad (mx_W D g ad B s.heap) mx_cs (.invokevirtual idx) 3 2 (K_mo_ask) :=
  ox_callV (q := 9) (T := T_9) X hV (fun av x h => by obtain ⟨a0, a1, rfl⟩ := k_RI_inv h; exact ⟨a0, _, rfl, by have h2 : a0 = 82 := h.1; rw [h2]; rfl⟩) (by decide) rfl hl (al_at 856 (by decide +kernel) rfl) (al_pr (y := (⟨"SubscriberLinesModel", "ask", "(I)V"⟩, _)) 35 rfl) (al_at 12 (by decide +kernel) rfl) (al_at 857 (by decide +kernel) rfl) ⟨by decide, by decide, by decide +kernel⟩ hR
theorem ok_mo_subscriberTimer : rx_okF prog_12_method_32_code 2 none L_mo_subscriberTimer 0 L_mo_subscriberTimer = true := by decide +kernel
theorem V_mo_subscriberTimer {l : Launch} {D : va_G} {g : Nat → ClassId} {ad : Nat → Nat} {B : Nat} (had : mx_A ad B) : rx_V l D g ad B ⟨"SubscriberLinesModel", "subscriberTimer", "(I)V"⟩ prog_12_method_32_code 2 none 3 75 K_mo_subscriberTimer := by
  intro av x hp
  obtain ⟨a0, a1, rfl⟩ := k_RI_inv hp
  have hp : a0 = 82 ∧ vp_in a1 4 := hp
  have h0 : a0 = 82 := hp.1
  subst h0
  exact rx_met (k := 0) had (by decide) (Nat.le_of_ble_eq_true rfl) ok_mo_subscriberTimer rfl rfl 71 (fun p e s m args below meth c X => And.intro (og_mo_20_g X) (And.intro (oy_ai X) (And.intro (og_mo_41_g X) (And.intro (oy_ai X) (And.intro (oy_pa X) (And.intro (og_mo_41_g X) (And.intro (oy_ai X) (And.intro (cv_mo_leave X (V_mo_leave had) (al_at 870 (by decide +kernel) rfl) ⟨by decide, by decide⟩) (And.intro (og_mo_20_g X) (And.intro (oy_ai X) (And.intro (og_mo_35_g X) (And.intro (oy_ai X) (And.intro (oy_pa X) (And.intro (og_mo_35_g X) (And.intro (oy_ai X) (And.intro (og_mo_38_g X) (And.intro (oy_ai X) (And.intro (cv_mo_ask X (V_mo_ask had) (al_at 854 (by decide +kernel) rfl) ⟨by decide, by decide⟩) (And.intro (og_mo_20_g X) (And.intro (oy_ai X) (And.intro (cv_mo_leave X (V_mo_leave had) (al_at 870 (by decide +kernel) rfl) ⟨by decide, by decide⟩) (And.intro (cv_mo_off X (V_mo_off had) (al_at 874 (by decide +kernel) rfl) ⟨by decide, by decide⟩) (trivial))))))))))))))))))))))) (S_mo_subscriberTimer x.1 x.2 a1 hp.2) (E_mo_subscriberTimer x.1 x.2 a1)
end
section
theorem mo_circL (l : Int32) : ∀ (n : Nat) (m : mx_M) (f v : Int32), up4 n v → (¬ f < 0 → vp_in f 4) → ¬ mo_circuitOf_4 n m l f v < 0 → vp_in (mo_circuitOf_4 n m l f v) 4 := by
  intro n
  induction n with
  | zero => intro m f v hP; omega
  | succ n ih =>
    intro m f v hP hf
    unfold mo_circuitOf_4
    split
    · rename_i h
      split
      · split
        · exact ih _ _ _ (up4_1 h hP) (fun _ => up4_in h hP)
        · exact ih _ _ _ (up4_1 h hP) hf
      · exact ih _ _ _ (up4_1 h hP) hf
    · exact hf
theorem mo_circ_in {m : mx_M} {l : Int32} (h : ¬ mo_circuitOf m l < 0) : vp_in (mo_circuitOf m l) 4 := mo_circL l 5 m (-1) 0 (by decide) (fun h => absurd (by decide) h) h
theorem mo_sessL (a : Int32) : ∀ (n : Nat) (m : mx_M) (f v : Int32), up4 n v → (¬ f < 0 → mo_es m f) → ¬ mo_sessionOf_4 n m a f v < 0 → mo_es m (mo_sessionOf_4 n m a f v) := by
  intro n
  induction n with
  | zero => intro m f v hP; omega
  | succ n ih =>
    intro m f v hP hf
    unfold mo_sessionOf_4
    split
    · rename_i h
      have hes : mo_es m v := by
        have h' := h
        rw [i_lt, i_of _ (by omega)] at h'
        exact ⟨hP.1, h'⟩
      split
      · exact ih _ _ _ (mo_ses h hP).2 (fun _ => hes)
      · exact ih _ _ _ (mo_ses h hP).2 hf
    · exact hf
theorem mo_sess_in {m : mx_M} {a : Int32} (h : ¬ mo_sessionOf m a < 0) : mo_es m (mo_sessionOf m a) := mo_sessL a 5 m (-1) 0 (by decide) (fun h => absurd (by decide) h) h
theorem mo_es_in {m : mx_M} {v : Int32} (h : mo_es m v) : vp_in v 4 := by
  have := m.2.2.isLt
  unfold mo_es at h
  rw [i_in]
  omega
theorem fz_loseL : ∀ (n : Nat) (m : mx_M) (v : Int32), fz m (mo_loseCircuits_2 n m v) := by
  intro n
  induction n with
  | zero => intro m v; exact fz_rf m
  | succ n ih =>
    intro m v
    unfold mo_loseCircuits_2
    split
    · dsimp only
      split
      · exact fz_tr (fz_tr (fz_tr (fz_pi _ _ _ _ (by decide)) (fz_pi _ _ _ _ (by decide))) (fz_fy (fy_sendOff _ _ _ _ _ _ _))) (ih _ _)
      · exact fz_tr (fz_tr (fz_pi _ _ _ _ (by decide)) (fz_pi _ _ _ _ (by decide))) (ih _ _)
    · exact fz_rf m
theorem fz_loseCircuits (m : mx_M) : fz m (mo_loseCircuits m) := fz_loseL 5 m 0
theorem fz_endL (a : Int32) : ∀ (n : Nat) (m : mx_M) (v : Int32), fz m (mo_endSession_12 n m a v) := by
  intro n
  induction n with
  | zero => intro m v; exact fz_rf m
  | succ n ih =>
    intro m v
    unfold mo_endSession_12
    split
    · exact fz_tr (fz_tr (fz_tr (fz_tr (fz_tr (fz_pi _ _ _ _ (by decide)) (fz_pi _ _ _ _ (by decide))) (fz_pi _ _ _ _ (by decide))) (fz_pi _ _ _ _ (by decide))) (fz_pi _ _ _ _ (by decide))) (ih _ _)
    · exact fz_rf m
theorem fz_endSession (m : mx_M) (a : Int32) : fz m (mo_endSession m a) := fz_tr (fz_ps m _) (fz_endL a 6 _ _)
theorem mo_b_endTimer {m : mx_M} {k : Int} {e : Int32} (h : mo_b m k) (hk : 0 ≤ k) : mo_b (mo_endTimer m e) k := by
  unfold mo_endTimer
  split
  · exact h
  · split
    · exact h
    · dsimp only
      split
      · exact mo_b_pi (by decide) h
      · split
        · split
          · exact mo_b_fz (fz_loseCircuits _) (mo_b_clear (mo_b_pi (by decide) h) hk)
          · exact mo_b_fz (fz_ps _ _) (mo_b_clear (mo_b_pi (by decide) h) hk)
        · exact mo_b_fz (fz_fy (fy_transmit _ _ _)) (mo_b_pi (by decide) (mo_b_pi (by decide) (mo_b_pi (by decide) h)))
def mo_accessDoes (m : mx_M) (a1 : Int32) (a2 : Int32) (a3 : Int32) : mx_M :=
  if a1 = 14 then
    if (mo_circuitOf m a2) < 0 then
      let m1 := mo_say m 0 15 a3 0
      m1
    else
      let m2 := my_pi m 97 (Int32.toNatClampNeg (mo_circuitOf m a2)) a3
      m2
  else
    if a1 = 15 then
      if (mo_circuitOf m a2) < 0 then
        m
      else
        let m3 := my_pi m 96 (Int32.toNatClampNeg (mo_circuitOf m a2)) 0
        let m4 := my_pi m3 97 (Int32.toNatClampNeg (mo_circuitOf m a2)) 0
        let m5 := mo_sendOff m4 3 4 (mo_circuitOf m a2) a2 0 0
        m5
    else
      m
def K_mo_accessDoes : rx_K mx := k_RIII (fun a0 a1 a2 a3 c m => (a0 = 82 ∧ mo_b m 1399, (c, mo_accessDoes m a1 a2 a3), none))
def L_mo_accessDoes : List (rx_E mx) := [
  (0, .iload_n 1, 1, 0, 1, 0, [], kno),
  (1, .bipush 14, 2, 0, 0, 14, [], kno),
  (3, .if_icmp .eq 9, 3, 2, 6, 0, [], kno),
  (6, .iload_n 1, 1, 0, 1, 0, [], kno),
  (7, .bipush 15, 2, 0, 0, 15, [], kno),
  (9, .if_icmp .ne 11, 3, 2, 10, 0, [], kno),
  (12, .aload_n 0, 1, 0, 0, 0, [], kno),
  (13, .iload_n 2, 1, 0, 2, 0, [], kno),
  (14, .invokevirtual 168, 3, 7, 2, 0, [], K_mo_circuitOf),
  (17, .goto 4, 3, 1, 11, 0, [], kno),
  (20, .iconst (-1), 1, 0, 0, (-1), [], kno),
  (21, .istore 4, 2, 0, 4, 0, [], kno),
  (23, .iload_n 1, 1, 0, 1, 0, [], kno),
  (24, .bipush 14, 2, 0, 0, 14, [], kno),
  (26, .if_icmp .ne 20, 3, 2, 24, 0, [], kno),
  (29, .iload 4, 2, 0, 4, 0, [], kno),
  (31, .ifCond .ge 15, 3, 2, 24, 0, [], kno),
  (34, .aload_n 0, 1, 0, 0, 0, [], kno),
  (35, .iconst 0, 1, 0, 0, 0, [], kno),
  (36, .bipush 15, 2, 0, 0, 15, [], kno),
  (38, .iload_n 3, 1, 0, 3, 0, [], kno),
  (39, .iconst 0, 1, 0, 0, 0, [], kno),
  (40, .invokevirtual 149, 3, 7, 5, 0, [], K_mo_say),
  (43, .goto 52, 3, 1, 53, 0, [], kno),
  (46, .iload_n 1, 1, 0, 1, 0, [], kno),
  (47, .bipush 14, 2, 0, 0, 14, [], kno),
  (49, .if_icmp .ne 14, 3, 2, 33, 0, [], kno),
  (52, .aload_n 0, 1, 0, 0, 0, [], kno),
  (53, .getfield 53, 3, 7, 1, 0, [], mgr 97),
  (56, .iload 4, 2, 0, 4, 0, [], kno),
  (58, .iload_n 3, 1, 0, 3, 0, [], kno),
  (59, .iastore, 1, 7, 3, 0, [], mpa),
  (60, .goto 35, 3, 1, 53, 0, [], kno),
  (63, .iload 4, 2, 0, 4, 0, [], kno),
  (65, .ifCond .lt 30, 3, 2, 53, 0, [], kno),
  (68, .aload_n 0, 1, 0, 0, 0, [], kno),
  (69, .getfield 50, 3, 7, 1, 0, [], mgr 96),
  (72, .iload 4, 2, 0, 4, 0, [], kno),
  (74, .iconst 0, 1, 0, 0, 0, [], kno),
  (75, .iastore, 1, 7, 3, 0, [], mpa),
  (76, .aload_n 0, 1, 0, 0, 0, [], kno),
  (77, .getfield 53, 3, 7, 1, 0, [], mgr 97),
  (80, .iload 4, 2, 0, 4, 0, [], kno),
  (82, .iconst 0, 1, 0, 0, 0, [], kno),
  (83, .iastore, 1, 7, 3, 0, [], mpa),
  (84, .aload_n 0, 1, 0, 0, 0, [], kno),
  (85, .iconst 3, 1, 0, 0, 3, [], kno),
  (86, .iconst 4, 1, 0, 0, 4, [], kno),
  (87, .iload 4, 2, 0, 4, 0, [], kno),
  (89, .iload_n 2, 1, 0, 2, 0, [], kno),
  (90, .iconst 0, 1, 0, 0, 0, [], kno),
  (91, .iconst 0, 1, 0, 0, 0, [], kno),
  (92, .invokevirtual 138, 3, 7, 7, 0, [], K_mo_sendOff),
  (95, .return_, 1, 6, 0, 0, [], kno)]
theorem E_mo_accessDoes (c : mx_C) (m : mx_M) (a1 : Int32) (a2 : Int32) (a3 : Int32)  : rx_ev L_mo_accessDoes [] 56 L_mo_accessDoes (c, m) [some (.ref 82), some (.int a1), some (.int a2), some (.int a3), none] [] = ry_v c (mo_accessDoes m a1 a2 a3) :=
  rx_ite2 (f := ry_v c) (fun h0 => rx_litT h0 (rx_ite2 (f := ry_v c) (fun h1 => rfl) (fun h1 => rx_litT h0 (rfl)))) (fun h0 => rx_ite2 (f := ry_v c) (fun h1 => rx_litF h0 (rx_litF h0 (rx_ite2 (f := ry_v c) (fun h2 => rfl) (fun h2 => rfl)))) (fun h1 => rx_litF h0 (rx_litF h0 (rfl))))
theorem S_mo_accessDoes (c : mx_C) (m : mx_M) (a1 : Int32) (a2 : Int32) (a3 : Int32) (hb : mo_b m 1399) : rx_sf L_mo_accessDoes [] 56 L_mo_accessDoes (c, m) [some (.ref 82), some (.int a1), some (.int a2), some (.int a3), none] [] :=
  And.intro (fun h0 => And.intro rfl (And.intro (fun _ => And.intro (fun h1 => And.intro (And.intro rfl (mo_b_sy (k := 1399) hb (by decide) (i_in.mpr (by decide)))) (trivial)) (fun h1 => And.intro (fun _ => And.intro rfl (And.intro (mo_circ_in (by assumption)) (trivial))) (fun h => absurd h0 h))) (fun h => absurd h0 h))) (fun h0 => And.intro (fun h1 => And.intro rfl (And.intro (fun h => absurd h h0) (fun _ => And.intro (fun h => absurd h h0) (fun _ => And.intro (fun h2 => trivial) (fun h2 => And.intro rfl (And.intro (mo_circ_in (by assumption)) (And.intro rfl (And.intro (mo_circ_in (by assumption)) (And.intro rfl (trivial)))))))))) (fun h1 => And.intro (fun h => absurd h h0) (fun _ => And.intro (fun h => absurd h h0) (fun _ => And.intro (fun _ => trivial) (fun h => absurd (by decide : (((-1) : Int32) < 0)) h)))))

theorem cv_mo_circuitOf {p : Program} {l : Launch} {e : Env} {R : Room} {s : State} {m : MethodId} {args : Array Value} {below : List Frame} {meth : Method} {c : Code} {cc : ByteArray} {nL : Nat} {ad : Nat → Nat} {D : va_G} {g : Nat → ClassId} {B : Nat} {own : String} {idx : Nat} (X : ox_C p s m args c cc nL own D g ad B) (hV : rx_V l D g ad B ⟨"SubscriberLinesModel", "circuitOf", "(I)I"⟩ prog_12_method_13_code 4 (some .int) 0 0 K_mo_circuitOf) (hl : Cond.methodLink own idx ⟨"SubscriberLinesModel", "circuitOf", "(I)I"⟩ ∈ al) (hR : 0 + 1 ≤ R.frames ∧ 8 + (4 + 11) + 0 ≤ R.locals) : rx_OK p l e R s m args below meth c cc nL ad (mx_W D g ad B s.heap) mx_cs (.invokevirtual idx) 3 2 (K_mo_circuitOf) :=
  ox_callV (q := 9) (T := T_9) X hV (fun av x h => by obtain ⟨a0, a1, rfl⟩ := k_RI_inv h; exact ⟨a0, _, rfl, by have h2 : a0 = 82 := h; rw [h2]; rfl⟩) (by decide) rfl hl (al_at 900 (by decide +kernel) rfl) (al_pr (y := (⟨"SubscriberLinesModel", "circuitOf", "(I)I"⟩, _)) 46 rfl) (al_at 12 (by decide +kernel) rfl) (al_at 901 (by decide +kernel) rfl) ⟨by decide, by decide, by decide +kernel⟩ hR
theorem ok_mo_accessDoes : rx_okF prog_12_method_17_code 5 none L_mo_accessDoes 0 L_mo_accessDoes = true := by decide +kernel
theorem V_mo_accessDoes {l : Launch} {D : va_G} {g : Nat → ClassId} {ad : Nat → Nat} {B : Nat} (had : mx_A ad B) : rx_V l D g ad B ⟨"SubscriberLinesModel", "accessDoes", "(III)V"⟩ prog_12_method_17_code 5 none 4 98 K_mo_accessDoes := by
  intro av x hp
  obtain ⟨a0, a1, a2, a3, rfl⟩ := k_RIII_inv hp
  have hp : a0 = 82 ∧ mo_b x.2 1399 := hp
  have h0 : a0 = 82 := hp.1
  subst h0
  exact rx_met (k := 1) had (by decide) (Nat.le_of_ble_eq_true rfl) ok_mo_accessDoes rfl rfl 56 (fun p e s m args below meth c X => And.intro (cv_mo_circuitOf X (V_mo_circuitOf had) (al_at 898 (by decide +kernel) rfl) ⟨by decide, by decide⟩) (And.intro (cv_mo_say X (V_mo_say had) (al_at 902 (by decide +kernel) rfl) ⟨by decide, by decide⟩) (And.intro (og_mo_53_g X) (And.intro (oy_pa X) (And.intro (og_mo_50_g X) (And.intro (oy_pa X) (And.intro (og_mo_53_g X) (And.intro (oy_pa X) (And.intro (cv_mo_sendOff X (V_mo_sendOff had) (al_at 858 (by decide +kernel) rfl) ⟨by decide, by decide⟩) (trivial)))))))))) (S_mo_accessDoes x.1 x.2 a1 a2 a3 hp.2) (E_mo_accessDoes x.1 x.2 a1 a2 a3)
def mo_fromServer (m : mx_M) (a1 : Int32) (a2 : Int32) (a3 : Int32) (a4 : Int32) : mx_M :=
  if (mo_circuitOf m a2) < 0 then
    m
  else
    if a1 = 5 then
      let m1 := mo_sendOff m a1 4 (mo_circuitOf m a2) a2 a3 a4
      m1
    else
      if a1 = 6 then
        let m2 := mo_sendOff m a1 4 (mo_circuitOf m a2) a2 a3 a4
        m2
      else
        if a1 = 8 then
          let m3 := mo_sendOff m a1 4 (mo_circuitOf m a2) a2 a3 a4
          m3
        else
          if a1 = 11 then
            let m4 := mo_sendOff m a1 4 (mo_circuitOf m a2) a2 a3 a4
            m4
          else
            m
def K_mo_fromServer : rx_K mx := k_RIIII (fun a0 a1 a2 a3 a4 c m => (a0 = 82, (c, mo_fromServer m a1 a2 a3 a4), none))
def L_mo_fromServer : List (rx_E mx) := [
  (0, .aload_n 0, 1, 0, 0, 0, [], kno),
  (1, .iload_n 2, 1, 0, 2, 0, [], kno),
  (2, .invokevirtual 168, 3, 7, 2, 0, [], K_mo_circuitOf),
  (5, .istore 5, 2, 0, 5, 0, [], kno),
  (7, .iload 5, 2, 0, 5, 0, [], kno),
  (9, .ifCond .lt 38, 3, 2, 26, 0, [], kno),
  (12, .iload_n 1, 1, 0, 1, 0, [], kno),
  (13, .iconst 5, 1, 0, 0, 5, [], kno),
  (14, .if_icmp .eq 21, 3, 2, 18, 0, [], kno),
  (17, .iload_n 1, 1, 0, 1, 0, [], kno),
  (18, .bipush 6, 2, 0, 0, 6, [], kno),
  (20, .if_icmp .eq 15, 3, 2, 18, 0, [], kno),
  (23, .iload_n 1, 1, 0, 1, 0, [], kno),
  (24, .bipush 8, 2, 0, 0, 8, [], kno),
  (26, .if_icmp .eq 9, 3, 2, 18, 0, [], kno),
  (29, .iload_n 1, 1, 0, 1, 0, [], kno),
  (30, .bipush 11, 2, 0, 0, 11, [], kno),
  (32, .if_icmp .ne 15, 3, 2, 26, 0, [], kno),
  (35, .aload_n 0, 1, 0, 0, 0, [], kno),
  (36, .iload_n 1, 1, 0, 1, 0, [], kno),
  (37, .iconst 4, 1, 0, 0, 4, [], kno),
  (38, .iload 5, 2, 0, 5, 0, [], kno),
  (40, .iload_n 2, 1, 0, 2, 0, [], kno),
  (41, .iload_n 3, 1, 0, 3, 0, [], kno),
  (42, .iload 4, 2, 0, 4, 0, [], kno),
  (44, .invokevirtual 138, 3, 7, 7, 0, [], K_mo_sendOff),
  (47, .return_, 1, 6, 0, 0, [], kno)]
theorem E_mo_fromServer (c : mx_C) (m : mx_M) (a1 : Int32) (a2 : Int32) (a3 : Int32) (a4 : Int32)  : rx_ev L_mo_fromServer [] 29 L_mo_fromServer (c, m) [some (.ref 82), some (.int a1), some (.int a2), some (.int a3), some (.int a4), none] [] = ry_v c (mo_fromServer m a1 a2 a3 a4) :=
  rx_ite2 (f := ry_v c) (fun h0 => rfl) (fun h0 => rx_ite2 (f := ry_v c) (fun h1 => rfl) (fun h1 => rx_ite2 (f := ry_v c) (fun h2 => rfl) (fun h2 => rx_ite2 (f := ry_v c) (fun h3 => rfl) (fun h3 => rx_ite2 (f := ry_v c) (fun h4 => rfl) (fun h4 => rfl)))))
theorem S_mo_fromServer (c : mx_C) (m : mx_M) (a1 : Int32) (a2 : Int32) (a3 : Int32) (a4 : Int32)  : rx_sf L_mo_fromServer [] 29 L_mo_fromServer (c, m) [some (.ref 82), some (.int a1), some (.int a2), some (.int a3), some (.int a4), none] [] :=
  And.intro rfl (And.intro (fun h0 => trivial) (fun h0 => And.intro (fun h1 => And.intro rfl (trivial)) (fun h1 => And.intro (fun h2 => And.intro rfl (trivial)) (fun h2 => And.intro (fun h3 => And.intro rfl (trivial)) (fun h3 => And.intro (fun h4 => And.intro rfl (trivial)) (fun h4 => trivial))))))

theorem ok_mo_fromServer : rx_okF prog_12_method_18_code 6 none L_mo_fromServer 0 L_mo_fromServer = true := by decide +kernel
theorem V_mo_fromServer {l : Launch} {D : va_G} {g : Nat → ClassId} {ad : Nat → Nat} {B : Nat} (had : mx_A ad B) : rx_V l D g ad B ⟨"SubscriberLinesModel", "fromServer", "(IIII)V"⟩ prog_12_method_18_code 6 none 2 54 K_mo_fromServer := by
  intro av x hp
  obtain ⟨a0, a1, a2, a3, a4, rfl⟩ := k_RIIII_inv hp
  have hp : a0 = 82 := hp
  have h0 : a0 = 82 := hp
  subst h0
  exact rx_met (k := 1) had (by decide) (Nat.le_of_ble_eq_true rfl) ok_mo_fromServer rfl rfl 29 (fun p e s m args below meth c X => And.intro (cv_mo_circuitOf X (V_mo_circuitOf had) (al_at 898 (by decide +kernel) rfl) ⟨by decide, by decide⟩) (And.intro (cv_mo_sendOff X (V_mo_sendOff had) (al_at 858 (by decide +kernel) rfl) ⟨by decide, by decide⟩) (trivial))) (S_mo_fromServer x.1 x.2 a1 a2 a3 a4 ) (E_mo_fromServer x.1 x.2 a1 a2 a3 a4)
def mo_fromSubscriber (m : mx_M) (a1 : Int32) (a2 : Int32) (a3 : Int32) (a4 : Int32) (a5 : Int32) : mx_M :=
  if a2 = 1 then
    let m1 := mo_join m a1
    m1
  else
    if (m.1 96 (Int32.toNatClampNeg a1)) = 0 then
      m
    else
      if (m.1 96 (Int32.toNatClampNeg a1)) = a3 then
        if a2 = 3 then
          let m2 := mo_takeDown m a1
          m2
        else
          if 0 < (m.1 97 (Int32.toNatClampNeg a1)) then
            if a2 = 4 then
              let m3 := mo_sendOff m a2 4 5 (m.1 97 (Int32.toNatClampNeg a1)) a4 a5
              m3
            else
              if a2 = 7 then
                let m4 := mo_sendOff m a2 4 5 (m.1 97 (Int32.toNatClampNeg a1)) a4 a5
                m4
              else
                if a2 = 9 then
                  let m5 := mo_sendOff m a2 4 5 (m.1 97 (Int32.toNatClampNeg a1)) a4 a5
                  m5
                else
                  if a2 = 10 then
                    let m6 := mo_sendOff m a2 4 5 (m.1 97 (Int32.toNatClampNeg a1)) a4 a5
                    m6
                  else
                    m
          else
            m
      else
        m
def K_mo_fromSubscriber : rx_K mx := k_RIIIII (fun a0 a1 a2 a3 a4 a5 c m => (a0 = 82 ∧ mo_j m 1397 a1, (c, mo_fromSubscriber m a1 a2 a3 a4 a5), none))
def L_mo_fromSubscriber : List (rx_E mx) := [
  (0, .iload_n 2, 1, 0, 2, 0, [], kno),
  (1, .iconst 1, 1, 0, 0, 1, [], kno),
  (2, .if_icmp .ne 9, 3, 2, 7, 0, [], kno),
  (5, .aload_n 0, 1, 0, 0, 0, [], kno),
  (6, .iload_n 1, 1, 0, 1, 0, [], kno),
  (7, .invokevirtual 165, 3, 7, 2, 0, [], K_mo_join),
  (10, .return_, 1, 6, 0, 0, [], kno),
  (11, .aload_n 0, 1, 0, 0, 0, [], kno),
  (12, .getfield 50, 3, 7, 1, 0, [], mgr 96),
  (15, .iload_n 1, 1, 0, 1, 0, [], kno),
  (16, .iaload, 1, 7, 2, 0, [], mai),
  (17, .ifCond .eq 13, 3, 2, 18, 0, [], kno),
  (20, .aload_n 0, 1, 0, 0, 0, [], kno),
  (21, .getfield 50, 3, 7, 1, 0, [], mgr 96),
  (24, .iload_n 1, 1, 0, 1, 0, [], kno),
  (25, .iaload, 1, 7, 2, 0, [], mai),
  (26, .iload_n 3, 1, 0, 3, 0, [], kno),
  (27, .if_icmp .eq 4, 3, 2, 19, 0, [], kno),
  (30, .return_, 1, 6, 0, 0, [], kno),
  (31, .iload_n 2, 1, 0, 2, 0, [], kno),
  (32, .iconst 3, 1, 0, 0, 3, [], kno),
  (33, .if_icmp .ne 11, 3, 2, 26, 0, [], kno),
  (36, .aload_n 0, 1, 0, 0, 0, [], kno),
  (37, .iload_n 1, 1, 0, 1, 0, [], kno),
  (38, .invokevirtual 153, 3, 7, 2, 0, [], K_mo_takeDown),
  (41, .goto 52, 3, 1, 54, 0, [], kno),
  (44, .aload_n 0, 1, 0, 0, 0, [], kno),
  (45, .getfield 53, 3, 7, 1, 0, [], mgr 97),
  (48, .iload_n 1, 1, 0, 1, 0, [], kno),
  (49, .iaload, 1, 7, 2, 0, [], mai),
  (50, .ifCond .le 43, 3, 2, 54, 0, [], kno),
  (53, .iload_n 2, 1, 0, 2, 0, [], kno),
  (54, .iconst 4, 1, 0, 0, 4, [], kno),
  (55, .if_icmp .eq 21, 3, 2, 43, 0, [], kno),
  (58, .iload_n 2, 1, 0, 2, 0, [], kno),
  (59, .bipush 7, 2, 0, 0, 7, [], kno),
  (61, .if_icmp .eq 15, 3, 2, 43, 0, [], kno),
  (64, .iload_n 2, 1, 0, 2, 0, [], kno),
  (65, .bipush 9, 2, 0, 0, 9, [], kno),
  (67, .if_icmp .eq 9, 3, 2, 43, 0, [], kno),
  (70, .iload_n 2, 1, 0, 2, 0, [], kno),
  (71, .bipush 10, 2, 0, 0, 10, [], kno),
  (73, .if_icmp .ne 20, 3, 2, 54, 0, [], kno),
  (76, .aload_n 0, 1, 0, 0, 0, [], kno),
  (77, .iload_n 2, 1, 0, 2, 0, [], kno),
  (78, .iconst 4, 1, 0, 0, 4, [], kno),
  (79, .iconst 5, 1, 0, 0, 5, [], kno),
  (80, .aload_n 0, 1, 0, 0, 0, [], kno),
  (81, .getfield 53, 3, 7, 1, 0, [], mgr 97),
  (84, .iload_n 1, 1, 0, 1, 0, [], kno),
  (85, .iaload, 1, 7, 2, 0, [], mai),
  (86, .iload 4, 2, 0, 4, 0, [], kno),
  (88, .iload 5, 2, 0, 5, 0, [], kno),
  (90, .invokevirtual 138, 3, 7, 7, 0, [], K_mo_sendOff),
  (93, .return_, 1, 6, 0, 0, [], kno)]
theorem E_mo_fromSubscriber (c : mx_C) (m : mx_M) (a1 : Int32) (a2 : Int32) (a3 : Int32) (a4 : Int32) (a5 : Int32)  : rx_ev L_mo_fromSubscriber [] 57 L_mo_fromSubscriber (c, m) [some (.ref 82), some (.int a1), some (.int a2), some (.int a3), some (.int a4), some (.int a5)] [] = ry_v c (mo_fromSubscriber m a1 a2 a3 a4 a5) :=
  rx_ite2 (f := ry_v c) (fun h0 => rfl) (fun h0 => rx_ite2 (f := ry_v c) (fun h1 => rfl) (fun h1 => rx_ite2 (f := ry_v c) (fun h2 => rx_ite2 (f := ry_v c) (fun h3 => rfl) (fun h3 => rx_ite2 (f := ry_v c) (fun h4 => rx_ite2 (f := ry_v c) (fun h5 => rfl) (fun h5 => rx_ite2 (f := ry_v c) (fun h6 => rfl) (fun h6 => rx_ite2 (f := ry_v c) (fun h7 => rfl) (fun h7 => rx_ite2 (f := ry_v c) (fun h8 => rfl) (fun h8 => rfl))))) (fun h4 => rfl))) (fun h2 => rfl)))
theorem S_mo_fromSubscriber (c : mx_C) (m : mx_M) (a1 : Int32) (a2 : Int32) (a3 : Int32) (a4 : Int32) (a5 : Int32) (hj : mo_j m 1397 a1) : rx_sf L_mo_fromSubscriber [] 57 L_mo_fromSubscriber (c, m) [some (.ref 82), some (.int a1), some (.int a2), some (.int a3), some (.int a4), some (.int a5)] [] :=
  And.intro (fun h0 => And.intro (And.intro rfl hj) (trivial)) (fun h0 => And.intro rfl (And.intro hj.1 (And.intro (fun h1 => trivial) (fun h1 => And.intro rfl (And.intro hj.1 (And.intro (fun h2 => And.intro (fun h3 => And.intro (And.intro rfl (And.intro hj.1 (mo_b_mono hj.2 (by decide)))) (trivial)) (fun h3 => And.intro rfl (And.intro hj.1 (And.intro (fun h4 => And.intro (fun h5 => And.intro rfl (And.intro hj.1 (And.intro rfl (trivial)))) (fun h5 => And.intro (fun h6 => And.intro rfl (And.intro hj.1 (And.intro rfl (trivial)))) (fun h6 => And.intro (fun h7 => And.intro rfl (And.intro hj.1 (And.intro rfl (trivial)))) (fun h7 => And.intro (fun h8 => And.intro rfl (And.intro hj.1 (And.intro rfl (trivial)))) (fun h8 => trivial))))) (fun h4 => trivial))))) (fun h2 => trivial)))))))

theorem cv_mo_join {p : Program} {l : Launch} {e : Env} {R : Room} {s : State} {m : MethodId} {args : Array Value} {below : List Frame} {meth : Method} {c : Code} {cc : ByteArray} {nL : Nat} {ad : Nat → Nat} {D : va_G} {g : Nat → ClassId} {B : Nat} {own : String} {idx : Nat} (X : ox_C p s m args c cc nL own D g ad B) (hV : rx_V l D g ad B ⟨"SubscriberLinesModel", "join", "(I)V"⟩ prog_12_method_15_code 2 none 5 120 K_mo_join) (hl : Cond.methodLink own idx ⟨"SubscriberLinesModel", "join", "(I)V"⟩ ∈ al) (hR : 5 + 1 ≤ R.frames ∧ 8 + (2 + 11) + 120 ≤ R.locals) : rx_OK p l e R s m args below meth c cc nL ad (mx_W D g ad B s.heap) mx_cs (.invokevirtual idx) 3 2 (K_mo_join) :=
  ox_callV (q := 9) (T := T_9) X hV (fun av x h => by obtain ⟨a0, a1, rfl⟩ := k_RI_inv h; exact ⟨a0, _, rfl, by have h2 : a0 = 82 := h.1; rw [h2]; rfl⟩) (by decide) rfl hl (al_at 939 (by decide +kernel) rfl) (al_pr (y := (⟨"SubscriberLinesModel", "join", "(I)V"⟩, _)) 55 rfl) (al_at 12 (by decide +kernel) rfl) (al_at 940 (by decide +kernel) rfl) ⟨by decide, by decide, by decide +kernel⟩ hR
theorem ok_mo_fromSubscriber : rx_okF prog_12_method_16_code 6 none L_mo_fromSubscriber 0 L_mo_fromSubscriber = true := by decide +kernel
theorem V_mo_fromSubscriber {l : Launch} {D : va_G} {g : Nat → ClassId} {ad : Nat → Nat} {B : Nat} (had : mx_A ad B) : rx_V l D g ad B ⟨"SubscriberLinesModel", "fromSubscriber", "(IIIII)V"⟩ prog_12_method_16_code 6 none 6 141 K_mo_fromSubscriber := by
  intro av x hp
  obtain ⟨a0, a1, a2, a3, a4, a5, rfl⟩ := k_RIIIII_inv hp
  have hp : a0 = 82 ∧ mo_j x.2 1397 a1 := hp
  have h0 : a0 = 82 := hp.1
  subst h0
  exact rx_met (k := 0) had (by decide) (Nat.le_of_ble_eq_true rfl) ok_mo_fromSubscriber rfl rfl 57 (fun p e s m args below meth c X => And.intro (cv_mo_join X (V_mo_join had) (al_at 937 (by decide +kernel) rfl) ⟨by decide, by decide⟩) (And.intro (og_mo_50_g X) (And.intro (oy_ai X) (And.intro (og_mo_50_g X) (And.intro (oy_ai X) (And.intro (cv_mo_takeDown X (V_mo_takeDown had) (al_at 941 (by decide +kernel) rfl) ⟨by decide, by decide⟩) (And.intro (og_mo_53_g X) (And.intro (oy_ai X) (And.intro (og_mo_53_g X) (And.intro (oy_ai X) (And.intro (cv_mo_sendOff X (V_mo_sendOff had) (al_at 858 (by decide +kernel) rfl) ⟨by decide, by decide⟩) (trivial)))))))))))) (S_mo_fromSubscriber x.1 x.2 a1 a2 a3 a4 a5 hp.2) (E_mo_fromSubscriber x.1 x.2 a1 a2 a3 a4 a5)
def mo_accessTimer (m : mx_M)  : mx_M :=
  let m1 := mo_endTimer m 0
  if 0 < (m1.1 106 0) then
    if (m1.1 109 0) = (m1.1 107 0) then
      let m2 := my_pi m1 82 17 ((m1.1 82 17) + 1)
      if (m2.1 82 17) = 10 then
        let m3 := mo_say m2 0 16 0 0
        let m4 := my_pi m3 82 17 0
        m4
      else
        m2
    else
      let m5 := my_pi m1 82 17 0
      m5
  else
    let m6 := my_pi m1 82 17 0
    m6
def K_mo_accessTimer : rx_K mx := k_R (fun a0 c m => (a0 = 82 ∧ mo_b m 1399, (c, mo_accessTimer m), none))
def L_mo_accessTimer : List (rx_E mx) := [
  (0, .aload_n 0, 1, 0, 0, 0, [], kno),
  (1, .iconst 0, 1, 0, 0, 0, [], kno),
  (2, .invokevirtual 172, 3, 7, 2, 0, [], K_mo_endTimer),
  (5, .aload_n 0, 1, 0, 0, 0, [], kno),
  (6, .aload_n 0, 1, 0, 0, 0, [], kno),
  (7, .getfield 80, 3, 7, 1, 0, [], mgr 106),
  (10, .iconst 0, 1, 0, 0, 0, [], kno),
  (11, .iaload, 1, 7, 2, 0, [], mai),
  (12, .ifCond .le 27, 3, 2, 23, 0, [], kno),
  (15, .aload_n 0, 1, 0, 0, 0, [], kno),
  (16, .getfield 89, 3, 7, 1, 0, [], mgr 109),
  (19, .iconst 0, 1, 0, 0, 0, [], kno),
  (20, .iaload, 1, 7, 2, 0, [], mai),
  (21, .aload_n 0, 1, 0, 0, 0, [], kno),
  (22, .getfield 83, 3, 7, 1, 0, [], mgr 107),
  (25, .iconst 0, 1, 0, 0, 0, [], kno),
  (26, .iaload, 1, 7, 2, 0, [], mai),
  (27, .if_icmp .ne 12, 3, 2, 23, 0, [], kno),
  (30, .aload_n 0, 1, 0, 0, 0, [], kno),
  (31, .getfield 162, 3, 7, 1, 0, [], mgi 17),
  (34, .iconst 1, 1, 0, 0, 1, [], kno),
  (35, .iadd, 1, 0, 0, 0, [], kno),
  (36, .goto 4, 3, 1, 24, 0, [], kno),
  (39, .iconst 0, 1, 0, 0, 0, [], kno),
  (40, .putfield 162, 3, 7, 2, 0, [], mpi 17),
  (43, .aload_n 0, 1, 0, 0, 0, [], kno),
  (44, .getfield 162, 3, 7, 1, 0, [], mgi 17),
  (47, .bipush 10, 2, 0, 0, 10, [], kno),
  (49, .if_icmp .ne 17, 3, 2, 38, 0, [], kno),
  (52, .aload_n 0, 1, 0, 0, 0, [], kno),
  (53, .iconst 0, 1, 0, 0, 0, [], kno),
  (54, .bipush 16, 2, 0, 0, 16, [], kno),
  (56, .iconst 0, 1, 0, 0, 0, [], kno),
  (57, .iconst 0, 1, 0, 0, 0, [], kno),
  (58, .invokevirtual 149, 3, 7, 5, 0, [], K_mo_say),
  (61, .aload_n 0, 1, 0, 0, 0, [], kno),
  (62, .iconst 0, 1, 0, 0, 0, [], kno),
  (63, .putfield 162, 3, 7, 2, 0, [], mpi 17),
  (66, .return_, 1, 6, 0, 0, [], kno)]
theorem E_mo_accessTimer (c : mx_C) (m : mx_M)   : rx_ev L_mo_accessTimer [] 41 L_mo_accessTimer (c, m) [some (.ref 82)] [] = ry_v c (mo_accessTimer m) :=
  rx_ite2 (f := ry_v c) (fun h0 => rx_ite2 (f := ry_v c) (fun h1 => rx_ite2 (f := ry_v c) (fun h2 => rfl) (fun h2 => rfl)) (fun h1 => rfl)) (fun h0 => rfl)
theorem S_mo_accessTimer (c : mx_C) (m : mx_M)  (hb : mo_b m 1399) : rx_sf L_mo_accessTimer [] 41 L_mo_accessTimer (c, m) [some (.ref 82)] [] :=
  And.intro (And.intro rfl (mo_b_et hb (by decide) (i_in.mpr (by decide)))) (And.intro rfl (And.intro (i_in.mpr (by decide)) (And.intro (fun h0 => And.intro rfl (And.intro (i_in.mpr (by decide)) (And.intro rfl (And.intro (i_in.mpr (by decide)) (And.intro (fun h1 => And.intro rfl (And.intro rfl (And.intro rfl (And.intro (fun h2 => And.intro (And.intro rfl (mo_b_sy (k := 1399) (mo_b_pi (by decide) (mo_b_endTimer hb (by decide))) (by decide) (i_in.mpr (by decide)))) (And.intro rfl (trivial))) (fun h2 => trivial))))) (fun h1 => And.intro rfl (And.intro rfl (And.intro (fun h => absurd h (by decide : ¬ ((0 : Int32) = 10))) (fun _ => trivial))))))))) (fun h0 => And.intro rfl (And.intro rfl (And.intro (fun h => absurd h (by decide : ¬ ((0 : Int32) = 10))) (fun _ => trivial)))))))

theorem cv_mo_endTimer {p : Program} {l : Launch} {e : Env} {R : Room} {s : State} {m : MethodId} {args : Array Value} {below : List Frame} {meth : Method} {c : Code} {cc : ByteArray} {nL : Nat} {ad : Nat → Nat} {D : va_G} {g : Nat → ClassId} {B : Nat} {own : String} {idx : Nat} (X : ox_C p s m args c cc nL own D g ad B) (hV : rx_V l D g ad B ⟨"SubscriberLinesModel", "endTimer", "(I)V"⟩ prog_12_method_10_code 2 none 3 76 K_mo_endTimer) (hl : Cond.methodLink own idx ⟨"SubscriberLinesModel", "endTimer", "(I)V"⟩ ∈ al) (hR : 3 + 1 ≤ R.frames ∧ 8 + (2 + 11) + 76 ≤ R.locals) : rx_OK p l e R s m args below meth c cc nL ad (mx_W D g ad B s.heap) mx_cs (.invokevirtual idx) 3 2 (K_mo_endTimer) :=
  ox_callV (q := 9) (T := T_9) X hV (fun av x h => by obtain ⟨a0, a1, rfl⟩ := k_RI_inv h; exact ⟨a0, _, rfl, by have h2 : a0 = 82 := h.1; rw [h2]; rfl⟩) (by decide) rfl hl (al_at 959 (by decide +kernel) rfl) (al_pr (y := (⟨"SubscriberLinesModel", "endTimer", "(I)V"⟩, _)) 60 rfl) (al_at 12 (by decide +kernel) rfl) (al_at 960 (by decide +kernel) rfl) ⟨by decide, by decide, by decide +kernel⟩ hR
theorem og_mo_162_g {p : Program} {l : Launch} {e : Env} {R : Room} {s : State} {m : MethodId} {args : Array Value} {below : List Frame} {meth : Method} {c : Code} {cc : ByteArray} {nL : Nat} {ad : Nat → Nat} {D : va_G} {g : Nat → ClassId} {B : Nat} (X : ox_C p s m args c cc nL "SubscriberLinesModel" D g ad B) : rx_OK p l e R s m args below meth c cc nL ad (mx_W D g ad B s.heap) mx_cs (.getfield 162) 3 1 (mgi 17) := oy_gi X (by decide) rfl (al_at 728 (by decide +kernel) rfl)
theorem ok_mo_accessTimer : rx_okF prog_12_method_19_code 1 none L_mo_accessTimer 0 L_mo_accessTimer = true := by decide +kernel
theorem V_mo_accessTimer {l : Launch} {D : va_G} {g : Nat → ClassId} {ad : Nat → Nat} {B : Nat} (had : mx_A ad B) : rx_V l D g ad B ⟨"SubscriberLinesModel", "accessTimer", "()V"⟩ prog_12_method_19_code 1 none 4 98 K_mo_accessTimer := by
  intro av x hp
  obtain ⟨a0, rfl⟩ := k_R_inv hp
  have hp : a0 = 82 ∧ mo_b x.2 1399 := hp
  have h0 : a0 = 82 := hp.1
  subst h0
  exact rx_met (k := 0) had (by decide) (Nat.le_of_ble_eq_true rfl) ok_mo_accessTimer rfl rfl 41 (fun p e s m args below meth c X => And.intro (cv_mo_endTimer X (V_mo_endTimer had) (al_at 957 (by decide +kernel) rfl) ⟨by decide, by decide⟩) (And.intro (og_mo_80_g X) (And.intro (oy_ai X) (And.intro (og_mo_89_g X) (And.intro (oy_ai X) (And.intro (og_mo_83_g X) (And.intro (oy_ai X) (And.intro (og_mo_162_g X) (And.intro (og_mo_162_p X) (And.intro (og_mo_162_g X) (And.intro (cv_mo_say X (V_mo_say had) (al_at 902 (by decide +kernel) rfl) ⟨by decide, by decide⟩) (And.intro (og_mo_162_p X) (trivial))))))))))))) (S_mo_accessTimer x.1 x.2  hp.2) (E_mo_accessTimer x.1 x.2 )
def mo_serverDoes (m : mx_M) (a1 : Int32) (a2 : Int32) : mx_M :=
  if a1 = 15 then
    if (mo_sessionOf m a2) < 0 then
      if a1 = 13 then
        if (Int32.ofNat m.2.2.val) = 4 then
          let m1 := mo_say m 1 15 a2 0
          m1
        else
          let m2 := my_pi m 82 29 ((m.1 82 29) + 1)
          let m3 := my_pi m2 98 (Int32.toNatClampNeg (Int32.ofNat m2.2.2.val)) (m2.1 82 29)
          let m4 := my_pi m3 99 (Int32.toNatClampNeg (Int32.ofNat m3.2.2.val)) a2
          let m5 := my_pi m4 100 (Int32.toNatClampNeg (Int32.ofNat m4.2.2.val)) 1
          let m6 := my_pi m5 101 (Int32.toNatClampNeg (Int32.ofNat m5.2.2.val)) 0
          let m7 := my_pi m6 102 (Int32.toNatClampNeg (Int32.ofNat m6.2.2.val)) 0
          let m8 := my_ps m7 ((Int32.ofNat m7.2.2.val) + 1)
          let m9 := mo_say m8 1 14 a2 (m8.1 82 29)
          m9
      else
        m
    else
      let m10 := mo_endSession m (mo_sessionOf m a2)
      if a1 = 13 then
        if (Int32.ofNat m10.2.2.val) = 4 then
          let m11 := mo_say m10 1 15 a2 0
          m11
        else
          let m12 := my_pi m10 82 29 ((m10.1 82 29) + 1)
          let m13 := my_pi m12 98 (Int32.toNatClampNeg (Int32.ofNat m12.2.2.val)) (m12.1 82 29)
          let m14 := my_pi m13 99 (Int32.toNatClampNeg (Int32.ofNat m13.2.2.val)) a2
          let m15 := my_pi m14 100 (Int32.toNatClampNeg (Int32.ofNat m14.2.2.val)) 1
          let m16 := my_pi m15 101 (Int32.toNatClampNeg (Int32.ofNat m15.2.2.val)) 0
          let m17 := my_pi m16 102 (Int32.toNatClampNeg (Int32.ofNat m16.2.2.val)) 0
          let m18 := my_ps m17 ((Int32.ofNat m17.2.2.val) + 1)
          let m19 := mo_say m18 1 14 a2 (m18.1 82 29)
          m19
      else
        m10
  else
    if a1 = 13 then
      if (Int32.ofNat m.2.2.val) = 4 then
        let m20 := mo_say m 1 15 a2 0
        m20
      else
        let m21 := my_pi m 82 29 ((m.1 82 29) + 1)
        let m22 := my_pi m21 98 (Int32.toNatClampNeg (Int32.ofNat m21.2.2.val)) (m21.1 82 29)
        let m23 := my_pi m22 99 (Int32.toNatClampNeg (Int32.ofNat m22.2.2.val)) a2
        let m24 := my_pi m23 100 (Int32.toNatClampNeg (Int32.ofNat m23.2.2.val)) 1
        let m25 := my_pi m24 101 (Int32.toNatClampNeg (Int32.ofNat m24.2.2.val)) 0
        let m26 := my_pi m25 102 (Int32.toNatClampNeg (Int32.ofNat m25.2.2.val)) 0
        let m27 := my_ps m26 ((Int32.ofNat m26.2.2.val) + 1)
        let m28 := mo_say m27 1 14 a2 (m27.1 82 29)
        m28
    else
      m
def K_mo_serverDoes : rx_K mx := k_RII (fun a0 a1 a2 c m => (a0 = 82 ∧ mo_b m 1399, (c, mo_serverDoes m a1 a2), none))
def L_mo_serverDoes : List (rx_E mx) := [
  (0, .iload_n 1, 1, 0, 1, 0, [], kno),
  (1, .bipush 15, 2, 0, 0, 15, [], kno),
  (3, .if_icmp .ne 18, 3, 2, 12, 0, [], kno),
  (6, .aload_n 0, 1, 0, 0, 0, [], kno),
  (7, .iload_n 2, 1, 0, 2, 0, [], kno),
  (8, .invokevirtual 175, 3, 7, 2, 0, [], K_mo_sessionOf),
  (11, .istore_n 3, 1, 0, 3, 0, [], kno),
  (12, .iload_n 3, 1, 0, 3, 0, [], kno),
  (13, .ifCond .lt 8, 3, 2, 12, 0, [], kno),
  (16, .aload_n 0, 1, 0, 0, 0, [], kno),
  (17, .iload_n 3, 1, 0, 3, 0, [], kno),
  (18, .invokevirtual 178, 3, 7, 2, 0, [], K_mo_endSession),
  (21, .iload_n 1, 1, 0, 1, 0, [], kno),
  (22, .bipush 13, 2, 0, 0, 13, [], kno),
  (24, .if_icmp .eq 4, 3, 2, 16, 0, [], kno),
  (27, .return_, 1, 6, 0, 0, [], kno),
  (28, .aload_n 0, 1, 0, 0, 0, [], kno),
  (29, .getfield 135, 3, 7, 1, 0, [], mgs),
  (32, .iconst 4, 1, 0, 0, 4, [], kno),
  (33, .if_icmp .ne 13, 3, 2, 27, 0, [], kno),
  (36, .aload_n 0, 1, 0, 0, 0, [], kno),
  (37, .iconst 1, 1, 0, 0, 1, [], kno),
  (38, .bipush 15, 2, 0, 0, 15, [], kno),
  (40, .iload_n 2, 1, 0, 2, 0, [], kno),
  (41, .iconst 0, 1, 0, 0, 0, [], kno),
  (42, .invokevirtual 149, 3, 7, 5, 0, [], K_mo_say),
  (45, .return_, 1, 6, 0, 0, [], kno),
  (46, .aload_n 0, 1, 0, 0, 0, [], kno),
  (47, .dup, 1, 0, 0, 0, [], kno),
  (48, .getfield 181, 3, 7, 1, 0, [], mgi 29),
  (51, .iconst 1, 1, 0, 0, 1, [], kno),
  (52, .iadd, 1, 0, 0, 0, [], kno),
  (53, .putfield 181, 3, 7, 2, 0, [], mpi 29),
  (56, .aload_n 0, 1, 0, 0, 0, [], kno),
  (57, .getfield 56, 3, 7, 1, 0, [], mgr 98),
  (60, .aload_n 0, 1, 0, 0, 0, [], kno),
  (61, .getfield 135, 3, 7, 1, 0, [], mgs),
  (64, .aload_n 0, 1, 0, 0, 0, [], kno),
  (65, .getfield 181, 3, 7, 1, 0, [], mgi 29),
  (68, .iastore, 1, 7, 3, 0, [], mpa),
  (69, .aload_n 0, 1, 0, 0, 0, [], kno),
  (70, .getfield 59, 3, 7, 1, 0, [], mgr 99),
  (73, .aload_n 0, 1, 0, 0, 0, [], kno),
  (74, .getfield 135, 3, 7, 1, 0, [], mgs),
  (77, .iload_n 2, 1, 0, 2, 0, [], kno),
  (78, .iastore, 1, 7, 3, 0, [], mpa),
  (79, .aload_n 0, 1, 0, 0, 0, [], kno),
  (80, .getfield 62, 3, 7, 1, 0, [], mgr 100),
  (83, .aload_n 0, 1, 0, 0, 0, [], kno),
  (84, .getfield 135, 3, 7, 1, 0, [], mgs),
  (87, .iconst 1, 1, 0, 0, 1, [], kno),
  (88, .iastore, 1, 7, 3, 0, [], mpa),
  (89, .aload_n 0, 1, 0, 0, 0, [], kno),
  (90, .getfield 65, 3, 7, 1, 0, [], mgr 101),
  (93, .aload_n 0, 1, 0, 0, 0, [], kno),
  (94, .getfield 135, 3, 7, 1, 0, [], mgs),
  (97, .iconst 0, 1, 0, 0, 0, [], kno),
  (98, .iastore, 1, 7, 3, 0, [], mpa),
  (99, .aload_n 0, 1, 0, 0, 0, [], kno),
  (100, .getfield 68, 3, 7, 1, 0, [], mgr 102),
  (103, .aload_n 0, 1, 0, 0, 0, [], kno),
  (104, .getfield 135, 3, 7, 1, 0, [], mgs),
  (107, .iconst 0, 1, 0, 0, 0, [], kno),
  (108, .iastore, 1, 7, 3, 0, [], mpa),
  (109, .aload_n 0, 1, 0, 0, 0, [], kno),
  (110, .dup, 1, 0, 0, 0, [], kno),
  (111, .getfield 135, 3, 7, 1, 0, [], mgs),
  (114, .iconst 1, 1, 0, 0, 1, [], kno),
  (115, .iadd, 1, 0, 0, 0, [], kno),
  (116, .putfield 135, 3, 7, 2, 0, [], mps),
  (119, .aload_n 0, 1, 0, 0, 0, [], kno),
  (120, .iconst 1, 1, 0, 0, 1, [], kno),
  (121, .bipush 14, 2, 0, 0, 14, [], kno),
  (123, .iload_n 2, 1, 0, 2, 0, [], kno),
  (124, .aload_n 0, 1, 0, 0, 0, [], kno),
  (125, .getfield 181, 3, 7, 1, 0, [], mgi 29),
  (128, .invokevirtual 149, 3, 7, 5, 0, [], K_mo_say),
  (131, .return_, 1, 6, 0, 0, [], kno)]
theorem E_mo_serverDoes (c : mx_C) (m : mx_M) (a1 : Int32) (a2 : Int32)  : rx_ev L_mo_serverDoes [] 80 L_mo_serverDoes (c, m) [some (.ref 82), some (.int a1), some (.int a2), none] [] = ry_v c (mo_serverDoes m a1 a2) :=
  rx_ite2 (f := ry_v c) (fun h0 => rx_ite2 (f := ry_v c) (fun h1 => rx_ite2 (f := ry_v c) (fun h2 => rx_ite2 (f := ry_v c) (fun h3 => rfl) (fun h3 => rfl)) (fun h2 => rfl)) (fun h1 => rx_ite2 (f := ry_v c) (fun h2 => rx_ite2 (f := ry_v c) (fun h3 => rfl) (fun h3 => rfl)) (fun h2 => rfl))) (fun h0 => rx_ite2 (f := ry_v c) (fun h1 => rx_ite2 (f := ry_v c) (fun h2 => rfl) (fun h2 => rfl)) (fun h1 => rfl))
theorem S_mo_serverDoes (c : mx_C) (m : mx_M) (a1 : Int32) (a2 : Int32) (hb : mo_b m 1399) : rx_sf L_mo_serverDoes [] 80 L_mo_serverDoes (c, m) [some (.ref 82), some (.int a1), some (.int a2), none] [] :=
  And.intro (fun h0 => And.intro rfl (And.intro (fun h1 => And.intro (fun h2 => And.intro rfl (And.intro (fun h3 => And.intro (And.intro rfl (mo_b_sy (k := 1399) hb (by decide) (i_in.mpr (by decide)))) (trivial)) (fun h3 => And.intro rfl (And.intro rfl (And.intro rfl (And.intro rfl (And.intro rfl (And.intro (sc_inc (by assumption)).1 (And.intro rfl (And.intro rfl (And.intro (sc_inc (by assumption)).1 (And.intro rfl (And.intro rfl (And.intro (sc_inc (by assumption)).1 (And.intro rfl (And.intro rfl (And.intro (sc_inc (by assumption)).1 (And.intro rfl (And.intro rfl (And.intro (sc_inc (by assumption)).1 (And.intro rfl (And.intro (And.intro rfl (sc_inc (by assumption)).2) (And.intro rfl (And.intro (And.intro rfl (mo_b_sy (k := 1399) (mo_b_fz (fz_ps _ _) (mo_b_pi (by decide) (mo_b_pi (by decide) (mo_b_pi (by decide) (mo_b_pi (by decide) (mo_b_pi (by decide) (mo_b_pi (by decide) hb))))))) (by decide) (i_in.mpr (by decide)))) (trivial))))))))))))))))))))))))) (fun h2 => trivial)) (fun h1 => And.intro (And.intro rfl (mo_sess_in (by assumption))) (And.intro (fun h2 => And.intro rfl (And.intro (fun h3 => And.intro (And.intro rfl (mo_b_sy (k := 1399) (mo_b_fz (fz_endSession _ _) hb) (by decide) (i_in.mpr (by decide)))) (trivial)) (fun h3 => And.intro rfl (And.intro rfl (And.intro rfl (And.intro rfl (And.intro rfl (And.intro (sc_inc (by assumption)).1 (And.intro rfl (And.intro rfl (And.intro (sc_inc (by assumption)).1 (And.intro rfl (And.intro rfl (And.intro (sc_inc (by assumption)).1 (And.intro rfl (And.intro rfl (And.intro (sc_inc (by assumption)).1 (And.intro rfl (And.intro rfl (And.intro (sc_inc (by assumption)).1 (And.intro rfl (And.intro (And.intro rfl (sc_inc (by assumption)).2) (And.intro rfl (And.intro (And.intro rfl (mo_b_sy (k := 1399) (mo_b_fz (fz_ps _ _) (mo_b_pi (by decide) (mo_b_pi (by decide) (mo_b_pi (by decide) (mo_b_pi (by decide) (mo_b_pi (by decide) (mo_b_pi (by decide) (mo_b_fz (fz_endSession _ _) hb)))))))) (by decide) (i_in.mpr (by decide)))) (trivial))))))))))))))))))))))))) (fun h2 => trivial))))) (fun h0 => And.intro (fun h1 => And.intro rfl (And.intro (fun h2 => And.intro (And.intro rfl (mo_b_sy (k := 1399) hb (by decide) (i_in.mpr (by decide)))) (trivial)) (fun h2 => And.intro rfl (And.intro rfl (And.intro rfl (And.intro rfl (And.intro rfl (And.intro (sc_inc (by assumption)).1 (And.intro rfl (And.intro rfl (And.intro (sc_inc (by assumption)).1 (And.intro rfl (And.intro rfl (And.intro (sc_inc (by assumption)).1 (And.intro rfl (And.intro rfl (And.intro (sc_inc (by assumption)).1 (And.intro rfl (And.intro rfl (And.intro (sc_inc (by assumption)).1 (And.intro rfl (And.intro (And.intro rfl (sc_inc (by assumption)).2) (And.intro rfl (And.intro (And.intro rfl (mo_b_sy (k := 1399) (mo_b_fz (fz_ps _ _) (mo_b_pi (by decide) (mo_b_pi (by decide) (mo_b_pi (by decide) (mo_b_pi (by decide) (mo_b_pi (by decide) (mo_b_pi (by decide) hb))))))) (by decide) (i_in.mpr (by decide)))) (trivial))))))))))))))))))))))))) (fun h1 => trivial))

theorem cv_mo_sessionOf {p : Program} {l : Launch} {e : Env} {R : Room} {s : State} {m : MethodId} {args : Array Value} {below : List Frame} {meth : Method} {c : Code} {cc : ByteArray} {nL : Nat} {ad : Nat → Nat} {D : va_G} {g : Nat → ClassId} {B : Nat} {own : String} {idx : Nat} (X : ox_C p s m args c cc nL own D g ad B) (hV : rx_V l D g ad B ⟨"SubscriberLinesModel", "sessionOf", "(I)I"⟩ prog_12_method_20_code 4 (some .int) 0 0 K_mo_sessionOf) (hl : Cond.methodLink own idx ⟨"SubscriberLinesModel", "sessionOf", "(I)I"⟩ ∈ al) (hR : 0 + 1 ≤ R.frames ∧ 8 + (4 + 11) + 0 ≤ R.locals) : rx_OK p l e R s m args below meth c cc nL ad (mx_W D g ad B s.heap) mx_cs (.invokevirtual idx) 3 2 (K_mo_sessionOf) :=
  ox_callV (q := 9) (T := T_9) X hV (fun av x h => by obtain ⟨a0, a1, rfl⟩ := k_RI_inv h; exact ⟨a0, _, rfl, by have h2 : a0 = 82 := h; rw [h2]; rfl⟩) (by decide) rfl hl (al_at 912 (by decide +kernel) rfl) (al_pr (y := (⟨"SubscriberLinesModel", "sessionOf", "(I)I"⟩, _)) 49 rfl) (al_at 12 (by decide +kernel) rfl) (al_at 913 (by decide +kernel) rfl) ⟨by decide, by decide, by decide +kernel⟩ hR
theorem cv_mo_endSession {p : Program} {l : Launch} {e : Env} {R : Room} {s : State} {m : MethodId} {args : Array Value} {below : List Frame} {meth : Method} {c : Code} {cc : ByteArray} {nL : Nat} {ad : Nat → Nat} {D : va_G} {g : Nat → ClassId} {B : Nat} {own : String} {idx : Nat} (X : ox_C p s m args c cc nL own D g ad B) (hV : rx_V l D g ad B ⟨"SubscriberLinesModel", "endSession", "(I)V"⟩ prog_12_method_21_code 3 none 0 0 K_mo_endSession) (hl : Cond.methodLink own idx ⟨"SubscriberLinesModel", "endSession", "(I)V"⟩ ∈ al) (hR : 0 + 1 ≤ R.frames ∧ 8 + (3 + 11) + 0 ≤ R.locals) : rx_OK p l e R s m args below meth c cc nL ad (mx_W D g ad B s.heap) mx_cs (.invokevirtual idx) 3 2 (K_mo_endSession) :=
  ox_callV (q := 9) (T := T_9) X hV (fun av x h => by obtain ⟨a0, a1, rfl⟩ := k_RI_inv h; exact ⟨a0, _, rfl, by have h2 : a0 = 82 := h.1; rw [h2]; rfl⟩) (by decide) rfl hl (al_at 916 (by decide +kernel) rfl) (al_pr (y := (⟨"SubscriberLinesModel", "endSession", "(I)V"⟩, _)) 50 rfl) (al_at 12 (by decide +kernel) rfl) (al_at 917 (by decide +kernel) rfl) ⟨by decide, by decide, by decide +kernel⟩ hR
theorem og_mo_181_g {p : Program} {l : Launch} {e : Env} {R : Room} {s : State} {m : MethodId} {args : Array Value} {below : List Frame} {meth : Method} {c : Code} {cc : ByteArray} {nL : Nat} {ad : Nat → Nat} {D : va_G} {g : Nat → ClassId} {B : Nat} (X : ox_C p s m args c cc nL "SubscriberLinesModel" D g ad B) : rx_OK p l e R s m args below meth c cc nL ad (mx_W D g ad B s.heap) mx_cs (.getfield 181) 3 1 (mgi 29) := oy_gi X (by decide) rfl (al_at 740 (by decide +kernel) rfl)
theorem og_mo_181_p {p : Program} {l : Launch} {e : Env} {R : Room} {s : State} {m : MethodId} {args : Array Value} {below : List Frame} {meth : Method} {c : Code} {cc : ByteArray} {nL : Nat} {ad : Nat → Nat} {D : va_G} {g : Nat → ClassId} {B : Nat} (X : ox_C p s m args c cc nL "SubscriberLinesModel" D g ad B) : rx_OK p l e R s m args below meth c cc nL ad (mx_W D g ad B s.heap) mx_cs (.putfield 181) 3 2 (mpi 29) := oy_pi X (by decide) rfl rfl rfl (al_at 740 (by decide +kernel) rfl)
theorem ok_mo_serverDoes : rx_okF prog_12_method_22_code 4 none L_mo_serverDoes 0 L_mo_serverDoes = true := by decide +kernel
theorem V_mo_serverDoes {l : Launch} {D : va_G} {g : Nat → ClassId} {ad : Nat → Nat} {B : Nat} (had : mx_A ad B) : rx_V l D g ad B ⟨"SubscriberLinesModel", "serverDoes", "(II)V"⟩ prog_12_method_22_code 4 none 4 98 K_mo_serverDoes := by
  intro av x hp
  obtain ⟨a0, a1, a2, rfl⟩ := k_RII_inv hp
  have hp : a0 = 82 ∧ mo_b x.2 1399 := hp
  have h0 : a0 = 82 := hp.1
  subst h0
  exact rx_met (k := 1) had (by decide) (Nat.le_of_ble_eq_true rfl) ok_mo_serverDoes rfl rfl 80 (fun p e s m args below meth c X => And.intro (cv_mo_sessionOf X (V_mo_sessionOf had) (al_at 910 (by decide +kernel) rfl) ⟨by decide, by decide⟩) (And.intro (cv_mo_endSession X (V_mo_endSession had) (al_at 914 (by decide +kernel) rfl) ⟨by decide, by decide⟩) (And.intro (og_mo_135_g X) (And.intro (cv_mo_say X (V_mo_say had) (al_at 902 (by decide +kernel) rfl) ⟨by decide, by decide⟩) (And.intro (og_mo_181_g X) (And.intro (og_mo_181_p X) (And.intro (og_mo_56_g X) (And.intro (og_mo_135_g X) (And.intro (og_mo_181_g X) (And.intro (oy_pa X) (And.intro (og_mo_59_g X) (And.intro (og_mo_135_g X) (And.intro (oy_pa X) (And.intro (og_mo_62_g X) (And.intro (og_mo_135_g X) (And.intro (oy_pa X) (And.intro (og_mo_65_g X) (And.intro (og_mo_135_g X) (And.intro (oy_pa X) (And.intro (og_mo_68_g X) (And.intro (og_mo_135_g X) (And.intro (oy_pa X) (And.intro (og_mo_135_g X) (And.intro (og_mo_135_p X) (And.intro (og_mo_181_g X) (And.intro (cv_mo_say X (V_mo_say had) (al_at 902 (by decide +kernel) rfl) ⟨by decide, by decide⟩) (trivial))))))))))))))))))))))))))) (S_mo_serverDoes x.1 x.2 a1 a2 hp.2) (E_mo_serverDoes x.1 x.2 a1 a2)
end
section
def mo_fa_14 (f : mx_M → Int32 → Int32) : Nat → mx_M → Int32 → Int32 → Int32 → Int32
  | 0, _, _, _, _ => 0
  | n + 1, m, v1, v2, v3 =>
    if v3 < (Int32.ofNat m.2.2.val) then
      if v2 = 0 then
        if (m.1 101 (Int32.toNatClampNeg v3)) = v1 then
          mo_fa_14 f n m v1 1 (v3 + 1)
        else
          mo_fa_14 f n m v1 0 (v3 + 1)
      else
        mo_fa_14 f n m v1 1 (v3 + 1)
    else
      if v2 = 0 then
        v1
      else
        f m (v1 + 1)
def mo_fa_2 : Nat → mx_M → Int32 → Int32
  | 0, _, _ => 0
  | n + 1, m, v1 =>
    if (m.1 82 0) < v1 then
      0
    else
      mo_fa_14 (mo_fa_2 n) 5 m v1 0 0
def mo_freeAddress (m : mx_M) : Int32 := mo_fa_2 5 m 1
abbrev mo_pl (m : mx_M) : Prop := (m.1 82 0).toInt ≤ 4
def K_mo_freeAddress : rx_K mx := k_R (fun a0 c m => (a0 = 82 ∧ mo_pl m, (c, m), some (.int (mo_freeAddress m))))
def L_mo_freeAddress : List (rx_E mx) := [
  (0, .iconst 1, 1, 0, 0, 1, [], kno),
  (1, .istore_n 1, 1, 0, 1, 0, [], kno),
  (2, .iload_n 1, 1, 0, 1, 0, [], kno),
  (3, .aload_n 0, 1, 0, 0, 0, [], kno),
  (4, .getfield 110, 3, 7, 1, 0, [], mgi 0),
  (7, .if_icmp .gt 53, 3, 2, 34, 0, [], kno),
  (10, .iconst 0, 1, 0, 0, 0, [], kno),
  (11, .istore_n 2, 1, 0, 2, 0, [], kno),
  (12, .iconst 0, 1, 0, 0, 0, [], kno),
  (13, .istore_n 3, 1, 0, 3, 0, [], kno),
  (14, .iload_n 3, 1, 0, 3, 0, [], kno),
  (15, .aload_n 0, 1, 0, 0, 0, [], kno),
  (16, .getfield 135, 3, 7, 1, 0, [], mgs),
  (19, .if_icmp .ge 29, 3, 2, 28, 0, [], kno),
  (22, .iload_n 2, 1, 0, 2, 0, [], kno),
  (23, .ifCond .ne 13, 3, 2, 22, 0, [], kno),
  (26, .aload_n 0, 1, 0, 0, 0, [], kno),
  (27, .getfield 65, 3, 7, 1, 0, [], mgr 101),
  (30, .iload_n 3, 1, 0, 3, 0, [], kno),
  (31, .iaload, 1, 7, 2, 0, [], mai),
  (32, .iload_n 1, 1, 0, 1, 0, [], kno),
  (33, .if_icmp .ne 7, 3, 2, 24, 0, [], kno),
  (36, .iconst 1, 1, 0, 0, 1, [], kno),
  (37, .goto 4, 3, 1, 25, 0, [], kno),
  (40, .iconst 0, 1, 0, 0, 0, [], kno),
  (41, .istore_n 2, 1, 0, 2, 0, [], kno),
  (42, .iinc 3 1, 3, 0, 3, 1, [], kno),
  (45, .goto (-31), 3, 1, 10, 0, [], kno),
  (48, .iload_n 2, 1, 0, 2, 0, [], kno),
  (49, .ifCond .ne 5, 3, 2, 32, 0, [], kno),
  (52, .iload_n 1, 1, 0, 1, 0, [], kno),
  (53, .ireturn, 1, 5, 0, 0, [], kno),
  (54, .iinc 1 1, 3, 0, 1, 1, [], kno),
  (57, .goto (-55), 3, 1, 2, 0, [], kno),
  (60, .iconst 0, 1, 0, 0, 0, [], kno),
  (61, .ireturn, 1, 5, 0, 0, [], kno)]
def G_fa2 (n : Nat) : rx_G := fun x ls st =>
  match ls, st with
  | [some (.ref r0), some (.int v1), o2, o3], [] => (r0 = 82 ∧ up5 n v1 ∧ mo_pl x.2, ry_p x.1 x.2 (mo_fa_2 n x.2 v1))
  | _, _ => (False, (x, none))
def G_fa14 (no n : Nat) : rx_G := fun x ls st =>
  match ls, st with
  | [some (.ref r0), some (.int v1), some (.int v2), some (.int v3)], [] => (r0 = 82 ∧ up4 n v3 ∧ up5 no (v1 + 1) ∧ mo_pl x.2, ry_p x.1 x.2 (mo_fa_14 (mo_fa_2 no) n x.2 v1 v2 v3))
  | _, _ => (False, (x, none))
theorem GI_fa2 {n : Nat} {x : mx} {ls : rx_L} {st : List Value} (h : (G_fa2 n x ls st).1) : ∃ (r0 : Nat) (v1 : Int32) (o2 o3 : Option Value), ls = [some (.ref r0), some (.int v1), o2, o3] ∧ st = [] ∧ r0 = 82 ∧ up5 n v1 ∧ mo_pl x.2 := by
  unfold G_fa2 at h
  split at h
  · exact ⟨_, _, _, _, rfl, rfl, h⟩
  · exact False.elim h
theorem GI_fa14 {no n : Nat} {x : mx} {ls : rx_L} {st : List Value} (h : (G_fa14 no n x ls st).1) : ∃ (r0 : Nat) (v1 v2 v3 : Int32), ls = [some (.ref r0), some (.int v1), some (.int v2), some (.int v3)] ∧ st = [] ∧ r0 = 82 ∧ up4 n v3 ∧ up5 no (v1 + 1) ∧ mo_pl x.2 := by
  unfold G_fa14 at h
  split at h
  · exact ⟨_, _, _, _, rfl, rfl, h⟩
  · exact False.elim h
theorem EH_fa14 (no n : Nat) (c : mx_C) (m : mx_M) (v1 v2 v3 : Int32) : rx_ev L_mo_freeAddress [(14, G_fa14 no n), (2, G_fa2 no)] 38 (L_mo_freeAddress.drop 10) (c, m) [some (.ref 82), some (.int v1), some (.int v2), some (.int v3)] [] = ry_p c m (mo_fa_14 (mo_fa_2 no) (n + 1) m v1 v2 v3) :=
  rx_ite2 (f := ry_p c m) (fun h0 => rx_ite2 (f := ry_p c m) (fun h1 => rx_ite2 (f := ry_p c m) (fun h2 => rfl) (fun h2 => rfl)) (fun h1 => rfl)) (fun h0 => rx_ite2 (f := ry_p c m) (fun h1 => rfl) (fun h1 => rfl))
theorem SH_fa14 (no n : Nat) (c : mx_C) (m : mx_M) (v1 v2 v3 : Int32) (hP : up4 (n + 1) v3) (h5 : up5 no (v1 + 1)) (hq : mo_pl m) : rx_sf L_mo_freeAddress [(14, G_fa14 no n), (2, G_fa2 no)] 38 (L_mo_freeAddress.drop 10) (c, m) [some (.ref 82), some (.int v1), some (.int v2), some (.int v3)] [] :=
  And.intro rfl (And.intro (fun h0 => And.intro (fun h1 => And.intro rfl (And.intro (mo_ses h0 hP).1 (And.intro (fun h2 => And.intro rfl (And.intro (mo_ses h0 hP).2 (And.intro h5 hq))) (fun h2 => And.intro rfl (And.intro (mo_ses h0 hP).2 (And.intro h5 hq)))))) (fun h1 => And.intro rfl (And.intro (mo_ses h0 hP).2 (And.intro h5 hq)))) (fun h0 => And.intro (fun h1 => trivial) (fun h1 => And.intro rfl (And.intro h5 hq))))
theorem EH_fa2 (n : Nat) (c : mx_C) (m : mx_M) (v1 : Int32) (o2 o3 : Option Value) : rx_ev L_mo_freeAddress [(14, G_fa14 n 5)] 38 (L_mo_freeAddress.drop 2) (c, m) [some (.ref 82), some (.int v1), o2, o3] [] = ry_p c m (mo_fa_2 (n + 1) m v1) :=
  rx_ite2 (f := ry_p c m) (fun h0 => rfl) (fun h0 => rfl)
theorem SH_fa2 (n : Nat) (c : mx_C) (m : mx_M) (v1 : Int32) (o2 o3 : Option Value) (hP : up5 (n + 1) v1) (hq : mo_pl m) : rx_sf L_mo_freeAddress [(14, G_fa14 n 5)] 38 (L_mo_freeAddress.drop 2) (c, m) [some (.ref 82), some (.int v1), o2, o3] [] :=
  And.intro rfl (And.intro (fun h0 => trivial) (fun h0 => And.intro rfl (And.intro (by decide) (And.intro (up5_1 hq h0 hP) hq))))
theorem E_fa (c : mx_C) (m : mx_M) : rx_ev L_mo_freeAddress [(2, G_fa2 5)] 38 L_mo_freeAddress (c, m) [some (.ref 82), none, none, none] [] = ry_p c m (mo_freeAddress m) :=
  rfl
theorem S_fa (c : mx_C) (m : mx_M) (hq : mo_pl m) : rx_sf L_mo_freeAddress [(2, G_fa2 5)] 38 L_mo_freeAddress (c, m) [some (.ref 82), none, none, none] [] :=
  And.intro rfl (And.intro (by decide) hq)
theorem og_mo_110_g {p : Program} {l : Launch} {e : Env} {R : Room} {s : State} {m : MethodId} {args : Array Value} {below : List Frame} {meth : Method} {c : Code} {cc : ByteArray} {nL : Nat} {ad : Nat → Nat} {D : va_G} {g : Nat → ClassId} {B : Nat} (X : ox_C p s m args c cc nL "SubscriberLinesModel" D g ad B) : rx_OK p l e R s m args below meth c cc nL ad (mx_W D g ad B s.heap) mx_cs (.getfield 110) 3 1 (mgi 0) := oy_gi X (by decide) rfl (al_at 711 (by decide +kernel) rfl)
theorem ok_mo_freeAddress : rx_okF prog_12_method_23_code 4 (some .int) L_mo_freeAddress 0 L_mo_freeAddress = true := by decide +kernel
theorem V_mo_freeAddress {l : Launch} {D : va_G} {g : Nat → ClassId} {ad : Nat → Nat} {B : Nat} (had : mx_A ad B) : rx_V l D g ad B ⟨"SubscriberLinesModel", "freeAddress", "()I"⟩ prog_12_method_23_code 4 (some .int) 0 0 K_mo_freeAddress := by
  intro av x hp
  obtain ⟨a0, rfl⟩ := k_R_inv hp
  have hp : a0 = 82 ∧ mo_pl x.2 := hp
  have h0 : a0 = 82 := hp.1
  subst h0
  refine rx_metX (k := 3) had (by decide) (Nat.le_of_ble_eq_true rfl) fun p e s m args below meth c X hr hlk => ?_
  have O : rx_ops p l e ({ frames := 0, cells := 0, slots := 0, locals := 0 } : Room) s m args below meth c prog_12_method_23_code 4 ad (mx_W D g ad B s.heap) mx_cs L_mo_freeAddress := And.intro (og_mo_110_g X) (And.intro (og_mo_135_g X) (And.intro (og_mo_65_g X) (And.intro (oy_ai X) (trivial))))
  have lp2 : ∀ (n : Nat) (mem : mx) (ls : rx_L) (st : List Value), (G_fa2 n mem ls st).1 → (G_fa2 n mem ls st).2 = (K_mo_freeAddress [.ref 82] x).2 → rx_X p l e ({ frames := 0, cells := 0, slots := 0, locals := 0 } : Room) s m args below meth c (MQ below (rx_Qc D g ad B (K_mo_freeAddress [.ref 82] x).2) args s 0 0 (fun q => B ≤ q)) 4 ad (mx_W D g ad B s.heap) mx_cs 2 mem ls st := by
    intro n
    induction n with
    | zero =>
      intro mem ls st h
      obtain ⟨r0, v1, o2, o3, -, -, h3⟩ := GI_fa2 h
      have h4 := h3.2.1
      omega
    | succ n ih =>
      have lp14 := fun k => rx_loop (l := l) (e := e) (below := below) (res := (K_mo_freeAddress [.ref 82] x).2) (G := G_fa14 n) (cs0 := [(2, G_fa2 n)]) X hr hlk ok_mo_freeAddress O (rx_cc ih rx_c0) 38 10 rfl (fun x ls st h => by
        obtain ⟨r0, v1, v2, v3, -, -, h3⟩ := GI_fa14 h
        have h4 := h3.2.1
        omega) (fun k x ls st h => by
        obtain ⟨r0, v1, v2, v3, rfl, rfl, rfl, hP, h5, hq⟩ := GI_fa14 h
        exact ⟨SH_fa14 n k x.1 x.2 v1 v2 v3 hP h5 hq, EH_fa14 n k x.1 x.2 v1 v2 v3⟩) k
      intro mem ls st h hres
      obtain ⟨r0, v1, o2, o3, rfl, rfl, rfl, hP, hq⟩ := GI_fa2 h
      exact rx_walk X hr hlk ok_mo_freeAddress O (cut := [(14, G_fa14 n 5)]) (rx_cc (lp14 5) rx_c0) 38 2 rfl (SH_fa2 n mem.1 mem.2 v1 o2 o3 hP hq) ((EH_fa2 n mem.1 mem.2 v1 o2 o3).trans hres)
  exact rx_walk X hr hlk ok_mo_freeAddress O (cut := [(2, G_fa2 5)]) (rx_cc (lp2 5) rx_c0) 38 0 rfl (S_fa x.1 x.2 hp.2) (E_fa x.1 x.2)
end
section
theorem i_rem {w k : Int32} (hw : 0 ≤ w.toInt) (hk : 0 < k.toInt) : (w - w / k * k).toInt = w.toInt % k.toInt := by
  have hne : k ≠ -1 := fun h => by rw [h] at hk; exact absurd hk (by decide)
  have hr := i_rng w
  have e1 : (w / k).toInt = w.toInt / k.toInt := by
    rw [Int32.toInt_div_of_ne_right _ _ hne]
    exact Int.tdiv_eq_ediv_of_nonneg hw
  have h1 : 0 ≤ w.toInt / k.toInt * k.toInt := Int.mul_nonneg (Int.ediv_nonneg hw (Int.le_of_lt hk)) (Int.le_of_lt hk)
  have h2 : w.toInt / k.toInt * k.toInt ≤ w.toInt := Int.ediv_mul_le _ (by omega)
  have e2 : (w / k * k).toInt = w.toInt / k.toInt * k.toInt := by
    rw [i_mul (by rw [e1]; omega) (by rw [e1]; omega), e1]
  rw [i_sub (by rw [e2]; omega) (by rw [e2]; omega), e2, Int.emod_def, Int.mul_comm k.toInt]
theorem mo_c8 {m : mx_M} {w : Int32} (h : 0 ≤ (m.1 82 24).toInt) (hw : w = m.1 82 24) : vp_in (w - w / 8 * 8) 8 := by
  subst hw
  rw [i_in, i_rem h (by decide)]
  show 0 ≤ (m.1 82 24).toInt % 8 ∧ (m.1 82 24).toInt % 8 < 8
  omega
def mo_wd (m : mx_M) (s : Int32) : Prop := vp_in s 4 ∧ 0 ≤ (m.1 94 s.toNatClampNeg).toInt
theorem mo_w16 {s w : Int32} (hs : vp_in s 4) (h : 0 ≤ w.toInt) : vp_in (4 * s + (w - w / 4 * 4)) 16 := by
  rw [i_in] at hs
  have hs2 : s.toInt < 4 := hs.2
  have e1 : (4 * s).toInt = 4 * s.toInt := i_mul (show _ ≤ 4 * s.toInt by omega) (show 4 * s.toInt < _ by omega)
  have e2 : (w - w / 4 * 4).toInt = w.toInt % 4 := i_rem h (by decide)
  rw [i_in, i_add (by rw [e1, e2]; omega) (by rw [e1, e2]; omega), e1, e2]
  omega
theorem mo_wi {m : mx_M} {s w : Int32} (h : mo_wd m s) (hw : w = m.1 94 s.toNatClampNeg) : vp_in (4 * s + (w - w / 4 * 4)) 16 := by
  subst hw
  exact mo_w16 h.1 h.2
theorem mo_out_in {m : mx_M} {k n : Int32} (h : mo_out m k n = 0) : 0 ≤ k.toInt ∧ k.toInt < n.toInt := by
  unfold mo_out at h
  split at h
  · exact absurd h (by decide)
  · rename_i h0
    rw [i_lt, Int32.toInt_zero] at h0
    split at h
    · rename_i h1
      rw [i_lt] at h1
      omega
    · exact absurd h (by decide)
theorem mo_out4 {m : mx_M} {k : Int32} (h : mo_out m k 4 = 0) : vp_in k 4 := i_in.mpr (mo_out_in h)
theorem mo_es_fy {m m' : mx_M} {k : Int32} (hf : fy m m') (h : mo_es m k) : mo_es m' k := by
  unfold mo_es
  rw [hf.1]
  exact h
def mo_lg (m : mx_M) (k : Int32) : Prop := mo_es m k ∧ mo_b m 1399 ∧ mo_pl m
theorem mo_pl_pi {m : mx_M} {i j : Nat} {v : Int32} (h : ¬ 82 = i) (hp : mo_pl m) : mo_pl (my_pi m i j v) := by
  show (mx_up m.1 i j v 82 0).toInt ≤ 4
  rw [mx_up_row _ _ _ _ h]
  exact hp
def mo_ts (m : mx_M) : Prop := mo_b m 1399 ∧ mo_pl m ∧ 0 ≤ (m.1 82 24).toInt
def mo_login (m : mx_M) (a1 : Int32) (a2 : Int32) (a3 : Int32) : mx_M :=
  if (m.1 100 (Int32.toNatClampNeg a1)) = 1 then
    if (mo_out m a2 4) = 0 then
      if (m.1 83 (Int32.toNatClampNeg a2)) = 0 then
        let m1 := mo_sendOff m 6 5 4 (m.1 99 (Int32.toNatClampNeg a1)) 0 0
        let m2 := mo_endSession m1 a1
        let m3 := mo_say m2 1 15 (m.1 99 (Int32.toNatClampNeg a1)) 0
        m3
      else
        if (m.1 84 (Int32.toNatClampNeg a2)) = a3 then
          if (mo_freeAddress m) = 0 then
            let m4 := mo_sendOff m 6 5 4 (m.1 99 (Int32.toNatClampNeg a1)) 0 0
            let m5 := mo_endSession m4 a1
            let m6 := mo_say m5 1 15 (m.1 99 (Int32.toNatClampNeg a1)) 0
            m6
          else
            let m7 := my_pi m 100 (Int32.toNatClampNeg a1) 2
            let m8 := my_pi m7 101 (Int32.toNatClampNeg a1) (mo_freeAddress m)
            if (m8.1 100 (Int32.toNatClampNeg a1)) = 2 then
              let m9 := mo_sendOff m8 5 5 4 (m8.1 99 (Int32.toNatClampNeg a1)) (m8.1 101 (Int32.toNatClampNeg a1)) 0
              m9
            else
              m8
        else
          let m10 := mo_sendOff m 6 5 4 (m.1 99 (Int32.toNatClampNeg a1)) 0 0
          let m11 := mo_endSession m10 a1
          let m12 := mo_say m11 1 15 (m.1 99 (Int32.toNatClampNeg a1)) 0
          m12
    else
      let m13 := mo_sendOff m 6 5 4 (m.1 99 (Int32.toNatClampNeg a1)) 0 0
      let m14 := mo_endSession m13 a1
      let m15 := mo_say m14 1 15 (m.1 99 (Int32.toNatClampNeg a1)) 0
      m15
  else
    if (m.1 100 (Int32.toNatClampNeg a1)) = 2 then
      let m16 := mo_sendOff m 5 5 4 (m.1 99 (Int32.toNatClampNeg a1)) (m.1 101 (Int32.toNatClampNeg a1)) 0
      m16
    else
      m
def K_mo_login : rx_K mx := k_RIII (fun a0 a1 a2 a3 c m => (a0 = 82 ∧ mo_lg m a1, (c, mo_login m a1 a2 a3), none))
def L_mo_login : List (rx_E mx) := [
  (0, .aload_n 0, 1, 0, 0, 0, [], kno),
  (1, .getfield 62, 3, 7, 1, 0, [], mgr 100),
  (4, .iload_n 1, 1, 0, 1, 0, [], kno),
  (5, .iaload, 1, 7, 2, 0, [], mai),
  (6, .iconst 1, 1, 0, 0, 1, [], kno),
  (7, .if_icmp .ne 108, 3, 2, 67, 0, [], kno),
  (10, .iload_n 2, 1, 0, 2, 0, [], kno),
  (11, .iconst 4, 1, 0, 0, 4, [], kno),
  (12, .invokestatic 184, 3, 7, 2, 0, [], K_mo_out),
  (15, .ifCond .ne 26, 3, 2, 23, 0, [], kno),
  (18, .aload_n 0, 1, 0, 0, 0, [], kno),
  (19, .getfield 7, 3, 7, 1, 0, [], mgr 83),
  (22, .iload_n 2, 1, 0, 2, 0, [], kno),
  (23, .baload, 1, 7, 2, 0, [], mab),
  (24, .ifCond .eq 17, 3, 2, 23, 0, [], kno),
  (27, .aload_n 0, 1, 0, 0, 0, [], kno),
  (28, .getfield 13, 3, 7, 1, 0, [], mgr 84),
  (31, .iload_n 2, 1, 0, 2, 0, [], kno),
  (32, .iaload, 1, 7, 2, 0, [], mai),
  (33, .iload_n 3, 1, 0, 3, 0, [], kno),
  (34, .if_icmp .ne 7, 3, 2, 23, 0, [], kno),
  (37, .iconst 1, 1, 0, 0, 1, [], kno),
  (38, .goto 4, 3, 1, 24, 0, [], kno),
  (41, .iconst 0, 1, 0, 0, 0, [], kno),
  (42, .istore 4, 2, 0, 4, 0, [], kno),
  (44, .iload 4, 2, 0, 4, 0, [], kno),
  (46, .ifCond .eq 10, 3, 2, 30, 0, [], kno),
  (49, .aload_n 0, 1, 0, 0, 0, [], kno),
  (50, .invokevirtual 188, 3, 7, 1, 0, [], K_mo_freeAddress),
  (53, .goto 4, 3, 1, 31, 0, [], kno),
  (56, .iconst 0, 1, 0, 0, 0, [], kno),
  (57, .istore 5, 2, 0, 5, 0, [], kno),
  (59, .aload_n 0, 1, 0, 0, 0, [], kno),
  (60, .getfield 59, 3, 7, 1, 0, [], mgr 99),
  (63, .iload_n 1, 1, 0, 1, 0, [], kno),
  (64, .iaload, 1, 7, 2, 0, [], mai),
  (65, .istore 6, 2, 0, 6, 0, [], kno),
  (67, .iload 5, 2, 0, 5, 0, [], kno),
  (69, .ifCond .ne 31, 3, 2, 57, 0, [], kno),
  (72, .aload_n 0, 1, 0, 0, 0, [], kno),
  (73, .bipush 6, 2, 0, 0, 6, [], kno),
  (75, .iconst 5, 1, 0, 0, 5, [], kno),
  (76, .iconst 4, 1, 0, 0, 4, [], kno),
  (77, .iload 6, 2, 0, 6, 0, [], kno),
  (79, .iconst 0, 1, 0, 0, 0, [], kno),
  (80, .iconst 0, 1, 0, 0, 0, [], kno),
  (81, .invokevirtual 138, 3, 7, 7, 0, [], K_mo_sendOff),
  (84, .aload_n 0, 1, 0, 0, 0, [], kno),
  (85, .iload_n 1, 1, 0, 1, 0, [], kno),
  (86, .invokevirtual 178, 3, 7, 2, 0, [], K_mo_endSession),
  (89, .aload_n 0, 1, 0, 0, 0, [], kno),
  (90, .iconst 1, 1, 0, 0, 1, [], kno),
  (91, .bipush 15, 2, 0, 0, 15, [], kno),
  (93, .iload 6, 2, 0, 6, 0, [], kno),
  (95, .iconst 0, 1, 0, 0, 0, [], kno),
  (96, .invokevirtual 149, 3, 7, 5, 0, [], K_mo_say),
  (99, .return_, 1, 6, 0, 0, [], kno),
  (100, .aload_n 0, 1, 0, 0, 0, [], kno),
  (101, .getfield 62, 3, 7, 1, 0, [], mgr 100),
  (104, .iload_n 1, 1, 0, 1, 0, [], kno),
  (105, .iconst 2, 1, 0, 0, 2, [], kno),
  (106, .iastore, 1, 7, 3, 0, [], mpa),
  (107, .aload_n 0, 1, 0, 0, 0, [], kno),
  (108, .getfield 65, 3, 7, 1, 0, [], mgr 101),
  (111, .iload_n 1, 1, 0, 1, 0, [], kno),
  (112, .iload 5, 2, 0, 5, 0, [], kno),
  (114, .iastore, 1, 7, 3, 0, [], mpa),
  (115, .aload_n 0, 1, 0, 0, 0, [], kno),
  (116, .getfield 62, 3, 7, 1, 0, [], mgr 100),
  (119, .iload_n 1, 1, 0, 1, 0, [], kno),
  (120, .iaload, 1, 7, 2, 0, [], mai),
  (121, .iconst 2, 1, 0, 0, 2, [], kno),
  (122, .if_icmp .ne 23, 3, 2, 87, 0, [], kno),
  (125, .aload_n 0, 1, 0, 0, 0, [], kno),
  (126, .iconst 5, 1, 0, 0, 5, [], kno),
  (127, .iconst 5, 1, 0, 0, 5, [], kno),
  (128, .iconst 4, 1, 0, 0, 4, [], kno),
  (129, .aload_n 0, 1, 0, 0, 0, [], kno),
  (130, .getfield 59, 3, 7, 1, 0, [], mgr 99),
  (133, .iload_n 1, 1, 0, 1, 0, [], kno),
  (134, .iaload, 1, 7, 2, 0, [], mai),
  (135, .aload_n 0, 1, 0, 0, 0, [], kno),
  (136, .getfield 65, 3, 7, 1, 0, [], mgr 101),
  (139, .iload_n 1, 1, 0, 1, 0, [], kno),
  (140, .iaload, 1, 7, 2, 0, [], mai),
  (141, .iconst 0, 1, 0, 0, 0, [], kno),
  (142, .invokevirtual 138, 3, 7, 7, 0, [], K_mo_sendOff),
  (145, .return_, 1, 6, 0, 0, [], kno)]
theorem E_mo_login (c : mx_C) (m : mx_M) (a1 : Int32) (a2 : Int32) (a3 : Int32)  : rx_ev L_mo_login [] 90 L_mo_login (c, m) [some (.ref 82), some (.int a1), some (.int a2), some (.int a3), none, none, none] [] = ry_v c (mo_login m a1 a2 a3) :=
  rx_ite2 (f := ry_v c) (fun h0 => rx_ite2 (f := ry_v c) (fun h1 => rx_ite2 (f := ry_v c) (fun h2 => rfl) (fun h2 => rx_ite2 (f := ry_v c) (fun h3 => rx_ite2 (f := ry_v c) (fun h4 => rfl) (fun h4 => rx_ite2 (f := ry_v c) (fun h5 => rfl) (fun h5 => rfl))) (fun h3 => rfl))) (fun h1 => rfl)) (fun h0 => rx_ite2 (f := ry_v c) (fun h1 => rfl) (fun h1 => rfl))
theorem S_mo_login (c : mx_C) (m : mx_M) (a1 : Int32) (a2 : Int32) (a3 : Int32) (hl : mo_lg m a1) : rx_sf L_mo_login [] 90 L_mo_login (c, m) [some (.ref 82), some (.int a1), some (.int a2), some (.int a3), none, none, none] [] :=
  And.intro rfl (And.intro (mo_es_in hl.1) (And.intro (fun h0 => And.intro trivial (And.intro (fun h1 => And.intro rfl (And.intro (mo_out4 (by assumption)) (And.intro (fun h2 => And.intro (fun _ => And.intro rfl (And.intro (mo_es_in hl.1) (And.intro (fun _ => And.intro rfl (And.intro (And.intro rfl (mo_es_fy (fy_sendOff _ _ _ _ _ _ _) hl.1)) (And.intro (And.intro rfl (mo_b_sy (k := 1399) (mo_b_fz (fz_endSession _ _) (mo_b_fz (fz_fy (fy_sendOff _ _ _ _ _ _ _)) hl.2.1)) (by decide) (i_in.mpr (by decide)))) (trivial)))) (fun h => absurd (by decide : ((0 : Int32) = 0)) h)))) (fun h => absurd (by decide : ((0 : Int32) = 0)) h)) (fun h2 => And.intro rfl (And.intro (mo_out4 (by assumption)) (And.intro (fun h3 => And.intro (fun h => absurd h (by decide : ¬ ((1 : Int32) = 0))) (fun _ => And.intro (And.intro rfl hl.2.2) (And.intro rfl (And.intro (mo_es_in hl.1) (And.intro (fun h4 => And.intro rfl (And.intro (And.intro rfl (mo_es_fy (fy_sendOff _ _ _ _ _ _ _) hl.1)) (And.intro (And.intro rfl (mo_b_sy (k := 1399) (mo_b_fz (fz_endSession _ _) (mo_b_fz (fz_fy (fy_sendOff _ _ _ _ _ _ _)) hl.2.1)) (by decide) (i_in.mpr (by decide)))) (trivial)))) (fun h4 => And.intro rfl (And.intro (mo_es_in hl.1) (And.intro rfl (And.intro (mo_es_in hl.1) (And.intro rfl (And.intro (mo_es_in hl.1) (And.intro (fun h5 => And.intro rfl (And.intro (mo_es_in hl.1) (And.intro rfl (And.intro (mo_es_in hl.1) (And.intro rfl (trivial)))))) (fun h5 => trivial))))))))))))) (fun h3 => And.intro (fun _ => And.intro rfl (And.intro (mo_es_in hl.1) (And.intro (fun _ => And.intro rfl (And.intro (And.intro rfl (mo_es_fy (fy_sendOff _ _ _ _ _ _ _) hl.1)) (And.intro (And.intro rfl (mo_b_sy (k := 1399) (mo_b_fz (fz_endSession _ _) (mo_b_fz (fz_fy (fy_sendOff _ _ _ _ _ _ _)) hl.2.1)) (by decide) (i_in.mpr (by decide)))) (trivial)))) (fun h => absurd (by decide : ((0 : Int32) = 0)) h)))) (fun h => absurd (by decide : ((0 : Int32) = 0)) h)))))))) (fun h1 => And.intro (fun _ => And.intro rfl (And.intro (mo_es_in hl.1) (And.intro (fun _ => And.intro rfl (And.intro (And.intro rfl (mo_es_fy (fy_sendOff _ _ _ _ _ _ _) hl.1)) (And.intro (And.intro rfl (mo_b_sy (k := 1399) (mo_b_fz (fz_endSession _ _) (mo_b_fz (fz_fy (fy_sendOff _ _ _ _ _ _ _)) hl.2.1)) (by decide) (i_in.mpr (by decide)))) (trivial)))) (fun h => absurd (by decide : ((0 : Int32) = 0)) h)))) (fun h => absurd (by decide : ((0 : Int32) = 0)) h)))) (fun h0 => And.intro rfl (And.intro (mo_es_in hl.1) (And.intro (fun h1 => And.intro rfl (And.intro (mo_es_in hl.1) (And.intro rfl (And.intro (mo_es_in hl.1) (And.intro rfl (trivial)))))) (fun h1 => trivial))))))

theorem cv_mo_out {p : Program} {l : Launch} {e : Env} {R : Room} {s : State} {m : MethodId} {args : Array Value} {below : List Frame} {meth : Method} {c : Code} {cc : ByteArray} {nL : Nat} {ad : Nat → Nat} {D : va_G} {g : Nat → ClassId} {B : Nat} {idx : Nat} (X : ox_C p s m args c cc nL "SubscriberLinesModel" D g ad B) (hV : rx_V l D g ad B ⟨"SubscriberLinesModel", "out", "(II)Z"⟩ prog_12_method_2_code 2 (some .boolean) 0 0 K_mo_out) (hl : Cond.methodLink "SubscriberLinesModel" idx ⟨"SubscriberLinesModel", "out", "(II)Z"⟩ ∈ al) (hR : 0 + 1 ≤ R.frames ∧ 8 + (2 + 11) + 0 ≤ R.locals) : rx_OK p l e R s m args below meth c cc nL ad (mx_W D g ad B s.heap) mx_cs (.invokestatic idx) 3 2 (K_mo_out) :=
  ox_callS X hV hl (al_at 927 (by decide +kernel) rfl) (al_at 12 (by decide +kernel) rfl) (al_at 928 (by decide +kernel) rfl) ⟨rfl, by decide, by decide, by decide +kernel⟩ hR
theorem og_mo_7_g {p : Program} {l : Launch} {e : Env} {R : Room} {s : State} {m : MethodId} {args : Array Value} {below : List Frame} {meth : Method} {c : Code} {cc : ByteArray} {nL : Nat} {ad : Nat → Nat} {D : va_G} {g : Nat → ClassId} {B : Nat} (X : ox_C p s m args c cc nL "SubscriberLinesModel" D g ad B) : rx_OK p l e R s m args below meth c cc nL ad (mx_W D g ad B s.heap) mx_cs (.getfield 7) 3 1 (mgr 83) := oy_gr (k := 1) X (by decide) rfl (al_at 712 (by decide +kernel) rfl)
theorem og_mo_13_g {p : Program} {l : Launch} {e : Env} {R : Room} {s : State} {m : MethodId} {args : Array Value} {below : List Frame} {meth : Method} {c : Code} {cc : ByteArray} {nL : Nat} {ad : Nat → Nat} {D : va_G} {g : Nat → ClassId} {B : Nat} (X : ox_C p s m args c cc nL "SubscriberLinesModel" D g ad B) : rx_OK p l e R s m args below meth c cc nL ad (mx_W D g ad B s.heap) mx_cs (.getfield 13) 3 1 (mgr 84) := oy_gr (k := 2) X (by decide) rfl (al_at 713 (by decide +kernel) rfl)
theorem cv_mo_freeAddress {p : Program} {l : Launch} {e : Env} {R : Room} {s : State} {m : MethodId} {args : Array Value} {below : List Frame} {meth : Method} {c : Code} {cc : ByteArray} {nL : Nat} {ad : Nat → Nat} {D : va_G} {g : Nat → ClassId} {B : Nat} {own : String} {idx : Nat} (X : ox_C p s m args c cc nL own D g ad B) (hV : rx_V l D g ad B ⟨"SubscriberLinesModel", "freeAddress", "()I"⟩ prog_12_method_23_code 4 (some .int) 0 0 K_mo_freeAddress) (hl : Cond.methodLink own idx ⟨"SubscriberLinesModel", "freeAddress", "()I"⟩ ∈ al) (hR : 0 + 1 ≤ R.frames ∧ 8 + (4 + 11) + 0 ≤ R.locals) : rx_OK p l e R s m args below meth c cc nL ad (mx_W D g ad B s.heap) mx_cs (.invokevirtual idx) 3 1 (K_mo_freeAddress) :=
  ox_callV (q := 9) (T := T_9) X hV (fun av x h => by obtain ⟨a0, rfl⟩ := k_R_inv h; exact ⟨a0, _, rfl, by have h2 : a0 = 82 := h.1; rw [h2]; rfl⟩) (by decide) rfl hl (al_at 931 (by decide +kernel) rfl) (al_pr (y := (⟨"SubscriberLinesModel", "freeAddress", "()I"⟩, _)) 53 rfl) (al_at 12 (by decide +kernel) rfl) (al_at 932 (by decide +kernel) rfl) ⟨by decide, by decide, by decide +kernel⟩ hR
theorem ok_mo_login : rx_okF prog_12_method_24_code 7 none L_mo_login 0 L_mo_login = true := by decide +kernel
theorem V_mo_login {l : Launch} {D : va_G} {g : Nat → ClassId} {ad : Nat → Nat} {B : Nat} (had : mx_A ad B) : rx_V l D g ad B ⟨"SubscriberLinesModel", "login", "(III)V"⟩ prog_12_method_24_code 7 none 4 98 K_mo_login := by
  intro av x hp
  obtain ⟨a0, a1, a2, a3, rfl⟩ := k_RIII_inv hp
  have hp : a0 = 82 ∧ mo_lg x.2 a1 := hp
  have h0 : a0 = 82 := hp.1
  subst h0
  exact rx_met (k := 3) had (by decide) (Nat.le_of_ble_eq_true rfl) ok_mo_login rfl rfl 90 (fun p e s m args below meth c X => And.intro (og_mo_62_g X) (And.intro (oy_ai X) (And.intro (cv_mo_out X (V_mo_out had) (al_at 926 (by decide +kernel) rfl) ⟨by decide, by decide⟩) (And.intro (og_mo_7_g X) (And.intro (oy_ab X) (And.intro (og_mo_13_g X) (And.intro (oy_ai X) (And.intro (cv_mo_freeAddress X (V_mo_freeAddress had) (al_at 929 (by decide +kernel) rfl) ⟨by decide, by decide⟩) (And.intro (og_mo_59_g X) (And.intro (oy_ai X) (And.intro (cv_mo_sendOff X (V_mo_sendOff had) (al_at 858 (by decide +kernel) rfl) ⟨by decide, by decide⟩) (And.intro (cv_mo_endSession X (V_mo_endSession had) (al_at 914 (by decide +kernel) rfl) ⟨by decide, by decide⟩) (And.intro (cv_mo_say X (V_mo_say had) (al_at 902 (by decide +kernel) rfl) ⟨by decide, by decide⟩) (And.intro (og_mo_62_g X) (And.intro (oy_pa X) (And.intro (og_mo_65_g X) (And.intro (oy_pa X) (And.intro (og_mo_62_g X) (And.intro (oy_ai X) (And.intro (og_mo_59_g X) (And.intro (oy_ai X) (And.intro (og_mo_65_g X) (And.intro (oy_ai X) (And.intro (cv_mo_sendOff X (V_mo_sendOff had) (al_at 858 (by decide +kernel) rfl) ⟨by decide, by decide⟩) (trivial))))))))))))))))))))))))) (S_mo_login x.1 x.2 a1 a2 a3 hp.2) (E_mo_login x.1 x.2 a1 a2 a3)
def mo_toSession (m : mx_M) (a1 : Int32) (a2 : Int32) (a3 : Int32) (a4 : Int32) : mx_M :=
  if (mo_sessionOf m a2) < 0 then
    m
  else
    let m1 := my_pi m 102 (Int32.toNatClampNeg (mo_sessionOf m a2)) 0
    if a1 = 4 then
      let m2 := mo_login m1 (mo_sessionOf m a2) a3 a4
      m2
    else
      if a1 = 7 then
        if (m1.1 100 (Int32.toNatClampNeg (mo_sessionOf m a2))) = 2 then
          let m3 := my_pi m1 100 (Int32.toNatClampNeg (mo_sessionOf m a2)) 3
          m3
        else
          if a1 = 10 then
            if (m1.1 100 (Int32.toNatClampNeg (mo_sessionOf m a2))) = 3 then
              if (m1.1 101 (Int32.toNatClampNeg (mo_sessionOf m a2))) = a3 then
                let m4 := my_pi m1 103 (Int32.toNatClampNeg ((m1.1 82 24) - (m1.1 82 24) / 8 * 8)) a4
                let m5 := my_pi m4 104 (Int32.toNatClampNeg ((m4.1 82 24) - (m4.1 82 24) / 8 * 8)) a3
                let m6 := my_pi m5 82 24 ((m5.1 82 24) + 1)
                m6
              else
                let m7 := my_pi m1 82 25 ((m1.1 82 25) + 1)
                m7
            else
              let m8 := my_pi m1 82 25 ((m1.1 82 25) + 1)
              m8
          else
            m1
      else
        if a1 = 10 then
          if (m1.1 100 (Int32.toNatClampNeg (mo_sessionOf m a2))) = 3 then
            if (m1.1 101 (Int32.toNatClampNeg (mo_sessionOf m a2))) = a3 then
              let m9 := my_pi m1 103 (Int32.toNatClampNeg ((m1.1 82 24) - (m1.1 82 24) / 8 * 8)) a4
              let m10 := my_pi m9 104 (Int32.toNatClampNeg ((m9.1 82 24) - (m9.1 82 24) / 8 * 8)) a3
              let m11 := my_pi m10 82 24 ((m10.1 82 24) + 1)
              m11
            else
              let m12 := my_pi m1 82 25 ((m1.1 82 25) + 1)
              m12
          else
            let m13 := my_pi m1 82 25 ((m1.1 82 25) + 1)
            m13
        else
          m1
def K_mo_toSession : rx_K mx := k_RIIII (fun a0 a1 a2 a3 a4 c m => (a0 = 82 ∧ mo_ts m, (c, mo_toSession m a1 a2 a3 a4), none))
def L_mo_toSession : List (rx_E mx) := [
  (0, .aload_n 0, 1, 0, 0, 0, [], kno),
  (1, .iload_n 2, 1, 0, 2, 0, [], kno),
  (2, .invokevirtual 175, 3, 7, 2, 0, [], K_mo_sessionOf),
  (5, .istore 5, 2, 0, 5, 0, [], kno),
  (7, .iload 5, 2, 0, 5, 0, [], kno),
  (9, .ifCond .ge 4, 3, 2, 7, 0, [], kno),
  (12, .return_, 1, 6, 0, 0, [], kno),
  (13, .aload_n 0, 1, 0, 0, 0, [], kno),
  (14, .getfield 68, 3, 7, 1, 0, [], mgr 102),
  (17, .iload 5, 2, 0, 5, 0, [], kno),
  (19, .iconst 0, 1, 0, 0, 0, [], kno),
  (20, .iastore, 1, 7, 3, 0, [], mpa),
  (21, .iload_n 1, 1, 0, 1, 0, [], kno),
  (22, .iconst 4, 1, 0, 0, 4, [], kno),
  (23, .if_icmp .ne 15, 3, 2, 21, 0, [], kno),
  (26, .aload_n 0, 1, 0, 0, 0, [], kno),
  (27, .iload 5, 2, 0, 5, 0, [], kno),
  (29, .iload_n 3, 1, 0, 3, 0, [], kno),
  (30, .iload 4, 2, 0, 4, 0, [], kno),
  (32, .invokevirtual 192, 3, 7, 4, 0, [], K_mo_login),
  (35, .goto 115, 3, 1, 83, 0, [], kno),
  (38, .iload_n 1, 1, 0, 1, 0, [], kno),
  (39, .bipush 7, 2, 0, 0, 7, [], kno),
  (41, .if_icmp .ne 25, 3, 2, 36, 0, [], kno),
  (44, .aload_n 0, 1, 0, 0, 0, [], kno),
  (45, .getfield 62, 3, 7, 1, 0, [], mgr 100),
  (48, .iload 5, 2, 0, 5, 0, [], kno),
  (50, .iaload, 1, 7, 2, 0, [], mai),
  (51, .iconst 2, 1, 0, 0, 2, [], kno),
  (52, .if_icmp .ne 14, 3, 2, 36, 0, [], kno),
  (55, .aload_n 0, 1, 0, 0, 0, [], kno),
  (56, .getfield 62, 3, 7, 1, 0, [], mgr 100),
  (59, .iload 5, 2, 0, 5, 0, [], kno),
  (61, .iconst 3, 1, 0, 0, 3, [], kno),
  (62, .iastore, 1, 7, 3, 0, [], mpa),
  (63, .goto 87, 3, 1, 83, 0, [], kno),
  (66, .iload_n 1, 1, 0, 1, 0, [], kno),
  (67, .bipush 10, 2, 0, 0, 10, [], kno),
  (69, .if_icmp .ne 38, 3, 2, 58, 0, [], kno),
  (72, .aload_n 0, 1, 0, 0, 0, [], kno),
  (73, .getfield 62, 3, 7, 1, 0, [], mgr 100),
  (76, .iload 5, 2, 0, 5, 0, [], kno),
  (78, .iaload, 1, 7, 2, 0, [], mai),
  (79, .iconst 3, 1, 0, 0, 3, [], kno),
  (80, .if_icmp .ne 14, 3, 2, 51, 0, [], kno),
  (83, .aload_n 0, 1, 0, 0, 0, [], kno),
  (84, .getfield 65, 3, 7, 1, 0, [], mgr 101),
  (87, .iload 5, 2, 0, 5, 0, [], kno),
  (89, .iaload, 1, 7, 2, 0, [], mai),
  (90, .iload_n 3, 1, 0, 3, 0, [], kno),
  (91, .if_icmp .eq 16, 3, 2, 58, 0, [], kno),
  (94, .aload_n 0, 1, 0, 0, 0, [], kno),
  (95, .dup, 1, 0, 0, 0, [], kno),
  (96, .getfield 195, 3, 7, 1, 0, [], mgi 25),
  (99, .iconst 1, 1, 0, 0, 1, [], kno),
  (100, .iadd, 1, 0, 0, 0, [], kno),
  (101, .putfield 195, 3, 7, 2, 0, [], mpi 25),
  (104, .goto 46, 3, 1, 83, 0, [], kno),
  (107, .iload_n 1, 1, 0, 1, 0, [], kno),
  (108, .bipush 10, 2, 0, 0, 10, [], kno),
  (110, .if_icmp .ne 40, 3, 2, 83, 0, [], kno),
  (113, .aload_n 0, 1, 0, 0, 0, [], kno),
  (114, .getfield 71, 3, 7, 1, 0, [], mgr 103),
  (117, .aload_n 0, 1, 0, 0, 0, [], kno),
  (118, .getfield 198, 3, 7, 1, 0, [], mgi 24),
  (121, .bipush 8, 2, 0, 0, 8, [], kno),
  (123, .irem, 1, 0, 0, 0, [], kno),
  (124, .iload 4, 2, 0, 4, 0, [], kno),
  (126, .iastore, 1, 7, 3, 0, [], mpa),
  (127, .aload_n 0, 1, 0, 0, 0, [], kno),
  (128, .getfield 74, 3, 7, 1, 0, [], mgr 104),
  (131, .aload_n 0, 1, 0, 0, 0, [], kno),
  (132, .getfield 198, 3, 7, 1, 0, [], mgi 24),
  (135, .bipush 8, 2, 0, 0, 8, [], kno),
  (137, .irem, 1, 0, 0, 0, [], kno),
  (138, .iload_n 3, 1, 0, 3, 0, [], kno),
  (139, .iastore, 1, 7, 3, 0, [], mpa),
  (140, .aload_n 0, 1, 0, 0, 0, [], kno),
  (141, .dup, 1, 0, 0, 0, [], kno),
  (142, .getfield 198, 3, 7, 1, 0, [], mgi 24),
  (145, .iconst 1, 1, 0, 0, 1, [], kno),
  (146, .iadd, 1, 0, 0, 0, [], kno),
  (147, .putfield 198, 3, 7, 2, 0, [], mpi 24),
  (150, .return_, 1, 6, 0, 0, [], kno)]
theorem E_mo_toSession (c : mx_C) (m : mx_M) (a1 : Int32) (a2 : Int32) (a3 : Int32) (a4 : Int32)  : rx_ev L_mo_toSession [] 86 L_mo_toSession (c, m) [some (.ref 82), some (.int a1), some (.int a2), some (.int a3), some (.int a4), none] [] = ry_v c (mo_toSession m a1 a2 a3 a4) :=
  rx_ite2 (f := ry_v c) (fun h0 => rfl) (fun h0 => rx_ite2 (f := ry_v c) (fun h1 => rfl) (fun h1 => rx_ite2 (f := ry_v c) (fun h2 => rx_ite2 (f := ry_v c) (fun h3 => rfl) (fun h3 => rx_ite2 (f := ry_v c) (fun h4 => rx_ite2 (f := ry_v c) (fun h5 => rx_ite2 (f := ry_v c) (fun h6 => rx_litT h4 (rfl)) (fun h6 => rfl)) (fun h5 => rfl)) (fun h4 => rx_litF h4 (rfl)))) (fun h2 => rx_ite2 (f := ry_v c) (fun h3 => rx_ite2 (f := ry_v c) (fun h4 => rx_ite2 (f := ry_v c) (fun h5 => rx_litT h3 (rfl)) (fun h5 => rfl)) (fun h4 => rfl)) (fun h3 => rx_litF h3 (rfl)))))
theorem S_mo_toSession (c : mx_C) (m : mx_M) (a1 : Int32) (a2 : Int32) (a3 : Int32) (a4 : Int32) (ht : mo_ts m) : rx_sf L_mo_toSession [] 86 L_mo_toSession (c, m) [some (.ref 82), some (.int a1), some (.int a2), some (.int a3), some (.int a4), none] [] :=
  And.intro rfl (And.intro (fun h0 => trivial) (fun h0 => And.intro rfl (And.intro (mo_es_in (mo_sess_in (by assumption))) (And.intro (fun h1 => And.intro (And.intro rfl (And.intro (mo_sess_in (by assumption)) (And.intro (mo_b_pi (by decide) ht.1) (mo_pl_pi (by decide) ht.2.1)))) (trivial)) (fun h1 => And.intro (fun h2 => And.intro rfl (And.intro (mo_es_in (mo_sess_in (by assumption))) (And.intro (fun h3 => And.intro rfl (And.intro (mo_es_in (mo_sess_in (by assumption))) (trivial))) (fun h3 => And.intro (fun h4 => And.intro rfl (And.intro (mo_es_in (mo_sess_in (by assumption))) (And.intro (fun h5 => And.intro rfl (And.intro (mo_es_in (mo_sess_in (by assumption))) (And.intro (fun h6 => And.intro (fun _ => And.intro rfl (And.intro rfl (And.intro (mo_c8 ht.2.2 (by simp only [my_pi]; repeat (first | rw [mx_up_eq] | rw [mx_up_ne _ _ (by omega)]))) (And.intro rfl (And.intro rfl (And.intro (mo_c8 ht.2.2 (by simp only [my_pi]; repeat (first | rw [mx_up_eq] | rw [mx_up_ne _ _ (by omega)]))) (And.intro rfl (And.intro rfl (trivial))))))))) (fun h => absurd h4 h)) (fun h6 => And.intro rfl (And.intro rfl (trivial)))))) (fun h5 => And.intro rfl (And.intro rfl (trivial)))))) (fun h4 => And.intro (fun h => absurd h h4) (fun _ => trivial)))))) (fun h2 => And.intro (fun h3 => And.intro rfl (And.intro (mo_es_in (mo_sess_in (by assumption))) (And.intro (fun h4 => And.intro rfl (And.intro (mo_es_in (mo_sess_in (by assumption))) (And.intro (fun h5 => And.intro (fun _ => And.intro rfl (And.intro rfl (And.intro (mo_c8 ht.2.2 (by simp only [my_pi]; repeat (first | rw [mx_up_eq] | rw [mx_up_ne _ _ (by omega)]))) (And.intro rfl (And.intro rfl (And.intro (mo_c8 ht.2.2 (by simp only [my_pi]; repeat (first | rw [mx_up_eq] | rw [mx_up_ne _ _ (by omega)]))) (And.intro rfl (And.intro rfl (trivial))))))))) (fun h => absurd h3 h)) (fun h5 => And.intro rfl (And.intro rfl (trivial)))))) (fun h4 => And.intro rfl (And.intro rfl (trivial)))))) (fun h3 => And.intro (fun h => absurd h h3) (fun _ => trivial))))))))

theorem cv_mo_login {p : Program} {l : Launch} {e : Env} {R : Room} {s : State} {m : MethodId} {args : Array Value} {below : List Frame} {meth : Method} {c : Code} {cc : ByteArray} {nL : Nat} {ad : Nat → Nat} {D : va_G} {g : Nat → ClassId} {B : Nat} {own : String} {idx : Nat} (X : ox_C p s m args c cc nL own D g ad B) (hV : rx_V l D g ad B ⟨"SubscriberLinesModel", "login", "(III)V"⟩ prog_12_method_24_code 7 none 4 98 K_mo_login) (hl : Cond.methodLink own idx ⟨"SubscriberLinesModel", "login", "(III)V"⟩ ∈ al) (hR : 4 + 1 ≤ R.frames ∧ 8 + (7 + 11) + 98 ≤ R.locals) : rx_OK p l e R s m args below meth c cc nL ad (mx_W D g ad B s.heap) mx_cs (.invokevirtual idx) 3 4 (K_mo_login) :=
  ox_callV (q := 9) (T := T_9) X hV (fun av x h => by obtain ⟨a0, a1, a2, a3, rfl⟩ := k_RIII_inv h; exact ⟨a0, _, rfl, by have h2 : a0 = 82 := h.1; rw [h2]; rfl⟩) (by decide) rfl hl (al_at 924 (by decide +kernel) rfl) (al_pr (y := (⟨"SubscriberLinesModel", "login", "(III)V"⟩, _)) 52 rfl) (al_at 12 (by decide +kernel) rfl) (al_at 925 (by decide +kernel) rfl) ⟨by decide, by decide, by decide +kernel⟩ hR
theorem og_mo_195_g {p : Program} {l : Launch} {e : Env} {R : Room} {s : State} {m : MethodId} {args : Array Value} {below : List Frame} {meth : Method} {c : Code} {cc : ByteArray} {nL : Nat} {ad : Nat → Nat} {D : va_G} {g : Nat → ClassId} {B : Nat} (X : ox_C p s m args c cc nL "SubscriberLinesModel" D g ad B) : rx_OK p l e R s m args below meth c cc nL ad (mx_W D g ad B s.heap) mx_cs (.getfield 195) 3 1 (mgi 25) := oy_gi X (by decide) rfl (al_at 736 (by decide +kernel) rfl)
theorem og_mo_195_p {p : Program} {l : Launch} {e : Env} {R : Room} {s : State} {m : MethodId} {args : Array Value} {below : List Frame} {meth : Method} {c : Code} {cc : ByteArray} {nL : Nat} {ad : Nat → Nat} {D : va_G} {g : Nat → ClassId} {B : Nat} (X : ox_C p s m args c cc nL "SubscriberLinesModel" D g ad B) : rx_OK p l e R s m args below meth c cc nL ad (mx_W D g ad B s.heap) mx_cs (.putfield 195) 3 2 (mpi 25) := oy_pi X (by decide) rfl rfl rfl (al_at 736 (by decide +kernel) rfl)
theorem og_mo_71_g {p : Program} {l : Launch} {e : Env} {R : Room} {s : State} {m : MethodId} {args : Array Value} {below : List Frame} {meth : Method} {c : Code} {cc : ByteArray} {nL : Nat} {ad : Nat → Nat} {D : va_G} {g : Nat → ClassId} {B : Nat} (X : ox_C p s m args c cc nL "SubscriberLinesModel" D g ad B) : rx_OK p l e R s m args below meth c cc nL ad (mx_W D g ad B s.heap) mx_cs (.getfield 71) 3 1 (mgr 103) := oy_gr (k := 26) X (by decide) rfl (al_at 737 (by decide +kernel) rfl)
theorem og_mo_198_g {p : Program} {l : Launch} {e : Env} {R : Room} {s : State} {m : MethodId} {args : Array Value} {below : List Frame} {meth : Method} {c : Code} {cc : ByteArray} {nL : Nat} {ad : Nat → Nat} {D : va_G} {g : Nat → ClassId} {B : Nat} (X : ox_C p s m args c cc nL "SubscriberLinesModel" D g ad B) : rx_OK p l e R s m args below meth c cc nL ad (mx_W D g ad B s.heap) mx_cs (.getfield 198) 3 1 (mgi 24) := oy_gi X (by decide) rfl (al_at 735 (by decide +kernel) rfl)
theorem og_mo_74_g {p : Program} {l : Launch} {e : Env} {R : Room} {s : State} {m : MethodId} {args : Array Value} {below : List Frame} {meth : Method} {c : Code} {cc : ByteArray} {nL : Nat} {ad : Nat → Nat} {D : va_G} {g : Nat → ClassId} {B : Nat} (X : ox_C p s m args c cc nL "SubscriberLinesModel" D g ad B) : rx_OK p l e R s m args below meth c cc nL ad (mx_W D g ad B s.heap) mx_cs (.getfield 74) 3 1 (mgr 104) := oy_gr (k := 27) X (by decide) rfl (al_at 738 (by decide +kernel) rfl)
theorem og_mo_198_p {p : Program} {l : Launch} {e : Env} {R : Room} {s : State} {m : MethodId} {args : Array Value} {below : List Frame} {meth : Method} {c : Code} {cc : ByteArray} {nL : Nat} {ad : Nat → Nat} {D : va_G} {g : Nat → ClassId} {B : Nat} (X : ox_C p s m args c cc nL "SubscriberLinesModel" D g ad B) : rx_OK p l e R s m args below meth c cc nL ad (mx_W D g ad B s.heap) mx_cs (.putfield 198) 3 2 (mpi 24) := oy_pi X (by decide) rfl rfl rfl (al_at 735 (by decide +kernel) rfl)
theorem ok_mo_toSession : rx_okF prog_12_method_25_code 6 none L_mo_toSession 0 L_mo_toSession = true := by decide +kernel
theorem V_mo_toSession {l : Launch} {D : va_G} {g : Nat → ClassId} {ad : Nat → Nat} {B : Nat} (had : mx_A ad B) : rx_V l D g ad B ⟨"SubscriberLinesModel", "toSession", "(IIII)V"⟩ prog_12_method_25_code 6 none 5 124 K_mo_toSession := by
  intro av x hp
  obtain ⟨a0, a1, a2, a3, a4, rfl⟩ := k_RIIII_inv hp
  have hp : a0 = 82 ∧ mo_ts x.2 := hp
  have h0 : a0 = 82 := hp.1
  subst h0
  exact rx_met (k := 1) had (by decide) (Nat.le_of_ble_eq_true rfl) ok_mo_toSession rfl rfl 86 (fun p e s m args below meth c X => And.intro (cv_mo_sessionOf X (V_mo_sessionOf had) (al_at 910 (by decide +kernel) rfl) ⟨by decide, by decide⟩) (And.intro (og_mo_68_g X) (And.intro (oy_pa X) (And.intro (cv_mo_login X (V_mo_login had) (al_at 922 (by decide +kernel) rfl) ⟨by decide, by decide⟩) (And.intro (og_mo_62_g X) (And.intro (oy_ai X) (And.intro (og_mo_62_g X) (And.intro (oy_pa X) (And.intro (og_mo_62_g X) (And.intro (oy_ai X) (And.intro (og_mo_65_g X) (And.intro (oy_ai X) (And.intro (og_mo_195_g X) (And.intro (og_mo_195_p X) (And.intro (og_mo_71_g X) (And.intro (og_mo_198_g X) (And.intro (oy_pa X) (And.intro (og_mo_74_g X) (And.intro (og_mo_198_g X) (And.intro (oy_pa X) (And.intro (og_mo_198_g X) (And.intro (og_mo_198_p X) (trivial))))))))))))))))))))))) (S_mo_toSession x.1 x.2 a1 a2 a3 a4 hp.2) (E_mo_toSession x.1 x.2 a1 a2 a3 a4)
def mo_toSubscriber (m : mx_M) (a1 : Int32) (a2 : Int32) (a3 : Int32) (a4 : Int32) (a5 : Int32) : mx_M :=
  if a2 = 2 then
    if (m.1 86 (Int32.toNatClampNeg a1)) = 1 then
      let m1 := my_pi m 87 (Int32.toNatClampNeg a1) a3
      let m2 := my_pi m1 86 (Int32.toNatClampNeg a1) 2
      let m3 := my_pi m2 92 (Int32.toNatClampNeg a1) 0
      let m4 := mo_ask m3 a1
      m4
    else
      m
  else
    if (m.1 86 (Int32.toNatClampNeg a1)) < 2 then
      m
    else
      if (m.1 87 (Int32.toNatClampNeg a1)) = a3 then
        if a2 = 5 then
          let m5 := mo_accepted m a1 a4
          m5
        else
          if a2 = 6 then
            if (m.1 86 (Int32.toNatClampNeg a1)) = 2 then
              let m6 := mo_leave m a1
              m6
            else
              if a2 = 8 then
                if (m.1 86 (Int32.toNatClampNeg a1)) = 3 then
                  let m7 := my_pi m 93 (Int32.toNatClampNeg a1) 0
                  let m8 := mo_sendOff m7 9 a1 4 a3 0 0
                  m8
                else
                  if a2 = 11 then
                    if a2 = 3 then
                      let m9 := mo_off m a1
                      m9
                    else
                      m
                  else
                    if a2 = 3 then
                      let m10 := mo_off m a1
                      m10
                    else
                      m
              else
                if a2 = 11 then
                  if (m.1 86 (Int32.toNatClampNeg a1)) = 3 then
                    if (m.1 90 (Int32.toNatClampNeg a1)) = a4 then
                      let m11 := my_pi m 93 (Int32.toNatClampNeg a1) 0
                      let m12 := my_pi m11 95 (Int32.toNatClampNeg ((4 * a1) + ((m11.1 94 (Int32.toNatClampNeg a1)) - (m11.1 94 (Int32.toNatClampNeg a1)) / 4 * 4))) a5
                      let m13 := my_pi m12 94 (Int32.toNatClampNeg a1) ((m12.1 94 (Int32.toNatClampNeg a1)) + 1)
                      m13
                    else
                      if a2 = 3 then
                        let m14 := mo_off m a1
                        m14
                      else
                        m
                  else
                    if a2 = 3 then
                      let m15 := mo_off m a1
                      m15
                    else
                      m
                else
                  if a2 = 3 then
                    let m16 := mo_off m a1
                    m16
                  else
                    m
          else
            if a2 = 8 then
              if (m.1 86 (Int32.toNatClampNeg a1)) = 3 then
                let m17 := my_pi m 93 (Int32.toNatClampNeg a1) 0
                let m18 := mo_sendOff m17 9 a1 4 a3 0 0
                m18
              else
                if a2 = 11 then
                  if a2 = 3 then
                    let m19 := mo_off m a1
                    m19
                  else
                    m
                else
                  if a2 = 3 then
                    let m20 := mo_off m a1
                    m20
                  else
                    m
            else
              if a2 = 11 then
                if (m.1 86 (Int32.toNatClampNeg a1)) = 3 then
                  if (m.1 90 (Int32.toNatClampNeg a1)) = a4 then
                    let m21 := my_pi m 93 (Int32.toNatClampNeg a1) 0
                    let m22 := my_pi m21 95 (Int32.toNatClampNeg ((4 * a1) + ((m21.1 94 (Int32.toNatClampNeg a1)) - (m21.1 94 (Int32.toNatClampNeg a1)) / 4 * 4))) a5
                    let m23 := my_pi m22 94 (Int32.toNatClampNeg a1) ((m22.1 94 (Int32.toNatClampNeg a1)) + 1)
                    m23
                  else
                    if a2 = 3 then
                      let m24 := mo_off m a1
                      m24
                    else
                      m
                else
                  if a2 = 3 then
                    let m25 := mo_off m a1
                    m25
                  else
                    m
              else
                if a2 = 3 then
                  let m26 := mo_off m a1
                  m26
                else
                  m
      else
        m
def K_mo_toSubscriber : rx_K mx := k_RIIIII (fun a0 a1 a2 a3 a4 a5 c m => (a0 = 82 ∧ mo_wd m a1, (c, mo_toSubscriber m a1 a2 a3 a4 a5), none))
def L_mo_toSubscriber : List (rx_E mx) := [
  (0, .iload_n 2, 1, 0, 2, 0, [], kno),
  (1, .iconst 2, 1, 0, 0, 2, [], kno),
  (2, .if_icmp .ne 39, 3, 2, 27, 0, [], kno),
  (5, .aload_n 0, 1, 0, 0, 0, [], kno),
  (6, .getfield 20, 3, 7, 1, 0, [], mgr 86),
  (9, .iload_n 1, 1, 0, 1, 0, [], kno),
  (10, .iaload, 1, 7, 2, 0, [], mai),
  (11, .iconst 1, 1, 0, 0, 1, [], kno),
  (12, .if_icmp .ne 29, 3, 2, 27, 0, [], kno),
  (15, .aload_n 0, 1, 0, 0, 0, [], kno),
  (16, .getfield 23, 3, 7, 1, 0, [], mgr 87),
  (19, .iload_n 1, 1, 0, 1, 0, [], kno),
  (20, .iload_n 3, 1, 0, 3, 0, [], kno),
  (21, .iastore, 1, 7, 3, 0, [], mpa),
  (22, .aload_n 0, 1, 0, 0, 0, [], kno),
  (23, .getfield 20, 3, 7, 1, 0, [], mgr 86),
  (26, .iload_n 1, 1, 0, 1, 0, [], kno),
  (27, .iconst 2, 1, 0, 0, 2, [], kno),
  (28, .iastore, 1, 7, 3, 0, [], mpa),
  (29, .aload_n 0, 1, 0, 0, 0, [], kno),
  (30, .getfield 38, 3, 7, 1, 0, [], mgr 92),
  (33, .iload_n 1, 1, 0, 1, 0, [], kno),
  (34, .iconst 0, 1, 0, 0, 0, [], kno),
  (35, .iastore, 1, 7, 3, 0, [], mpa),
  (36, .aload_n 0, 1, 0, 0, 0, [], kno),
  (37, .iload_n 1, 1, 0, 1, 0, [], kno),
  (38, .invokevirtual 204, 3, 7, 2, 0, [], K_mo_ask),
  (41, .iload_n 2, 1, 0, 2, 0, [], kno),
  (42, .iconst 2, 1, 0, 0, 2, [], kno),
  (43, .if_icmp .eq 23, 3, 2, 42, 0, [], kno),
  (46, .aload_n 0, 1, 0, 0, 0, [], kno),
  (47, .getfield 20, 3, 7, 1, 0, [], mgr 86),
  (50, .iload_n 1, 1, 0, 1, 0, [], kno),
  (51, .iaload, 1, 7, 2, 0, [], mai),
  (52, .iconst 2, 1, 0, 0, 2, [], kno),
  (53, .if_icmp .lt 13, 3, 2, 42, 0, [], kno),
  (56, .aload_n 0, 1, 0, 0, 0, [], kno),
  (57, .getfield 23, 3, 7, 1, 0, [], mgr 87),
  (60, .iload_n 1, 1, 0, 1, 0, [], kno),
  (61, .iaload, 1, 7, 2, 0, [], mai),
  (62, .iload_n 3, 1, 0, 3, 0, [], kno),
  (63, .if_icmp .eq 4, 3, 2, 43, 0, [], kno),
  (66, .return_, 1, 6, 0, 0, [], kno),
  (67, .iload_n 2, 1, 0, 2, 0, [], kno),
  (68, .iconst 5, 1, 0, 0, 5, [], kno),
  (69, .if_icmp .ne 13, 3, 2, 51, 0, [], kno),
  (72, .aload_n 0, 1, 0, 0, 0, [], kno),
  (73, .iload_n 1, 1, 0, 1, 0, [], kno),
  (74, .iload 4, 2, 0, 4, 0, [], kno),
  (76, .invokevirtual 207, 3, 7, 3, 0, [], K_mo_accepted),
  (79, .goto 140, 3, 1, 136, 0, [], kno),
  (82, .iload_n 2, 1, 0, 2, 0, [], kno),
  (83, .bipush 6, 2, 0, 0, 6, [], kno),
  (85, .if_icmp .ne 21, 3, 2, 64, 0, [], kno),
  (88, .aload_n 0, 1, 0, 0, 0, [], kno),
  (89, .getfield 20, 3, 7, 1, 0, [], mgr 86),
  (92, .iload_n 1, 1, 0, 1, 0, [], kno),
  (93, .iaload, 1, 7, 2, 0, [], mai),
  (94, .iconst 2, 1, 0, 0, 2, [], kno),
  (95, .if_icmp .ne 11, 3, 2, 64, 0, [], kno),
  (98, .aload_n 0, 1, 0, 0, 0, [], kno),
  (99, .iload_n 1, 1, 0, 1, 0, [], kno),
  (100, .invokevirtual 210, 3, 7, 2, 0, [], K_mo_leave),
  (103, .goto 116, 3, 1, 136, 0, [], kno),
  (106, .iload_n 2, 1, 0, 2, 0, [], kno),
  (107, .bipush 8, 2, 0, 0, 8, [], kno),
  (109, .if_icmp .ne 34, 3, 2, 87, 0, [], kno),
  (112, .aload_n 0, 1, 0, 0, 0, [], kno),
  (113, .getfield 20, 3, 7, 1, 0, [], mgr 86),
  (116, .iload_n 1, 1, 0, 1, 0, [], kno),
  (117, .iaload, 1, 7, 2, 0, [], mai),
  (118, .iconst 3, 1, 0, 0, 3, [], kno),
  (119, .if_icmp .ne 24, 3, 2, 87, 0, [], kno),
  (122, .aload_n 0, 1, 0, 0, 0, [], kno),
  (123, .getfield 41, 3, 7, 1, 0, [], mgr 93),
  (126, .iload_n 1, 1, 0, 1, 0, [], kno),
  (127, .iconst 0, 1, 0, 0, 0, [], kno),
  (128, .iastore, 1, 7, 3, 0, [], mpa),
  (129, .aload_n 0, 1, 0, 0, 0, [], kno),
  (130, .bipush 9, 2, 0, 0, 9, [], kno),
  (132, .iload_n 1, 1, 0, 1, 0, [], kno),
  (133, .iconst 4, 1, 0, 0, 4, [], kno),
  (134, .iload_n 3, 1, 0, 3, 0, [], kno),
  (135, .iconst 0, 1, 0, 0, 0, [], kno),
  (136, .iconst 0, 1, 0, 0, 0, [], kno),
  (137, .invokevirtual 138, 3, 7, 7, 0, [], K_mo_sendOff),
  (140, .goto 79, 3, 1, 136, 0, [], kno),
  (143, .iload_n 2, 1, 0, 2, 0, [], kno),
  (144, .bipush 11, 2, 0, 0, 11, [], kno),
  (146, .if_icmp .ne 63, 3, 2, 130, 0, [], kno),
  (149, .aload_n 0, 1, 0, 0, 0, [], kno),
  (150, .getfield 20, 3, 7, 1, 0, [], mgr 86),
  (153, .iload_n 1, 1, 0, 1, 0, [], kno),
  (154, .iaload, 1, 7, 2, 0, [], mai),
  (155, .iconst 3, 1, 0, 0, 3, [], kno),
  (156, .if_icmp .ne 53, 3, 2, 130, 0, [], kno),
  (159, .aload_n 0, 1, 0, 0, 0, [], kno),
  (160, .getfield 32, 3, 7, 1, 0, [], mgr 90),
  (163, .iload_n 1, 1, 0, 1, 0, [], kno),
  (164, .iaload, 1, 7, 2, 0, [], mai),
  (165, .iload 4, 2, 0, 4, 0, [], kno),
  (167, .if_icmp .ne 42, 3, 2, 130, 0, [], kno),
  (170, .aload_n 0, 1, 0, 0, 0, [], kno),
  (171, .getfield 41, 3, 7, 1, 0, [], mgr 93),
  (174, .iload_n 1, 1, 0, 1, 0, [], kno),
  (175, .iconst 0, 1, 0, 0, 0, [], kno),
  (176, .iastore, 1, 7, 3, 0, [], mpa),
  (177, .aload_n 0, 1, 0, 0, 0, [], kno),
  (178, .getfield 47, 3, 7, 1, 0, [], mgr 95),
  (181, .iconst 4, 1, 0, 0, 4, [], kno),
  (182, .iload_n 1, 1, 0, 1, 0, [], kno),
  (183, .imul, 1, 0, 0, 0, [], kno),
  (184, .aload_n 0, 1, 0, 0, 0, [], kno),
  (185, .getfield 44, 3, 7, 1, 0, [], mgr 94),
  (188, .iload_n 1, 1, 0, 1, 0, [], kno),
  (189, .iaload, 1, 7, 2, 0, [], mai),
  (190, .iconst 4, 1, 0, 0, 4, [], kno),
  (191, .irem, 1, 0, 0, 0, [], kno),
  (192, .iadd, 1, 0, 0, 0, [], kno),
  (193, .iload 5, 2, 0, 5, 0, [], kno),
  (195, .iastore, 1, 7, 3, 0, [], mpa),
  (196, .aload_n 0, 1, 0, 0, 0, [], kno),
  (197, .getfield 44, 3, 7, 1, 0, [], mgr 94),
  (200, .iload_n 1, 1, 0, 1, 0, [], kno),
  (201, .dup2, 1, 0, 0, 0, [], kno),
  (202, .iaload, 1, 7, 2, 0, [], mai),
  (203, .iconst 1, 1, 0, 0, 1, [], kno),
  (204, .iadd, 1, 0, 0, 0, [], kno),
  (205, .iastore, 1, 7, 3, 0, [], mpa),
  (206, .goto 13, 3, 1, 136, 0, [], kno),
  (209, .iload_n 2, 1, 0, 2, 0, [], kno),
  (210, .iconst 3, 1, 0, 0, 3, [], kno),
  (211, .if_icmp .ne 8, 3, 2, 136, 0, [], kno),
  (214, .aload_n 0, 1, 0, 0, 0, [], kno),
  (215, .iload_n 1, 1, 0, 1, 0, [], kno),
  (216, .invokevirtual 201, 3, 7, 2, 0, [], K_mo_off),
  (219, .return_, 1, 6, 0, 0, [], kno)]
theorem E_mo_toSubscriber (c : mx_C) (m : mx_M) (a1 : Int32) (a2 : Int32) (a3 : Int32) (a4 : Int32) (a5 : Int32)  : rx_ev L_mo_toSubscriber [] 139 L_mo_toSubscriber (c, m) [some (.ref 82), some (.int a1), some (.int a2), some (.int a3), some (.int a4), some (.int a5)] [] = ry_v c (mo_toSubscriber m a1 a2 a3 a4 a5) :=
  rx_ite2 (f := ry_v c) (fun h0 => rx_ite2 (f := ry_v c) (fun h1 => rx_litT h0 (rfl)) (fun h1 => rx_litT h0 (rfl))) (fun h0 => rx_litF h0 (rx_ite2 (f := ry_v c) (fun h1 => rfl) (fun h1 => rx_ite2 (f := ry_v c) (fun h2 => rx_ite2 (f := ry_v c) (fun h3 => rfl) (fun h3 => rx_ite2 (f := ry_v c) (fun h4 => rx_ite2 (f := ry_v c) (fun h5 => rfl) (fun h5 => rx_ite2 (f := ry_v c) (fun h6 => rx_ite2 (f := ry_v c) (fun h7 => rfl) (fun h7 => rx_ite2 (f := ry_v c) (fun h8 => rx_litF h7 (rx_ite2 (f := ry_v c) (fun h9 => rfl) (fun h9 => rfl))) (fun h8 => rx_ite2 (f := ry_v c) (fun h9 => rfl) (fun h9 => rfl)))) (fun h6 => rx_ite2 (f := ry_v c) (fun h7 => rx_ite2 (f := ry_v c) (fun h8 => rx_ite2 (f := ry_v c) (fun h9 => rfl) (fun h9 => rx_ite2 (f := ry_v c) (fun h10 => rfl) (fun h10 => rfl))) (fun h8 => rx_ite2 (f := ry_v c) (fun h9 => rfl) (fun h9 => rfl))) (fun h7 => rx_ite2 (f := ry_v c) (fun h8 => rfl) (fun h8 => rfl))))) (fun h4 => rx_ite2 (f := ry_v c) (fun h5 => rx_ite2 (f := ry_v c) (fun h6 => rfl) (fun h6 => rx_ite2 (f := ry_v c) (fun h7 => rx_litF h6 (rx_ite2 (f := ry_v c) (fun h8 => rfl) (fun h8 => rfl))) (fun h7 => rx_ite2 (f := ry_v c) (fun h8 => rfl) (fun h8 => rfl)))) (fun h5 => rx_ite2 (f := ry_v c) (fun h6 => rx_ite2 (f := ry_v c) (fun h7 => rx_ite2 (f := ry_v c) (fun h8 => rfl) (fun h8 => rx_ite2 (f := ry_v c) (fun h9 => rfl) (fun h9 => rfl))) (fun h7 => rx_ite2 (f := ry_v c) (fun h8 => rfl) (fun h8 => rfl))) (fun h6 => rx_ite2 (f := ry_v c) (fun h7 => rfl) (fun h7 => rfl)))))) (fun h2 => rfl))))
theorem S_mo_toSubscriber (c : mx_C) (m : mx_M) (a1 : Int32) (a2 : Int32) (a3 : Int32) (a4 : Int32) (a5 : Int32) (hw : mo_wd m a1) : rx_sf L_mo_toSubscriber [] 139 L_mo_toSubscriber (c, m) [some (.ref 82), some (.int a1), some (.int a2), some (.int a3), some (.int a4), some (.int a5)] [] :=
  And.intro (fun h0 => And.intro rfl (And.intro hw.1 (And.intro (fun h1 => And.intro rfl (And.intro hw.1 (And.intro rfl (And.intro hw.1 (And.intro rfl (And.intro hw.1 (And.intro (And.intro rfl hw.1) (And.intro (fun _ => trivial) (fun h => absurd h0 h))))))))) (fun h1 => And.intro (fun _ => trivial) (fun h => absurd h0 h))))) (fun h0 => And.intro (fun h => absurd h h0) (fun _ => And.intro rfl (And.intro hw.1 (And.intro (fun h1 => trivial) (fun h1 => And.intro rfl (And.intro hw.1 (And.intro (fun h2 => And.intro (fun h3 => And.intro (And.intro rfl hw.1) (trivial)) (fun h3 => And.intro (fun h4 => And.intro rfl (And.intro hw.1 (And.intro (fun h5 => And.intro (And.intro rfl hw.1) (trivial)) (fun h5 => And.intro (fun h6 => And.intro rfl (And.intro hw.1 (And.intro (fun h7 => And.intro rfl (And.intro hw.1 (And.intro rfl (trivial)))) (fun h7 => And.intro (fun h8 => And.intro rfl (And.intro hw.1 (And.intro (fun h => absurd h h7) (fun _ => And.intro (fun h9 => And.intro (And.intro rfl hw.1) (trivial)) (fun h9 => trivial))))) (fun h8 => And.intro (fun h9 => And.intro (And.intro rfl hw.1) (trivial)) (fun h9 => trivial)))))) (fun h6 => And.intro (fun h7 => And.intro rfl (And.intro hw.1 (And.intro (fun h8 => And.intro rfl (And.intro hw.1 (And.intro (fun h9 => And.intro rfl (And.intro hw.1 (And.intro rfl (And.intro rfl (And.intro hw.1 (And.intro (mo_wi hw (by simp only [my_pi]; repeat (first | rw [mx_up_eq] | rw [mx_up_ne _ _ (by omega)]))) (And.intro rfl (And.intro hw.1 (And.intro hw.1 (trivial)))))))))) (fun h9 => And.intro (fun h10 => And.intro (And.intro rfl hw.1) (trivial)) (fun h10 => trivial))))) (fun h8 => And.intro (fun h9 => And.intro (And.intro rfl hw.1) (trivial)) (fun h9 => trivial))))) (fun h7 => And.intro (fun h8 => And.intro (And.intro rfl hw.1) (trivial)) (fun h8 => trivial))))))) (fun h4 => And.intro (fun h5 => And.intro rfl (And.intro hw.1 (And.intro (fun h6 => And.intro rfl (And.intro hw.1 (And.intro rfl (trivial)))) (fun h6 => And.intro (fun h7 => And.intro rfl (And.intro hw.1 (And.intro (fun h => absurd h h6) (fun _ => And.intro (fun h8 => And.intro (And.intro rfl hw.1) (trivial)) (fun h8 => trivial))))) (fun h7 => And.intro (fun h8 => And.intro (And.intro rfl hw.1) (trivial)) (fun h8 => trivial)))))) (fun h5 => And.intro (fun h6 => And.intro rfl (And.intro hw.1 (And.intro (fun h7 => And.intro rfl (And.intro hw.1 (And.intro (fun h8 => And.intro rfl (And.intro hw.1 (And.intro rfl (And.intro rfl (And.intro hw.1 (And.intro (mo_wi hw (by simp only [my_pi]; repeat (first | rw [mx_up_eq] | rw [mx_up_ne _ _ (by omega)]))) (And.intro rfl (And.intro hw.1 (And.intro hw.1 (trivial)))))))))) (fun h8 => And.intro (fun h9 => And.intro (And.intro rfl hw.1) (trivial)) (fun h9 => trivial))))) (fun h7 => And.intro (fun h8 => And.intro (And.intro rfl hw.1) (trivial)) (fun h8 => trivial))))) (fun h6 => And.intro (fun h7 => And.intro (And.intro rfl hw.1) (trivial)) (fun h7 => trivial)))))) (fun h2 => trivial))))))))

theorem cv_mo_accepted {p : Program} {l : Launch} {e : Env} {R : Room} {s : State} {m : MethodId} {args : Array Value} {below : List Frame} {meth : Method} {c : Code} {cc : ByteArray} {nL : Nat} {ad : Nat → Nat} {D : va_G} {g : Nat → ClassId} {B : Nat} {own : String} {idx : Nat} (X : ox_C p s m args c cc nL own D g ad B) (hV : rx_V l D g ad B ⟨"SubscriberLinesModel", "accepted", "(II)V"⟩ prog_12_method_30_code 3 none 2 54 K_mo_accepted) (hl : Cond.methodLink own idx ⟨"SubscriberLinesModel", "accepted", "(II)V"⟩ ∈ al) (hR : 2 + 1 ≤ R.frames ∧ 8 + (3 + 11) + 54 ≤ R.locals) : rx_OK p l e R s m args below meth c cc nL ad (mx_W D g ad B s.heap) mx_cs (.invokevirtual idx) 3 3 (K_mo_accepted) :=
  ox_callV (q := 9) (T := T_9) X hV (fun av x h => by obtain ⟨a0, a1, a2, rfl⟩ := k_RII_inv h; exact ⟨a0, _, rfl, by have h2 : a0 = 82 := h.1; rw [h2]; rfl⟩) (by decide) rfl hl (al_at 868 (by decide +kernel) rfl) (al_pr (y := (⟨"SubscriberLinesModel", "accepted", "(II)V"⟩, _)) 38 rfl) (al_at 12 (by decide +kernel) rfl) (al_at 869 (by decide +kernel) rfl) ⟨by decide, by decide, by decide +kernel⟩ hR
theorem og_mo_47_g {p : Program} {l : Launch} {e : Env} {R : Room} {s : State} {m : MethodId} {args : Array Value} {below : List Frame} {meth : Method} {c : Code} {cc : ByteArray} {nL : Nat} {ad : Nat → Nat} {D : va_G} {g : Nat → ClassId} {B : Nat} (X : ox_C p s m args c cc nL "SubscriberLinesModel" D g ad B) : rx_OK p l e R s m args below meth c cc nL ad (mx_W D g ad B s.heap) mx_cs (.getfield 47) 3 1 (mgr 95) := oy_gr (k := 14) X (by decide) rfl (al_at 725 (by decide +kernel) rfl)
theorem og_mo_44_g {p : Program} {l : Launch} {e : Env} {R : Room} {s : State} {m : MethodId} {args : Array Value} {below : List Frame} {meth : Method} {c : Code} {cc : ByteArray} {nL : Nat} {ad : Nat → Nat} {D : va_G} {g : Nat → ClassId} {B : Nat} (X : ox_C p s m args c cc nL "SubscriberLinesModel" D g ad B) : rx_OK p l e R s m args below meth c cc nL ad (mx_W D g ad B s.heap) mx_cs (.getfield 44) 3 1 (mgr 94) := oy_gr (k := 13) X (by decide) rfl (al_at 724 (by decide +kernel) rfl)
theorem ok_mo_toSubscriber : rx_okF prog_12_method_31_code 6 none L_mo_toSubscriber 0 L_mo_toSubscriber = true := by decide +kernel
theorem V_mo_toSubscriber {l : Launch} {D : va_G} {g : Nat → ClassId} {ad : Nat → Nat} {B : Nat} (had : mx_A ad B) : rx_V l D g ad B ⟨"SubscriberLinesModel", "toSubscriber", "(IIIII)V"⟩ prog_12_method_31_code 6 none 3 76 K_mo_toSubscriber := by
  intro av x hp
  obtain ⟨a0, a1, a2, a3, a4, a5, rfl⟩ := k_RIIIII_inv hp
  have hp : a0 = 82 ∧ mo_wd x.2 a1 := hp
  have h0 : a0 = 82 := hp.1
  subst h0
  exact rx_met (k := 0) had (by decide) (Nat.le_of_ble_eq_true rfl) ok_mo_toSubscriber rfl rfl 139 (fun p e s m args below meth c X => And.intro (og_mo_20_g X) (And.intro (oy_ai X) (And.intro (og_mo_23_g X) (And.intro (oy_pa X) (And.intro (og_mo_20_g X) (And.intro (oy_pa X) (And.intro (og_mo_38_g X) (And.intro (oy_pa X) (And.intro (cv_mo_ask X (V_mo_ask had) (al_at 854 (by decide +kernel) rfl) ⟨by decide, by decide⟩) (And.intro (og_mo_20_g X) (And.intro (oy_ai X) (And.intro (og_mo_23_g X) (And.intro (oy_ai X) (And.intro (cv_mo_accepted X (V_mo_accepted had) (al_at 866 (by decide +kernel) rfl) ⟨by decide, by decide⟩) (And.intro (og_mo_20_g X) (And.intro (oy_ai X) (And.intro (cv_mo_leave X (V_mo_leave had) (al_at 870 (by decide +kernel) rfl) ⟨by decide, by decide⟩) (And.intro (og_mo_20_g X) (And.intro (oy_ai X) (And.intro (og_mo_41_g X) (And.intro (oy_pa X) (And.intro (cv_mo_sendOff X (V_mo_sendOff had) (al_at 858 (by decide +kernel) rfl) ⟨by decide, by decide⟩) (And.intro (og_mo_20_g X) (And.intro (oy_ai X) (And.intro (og_mo_32_g X) (And.intro (oy_ai X) (And.intro (og_mo_41_g X) (And.intro (oy_pa X) (And.intro (og_mo_47_g X) (And.intro (og_mo_44_g X) (And.intro (oy_ai X) (And.intro (oy_pa X) (And.intro (og_mo_44_g X) (And.intro (oy_ai X) (And.intro (oy_pa X) (And.intro (cv_mo_off X (V_mo_off had) (al_at 874 (by decide +kernel) rfl) ⟨by decide, by decide⟩) (trivial))))))))))))))))))))))))))))))))))))) (S_mo_toSubscriber x.1 x.2 a1 a2 a3 a4 a5 hp.2) (E_mo_toSubscriber x.1 x.2 a1 a2 a3 a4 a5)
theorem ses_soL (e : Int32) : ∀ (n : Nat) (m : mx_M), (mo_sendOpen_0 n m e).2.2 = m.2.2 := by
  intro n
  induction n with
  | zero => intro m; rfl
  | succ n ih =>
    intro m
    unfold mo_sendOpen_0
    split
    · split
      · exact (ih _).trans (fy_transmit _ _ _).1
      · rfl
    · rfl
theorem ses_sendOpen (m : mx_M) (e : Int32) : (mo_sendOpen m e).2.2 = m.2.2 := by
  rw [mo_sendOpen_eq]
  exact ses_soL e 1403 m
theorem ses_say (m : mx_M) (e a b c : Int32) : (mo_say m e a b c).2.2 = m.2.2 := by
  unfold mo_say
  split
  · rfl
  · dsimp only
    split
    · exact (ses_sendOpen _ _).trans rfl
    · exact (ses_sendOpen _ _).trans rfl
theorem ses_endL (a : Int32) : ∀ (n : Nat) (m : mx_M) (v : Int32), (mo_endSession_12 n m a v).2.2 = m.2.2 := by
  intro n
  induction n with
  | zero => intro m v; rfl
  | succ n ih =>
    intro m v
    unfold mo_endSession_12
    split
    · exact (ih _ _).trans rfl
    · rfl
theorem ses_endSession {m : mx_M} {a : Int32} (h : mo_es m a) : (mo_endSession m a).2.2.val = m.2.2.val - 1 := by
  have hq := m.2.2.isLt
  unfold mo_es at h
  have e : (mo_endSession m a).2.2 = (my_ps m (Int32.ofNat m.2.2.val - 1)).2.2 := ses_endL a 6 _ _
  rw [e]
  show (Int32.ofNat m.2.2.val - 1).toNatClampNeg % 5 = _
  rw [sc_nat (by omega), Nat.mod_eq_of_lt (by omega)]
abbrev mo_stP (n : Nat) (m : mx_M) (v : Int32) : Prop := 0 ≤ v.toInt ∧ (m.2.2.val : Int) - v.toInt < (n : Int) ∧ 0 < n ∧ mo_b m (1399 - (m.2.2.val : Int))
theorem mo_st_es {n : Nat} {m : mx_M} {v : Int32} (h0 : v < Int32.ofNat m.2.2.val) (hP : mo_stP n m v) : mo_es m v := by
  rw [i_lt, i_of _ (by omega)] at h0
  exact ⟨hP.1, h0⟩
theorem mo_st_k {n : Nat} {m : mx_M} {v : Int32} (h0 : v < Int32.ofNat m.2.2.val) (hP : mo_stP n m v) : 1399 - (m.2.2.val : Int) ≤ 1399 := by omega
theorem mo_st_1 {n : Nat} {m m' : mx_M} {v : Int32} (h0 : v < Int32.ofNat m.2.2.val) (hP : mo_stP (n + 1) m v) (hs : m'.2.2 = m.2.2) (hb : mo_b m' (1399 - (m.2.2.val : Int))) : mo_stP n m' (v + 1) := by
  have hq := m.2.2.isLt
  rw [i_lt, i_of _ (by omega)] at h0
  obtain ⟨p1, p2, p3, p4⟩ := hP
  have e : (v + 1).toInt = v.toInt + 1 := i_add (show _ ≤ v.toInt + 1 by omega) (show v.toInt + 1 < _ by omega)
  refine ⟨by rw [e]; omega, by rw [e, hs]; omega, by omega, by rw [hs]; exact hb⟩
theorem mo_st_2 {n : Nat} {m m' : mx_M} {v : Int32} (h0 : v < Int32.ofNat m.2.2.val) (hP : mo_stP (n + 1) m v) (hs : m'.2.2.val = m.2.2.val - 1) (hb : mo_b m' (1399 - (m.2.2.val : Int) + 1)) : mo_stP n m' v := by
  have hq := m.2.2.isLt
  rw [i_lt, i_of _ (by omega)] at h0
  obtain ⟨p1, p2, p3, p4⟩ := hP
  refine ⟨p1, by omega, by omega, mo_b_mono hb (by omega)⟩
theorem mo_st_0 {m : mx_M} (h : mo_b m 1395) : mo_stP 6 m 0 := by
  have hq := m.2.2.isLt
  refine ⟨by decide, ?_, by decide, mo_b_mono h (by omega)⟩
  rw [Int32.toInt_zero]
  omega
def mo_serverTimer_2 : Nat → mx_M → Int32 → mx_M
  | 0, m, _ => m
  | n + 1, m, v1 =>
    if v1 < (Int32.ofNat m.2.2.val) then
      let m1 := my_pi m 102 (Int32.toNatClampNeg v1) ((m.1 102 (Int32.toNatClampNeg v1)) + 1)
      if (m1.1 102 (Int32.toNatClampNeg v1)) = 12 then
        let m2 := mo_endSession m1 v1
        let m3 := mo_say m2 1 15 (m1.1 99 (Int32.toNatClampNeg v1)) 0
        mo_serverTimer_2 n m3 v1
      else
        if ((m1.1 102 (Int32.toNatClampNeg v1)) - (m1.1 102 (Int32.toNatClampNeg v1)) / 3 * 3) = 0 then
          if (m1.1 100 (Int32.toNatClampNeg v1)) = 2 then
            let m4 := mo_sendOff m1 5 5 4 (m1.1 99 (Int32.toNatClampNeg v1)) (m1.1 101 (Int32.toNatClampNeg v1)) 0
            if ((m4.1 102 (Int32.toNatClampNeg v1)) - (m4.1 102 (Int32.toNatClampNeg v1)) / 4 * 4) = 0 then
              if (m4.1 100 (Int32.toNatClampNeg v1)) = 3 then
                let m5 := mo_sendOff m4 8 5 4 (m4.1 99 (Int32.toNatClampNeg v1)) 0 0
                mo_serverTimer_2 n m5 (v1 + 1)
              else
                mo_serverTimer_2 n m4 (v1 + 1)
            else
              mo_serverTimer_2 n m4 (v1 + 1)
          else
            if ((m1.1 102 (Int32.toNatClampNeg v1)) - (m1.1 102 (Int32.toNatClampNeg v1)) / 4 * 4) = 0 then
              if (m1.1 100 (Int32.toNatClampNeg v1)) = 3 then
                let m6 := mo_sendOff m1 8 5 4 (m1.1 99 (Int32.toNatClampNeg v1)) 0 0
                mo_serverTimer_2 n m6 (v1 + 1)
              else
                mo_serverTimer_2 n m1 (v1 + 1)
            else
              mo_serverTimer_2 n m1 (v1 + 1)
        else
          if ((m1.1 102 (Int32.toNatClampNeg v1)) - (m1.1 102 (Int32.toNatClampNeg v1)) / 4 * 4) = 0 then
            if (m1.1 100 (Int32.toNatClampNeg v1)) = 3 then
              let m7 := mo_sendOff m1 8 5 4 (m1.1 99 (Int32.toNatClampNeg v1)) 0 0
              mo_serverTimer_2 n m7 (v1 + 1)
            else
              mo_serverTimer_2 n m1 (v1 + 1)
          else
            mo_serverTimer_2 n m1 (v1 + 1)
    else
      let m8 := mo_endTimer m 1
      m8
def mo_serverTimer (m : mx_M)  : mx_M :=
  mo_serverTimer_2 (6) m 0
def K_mo_serverTimer : rx_K mx := k_R (fun a0 c m => (a0 = 82 ∧ mo_b m 1395, (c, mo_serverTimer m), none))
def L_mo_serverTimer : List (rx_E mx) := [
  (0, .iconst 0, 1, 0, 0, 0, [], kno),
  (1, .istore_n 1, 1, 0, 1, 0, [], kno),
  (2, .iload_n 1, 1, 0, 1, 0, [], kno),
  (3, .aload_n 0, 1, 0, 0, 0, [], kno),
  (4, .getfield 135, 3, 7, 1, 0, [], mgs),
  (7, .if_icmp .ge 132, 3, 2, 88, 0, [], kno),
  (10, .aload_n 0, 1, 0, 0, 0, [], kno),
  (11, .getfield 68, 3, 7, 1, 0, [], mgr 102),
  (14, .iload_n 1, 1, 0, 1, 0, [], kno),
  (15, .dup2, 1, 0, 0, 0, [], kno),
  (16, .iaload, 1, 7, 2, 0, [], mai),
  (17, .iconst 1, 1, 0, 0, 1, [], kno),
  (18, .iadd, 1, 0, 0, 0, [], kno),
  (19, .iastore, 1, 7, 3, 0, [], mpa),
  (20, .aload_n 0, 1, 0, 0, 0, [], kno),
  (21, .getfield 68, 3, 7, 1, 0, [], mgr 102),
  (24, .iload_n 1, 1, 0, 1, 0, [], kno),
  (25, .iaload, 1, 7, 2, 0, [], mai),
  (26, .bipush 12, 2, 0, 0, 12, [], kno),
  (28, .if_icmp .ne 27, 3, 2, 35, 0, [], kno),
  (31, .aload_n 0, 1, 0, 0, 0, [], kno),
  (32, .getfield 59, 3, 7, 1, 0, [], mgr 99),
  (35, .iload_n 1, 1, 0, 1, 0, [], kno),
  (36, .iaload, 1, 7, 2, 0, [], mai),
  (37, .istore_n 2, 1, 0, 2, 0, [], kno),
  (38, .aload_n 0, 1, 0, 0, 0, [], kno),
  (39, .iload_n 1, 1, 0, 1, 0, [], kno),
  (40, .invokevirtual 178, 3, 7, 2, 0, [], K_mo_endSession),
  (43, .aload_n 0, 1, 0, 0, 0, [], kno),
  (44, .iconst 1, 1, 0, 0, 1, [], kno),
  (45, .bipush 15, 2, 0, 0, 15, [], kno),
  (47, .iload_n 2, 1, 0, 2, 0, [], kno),
  (48, .iconst 0, 1, 0, 0, 0, [], kno),
  (49, .invokevirtual 149, 3, 7, 5, 0, [], K_mo_say),
  (52, .goto (-50), 3, 1, 2, 0, [], kno),
  (55, .aload_n 0, 1, 0, 0, 0, [], kno),
  (56, .getfield 68, 3, 7, 1, 0, [], mgr 102),
  (59, .iload_n 1, 1, 0, 1, 0, [], kno),
  (60, .iaload, 1, 7, 2, 0, [], mai),
  (61, .iconst 3, 1, 0, 0, 3, [], kno),
  (62, .irem, 1, 0, 0, 0, [], kno),
  (63, .ifCond .ne 33, 3, 2, 62, 0, [], kno),
  (66, .aload_n 0, 1, 0, 0, 0, [], kno),
  (67, .getfield 62, 3, 7, 1, 0, [], mgr 100),
  (70, .iload_n 1, 1, 0, 1, 0, [], kno),
  (71, .iaload, 1, 7, 2, 0, [], mai),
  (72, .iconst 2, 1, 0, 0, 2, [], kno),
  (73, .if_icmp .ne 23, 3, 2, 62, 0, [], kno),
  (76, .aload_n 0, 1, 0, 0, 0, [], kno),
  (77, .iconst 5, 1, 0, 0, 5, [], kno),
  (78, .iconst 5, 1, 0, 0, 5, [], kno),
  (79, .iconst 4, 1, 0, 0, 4, [], kno),
  (80, .aload_n 0, 1, 0, 0, 0, [], kno),
  (81, .getfield 59, 3, 7, 1, 0, [], mgr 99),
  (84, .iload_n 1, 1, 0, 1, 0, [], kno),
  (85, .iaload, 1, 7, 2, 0, [], mai),
  (86, .aload_n 0, 1, 0, 0, 0, [], kno),
  (87, .getfield 65, 3, 7, 1, 0, [], mgr 101),
  (90, .iload_n 1, 1, 0, 1, 0, [], kno),
  (91, .iaload, 1, 7, 2, 0, [], mai),
  (92, .iconst 0, 1, 0, 0, 0, [], kno),
  (93, .invokevirtual 138, 3, 7, 7, 0, [], K_mo_sendOff),
  (96, .aload_n 0, 1, 0, 0, 0, [], kno),
  (97, .getfield 68, 3, 7, 1, 0, [], mgr 102),
  (100, .iload_n 1, 1, 0, 1, 0, [], kno),
  (101, .iaload, 1, 7, 2, 0, [], mai),
  (102, .iconst 4, 1, 0, 0, 4, [], kno),
  (103, .irem, 1, 0, 0, 0, [], kno),
  (104, .ifCond .ne 29, 3, 2, 86, 0, [], kno),
  (107, .aload_n 0, 1, 0, 0, 0, [], kno),
  (108, .getfield 62, 3, 7, 1, 0, [], mgr 100),
  (111, .iload_n 1, 1, 0, 1, 0, [], kno),
  (112, .iaload, 1, 7, 2, 0, [], mai),
  (113, .iconst 3, 1, 0, 0, 3, [], kno),
  (114, .if_icmp .ne 19, 3, 2, 86, 0, [], kno),
  (117, .aload_n 0, 1, 0, 0, 0, [], kno),
  (118, .bipush 8, 2, 0, 0, 8, [], kno),
  (120, .iconst 5, 1, 0, 0, 5, [], kno),
  (121, .iconst 4, 1, 0, 0, 4, [], kno),
  (122, .aload_n 0, 1, 0, 0, 0, [], kno),
  (123, .getfield 59, 3, 7, 1, 0, [], mgr 99),
  (126, .iload_n 1, 1, 0, 1, 0, [], kno),
  (127, .iaload, 1, 7, 2, 0, [], mai),
  (128, .iconst 0, 1, 0, 0, 0, [], kno),
  (129, .iconst 0, 1, 0, 0, 0, [], kno),
  (130, .invokevirtual 138, 3, 7, 7, 0, [], K_mo_sendOff),
  (133, .iinc 1 1, 3, 0, 1, 1, [], kno),
  (136, .goto (-134), 3, 1, 2, 0, [], kno),
  (139, .aload_n 0, 1, 0, 0, 0, [], kno),
  (140, .iconst 1, 1, 0, 0, 1, [], kno),
  (141, .invokevirtual 172, 3, 7, 2, 0, [], K_mo_endTimer),
  (144, .return_, 1, 6, 0, 0, [], kno)]
def G_mo_serverTimer (n : Nat) : rx_G := fun x ls st =>
  match ls, st with
  | [some (.ref r0), some (.int v1), o2], [] => (r0 = 82 ∧ mo_stP n x.2 v1, ry_v x.1 (mo_serverTimer_2 n x.2 v1))
  | _, _ => (False, (x, none))
theorem GI_mo_serverTimer {n : Nat} {x : mx} {ls : rx_L} {st : List Value} (h : (G_mo_serverTimer n x ls st).1) : ∃ (r0 : Nat) (v1 : Int32) (o2 : Option Value), ls = [some (.ref r0), some (.int v1), o2] ∧ st = [] ∧ r0 = 82 ∧ mo_stP n x.2 v1 := by
  unfold G_mo_serverTimer at h
  split at h
  · exact ⟨_, _, _, rfl, rfl, h⟩
  · exact False.elim h
theorem EH_mo_serverTimer (n : Nat) (c : mx_C) (m : mx_M) (v1 : Int32) (o2 : Option Value) : rx_ev L_mo_serverTimer [(2, G_mo_serverTimer n)] 94 (L_mo_serverTimer.drop 2) (c, m) [some (.ref 82), some (.int v1), o2] [] = ry_v c (mo_serverTimer_2 (n + 1) m v1) :=
  rx_ite2 (f := ry_v c) (fun h0 => rx_ite2 (f := ry_v c) (fun h1 => rfl) (fun h1 => rx_ite2 (f := ry_v c) (fun h2 => rx_ite2 (f := ry_v c) (fun h3 => rx_ite2 (f := ry_v c) (fun h4 => rx_ite2 (f := ry_v c) (fun h5 => rfl) (fun h5 => rfl)) (fun h4 => rfl)) (fun h3 => rx_ite2 (f := ry_v c) (fun h4 => rx_ite2 (f := ry_v c) (fun h5 => rfl) (fun h5 => rfl)) (fun h4 => rfl))) (fun h2 => rx_ite2 (f := ry_v c) (fun h3 => rx_ite2 (f := ry_v c) (fun h4 => rfl) (fun h4 => rfl)) (fun h3 => rfl)))) (fun h0 => rfl)
theorem SH_mo_serverTimer (n : Nat) (c : mx_C) (m : mx_M) (v1 : Int32) (o2 : Option Value) (hP : mo_stP (n + 1) m v1) : rx_sf L_mo_serverTimer [(2, G_mo_serverTimer n)] 94 (L_mo_serverTimer.drop 2) (c, m) [some (.ref 82), some (.int v1), o2] [] :=
  And.intro rfl (And.intro (fun h0 => And.intro rfl (And.intro (mo_es_in (mo_st_es (m := m) h0 hP)) (And.intro (mo_es_in (mo_st_es (m := m) h0 hP)) (And.intro rfl (And.intro (mo_es_in (mo_st_es (m := m) h0 hP)) (And.intro (fun h1 => And.intro rfl (And.intro (mo_es_in (mo_st_es (m := m) h0 hP)) (And.intro (And.intro rfl (mo_st_es (m := m) h0 hP)) (And.intro (And.intro rfl (mo_b_sy (k := 1399 - (m.2.2.val : Int)) (mo_b_fz (fz_endSession _ _) (mo_b_pi (by decide) hP.2.2.2)) (mo_st_k h0 hP) (i_in.mpr (by decide)))) (And.intro rfl (mo_st_2 h0 hP ((congrArg Fin.val (ses_say _ _ _ _ _)).trans (ses_endSession (mo_st_es (m := m) h0 hP))) (mo_b_say (k := 1399 - (m.2.2.val : Int)) (mo_b_fz (fz_endSession _ _) (mo_b_pi (by decide) hP.2.2.2)) (Int.le_refl _) (mo_st_k h0 hP) (i_in.mpr (by decide))))))))) (fun h1 => And.intro rfl (And.intro (mo_es_in (mo_st_es (m := m) h0 hP)) (And.intro (fun h2 => And.intro rfl (And.intro (mo_es_in (mo_st_es (m := m) h0 hP)) (And.intro (fun h3 => And.intro rfl (And.intro (mo_es_in (mo_st_es (m := m) h0 hP)) (And.intro rfl (And.intro (mo_es_in (mo_st_es (m := m) h0 hP)) (And.intro rfl (And.intro rfl (And.intro (mo_es_in (mo_st_es (m := m) h0 hP)) (And.intro (fun h4 => And.intro rfl (And.intro (mo_es_in (mo_st_es (m := m) h0 hP)) (And.intro (fun h5 => And.intro rfl (And.intro (mo_es_in (mo_st_es (m := m) h0 hP)) (And.intro rfl (And.intro rfl (mo_st_1 h0 hP ((fy_sendOff _ _ _ _ _ _ _).1.trans ((fy_sendOff _ _ _ _ _ _ _).1.trans rfl)) (mo_b_fz (fz_fy (fy_sendOff _ _ _ _ _ _ _)) (mo_b_fz (fz_fy (fy_sendOff _ _ _ _ _ _ _)) (mo_b_pi (by decide) hP.2.2.2)))))))) (fun h5 => And.intro rfl (mo_st_1 h0 hP ((fy_sendOff _ _ _ _ _ _ _).1.trans rfl) (mo_b_fz (fz_fy (fy_sendOff _ _ _ _ _ _ _)) (mo_b_pi (by decide) hP.2.2.2))))))) (fun h4 => And.intro rfl (mo_st_1 h0 hP ((fy_sendOff _ _ _ _ _ _ _).1.trans rfl) (mo_b_fz (fz_fy (fy_sendOff _ _ _ _ _ _ _)) (mo_b_pi (by decide) hP.2.2.2)))))))))))) (fun h3 => And.intro rfl (And.intro (mo_es_in (mo_st_es (m := m) h0 hP)) (And.intro (fun h4 => And.intro rfl (And.intro (mo_es_in (mo_st_es (m := m) h0 hP)) (And.intro (fun h5 => And.intro rfl (And.intro (mo_es_in (mo_st_es (m := m) h0 hP)) (And.intro rfl (And.intro rfl (mo_st_1 h0 hP ((fy_sendOff _ _ _ _ _ _ _).1.trans rfl) (mo_b_fz (fz_fy (fy_sendOff _ _ _ _ _ _ _)) (mo_b_pi (by decide) hP.2.2.2))))))) (fun h5 => And.intro rfl (mo_st_1 h0 hP rfl (mo_b_pi (by decide) hP.2.2.2)))))) (fun h4 => And.intro rfl (mo_st_1 h0 hP rfl (mo_b_pi (by decide) hP.2.2.2))))))))) (fun h2 => And.intro rfl (And.intro (mo_es_in (mo_st_es (m := m) h0 hP)) (And.intro (fun h3 => And.intro rfl (And.intro (mo_es_in (mo_st_es (m := m) h0 hP)) (And.intro (fun h4 => And.intro rfl (And.intro (mo_es_in (mo_st_es (m := m) h0 hP)) (And.intro rfl (And.intro rfl (mo_st_1 h0 hP ((fy_sendOff _ _ _ _ _ _ _).1.trans rfl) (mo_b_fz (fz_fy (fy_sendOff _ _ _ _ _ _ _)) (mo_b_pi (by decide) hP.2.2.2))))))) (fun h4 => And.intro rfl (mo_st_1 h0 hP rfl (mo_b_pi (by decide) hP.2.2.2)))))) (fun h3 => And.intro rfl (mo_st_1 h0 hP rfl (mo_b_pi (by decide) hP.2.2.2))))))))))))))) (fun h0 => And.intro (And.intro rfl (mo_b_et hP.2.2.2 (by omega) (i_in.mpr (by decide)))) (trivial)))
theorem E_mo_serverTimer (c : mx_C) (m : mx_M)   : rx_ev L_mo_serverTimer [(2, G_mo_serverTimer (6))] 94 L_mo_serverTimer (c, m) [some (.ref 82), none, none] [] = ry_v c (mo_serverTimer m) :=
  rfl
theorem S_mo_serverTimer (c : mx_C) (m : mx_M)  (hb : mo_b m 1395) : rx_sf L_mo_serverTimer [(2, G_mo_serverTimer (6))] 94 L_mo_serverTimer (c, m) [some (.ref 82), none, none] [] :=
  And.intro rfl (mo_st_0 hb)
theorem ok_mo_serverTimer : rx_okF prog_12_method_26_code 3 none L_mo_serverTimer 0 L_mo_serverTimer = true := by decide +kernel
theorem O_mo_serverTimer {l : Launch} {D : va_G} {g : Nat → ClassId} {ad : Nat → Nat} {B : Nat} (had : mx_A ad B) {p : Program} {e : Env} {s : State} {m : MethodId} {args : Array Value} {below : List Frame} {meth : Method} {c : Code} (X : ox_C p s m args c prog_12_method_26_code 3 "SubscriberLinesModel" D g ad B) : rx_ops p l e ({ frames := 4, cells := 0, slots := 0, locals := 98 } : Room) s m args below meth c prog_12_method_26_code 3 ad (mx_W D g ad B s.heap) mx_cs L_mo_serverTimer :=
  And.intro (og_mo_135_g X) (And.intro (og_mo_68_g X) (And.intro (oy_ai X) (And.intro (oy_pa X) (And.intro (og_mo_68_g X) (And.intro (oy_ai X) (And.intro (og_mo_59_g X) (And.intro (oy_ai X) (And.intro (cv_mo_endSession X (V_mo_endSession had) (al_at 914 (by decide +kernel) rfl) ⟨by decide, by decide⟩) (And.intro (cv_mo_say X (V_mo_say had) (al_at 902 (by decide +kernel) rfl) ⟨by decide, by decide⟩) (And.intro (og_mo_68_g X) (And.intro (oy_ai X) (And.intro (og_mo_62_g X) (And.intro (oy_ai X) (And.intro (og_mo_59_g X) (And.intro (oy_ai X) (And.intro (og_mo_65_g X) (And.intro (oy_ai X) (And.intro (cv_mo_sendOff X (V_mo_sendOff had) (al_at 858 (by decide +kernel) rfl) ⟨by decide, by decide⟩) (And.intro (og_mo_68_g X) (And.intro (oy_ai X) (And.intro (og_mo_62_g X) (And.intro (oy_ai X) (And.intro (og_mo_59_g X) (And.intro (oy_ai X) (And.intro (cv_mo_sendOff X (V_mo_sendOff had) (al_at 858 (by decide +kernel) rfl) ⟨by decide, by decide⟩) (And.intro (cv_mo_endTimer X (V_mo_endTimer had) (al_at 957 (by decide +kernel) rfl) ⟨by decide, by decide⟩) (trivial)))))))))))))))))))))))))))
theorem V_mo_serverTimer {l : Launch} {D : va_G} {g : Nat → ClassId} {ad : Nat → Nat} {B : Nat} (had : mx_A ad B) : rx_V l D g ad B ⟨"SubscriberLinesModel", "serverTimer", "()V"⟩ prog_12_method_26_code 3 none 4 98 K_mo_serverTimer := by
  intro av x hp
  obtain ⟨a0, rfl⟩ := k_R_inv hp
  have hp : a0 = 82 ∧ mo_b x.2 1395 := hp
  have h0 : a0 = 82 := hp.1
  subst h0
  refine rx_metX (k := 2) had (by decide) (Nat.le_of_ble_eq_true rfl) fun p e s m args below meth c X hr hlk => ?_
  refine rx_walk X hr hlk ok_mo_serverTimer (O_mo_serverTimer had X) (cut := [(2, G_mo_serverTimer (6))]) (rx_cc ?_ rx_c0) 94 0 rfl (S_mo_serverTimer x.1 x.2  hp.2) (E_mo_serverTimer x.1 x.2  )
  refine rx_loop (G := G_mo_serverTimer) X hr hlk ok_mo_serverTimer (O_mo_serverTimer had X) rx_c0 94 2 rfl (fun x ls st h => ?_) (fun n x ls st h => ?_) _
  · obtain ⟨r0, v1, o2, -, -, h3⟩ := GI_mo_serverTimer h
    have h4 := h3.2
    omega
  · obtain ⟨r0, v1, o2, rfl, rfl, h3⟩ := GI_mo_serverTimer h
    obtain ⟨rfl, hP⟩ := h3
    exact ⟨SH_mo_serverTimer n x.1 x.2 v1 o2 hP, EH_mo_serverTimer n x.1 x.2 v1 o2⟩
end
section
theorem mo_b_ack {m : mx_M} {k : Int} {j : Nat} {v : Int32} (h : mo_b m k) (h1 : 0 ≤ v.toInt) (h2 : v.toInt ≤ (m.1 109 j).toInt) : mo_b (my_pi m 107 j v) k := by
  intro e he
  have hb := h e he
  simp only [my_pi]
  rw [mx_up_ne (a := 108) _ _ (by omega), mx_up_ne (a := 109) _ _ (by omega)]
  by_cases hq : e = j
  · subst hq; rw [mx_up_eq]; omega
  · rw [mx_up_ne (a := 107) _ _ (by omega)]; omega
theorem mo_b_ack1 {m : mx_M} {k : Int} {e v : Int32} (h : mo_b m k) (he : vp_in e 2) (h1 : m.1 107 e.toNatClampNeg < v) (h2 : v < m.1 109 e.toNatClampNeg) : mo_b (my_pi m 107 e.toNatClampNeg v) k := by
  rw [i_lt] at h1 h2
  have hb := h _ (mo_e2 he)
  exact mo_b_ack h (by omega) (by omega)
theorem mo_b_ack2 {m : mx_M} {k : Int} {e : Int32} (h : mo_b m k) (he : vp_in e 2) : mo_b (my_pi m 107 e.toNatClampNeg (m.1 109 e.toNatClampNeg)) k := by
  have hb := h _ (mo_e2 he)
  exact mo_b_ack h (by omega) (Int.le_refl _)
abbrev mo_cP (n : Nat) (m : mx_M) (e : Int32) : Prop := 0 < n ∧ vp_in e 2 ∧ mo_b m 1399
abbrev mo_cQ (n : Nat) (e : Int32) : Prop := 0 < n ∧ vp_in e 2
def mo_cC (m : mx_M) (e : Int32) : Prop := vp_in e 2 ∧ mo_b m 1399
def mo_control_153 : Nat → mx_M → Int32 → Int32 → Int32 → Int32 → Int32 → Int32 → Int32 → mx_M
  | 0, m, _, _, _, _, _, _, _ => m
  | n + 1, m, v1, v2, v3, v4, v5, v6, v7 =>
    let m1 := mo_transmit m v1 (-1)
    m1
def mo_control_104 : Nat → mx_M → Int32 → Int32 → Int32 → Int32 → Int32 → Int32 → Int32 → mx_M
  | 0, m, _, _, _, _, _, _, _ => m
  | n + 1, m, v1, v2, v3, v4, v5, v6, v7 =>
    if v2 = 17 then
      m
    else
      if v6 = (m.1 110 (Int32.toNatClampNeg v1)) then
        let m1 := my_pi m 110 (Int32.toNatClampNeg v1) ((m.1 110 (Int32.toNatClampNeg v1)) + 1)
        if v1 = 0 then
          let m2 := mo_accessDoes m1 v2 v3 v4
          mo_control_153 (1) m2 v1 v2 v3 v4 v5 v6 v7
        else
          let m3 := mo_serverDoes m1 v2 v3
          mo_control_153 (1) m3 v1 v2 v3 v4 v5 v6 v7
      else
        mo_control_153 (1) m v1 v2 v3 v4 v5 v6 v7
def mo_control_34 : Nat → mx_M → Int32 → Int32 → Int32 → Int32 → Int32 → Int32 → Int32 → mx_M
  | 0, m, _, _, _, _, _, _, _ => m
  | n + 1, m, v1, v2, v3, v4, v5, v6, v7 =>
    if v5 = (m.1 106 (Int32.toNatClampNeg v1)) then
      if (m.1 107 (Int32.toNatClampNeg v1)) < v7 then
        if v7 < (m.1 109 (Int32.toNatClampNeg v1)) then
          let m1 := my_pi m 107 (Int32.toNatClampNeg v1) v7
          let m2 := my_pi m1 111 (Int32.toNatClampNeg v1) 0
          let m3 := my_pi m2 112 (Int32.toNatClampNeg v1) 2
          let m4 := mo_sendOpen m3 v1
          mo_control_104 (1) m4 v1 v2 v3 v4 v5 v6 v7
        else
          let m5 := my_pi m 107 (Int32.toNatClampNeg v1) (m.1 109 (Int32.toNatClampNeg v1))
          let m6 := my_pi m5 111 (Int32.toNatClampNeg v1) 0
          let m7 := my_pi m6 112 (Int32.toNatClampNeg v1) 2
          let m8 := mo_sendOpen m7 v1
          mo_control_104 (1) m8 v1 v2 v3 v4 v5 v6 v7
      else
        mo_control_104 (1) m v1 v2 v3 v4 v5 v6 v7
    else
      m
def mo_control (m : mx_M) (a1 : Int32) (a2 : Int32) (a3 : Int32) (a4 : Int32) (a5 : Int32) (a6 : Int32) (a7 : Int32) : mx_M :=
  if a1 = 1 then
    if a2 = 12 then
      if (m.1 106 1) < a5 then
        let m1 := my_ps m 0
        let m2 := mo_clear m1 1 a5
        mo_control_34 (1) m2 a1 a2 a3 a4 a5 a6 a7
      else
        mo_control_34 (1) m a1 a2 a3 a4 a5 a6 a7
    else
      mo_control_34 (1) m a1 a2 a3 a4 a5 a6 a7
  else
    mo_control_34 (1) m a1 a2 a3 a4 a5 a6 a7
def K_mo_control : rx_K mx := k_RIIIIIII (fun a0 a1 a2 a3 a4 a5 a6 a7 c m => (a0 = 82 ∧ mo_cC m a1, (c, mo_control m a1 a2 a3 a4 a5 a6 a7), none))
def L_mo_control : List (rx_E mx) := [
  (0, .iload_n 1, 1, 0, 1, 0, [], kno),
  (1, .iconst 1, 1, 0, 0, 1, [], kno),
  (2, .if_icmp .ne 32, 3, 2, 19, 0, [], kno),
  (5, .iload_n 2, 1, 0, 2, 0, [], kno),
  (6, .bipush 12, 2, 0, 0, 12, [], kno),
  (8, .if_icmp .ne 26, 3, 2, 19, 0, [], kno),
  (11, .iload 5, 2, 0, 5, 0, [], kno),
  (13, .aload_n 0, 1, 0, 0, 0, [], kno),
  (14, .getfield 80, 3, 7, 1, 0, [], mgr 106),
  (17, .iconst 1, 1, 0, 0, 1, [], kno),
  (18, .iaload, 1, 7, 2, 0, [], mai),
  (19, .if_icmp .le 15, 3, 2, 19, 0, [], kno),
  (22, .aload_n 0, 1, 0, 0, 0, [], kno),
  (23, .iconst 0, 1, 0, 0, 0, [], kno),
  (24, .putfield 135, 3, 7, 2, 0, [], mps),
  (27, .aload_n 0, 1, 0, 0, 0, [], kno),
  (28, .iconst 1, 1, 0, 0, 1, [], kno),
  (29, .iload 5, 2, 0, 5, 0, [], kno),
  (31, .invokevirtual 129, 3, 7, 3, 0, [], K_mo_clear),
  (34, .iload 5, 2, 0, 5, 0, [], kno),
  (36, .aload_n 0, 1, 0, 0, 0, [], kno),
  (37, .getfield 80, 3, 7, 1, 0, [], mgr 106),
  (40, .iload_n 1, 1, 0, 1, 0, [], kno),
  (41, .iaload, 1, 7, 2, 0, [], mai),
  (42, .if_icmp .eq 4, 3, 2, 26, 0, [], kno),
  (45, .return_, 1, 6, 0, 0, [], kno),
  (46, .iload 7, 2, 0, 7, 0, [], kno),
  (48, .aload_n 0, 1, 0, 0, 0, [], kno),
  (49, .getfield 83, 3, 7, 1, 0, [], mgr 107),
  (52, .iload_n 1, 1, 0, 1, 0, [], kno),
  (53, .iaload, 1, 7, 2, 0, [], mai),
  (54, .if_icmp .le 50, 3, 2, 61, 0, [], kno),
  (57, .aload_n 0, 1, 0, 0, 0, [], kno),
  (58, .getfield 83, 3, 7, 1, 0, [], mgr 107),
  (61, .iload_n 1, 1, 0, 1, 0, [], kno),
  (62, .iload 7, 2, 0, 7, 0, [], kno),
  (64, .aload_n 0, 1, 0, 0, 0, [], kno),
  (65, .getfield 89, 3, 7, 1, 0, [], mgr 109),
  (68, .iload_n 1, 1, 0, 1, 0, [], kno),
  (69, .iaload, 1, 7, 2, 0, [], mai),
  (70, .if_icmp .ge 8, 3, 2, 43, 0, [], kno),
  (73, .iload 7, 2, 0, 7, 0, [], kno),
  (75, .goto 9, 3, 1, 47, 0, [], kno),
  (78, .aload_n 0, 1, 0, 0, 0, [], kno),
  (79, .getfield 89, 3, 7, 1, 0, [], mgr 109),
  (82, .iload_n 1, 1, 0, 1, 0, [], kno),
  (83, .iaload, 1, 7, 2, 0, [], mai),
  (84, .iastore, 1, 7, 3, 0, [], mpa),
  (85, .aload_n 0, 1, 0, 0, 0, [], kno),
  (86, .getfield 95, 3, 7, 1, 0, [], mgr 111),
  (89, .iload_n 1, 1, 0, 1, 0, [], kno),
  (90, .iconst 0, 1, 0, 0, 0, [], kno),
  (91, .iastore, 1, 7, 3, 0, [], mpa),
  (92, .aload_n 0, 1, 0, 0, 0, [], kno),
  (93, .getfield 98, 3, 7, 1, 0, [], mgr 112),
  (96, .iload_n 1, 1, 0, 1, 0, [], kno),
  (97, .iconst 2, 1, 0, 0, 2, [], kno),
  (98, .iastore, 1, 7, 3, 0, [], mpa),
  (99, .aload_n 0, 1, 0, 0, 0, [], kno),
  (100, .iload_n 1, 1, 0, 1, 0, [], kno),
  (101, .invokevirtual 121, 3, 7, 2, 0, [], K_mo_sendOpen),
  (104, .iload_n 2, 1, 0, 2, 0, [], kno),
  (105, .bipush 17, 2, 0, 0, 17, [], kno),
  (107, .if_icmp .ne 4, 3, 2, 65, 0, [], kno),
  (110, .return_, 1, 6, 0, 0, [], kno),
  (111, .iload 6, 2, 0, 6, 0, [], kno),
  (113, .aload_n 0, 1, 0, 0, 0, [], kno),
  (114, .getfield 92, 3, 7, 1, 0, [], mgr 110),
  (117, .iload_n 1, 1, 0, 1, 0, [], kno),
  (118, .iaload, 1, 7, 2, 0, [], mai),
  (119, .if_icmp .ne 34, 3, 2, 91, 0, [], kno),
  (122, .aload_n 0, 1, 0, 0, 0, [], kno),
  (123, .getfield 92, 3, 7, 1, 0, [], mgr 110),
  (126, .iload_n 1, 1, 0, 1, 0, [], kno),
  (127, .dup2, 1, 0, 0, 0, [], kno),
  (128, .iaload, 1, 7, 2, 0, [], mai),
  (129, .iconst 1, 1, 0, 0, 1, [], kno),
  (130, .iadd, 1, 0, 0, 0, [], kno),
  (131, .iastore, 1, 7, 3, 0, [], mpa),
  (132, .iload_n 1, 1, 0, 1, 0, [], kno),
  (133, .ifCond .ne 14, 3, 2, 87, 0, [], kno),
  (136, .aload_n 0, 1, 0, 0, 0, [], kno),
  (137, .iload_n 2, 1, 0, 2, 0, [], kno),
  (138, .iload_n 3, 1, 0, 3, 0, [], kno),
  (139, .iload 4, 2, 0, 4, 0, [], kno),
  (141, .invokevirtual 142, 3, 7, 4, 0, [], K_mo_accessDoes),
  (144, .goto 9, 3, 1, 91, 0, [], kno),
  (147, .aload_n 0, 1, 0, 0, 0, [], kno),
  (148, .iload_n 2, 1, 0, 2, 0, [], kno),
  (149, .iload_n 3, 1, 0, 3, 0, [], kno),
  (150, .invokevirtual 146, 3, 7, 3, 0, [], K_mo_serverDoes),
  (153, .aload_n 0, 1, 0, 0, 0, [], kno),
  (154, .iload_n 1, 1, 0, 1, 0, [], kno),
  (155, .iconst (-1), 1, 0, 0, (-1), [], kno),
  (156, .invokevirtual 125, 3, 7, 3, 0, [], K_mo_transmit),
  (159, .return_, 1, 6, 0, 0, [], kno)]
def G_mo_control_34 (n : Nat) : rx_G := fun x ls st =>
  match ls, st with
  | [some (.ref r0), some (.int v1), some (.int v2), some (.int v3), some (.int v4), some (.int v5), some (.int v6), some (.int v7)], [] => (r0 = 82 ∧ mo_cP n x.2 v1, ry_v x.1 (mo_control_34 n x.2 v1 v2 v3 v4 v5 v6 v7))
  | _, _ => (False, (x, none))
theorem GI_mo_control_34 {n : Nat} {x : mx} {ls : rx_L} {st : List Value} (h : (G_mo_control_34 n x ls st).1) : ∃ (r0 : Nat) (v1 : Int32) (v2 : Int32) (v3 : Int32) (v4 : Int32) (v5 : Int32) (v6 : Int32) (v7 : Int32), ls = [some (.ref r0), some (.int v1), some (.int v2), some (.int v3), some (.int v4), some (.int v5), some (.int v6), some (.int v7)] ∧ st = [] ∧ r0 = 82 ∧ mo_cP n x.2 v1 := by
  unfold G_mo_control_34 at h
  split at h
  · exact ⟨_, _, _, _, _, _, _, _, rfl, rfl, h⟩
  · exact False.elim h
def G_mo_control_104 (n : Nat) : rx_G := fun x ls st =>
  match ls, st with
  | [some (.ref r0), some (.int v1), some (.int v2), some (.int v3), some (.int v4), some (.int v5), some (.int v6), some (.int v7)], [] => (r0 = 82 ∧ mo_cP n x.2 v1, ry_v x.1 (mo_control_104 n x.2 v1 v2 v3 v4 v5 v6 v7))
  | _, _ => (False, (x, none))
theorem GI_mo_control_104 {n : Nat} {x : mx} {ls : rx_L} {st : List Value} (h : (G_mo_control_104 n x ls st).1) : ∃ (r0 : Nat) (v1 : Int32) (v2 : Int32) (v3 : Int32) (v4 : Int32) (v5 : Int32) (v6 : Int32) (v7 : Int32), ls = [some (.ref r0), some (.int v1), some (.int v2), some (.int v3), some (.int v4), some (.int v5), some (.int v6), some (.int v7)] ∧ st = [] ∧ r0 = 82 ∧ mo_cP n x.2 v1 := by
  unfold G_mo_control_104 at h
  split at h
  · exact ⟨_, _, _, _, _, _, _, _, rfl, rfl, h⟩
  · exact False.elim h
def G_mo_control_153 (n : Nat) : rx_G := fun x ls st =>
  match ls, st with
  | [some (.ref r0), some (.int v1), some (.int v2), some (.int v3), some (.int v4), some (.int v5), some (.int v6), some (.int v7)], [] => (r0 = 82 ∧ mo_cQ n v1, ry_v x.1 (mo_control_153 n x.2 v1 v2 v3 v4 v5 v6 v7))
  | _, _ => (False, (x, none))
theorem GI_mo_control_153 {n : Nat} {x : mx} {ls : rx_L} {st : List Value} (h : (G_mo_control_153 n x ls st).1) : ∃ (r0 : Nat) (v1 : Int32) (v2 : Int32) (v3 : Int32) (v4 : Int32) (v5 : Int32) (v6 : Int32) (v7 : Int32), ls = [some (.ref r0), some (.int v1), some (.int v2), some (.int v3), some (.int v4), some (.int v5), some (.int v6), some (.int v7)] ∧ st = [] ∧ r0 = 82 ∧ mo_cQ n v1 := by
  unfold G_mo_control_153 at h
  split at h
  · exact ⟨_, _, _, _, _, _, _, _, rfl, rfl, h⟩
  · exact False.elim h
theorem EH_mo_control_34 (n : Nat) (c : mx_C) (m : mx_M) (v1 : Int32) (v2 : Int32) (v3 : Int32) (v4 : Int32) (v5 : Int32) (v6 : Int32) (v7 : Int32) : rx_ev L_mo_control [(34, G_mo_control_34 n), (104, G_mo_control_104 (1)), (153, G_mo_control_153 (1))] 98 (L_mo_control.drop 19) (c, m) [some (.ref 82), some (.int v1), some (.int v2), some (.int v3), some (.int v4), some (.int v5), some (.int v6), some (.int v7)] [] = ry_v c (mo_control_34 (n + 1) m v1 v2 v3 v4 v5 v6 v7) :=
  rx_ite2 (f := ry_v c) (fun h0 => rx_ite2 (f := ry_v c) (fun h1 => rx_ite2 (f := ry_v c) (fun h2 => rfl) (fun h2 => rfl)) (fun h1 => rfl)) (fun h0 => rfl)
theorem SH_mo_control_34 (n : Nat) (c : mx_C) (m : mx_M) (v1 : Int32) (v2 : Int32) (v3 : Int32) (v4 : Int32) (v5 : Int32) (v6 : Int32) (v7 : Int32) (hP : mo_cP (n + 1) m v1) : rx_sf L_mo_control [(34, G_mo_control_34 n), (104, G_mo_control_104 (1)), (153, G_mo_control_153 (1))] 98 (L_mo_control.drop 19) (c, m) [some (.ref 82), some (.int v1), some (.int v2), some (.int v3), some (.int v4), some (.int v5), some (.int v6), some (.int v7)] [] :=
  And.intro rfl (And.intro hP.2.1 (And.intro (fun h0 => And.intro rfl (And.intro hP.2.1 (And.intro (fun h1 => And.intro rfl (And.intro rfl (And.intro hP.2.1 (And.intro (fun h2 => And.intro hP.2.1 (And.intro rfl (And.intro hP.2.1 (And.intro rfl (And.intro hP.2.1 (And.intro (And.intro rfl (mo_b_so (k := 1399) (mo_b_pi (by decide) (mo_b_pi (by decide) (mo_b_ack1 hP.2.2 hP.2.1 (by assumption) (by assumption)))) (by decide) hP.2.1)) (And.intro rfl (And.intro (by decide) (And.intro hP.2.1 (mo_b_sendOpen (mo_b_pi (by decide) (mo_b_pi (by decide) (mo_b_ack1 hP.2.2 hP.2.1 (by assumption) (by assumption)))) (by decide) hP.2.1)))))))))) (fun h2 => And.intro rfl (And.intro hP.2.1 (And.intro hP.2.1 (And.intro rfl (And.intro hP.2.1 (And.intro rfl (And.intro hP.2.1 (And.intro (And.intro rfl (mo_b_so (k := 1399) (mo_b_pi (by decide) (mo_b_pi (by decide) (mo_b_ack2 hP.2.2 hP.2.1))) (by decide) hP.2.1)) (And.intro rfl (And.intro (by decide) (And.intro hP.2.1 (mo_b_sendOpen (mo_b_pi (by decide) (mo_b_pi (by decide) (mo_b_ack2 hP.2.2 hP.2.1))) (by decide) hP.2.1)))))))))))))))) (fun h1 => And.intro rfl (And.intro (by decide) (And.intro hP.2.1 hP.2.2)))))) (fun h0 => trivial)))
theorem EH_mo_control_104 (n : Nat) (c : mx_C) (m : mx_M) (v1 : Int32) (v2 : Int32) (v3 : Int32) (v4 : Int32) (v5 : Int32) (v6 : Int32) (v7 : Int32) : rx_ev L_mo_control [(104, G_mo_control_104 n), (153, G_mo_control_153 (1))] 98 (L_mo_control.drop 61) (c, m) [some (.ref 82), some (.int v1), some (.int v2), some (.int v3), some (.int v4), some (.int v5), some (.int v6), some (.int v7)] [] = ry_v c (mo_control_104 (n + 1) m v1 v2 v3 v4 v5 v6 v7) :=
  rx_ite2 (f := ry_v c) (fun h0 => rfl) (fun h0 => rx_ite2 (f := ry_v c) (fun h1 => rx_ite2 (f := ry_v c) (fun h2 => rfl) (fun h2 => rfl)) (fun h1 => rfl))
theorem SH_mo_control_104 (n : Nat) (c : mx_C) (m : mx_M) (v1 : Int32) (v2 : Int32) (v3 : Int32) (v4 : Int32) (v5 : Int32) (v6 : Int32) (v7 : Int32) (hP : mo_cP (n + 1) m v1) : rx_sf L_mo_control [(104, G_mo_control_104 n), (153, G_mo_control_153 (1))] 98 (L_mo_control.drop 61) (c, m) [some (.ref 82), some (.int v1), some (.int v2), some (.int v3), some (.int v4), some (.int v5), some (.int v6), some (.int v7)] [] :=
  And.intro (fun h0 => trivial) (fun h0 => And.intro rfl (And.intro hP.2.1 (And.intro (fun h1 => And.intro rfl (And.intro hP.2.1 (And.intro hP.2.1 (And.intro (fun h2 => And.intro (And.intro rfl (mo_b_pi (by decide) hP.2.2)) (And.intro rfl (And.intro (by decide) hP.2.1))) (fun h2 => And.intro (And.intro rfl (mo_b_pi (by decide) hP.2.2)) (And.intro rfl (And.intro (by decide) hP.2.1))))))) (fun h1 => And.intro rfl (And.intro (by decide) hP.2.1)))))
theorem EH_mo_control_153 (n : Nat) (c : mx_C) (m : mx_M) (v1 : Int32) (v2 : Int32) (v3 : Int32) (v4 : Int32) (v5 : Int32) (v6 : Int32) (v7 : Int32) : rx_ev L_mo_control [(153, G_mo_control_153 n)] 98 (L_mo_control.drop 91) (c, m) [some (.ref 82), some (.int v1), some (.int v2), some (.int v3), some (.int v4), some (.int v5), some (.int v6), some (.int v7)] [] = ry_v c (mo_control_153 (n + 1) m v1 v2 v3 v4 v5 v6 v7) :=
  rfl
theorem SH_mo_control_153 (n : Nat) (c : mx_C) (m : mx_M) (v1 : Int32) (v2 : Int32) (v3 : Int32) (v4 : Int32) (v5 : Int32) (v6 : Int32) (v7 : Int32) (hP : mo_cQ (n + 1) v1) : rx_sf L_mo_control [(153, G_mo_control_153 n)] 98 (L_mo_control.drop 91) (c, m) [some (.ref 82), some (.int v1), some (.int v2), some (.int v3), some (.int v4), some (.int v5), some (.int v6), some (.int v7)] [] :=
  And.intro (And.intro rfl (And.intro hP.2 (fun h => absurd (by decide) h))) (trivial)
theorem E_mo_control (c : mx_C) (m : mx_M) (a1 : Int32) (a2 : Int32) (a3 : Int32) (a4 : Int32) (a5 : Int32) (a6 : Int32) (a7 : Int32)  : rx_ev L_mo_control [(34, G_mo_control_34 (1)), (104, G_mo_control_104 (1)), (153, G_mo_control_153 (1))] 98 L_mo_control (c, m) [some (.ref 82), some (.int a1), some (.int a2), some (.int a3), some (.int a4), some (.int a5), some (.int a6), some (.int a7)] [] = ry_v c (mo_control m a1 a2 a3 a4 a5 a6 a7) :=
  rx_ite2 (f := ry_v c) (fun h0 => rx_ite2 (f := ry_v c) (fun h1 => rx_ite2 (f := ry_v c) (fun h2 => rfl) (fun h2 => rfl)) (fun h1 => rfl)) (fun h0 => rfl)
theorem S_mo_control (c : mx_C) (m : mx_M) (a1 : Int32) (a2 : Int32) (a3 : Int32) (a4 : Int32) (a5 : Int32) (a6 : Int32) (a7 : Int32) (hc : mo_cC m a1) : rx_sf L_mo_control [(34, G_mo_control_34 (1)), (104, G_mo_control_104 (1)), (153, G_mo_control_153 (1))] 98 L_mo_control (c, m) [some (.ref 82), some (.int a1), some (.int a2), some (.int a3), some (.int a4), some (.int a5), some (.int a6), some (.int a7)] [] :=
  And.intro (fun h0 => And.intro (fun h1 => And.intro rfl (And.intro (i_in.mpr (by decide)) (And.intro (fun h2 => And.intro (And.intro rfl sc_z) (And.intro (And.intro rfl (i_in.mpr (by decide))) (And.intro rfl (And.intro (by decide) (And.intro hc.1 (mo_b_clear (mo_b_fz (fz_ps _ _) hc.2) (by decide))))))) (fun h2 => And.intro rfl (And.intro (by decide) (And.intro hc.1 hc.2)))))) (fun h1 => And.intro rfl (And.intro (by decide) (And.intro hc.1 hc.2)))) (fun h0 => And.intro rfl (And.intro (by decide) (And.intro hc.1 hc.2)))
theorem cv_mo_accessDoes {p : Program} {l : Launch} {e : Env} {R : Room} {s : State} {m : MethodId} {args : Array Value} {below : List Frame} {meth : Method} {c : Code} {cc : ByteArray} {nL : Nat} {ad : Nat → Nat} {D : va_G} {g : Nat → ClassId} {B : Nat} {own : String} {idx : Nat} (X : ox_C p s m args c cc nL own D g ad B) (hV : rx_V l D g ad B ⟨"SubscriberLinesModel", "accessDoes", "(III)V"⟩ prog_12_method_17_code 5 none 4 98 K_mo_accessDoes) (hl : Cond.methodLink own idx ⟨"SubscriberLinesModel", "accessDoes", "(III)V"⟩ ∈ al) (hR : 4 + 1 ≤ R.frames ∧ 8 + (5 + 11) + 98 ≤ R.locals) : rx_OK p l e R s m args below meth c cc nL ad (mx_W D g ad B s.heap) mx_cs (.invokevirtual idx) 3 4 (K_mo_accessDoes) :=
  ox_callV (q := 9) (T := T_9) X hV (fun av x h => by obtain ⟨a0, a1, a2, a3, rfl⟩ := k_RIII_inv h; exact ⟨a0, _, rfl, by have h2 : a0 = 82 := h.1; rw [h2]; rfl⟩) (by decide) rfl hl (al_at 896 (by decide +kernel) rfl) (al_pr (y := (⟨"SubscriberLinesModel", "accessDoes", "(III)V"⟩, _)) 45 rfl) (al_at 12 (by decide +kernel) rfl) (al_at 897 (by decide +kernel) rfl) ⟨by decide, by decide, by decide +kernel⟩ hR
theorem cv_mo_serverDoes {p : Program} {l : Launch} {e : Env} {R : Room} {s : State} {m : MethodId} {args : Array Value} {below : List Frame} {meth : Method} {c : Code} {cc : ByteArray} {nL : Nat} {ad : Nat → Nat} {D : va_G} {g : Nat → ClassId} {B : Nat} {own : String} {idx : Nat} (X : ox_C p s m args c cc nL own D g ad B) (hV : rx_V l D g ad B ⟨"SubscriberLinesModel", "serverDoes", "(II)V"⟩ prog_12_method_22_code 4 none 4 98 K_mo_serverDoes) (hl : Cond.methodLink own idx ⟨"SubscriberLinesModel", "serverDoes", "(II)V"⟩ ∈ al) (hR : 4 + 1 ≤ R.frames ∧ 8 + (4 + 11) + 98 ≤ R.locals) : rx_OK p l e R s m args below meth c cc nL ad (mx_W D g ad B s.heap) mx_cs (.invokevirtual idx) 3 3 (K_mo_serverDoes) :=
  ox_callV (q := 9) (T := T_9) X hV (fun av x h => by obtain ⟨a0, a1, a2, rfl⟩ := k_RII_inv h; exact ⟨a0, _, rfl, by have h2 : a0 = 82 := h.1; rw [h2]; rfl⟩) (by decide) rfl hl (al_at 908 (by decide +kernel) rfl) (al_pr (y := (⟨"SubscriberLinesModel", "serverDoes", "(II)V"⟩, _)) 48 rfl) (al_at 12 (by decide +kernel) rfl) (al_at 909 (by decide +kernel) rfl) ⟨by decide, by decide, by decide +kernel⟩ hR
theorem ok_mo_control : rx_okF prog_12_method_12_code 8 none L_mo_control 0 L_mo_control = true := by decide +kernel
theorem O_mo_control {l : Launch} {D : va_G} {g : Nat → ClassId} {ad : Nat → Nat} {B : Nat} (had : mx_A ad B) {p : Program} {e : Env} {s : State} {m : MethodId} {args : Array Value} {below : List Frame} {meth : Method} {c : Code} (X : ox_C p s m args c prog_12_method_12_code 8 "SubscriberLinesModel" D g ad B) : rx_ops p l e ({ frames := 5, cells := 0, slots := 0, locals := 122 } : Room) s m args below meth c prog_12_method_12_code 8 ad (mx_W D g ad B s.heap) mx_cs L_mo_control :=
  And.intro (og_mo_80_g X) (And.intro (oy_ai X) (And.intro (og_mo_135_p X) (And.intro (cv_mo_clear X (V_mo_clear had) (al_at 882 (by decide +kernel) rfl) ⟨by decide, by decide⟩) (And.intro (og_mo_80_g X) (And.intro (oy_ai X) (And.intro (og_mo_83_g X) (And.intro (oy_ai X) (And.intro (og_mo_83_g X) (And.intro (og_mo_89_g X) (And.intro (oy_ai X) (And.intro (og_mo_89_g X) (And.intro (oy_ai X) (And.intro (oy_pa X) (And.intro (og_mo_95_g X) (And.intro (oy_pa X) (And.intro (og_mo_98_g X) (And.intro (oy_pa X) (And.intro (cv_mo_sendOpen X (V_mo_sendOpen had) (al_at 886 (by decide +kernel) rfl) ⟨by decide, by decide⟩) (And.intro (og_mo_92_g X) (And.intro (oy_ai X) (And.intro (og_mo_92_g X) (And.intro (oy_ai X) (And.intro (oy_pa X) (And.intro (cv_mo_accessDoes X (V_mo_accessDoes had) (al_at 894 (by decide +kernel) rfl) ⟨by decide, by decide⟩) (And.intro (cv_mo_serverDoes X (V_mo_serverDoes had) (al_at 906 (by decide +kernel) rfl) ⟨by decide, by decide⟩) (And.intro (cv_mo_transmit X (V_mo_transmit had) (al_at 890 (by decide +kernel) rfl) ⟨by decide, by decide⟩) (trivial)))))))))))))))))))))))))))
theorem V_mo_control {l : Launch} {D : va_G} {g : Nat → ClassId} {ad : Nat → Nat} {B : Nat} (had : mx_A ad B) : rx_V l D g ad B ⟨"SubscriberLinesModel", "control", "(IIIIIII)V"⟩ prog_12_method_12_code 8 none 5 122 K_mo_control := by
  intro av x hp
  obtain ⟨a0, a1, a2, a3, a4, a5, a6, a7, rfl⟩ := k_RIIIIIII_inv hp
  have hp : a0 = 82 ∧ mo_cC x.2 a1 := hp
  have h0 : a0 = 82 := hp.1
  subst h0
  refine rx_metX (k := 0) had (by decide) (Nat.le_of_ble_eq_true rfl) fun p e s m args below meth c X hr hlk => ?_
  have lp153 := fun n => rx_loop (l := l) (e := e) (below := below) (res := (K_mo_control [.ref 82, .int a1, .int a2, .int a3, .int a4, .int a5, .int a6, .int a7] x).2) (G := G_mo_control_153) (cs0 := []) X hr hlk ok_mo_control (O_mo_control had X) rx_c0 98 91 rfl (fun x ls st h => by
    obtain ⟨r0, v1, v2, v3, v4, v5, v6, v7, -, -, h3⟩ := GI_mo_control_153 h
    have h4 := h3.2
    omega) (fun n x ls st h => by
    obtain ⟨r0, v1, v2, v3, v4, v5, v6, v7, rfl, rfl, h3⟩ := GI_mo_control_153 h
    obtain ⟨rfl, hP⟩ := h3
    exact ⟨SH_mo_control_153 n x.1 x.2 v1 v2 v3 v4 v5 v6 v7 hP, EH_mo_control_153 n x.1 x.2 v1 v2 v3 v4 v5 v6 v7⟩) n
  have lp104 := fun n => rx_loop (l := l) (e := e) (below := below) (res := (K_mo_control [.ref 82, .int a1, .int a2, .int a3, .int a4, .int a5, .int a6, .int a7] x).2) (G := G_mo_control_104) (cs0 := [(153, G_mo_control_153 (1))]) X hr hlk ok_mo_control (O_mo_control had X) (rx_cc (lp153 _) rx_c0) 98 61 rfl (fun x ls st h => by
    obtain ⟨r0, v1, v2, v3, v4, v5, v6, v7, -, -, h3⟩ := GI_mo_control_104 h
    have h4 := h3.2
    omega) (fun n x ls st h => by
    obtain ⟨r0, v1, v2, v3, v4, v5, v6, v7, rfl, rfl, h3⟩ := GI_mo_control_104 h
    obtain ⟨rfl, hP⟩ := h3
    exact ⟨SH_mo_control_104 n x.1 x.2 v1 v2 v3 v4 v5 v6 v7 hP, EH_mo_control_104 n x.1 x.2 v1 v2 v3 v4 v5 v6 v7⟩) n
  have lp34 := fun n => rx_loop (l := l) (e := e) (below := below) (res := (K_mo_control [.ref 82, .int a1, .int a2, .int a3, .int a4, .int a5, .int a6, .int a7] x).2) (G := G_mo_control_34) (cs0 := [(104, G_mo_control_104 (1)), (153, G_mo_control_153 (1))]) X hr hlk ok_mo_control (O_mo_control had X) (rx_cc (lp104 _) (rx_cc (lp153 _) rx_c0)) 98 19 rfl (fun x ls st h => by
    obtain ⟨r0, v1, v2, v3, v4, v5, v6, v7, -, -, h3⟩ := GI_mo_control_34 h
    have h4 := h3.2
    omega) (fun n x ls st h => by
    obtain ⟨r0, v1, v2, v3, v4, v5, v6, v7, rfl, rfl, h3⟩ := GI_mo_control_34 h
    obtain ⟨rfl, hP⟩ := h3
    exact ⟨SH_mo_control_34 n x.1 x.2 v1 v2 v3 v4 v5 v6 v7 hP, EH_mo_control_34 n x.1 x.2 v1 v2 v3 v4 v5 v6 v7⟩) n
  exact rx_walk X hr hlk ok_mo_control (O_mo_control had X) (cut := [(34, G_mo_control_34 (1)), (104, G_mo_control_104 (1)), (153, G_mo_control_153 (1))]) (rx_cc (lp34 _) (rx_cc (lp104 _) (rx_cc (lp153 _) rx_c0))) 98 0 rfl (S_mo_control x.1 x.2 a1 a2 a3 a4 a5 a6 a7 hp.2) (E_mo_control x.1 x.2 a1 a2 a3 a4 a5 a6 a7 )
end
