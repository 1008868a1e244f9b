/-! the desk's throws -/
theorem thr_122 : ThrOk RX6 118 122 "java/lang/IllegalStateException" := ⟨t_740, t_27, by decide +kernel, by decide +kernel, by decide +kernel, by decide +kernel, by decide +kernel⟩
theorem thr_349 : ThrOk RX6 345 349 "java/lang/IndexOutOfBoundsException" := ⟨t_912, t_15, by decide +kernel, by decide +kernel, by decide +kernel, by decide +kernel, by decide +kernel⟩
theorem thr_332 : ThrOk RX6 328 332 "java/lang/ArithmeticException" := ⟨t_1282, t_34, by decide +kernel, by decide +kernel, by decide +kernel, by decide +kernel, by decide +kernel⟩
theorem thr_214 : ThrOk RX6 210 214 "java/lang/UnsupportedOperationException" := ⟨t_1025, t_32, by decide +kernel, by decide +kernel, by decide +kernel, by decide +kernel, by decide +kernel⟩
theorem thr_59 : ThrOk RX6 55 59 "java/lang/IllegalArgumentException" := ⟨t_260, t_11, by decide +kernel, by decide +kernel, by decide +kernel, by decide +kernel, by decide +kernel⟩
theorem strX_0 : (RX6, 57, "the minutes are out of range", 0) ∈ strX := List.mem_of_getElem? (i := 0) rfl
theorem strX_1 : (RX6, 91, "no such customer or class", 1) ∈ strX := List.mem_of_getElem? (i := 1) rfl
theorem strX_2 : (RX6, 99, "no such class, or the promise is out of range", 2) ∈ strX := List.mem_of_getElem? (i := 2) rfl
theorem strX_3 : (RX6, 107, "a number is out of range", 3) ∈ strX := List.mem_of_getElem? (i := 3) rfl
theorem strX_4 : (RX6, 111, "no such mail to answer", 4) ∈ strX := List.mem_of_getElem? (i := 4) rfl
theorem strX_5 : (RX6, 120, "there is no room for the mail or its ticket", 5) ∈ strX := List.mem_of_getElem? (i := 5) rfl
theorem strX_6 : (RX6, 144, "no such mail", 6) ∈ strX := List.mem_of_getElem? (i := 6) rfl
theorem strX_7 : (RX6, 347, "no such ticket", 7) ∈ strX := List.mem_of_getElem? (i := 7) rfl
theorem strX_8 : (RX6, 157, "the ticket has no such mail", 8) ∈ strX := List.mem_of_getElem? (i := 8) rfl
theorem strX_9 : (RX6, 163, "the ticket is not merged", 9) ∈ strX := List.mem_of_getElem? (i := 9) rfl
theorem strX_10 : (RX6, 165, "no such topic", 10) ∈ strX := List.mem_of_getElem? (i := 10) rfl
theorem strX_11 : (RX6, 352, "the ticket is neither open nor held", 11) ∈ strX := List.mem_of_getElem? (i := 11) rfl
theorem strX_12 : (RX6, 199, "the skills are out of range", 12) ∈ strX := List.mem_of_getElem? (i := 12) rfl
theorem strX_13 : (RX6, 201, "there is no room for another agent", 13) ∈ strX := List.mem_of_getElem? (i := 13) rfl
theorem strX_14 : (RX6, 350, "no such agent", 14) ∈ strX := List.mem_of_getElem? (i := 14) rfl
theorem strX_15 : (RX6, 212, "the agent has the skill", 15) ∈ strX := List.mem_of_getElem? (i := 15) rfl
theorem strX_16 : (RX6, 234, "the ticket is nobody's", 16) ∈ strX := List.mem_of_getElem? (i := 16) rfl
theorem strX_17 : (RX6, 241, "there is no ticket for the agent", 17) ∈ strX := List.mem_of_getElem? (i := 17) rfl
theorem strX_18 : (RX6, 252, "the agent is off shift, or has 3 tickets", 18) ∈ strX := List.mem_of_getElem? (i := 18) rfl
theorem strX_19 : (RX6, 257, "the ticket is nobody's, or this agent has it, or has 3 tickets", 19) ∈ strX := List.mem_of_getElem? (i := 19) rfl
theorem strX_20 : (RX6, 259, "the agent cannot answer the ticket", 20) ∈ strX := List.mem_of_getElem? (i := 20) rfl
theorem strX_21 : (RX6, 264, "the ticket is not open", 21) ∈ strX := List.mem_of_getElem? (i := 21) rfl
theorem strX_22 : (RX6, 266, "the ticket is not held", 22) ∈ strX := List.mem_of_getElem? (i := 22) rfl
theorem strX_23 : (RX6, 268, "the ticket is not open, or it is nobody's", 23) ∈ strX := List.mem_of_getElem? (i := 23) rfl
theorem strX_24 : (RX6, 273, "no such prepared answer", 24) ∈ strX := List.mem_of_getElem? (i := 24) rfl
theorem strX_25 : (RX6, 284, "the ticket is not answered", 25) ∈ strX := List.mem_of_getElem? (i := 25) rfl
theorem strX_26 : (RX6, 296, "both tickets are the same", 26) ∈ strX := List.mem_of_getElem? (i := 26) rfl
theorem strX_27 : (RX6, 302, "the tickets are of different customers", 27) ∈ strX := List.mem_of_getElem? (i := 27) rfl
theorem strX_28 : (RX6, 307, "the words are out of range", 28) ∈ strX := List.mem_of_getElem? (i := 28) rfl
theorem strX_29 : (RX6, 309, "there is no room for another answer", 29) ∈ strX := List.mem_of_getElem? (i := 29) rfl
theorem strX_30 : (RX6, 320, "no answer has a word in common with the ticket", 30) ∈ strX := List.mem_of_getElem? (i := 30) rfl
theorem strX_31 : (RX6, 330, "no ticket was answered", 31) ∈ strX := List.mem_of_getElem? (i := 31) rfl
