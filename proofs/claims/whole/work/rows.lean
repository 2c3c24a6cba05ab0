section
-- ===== PART A: goes FIRST, ahead of the names: the tables' words, and 'selects' of the private methods out of them =====
/-- a private method of a class that the tables say can be made, by its rows of tables_1 -/
def lw_okq (q : MethodName × Nat) : Prop := (q.1.cls ≠ "java/lang/invoke/MethodHandle" ∧ q.1.cls ≠ "java/lang/invoke/VarHandle") ∧ Cond.instantiable q.1.cls q.2 ∈ tables_1 ∧ Cond.privateMethod q.1 ∈ tables_1 ∧ Cond.instanceMethod q.1 ∈ tables_1
theorem lw_p0 : lw_okq (⟨"DotConsole$Tokens", "cutToken", "()I"⟩, 8) := ⟨⟨by decide +kernel, by decide +kernel⟩, List.mem_of_getElem? (i := 27) (by decide +kernel), List.mem_of_getElem? (i := 335) (by decide +kernel), List.mem_of_getElem? (i := 336) (by decide +kernel)⟩
theorem lw_p1 : lw_okq (⟨"DotConsole$Tokens", "cutWord", "()I"⟩, 8) := ⟨⟨by decide +kernel, by decide +kernel⟩, List.mem_of_getElem? (i := 27) (by decide +kernel), List.mem_of_getElem? (i := 342) (by decide +kernel), List.mem_of_getElem? (i := 343) (by decide +kernel)⟩
theorem lw_p2 : lw_okq (⟨"DotConsole$Tokens", "kindOfWord", "(I)I"⟩, 8) := ⟨⟨by decide +kernel, by decide +kernel⟩, List.mem_of_getElem? (i := 27) (by decide +kernel), List.mem_of_getElem? (i := 346) (by decide +kernel), List.mem_of_getElem? (i := 347) (by decide +kernel)⟩
theorem lw_p3 : lw_okq (⟨"DotConsole$Tokens", "cutNumber", "()I"⟩, 8) := ⟨⟨by decide +kernel, by decide +kernel⟩, List.mem_of_getElem? (i := 27) (by decide +kernel), List.mem_of_getElem? (i := 353) (by decide +kernel), List.mem_of_getElem? (i := 354) (by decide +kernel)⟩
theorem lw_p4 : lw_okq (⟨"DotConsole$Tokens", "endOfDigits", "(I)I"⟩, 8) := ⟨⟨by decide +kernel, by decide +kernel⟩, List.mem_of_getElem? (i := 27) (by decide +kernel), List.mem_of_getElem? (i := 357) (by decide +kernel), List.mem_of_getElem? (i := 358) (by decide +kernel)⟩
theorem lw_p5 : lw_okq (⟨"DotConsole$Tokens", "digitsFrom", "(II)I"⟩, 8) := ⟨⟨by decide +kernel, by decide +kernel⟩, List.mem_of_getElem? (i := 27) (by decide +kernel), List.mem_of_getElem? (i := 361) (by decide +kernel), List.mem_of_getElem? (i := 362) (by decide +kernel)⟩
theorem lw_p6 : lw_okq (⟨"DotConsole$LineReader", "clear", "()V"⟩, 17) := ⟨⟨by decide +kernel, by decide +kernel⟩, List.mem_of_getElem? (i := 130) (by decide +kernel), List.mem_of_getElem? (i := 439) (by decide +kernel), List.mem_of_getElem? (i := 440) (by decide +kernel)⟩
theorem lw_p7 : lw_okq (⟨"DotConsole$LineReader", "readTarget", "()Z"⟩, 17) := ⟨⟨by decide +kernel, by decide +kernel⟩, List.mem_of_getElem? (i := 130) (by decide +kernel), List.mem_of_getElem? (i := 447) (by decide +kernel), List.mem_of_getElem? (i := 448) (by decide +kernel)⟩
theorem lw_p8 : lw_okq (⟨"DotConsole$LineReader", "readExpressions", "(I)Z"⟩, 17) := ⟨⟨by decide +kernel, by decide +kernel⟩, List.mem_of_getElem? (i := 130) (by decide +kernel), List.mem_of_getElem? (i := 455) (by decide +kernel), List.mem_of_getElem? (i := 456) (by decide +kernel)⟩
theorem lw_p9 : lw_okq (⟨"DotConsole$LineReader", "finish", "()Z"⟩, 17) := ⟨⟨by decide +kernel, by decide +kernel⟩, List.mem_of_getElem? (i := 130) (by decide +kernel), List.mem_of_getElem? (i := 459) (by decide +kernel), List.mem_of_getElem? (i := 460) (by decide +kernel)⟩
theorem lw_p10 : lw_okq (⟨"DotConsole$LineReader", "unwind", "(I)V"⟩, 17) := ⟨⟨by decide +kernel, by decide +kernel⟩, List.mem_of_getElem? (i := 130) (by decide +kernel), List.mem_of_getElem? (i := 463) (by decide +kernel), List.mem_of_getElem? (i := 464) (by decide +kernel)⟩
theorem lw_p11 : lw_okq (⟨"DotConsole$LineReader", "emit", "(III)V"⟩, 17) := ⟨⟨by decide +kernel, by decide +kernel⟩, List.mem_of_getElem? (i := 130) (by decide +kernel), List.mem_of_getElem? (i := 467) (by decide +kernel), List.mem_of_getElem? (i := 468) (by decide +kernel)⟩
theorem lw_p12 : lw_okq (⟨"DotConsole$LineReader", "takePart", "(I)Z"⟩, 17) := ⟨⟨by decide +kernel, by decide +kernel⟩, List.mem_of_getElem? (i := 130) (by decide +kernel), List.mem_of_getElem? (i := 472) (by decide +kernel), List.mem_of_getElem? (i := 473) (by decide +kernel)⟩
theorem lw_p13 : lw_okq (⟨"DotConsole$LineReader", "hold", "(III)V"⟩, 17) := ⟨⟨by decide +kernel, by decide +kernel⟩, List.mem_of_getElem? (i := 130) (by decide +kernel), List.mem_of_getElem? (i := 476) (by decide +kernel), List.mem_of_getElem? (i := 477) (by decide +kernel)⟩
theorem lw_p14 : lw_okq (⟨"DotConsole$LineReader", "takeBuiltIn", "(I)Z"⟩, 17) := ⟨⟨by decide +kernel, by decide +kernel⟩, List.mem_of_getElem? (i := 130) (by decide +kernel), List.mem_of_getElem? (i := 483) (by decide +kernel), List.mem_of_getElem? (i := 484) (by decide +kernel)⟩
theorem lw_p15 : lw_okq (⟨"DotConsole$LineReader", "takeJoin", "(I)Z"⟩, 17) := ⟨⟨by decide +kernel, by decide +kernel⟩, List.mem_of_getElem? (i := 130) (by decide +kernel), List.mem_of_getElem? (i := 489) (by decide +kernel), List.mem_of_getElem? (i := 490) (by decide +kernel)⟩
def lw_privs_1 : List (MethodName × Nat) := [(⟨"DotConsole$Tokens", "cutToken", "()I"⟩, 8), (⟨"DotConsole$Tokens", "cutWord", "()I"⟩, 8), (⟨"DotConsole$Tokens", "kindOfWord", "(I)I"⟩, 8), (⟨"DotConsole$Tokens", "cutNumber", "()I"⟩, 8), (⟨"DotConsole$Tokens", "endOfDigits", "(I)I"⟩, 8), (⟨"DotConsole$Tokens", "digitsFrom", "(II)I"⟩, 8), (⟨"DotConsole$LineReader", "clear", "()V"⟩, 17), (⟨"DotConsole$LineReader", "readTarget", "()Z"⟩, 17), (⟨"DotConsole$LineReader", "readExpressions", "(I)Z"⟩, 17), (⟨"DotConsole$LineReader", "finish", "()Z"⟩, 17), (⟨"DotConsole$LineReader", "unwind", "(I)V"⟩, 17), (⟨"DotConsole$LineReader", "emit", "(III)V"⟩, 17), (⟨"DotConsole$LineReader", "takePart", "(I)Z"⟩, 17), (⟨"DotConsole$LineReader", "hold", "(III)V"⟩, 17), (⟨"DotConsole$LineReader", "takeBuiltIn", "(I)Z"⟩, 17), (⟨"DotConsole$LineReader", "takeJoin", "(I)Z"⟩, 17)]
theorem lw_r1 : ∀ q ∈ lw_privs_1, lw_okq q := List.forall_mem_cons.mpr ⟨lw_p0, List.forall_mem_cons.mpr ⟨lw_p1, List.forall_mem_cons.mpr ⟨lw_p2, List.forall_mem_cons.mpr ⟨lw_p3, List.forall_mem_cons.mpr ⟨lw_p4, List.forall_mem_cons.mpr ⟨lw_p5, List.forall_mem_cons.mpr ⟨lw_p6, List.forall_mem_cons.mpr ⟨lw_p7, List.forall_mem_cons.mpr ⟨lw_p8, List.forall_mem_cons.mpr ⟨lw_p9, List.forall_mem_cons.mpr ⟨lw_p10, List.forall_mem_cons.mpr ⟨lw_p11, List.forall_mem_cons.mpr ⟨lw_p12, List.forall_mem_cons.mpr ⟨lw_p13, List.forall_mem_cons.mpr ⟨lw_p14, List.forall_mem_cons.mpr ⟨lw_p15, fun _ h => absurd h List.not_mem_nil⟩⟩⟩⟩⟩⟩⟩⟩⟩⟩⟩⟩⟩⟩⟩⟩
theorem lw_p16 : lw_okq (⟨"DotConsole$LineReader", "takeClose", "()Z"⟩, 17) := ⟨⟨by decide +kernel, by decide +kernel⟩, List.mem_of_getElem? (i := 130) (by decide +kernel), List.mem_of_getElem? (i := 493) (by decide +kernel), List.mem_of_getElem? (i := 494) (by decide +kernel)⟩
theorem lw_p17 : lw_okq (⟨"DotConsole$LineReader", "takeComma", "()Z"⟩, 17) := ⟨⟨by decide +kernel, by decide +kernel⟩, List.mem_of_getElem? (i := 130) (by decide +kernel), List.mem_of_getElem? (i := 497) (by decide +kernel), List.mem_of_getElem? (i := 498) (by decide +kernel)⟩
theorem lw_p18 : lw_okq (⟨"DotConsole$LineReader", "waitsForTest", "()Z"⟩, 17) := ⟨⟨by decide +kernel, by decide +kernel⟩, List.mem_of_getElem? (i := 130) (by decide +kernel), List.mem_of_getElem? (i := 504) (by decide +kernel), List.mem_of_getElem? (i := 505) (by decide +kernel)⟩
theorem lw_p19 : lw_okq (⟨"DotConsole$LineReader", "readNothing", "()Z"⟩, 17) := ⟨⟨by decide +kernel, by decide +kernel⟩, List.mem_of_getElem? (i := 130) (by decide +kernel), List.mem_of_getElem? (i := 508) (by decide +kernel), List.mem_of_getElem? (i := 509) (by decide +kernel)⟩
theorem lw_p20 : lw_okq (⟨"DotConsole", "answerToStatement", "()I"⟩, 6) := ⟨⟨by decide +kernel, by decide +kernel⟩, List.mem_of_getElem? (i := 19) (by decide +kernel), List.mem_of_getElem? (i := 512) (by decide +kernel), List.mem_of_getElem? (i := 513) (by decide +kernel)⟩
theorem lw_p21 : lw_okq (⟨"DotConsole$Program", "fits", "(I)Z"⟩, 10) := ⟨⟨by decide +kernel, by decide +kernel⟩, List.mem_of_getElem? (i := 193) (by decide +kernel), List.mem_of_getElem? (i := 551) (by decide +kernel), List.mem_of_getElem? (i := 552) (by decide +kernel)⟩
theorem lw_p22 : lw_okq (⟨"DotConsole$Program", "openBlock", "(I)Z"⟩, 10) := ⟨⟨by decide +kernel, by decide +kernel⟩, List.mem_of_getElem? (i := 193) (by decide +kernel), List.mem_of_getElem? (i := 555) (by decide +kernel), List.mem_of_getElem? (i := 556) (by decide +kernel)⟩
theorem lw_p23 : lw_okq (⟨"DotConsole$Program", "turnBlock", "(I)Z"⟩, 10) := ⟨⟨by decide +kernel, by decide +kernel⟩, List.mem_of_getElem? (i := 193) (by decide +kernel), List.mem_of_getElem? (i := 559) (by decide +kernel), List.mem_of_getElem? (i := 560) (by decide +kernel)⟩
theorem lw_p24 : lw_okq (⟨"DotConsole$Program", "closeBlock", "(I)Z"⟩, 10) := ⟨⟨by decide +kernel, by decide +kernel⟩, List.mem_of_getElem? (i := 193) (by decide +kernel), List.mem_of_getElem? (i := 563) (by decide +kernel), List.mem_of_getElem? (i := 564) (by decide +kernel)⟩
theorem lw_p25 : lw_okq (⟨"DotConsole$Program", "isMark", "(I)Z"⟩, 10) := ⟨⟨by decide +kernel, by decide +kernel⟩, List.mem_of_getElem? (i := 193) (by decide +kernel), List.mem_of_getElem? (i := 583) (by decide +kernel), List.mem_of_getElem? (i := 584) (by decide +kernel)⟩
theorem lw_p26 : lw_okq (⟨"DotConsole$Machine", "doLine", "(I)I"⟩, 10) := ⟨⟨by decide +kernel, by decide +kernel⟩, List.mem_of_getElem? (i := 239) (by decide +kernel), List.mem_of_getElem? (i := 587) (by decide +kernel), List.mem_of_getElem? (i := 588) (by decide +kernel)⟩
theorem lw_p27 : lw_okq (⟨"DotConsole$Machine", "workOut", "(I)V"⟩, 10) := ⟨⟨by decide +kernel, by decide +kernel⟩, List.mem_of_getElem? (i := 239) (by decide +kernel), List.mem_of_getElem? (i := 591) (by decide +kernel), List.mem_of_getElem? (i := 592) (by decide +kernel)⟩
theorem lw_p28 : lw_okq (⟨"DotConsole$Machine", "workOutNode", "(II)V"⟩, 10) := ⟨⟨by decide +kernel, by decide +kernel⟩, List.mem_of_getElem? (i := 239) (by decide +kernel), List.mem_of_getElem? (i := 595) (by decide +kernel), List.mem_of_getElem? (i := 596) (by decide +kernel)⟩
theorem lw_p29 : lw_okq (⟨"DotConsole$Machine", "ofOne", "(II)I"⟩, 10) := ⟨⟨by decide +kernel, by decide +kernel⟩, List.mem_of_getElem? (i := 239) (by decide +kernel), List.mem_of_getElem? (i := 605) (by decide +kernel), List.mem_of_getElem? (i := 606) (by decide +kernel)⟩
theorem lw_p30 : lw_okq (⟨"DotConsole$Pad", "framesOf", "(I)I"⟩, 1) := ⟨⟨by decide +kernel, by decide +kernel⟩, List.mem_of_getElem? (i := 255) (by decide +kernel), List.mem_of_getElem? (i := 624) (by decide +kernel), List.mem_of_getElem? (i := 625) (by decide +kernel)⟩
theorem lw_p31 : lw_okq (⟨"DotConsole$Machine", "random", "(I)I"⟩, 10) := ⟨⟨by decide +kernel, by decide +kernel⟩, List.mem_of_getElem? (i := 239) (by decide +kernel), List.mem_of_getElem? (i := 632) (by decide +kernel), List.mem_of_getElem? (i := 633) (by decide +kernel)⟩
def lw_privs_2 : List (MethodName × Nat) := [(⟨"DotConsole$LineReader", "takeClose", "()Z"⟩, 17), (⟨"DotConsole$LineReader", "takeComma", "()Z"⟩, 17), (⟨"DotConsole$LineReader", "waitsForTest", "()Z"⟩, 17), (⟨"DotConsole$LineReader", "readNothing", "()Z"⟩, 17), (⟨"DotConsole", "answerToStatement", "()I"⟩, 6), (⟨"DotConsole$Program", "fits", "(I)Z"⟩, 10), (⟨"DotConsole$Program", "openBlock", "(I)Z"⟩, 10), (⟨"DotConsole$Program", "turnBlock", "(I)Z"⟩, 10), (⟨"DotConsole$Program", "closeBlock", "(I)Z"⟩, 10), (⟨"DotConsole$Program", "isMark", "(I)Z"⟩, 10), (⟨"DotConsole$Machine", "doLine", "(I)I"⟩, 10), (⟨"DotConsole$Machine", "workOut", "(I)V"⟩, 10), (⟨"DotConsole$Machine", "workOutNode", "(II)V"⟩, 10), (⟨"DotConsole$Machine", "ofOne", "(II)I"⟩, 10), (⟨"DotConsole$Pad", "framesOf", "(I)I"⟩, 1), (⟨"DotConsole$Machine", "random", "(I)I"⟩, 10)]
theorem lw_r2 : ∀ q ∈ lw_privs_2, lw_okq q := List.forall_mem_cons.mpr ⟨lw_p16, List.forall_mem_cons.mpr ⟨lw_p17, List.forall_mem_cons.mpr ⟨lw_p18, List.forall_mem_cons.mpr ⟨lw_p19, List.forall_mem_cons.mpr ⟨lw_p20, List.forall_mem_cons.mpr ⟨lw_p21, List.forall_mem_cons.mpr ⟨lw_p22, List.forall_mem_cons.mpr ⟨lw_p23, List.forall_mem_cons.mpr ⟨lw_p24, List.forall_mem_cons.mpr ⟨lw_p25, List.forall_mem_cons.mpr ⟨lw_p26, List.forall_mem_cons.mpr ⟨lw_p27, List.forall_mem_cons.mpr ⟨lw_p28, List.forall_mem_cons.mpr ⟨lw_p29, List.forall_mem_cons.mpr ⟨lw_p30, List.forall_mem_cons.mpr ⟨lw_p31, fun _ h => absurd h List.not_mem_nil⟩⟩⟩⟩⟩⟩⟩⟩⟩⟩⟩⟩⟩⟩⟩⟩
theorem lw_p32 : lw_okq (⟨"DotConsole$Machine", "ofTwo", "(III)I"⟩, 10) := ⟨⟨by decide +kernel, by decide +kernel⟩, List.mem_of_getElem? (i := 239) (by decide +kernel), List.mem_of_getElem? (i := 637) (by decide +kernel), List.mem_of_getElem? (i := 638) (by decide +kernel)⟩
theorem lw_p33 : lw_okq (⟨"DotConsole$Machine", "writeCell", "(II)V"⟩, 10) := ⟨⟨by decide +kernel, by decide +kernel⟩, List.mem_of_getElem? (i := 239) (by decide +kernel), List.mem_of_getElem? (i := 659) (by decide +kernel), List.mem_of_getElem? (i := 660) (by decide +kernel)⟩
theorem lw_p34 : lw_okq (⟨"DotConsole$Machine", "draw", "(I)V"⟩, 10) := ⟨⟨by decide +kernel, by decide +kernel⟩, List.mem_of_getElem? (i := 239) (by decide +kernel), List.mem_of_getElem? (i := 663) (by decide +kernel), List.mem_of_getElem? (i := 664) (by decide +kernel)⟩
theorem lw_p35 : lw_okq (⟨"DotConsoleModel", "cut", "()V"⟩, 30) := ⟨⟨by decide +kernel, by decide +kernel⟩, List.mem_of_getElem? (i := 746) (by decide +kernel), List.mem_of_getElem? (i := 851) (by decide +kernel), List.mem_of_getElem? (i := 852) (by decide +kernel)⟩
theorem lw_p36 : lw_okq (⟨"DotConsoleModel", "letter", "(I)Z"⟩, 30) := ⟨⟨by decide +kernel, by decide +kernel⟩, List.mem_of_getElem? (i := 746) (by decide +kernel), List.mem_of_getElem? (i := 855) (by decide +kernel), List.mem_of_getElem? (i := 856) (by decide +kernel)⟩
theorem lw_p37 : lw_okq (⟨"DotConsoleModel", "wordKind", "(II)I"⟩, 30) := ⟨⟨by decide +kernel, by decide +kernel⟩, List.mem_of_getElem? (i := 746) (by decide +kernel), List.mem_of_getElem? (i := 859) (by decide +kernel), List.mem_of_getElem? (i := 860) (by decide +kernel)⟩
theorem lw_p38 : lw_okq (⟨"DotConsoleModel", "nameOf", "(III)I"⟩, 30) := ⟨⟨by decide +kernel, by decide +kernel⟩, List.mem_of_getElem? (i := 746) (by decide +kernel), List.mem_of_getElem? (i := 863) (by decide +kernel), List.mem_of_getElem? (i := 864) (by decide +kernel)⟩
theorem lw_p39 : lw_okq (⟨"DotConsoleModel", "digit", "(I)Z"⟩, 30) := ⟨⟨by decide +kernel, by decide +kernel⟩, List.mem_of_getElem? (i := 746) (by decide +kernel), List.mem_of_getElem? (i := 867) (by decide +kernel), List.mem_of_getElem? (i := 868) (by decide +kernel)⟩
theorem lw_p40 : lw_okq (⟨"DotConsoleModel", "numberOf", "(III)I"⟩, 30) := ⟨⟨by decide +kernel, by decide +kernel⟩, List.mem_of_getElem? (i := 746) (by decide +kernel), List.mem_of_getElem? (i := 871) (by decide +kernel), List.mem_of_getElem? (i := 872) (by decide +kernel)⟩
theorem lw_p41 : lw_okq (⟨"DotConsoleModel", "good", "()I"⟩, 30) := ⟨⟨by decide +kernel, by decide +kernel⟩, List.mem_of_getElem? (i := 746) (by decide +kernel), List.mem_of_getElem? (i := 880) (by decide +kernel), List.mem_of_getElem? (i := 881) (by decide +kernel)⟩
theorem lw_p42 : lw_okq (⟨"DotConsoleModel", "expressions", "(III)I"⟩, 30) := ⟨⟨by decide +kernel, by decide +kernel⟩, List.mem_of_getElem? (i := 746) (by decide +kernel), List.mem_of_getElem? (i := 887) (by decide +kernel), List.mem_of_getElem? (i := 888) (by decide +kernel)⟩
theorem lw_p43 : lw_okq (⟨"DotConsoleModel", "work", "(IIZ)I"⟩, 30) := ⟨⟨by decide +kernel, by decide +kernel⟩, List.mem_of_getElem? (i := 746) (by decide +kernel), List.mem_of_getElem? (i := 897) (by decide +kernel), List.mem_of_getElem? (i := 898) (by decide +kernel)⟩
theorem lw_p44 : lw_okq (⟨"DotConsoleModel", "put", "(II)V"⟩, 30) := ⟨⟨by decide +kernel, by decide +kernel⟩, List.mem_of_getElem? (i := 746) (by decide +kernel), List.mem_of_getElem? (i := 901) (by decide +kernel), List.mem_of_getElem? (i := 902) (by decide +kernel)⟩
theorem lw_p45 : lw_okq (⟨"DotConsoleModel", "one", "()V"⟩, 30) := ⟨⟨by decide +kernel, by decide +kernel⟩, List.mem_of_getElem? (i := 746) (by decide +kernel), List.mem_of_getElem? (i := 905) (by decide +kernel), List.mem_of_getElem? (i := 906) (by decide +kernel)⟩
theorem lw_p46 : lw_okq (⟨"DotConsoleModel", "reduce", "(I)V"⟩, 30) := ⟨⟨by decide +kernel, by decide +kernel⟩, List.mem_of_getElem? (i := 746) (by decide +kernel), List.mem_of_getElem? (i := 921) (by decide +kernel), List.mem_of_getElem? (i := 922) (by decide +kernel)⟩
theorem lw_p47 : lw_okq (⟨"DotConsoleModel", "close", "(IZ)V"⟩, 30) := ⟨⟨by decide +kernel, by decide +kernel⟩, List.mem_of_getElem? (i := 746) (by decide +kernel), List.mem_of_getElem? (i := 925) (by decide +kernel), List.mem_of_getElem? (i := 926) (by decide +kernel)⟩
def lw_privs_3 : List (MethodName × Nat) := [(⟨"DotConsole$Machine", "ofTwo", "(III)I"⟩, 10), (⟨"DotConsole$Machine", "writeCell", "(II)V"⟩, 10), (⟨"DotConsole$Machine", "draw", "(I)V"⟩, 10), (⟨"DotConsoleModel", "cut", "()V"⟩, 30), (⟨"DotConsoleModel", "letter", "(I)Z"⟩, 30), (⟨"DotConsoleModel", "wordKind", "(II)I"⟩, 30), (⟨"DotConsoleModel", "nameOf", "(III)I"⟩, 30), (⟨"DotConsoleModel", "digit", "(I)Z"⟩, 30), (⟨"DotConsoleModel", "numberOf", "(III)I"⟩, 30), (⟨"DotConsoleModel", "good", "()I"⟩, 30), (⟨"DotConsoleModel", "expressions", "(III)I"⟩, 30), (⟨"DotConsoleModel", "work", "(IIZ)I"⟩, 30), (⟨"DotConsoleModel", "put", "(II)V"⟩, 30), (⟨"DotConsoleModel", "one", "()V"⟩, 30), (⟨"DotConsoleModel", "reduce", "(I)V"⟩, 30), (⟨"DotConsoleModel", "close", "(IZ)V"⟩, 30)]
theorem lw_r3 : ∀ q ∈ lw_privs_3, lw_okq q := List.forall_mem_cons.mpr ⟨lw_p32, List.forall_mem_cons.mpr ⟨lw_p33, List.forall_mem_cons.mpr ⟨lw_p34, List.forall_mem_cons.mpr ⟨lw_p35, List.forall_mem_cons.mpr ⟨lw_p36, List.forall_mem_cons.mpr ⟨lw_p37, List.forall_mem_cons.mpr ⟨lw_p38, List.forall_mem_cons.mpr ⟨lw_p39, List.forall_mem_cons.mpr ⟨lw_p40, List.forall_mem_cons.mpr ⟨lw_p41, List.forall_mem_cons.mpr ⟨lw_p42, List.forall_mem_cons.mpr ⟨lw_p43, List.forall_mem_cons.mpr ⟨lw_p44, List.forall_mem_cons.mpr ⟨lw_p45, List.forall_mem_cons.mpr ⟨lw_p46, List.forall_mem_cons.mpr ⟨lw_p47, fun _ h => absurd h List.not_mem_nil⟩⟩⟩⟩⟩⟩⟩⟩⟩⟩⟩⟩⟩⟩⟩⟩
theorem lw_p48 : lw_okq (⟨"DotConsoleModel", "builtIn", "(III)I"⟩, 30) := ⟨⟨by decide +kernel, by decide +kernel⟩, List.mem_of_getElem? (i := 746) (by decide +kernel), List.mem_of_getElem? (i := 929) (by decide +kernel), List.mem_of_getElem? (i := 930) (by decide +kernel)⟩
theorem lw_p49 : lw_okq (⟨"DotConsoleModel", "done", "(II)I"⟩, 30) := ⟨⟨by decide +kernel, by decide +kernel⟩, List.mem_of_getElem? (i := 746) (by decide +kernel), List.mem_of_getElem? (i := 949) (by decide +kernel), List.mem_of_getElem? (i := 950) (by decide +kernel)⟩
theorem lw_p50 : lw_okq (⟨"DotConsoleModel", "box", "(IIIII)V"⟩, 30) := ⟨⟨by decide +kernel, by decide +kernel⟩, List.mem_of_getElem? (i := 746) (by decide +kernel), List.mem_of_getElem? (i := 953) (by decide +kernel), List.mem_of_getElem? (i := 954) (by decide +kernel)⟩
theorem lw_p51 : lw_okq (⟨"DotConsoleModel", "paint", "(IIIZ)V"⟩, 30) := ⟨⟨by decide +kernel, by decide +kernel⟩, List.mem_of_getElem? (i := 746) (by decide +kernel), List.mem_of_getElem? (i := 957) (by decide +kernel), List.mem_of_getElem? (i := 958) (by decide +kernel)⟩
theorem lw_p52 : lw_okq (⟨"DotConsoleModel", "stroke", "(IIIII)V"⟩, 30) := ⟨⟨by decide +kernel, by decide +kernel⟩, List.mem_of_getElem? (i := 746) (by decide +kernel), List.mem_of_getElem? (i := 961) (by decide +kernel), List.mem_of_getElem? (i := 962) (by decide +kernel)⟩
def lw_privs_4 : List (MethodName × Nat) := [(⟨"DotConsoleModel", "builtIn", "(III)I"⟩, 30), (⟨"DotConsoleModel", "done", "(II)I"⟩, 30), (⟨"DotConsoleModel", "box", "(IIIII)V"⟩, 30), (⟨"DotConsoleModel", "paint", "(IIIZ)V"⟩, 30), (⟨"DotConsoleModel", "stroke", "(IIIII)V"⟩, 30)]
theorem lw_r4 : ∀ q ∈ lw_privs_4, lw_okq q := List.forall_mem_cons.mpr ⟨lw_p48, List.forall_mem_cons.mpr ⟨lw_p49, List.forall_mem_cons.mpr ⟨lw_p50, List.forall_mem_cons.mpr ⟨lw_p51, List.forall_mem_cons.mpr ⟨lw_p52, fun _ h => absurd h List.not_mem_nil⟩⟩⟩⟩⟩
def lw_privs : List (MethodName × Nat) := lw_privs_1 ++ (lw_privs_2 ++ (lw_privs_3 ++ (lw_privs_4)))
def lw_tbl : List Cond := k2_sels lw_privs ++ tables_1
theorem lw_privs_ok : ∀ q ∈ lw_privs, lw_okq q := by
  show ∀ q ∈ lw_privs_1 ++ (lw_privs_2 ++ (lw_privs_3 ++ (lw_privs_4))), lw_okq q
  exact List.forall_mem_append.mpr ⟨lw_r1, List.forall_mem_append.mpr ⟨lw_r2, List.forall_mem_append.mpr ⟨lw_r3, lw_r4⟩⟩⟩
end
section
/-! NAMES, WORDS, THE STATE. Printed by wip/whole/build.py. -/
def R_Con : String := "DotConsole"
def F_Con : u_T := fun k => match k with
  | 0 => ("DotConsole", "tokens", "LDotConsole$Tokens;", true)
  | 1 => ("DotConsole", "names", "LDotConsole$Names;", true)
  | 2 => ("DotConsole", "reader", "LDotConsole$LineReader;", true)
  | 3 => ("DotConsole", "program", "LDotConsole$Program;", true)
  | 4 => ("DotConsole", "machine", "LDotConsole$Machine;", true)
  | _ => ("DotConsole", "badPlace", "I", false)
def ty_Con : Nat → FieldType := fun k => match k with
  | 0 => .object "DotConsole$Tokens"
  | 1 => .object "DotConsole$Names"
  | 2 => .object "DotConsole$LineReader"
  | 3 => .object "DotConsole$Program"
  | 4 => .object "DotConsole$Machine"
  | _ => .int
theorem nm_Con : ∀ a, a < 6 → ∀ b, b < 6 → a ≠ b → (F_Con a).2.1 ≠ (F_Con b).2.1 := by decide +kernel
theorem ty_Con_ok : ∀ k, k < 6 → parseFieldDescriptor (F_Con k).2.2.1 = some (ty_Con k) := by decide +kernel
def R_Tokens : String := "DotConsole$Tokens"
def F_Tokens : u_T := fun k => match k with
  | 0 => ("DotConsole$Tokens", "wordKeys", "[I", true)
  | 1 => ("DotConsole$Tokens", "text", "[C", true)
  | 2 => ("DotConsole$Tokens", "length", "I", false)
  | 3 => ("DotConsole$Tokens", "kinds", "[I", true)
  | 4 => ("DotConsole$Tokens", "starts", "[I", true)
  | 5 => ("DotConsole$Tokens", "meanings", "[I", true)
  | 6 => ("DotConsole$Tokens", "found", "I", false)
  | _ => ("DotConsole$Tokens", "next", "I", false)
def ty_Tokens : Nat → FieldType := fun k => match k with
  | 0 => .array .int
  | 1 => .array .char
  | 2 => .int
  | 3 => .array .int
  | 4 => .array .int
  | 5 => .array .int
  | 6 => .int
  | _ => .int
theorem nm_Tokens : ∀ a, a < 8 → ∀ b, b < 8 → a ≠ b → (F_Tokens a).2.1 ≠ (F_Tokens b).2.1 := by decide +kernel
theorem ty_Tokens_ok : ∀ k, k < 8 → parseFieldDescriptor (F_Tokens k).2.2.1 = some (ty_Tokens k) := by decide +kernel
def R_Names : String := "DotConsole$Names"
def F_Names : u_T := fun k => match k with
  | 0 => ("DotConsole$Names", "keys", "[I", true)
  | 1 => ("DotConsole$Names", "kept", "I", false)
  | 2 => ("DotConsole$Names", "seen", "I", false)
  | _ => ("DotConsole$Names", "tooMany", "Z", false)
def ty_Names : Nat → FieldType := fun k => match k with
  | 0 => .array .int
  | 1 => .int
  | 2 => .int
  | _ => .boolean
theorem nm_Names : ∀ a, a < 4 → ∀ b, b < 4 → a ≠ b → (F_Names a).2.1 ≠ (F_Names b).2.1 := by decide +kernel
theorem ty_Names_ok : ∀ k, k < 4 → parseFieldDescriptor (F_Names k).2.2.1 = some (ty_Names k) := by decide +kernel
def R_LineReader : String := "DotConsole$LineReader"
def F_LineReader : u_T := fun k => match k with
  | 0 => ("DotConsole$LineReader", "tokens", "LDotConsole$Tokens;", true)
  | 1 => ("DotConsole$LineReader", "names", "LDotConsole$Names;", true)
  | 2 => ("DotConsole$LineReader", "at", "I", false)
  | 3 => ("DotConsole$LineReader", "statement", "I", false)
  | 4 => ("DotConsole$LineReader", "target", "I", false)
  | 5 => ("DotConsole$LineReader", "kinds", "[I", true)
  | 6 => ("DotConsole$LineReader", "operands", "[I", true)
  | 7 => ("DotConsole$LineReader", "nodeCount", "I", false)
  | 8 => ("DotConsole$LineReader", "levels", "[I", true)
  | 9 => ("DotConsole$LineReader", "levelCount", "I", false)
  | 10 => ("DotConsole$LineReader", "mostLevels", "I", false)
  | 11 => ("DotConsole$LineReader", "waiting", "[I", true)
  | 12 => ("DotConsole$LineReader", "waitingRanks", "[I", true)
  | 13 => ("DotConsole$LineReader", "commasDue", "[I", true)
  | 14 => ("DotConsole$LineReader", "waitingCount", "I", false)
  | 15 => ("DotConsole$LineReader", "outerCommasDue", "I", false)
  | _ => ("DotConsole$LineReader", "wantsPart", "Z", false)
def ty_LineReader : Nat → FieldType := fun k => match k with
  | 0 => .object "DotConsole$Tokens"
  | 1 => .object "DotConsole$Names"
  | 2 => .int
  | 3 => .int
  | 4 => .int
  | 5 => .array .int
  | 6 => .array .int
  | 7 => .int
  | 8 => .array .int
  | 9 => .int
  | 10 => .int
  | 11 => .array .int
  | 12 => .array .int
  | 13 => .array .int
  | 14 => .int
  | 15 => .int
  | _ => .boolean
theorem nm_LineReader : ∀ a, a < 17 → ∀ b, b < 17 → a ≠ b → (F_LineReader a).2.1 ≠ (F_LineReader b).2.1 := by decide +kernel
theorem ty_LineReader_ok : ∀ k, k < 17 → parseFieldDescriptor (F_LineReader k).2.2.1 = some (ty_LineReader k) := by decide +kernel
def R_Program : String := "DotConsole$Program"
def F_Program : u_T := fun k => match k with
  | 0 => ("DotConsole$Program", "lines", "I", false)
  | 1 => ("DotConsole$Program", "sealed", "Z", false)
  | 2 => ("DotConsole$Program", "statements", "[I", true)
  | 3 => ("DotConsole$Program", "targets", "[I", true)
  | 4 => ("DotConsole$Program", "nodeCounts", "[I", true)
  | 5 => ("DotConsole$Program", "kinds", "[I", true)
  | 6 => ("DotConsole$Program", "operands", "[I", true)
  | 7 => ("DotConsole$Program", "jumps", "[I", true)
  | 8 => ("DotConsole$Program", "open", "[I", true)
  | _ => ("DotConsole$Program", "openCount", "I", false)
def ty_Program : Nat → FieldType := fun k => match k with
  | 0 => .int
  | 1 => .boolean
  | 2 => .array .int
  | 3 => .array .int
  | 4 => .array .int
  | 5 => .array .int
  | 6 => .array .int
  | 7 => .array .int
  | 8 => .array .int
  | _ => .int
theorem nm_Program : ∀ a, a < 10 → ∀ b, b < 10 → a ≠ b → (F_Program a).2.1 ≠ (F_Program b).2.1 := by decide +kernel
theorem ty_Program_ok : ∀ k, k < 10 → parseFieldDescriptor (F_Program k).2.2.1 = some (ty_Program k) := by decide +kernel
def R_Machine : String := "DotConsole$Machine"
def F_Machine : u_T := fun k => match k with
  | 0 => ("DotConsole$Machine", "program", "LDotConsole$Program;", true)
  | 1 => ("DotConsole$Machine", "screen", "LDotConsole$Screen;", true)
  | 2 => ("DotConsole$Machine", "pad", "LDotConsole$Pad;", true)
  | 3 => ("DotConsole$Machine", "values", "[I", true)
  | 4 => ("DotConsole$Machine", "cells", "[I", true)
  | 5 => ("DotConsole$Machine", "seed", "I", false)
  | 6 => ("DotConsole$Machine", "frames", "I", false)
  | 7 => ("DotConsole$Machine", "steps", "I", false)
  | 8 => ("DotConsole$Machine", "stack", "[I", true)
  | _ => ("DotConsole$Machine", "stackCount", "I", false)
def ty_Machine : Nat → FieldType := fun k => match k with
  | 0 => .object "DotConsole$Program"
  | 1 => .object "DotConsole$Screen"
  | 2 => .object "DotConsole$Pad"
  | 3 => .array .int
  | 4 => .array .int
  | 5 => .int
  | 6 => .int
  | 7 => .int
  | 8 => .array .int
  | _ => .int
theorem nm_Machine : ∀ a, a < 10 → ∀ b, b < 10 → a ≠ b → (F_Machine a).2.1 ≠ (F_Machine b).2.1 := by decide +kernel
theorem ty_Machine_ok : ∀ k, k < 10 → parseFieldDescriptor (F_Machine k).2.2.1 = some (ty_Machine k) := by decide +kernel
def R_Screen : String := "DotConsole$Screen"
def F_Screen : u_T := fun k => match k with
  | _ => ("DotConsole$Screen", "dots", "[I", true)
def ty_Screen : Nat → FieldType := fun k => match k with
  | _ => .array .int
theorem nm_Screen : ∀ a, a < 1 → ∀ b, b < 1 → a ≠ b → (F_Screen a).2.1 ≠ (F_Screen b).2.1 := by decide +kernel
theorem ty_Screen_ok : ∀ k, k < 1 → parseFieldDescriptor (F_Screen k).2.2.1 = some (ty_Screen k) := by decide +kernel
def R_Pad : String := "DotConsole$Pad"
def F_Pad : u_T := fun k => match k with
  | _ => ("DotConsole$Pad", "framesDown", "[I", true)
def ty_Pad : Nat → FieldType := fun k => match k with
  | _ => .array .int
theorem nm_Pad : ∀ a, a < 1 → ∀ b, b < 1 → a ≠ b → (F_Pad a).2.1 ≠ (F_Pad b).2.1 := by decide +kernel
theorem ty_Pad_ok : ∀ k, k < 1 → parseFieldDescriptor (F_Pad k).2.2.1 = some (ty_Pad k) := by decide +kernel
def R_Mod : String := "DotConsoleModel"
def F_Mod : u_T := fun k => match k with
  | 0 => ("DotConsoleModel", "text", "[C", true)
  | 1 => ("DotConsoleModel", "length", "I", false)
  | 2 => ("DotConsoleModel", "kind", "[I", true)
  | 3 => ("DotConsoleModel", "meaning", "[I", true)
  | 4 => ("DotConsoleModel", "where", "[I", true)
  | 5 => ("DotConsoleModel", "tokens", "[I", true)
  | 6 => ("DotConsoleModel", "nodes", "[I", true)
  | 7 => ("DotConsoleModel", "lines", "I", false)
  | 8 => ("DotConsoleModel", "place", "I", false)
  | 9 => ("DotConsoleModel", "nameText", "[C", true)
  | 10 => ("DotConsoleModel", "names", "I", false)
  | 11 => ("DotConsoleModel", "values", "[I", true)
  | 12 => ("DotConsoleModel", "sealed", "Z", false)
  | 13 => ("DotConsoleModel", "other", "[I", true)
  | 14 => ("DotConsoleModel", "cells", "[I", true)
  | 15 => ("DotConsoleModel", "dots", "[I", true)
  | 16 => ("DotConsoleModel", "held", "[I", true)
  | 17 => ("DotConsoleModel", "seed", "I", false)
  | 18 => ("DotConsoleModel", "frames", "I", false)
  | 19 => ("DotConsoleModel", "steps", "I", false)
  | 20 => ("DotConsoleModel", "numbers", "[I", true)
  | 21 => ("DotConsoleModel", "heights", "[I", true)
  | 22 => ("DotConsoleModel", "top", "I", false)
  | 23 => ("DotConsoleModel", "ops", "[I", true)
  | 24 => ("DotConsoleModel", "opTop", "I", false)
  | 25 => ("DotConsoleModel", "next", "I", false)
  | 26 => ("DotConsoleModel", "counted", "I", false)
  | 27 => ("DotConsoleModel", "highest", "I", false)
  | 28 => ("DotConsoleModel", "args", "[I", true)
  | _ => ("DotConsoleModel", "newNames", "I", false)
def ty_Mod : Nat → FieldType := fun k => match k with
  | 0 => .array .char
  | 1 => .int
  | 2 => .array .int
  | 3 => .array .int
  | 4 => .array .int
  | 5 => .array .int
  | 6 => .array .int
  | 7 => .int
  | 8 => .int
  | 9 => .array .char
  | 10 => .int
  | 11 => .array .int
  | 12 => .boolean
  | 13 => .array .int
  | 14 => .array .int
  | 15 => .array .int
  | 16 => .array .int
  | 17 => .int
  | 18 => .int
  | 19 => .int
  | 20 => .array .int
  | 21 => .array .int
  | 22 => .int
  | 23 => .array .int
  | 24 => .int
  | 25 => .int
  | 26 => .int
  | 27 => .int
  | 28 => .array .int
  | _ => .int
theorem nm_Mod : ∀ a, a < 30 → ∀ b, b < 30 → a ≠ b → (F_Mod a).2.1 ≠ (F_Mod b).2.1 := by decide +kernel
theorem ty_Mod_ok : ∀ k, k < 30 → parseFieldDescriptor (F_Mod k).2.2.1 = some (ty_Mod k) := by decide +kernel
def classes : List vw_C := [(R_Con, F_Con, 6), (R_Tokens, F_Tokens, 8), (R_Names, F_Names, 4), (R_LineReader, F_LineReader, 17), (R_Program, F_Program, 10), (R_Machine, F_Machine, 10), (R_Screen, F_Screen, 1), (R_Pad, F_Pad, 1), (R_Mod, F_Mod, 30)]
def ax_T : List Cond := lw_tbl.filter goodWord
theorem ax_mem {z : Cond} (h1 : z ∈ lw_tbl) (h2 : goodWord z = true) : z ∈ ax_T := List.mem_filter.mpr ⟨h1, h2⟩
theorem ax_T_good : ∀ z ∈ ax_T, (z.onTables && z.keeps) = true ∨ ∃ ty, z = .arrayClass ty := fun z h => good_of_word (List.mem_filter.mp h).2
def ax_N : List Cond := [.fieldLinkNest "DotConsole$Tokens" 84 "DotConsole" "TENS" "[I" "DotConsole", .fieldLinkNest "DotConsole$LineReader" 68 "DotConsole" "PARTS" "[I" "DotConsole", .methodLinkNest "DotConsole" 18 ⟨"DotConsole$Names", "<init>", "()V"⟩ "DotConsole", .methodLinkNest "DotConsole" 34 ⟨"DotConsole$Program", "<init>", "()V"⟩ "DotConsole", .methodLinkNest "DotConsole$Machine" 11 ⟨"DotConsole$Screen", "<init>", "()V"⟩ "DotConsole", .methodLinkNest "DotConsole$Machine" 20 ⟨"DotConsole$Pad", "<init>", "()V"⟩ "DotConsole", .methodLinkNest "DotConsole$LineReader" 122 ⟨"DotConsole", "isBuiltIn", "(I)Z"⟩ "DotConsole", .methodLinkNest "DotConsole$LineReader" 134 ⟨"DotConsole", "rankOf", "(I)I"⟩ "DotConsole", .methodLinkNest "DotConsole$Machine" 128 ⟨"DotConsole", "partsOf", "(I)I"⟩ "DotConsole"]
theorem ax_N_in : ∀ z ∈ ax_N, z ∈ lw_tbl := by decide +kernel
theorem ax_N_warm {s U : State} (hW : s.WarmedH U.vm) (h : ∀ z ∈ ax_N, va_Nw z s) : ∀ z ∈ ax_N, va_Nw z U :=
  List.forall_mem_cons.mpr ⟨va_Nw.warmF hW (h _ (List.mem_of_getElem? (i := 0) rfl)), List.forall_mem_cons.mpr ⟨va_Nw.warmF hW (h _ (List.mem_of_getElem? (i := 1) rfl)), List.forall_mem_cons.mpr ⟨va_Nw.warmM hW (h _ (List.mem_of_getElem? (i := 2) rfl)), List.forall_mem_cons.mpr ⟨va_Nw.warmM hW (h _ (List.mem_of_getElem? (i := 3) rfl)), List.forall_mem_cons.mpr ⟨va_Nw.warmM hW (h _ (List.mem_of_getElem? (i := 4) rfl)), List.forall_mem_cons.mpr ⟨va_Nw.warmM hW (h _ (List.mem_of_getElem? (i := 5) rfl)), List.forall_mem_cons.mpr ⟨va_Nw.warmM hW (h _ (List.mem_of_getElem? (i := 6) rfl)), List.forall_mem_cons.mpr ⟨va_Nw.warmM hW (h _ (List.mem_of_getElem? (i := 7) rfl)), List.forall_mem_cons.mpr ⟨va_Nw.warmM hW (h _ (List.mem_of_getElem? (i := 8) rfl)), fun _ h => absurd h List.not_mem_nil⟩⟩⟩⟩⟩⟩⟩⟩⟩
theorem ax_N_same {u U : State} (hv : u.vm = U.vm) (h : ∀ z ∈ ax_N, va_Nw z u) : ∀ z ∈ ax_N, va_Nw z U :=
  List.forall_mem_cons.mpr ⟨va_Nw.same rfl hv (h _ (List.mem_of_getElem? (i := 0) rfl)), List.forall_mem_cons.mpr ⟨va_Nw.same rfl hv (h _ (List.mem_of_getElem? (i := 1) rfl)), List.forall_mem_cons.mpr ⟨va_Nw.same rfl hv (h _ (List.mem_of_getElem? (i := 2) rfl)), List.forall_mem_cons.mpr ⟨va_Nw.same rfl hv (h _ (List.mem_of_getElem? (i := 3) rfl)), List.forall_mem_cons.mpr ⟨va_Nw.same rfl hv (h _ (List.mem_of_getElem? (i := 4) rfl)), List.forall_mem_cons.mpr ⟨va_Nw.same rfl hv (h _ (List.mem_of_getElem? (i := 5) rfl)), List.forall_mem_cons.mpr ⟨va_Nw.same rfl hv (h _ (List.mem_of_getElem? (i := 6) rfl)), List.forall_mem_cons.mpr ⟨va_Nw.same rfl hv (h _ (List.mem_of_getElem? (i := 7) rfl)), List.forall_mem_cons.mpr ⟨va_Nw.same rfl hv (h _ (List.mem_of_getElem? (i := 8) rfl)), fun _ h => absurd h List.not_mem_nil⟩⟩⟩⟩⟩⟩⟩⟩⟩
theorem i_Con : ∀ z ∈ u_ws R_Con F_Con 6, z ∈ ax_T := fun z h => ax_mem ((by decide +kernel : ∀ z ∈ u_ws R_Con F_Con 6, z ∈ lw_tbl) z h) ((by decide +kernel : ∀ z ∈ u_ws R_Con F_Con 6, goodWord z = true) z h)
theorem i_Tokens : ∀ z ∈ u_ws R_Tokens F_Tokens 8, z ∈ ax_T := fun z h => ax_mem ((by decide +kernel : ∀ z ∈ u_ws R_Tokens F_Tokens 8, z ∈ lw_tbl) z h) ((by decide +kernel : ∀ z ∈ u_ws R_Tokens F_Tokens 8, goodWord z = true) z h)
theorem i_Names : ∀ z ∈ u_ws R_Names F_Names 4, z ∈ ax_T := fun z h => ax_mem ((by decide +kernel : ∀ z ∈ u_ws R_Names F_Names 4, z ∈ lw_tbl) z h) ((by decide +kernel : ∀ z ∈ u_ws R_Names F_Names 4, goodWord z = true) z h)
theorem i_LineReader : ∀ z ∈ u_ws R_LineReader F_LineReader 17, z ∈ ax_T := fun z h => ax_mem ((by decide +kernel : ∀ z ∈ u_ws R_LineReader F_LineReader 17, z ∈ lw_tbl) z h) ((by decide +kernel : ∀ z ∈ u_ws R_LineReader F_LineReader 17, goodWord z = true) z h)
theorem i_Program : ∀ z ∈ u_ws R_Program F_Program 10, z ∈ ax_T := fun z h => ax_mem ((by decide +kernel : ∀ z ∈ u_ws R_Program F_Program 10, z ∈ lw_tbl) z h) ((by decide +kernel : ∀ z ∈ u_ws R_Program F_Program 10, goodWord z = true) z h)
theorem i_Machine : ∀ z ∈ u_ws R_Machine F_Machine 10, z ∈ ax_T := fun z h => ax_mem ((by decide +kernel : ∀ z ∈ u_ws R_Machine F_Machine 10, z ∈ lw_tbl) z h) ((by decide +kernel : ∀ z ∈ u_ws R_Machine F_Machine 10, goodWord z = true) z h)
theorem i_Screen : ∀ z ∈ u_ws R_Screen F_Screen 1, z ∈ ax_T := fun z h => ax_mem ((by decide +kernel : ∀ z ∈ u_ws R_Screen F_Screen 1, z ∈ lw_tbl) z h) ((by decide +kernel : ∀ z ∈ u_ws R_Screen F_Screen 1, goodWord z = true) z h)
theorem i_Pad : ∀ z ∈ u_ws R_Pad F_Pad 1, z ∈ ax_T := fun z h => ax_mem ((by decide +kernel : ∀ z ∈ u_ws R_Pad F_Pad 1, z ∈ lw_tbl) z h) ((by decide +kernel : ∀ z ∈ u_ws R_Pad F_Pad 1, goodWord z = true) z h)
theorem i_Mod : ∀ z ∈ u_ws R_Mod F_Mod 30, z ∈ ax_T := fun z h => ax_mem ((by decide +kernel : ∀ z ∈ u_ws R_Mod F_Mod 30, z ∈ lw_tbl) z h) ((by decide +kernel : ∀ z ∈ u_ws R_Mod F_Mod 30, goodWord z = true) z h)
/-- what a run of the system takes as given: the classes' numbers, addresses of the cells, the array classes, addresses of the static tables and texts -/
abbrev ax_G : Type := va_G × (Nat → Nat) × (Nat → ClassId) × (Nat → Nat)
abbrev ax_tys (g : ax_G) : List (ClassId × FieldType) := [(g.2.2.1 0, .int), (g.2.2.1 1, .char)]
def tPARTS : Nat → Int32 := fun j => ([1, 0, 1, 0, 1, 3, 5, 5, 2, 1, 1, 1, 1, 2, 2, 2, 1] : List Int32).getD j 0
def tTENS : Nat → Int32 := fun j => ([1, 10, 100, 1000, 10000] : List Int32).getD j 0
def ax_len : List Nat := [102, 15]
def ax_byt : List (List Int32) := [[105, 102, 32, 32, 32, 32, 101, 108, 115, 101, 32, 32, 119, 104, 105, 108, 101, 32, 101, 110, 100, 32, 32, 32, 99, 108, 115, 32, 32, 32, 112, 115, 101, 116, 32, 32, 108, 105, 110, 101, 32, 32, 98, 111, 120, 32, 32, 32, 112, 111, 107, 101, 32, 32, 97, 98, 115, 32, 32, 32, 102, 108, 114, 32, 32, 32, 98, 116, 110, 32, 32, 32, 98, 116, 110, 112, 32, 32, 109, 105, 110, 32, 32, 32, 109, 97, 120, 32, 32, 32, 112, 103, 101, 116, 32, 32, 114, 110, 100, 32, 32, 32], [43, 45, 42, 47, 37, 60, 62, 61, 38, 124, 33, 64, 44, 40, 41]]
/-- what stays: the tables, the static arrays, the texts -/
def ax_K (g : ax_G) (A : Nat → Prop) (U : State) (H : Heap) : Prop := va_K g.1 classes (ax_tys g) U ∧ (∀ z ∈ ax_N, va_Nw z U) ∧
  (va_Z "DotConsole" "PARTS" "[I" (.ref (g.2.2.2 0)) A U H ∧ va_T .int (g.2.2.2 0) 17 (fun j => .int (tPARTS j)) A U H) ∧
  (va_Z "DotConsole" "TENS" "[I" (.ref (g.2.2.2 1)) A U H ∧ va_T .int (g.2.2.2 1) 5 (fun j => .int (tTENS j)) A U H) ∧
  vk_R "DotConsole$Tokens" 28 "if    else  while end   cls   pset  line  box   poke  abs   flr   btn   btnp  min   max   pget  rnd   " (g.2.2.2 2) U ∧ vk_R "DotConsole$Tokens" 67 "+-*/%<>=&|!@,()" (g.2.2.2 3) U ∧
  vk_S 2 ax_len ax_byt (fun i => g.2.2.2 (2 + i)) (fun i => g.2.2.2 (4 + i)) A U H ∧ va_Z "java/lang/String" "COMPACT_STRINGS" "Z" (.int 1) A U H
theorem ax_K.to {g : ax_G} {A B : Nat → Prop} {s U : State} {H : Heap} {locs : List Loc} (h : ax_K g A s s.heap) (hS : va_S A s.heap H locs) (hF : ∀ q, B q → A q) (hW : s.WarmedH U.vm) (hU : U.heap = H) : ax_K g B U U.heap := by
  subst hU
  obtain ⟨h1, h2, ⟨h3, h4⟩, ⟨h5, h6⟩, h7, h8, h9, h10⟩ := h
  have hq := hS.2.1
  have al := hW.alike
  exact ⟨va_K.moved al h1, ax_N_warm hW h2, ⟨va_Z.moved al ((h3.kept hq).narrow hF), va_T.moved al ((h4.kept hq).narrow hF)⟩, ⟨va_Z.moved al ((h5.kept hq).narrow hF), va_T.moved al ((h6.kept hq).narrow hF)⟩, vk_R.warm hW h7, vk_R.warm hW h8, vk_S.moved al ((h9.kept hq).narrow hF), va_Z.moved al ((h10.kept hq).narrow hF)⟩
theorem ax_K.call {g : ax_G} {A : Nat → Prop} {U : State} {H : Heap} {gg : JFrame} {mk : MethodId} {a : Array Value} (h : ax_K g A U H) : ax_K g A (U.calling gg mk a) H := by
  obtain ⟨h1, h2, ⟨h3, h4⟩, ⟨h5, h6⟩, h7, h8, h9, h10⟩ := h
  have al : U.vm.Alike (U.calling gg mk a).vm := Vm.Alike.refl U.vm
  exact ⟨va_K.moved al h1, ax_N_same (u := U) rfl h2, ⟨va_Z.moved al h3, va_T.moved al h4⟩, ⟨va_Z.moved al h5, va_T.moved al h6⟩, vk_R.same (u := U) rfl h7, vk_R.same (u := U) rfl h8, vk_S.moved al h9, va_Z.moved al h10⟩
/-- the state: scalar fields, arrays -/
abbrev St : Type := (Nat → Int32) × (Nat → Nat → Int32)
def sF (σ : St) (k : Nat) (v : Int32) : St := (upd σ.1 k v, σ.2)
def sA (σ : St) (k i : Nat) (v : Int32) : St := (σ.1, va_up σ.2 k (upd (σ.2 k) i v))
def sC (σ : St) (k0 k1 sp dp n : Nat) : St := (σ.1, va_up σ.2 k1 (va_cpy (σ.2 k0) (σ.2 k1) sp dp n))
def inB (i : Int32) (N : Nat) : Bool := !(decide (i < 0) || decide (N ≤ i.toNatClampNeg))
theorem inB_vp {i : Int32} {N : Nat} (h : inB i N = true) : vp_in i N := by
  unfold inB at h
  unfold vp_in
  simpa using h
def cpB (sp dp n : Int32) (n0 n1 : Nat) : Bool := !(decide (sp < 0)) && (!(decide (dp < 0)) && (!(decide (n < 0)) && (decide (sp.toNatClampNeg + n.toNatClampNeg ≤ n0) && decide (dp.toNatClampNeg + n.toNatClampNeg ≤ n1))))
def ax_let {α β : Type} (v : α) (f : α → β) : β := f v
theorem ax_letE {α β : Type} {v : α} {f : α → β} {y : β} (h : ax_let v f = y) : ∃ u, v = u ∧ f u = y := ⟨v, rfl, h⟩
theorem ax_need {α : Type} {b : Bool} {X : Option α} {y : α} (h : (if b = true then X else none) = some y) : b = true ∧ X = some y := by
  by_cases hb : b = true
  · rw [if_pos hb] at h; exact ⟨hb, h⟩
  · rw [if_neg hb] at h; cases h
theorem ax_need0 {α β : Type} {e z : β} [DecidableEq β] {X : Option α} {y : α} (h : (if e = z then none else X) = some y) : ¬ e = z ∧ X = some y := by
  by_cases hb : e = z
  · rw [if_pos hb] at h; cases h
  · rw [if_neg hb] at h; exact ⟨hb, h⟩
theorem ax_ifE {α : Type} {c : Prop} [Decidable c] {X Y y : α} (h : (if c then X else Y) = y) : (c ∧ X = y) ∨ (¬ c ∧ Y = y) := by
  by_cases hb : c
  · rw [if_pos hb] at h; exact Or.inl ⟨hb, h⟩
  · rw [if_neg hb] at h; exact Or.inr ⟨hb, h⟩
def ax_bind {α : Type} (o : Option (Int32 × St)) (f : Int32 → St → Option α) : Option α := match o with
  | none => none
  | some p => f p.1 p.2
def ax_bindV {α : Type} (o : Option St) (f : St → Option α) : Option α := match o with
  | none => none
  | some p => f p
theorem ax_bindE {α : Type} {o : Option (Int32 × St)} {f : Int32 → St → Option α} {y : α} (h : ax_bind o f = some y) : ∃ r σ, o = some (r, σ) ∧ f r σ = some y := by
  cases o with
  | none => cases h
  | some p => exact ⟨p.1, p.2, rfl, h⟩
theorem ax_bindVE {α : Type} {o : Option St} {f : St → Option α} {y : α} (h : ax_bindV o f = some y) : ∃ σ, o = some σ ∧ f σ = some y := by
  cases o with
  | none => cases h
  | some p => exact ⟨p, rfl, h⟩
def ax_eqI (r : Int32) (s : St) : Int32 → St → Prop := fun r' s' => r' = r ∧ s' = s
def ax_eqZ (r : Int32) (s : St) : Int32 → St → Prop := fun r' s' => r' = r ∧ s' = s ∧ narrow .boolean (.int r') = .int r'
def ax_eqV (s : St) : St → Prop := fun s' => s' = s
theorem ax_ret {a r : Int32} {b s : St} (h : some (a, b) = some (r, s)) : ax_eqI r s a b := by cases h; exact ⟨rfl, rfl⟩
theorem ax_retZ {a r : Int32} {b s : St} (h : some (a, b) = some (r, s)) (hn : narrow .boolean (.int a) = .int a) : ax_eqZ r s a b := by cases h; exact ⟨rfl, rfl, hn⟩
theorem ax_retV {b s : St} (h : some b = some s) : ax_eqV s b := by cases h; rfl
end
section
/-! THE FIXED WORLD: judgement AW (the machine at pc with locals lv, operand stack st, in the world's state σ), its contracts ax_CI, ax_CV, and a row an instruction. Printed by wip/whole/gen_ax.py. -/
abbrev ax_X : Type := Program × Launch × Env × Room × State × MethodId × Array Value × List Frame × Method × Code
/-- a method: bytes, locals, its class, what it returns, the frames and the locals' words that it has room for -/
abbrev ax_M : Type := ByteArray × Nat × String × Option FieldType × Nat × Nat
def ax_R (d : Nat × Nat) : Room := { frames := d.1, cells := 0, slots := 0, locals := d.2 }
def ax_C (x : ax_X) (μ : ax_M) (g : ax_G) (A : Nat → Prop) : Prop := match x, μ with
  | (p, _, _, R, s, m, args, _, meth, c), (cc, nL, own, ret, d) => p.tables.exec = Jvm.exec ∧ c.code = cc ∧ c.maxLocals = nL ∧ s.vm.findClass own = some m.cls ∧ (∀ w ∈ ax_T, w.before args s = true) ∧ meth.locks = false ∧ meth.sig.returnType = ret ∧ (∀ q : Nat, s.heap.size ≤ q → A q) ∧ ax_K g A s s.heap ∧ (d.1 ≤ R.frames ∧ d.2 ≤ R.locals)
def AW {τ : Type} (x : ax_X) (μ : ax_M) (g : ax_G) (A : Nat → Prop) (w : τ → va_W) (Q : State → Prop) (pc : Nat) (lv : List (Nat × Value)) (st : List Value) (σ : τ) : Prop := match x, μ with
  | (p, l, e, R, s, m, args, below, meth, c), (cc, nL, own, ret, d) => ax_C (p, l, e, R, s, m, args, below, meth, c) (cc, nL, own, ret, d) g A → ∀ (H : Heap) (locs : List Loc) (ls : Array Slot), va_P g.1 classes (w σ) H → va_D A (w σ) → va_S A s.heap H locs → lv_has ls nL lv → W p l e R s m args below meth c H locs 0 0 Q (F0 m pc ls st)
def ax_B {τ : Type} (g : ax_G) (A : Nat → Prop) (w : τ → va_W) (σ : τ) (t : State) : Prop := va_P g.1 classes (w σ) t.heap ∧ va_D A (w σ)
def ax_QI {τ : Type} (x : ax_X) (g : ax_G) (A : Nat → Prop) (w : τ → va_W) (post : Int32 → τ → Prop) : State → Prop := match x with
  | (_, _, _, _, s, _, args, below, _, _) => MQ below (va_Qi post (ax_B g A w) A) args s 0 0 A
def ax_QV {τ : Type} (x : ax_X) (g : ax_G) (A : Nat → Prop) (w : τ → va_W) (post : τ → Prop) : State → Prop := match x with
  | (_, _, _, _, s, _, args, below, _, _) => MQ below (va_Qv post (ax_B g A w) A) args s 0 0 A
def ax_Pre {τ : Type} (g : ax_G) (w : τ → va_W) (σ : τ) (sz : Nat) (U : State) : Prop := U.heap.size = sz ∧ ax_K g (va_A (w σ) sz) U U.heap ∧ va_P g.1 classes (w σ) U.heap ∧ va_D (fun _ => True) (w σ)
/-- a method's contract in the fixed world: it answers an int -/
def ax_CI {τ : Type} (μ : ax_M) (g : ax_G) (y : MethodName) (w : τ → va_W) (av : List Value) (σ : τ) (post : Int32 → τ → Prop) : Prop := ∀ (l : Launch) (sz : Nat), Met l y (.code y μ.1 μ.2.1 μ.2.2.2.1 :: ax_T) (ax_R μ.2.2.2.2) (va_Pc av (ax_Pre g w σ sz)) (va_Qi post (ax_B g (va_A (w σ) sz) w) (va_A (w σ) sz)) 0 0 (va_A (w σ) sz)
def ax_CV {τ : Type} (μ : ax_M) (g : ax_G) (y : MethodName) (w : τ → va_W) (av : List Value) (σ : τ) (post : τ → Prop) : Prop := ∀ (l : Launch) (sz : Nat), Met l y (.code y μ.1 μ.2.1 μ.2.2.2.1 :: ax_T) (ax_R μ.2.2.2.2) (va_Pc av (ax_Pre g w σ sz)) (va_Qv post (ax_B g (va_A (w σ) sz) w) (va_A (w σ) sz)) 0 0 (va_A (w σ) sz)
section AX
variable {τ : Type} {x : ax_X} {μ : ax_M} {g : ax_G} {A : Nat → Prop} {w : τ → va_W} {Q : State → Prop} {pc n : Nat} {lv lv' : List (Nat × Value)} {rest : List Value} {σ : τ}

theorem aw_iconst {i : Int} {v : Int32} (hd : decode μ.1 pc = .ok (.iconst i, 1)) (hn : pc + 1 = n) (hv : Int32.ofInt i = v) (k : AW x μ g A w Q n lv (.int v :: rest) σ) : AW x μ g A w Q pc lv (rest) σ := by
  obtain ⟨p, l, e, R, s, m, args, below, meth, c⟩ := x
  obtain ⟨cc, nL, own, ret, d⟩ := μ
  subst hn
  intro hC H locs ls hP hD hS hl
  obtain ⟨hx, hb, hml, hown, hts, hlk, hrt, hA, hK, hR⟩ := id hC
  exact lv_iconst hx hb hd hv (k hC H locs ls hP hD hS hl)
theorem aw_bipush {i : Int} {v : Int32} (hd : decode μ.1 pc = .ok (.bipush i, 2)) (hn : pc + 2 = n) (hv : (Int8.ofInt i).toInt32 = v) (k : AW x μ g A w Q n lv (.int v :: rest) σ) : AW x μ g A w Q pc lv (rest) σ := by
  obtain ⟨p, l, e, R, s, m, args, below, meth, c⟩ := x
  obtain ⟨cc, nL, own, ret, d⟩ := μ
  subst hn
  intro hC H locs ls hP hD hS hl
  obtain ⟨hx, hb, hml, hown, hts, hlk, hrt, hA, hK, hR⟩ := id hC
  exact lv_bipush hx hb hd hv (k hC H locs ls hP hD hS hl)
theorem aw_sipush {i : Int} {v : Int32} (hd : decode μ.1 pc = .ok (.sipush i, 3)) (hn : pc + 3 = n) (hv : (Int16.ofInt i).toInt32 = v) (k : AW x μ g A w Q n lv (.int v :: rest) σ) : AW x μ g A w Q pc lv (rest) σ := by
  obtain ⟨p, l, e, R, s, m, args, below, meth, c⟩ := x
  obtain ⟨cc, nL, own, ret, d⟩ := μ
  subst hn
  intro hC H locs ls hP hD hS hl
  obtain ⟨hx, hb, hml, hown, hts, hlk, hrt, hA, hK, hR⟩ := id hC
  exact lv_sipush hx hb hd hv (k hC H locs ls hP hD hS hl)
theorem aw_lconst {i : Fin 2} {v : Int64} (hd : decode μ.1 pc = .ok (.lconst i, 1)) (hn : pc + 1 = n) (hv : Int64.ofNat (i : Nat) = v) (k : AW x μ g A w Q n lv (.long v :: rest) σ) : AW x μ g A w Q pc lv (rest) σ := by
  obtain ⟨p, l, e, R, s, m, args, below, meth, c⟩ := x
  obtain ⟨cc, nL, own, ret, d⟩ := μ
  subst hn
  intro hC H locs ls hP hD hS hl
  obtain ⟨hx, hb, hml, hown, hts, hlk, hrt, hA, hK, hR⟩ := id hC
  exact lv_lconst hx hb hd hv (k hC H locs ls hP hD hS hl)
theorem aw_ldc {i : Nat} {v : Int32} (hd : decode μ.1 pc = .ok (.ldc i, 2)) (hn : pc + 2 = n) (hw : Jvm.Cond.constant μ.2.2.1 i v ∈ ax_T) (k : AW x μ g A w Q n lv (.int v :: rest) σ) : AW x μ g A w Q pc lv (rest) σ := by
  obtain ⟨p, l, e, R, s, m, args, below, meth, c⟩ := x
  obtain ⟨cc, nL, own, ret, d⟩ := μ
  subst hn
  intro hC H locs ls hP hD hS hl
  obtain ⟨hx, hb, hml, hown, hts, hlk, hrt, hA, hK, hR⟩ := id hC
  exact lv_ldc hx hb hown (hts _ hw) hd (k hC H locs ls hP hD hS hl)
theorem aw_ldcw {i : Nat} {v : Int32} (hd : decode μ.1 pc = .ok (.ldc_w i, 3)) (hn : pc + 3 = n) (hw : Jvm.Cond.constant μ.2.2.1 i v ∈ ax_T) (k : AW x μ g A w Q n lv (.int v :: rest) σ) : AW x μ g A w Q pc lv (rest) σ := by
  obtain ⟨p, l, e, R, s, m, args, below, meth, c⟩ := x
  obtain ⟨cc, nL, own, ret, d⟩ := μ
  subst hn
  intro hC H locs ls hP hD hS hl
  obtain ⟨hx, hb, hml, hown, hts, hlk, hrt, hA, hK, hR⟩ := id hC
  exact lv_ldcw hx hb hown (hts _ hw) hd (k hC H locs ls hP hD hS hl)
theorem aw_ldc2 {i : Nat} {v : Int64} (hd : decode μ.1 pc = .ok (.ldc2_w i, 3)) (hn : pc + 3 = n) (hw : Jvm.Cond.constantLong μ.2.2.1 i v ∈ ax_T) (k : AW x μ g A w Q n lv (.long v :: rest) σ) : AW x μ g A w Q pc lv (rest) σ := by
  obtain ⟨p, l, e, R, s, m, args, below, meth, c⟩ := x
  obtain ⟨cc, nL, own, ret, d⟩ := μ
  subst hn
  intro hC H locs ls hP hD hS hl
  obtain ⟨hx, hb, hml, hown, hts, hlk, hrt, hA, hK, hR⟩ := id hC
  exact lv_ldc2 hx hb hown (hts _ hw) hd (k hC H locs ls hP hD hS hl)
theorem aw_iload_n {f : Fin 4} {i : Nat} {v : Int32} (hd : decode μ.1 pc = .ok (.iload_n f, 1)) (hn : pc + 1 = n) (hi : (f : Nat) = i) (j : Nat) (hj : lv[j]? = some (i, .int v)) (k : AW x μ g A w Q n lv (.int v :: rest) σ) : AW x μ g A w Q pc lv (rest) σ := by
  obtain ⟨p, l, e, R, s, m, args, below, meth, c⟩ := x
  obtain ⟨cc, nL, own, ret, d⟩ := μ
  subst hn
  intro hC H locs ls hP hD hS hl
  obtain ⟨hx, hb, hml, hown, hts, hlk, hrt, hA, hK, hR⟩ := id hC
  exact lv_iload_n hx hb hd hi (lv_at hl j hj) (k hC H locs ls hP hD hS hl)
theorem aw_iload {i : Nat} {v : Int32} (hd : decode μ.1 pc = .ok (.iload i, 2)) (hn : pc + 2 = n) (j : Nat) (hj : lv[j]? = some (i, .int v)) (k : AW x μ g A w Q n lv (.int v :: rest) σ) : AW x μ g A w Q pc lv (rest) σ := by
  obtain ⟨p, l, e, R, s, m, args, below, meth, c⟩ := x
  obtain ⟨cc, nL, own, ret, d⟩ := μ
  subst hn
  intro hC H locs ls hP hD hS hl
  obtain ⟨hx, hb, hml, hown, hts, hlk, hrt, hA, hK, hR⟩ := id hC
  exact lv_iload hx hb hd (lv_at hl j hj) (k hC H locs ls hP hD hS hl)
theorem aw_lload_n {f : Fin 4} {i : Nat} {v : Int64} (hd : decode μ.1 pc = .ok (.lload_n f, 1)) (hn : pc + 1 = n) (hi : (f : Nat) = i) (j : Nat) (hj : lv[j]? = some (i, .long v)) (k : AW x μ g A w Q n lv (.long v :: rest) σ) : AW x μ g A w Q pc lv (rest) σ := by
  obtain ⟨p, l, e, R, s, m, args, below, meth, c⟩ := x
  obtain ⟨cc, nL, own, ret, d⟩ := μ
  subst hn
  intro hC H locs ls hP hD hS hl
  obtain ⟨hx, hb, hml, hown, hts, hlk, hrt, hA, hK, hR⟩ := id hC
  exact lv_lload_n hx hb hd hi (lv_at hl j hj) (k hC H locs ls hP hD hS hl)
theorem aw_lload {i : Nat} {v : Int64} (hd : decode μ.1 pc = .ok (.lload i, 2)) (hn : pc + 2 = n) (j : Nat) (hj : lv[j]? = some (i, .long v)) (k : AW x μ g A w Q n lv (.long v :: rest) σ) : AW x μ g A w Q pc lv (rest) σ := by
  obtain ⟨p, l, e, R, s, m, args, below, meth, c⟩ := x
  obtain ⟨cc, nL, own, ret, d⟩ := μ
  subst hn
  intro hC H locs ls hP hD hS hl
  obtain ⟨hx, hb, hml, hown, hts, hlk, hrt, hA, hK, hR⟩ := id hC
  exact lv_lload hx hb hd (lv_at hl j hj) (k hC H locs ls hP hD hS hl)
theorem aw_aload_n {f : Fin 4} {i : Nat} {v : Nat} (hd : decode μ.1 pc = .ok (.aload_n f, 1)) (hn : pc + 1 = n) (hi : (f : Nat) = i) (j : Nat) (hj : lv[j]? = some (i, .ref v)) (k : AW x μ g A w Q n lv (.ref v :: rest) σ) : AW x μ g A w Q pc lv (rest) σ := by
  obtain ⟨p, l, e, R, s, m, args, below, meth, c⟩ := x
  obtain ⟨cc, nL, own, ret, d⟩ := μ
  subst hn
  intro hC H locs ls hP hD hS hl
  obtain ⟨hx, hb, hml, hown, hts, hlk, hrt, hA, hK, hR⟩ := id hC
  exact lv_aload_n hx hb hd hi (lv_at hl j hj) (k hC H locs ls hP hD hS hl)
theorem aw_aload {i : Nat} {v : Nat} (hd : decode μ.1 pc = .ok (.aload i, 2)) (hn : pc + 2 = n) (j : Nat) (hj : lv[j]? = some (i, .ref v)) (k : AW x μ g A w Q n lv (.ref v :: rest) σ) : AW x μ g A w Q pc lv (rest) σ := by
  obtain ⟨p, l, e, R, s, m, args, below, meth, c⟩ := x
  obtain ⟨cc, nL, own, ret, d⟩ := μ
  subst hn
  intro hC H locs ls hP hD hS hl
  obtain ⟨hx, hb, hml, hown, hts, hlk, hrt, hA, hK, hR⟩ := id hC
  exact lv_aload hx hb hd (lv_at hl j hj) (k hC H locs ls hP hD hS hl)
theorem aw_istore_n {f : Fin 4} {i : Nat} {v : Int32} (hd : decode μ.1 pc = .ok (.istore_n f, 1)) (hn : pc + 1 = n) (hi : (f : Nat) = i) (hj : i < μ.2.1) (hf : (i, Value.int v) :: lv.filter (fun q => !(q.1 == i) && !(q.1 + 1 == i && q.2.category == 2)) = lv') (k : AW x μ g A w Q n lv' (rest) σ) : AW x μ g A w Q pc lv (.int v :: rest) σ := by
  obtain ⟨p, l, e, R, s, m, args, below, meth, c⟩ := x
  obtain ⟨cc, nL, own, ret, d⟩ := μ
  subst hn
  intro hC H locs ls hP hD hS hl
  obtain ⟨hx, hb, hml, hown, hts, hlk, hrt, hA, hK, hR⟩ := id hC
  exact lv_istore_n hx hb hd hi hl hj hf (fun ls hl => k hC H locs ls hP hD hS hl)
theorem aw_istore {i : Nat} {v : Int32} (hd : decode μ.1 pc = .ok (.istore i, 2)) (hn : pc + 2 = n) (hj : i < μ.2.1) (hf : (i, Value.int v) :: lv.filter (fun q => !(q.1 == i) && !(q.1 + 1 == i && q.2.category == 2)) = lv') (k : AW x μ g A w Q n lv' (rest) σ) : AW x μ g A w Q pc lv (.int v :: rest) σ := by
  obtain ⟨p, l, e, R, s, m, args, below, meth, c⟩ := x
  obtain ⟨cc, nL, own, ret, d⟩ := μ
  subst hn
  intro hC H locs ls hP hD hS hl
  obtain ⟨hx, hb, hml, hown, hts, hlk, hrt, hA, hK, hR⟩ := id hC
  exact lv_istore hx hb hd hl hj hf (fun ls hl => k hC H locs ls hP hD hS hl)
theorem aw_astore_n {f : Fin 4} {i : Nat} {v : Nat} (hd : decode μ.1 pc = .ok (.astore_n f, 1)) (hn : pc + 1 = n) (hi : (f : Nat) = i) (hj : i < μ.2.1) (hf : (i, Value.ref v) :: lv.filter (fun q => !(q.1 == i) && !(q.1 + 1 == i && q.2.category == 2)) = lv') (k : AW x μ g A w Q n lv' (rest) σ) : AW x μ g A w Q pc lv (.ref v :: rest) σ := by
  obtain ⟨p, l, e, R, s, m, args, below, meth, c⟩ := x
  obtain ⟨cc, nL, own, ret, d⟩ := μ
  subst hn
  intro hC H locs ls hP hD hS hl
  obtain ⟨hx, hb, hml, hown, hts, hlk, hrt, hA, hK, hR⟩ := id hC
  exact lv_astore_n hx hb hd hi hl hj hf (fun ls hl => k hC H locs ls hP hD hS hl)
theorem aw_astore {i : Nat} {v : Nat} (hd : decode μ.1 pc = .ok (.astore i, 2)) (hn : pc + 2 = n) (hj : i < μ.2.1) (hf : (i, Value.ref v) :: lv.filter (fun q => !(q.1 == i) && !(q.1 + 1 == i && q.2.category == 2)) = lv') (k : AW x μ g A w Q n lv' (rest) σ) : AW x μ g A w Q pc lv (.ref v :: rest) σ := by
  obtain ⟨p, l, e, R, s, m, args, below, meth, c⟩ := x
  obtain ⟨cc, nL, own, ret, d⟩ := μ
  subst hn
  intro hC H locs ls hP hD hS hl
  obtain ⟨hx, hb, hml, hown, hts, hlk, hrt, hA, hK, hR⟩ := id hC
  exact lv_astore hx hb hd hl hj hf (fun ls hl => k hC H locs ls hP hD hS hl)
theorem aw_iinc {i j : Nat} {z : Int} {u v : Int32} (hd : decode μ.1 pc = .ok (.iinc i z, 3)) (hn : pc + 3 = n) (hj : lv[j]? = some (i, .int u)) (hv : u + Int32.ofInt z = v) (hi : i < μ.2.1) (hf : (i, Value.int v) :: lv.filter (fun q => !(q.1 == i) && !(q.1 + 1 == i && q.2.category == 2)) = lv') (k : AW x μ g A w Q n lv' rest σ) : AW x μ g A w Q pc lv rest σ := by
  obtain ⟨p, l, e, R, s, m, args, below, meth, c⟩ := x
  obtain ⟨cc, nL, own, ret, d⟩ := μ
  subst hn
  intro hC H locs ls hP hD hS hl
  obtain ⟨hx, hb, hml, hown, hts, hlk, hrt, hA, hK, hR⟩ := id hC
  exact lv_iinc hx hb hd hl hj hv hi hf (fun ls hl => k hC H locs ls hP hD hS hl)
theorem aw_iadd {u v : Int32} (hd : decode μ.1 pc = .ok (.iadd, 1)) (hn : pc + 1 = n) (k : AW x μ g A w Q n lv (.int (u + v) :: rest) σ) : AW x μ g A w Q pc lv (.int v :: .int u :: rest) σ := by
  obtain ⟨p, l, e, R, s, m, args, below, meth, c⟩ := x
  obtain ⟨cc, nL, own, ret, d⟩ := μ
  subst hn
  intro hC H locs ls hP hD hS hl
  obtain ⟨hx, hb, hml, hown, hts, hlk, hrt, hA, hK, hR⟩ := id hC
  exact lv_iadd hx hb hd (k hC H locs ls hP hD hS hl)
theorem aw_isub {u v : Int32} (hd : decode μ.1 pc = .ok (.isub, 1)) (hn : pc + 1 = n) (k : AW x μ g A w Q n lv (.int (u - v) :: rest) σ) : AW x μ g A w Q pc lv (.int v :: .int u :: rest) σ := by
  obtain ⟨p, l, e, R, s, m, args, below, meth, c⟩ := x
  obtain ⟨cc, nL, own, ret, d⟩ := μ
  subst hn
  intro hC H locs ls hP hD hS hl
  obtain ⟨hx, hb, hml, hown, hts, hlk, hrt, hA, hK, hR⟩ := id hC
  exact lv_isub hx hb hd (k hC H locs ls hP hD hS hl)
theorem aw_imul {u v : Int32} (hd : decode μ.1 pc = .ok (.imul, 1)) (hn : pc + 1 = n) (k : AW x μ g A w Q n lv (.int (u * v) :: rest) σ) : AW x μ g A w Q pc lv (.int v :: .int u :: rest) σ := by
  obtain ⟨p, l, e, R, s, m, args, below, meth, c⟩ := x
  obtain ⟨cc, nL, own, ret, d⟩ := μ
  subst hn
  intro hC H locs ls hP hD hS hl
  obtain ⟨hx, hb, hml, hown, hts, hlk, hrt, hA, hK, hR⟩ := id hC
  exact lv_imul hx hb hd (k hC H locs ls hP hD hS hl)
theorem aw_iand {u v : Int32} (hd : decode μ.1 pc = .ok (.iand, 1)) (hn : pc + 1 = n) (k : AW x μ g A w Q n lv (.int (u &&& v) :: rest) σ) : AW x μ g A w Q pc lv (.int v :: .int u :: rest) σ := by
  obtain ⟨p, l, e, R, s, m, args, below, meth, c⟩ := x
  obtain ⟨cc, nL, own, ret, d⟩ := μ
  subst hn
  intro hC H locs ls hP hD hS hl
  obtain ⟨hx, hb, hml, hown, hts, hlk, hrt, hA, hK, hR⟩ := id hC
  exact lv_iand hx hb hd (k hC H locs ls hP hD hS hl)
theorem aw_ior {u v : Int32} (hd : decode μ.1 pc = .ok (.ior, 1)) (hn : pc + 1 = n) (k : AW x μ g A w Q n lv (.int (u ||| v) :: rest) σ) : AW x μ g A w Q pc lv (.int v :: .int u :: rest) σ := by
  obtain ⟨p, l, e, R, s, m, args, below, meth, c⟩ := x
  obtain ⟨cc, nL, own, ret, d⟩ := μ
  subst hn
  intro hC H locs ls hP hD hS hl
  obtain ⟨hx, hb, hml, hown, hts, hlk, hrt, hA, hK, hR⟩ := id hC
  exact lv_ior hx hb hd (k hC H locs ls hP hD hS hl)
theorem aw_ixor {u v : Int32} (hd : decode μ.1 pc = .ok (.ixor, 1)) (hn : pc + 1 = n) (k : AW x μ g A w Q n lv (.int (u ^^^ v) :: rest) σ) : AW x μ g A w Q pc lv (.int v :: .int u :: rest) σ := by
  obtain ⟨p, l, e, R, s, m, args, below, meth, c⟩ := x
  obtain ⟨cc, nL, own, ret, d⟩ := μ
  subst hn
  intro hC H locs ls hP hD hS hl
  obtain ⟨hx, hb, hml, hown, hts, hlk, hrt, hA, hK, hR⟩ := id hC
  exact lv_ixor hx hb hd (k hC H locs ls hP hD hS hl)
theorem aw_ishl {u v : Int32} (hd : decode μ.1 pc = .ok (.ishl, 1)) (hn : pc + 1 = n) (k : AW x μ g A w Q n lv (.int (u <<< (v &&& 31)) :: rest) σ) : AW x μ g A w Q pc lv (.int v :: .int u :: rest) σ := by
  obtain ⟨p, l, e, R, s, m, args, below, meth, c⟩ := x
  obtain ⟨cc, nL, own, ret, d⟩ := μ
  subst hn
  intro hC H locs ls hP hD hS hl
  obtain ⟨hx, hb, hml, hown, hts, hlk, hrt, hA, hK, hR⟩ := id hC
  exact lv_ishl hx hb hd (k hC H locs ls hP hD hS hl)
theorem aw_ishr {u v : Int32} (hd : decode μ.1 pc = .ok (.ishr, 1)) (hn : pc + 1 = n) (k : AW x μ g A w Q n lv (.int (u >>> (v &&& 31)) :: rest) σ) : AW x μ g A w Q pc lv (.int v :: .int u :: rest) σ := by
  obtain ⟨p, l, e, R, s, m, args, below, meth, c⟩ := x
  obtain ⟨cc, nL, own, ret, d⟩ := μ
  subst hn
  intro hC H locs ls hP hD hS hl
  obtain ⟨hx, hb, hml, hown, hts, hlk, hrt, hA, hK, hR⟩ := id hC
  exact lv_ishr hx hb hd (k hC H locs ls hP hD hS hl)
theorem aw_idiv {u v : Int32} (hd : decode μ.1 pc = .ok (.idiv, 1)) (hn : pc + 1 = n) (h0 : ¬ v = 0) (k : AW x μ g A w Q n lv (.int (u / v) :: rest) σ) : AW x μ g A w Q pc lv (.int v :: .int u :: rest) σ := by
  obtain ⟨p, l, e, R, s, m, args, below, meth, c⟩ := x
  obtain ⟨cc, nL, own, ret, d⟩ := μ
  subst hn
  intro hC H locs ls hP hD hS hl
  obtain ⟨hx, hb, hml, hown, hts, hlk, hrt, hA, hK, hR⟩ := id hC
  exact lv_idiv hx hb hd h0 (k hC H locs ls hP hD hS hl)
theorem aw_irem {u v : Int32} (hd : decode μ.1 pc = .ok (.irem, 1)) (hn : pc + 1 = n) (h0 : ¬ v = 0) (k : AW x μ g A w Q n lv (.int (u - u / v * v) :: rest) σ) : AW x μ g A w Q pc lv (.int v :: .int u :: rest) σ := by
  obtain ⟨p, l, e, R, s, m, args, below, meth, c⟩ := x
  obtain ⟨cc, nL, own, ret, d⟩ := μ
  subst hn
  intro hC H locs ls hP hD hS hl
  obtain ⟨hx, hb, hml, hown, hts, hlk, hrt, hA, hK, hR⟩ := id hC
  exact lv_irem hx hb hd h0 (k hC H locs ls hP hD hS hl)
theorem aw_ineg {u : Int32} (hd : decode μ.1 pc = .ok (.ineg, 1)) (hn : pc + 1 = n) (k : AW x μ g A w Q n lv (.int (-u) :: rest) σ) : AW x μ g A w Q pc lv (.int u :: rest) σ := by
  obtain ⟨p, l, e, R, s, m, args, below, meth, c⟩ := x
  obtain ⟨cc, nL, own, ret, d⟩ := μ
  subst hn
  intro hC H locs ls hP hD hS hl
  obtain ⟨hx, hb, hml, hown, hts, hlk, hrt, hA, hK, hR⟩ := id hC
  exact lv_ineg hx hb hd (k hC H locs ls hP hD hS hl)
theorem aw_iushr {u v z : Int32} (hd : decode μ.1 pc = .ok (.iushr, 1)) (hn : pc + 1 = n) (hv : (u.toUInt32 >>> (v.toUInt32 &&& Int32.toUInt32 31)).toInt32 = z) (k : AW x μ g A w Q n lv (.int z :: rest) σ) : AW x μ g A w Q pc lv (.int v :: .int u :: rest) σ := by
  obtain ⟨p, l, e, R, s, m, args, below, meth, c⟩ := x
  obtain ⟨cc, nL, own, ret, d⟩ := μ
  subst hn
  intro hC H locs ls hP hD hS hl
  obtain ⟨hx, hb, hml, hown, hts, hlk, hrt, hA, hK, hR⟩ := id hC
  exact lv_iushr hx hb hd hv (k hC H locs ls hP hD hS hl)
theorem aw_ladd {u v : Int64} (hd : decode μ.1 pc = .ok (.ladd, 1)) (hn : pc + 1 = n) (k : AW x μ g A w Q n lv (.long (u + v) :: rest) σ) : AW x μ g A w Q pc lv (.long v :: .long u :: rest) σ := by
  obtain ⟨p, l, e, R, s, m, args, below, meth, c⟩ := x
  obtain ⟨cc, nL, own, ret, d⟩ := μ
  subst hn
  intro hC H locs ls hP hD hS hl
  obtain ⟨hx, hb, hml, hown, hts, hlk, hrt, hA, hK, hR⟩ := id hC
  exact lv_ladd hx hb hd (k hC H locs ls hP hD hS hl)
theorem aw_lsub {u v : Int64} (hd : decode μ.1 pc = .ok (.lsub, 1)) (hn : pc + 1 = n) (k : AW x μ g A w Q n lv (.long (u - v) :: rest) σ) : AW x μ g A w Q pc lv (.long v :: .long u :: rest) σ := by
  obtain ⟨p, l, e, R, s, m, args, below, meth, c⟩ := x
  obtain ⟨cc, nL, own, ret, d⟩ := μ
  subst hn
  intro hC H locs ls hP hD hS hl
  obtain ⟨hx, hb, hml, hown, hts, hlk, hrt, hA, hK, hR⟩ := id hC
  exact lv_lsub hx hb hd (k hC H locs ls hP hD hS hl)
theorem aw_lmul {u v : Int64} (hd : decode μ.1 pc = .ok (.lmul, 1)) (hn : pc + 1 = n) (k : AW x μ g A w Q n lv (.long (u * v) :: rest) σ) : AW x μ g A w Q pc lv (.long v :: .long u :: rest) σ := by
  obtain ⟨p, l, e, R, s, m, args, below, meth, c⟩ := x
  obtain ⟨cc, nL, own, ret, d⟩ := μ
  subst hn
  intro hC H locs ls hP hD hS hl
  obtain ⟨hx, hb, hml, hown, hts, hlk, hrt, hA, hK, hR⟩ := id hC
  exact lv_lmul hx hb hd (k hC H locs ls hP hD hS hl)
theorem aw_land {u v : Int64} (hd : decode μ.1 pc = .ok (.land, 1)) (hn : pc + 1 = n) (k : AW x μ g A w Q n lv (.long (u &&& v) :: rest) σ) : AW x μ g A w Q pc lv (.long v :: .long u :: rest) σ := by
  obtain ⟨p, l, e, R, s, m, args, below, meth, c⟩ := x
  obtain ⟨cc, nL, own, ret, d⟩ := μ
  subst hn
  intro hC H locs ls hP hD hS hl
  obtain ⟨hx, hb, hml, hown, hts, hlk, hrt, hA, hK, hR⟩ := id hC
  exact lv_land hx hb hd (k hC H locs ls hP hD hS hl)
theorem aw_lor {u v : Int64} (hd : decode μ.1 pc = .ok (.lor, 1)) (hn : pc + 1 = n) (k : AW x μ g A w Q n lv (.long (u ||| v) :: rest) σ) : AW x μ g A w Q pc lv (.long v :: .long u :: rest) σ := by
  obtain ⟨p, l, e, R, s, m, args, below, meth, c⟩ := x
  obtain ⟨cc, nL, own, ret, d⟩ := μ
  subst hn
  intro hC H locs ls hP hD hS hl
  obtain ⟨hx, hb, hml, hown, hts, hlk, hrt, hA, hK, hR⟩ := id hC
  exact lv_lor hx hb hd (k hC H locs ls hP hD hS hl)
theorem aw_ldiv {u v : Int64} (hd : decode μ.1 pc = .ok (.ldiv, 1)) (hn : pc + 1 = n) (h0 : ¬ v = 0) (k : AW x μ g A w Q n lv (.long (u / v) :: rest) σ) : AW x μ g A w Q pc lv (.long v :: .long u :: rest) σ := by
  obtain ⟨p, l, e, R, s, m, args, below, meth, c⟩ := x
  obtain ⟨cc, nL, own, ret, d⟩ := μ
  subst hn
  intro hC H locs ls hP hD hS hl
  obtain ⟨hx, hb, hml, hown, hts, hlk, hrt, hA, hK, hR⟩ := id hC
  exact lv_ldiv hx hb hd h0 (k hC H locs ls hP hD hS hl)
theorem aw_lshr {u z : Int64} {v : Int32} (hd : decode μ.1 pc = .ok (.lshr, 1)) (hn : pc + 1 = n) (hv : u >>> (v.toInt64 &&& 63) = z) (k : AW x μ g A w Q n lv (.long z :: rest) σ) : AW x μ g A w Q pc lv (.int v :: .long u :: rest) σ := by
  obtain ⟨p, l, e, R, s, m, args, below, meth, c⟩ := x
  obtain ⟨cc, nL, own, ret, d⟩ := μ
  subst hn
  intro hC H locs ls hP hD hS hl
  obtain ⟨hx, hb, hml, hown, hts, hlk, hrt, hA, hK, hR⟩ := id hC
  exact lv_lshr hx hb hd hv (k hC H locs ls hP hD hS hl)
theorem aw_lshl {u z : Int64} {v : Int32} (hd : decode μ.1 pc = .ok (.lshl, 1)) (hn : pc + 1 = n) (hv : u <<< (v.toInt64 &&& 63) = z) (k : AW x μ g A w Q n lv (.long z :: rest) σ) : AW x μ g A w Q pc lv (.int v :: .long u :: rest) σ := by
  obtain ⟨p, l, e, R, s, m, args, below, meth, c⟩ := x
  obtain ⟨cc, nL, own, ret, d⟩ := μ
  subst hn
  intro hC H locs ls hP hD hS hl
  obtain ⟨hx, hb, hml, hown, hts, hlk, hrt, hA, hK, hR⟩ := id hC
  exact lv_lshl hx hb hd hv (k hC H locs ls hP hD hS hl)
theorem aw_i2l {u : Int32} {z : Int64} (hd : decode μ.1 pc = .ok (.i2l, 1)) (hn : pc + 1 = n) (hv : u.toInt64 = z) (k : AW x μ g A w Q n lv (.long z :: rest) σ) : AW x μ g A w Q pc lv (.int u :: rest) σ := by
  obtain ⟨p, l, e, R, s, m, args, below, meth, c⟩ := x
  obtain ⟨cc, nL, own, ret, d⟩ := μ
  subst hn
  intro hC H locs ls hP hD hS hl
  obtain ⟨hx, hb, hml, hown, hts, hlk, hrt, hA, hK, hR⟩ := id hC
  exact lv_i2l hx hb hd hv (k hC H locs ls hP hD hS hl)
theorem aw_l2i {u : Int64} {z : Int32} (hd : decode μ.1 pc = .ok (.l2i, 1)) (hn : pc + 1 = n) (hv : u.toInt32 = z) (k : AW x μ g A w Q n lv (.int z :: rest) σ) : AW x μ g A w Q pc lv (.long u :: rest) σ := by
  obtain ⟨p, l, e, R, s, m, args, below, meth, c⟩ := x
  obtain ⟨cc, nL, own, ret, d⟩ := μ
  subst hn
  intro hC H locs ls hP hD hS hl
  obtain ⟨hx, hb, hml, hown, hts, hlk, hrt, hA, hK, hR⟩ := id hC
  exact lv_l2i hx hb hd hv (k hC H locs ls hP hD hS hl)
theorem aw_i2c {u z : Int32} (hd : decode μ.1 pc = .ok (.i2c, 1)) (hn : pc + 1 = n) (hv : (u.toUInt32 % 65536).toInt32 = z) (k : AW x μ g A w Q n lv (.int z :: rest) σ) : AW x μ g A w Q pc lv (.int u :: rest) σ := by
  obtain ⟨p, l, e, R, s, m, args, below, meth, c⟩ := x
  obtain ⟨cc, nL, own, ret, d⟩ := μ
  subst hn
  intro hC H locs ls hP hD hS hl
  obtain ⟨hx, hb, hml, hown, hts, hlk, hrt, hA, hK, hR⟩ := id hC
  exact lv_i2c hx hb hd hv (k hC H locs ls hP hD hS hl)
theorem aw_i2b {u z : Int32} (hd : decode μ.1 pc = .ok (.i2b, 1)) (hn : pc + 1 = n) (hv : u.toInt8.toInt32 = z) (k : AW x μ g A w Q n lv (.int z :: rest) σ) : AW x μ g A w Q pc lv (.int u :: rest) σ := by
  obtain ⟨p, l, e, R, s, m, args, below, meth, c⟩ := x
  obtain ⟨cc, nL, own, ret, d⟩ := μ
  subst hn
  intro hC H locs ls hP hD hS hl
  obtain ⟨hx, hb, hml, hown, hts, hlk, hrt, hA, hK, hR⟩ := id hC
  exact lv_i2b hx hb hd hv (k hC H locs ls hP hD hS hl)
theorem aw_dup {va : Value} (hd : decode μ.1 pc = .ok (.dup, 1)) (hn : pc + 1 = n) (h1 : va.category = 1) (k : AW x μ g A w Q n lv (va :: va :: rest) σ) : AW x μ g A w Q pc lv (va :: rest) σ := by
  obtain ⟨p, l, e, R, s, m, args, below, meth, c⟩ := x
  obtain ⟨cc, nL, own, ret, d⟩ := μ
  subst hn
  intro hC H locs ls hP hD hS hl
  obtain ⟨hx, hb, hml, hown, hts, hlk, hrt, hA, hK, hR⟩ := id hC
  exact lv_dup hx hb hd h1 (k hC H locs ls hP hD hS hl)
theorem aw_pop {va : Value} (hd : decode μ.1 pc = .ok (.pop, 1)) (hn : pc + 1 = n) (h1 : va.category = 1) (k : AW x μ g A w Q n lv (rest) σ) : AW x μ g A w Q pc lv (va :: rest) σ := by
  obtain ⟨p, l, e, R, s, m, args, below, meth, c⟩ := x
  obtain ⟨cc, nL, own, ret, d⟩ := μ
  subst hn
  intro hC H locs ls hP hD hS hl
  obtain ⟨hx, hb, hml, hown, hts, hlk, hrt, hA, hK, hR⟩ := id hC
  exact lv_pop hx hb hd h1 (k hC H locs ls hP hD hS hl)
theorem aw_dup_x1 {va vb : Value} (hd : decode μ.1 pc = .ok (.dup_x1, 1)) (hn : pc + 1 = n) (h1 : va.category = 1) (h2 : vb.category = 1) (k : AW x μ g A w Q n lv (va :: vb :: va :: rest) σ) : AW x μ g A w Q pc lv (va :: vb :: rest) σ := by
  obtain ⟨p, l, e, R, s, m, args, below, meth, c⟩ := x
  obtain ⟨cc, nL, own, ret, d⟩ := μ
  subst hn
  intro hC H locs ls hP hD hS hl
  obtain ⟨hx, hb, hml, hown, hts, hlk, hrt, hA, hK, hR⟩ := id hC
  exact lv_dup_x1 hx hb hd h1 h2 (k hC H locs ls hP hD hS hl)
theorem aw_dup_x2 {va vb vd : Value} (hd : decode μ.1 pc = .ok (.dup_x2, 1)) (hn : pc + 1 = n) (h1 : va.category = 1) (h2 : vb.category = 1) (h3 : vd.category = 1) (k : AW x μ g A w Q n lv (va :: vb :: vd :: va :: rest) σ) : AW x μ g A w Q pc lv (va :: vb :: vd :: rest) σ := by
  obtain ⟨p, l, e, R, s, m, args, below, meth, c⟩ := x
  obtain ⟨cc, nL, own, ret, d⟩ := μ
  subst hn
  intro hC H locs ls hP hD hS hl
  obtain ⟨hx, hb, hml, hown, hts, hlk, hrt, hA, hK, hR⟩ := id hC
  exact lv_dup_x2 hx hb hd h1 h2 h3 (k hC H locs ls hP hD hS hl)
theorem aw_dup2 {va vb : Value} (hd : decode μ.1 pc = .ok (.dup2, 1)) (hn : pc + 1 = n) (h1 : va.category = 1) (h2 : vb.category = 1) (k : AW x μ g A w Q n lv (va :: vb :: va :: vb :: rest) σ) : AW x μ g A w Q pc lv (va :: vb :: rest) σ := by
  obtain ⟨p, l, e, R, s, m, args, below, meth, c⟩ := x
  obtain ⟨cc, nL, own, ret, d⟩ := μ
  subst hn
  intro hC H locs ls hP hD hS hl
  obtain ⟨hx, hb, hml, hown, hts, hlk, hrt, hA, hK, hR⟩ := id hC
  exact lv_dup2_11 hx hb hd h1 h2 (k hC H locs ls hP hD hS hl)
theorem aw_if_eq {u : Int32} {off : Int} {t : Nat} (hd : decode μ.1 pc = .ok (.ifCond .eq off, 3)) (hn : pc + 3 = n) (ht : (pc : Int) + off = (t : Int)) (kt : u = 0 → AW x μ g A w Q t lv rest σ) (kf : ¬ u = 0 → AW x μ g A w Q n lv rest σ) : AW x μ g A w Q pc lv (.int u :: rest) σ := by
  obtain ⟨p, l, e, R, s, m, args, below, meth, c⟩ := x
  obtain ⟨cc, nL, own, ret, d⟩ := μ
  subst hn
  intro hC H locs ls hP hD hS hl
  obtain ⟨hx, hb, hml, hown, hts, hlk, hrt, hA, hK, hR⟩ := id hC
  exact lv_if_eq hx hb hd ht (fun h => kt h hC H locs ls hP hD hS hl) (fun h => kf h hC H locs ls hP hD hS hl)
theorem aw_icmp_eq {u v : Int32} {off : Int} {t : Nat} (hd : decode μ.1 pc = .ok (.if_icmp .eq off, 3)) (hn : pc + 3 = n) (ht : (pc : Int) + off = (t : Int)) (kt : u = v → AW x μ g A w Q t lv rest σ) (kf : ¬ u = v → AW x μ g A w Q n lv rest σ) : AW x μ g A w Q pc lv (.int v :: .int u :: rest) σ := by
  obtain ⟨p, l, e, R, s, m, args, below, meth, c⟩ := x
  obtain ⟨cc, nL, own, ret, d⟩ := μ
  subst hn
  intro hC H locs ls hP hD hS hl
  obtain ⟨hx, hb, hml, hown, hts, hlk, hrt, hA, hK, hR⟩ := id hC
  exact lv_icmp_eq hx hb hd ht (fun h => kt h hC H locs ls hP hD hS hl) (fun h => kf h hC H locs ls hP hD hS hl)
theorem aw_if_ne {u : Int32} {off : Int} {t : Nat} (hd : decode μ.1 pc = .ok (.ifCond .ne off, 3)) (hn : pc + 3 = n) (ht : (pc : Int) + off = (t : Int)) (kt : ¬ u = 0 → AW x μ g A w Q t lv rest σ) (kf : u = 0 → AW x μ g A w Q n lv rest σ) : AW x μ g A w Q pc lv (.int u :: rest) σ := by
  obtain ⟨p, l, e, R, s, m, args, below, meth, c⟩ := x
  obtain ⟨cc, nL, own, ret, d⟩ := μ
  subst hn
  intro hC H locs ls hP hD hS hl
  obtain ⟨hx, hb, hml, hown, hts, hlk, hrt, hA, hK, hR⟩ := id hC
  exact lv_if_ne hx hb hd ht (fun h => kt h hC H locs ls hP hD hS hl) (fun h => kf h hC H locs ls hP hD hS hl)
theorem aw_icmp_ne {u v : Int32} {off : Int} {t : Nat} (hd : decode μ.1 pc = .ok (.if_icmp .ne off, 3)) (hn : pc + 3 = n) (ht : (pc : Int) + off = (t : Int)) (kt : ¬ u = v → AW x μ g A w Q t lv rest σ) (kf : u = v → AW x μ g A w Q n lv rest σ) : AW x μ g A w Q pc lv (.int v :: .int u :: rest) σ := by
  obtain ⟨p, l, e, R, s, m, args, below, meth, c⟩ := x
  obtain ⟨cc, nL, own, ret, d⟩ := μ
  subst hn
  intro hC H locs ls hP hD hS hl
  obtain ⟨hx, hb, hml, hown, hts, hlk, hrt, hA, hK, hR⟩ := id hC
  exact lv_icmp_ne hx hb hd ht (fun h => kt h hC H locs ls hP hD hS hl) (fun h => kf h hC H locs ls hP hD hS hl)
theorem aw_if_lt {u : Int32} {off : Int} {t : Nat} (hd : decode μ.1 pc = .ok (.ifCond .lt off, 3)) (hn : pc + 3 = n) (ht : (pc : Int) + off = (t : Int)) (kt : u < 0 → AW x μ g A w Q t lv rest σ) (kf : ¬ u < 0 → AW x μ g A w Q n lv rest σ) : AW x μ g A w Q pc lv (.int u :: rest) σ := by
  obtain ⟨p, l, e, R, s, m, args, below, meth, c⟩ := x
  obtain ⟨cc, nL, own, ret, d⟩ := μ
  subst hn
  intro hC H locs ls hP hD hS hl
  obtain ⟨hx, hb, hml, hown, hts, hlk, hrt, hA, hK, hR⟩ := id hC
  exact lv_if_lt hx hb hd ht (fun h => kt h hC H locs ls hP hD hS hl) (fun h => kf h hC H locs ls hP hD hS hl)
theorem aw_icmp_lt {u v : Int32} {off : Int} {t : Nat} (hd : decode μ.1 pc = .ok (.if_icmp .lt off, 3)) (hn : pc + 3 = n) (ht : (pc : Int) + off = (t : Int)) (kt : u < v → AW x μ g A w Q t lv rest σ) (kf : ¬ u < v → AW x μ g A w Q n lv rest σ) : AW x μ g A w Q pc lv (.int v :: .int u :: rest) σ := by
  obtain ⟨p, l, e, R, s, m, args, below, meth, c⟩ := x
  obtain ⟨cc, nL, own, ret, d⟩ := μ
  subst hn
  intro hC H locs ls hP hD hS hl
  obtain ⟨hx, hb, hml, hown, hts, hlk, hrt, hA, hK, hR⟩ := id hC
  exact lv_icmp_lt hx hb hd ht (fun h => kt h hC H locs ls hP hD hS hl) (fun h => kf h hC H locs ls hP hD hS hl)
theorem aw_if_ge {u : Int32} {off : Int} {t : Nat} (hd : decode μ.1 pc = .ok (.ifCond .ge off, 3)) (hn : pc + 3 = n) (ht : (pc : Int) + off = (t : Int)) (kt : 0 ≤ u → AW x μ g A w Q t lv rest σ) (kf : ¬ 0 ≤ u → AW x μ g A w Q n lv rest σ) : AW x μ g A w Q pc lv (.int u :: rest) σ := by
  obtain ⟨p, l, e, R, s, m, args, below, meth, c⟩ := x
  obtain ⟨cc, nL, own, ret, d⟩ := μ
  subst hn
  intro hC H locs ls hP hD hS hl
  obtain ⟨hx, hb, hml, hown, hts, hlk, hrt, hA, hK, hR⟩ := id hC
  exact lv_if_ge hx hb hd ht (fun h => kt h hC H locs ls hP hD hS hl) (fun h => kf h hC H locs ls hP hD hS hl)
theorem aw_icmp_ge {u v : Int32} {off : Int} {t : Nat} (hd : decode μ.1 pc = .ok (.if_icmp .ge off, 3)) (hn : pc + 3 = n) (ht : (pc : Int) + off = (t : Int)) (kt : v ≤ u → AW x μ g A w Q t lv rest σ) (kf : ¬ v ≤ u → AW x μ g A w Q n lv rest σ) : AW x μ g A w Q pc lv (.int v :: .int u :: rest) σ := by
  obtain ⟨p, l, e, R, s, m, args, below, meth, c⟩ := x
  obtain ⟨cc, nL, own, ret, d⟩ := μ
  subst hn
  intro hC H locs ls hP hD hS hl
  obtain ⟨hx, hb, hml, hown, hts, hlk, hrt, hA, hK, hR⟩ := id hC
  exact lv_icmp_ge hx hb hd ht (fun h => kt h hC H locs ls hP hD hS hl) (fun h => kf h hC H locs ls hP hD hS hl)
theorem aw_if_gt {u : Int32} {off : Int} {t : Nat} (hd : decode μ.1 pc = .ok (.ifCond .gt off, 3)) (hn : pc + 3 = n) (ht : (pc : Int) + off = (t : Int)) (kt : 0 < u → AW x μ g A w Q t lv rest σ) (kf : ¬ 0 < u → AW x μ g A w Q n lv rest σ) : AW x μ g A w Q pc lv (.int u :: rest) σ := by
  obtain ⟨p, l, e, R, s, m, args, below, meth, c⟩ := x
  obtain ⟨cc, nL, own, ret, d⟩ := μ
  subst hn
  intro hC H locs ls hP hD hS hl
  obtain ⟨hx, hb, hml, hown, hts, hlk, hrt, hA, hK, hR⟩ := id hC
  exact lv_if_gt hx hb hd ht (fun h => kt h hC H locs ls hP hD hS hl) (fun h => kf h hC H locs ls hP hD hS hl)
theorem aw_icmp_gt {u v : Int32} {off : Int} {t : Nat} (hd : decode μ.1 pc = .ok (.if_icmp .gt off, 3)) (hn : pc + 3 = n) (ht : (pc : Int) + off = (t : Int)) (kt : v < u → AW x μ g A w Q t lv rest σ) (kf : ¬ v < u → AW x μ g A w Q n lv rest σ) : AW x μ g A w Q pc lv (.int v :: .int u :: rest) σ := by
  obtain ⟨p, l, e, R, s, m, args, below, meth, c⟩ := x
  obtain ⟨cc, nL, own, ret, d⟩ := μ
  subst hn
  intro hC H locs ls hP hD hS hl
  obtain ⟨hx, hb, hml, hown, hts, hlk, hrt, hA, hK, hR⟩ := id hC
  exact lv_icmp_gt hx hb hd ht (fun h => kt h hC H locs ls hP hD hS hl) (fun h => kf h hC H locs ls hP hD hS hl)
theorem aw_if_le {u : Int32} {off : Int} {t : Nat} (hd : decode μ.1 pc = .ok (.ifCond .le off, 3)) (hn : pc + 3 = n) (ht : (pc : Int) + off = (t : Int)) (kt : u ≤ 0 → AW x μ g A w Q t lv rest σ) (kf : ¬ u ≤ 0 → AW x μ g A w Q n lv rest σ) : AW x μ g A w Q pc lv (.int u :: rest) σ := by
  obtain ⟨p, l, e, R, s, m, args, below, meth, c⟩ := x
  obtain ⟨cc, nL, own, ret, d⟩ := μ
  subst hn
  intro hC H locs ls hP hD hS hl
  obtain ⟨hx, hb, hml, hown, hts, hlk, hrt, hA, hK, hR⟩ := id hC
  exact lv_if_le hx hb hd ht (fun h => kt h hC H locs ls hP hD hS hl) (fun h => kf h hC H locs ls hP hD hS hl)
theorem aw_icmp_le {u v : Int32} {off : Int} {t : Nat} (hd : decode μ.1 pc = .ok (.if_icmp .le off, 3)) (hn : pc + 3 = n) (ht : (pc : Int) + off = (t : Int)) (kt : u ≤ v → AW x μ g A w Q t lv rest σ) (kf : ¬ u ≤ v → AW x μ g A w Q n lv rest σ) : AW x μ g A w Q pc lv (.int v :: .int u :: rest) σ := by
  obtain ⟨p, l, e, R, s, m, args, below, meth, c⟩ := x
  obtain ⟨cc, nL, own, ret, d⟩ := μ
  subst hn
  intro hC H locs ls hP hD hS hl
  obtain ⟨hx, hb, hml, hown, hts, hlk, hrt, hA, hK, hR⟩ := id hC
  exact lv_icmp_le hx hb hd ht (fun h => kt h hC H locs ls hP hD hS hl) (fun h => kf h hC H locs ls hP hD hS hl)
theorem aw_goto {off : Int} {t : Nat} (hd : decode μ.1 pc = .ok (.goto off, 3)) (ht : (pc : Int) + off = (t : Int)) (k : AW x μ g A w Q t lv rest σ) : AW x μ g A w Q pc lv rest σ := by
  obtain ⟨p, l, e, R, s, m, args, below, meth, c⟩ := x
  obtain ⟨cc, nL, own, ret, d⟩ := μ
  intro hC H locs ls hP hD hS hl
  exact lv_goto hC.1 hC.2.1 hd ht (k hC H locs ls hP hD hS hl)
theorem aw_lookup {dflt : Int} {ps : Array (Int × Int)} {len : Nat} {u : Int32} {off : Int} {t : Nat} (hd : decode μ.1 pc = .ok (.lookupswitch dflt ps, len)) (hp : (ps.toList.zip (ps.toList.drop 1)).all (fun (a, next) => a.1 < next.1) = true) (ho : Op.lookupswitch.offset ps.toList dflt u.toInt = off) (ht : (pc : Int) + off = (t : Int)) (k : AW x μ g A w Q t lv rest σ) : AW x μ g A w Q pc lv (.int u :: rest) σ := by
  obtain ⟨p, l, e, R, s, m, args, below, meth, c⟩ := x
  obtain ⟨cc, nL, own, ret, d⟩ := μ
  intro hC H locs ls hP hD hS hl
  exact lv_lookup hC.1 hC.2.1 hd hp ho ht (k hC H locs ls hP hD hS hl)
theorem aw_tableOut {dflt lo hi : Int} {offs : Array Int} {len : Nat} {u : Int32} {t : Nat} (hd : decode μ.1 pc = .ok (.tableswitch dflt lo hi offs, len)) (h : u.toInt < lo ∨ hi < u.toInt) (ht : (pc : Int) + dflt = (t : Int)) (k : AW x μ g A w Q t lv rest σ) : AW x μ g A w Q pc lv (.int u :: rest) σ := by
  obtain ⟨p, l, e, R, s, m, args, below, meth, c⟩ := x
  obtain ⟨cc, nL, own, ret, d⟩ := μ
  intro hC H locs ls hP hD hS hl
  exact lv_tableOut hC.1 hC.2.1 hd h ht (k hC H locs ls hP hD hS hl)
theorem aw_tableIn {dflt lo hi : Int} {offs : Array Int} {len : Nat} {u : Int32} {off : Int} {t : Nat} (hd : decode μ.1 pc = .ok (.tableswitch dflt lo hi offs, len)) (h1 : ¬ u.toInt < lo) (h2 : ¬ hi < u.toInt) (ho : offs[(u.toInt - lo).toNat]? = some off) (ht : (pc : Int) + off = (t : Int)) (k : AW x μ g A w Q t lv rest σ) : AW x μ g A w Q pc lv (.int u :: rest) σ := by
  obtain ⟨p, l, e, R, s, m, args, below, meth, c⟩ := x
  obtain ⟨cc, nL, own, ret, d⟩ := μ
  intro hC H locs ls hP hD hS hl
  exact lv_tableIn hC.1 hC.2.1 hd h1 h2 ho ht (k hC H locs ls hP hD hS hl)
/-- fewer locals are known -/
theorem aw_sub (ks : List Nat) (h : lv_pick lv ks = lv') (k : AW x μ g A w Q pc lv' rest σ) : AW x μ g A w Q pc lv rest σ := by
  obtain ⟨p, l, e, R, s, m, args, below, meth, c⟩ := x
  obtain ⟨cc, nL, own, ret, d⟩ := μ
  intro hC H locs ls hP hD hS hl
  exact k hC H locs ls hP hD hS (lv_sub hl ks h)
/-- another writing of stack and state -/
theorem aw_eq {st st2 : List Value} {σ2 : τ} (h : st = st2) (h2 : σ = σ2) (k : AW x μ g A w Q pc lv st2 σ2) : AW x μ g A w Q pc lv st σ := by subst h; subst h2; exact k
theorem aw_top {u v : Int32} (h : u = v) (k : AW x μ g A w Q pc lv (.int v :: rest) σ) : AW x μ g A w Q pc lv (.int u :: rest) σ := h ▸ k
theorem aw_nm {u : Int32} (k : ∀ v : Int32, v = u → AW x μ g A w Q pc lv (.int v :: rest) σ) : AW x μ g A w Q pc lv (.int u :: rest) σ := k u rfl
theorem aw_get {own C : String} {T : u_T} {N ci idx a : Nat} (q0 : Nat) {fs : List Value} (he : (w σ)[q0]? = some (a, .inr (ci, fs))) (hc : classes[ci]? = some (C, T, N)) (kk : Nat) (hk : kk < N) {v : Value} (hv : fs[kk]? = some v) (hin : ∀ z ∈ u_ws C T N, z ∈ ax_T) (hown0 : μ.2.2.1 = own) (hl0 : Cond.fieldLink own idx (T kk).1 (T kk).2.1 (T kk).2.2.1 ∈ ax_T) (hd : decode μ.1 pc = .ok (.getfield idx, 3)) (hn : pc + 3 = n) (k : AW x μ g A w Q n lv (v :: rest) σ) : AW x μ g A w Q pc lv (.ref a :: rest) σ := by
  obtain ⟨p, l, e, R, s, m, args, below, meth, c⟩ := x
  obtain ⟨cc, nL, own, ret, d⟩ := μ
  subst hn
  intro hC H locs ls hP hD hS hl
  obtain ⟨hx, hb, hml, hown, hts, hlk, hrt, hA, hK, hR⟩ := id hC
  subst hown0
  exact va_get (D := g.1) (ref := (T kk).1) hx hb hts hin hown hK.1 hP q0 he hc kk hk (hts _ hl0) (fun _ h9 => h9) hv hd (k hC H locs ls hP hD hS hl)
theorem aw_getN {own C host : String} {T : u_T} {N ci idx a : Nat} (q0 : Nat) {fs : List Value} (he : (w σ)[q0]? = some (a, .inr (ci, fs))) (hc : classes[ci]? = some (C, T, N)) (kk : Nat) (hk : kk < N) {v : Value} (hv : fs[kk]? = some v) (hin : ∀ z ∈ u_ws C T N, z ∈ ax_T) (hown0 : μ.2.2.1 = own) (hl0 : Cond.fieldLinkNest own idx (T kk).1 (T kk).2.1 (T kk).2.2.1 host ∈ ax_N) (hd : decode μ.1 pc = .ok (.getfield idx, 3)) (hn : pc + 3 = n) (k : AW x μ g A w Q n lv (v :: rest) σ) : AW x μ g A w Q pc lv (.ref a :: rest) σ := by
  obtain ⟨p, l, e, R, s, m, args, below, meth, c⟩ := x
  obtain ⟨cc, nL, own, ret, d⟩ := μ
  subst hn
  intro hC H locs ls hP hD hS hl
  obtain ⟨hx, hb, hml, hown, hts, hlk, hrt, hA, hK, hR⟩ := id hC
  subst hown0
  exact va_getN (D := g.1) (ref := (T kk).1) (host := host) hx hb hts hin hown hK.1 hP q0 he hc kk hk (va_Nw.use rfl (hK.2.1 _ hl0)) (fun _ h9 => h9) hv hd (k hC H locs ls hP hD hS hl)
theorem aw_put {own C : String} {T : u_T} {N ci idx a : Nat} (q0 : Nat) {fs : List Value} (he : (w σ)[q0]? = some (a, .inr (ci, fs))) (hc : classes[ci]? = some (C, T, N)) (kk : Nat) (hk : kk < N) {v : Value} {ty : FieldType} (ty0 : Nat → FieldType) (hty : ∀ k, k < N → parseFieldDescriptor (T k).2.2.1 = some (ty0 k)) (hnm : ∀ a, a < N → ∀ b, b < N → a ≠ b → (T a).2.1 ≠ (T b).2.1) (hfin : (T kk).2.2.2 = false) (hde : parseFieldDescriptor (T kk).2.2.1 = some ty) (hna : narrow ty v = v) (hfit : fits ty v = true) (hlen : kk < fs.length) (hin : ∀ z ∈ u_ws C T N, z ∈ ax_T) (hown0 : μ.2.2.1 = own) (hl0 : Cond.fieldLink own idx (T kk).1 (T kk).2.1 (T kk).2.2.1 ∈ ax_T) {σ2 : τ} (hset : (w σ).set q0 (a, .inr (ci, fs.set kk v)) = w σ2) (hd : decode μ.1 pc = .ok (.putfield idx, 3)) (hn : pc + 3 = n) (k : AW x μ g A w Q n lv rest σ2) : AW x μ g A w Q pc lv (v :: .ref a :: rest) σ := by
  obtain ⟨p, l, e, R, s, m, args, below, meth, c⟩ := x
  obtain ⟨cc, nL, own, ret, d⟩ := μ
  subst hn
  intro hC H locs ls hP hD hS hl
  obtain ⟨hx, hb, hml, hown, hts, hlk, hrt, hA, hK, hR⟩ := id hC
  subst hown0
  exact va_put (D := g.1) (ref := (T kk).1) (ty := ty) hx hb hts hin ty0 hty hnm hown hK.1 hP hD hS q0 he hc kk hk (hts _ hl0) (fun _ h9 => h9) hfin hde hna hfit hlen hd (fun H locs hP hD hS => k hC H locs ls (hset ▸ hP) (hset ▸ hD) hS hl)
theorem aw_putN {own C host : String} {T : u_T} {N ci idx a : Nat} (q0 : Nat) {fs : List Value} (he : (w σ)[q0]? = some (a, .inr (ci, fs))) (hc : classes[ci]? = some (C, T, N)) (kk : Nat) (hk : kk < N) {v : Value} {ty : FieldType} (ty0 : Nat → FieldType) (hty : ∀ k, k < N → parseFieldDescriptor (T k).2.2.1 = some (ty0 k)) (hnm : ∀ a, a < N → ∀ b, b < N → a ≠ b → (T a).2.1 ≠ (T b).2.1) (hfin : (T kk).2.2.2 = false) (hde : parseFieldDescriptor (T kk).2.2.1 = some ty) (hna : narrow ty v = v) (hfit : fits ty v = true) (hlen : kk < fs.length) (hin : ∀ z ∈ u_ws C T N, z ∈ ax_T) (hown0 : μ.2.2.1 = own) (hl0 : Cond.fieldLinkNest own idx (T kk).1 (T kk).2.1 (T kk).2.2.1 host ∈ ax_N) {σ2 : τ} (hset : (w σ).set q0 (a, .inr (ci, fs.set kk v)) = w σ2) (hd : decode μ.1 pc = .ok (.putfield idx, 3)) (hn : pc + 3 = n) (k : AW x μ g A w Q n lv rest σ2) : AW x μ g A w Q pc lv (v :: .ref a :: rest) σ := by
  obtain ⟨p, l, e, R, s, m, args, below, meth, c⟩ := x
  obtain ⟨cc, nL, own, ret, d⟩ := μ
  subst hn
  intro hC H locs ls hP hD hS hl
  obtain ⟨hx, hb, hml, hown, hts, hlk, hrt, hA, hK, hR⟩ := id hC
  subst hown0
  exact va_putN (D := g.1) (ref := (T kk).1) (host := host) (ty := ty) hx hb hts hin ty0 hty hnm hown hK.1 hP hD hS q0 he hc kk hk (va_Nw.use rfl (hK.2.1 _ hl0)) (fun _ h9 => h9) hfin hde hna hfit hlen hd (fun H locs hP hD hS => k hC H locs ls (hset ▸ hP) (hset ▸ hD) hS hl)
theorem aw_iald (q0 t0 : Nat) {a : Nat} {cA : ClassId} {N : Nat} {f : Nat → Int32} (ha : (w σ)[q0]? = some (a, .inl (cA, N, .inl f))) (ht : (ax_tys g)[t0]? = some (cA, .int)) {i : Int32} (hi : vp_in i N) (hd : decode μ.1 pc = .ok (.iaload, 1)) (hn : pc + 1 = n) (k : AW x μ g A w Q n lv (.int (f i.toNatClampNeg) :: rest) σ) : AW x μ g A w Q pc lv (.int i :: .ref a :: rest) σ := by
  obtain ⟨p, l, e, R, s, m, args, below, meth, c⟩ := x
  obtain ⟨cc, nL, own, ret, d⟩ := μ
  subst hn
  intro hC H locs ls hP hD hS hl
  obtain ⟨hx, hb, hml, hown, hts, hlk, hrt, hA, hK, hR⟩ := id hC
  exact va_iald (D := g.1) hx hb hK.1 hP q0 t0 ha ht hi hd (k hC H locs ls hP hD hS hl)
theorem aw_iast (q0 t0 : Nat) {a : Nat} {cA : ClassId} {N : Nat} {f : Nat → Int32} (ha : (w σ)[q0]? = some (a, .inl (cA, N, .inl f))) (ht : (ax_tys g)[t0]? = some (cA, .int)) {i v : Int32} (hi : vp_in i N) {σ2 : τ} (hset : (w σ).set q0 (a, .inl (cA, N, .inl (upd f i.toNatClampNeg v))) = w σ2) (hd : decode μ.1 pc = .ok (.iastore, 1)) (hn : pc + 1 = n) (k : AW x μ g A w Q n lv rest σ2) : AW x μ g A w Q pc lv (.int v :: .int i :: .ref a :: rest) σ := by
  obtain ⟨p, l, e, R, s, m, args, below, meth, c⟩ := x
  obtain ⟨cc, nL, own, ret, d⟩ := μ
  subst hn
  intro hC H locs ls hP hD hS hl
  obtain ⟨hx, hb, hml, hown, hts, hlk, hrt, hA, hK, hR⟩ := id hC
  exact va_iast (D := g.1) hx hb hK.1 hP hD hS q0 t0 ha ht hi hd (fun H locs hP hD hS => k hC H locs ls (hset ▸ hP) (hset ▸ hD) hS hl)
theorem aw_cald (q0 t0 : Nat) {a : Nat} {cA : ClassId} {N : Nat} {f : Nat → Int32} (ha : (w σ)[q0]? = some (a, .inl (cA, N, .inl f))) (ht : (ax_tys g)[t0]? = some (cA, .char)) {i : Int32} (hi : vp_in i N) (hd : decode μ.1 pc = .ok (.caload, 1)) (hn : pc + 1 = n) (k : AW x μ g A w Q n lv (.int (f i.toNatClampNeg) :: rest) σ) : AW x μ g A w Q pc lv (.int i :: .ref a :: rest) σ := by
  obtain ⟨p, l, e, R, s, m, args, below, meth, c⟩ := x
  obtain ⟨cc, nL, own, ret, d⟩ := μ
  subst hn
  intro hC H locs ls hP hD hS hl
  obtain ⟨hx, hb, hml, hown, hts, hlk, hrt, hA, hK, hR⟩ := id hC
  exact va_cald (D := g.1) hx hb hK.1 hP q0 t0 ha ht hi hd (k hC H locs ls hP hD hS hl)
theorem aw_cast (q0 t0 : Nat) {a : Nat} {cA : ClassId} {N : Nat} {f : Nat → Int32} (ha : (w σ)[q0]? = some (a, .inl (cA, N, .inl f))) (ht : (ax_tys g)[t0]? = some (cA, .char)) {i v : Int32} (hi : vp_in i N) {σ2 : τ} (hset : (w σ).set q0 (a, .inl (cA, N, .inl (upd f i.toNatClampNeg (vp_nar .char v)))) = w σ2) (hd : decode μ.1 pc = .ok (.castore, 1)) (hn : pc + 1 = n) (k : AW x μ g A w Q n lv rest σ2) : AW x μ g A w Q pc lv (.int v :: .int i :: .ref a :: rest) σ := by
  obtain ⟨p, l, e, R, s, m, args, below, meth, c⟩ := x
  obtain ⟨cc, nL, own, ret, d⟩ := μ
  subst hn
  intro hC H locs ls hP hD hS hl
  obtain ⟨hx, hb, hml, hown, hts, hlk, hrt, hA, hK, hR⟩ := id hC
  exact va_cast (D := g.1) hx hb hK.1 hP hD hS q0 t0 ha ht hi hd (fun H locs hP hD hS => k hC H locs ls (hset ▸ hP) (hset ▸ hD) hS hl)
theorem aw_zald (q0 t0 : Nat) {a : Nat} {cA : ClassId} {N : Nat} {f : Nat → Int32} (ha : (w σ)[q0]? = some (a, .inl (cA, N, .inl f))) (ht : (ax_tys g)[t0]? = some (cA, .boolean)) {i : Int32} (hi : vp_in i N) (hd : decode μ.1 pc = .ok (.baload, 1)) (hn : pc + 1 = n) (k : AW x μ g A w Q n lv (.int (f i.toNatClampNeg) :: rest) σ) : AW x μ g A w Q pc lv (.int i :: .ref a :: rest) σ := by
  obtain ⟨p, l, e, R, s, m, args, below, meth, c⟩ := x
  obtain ⟨cc, nL, own, ret, d⟩ := μ
  subst hn
  intro hC H locs ls hP hD hS hl
  obtain ⟨hx, hb, hml, hown, hts, hlk, hrt, hA, hK, hR⟩ := id hC
  exact va_zald (D := g.1) hx hb hK.1 hP q0 t0 ha ht hi hd (k hC H locs ls hP hD hS hl)
theorem aw_bald (q0 t0 : Nat) {a : Nat} {cA : ClassId} {N : Nat} {f : Nat → Int32} (ha : (w σ)[q0]? = some (a, .inl (cA, N, .inl f))) (ht : (ax_tys g)[t0]? = some (cA, .byte)) {i : Int32} (hi : vp_in i N) (hd : decode μ.1 pc = .ok (.baload, 1)) (hn : pc + 1 = n) (k : AW x μ g A w Q n lv (.int (f i.toNatClampNeg) :: rest) σ) : AW x μ g A w Q pc lv (.int i :: .ref a :: rest) σ := by
  obtain ⟨p, l, e, R, s, m, args, below, meth, c⟩ := x
  obtain ⟨cc, nL, own, ret, d⟩ := μ
  subst hn
  intro hC H locs ls hP hD hS hl
  obtain ⟨hx, hb, hml, hown, hts, hlk, hrt, hA, hK, hR⟩ := id hC
  exact va_bald (D := g.1) hx hb hK.1 hP q0 t0 ha ht hi hd (k hC H locs ls hP hD hS hl)
theorem aw_alen (q0 t0 : Nat) {a : Nat} {cA : ClassId} {z : vp_A} (ha : (w σ)[q0]? = some (a, .inl (cA, z))) {ty : FieldType} (ht : (ax_tys g)[t0]? = some (cA, ty)) {v : Int32} (hv : Int32.ofNat z.1 = v) (hd : decode μ.1 pc = .ok (.arraylength, 1)) (hn : pc + 1 = n) (k : AW x μ g A w Q n lv (.int v :: rest) σ) : AW x μ g A w Q pc lv (.ref a :: rest) σ := by
  obtain ⟨p, l, e, R, s, m, args, below, meth, c⟩ := x
  obtain ⟨cc, nL, own, ret, d⟩ := μ
  subst hn
  intro hC H locs ls hP hD hS hl
  obtain ⟨hx, hb, hml, hown, hts, hlk, hrt, hA, hK, hR⟩ := id hC
  exact va_alen (D := g.1) hx hb hK.1 hP q0 t0 ha ht hv hd (k hC H locs ls hP hD hS hl)
theorem aw_iret {post : Int32 → τ → Prop} {v : Int32} (hd : decode μ.1 pc = .ok (.ireturn, 1)) (hr : μ.2.2.2.1 = some .int) (hp : post v σ) : AW x μ g A w (ax_QI x g A w post) pc lv [.int v] σ := by
  obtain ⟨p, l, e, R, s, m, args, below, meth, c⟩ := x
  obtain ⟨cc, nL, own, ret, d⟩ := μ
  intro hC H locs ls hP hD hS hl
  obtain ⟨hx, hb, hml, hown, hts, hlk, hrt, hA, hK, hR⟩ := id hC
  exact W.iret (v := v) hx hb (hrt.trans hr) (fun t ht hW => ⟨⟨v, σ, rfl, hp, by rw [ht]; exact hP, hD⟩, hS.F ht⟩) hS.2.2 hd hlk
theorem aw_zret {post : Int32 → τ → Prop} {v : Int32} {ty : FieldType} (hd : decode μ.1 pc = .ok (.ireturn, 1)) (hr : μ.2.2.2.1 = some ty) (hna : narrow ty (.int v) = .int v) (hp : post v σ) : AW x μ g A w (ax_QI x g A w post) pc lv [.int v] σ := by
  obtain ⟨p, l, e, R, s, m, args, below, meth, c⟩ := x
  obtain ⟨cc, nL, own, ret, d⟩ := μ
  intro hC H locs ls hP hD hS hl
  obtain ⟨hx, hb, hml, hown, hts, hlk, hrt, hA, hK, hR⟩ := id hC
  exact W.zret (v := v) hx hb (hrt.trans hr) hna (fun t ht hW => ⟨⟨v, σ, rfl, hp, by rw [ht]; exact hP, hD⟩, hS.F ht⟩) hS.2.2 hd hlk
theorem aw_vret {post : τ → Prop} (hd : decode μ.1 pc = .ok (.return_, 1)) (hr : μ.2.2.2.1 = none) (hp : post σ) : AW x μ g A w (ax_QV x g A w post) pc lv [] σ := by
  obtain ⟨p, l, e, R, s, m, args, below, meth, c⟩ := x
  obtain ⟨cc, nL, own, ret, d⟩ := μ
  intro hC H locs ls hP hD hS hl
  obtain ⟨hx, hb, hml, hown, hts, hlk, hrt, hA, hK, hR⟩ := id hC
  exact W.vret hx hb (hrt.trans hr) (fun t ht hW => ⟨⟨σ, rfl, hp, by rw [ht]; exact hP, hD⟩, hS.F ht⟩) hS.2.2 hd hlk
theorem ax_CI.of {y : MethodName} {av : List Value} {post : Int32 → τ → Prop} (hy : plainName y.cls = true) (hown : y.cls = μ.2.2.1) (hn : (lg_sl av).length ≤ μ.2.1) (body : ∀ (x : ax_X) (A : Nat → Prop), AW x μ g A w (ax_QI x g A w post) 0 (lv_args 0 av) [] σ) : ax_CI μ g y w av σ post := by
  intro l sz
  obtain ⟨cc, nL, own, ret, d⟩ := μ
  refine Met.ofW (cc := cc) (maxL := nL) (ret := ret) hy rfl ?_
  intro p e s m args below meth c s₁ B hml hv
  obtain ⟨rfl, hsz, hK, hP, hD0⟩ := hv
  subst hsz
  have hts := atoms_spec (ws := Cond.code y cc nL ret :: ax_T) B.pre
  have hD := hD0.self (sz := s.heap.size)
  have hl := lv_entry av (n := nL) hn
  rw [lg_entry_eq]
  exact body (p, l, e, ax_R d, s, m, av.toArray, below, meth, c) (va_A (w σ) s.heap.size) ⟨B.exec, B.bytes, hml, (show s.vm.findClass own = some m.cls from (congrArg s.vm.findClass hown).symm.trans (findClass_of_methodNamed B.named)), fun z hz => hts z (List.mem_cons_of_mem _ hz), B.notSynchronized, B.returns, fun q h => Or.inr h, hK, Nat.le_refl _, Nat.le_refl _⟩ s.heap [] _ hP hD va_S.rf hl
theorem ax_CV.of {y : MethodName} {av : List Value} {post : τ → Prop} (hy : plainName y.cls = true) (hown : y.cls = μ.2.2.1) (hn : (lg_sl av).length ≤ μ.2.1) (body : ∀ (x : ax_X) (A : Nat → Prop), AW x μ g A w (ax_QV x g A w post) 0 (lv_args 0 av) [] σ) : ax_CV μ g y w av σ post := by
  intro l sz
  obtain ⟨cc, nL, own, ret, d⟩ := μ
  refine Met.ofW (cc := cc) (maxL := nL) (ret := ret) hy rfl ?_
  intro p e s m args below meth c s₁ B hml hv
  obtain ⟨rfl, hsz, hK, hP, hD0⟩ := hv
  subst hsz
  have hts := atoms_spec (ws := Cond.code y cc nL ret :: ax_T) B.pre
  have hD := hD0.self (sz := s.heap.size)
  have hl := lv_entry av (n := nL) hn
  rw [lg_entry_eq]
  exact body (p, l, e, ax_R d, s, m, av.toArray, below, meth, c) (va_A (w σ) s.heap.size) ⟨B.exec, B.bytes, hml, (show s.vm.findClass own = some m.cls from (congrArg s.vm.findClass hown).symm.trans (findClass_of_methodNamed B.named)), fun z hz => hts z (List.mem_cons_of_mem _ hz), B.notSynchronized, B.returns, fun q h => Or.inr h, hK, Nat.le_refl _, Nat.le_refl _⟩ s.heap [] _ hP hD va_S.rf hl
theorem ax_free {H0 H : Heap} {locs : List Loc} (hD : va_D A (w σ)) (hS : va_S A H0 H locs) (hA : ∀ q : Nat, H0.size ≤ q → A q) : ∀ q, va_A (w σ) H.size q → A q := by
  intro q h
  rcases h with ⟨i, z, hi⟩ | h
  · exact hD.2 i (q, z) hi
  · exact hA q (Nat.le_trans hS.1 h)
theorem ax_good {y : MethodName} {bs : ByteArray} {nl : Nat} {rt : Option FieldType} (h : Cond.code y bs nl rt ∈ ax_T) : GoodIn ax_T (Cond.code y bs nl rt :: ax_T) := by
  intro z hz
  rcases List.mem_cons.mp hz with rfl | hz
  · exact ⟨h, ax_T_good _ h⟩
  · exact ⟨hz, ax_T_good _ hz⟩
/-- what the tables must have of a callee -/
def ax_Y (μ' : ax_M) (y : MethodName) (k : Nat) : Prop := Cond.code y μ'.1 μ'.2.1 μ'.2.2.2.1 ∈ ax_T ∧ Cond.initialized y.cls ∈ ax_T ∧ (y.cls ≠ "java/lang/invoke/MethodHandle" ∧ y.cls ≠ "java/lang/invoke/VarHandle" ∧ (parseMethodDescriptor y.desc).map (fun d => d.parameters.length) = some k)
def ax_YV (μ' : ax_M) (y : MethodName) (k : Nat) : Prop := ax_Y μ' y k ∧ Cond.instanceMethod y ∈ ax_T ∧ Cond.selects y.cls y y ∈ ax_T
def ax_YS (μ' : ax_M) (y : MethodName) (k : Nat) : Prop := ax_Y μ' y k ∧ Cond.static y ∈ ax_T
theorem aw_callVi {μ2 : ax_M} {y : MethodName} {idx : Nat} {b : Nat} {As : List Value} {post : Int32 → τ → Prop} (hM : ax_CI μ2 g y w (.ref b :: As) σ post) (q0 : Nat) {ci N : Nat} {T : u_T} {fs : List Value} (he : (w σ)[q0]? = some (b, .inr (ci, fs))) (hc : classes[ci]? = some (y.cls, T, N)) (hY : ax_YV μ2 y As.length) (hl0 : Cond.methodLink μ.2.2.1 idx y ∈ ax_T) (hdd : μ2.2.2.2.2.1 + 1 ≤ μ.2.2.2.2.1) (hmax : 8 + (μ2.2.1 + 11) + μ2.2.2.2.2.2 ≤ μ.2.2.2.2.2) {st : List Value} (hst : st = As.reverse ++ .ref b :: rest) (hroom : (rest.map fun v => v.category).sum ≤ 8) (hd : decode μ.1 pc = .ok (.invokevirtual idx, 3)) (hn : pc + 3 = n) (k : ∀ (r : Int32) (σ2 : τ), post r σ2 → AW x μ g A w Q n lv (.int r :: rest) σ2) : AW x μ g A w Q pc lv st σ := by
  obtain ⟨p, l, e, R, s, m, args, below, meth, c⟩ := x
  obtain ⟨cc, nL, own, ret, d⟩ := μ
  subst hn
  intro hC H locs ls hP hD hS hl
  obtain ⟨hx, hb, hml, hown, hts, hlk, hrt, hA, hK, hR⟩ := id hC
  obtain ⟨cc2, nL2, own2, ret2, d2⟩ := μ2
  have hF := ax_free hD hS hA
  exact va_calli (va_runV (C := y.cls) (As := As) (rest := rest) ⟨hx, hb, hml, hown, hts⟩ (hM l H.size) ⟨callB_of As.length hts (ax_good hY.1.1) rfl rfl rfl (hts _ hY.1.2.1) (hts _ hl0) hY.1.2.2 ⟨Nat.le_trans hdd hR.1, Nat.le_trans hmax hR.2⟩, hts _ hY.2.1, hts _ hY.2.2⟩ ⟨fun a U gg mk q => ⟨q.1, q.2.1, ax_K.call q.2.2.1, q.2.2.2.1, q.2.2.2.2⟩, va_recv hK.1 hP hc he, fun U hU hW => ⟨rfl, by rw [hU], ax_K.to hK hS hF hW hU, by rw [hU]; exact hP, hD.weaken (fun _ _ _ _ => trivial)⟩⟩ rfl rfl hl.1 hst (lv_room hroom) hd ⟨Nat.zero_le _, Nat.zero_le _⟩) hS (fun q _ h => hF q h) hF (fun r u t H1 locs ht hvm hp hB hz1 hk1 hS => k r u hp hC H1 locs ls (by rw [← ht]; exact hB.1) (hB.2.weaken (fun _ _ _ h => hF _ h)) hS hl)
theorem aw_callVv {μ2 : ax_M} {y : MethodName} {idx : Nat} {b : Nat} {As : List Value} {post : τ → Prop} (hM : ax_CV μ2 g y w (.ref b :: As) σ post) (q0 : Nat) {ci N : Nat} {T : u_T} {fs : List Value} (he : (w σ)[q0]? = some (b, .inr (ci, fs))) (hc : classes[ci]? = some (y.cls, T, N)) (hY : ax_YV μ2 y As.length) (hl0 : Cond.methodLink μ.2.2.1 idx y ∈ ax_T) (hdd : μ2.2.2.2.2.1 + 1 ≤ μ.2.2.2.2.1) (hmax : 8 + (μ2.2.1 + 11) + μ2.2.2.2.2.2 ≤ μ.2.2.2.2.2) {st : List Value} (hst : st = As.reverse ++ .ref b :: rest) (hroom : (rest.map fun v => v.category).sum ≤ 8) (hd : decode μ.1 pc = .ok (.invokevirtual idx, 3)) (hn : pc + 3 = n) (k : ∀ σ2 : τ, post σ2 → AW x μ g A w Q n lv rest σ2) : AW x μ g A w Q pc lv st σ := by
  obtain ⟨p, l, e, R, s, m, args, below, meth, c⟩ := x
  obtain ⟨cc, nL, own, ret, d⟩ := μ
  subst hn
  intro hC H locs ls hP hD hS hl
  obtain ⟨hx, hb, hml, hown, hts, hlk, hrt, hA, hK, hR⟩ := id hC
  obtain ⟨cc2, nL2, own2, ret2, d2⟩ := μ2
  have hF := ax_free hD hS hA
  exact va_callv (va_runV (C := y.cls) (As := As) (rest := rest) ⟨hx, hb, hml, hown, hts⟩ (hM l H.size) ⟨callB_of As.length hts (ax_good hY.1.1) rfl rfl rfl (hts _ hY.1.2.1) (hts _ hl0) hY.1.2.2 ⟨Nat.le_trans hdd hR.1, Nat.le_trans hmax hR.2⟩, hts _ hY.2.1, hts _ hY.2.2⟩ ⟨fun a U gg mk q => ⟨q.1, q.2.1, ax_K.call q.2.2.1, q.2.2.2.1, q.2.2.2.2⟩, va_recv hK.1 hP hc he, fun U hU hW => ⟨rfl, by rw [hU], ax_K.to hK hS hF hW hU, by rw [hU]; exact hP, hD.weaken (fun _ _ _ _ => trivial)⟩⟩ rfl rfl hl.1 hst (lv_room hroom) hd ⟨Nat.zero_le _, Nat.zero_le _⟩) hS (fun q _ h => hF q h) hF (fun u t H1 locs ht hvm hp hB hz1 hk1 hS => k u hp hC H1 locs ls (by rw [← ht]; exact hB.1) (hB.2.weaken (fun _ _ _ h => hF _ h)) hS hl)
theorem aw_callSi {μ2 : ax_M} {y : MethodName} {idx : Nat} {As : List Value} {post : Int32 → τ → Prop} (hM : ax_CI μ2 g y w As σ post) (hY : ax_YS μ2 y As.length) (hl0 : Cond.methodLink μ.2.2.1 idx y ∈ ax_T) (hdd : μ2.2.2.2.2.1 + 1 ≤ μ.2.2.2.2.1) (hmax : 8 + (μ2.2.1 + 11) + μ2.2.2.2.2.2 ≤ μ.2.2.2.2.2) {st : List Value} (hst : st = As.reverse ++ rest) (hroom : (rest.map fun v => v.category).sum ≤ 8) (hd : decode μ.1 pc = .ok (.invokestatic idx, 3)) (hn : pc + 3 = n) (k : ∀ (r : Int32) (σ2 : τ), post r σ2 → AW x μ g A w Q n lv (.int r :: rest) σ2) : AW x μ g A w Q pc lv st σ := by
  obtain ⟨p, l, e, R, s, m, args, below, meth, c⟩ := x
  obtain ⟨cc, nL, own, ret, d⟩ := μ
  subst hn
  intro hC H locs ls hP hD hS hl
  obtain ⟨hx, hb, hml, hown, hts, hlk, hrt, hA, hK, hR⟩ := id hC
  obtain ⟨cc2, nL2, own2, ret2, d2⟩ := μ2
  have hF := ax_free hD hS hA
  exact va_calli (va_runS (As := As) (rest := rest) ⟨hx, hb, hml, hown, hts⟩ (hM l H.size) ⟨callB_of As.length hts (ax_good hY.1.1) rfl rfl rfl (hts _ hY.1.2.1) (hts _ hl0) hY.1.2.2 ⟨Nat.le_trans hdd hR.1, Nat.le_trans hmax hR.2⟩, hts _ hY.2⟩ ⟨fun a U gg mk q => ⟨q.1, q.2.1, ax_K.call q.2.2.1, q.2.2.2.1, q.2.2.2.2⟩, fun U hU hW => ⟨rfl, by rw [hU], ax_K.to hK hS hF hW hU, by rw [hU]; exact hP, hD.weaken (fun _ _ _ _ => trivial)⟩⟩ rfl rfl hl.1 hst (lv_room hroom) hd ⟨Nat.zero_le _, Nat.zero_le _⟩) hS (fun q _ h => hF q h) hF (fun r u t H1 locs ht hvm hp hB hz1 hk1 hS => k r u hp hC H1 locs ls (by rw [← ht]; exact hB.1) (hB.2.weaken (fun _ _ _ h => hF _ h)) hS hl)
theorem aw_callSv {μ2 : ax_M} {y : MethodName} {idx : Nat} {As : List Value} {post : τ → Prop} (hM : ax_CV μ2 g y w As σ post) (hY : ax_YS μ2 y As.length) (hl0 : Cond.methodLink μ.2.2.1 idx y ∈ ax_T) (hdd : μ2.2.2.2.2.1 + 1 ≤ μ.2.2.2.2.1) (hmax : 8 + (μ2.2.1 + 11) + μ2.2.2.2.2.2 ≤ μ.2.2.2.2.2) {st : List Value} (hst : st = As.reverse ++ rest) (hroom : (rest.map fun v => v.category).sum ≤ 8) (hd : decode μ.1 pc = .ok (.invokestatic idx, 3)) (hn : pc + 3 = n) (k : ∀ σ2 : τ, post σ2 → AW x μ g A w Q n lv rest σ2) : AW x μ g A w Q pc lv st σ := by
  obtain ⟨p, l, e, R, s, m, args, below, meth, c⟩ := x
  obtain ⟨cc, nL, own, ret, d⟩ := μ
  subst hn
  intro hC H locs ls hP hD hS hl
  obtain ⟨hx, hb, hml, hown, hts, hlk, hrt, hA, hK, hR⟩ := id hC
  obtain ⟨cc2, nL2, own2, ret2, d2⟩ := μ2
  have hF := ax_free hD hS hA
  exact va_callv (va_runS (As := As) (rest := rest) ⟨hx, hb, hml, hown, hts⟩ (hM l H.size) ⟨callB_of As.length hts (ax_good hY.1.1) rfl rfl rfl (hts _ hY.1.2.1) (hts _ hl0) hY.1.2.2 ⟨Nat.le_trans hdd hR.1, Nat.le_trans hmax hR.2⟩, hts _ hY.2⟩ ⟨fun a U gg mk q => ⟨q.1, q.2.1, ax_K.call q.2.2.1, q.2.2.2.1, q.2.2.2.2⟩, fun U hU hW => ⟨rfl, by rw [hU], ax_K.to hK hS hF hW hU, by rw [hU]; exact hP, hD.weaken (fun _ _ _ _ => trivial)⟩⟩ rfl rfl hl.1 hst (lv_room hroom) hd ⟨Nat.zero_le _, Nat.zero_le _⟩) hS (fun q _ h => hF q h) hF (fun u t H1 locs ht hvm hp hB hz1 hk1 hS => k u hp hC H1 locs ls (by rw [← ht]; exact hB.1) (hB.2.weaken (fun _ _ _ h => hF _ h)) hS hl)
theorem aw_callVNi {μ2 : ax_M} {y : MethodName} {idx : Nat} {b : Nat} {As : List Value} {post : Int32 → τ → Prop} (hM : ax_CI μ2 g y w (.ref b :: As) σ post) (q0 : Nat) {ci N : Nat} {T : u_T} {fs : List Value} (he : (w σ)[q0]? = some (b, .inr (ci, fs))) (hc : classes[ci]? = some (y.cls, T, N)) (hY : ax_YV μ2 y As.length) {host : String} (hl0 : Cond.methodLinkNest μ.2.2.1 idx y host ∈ ax_N) (hdd : μ2.2.2.2.2.1 + 1 ≤ μ.2.2.2.2.1) (hmax : 8 + (μ2.2.1 + 11) + μ2.2.2.2.2.2 ≤ μ.2.2.2.2.2) {st : List Value} (hst : st = As.reverse ++ .ref b :: rest) (hroom : (rest.map fun v => v.category).sum ≤ 8) (hd : decode μ.1 pc = .ok (.invokevirtual idx, 3)) (hn : pc + 3 = n) (k : ∀ (r : Int32) (σ2 : τ), post r σ2 → AW x μ g A w Q n lv (.int r :: rest) σ2) : AW x μ g A w Q pc lv st σ := by
  obtain ⟨p, l, e, R, s, m, args, below, meth, c⟩ := x
  obtain ⟨cc, nL, own, ret, d⟩ := μ
  subst hn
  intro hC H locs ls hP hD hS hl
  obtain ⟨hx, hb, hml, hown, hts, hlk, hrt, hA, hK, hR⟩ := id hC
  obtain ⟨cc2, nL2, own2, ret2, d2⟩ := μ2
  have hF := ax_free hD hS hA
  exact va_calli (va_runVN (C := y.cls) (As := As) (rest := rest) ⟨hx, hb, hml, hown, hts⟩ (hM l H.size) ⟨va_cnB As.length hts (ax_good hY.1.1) rfl rfl rfl (hK.2.1 _ hl0) (hts _ hY.1.2.1) hY.1.2.2 ⟨Nat.le_trans hdd hR.1, Nat.le_trans hmax hR.2⟩, hts _ hY.2.1, hts _ hY.2.2⟩ ⟨fun a U gg mk q => ⟨q.1, q.2.1, ax_K.call q.2.2.1, q.2.2.2.1, q.2.2.2.2⟩, va_recv hK.1 hP hc he, fun U hU hW => ⟨rfl, by rw [hU], ax_K.to hK hS hF hW hU, by rw [hU]; exact hP, hD.weaken (fun _ _ _ _ => trivial)⟩⟩ rfl rfl hl.1 hst (lv_room hroom) hd ⟨Nat.zero_le _, Nat.zero_le _⟩) hS (fun q _ h => hF q h) hF (fun r u t H1 locs ht hvm hp hB hz1 hk1 hS => k r u hp hC H1 locs ls (by rw [← ht]; exact hB.1) (hB.2.weaken (fun _ _ _ h => hF _ h)) hS hl)
theorem aw_callVNv {μ2 : ax_M} {y : MethodName} {idx : Nat} {b : Nat} {As : List Value} {post : τ → Prop} (hM : ax_CV μ2 g y w (.ref b :: As) σ post) (q0 : Nat) {ci N : Nat} {T : u_T} {fs : List Value} (he : (w σ)[q0]? = some (b, .inr (ci, fs))) (hc : classes[ci]? = some (y.cls, T, N)) (hY : ax_YV μ2 y As.length) {host : String} (hl0 : Cond.methodLinkNest μ.2.2.1 idx y host ∈ ax_N) (hdd : μ2.2.2.2.2.1 + 1 ≤ μ.2.2.2.2.1) (hmax : 8 + (μ2.2.1 + 11) + μ2.2.2.2.2.2 ≤ μ.2.2.2.2.2) {st : List Value} (hst : st = As.reverse ++ .ref b :: rest) (hroom : (rest.map fun v => v.category).sum ≤ 8) (hd : decode μ.1 pc = .ok (.invokevirtual idx, 3)) (hn : pc + 3 = n) (k : ∀ σ2 : τ, post σ2 → AW x μ g A w Q n lv rest σ2) : AW x μ g A w Q pc lv st σ := by
  obtain ⟨p, l, e, R, s, m, args, below, meth, c⟩ := x
  obtain ⟨cc, nL, own, ret, d⟩ := μ
  subst hn
  intro hC H locs ls hP hD hS hl
  obtain ⟨hx, hb, hml, hown, hts, hlk, hrt, hA, hK, hR⟩ := id hC
  obtain ⟨cc2, nL2, own2, ret2, d2⟩ := μ2
  have hF := ax_free hD hS hA
  exact va_callv (va_runVN (C := y.cls) (As := As) (rest := rest) ⟨hx, hb, hml, hown, hts⟩ (hM l H.size) ⟨va_cnB As.length hts (ax_good hY.1.1) rfl rfl rfl (hK.2.1 _ hl0) (hts _ hY.1.2.1) hY.1.2.2 ⟨Nat.le_trans hdd hR.1, Nat.le_trans hmax hR.2⟩, hts _ hY.2.1, hts _ hY.2.2⟩ ⟨fun a U gg mk q => ⟨q.1, q.2.1, ax_K.call q.2.2.1, q.2.2.2.1, q.2.2.2.2⟩, va_recv hK.1 hP hc he, fun U hU hW => ⟨rfl, by rw [hU], ax_K.to hK hS hF hW hU, by rw [hU]; exact hP, hD.weaken (fun _ _ _ _ => trivial)⟩⟩ rfl rfl hl.1 hst (lv_room hroom) hd ⟨Nat.zero_le _, Nat.zero_le _⟩) hS (fun q _ h => hF q h) hF (fun u t H1 locs ht hvm hp hB hz1 hk1 hS => k u hp hC H1 locs ls (by rw [← ht]; exact hB.1) (hB.2.weaken (fun _ _ _ h => hF _ h)) hS hl)
theorem aw_callSNi {μ2 : ax_M} {y : MethodName} {idx : Nat} {As : List Value} {post : Int32 → τ → Prop} (hM : ax_CI μ2 g y w As σ post) (hY : ax_YS μ2 y As.length) {host : String} (hl0 : Cond.methodLinkNest μ.2.2.1 idx y host ∈ ax_N) (hdd : μ2.2.2.2.2.1 + 1 ≤ μ.2.2.2.2.1) (hmax : 8 + (μ2.2.1 + 11) + μ2.2.2.2.2.2 ≤ μ.2.2.2.2.2) {st : List Value} (hst : st = As.reverse ++ rest) (hroom : (rest.map fun v => v.category).sum ≤ 8) (hd : decode μ.1 pc = .ok (.invokestatic idx, 3)) (hn : pc + 3 = n) (k : ∀ (r : Int32) (σ2 : τ), post r σ2 → AW x μ g A w Q n lv (.int r :: rest) σ2) : AW x μ g A w Q pc lv st σ := by
  obtain ⟨p, l, e, R, s, m, args, below, meth, c⟩ := x
  obtain ⟨cc, nL, own, ret, d⟩ := μ
  subst hn
  intro hC H locs ls hP hD hS hl
  obtain ⟨hx, hb, hml, hown, hts, hlk, hrt, hA, hK, hR⟩ := id hC
  obtain ⟨cc2, nL2, own2, ret2, d2⟩ := μ2
  have hF := ax_free hD hS hA
  exact va_calli (va_runSN (As := As) (rest := rest) ⟨hx, hb, hml, hown, hts⟩ (hM l H.size) ⟨va_cnB As.length hts (ax_good hY.1.1) rfl rfl rfl (hK.2.1 _ hl0) (hts _ hY.1.2.1) hY.1.2.2 ⟨Nat.le_trans hdd hR.1, Nat.le_trans hmax hR.2⟩, hts _ hY.2, trivial⟩ ⟨fun a U gg mk q => ⟨q.1, q.2.1, ax_K.call q.2.2.1, q.2.2.2.1, q.2.2.2.2⟩, fun U hU hW => ⟨rfl, by rw [hU], ax_K.to hK hS hF hW hU, by rw [hU]; exact hP, hD.weaken (fun _ _ _ _ => trivial)⟩⟩ rfl rfl hl.1 hst (lv_room hroom) hd ⟨Nat.zero_le _, Nat.zero_le _⟩) hS (fun q _ h => hF q h) hF (fun r u t H1 locs ht hvm hp hB hz1 hk1 hS => k r u hp hC H1 locs ls (by rw [← ht]; exact hB.1) (hB.2.weaken (fun _ _ _ h => hF _ h)) hS hl)
theorem aw_callSNv {μ2 : ax_M} {y : MethodName} {idx : Nat} {As : List Value} {post : τ → Prop} (hM : ax_CV μ2 g y w As σ post) (hY : ax_YS μ2 y As.length) {host : String} (hl0 : Cond.methodLinkNest μ.2.2.1 idx y host ∈ ax_N) (hdd : μ2.2.2.2.2.1 + 1 ≤ μ.2.2.2.2.1) (hmax : 8 + (μ2.2.1 + 11) + μ2.2.2.2.2.2 ≤ μ.2.2.2.2.2) {st : List Value} (hst : st = As.reverse ++ rest) (hroom : (rest.map fun v => v.category).sum ≤ 8) (hd : decode μ.1 pc = .ok (.invokestatic idx, 3)) (hn : pc + 3 = n) (k : ∀ σ2 : τ, post σ2 → AW x μ g A w Q n lv rest σ2) : AW x μ g A w Q pc lv st σ := by
  obtain ⟨p, l, e, R, s, m, args, below, meth, c⟩ := x
  obtain ⟨cc, nL, own, ret, d⟩ := μ
  subst hn
  intro hC H locs ls hP hD hS hl
  obtain ⟨hx, hb, hml, hown, hts, hlk, hrt, hA, hK, hR⟩ := id hC
  obtain ⟨cc2, nL2, own2, ret2, d2⟩ := μ2
  have hF := ax_free hD hS hA
  exact va_callv (va_runSN (As := As) (rest := rest) ⟨hx, hb, hml, hown, hts⟩ (hM l H.size) ⟨va_cnB As.length hts (ax_good hY.1.1) rfl rfl rfl (hK.2.1 _ hl0) (hts _ hY.1.2.1) hY.1.2.2 ⟨Nat.le_trans hdd hR.1, Nat.le_trans hmax hR.2⟩, hts _ hY.2, trivial⟩ ⟨fun a U gg mk q => ⟨q.1, q.2.1, ax_K.call q.2.2.1, q.2.2.2.1, q.2.2.2.2⟩, fun U hU hW => ⟨rfl, by rw [hU], ax_K.to hK hS hF hW hU, by rw [hU]; exact hP, hD.weaken (fun _ _ _ _ => trivial)⟩⟩ rfl rfl hl.1 hst (lv_room hroom) hd ⟨Nat.zero_le _, Nat.zero_le _⟩) hS (fun q _ h => hF q h) hF (fun u t H1 locs ht hvm hp hB hz1 hk1 hS => k u hp hC H1 locs ls (by rw [← ht]; exact hB.1) (hB.2.weaken (fun _ _ _ h => hF _ h)) hS hl)
theorem aw_let {σ2 : τ} {st : List Value} (h : σ = σ2) (k : AW x μ g A w Q pc lv st σ2) : AW x μ g A w Q pc lv st σ := h ▸ k
theorem aw_gets {C nm ds : String} {v : Value} {idx : Nat} (hZ : ∀ (A : Nat → Prop) (s : State), ax_K g A s s.heap → va_Z C nm ds v A s s.heap) (hd : decode μ.1 pc = .ok (.getstatic idx, 3)) (hn : pc + 3 = n) (hl0 : Cond.fieldLink μ.2.2.1 idx C nm ds ∈ ax_T) (k : AW x μ g A w Q n lv (v :: rest) σ) : AW x μ g A w Q pc lv rest σ := by
  obtain ⟨p, l, e, R, s, m, args, below, meth, c⟩ := x
  obtain ⟨cc, nL, own, ret, d⟩ := μ
  subst hn
  intro hC H locs ls hP hD hS hl
  obtain ⟨hx, hb, hml, hown, hts, hlk, hrt, hA, hK, hR⟩ := id hC
  exact va_gets hx hb (hZ A s hK) hS hown (hts _ hl0) (fun _ h => h) hd (k hC H locs ls hP hD hS hl)
theorem aw_getsN {C nm ds host : String} {v : Value} {idx : Nat} (hZ : ∀ (A : Nat → Prop) (s : State), ax_K g A s s.heap → va_Z C nm ds v A s s.heap) (hd : decode μ.1 pc = .ok (.getstatic idx, 3)) (hn : pc + 3 = n) (hl0 : Cond.fieldLinkNest μ.2.2.1 idx C nm ds host ∈ ax_N) (k : AW x μ g A w Q n lv (v :: rest) σ) : AW x μ g A w Q pc lv rest σ := by
  obtain ⟨p, l, e, R, s, m, args, below, meth, c⟩ := x
  obtain ⟨cc, nL, own, ret, d⟩ := μ
  subst hn
  intro hC H locs ls hP hD hS hl
  obtain ⟨hx, hb, hml, hown, hts, hlk, hrt, hA, hK, hR⟩ := id hC
  exact va_getsN hx hb (hZ A s hK) hS hown (va_Nw.use rfl (hK.2.1 _ hl0)) (fun _ h => h) hd (k hC H locs ls hP hD hS hl)
theorem aw_ti {t N : Nat} {f : Nat → Int32} (hT : ∀ (A : Nat → Prop) (s : State), ax_K g A s s.heap → va_T .int t N (fun j => .int (f j)) A s s.heap) {i : Int32} (hi : vp_in i N) (hd : decode μ.1 pc = .ok (.iaload, 1)) (hn : pc + 1 = n) (k : AW x μ g A w Q n lv (.int (f i.toNatClampNeg) :: rest) σ) : AW x μ g A w Q pc lv (.int i :: .ref t :: rest) σ := by
  obtain ⟨p, l, e, R, s, m, args, below, meth, c⟩ := x
  obtain ⟨cc, nL, own, ret, d⟩ := μ
  subst hn
  intro hC H locs ls hP hD hS hl
  obtain ⟨hx, hb, hml, hown, hts, hlk, hrt, hA, hK, hR⟩ := id hC
  exact va_ti hx hb (hT A s hK) hS hi rfl hd (k hC H locs ls hP hD hS hl)
theorem aw_copyi {idx : Nat} (q0 q1 t0 t1 : Nat) {a0 a1 : Nat} {c0 c1 : ClassId} {n0 n1 : Nat} {f f1 : Nat → Int32} {ty : FieldType} (ha0 : (w σ)[q0]? = some (a0, .inl (c0, n0, .inl f))) (ha1 : (w σ)[q1]? = some (a1, .inl (c1, n1, .inl f1))) (ht0 : (ax_tys g)[t0]? = some (c0, ty)) (ht1 : (ax_tys g)[t1]? = some (c1, ty)) (hprim : refKind ty = false) (hfit : ∀ v : Int32, fits ty (.int v) = true) {sp dp z : Int32} (hb0 : cpB sp dp z n0 n1 = true) (hdd : 1 ≤ μ.2.2.2.2.1) (hlo : (rest.map fun v => v.category).sum + (nativeFrameWords "java/lang/System" "arraycopy" 5 + 11) ≤ μ.2.2.2.2.2) (hl0 : Cond.methodLink μ.2.2.1 idx arraycopyName ∈ ax_T) {σ2 : τ} (hset : (w σ).set q1 (a1, .inl (c1, n1, .inl (va_cpy f f1 sp.toNatClampNeg dp.toNatClampNeg z.toNatClampNeg))) = w σ2) (hd : decode μ.1 pc = .ok (.invokestatic idx, 3)) (hn : pc + 3 = n) (k : AW x μ g A w Q n lv rest σ2) : AW x μ g A w Q pc lv (.int z :: .int dp :: .ref a1 :: .int sp :: .ref a0 :: rest) σ := by
  obtain ⟨p, l, e, R, s, m, args, below, meth, c⟩ := x
  obtain ⟨cc, nL, own, ret, d⟩ := μ
  subst hn
  intro hC H locs ls hP hD hS hl
  obtain ⟨hx, hb, hml, hown, hts, hlk, hrt, hA, hK, hR⟩ := id hC
  have hb1 : sp.toNatClampNeg + z.toNatClampNeg ≤ n0 ∧ dp.toNatClampNeg + z.toNatClampNeg ≤ n1 ∧ ¬ sp < 0 ∧ ¬ dp < 0 ∧ ¬ z < 0 := by
    simp only [cpB, Bool.and_eq_true, Bool.not_eq_true', decide_eq_false_iff_not, decide_eq_true_eq] at hb0
    exact ⟨hb0.2.2.2.1, hb0.2.2.2.2, hb0.1, hb0.2.1, hb0.2.2.1⟩
  exact va_copyi (D := g.1) hx hb (hml.trans hl.1.symm) hown (hts _ hl0) (hts _ (ax_mem (by decide +kernel) rfl)) (hts _ (ax_mem (by decide +kernel) rfl)) (hts _ (ax_mem (by decide +kernel) rfl)) hK.1 hP hD hS q0 q1 t0 t1 ha0 ha1 ht0 ht1 hprim hb1.2.2.1 hb1.2.2.2.1 hb1.2.2.2.2 hb1.1 hb1.2.1 (fun i _ => hfit _) (Nat.le_trans hdd hR.1) (Nat.le_trans hlo hR.2) hd (fun H locs hP hD hS => k hC H locs ls (hset ▸ hP) (hset ▸ hD) hS hl)
section AXS
variable {w : St → va_W} {σ : St}
theorem gs_PARTS {idx : Nat} (hd : decode μ.1 pc = .ok (.getstatic idx, 3)) (hn : pc + 3 = n) (hl0 : Cond.fieldLink μ.2.2.1 idx "DotConsole" "PARTS" "[I" ∈ ax_T) (k : AW x μ g A w Q n lv (.ref (g.2.2.2 0) :: rest) σ) : AW x μ g A w Q pc lv rest σ := aw_gets (fun _ _ h => h.2.2.1.1) hd hn hl0 k
theorem gs_PARTSN {idx : Nat} (hd : decode μ.1 pc = .ok (.getstatic idx, 3)) (hn : pc + 3 = n) (hl0 : Cond.fieldLinkNest μ.2.2.1 idx "DotConsole" "PARTS" "[I" "DotConsole" ∈ ax_N) (k : AW x μ g A w Q n lv (.ref (g.2.2.2 0) :: rest) σ) : AW x μ g A w Q pc lv rest σ := aw_getsN (fun _ _ h => h.2.2.1.1) hd hn hl0 k
theorem gs_TENSN {idx : Nat} (hd : decode μ.1 pc = .ok (.getstatic idx, 3)) (hn : pc + 3 = n) (hl0 : Cond.fieldLinkNest μ.2.2.1 idx "DotConsole" "TENS" "[I" "DotConsole" ∈ ax_N) (k : AW x μ g A w Q n lv (.ref (g.2.2.2 1) :: rest) σ) : AW x μ g A w Q pc lv rest σ := aw_getsN (fun _ _ h => h.2.2.2.1.1) hd hn hl0 k
theorem al_PARTS {i : Int32} (hd : decode μ.1 pc = .ok (.iaload, 1)) (hn : pc + 1 = n) (hb : inB i 17 = true) (k : AW x μ g A w Q n lv (.int (tPARTS i.toNatClampNeg) :: rest) σ) : AW x μ g A w Q pc lv (.int i :: .ref (g.2.2.2 0) :: rest) σ := aw_ti (fun _ _ h => h.2.2.1.2) (inB_vp hb) hd hn k
theorem al_TENS {i : Int32} (hd : decode μ.1 pc = .ok (.iaload, 1)) (hn : pc + 1 = n) (hb : inB i 5 = true) (k : AW x μ g A w Q n lv (.int (tTENS i.toNatClampNeg) :: rest) σ) : AW x μ g A w Q pc lv (.int i :: .ref (g.2.2.2 1) :: rest) σ := aw_ti (fun _ _ h => h.2.2.2.1.2) (inB_vp hb) hd hn k
end AXS
end AX
end
section
/-! THE WORLD wC: its cells, and a row for each field and array. Printed by wip/whole/build.py. -/
-- scalars: 0 Con.badPlace, 1 Tokens.length, 2 Tokens.found, 3 Tokens.next, 4 Names.kept, 5 Names.seen, 6 Names.tooMany, 7 LineReader.at, 8 LineReader.statement, 9 LineReader.target, 10 LineReader.nodeCount, 11 LineReader.levelCount, 12 LineReader.mostLevels, 13 LineReader.waitingCount, 14 LineReader.outerCommasDue, 15 LineReader.wantsPart, 16 Program.lines, 17 Program.sealed, 18 Program.openCount, 19 Machine.seed, 20 Machine.frames, 21 Machine.steps, 22 Machine.stackCount
-- arrays: 0 Tokens.wordKeys, 1 Tokens.text, 2 Tokens.kinds, 3 Tokens.starts, 4 Tokens.meanings, 5 Names.keys, 6 LineReader.kinds, 7 LineReader.operands, 8 LineReader.levels, 9 LineReader.waiting, 10 LineReader.waitingRanks, 11 LineReader.commasDue, 12 Program.statements, 13 Program.targets, 14 Program.nodeCounts, 15 Program.kinds, 16 Program.operands, 17 Program.jumps, 18 Program.open, 19 Machine.values, 20 Machine.cells, 21 Machine.stack, 22 Screen.dots, 23 Pad.framesDown
def wC (g : ax_G) (σ : St) : va_W := [(g.2.1 0, .inr (0, [.ref (g.2.1 1), .ref (g.2.1 7), .ref (g.2.1 9), .ref (g.2.1 16), .ref (g.2.1 24), .int (σ.1 0)])),
  (g.2.1 1, .inr (1, [.ref (g.2.1 2), .ref (g.2.1 3), .int (σ.1 1), .ref (g.2.1 4), .ref (g.2.1 5), .ref (g.2.1 6), .int (σ.1 2), .int (σ.1 3)])),
  (g.2.1 2, .inl (g.2.2.1 0, 17, .inl (σ.2 0))),
  (g.2.1 3, .inl (g.2.2.1 1, 48, .inl (σ.2 1))),
  (g.2.1 4, .inl (g.2.2.1 0, 49, .inl (σ.2 2))),
  (g.2.1 5, .inl (g.2.2.1 0, 49, .inl (σ.2 3))),
  (g.2.1 6, .inl (g.2.2.1 0, 49, .inl (σ.2 4))),
  (g.2.1 7, .inr (2, [.ref (g.2.1 8), .int (σ.1 4), .int (σ.1 5), .int (σ.1 6)])),
  (g.2.1 8, .inl (g.2.2.1 0, 12, .inl (σ.2 5))),
  (g.2.1 9, .inr (3, [.ref (g.2.1 1), .ref (g.2.1 7), .int (σ.1 7), .int (σ.1 8), .int (σ.1 9), .ref (g.2.1 10), .ref (g.2.1 11), .int (σ.1 10), .ref (g.2.1 12), .int (σ.1 11), .int (σ.1 12), .ref (g.2.1 13), .ref (g.2.1 14), .ref (g.2.1 15), .int (σ.1 13), .int (σ.1 14), .int (σ.1 15)])),
  (g.2.1 10, .inl (g.2.2.1 0, 48, .inl (σ.2 6))),
  (g.2.1 11, .inl (g.2.2.1 0, 48, .inl (σ.2 7))),
  (g.2.1 12, .inl (g.2.2.1 0, 48, .inl (σ.2 8))),
  (g.2.1 13, .inl (g.2.2.1 0, 48, .inl (σ.2 9))),
  (g.2.1 14, .inl (g.2.2.1 0, 48, .inl (σ.2 10))),
  (g.2.1 15, .inl (g.2.2.1 0, 48, .inl (σ.2 11))),
  (g.2.1 16, .inr (4, [.int (σ.1 16), .int (σ.1 17), .ref (g.2.1 17), .ref (g.2.1 18), .ref (g.2.1 19), .ref (g.2.1 20), .ref (g.2.1 21), .ref (g.2.1 22), .ref (g.2.1 23), .int (σ.1 18)])),
  (g.2.1 17, .inl (g.2.2.1 0, 28, .inl (σ.2 12))),
  (g.2.1 18, .inl (g.2.2.1 0, 28, .inl (σ.2 13))),
  (g.2.1 19, .inl (g.2.2.1 0, 28, .inl (σ.2 14))),
  (g.2.1 20, .inl (g.2.2.1 0, 448, .inl (σ.2 15))),
  (g.2.1 21, .inl (g.2.2.1 0, 448, .inl (σ.2 16))),
  (g.2.1 22, .inl (g.2.2.1 0, 28, .inl (σ.2 17))),
  (g.2.1 23, .inl (g.2.2.1 0, 4, .inl (σ.2 18))),
  (g.2.1 24, .inr (5, [.ref (g.2.1 16), .ref (g.2.1 28), .ref (g.2.1 30), .ref (g.2.1 25), .ref (g.2.1 26), .int (σ.1 19), .int (σ.1 20), .int (σ.1 21), .ref (g.2.1 27), .int (σ.1 22)])),
  (g.2.1 25, .inl (g.2.2.1 0, 12, .inl (σ.2 19))),
  (g.2.1 26, .inl (g.2.2.1 0, 32, .inl (σ.2 20))),
  (g.2.1 27, .inl (g.2.2.1 0, 16, .inl (σ.2 21))),
  (g.2.1 28, .inr (6, [.ref (g.2.1 29)])),
  (g.2.1 29, .inl (g.2.2.1 0, 256, .inl (σ.2 22))),
  (g.2.1 30, .inr (7, [.ref (g.2.1 31)])),
  (g.2.1 31, .inl (g.2.2.1 0, 6, .inl (σ.2 23)))]
section AXW
variable {x : ax_X} {μ : ax_M} {g : ax_G} {A : Nat → Prop} {Q : State → Prop} {pc n idx : Nat} {lv : List (Nat × Value)} {rest : List Value} {σ : St}
theorem gf_Con_tokens (hd : decode μ.1 pc = .ok (.getfield idx, 3)) (hn : pc + 3 = n) (hl0 : Cond.fieldLink μ.2.2.1 idx "DotConsole" "tokens" "LDotConsole$Tokens;" ∈ ax_T) (k : AW x μ g A (wC g) Q n lv (.ref (g.2.1 1) :: rest) σ) : AW x μ g A (wC g) Q pc lv (.ref (g.2.1 0) :: rest) σ := aw_get (C := R_Con) (T := F_Con) (N := 6) 0 rfl rfl 0 (by decide) rfl i_Con rfl hl0 hd hn k
theorem gf_Con_names (hd : decode μ.1 pc = .ok (.getfield idx, 3)) (hn : pc + 3 = n) (hl0 : Cond.fieldLink μ.2.2.1 idx "DotConsole" "names" "LDotConsole$Names;" ∈ ax_T) (k : AW x μ g A (wC g) Q n lv (.ref (g.2.1 7) :: rest) σ) : AW x μ g A (wC g) Q pc lv (.ref (g.2.1 0) :: rest) σ := aw_get (C := R_Con) (T := F_Con) (N := 6) 0 rfl rfl 1 (by decide) rfl i_Con rfl hl0 hd hn k
theorem gf_Con_reader (hd : decode μ.1 pc = .ok (.getfield idx, 3)) (hn : pc + 3 = n) (hl0 : Cond.fieldLink μ.2.2.1 idx "DotConsole" "reader" "LDotConsole$LineReader;" ∈ ax_T) (k : AW x μ g A (wC g) Q n lv (.ref (g.2.1 9) :: rest) σ) : AW x μ g A (wC g) Q pc lv (.ref (g.2.1 0) :: rest) σ := aw_get (C := R_Con) (T := F_Con) (N := 6) 0 rfl rfl 2 (by decide) rfl i_Con rfl hl0 hd hn k
theorem gf_Con_program (hd : decode μ.1 pc = .ok (.getfield idx, 3)) (hn : pc + 3 = n) (hl0 : Cond.fieldLink μ.2.2.1 idx "DotConsole" "program" "LDotConsole$Program;" ∈ ax_T) (k : AW x μ g A (wC g) Q n lv (.ref (g.2.1 16) :: rest) σ) : AW x μ g A (wC g) Q pc lv (.ref (g.2.1 0) :: rest) σ := aw_get (C := R_Con) (T := F_Con) (N := 6) 0 rfl rfl 3 (by decide) rfl i_Con rfl hl0 hd hn k
theorem gf_Con_machine (hd : decode μ.1 pc = .ok (.getfield idx, 3)) (hn : pc + 3 = n) (hl0 : Cond.fieldLink μ.2.2.1 idx "DotConsole" "machine" "LDotConsole$Machine;" ∈ ax_T) (k : AW x μ g A (wC g) Q n lv (.ref (g.2.1 24) :: rest) σ) : AW x μ g A (wC g) Q pc lv (.ref (g.2.1 0) :: rest) σ := aw_get (C := R_Con) (T := F_Con) (N := 6) 0 rfl rfl 4 (by decide) rfl i_Con rfl hl0 hd hn k
theorem gf_Con_badPlace (hd : decode μ.1 pc = .ok (.getfield idx, 3)) (hn : pc + 3 = n) (hl0 : Cond.fieldLink μ.2.2.1 idx "DotConsole" "badPlace" "I" ∈ ax_T) (k : AW x μ g A (wC g) Q n lv (.int (σ.1 0) :: rest) σ) : AW x μ g A (wC g) Q pc lv (.ref (g.2.1 0) :: rest) σ := aw_get (C := R_Con) (T := F_Con) (N := 6) 0 rfl rfl 5 (by decide) rfl i_Con rfl hl0 hd hn k
theorem pf_Con_badPlace {v : Int32} (hd : decode μ.1 pc = .ok (.putfield idx, 3)) (hn : pc + 3 = n) (hl0 : Cond.fieldLink μ.2.2.1 idx "DotConsole" "badPlace" "I" ∈ ax_T) (k : AW x μ g A (wC g) Q n lv rest (sF σ 0 v)) : AW x μ g A (wC g) Q pc lv (.int v :: .ref (g.2.1 0) :: rest) σ := aw_put (C := R_Con) (T := F_Con) (N := 6) 0 rfl rfl 5 (by decide) ty_Con ty_Con_ok nm_Con rfl rfl rfl rfl (Nat.le_of_ble_eq_true rfl) i_Con rfl hl0 (σ2 := sF σ 0 v) rfl hd hn k
theorem gf_Tokens_wordKeys (hd : decode μ.1 pc = .ok (.getfield idx, 3)) (hn : pc + 3 = n) (hl0 : Cond.fieldLink μ.2.2.1 idx "DotConsole$Tokens" "wordKeys" "[I" ∈ ax_T) (k : AW x μ g A (wC g) Q n lv (.ref (g.2.1 2) :: rest) σ) : AW x μ g A (wC g) Q pc lv (.ref (g.2.1 1) :: rest) σ := aw_get (C := R_Tokens) (T := F_Tokens) (N := 8) 1 rfl rfl 0 (by decide) rfl i_Tokens rfl hl0 hd hn k
theorem gf_Tokens_text (hd : decode μ.1 pc = .ok (.getfield idx, 3)) (hn : pc + 3 = n) (hl0 : Cond.fieldLink μ.2.2.1 idx "DotConsole$Tokens" "text" "[C" ∈ ax_T) (k : AW x μ g A (wC g) Q n lv (.ref (g.2.1 3) :: rest) σ) : AW x μ g A (wC g) Q pc lv (.ref (g.2.1 1) :: rest) σ := aw_get (C := R_Tokens) (T := F_Tokens) (N := 8) 1 rfl rfl 1 (by decide) rfl i_Tokens rfl hl0 hd hn k
theorem gf_Tokens_length (hd : decode μ.1 pc = .ok (.getfield idx, 3)) (hn : pc + 3 = n) (hl0 : Cond.fieldLink μ.2.2.1 idx "DotConsole$Tokens" "length" "I" ∈ ax_T) (k : AW x μ g A (wC g) Q n lv (.int (σ.1 1) :: rest) σ) : AW x μ g A (wC g) Q pc lv (.ref (g.2.1 1) :: rest) σ := aw_get (C := R_Tokens) (T := F_Tokens) (N := 8) 1 rfl rfl 2 (by decide) rfl i_Tokens rfl hl0 hd hn k
theorem pf_Tokens_length {v : Int32} (hd : decode μ.1 pc = .ok (.putfield idx, 3)) (hn : pc + 3 = n) (hl0 : Cond.fieldLink μ.2.2.1 idx "DotConsole$Tokens" "length" "I" ∈ ax_T) (k : AW x μ g A (wC g) Q n lv rest (sF σ 1 v)) : AW x μ g A (wC g) Q pc lv (.int v :: .ref (g.2.1 1) :: rest) σ := aw_put (C := R_Tokens) (T := F_Tokens) (N := 8) 1 rfl rfl 2 (by decide) ty_Tokens ty_Tokens_ok nm_Tokens rfl rfl rfl rfl (Nat.le_of_ble_eq_true rfl) i_Tokens rfl hl0 (σ2 := sF σ 1 v) rfl hd hn k
theorem gf_Tokens_kinds (hd : decode μ.1 pc = .ok (.getfield idx, 3)) (hn : pc + 3 = n) (hl0 : Cond.fieldLink μ.2.2.1 idx "DotConsole$Tokens" "kinds" "[I" ∈ ax_T) (k : AW x μ g A (wC g) Q n lv (.ref (g.2.1 4) :: rest) σ) : AW x μ g A (wC g) Q pc lv (.ref (g.2.1 1) :: rest) σ := aw_get (C := R_Tokens) (T := F_Tokens) (N := 8) 1 rfl rfl 3 (by decide) rfl i_Tokens rfl hl0 hd hn k
theorem gf_Tokens_starts (hd : decode μ.1 pc = .ok (.getfield idx, 3)) (hn : pc + 3 = n) (hl0 : Cond.fieldLink μ.2.2.1 idx "DotConsole$Tokens" "starts" "[I" ∈ ax_T) (k : AW x μ g A (wC g) Q n lv (.ref (g.2.1 5) :: rest) σ) : AW x μ g A (wC g) Q pc lv (.ref (g.2.1 1) :: rest) σ := aw_get (C := R_Tokens) (T := F_Tokens) (N := 8) 1 rfl rfl 4 (by decide) rfl i_Tokens rfl hl0 hd hn k
theorem gf_Tokens_meanings (hd : decode μ.1 pc = .ok (.getfield idx, 3)) (hn : pc + 3 = n) (hl0 : Cond.fieldLink μ.2.2.1 idx "DotConsole$Tokens" "meanings" "[I" ∈ ax_T) (k : AW x μ g A (wC g) Q n lv (.ref (g.2.1 6) :: rest) σ) : AW x μ g A (wC g) Q pc lv (.ref (g.2.1 1) :: rest) σ := aw_get (C := R_Tokens) (T := F_Tokens) (N := 8) 1 rfl rfl 5 (by decide) rfl i_Tokens rfl hl0 hd hn k
theorem gf_Tokens_found (hd : decode μ.1 pc = .ok (.getfield idx, 3)) (hn : pc + 3 = n) (hl0 : Cond.fieldLink μ.2.2.1 idx "DotConsole$Tokens" "found" "I" ∈ ax_T) (k : AW x μ g A (wC g) Q n lv (.int (σ.1 2) :: rest) σ) : AW x μ g A (wC g) Q pc lv (.ref (g.2.1 1) :: rest) σ := aw_get (C := R_Tokens) (T := F_Tokens) (N := 8) 1 rfl rfl 6 (by decide) rfl i_Tokens rfl hl0 hd hn k
theorem pf_Tokens_found {v : Int32} (hd : decode μ.1 pc = .ok (.putfield idx, 3)) (hn : pc + 3 = n) (hl0 : Cond.fieldLink μ.2.2.1 idx "DotConsole$Tokens" "found" "I" ∈ ax_T) (k : AW x μ g A (wC g) Q n lv rest (sF σ 2 v)) : AW x μ g A (wC g) Q pc lv (.int v :: .ref (g.2.1 1) :: rest) σ := aw_put (C := R_Tokens) (T := F_Tokens) (N := 8) 1 rfl rfl 6 (by decide) ty_Tokens ty_Tokens_ok nm_Tokens rfl rfl rfl rfl (Nat.le_of_ble_eq_true rfl) i_Tokens rfl hl0 (σ2 := sF σ 2 v) rfl hd hn k
theorem gf_Tokens_next (hd : decode μ.1 pc = .ok (.getfield idx, 3)) (hn : pc + 3 = n) (hl0 : Cond.fieldLink μ.2.2.1 idx "DotConsole$Tokens" "next" "I" ∈ ax_T) (k : AW x μ g A (wC g) Q n lv (.int (σ.1 3) :: rest) σ) : AW x μ g A (wC g) Q pc lv (.ref (g.2.1 1) :: rest) σ := aw_get (C := R_Tokens) (T := F_Tokens) (N := 8) 1 rfl rfl 7 (by decide) rfl i_Tokens rfl hl0 hd hn k
theorem pf_Tokens_next {v : Int32} (hd : decode μ.1 pc = .ok (.putfield idx, 3)) (hn : pc + 3 = n) (hl0 : Cond.fieldLink μ.2.2.1 idx "DotConsole$Tokens" "next" "I" ∈ ax_T) (k : AW x μ g A (wC g) Q n lv rest (sF σ 3 v)) : AW x μ g A (wC g) Q pc lv (.int v :: .ref (g.2.1 1) :: rest) σ := aw_put (C := R_Tokens) (T := F_Tokens) (N := 8) 1 rfl rfl 7 (by decide) ty_Tokens ty_Tokens_ok nm_Tokens rfl rfl rfl rfl (Nat.le_of_ble_eq_true rfl) i_Tokens rfl hl0 (σ2 := sF σ 3 v) rfl hd hn k
theorem al_2 {i : Int32} (hd : decode μ.1 pc = .ok (.iaload, 1)) (hn : pc + 1 = n) (hb : inB i 17 = true) (k : AW x μ g A (wC g) Q n lv (.int (σ.2 0 i.toNatClampNeg) :: rest) σ) : AW x μ g A (wC g) Q pc lv (.int i :: .ref (g.2.1 2) :: rest) σ := aw_iald 2 0 rfl rfl (inB_vp hb) hd hn k
theorem as_2 {i v : Int32} (hd : decode μ.1 pc = .ok (.iastore, 1)) (hn : pc + 1 = n) (hb : inB i 17 = true) (k : AW x μ g A (wC g) Q n lv rest (sA σ 0 i.toNatClampNeg v)) : AW x μ g A (wC g) Q pc lv (.int v :: .int i :: .ref (g.2.1 2) :: rest) σ := aw_iast 2 0 rfl rfl (inB_vp hb) (σ2 := sA σ 0 i.toNatClampNeg v) rfl hd hn k
theorem an_2 (hd : decode μ.1 pc = .ok (.arraylength, 1)) (hn : pc + 1 = n) (k : AW x μ g A (wC g) Q n lv (.int 17 :: rest) σ) : AW x μ g A (wC g) Q pc lv (.ref (g.2.1 2) :: rest) σ := aw_alen 2 0 rfl rfl (show Int32.ofNat 17 = 17 by decide) hd hn k
theorem al_3 {i : Int32} (hd : decode μ.1 pc = .ok (.caload, 1)) (hn : pc + 1 = n) (hb : inB i 48 = true) (k : AW x μ g A (wC g) Q n lv (.int (σ.2 1 i.toNatClampNeg) :: rest) σ) : AW x μ g A (wC g) Q pc lv (.int i :: .ref (g.2.1 3) :: rest) σ := aw_cald 3 1 rfl rfl (inB_vp hb) hd hn k
theorem as_3 {i v : Int32} (hd : decode μ.1 pc = .ok (.castore, 1)) (hn : pc + 1 = n) (hb : inB i 48 = true) (k : AW x μ g A (wC g) Q n lv rest (sA σ 1 i.toNatClampNeg (vp_nar .char v))) : AW x μ g A (wC g) Q pc lv (.int v :: .int i :: .ref (g.2.1 3) :: rest) σ := aw_cast 3 1 rfl rfl (inB_vp hb) (σ2 := sA σ 1 i.toNatClampNeg (vp_nar .char v)) rfl hd hn k
theorem an_3 (hd : decode μ.1 pc = .ok (.arraylength, 1)) (hn : pc + 1 = n) (k : AW x μ g A (wC g) Q n lv (.int 48 :: rest) σ) : AW x μ g A (wC g) Q pc lv (.ref (g.2.1 3) :: rest) σ := aw_alen 3 1 rfl rfl (show Int32.ofNat 48 = 48 by decide) hd hn k
theorem al_4 {i : Int32} (hd : decode μ.1 pc = .ok (.iaload, 1)) (hn : pc + 1 = n) (hb : inB i 49 = true) (k : AW x μ g A (wC g) Q n lv (.int (σ.2 2 i.toNatClampNeg) :: rest) σ) : AW x μ g A (wC g) Q pc lv (.int i :: .ref (g.2.1 4) :: rest) σ := aw_iald 4 0 rfl rfl (inB_vp hb) hd hn k
theorem as_4 {i v : Int32} (hd : decode μ.1 pc = .ok (.iastore, 1)) (hn : pc + 1 = n) (hb : inB i 49 = true) (k : AW x μ g A (wC g) Q n lv rest (sA σ 2 i.toNatClampNeg v)) : AW x μ g A (wC g) Q pc lv (.int v :: .int i :: .ref (g.2.1 4) :: rest) σ := aw_iast 4 0 rfl rfl (inB_vp hb) (σ2 := sA σ 2 i.toNatClampNeg v) rfl hd hn k
theorem an_4 (hd : decode μ.1 pc = .ok (.arraylength, 1)) (hn : pc + 1 = n) (k : AW x μ g A (wC g) Q n lv (.int 49 :: rest) σ) : AW x μ g A (wC g) Q pc lv (.ref (g.2.1 4) :: rest) σ := aw_alen 4 0 rfl rfl (show Int32.ofNat 49 = 49 by decide) hd hn k
theorem al_5 {i : Int32} (hd : decode μ.1 pc = .ok (.iaload, 1)) (hn : pc + 1 = n) (hb : inB i 49 = true) (k : AW x μ g A (wC g) Q n lv (.int (σ.2 3 i.toNatClampNeg) :: rest) σ) : AW x μ g A (wC g) Q pc lv (.int i :: .ref (g.2.1 5) :: rest) σ := aw_iald 5 0 rfl rfl (inB_vp hb) hd hn k
theorem as_5 {i v : Int32} (hd : decode μ.1 pc = .ok (.iastore, 1)) (hn : pc + 1 = n) (hb : inB i 49 = true) (k : AW x μ g A (wC g) Q n lv rest (sA σ 3 i.toNatClampNeg v)) : AW x μ g A (wC g) Q pc lv (.int v :: .int i :: .ref (g.2.1 5) :: rest) σ := aw_iast 5 0 rfl rfl (inB_vp hb) (σ2 := sA σ 3 i.toNatClampNeg v) rfl hd hn k
theorem an_5 (hd : decode μ.1 pc = .ok (.arraylength, 1)) (hn : pc + 1 = n) (k : AW x μ g A (wC g) Q n lv (.int 49 :: rest) σ) : AW x μ g A (wC g) Q pc lv (.ref (g.2.1 5) :: rest) σ := aw_alen 5 0 rfl rfl (show Int32.ofNat 49 = 49 by decide) hd hn k
theorem al_6 {i : Int32} (hd : decode μ.1 pc = .ok (.iaload, 1)) (hn : pc + 1 = n) (hb : inB i 49 = true) (k : AW x μ g A (wC g) Q n lv (.int (σ.2 4 i.toNatClampNeg) :: rest) σ) : AW x μ g A (wC g) Q pc lv (.int i :: .ref (g.2.1 6) :: rest) σ := aw_iald 6 0 rfl rfl (inB_vp hb) hd hn k
theorem as_6 {i v : Int32} (hd : decode μ.1 pc = .ok (.iastore, 1)) (hn : pc + 1 = n) (hb : inB i 49 = true) (k : AW x μ g A (wC g) Q n lv rest (sA σ 4 i.toNatClampNeg v)) : AW x μ g A (wC g) Q pc lv (.int v :: .int i :: .ref (g.2.1 6) :: rest) σ := aw_iast 6 0 rfl rfl (inB_vp hb) (σ2 := sA σ 4 i.toNatClampNeg v) rfl hd hn k
theorem an_6 (hd : decode μ.1 pc = .ok (.arraylength, 1)) (hn : pc + 1 = n) (k : AW x μ g A (wC g) Q n lv (.int 49 :: rest) σ) : AW x μ g A (wC g) Q pc lv (.ref (g.2.1 6) :: rest) σ := aw_alen 6 0 rfl rfl (show Int32.ofNat 49 = 49 by decide) hd hn k
theorem gf_Names_keys (hd : decode μ.1 pc = .ok (.getfield idx, 3)) (hn : pc + 3 = n) (hl0 : Cond.fieldLink μ.2.2.1 idx "DotConsole$Names" "keys" "[I" ∈ ax_T) (k : AW x μ g A (wC g) Q n lv (.ref (g.2.1 8) :: rest) σ) : AW x μ g A (wC g) Q pc lv (.ref (g.2.1 7) :: rest) σ := aw_get (C := R_Names) (T := F_Names) (N := 4) 7 rfl rfl 0 (by decide) rfl i_Names rfl hl0 hd hn k
theorem gf_Names_kept (hd : decode μ.1 pc = .ok (.getfield idx, 3)) (hn : pc + 3 = n) (hl0 : Cond.fieldLink μ.2.2.1 idx "DotConsole$Names" "kept" "I" ∈ ax_T) (k : AW x μ g A (wC g) Q n lv (.int (σ.1 4) :: rest) σ) : AW x μ g A (wC g) Q pc lv (.ref (g.2.1 7) :: rest) σ := aw_get (C := R_Names) (T := F_Names) (N := 4) 7 rfl rfl 1 (by decide) rfl i_Names rfl hl0 hd hn k
theorem pf_Names_kept {v : Int32} (hd : decode μ.1 pc = .ok (.putfield idx, 3)) (hn : pc + 3 = n) (hl0 : Cond.fieldLink μ.2.2.1 idx "DotConsole$Names" "kept" "I" ∈ ax_T) (k : AW x μ g A (wC g) Q n lv rest (sF σ 4 v)) : AW x μ g A (wC g) Q pc lv (.int v :: .ref (g.2.1 7) :: rest) σ := aw_put (C := R_Names) (T := F_Names) (N := 4) 7 rfl rfl 1 (by decide) ty_Names ty_Names_ok nm_Names rfl rfl rfl rfl (Nat.le_of_ble_eq_true rfl) i_Names rfl hl0 (σ2 := sF σ 4 v) rfl hd hn k
theorem gf_Names_seen (hd : decode μ.1 pc = .ok (.getfield idx, 3)) (hn : pc + 3 = n) (hl0 : Cond.fieldLink μ.2.2.1 idx "DotConsole$Names" "seen" "I" ∈ ax_T) (k : AW x μ g A (wC g) Q n lv (.int (σ.1 5) :: rest) σ) : AW x μ g A (wC g) Q pc lv (.ref (g.2.1 7) :: rest) σ := aw_get (C := R_Names) (T := F_Names) (N := 4) 7 rfl rfl 2 (by decide) rfl i_Names rfl hl0 hd hn k
theorem pf_Names_seen {v : Int32} (hd : decode μ.1 pc = .ok (.putfield idx, 3)) (hn : pc + 3 = n) (hl0 : Cond.fieldLink μ.2.2.1 idx "DotConsole$Names" "seen" "I" ∈ ax_T) (k : AW x μ g A (wC g) Q n lv rest (sF σ 5 v)) : AW x μ g A (wC g) Q pc lv (.int v :: .ref (g.2.1 7) :: rest) σ := aw_put (C := R_Names) (T := F_Names) (N := 4) 7 rfl rfl 2 (by decide) ty_Names ty_Names_ok nm_Names rfl rfl rfl rfl (Nat.le_of_ble_eq_true rfl) i_Names rfl hl0 (σ2 := sF σ 5 v) rfl hd hn k
theorem gf_Names_tooMany (hd : decode μ.1 pc = .ok (.getfield idx, 3)) (hn : pc + 3 = n) (hl0 : Cond.fieldLink μ.2.2.1 idx "DotConsole$Names" "tooMany" "Z" ∈ ax_T) (k : AW x μ g A (wC g) Q n lv (.int (σ.1 6) :: rest) σ) : AW x μ g A (wC g) Q pc lv (.ref (g.2.1 7) :: rest) σ := aw_get (C := R_Names) (T := F_Names) (N := 4) 7 rfl rfl 3 (by decide) rfl i_Names rfl hl0 hd hn k
theorem pf_Names_tooMany {v : Int32} (hd : decode μ.1 pc = .ok (.putfield idx, 3)) (hn : pc + 3 = n) (hl0 : Cond.fieldLink μ.2.2.1 idx "DotConsole$Names" "tooMany" "Z" ∈ ax_T) (h1 : narrow .boolean (.int v) = .int v) (h2 : fits .boolean (.int v) = true) (k : AW x μ g A (wC g) Q n lv rest (sF σ 6 v)) : AW x μ g A (wC g) Q pc lv (.int v :: .ref (g.2.1 7) :: rest) σ := aw_put (C := R_Names) (T := F_Names) (N := 4) 7 rfl rfl 3 (by decide) ty_Names ty_Names_ok nm_Names rfl rfl h1 h2 (Nat.le_of_ble_eq_true rfl) i_Names rfl hl0 (σ2 := sF σ 6 v) rfl hd hn k
theorem al_8 {i : Int32} (hd : decode μ.1 pc = .ok (.iaload, 1)) (hn : pc + 1 = n) (hb : inB i 12 = true) (k : AW x μ g A (wC g) Q n lv (.int (σ.2 5 i.toNatClampNeg) :: rest) σ) : AW x μ g A (wC g) Q pc lv (.int i :: .ref (g.2.1 8) :: rest) σ := aw_iald 8 0 rfl rfl (inB_vp hb) hd hn k
theorem as_8 {i v : Int32} (hd : decode μ.1 pc = .ok (.iastore, 1)) (hn : pc + 1 = n) (hb : inB i 12 = true) (k : AW x μ g A (wC g) Q n lv rest (sA σ 5 i.toNatClampNeg v)) : AW x μ g A (wC g) Q pc lv (.int v :: .int i :: .ref (g.2.1 8) :: rest) σ := aw_iast 8 0 rfl rfl (inB_vp hb) (σ2 := sA σ 5 i.toNatClampNeg v) rfl hd hn k
theorem an_8 (hd : decode μ.1 pc = .ok (.arraylength, 1)) (hn : pc + 1 = n) (k : AW x μ g A (wC g) Q n lv (.int 12 :: rest) σ) : AW x μ g A (wC g) Q pc lv (.ref (g.2.1 8) :: rest) σ := aw_alen 8 0 rfl rfl (show Int32.ofNat 12 = 12 by decide) hd hn k
theorem gf_LineReader_tokens (hd : decode μ.1 pc = .ok (.getfield idx, 3)) (hn : pc + 3 = n) (hl0 : Cond.fieldLink μ.2.2.1 idx "DotConsole$LineReader" "tokens" "LDotConsole$Tokens;" ∈ ax_T) (k : AW x μ g A (wC g) Q n lv (.ref (g.2.1 1) :: rest) σ) : AW x μ g A (wC g) Q pc lv (.ref (g.2.1 9) :: rest) σ := aw_get (C := R_LineReader) (T := F_LineReader) (N := 17) 9 rfl rfl 0 (by decide) rfl i_LineReader rfl hl0 hd hn k
theorem gf_LineReader_names (hd : decode μ.1 pc = .ok (.getfield idx, 3)) (hn : pc + 3 = n) (hl0 : Cond.fieldLink μ.2.2.1 idx "DotConsole$LineReader" "names" "LDotConsole$Names;" ∈ ax_T) (k : AW x μ g A (wC g) Q n lv (.ref (g.2.1 7) :: rest) σ) : AW x μ g A (wC g) Q pc lv (.ref (g.2.1 9) :: rest) σ := aw_get (C := R_LineReader) (T := F_LineReader) (N := 17) 9 rfl rfl 1 (by decide) rfl i_LineReader rfl hl0 hd hn k
theorem gf_LineReader_at (hd : decode μ.1 pc = .ok (.getfield idx, 3)) (hn : pc + 3 = n) (hl0 : Cond.fieldLink μ.2.2.1 idx "DotConsole$LineReader" "at" "I" ∈ ax_T) (k : AW x μ g A (wC g) Q n lv (.int (σ.1 7) :: rest) σ) : AW x μ g A (wC g) Q pc lv (.ref (g.2.1 9) :: rest) σ := aw_get (C := R_LineReader) (T := F_LineReader) (N := 17) 9 rfl rfl 2 (by decide) rfl i_LineReader rfl hl0 hd hn k
theorem pf_LineReader_at {v : Int32} (hd : decode μ.1 pc = .ok (.putfield idx, 3)) (hn : pc + 3 = n) (hl0 : Cond.fieldLink μ.2.2.1 idx "DotConsole$LineReader" "at" "I" ∈ ax_T) (k : AW x μ g A (wC g) Q n lv rest (sF σ 7 v)) : AW x μ g A (wC g) Q pc lv (.int v :: .ref (g.2.1 9) :: rest) σ := aw_put (C := R_LineReader) (T := F_LineReader) (N := 17) 9 rfl rfl 2 (by decide) ty_LineReader ty_LineReader_ok nm_LineReader rfl rfl rfl rfl (Nat.le_of_ble_eq_true rfl) i_LineReader rfl hl0 (σ2 := sF σ 7 v) rfl hd hn k
theorem gf_LineReader_statement (hd : decode μ.1 pc = .ok (.getfield idx, 3)) (hn : pc + 3 = n) (hl0 : Cond.fieldLink μ.2.2.1 idx "DotConsole$LineReader" "statement" "I" ∈ ax_T) (k : AW x μ g A (wC g) Q n lv (.int (σ.1 8) :: rest) σ) : AW x μ g A (wC g) Q pc lv (.ref (g.2.1 9) :: rest) σ := aw_get (C := R_LineReader) (T := F_LineReader) (N := 17) 9 rfl rfl 3 (by decide) rfl i_LineReader rfl hl0 hd hn k
theorem pf_LineReader_statement {v : Int32} (hd : decode μ.1 pc = .ok (.putfield idx, 3)) (hn : pc + 3 = n) (hl0 : Cond.fieldLink μ.2.2.1 idx "DotConsole$LineReader" "statement" "I" ∈ ax_T) (k : AW x μ g A (wC g) Q n lv rest (sF σ 8 v)) : AW x μ g A (wC g) Q pc lv (.int v :: .ref (g.2.1 9) :: rest) σ := aw_put (C := R_LineReader) (T := F_LineReader) (N := 17) 9 rfl rfl 3 (by decide) ty_LineReader ty_LineReader_ok nm_LineReader rfl rfl rfl rfl (Nat.le_of_ble_eq_true rfl) i_LineReader rfl hl0 (σ2 := sF σ 8 v) rfl hd hn k
theorem gf_LineReader_target (hd : decode μ.1 pc = .ok (.getfield idx, 3)) (hn : pc + 3 = n) (hl0 : Cond.fieldLink μ.2.2.1 idx "DotConsole$LineReader" "target" "I" ∈ ax_T) (k : AW x μ g A (wC g) Q n lv (.int (σ.1 9) :: rest) σ) : AW x μ g A (wC g) Q pc lv (.ref (g.2.1 9) :: rest) σ := aw_get (C := R_LineReader) (T := F_LineReader) (N := 17) 9 rfl rfl 4 (by decide) rfl i_LineReader rfl hl0 hd hn k
theorem pf_LineReader_target {v : Int32} (hd : decode μ.1 pc = .ok (.putfield idx, 3)) (hn : pc + 3 = n) (hl0 : Cond.fieldLink μ.2.2.1 idx "DotConsole$LineReader" "target" "I" ∈ ax_T) (k : AW x μ g A (wC g) Q n lv rest (sF σ 9 v)) : AW x μ g A (wC g) Q pc lv (.int v :: .ref (g.2.1 9) :: rest) σ := aw_put (C := R_LineReader) (T := F_LineReader) (N := 17) 9 rfl rfl 4 (by decide) ty_LineReader ty_LineReader_ok nm_LineReader rfl rfl rfl rfl (Nat.le_of_ble_eq_true rfl) i_LineReader rfl hl0 (σ2 := sF σ 9 v) rfl hd hn k
theorem gf_LineReader_kinds (hd : decode μ.1 pc = .ok (.getfield idx, 3)) (hn : pc + 3 = n) (hl0 : Cond.fieldLink μ.2.2.1 idx "DotConsole$LineReader" "kinds" "[I" ∈ ax_T) (k : AW x μ g A (wC g) Q n lv (.ref (g.2.1 10) :: rest) σ) : AW x μ g A (wC g) Q pc lv (.ref (g.2.1 9) :: rest) σ := aw_get (C := R_LineReader) (T := F_LineReader) (N := 17) 9 rfl rfl 5 (by decide) rfl i_LineReader rfl hl0 hd hn k
theorem gf_LineReader_operands (hd : decode μ.1 pc = .ok (.getfield idx, 3)) (hn : pc + 3 = n) (hl0 : Cond.fieldLink μ.2.2.1 idx "DotConsole$LineReader" "operands" "[I" ∈ ax_T) (k : AW x μ g A (wC g) Q n lv (.ref (g.2.1 11) :: rest) σ) : AW x μ g A (wC g) Q pc lv (.ref (g.2.1 9) :: rest) σ := aw_get (C := R_LineReader) (T := F_LineReader) (N := 17) 9 rfl rfl 6 (by decide) rfl i_LineReader rfl hl0 hd hn k
theorem gf_LineReader_nodeCount (hd : decode μ.1 pc = .ok (.getfield idx, 3)) (hn : pc + 3 = n) (hl0 : Cond.fieldLink μ.2.2.1 idx "DotConsole$LineReader" "nodeCount" "I" ∈ ax_T) (k : AW x μ g A (wC g) Q n lv (.int (σ.1 10) :: rest) σ) : AW x μ g A (wC g) Q pc lv (.ref (g.2.1 9) :: rest) σ := aw_get (C := R_LineReader) (T := F_LineReader) (N := 17) 9 rfl rfl 7 (by decide) rfl i_LineReader rfl hl0 hd hn k
theorem pf_LineReader_nodeCount {v : Int32} (hd : decode μ.1 pc = .ok (.putfield idx, 3)) (hn : pc + 3 = n) (hl0 : Cond.fieldLink μ.2.2.1 idx "DotConsole$LineReader" "nodeCount" "I" ∈ ax_T) (k : AW x μ g A (wC g) Q n lv rest (sF σ 10 v)) : AW x μ g A (wC g) Q pc lv (.int v :: .ref (g.2.1 9) :: rest) σ := aw_put (C := R_LineReader) (T := F_LineReader) (N := 17) 9 rfl rfl 7 (by decide) ty_LineReader ty_LineReader_ok nm_LineReader rfl rfl rfl rfl (Nat.le_of_ble_eq_true rfl) i_LineReader rfl hl0 (σ2 := sF σ 10 v) rfl hd hn k
theorem gf_LineReader_levels (hd : decode μ.1 pc = .ok (.getfield idx, 3)) (hn : pc + 3 = n) (hl0 : Cond.fieldLink μ.2.2.1 idx "DotConsole$LineReader" "levels" "[I" ∈ ax_T) (k : AW x μ g A (wC g) Q n lv (.ref (g.2.1 12) :: rest) σ) : AW x μ g A (wC g) Q pc lv (.ref (g.2.1 9) :: rest) σ := aw_get (C := R_LineReader) (T := F_LineReader) (N := 17) 9 rfl rfl 8 (by decide) rfl i_LineReader rfl hl0 hd hn k
theorem gf_LineReader_levelCount (hd : decode μ.1 pc = .ok (.getfield idx, 3)) (hn : pc + 3 = n) (hl0 : Cond.fieldLink μ.2.2.1 idx "DotConsole$LineReader" "levelCount" "I" ∈ ax_T) (k : AW x μ g A (wC g) Q n lv (.int (σ.1 11) :: rest) σ) : AW x μ g A (wC g) Q pc lv (.ref (g.2.1 9) :: rest) σ := aw_get (C := R_LineReader) (T := F_LineReader) (N := 17) 9 rfl rfl 9 (by decide) rfl i_LineReader rfl hl0 hd hn k
theorem pf_LineReader_levelCount {v : Int32} (hd : decode μ.1 pc = .ok (.putfield idx, 3)) (hn : pc + 3 = n) (hl0 : Cond.fieldLink μ.2.2.1 idx "DotConsole$LineReader" "levelCount" "I" ∈ ax_T) (k : AW x μ g A (wC g) Q n lv rest (sF σ 11 v)) : AW x μ g A (wC g) Q pc lv (.int v :: .ref (g.2.1 9) :: rest) σ := aw_put (C := R_LineReader) (T := F_LineReader) (N := 17) 9 rfl rfl 9 (by decide) ty_LineReader ty_LineReader_ok nm_LineReader rfl rfl rfl rfl (Nat.le_of_ble_eq_true rfl) i_LineReader rfl hl0 (σ2 := sF σ 11 v) rfl hd hn k
theorem gf_LineReader_mostLevels (hd : decode μ.1 pc = .ok (.getfield idx, 3)) (hn : pc + 3 = n) (hl0 : Cond.fieldLink μ.2.2.1 idx "DotConsole$LineReader" "mostLevels" "I" ∈ ax_T) (k : AW x μ g A (wC g) Q n lv (.int (σ.1 12) :: rest) σ) : AW x μ g A (wC g) Q pc lv (.ref (g.2.1 9) :: rest) σ := aw_get (C := R_LineReader) (T := F_LineReader) (N := 17) 9 rfl rfl 10 (by decide) rfl i_LineReader rfl hl0 hd hn k
theorem pf_LineReader_mostLevels {v : Int32} (hd : decode μ.1 pc = .ok (.putfield idx, 3)) (hn : pc + 3 = n) (hl0 : Cond.fieldLink μ.2.2.1 idx "DotConsole$LineReader" "mostLevels" "I" ∈ ax_T) (k : AW x μ g A (wC g) Q n lv rest (sF σ 12 v)) : AW x μ g A (wC g) Q pc lv (.int v :: .ref (g.2.1 9) :: rest) σ := aw_put (C := R_LineReader) (T := F_LineReader) (N := 17) 9 rfl rfl 10 (by decide) ty_LineReader ty_LineReader_ok nm_LineReader rfl rfl rfl rfl (Nat.le_of_ble_eq_true rfl) i_LineReader rfl hl0 (σ2 := sF σ 12 v) rfl hd hn k
theorem gf_LineReader_waiting (hd : decode μ.1 pc = .ok (.getfield idx, 3)) (hn : pc + 3 = n) (hl0 : Cond.fieldLink μ.2.2.1 idx "DotConsole$LineReader" "waiting" "[I" ∈ ax_T) (k : AW x μ g A (wC g) Q n lv (.ref (g.2.1 13) :: rest) σ) : AW x μ g A (wC g) Q pc lv (.ref (g.2.1 9) :: rest) σ := aw_get (C := R_LineReader) (T := F_LineReader) (N := 17) 9 rfl rfl 11 (by decide) rfl i_LineReader rfl hl0 hd hn k
theorem gf_LineReader_waitingRanks (hd : decode μ.1 pc = .ok (.getfield idx, 3)) (hn : pc + 3 = n) (hl0 : Cond.fieldLink μ.2.2.1 idx "DotConsole$LineReader" "waitingRanks" "[I" ∈ ax_T) (k : AW x μ g A (wC g) Q n lv (.ref (g.2.1 14) :: rest) σ) : AW x μ g A (wC g) Q pc lv (.ref (g.2.1 9) :: rest) σ := aw_get (C := R_LineReader) (T := F_LineReader) (N := 17) 9 rfl rfl 12 (by decide) rfl i_LineReader rfl hl0 hd hn k
theorem gf_LineReader_commasDue (hd : decode μ.1 pc = .ok (.getfield idx, 3)) (hn : pc + 3 = n) (hl0 : Cond.fieldLink μ.2.2.1 idx "DotConsole$LineReader" "commasDue" "[I" ∈ ax_T) (k : AW x μ g A (wC g) Q n lv (.ref (g.2.1 15) :: rest) σ) : AW x μ g A (wC g) Q pc lv (.ref (g.2.1 9) :: rest) σ := aw_get (C := R_LineReader) (T := F_LineReader) (N := 17) 9 rfl rfl 13 (by decide) rfl i_LineReader rfl hl0 hd hn k
theorem gf_LineReader_waitingCount (hd : decode μ.1 pc = .ok (.getfield idx, 3)) (hn : pc + 3 = n) (hl0 : Cond.fieldLink μ.2.2.1 idx "DotConsole$LineReader" "waitingCount" "I" ∈ ax_T) (k : AW x μ g A (wC g) Q n lv (.int (σ.1 13) :: rest) σ) : AW x μ g A (wC g) Q pc lv (.ref (g.2.1 9) :: rest) σ := aw_get (C := R_LineReader) (T := F_LineReader) (N := 17) 9 rfl rfl 14 (by decide) rfl i_LineReader rfl hl0 hd hn k
theorem pf_LineReader_waitingCount {v : Int32} (hd : decode μ.1 pc = .ok (.putfield idx, 3)) (hn : pc + 3 = n) (hl0 : Cond.fieldLink μ.2.2.1 idx "DotConsole$LineReader" "waitingCount" "I" ∈ ax_T) (k : AW x μ g A (wC g) Q n lv rest (sF σ 13 v)) : AW x μ g A (wC g) Q pc lv (.int v :: .ref (g.2.1 9) :: rest) σ := aw_put (C := R_LineReader) (T := F_LineReader) (N := 17) 9 rfl rfl 14 (by decide) ty_LineReader ty_LineReader_ok nm_LineReader rfl rfl rfl rfl (Nat.le_of_ble_eq_true rfl) i_LineReader rfl hl0 (σ2 := sF σ 13 v) rfl hd hn k
theorem gf_LineReader_outerCommasDue (hd : decode μ.1 pc = .ok (.getfield idx, 3)) (hn : pc + 3 = n) (hl0 : Cond.fieldLink μ.2.2.1 idx "DotConsole$LineReader" "outerCommasDue" "I" ∈ ax_T) (k : AW x μ g A (wC g) Q n lv (.int (σ.1 14) :: rest) σ) : AW x μ g A (wC g) Q pc lv (.ref (g.2.1 9) :: rest) σ := aw_get (C := R_LineReader) (T := F_LineReader) (N := 17) 9 rfl rfl 15 (by decide) rfl i_LineReader rfl hl0 hd hn k
theorem pf_LineReader_outerCommasDue {v : Int32} (hd : decode μ.1 pc = .ok (.putfield idx, 3)) (hn : pc + 3 = n) (hl0 : Cond.fieldLink μ.2.2.1 idx "DotConsole$LineReader" "outerCommasDue" "I" ∈ ax_T) (k : AW x μ g A (wC g) Q n lv rest (sF σ 14 v)) : AW x μ g A (wC g) Q pc lv (.int v :: .ref (g.2.1 9) :: rest) σ := aw_put (C := R_LineReader) (T := F_LineReader) (N := 17) 9 rfl rfl 15 (by decide) ty_LineReader ty_LineReader_ok nm_LineReader rfl rfl rfl rfl (Nat.le_of_ble_eq_true rfl) i_LineReader rfl hl0 (σ2 := sF σ 14 v) rfl hd hn k
theorem gf_LineReader_wantsPart (hd : decode μ.1 pc = .ok (.getfield idx, 3)) (hn : pc + 3 = n) (hl0 : Cond.fieldLink μ.2.2.1 idx "DotConsole$LineReader" "wantsPart" "Z" ∈ ax_T) (k : AW x μ g A (wC g) Q n lv (.int (σ.1 15) :: rest) σ) : AW x μ g A (wC g) Q pc lv (.ref (g.2.1 9) :: rest) σ := aw_get (C := R_LineReader) (T := F_LineReader) (N := 17) 9 rfl rfl 16 (by decide) rfl i_LineReader rfl hl0 hd hn k
theorem pf_LineReader_wantsPart {v : Int32} (hd : decode μ.1 pc = .ok (.putfield idx, 3)) (hn : pc + 3 = n) (hl0 : Cond.fieldLink μ.2.2.1 idx "DotConsole$LineReader" "wantsPart" "Z" ∈ ax_T) (h1 : narrow .boolean (.int v) = .int v) (h2 : fits .boolean (.int v) = true) (k : AW x μ g A (wC g) Q n lv rest (sF σ 15 v)) : AW x μ g A (wC g) Q pc lv (.int v :: .ref (g.2.1 9) :: rest) σ := aw_put (C := R_LineReader) (T := F_LineReader) (N := 17) 9 rfl rfl 16 (by decide) ty_LineReader ty_LineReader_ok nm_LineReader rfl rfl h1 h2 (Nat.le_of_ble_eq_true rfl) i_LineReader rfl hl0 (σ2 := sF σ 15 v) rfl hd hn k
theorem al_10 {i : Int32} (hd : decode μ.1 pc = .ok (.iaload, 1)) (hn : pc + 1 = n) (hb : inB i 48 = true) (k : AW x μ g A (wC g) Q n lv (.int (σ.2 6 i.toNatClampNeg) :: rest) σ) : AW x μ g A (wC g) Q pc lv (.int i :: .ref (g.2.1 10) :: rest) σ := aw_iald 10 0 rfl rfl (inB_vp hb) hd hn k
theorem as_10 {i v : Int32} (hd : decode μ.1 pc = .ok (.iastore, 1)) (hn : pc + 1 = n) (hb : inB i 48 = true) (k : AW x μ g A (wC g) Q n lv rest (sA σ 6 i.toNatClampNeg v)) : AW x μ g A (wC g) Q pc lv (.int v :: .int i :: .ref (g.2.1 10) :: rest) σ := aw_iast 10 0 rfl rfl (inB_vp hb) (σ2 := sA σ 6 i.toNatClampNeg v) rfl hd hn k
theorem an_10 (hd : decode μ.1 pc = .ok (.arraylength, 1)) (hn : pc + 1 = n) (k : AW x μ g A (wC g) Q n lv (.int 48 :: rest) σ) : AW x μ g A (wC g) Q pc lv (.ref (g.2.1 10) :: rest) σ := aw_alen 10 0 rfl rfl (show Int32.ofNat 48 = 48 by decide) hd hn k
theorem al_11 {i : Int32} (hd : decode μ.1 pc = .ok (.iaload, 1)) (hn : pc + 1 = n) (hb : inB i 48 = true) (k : AW x μ g A (wC g) Q n lv (.int (σ.2 7 i.toNatClampNeg) :: rest) σ) : AW x μ g A (wC g) Q pc lv (.int i :: .ref (g.2.1 11) :: rest) σ := aw_iald 11 0 rfl rfl (inB_vp hb) hd hn k
theorem as_11 {i v : Int32} (hd : decode μ.1 pc = .ok (.iastore, 1)) (hn : pc + 1 = n) (hb : inB i 48 = true) (k : AW x μ g A (wC g) Q n lv rest (sA σ 7 i.toNatClampNeg v)) : AW x μ g A (wC g) Q pc lv (.int v :: .int i :: .ref (g.2.1 11) :: rest) σ := aw_iast 11 0 rfl rfl (inB_vp hb) (σ2 := sA σ 7 i.toNatClampNeg v) rfl hd hn k
theorem an_11 (hd : decode μ.1 pc = .ok (.arraylength, 1)) (hn : pc + 1 = n) (k : AW x μ g A (wC g) Q n lv (.int 48 :: rest) σ) : AW x μ g A (wC g) Q pc lv (.ref (g.2.1 11) :: rest) σ := aw_alen 11 0 rfl rfl (show Int32.ofNat 48 = 48 by decide) hd hn k
theorem al_12 {i : Int32} (hd : decode μ.1 pc = .ok (.iaload, 1)) (hn : pc + 1 = n) (hb : inB i 48 = true) (k : AW x μ g A (wC g) Q n lv (.int (σ.2 8 i.toNatClampNeg) :: rest) σ) : AW x μ g A (wC g) Q pc lv (.int i :: .ref (g.2.1 12) :: rest) σ := aw_iald 12 0 rfl rfl (inB_vp hb) hd hn k
theorem as_12 {i v : Int32} (hd : decode μ.1 pc = .ok (.iastore, 1)) (hn : pc + 1 = n) (hb : inB i 48 = true) (k : AW x μ g A (wC g) Q n lv rest (sA σ 8 i.toNatClampNeg v)) : AW x μ g A (wC g) Q pc lv (.int v :: .int i :: .ref (g.2.1 12) :: rest) σ := aw_iast 12 0 rfl rfl (inB_vp hb) (σ2 := sA σ 8 i.toNatClampNeg v) rfl hd hn k
theorem an_12 (hd : decode μ.1 pc = .ok (.arraylength, 1)) (hn : pc + 1 = n) (k : AW x μ g A (wC g) Q n lv (.int 48 :: rest) σ) : AW x μ g A (wC g) Q pc lv (.ref (g.2.1 12) :: rest) σ := aw_alen 12 0 rfl rfl (show Int32.ofNat 48 = 48 by decide) hd hn k
theorem al_13 {i : Int32} (hd : decode μ.1 pc = .ok (.iaload, 1)) (hn : pc + 1 = n) (hb : inB i 48 = true) (k : AW x μ g A (wC g) Q n lv (.int (σ.2 9 i.toNatClampNeg) :: rest) σ) : AW x μ g A (wC g) Q pc lv (.int i :: .ref (g.2.1 13) :: rest) σ := aw_iald 13 0 rfl rfl (inB_vp hb) hd hn k
theorem as_13 {i v : Int32} (hd : decode μ.1 pc = .ok (.iastore, 1)) (hn : pc + 1 = n) (hb : inB i 48 = true) (k : AW x μ g A (wC g) Q n lv rest (sA σ 9 i.toNatClampNeg v)) : AW x μ g A (wC g) Q pc lv (.int v :: .int i :: .ref (g.2.1 13) :: rest) σ := aw_iast 13 0 rfl rfl (inB_vp hb) (σ2 := sA σ 9 i.toNatClampNeg v) rfl hd hn k
theorem an_13 (hd : decode μ.1 pc = .ok (.arraylength, 1)) (hn : pc + 1 = n) (k : AW x μ g A (wC g) Q n lv (.int 48 :: rest) σ) : AW x μ g A (wC g) Q pc lv (.ref (g.2.1 13) :: rest) σ := aw_alen 13 0 rfl rfl (show Int32.ofNat 48 = 48 by decide) hd hn k
theorem al_14 {i : Int32} (hd : decode μ.1 pc = .ok (.iaload, 1)) (hn : pc + 1 = n) (hb : inB i 48 = true) (k : AW x μ g A (wC g) Q n lv (.int (σ.2 10 i.toNatClampNeg) :: rest) σ) : AW x μ g A (wC g) Q pc lv (.int i :: .ref (g.2.1 14) :: rest) σ := aw_iald 14 0 rfl rfl (inB_vp hb) hd hn k
theorem as_14 {i v : Int32} (hd : decode μ.1 pc = .ok (.iastore, 1)) (hn : pc + 1 = n) (hb : inB i 48 = true) (k : AW x μ g A (wC g) Q n lv rest (sA σ 10 i.toNatClampNeg v)) : AW x μ g A (wC g) Q pc lv (.int v :: .int i :: .ref (g.2.1 14) :: rest) σ := aw_iast 14 0 rfl rfl (inB_vp hb) (σ2 := sA σ 10 i.toNatClampNeg v) rfl hd hn k
theorem an_14 (hd : decode μ.1 pc = .ok (.arraylength, 1)) (hn : pc + 1 = n) (k : AW x μ g A (wC g) Q n lv (.int 48 :: rest) σ) : AW x μ g A (wC g) Q pc lv (.ref (g.2.1 14) :: rest) σ := aw_alen 14 0 rfl rfl (show Int32.ofNat 48 = 48 by decide) hd hn k
theorem al_15 {i : Int32} (hd : decode μ.1 pc = .ok (.iaload, 1)) (hn : pc + 1 = n) (hb : inB i 48 = true) (k : AW x μ g A (wC g) Q n lv (.int (σ.2 11 i.toNatClampNeg) :: rest) σ) : AW x μ g A (wC g) Q pc lv (.int i :: .ref (g.2.1 15) :: rest) σ := aw_iald 15 0 rfl rfl (inB_vp hb) hd hn k
theorem as_15 {i v : Int32} (hd : decode μ.1 pc = .ok (.iastore, 1)) (hn : pc + 1 = n) (hb : inB i 48 = true) (k : AW x μ g A (wC g) Q n lv rest (sA σ 11 i.toNatClampNeg v)) : AW x μ g A (wC g) Q pc lv (.int v :: .int i :: .ref (g.2.1 15) :: rest) σ := aw_iast 15 0 rfl rfl (inB_vp hb) (σ2 := sA σ 11 i.toNatClampNeg v) rfl hd hn k
theorem an_15 (hd : decode μ.1 pc = .ok (.arraylength, 1)) (hn : pc + 1 = n) (k : AW x μ g A (wC g) Q n lv (.int 48 :: rest) σ) : AW x μ g A (wC g) Q pc lv (.ref (g.2.1 15) :: rest) σ := aw_alen 15 0 rfl rfl (show Int32.ofNat 48 = 48 by decide) hd hn k
theorem gf_Program_lines (hd : decode μ.1 pc = .ok (.getfield idx, 3)) (hn : pc + 3 = n) (hl0 : Cond.fieldLink μ.2.2.1 idx "DotConsole$Program" "lines" "I" ∈ ax_T) (k : AW x μ g A (wC g) Q n lv (.int (σ.1 16) :: rest) σ) : AW x μ g A (wC g) Q pc lv (.ref (g.2.1 16) :: rest) σ := aw_get (C := R_Program) (T := F_Program) (N := 10) 16 rfl rfl 0 (by decide) rfl i_Program rfl hl0 hd hn k
theorem pf_Program_lines {v : Int32} (hd : decode μ.1 pc = .ok (.putfield idx, 3)) (hn : pc + 3 = n) (hl0 : Cond.fieldLink μ.2.2.1 idx "DotConsole$Program" "lines" "I" ∈ ax_T) (k : AW x μ g A (wC g) Q n lv rest (sF σ 16 v)) : AW x μ g A (wC g) Q pc lv (.int v :: .ref (g.2.1 16) :: rest) σ := aw_put (C := R_Program) (T := F_Program) (N := 10) 16 rfl rfl 0 (by decide) ty_Program ty_Program_ok nm_Program rfl rfl rfl rfl (Nat.le_of_ble_eq_true rfl) i_Program rfl hl0 (σ2 := sF σ 16 v) rfl hd hn k
theorem gf_Program_sealed (hd : decode μ.1 pc = .ok (.getfield idx, 3)) (hn : pc + 3 = n) (hl0 : Cond.fieldLink μ.2.2.1 idx "DotConsole$Program" "sealed" "Z" ∈ ax_T) (k : AW x μ g A (wC g) Q n lv (.int (σ.1 17) :: rest) σ) : AW x μ g A (wC g) Q pc lv (.ref (g.2.1 16) :: rest) σ := aw_get (C := R_Program) (T := F_Program) (N := 10) 16 rfl rfl 1 (by decide) rfl i_Program rfl hl0 hd hn k
theorem pf_Program_sealed {v : Int32} (hd : decode μ.1 pc = .ok (.putfield idx, 3)) (hn : pc + 3 = n) (hl0 : Cond.fieldLink μ.2.2.1 idx "DotConsole$Program" "sealed" "Z" ∈ ax_T) (h1 : narrow .boolean (.int v) = .int v) (h2 : fits .boolean (.int v) = true) (k : AW x μ g A (wC g) Q n lv rest (sF σ 17 v)) : AW x μ g A (wC g) Q pc lv (.int v :: .ref (g.2.1 16) :: rest) σ := aw_put (C := R_Program) (T := F_Program) (N := 10) 16 rfl rfl 1 (by decide) ty_Program ty_Program_ok nm_Program rfl rfl h1 h2 (Nat.le_of_ble_eq_true rfl) i_Program rfl hl0 (σ2 := sF σ 17 v) rfl hd hn k
theorem gf_Program_statements (hd : decode μ.1 pc = .ok (.getfield idx, 3)) (hn : pc + 3 = n) (hl0 : Cond.fieldLink μ.2.2.1 idx "DotConsole$Program" "statements" "[I" ∈ ax_T) (k : AW x μ g A (wC g) Q n lv (.ref (g.2.1 17) :: rest) σ) : AW x μ g A (wC g) Q pc lv (.ref (g.2.1 16) :: rest) σ := aw_get (C := R_Program) (T := F_Program) (N := 10) 16 rfl rfl 2 (by decide) rfl i_Program rfl hl0 hd hn k
theorem gf_Program_targets (hd : decode μ.1 pc = .ok (.getfield idx, 3)) (hn : pc + 3 = n) (hl0 : Cond.fieldLink μ.2.2.1 idx "DotConsole$Program" "targets" "[I" ∈ ax_T) (k : AW x μ g A (wC g) Q n lv (.ref (g.2.1 18) :: rest) σ) : AW x μ g A (wC g) Q pc lv (.ref (g.2.1 16) :: rest) σ := aw_get (C := R_Program) (T := F_Program) (N := 10) 16 rfl rfl 3 (by decide) rfl i_Program rfl hl0 hd hn k
theorem gf_Program_nodeCounts (hd : decode μ.1 pc = .ok (.getfield idx, 3)) (hn : pc + 3 = n) (hl0 : Cond.fieldLink μ.2.2.1 idx "DotConsole$Program" "nodeCounts" "[I" ∈ ax_T) (k : AW x μ g A (wC g) Q n lv (.ref (g.2.1 19) :: rest) σ) : AW x μ g A (wC g) Q pc lv (.ref (g.2.1 16) :: rest) σ := aw_get (C := R_Program) (T := F_Program) (N := 10) 16 rfl rfl 4 (by decide) rfl i_Program rfl hl0 hd hn k
theorem gf_Program_kinds (hd : decode μ.1 pc = .ok (.getfield idx, 3)) (hn : pc + 3 = n) (hl0 : Cond.fieldLink μ.2.2.1 idx "DotConsole$Program" "kinds" "[I" ∈ ax_T) (k : AW x μ g A (wC g) Q n lv (.ref (g.2.1 20) :: rest) σ) : AW x μ g A (wC g) Q pc lv (.ref (g.2.1 16) :: rest) σ := aw_get (C := R_Program) (T := F_Program) (N := 10) 16 rfl rfl 5 (by decide) rfl i_Program rfl hl0 hd hn k
theorem gf_Program_operands (hd : decode μ.1 pc = .ok (.getfield idx, 3)) (hn : pc + 3 = n) (hl0 : Cond.fieldLink μ.2.2.1 idx "DotConsole$Program" "operands" "[I" ∈ ax_T) (k : AW x μ g A (wC g) Q n lv (.ref (g.2.1 21) :: rest) σ) : AW x μ g A (wC g) Q pc lv (.ref (g.2.1 16) :: rest) σ := aw_get (C := R_Program) (T := F_Program) (N := 10) 16 rfl rfl 6 (by decide) rfl i_Program rfl hl0 hd hn k
theorem gf_Program_jumps (hd : decode μ.1 pc = .ok (.getfield idx, 3)) (hn : pc + 3 = n) (hl0 : Cond.fieldLink μ.2.2.1 idx "DotConsole$Program" "jumps" "[I" ∈ ax_T) (k : AW x μ g A (wC g) Q n lv (.ref (g.2.1 22) :: rest) σ) : AW x μ g A (wC g) Q pc lv (.ref (g.2.1 16) :: rest) σ := aw_get (C := R_Program) (T := F_Program) (N := 10) 16 rfl rfl 7 (by decide) rfl i_Program rfl hl0 hd hn k
theorem gf_Program_open (hd : decode μ.1 pc = .ok (.getfield idx, 3)) (hn : pc + 3 = n) (hl0 : Cond.fieldLink μ.2.2.1 idx "DotConsole$Program" "open" "[I" ∈ ax_T) (k : AW x μ g A (wC g) Q n lv (.ref (g.2.1 23) :: rest) σ) : AW x μ g A (wC g) Q pc lv (.ref (g.2.1 16) :: rest) σ := aw_get (C := R_Program) (T := F_Program) (N := 10) 16 rfl rfl 8 (by decide) rfl i_Program rfl hl0 hd hn k
theorem gf_Program_openCount (hd : decode μ.1 pc = .ok (.getfield idx, 3)) (hn : pc + 3 = n) (hl0 : Cond.fieldLink μ.2.2.1 idx "DotConsole$Program" "openCount" "I" ∈ ax_T) (k : AW x μ g A (wC g) Q n lv (.int (σ.1 18) :: rest) σ) : AW x μ g A (wC g) Q pc lv (.ref (g.2.1 16) :: rest) σ := aw_get (C := R_Program) (T := F_Program) (N := 10) 16 rfl rfl 9 (by decide) rfl i_Program rfl hl0 hd hn k
theorem pf_Program_openCount {v : Int32} (hd : decode μ.1 pc = .ok (.putfield idx, 3)) (hn : pc + 3 = n) (hl0 : Cond.fieldLink μ.2.2.1 idx "DotConsole$Program" "openCount" "I" ∈ ax_T) (k : AW x μ g A (wC g) Q n lv rest (sF σ 18 v)) : AW x μ g A (wC g) Q pc lv (.int v :: .ref (g.2.1 16) :: rest) σ := aw_put (C := R_Program) (T := F_Program) (N := 10) 16 rfl rfl 9 (by decide) ty_Program ty_Program_ok nm_Program rfl rfl rfl rfl (Nat.le_of_ble_eq_true rfl) i_Program rfl hl0 (σ2 := sF σ 18 v) rfl hd hn k
theorem al_17 {i : Int32} (hd : decode μ.1 pc = .ok (.iaload, 1)) (hn : pc + 1 = n) (hb : inB i 28 = true) (k : AW x μ g A (wC g) Q n lv (.int (σ.2 12 i.toNatClampNeg) :: rest) σ) : AW x μ g A (wC g) Q pc lv (.int i :: .ref (g.2.1 17) :: rest) σ := aw_iald 17 0 rfl rfl (inB_vp hb) hd hn k
theorem as_17 {i v : Int32} (hd : decode μ.1 pc = .ok (.iastore, 1)) (hn : pc + 1 = n) (hb : inB i 28 = true) (k : AW x μ g A (wC g) Q n lv rest (sA σ 12 i.toNatClampNeg v)) : AW x μ g A (wC g) Q pc lv (.int v :: .int i :: .ref (g.2.1 17) :: rest) σ := aw_iast 17 0 rfl rfl (inB_vp hb) (σ2 := sA σ 12 i.toNatClampNeg v) rfl hd hn k
theorem an_17 (hd : decode μ.1 pc = .ok (.arraylength, 1)) (hn : pc + 1 = n) (k : AW x μ g A (wC g) Q n lv (.int 28 :: rest) σ) : AW x μ g A (wC g) Q pc lv (.ref (g.2.1 17) :: rest) σ := aw_alen 17 0 rfl rfl (show Int32.ofNat 28 = 28 by decide) hd hn k
theorem al_18 {i : Int32} (hd : decode μ.1 pc = .ok (.iaload, 1)) (hn : pc + 1 = n) (hb : inB i 28 = true) (k : AW x μ g A (wC g) Q n lv (.int (σ.2 13 i.toNatClampNeg) :: rest) σ) : AW x μ g A (wC g) Q pc lv (.int i :: .ref (g.2.1 18) :: rest) σ := aw_iald 18 0 rfl rfl (inB_vp hb) hd hn k
theorem as_18 {i v : Int32} (hd : decode μ.1 pc = .ok (.iastore, 1)) (hn : pc + 1 = n) (hb : inB i 28 = true) (k : AW x μ g A (wC g) Q n lv rest (sA σ 13 i.toNatClampNeg v)) : AW x μ g A (wC g) Q pc lv (.int v :: .int i :: .ref (g.2.1 18) :: rest) σ := aw_iast 18 0 rfl rfl (inB_vp hb) (σ2 := sA σ 13 i.toNatClampNeg v) rfl hd hn k
theorem an_18 (hd : decode μ.1 pc = .ok (.arraylength, 1)) (hn : pc + 1 = n) (k : AW x μ g A (wC g) Q n lv (.int 28 :: rest) σ) : AW x μ g A (wC g) Q pc lv (.ref (g.2.1 18) :: rest) σ := aw_alen 18 0 rfl rfl (show Int32.ofNat 28 = 28 by decide) hd hn k
theorem al_19 {i : Int32} (hd : decode μ.1 pc = .ok (.iaload, 1)) (hn : pc + 1 = n) (hb : inB i 28 = true) (k : AW x μ g A (wC g) Q n lv (.int (σ.2 14 i.toNatClampNeg) :: rest) σ) : AW x μ g A (wC g) Q pc lv (.int i :: .ref (g.2.1 19) :: rest) σ := aw_iald 19 0 rfl rfl (inB_vp hb) hd hn k
theorem as_19 {i v : Int32} (hd : decode μ.1 pc = .ok (.iastore, 1)) (hn : pc + 1 = n) (hb : inB i 28 = true) (k : AW x μ g A (wC g) Q n lv rest (sA σ 14 i.toNatClampNeg v)) : AW x μ g A (wC g) Q pc lv (.int v :: .int i :: .ref (g.2.1 19) :: rest) σ := aw_iast 19 0 rfl rfl (inB_vp hb) (σ2 := sA σ 14 i.toNatClampNeg v) rfl hd hn k
theorem an_19 (hd : decode μ.1 pc = .ok (.arraylength, 1)) (hn : pc + 1 = n) (k : AW x μ g A (wC g) Q n lv (.int 28 :: rest) σ) : AW x μ g A (wC g) Q pc lv (.ref (g.2.1 19) :: rest) σ := aw_alen 19 0 rfl rfl (show Int32.ofNat 28 = 28 by decide) hd hn k
theorem al_20 {i : Int32} (hd : decode μ.1 pc = .ok (.iaload, 1)) (hn : pc + 1 = n) (hb : inB i 448 = true) (k : AW x μ g A (wC g) Q n lv (.int (σ.2 15 i.toNatClampNeg) :: rest) σ) : AW x μ g A (wC g) Q pc lv (.int i :: .ref (g.2.1 20) :: rest) σ := aw_iald 20 0 rfl rfl (inB_vp hb) hd hn k
theorem as_20 {i v : Int32} (hd : decode μ.1 pc = .ok (.iastore, 1)) (hn : pc + 1 = n) (hb : inB i 448 = true) (k : AW x μ g A (wC g) Q n lv rest (sA σ 15 i.toNatClampNeg v)) : AW x μ g A (wC g) Q pc lv (.int v :: .int i :: .ref (g.2.1 20) :: rest) σ := aw_iast 20 0 rfl rfl (inB_vp hb) (σ2 := sA σ 15 i.toNatClampNeg v) rfl hd hn k
theorem an_20 (hd : decode μ.1 pc = .ok (.arraylength, 1)) (hn : pc + 1 = n) (k : AW x μ g A (wC g) Q n lv (.int 448 :: rest) σ) : AW x μ g A (wC g) Q pc lv (.ref (g.2.1 20) :: rest) σ := aw_alen 20 0 rfl rfl (show Int32.ofNat 448 = 448 by decide) hd hn k
theorem al_21 {i : Int32} (hd : decode μ.1 pc = .ok (.iaload, 1)) (hn : pc + 1 = n) (hb : inB i 448 = true) (k : AW x μ g A (wC g) Q n lv (.int (σ.2 16 i.toNatClampNeg) :: rest) σ) : AW x μ g A (wC g) Q pc lv (.int i :: .ref (g.2.1 21) :: rest) σ := aw_iald 21 0 rfl rfl (inB_vp hb) hd hn k
theorem as_21 {i v : Int32} (hd : decode μ.1 pc = .ok (.iastore, 1)) (hn : pc + 1 = n) (hb : inB i 448 = true) (k : AW x μ g A (wC g) Q n lv rest (sA σ 16 i.toNatClampNeg v)) : AW x μ g A (wC g) Q pc lv (.int v :: .int i :: .ref (g.2.1 21) :: rest) σ := aw_iast 21 0 rfl rfl (inB_vp hb) (σ2 := sA σ 16 i.toNatClampNeg v) rfl hd hn k
theorem an_21 (hd : decode μ.1 pc = .ok (.arraylength, 1)) (hn : pc + 1 = n) (k : AW x μ g A (wC g) Q n lv (.int 448 :: rest) σ) : AW x μ g A (wC g) Q pc lv (.ref (g.2.1 21) :: rest) σ := aw_alen 21 0 rfl rfl (show Int32.ofNat 448 = 448 by decide) hd hn k
theorem al_22 {i : Int32} (hd : decode μ.1 pc = .ok (.iaload, 1)) (hn : pc + 1 = n) (hb : inB i 28 = true) (k : AW x μ g A (wC g) Q n lv (.int (σ.2 17 i.toNatClampNeg) :: rest) σ) : AW x μ g A (wC g) Q pc lv (.int i :: .ref (g.2.1 22) :: rest) σ := aw_iald 22 0 rfl rfl (inB_vp hb) hd hn k
theorem as_22 {i v : Int32} (hd : decode μ.1 pc = .ok (.iastore, 1)) (hn : pc + 1 = n) (hb : inB i 28 = true) (k : AW x μ g A (wC g) Q n lv rest (sA σ 17 i.toNatClampNeg v)) : AW x μ g A (wC g) Q pc lv (.int v :: .int i :: .ref (g.2.1 22) :: rest) σ := aw_iast 22 0 rfl rfl (inB_vp hb) (σ2 := sA σ 17 i.toNatClampNeg v) rfl hd hn k
theorem an_22 (hd : decode μ.1 pc = .ok (.arraylength, 1)) (hn : pc + 1 = n) (k : AW x μ g A (wC g) Q n lv (.int 28 :: rest) σ) : AW x μ g A (wC g) Q pc lv (.ref (g.2.1 22) :: rest) σ := aw_alen 22 0 rfl rfl (show Int32.ofNat 28 = 28 by decide) hd hn k
theorem al_23 {i : Int32} (hd : decode μ.1 pc = .ok (.iaload, 1)) (hn : pc + 1 = n) (hb : inB i 4 = true) (k : AW x μ g A (wC g) Q n lv (.int (σ.2 18 i.toNatClampNeg) :: rest) σ) : AW x μ g A (wC g) Q pc lv (.int i :: .ref (g.2.1 23) :: rest) σ := aw_iald 23 0 rfl rfl (inB_vp hb) hd hn k
theorem as_23 {i v : Int32} (hd : decode μ.1 pc = .ok (.iastore, 1)) (hn : pc + 1 = n) (hb : inB i 4 = true) (k : AW x μ g A (wC g) Q n lv rest (sA σ 18 i.toNatClampNeg v)) : AW x μ g A (wC g) Q pc lv (.int v :: .int i :: .ref (g.2.1 23) :: rest) σ := aw_iast 23 0 rfl rfl (inB_vp hb) (σ2 := sA σ 18 i.toNatClampNeg v) rfl hd hn k
theorem an_23 (hd : decode μ.1 pc = .ok (.arraylength, 1)) (hn : pc + 1 = n) (k : AW x μ g A (wC g) Q n lv (.int 4 :: rest) σ) : AW x μ g A (wC g) Q pc lv (.ref (g.2.1 23) :: rest) σ := aw_alen 23 0 rfl rfl (show Int32.ofNat 4 = 4 by decide) hd hn k
theorem gf_Machine_program (hd : decode μ.1 pc = .ok (.getfield idx, 3)) (hn : pc + 3 = n) (hl0 : Cond.fieldLink μ.2.2.1 idx "DotConsole$Machine" "program" "LDotConsole$Program;" ∈ ax_T) (k : AW x μ g A (wC g) Q n lv (.ref (g.2.1 16) :: rest) σ) : AW x μ g A (wC g) Q pc lv (.ref (g.2.1 24) :: rest) σ := aw_get (C := R_Machine) (T := F_Machine) (N := 10) 24 rfl rfl 0 (by decide) rfl i_Machine rfl hl0 hd hn k
theorem gf_Machine_screen (hd : decode μ.1 pc = .ok (.getfield idx, 3)) (hn : pc + 3 = n) (hl0 : Cond.fieldLink μ.2.2.1 idx "DotConsole$Machine" "screen" "LDotConsole$Screen;" ∈ ax_T) (k : AW x μ g A (wC g) Q n lv (.ref (g.2.1 28) :: rest) σ) : AW x μ g A (wC g) Q pc lv (.ref (g.2.1 24) :: rest) σ := aw_get (C := R_Machine) (T := F_Machine) (N := 10) 24 rfl rfl 1 (by decide) rfl i_Machine rfl hl0 hd hn k
theorem gf_Machine_pad (hd : decode μ.1 pc = .ok (.getfield idx, 3)) (hn : pc + 3 = n) (hl0 : Cond.fieldLink μ.2.2.1 idx "DotConsole$Machine" "pad" "LDotConsole$Pad;" ∈ ax_T) (k : AW x μ g A (wC g) Q n lv (.ref (g.2.1 30) :: rest) σ) : AW x μ g A (wC g) Q pc lv (.ref (g.2.1 24) :: rest) σ := aw_get (C := R_Machine) (T := F_Machine) (N := 10) 24 rfl rfl 2 (by decide) rfl i_Machine rfl hl0 hd hn k
theorem gf_Machine_values (hd : decode μ.1 pc = .ok (.getfield idx, 3)) (hn : pc + 3 = n) (hl0 : Cond.fieldLink μ.2.2.1 idx "DotConsole$Machine" "values" "[I" ∈ ax_T) (k : AW x μ g A (wC g) Q n lv (.ref (g.2.1 25) :: rest) σ) : AW x μ g A (wC g) Q pc lv (.ref (g.2.1 24) :: rest) σ := aw_get (C := R_Machine) (T := F_Machine) (N := 10) 24 rfl rfl 3 (by decide) rfl i_Machine rfl hl0 hd hn k
theorem gf_Machine_cells (hd : decode μ.1 pc = .ok (.getfield idx, 3)) (hn : pc + 3 = n) (hl0 : Cond.fieldLink μ.2.2.1 idx "DotConsole$Machine" "cells" "[I" ∈ ax_T) (k : AW x μ g A (wC g) Q n lv (.ref (g.2.1 26) :: rest) σ) : AW x μ g A (wC g) Q pc lv (.ref (g.2.1 24) :: rest) σ := aw_get (C := R_Machine) (T := F_Machine) (N := 10) 24 rfl rfl 4 (by decide) rfl i_Machine rfl hl0 hd hn k
theorem gf_Machine_seed (hd : decode μ.1 pc = .ok (.getfield idx, 3)) (hn : pc + 3 = n) (hl0 : Cond.fieldLink μ.2.2.1 idx "DotConsole$Machine" "seed" "I" ∈ ax_T) (k : AW x μ g A (wC g) Q n lv (.int (σ.1 19) :: rest) σ) : AW x μ g A (wC g) Q pc lv (.ref (g.2.1 24) :: rest) σ := aw_get (C := R_Machine) (T := F_Machine) (N := 10) 24 rfl rfl 5 (by decide) rfl i_Machine rfl hl0 hd hn k
theorem pf_Machine_seed {v : Int32} (hd : decode μ.1 pc = .ok (.putfield idx, 3)) (hn : pc + 3 = n) (hl0 : Cond.fieldLink μ.2.2.1 idx "DotConsole$Machine" "seed" "I" ∈ ax_T) (k : AW x μ g A (wC g) Q n lv rest (sF σ 19 v)) : AW x μ g A (wC g) Q pc lv (.int v :: .ref (g.2.1 24) :: rest) σ := aw_put (C := R_Machine) (T := F_Machine) (N := 10) 24 rfl rfl 5 (by decide) ty_Machine ty_Machine_ok nm_Machine rfl rfl rfl rfl (Nat.le_of_ble_eq_true rfl) i_Machine rfl hl0 (σ2 := sF σ 19 v) rfl hd hn k
theorem gf_Machine_frames (hd : decode μ.1 pc = .ok (.getfield idx, 3)) (hn : pc + 3 = n) (hl0 : Cond.fieldLink μ.2.2.1 idx "DotConsole$Machine" "frames" "I" ∈ ax_T) (k : AW x μ g A (wC g) Q n lv (.int (σ.1 20) :: rest) σ) : AW x μ g A (wC g) Q pc lv (.ref (g.2.1 24) :: rest) σ := aw_get (C := R_Machine) (T := F_Machine) (N := 10) 24 rfl rfl 6 (by decide) rfl i_Machine rfl hl0 hd hn k
theorem pf_Machine_frames {v : Int32} (hd : decode μ.1 pc = .ok (.putfield idx, 3)) (hn : pc + 3 = n) (hl0 : Cond.fieldLink μ.2.2.1 idx "DotConsole$Machine" "frames" "I" ∈ ax_T) (k : AW x μ g A (wC g) Q n lv rest (sF σ 20 v)) : AW x μ g A (wC g) Q pc lv (.int v :: .ref (g.2.1 24) :: rest) σ := aw_put (C := R_Machine) (T := F_Machine) (N := 10) 24 rfl rfl 6 (by decide) ty_Machine ty_Machine_ok nm_Machine rfl rfl rfl rfl (Nat.le_of_ble_eq_true rfl) i_Machine rfl hl0 (σ2 := sF σ 20 v) rfl hd hn k
theorem gf_Machine_steps (hd : decode μ.1 pc = .ok (.getfield idx, 3)) (hn : pc + 3 = n) (hl0 : Cond.fieldLink μ.2.2.1 idx "DotConsole$Machine" "steps" "I" ∈ ax_T) (k : AW x μ g A (wC g) Q n lv (.int (σ.1 21) :: rest) σ) : AW x μ g A (wC g) Q pc lv (.ref (g.2.1 24) :: rest) σ := aw_get (C := R_Machine) (T := F_Machine) (N := 10) 24 rfl rfl 7 (by decide) rfl i_Machine rfl hl0 hd hn k
theorem pf_Machine_steps {v : Int32} (hd : decode μ.1 pc = .ok (.putfield idx, 3)) (hn : pc + 3 = n) (hl0 : Cond.fieldLink μ.2.2.1 idx "DotConsole$Machine" "steps" "I" ∈ ax_T) (k : AW x μ g A (wC g) Q n lv rest (sF σ 21 v)) : AW x μ g A (wC g) Q pc lv (.int v :: .ref (g.2.1 24) :: rest) σ := aw_put (C := R_Machine) (T := F_Machine) (N := 10) 24 rfl rfl 7 (by decide) ty_Machine ty_Machine_ok nm_Machine rfl rfl rfl rfl (Nat.le_of_ble_eq_true rfl) i_Machine rfl hl0 (σ2 := sF σ 21 v) rfl hd hn k
theorem gf_Machine_stack (hd : decode μ.1 pc = .ok (.getfield idx, 3)) (hn : pc + 3 = n) (hl0 : Cond.fieldLink μ.2.2.1 idx "DotConsole$Machine" "stack" "[I" ∈ ax_T) (k : AW x μ g A (wC g) Q n lv (.ref (g.2.1 27) :: rest) σ) : AW x μ g A (wC g) Q pc lv (.ref (g.2.1 24) :: rest) σ := aw_get (C := R_Machine) (T := F_Machine) (N := 10) 24 rfl rfl 8 (by decide) rfl i_Machine rfl hl0 hd hn k
theorem gf_Machine_stackCount (hd : decode μ.1 pc = .ok (.getfield idx, 3)) (hn : pc + 3 = n) (hl0 : Cond.fieldLink μ.2.2.1 idx "DotConsole$Machine" "stackCount" "I" ∈ ax_T) (k : AW x μ g A (wC g) Q n lv (.int (σ.1 22) :: rest) σ) : AW x μ g A (wC g) Q pc lv (.ref (g.2.1 24) :: rest) σ := aw_get (C := R_Machine) (T := F_Machine) (N := 10) 24 rfl rfl 9 (by decide) rfl i_Machine rfl hl0 hd hn k
theorem pf_Machine_stackCount {v : Int32} (hd : decode μ.1 pc = .ok (.putfield idx, 3)) (hn : pc + 3 = n) (hl0 : Cond.fieldLink μ.2.2.1 idx "DotConsole$Machine" "stackCount" "I" ∈ ax_T) (k : AW x μ g A (wC g) Q n lv rest (sF σ 22 v)) : AW x μ g A (wC g) Q pc lv (.int v :: .ref (g.2.1 24) :: rest) σ := aw_put (C := R_Machine) (T := F_Machine) (N := 10) 24 rfl rfl 9 (by decide) ty_Machine ty_Machine_ok nm_Machine rfl rfl rfl rfl (Nat.le_of_ble_eq_true rfl) i_Machine rfl hl0 (σ2 := sF σ 22 v) rfl hd hn k
theorem al_25 {i : Int32} (hd : decode μ.1 pc = .ok (.iaload, 1)) (hn : pc + 1 = n) (hb : inB i 12 = true) (k : AW x μ g A (wC g) Q n lv (.int (σ.2 19 i.toNatClampNeg) :: rest) σ) : AW x μ g A (wC g) Q pc lv (.int i :: .ref (g.2.1 25) :: rest) σ := aw_iald 25 0 rfl rfl (inB_vp hb) hd hn k
theorem as_25 {i v : Int32} (hd : decode μ.1 pc = .ok (.iastore, 1)) (hn : pc + 1 = n) (hb : inB i 12 = true) (k : AW x μ g A (wC g) Q n lv rest (sA σ 19 i.toNatClampNeg v)) : AW x μ g A (wC g) Q pc lv (.int v :: .int i :: .ref (g.2.1 25) :: rest) σ := aw_iast 25 0 rfl rfl (inB_vp hb) (σ2 := sA σ 19 i.toNatClampNeg v) rfl hd hn k
theorem an_25 (hd : decode μ.1 pc = .ok (.arraylength, 1)) (hn : pc + 1 = n) (k : AW x μ g A (wC g) Q n lv (.int 12 :: rest) σ) : AW x μ g A (wC g) Q pc lv (.ref (g.2.1 25) :: rest) σ := aw_alen 25 0 rfl rfl (show Int32.ofNat 12 = 12 by decide) hd hn k
theorem al_26 {i : Int32} (hd : decode μ.1 pc = .ok (.iaload, 1)) (hn : pc + 1 = n) (hb : inB i 32 = true) (k : AW x μ g A (wC g) Q n lv (.int (σ.2 20 i.toNatClampNeg) :: rest) σ) : AW x μ g A (wC g) Q pc lv (.int i :: .ref (g.2.1 26) :: rest) σ := aw_iald 26 0 rfl rfl (inB_vp hb) hd hn k
theorem as_26 {i v : Int32} (hd : decode μ.1 pc = .ok (.iastore, 1)) (hn : pc + 1 = n) (hb : inB i 32 = true) (k : AW x μ g A (wC g) Q n lv rest (sA σ 20 i.toNatClampNeg v)) : AW x μ g A (wC g) Q pc lv (.int v :: .int i :: .ref (g.2.1 26) :: rest) σ := aw_iast 26 0 rfl rfl (inB_vp hb) (σ2 := sA σ 20 i.toNatClampNeg v) rfl hd hn k
theorem an_26 (hd : decode μ.1 pc = .ok (.arraylength, 1)) (hn : pc + 1 = n) (k : AW x μ g A (wC g) Q n lv (.int 32 :: rest) σ) : AW x μ g A (wC g) Q pc lv (.ref (g.2.1 26) :: rest) σ := aw_alen 26 0 rfl rfl (show Int32.ofNat 32 = 32 by decide) hd hn k
theorem al_27 {i : Int32} (hd : decode μ.1 pc = .ok (.iaload, 1)) (hn : pc + 1 = n) (hb : inB i 16 = true) (k : AW x μ g A (wC g) Q n lv (.int (σ.2 21 i.toNatClampNeg) :: rest) σ) : AW x μ g A (wC g) Q pc lv (.int i :: .ref (g.2.1 27) :: rest) σ := aw_iald 27 0 rfl rfl (inB_vp hb) hd hn k
theorem as_27 {i v : Int32} (hd : decode μ.1 pc = .ok (.iastore, 1)) (hn : pc + 1 = n) (hb : inB i 16 = true) (k : AW x μ g A (wC g) Q n lv rest (sA σ 21 i.toNatClampNeg v)) : AW x μ g A (wC g) Q pc lv (.int v :: .int i :: .ref (g.2.1 27) :: rest) σ := aw_iast 27 0 rfl rfl (inB_vp hb) (σ2 := sA σ 21 i.toNatClampNeg v) rfl hd hn k
theorem an_27 (hd : decode μ.1 pc = .ok (.arraylength, 1)) (hn : pc + 1 = n) (k : AW x μ g A (wC g) Q n lv (.int 16 :: rest) σ) : AW x μ g A (wC g) Q pc lv (.ref (g.2.1 27) :: rest) σ := aw_alen 27 0 rfl rfl (show Int32.ofNat 16 = 16 by decide) hd hn k
theorem gf_Screen_dots (hd : decode μ.1 pc = .ok (.getfield idx, 3)) (hn : pc + 3 = n) (hl0 : Cond.fieldLink μ.2.2.1 idx "DotConsole$Screen" "dots" "[I" ∈ ax_T) (k : AW x μ g A (wC g) Q n lv (.ref (g.2.1 29) :: rest) σ) : AW x μ g A (wC g) Q pc lv (.ref (g.2.1 28) :: rest) σ := aw_get (C := R_Screen) (T := F_Screen) (N := 1) 28 rfl rfl 0 (by decide) rfl i_Screen rfl hl0 hd hn k
theorem al_29 {i : Int32} (hd : decode μ.1 pc = .ok (.iaload, 1)) (hn : pc + 1 = n) (hb : inB i 256 = true) (k : AW x μ g A (wC g) Q n lv (.int (σ.2 22 i.toNatClampNeg) :: rest) σ) : AW x μ g A (wC g) Q pc lv (.int i :: .ref (g.2.1 29) :: rest) σ := aw_iald 29 0 rfl rfl (inB_vp hb) hd hn k
theorem as_29 {i v : Int32} (hd : decode μ.1 pc = .ok (.iastore, 1)) (hn : pc + 1 = n) (hb : inB i 256 = true) (k : AW x μ g A (wC g) Q n lv rest (sA σ 22 i.toNatClampNeg v)) : AW x μ g A (wC g) Q pc lv (.int v :: .int i :: .ref (g.2.1 29) :: rest) σ := aw_iast 29 0 rfl rfl (inB_vp hb) (σ2 := sA σ 22 i.toNatClampNeg v) rfl hd hn k
theorem an_29 (hd : decode μ.1 pc = .ok (.arraylength, 1)) (hn : pc + 1 = n) (k : AW x μ g A (wC g) Q n lv (.int 256 :: rest) σ) : AW x μ g A (wC g) Q pc lv (.ref (g.2.1 29) :: rest) σ := aw_alen 29 0 rfl rfl (show Int32.ofNat 256 = 256 by decide) hd hn k
theorem gf_Pad_framesDown (hd : decode μ.1 pc = .ok (.getfield idx, 3)) (hn : pc + 3 = n) (hl0 : Cond.fieldLink μ.2.2.1 idx "DotConsole$Pad" "framesDown" "[I" ∈ ax_T) (k : AW x μ g A (wC g) Q n lv (.ref (g.2.1 31) :: rest) σ) : AW x μ g A (wC g) Q pc lv (.ref (g.2.1 30) :: rest) σ := aw_get (C := R_Pad) (T := F_Pad) (N := 1) 30 rfl rfl 0 (by decide) rfl i_Pad rfl hl0 hd hn k
theorem al_31 {i : Int32} (hd : decode μ.1 pc = .ok (.iaload, 1)) (hn : pc + 1 = n) (hb : inB i 6 = true) (k : AW x μ g A (wC g) Q n lv (.int (σ.2 23 i.toNatClampNeg) :: rest) σ) : AW x μ g A (wC g) Q pc lv (.int i :: .ref (g.2.1 31) :: rest) σ := aw_iald 31 0 rfl rfl (inB_vp hb) hd hn k
theorem as_31 {i v : Int32} (hd : decode μ.1 pc = .ok (.iastore, 1)) (hn : pc + 1 = n) (hb : inB i 6 = true) (k : AW x μ g A (wC g) Q n lv rest (sA σ 23 i.toNatClampNeg v)) : AW x μ g A (wC g) Q pc lv (.int v :: .int i :: .ref (g.2.1 31) :: rest) σ := aw_iast 31 0 rfl rfl (inB_vp hb) (σ2 := sA σ 23 i.toNatClampNeg v) rfl hd hn k
theorem an_31 (hd : decode μ.1 pc = .ok (.arraylength, 1)) (hn : pc + 1 = n) (k : AW x μ g A (wC g) Q n lv (.int 6 :: rest) σ) : AW x μ g A (wC g) Q pc lv (.ref (g.2.1 31) :: rest) σ := aw_alen 31 0 rfl rfl (show Int32.ofNat 6 = 6 by decide) hd hn k
end AXW
end
section
abbrev b_Names_findOrSee : ByteArray := prog_4_method_4_code
def y_Names_findOrSee : MethodName := ⟨"DotConsole$Names", "findOrSee", "(I)I"⟩
theorem d_Names_findOrSee_0 : decode b_Names_findOrSee 0 = .ok (.iconst 0, 1) := by decide +kernel
theorem d_Names_findOrSee_1 : decode b_Names_findOrSee 1 = .ok (.istore_n 2, 1) := by decide +kernel
theorem d_Names_findOrSee_2 : decode b_Names_findOrSee 2 = .ok (.iload_n 2, 1) := by decide +kernel
theorem d_Names_findOrSee_3 : decode b_Names_findOrSee 3 = .ok (.aload_n 0, 1) := by decide +kernel
theorem d_Names_findOrSee_4 : decode b_Names_findOrSee 4 = .ok (.getfield 19, 3) := by decide +kernel
theorem d_Names_findOrSee_7 : decode b_Names_findOrSee 7 = .ok (.if_icmp .ge 21, 3) := by decide +kernel
theorem d_Names_findOrSee_10 : decode b_Names_findOrSee 10 = .ok (.aload_n 0, 1) := by decide +kernel
theorem d_Names_findOrSee_11 : decode b_Names_findOrSee 11 = .ok (.getfield 9, 3) := by decide +kernel
theorem d_Names_findOrSee_14 : decode b_Names_findOrSee 14 = .ok (.iload_n 2, 1) := by decide +kernel
theorem d_Names_findOrSee_15 : decode b_Names_findOrSee 15 = .ok (.iaload, 1) := by decide +kernel
theorem d_Names_findOrSee_16 : decode b_Names_findOrSee 16 = .ok (.iload_n 1, 1) := by decide +kernel
theorem d_Names_findOrSee_17 : decode b_Names_findOrSee 17 = .ok (.if_icmp .ne 5, 3) := by decide +kernel
theorem d_Names_findOrSee_20 : decode b_Names_findOrSee 20 = .ok (.iload_n 2, 1) := by decide +kernel
theorem d_Names_findOrSee_21 : decode b_Names_findOrSee 21 = .ok (.ireturn, 1) := by decide +kernel
theorem d_Names_findOrSee_22 : decode b_Names_findOrSee 22 = .ok (.iinc 2 1, 3) := by decide +kernel
theorem d_Names_findOrSee_25 : decode b_Names_findOrSee 25 = .ok (.goto (-23), 3) := by decide +kernel
theorem d_Names_findOrSee_28 : decode b_Names_findOrSee 28 = .ok (.aload_n 0, 1) := by decide +kernel
theorem d_Names_findOrSee_29 : decode b_Names_findOrSee 29 = .ok (.getfield 19, 3) := by decide +kernel
theorem d_Names_findOrSee_32 : decode b_Names_findOrSee 32 = .ok (.bipush 12, 2) := by decide +kernel
theorem d_Names_findOrSee_34 : decode b_Names_findOrSee 34 = .ok (.if_icmp .ne 10, 3) := by decide +kernel
theorem d_Names_findOrSee_37 : decode b_Names_findOrSee 37 = .ok (.aload_n 0, 1) := by decide +kernel
theorem d_Names_findOrSee_38 : decode b_Names_findOrSee 38 = .ok (.iconst 1, 1) := by decide +kernel
theorem d_Names_findOrSee_39 : decode b_Names_findOrSee 39 = .ok (.putfield 22, 3) := by decide +kernel
theorem d_Names_findOrSee_42 : decode b_Names_findOrSee 42 = .ok (.iconst 0, 1) := by decide +kernel
theorem d_Names_findOrSee_43 : decode b_Names_findOrSee 43 = .ok (.ireturn, 1) := by decide +kernel
theorem d_Names_findOrSee_44 : decode b_Names_findOrSee 44 = .ok (.aload_n 0, 1) := by decide +kernel
theorem d_Names_findOrSee_45 : decode b_Names_findOrSee 45 = .ok (.getfield 9, 3) := by decide +kernel
theorem d_Names_findOrSee_48 : decode b_Names_findOrSee 48 = .ok (.aload_n 0, 1) := by decide +kernel
theorem d_Names_findOrSee_49 : decode b_Names_findOrSee 49 = .ok (.getfield 19, 3) := by decide +kernel
theorem d_Names_findOrSee_52 : decode b_Names_findOrSee 52 = .ok (.iload_n 1, 1) := by decide +kernel
theorem d_Names_findOrSee_53 : decode b_Names_findOrSee 53 = .ok (.iastore, 1) := by decide +kernel
theorem d_Names_findOrSee_54 : decode b_Names_findOrSee 54 = .ok (.aload_n 0, 1) := by decide +kernel
theorem d_Names_findOrSee_55 : decode b_Names_findOrSee 55 = .ok (.dup, 1) := by decide +kernel
theorem d_Names_findOrSee_56 : decode b_Names_findOrSee 56 = .ok (.getfield 19, 3) := by decide +kernel
theorem d_Names_findOrSee_59 : decode b_Names_findOrSee 59 = .ok (.iconst 1, 1) := by decide +kernel
theorem d_Names_findOrSee_60 : decode b_Names_findOrSee 60 = .ok (.iadd, 1) := by decide +kernel
theorem d_Names_findOrSee_61 : decode b_Names_findOrSee 61 = .ok (.putfield 19, 3) := by decide +kernel
theorem d_Names_findOrSee_64 : decode b_Names_findOrSee 64 = .ok (.aload_n 0, 1) := by decide +kernel
theorem d_Names_findOrSee_65 : decode b_Names_findOrSee 65 = .ok (.getfield 19, 3) := by decide +kernel
theorem d_Names_findOrSee_68 : decode b_Names_findOrSee 68 = .ok (.iconst 1, 1) := by decide +kernel
theorem d_Names_findOrSee_69 : decode b_Names_findOrSee 69 = .ok (.isub, 1) := by decide +kernel
theorem d_Names_findOrSee_70 : decode b_Names_findOrSee 70 = .ok (.ireturn, 1) := by decide +kernel
def μ_Names_findOrSee : ax_M := (b_Names_findOrSee, 3, "DotConsole$Names", (some .int), 0, 0)
theorem Y_Names_findOrSee : ax_YV μ_Names_findOrSee y_Names_findOrSee 1 := ⟨⟨ax_mem (by decide +kernel) rfl, ax_mem (by decide +kernel) rfl, by decide, by decide, by decide +kernel⟩, ax_mem (by decide +kernel) rfl, ax_mem (by decide +kernel) rfl⟩
theorem kf_Names_19 : Cond.fieldLink "DotConsole$Names" 19 "DotConsole$Names" "seen" "I" ∈ ax_T := ax_mem (by decide +kernel) rfl
theorem kf_Names_9 : Cond.fieldLink "DotConsole$Names" 9 "DotConsole$Names" "keys" "[I" ∈ ax_T := ax_mem (by decide +kernel) rfl
theorem kf_Names_22 : Cond.fieldLink "DotConsole$Names" 22 "DotConsole$Names" "tooMany" "Z" ∈ ax_T := ax_mem (by decide +kernel) rfl
def J_Names_findOrSee_2 (N : Nat) : Nat → Int32 → Int32 → St → Option (Int32 × St)
  | 0, _, _, _ => none
  | n + 1, l1, l2, σ => (if (σ.1 5) ≤ l2 then
  (if (σ.1 5) = 12 then
  ax_let (sF σ 6 1) (fun σ3 =>
  some (0, σ3))
  else (if (inB (σ.1 5) 12) = true then ax_let (sA σ 5 (σ.1 5).toNatClampNeg l1) (fun σ1 =>
  ax_let (sF σ1 5 ((σ1.1 5) + 1)) (fun σ2 =>
  some (((σ2.1 5) - 1), σ2))) else none))
  else (if (inB l2 12) = true then (if (σ.2 5 l2.toNatClampNeg) = l1 then
  some (l2, σ)
  else ax_let (l2 + 1) (fun v1 =>
  J_Names_findOrSee_2 N n l1 v1 σ)) else none))
def J_Names_findOrSee (N : Nat) (a1 : Int32) (σ : St) : Option (Int32 × St) :=
  J_Names_findOrSee_2 N N a1 0 σ
set_option maxHeartbeats 1000000 in
theorem t_Names_findOrSee_2 {N : Nat} {g : ax_G} {r9 : Int32} {s9 : St} (x : ax_X) (A : Nat → Prop) : ∀ (n : Nat) (l1 : Int32) (l2 : Int32) (σ : St), J_Names_findOrSee_2 N n l1 l2 σ = some (r9, s9) → AW x μ_Names_findOrSee g A (wC g) (ax_QI x g A (wC g) (ax_eqI r9 s9)) 2 [(0, .ref (g.2.1 7)), (1, .int l1), (2, .int l2)] [] σ := by
  intro n
  induction n with
  | zero => intro l1 l2 σ hJ; rw [J_Names_findOrSee_2] at hJ; cases hJ
  | succ n ih =>
    intro l1 l2 σ hJ
    rw [J_Names_findOrSee_2] at hJ
    refine aw_iload_n (n := 3) d_Names_findOrSee_2 rfl rfl 2 rfl ?_
    refine aw_aload_n (n := 4) d_Names_findOrSee_3 rfl rfl 0 rfl ?_
    refine gf_Names_seen (n := 7) d_Names_findOrSee_4 rfl kf_Names_19 ?_
    refine aw_icmp_ge (n := 10) (t := 28) d_Names_findOrSee_7 rfl (by decide) (fun c1 => ?_) (fun c1 => ?_)
    · rw [if_pos c1] at hJ
      refine aw_aload_n (n := 29) d_Names_findOrSee_28 rfl rfl 0 rfl ?_
      refine gf_Names_seen (n := 32) d_Names_findOrSee_29 rfl kf_Names_19 ?_
      refine aw_bipush (n := 34) (v := 12) d_Names_findOrSee_32 rfl (by decide) ?_
      refine aw_icmp_ne (n := 37) (t := 44) d_Names_findOrSee_34 rfl (by decide) (fun c2 => ?_) (fun c2 => ?_)
      · rw [if_neg c2] at hJ
        refine aw_aload_n (n := 45) d_Names_findOrSee_44 rfl rfl 0 rfl ?_
        refine gf_Names_keys (n := 48) d_Names_findOrSee_45 rfl kf_Names_9 ?_
        refine aw_aload_n (n := 49) d_Names_findOrSee_48 rfl rfl 0 rfl ?_
        refine gf_Names_seen (n := 52) d_Names_findOrSee_49 rfl kf_Names_19 ?_
        refine aw_iload_n (n := 53) d_Names_findOrSee_52 rfl rfl 1 rfl ?_
        obtain ⟨h1, hJ⟩ := ax_need hJ
        refine as_8 (n := 54) d_Names_findOrSee_53 rfl h1 ?_
        obtain ⟨σ1, eσ1, hJ⟩ := ax_letE hJ
        refine aw_let eσ1 ?_
        refine aw_aload_n (n := 55) d_Names_findOrSee_54 rfl rfl 0 rfl ?_
        refine aw_dup (n := 56) d_Names_findOrSee_55 rfl rfl ?_
        refine gf_Names_seen (n := 59) d_Names_findOrSee_56 rfl kf_Names_19 ?_
        refine aw_iconst (n := 60) (v := 1) d_Names_findOrSee_59 rfl (by decide) ?_
        refine aw_iadd (n := 61) d_Names_findOrSee_60 rfl ?_
        refine pf_Names_seen (n := 64) d_Names_findOrSee_61 rfl kf_Names_19 ?_
        obtain ⟨σ2, eσ2, hJ⟩ := ax_letE hJ
        refine aw_let eσ2 ?_
        refine aw_aload_n (n := 65) d_Names_findOrSee_64 rfl rfl 0 rfl ?_
        refine gf_Names_seen (n := 68) d_Names_findOrSee_65 rfl kf_Names_19 ?_
        refine aw_iconst (n := 69) (v := 1) d_Names_findOrSee_68 rfl (by decide) ?_
        refine aw_isub (n := 70) d_Names_findOrSee_69 rfl ?_
        exact aw_iret d_Names_findOrSee_70 rfl (ax_ret hJ)
      · rw [if_pos c2] at hJ
        refine aw_aload_n (n := 38) d_Names_findOrSee_37 rfl rfl 0 rfl ?_
        refine aw_iconst (n := 39) (v := 1) d_Names_findOrSee_38 rfl (by decide) ?_
        refine pf_Names_tooMany (n := 42) d_Names_findOrSee_39 rfl kf_Names_22 rfl rfl ?_
        obtain ⟨σ3, eσ3, hJ⟩ := ax_letE hJ
        refine aw_let eσ3 ?_
        refine aw_iconst (n := 43) (v := 0) d_Names_findOrSee_42 rfl (by decide) ?_
        exact aw_iret d_Names_findOrSee_43 rfl (ax_ret hJ)
    · rw [if_neg c1] at hJ
      refine aw_aload_n (n := 11) d_Names_findOrSee_10 rfl rfl 0 rfl ?_
      refine gf_Names_keys (n := 14) d_Names_findOrSee_11 rfl kf_Names_9 ?_
      refine aw_iload_n (n := 15) d_Names_findOrSee_14 rfl rfl 2 rfl ?_
      obtain ⟨h2, hJ⟩ := ax_need hJ
      refine al_8 (n := 16) d_Names_findOrSee_15 rfl h2 ?_
      refine aw_iload_n (n := 17) d_Names_findOrSee_16 rfl rfl 1 rfl ?_
      refine aw_icmp_ne (n := 20) (t := 22) d_Names_findOrSee_17 rfl (by decide) (fun c3 => ?_) (fun c3 => ?_)
      · rw [if_neg c3] at hJ
        obtain ⟨v1, ev1, hJ⟩ := ax_letE hJ
        refine aw_iinc (n := 25) (j := 2) (v := v1) d_Names_findOrSee_22 rfl rfl (ev1) (by decide) rfl ?_
        refine aw_goto (t := 2) d_Names_findOrSee_25 (by decide) ?_
        refine aw_sub [1, 2, 0] rfl ?_
        exact ih _ _ _ hJ
      · rw [if_pos c3] at hJ
        refine aw_iload_n (n := 21) d_Names_findOrSee_20 rfl rfl 2 rfl ?_
        exact aw_iret d_Names_findOrSee_21 rfl (ax_ret hJ)
set_option maxHeartbeats 1000000 in
theorem c_Names_findOrSee {N : Nat} {g : ax_G} {a1 : Int32} {σ : St} {r9 : Int32} {s9 : St} (hJ : J_Names_findOrSee N a1 σ = some (r9, s9)) : ax_CI μ_Names_findOrSee g y_Names_findOrSee (wC g) [.ref (g.2.1 7), .int a1] σ (ax_eqI r9 s9) := by
  refine ax_CI.of rfl rfl (Nat.le_of_ble_eq_true rfl) (fun x A => ?_)
  show AW x μ_Names_findOrSee g A (wC g) (ax_QI x g A (wC g) (ax_eqI r9 s9)) 0 [(0, .ref (g.2.1 7)), (1, .int a1)] [] σ
  rw [J_Names_findOrSee] at hJ
  refine aw_iconst (n := 1) (v := 0) d_Names_findOrSee_0 rfl (by decide) ?_
  refine aw_istore_n (n := 2) d_Names_findOrSee_1 rfl rfl (by decide) rfl ?_
  refine aw_sub [1, 2, 0] rfl ?_
  exact t_Names_findOrSee_2 x A N _ _ _ hJ
abbrev b_Names_letterAt : ByteArray := prog_4_method_5_code
def y_Names_letterAt : MethodName := ⟨"DotConsole$Names", "letterAt", "(II)I"⟩
theorem d_Names_letterAt_0 : decode b_Names_letterAt 0 = .ok (.iload_n 1, 1) := by decide +kernel
theorem d_Names_letterAt_1 : decode b_Names_letterAt 1 = .ok (.ifCond .lt 21, 3) := by decide +kernel
theorem d_Names_letterAt_4 : decode b_Names_letterAt 4 = .ok (.iload_n 1, 1) := by decide +kernel
theorem d_Names_letterAt_5 : decode b_Names_letterAt 5 = .ok (.aload_n 0, 1) := by decide +kernel
theorem d_Names_letterAt_6 : decode b_Names_letterAt 6 = .ok (.getfield 15, 3) := by decide +kernel
theorem d_Names_letterAt_9 : decode b_Names_letterAt 9 = .ok (.if_icmp .ge 13, 3) := by decide +kernel
theorem d_Names_letterAt_12 : decode b_Names_letterAt 12 = .ok (.iload_n 2, 1) := by decide +kernel
theorem d_Names_letterAt_13 : decode b_Names_letterAt 13 = .ok (.ifCond .lt 9, 3) := by decide +kernel
theorem d_Names_letterAt_16 : decode b_Names_letterAt 16 = .ok (.iload_n 2, 1) := by decide +kernel
theorem d_Names_letterAt_17 : decode b_Names_letterAt 17 = .ok (.bipush 6, 2) := by decide +kernel
theorem d_Names_letterAt_19 : decode b_Names_letterAt 19 = .ok (.if_icmp .lt 5, 3) := by decide +kernel
theorem d_Names_letterAt_22 : decode b_Names_letterAt 22 = .ok (.iconst (-1), 1) := by decide +kernel
theorem d_Names_letterAt_23 : decode b_Names_letterAt 23 = .ok (.ireturn, 1) := by decide +kernel
theorem d_Names_letterAt_24 : decode b_Names_letterAt 24 = .ok (.aload_n 0, 1) := by decide +kernel
theorem d_Names_letterAt_25 : decode b_Names_letterAt 25 = .ok (.getfield 9, 3) := by decide +kernel
theorem d_Names_letterAt_28 : decode b_Names_letterAt 28 = .ok (.iload_n 1, 1) := by decide +kernel
theorem d_Names_letterAt_29 : decode b_Names_letterAt 29 = .ok (.iaload, 1) := by decide +kernel
theorem d_Names_letterAt_30 : decode b_Names_letterAt 30 = .ok (.iconst 5, 1) := by decide +kernel
theorem d_Names_letterAt_31 : decode b_Names_letterAt 31 = .ok (.iconst 5, 1) := by decide +kernel
theorem d_Names_letterAt_32 : decode b_Names_letterAt 32 = .ok (.iload_n 2, 1) := by decide +kernel
theorem d_Names_letterAt_33 : decode b_Names_letterAt 33 = .ok (.isub, 1) := by decide +kernel
theorem d_Names_letterAt_34 : decode b_Names_letterAt 34 = .ok (.imul, 1) := by decide +kernel
theorem d_Names_letterAt_35 : decode b_Names_letterAt 35 = .ok (.ishr, 1) := by decide +kernel
theorem d_Names_letterAt_36 : decode b_Names_letterAt 36 = .ok (.bipush 31, 2) := by decide +kernel
theorem d_Names_letterAt_38 : decode b_Names_letterAt 38 = .ok (.iand, 1) := by decide +kernel
theorem d_Names_letterAt_39 : decode b_Names_letterAt 39 = .ok (.istore_n 3, 1) := by decide +kernel
theorem d_Names_letterAt_40 : decode b_Names_letterAt 40 = .ok (.iload_n 3, 1) := by decide +kernel
theorem d_Names_letterAt_41 : decode b_Names_letterAt 41 = .ok (.ifCond .ne 7, 3) := by decide +kernel
theorem d_Names_letterAt_44 : decode b_Names_letterAt 44 = .ok (.iconst (-1), 1) := by decide +kernel
theorem d_Names_letterAt_45 : decode b_Names_letterAt 45 = .ok (.goto 9, 3) := by decide +kernel
theorem d_Names_letterAt_48 : decode b_Names_letterAt 48 = .ok (.iload_n 3, 1) := by decide +kernel
theorem d_Names_letterAt_49 : decode b_Names_letterAt 49 = .ok (.bipush 97, 2) := by decide +kernel
theorem d_Names_letterAt_51 : decode b_Names_letterAt 51 = .ok (.iadd, 1) := by decide +kernel
theorem d_Names_letterAt_52 : decode b_Names_letterAt 52 = .ok (.iconst 1, 1) := by decide +kernel
theorem d_Names_letterAt_53 : decode b_Names_letterAt 53 = .ok (.isub, 1) := by decide +kernel
theorem d_Names_letterAt_54 : decode b_Names_letterAt 54 = .ok (.ireturn, 1) := by decide +kernel
def μ_Names_letterAt : ax_M := (b_Names_letterAt, 4, "DotConsole$Names", (some .int), 0, 0)
theorem Y_Names_letterAt : ax_YV μ_Names_letterAt y_Names_letterAt 2 := ⟨⟨ax_mem (by decide +kernel) rfl, ax_mem (by decide +kernel) rfl, by decide, by decide, by decide +kernel⟩, ax_mem (by decide +kernel) rfl, ax_mem (by decide +kernel) rfl⟩
theorem kf_Names_15 : Cond.fieldLink "DotConsole$Names" 15 "DotConsole$Names" "kept" "I" ∈ ax_T := ax_mem (by decide +kernel) rfl
def J_Names_letterAt (N : Nat) (a1 : Int32) (a2 : Int32) (σ : St) : Option (Int32 × St) :=
  (if a1 < 0 then
  some ((-1), σ)
  else (if (σ.1 4) ≤ a1 then
  some ((-1), σ)
  else (if a2 < 0 then
  some ((-1), σ)
  else (if a2 < 6 then
  (if (inB a1 12) = true then ax_let (((σ.2 5 a1.toNatClampNeg) >>> ((5 * (5 - a2)) &&& 31)) &&& 31) (fun v1 =>
  (if v1 = 0 then
  some ((-1), σ)
  else some (((v1 + 97) - 1), σ))) else none)
  else some ((-1), σ)))))
set_option maxHeartbeats 1000000 in
theorem c_Names_letterAt {N : Nat} {g : ax_G} {a1 : Int32} {a2 : Int32} {σ : St} {r9 : Int32} {s9 : St} (hJ : J_Names_letterAt N a1 a2 σ = some (r9, s9)) : ax_CI μ_Names_letterAt g y_Names_letterAt (wC g) [.ref (g.2.1 7), .int a1, .int a2] σ (ax_eqI r9 s9) := by
  refine ax_CI.of rfl rfl (Nat.le_of_ble_eq_true rfl) (fun x A => ?_)
  show AW x μ_Names_letterAt g A (wC g) (ax_QI x g A (wC g) (ax_eqI r9 s9)) 0 [(0, .ref (g.2.1 7)), (1, .int a1), (2, .int a2)] [] σ
  rw [J_Names_letterAt] at hJ
  refine aw_iload_n (n := 1) d_Names_letterAt_0 rfl rfl 1 rfl ?_
  refine aw_if_lt (n := 4) (t := 22) d_Names_letterAt_1 rfl (by decide) (fun c1 => ?_) (fun c1 => ?_)
  · rw [if_pos c1] at hJ
    refine aw_iconst (n := 23) (v := -1) d_Names_letterAt_22 rfl (by decide) ?_
    exact aw_iret d_Names_letterAt_23 rfl (ax_ret hJ)
  · rw [if_neg c1] at hJ
    refine aw_iload_n (n := 5) d_Names_letterAt_4 rfl rfl 1 rfl ?_
    refine aw_aload_n (n := 6) d_Names_letterAt_5 rfl rfl 0 rfl ?_
    refine gf_Names_kept (n := 9) d_Names_letterAt_6 rfl kf_Names_15 ?_
    refine aw_icmp_ge (n := 12) (t := 22) d_Names_letterAt_9 rfl (by decide) (fun c2 => ?_) (fun c2 => ?_)
    · rw [if_pos c2] at hJ
      refine aw_iconst (n := 23) (v := -1) d_Names_letterAt_22 rfl (by decide) ?_
      exact aw_iret d_Names_letterAt_23 rfl (ax_ret hJ)
    · rw [if_neg c2] at hJ
      refine aw_iload_n (n := 13) d_Names_letterAt_12 rfl rfl 2 rfl ?_
      refine aw_if_lt (n := 16) (t := 22) d_Names_letterAt_13 rfl (by decide) (fun c3 => ?_) (fun c3 => ?_)
      · rw [if_pos c3] at hJ
        refine aw_iconst (n := 23) (v := -1) d_Names_letterAt_22 rfl (by decide) ?_
        exact aw_iret d_Names_letterAt_23 rfl (ax_ret hJ)
      · rw [if_neg c3] at hJ
        refine aw_iload_n (n := 17) d_Names_letterAt_16 rfl rfl 2 rfl ?_
        refine aw_bipush (n := 19) (v := 6) d_Names_letterAt_17 rfl (by decide) ?_
        refine aw_icmp_lt (n := 22) (t := 24) d_Names_letterAt_19 rfl (by decide) (fun c4 => ?_) (fun c4 => ?_)
        · rw [if_pos c4] at hJ
          refine aw_aload_n (n := 25) d_Names_letterAt_24 rfl rfl 0 rfl ?_
          refine gf_Names_keys (n := 28) d_Names_letterAt_25 rfl kf_Names_9 ?_
          refine aw_iload_n (n := 29) d_Names_letterAt_28 rfl rfl 1 rfl ?_
          obtain ⟨h1, hJ⟩ := ax_need hJ
          refine al_8 (n := 30) d_Names_letterAt_29 rfl h1 ?_
          refine aw_iconst (n := 31) (v := 5) d_Names_letterAt_30 rfl (by decide) ?_
          refine aw_iconst (n := 32) (v := 5) d_Names_letterAt_31 rfl (by decide) ?_
          refine aw_iload_n (n := 33) d_Names_letterAt_32 rfl rfl 2 rfl ?_
          refine aw_isub (n := 34) d_Names_letterAt_33 rfl ?_
          refine aw_imul (n := 35) d_Names_letterAt_34 rfl ?_
          refine aw_ishr (n := 36) d_Names_letterAt_35 rfl ?_
          refine aw_bipush (n := 38) (v := 31) d_Names_letterAt_36 rfl (by decide) ?_
          refine aw_iand (n := 39) d_Names_letterAt_38 rfl ?_
          obtain ⟨v1, ev1, hJ⟩ := ax_letE hJ
          refine aw_top ev1 ?_
          refine aw_istore_n (n := 40) d_Names_letterAt_39 rfl rfl (by decide) rfl ?_
          refine aw_iload_n (n := 41) d_Names_letterAt_40 rfl rfl 0 rfl ?_
          refine aw_if_ne (n := 44) (t := 48) d_Names_letterAt_41 rfl (by decide) (fun c5 => ?_) (fun c5 => ?_)
          · rw [if_neg c5] at hJ
            refine aw_iload_n (n := 49) d_Names_letterAt_48 rfl rfl 0 rfl ?_
            refine aw_bipush (n := 51) (v := 97) d_Names_letterAt_49 rfl (by decide) ?_
            refine aw_iadd (n := 52) d_Names_letterAt_51 rfl ?_
            refine aw_iconst (n := 53) (v := 1) d_Names_letterAt_52 rfl (by decide) ?_
            refine aw_isub (n := 54) d_Names_letterAt_53 rfl ?_
            exact aw_iret d_Names_letterAt_54 rfl (ax_ret hJ)
          · rw [if_pos c5] at hJ
            refine aw_iconst (n := 45) (v := -1) d_Names_letterAt_44 rfl (by decide) ?_
            refine aw_goto (t := 54) d_Names_letterAt_45 (by decide) ?_
            exact aw_iret d_Names_letterAt_54 rfl (ax_ret hJ)
        · rw [if_neg c4] at hJ
          refine aw_iconst (n := 23) (v := -1) d_Names_letterAt_22 rfl (by decide) ?_
          exact aw_iret d_Names_letterAt_23 rfl (ax_ret hJ)
end
