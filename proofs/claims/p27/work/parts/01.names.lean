-- ===== PART A: goes FIRST, ahead of the names: the tables' words, and 'selects' of the private methods out of them =====
/-- a private method of a class that the tables say can be made, by its rows of tables_1 -/
def lw_okq (q : MethodName × Nat) : Prop := (q.1.cls ≠ "java/lang/invoke/MethodHandle" ∧ q.1.cls ≠ "java/lang/invoke/VarHandle") ∧ Cond.instantiable q.1.cls q.2 ∈ tables_1 ∧ Cond.privateMethod q.1 ∈ tables_1 ∧ Cond.instanceMethod q.1 ∈ tables_1
theorem lw_p0 : lw_okq (⟨"WashAndDry", "refuse", "(I)I"⟩, 13) := ⟨⟨by decide +kernel, by decide +kernel⟩, List.mem_of_getElem? (i := 17) (by decide +kernel), List.mem_of_getElem? (i := 346) (by decide +kernel), List.mem_of_getElem? (i := 347) (by decide +kernel)⟩
theorem lw_p1 : lw_okq (⟨"WashAndDry$Letters", "behindStatement", "(I)I"⟩, 2) := ⟨⟨by decide +kernel, by decide +kernel⟩, List.mem_of_getElem? (i := 94) (by decide +kernel), List.mem_of_getElem? (i := 388) (by decide +kernel), List.mem_of_getElem? (i := 389) (by decide +kernel)⟩
theorem lw_p2 : lw_okq (⟨"WashAndDry$Letters", "letterAt", "(I)I"⟩, 2) := ⟨⟨by decide +kernel, by decide +kernel⟩, List.mem_of_getElem? (i := 94) (by decide +kernel), List.mem_of_getElem? (i := 392) (by decide +kernel), List.mem_of_getElem? (i := 393) (by decide +kernel)⟩
theorem lw_p3 : lw_okq (⟨"WashAndDry$Letters", "mostDigits", "(I)I"⟩, 2) := ⟨⟨by decide +kernel, by decide +kernel⟩, List.mem_of_getElem? (i := 94) (by decide +kernel), List.mem_of_getElem? (i := 397) (by decide +kernel), List.mem_of_getElem? (i := 398) (by decide +kernel)⟩
theorem lw_p4 : lw_okq (⟨"WashAndDry$Letters", "isDigit", "(I)Z"⟩, 2) := ⟨⟨by decide +kernel, by decide +kernel⟩, List.mem_of_getElem? (i := 94) (by decide +kernel), List.mem_of_getElem? (i := 401) (by decide +kernel), List.mem_of_getElem? (i := 402) (by decide +kernel)⟩
theorem lw_p5 : lw_okq (⟨"WashAndDry$Letters", "leastDigits", "(I)I"⟩, 2) := ⟨⟨by decide +kernel, by decide +kernel⟩, List.mem_of_getElem? (i := 94) (by decide +kernel), List.mem_of_getElem? (i := 405) (by decide +kernel), List.mem_of_getElem? (i := 406) (by decide +kernel)⟩
theorem lw_p6 : lw_okq (⟨"WashAndDry$Letters", "tellStatement", "(LWashAndDry$Kitchen;II)Z"⟩, 2) := ⟨⟨by decide +kernel, by decide +kernel⟩, List.mem_of_getElem? (i := 94) (by decide +kernel), List.mem_of_getElem? (i := 409) (by decide +kernel), List.mem_of_getElem? (i := 410) (by decide +kernel)⟩
theorem lw_p7 : lw_okq (⟨"WashAndDry$Letters", "number", "(II)I"⟩, 2) := ⟨⟨by decide +kernel, by decide +kernel⟩, List.mem_of_getElem? (i := 94) (by decide +kernel), List.mem_of_getElem? (i := 413) (by decide +kernel), List.mem_of_getElem? (i := 414) (by decide +kernel)⟩
theorem lw_p8 : lw_okq (⟨"WashAndDry$Letters", "tellSetting", "(LWashAndDry$Kitchen;II)Z"⟩, 2) := ⟨⟨by decide +kernel, by decide +kernel⟩, List.mem_of_getElem? (i := 94) (by decide +kernel), List.mem_of_getElem? (i := 417) (by decide +kernel), List.mem_of_getElem? (i := 418) (by decide +kernel)⟩
theorem lw_p9 : lw_okq (⟨"WashAndDry$Letters", "tellThing", "(LWashAndDry$Things;I)Z"⟩, 2) := ⟨⟨by decide +kernel, by decide +kernel⟩, List.mem_of_getElem? (i := 94) (by decide +kernel), List.mem_of_getElem? (i := 425) (by decide +kernel), List.mem_of_getElem? (i := 426) (by decide +kernel)⟩
theorem lw_p10 : lw_okq (⟨"WashAndDry$Letters", "tellOrder", "(LWashAndDry$Kitchen;II)Z"⟩, 2) := ⟨⟨by decide +kernel, by decide +kernel⟩, List.mem_of_getElem? (i := 94) (by decide +kernel), List.mem_of_getElem? (i := 438) (by decide +kernel), List.mem_of_getElem? (i := 439) (by decide +kernel)⟩
theorem lw_p11 : lw_okq (⟨"WashAndDry$Letters", "tellNew", "(LWashAndDry$Order;I)Z"⟩, 2) := ⟨⟨by decide +kernel, by decide +kernel⟩, List.mem_of_getElem? (i := 94) (by decide +kernel), List.mem_of_getElem? (i := 463) (by decide +kernel), List.mem_of_getElem? (i := 464) (by decide +kernel)⟩
theorem lw_p12 : lw_okq (⟨"WashAndDry", "isThing", "(I)Z"⟩, 13) := ⟨⟨by decide +kernel, by decide +kernel⟩, List.mem_of_getElem? (i := 17) (by decide +kernel), List.mem_of_getElem? (i := 483) (by decide +kernel), List.mem_of_getElem? (i := 484) (by decide +kernel)⟩
theorem lw_p13 : lw_okq (⟨"WashAndDry$Undos", "slotAt", "(I)LWashAndDry$Order;"⟩, 3) := ⟨⟨by decide +kernel, by decide +kernel⟩, List.mem_of_getElem? (i := 108) (by decide +kernel), List.mem_of_getElem? (i := 527) (by decide +kernel), List.mem_of_getElem? (i := 528) (by decide +kernel)⟩
theorem lw_p14 : lw_okq (⟨"WashAndDry", "isPlace", "(I)Z"⟩, 13) := ⟨⟨by decide +kernel, by decide +kernel⟩, List.mem_of_getElem? (i := 17) (by decide +kernel), List.mem_of_getElem? (i := 557) (by decide +kernel), List.mem_of_getElem? (i := 558) (by decide +kernel)⟩
theorem lw_p15 : lw_okq (⟨"WashAndDry", "isEither", "(I)Z"⟩, 13) := ⟨⟨by decide +kernel, by decide +kernel⟩, List.mem_of_getElem? (i := 17) (by decide +kernel), List.mem_of_getElem? (i := 561) (by decide +kernel), List.mem_of_getElem? (i := 562) (by decide +kernel)⟩
def lw_privs_1 : List (MethodName × Nat) := [(⟨"WashAndDry", "refuse", "(I)I"⟩, 13), (⟨"WashAndDry$Letters", "behindStatement", "(I)I"⟩, 2), (⟨"WashAndDry$Letters", "letterAt", "(I)I"⟩, 2), (⟨"WashAndDry$Letters", "mostDigits", "(I)I"⟩, 2), (⟨"WashAndDry$Letters", "isDigit", "(I)Z"⟩, 2), (⟨"WashAndDry$Letters", "leastDigits", "(I)I"⟩, 2), (⟨"WashAndDry$Letters", "tellStatement", "(LWashAndDry$Kitchen;II)Z"⟩, 2), (⟨"WashAndDry$Letters", "number", "(II)I"⟩, 2), (⟨"WashAndDry$Letters", "tellSetting", "(LWashAndDry$Kitchen;II)Z"⟩, 2), (⟨"WashAndDry$Letters", "tellThing", "(LWashAndDry$Things;I)Z"⟩, 2), (⟨"WashAndDry$Letters", "tellOrder", "(LWashAndDry$Kitchen;II)Z"⟩, 2), (⟨"WashAndDry$Letters", "tellNew", "(LWashAndDry$Order;I)Z"⟩, 2), (⟨"WashAndDry", "isThing", "(I)Z"⟩, 13), (⟨"WashAndDry$Undos", "slotAt", "(I)LWashAndDry$Order;"⟩, 3), (⟨"WashAndDry", "isPlace", "(I)Z"⟩, 13), (⟨"WashAndDry", "isEither", "(I)Z"⟩, 13)]
theorem lw_r1 : ∀ q ∈ lw_privs_1, lw_okq q := List.forall_mem_cons.mpr ⟨lw_p0, List.forall_mem_cons.mpr ⟨lw_p1, List.forall_mem_cons.mpr ⟨lw_p2, List.forall_mem_cons.mpr ⟨lw_p3, List.forall_mem_cons.mpr ⟨lw_p4, List.forall_mem_cons.mpr ⟨lw_p5, List.forall_mem_cons.mpr ⟨lw_p6, List.forall_mem_cons.mpr ⟨lw_p7, List.forall_mem_cons.mpr ⟨lw_p8, List.forall_mem_cons.mpr ⟨lw_p9, List.forall_mem_cons.mpr ⟨lw_p10, List.forall_mem_cons.mpr ⟨lw_p11, List.forall_mem_cons.mpr ⟨lw_p12, List.forall_mem_cons.mpr ⟨lw_p13, List.forall_mem_cons.mpr ⟨lw_p14, List.forall_mem_cons.mpr ⟨lw_p15, fun _ h => absurd h List.not_mem_nil⟩⟩⟩⟩⟩⟩⟩⟩⟩⟩⟩⟩⟩⟩⟩⟩
theorem lw_p16 : lw_okq (⟨"WashAndDry", "goThrough", "()V"⟩, 13) := ⟨⟨by decide +kernel, by decide +kernel⟩, List.mem_of_getElem? (i := 17) (by decide +kernel), List.mem_of_getElem? (i := 593) (by decide +kernel), List.mem_of_getElem? (i := 594) (by decide +kernel)⟩
theorem lw_p17 : lw_okq (⟨"WashAndDry$Evening", "begin", "(I)V"⟩, 14) := ⟨⟨by decide +kernel, by decide +kernel⟩, List.mem_of_getElem? (i := 128) (by decide +kernel), List.mem_of_getElem? (i := 601) (by decide +kernel), List.mem_of_getElem? (i := 602) (by decide +kernel)⟩
theorem lw_p18 : lw_okq (⟨"WashAndDry$Evening", "wash", "(II)V"⟩, 14) := ⟨⟨by decide +kernel, by decide +kernel⟩, List.mem_of_getElem? (i := 128) (by decide +kernel), List.mem_of_getElem? (i := 609) (by decide +kernel), List.mem_of_getElem? (i := 610) (by decide +kernel)⟩
theorem lw_p19 : lw_okq (⟨"WashAndDry$Evening", "note", "(III)V"⟩, 14) := ⟨⟨by decide +kernel, by decide +kernel⟩, List.mem_of_getElem? (i := 128) (by decide +kernel), List.mem_of_getElem? (i := 613) (by decide +kernel), List.mem_of_getElem? (i := 614) (by decide +kernel)⟩
theorem lw_p20 : lw_okq (⟨"WashAndDry$Evening", "setDown", "(III)V"⟩, 14) := ⟨⟨by decide +kernel, by decide +kernel⟩, List.mem_of_getElem? (i := 128) (by decide +kernel), List.mem_of_getElem? (i := 619) (by decide +kernel), List.mem_of_getElem? (i := 620) (by decide +kernel)⟩
theorem lw_p21 : lw_okq (⟨"WashAndDry$Evening", "roomFrom", "(III)I"⟩, 14) := ⟨⟨by decide +kernel, by decide +kernel⟩, List.mem_of_getElem? (i := 128) (by decide +kernel), List.mem_of_getElem? (i := 623) (by decide +kernel), List.mem_of_getElem? (i := 624) (by decide +kernel)⟩
theorem lw_p22 : lw_okq (⟨"WashAndDry$Evening", "dry", "(III)V"⟩, 14) := ⟨⟨by decide +kernel, by decide +kernel⟩, List.mem_of_getElem? (i := 128) (by decide +kernel), List.mem_of_getElem? (i := 636) (by decide +kernel), List.mem_of_getElem? (i := 637) (by decide +kernel)⟩
theorem lw_p23 : lw_okq (⟨"WashAndDry$Evening", "hangCloth", "(II)V"⟩, 14) := ⟨⟨by decide +kernel, by decide +kernel⟩, List.mem_of_getElem? (i := 128) (by decide +kernel), List.mem_of_getElem? (i := 640) (by decide +kernel), List.mem_of_getElem? (i := 641) (by decide +kernel)⟩
theorem lw_p24 : lw_okq (⟨"WashAndDry$Tries", "endWith", "(II)I"⟩, 5) := ⟨⟨by decide +kernel, by decide +kernel⟩, List.mem_of_getElem? (i := 183) (by decide +kernel), List.mem_of_getElem? (i := 682) (by decide +kernel), List.mem_of_getElem? (i := 683) (by decide +kernel)⟩
theorem lw_p25 : lw_okq (⟨"WashAndDry", "canTurn", "()Z"⟩, 13) := ⟨⟨by decide +kernel, by decide +kernel⟩, List.mem_of_getElem? (i := 17) (by decide +kernel), List.mem_of_getElem? (i := 793) (by decide +kernel), List.mem_of_getElem? (i := 794) (by decide +kernel)⟩
theorem lw_p26 : lw_okq (⟨"WashAndDry$Turns", "ruleKey", "(II)I"⟩, 10) := ⟨⟨by decide +kernel, by decide +kernel⟩, List.mem_of_getElem? (i := 224) (by decide +kernel), List.mem_of_getElem? (i := 844) (by decide +kernel), List.mem_of_getElem? (i := 845) (by decide +kernel)⟩
theorem lw_p27 : lw_okq (⟨"WashAndDry$Order", "keyAt", "([II)I"⟩, 3) := ⟨⟨by decide +kernel, by decide +kernel⟩, List.mem_of_getElem? (i := 49) (by decide +kernel), List.mem_of_getElem? (i := 861) (by decide +kernel), List.mem_of_getElem? (i := 862) (by decide +kernel)⟩
theorem lw_p28 : lw_okq (⟨"WashAndDry$Turns", "drawOrder", "()V"⟩, 10) := ⟨⟨by decide +kernel, by decide +kernel⟩, List.mem_of_getElem? (i := 224) (by decide +kernel), List.mem_of_getElem? (i := 888) (by decide +kernel), List.mem_of_getElem? (i := 889) (by decide +kernel)⟩
theorem lw_p29 : lw_okq (⟨"WashAndDry$Turns", "draw", "(I)I"⟩, 10) := ⟨⟨by decide +kernel, by decide +kernel⟩, List.mem_of_getElem? (i := 224) (by decide +kernel), List.mem_of_getElem? (i := 894) (by decide +kernel), List.mem_of_getElem? (i := 895) (by decide +kernel)⟩
theorem lw_p30 : lw_okq (⟨"WashAndDry$Turns", "bitOf", "(II)I"⟩, 10) := ⟨⟨by decide +kernel, by decide +kernel⟩, List.mem_of_getElem? (i := 224) (by decide +kernel), List.mem_of_getElem? (i := 901) (by decide +kernel), List.mem_of_getElem? (i := 902) (by decide +kernel)⟩
theorem lw_p31 : lw_okq (⟨"WashAndDry$Hands", "twentieths", "(II)I"⟩, 6) := ⟨⟨by decide +kernel, by decide +kernel⟩, List.mem_of_getElem? (i := 271) (by decide +kernel), List.mem_of_getElem? (i := 924) (by decide +kernel), List.mem_of_getElem? (i := 925) (by decide +kernel)⟩
def lw_privs_2 : List (MethodName × Nat) := [(⟨"WashAndDry", "goThrough", "()V"⟩, 13), (⟨"WashAndDry$Evening", "begin", "(I)V"⟩, 14), (⟨"WashAndDry$Evening", "wash", "(II)V"⟩, 14), (⟨"WashAndDry$Evening", "note", "(III)V"⟩, 14), (⟨"WashAndDry$Evening", "setDown", "(III)V"⟩, 14), (⟨"WashAndDry$Evening", "roomFrom", "(III)I"⟩, 14), (⟨"WashAndDry$Evening", "dry", "(III)V"⟩, 14), (⟨"WashAndDry$Evening", "hangCloth", "(II)V"⟩, 14), (⟨"WashAndDry$Tries", "endWith", "(II)I"⟩, 5), (⟨"WashAndDry", "canTurn", "()Z"⟩, 13), (⟨"WashAndDry$Turns", "ruleKey", "(II)I"⟩, 10), (⟨"WashAndDry$Order", "keyAt", "([II)I"⟩, 3), (⟨"WashAndDry$Turns", "drawOrder", "()V"⟩, 10), (⟨"WashAndDry$Turns", "draw", "(I)I"⟩, 10), (⟨"WashAndDry$Turns", "bitOf", "(II)I"⟩, 10), (⟨"WashAndDry$Hands", "twentieths", "(II)I"⟩, 6)]
theorem lw_r2 : ∀ q ∈ lw_privs_2, lw_okq q := List.forall_mem_cons.mpr ⟨lw_p16, List.forall_mem_cons.mpr ⟨lw_p17, List.forall_mem_cons.mpr ⟨lw_p18, List.forall_mem_cons.mpr ⟨lw_p19, List.forall_mem_cons.mpr ⟨lw_p20, List.forall_mem_cons.mpr ⟨lw_p21, List.forall_mem_cons.mpr ⟨lw_p22, List.forall_mem_cons.mpr ⟨lw_p23, List.forall_mem_cons.mpr ⟨lw_p24, List.forall_mem_cons.mpr ⟨lw_p25, List.forall_mem_cons.mpr ⟨lw_p26, List.forall_mem_cons.mpr ⟨lw_p27, List.forall_mem_cons.mpr ⟨lw_p28, List.forall_mem_cons.mpr ⟨lw_p29, List.forall_mem_cons.mpr ⟨lw_p30, List.forall_mem_cons.mpr ⟨lw_p31, fun _ h => absurd h List.not_mem_nil⟩⟩⟩⟩⟩⟩⟩⟩⟩⟩⟩⟩⟩⟩⟩⟩
theorem lw_p32 : lw_okq (⟨"WashAndDry$Hands", "timeOf", "(I)I"⟩, 6) := ⟨⟨by decide +kernel, by decide +kernel⟩, List.mem_of_getElem? (i := 271) (by decide +kernel), List.mem_of_getElem? (i := 954) (by decide +kernel), List.mem_of_getElem? (i := 955) (by decide +kernel)⟩
theorem lw_p33 : lw_okq (⟨"WashAndDryModel", "no", "(I)I"⟩, 48) := ⟨⟨by decide +kernel, by decide +kernel⟩, List.mem_of_getElem? (i := 1027) (by decide +kernel), List.mem_of_getElem? (i := 1185) (by decide +kernel), List.mem_of_getElem? (i := 1186) (by decide +kernel)⟩
theorem lw_p34 : lw_okq (⟨"WashAndDryModel", "statement", "()Z"⟩, 48) := ⟨⟨by decide +kernel, by decide +kernel⟩, List.mem_of_getElem? (i := 1027) (by decide +kernel), List.mem_of_getElem? (i := 1193) (by decide +kernel), List.mem_of_getElem? (i := 1194) (by decide +kernel)⟩
theorem lw_p35 : lw_okq (⟨"WashAndDryModel", "next", "()I"⟩, 48) := ⟨⟨by decide +kernel, by decide +kernel⟩, List.mem_of_getElem? (i := 1027) (by decide +kernel), List.mem_of_getElem? (i := 1197) (by decide +kernel), List.mem_of_getElem? (i := 1198) (by decide +kernel)⟩
theorem lw_p36 : lw_okq (⟨"WashAndDryModel", "readsSetting", "(I)Z"⟩, 48) := ⟨⟨by decide +kernel, by decide +kernel⟩, List.mem_of_getElem? (i := 1027) (by decide +kernel), List.mem_of_getElem? (i := 1201) (by decide +kernel), List.mem_of_getElem? (i := 1202) (by decide +kernel)⟩
theorem lw_p37 : lw_okq (⟨"WashAndDryModel", "readsNumber", "(III)Z"⟩, 48) := ⟨⟨by decide +kernel, by decide +kernel⟩, List.mem_of_getElem? (i := 1027) (by decide +kernel), List.mem_of_getElem? (i := 1205) (by decide +kernel), List.mem_of_getElem? (i := 1206) (by decide +kernel)⟩
theorem lw_p38 : lw_okq (⟨"WashAndDryModel", "isDigit", "()Z"⟩, 48) := ⟨⟨by decide +kernel, by decide +kernel⟩, List.mem_of_getElem? (i := 1027) (by decide +kernel), List.mem_of_getElem? (i := 1209) (by decide +kernel), List.mem_of_getElem? (i := 1210) (by decide +kernel)⟩
theorem lw_p39 : lw_okq (⟨"WashAndDryModel", "readsThing", "(I)Z"⟩, 48) := ⟨⟨by decide +kernel, by decide +kernel⟩, List.mem_of_getElem? (i := 1027) (by decide +kernel), List.mem_of_getElem? (i := 1216) (by decide +kernel), List.mem_of_getElem? (i := 1217) (by decide +kernel)⟩
theorem lw_p40 : lw_okq (⟨"WashAndDryModel", "readsOrder", "()Z"⟩, 48) := ⟨⟨by decide +kernel, by decide +kernel⟩, List.mem_of_getElem? (i := 1027) (by decide +kernel), List.mem_of_getElem? (i := 1220) (by decide +kernel), List.mem_of_getElem? (i := 1221) (by decide +kernel)⟩
theorem lw_p41 : lw_okq (⟨"WashAndDryModel", "passesAll", "(IZ)V"⟩, 48) := ⟨⟨by decide +kernel, by decide +kernel⟩, List.mem_of_getElem? (i := 1027) (by decide +kernel), List.mem_of_getElem? (i := 1224) (by decide +kernel), List.mem_of_getElem? (i := 1225) (by decide +kernel)⟩
theorem lw_p42 : lw_okq (⟨"WashAndDryModel", "passes", "([I)V"⟩, 48) := ⟨⟨by decide +kernel, by decide +kernel⟩, List.mem_of_getElem? (i := 1027) (by decide +kernel), List.mem_of_getElem? (i := 1228) (by decide +kernel), List.mem_of_getElem? (i := 1229) (by decide +kernel)⟩
theorem lw_p43 : lw_okq (⟨"WashAndDryModel", "passOne", "(I)I"⟩, 48) := ⟨⟨by decide +kernel, by decide +kernel⟩, List.mem_of_getElem? (i := 1027) (by decide +kernel), List.mem_of_getElem? (i := 1232) (by decide +kernel), List.mem_of_getElem? (i := 1233) (by decide +kernel)⟩
theorem lw_p44 : lw_okq (⟨"WashAndDryModel", "comes", "(I)Z"⟩, 48) := ⟨⟨by decide +kernel, by decide +kernel⟩, List.mem_of_getElem? (i := 1027) (by decide +kernel), List.mem_of_getElem? (i := 1236) (by decide +kernel), List.mem_of_getElem? (i := 1237) (by decide +kernel)⟩
theorem lw_p45 : lw_okq (⟨"WashAndDryModel", "comesThing", "(I)Z"⟩, 48) := ⟨⟨by decide +kernel, by decide +kernel⟩, List.mem_of_getElem? (i := 1027) (by decide +kernel), List.mem_of_getElem? (i := 1246) (by decide +kernel), List.mem_of_getElem? (i := 1247) (by decide +kernel)⟩
theorem lw_p46 : lw_okq (⟨"WashAndDryModel", "comesOrder", "(I)Z"⟩, 48) := ⟨⟨by decide +kernel, by decide +kernel⟩, List.mem_of_getElem? (i := 1027) (by decide +kernel), List.mem_of_getElem? (i := 1250) (by decide +kernel), List.mem_of_getElem? (i := 1251) (by decide +kernel)⟩
theorem lw_p47 : lw_okq (⟨"WashAndDryModel", "isThing", "(I)Z"⟩, 48) := ⟨⟨by decide +kernel, by decide +kernel⟩, List.mem_of_getElem? (i := 1027) (by decide +kernel), List.mem_of_getElem? (i := 1254) (by decide +kernel), List.mem_of_getElem? (i := 1255) (by decide +kernel)⟩
def lw_privs_3 : List (MethodName × Nat) := [(⟨"WashAndDry$Hands", "timeOf", "(I)I"⟩, 6), (⟨"WashAndDryModel", "no", "(I)I"⟩, 48), (⟨"WashAndDryModel", "statement", "()Z"⟩, 48), (⟨"WashAndDryModel", "next", "()I"⟩, 48), (⟨"WashAndDryModel", "readsSetting", "(I)Z"⟩, 48), (⟨"WashAndDryModel", "readsNumber", "(III)Z"⟩, 48), (⟨"WashAndDryModel", "isDigit", "()Z"⟩, 48), (⟨"WashAndDryModel", "readsThing", "(I)Z"⟩, 48), (⟨"WashAndDryModel", "readsOrder", "()Z"⟩, 48), (⟨"WashAndDryModel", "passesAll", "(IZ)V"⟩, 48), (⟨"WashAndDryModel", "passes", "([I)V"⟩, 48), (⟨"WashAndDryModel", "passOne", "(I)I"⟩, 48), (⟨"WashAndDryModel", "comes", "(I)Z"⟩, 48), (⟨"WashAndDryModel", "comesThing", "(I)Z"⟩, 48), (⟨"WashAndDryModel", "comesOrder", "(I)Z"⟩, 48), (⟨"WashAndDryModel", "isThing", "(I)Z"⟩, 48)]
theorem lw_r3 : ∀ q ∈ lw_privs_3, lw_okq q := List.forall_mem_cons.mpr ⟨lw_p32, List.forall_mem_cons.mpr ⟨lw_p33, List.forall_mem_cons.mpr ⟨lw_p34, List.forall_mem_cons.mpr ⟨lw_p35, List.forall_mem_cons.mpr ⟨lw_p36, List.forall_mem_cons.mpr ⟨lw_p37, List.forall_mem_cons.mpr ⟨lw_p38, List.forall_mem_cons.mpr ⟨lw_p39, List.forall_mem_cons.mpr ⟨lw_p40, List.forall_mem_cons.mpr ⟨lw_p41, List.forall_mem_cons.mpr ⟨lw_p42, List.forall_mem_cons.mpr ⟨lw_p43, List.forall_mem_cons.mpr ⟨lw_p44, List.forall_mem_cons.mpr ⟨lw_p45, List.forall_mem_cons.mpr ⟨lw_p46, List.forall_mem_cons.mpr ⟨lw_p47, fun _ h => absurd h List.not_mem_nil⟩⟩⟩⟩⟩⟩⟩⟩⟩⟩⟩⟩⟩⟩⟩⟩
theorem lw_p48 : lw_okq (⟨"WashAndDryModel", "placeOf", "(I)I"⟩, 48) := ⟨⟨by decide +kernel, by decide +kernel⟩, List.mem_of_getElem? (i := 1027) (by decide +kernel), List.mem_of_getElem? (i := 1258) (by decide +kernel), List.mem_of_getElem? (i := 1259) (by decide +kernel)⟩
theorem lw_p49 : lw_okq (⟨"WashAndDryModel", "isPlace", "(I)Z"⟩, 48) := ⟨⟨by decide +kernel, by decide +kernel⟩, List.mem_of_getElem? (i := 1027) (by decide +kernel), List.mem_of_getElem? (i := 1262) (by decide +kernel), List.mem_of_getElem? (i := 1263) (by decide +kernel)⟩
theorem lw_p50 : lw_okq (⟨"WashAndDryModel", "drying", "(I)I"⟩, 48) := ⟨⟨by decide +kernel, by decide +kernel⟩, List.mem_of_getElem? (i := 1027) (by decide +kernel), List.mem_of_getElem? (i := 1278) (by decide +kernel), List.mem_of_getElem? (i := 1279) (by decide +kernel)⟩
theorem lw_p51 : lw_okq (⟨"WashAndDryModel", "drips", "(I)Z"⟩, 48) := ⟨⟨by decide +kernel, by decide +kernel⟩, List.mem_of_getElem? (i := 1027) (by decide +kernel), List.mem_of_getElem? (i := 1282) (by decide +kernel), List.mem_of_getElem? (i := 1283) (by decide +kernel)⟩
theorem lw_p52 : lw_okq (⟨"WashAndDryModel", "washes", "(III)I"⟩, 48) := ⟨⟨by decide +kernel, by decide +kernel⟩, List.mem_of_getElem? (i := 1027) (by decide +kernel), List.mem_of_getElem? (i := 1293) (by decide +kernel), List.mem_of_getElem? (i := 1294) (by decide +kernel)⟩
theorem lw_p53 : lw_okq (⟨"WashAndDryModel", "keepsUndo", "()V"⟩, 48) := ⟨⟨by decide +kernel, by decide +kernel⟩, List.mem_of_getElem? (i := 1027) (by decide +kernel), List.mem_of_getElem? (i := 1309) (by decide +kernel), List.mem_of_getElem? (i := 1310) (by decide +kernel)⟩
theorem lw_p54 : lw_okq (⟨"WashAndDryModel", "mayBe", "()Z"⟩, 48) := ⟨⟨by decide +kernel, by decide +kernel⟩, List.mem_of_getElem? (i := 1027) (by decide +kernel), List.mem_of_getElem? (i := 1333) (by decide +kernel), List.mem_of_getElem? (i := 1334) (by decide +kernel)⟩
theorem lw_p55 : lw_okq (⟨"WashAndDryModel", "goesThrough", "()V"⟩, 48) := ⟨⟨by decide +kernel, by decide +kernel⟩, List.mem_of_getElem? (i := 1027) (by decide +kernel), List.mem_of_getElem? (i := 1344) (by decide +kernel), List.mem_of_getElem? (i := 1345) (by decide +kernel)⟩
theorem lw_p56 : lw_okq (⟨"WashAndDryModel", "setsDown", "(I)V"⟩, 48) := ⟨⟨by decide +kernel, by decide +kernel⟩, List.mem_of_getElem? (i := 1027) (by decide +kernel), List.mem_of_getElem? (i := 1348) (by decide +kernel), List.mem_of_getElem? (i := 1349) (by decide +kernel)⟩
theorem lw_p57 : lw_okq (⟨"WashAndDryModel", "downAt", "(I)I"⟩, 48) := ⟨⟨by decide +kernel, by decide +kernel⟩, List.mem_of_getElem? (i := 1027) (by decide +kernel), List.mem_of_getElem? (i := 1352) (by decide +kernel), List.mem_of_getElem? (i := 1353) (by decide +kernel)⟩
theorem lw_p58 : lw_okq (⟨"WashAndDryModel", "lying", "(II)I"⟩, 48) := ⟨⟨by decide +kernel, by decide +kernel⟩, List.mem_of_getElem? (i := 1027) (by decide +kernel), List.mem_of_getElem? (i := 1356) (by decide +kernel), List.mem_of_getElem? (i := 1357) (by decide +kernel)⟩
theorem lw_p59 : lw_okq (⟨"WashAndDryModel", "dries", "(II)V"⟩, 48) := ⟨⟨by decide +kernel, by decide +kernel⟩, List.mem_of_getElem? (i := 1027) (by decide +kernel), List.mem_of_getElem? (i := 1360) (by decide +kernel), List.mem_of_getElem? (i := 1361) (by decide +kernel)⟩
theorem lw_p60 : lw_okq (⟨"WashAndDryModel", "takesNextCloth", "()V"⟩, 48) := ⟨⟨by decide +kernel, by decide +kernel⟩, List.mem_of_getElem? (i := 1027) (by decide +kernel), List.mem_of_getElem? (i := 1364) (by decide +kernel), List.mem_of_getElem? (i := 1365) (by decide +kernel)⟩
theorem lw_p61 : lw_okq (⟨"WashAndDryModel", "throughNow", "()I"⟩, 48) := ⟨⟨by decide +kernel, by decide +kernel⟩, List.mem_of_getElem? (i := 1027) (by decide +kernel), List.mem_of_getElem? (i := 1372) (by decide +kernel), List.mem_of_getElem? (i := 1373) (by decide +kernel)⟩
theorem lw_p62 : lw_okq (⟨"WashAndDryModel", "wetAt", "(I)I"⟩, 48) := ⟨⟨by decide +kernel, by decide +kernel⟩, List.mem_of_getElem? (i := 1027) (by decide +kernel), List.mem_of_getElem? (i := 1384) (by decide +kernel), List.mem_of_getElem? (i := 1385) (by decide +kernel)⟩
theorem lw_p63 : lw_okq (⟨"WashAndDryModel", "clean", "(I)I"⟩, 48) := ⟨⟨by decide +kernel, by decide +kernel⟩, List.mem_of_getElem? (i := 1027) (by decide +kernel), List.mem_of_getElem? (i := 1392) (by decide +kernel), List.mem_of_getElem? (i := 1393) (by decide +kernel)⟩
def lw_privs_4 : List (MethodName × Nat) := [(⟨"WashAndDryModel", "placeOf", "(I)I"⟩, 48), (⟨"WashAndDryModel", "isPlace", "(I)Z"⟩, 48), (⟨"WashAndDryModel", "drying", "(I)I"⟩, 48), (⟨"WashAndDryModel", "drips", "(I)Z"⟩, 48), (⟨"WashAndDryModel", "washes", "(III)I"⟩, 48), (⟨"WashAndDryModel", "keepsUndo", "()V"⟩, 48), (⟨"WashAndDryModel", "mayBe", "()Z"⟩, 48), (⟨"WashAndDryModel", "goesThrough", "()V"⟩, 48), (⟨"WashAndDryModel", "setsDown", "(I)V"⟩, 48), (⟨"WashAndDryModel", "downAt", "(I)I"⟩, 48), (⟨"WashAndDryModel", "lying", "(II)I"⟩, 48), (⟨"WashAndDryModel", "dries", "(II)V"⟩, 48), (⟨"WashAndDryModel", "takesNextCloth", "()V"⟩, 48), (⟨"WashAndDryModel", "throughNow", "()I"⟩, 48), (⟨"WashAndDryModel", "wetAt", "(I)I"⟩, 48), (⟨"WashAndDryModel", "clean", "(I)I"⟩, 48)]
theorem lw_r4 : ∀ q ∈ lw_privs_4, lw_okq q := List.forall_mem_cons.mpr ⟨lw_p48, List.forall_mem_cons.mpr ⟨lw_p49, List.forall_mem_cons.mpr ⟨lw_p50, List.forall_mem_cons.mpr ⟨lw_p51, List.forall_mem_cons.mpr ⟨lw_p52, List.forall_mem_cons.mpr ⟨lw_p53, List.forall_mem_cons.mpr ⟨lw_p54, List.forall_mem_cons.mpr ⟨lw_p55, List.forall_mem_cons.mpr ⟨lw_p56, List.forall_mem_cons.mpr ⟨lw_p57, List.forall_mem_cons.mpr ⟨lw_p58, List.forall_mem_cons.mpr ⟨lw_p59, List.forall_mem_cons.mpr ⟨lw_p60, List.forall_mem_cons.mpr ⟨lw_p61, List.forall_mem_cons.mpr ⟨lw_p62, List.forall_mem_cons.mpr ⟨lw_p63, fun _ h => absurd h List.not_mem_nil⟩⟩⟩⟩⟩⟩⟩⟩⟩⟩⟩⟩⟩⟩⟩⟩
theorem lw_p64 : lw_okq (⟨"WashAndDryModel", "sorts", "()V"⟩, 48) := ⟨⟨by decide +kernel, by decide +kernel⟩, List.mem_of_getElem? (i := 1027) (by decide +kernel), List.mem_of_getElem? (i := 1396) (by decide +kernel), List.mem_of_getElem? (i := 1397) (by decide +kernel)⟩
theorem lw_p65 : lw_okq (⟨"WashAndDryModel", "digits", "()I"⟩, 48) := ⟨⟨by decide +kernel, by decide +kernel⟩, List.mem_of_getElem? (i := 1027) (by decide +kernel), List.mem_of_getElem? (i := 1400) (by decide +kernel), List.mem_of_getElem? (i := 1401) (by decide +kernel)⟩
theorem lw_p66 : lw_okq (⟨"WashAndDryModel", "handsThrough", "()I"⟩, 48) := ⟨⟨by decide +kernel, by decide +kernel⟩, List.mem_of_getElem? (i := 1027) (by decide +kernel), List.mem_of_getElem? (i := 1404) (by decide +kernel), List.mem_of_getElem? (i := 1405) (by decide +kernel)⟩
theorem lw_p67 : lw_okq (⟨"WashAndDryModel", "laysRule", "(I)V"⟩, 48) := ⟨⟨by decide +kernel, by decide +kernel⟩, List.mem_of_getElem? (i := 1027) (by decide +kernel), List.mem_of_getElem? (i := 1412) (by decide +kernel), List.mem_of_getElem? (i := 1413) (by decide +kernel)⟩
theorem lw_p68 : lw_okq (⟨"WashAndDryModel", "keyBy", "(II)I"⟩, 48) := ⟨⟨by decide +kernel, by decide +kernel⟩, List.mem_of_getElem? (i := 1027) (by decide +kernel), List.mem_of_getElem? (i := 1416) (by decide +kernel), List.mem_of_getElem? (i := 1417) (by decide +kernel)⟩
theorem lw_p69 : lw_okq (⟨"WashAndDryModel", "throughIfMay", "()I"⟩, 48) := ⟨⟨by decide +kernel, by decide +kernel⟩, List.mem_of_getElem? (i := 1027) (by decide +kernel), List.mem_of_getElem? (i := 1420) (by decide +kernel), List.mem_of_getElem? (i := 1421) (by decide +kernel)⟩
theorem lw_p70 : lw_okq (⟨"WashAndDryModel", "notFew", "()I"⟩, 48) := ⟨⟨by decide +kernel, by decide +kernel⟩, List.mem_of_getElem? (i := 1027) (by decide +kernel), List.mem_of_getElem? (i := 1433) (by decide +kernel), List.mem_of_getElem? (i := 1434) (by decide +kernel)⟩
theorem lw_p71 : lw_okq (⟨"WashAndDryModel", "numbers", "()I"⟩, 48) := ⟨⟨by decide +kernel, by decide +kernel⟩, List.mem_of_getElem? (i := 1027) (by decide +kernel), List.mem_of_getElem? (i := 1437) (by decide +kernel), List.mem_of_getElem? (i := 1438) (by decide +kernel)⟩
theorem lw_p72 : lw_okq (⟨"WashAndDryModel", "laysOrder", "(I)Z"⟩, 48) := ⟨⟨by decide +kernel, by decide +kernel⟩, List.mem_of_getElem? (i := 1027) (by decide +kernel), List.mem_of_getElem? (i := 1441) (by decide +kernel), List.mem_of_getElem? (i := 1442) (by decide +kernel)⟩
theorem lw_p73 : lw_okq (⟨"WashAndDryModel", "changes", "(II)V"⟩, 48) := ⟨⟨by decide +kernel, by decide +kernel⟩, List.mem_of_getElem? (i := 1027) (by decide +kernel), List.mem_of_getElem? (i := 1468) (by decide +kernel), List.mem_of_getElem? (i := 1469) (by decide +kernel)⟩
theorem lw_p74 : lw_okq (⟨"WashAndDryModel", "bothOf", "(I)I"⟩, 48) := ⟨⟨by decide +kernel, by decide +kernel⟩, List.mem_of_getElem? (i := 1027) (by decide +kernel), List.mem_of_getElem? (i := 1480) (by decide +kernel), List.mem_of_getElem? (i := 1481) (by decide +kernel)⟩
theorem lw_p75 : lw_okq (⟨"WashAndDryModel", "longerBy", "(I)I"⟩, 48) := ⟨⟨by decide +kernel, by decide +kernel⟩, List.mem_of_getElem? (i := 1027) (by decide +kernel), List.mem_of_getElem? (i := 1488) (by decide +kernel), List.mem_of_getElem? (i := 1489) (by decide +kernel)⟩
theorem lw_p76 : lw_okq (⟨"WashAndDryModel", "leavesOut", "(I)V"⟩, 48) := ⟨⟨by decide +kernel, by decide +kernel⟩, List.mem_of_getElem? (i := 1027) (by decide +kernel), List.mem_of_getElem? (i := 1500) (by decide +kernel), List.mem_of_getElem? (i := 1501) (by decide +kernel)⟩
theorem lw_p77 : lw_okq (⟨"WashAndDryModel", "lower", "(I)I"⟩, 48) := ⟨⟨by decide +kernel, by decide +kernel⟩, List.mem_of_getElem? (i := 1027) (by decide +kernel), List.mem_of_getElem? (i := 1512) (by decide +kernel), List.mem_of_getElem? (i := 1513) (by decide +kernel)⟩
theorem lw_p78 : lw_okq (⟨"WashAndDryModel", "findPicked", "()V"⟩, 48) := ⟨⟨by decide +kernel, by decide +kernel⟩, List.mem_of_getElem? (i := 1027) (by decide +kernel), List.mem_of_getElem? (i := 1517) (by decide +kernel), List.mem_of_getElem? (i := 1518) (by decide +kernel)⟩
theorem lw_p79 : lw_okq (⟨"WashAndDryModel", "awayAt", "()I"⟩, 48) := ⟨⟨by decide +kernel, by decide +kernel⟩, List.mem_of_getElem? (i := 1027) (by decide +kernel), List.mem_of_getElem? (i := 1525) (by decide +kernel), List.mem_of_getElem? (i := 1526) (by decide +kernel)⟩
def lw_privs_5 : List (MethodName × Nat) := [(⟨"WashAndDryModel", "sorts", "()V"⟩, 48), (⟨"WashAndDryModel", "digits", "()I"⟩, 48), (⟨"WashAndDryModel", "handsThrough", "()I"⟩, 48), (⟨"WashAndDryModel", "laysRule", "(I)V"⟩, 48), (⟨"WashAndDryModel", "keyBy", "(II)I"⟩, 48), (⟨"WashAndDryModel", "throughIfMay", "()I"⟩, 48), (⟨"WashAndDryModel", "notFew", "()I"⟩, 48), (⟨"WashAndDryModel", "numbers", "()I"⟩, 48), (⟨"WashAndDryModel", "laysOrder", "(I)Z"⟩, 48), (⟨"WashAndDryModel", "changes", "(II)V"⟩, 48), (⟨"WashAndDryModel", "bothOf", "(I)I"⟩, 48), (⟨"WashAndDryModel", "longerBy", "(I)I"⟩, 48), (⟨"WashAndDryModel", "leavesOut", "(I)V"⟩, 48), (⟨"WashAndDryModel", "lower", "(I)I"⟩, 48), (⟨"WashAndDryModel", "findPicked", "()V"⟩, 48), (⟨"WashAndDryModel", "awayAt", "()I"⟩, 48)]
theorem lw_r5 : ∀ q ∈ lw_privs_5, lw_okq q := List.forall_mem_cons.mpr ⟨lw_p64, List.forall_mem_cons.mpr ⟨lw_p65, List.forall_mem_cons.mpr ⟨lw_p66, List.forall_mem_cons.mpr ⟨lw_p67, List.forall_mem_cons.mpr ⟨lw_p68, List.forall_mem_cons.mpr ⟨lw_p69, List.forall_mem_cons.mpr ⟨lw_p70, List.forall_mem_cons.mpr ⟨lw_p71, List.forall_mem_cons.mpr ⟨lw_p72, List.forall_mem_cons.mpr ⟨lw_p73, List.forall_mem_cons.mpr ⟨lw_p74, List.forall_mem_cons.mpr ⟨lw_p75, List.forall_mem_cons.mpr ⟨lw_p76, List.forall_mem_cons.mpr ⟨lw_p77, List.forall_mem_cons.mpr ⟨lw_p78, List.forall_mem_cons.mpr ⟨lw_p79, fun _ h => absurd h List.not_mem_nil⟩⟩⟩⟩⟩⟩⟩⟩⟩⟩⟩⟩⟩⟩⟩⟩
theorem lw_p80 : lw_okq (⟨"WashAndDryModel", "laterBy", "(I)I"⟩, 48) := ⟨⟨by decide +kernel, by decide +kernel⟩, List.mem_of_getElem? (i := 1027) (by decide +kernel), List.mem_of_getElem? (i := 1533) (by decide +kernel), List.mem_of_getElem? (i := 1534) (by decide +kernel)⟩
theorem lw_p81 : lw_okq (⟨"WashAndDryModel", "changedOver", "(III)I"⟩, 48) := ⟨⟨by decide +kernel, by decide +kernel⟩, List.mem_of_getElem? (i := 1027) (by decide +kernel), List.mem_of_getElem? (i := 1545) (by decide +kernel), List.mem_of_getElem? (i := 1546) (by decide +kernel)⟩
theorem lw_p82 : lw_okq (⟨"WashAndDryModel", "weekFar", "(I)I"⟩, 48) := ⟨⟨by decide +kernel, by decide +kernel⟩, List.mem_of_getElem? (i := 1027) (by decide +kernel), List.mem_of_getElem? (i := 1556) (by decide +kernel), List.mem_of_getElem? (i := 1557) (by decide +kernel)⟩
theorem lw_p83 : lw_okq (⟨"WashAndDryModel", "leftOne", "(I)I"⟩, 48) := ⟨⟨by decide +kernel, by decide +kernel⟩, List.mem_of_getElem? (i := 1027) (by decide +kernel), List.mem_of_getElem? (i := 1579) (by decide +kernel), List.mem_of_getElem? (i := 1580) (by decide +kernel)⟩
def lw_privs_6 : List (MethodName × Nat) := [(⟨"WashAndDryModel", "laterBy", "(I)I"⟩, 48), (⟨"WashAndDryModel", "changedOver", "(III)I"⟩, 48), (⟨"WashAndDryModel", "weekFar", "(I)I"⟩, 48), (⟨"WashAndDryModel", "leftOne", "(I)I"⟩, 48)]
theorem lw_r6 : ∀ q ∈ lw_privs_6, lw_okq q := List.forall_mem_cons.mpr ⟨lw_p80, List.forall_mem_cons.mpr ⟨lw_p81, List.forall_mem_cons.mpr ⟨lw_p82, List.forall_mem_cons.mpr ⟨lw_p83, fun _ h => absurd h List.not_mem_nil⟩⟩⟩⟩
def lw_privs : List (MethodName × Nat) := lw_privs_1 ++ (lw_privs_2 ++ (lw_privs_3 ++ (lw_privs_4 ++ (lw_privs_5 ++ (lw_privs_6)))))
def lw_tbl : List Cond := k2_sels lw_privs ++ tables_1
theorem lw_privs_ok : ∀ q ∈ lw_privs, lw_okq q := by
  show ∀ q ∈ lw_privs_1 ++ (lw_privs_2 ++ (lw_privs_3 ++ (lw_privs_4 ++ (lw_privs_5 ++ (lw_privs_6))))), lw_okq q
  exact List.forall_mem_append.mpr ⟨lw_r1, List.forall_mem_append.mpr ⟨lw_r2, List.forall_mem_append.mpr ⟨lw_r3, List.forall_mem_append.mpr ⟨lw_r4, List.forall_mem_append.mpr ⟨lw_r5, lw_r6⟩⟩⟩⟩⟩
def aR0 : String := "WashAndDry$Best"
def aT0 : u_T := fun k => match k with
  | 0 => ("WashAndDry$Best", "what", "I", false)
  | _ => ("WashAndDry$Best", "value", "I", false)
def aY0 : Nat → FieldType := fun k => match k with
  | 0 => .int
  | _ => .int
def aR1 : String := "WashAndDry$Evening"
def aT1 : u_T := fun k => match k with
  | 0 => ("WashAndDry$Evening", "things", "LWashAndDry$Things;", true)
  | 1 => ("WashAndDry$Evening", "minutes", "[I", true)
  | 2 => ("WashAndDry$Evening", "gone", "[I", true)
  | 3 => ("WashAndDry$Evening", "clothDry", "[I", true)
  | 4 => ("WashAndDry$Evening", "size", "I", false)
  | 5 => ("WashAndDry$Evening", "heFree", "I", false)
  | 6 => ("WashAndDry$Evening", "sheFree", "I", false)
  | 7 => ("WashAndDry$Evening", "cloth", "I", false)
  | 8 => ("WashAndDry$Evening", "driedByCloth", "I", false)
  | 9 => ("WashAndDry$Evening", "heWaits", "I", false)
  | 10 => ("WashAndDry$Evening", "sheWaits", "I", false)
  | 11 => ("WashAndDry$Evening", "grease", "I", false)
  | 12 => ("WashAndDry$Evening", "fullCloths", "I", false)
  | _ => ("WashAndDry$Evening", "end", "I", false)
def aY1 : Nat → FieldType := fun k => match k with
  | 0 => .object "WashAndDry$Things"
  | 1 => .array .int
  | 2 => .array .int
  | 3 => .array .int
  | 4 => .int
  | 5 => .int
  | 6 => .int
  | 7 => .int
  | 8 => .int
  | 9 => .int
  | 10 => .int
  | 11 => .int
  | 12 => .int
  | _ => .int
def aR2 : String := "WashAndDry$Hands"
def aT2 : u_T := fun k => match k with
  | 0 => ("WashAndDry$Hands", "kitchen", "LWashAndDry$Kitchen;", true)
  | 1 => ("WashAndDry$Hands", "things", "LWashAndDry$Things;", true)
  | 2 => ("WashAndDry$Hands", "best", "LWashAndDry$Best;", true)
  | 3 => ("WashAndDry$Hands", "order", "LWashAndDry$Order;", true)
  | 4 => ("WashAndDry$Hands", "keys", "[I", true)
  | _ => ("WashAndDry$Hands", "moreByBits", "[I", true)
def aY2 : Nat → FieldType := fun k => match k with
  | 0 => .object "WashAndDry$Kitchen"
  | 1 => .object "WashAndDry$Things"
  | 2 => .object "WashAndDry$Best"
  | 3 => .object "WashAndDry$Order"
  | 4 => .array .int
  | _ => .array .int
def aR3 : String := "WashAndDry$Kitchen"
def aT3 : u_T := fun k => match k with
  | 0 => ("WashAndDry$Kitchen", "things", "LWashAndDry$Things;", true)
  | 1 => ("WashAndDry$Kitchen", "order", "LWashAndDry$Order;", true)
  | _ => ("WashAndDry$Kitchen", "settings", "[I", true)
def aY3 : Nat → FieldType := fun k => match k with
  | 0 => .object "WashAndDry$Things"
  | 1 => .object "WashAndDry$Order"
  | _ => .array .int
def aR4 : String := "WashAndDry$Letters"
def aT4 : u_T := fun k => match k with
  | 0 => ("WashAndDry$Letters", "letters", "[I", true)
  | _ => ("WashAndDry$Letters", "count", "I", false)
def aY4 : Nat → FieldType := fun k => match k with
  | 0 => .array .int
  | _ => .int
def aR5 : String := "WashAndDry$Order"
def aT5 : u_T := fun k => match k with
  | 0 => ("WashAndDry$Order", "places", "[I", true)
  | 1 => ("WashAndDry$Order", "size", "I", false)
  | _ => ("WashAndDry$Order", "newBits", "I", false)
def aY5 : Nat → FieldType := fun k => match k with
  | 0 => .array .int
  | 1 => .int
  | _ => .int
def aR6 : String := "WashAndDry$Rows"
def aT6 : u_T := fun _ => ("", "", "", false)
def aY6 : Nat → FieldType := fun _ => .int
def aR7 : String := "WashAndDry$Things"
def aT7 : u_T := fun k => match k with
  | 0 => ("WashAndDry$Things", "parts", "[I", true)
  | _ => ("WashAndDry$Things", "count", "I", false)
def aY7 : Nat → FieldType := fun k => match k with
  | 0 => .array .int
  | _ => .int
def aR8 : String := "WashAndDry$Tries"
def aT8 : u_T := fun k => match k with
  | 0 => ("WashAndDry$Tries", "kitchen", "LWashAndDry$Kitchen;", true)
  | 1 => ("WashAndDry$Tries", "evening", "LWashAndDry$Evening;", true)
  | 2 => ("WashAndDry$Tries", "best", "LWashAndDry$Best;", true)
  | 3 => ("WashAndDry$Tries", "order", "LWashAndDry$Order;", true)
  | _ => ("WashAndDry$Tries", "settings", "[I", true)
def aY8 : Nat → FieldType := fun k => match k with
  | 0 => .object "WashAndDry$Kitchen"
  | 1 => .object "WashAndDry$Evening"
  | 2 => .object "WashAndDry$Best"
  | 3 => .object "WashAndDry$Order"
  | _ => .array .int
def aR9 : String := "WashAndDry$Turns"
def aT9 : u_T := fun k => match k with
  | 0 => ("WashAndDry$Turns", "kitchen", "LWashAndDry$Kitchen;", true)
  | 1 => ("WashAndDry$Turns", "evening", "LWashAndDry$Evening;", true)
  | 2 => ("WashAndDry$Turns", "best", "LWashAndDry$Best;", true)
  | 3 => ("WashAndDry$Turns", "order", "LWashAndDry$Order;", true)
  | 4 => ("WashAndDry$Turns", "keys", "[I", true)
  | 5 => ("WashAndDry$Turns", "fitting", "I", false)
  | 6 => ("WashAndDry$Turns", "firstFitting", "I", false)
  | 7 => ("WashAndDry$Turns", "seed", "I", false)
  | 8 => ("WashAndDry$Turns", "drawnThatMay", "I", false)
  | _ => ("WashAndDry$Turns", "drawnEnds", "I", false)
def aY9 : Nat → FieldType := fun k => match k with
  | 0 => .object "WashAndDry$Kitchen"
  | 1 => .object "WashAndDry$Evening"
  | 2 => .object "WashAndDry$Best"
  | 3 => .object "WashAndDry$Order"
  | 4 => .array .int
  | 5 => .int
  | 6 => .int
  | 7 => .int
  | 8 => .int
  | _ => .int
def aR10 : String := "WashAndDry$Undos"
def aT10 : u_T := fun k => match k with
  | 0 => ("WashAndDry$Undos", "orders", "[LWashAndDry$Order;", true)
  | 1 => ("WashAndDry$Undos", "next", "I", false)
  | _ => ("WashAndDry$Undos", "count", "I", false)
def aY10 : Nat → FieldType := fun k => match k with
  | 0 => .array (.object "WashAndDry$Order")
  | 1 => .int
  | _ => .int
def aR11 : String := "WashAndDry"
def aT11 : u_T := fun k => match k with
  | 0 => ("WashAndDry", "now", "LWashAndDry$Kitchen;", true)
  | 1 => ("WashAndDry", "trial", "LWashAndDry$Kitchen;", true)
  | 2 => ("WashAndDry", "kept", "LWashAndDry$Kitchen;", true)
  | 3 => ("WashAndDry", "isKept", "Z", false)
  | 4 => ("WashAndDry", "letters", "LWashAndDry$Letters;", true)
  | 5 => ("WashAndDry", "undos", "LWashAndDry$Undos;", true)
  | 6 => ("WashAndDry", "evening", "LWashAndDry$Evening;", true)
  | 7 => ("WashAndDry", "tries", "LWashAndDry$Tries;", true)
  | 8 => ("WashAndDry", "turns", "LWashAndDry$Turns;", true)
  | 9 => ("WashAndDry", "hands", "LWashAndDry$Hands;", true)
  | 10 => ("WashAndDry", "numbers", "[I", true)
  | 11 => ("WashAndDry", "numberCount", "I", false)
  | _ => ("WashAndDry", "refused", "[I", true)
def aY11 : Nat → FieldType := fun k => match k with
  | 0 => .object "WashAndDry$Kitchen"
  | 1 => .object "WashAndDry$Kitchen"
  | 2 => .object "WashAndDry$Kitchen"
  | 3 => .boolean
  | 4 => .object "WashAndDry$Letters"
  | 5 => .object "WashAndDry$Undos"
  | 6 => .object "WashAndDry$Evening"
  | 7 => .object "WashAndDry$Tries"
  | 8 => .object "WashAndDry$Turns"
  | 9 => .object "WashAndDry$Hands"
  | 10 => .array .int
  | 11 => .int
  | _ => .array .int
def aR12 : String := "WashAndDryModel"
def aT12 : u_T := fun k => match k with
  | 0 => ("WashAndDryModel", "refused", "[I", true)
  | 1 => ("WashAndDryModel", "setting", "[I", true)
  | 2 => ("WashAndDryModel", "kind", "[I", true)
  | 3 => ("WashAndDryModel", "figure", "[I", true)
  | 4 => ("WashAndDryModel", "grease", "[I", true)
  | 5 => ("WashAndDryModel", "room", "[I", true)
  | 6 => ("WashAndDryModel", "wash", "[I", true)
  | 7 => ("WashAndDryModel", "dry", "[I", true)
  | 8 => ("WashAndDryModel", "order", "[I", true)
  | 9 => ("WashAndDryModel", "things", "I", false)
  | 10 => ("WashAndDryModel", "size", "I", false)
  | 11 => ("WashAndDryModel", "fresh", "I", false)
  | 12 => ("WashAndDryModel", "tape", "[I", true)
  | 13 => ("WashAndDryModel", "letter", "[I", true)
  | 14 => ("WashAndDryModel", "letterAt", "[I", true)
  | 15 => ("WashAndDryModel", "told", "[I", true)
  | 16 => ("WashAndDryModel", "from", "[I", true)
  | 17 => ("WashAndDryModel", "till", "[I", true)
  | 18 => ("WashAndDryModel", "taped", "I", false)
  | 19 => ("WashAndDryModel", "at", "I", false)
  | 20 => ("WashAndDryModel", "statements", "I", false)
  | 21 => ("WashAndDryModel", "kept", "[I", true)
  | 22 => ("WashAndDryModel", "hasImage", "Z", false)
  | 23 => ("WashAndDryModel", "isKeeping", "Z", false)
  | 24 => ("WashAndDryModel", "cursor", "I", false)
  | 25 => ("WashAndDryModel", "undoOrder", "[I", true)
  | 26 => ("WashAndDryModel", "undoSize", "[I", true)
  | 27 => ("WashAndDryModel", "undoFresh", "[I", true)
  | 28 => ("WashAndDryModel", "undos", "I", false)
  | 29 => ("WashAndDryModel", "begun", "[I", true)
  | 30 => ("WashAndDryModel", "washed", "[I", true)
  | 31 => ("WashAndDryModel", "down", "[I", true)
  | 32 => ("WashAndDryModel", "taken", "[I", true)
  | 33 => ("WashAndDryModel", "isDry", "[I", true)
  | 34 => ("WashAndDryModel", "clothDry", "[I", true)
  | 35 => ("WashAndDryModel", "inWater", "I", false)
  | 36 => ("WashAndDryModel", "hisWait", "I", false)
  | 37 => ("WashAndDryModel", "herWait", "I", false)
  | 38 => ("WashAndDryModel", "fulls", "I", false)
  | 39 => ("WashAndDryModel", "sheFree", "I", false)
  | 40 => ("WashAndDryModel", "cloth", "I", false)
  | 41 => ("WashAndDryModel", "dried", "I", false)
  | 42 => ("WashAndDryModel", "last", "I", false)
  | 43 => ("WashAndDryModel", "startAt", "I", false)
  | 44 => ("WashAndDryModel", "key", "[I", true)
  | 45 => ("WashAndDryModel", "row", "[I", true)
  | 46 => ("WashAndDryModel", "rowMany", "I", false)
  | _ => ("WashAndDryModel", "pickedBy", "[I", true)
def aY12 : Nat → FieldType := fun k => match k with
  | 0 => .array .int
  | 1 => .array .int
  | 2 => .array .int
  | 3 => .array .int
  | 4 => .array .int
  | 5 => .array .int
  | 6 => .array .int
  | 7 => .array .int
  | 8 => .array .int
  | 9 => .int
  | 10 => .int
  | 11 => .int
  | 12 => .array .int
  | 13 => .array .int
  | 14 => .array .int
  | 15 => .array .int
  | 16 => .array .int
  | 17 => .array .int
  | 18 => .int
  | 19 => .int
  | 20 => .int
  | 21 => .array .int
  | 22 => .boolean
  | 23 => .boolean
  | 24 => .int
  | 25 => .array .int
  | 26 => .array .int
  | 27 => .array .int
  | 28 => .int
  | 29 => .array .int
  | 30 => .array .int
  | 31 => .array .int
  | 32 => .array .int
  | 33 => .array .int
  | 34 => .array .int
  | 35 => .int
  | 36 => .int
  | 37 => .int
  | 38 => .int
  | 39 => .int
  | 40 => .int
  | 41 => .int
  | 42 => .int
  | 43 => .int
  | 44 => .array .int
  | 45 => .array .int
  | 46 => .int
  | _ => .array .int
def a_wat (p : Nat) : Option Jvm.Cond := match p / 1000 with
  | 0 => (k2_sels lw_privs)[p % 1000]?
  | 1 => tables_1_1[p % 1000]?
  | 2 => tables_1_2[p % 1000]?
  | 3 => tables_1_3[p % 1000]?
  | 4 => tables_1_4[p % 1000]?
  | 5 => tables_1_5[p % 1000]?
  | 6 => tables_1_6[p % 1000]?
  | 7 => tables_1_7[p % 1000]?
  | _ => none
theorem a_wat_in {p : Nat} {x : Jvm.Cond} (h : a_wat p = some x) : x ∈ lw_tbl := by
  unfold a_wat at h
  unfold lw_tbl tables_1
  simp only [List.mem_append]
  split at h
  · have := List.mem_of_getElem? h; simp [this]
  · have := List.mem_of_getElem? h; simp [this]
  · have := List.mem_of_getElem? h; simp [this]
  · have := List.mem_of_getElem? h; simp [this]
  · have := List.mem_of_getElem? h; simp [this]
  · have := List.mem_of_getElem? h; simp [this]
  · have := List.mem_of_getElem? h; simp [this]
  · have := List.mem_of_getElem? h; simp [this]
  · cases h
abbrev a_cls : List vw_C := [(aR0, aT0, 2), (aR1, aT1, 14), (aR2, aT2, 6), (aR3, aT3, 3), (aR4, aT4, 2), (aR5, aT5, 3), (aR0, aT0, 2), (aR7, aT7, 2), (aR8, aT8, 5), (aR9, aT9, 10), (aR10, aT10, 3), (aR11, aT11, 13), (aR12, aT12, 48)]
def a_ty (ci : Nat) : Nat → FieldType := match ci with
  | 0 => aY0
  | 1 => aY1
  | 2 => aY2
  | 3 => aY3
  | 4 => aY4
  | 5 => aY5
  | 6 => aY0
  | 7 => aY7
  | 8 => aY8
  | 9 => aY9
  | 10 => aY10
  | 11 => aY11
  | 12 => aY12
  | _ => fun _ => .int
theorem aI0 : u_ws aR0 aT0 2 = ([1199, 1201] : List Nat).filterMap a_wat ∧ (u_ws aR0 aT0 2).all goodWord = true := by decide +kernel
theorem aP0 : ∀ k, k < 2 → parseFieldDescriptor (aT0 k).2.2.1 = some (aY0 k) := by decide +kernel
theorem aN0 : ∀ a, a < 2 → ∀ b, b < 2 → a ≠ b → (aT0 a).2.1 ≠ (aT0 b).2.1 := by decide +kernel
theorem aI1 : u_ws aR1 aT1 14 = ([1153, 1155, 1157, 1159, 1161, 1163, 1165, 1167, 1169, 1171, 1173, 1175, 1177, 1179] : List Nat).filterMap a_wat ∧ (u_ws aR1 aT1 14).all goodWord = true := by decide +kernel
theorem aP1 : ∀ k, k < 14 → parseFieldDescriptor (aT1 k).2.2.1 = some (aY1 k) := by decide +kernel
theorem aN1 : ∀ a, a < 14 → ∀ b, b < 14 → a ≠ b → (aT1 a).2.1 ≠ (aT1 b).2.1 := by decide +kernel
theorem aI2 : u_ws aR2 aT2 6 = ([2048, 2050, 2052, 2054, 2056, 2058] : List Nat).filterMap a_wat ∧ (u_ws aR2 aT2 6).all goodWord = true := by decide +kernel
theorem aP2 : ∀ k, k < 6 → parseFieldDescriptor (aT2 k).2.2.1 = some (aY2 k) := by decide +kernel
theorem aN2 : ∀ a, a < 6 → ∀ b, b < 6 → a ≠ b → (aT2 a).2.1 ≠ (aT2 b).2.1 := by decide +kernel
theorem aI3 : u_ws aR3 aT3 3 = ([1086, 1088, 1090] : List Nat).filterMap a_wat ∧ (u_ws aR3 aT3 3).all goodWord = true := by decide +kernel
theorem aP3 : ∀ k, k < 3 → parseFieldDescriptor (aT3 k).2.2.1 = some (aY3 k) := by decide +kernel
theorem aN3 : ∀ a, a < 3 → ∀ b, b < 3 → a ≠ b → (aT3 a).2.1 ≠ (aT3 b).2.1 := by decide +kernel
theorem aI4 : u_ws aR4 aT4 2 = ([1102, 1104] : List Nat).filterMap a_wat ∧ (u_ws aR4 aT4 2).all goodWord = true := by decide +kernel
theorem aP4 : ∀ k, k < 2 → parseFieldDescriptor (aT4 k).2.2.1 = some (aY4 k) := by decide +kernel
theorem aN4 : ∀ a, a < 2 → ∀ b, b < 2 → a ≠ b → (aT4 a).2.1 ≠ (aT4 b).2.1 := by decide +kernel
theorem aI5 : u_ws aR5 aT5 3 = ([1064, 1066, 1068] : List Nat).filterMap a_wat ∧ (u_ws aR5 aT5 3).all goodWord = true := by decide +kernel
theorem aP5 : ∀ k, k < 3 → parseFieldDescriptor (aT5 k).2.2.1 = some (aY5 k) := by decide +kernel
theorem aN5 : ∀ a, a < 3 → ∀ b, b < 3 → a ≠ b → (aT5 a).2.1 ≠ (aT5 b).2.1 := by decide +kernel
theorem aI6 : u_ws aR6 aT6 0 = ([] : List Nat).filterMap a_wat ∧ (u_ws aR6 aT6 0).all goodWord = true := by decide +kernel
theorem aP6 : ∀ k, k < 0 → parseFieldDescriptor (aT6 k).2.2.1 = some (aY6 k) := by decide +kernel
theorem aN6 : ∀ a, a < 0 → ∀ b, b < 0 → a ≠ b → (aT6 a).2.1 ≠ (aT6 b).2.1 := by decide +kernel
theorem aI7 : u_ws aR7 aT7 2 = ([1042, 1044] : List Nat).filterMap a_wat ∧ (u_ws aR7 aT7 2).all goodWord = true := by decide +kernel
theorem aP7 : ∀ k, k < 2 → parseFieldDescriptor (aT7 k).2.2.1 = some (aY7 k) := by decide +kernel
theorem aN7 : ∀ a, a < 2 → ∀ b, b < 2 → a ≠ b → (aT7 a).2.1 ≠ (aT7 b).2.1 := by decide +kernel
theorem aI8 : u_ws aR8 aT8 5 = ([1212, 1214, 1216, 1218, 1220] : List Nat).filterMap a_wat ∧ (u_ws aR8 aT8 5).all goodWord = true := by decide +kernel
theorem aP8 : ∀ k, k < 5 → parseFieldDescriptor (aT8 k).2.2.1 = some (aY8 k) := by decide +kernel
theorem aN8 : ∀ a, a < 5 → ∀ b, b < 5 → a ≠ b → (aT8 a).2.1 ≠ (aT8 b).2.1 := by decide +kernel
theorem aI9 : u_ws aR9 aT9 10 = ([2009, 2011, 2013, 2015, 2017, 2019, 2021, 2023, 2025, 2027] : List Nat).filterMap a_wat ∧ (u_ws aR9 aT9 10).all goodWord = true := by decide +kernel
theorem aP9 : ∀ k, k < 10 → parseFieldDescriptor (aT9 k).2.2.1 = some (aY9 k) := by decide +kernel
theorem aN9 : ∀ a, a < 10 → ∀ b, b < 10 → a ≠ b → (aT9 a).2.1 ≠ (aT9 b).2.1 := by decide +kernel
theorem aI10 : u_ws aR10 aT10 3 = ([1120, 1122, 1124] : List Nat).filterMap a_wat ∧ (u_ws aR10 aT10 3).all goodWord = true := by decide +kernel
theorem aP10 : ∀ k, k < 3 → parseFieldDescriptor (aT10 k).2.2.1 = some (aY10 k) := by decide +kernel
theorem aN10 : ∀ a, a < 3 → ∀ b, b < 3 → a ≠ b → (aT10 a).2.1 ≠ (aT10 b).2.1 := by decide +kernel
theorem aI11 : u_ws aR11 aT11 13 = ([2074, 2076, 2078, 2080, 2082, 2084, 2086, 2088, 2090, 2092, 2094, 2096, 2098] : List Nat).filterMap a_wat ∧ (u_ws aR11 aT11 13).all goodWord = true := by decide +kernel
theorem aP11 : ∀ k, k < 13 → parseFieldDescriptor (aT11 k).2.2.1 = some (aY11 k) := by decide +kernel
theorem aN11 : ∀ a, a < 13 → ∀ b, b < 13 → a ≠ b → (aT11 a).2.1 ≠ (aT11 b).2.1 := by decide +kernel
theorem aI12 : u_ws aR12 aT12 48 = ([5120, 5122, 5124, 5126, 5128, 5130, 5132, 5134, 5136, 5138, 5140, 5142, 5144, 5146, 5148, 5150, 5152, 5154, 5156, 5158, 5160, 5162, 5164, 5166, 5168, 5170, 5172, 5174, 5176, 5178, 5180, 5182, 5184, 5186, 5188, 5190, 5192, 5194, 5196, 5198, 5200, 5202, 5204, 5206, 5208, 5210, 5212, 5214] : List Nat).filterMap a_wat ∧ (u_ws aR12 aT12 48).all goodWord = true := by decide +kernel
theorem aP12 : ∀ k, k < 48 → parseFieldDescriptor (aT12 k).2.2.1 = some (aY12 k) := by decide +kernel
theorem aN12 : ∀ a, a < 48 → ∀ b, b < 48 → a ≠ b → (aT12 a).2.1 ≠ (aT12 b).2.1 := by decide +kernel
def lw_ok : List Cond := lw_tbl.filter goodWord
theorem a_okin {x : Cond} (h : x ∈ lw_tbl) (g : goodWord x = true) : x ∈ lw_ok := List.mem_filter.mpr ⟨h, g⟩
theorem a_goodIn : GoodIn lw_ok lw_ok := fun _ h => ⟨h, good_of_word (List.mem_filter.mp h).2⟩
theorem a_inw {ws : List Cond} {ps : List Nat} (h : ws = ps.filterMap a_wat ∧ ws.all goodWord = true) : ∀ w ∈ ws, w ∈ lw_ok := by
  intro w hw
  refine a_okin ?_ (List.all_eq_true.mp h.2 w hw)
  rw [h.1] at hw
  obtain ⟨i, -, hi⟩ := List.mem_filterMap.mp hw
  exact a_wat_in hi
def a_cok (ci : Nat) : Prop := ∀ C T N, a_cls[ci]? = some (C, T, N) → (∀ w ∈ u_ws C T N, w ∈ lw_ok) ∧ (∀ k, k < N → parseFieldDescriptor (T k).2.2.1 = some (a_ty ci k)) ∧ (∀ a, a < N → ∀ b, b < N → a ≠ b → (T a).2.1 ≠ (T b).2.1)
theorem a_cok_all : ∀ ci, a_cok ci := by
  intro ci C T N h
  match ci, h with
  | 0, h => cases h; exact ⟨a_inw aI0, aP0, aN0⟩
  | 1, h => cases h; exact ⟨a_inw aI1, aP1, aN1⟩
  | 2, h => cases h; exact ⟨a_inw aI2, aP2, aN2⟩
  | 3, h => cases h; exact ⟨a_inw aI3, aP3, aN3⟩
  | 4, h => cases h; exact ⟨a_inw aI4, aP4, aN4⟩
  | 5, h => cases h; exact ⟨a_inw aI5, aP5, aN5⟩
  | 6, h => cases h; exact ⟨a_inw aI0, aP0, aN0⟩
  | 7, h => cases h; exact ⟨a_inw aI7, aP7, aN7⟩
  | 8, h => cases h; exact ⟨a_inw aI8, aP8, aN8⟩
  | 9, h => cases h; exact ⟨a_inw aI9, aP9, aN9⟩
  | 10, h => cases h; exact ⟨a_inw aI10, aP10, aN10⟩
  | 11, h => cases h; exact ⟨a_inw aI11, aP11, aN11⟩
  | 12, h => cases h; exact ⟨a_inw aI12, aP12, aN12⟩
  | n + 13, h => simp [a_cls] at h
def a_sh : List (Nat × List (Option Nat) × Nat) := [(11, [some 1, some 7, some 13, none, some 19, some 21, some 39, some 43, some 48, some 53, some 59, none, some 60], 0),
  (3, [some 2, some 4, some 6], 0),
  (7, [some 3, none], 0),
  (100, [], 48),
  (5, [some 5, none, none], 0),
  (100, [], 8),
  (100, [], 5),
  (3, [some 8, some 10, some 12], 0),
  (7, [some 9, none], 0),
  (100, [], 48),
  (5, [some 11, none, none], 0),
  (100, [], 8),
  (100, [], 5),
  (3, [some 14, some 16, some 18], 0),
  (7, [some 15, none], 0),
  (100, [], 48),
  (5, [some 17, none, none], 0),
  (100, [], 8),
  (100, [], 5),
  (4, [some 20, none], 0),
  (100, [], 96),
  (10, [some 22, none, none], 0),
  (102, [some 23, some 25, some 27, some 29, some 31, some 33, some 35, some 37], 8),
  (5, [some 24, none, none], 0),
  (100, [], 8),
  (5, [some 26, none, none], 0),
  (100, [], 8),
  (5, [some 28, none, none], 0),
  (100, [], 8),
  (5, [some 30, none, none], 0),
  (100, [], 8),
  (5, [some 32, none, none], 0),
  (100, [], 8),
  (5, [some 34, none, none], 0),
  (100, [], 8),
  (5, [some 36, none, none], 0),
  (100, [], 8),
  (5, [some 38, none, none], 0),
  (100, [], 8),
  (1, [some 2, some 40, some 41, some 42, none, none, none, none, none, none, none, none, none, none], 0),
  (100, [], 40),
  (100, [], 8),
  (100, [], 3),
  (8, [some 1, some 39, some 44, some 45, some 47], 0),
  (0, [none, none], 0),
  (5, [some 46, none, none], 0),
  (100, [], 8),
  (100, [], 5),
  (9, [some 1, some 39, some 49, some 50, some 52, none, none, none, none, none], 0),
  (0, [none, none], 0),
  (5, [some 51, none, none], 0),
  (100, [], 8),
  (100, [], 8),
  (2, [some 1, some 2, some 54, some 55, some 57, some 58], 0),
  (0, [none, none], 0),
  (5, [some 56, none, none], 0),
  (100, [], 8),
  (100, [], 8),
  (100, [], 256),
  (100, [], 12),
  (100, [], 7),
  (12, [some 62, some 63, some 64, some 65, some 66, some 67, some 68, some 69, some 70, none, none, none, some 71, some 72, some 73, some 74, some 75, some 76, none, none, none, some 77, none, none, none, some 78, some 79, some 80, none, some 81, some 82, some 83, some 84, some 85, some 86, none, none, none, none, none, none, none, none, none, some 87, some 88, none, some 89], 0),
  (100, [], 7),
  (100, [], 5),
  (100, [], 8),
  (100, [], 8),
  (100, [], 8),
  (100, [], 8),
  (100, [], 8),
  (100, [], 8),
  (100, [], 8),
  (100, [], 96),
  (100, [], 48),
  (100, [], 48),
  (100, [], 288),
  (100, [], 48),
  (100, [], 48),
  (100, [], 150),
  (100, [], 64),
  (100, [], 8),
  (100, [], 8),
  (100, [], 8),
  (100, [], 8),
  (100, [], 8),
  (100, [], 8),
  (100, [], 8),
  (100, [], 3),
  (100, [], 8),
  (100, [], 12),
  (100, [], 256),
  (101, [], 6),
  (101, [], 6),
  (101, [], 5),
  (101, [], 5)]
def a_ncw : Nat := 90
def a_scl (i : Nat) : List Int32 := match i with
  | 90 => [0, 0, 0, 1, 1, 0]
  | 91 => [5, 9, 9, 3, 20, 20]
  | 92 => [0, 0, 1, 1, 1]
  | 93 => [12, 9, 30, 3, 60]
  | _ => []
def a_stn (j : Nat) : String × String := match j with
  | 0 => ("WashAndDry", "LEAST_PART")
  | 1 => ("WashAndDry", "MOST_PART")
  | 2 => ("WashAndDry", "LEAST_SETTING")
  | _ => ("WashAndDry", "MOST_SETTING")
