section
-- ===== PART A: goes FIRST, ahead of the names: the tables' words, and 'selects' of the private methods out of them =====
/-- a private method of a class that the tables say can be made, by its rows of tables_1 -/
def lw_okq (q : MethodName × Nat) : Prop := (q.1.cls ≠ "java/lang/invoke/MethodHandle" ∧ q.1.cls ≠ "java/lang/invoke/VarHandle") ∧ Cond.instantiable q.1.cls q.2 ∈ tables_1 ∧ Cond.privateMethod q.1 ∈ tables_1 ∧ Cond.instanceMethod q.1 ∈ tables_1
theorem lw_p0 : lw_okq (⟨"WhisperRing$Script", "step", "()V"⟩, 7) := ⟨⟨by decide +kernel, by decide +kernel⟩, List.mem_of_getElem? (i := 19) (by decide +kernel), List.mem_of_getElem? (i := 214) (by decide +kernel), List.mem_of_getElem? (i := 215) (by decide +kernel)⟩
theorem lw_p1 : lw_okq (⟨"WhisperRing$Script", "weigh", "(I)V"⟩, 7) := ⟨⟨by decide +kernel, by decide +kernel⟩, List.mem_of_getElem? (i := 19) (by decide +kernel), List.mem_of_getElem? (i := 221) (by decide +kernel), List.mem_of_getElem? (i := 222) (by decide +kernel)⟩
theorem lw_p2 : lw_okq (⟨"WhisperRing$Script", "readItem", "(LWhisperRing$Hall;I)Z"⟩, 7) := ⟨⟨by decide +kernel, by decide +kernel⟩, List.mem_of_getElem? (i := 19) (by decide +kernel), List.mem_of_getElem? (i := 225) (by decide +kernel), List.mem_of_getElem? (i := 226) (by decide +kernel)⟩
theorem lw_p3 : lw_okq (⟨"WhisperRing$Script", "readPlaces", "(LWhisperRing$Hall;)Z"⟩, 7) := ⟨⟨by decide +kernel, by decide +kernel⟩, List.mem_of_getElem? (i := 19) (by decide +kernel), List.mem_of_getElem? (i := 229) (by decide +kernel), List.mem_of_getElem? (i := 230) (by decide +kernel)⟩
theorem lw_p4 : lw_okq (⟨"WhisperRing$Script", "readNumber", "(II)Z"⟩, 7) := ⟨⟨by decide +kernel, by decide +kernel⟩, List.mem_of_getElem? (i := 19) (by decide +kernel), List.mem_of_getElem? (i := 233) (by decide +kernel), List.mem_of_getElem? (i := 234) (by decide +kernel)⟩
theorem lw_p5 : lw_okq (⟨"WhisperRing$Script", "readStop", "()Z"⟩, 7) := ⟨⟨by decide +kernel, by decide +kernel⟩, List.mem_of_getElem? (i := 19) (by decide +kernel), List.mem_of_getElem? (i := 238) (by decide +kernel), List.mem_of_getElem? (i := 239) (by decide +kernel)⟩
theorem lw_p6 : lw_okq (⟨"WhisperRing$Script", "readLoss", "(LWhisperRing$Hall;)Z"⟩, 7) := ⟨⟨by decide +kernel, by decide +kernel⟩, List.mem_of_getElem? (i := 19) (by decide +kernel), List.mem_of_getElem? (i := 242) (by decide +kernel), List.mem_of_getElem? (i := 243) (by decide +kernel)⟩
theorem lw_p7 : lw_okq (⟨"WhisperRing$Script", "readNiche", "(LWhisperRing$Hall;)Z"⟩, 7) := ⟨⟨by decide +kernel, by decide +kernel⟩, List.mem_of_getElem? (i := 19) (by decide +kernel), List.mem_of_getElem? (i := 246) (by decide +kernel), List.mem_of_getElem? (i := 247) (by decide +kernel)⟩
theorem lw_p8 : lw_okq (⟨"WhisperRing$Script", "readSaying", "(LWhisperRing$Hall;)Z"⟩, 7) := ⟨⟨by decide +kernel, by decide +kernel⟩, List.mem_of_getElem? (i := 19) (by decide +kernel), List.mem_of_getElem? (i := 250) (by decide +kernel), List.mem_of_getElem? (i := 251) (by decide +kernel)⟩
theorem lw_p9 : lw_okq (⟨"WhisperRing", "maySay", "(IIII)Z"⟩, 8) := ⟨⟨by decide +kernel, by decide +kernel⟩, List.mem_of_getElem? (i := 11) (by decide +kernel), List.mem_of_getElem? (i := 381) (by decide +kernel), List.mem_of_getElem? (i := 382) (by decide +kernel)⟩
theorem lw_p10 : lw_okq (⟨"WhisperRing", "guessCount", "()I"⟩, 8) := ⟨⟨by decide +kernel, by decide +kernel⟩, List.mem_of_getElem? (i := 11) (by decide +kernel), List.mem_of_getElem? (i := 493) (by decide +kernel), List.mem_of_getElem? (i := 494) (by decide +kernel)⟩
theorem lw_p11 : lw_okq (⟨"WhisperRing", "firstGuess", "()I"⟩, 8) := ⟨⟨by decide +kernel, by decide +kernel⟩, List.mem_of_getElem? (i := 11) (by decide +kernel), List.mem_of_getElem? (i := 514) (by decide +kernel), List.mem_of_getElem? (i := 515) (by decide +kernel)⟩
theorem lw_p12 : lw_okq (⟨"WhisperRing", "sortGuesses", "(I)I"⟩, 8) := ⟨⟨by decide +kernel, by decide +kernel⟩, List.mem_of_getElem? (i := 11) (by decide +kernel), List.mem_of_getElem? (i := 525) (by decide +kernel), List.mem_of_getElem? (i := 526) (by decide +kernel)⟩
theorem lw_p13 : lw_okq (⟨"WhisperRing", "asSaying", "(I)I"⟩, 8) := ⟨⟨by decide +kernel, by decide +kernel⟩, List.mem_of_getElem? (i := 11) (by decide +kernel), List.mem_of_getElem? (i := 536) (by decide +kernel), List.mem_of_getElem? (i := 537) (by decide +kernel)⟩
theorem lw_p14 : lw_okq (⟨"WhisperRing", "asVow", "(I)I"⟩, 8) := ⟨⟨by decide +kernel, by decide +kernel⟩, List.mem_of_getElem? (i := 11) (by decide +kernel), List.mem_of_getElem? (i := 540) (by decide +kernel), List.mem_of_getElem? (i := 541) (by decide +kernel)⟩
theorem lw_p15 : lw_okq (⟨"WhisperRing", "asRumour", "(I)I"⟩, 8) := ⟨⟨by decide +kernel, by decide +kernel⟩, List.mem_of_getElem? (i := 11) (by decide +kernel), List.mem_of_getElem? (i := 545) (by decide +kernel), List.mem_of_getElem? (i := 546) (by decide +kernel)⟩
def lw_privs_1 : List (MethodName × Nat) := [(⟨"WhisperRing$Script", "step", "()V"⟩, 7), (⟨"WhisperRing$Script", "weigh", "(I)V"⟩, 7), (⟨"WhisperRing$Script", "readItem", "(LWhisperRing$Hall;I)Z"⟩, 7), (⟨"WhisperRing$Script", "readPlaces", "(LWhisperRing$Hall;)Z"⟩, 7), (⟨"WhisperRing$Script", "readNumber", "(II)Z"⟩, 7), (⟨"WhisperRing$Script", "readStop", "()Z"⟩, 7), (⟨"WhisperRing$Script", "readLoss", "(LWhisperRing$Hall;)Z"⟩, 7), (⟨"WhisperRing$Script", "readNiche", "(LWhisperRing$Hall;)Z"⟩, 7), (⟨"WhisperRing$Script", "readSaying", "(LWhisperRing$Hall;)Z"⟩, 7), (⟨"WhisperRing", "maySay", "(IIII)Z"⟩, 8), (⟨"WhisperRing", "guessCount", "()I"⟩, 8), (⟨"WhisperRing", "firstGuess", "()I"⟩, 8), (⟨"WhisperRing", "sortGuesses", "(I)I"⟩, 8), (⟨"WhisperRing", "asSaying", "(I)I"⟩, 8), (⟨"WhisperRing", "asVow", "(I)I"⟩, 8), (⟨"WhisperRing", "asRumour", "(I)I"⟩, 8)]
theorem lw_r1 : ∀ q ∈ lw_privs_1, lw_okq q := List.forall_mem_cons.mpr ⟨lw_p0, List.forall_mem_cons.mpr ⟨lw_p1, List.forall_mem_cons.mpr ⟨lw_p2, List.forall_mem_cons.mpr ⟨lw_p3, List.forall_mem_cons.mpr ⟨lw_p4, List.forall_mem_cons.mpr ⟨lw_p5, List.forall_mem_cons.mpr ⟨lw_p6, List.forall_mem_cons.mpr ⟨lw_p7, List.forall_mem_cons.mpr ⟨lw_p8, List.forall_mem_cons.mpr ⟨lw_p9, List.forall_mem_cons.mpr ⟨lw_p10, List.forall_mem_cons.mpr ⟨lw_p11, List.forall_mem_cons.mpr ⟨lw_p12, List.forall_mem_cons.mpr ⟨lw_p13, List.forall_mem_cons.mpr ⟨lw_p14, List.forall_mem_cons.mpr ⟨lw_p15, fun _ h => absurd h List.not_mem_nil⟩⟩⟩⟩⟩⟩⟩⟩⟩⟩⟩⟩⟩⟩⟩⟩
theorem lw_p16 : lw_okq (⟨"WhisperRing", "asCurse", "(I)I"⟩, 8) := ⟨⟨by decide +kernel, by decide +kernel⟩, List.mem_of_getElem? (i := 11) (by decide +kernel), List.mem_of_getElem? (i := 550) (by decide +kernel), List.mem_of_getElem? (i := 551) (by decide +kernel)⟩
theorem lw_p17 : lw_okq (⟨"WhisperRing", "asLie", "(I)I"⟩, 8) := ⟨⟨by decide +kernel, by decide +kernel⟩, List.mem_of_getElem? (i := 11) (by decide +kernel), List.mem_of_getElem? (i := 555) (by decide +kernel), List.mem_of_getElem? (i := 556) (by decide +kernel)⟩
theorem lw_p18 : lw_okq (⟨"WhisperRing", "asHymn", "(I)I"⟩, 8) := ⟨⟨by decide +kernel, by decide +kernel⟩, List.mem_of_getElem? (i := 11) (by decide +kernel), List.mem_of_getElem? (i := 560) (by decide +kernel), List.mem_of_getElem? (i := 561) (by decide +kernel)⟩
theorem lw_p19 : lw_okq (⟨"WhisperRingModel", "skips", "()V"⟩, 21) := ⟨⟨by decide +kernel, by decide +kernel⟩, List.mem_of_getElem? (i := 585) (by decide +kernel), List.mem_of_getElem? (i := 670) (by decide +kernel), List.mem_of_getElem? (i := 671) (by decide +kernel)⟩
theorem lw_p20 : lw_okq (⟨"WhisperRingModel", "here", "()I"⟩, 21) := ⟨⟨by decide +kernel, by decide +kernel⟩, List.mem_of_getElem? (i := 585) (by decide +kernel), List.mem_of_getElem? (i := 674) (by decide +kernel), List.mem_of_getElem? (i := 675) (by decide +kernel)⟩
theorem lw_p21 : lw_okq (⟨"WhisperRingModel", "readItem", "()V"⟩, 21) := ⟨⟨by decide +kernel, by decide +kernel⟩, List.mem_of_getElem? (i := 585) (by decide +kernel), List.mem_of_getElem? (i := 678) (by decide +kernel), List.mem_of_getElem? (i := 679) (by decide +kernel)⟩
theorem lw_p22 : lw_okq (⟨"WhisperRingModel", "number", "(II)I"⟩, 21) := ⟨⟨by decide +kernel, by decide +kernel⟩, List.mem_of_getElem? (i := 585) (by decide +kernel), List.mem_of_getElem? (i := 682) (by decide +kernel), List.mem_of_getElem? (i := 683) (by decide +kernel)⟩
theorem lw_p23 : lw_okq (⟨"WhisperRingModel", "ends", "()V"⟩, 21) := ⟨⟨by decide +kernel, by decide +kernel⟩, List.mem_of_getElem? (i := 585) (by decide +kernel), List.mem_of_getElem? (i := 686) (by decide +kernel), List.mem_of_getElem? (i := 687) (by decide +kernel)⟩
theorem lw_p24 : lw_okq (⟨"WhisperRingModel", "readSaying", "()V"⟩, 21) := ⟨⟨by decide +kernel, by decide +kernel⟩, List.mem_of_getElem? (i := 585) (by decide +kernel), List.mem_of_getElem? (i := 690) (by decide +kernel), List.mem_of_getElem? (i := 691) (by decide +kernel)⟩
theorem lw_p25 : lw_okq (⟨"WhisperRingModel", "isSaying", "(I)Z"⟩, 21) := ⟨⟨by decide +kernel, by decide +kernel⟩, List.mem_of_getElem? (i := 585) (by decide +kernel), List.mem_of_getElem? (i := 701) (by decide +kernel), List.mem_of_getElem? (i := 702) (by decide +kernel)⟩
theorem lw_p26 : lw_okq (⟨"WhisperRingModel", "placeOf", "(II)I"⟩, 21) := ⟨⟨by decide +kernel, by decide +kernel⟩, List.mem_of_getElem? (i := 585) (by decide +kernel), List.mem_of_getElem? (i := 705) (by decide +kernel), List.mem_of_getElem? (i := 706) (by decide +kernel)⟩
theorem lw_p27 : lw_okq (⟨"WhisperRingModel", "ago", "(II)I"⟩, 21) := ⟨⟨by decide +kernel, by decide +kernel⟩, List.mem_of_getElem? (i := 585) (by decide +kernel), List.mem_of_getElem? (i := 709) (by decide +kernel), List.mem_of_getElem? (i := 710) (by decide +kernel)⟩
theorem lw_p28 : lw_okq (⟨"WhisperRingModel", "placeBy", "(IIII)I"⟩, 21) := ⟨⟨by decide +kernel, by decide +kernel⟩, List.mem_of_getElem? (i := 585) (by decide +kernel), List.mem_of_getElem? (i := 713) (by decide +kernel), List.mem_of_getElem? (i := 714) (by decide +kernel)⟩
theorem lw_p29 : lw_okq (⟨"WhisperRingModel", "round", "(I)I"⟩, 21) := ⟨⟨by decide +kernel, by decide +kernel⟩, List.mem_of_getElem? (i := 585) (by decide +kernel), List.mem_of_getElem? (i := 717) (by decide +kernel), List.mem_of_getElem? (i := 718) (by decide +kernel)⟩
theorem lw_p30 : lw_okq (⟨"WhisperRingModel", "lapsOf", "(II)I"⟩, 21) := ⟨⟨by decide +kernel, by decide +kernel⟩, List.mem_of_getElem? (i := 585) (by decide +kernel), List.mem_of_getElem? (i := 721) (by decide +kernel), List.mem_of_getElem? (i := 722) (by decide +kernel)⟩
theorem lw_p31 : lw_okq (⟨"WhisperRingModel", "strengthOf", "(II)I"⟩, 21) := ⟨⟨by decide +kernel, by decide +kernel⟩, List.mem_of_getElem? (i := 585) (by decide +kernel), List.mem_of_getElem? (i := 725) (by decide +kernel), List.mem_of_getElem? (i := 726) (by decide +kernel)⟩
def lw_privs_2 : List (MethodName × Nat) := [(⟨"WhisperRing", "asCurse", "(I)I"⟩, 8), (⟨"WhisperRing", "asLie", "(I)I"⟩, 8), (⟨"WhisperRing", "asHymn", "(I)I"⟩, 8), (⟨"WhisperRingModel", "skips", "()V"⟩, 21), (⟨"WhisperRingModel", "here", "()I"⟩, 21), (⟨"WhisperRingModel", "readItem", "()V"⟩, 21), (⟨"WhisperRingModel", "number", "(II)I"⟩, 21), (⟨"WhisperRingModel", "ends", "()V"⟩, 21), (⟨"WhisperRingModel", "readSaying", "()V"⟩, 21), (⟨"WhisperRingModel", "isSaying", "(I)Z"⟩, 21), (⟨"WhisperRingModel", "placeOf", "(II)I"⟩, 21), (⟨"WhisperRingModel", "ago", "(II)I"⟩, 21), (⟨"WhisperRingModel", "placeBy", "(IIII)I"⟩, 21), (⟨"WhisperRingModel", "round", "(I)I"⟩, 21), (⟨"WhisperRingModel", "lapsOf", "(II)I"⟩, 21), (⟨"WhisperRingModel", "strengthOf", "(II)I"⟩, 21)]
theorem lw_r2 : ∀ q ∈ lw_privs_2, lw_okq q := List.forall_mem_cons.mpr ⟨lw_p16, List.forall_mem_cons.mpr ⟨lw_p17, List.forall_mem_cons.mpr ⟨lw_p18, List.forall_mem_cons.mpr ⟨lw_p19, List.forall_mem_cons.mpr ⟨lw_p20, List.forall_mem_cons.mpr ⟨lw_p21, List.forall_mem_cons.mpr ⟨lw_p22, List.forall_mem_cons.mpr ⟨lw_p23, List.forall_mem_cons.mpr ⟨lw_p24, List.forall_mem_cons.mpr ⟨lw_p25, List.forall_mem_cons.mpr ⟨lw_p26, List.forall_mem_cons.mpr ⟨lw_p27, List.forall_mem_cons.mpr ⟨lw_p28, List.forall_mem_cons.mpr ⟨lw_p29, List.forall_mem_cons.mpr ⟨lw_p30, List.forall_mem_cons.mpr ⟨lw_p31, fun _ h => absurd h List.not_mem_nil⟩⟩⟩⟩⟩⟩⟩⟩⟩⟩⟩⟩⟩⟩⟩⟩
theorem lw_p32 : lw_okq (⟨"WhisperRingModel", "lastOf", "(I)I"⟩, 21) := ⟨⟨by decide +kernel, by decide +kernel⟩, List.mem_of_getElem? (i := 585) (by decide +kernel), List.mem_of_getElem? (i := 729) (by decide +kernel), List.mem_of_getElem? (i := 730) (by decide +kernel)⟩
theorem lw_p33 : lw_okq (⟨"WhisperRingModel", "isPlace", "(I)Z"⟩, 21) := ⟨⟨by decide +kernel, by decide +kernel⟩, List.mem_of_getElem? (i := 585) (by decide +kernel), List.mem_of_getElem? (i := 737) (by decide +kernel), List.mem_of_getElem? (i := 738) (by decide +kernel)⟩
theorem lw_p34 : lw_okq (⟨"WhisperRingModel", "soundsOf", "(II)I"⟩, 21) := ⟨⟨by decide +kernel, by decide +kernel⟩, List.mem_of_getElem? (i := 585) (by decide +kernel), List.mem_of_getElem? (i := 741) (by decide +kernel), List.mem_of_getElem? (i := 742) (by decide +kernel)⟩
theorem lw_p35 : lw_okq (⟨"WhisperRingModel", "clearOf", "(II)I"⟩, 21) := ⟨⟨by decide +kernel, by decide +kernel⟩, List.mem_of_getElem? (i := 585) (by decide +kernel), List.mem_of_getElem? (i := 745) (by decide +kernel), List.mem_of_getElem? (i := 746) (by decide +kernel)⟩
theorem lw_p36 : lw_okq (⟨"WhisperRingModel", "loudOf", "(II)I"⟩, 21) := ⟨⟨by decide +kernel, by decide +kernel⟩, List.mem_of_getElem? (i := 585) (by decide +kernel), List.mem_of_getElem? (i := 749) (by decide +kernel), List.mem_of_getElem? (i := 750) (by decide +kernel)⟩
theorem lw_p37 : lw_okq (⟨"WhisperRingModel", "quietOf", "(I)I"⟩, 21) := ⟨⟨by decide +kernel, by decide +kernel⟩, List.mem_of_getElem? (i := 585) (by decide +kernel), List.mem_of_getElem? (i := 756) (by decide +kernel), List.mem_of_getElem? (i := 757) (by decide +kernel)⟩
theorem lw_p38 : lw_okq (⟨"WhisperRingModel", "notes", "()V"⟩, 21) := ⟨⟨by decide +kernel, by decide +kernel⟩, List.mem_of_getElem? (i := 585) (by decide +kernel), List.mem_of_getElem? (i := 764) (by decide +kernel), List.mem_of_getElem? (i := 765) (by decide +kernel)⟩
theorem lw_p39 : lw_okq (⟨"WhisperRingModel", "alive", "()I"⟩, 21) := ⟨⟨by decide +kernel, by decide +kernel⟩, List.mem_of_getElem? (i := 585) (by decide +kernel), List.mem_of_getElem? (i := 768) (by decide +kernel), List.mem_of_getElem? (i := 769) (by decide +kernel)⟩
theorem lw_p40 : lw_okq (⟨"WhisperRingModel", "placesThat", "(Z)I"⟩, 21) := ⟨⟨by decide +kernel, by decide +kernel⟩, List.mem_of_getElem? (i := 585) (by decide +kernel), List.mem_of_getElem? (i := 791) (by decide +kernel), List.mem_of_getElem? (i := 792) (by decide +kernel)⟩
theorem lw_p41 : lw_okq (⟨"WhisperRingModel", "fits", "(I)Z"⟩, 21) := ⟨⟨by decide +kernel, by decide +kernel⟩, List.mem_of_getElem? (i := 585) (by decide +kernel), List.mem_of_getElem? (i := 830) (by decide +kernel), List.mem_of_getElem? (i := 831) (by decide +kernel)⟩
theorem lw_p42 : lw_okq (⟨"WhisperRingModel", "guessAt", "(II)I"⟩, 21) := ⟨⟨by decide +kernel, by decide +kernel⟩, List.mem_of_getElem? (i := 585) (by decide +kernel), List.mem_of_getElem? (i := 834) (by decide +kernel), List.mem_of_getElem? (i := 835) (by decide +kernel)⟩
def lw_privs_3 : List (MethodName × Nat) := [(⟨"WhisperRingModel", "lastOf", "(I)I"⟩, 21), (⟨"WhisperRingModel", "isPlace", "(I)Z"⟩, 21), (⟨"WhisperRingModel", "soundsOf", "(II)I"⟩, 21), (⟨"WhisperRingModel", "clearOf", "(II)I"⟩, 21), (⟨"WhisperRingModel", "loudOf", "(II)I"⟩, 21), (⟨"WhisperRingModel", "quietOf", "(I)I"⟩, 21), (⟨"WhisperRingModel", "notes", "()V"⟩, 21), (⟨"WhisperRingModel", "alive", "()I"⟩, 21), (⟨"WhisperRingModel", "placesThat", "(Z)I"⟩, 21), (⟨"WhisperRingModel", "fits", "(I)Z"⟩, 21), (⟨"WhisperRingModel", "guessAt", "(II)I"⟩, 21)]
theorem lw_r3 : ∀ q ∈ lw_privs_3, lw_okq q := List.forall_mem_cons.mpr ⟨lw_p32, List.forall_mem_cons.mpr ⟨lw_p33, List.forall_mem_cons.mpr ⟨lw_p34, List.forall_mem_cons.mpr ⟨lw_p35, List.forall_mem_cons.mpr ⟨lw_p36, List.forall_mem_cons.mpr ⟨lw_p37, List.forall_mem_cons.mpr ⟨lw_p38, List.forall_mem_cons.mpr ⟨lw_p39, List.forall_mem_cons.mpr ⟨lw_p40, List.forall_mem_cons.mpr ⟨lw_p41, List.forall_mem_cons.mpr ⟨lw_p42, fun _ h => absurd h List.not_mem_nil⟩⟩⟩⟩⟩⟩⟩⟩⟩⟩⟩
def lw_privs : List (MethodName × Nat) := lw_privs_1 ++ (lw_privs_2 ++ (lw_privs_3))
def lw_tbl : List Cond := k2_sels lw_privs ++ tables_1
theorem lw_privs_ok : ∀ q ∈ lw_privs, lw_okq q := by
  show ∀ q ∈ lw_privs_1 ++ (lw_privs_2 ++ (lw_privs_3)), lw_okq q
  exact List.forall_mem_append.mpr ⟨lw_r1, List.forall_mem_append.mpr ⟨lw_r2, lw_r3⟩⟩
end
section
/-! ===== BEGIN words of one list among another's, by their places ===== -/
theorem goodIn_r {big : List Cond} (ws : List Cond) (ps : List Nat) (hp : ws = ps.filterMap (fun i => big[i]?)) (h : ws.all goodWord = true) : GoodIn big ws := by
  intro w hw
  have h1 := List.all_eq_true.mp h w hw
  rw [hp] at hw
  obtain ⟨i, -, hi⟩ := List.mem_filterMap.mp hw
  have hm : w ∈ big := by first | exact List.mem_of_getElem? hi | exact List.getElem?_mem hi
  exact ⟨hm, good_of_word h1⟩
theorem goodIn_app {big a b : List Cond} (ha : GoodIn big a) (hb : GoodIn big b) : GoodIn big (a ++ b) := fun w h => (List.mem_append.mp h).elim (ha w) (hb w)
theorem goodIn_ca {big a b : List Cond} {c : Cond} (ha : GoodIn big (c :: a)) (hb : GoodIn big b) : GoodIn big (c :: (a ++ b)) := fun w h => (List.mem_cons.mp h).elim (fun e => ha w (List.mem_cons.mpr (Or.inl e))) (fun h => (List.mem_append.mp h).elim (fun h => ha w (List.mem_cons.mpr (Or.inr h))) (hb w))
theorem goodIn_sub {big ws : List Cond} (hm : ∀ w ∈ ws, w ∈ big) (h : ws.all goodWord = true) : GoodIn big ws := fun w hw => ⟨hm w hw, good_of_word (List.all_eq_true.mp h w hw)⟩
/-! ===== END ===== -/

/-! ===== BEGIN printed: names, fields, word lists, decode rows ===== -/
def RX0 : String := "WhisperRing$Hall"
def TX0 : u_T := fun k => match k with
  | 0 => ("WhisperRing$Hall", "places", "I", false)
  | 1 => ("WhisperRing$Hall", "loss", "I", false)
  | 2 => ("WhisperRing$Hall", "niches", "I", false)
  | 3 => ("WhisperRing$Hall", "now", "LWhisperRing$Moment;", true)
  | 4 => ("WhisperRing$Hall", "at", "[I", true)
  | _ => ("WhisperRing$Hall", "strength", "[I", true)
def tyX0 : Nat → FieldType := fun k => match k with
  | 0 => .int
  | 1 => .int
  | 2 => .int
  | 3 => .object "WhisperRing$Moment"
  | 4 => .array .int
  | _ => .array .int
abbrev wsX00 : List Cond := u_ws RX0 TX0 6
theorem nmX0 : ∀ a, a < 6 → ∀ b, b < 6 → a ≠ b → (TX0 a).2.1 ≠ (TX0 b).2.1 := by decide +kernel
theorem tyX0_ok : ∀ k, k < 6 → parseFieldDescriptor (TX0 k).2.2.1 = some (tyX0 k) := by decide +kernel
abbrev cX0_init : ByteArray := prog_2_method_1_code
def yX0_init : MethodName := ⟨RX0, "<init>", "()V"⟩
abbrev cX0_empty : ByteArray := prog_2_method_2_code
def yX0_empty : MethodName := ⟨RX0, "empty", "()V"⟩
abbrev cX0_hasPlace : ByteArray := prog_2_method_3_code
def yX0_hasPlace : MethodName := ⟨RX0, "hasPlace", "(I)Z"⟩
abbrev cX0_hasSaying : ByteArray := prog_2_method_4_code
def yX0_hasSaying : MethodName := ⟨RX0, "hasSaying", "(I)Z"⟩
abbrev cX0_isNiche : ByteArray := prog_2_method_5_code
def yX0_isNiche : MethodName := ⟨RX0, "isNiche", "(I)Z"⟩
abbrev cX0_reach : ByteArray := prog_2_method_6_code
def yX0_reach : MethodName := ⟨RX0, "reach", "(III)I"⟩
abbrev cX0_lapsOf : ByteArray := prog_2_method_7_code
def yX0_lapsOf : MethodName := ⟨RX0, "lapsOf", "(I)I"⟩
abbrev cX0_strengthLeft : ByteArray := prog_2_method_8_code
def yX0_strengthLeft : MethodName := ⟨RX0, "strengthLeft", "(II)I"⟩
abbrev cX0_goneAfter : ByteArray := prog_2_method_9_code
def yX0_goneAfter : MethodName := ⟨RX0, "goneAfter", "(II)I"⟩
abbrev cX0_placeAfter : ByteArray := prog_2_method_10_code
def yX0_placeAfter : MethodName := ⟨RX0, "placeAfter", "(II)I"⟩
abbrev cX0_lapsAfter : ByteArray := prog_2_method_11_code
def yX0_lapsAfter : MethodName := ⟨RX0, "lapsAfter", "(II)I"⟩
abbrev cX0_strengthAfter : ByteArray := prog_2_method_12_code
def yX0_strengthAfter : MethodName := ⟨RX0, "strengthAfter", "(II)I"⟩
abbrev cX0_sounds : ByteArray := prog_2_method_13_code
def yX0_sounds : MethodName := ⟨RX0, "sounds", "(III)Z"⟩
abbrev cX0_listen : ByteArray := prog_2_method_14_code
def yX0_listen : MethodName := ⟨RX0, "listen", "(I)V"⟩
abbrev cX0_soundingAt : ByteArray := prog_2_method_15_code
def yX0_soundingAt : MethodName := ⟨RX0, "soundingAt", "(I)I"⟩
abbrev cX0_strengthAt : ByteArray := prog_2_method_16_code
def yX0_strengthAt : MethodName := ⟨RX0, "strengthAt", "(I)I"⟩
abbrev cX0_clearAt : ByteArray := prog_2_method_17_code
def yX0_clearAt : MethodName := ⟨RX0, "clearAt", "(I)I"⟩
abbrev cX0_isSea : ByteArray := prog_2_method_18_code
def yX0_isSea : MethodName := ⟨RX0, "isSea", "(I)Z"⟩
abbrev cX0_lasting : ByteArray := prog_2_method_19_code
def yX0_lasting : MethodName := ⟨RX0, "lasting", "()I"⟩
abbrev cX0_strengthOf : ByteArray := prog_2_method_20_code
def yX0_strengthOf : MethodName := ⟨RX0, "strengthOf", "(I)I"⟩
abbrev cX0_placesThatSound : ByteArray := prog_2_method_21_code
def yX0_placesThatSound : MethodName := ⟨RX0, "placesThatSound", "()I"⟩
abbrev cX0_seas : ByteArray := prog_2_method_22_code
def yX0_seas : MethodName := ⟨RX0, "seas", "()I"⟩
abbrev cX0_fewestToHush : ByteArray := prog_2_method_23_code
def yX0_fewestToHush : MethodName := ⟨RX0, "fewestToHush", "(I)I"⟩
abbrev cX0_lastOf : ByteArray := prog_2_method_24_code
def yX0_lastOf : MethodName := ⟨RX0, "lastOf", "(I)I"⟩
abbrev cX0_quietOf : ByteArray := prog_2_method_25_code
def yX0_quietOf : MethodName := ⟨RX0, "quietOf", "(I)I"⟩
abbrev cX0_whenAt : ByteArray := prog_2_method_26_code
def yX0_whenAt : MethodName := ⟨RX0, "whenAt", "(II)I"⟩
abbrev cX0_oftenAt : ByteArray := prog_2_method_27_code
def yX0_oftenAt : MethodName := ⟨RX0, "oftenAt", "(II)I"⟩
abbrev cX0_meetingOf : ByteArray := prog_2_method_28_code
def yX0_meetingOf : MethodName := ⟨RX0, "meetingOf", "(II)I"⟩
abbrev cX0_ticksTo : ByteArray := prog_2_method_29_code
def yX0_ticksTo : MethodName := ⟨RX0, "ticksTo", "(IIII)I"⟩
abbrev cX0_firstWait : ByteArray := prog_2_method_30_code
def yX0_firstWait : MethodName := ⟨RX0, "firstWait", "(III)I"⟩
def RX1 : String := "WhisperRing$Hearsay"
def TX1 : u_T := fun k => match k with
  | 0 => ("WhisperRing$Hearsay", "size", "I", false)
  | 1 => ("WhisperRing$Hearsay", "at", "[I", true)
  | 2 => ("WhisperRing$Hearsay", "behind", "[I", true)
  | _ => ("WhisperRing$Hearsay", "there", "[I", true)
def tyX1 : Nat → FieldType := fun k => match k with
  | 0 => .int
  | 1 => .array .int
  | 2 => .array .int
  | _ => .array .int
abbrev wsX10 : List Cond := u_ws RX1 TX1 4
theorem nmX1 : ∀ a, a < 4 → ∀ b, b < 4 → a ≠ b → (TX1 a).2.1 ≠ (TX1 b).2.1 := by decide +kernel
theorem tyX1_ok : ∀ k, k < 4 → parseFieldDescriptor (TX1 k).2.2.1 = some (tyX1 k) := by decide +kernel
abbrev cX1_init : ByteArray := prog_3_method_1_code
def yX1_init : MethodName := ⟨RX1, "<init>", "()V"⟩
abbrev cX1_add : ByteArray := prog_3_method_2_code
def yX1_add : MethodName := ⟨RX1, "add", "(III)Z"⟩
abbrev cX1_placeIn : ByteArray := prog_3_method_3_code
def yX1_placeIn : MethodName := ⟨RX1, "placeIn", "(I)I"⟩
abbrev cX1_speedIn : ByteArray := prog_3_method_4_code
def yX1_speedIn : MethodName := ⟨RX1, "speedIn", "(I)I"⟩
abbrev cX1_wayIn : ByteArray := prog_3_method_5_code
def yX1_wayIn : MethodName := ⟨RX1, "wayIn", "(I)I"⟩
abbrev cX1_placeBehind : ByteArray := prog_3_method_6_code
def yX1_placeBehind : MethodName := ⟨RX1, "placeBehind", "(LWhisperRing$Hall;II)I"⟩
abbrev cX1_fits : ByteArray := prog_3_method_7_code
def yX1_fits : MethodName := ⟨RX1, "fits", "(LWhisperRing$Hall;I)Z"⟩
def RX2 : String := "WhisperRing$Moment"
def TX2 : u_T := fun k => match k with
  | 0 => ("WhisperRing$Moment", "tick", "I", false)
  | 1 => ("WhisperRing$Moment", "sayings", "I", false)
  | 2 => ("WhisperRing$Moment", "hushed", "I", false)
  | 3 => ("WhisperRing$Moment", "noted", "I", false)
  | 4 => ("WhisperRing$Moment", "from", "[I", true)
  | 5 => ("WhisperRing$Moment", "speed", "[I", true)
  | 6 => ("WhisperRing$Moment", "way", "[I", true)
  | 7 => ("WhisperRing$Moment", "loud", "[I", true)
  | 8 => ("WhisperRing$Moment", "saidAt", "[I", true)
  | _ => ("WhisperRing$Moment", "deeds", "[I", true)
def tyX2 : Nat → FieldType := fun k => match k with
  | 0 => .int
  | 1 => .int
  | 2 => .int
  | 3 => .int
  | 4 => .array .int
  | 5 => .array .int
  | 6 => .array .int
  | 7 => .array .int
  | 8 => .array .int
  | _ => .array .int
abbrev wsX20 : List Cond := u_ws RX2 TX2 10
theorem nmX2 : ∀ a, a < 10 → ∀ b, b < 10 → a ≠ b → (TX2 a).2.1 ≠ (TX2 b).2.1 := by decide +kernel
theorem tyX2_ok : ∀ k, k < 10 → parseFieldDescriptor (TX2 k).2.2.1 = some (tyX2 k) := by decide +kernel
abbrev cX2_init : ByteArray := prog_4_method_1_code
def yX2_init : MethodName := ⟨RX2, "<init>", "()V"⟩
abbrev cX2_empty : ByteArray := prog_4_method_2_code
def yX2_empty : MethodName := ⟨RX2, "empty", "()V"⟩
abbrev cX2_become : ByteArray := prog_4_method_3_code
def yX2_become : MethodName := ⟨RX2, "become", "(LWhisperRing$Moment;)V"⟩
abbrev cX2_isHushed : ByteArray := prog_4_method_4_code
def yX2_isHushed : MethodName := ⟨RX2, "isHushed", "(I)Z"⟩
abbrev cX2_add : ByteArray := prog_4_method_5_code
def yX2_add : MethodName := ⟨RX2, "add", "(IIII)Z"⟩
abbrev cX2_goBy : ByteArray := prog_4_method_6_code
def yX2_goBy : MethodName := ⟨RX2, "goBy", "(I)V"⟩
abbrev cX2_hush : ByteArray := prog_4_method_7_code
def yX2_hush : MethodName := ⟨RX2, "hush", "(I)V"⟩
abbrev cX2_note : ByteArray := prog_4_method_8_code
def yX2_note : MethodName := ⟨RX2, "note", "(I)V"⟩
abbrev cX2_takeBack : ByteArray := prog_4_method_9_code
def yX2_takeBack : MethodName := ⟨RX2, "takeBack", "()Z"⟩
def RX3 : String := "WhisperRing$Script"
def TX3 : u_T := fun k => match k with
  | 0 => ("WhisperRing$Script", "size", "I", false)
  | 1 => ("WhisperRing$Script", "bytes", "[I", true)
  | 2 => ("WhisperRing$Script", "next", "I", false)
  | 3 => ("WhisperRing$Script", "tokenAt", "I", false)
  | 4 => ("WhisperRing$Script", "token", "I", false)
  | 5 => ("WhisperRing$Script", "value", "I", false)
  | _ => ("WhisperRing$Script", "lossTold", "Z", false)
def tyX3 : Nat → FieldType := fun k => match k with
  | 0 => .int
  | 1 => .array .int
  | 2 => .int
  | 3 => .int
  | 4 => .int
  | 5 => .int
  | _ => .boolean
abbrev wsX30 : List Cond := u_ws RX3 TX3 7
theorem nmX3 : ∀ a, a < 7 → ∀ b, b < 7 → a ≠ b → (TX3 a).2.1 ≠ (TX3 b).2.1 := by decide +kernel
theorem tyX3_ok : ∀ k, k < 7 → parseFieldDescriptor (TX3 k).2.2.1 = some (tyX3 k) := by decide +kernel
abbrev cX3_init : ByteArray := prog_5_method_1_code
def yX3_init : MethodName := ⟨RX3, "<init>", "()V"⟩
abbrev cX3_append : ByteArray := prog_5_method_2_code
def yX3_append : MethodName := ⟨RX3, "append", "(I)Z"⟩
abbrev cX3_readInto : ByteArray := prog_5_method_3_code
def yX3_readInto : MethodName := ⟨RX3, "readInto", "(LWhisperRing$Hall;)I"⟩
abbrev cX3_readItem : ByteArray := prog_5_method_4_code
def yX3_readItem : MethodName := ⟨RX3, "readItem", "(LWhisperRing$Hall;I)Z"⟩
abbrev cX3_readPlaces : ByteArray := prog_5_method_5_code
def yX3_readPlaces : MethodName := ⟨RX3, "readPlaces", "(LWhisperRing$Hall;)Z"⟩
abbrev cX3_readLoss : ByteArray := prog_5_method_6_code
def yX3_readLoss : MethodName := ⟨RX3, "readLoss", "(LWhisperRing$Hall;)Z"⟩
abbrev cX3_readNiche : ByteArray := prog_5_method_7_code
def yX3_readNiche : MethodName := ⟨RX3, "readNiche", "(LWhisperRing$Hall;)Z"⟩
abbrev cX3_readSaying : ByteArray := prog_5_method_8_code
def yX3_readSaying : MethodName := ⟨RX3, "readSaying", "(LWhisperRing$Hall;)Z"⟩
abbrev cX3_readNumber : ByteArray := prog_5_method_9_code
def yX3_readNumber : MethodName := ⟨RX3, "readNumber", "(II)Z"⟩
abbrev cX3_readStop : ByteArray := prog_5_method_10_code
def yX3_readStop : MethodName := ⟨RX3, "readStop", "()Z"⟩
abbrev cX3_step : ByteArray := prog_5_method_11_code
def yX3_step : MethodName := ⟨RX3, "step", "()V"⟩
abbrev cX3_tokenOf : ByteArray := prog_5_method_12_code
def yX3_tokenOf : MethodName := ⟨RX3, "tokenOf", "(I)I"⟩
abbrev cX3_weigh : ByteArray := prog_5_method_13_code
def yX3_weigh : MethodName := ⟨RX3, "weigh", "(I)V"⟩
def RX4 : String := "WhisperRing"
def TX4 : u_T := fun k => match k with
  | 0 => ("WhisperRing", "script", "LWhisperRing$Script;", true)
  | 1 => ("WhisperRing", "hearsay", "LWhisperRing$Hearsay;", true)
  | 2 => ("WhisperRing", "images", "[LWhisperRing$Moment;", true)
  | 3 => ("WhisperRing", "kept", "[Z", true)
  | 4 => ("WhisperRing", "guessesAt", "[I", true)
  | 5 => ("WhisperRing", "hall", "LWhisperRing$Hall;", false)
  | 6 => ("WhisperRing", "draft", "LWhisperRing$Hall;", false)
  | _ => ("WhisperRing", "trace", "J", false)
def tyX4 : Nat → FieldType := fun k => match k with
  | 0 => .object "WhisperRing$Script"
  | 1 => .object "WhisperRing$Hearsay"
  | 2 => .array (.object "WhisperRing$Moment")
  | 3 => .array .boolean
  | 4 => .array .int
  | 5 => .object "WhisperRing$Hall"
  | 6 => .object "WhisperRing$Hall"
  | _ => .long
abbrev wsX40 : List Cond := u_ws RX4 TX4 8
theorem nmX4 : ∀ a, a < 8 → ∀ b, b < 8 → a ≠ b → (TX4 a).2.1 ≠ (TX4 b).2.1 := by decide +kernel
theorem tyX4_ok : ∀ k, k < 8 → parseFieldDescriptor (TX4 k).2.2.1 = some (tyX4 k) := by decide +kernel
abbrev cX4_init : ByteArray := prog_1_method_1_code
def yX4_init : MethodName := ⟨RX4, "<init>", "()V"⟩
abbrev cX4_type : ByteArray := prog_1_method_2_code
def yX4_type : MethodName := ⟨RX4, "type", "(I)I"⟩
abbrev cX4_clear : ByteArray := prog_1_method_3_code
def yX4_clear : MethodName := ⟨RX4, "clear", "()I"⟩
abbrev cX4_gallery : ByteArray := prog_1_method_4_code
def yX4_gallery : MethodName := ⟨RX4, "gallery", "()I"⟩
abbrev cX4_saying : ByteArray := prog_1_method_5_code
def yX4_saying : MethodName := ⟨RX4, "saying", "(II)I"⟩
abbrev cX4_place : ByteArray := prog_1_method_6_code
def yX4_place : MethodName := ⟨RX4, "place", "(II)I"⟩
abbrev cX4_ticks : ByteArray := prog_1_method_7_code
def yX4_ticks : MethodName := ⟨RX4, "ticks", "(I)I"⟩
abbrev cX4_says : ByteArray := prog_1_method_8_code
def yX4_says : MethodName := ⟨RX4, "says", "(IIII)I"⟩
abbrev cX4_hushes : ByteArray := prog_1_method_9_code
def yX4_hushes : MethodName := ⟨RX4, "hushes", "(I)I"⟩
abbrev cX4_undo : ByteArray := prog_1_method_10_code
def yX4_undo : MethodName := ⟨RX4, "undo", "()I"⟩
abbrev cX4_now : ByteArray := prog_1_method_11_code
def yX4_now : MethodName := ⟨RX4, "now", "(I)I"⟩
abbrev cX4_when : ByteArray := prog_1_method_12_code
def yX4_when : MethodName := ⟨RX4, "when", "(III)I"⟩
abbrev cX4_meet : ByteArray := prog_1_method_13_code
def yX4_meet : MethodName := ⟨RX4, "meet", "(II)I"⟩
abbrev cX4_best : ByteArray := prog_1_method_14_code
def yX4_best : MethodName := ⟨RX4, "best", "(IIIII)I"⟩
abbrev cX4_stills : ByteArray := prog_1_method_15_code
def yX4_stills : MethodName := ⟨RX4, "stills", "(I)I"⟩
abbrev cX4_odds : ByteArray := prog_1_method_16_code
def yX4_odds : MethodName := ⟨RX4, "odds", "(IIII)I"⟩
abbrev cX4_hears : ByteArray := prog_1_method_17_code
def yX4_hears : MethodName := ⟨RX4, "hears", "(III)I"⟩
abbrev cX4_forget : ByteArray := prog_1_method_18_code
def yX4_forget : MethodName := ⟨RX4, "forget", "()I"⟩
abbrev cX4_guesses : ByteArray := prog_1_method_19_code
def yX4_guesses : MethodName := ⟨RX4, "guesses", "(I)I"⟩
abbrev cX4_ask : ByteArray := prog_1_method_20_code
def yX4_ask : MethodName := ⟨RX4, "ask", "(I)I"⟩
abbrev cX4_mark : ByteArray := prog_1_method_21_code
def yX4_mark : MethodName := ⟨RX4, "mark", "(II)I"⟩
abbrev cX4_keep : ByteArray := prog_1_method_22_code
def yX4_keep : MethodName := ⟨RX4, "keep", "(I)I"⟩
abbrev cX4_back : ByteArray := prog_1_method_23_code
def yX4_back : MethodName := ⟨RX4, "back", "(I)I"⟩
abbrev cX4_count : ByteArray := prog_1_method_24_code
def yX4_count : MethodName := ⟨RX4, "count", "(I)I"⟩
abbrev cX4_trace : ByteArray := prog_1_method_25_code
def yX4_trace : MethodName := ⟨RX4, "trace", "()J"⟩
abbrev cX4_within : ByteArray := prog_1_method_26_code
def yX4_within : MethodName := ⟨RX4, "within", "(III)Z"⟩
abbrev cX4_maySay : ByteArray := prog_1_method_27_code
def yX4_maySay : MethodName := ⟨RX4, "maySay", "(IIII)Z"⟩
abbrev cX4_lastingParts : ByteArray := prog_1_method_28_code
def yX4_lastingParts : MethodName := ⟨RX4, "lastingParts", "(IIII)I"⟩
abbrev cX4_commonDivisor : ByteArray := prog_1_method_29_code
def yX4_commonDivisor : MethodName := ⟨RX4, "commonDivisor", "(II)I"⟩
abbrev cX4_guessCount : ByteArray := prog_1_method_30_code
def yX4_guessCount : MethodName := ⟨RX4, "guessCount", "()I"⟩
abbrev cX4_firstGuess : ByteArray := prog_1_method_31_code
def yX4_firstGuess : MethodName := ⟨RX4, "firstGuess", "()I"⟩
abbrev cX4_sortGuesses : ByteArray := prog_1_method_32_code
def yX4_sortGuesses : MethodName := ⟨RX4, "sortGuesses", "(I)I"⟩
abbrev cX4_asSaying : ByteArray := prog_1_method_33_code
def yX4_asSaying : MethodName := ⟨RX4, "asSaying", "(I)I"⟩
abbrev cX4_asVow : ByteArray := prog_1_method_34_code
def yX4_asVow : MethodName := ⟨RX4, "asVow", "(I)I"⟩
abbrev cX4_asRumour : ByteArray := prog_1_method_35_code
def yX4_asRumour : MethodName := ⟨RX4, "asRumour", "(I)I"⟩
abbrev cX4_asCurse : ByteArray := prog_1_method_36_code
def yX4_asCurse : MethodName := ⟨RX4, "asCurse", "(I)I"⟩
abbrev cX4_asLie : ByteArray := prog_1_method_37_code
def yX4_asLie : MethodName := ⟨RX4, "asLie", "(I)I"⟩
abbrev cX4_asHymn : ByteArray := prog_1_method_38_code
def yX4_asHymn : MethodName := ⟨RX4, "asHymn", "(I)I"⟩
def RX5 : String := "WhisperRingModel"
def TX5 : u_T := fun k => match k with
  | 0 => ("WhisperRingModel", "text", "[I", true)
  | 1 => ("WhisperRingModel", "length", "I", false)
  | 2 => ("WhisperRingModel", "places", "I", false)
  | 3 => ("WhisperRingModel", "loss", "I", false)
  | 4 => ("WhisperRingModel", "niches", "I", false)
  | 5 => ("WhisperRingModel", "st", "[I", true)
  | 6 => ("WhisperRingModel", "book", "[I", true)
  | 7 => ("WhisperRingModel", "undos", "I", false)
  | 8 => ("WhisperRingModel", "images", "[I", true)
  | 9 => ("WhisperRingModel", "isKept", "[Z", true)
  | 10 => ("WhisperRingModel", "heard", "[I", true)
  | 11 => ("WhisperRingModel", "heardMany", "I", false)
  | 12 => ("WhisperRingModel", "trail", "J", false)
  | 13 => ("WhisperRingModel", "at", "I", false)
  | 14 => ("WhisperRingModel", "wrong", "I", false)
  | 15 => ("WhisperRingModel", "items", "I", false)
  | 16 => ("WhisperRingModel", "readPlaces", "I", false)
  | 17 => ("WhisperRingModel", "readLoss", "I", false)
  | 18 => ("WhisperRingModel", "saidLoss", "Z", false)
  | 19 => ("WhisperRingModel", "readNiches", "I", false)
  | _ => ("WhisperRingModel", "read", "[I", true)
def tyX5 : Nat → FieldType := fun k => match k with
  | 0 => .array .int
  | 1 => .int
  | 2 => .int
  | 3 => .int
  | 4 => .int
  | 5 => .array .int
  | 6 => .array .int
  | 7 => .int
  | 8 => .array .int
  | 9 => .array .boolean
  | 10 => .array .int
  | 11 => .int
  | 12 => .long
  | 13 => .int
  | 14 => .int
  | 15 => .int
  | 16 => .int
  | 17 => .int
  | 18 => .boolean
  | 19 => .int
  | _ => .array .int
abbrev wsX50 : List Cond := u_ws RX5 TX5 21
theorem nmX5 : ∀ a, a < 21 → ∀ b, b < 21 → a ≠ b → (TX5 a).2.1 ≠ (TX5 b).2.1 := by decide +kernel
theorem tyX5_ok : ∀ k, k < 21 → parseFieldDescriptor (TX5 k).2.2.1 = some (tyX5 k) := by decide +kernel
abbrev cX5_init : ByteArray := prog_7_method_1_code
def yX5_init : MethodName := ⟨RX5, "<init>", "()V"⟩
abbrev cX5_in : ByteArray := prog_7_method_3_code
def yX5_in : MethodName := ⟨RX5, "in", "(III)Z"⟩
abbrev cX5_has : ByteArray := prog_7_method_4_code
def yX5_has : MethodName := ⟨RX5, "has", "(II)Z"⟩
abbrev cX5_bits : ByteArray := prog_7_method_5_code
def yX5_bits : MethodName := ⟨RX5, "bits", "(I)I"⟩
abbrev cX5_bring : ByteArray := prog_7_method_6_code
def yX5_bring : MethodName := ⟨RX5, "bring", "([II[III)V"⟩
abbrev cX5_isSaying : ByteArray := prog_7_method_7_code
def yX5_isSaying : MethodName := ⟨RX5, "isSaying", "(I)Z"⟩
abbrev cX5_isPlace : ByteArray := prog_7_method_8_code
def yX5_isPlace : MethodName := ⟨RX5, "isPlace", "(I)Z"⟩
abbrev cX5_type : ByteArray := prog_7_method_9_code
def yX5_type : MethodName := ⟨RX5, "type", "(I)I"⟩
abbrev cX5_clear : ByteArray := prog_7_method_10_code
def yX5_clear : MethodName := ⟨RX5, "clear", "()I"⟩
abbrev cX5_here : ByteArray := prog_7_method_11_code
def yX5_here : MethodName := ⟨RX5, "here", "()I"⟩
abbrev cX5_skips : ByteArray := prog_7_method_12_code
def yX5_skips : MethodName := ⟨RX5, "skips", "()V"⟩
abbrev cX5_number : ByteArray := prog_7_method_13_code
def yX5_number : MethodName := ⟨RX5, "number", "(II)I"⟩
abbrev cX5_ends : ByteArray := prog_7_method_14_code
def yX5_ends : MethodName := ⟨RX5, "ends", "()V"⟩
abbrev cX5_readSaying : ByteArray := prog_7_method_15_code
def yX5_readSaying : MethodName := ⟨RX5, "readSaying", "()V"⟩
abbrev cX5_readItem : ByteArray := prog_7_method_16_code
def yX5_readItem : MethodName := ⟨RX5, "readItem", "()V"⟩
abbrev cX5_gallery : ByteArray := prog_7_method_17_code
def yX5_gallery : MethodName := ⟨RX5, "gallery", "()I"⟩
abbrev cX5_round : ByteArray := prog_7_method_18_code
def yX5_round : MethodName := ⟨RX5, "round", "(I)I"⟩
abbrev cX5_placeBy : ByteArray := prog_7_method_19_code
def yX5_placeBy : MethodName := ⟨RX5, "placeBy", "(IIII)I"⟩
abbrev cX5_ago : ByteArray := prog_7_method_20_code
def yX5_ago : MethodName := ⟨RX5, "ago", "(II)I"⟩
abbrev cX5_placeOf : ByteArray := prog_7_method_21_code
def yX5_placeOf : MethodName := ⟨RX5, "placeOf", "(II)I"⟩
abbrev cX5_lapsOf : ByteArray := prog_7_method_22_code
def yX5_lapsOf : MethodName := ⟨RX5, "lapsOf", "(II)I"⟩
abbrev cX5_strengthOf : ByteArray := prog_7_method_23_code
def yX5_strengthOf : MethodName := ⟨RX5, "strengthOf", "(II)I"⟩
abbrev cX5_soundsOf : ByteArray := prog_7_method_24_code
def yX5_soundsOf : MethodName := ⟨RX5, "soundsOf", "(II)I"⟩
abbrev cX5_loudOf : ByteArray := prog_7_method_25_code
def yX5_loudOf : MethodName := ⟨RX5, "loudOf", "(II)I"⟩
abbrev cX5_clearOf : ByteArray := prog_7_method_26_code
def yX5_clearOf : MethodName := ⟨RX5, "clearOf", "(II)I"⟩
abbrev cX5_lastOf : ByteArray := prog_7_method_27_code
def yX5_lastOf : MethodName := ⟨RX5, "lastOf", "(I)I"⟩
abbrev cX5_quietOf : ByteArray := prog_7_method_28_code
def yX5_quietOf : MethodName := ⟨RX5, "quietOf", "(I)I"⟩
abbrev cX5_saying : ByteArray := prog_7_method_29_code
def yX5_saying : MethodName := ⟨RX5, "saying", "(II)I"⟩
abbrev cX5_place : ByteArray := prog_7_method_30_code
def yX5_place : MethodName := ⟨RX5, "place", "(II)I"⟩
abbrev cX5_notes : ByteArray := prog_7_method_31_code
def yX5_notes : MethodName := ⟨RX5, "notes", "()V"⟩
abbrev cX5_alive : ByteArray := prog_7_method_32_code
def yX5_alive : MethodName := ⟨RX5, "alive", "()I"⟩
abbrev cX5_ticks : ByteArray := prog_7_method_33_code
def yX5_ticks : MethodName := ⟨RX5, "ticks", "(I)I"⟩
abbrev cX5_says : ByteArray := prog_7_method_34_code
def yX5_says : MethodName := ⟨RX5, "says", "(IIII)I"⟩
abbrev cX5_hushes : ByteArray := prog_7_method_35_code
def yX5_hushes : MethodName := ⟨RX5, "hushes", "(I)I"⟩
abbrev cX5_undo : ByteArray := prog_7_method_36_code
def yX5_undo : MethodName := ⟨RX5, "undo", "()I"⟩
abbrev cX5_placesThat : ByteArray := prog_7_method_37_code
def yX5_placesThat : MethodName := ⟨RX5, "placesThat", "(Z)I"⟩
abbrev cX5_now : ByteArray := prog_7_method_38_code
def yX5_now : MethodName := ⟨RX5, "now", "(I)I"⟩
abbrev cX5_when : ByteArray := prog_7_method_39_code
def yX5_when : MethodName := ⟨RX5, "when", "(III)I"⟩
abbrev cX5_meet : ByteArray := prog_7_method_40_code
def yX5_meet : MethodName := ⟨RX5, "meet", "(II)I"⟩
abbrev cX5_best : ByteArray := prog_7_method_41_code
def yX5_best : MethodName := ⟨RX5, "best", "(IIIII)I"⟩
abbrev cX5_stills : ByteArray := prog_7_method_42_code
def yX5_stills : MethodName := ⟨RX5, "stills", "(I)I"⟩
abbrev cX5_divisor : ByteArray := prog_7_method_43_code
def yX5_divisor : MethodName := ⟨RX5, "divisor", "(II)I"⟩
abbrev cX5_odds : ByteArray := prog_7_method_44_code
def yX5_odds : MethodName := ⟨RX5, "odds", "(IIII)I"⟩
abbrev cX5_hears : ByteArray := prog_7_method_45_code
def yX5_hears : MethodName := ⟨RX5, "hears", "(III)I"⟩
abbrev cX5_forget : ByteArray := prog_7_method_46_code
def yX5_forget : MethodName := ⟨RX5, "forget", "()I"⟩
abbrev cX5_fits : ByteArray := prog_7_method_47_code
def yX5_fits : MethodName := ⟨RX5, "fits", "(I)Z"⟩
abbrev cX5_guessAt : ByteArray := prog_7_method_48_code
def yX5_guessAt : MethodName := ⟨RX5, "guessAt", "(II)I"⟩
abbrev cX5_guesses : ByteArray := prog_7_method_49_code
def yX5_guesses : MethodName := ⟨RX5, "guesses", "(I)I"⟩
abbrev cX5_ask : ByteArray := prog_7_method_50_code
def yX5_ask : MethodName := ⟨RX5, "ask", "(I)I"⟩
abbrev cX5_mark : ByteArray := prog_7_method_51_code
def yX5_mark : MethodName := ⟨RX5, "mark", "(II)I"⟩
abbrev cX5_keep : ByteArray := prog_7_method_52_code
def yX5_keep : MethodName := ⟨RX5, "keep", "(I)I"⟩
abbrev cX5_back : ByteArray := prog_7_method_53_code
def yX5_back : MethodName := ⟨RX5, "back", "(I)I"⟩
abbrev cX5_count : ByteArray := prog_7_method_54_code
def yX5_count : MethodName := ⟨RX5, "count", "(I)I"⟩
abbrev cX5_trace : ByteArray := prog_7_method_55_code
def yX5_trace : MethodName := ⟨RX5, "trace", "()J"⟩
def RJ6 : String := "java/lang/Integer"
def TJ6 : u_T := fun k => match k with
  | _ => ("", "", "", false)
def tyJ6 : Nat → FieldType := fun k => match k with
  | _ => .int
abbrev wsJ60 : List Cond := u_ws RJ6 TJ6 0
theorem nmJ6 : ∀ a, a < 0 → ∀ b, b < 0 → a ≠ b → (TJ6 a).2.1 ≠ (TJ6 b).2.1 := by decide +kernel
theorem tyJ6_ok : ∀ k, k < 0 → parseFieldDescriptor (TJ6 k).2.2.1 = some (tyJ6 k) := by decide +kernel
abbrev cJ6_bitCount_0f7a4 : ByteArray := prog_8_method_49_code
def yJ6_bitCount_0f7a4 : MethodName := ⟨RJ6, "bitCount", "(I)I"⟩
def RJ9 : String := "java/lang/Math"
def TJ9 : u_T := fun k => match k with
  | _ => ("", "", "", false)
def tyJ9 : Nat → FieldType := fun k => match k with
  | _ => .int
abbrev wsJ90 : List Cond := u_ws RJ9 TJ9 0
theorem nmJ9 : ∀ a, a < 0 → ∀ b, b < 0 → a ≠ b → (TJ9 a).2.1 ≠ (TJ9 b).2.1 := by decide +kernel
theorem tyJ9_ok : ∀ k, k < 0 → parseFieldDescriptor (TJ9 k).2.2.1 = some (tyJ9 k) := by decide +kernel
abbrev cJ9_floorMod_7cf53 : ByteArray := prog_9_method_50_code
def yJ9_floorMod_7cf53 : MethodName := ⟨RJ9, "floorMod", "(II)I"⟩
abbrev cJ9_max_7cf53 : ByteArray := prog_9_method_65_code
def yJ9_max_7cf53 : MethodName := ⟨RJ9, "max", "(II)I"⟩
def RJ10 : String := "java/lang/System"
def TJ10 : u_T := fun k => match k with
  | _ => ("", "", "", false)
def tyJ10 : Nat → FieldType := fun k => match k with
  | _ => .int
abbrev wsJ100 : List Cond := u_ws RJ10 TJ10 0
theorem nmJ10 : ∀ a, a < 0 → ∀ b, b < 0 → a ≠ b → (TJ10 a).2.1 ≠ (TJ10 b).2.1 := by decide +kernel
theorem tyJ10_ok : ∀ k, k < 0 → parseFieldDescriptor (TJ10 k).2.2.1 = some (tyJ10 k) := by decide +kernel
def RL : String := "WhisperRingLaw"
abbrev cL_law : ByteArray := code
def yL_law : MethodName := ⟨RL, "law", "([I)Z"⟩
def wsX2_init : List Cond := .code yX2_init cX2_init 1 none :: ([.methodLink RX2 3 objectInit, .instanceMethod objectInit, .code objectInit ⟨#[0xb1]⟩ 1 none, .arrayClass .int, .fieldLink RX2 9 "WhisperRing$Moment" "from" "[I", .fieldLink RX2 15 "WhisperRing$Moment" "speed" "[I", .fieldLink RX2 18 "WhisperRing$Moment" "way" "[I", .fieldLink RX2 21 "WhisperRing$Moment" "loud" "[I", .fieldLink RX2 24 "WhisperRing$Moment" "saidAt" "[I", .fieldLink RX2 27 "WhisperRing$Moment" "deeds" "[I"] ++ wsX20)
def wsX0_init : List Cond := .code yX0_init cX0_init 1 none :: ([.methodLink RX0 3 objectInit, .instanceMethod objectInit, .code objectInit ⟨#[0xb1]⟩ 1 none, .fieldLink RX0 9 "WhisperRing$Hall" "places" "I", .fieldLink RX0 15 "WhisperRing$Hall" "loss" "I", .classLink RX0 18 RX2, .instantiable RX2 10, .initialized RX2, .fieldLink RX0 21 "WhisperRing$Hall" "now" "LWhisperRing$Moment;", .arrayClass .int, .fieldLink RX0 25 "WhisperRing$Hall" "at" "[I", .fieldLink RX0 29 "WhisperRing$Hall" "strength" "[I", .instanceMethod yX2_init, .code yX2_init cX2_init 1 none, .methodLink RX2 3 objectInit, .fieldLink RX2 9 "WhisperRing$Moment" "from" "[I", .fieldLink RX2 15 "WhisperRing$Moment" "speed" "[I", .fieldLink RX2 18 "WhisperRing$Moment" "way" "[I", .fieldLink RX2 21 "WhisperRing$Moment" "loud" "[I", .fieldLink RX2 24 "WhisperRing$Moment" "saidAt" "[I", .fieldLink RX2 27 "WhisperRing$Moment" "deeds" "[I"] ++ wsX00 ++ wsX20)
def wsX2_empty : List Cond := .code yX2_empty cX2_empty 1 none :: ([.fieldLink RX2 30 "WhisperRing$Moment" "tick" "I", .fieldLink RX2 34 "WhisperRing$Moment" "sayings" "I", .fieldLink RX2 37 "WhisperRing$Moment" "hushed" "I", .fieldLink RX2 40 "WhisperRing$Moment" "noted" "I"] ++ wsX20)
def wsX0_empty : List Cond := .code yX0_empty cX0_empty 1 none :: ([.fieldLink RX0 9 "WhisperRing$Hall" "places" "I", .fieldLink RX0 15 "WhisperRing$Hall" "loss" "I", .fieldLink RX0 32 "WhisperRing$Hall" "niches" "I", .fieldLink RX0 21 "WhisperRing$Hall" "now" "LWhisperRing$Moment;", .methodLink RX0 35 yX2_empty, .instanceMethod yX2_empty, .selects RX2 yX2_empty yX2_empty, .initialized RX2, .code yX2_empty cX2_empty 1 none, .fieldLink RX2 30 "WhisperRing$Moment" "tick" "I", .fieldLink RX2 34 "WhisperRing$Moment" "sayings" "I", .fieldLink RX2 37 "WhisperRing$Moment" "hushed" "I", .fieldLink RX2 40 "WhisperRing$Moment" "noted" "I"] ++ wsX00 ++ wsX20)
def wsX4_within : List Cond := .code yX4_within cX4_within 3 (some .boolean) :: ([])
def wsX0_hasPlace : List Cond := .code yX0_hasPlace cX0_hasPlace 2 (some .boolean) :: ([.fieldLink RX0 9 "WhisperRing$Hall" "places" "I", .static yX4_within, .initialized RX4, .code yX4_within cX4_within 3 (some .boolean)] ++ wsX00)
def wsX0_hasSaying : List Cond := .code yX0_hasSaying cX0_hasSaying 2 (some .boolean) :: ([.fieldLink RX0 21 "WhisperRing$Hall" "now" "LWhisperRing$Moment;", .fieldLink RX0 42 "WhisperRing$Moment" "sayings" "I", .static yX4_within, .initialized RX4, .code yX4_within cX4_within 3 (some .boolean)] ++ wsX00 ++ wsX20)
def wsX0_isNiche : List Cond := .code yX0_isNiche cX0_isNiche 2 (some .boolean) :: ([.fieldLink RX0 32 "WhisperRing$Hall" "niches" "I"] ++ wsX00)
def wsJ9_floorMod_7cf53 : List Cond := .code yJ9_floorMod_7cf53 cJ9_floorMod_7cf53 3 (some .int) :: ([])
def wsX0_reach : List Cond := .code yX0_reach cX0_reach 5 (some .int) :: ([.fieldLink RX0 9 "WhisperRing$Hall" "places" "I", .methodLink RX0 45 yJ9_floorMod_7cf53, .static yJ9_floorMod_7cf53, .initialized RJ9, .code yJ9_floorMod_7cf53 cJ9_floorMod_7cf53 3 (some .int)] ++ wsX00)
def wsX0_lapsOf : List Cond := .code yX0_lapsOf cX0_lapsOf 2 (some .int) :: ([.fieldLink RX0 9 "WhisperRing$Hall" "places" "I"] ++ wsX00)
def wsX0_strengthLeft : List Cond := .code yX0_strengthLeft cX0_strengthLeft 3 (some .int) :: ([.fieldLink RX0 15 "WhisperRing$Hall" "loss" "I", .methodLink RX0 55 Lib.Math.max.name, .static Lib.Math.max.name, .initialized "java/lang/Math", .code Lib.Math.max.name Lib.Math.max.code 2 (some .int), .methodLink RX0 51 yX0_lapsOf, .instanceMethod yX0_lapsOf, .selects RX0 yX0_lapsOf yX0_lapsOf, .initialized RX0, .code yX0_lapsOf cX0_lapsOf 2 (some .int), .fieldLink RX0 9 "WhisperRing$Hall" "places" "I"] ++ wsX00)
def wsX0_goneAfter : List Cond := .code yX0_goneAfter cX0_goneAfter 3 (some .int) :: ([.fieldLink RX0 21 "WhisperRing$Hall" "now" "LWhisperRing$Moment;", .fieldLink RX0 58 "WhisperRing$Moment" "speed" "[I", .fieldLink RX0 61 "WhisperRing$Moment" "tick" "I", .fieldLink RX0 64 "WhisperRing$Moment" "saidAt" "[I"] ++ wsX00 ++ wsX20)
def wsX0_placeAfter : List Cond := .code yX0_placeAfter cX0_placeAfter 3 (some .int) :: ([.fieldLink RX0 21 "WhisperRing$Hall" "now" "LWhisperRing$Moment;", .fieldLink RX0 67 "WhisperRing$Moment" "from" "[I", .fieldLink RX0 70 "WhisperRing$Moment" "way" "[I", .methodLink RX0 73 yX0_goneAfter, .instanceMethod yX0_goneAfter, .selects RX0 yX0_goneAfter yX0_goneAfter, .initialized RX0, .code yX0_goneAfter cX0_goneAfter 3 (some .int), .fieldLink RX0 58 "WhisperRing$Moment" "speed" "[I", .fieldLink RX0 61 "WhisperRing$Moment" "tick" "I", .fieldLink RX0 64 "WhisperRing$Moment" "saidAt" "[I", .methodLink RX0 76 yX0_reach, .instanceMethod yX0_reach, .selects RX0 yX0_reach yX0_reach, .code yX0_reach cX0_reach 5 (some .int), .fieldLink RX0 9 "WhisperRing$Hall" "places" "I", .methodLink RX0 45 yJ9_floorMod_7cf53, .static yJ9_floorMod_7cf53, .initialized RJ9, .code yJ9_floorMod_7cf53 cJ9_floorMod_7cf53 3 (some .int)] ++ wsX00 ++ wsX20)
def wsX0_lapsAfter : List Cond := .code yX0_lapsAfter cX0_lapsAfter 3 (some .int) :: ([.methodLink RX0 73 yX0_goneAfter, .instanceMethod yX0_goneAfter, .selects RX0 yX0_goneAfter yX0_goneAfter, .initialized RX0, .code yX0_goneAfter cX0_goneAfter 3 (some .int), .fieldLink RX0 21 "WhisperRing$Hall" "now" "LWhisperRing$Moment;", .fieldLink RX0 58 "WhisperRing$Moment" "speed" "[I", .fieldLink RX0 61 "WhisperRing$Moment" "tick" "I", .fieldLink RX0 64 "WhisperRing$Moment" "saidAt" "[I", .methodLink RX0 51 yX0_lapsOf, .instanceMethod yX0_lapsOf, .selects RX0 yX0_lapsOf yX0_lapsOf, .code yX0_lapsOf cX0_lapsOf 2 (some .int), .fieldLink RX0 9 "WhisperRing$Hall" "places" "I"] ++ wsX00 ++ wsX20)
def wsX2_isHushed : List Cond := .code yX2_isHushed cX2_isHushed 2 (some .boolean) :: ([.fieldLink RX2 37 "WhisperRing$Moment" "hushed" "I"] ++ wsX20)
def wsX0_strengthAfter_r1 : List Cond := [Cond.fieldLink RX0 21 "WhisperRing$Hall" "now" "LWhisperRing$Moment;", Cond.fieldLink RX0 84 "WhisperRing$Moment" "loud" "[I", Cond.methodLink RX0 80 yX2_isHushed, Cond.instanceMethod yX2_isHushed, Cond.selects RX2 yX2_isHushed yX2_isHushed, Cond.initialized RX2, Cond.code yX2_isHushed cX2_isHushed 2 (some .boolean), Cond.fieldLink RX2 37 "WhisperRing$Moment" "hushed" "I", Cond.methodLink RX0 73 yX0_goneAfter, Cond.instanceMethod yX0_goneAfter, Cond.selects RX0 yX0_goneAfter yX0_goneAfter, Cond.initialized RX0, Cond.code yX0_goneAfter cX0_goneAfter 3 (some .int), Cond.fieldLink RX0 58 "WhisperRing$Moment" "speed" "[I", Cond.fieldLink RX0 61 "WhisperRing$Moment" "tick" "I", Cond.fieldLink RX0 64 "WhisperRing$Moment" "saidAt" "[I", Cond.methodLink RX0 87 yX0_strengthLeft, Cond.instanceMethod yX0_strengthLeft, Cond.selects RX0 yX0_strengthLeft yX0_strengthLeft, Cond.code yX0_strengthLeft cX0_strengthLeft 3 (some .int), Cond.fieldLink RX0 15 "WhisperRing$Hall" "loss" "I", Cond.methodLink RX0 55 Lib.Math.max.name, Cond.static Lib.Math.max.name, Cond.initialized "java/lang/Math"]
def wsX0_strengthAfter_r2 : List Cond := [Cond.code Lib.Math.max.name Lib.Math.max.code 2 (some .int), Cond.methodLink RX0 51 yX0_lapsOf, Cond.instanceMethod yX0_lapsOf, Cond.selects RX0 yX0_lapsOf yX0_lapsOf, Cond.code yX0_lapsOf cX0_lapsOf 2 (some .int), Cond.fieldLink RX0 9 "WhisperRing$Hall" "places" "I"]
def wsX0_strengthAfter : List Cond := .code yX0_strengthAfter cX0_strengthAfter 3 (some .int) :: ((wsX0_strengthAfter_r1 ++ wsX0_strengthAfter_r2) ++ wsX00 ++ wsX20)
def wsX0_sounds_r1 : List Cond := [Cond.methodLink RX0 90 yX0_placeAfter, Cond.instanceMethod yX0_placeAfter, Cond.selects RX0 yX0_placeAfter yX0_placeAfter, Cond.initialized RX0, Cond.code yX0_placeAfter cX0_placeAfter 3 (some .int), Cond.fieldLink RX0 21 "WhisperRing$Hall" "now" "LWhisperRing$Moment;", Cond.fieldLink RX0 67 "WhisperRing$Moment" "from" "[I", Cond.fieldLink RX0 70 "WhisperRing$Moment" "way" "[I", Cond.methodLink RX0 73 yX0_goneAfter, Cond.instanceMethod yX0_goneAfter, Cond.selects RX0 yX0_goneAfter yX0_goneAfter, Cond.code yX0_goneAfter cX0_goneAfter 3 (some .int), Cond.fieldLink RX0 58 "WhisperRing$Moment" "speed" "[I", Cond.fieldLink RX0 61 "WhisperRing$Moment" "tick" "I", Cond.fieldLink RX0 64 "WhisperRing$Moment" "saidAt" "[I", Cond.methodLink RX0 76 yX0_reach, Cond.instanceMethod yX0_reach, Cond.selects RX0 yX0_reach yX0_reach, Cond.code yX0_reach cX0_reach 5 (some .int), Cond.fieldLink RX0 9 "WhisperRing$Hall" "places" "I", Cond.methodLink RX0 45 yJ9_floorMod_7cf53, Cond.static yJ9_floorMod_7cf53, Cond.initialized RJ9, Cond.code yJ9_floorMod_7cf53 cJ9_floorMod_7cf53 3 (some .int)]
def wsX0_sounds_r2 : List Cond := [Cond.methodLink RX0 93 yX0_strengthAfter, Cond.instanceMethod yX0_strengthAfter, Cond.selects RX0 yX0_strengthAfter yX0_strengthAfter, Cond.code yX0_strengthAfter cX0_strengthAfter 3 (some .int), Cond.fieldLink RX0 84 "WhisperRing$Moment" "loud" "[I", Cond.methodLink RX0 80 yX2_isHushed, Cond.instanceMethod yX2_isHushed, Cond.selects RX2 yX2_isHushed yX2_isHushed, Cond.initialized RX2, Cond.code yX2_isHushed cX2_isHushed 2 (some .boolean), Cond.fieldLink RX2 37 "WhisperRing$Moment" "hushed" "I", Cond.methodLink RX0 87 yX0_strengthLeft, Cond.instanceMethod yX0_strengthLeft, Cond.selects RX0 yX0_strengthLeft yX0_strengthLeft, Cond.code yX0_strengthLeft cX0_strengthLeft 3 (some .int), Cond.fieldLink RX0 15 "WhisperRing$Hall" "loss" "I", Cond.methodLink RX0 55 Lib.Math.max.name, Cond.static Lib.Math.max.name, Cond.initialized "java/lang/Math", Cond.code Lib.Math.max.name Lib.Math.max.code 2 (some .int), Cond.methodLink RX0 51 yX0_lapsOf, Cond.instanceMethod yX0_lapsOf, Cond.selects RX0 yX0_lapsOf yX0_lapsOf, Cond.code yX0_lapsOf cX0_lapsOf 2 (some .int)]
def wsX0_sounds : List Cond := .code yX0_sounds cX0_sounds 4 (some .boolean) :: ((wsX0_sounds_r1 ++ wsX0_sounds_r2) ++ wsX00 ++ wsX20)
def wsX0_listen_r1 : List Cond := [Cond.fieldLink RX0 21 "WhisperRing$Hall" "now" "LWhisperRing$Moment;", Cond.fieldLink RX0 42 "WhisperRing$Moment" "sayings" "I", Cond.fieldLink RX0 25 "WhisperRing$Hall" "at" "[I", Cond.fieldLink RX0 29 "WhisperRing$Hall" "strength" "[I", Cond.methodLink RX0 90 yX0_placeAfter, Cond.instanceMethod yX0_placeAfter, Cond.selects RX0 yX0_placeAfter yX0_placeAfter, Cond.initialized RX0, Cond.code yX0_placeAfter cX0_placeAfter 3 (some .int), Cond.fieldLink RX0 67 "WhisperRing$Moment" "from" "[I", Cond.fieldLink RX0 70 "WhisperRing$Moment" "way" "[I", Cond.methodLink RX0 73 yX0_goneAfter, Cond.instanceMethod yX0_goneAfter, Cond.selects RX0 yX0_goneAfter yX0_goneAfter, Cond.code yX0_goneAfter cX0_goneAfter 3 (some .int), Cond.fieldLink RX0 58 "WhisperRing$Moment" "speed" "[I", Cond.fieldLink RX0 61 "WhisperRing$Moment" "tick" "I", Cond.fieldLink RX0 64 "WhisperRing$Moment" "saidAt" "[I", Cond.methodLink RX0 76 yX0_reach, Cond.instanceMethod yX0_reach, Cond.selects RX0 yX0_reach yX0_reach, Cond.code yX0_reach cX0_reach 5 (some .int), Cond.fieldLink RX0 9 "WhisperRing$Hall" "places" "I", Cond.methodLink RX0 45 yJ9_floorMod_7cf53]
def wsX0_listen_r2 : List Cond := [Cond.static yJ9_floorMod_7cf53, Cond.initialized RJ9, Cond.code yJ9_floorMod_7cf53 cJ9_floorMod_7cf53 3 (some .int), Cond.methodLink RX0 93 yX0_strengthAfter, Cond.instanceMethod yX0_strengthAfter, Cond.selects RX0 yX0_strengthAfter yX0_strengthAfter, Cond.code yX0_strengthAfter cX0_strengthAfter 3 (some .int), Cond.fieldLink RX0 84 "WhisperRing$Moment" "loud" "[I", Cond.methodLink RX0 80 yX2_isHushed, Cond.instanceMethod yX2_isHushed, Cond.selects RX2 yX2_isHushed yX2_isHushed, Cond.initialized RX2, Cond.code yX2_isHushed cX2_isHushed 2 (some .boolean), Cond.fieldLink RX2 37 "WhisperRing$Moment" "hushed" "I", Cond.methodLink RX0 87 yX0_strengthLeft, Cond.instanceMethod yX0_strengthLeft, Cond.selects RX0 yX0_strengthLeft yX0_strengthLeft, Cond.code yX0_strengthLeft cX0_strengthLeft 3 (some .int), Cond.fieldLink RX0 15 "WhisperRing$Hall" "loss" "I", Cond.methodLink RX0 55 Lib.Math.max.name, Cond.static Lib.Math.max.name, Cond.initialized "java/lang/Math", Cond.code Lib.Math.max.name Lib.Math.max.code 2 (some .int), Cond.methodLink RX0 51 yX0_lapsOf]
def wsX0_listen_r3 : List Cond := [Cond.instanceMethod yX0_lapsOf, Cond.selects RX0 yX0_lapsOf yX0_lapsOf, Cond.code yX0_lapsOf cX0_lapsOf 2 (some .int)]
def wsX0_listen : List Cond := .code yX0_listen cX0_listen 3 none :: ((wsX0_listen_r1 ++ (wsX0_listen_r2 ++ wsX0_listen_r3)) ++ wsX00 ++ wsX20)
def wsX0_soundingAt : List Cond := .code yX0_soundingAt cX0_soundingAt 4 (some .int) :: ([.fieldLink RX0 21 "WhisperRing$Hall" "now" "LWhisperRing$Moment;", .fieldLink RX0 42 "WhisperRing$Moment" "sayings" "I", .fieldLink RX0 25 "WhisperRing$Hall" "at" "[I", .fieldLink RX0 29 "WhisperRing$Hall" "strength" "[I"] ++ wsX00 ++ wsX20)
def wsX0_strengthAt : List Cond := .code yX0_strengthAt cX0_strengthAt 4 (some .int) :: ([.fieldLink RX0 21 "WhisperRing$Hall" "now" "LWhisperRing$Moment;", .fieldLink RX0 42 "WhisperRing$Moment" "sayings" "I", .fieldLink RX0 25 "WhisperRing$Hall" "at" "[I", .fieldLink RX0 29 "WhisperRing$Hall" "strength" "[I"] ++ wsX00 ++ wsX20)
def wsX0_clearAt : List Cond := .code yX0_clearAt cX0_clearAt 4 (some .int) :: ([.fieldLink RX0 21 "WhisperRing$Hall" "now" "LWhisperRing$Moment;", .fieldLink RX0 42 "WhisperRing$Moment" "sayings" "I", .fieldLink RX0 25 "WhisperRing$Hall" "at" "[I", .fieldLink RX0 29 "WhisperRing$Hall" "strength" "[I", .methodLink RX0 96 yX0_strengthAt, .instanceMethod yX0_strengthAt, .selects RX0 yX0_strengthAt yX0_strengthAt, .initialized RX0, .code yX0_strengthAt cX0_strengthAt 4 (some .int)] ++ wsX00 ++ wsX20)
def wsX0_isSea : List Cond := .code yX0_isSea cX0_isSea 2 (some .boolean) :: ([.methodLink RX0 99 yX0_soundingAt, .instanceMethod yX0_soundingAt, .selects RX0 yX0_soundingAt yX0_soundingAt, .initialized RX0, .code yX0_soundingAt cX0_soundingAt 4 (some .int), .fieldLink RX0 21 "WhisperRing$Hall" "now" "LWhisperRing$Moment;", .fieldLink RX0 42 "WhisperRing$Moment" "sayings" "I", .fieldLink RX0 25 "WhisperRing$Hall" "at" "[I", .fieldLink RX0 29 "WhisperRing$Hall" "strength" "[I", .methodLink RX0 102 yX0_clearAt, .instanceMethod yX0_clearAt, .selects RX0 yX0_clearAt yX0_clearAt, .code yX0_clearAt cX0_clearAt 4 (some .int), .methodLink RX0 96 yX0_strengthAt, .instanceMethod yX0_strengthAt, .selects RX0 yX0_strengthAt yX0_strengthAt, .code yX0_strengthAt cX0_strengthAt 4 (some .int)] ++ wsX00 ++ wsX20)
def wsX0_lasting : List Cond := .code yX0_lasting cX0_lasting 3 (some .int) :: ([.fieldLink RX0 21 "WhisperRing$Hall" "now" "LWhisperRing$Moment;", .fieldLink RX0 42 "WhisperRing$Moment" "sayings" "I", .fieldLink RX0 29 "WhisperRing$Hall" "strength" "[I"] ++ wsX00 ++ wsX20)
def wsX0_strengthOf : List Cond := .code yX0_strengthOf cX0_strengthOf 4 (some .int) :: ([.fieldLink RX0 21 "WhisperRing$Hall" "now" "LWhisperRing$Moment;", .fieldLink RX0 42 "WhisperRing$Moment" "sayings" "I", .fieldLink RX0 29 "WhisperRing$Hall" "strength" "[I"] ++ wsX00 ++ wsX20)
def wsX0_placesThatSound : List Cond := .code yX0_placesThatSound cX0_placesThatSound 3 (some .int) :: ([.fieldLink RX0 9 "WhisperRing$Hall" "places" "I", .methodLink RX0 99 yX0_soundingAt, .instanceMethod yX0_soundingAt, .selects RX0 yX0_soundingAt yX0_soundingAt, .initialized RX0, .code yX0_soundingAt cX0_soundingAt 4 (some .int), .fieldLink RX0 21 "WhisperRing$Hall" "now" "LWhisperRing$Moment;", .fieldLink RX0 42 "WhisperRing$Moment" "sayings" "I", .fieldLink RX0 25 "WhisperRing$Hall" "at" "[I", .fieldLink RX0 29 "WhisperRing$Hall" "strength" "[I"] ++ wsX00 ++ wsX20)
def wsX0_seas : List Cond := .code yX0_seas cX0_seas 3 (some .int) :: ([.fieldLink RX0 9 "WhisperRing$Hall" "places" "I", .methodLink RX0 105 yX0_isSea, .instanceMethod yX0_isSea, .selects RX0 yX0_isSea yX0_isSea, .initialized RX0, .code yX0_isSea cX0_isSea 2 (some .boolean), .methodLink RX0 99 yX0_soundingAt, .instanceMethod yX0_soundingAt, .selects RX0 yX0_soundingAt yX0_soundingAt, .code yX0_soundingAt cX0_soundingAt 4 (some .int), .fieldLink RX0 21 "WhisperRing$Hall" "now" "LWhisperRing$Moment;", .fieldLink RX0 42 "WhisperRing$Moment" "sayings" "I", .fieldLink RX0 25 "WhisperRing$Hall" "at" "[I", .fieldLink RX0 29 "WhisperRing$Hall" "strength" "[I", .methodLink RX0 102 yX0_clearAt, .instanceMethod yX0_clearAt, .selects RX0 yX0_clearAt yX0_clearAt, .code yX0_clearAt cX0_clearAt 4 (some .int), .methodLink RX0 96 yX0_strengthAt, .instanceMethod yX0_strengthAt, .selects RX0 yX0_strengthAt yX0_strengthAt, .code yX0_strengthAt cX0_strengthAt 4 (some .int)] ++ wsX00 ++ wsX20)
def wsJ6_bitCount_0f7a4 : List Cond := .code yJ6_bitCount_0f7a4 cJ6_bitCount_0f7a4 1 (some .int) :: ([.constant RJ6 265 (1431655765), .constant RJ6 266 (858993459), .constant RJ6 267 (252645135)])
def wsX0_fewestToHush : List Cond := .code yX0_fewestToHush cX0_fewestToHush 6 (some .int) :: ([.fieldLink RX0 25 "WhisperRing$Hall" "at" "[I", .fieldLink RX0 29 "WhisperRing$Hall" "strength" "[I", .methodLink RX0 99 yX0_soundingAt, .instanceMethod yX0_soundingAt, .selects RX0 yX0_soundingAt yX0_soundingAt, .initialized RX0, .code yX0_soundingAt cX0_soundingAt 4 (some .int), .fieldLink RX0 21 "WhisperRing$Hall" "now" "LWhisperRing$Moment;", .fieldLink RX0 42 "WhisperRing$Moment" "sayings" "I", .methodLink RX0 108 yJ6_bitCount_0f7a4, .static yJ6_bitCount_0f7a4, .initialized RJ6, .code yJ6_bitCount_0f7a4 cJ6_bitCount_0f7a4 1 (some .int), .constant RJ6 265 (1431655765), .constant RJ6 266 (858993459), .constant RJ6 267 (252645135), .methodLink RX0 113 yX0_strengthOf, .instanceMethod yX0_strengthOf, .selects RX0 yX0_strengthOf yX0_strengthOf, .code yX0_strengthOf cX0_strengthOf 4 (some .int)] ++ wsX00 ++ wsX20)
def wsX0_lastOf_r1 : List Cond := [Cond.methodLink RX0 93 yX0_strengthAfter, Cond.instanceMethod yX0_strengthAfter, Cond.selects RX0 yX0_strengthAfter yX0_strengthAfter, Cond.initialized RX0, Cond.code yX0_strengthAfter cX0_strengthAfter 3 (some .int), Cond.fieldLink RX0 21 "WhisperRing$Hall" "now" "LWhisperRing$Moment;", Cond.fieldLink RX0 84 "WhisperRing$Moment" "loud" "[I", Cond.methodLink RX0 80 yX2_isHushed, Cond.instanceMethod yX2_isHushed, Cond.selects RX2 yX2_isHushed yX2_isHushed, Cond.initialized RX2, Cond.code yX2_isHushed cX2_isHushed 2 (some .boolean), Cond.fieldLink RX2 37 "WhisperRing$Moment" "hushed" "I", Cond.methodLink RX0 73 yX0_goneAfter, Cond.instanceMethod yX0_goneAfter, Cond.selects RX0 yX0_goneAfter yX0_goneAfter, Cond.code yX0_goneAfter cX0_goneAfter 3 (some .int), Cond.fieldLink RX0 58 "WhisperRing$Moment" "speed" "[I", Cond.fieldLink RX0 61 "WhisperRing$Moment" "tick" "I", Cond.fieldLink RX0 64 "WhisperRing$Moment" "saidAt" "[I", Cond.methodLink RX0 87 yX0_strengthLeft, Cond.instanceMethod yX0_strengthLeft, Cond.selects RX0 yX0_strengthLeft yX0_strengthLeft, Cond.code yX0_strengthLeft cX0_strengthLeft 3 (some .int)]
def wsX0_lastOf_r2 : List Cond := [Cond.fieldLink RX0 15 "WhisperRing$Hall" "loss" "I", Cond.methodLink RX0 55 Lib.Math.max.name, Cond.static Lib.Math.max.name, Cond.initialized "java/lang/Math", Cond.code Lib.Math.max.name Lib.Math.max.code 2 (some .int), Cond.methodLink RX0 51 yX0_lapsOf, Cond.instanceMethod yX0_lapsOf, Cond.selects RX0 yX0_lapsOf yX0_lapsOf, Cond.code yX0_lapsOf cX0_lapsOf 2 (some .int), Cond.fieldLink RX0 9 "WhisperRing$Hall" "places" "I"]
def wsX0_lastOf : List Cond := .code yX0_lastOf cX0_lastOf 3 (some .int) :: ((wsX0_lastOf_r1 ++ wsX0_lastOf_r2) ++ wsX00 ++ wsX20)
def wsX0_quietOf_r1 : List Cond := [Cond.methodLink RX0 116 yX0_listen, Cond.instanceMethod yX0_listen, Cond.selects RX0 yX0_listen yX0_listen, Cond.initialized RX0, Cond.code yX0_listen cX0_listen 3 none, Cond.fieldLink RX0 21 "WhisperRing$Hall" "now" "LWhisperRing$Moment;", Cond.fieldLink RX0 42 "WhisperRing$Moment" "sayings" "I", Cond.fieldLink RX0 25 "WhisperRing$Hall" "at" "[I", Cond.fieldLink RX0 29 "WhisperRing$Hall" "strength" "[I", Cond.methodLink RX0 90 yX0_placeAfter, Cond.instanceMethod yX0_placeAfter, Cond.selects RX0 yX0_placeAfter yX0_placeAfter, Cond.code yX0_placeAfter cX0_placeAfter 3 (some .int), Cond.fieldLink RX0 67 "WhisperRing$Moment" "from" "[I", Cond.fieldLink RX0 70 "WhisperRing$Moment" "way" "[I", Cond.methodLink RX0 73 yX0_goneAfter, Cond.instanceMethod yX0_goneAfter, Cond.selects RX0 yX0_goneAfter yX0_goneAfter, Cond.code yX0_goneAfter cX0_goneAfter 3 (some .int), Cond.fieldLink RX0 58 "WhisperRing$Moment" "speed" "[I", Cond.fieldLink RX0 61 "WhisperRing$Moment" "tick" "I", Cond.fieldLink RX0 64 "WhisperRing$Moment" "saidAt" "[I", Cond.methodLink RX0 76 yX0_reach, Cond.instanceMethod yX0_reach]
def wsX0_quietOf_r2 : List Cond := [Cond.selects RX0 yX0_reach yX0_reach, Cond.code yX0_reach cX0_reach 5 (some .int), Cond.fieldLink RX0 9 "WhisperRing$Hall" "places" "I", Cond.methodLink RX0 45 yJ9_floorMod_7cf53, Cond.static yJ9_floorMod_7cf53, Cond.initialized RJ9, Cond.code yJ9_floorMod_7cf53 cJ9_floorMod_7cf53 3 (some .int), Cond.methodLink RX0 93 yX0_strengthAfter, Cond.instanceMethod yX0_strengthAfter, Cond.selects RX0 yX0_strengthAfter yX0_strengthAfter, Cond.code yX0_strengthAfter cX0_strengthAfter 3 (some .int), Cond.fieldLink RX0 84 "WhisperRing$Moment" "loud" "[I", Cond.methodLink RX0 80 yX2_isHushed, Cond.instanceMethod yX2_isHushed, Cond.selects RX2 yX2_isHushed yX2_isHushed, Cond.initialized RX2, Cond.code yX2_isHushed cX2_isHushed 2 (some .boolean), Cond.fieldLink RX2 37 "WhisperRing$Moment" "hushed" "I", Cond.methodLink RX0 87 yX0_strengthLeft, Cond.instanceMethod yX0_strengthLeft, Cond.selects RX0 yX0_strengthLeft yX0_strengthLeft, Cond.code yX0_strengthLeft cX0_strengthLeft 3 (some .int), Cond.fieldLink RX0 15 "WhisperRing$Hall" "loss" "I", Cond.methodLink RX0 55 Lib.Math.max.name]
def wsX0_quietOf_r3 : List Cond := [Cond.static Lib.Math.max.name, Cond.initialized "java/lang/Math", Cond.code Lib.Math.max.name Lib.Math.max.code 2 (some .int), Cond.methodLink RX0 51 yX0_lapsOf, Cond.instanceMethod yX0_lapsOf, Cond.selects RX0 yX0_lapsOf yX0_lapsOf, Cond.code yX0_lapsOf cX0_lapsOf 2 (some .int), Cond.methodLink RX0 99 yX0_soundingAt, Cond.instanceMethod yX0_soundingAt, Cond.selects RX0 yX0_soundingAt yX0_soundingAt, Cond.code yX0_soundingAt cX0_soundingAt 4 (some .int)]
def wsX0_quietOf : List Cond := .code yX0_quietOf cX0_quietOf 3 (some .int) :: ((wsX0_quietOf_r1 ++ (wsX0_quietOf_r2 ++ wsX0_quietOf_r3)) ++ wsX00 ++ wsX20)
def wsX0_whenAt_r1 : List Cond := [Cond.methodLink RX0 120 yX0_sounds, Cond.instanceMethod yX0_sounds, Cond.selects RX0 yX0_sounds yX0_sounds, Cond.initialized RX0, Cond.code yX0_sounds cX0_sounds 4 (some .boolean), Cond.methodLink RX0 90 yX0_placeAfter, Cond.instanceMethod yX0_placeAfter, Cond.selects RX0 yX0_placeAfter yX0_placeAfter, Cond.code yX0_placeAfter cX0_placeAfter 3 (some .int), Cond.fieldLink RX0 21 "WhisperRing$Hall" "now" "LWhisperRing$Moment;", Cond.fieldLink RX0 67 "WhisperRing$Moment" "from" "[I", Cond.fieldLink RX0 70 "WhisperRing$Moment" "way" "[I", Cond.methodLink RX0 73 yX0_goneAfter, Cond.instanceMethod yX0_goneAfter, Cond.selects RX0 yX0_goneAfter yX0_goneAfter, Cond.code yX0_goneAfter cX0_goneAfter 3 (some .int), Cond.fieldLink RX0 58 "WhisperRing$Moment" "speed" "[I", Cond.fieldLink RX0 61 "WhisperRing$Moment" "tick" "I", Cond.fieldLink RX0 64 "WhisperRing$Moment" "saidAt" "[I", Cond.methodLink RX0 76 yX0_reach, Cond.instanceMethod yX0_reach, Cond.selects RX0 yX0_reach yX0_reach, Cond.code yX0_reach cX0_reach 5 (some .int), Cond.fieldLink RX0 9 "WhisperRing$Hall" "places" "I"]
def wsX0_whenAt_r2 : List Cond := [Cond.methodLink RX0 45 yJ9_floorMod_7cf53, Cond.static yJ9_floorMod_7cf53, Cond.initialized RJ9, Cond.code yJ9_floorMod_7cf53 cJ9_floorMod_7cf53 3 (some .int), Cond.methodLink RX0 93 yX0_strengthAfter, Cond.instanceMethod yX0_strengthAfter, Cond.selects RX0 yX0_strengthAfter yX0_strengthAfter, Cond.code yX0_strengthAfter cX0_strengthAfter 3 (some .int), Cond.fieldLink RX0 84 "WhisperRing$Moment" "loud" "[I", Cond.methodLink RX0 80 yX2_isHushed, Cond.instanceMethod yX2_isHushed, Cond.selects RX2 yX2_isHushed yX2_isHushed, Cond.initialized RX2, Cond.code yX2_isHushed cX2_isHushed 2 (some .boolean), Cond.fieldLink RX2 37 "WhisperRing$Moment" "hushed" "I", Cond.methodLink RX0 87 yX0_strengthLeft, Cond.instanceMethod yX0_strengthLeft, Cond.selects RX0 yX0_strengthLeft yX0_strengthLeft, Cond.code yX0_strengthLeft cX0_strengthLeft 3 (some .int), Cond.fieldLink RX0 15 "WhisperRing$Hall" "loss" "I", Cond.methodLink RX0 55 Lib.Math.max.name, Cond.static Lib.Math.max.name, Cond.initialized "java/lang/Math", Cond.code Lib.Math.max.name Lib.Math.max.code 2 (some .int)]
def wsX0_whenAt_r3 : List Cond := [Cond.methodLink RX0 51 yX0_lapsOf, Cond.instanceMethod yX0_lapsOf, Cond.selects RX0 yX0_lapsOf yX0_lapsOf, Cond.code yX0_lapsOf cX0_lapsOf 2 (some .int)]
def wsX0_whenAt : List Cond := .code yX0_whenAt cX0_whenAt 4 (some .int) :: ((wsX0_whenAt_r1 ++ (wsX0_whenAt_r2 ++ wsX0_whenAt_r3)) ++ wsX00 ++ wsX20)
def wsX0_oftenAt_r1 : List Cond := [Cond.methodLink RX0 120 yX0_sounds, Cond.instanceMethod yX0_sounds, Cond.selects RX0 yX0_sounds yX0_sounds, Cond.initialized RX0, Cond.code yX0_sounds cX0_sounds 4 (some .boolean), Cond.methodLink RX0 90 yX0_placeAfter, Cond.instanceMethod yX0_placeAfter, Cond.selects RX0 yX0_placeAfter yX0_placeAfter, Cond.code yX0_placeAfter cX0_placeAfter 3 (some .int), Cond.fieldLink RX0 21 "WhisperRing$Hall" "now" "LWhisperRing$Moment;", Cond.fieldLink RX0 67 "WhisperRing$Moment" "from" "[I", Cond.fieldLink RX0 70 "WhisperRing$Moment" "way" "[I", Cond.methodLink RX0 73 yX0_goneAfter, Cond.instanceMethod yX0_goneAfter, Cond.selects RX0 yX0_goneAfter yX0_goneAfter, Cond.code yX0_goneAfter cX0_goneAfter 3 (some .int), Cond.fieldLink RX0 58 "WhisperRing$Moment" "speed" "[I", Cond.fieldLink RX0 61 "WhisperRing$Moment" "tick" "I", Cond.fieldLink RX0 64 "WhisperRing$Moment" "saidAt" "[I", Cond.methodLink RX0 76 yX0_reach, Cond.instanceMethod yX0_reach, Cond.selects RX0 yX0_reach yX0_reach, Cond.code yX0_reach cX0_reach 5 (some .int), Cond.fieldLink RX0 9 "WhisperRing$Hall" "places" "I"]
def wsX0_oftenAt_r2 : List Cond := [Cond.methodLink RX0 45 yJ9_floorMod_7cf53, Cond.static yJ9_floorMod_7cf53, Cond.initialized RJ9, Cond.code yJ9_floorMod_7cf53 cJ9_floorMod_7cf53 3 (some .int), Cond.methodLink RX0 93 yX0_strengthAfter, Cond.instanceMethod yX0_strengthAfter, Cond.selects RX0 yX0_strengthAfter yX0_strengthAfter, Cond.code yX0_strengthAfter cX0_strengthAfter 3 (some .int), Cond.fieldLink RX0 84 "WhisperRing$Moment" "loud" "[I", Cond.methodLink RX0 80 yX2_isHushed, Cond.instanceMethod yX2_isHushed, Cond.selects RX2 yX2_isHushed yX2_isHushed, Cond.initialized RX2, Cond.code yX2_isHushed cX2_isHushed 2 (some .boolean), Cond.fieldLink RX2 37 "WhisperRing$Moment" "hushed" "I", Cond.methodLink RX0 87 yX0_strengthLeft, Cond.instanceMethod yX0_strengthLeft, Cond.selects RX0 yX0_strengthLeft yX0_strengthLeft, Cond.code yX0_strengthLeft cX0_strengthLeft 3 (some .int), Cond.fieldLink RX0 15 "WhisperRing$Hall" "loss" "I", Cond.methodLink RX0 55 Lib.Math.max.name, Cond.static Lib.Math.max.name, Cond.initialized "java/lang/Math", Cond.code Lib.Math.max.name Lib.Math.max.code 2 (some .int)]
def wsX0_oftenAt_r3 : List Cond := [Cond.methodLink RX0 51 yX0_lapsOf, Cond.instanceMethod yX0_lapsOf, Cond.selects RX0 yX0_lapsOf yX0_lapsOf, Cond.code yX0_lapsOf cX0_lapsOf 2 (some .int)]
def wsX0_oftenAt : List Cond := .code yX0_oftenAt cX0_oftenAt 5 (some .int) :: ((wsX0_oftenAt_r1 ++ (wsX0_oftenAt_r2 ++ wsX0_oftenAt_r3)) ++ wsX00 ++ wsX20)
def wsX0_meetingOf_r1 : List Cond := [Cond.methodLink RX0 93 yX0_strengthAfter, Cond.instanceMethod yX0_strengthAfter, Cond.selects RX0 yX0_strengthAfter yX0_strengthAfter, Cond.initialized RX0, Cond.code yX0_strengthAfter cX0_strengthAfter 3 (some .int), Cond.fieldLink RX0 21 "WhisperRing$Hall" "now" "LWhisperRing$Moment;", Cond.fieldLink RX0 84 "WhisperRing$Moment" "loud" "[I", Cond.methodLink RX0 80 yX2_isHushed, Cond.instanceMethod yX2_isHushed, Cond.selects RX2 yX2_isHushed yX2_isHushed, Cond.initialized RX2, Cond.code yX2_isHushed cX2_isHushed 2 (some .boolean), Cond.fieldLink RX2 37 "WhisperRing$Moment" "hushed" "I", Cond.methodLink RX0 73 yX0_goneAfter, Cond.instanceMethod yX0_goneAfter, Cond.selects RX0 yX0_goneAfter yX0_goneAfter, Cond.code yX0_goneAfter cX0_goneAfter 3 (some .int), Cond.fieldLink RX0 58 "WhisperRing$Moment" "speed" "[I", Cond.fieldLink RX0 61 "WhisperRing$Moment" "tick" "I", Cond.fieldLink RX0 64 "WhisperRing$Moment" "saidAt" "[I", Cond.methodLink RX0 87 yX0_strengthLeft, Cond.instanceMethod yX0_strengthLeft, Cond.selects RX0 yX0_strengthLeft yX0_strengthLeft, Cond.code yX0_strengthLeft cX0_strengthLeft 3 (some .int)]
def wsX0_meetingOf_r2 : List Cond := [Cond.fieldLink RX0 15 "WhisperRing$Hall" "loss" "I", Cond.methodLink RX0 55 Lib.Math.max.name, Cond.static Lib.Math.max.name, Cond.initialized "java/lang/Math", Cond.code Lib.Math.max.name Lib.Math.max.code 2 (some .int), Cond.methodLink RX0 51 yX0_lapsOf, Cond.instanceMethod yX0_lapsOf, Cond.selects RX0 yX0_lapsOf yX0_lapsOf, Cond.code yX0_lapsOf cX0_lapsOf 2 (some .int), Cond.fieldLink RX0 9 "WhisperRing$Hall" "places" "I", Cond.methodLink RX0 90 yX0_placeAfter, Cond.instanceMethod yX0_placeAfter, Cond.selects RX0 yX0_placeAfter yX0_placeAfter, Cond.code yX0_placeAfter cX0_placeAfter 3 (some .int), Cond.fieldLink RX0 67 "WhisperRing$Moment" "from" "[I", Cond.fieldLink RX0 70 "WhisperRing$Moment" "way" "[I", Cond.methodLink RX0 76 yX0_reach, Cond.instanceMethod yX0_reach, Cond.selects RX0 yX0_reach yX0_reach, Cond.code yX0_reach cX0_reach 5 (some .int), Cond.methodLink RX0 45 yJ9_floorMod_7cf53, Cond.static yJ9_floorMod_7cf53, Cond.initialized RJ9, Cond.code yJ9_floorMod_7cf53 cJ9_floorMod_7cf53 3 (some .int)]
def wsX0_meetingOf_r3 : List Cond := [Cond.methodLink RX0 120 yX0_sounds, Cond.instanceMethod yX0_sounds, Cond.selects RX0 yX0_sounds yX0_sounds, Cond.code yX0_sounds cX0_sounds 4 (some .boolean)]
def wsX0_meetingOf : List Cond := .code yX0_meetingOf cX0_meetingOf 4 (some .int) :: ((wsX0_meetingOf_r1 ++ (wsX0_meetingOf_r2 ++ wsX0_meetingOf_r3)) ++ wsX00 ++ wsX20)
def wsX0_ticksTo : List Cond := .code yX0_ticksTo cX0_ticksTo 6 (some .int) :: ([.fieldLink RX0 9 "WhisperRing$Hall" "places" "I", .methodLink RX0 76 yX0_reach, .instanceMethod yX0_reach, .selects RX0 yX0_reach yX0_reach, .initialized RX0, .code yX0_reach cX0_reach 5 (some .int), .methodLink RX0 45 yJ9_floorMod_7cf53, .static yJ9_floorMod_7cf53, .initialized RJ9, .code yJ9_floorMod_7cf53 cJ9_floorMod_7cf53 3 (some .int)] ++ wsX00)
def wsX0_firstWait_r1 : List Cond := [Cond.methodLink RX0 116 yX0_listen, Cond.instanceMethod yX0_listen, Cond.selects RX0 yX0_listen yX0_listen, Cond.initialized RX0, Cond.code yX0_listen cX0_listen 3 none, Cond.fieldLink RX0 21 "WhisperRing$Hall" "now" "LWhisperRing$Moment;", Cond.fieldLink RX0 42 "WhisperRing$Moment" "sayings" "I", Cond.fieldLink RX0 25 "WhisperRing$Hall" "at" "[I", Cond.fieldLink RX0 29 "WhisperRing$Hall" "strength" "[I", Cond.methodLink RX0 90 yX0_placeAfter, Cond.instanceMethod yX0_placeAfter, Cond.selects RX0 yX0_placeAfter yX0_placeAfter, Cond.code yX0_placeAfter cX0_placeAfter 3 (some .int), Cond.fieldLink RX0 67 "WhisperRing$Moment" "from" "[I", Cond.fieldLink RX0 70 "WhisperRing$Moment" "way" "[I", Cond.methodLink RX0 73 yX0_goneAfter, Cond.instanceMethod yX0_goneAfter, Cond.selects RX0 yX0_goneAfter yX0_goneAfter, Cond.code yX0_goneAfter cX0_goneAfter 3 (some .int), Cond.fieldLink RX0 58 "WhisperRing$Moment" "speed" "[I", Cond.fieldLink RX0 61 "WhisperRing$Moment" "tick" "I", Cond.fieldLink RX0 64 "WhisperRing$Moment" "saidAt" "[I", Cond.methodLink RX0 76 yX0_reach, Cond.instanceMethod yX0_reach]
def wsX0_firstWait_r2 : List Cond := [Cond.selects RX0 yX0_reach yX0_reach, Cond.code yX0_reach cX0_reach 5 (some .int), Cond.fieldLink RX0 9 "WhisperRing$Hall" "places" "I", Cond.methodLink RX0 45 yJ9_floorMod_7cf53, Cond.static yJ9_floorMod_7cf53, Cond.initialized RJ9, Cond.code yJ9_floorMod_7cf53 cJ9_floorMod_7cf53 3 (some .int), Cond.methodLink RX0 93 yX0_strengthAfter, Cond.instanceMethod yX0_strengthAfter, Cond.selects RX0 yX0_strengthAfter yX0_strengthAfter, Cond.code yX0_strengthAfter cX0_strengthAfter 3 (some .int), Cond.fieldLink RX0 84 "WhisperRing$Moment" "loud" "[I", Cond.methodLink RX0 80 yX2_isHushed, Cond.instanceMethod yX2_isHushed, Cond.selects RX2 yX2_isHushed yX2_isHushed, Cond.initialized RX2, Cond.code yX2_isHushed cX2_isHushed 2 (some .boolean), Cond.fieldLink RX2 37 "WhisperRing$Moment" "hushed" "I", Cond.methodLink RX0 87 yX0_strengthLeft, Cond.instanceMethod yX0_strengthLeft, Cond.selects RX0 yX0_strengthLeft yX0_strengthLeft, Cond.code yX0_strengthLeft cX0_strengthLeft 3 (some .int), Cond.fieldLink RX0 15 "WhisperRing$Hall" "loss" "I", Cond.methodLink RX0 55 Lib.Math.max.name]
def wsX0_firstWait_r3 : List Cond := [Cond.static Lib.Math.max.name, Cond.initialized "java/lang/Math", Cond.code Lib.Math.max.name Lib.Math.max.code 2 (some .int), Cond.methodLink RX0 51 yX0_lapsOf, Cond.instanceMethod yX0_lapsOf, Cond.selects RX0 yX0_lapsOf yX0_lapsOf, Cond.code yX0_lapsOf cX0_lapsOf 2 (some .int), Cond.methodLink RX0 96 yX0_strengthAt, Cond.instanceMethod yX0_strengthAt, Cond.selects RX0 yX0_strengthAt yX0_strengthAt, Cond.code yX0_strengthAt cX0_strengthAt 4 (some .int)]
def wsX0_firstWait : List Cond := .code yX0_firstWait cX0_firstWait 5 (some .int) :: ((wsX0_firstWait_r1 ++ (wsX0_firstWait_r2 ++ wsX0_firstWait_r3)) ++ wsX00 ++ wsX20)
def wsX1_init : List Cond := .code yX1_init cX1_init 1 none :: ([.methodLink RX1 3 objectInit, .instanceMethod objectInit, .code objectInit ⟨#[0xb1]⟩ 1 none, .arrayClass .int, .fieldLink RX1 9 "WhisperRing$Hearsay" "at" "[I", .fieldLink RX1 15 "WhisperRing$Hearsay" "behind" "[I", .fieldLink RX1 18 "WhisperRing$Hearsay" "there" "[I"] ++ wsX10)
def wsX1_add : List Cond := .code yX1_add cX1_add 4 (some .boolean) :: ([.fieldLink RX1 21 "WhisperRing$Hearsay" "size" "I", .fieldLink RX1 9 "WhisperRing$Hearsay" "at" "[I", .fieldLink RX1 15 "WhisperRing$Hearsay" "behind" "[I", .fieldLink RX1 18 "WhisperRing$Hearsay" "there" "[I"] ++ wsX10)
def wsX1_placeIn : List Cond := .code yX1_placeIn cX1_placeIn 1 (some .int) :: ([])
def wsX1_speedIn : List Cond := .code yX1_speedIn cX1_speedIn 1 (some .int) :: ([])
def wsX1_wayIn : List Cond := .code yX1_wayIn cX1_wayIn 1 (some .int) :: ([])
def wsX1_placeBehind : List Cond := .code yX1_placeBehind cX1_placeBehind 3 (some .int) :: ([.methodLink RX1 25 yX1_placeIn, .static yX1_placeIn, .initialized RX1, .code yX1_placeIn cX1_placeIn 1 (some .int), .methodLink RX1 29 yX1_wayIn, .static yX1_wayIn, .code yX1_wayIn cX1_wayIn 1 (some .int), .methodLink RX1 32 yX1_speedIn, .static yX1_speedIn, .code yX1_speedIn cX1_speedIn 1 (some .int), .methodLink RX1 35 yX0_reach, .instanceMethod yX0_reach, .selects RX0 yX0_reach yX0_reach, .initialized RX0, .code yX0_reach cX0_reach 5 (some .int), .fieldLink RX0 9 "WhisperRing$Hall" "places" "I", .methodLink RX0 45 yJ9_floorMod_7cf53, .static yJ9_floorMod_7cf53, .initialized RJ9, .code yJ9_floorMod_7cf53 cJ9_floorMod_7cf53 3 (some .int)] ++ wsX00)
def wsX1_fits_r1 : List Cond := [Cond.fieldLink RX1 21 "WhisperRing$Hearsay" "size" "I", Cond.fieldLink RX1 15 "WhisperRing$Hearsay" "behind" "[I", Cond.fieldLink RX1 9 "WhisperRing$Hearsay" "at" "[I", Cond.fieldLink RX1 18 "WhisperRing$Hearsay" "there" "[I", Cond.methodLink RX1 41 yX1_placeBehind, Cond.static yX1_placeBehind, Cond.initialized RX1, Cond.code yX1_placeBehind cX1_placeBehind 3 (some .int), Cond.methodLink RX1 25 yX1_placeIn, Cond.static yX1_placeIn, Cond.code yX1_placeIn cX1_placeIn 1 (some .int), Cond.methodLink RX1 29 yX1_wayIn, Cond.static yX1_wayIn, Cond.code yX1_wayIn cX1_wayIn 1 (some .int), Cond.methodLink RX1 32 yX1_speedIn, Cond.static yX1_speedIn, Cond.code yX1_speedIn cX1_speedIn 1 (some .int), Cond.methodLink RX1 35 yX0_reach, Cond.instanceMethod yX0_reach, Cond.selects RX0 yX0_reach yX0_reach, Cond.initialized RX0, Cond.code yX0_reach cX0_reach 5 (some .int), Cond.fieldLink RX0 9 "WhisperRing$Hall" "places" "I", Cond.methodLink RX0 45 yJ9_floorMod_7cf53]
def wsX1_fits_r2 : List Cond := [Cond.static yJ9_floorMod_7cf53, Cond.initialized RJ9, Cond.code yJ9_floorMod_7cf53 cJ9_floorMod_7cf53 3 (some .int)]
def wsX1_fits : List Cond := .code yX1_fits cX1_fits 5 (some .boolean) :: ((wsX1_fits_r1 ++ wsX1_fits_r2) ++ wsX10 ++ wsX00)
def wsX2_become : List Cond := .code yX2_become cX2_become 2 none :: ([.fieldLink RX2 30 "WhisperRing$Moment" "tick" "I", .fieldLink RX2 34 "WhisperRing$Moment" "sayings" "I", .fieldLink RX2 37 "WhisperRing$Moment" "hushed" "I", .fieldLink RX2 40 "WhisperRing$Moment" "noted" "I", .fieldLink RX2 9 "WhisperRing$Moment" "from" "[I", .methodLink RX2 43 arraycopyName, .native arraycopyName, .static arraycopyName, .initialized "java/lang/System", .fieldLink RX2 15 "WhisperRing$Moment" "speed" "[I", .fieldLink RX2 18 "WhisperRing$Moment" "way" "[I", .fieldLink RX2 21 "WhisperRing$Moment" "loud" "[I", .fieldLink RX2 24 "WhisperRing$Moment" "saidAt" "[I", .fieldLink RX2 27 "WhisperRing$Moment" "deeds" "[I"] ++ wsX20)
def wsX2_add : List Cond := .code yX2_add cX2_add 5 (some .boolean) :: ([.fieldLink RX2 34 "WhisperRing$Moment" "sayings" "I", .fieldLink RX2 9 "WhisperRing$Moment" "from" "[I", .fieldLink RX2 15 "WhisperRing$Moment" "speed" "[I", .fieldLink RX2 18 "WhisperRing$Moment" "way" "[I", .fieldLink RX2 21 "WhisperRing$Moment" "loud" "[I", .fieldLink RX2 24 "WhisperRing$Moment" "saidAt" "[I", .fieldLink RX2 30 "WhisperRing$Moment" "tick" "I"] ++ wsX20)
def wsX2_note : List Cond := .code yX2_note cX2_note 2 none :: ([.fieldLink RX2 40 "WhisperRing$Moment" "noted" "I", .fieldLink RX2 27 "WhisperRing$Moment" "deeds" "[I", .methodLink RX2 43 arraycopyName, .native arraycopyName, .static arraycopyName, .initialized "java/lang/System"] ++ wsX20)
def wsX2_goBy : List Cond := .code yX2_goBy cX2_goBy 2 none :: ([.fieldLink RX2 30 "WhisperRing$Moment" "tick" "I", .methodLink RX2 49 yX2_note, .instanceMethod yX2_note, .selects RX2 yX2_note yX2_note, .initialized RX2, .code yX2_note cX2_note 2 none, .fieldLink RX2 40 "WhisperRing$Moment" "noted" "I", .fieldLink RX2 27 "WhisperRing$Moment" "deeds" "[I", .methodLink RX2 43 arraycopyName, .native arraycopyName, .static arraycopyName, .initialized "java/lang/System"] ++ wsX20)
def wsX2_hush : List Cond := .code yX2_hush cX2_hush 2 none :: ([.fieldLink RX2 37 "WhisperRing$Moment" "hushed" "I", .methodLink RX2 49 yX2_note, .instanceMethod yX2_note, .selects RX2 yX2_note yX2_note, .initialized RX2, .code yX2_note cX2_note 2 none, .fieldLink RX2 40 "WhisperRing$Moment" "noted" "I", .fieldLink RX2 27 "WhisperRing$Moment" "deeds" "[I", .methodLink RX2 43 arraycopyName, .native arraycopyName, .static arraycopyName, .initialized "java/lang/System"] ++ wsX20)
def wsX2_takeBack : List Cond := .code yX2_takeBack cX2_takeBack 2 (some .boolean) :: ([.fieldLink RX2 40 "WhisperRing$Moment" "noted" "I", .fieldLink RX2 27 "WhisperRing$Moment" "deeds" "[I", .fieldLink RX2 34 "WhisperRing$Moment" "sayings" "I", .fieldLink RX2 30 "WhisperRing$Moment" "tick" "I", .fieldLink RX2 37 "WhisperRing$Moment" "hushed" "I"] ++ wsX20)
def wsX3_init : List Cond := .code yX3_init cX3_init 1 none :: ([.methodLink RX3 3 objectInit, .instanceMethod objectInit, .code objectInit ⟨#[0xb1]⟩ 1 none, .arrayClass .int, .fieldLink RX3 9 "WhisperRing$Script" "bytes" "[I"] ++ wsX30)
def wsX3_append : List Cond := .code yX3_append cX3_append 2 (some .boolean) :: ([.fieldLink RX3 15 "WhisperRing$Script" "size" "I", .fieldLink RX3 9 "WhisperRing$Script" "bytes" "[I"] ++ wsX30)
def wsX3_tokenOf : List Cond := .code yX3_tokenOf cX3_tokenOf 1 (some .int) :: ([])
def wsX3_weigh : List Cond := .code yX3_weigh cX3_weigh 3 none :: ([.fieldLink RX3 41 "WhisperRing$Script" "tokenAt" "I", .fieldLink RX3 15 "WhisperRing$Script" "size" "I", .fieldLink RX3 34 "WhisperRing$Script" "token" "I", .fieldLink RX3 9 "WhisperRing$Script" "bytes" "[I", .fieldLink RX3 44 "WhisperRing$Script" "value" "I"] ++ wsX30)
def wsX3_step : List Cond := .code yX3_step cX3_step 1 none :: ([.fieldLink RX3 28 "WhisperRing$Script" "next" "I", .fieldLink RX3 15 "WhisperRing$Script" "size" "I", .fieldLink RX3 9 "WhisperRing$Script" "bytes" "[I", .fieldLink RX3 41 "WhisperRing$Script" "tokenAt" "I", .fieldLink RX3 34 "WhisperRing$Script" "token" "I", .fieldLink RX3 44 "WhisperRing$Script" "value" "I", .methodLink RX3 94 yX3_tokenOf, .static yX3_tokenOf, .initialized RX3, .code yX3_tokenOf cX3_tokenOf 1 (some .int), .methodLink RX3 98 yX3_weigh, .instanceMethod yX3_weigh, .selects RX3 yX3_weigh yX3_weigh, .code yX3_weigh cX3_weigh 3 none] ++ wsX30)
def wsX3_readNumber : List Cond := .code yX3_readNumber cX3_readNumber 3 (some .boolean) :: ([.fieldLink RX3 34 "WhisperRing$Script" "token" "I", .fieldLink RX3 44 "WhisperRing$Script" "value" "I", .methodLink RX3 31 yX3_step, .instanceMethod yX3_step, .selects RX3 yX3_step yX3_step, .initialized RX3, .code yX3_step cX3_step 1 none, .fieldLink RX3 28 "WhisperRing$Script" "next" "I", .fieldLink RX3 15 "WhisperRing$Script" "size" "I", .fieldLink RX3 9 "WhisperRing$Script" "bytes" "[I", .fieldLink RX3 41 "WhisperRing$Script" "tokenAt" "I", .methodLink RX3 94 yX3_tokenOf, .static yX3_tokenOf, .code yX3_tokenOf cX3_tokenOf 1 (some .int), .methodLink RX3 98 yX3_weigh, .instanceMethod yX3_weigh, .selects RX3 yX3_weigh yX3_weigh, .code yX3_weigh cX3_weigh 3 none, .static yX4_within, .initialized RX4, .code yX4_within cX4_within 3 (some .boolean)] ++ wsX30)
def wsX3_readStop : List Cond := .code yX3_readStop cX3_readStop 1 (some .boolean) :: ([.fieldLink RX3 34 "WhisperRing$Script" "token" "I", .methodLink RX3 31 yX3_step, .instanceMethod yX3_step, .selects RX3 yX3_step yX3_step, .initialized RX3, .code yX3_step cX3_step 1 none, .fieldLink RX3 28 "WhisperRing$Script" "next" "I", .fieldLink RX3 15 "WhisperRing$Script" "size" "I", .fieldLink RX3 9 "WhisperRing$Script" "bytes" "[I", .fieldLink RX3 41 "WhisperRing$Script" "tokenAt" "I", .fieldLink RX3 44 "WhisperRing$Script" "value" "I", .methodLink RX3 94 yX3_tokenOf, .static yX3_tokenOf, .code yX3_tokenOf cX3_tokenOf 1 (some .int), .methodLink RX3 98 yX3_weigh, .instanceMethod yX3_weigh, .selects RX3 yX3_weigh yX3_weigh, .code yX3_weigh cX3_weigh 3 none] ++ wsX30)
def wsX3_readPlaces_r1 : List Cond := [Cond.fieldLink RX3 44 "WhisperRing$Script" "value" "I", Cond.fieldLink RX3 73 "WhisperRing$Hall" "places" "I", Cond.methodLink RX3 69 yX3_readNumber, Cond.instanceMethod yX3_readNumber, Cond.selects RX3 yX3_readNumber yX3_readNumber, Cond.initialized RX3, Cond.code yX3_readNumber cX3_readNumber 3 (some .boolean), Cond.fieldLink RX3 34 "WhisperRing$Script" "token" "I", Cond.methodLink RX3 31 yX3_step, Cond.instanceMethod yX3_step, Cond.selects RX3 yX3_step yX3_step, Cond.code yX3_step cX3_step 1 none, Cond.fieldLink RX3 28 "WhisperRing$Script" "next" "I", Cond.fieldLink RX3 15 "WhisperRing$Script" "size" "I", Cond.fieldLink RX3 9 "WhisperRing$Script" "bytes" "[I", Cond.fieldLink RX3 41 "WhisperRing$Script" "tokenAt" "I", Cond.methodLink RX3 94 yX3_tokenOf, Cond.static yX3_tokenOf, Cond.code yX3_tokenOf cX3_tokenOf 1 (some .int), Cond.methodLink RX3 98 yX3_weigh, Cond.instanceMethod yX3_weigh, Cond.selects RX3 yX3_weigh yX3_weigh, Cond.code yX3_weigh cX3_weigh 3 none, Cond.static yX4_within]
def wsX3_readPlaces_r2 : List Cond := [Cond.initialized RX4, Cond.code yX4_within cX4_within 3 (some .boolean), Cond.methodLink RX3 76 yX3_readStop, Cond.instanceMethod yX3_readStop, Cond.selects RX3 yX3_readStop yX3_readStop, Cond.code yX3_readStop cX3_readStop 1 (some .boolean)]
def wsX3_readPlaces : List Cond := .code yX3_readPlaces cX3_readPlaces 2 (some .boolean) :: ((wsX3_readPlaces_r1 ++ wsX3_readPlaces_r2) ++ wsX30 ++ wsX00)
def wsX3_readLoss_r1 : List Cond := [Cond.fieldLink RX3 44 "WhisperRing$Script" "value" "I", Cond.fieldLink RX3 80 "WhisperRing$Hall" "loss" "I", Cond.fieldLink RX3 24 "WhisperRing$Script" "lossTold" "Z", Cond.methodLink RX3 69 yX3_readNumber, Cond.instanceMethod yX3_readNumber, Cond.selects RX3 yX3_readNumber yX3_readNumber, Cond.initialized RX3, Cond.code yX3_readNumber cX3_readNumber 3 (some .boolean), Cond.fieldLink RX3 34 "WhisperRing$Script" "token" "I", Cond.methodLink RX3 31 yX3_step, Cond.instanceMethod yX3_step, Cond.selects RX3 yX3_step yX3_step, Cond.code yX3_step cX3_step 1 none, Cond.fieldLink RX3 28 "WhisperRing$Script" "next" "I", Cond.fieldLink RX3 15 "WhisperRing$Script" "size" "I", Cond.fieldLink RX3 9 "WhisperRing$Script" "bytes" "[I", Cond.fieldLink RX3 41 "WhisperRing$Script" "tokenAt" "I", Cond.methodLink RX3 94 yX3_tokenOf, Cond.static yX3_tokenOf, Cond.code yX3_tokenOf cX3_tokenOf 1 (some .int), Cond.methodLink RX3 98 yX3_weigh, Cond.instanceMethod yX3_weigh, Cond.selects RX3 yX3_weigh yX3_weigh, Cond.code yX3_weigh cX3_weigh 3 none]
def wsX3_readLoss_r2 : List Cond := [Cond.static yX4_within, Cond.initialized RX4, Cond.code yX4_within cX4_within 3 (some .boolean), Cond.methodLink RX3 76 yX3_readStop, Cond.instanceMethod yX3_readStop, Cond.selects RX3 yX3_readStop yX3_readStop, Cond.code yX3_readStop cX3_readStop 1 (some .boolean)]
def wsX3_readLoss : List Cond := .code yX3_readLoss cX3_readLoss 2 (some .boolean) :: ((wsX3_readLoss_r1 ++ wsX3_readLoss_r2) ++ wsX30 ++ wsX00)
def wsX3_readNiche_r1 : List Cond := [Cond.fieldLink RX3 73 "WhisperRing$Hall" "places" "I", Cond.fieldLink RX3 83 "WhisperRing$Hall" "niches" "I", Cond.fieldLink RX3 44 "WhisperRing$Script" "value" "I", Cond.methodLink RX3 69 yX3_readNumber, Cond.instanceMethod yX3_readNumber, Cond.selects RX3 yX3_readNumber yX3_readNumber, Cond.initialized RX3, Cond.code yX3_readNumber cX3_readNumber 3 (some .boolean), Cond.fieldLink RX3 34 "WhisperRing$Script" "token" "I", Cond.methodLink RX3 31 yX3_step, Cond.instanceMethod yX3_step, Cond.selects RX3 yX3_step yX3_step, Cond.code yX3_step cX3_step 1 none, Cond.fieldLink RX3 28 "WhisperRing$Script" "next" "I", Cond.fieldLink RX3 15 "WhisperRing$Script" "size" "I", Cond.fieldLink RX3 9 "WhisperRing$Script" "bytes" "[I", Cond.fieldLink RX3 41 "WhisperRing$Script" "tokenAt" "I", Cond.methodLink RX3 94 yX3_tokenOf, Cond.static yX3_tokenOf, Cond.code yX3_tokenOf cX3_tokenOf 1 (some .int), Cond.methodLink RX3 98 yX3_weigh, Cond.instanceMethod yX3_weigh, Cond.selects RX3 yX3_weigh yX3_weigh, Cond.code yX3_weigh cX3_weigh 3 none]
def wsX3_readNiche_r2 : List Cond := [Cond.static yX4_within, Cond.initialized RX4, Cond.code yX4_within cX4_within 3 (some .boolean), Cond.methodLink RX3 76 yX3_readStop, Cond.instanceMethod yX3_readStop, Cond.selects RX3 yX3_readStop yX3_readStop, Cond.code yX3_readStop cX3_readStop 1 (some .boolean)]
def wsX3_readNiche : List Cond := .code yX3_readNiche cX3_readNiche 2 (some .boolean) :: ((wsX3_readNiche_r1 ++ wsX3_readNiche_r2) ++ wsX00 ++ wsX30)
def wsX3_readSaying_r1 : List Cond := [Cond.fieldLink RX3 73 "WhisperRing$Hall" "places" "I", Cond.fieldLink RX3 44 "WhisperRing$Script" "value" "I", Cond.fieldLink RX3 57 "WhisperRing$Hall" "now" "LWhisperRing$Moment;", Cond.methodLink RX3 69 yX3_readNumber, Cond.instanceMethod yX3_readNumber, Cond.selects RX3 yX3_readNumber yX3_readNumber, Cond.initialized RX3, Cond.code yX3_readNumber cX3_readNumber 3 (some .boolean), Cond.fieldLink RX3 34 "WhisperRing$Script" "token" "I", Cond.methodLink RX3 31 yX3_step, Cond.instanceMethod yX3_step, Cond.selects RX3 yX3_step yX3_step, Cond.code yX3_step cX3_step 1 none, Cond.fieldLink RX3 28 "WhisperRing$Script" "next" "I", Cond.fieldLink RX3 15 "WhisperRing$Script" "size" "I", Cond.fieldLink RX3 9 "WhisperRing$Script" "bytes" "[I", Cond.fieldLink RX3 41 "WhisperRing$Script" "tokenAt" "I", Cond.methodLink RX3 94 yX3_tokenOf, Cond.static yX3_tokenOf, Cond.code yX3_tokenOf cX3_tokenOf 1 (some .int), Cond.methodLink RX3 98 yX3_weigh, Cond.instanceMethod yX3_weigh, Cond.selects RX3 yX3_weigh yX3_weigh, Cond.code yX3_weigh cX3_weigh 3 none]
def wsX3_readSaying_r2 : List Cond := [Cond.static yX4_within, Cond.initialized RX4, Cond.code yX4_within cX4_within 3 (some .boolean), Cond.methodLink RX3 86 yX2_add, Cond.instanceMethod yX2_add, Cond.selects RX2 yX2_add yX2_add, Cond.initialized RX2, Cond.code yX2_add cX2_add 5 (some .boolean), Cond.fieldLink RX2 34 "WhisperRing$Moment" "sayings" "I", Cond.fieldLink RX2 9 "WhisperRing$Moment" "from" "[I", Cond.fieldLink RX2 15 "WhisperRing$Moment" "speed" "[I", Cond.fieldLink RX2 18 "WhisperRing$Moment" "way" "[I", Cond.fieldLink RX2 21 "WhisperRing$Moment" "loud" "[I", Cond.fieldLink RX2 24 "WhisperRing$Moment" "saidAt" "[I", Cond.fieldLink RX2 30 "WhisperRing$Moment" "tick" "I", Cond.methodLink RX3 76 yX3_readStop, Cond.instanceMethod yX3_readStop, Cond.selects RX3 yX3_readStop yX3_readStop, Cond.code yX3_readStop cX3_readStop 1 (some .boolean)]
def wsX3_readSaying : List Cond := .code yX3_readSaying cX3_readSaying 5 (some .boolean) :: ((wsX3_readSaying_r1 ++ wsX3_readSaying_r2) ++ wsX00 ++ wsX30 ++ wsX20)
def wsX3_readItem_r1 : List Cond := [Cond.fieldLink RX3 34 "WhisperRing$Script" "token" "I", Cond.fieldLink RX3 44 "WhisperRing$Script" "value" "I", Cond.fieldLink RX3 24 "WhisperRing$Script" "lossTold" "Z", Cond.fieldLink RX3 57 "WhisperRing$Hall" "now" "LWhisperRing$Moment;", Cond.fieldLink RX3 61 "WhisperRing$Moment" "sayings" "I", Cond.methodLink RX3 47 yX3_readPlaces, Cond.instanceMethod yX3_readPlaces, Cond.selects RX3 yX3_readPlaces yX3_readPlaces, Cond.initialized RX3, Cond.code yX3_readPlaces cX3_readPlaces 2 (some .boolean), Cond.fieldLink RX3 73 "WhisperRing$Hall" "places" "I", Cond.methodLink RX3 69 yX3_readNumber, Cond.instanceMethod yX3_readNumber, Cond.selects RX3 yX3_readNumber yX3_readNumber, Cond.code yX3_readNumber cX3_readNumber 3 (some .boolean), Cond.methodLink RX3 31 yX3_step, Cond.instanceMethod yX3_step, Cond.selects RX3 yX3_step yX3_step, Cond.code yX3_step cX3_step 1 none, Cond.fieldLink RX3 28 "WhisperRing$Script" "next" "I", Cond.fieldLink RX3 15 "WhisperRing$Script" "size" "I", Cond.fieldLink RX3 9 "WhisperRing$Script" "bytes" "[I", Cond.fieldLink RX3 41 "WhisperRing$Script" "tokenAt" "I", Cond.methodLink RX3 94 yX3_tokenOf]
def wsX3_readItem_r2 : List Cond := [Cond.static yX3_tokenOf, Cond.code yX3_tokenOf cX3_tokenOf 1 (some .int), Cond.methodLink RX3 98 yX3_weigh, Cond.instanceMethod yX3_weigh, Cond.selects RX3 yX3_weigh yX3_weigh, Cond.code yX3_weigh cX3_weigh 3 none, Cond.static yX4_within, Cond.initialized RX4, Cond.code yX4_within cX4_within 3 (some .boolean), Cond.methodLink RX3 76 yX3_readStop, Cond.instanceMethod yX3_readStop, Cond.selects RX3 yX3_readStop yX3_readStop, Cond.code yX3_readStop cX3_readStop 1 (some .boolean), Cond.methodLink RX3 51 yX3_readLoss, Cond.instanceMethod yX3_readLoss, Cond.selects RX3 yX3_readLoss yX3_readLoss, Cond.code yX3_readLoss cX3_readLoss 2 (some .boolean), Cond.fieldLink RX3 80 "WhisperRing$Hall" "loss" "I", Cond.methodLink RX3 54 yX3_readNiche, Cond.instanceMethod yX3_readNiche, Cond.selects RX3 yX3_readNiche yX3_readNiche, Cond.code yX3_readNiche cX3_readNiche 2 (some .boolean), Cond.fieldLink RX3 83 "WhisperRing$Hall" "niches" "I", Cond.methodLink RX3 66 yX3_readSaying]
def wsX3_readItem_r3 : List Cond := [Cond.instanceMethod yX3_readSaying, Cond.selects RX3 yX3_readSaying yX3_readSaying, Cond.code yX3_readSaying cX3_readSaying 5 (some .boolean), Cond.methodLink RX3 86 yX2_add, Cond.instanceMethod yX2_add, Cond.selects RX2 yX2_add yX2_add, Cond.initialized RX2, Cond.code yX2_add cX2_add 5 (some .boolean), Cond.fieldLink RX2 34 "WhisperRing$Moment" "sayings" "I", Cond.fieldLink RX2 9 "WhisperRing$Moment" "from" "[I", Cond.fieldLink RX2 15 "WhisperRing$Moment" "speed" "[I", Cond.fieldLink RX2 18 "WhisperRing$Moment" "way" "[I", Cond.fieldLink RX2 21 "WhisperRing$Moment" "loud" "[I", Cond.fieldLink RX2 24 "WhisperRing$Moment" "saidAt" "[I", Cond.fieldLink RX2 30 "WhisperRing$Moment" "tick" "I"]
def wsX3_readItem : List Cond := .code yX3_readItem cX3_readItem 3 (some .boolean) :: ((wsX3_readItem_r1 ++ (wsX3_readItem_r2 ++ wsX3_readItem_r3)) ++ wsX30 ++ wsX00 ++ wsX20)
def wsX3_readInto_r1 : List Cond := [Cond.fieldLink RX3 24 "WhisperRing$Script" "lossTold" "Z", Cond.fieldLink RX3 28 "WhisperRing$Script" "next" "I", Cond.fieldLink RX3 34 "WhisperRing$Script" "token" "I", Cond.fieldLink RX3 41 "WhisperRing$Script" "tokenAt" "I", Cond.methodLink RX3 19 yX0_empty, Cond.instanceMethod yX0_empty, Cond.selects RX0 yX0_empty yX0_empty, Cond.initialized RX0, Cond.code yX0_empty cX0_empty 1 none, Cond.fieldLink RX0 9 "WhisperRing$Hall" "places" "I", Cond.fieldLink RX0 15 "WhisperRing$Hall" "loss" "I", Cond.fieldLink RX0 32 "WhisperRing$Hall" "niches" "I", Cond.fieldLink RX0 21 "WhisperRing$Hall" "now" "LWhisperRing$Moment;", Cond.methodLink RX0 35 yX2_empty, Cond.instanceMethod yX2_empty, Cond.selects RX2 yX2_empty yX2_empty, Cond.initialized RX2, Cond.code yX2_empty cX2_empty 1 none, Cond.fieldLink RX2 30 "WhisperRing$Moment" "tick" "I", Cond.fieldLink RX2 34 "WhisperRing$Moment" "sayings" "I", Cond.fieldLink RX2 37 "WhisperRing$Moment" "hushed" "I", Cond.fieldLink RX2 40 "WhisperRing$Moment" "noted" "I", Cond.methodLink RX3 31 yX3_step, Cond.instanceMethod yX3_step]
def wsX3_readInto_r2 : List Cond := [Cond.selects RX3 yX3_step yX3_step, Cond.initialized RX3, Cond.code yX3_step cX3_step 1 none, Cond.fieldLink RX3 15 "WhisperRing$Script" "size" "I", Cond.fieldLink RX3 9 "WhisperRing$Script" "bytes" "[I", Cond.fieldLink RX3 44 "WhisperRing$Script" "value" "I", Cond.methodLink RX3 94 yX3_tokenOf, Cond.static yX3_tokenOf, Cond.code yX3_tokenOf cX3_tokenOf 1 (some .int), Cond.methodLink RX3 98 yX3_weigh, Cond.instanceMethod yX3_weigh, Cond.selects RX3 yX3_weigh yX3_weigh, Cond.code yX3_weigh cX3_weigh 3 none, Cond.methodLink RX3 37 yX3_readItem, Cond.instanceMethod yX3_readItem, Cond.selects RX3 yX3_readItem yX3_readItem, Cond.code yX3_readItem cX3_readItem 3 (some .boolean), Cond.fieldLink RX3 57 "WhisperRing$Hall" "now" "LWhisperRing$Moment;", Cond.fieldLink RX3 61 "WhisperRing$Moment" "sayings" "I", Cond.methodLink RX3 47 yX3_readPlaces, Cond.instanceMethod yX3_readPlaces, Cond.selects RX3 yX3_readPlaces yX3_readPlaces, Cond.code yX3_readPlaces cX3_readPlaces 2 (some .boolean), Cond.fieldLink RX3 73 "WhisperRing$Hall" "places" "I"]
def wsX3_readInto_r3 : List Cond := [Cond.methodLink RX3 69 yX3_readNumber, Cond.instanceMethod yX3_readNumber, Cond.selects RX3 yX3_readNumber yX3_readNumber, Cond.code yX3_readNumber cX3_readNumber 3 (some .boolean), Cond.static yX4_within, Cond.initialized RX4, Cond.code yX4_within cX4_within 3 (some .boolean), Cond.methodLink RX3 76 yX3_readStop, Cond.instanceMethod yX3_readStop, Cond.selects RX3 yX3_readStop yX3_readStop, Cond.code yX3_readStop cX3_readStop 1 (some .boolean), Cond.methodLink RX3 51 yX3_readLoss, Cond.instanceMethod yX3_readLoss, Cond.selects RX3 yX3_readLoss yX3_readLoss, Cond.code yX3_readLoss cX3_readLoss 2 (some .boolean), Cond.fieldLink RX3 80 "WhisperRing$Hall" "loss" "I", Cond.methodLink RX3 54 yX3_readNiche, Cond.instanceMethod yX3_readNiche, Cond.selects RX3 yX3_readNiche yX3_readNiche, Cond.code yX3_readNiche cX3_readNiche 2 (some .boolean), Cond.fieldLink RX3 83 "WhisperRing$Hall" "niches" "I", Cond.methodLink RX3 66 yX3_readSaying, Cond.instanceMethod yX3_readSaying, Cond.selects RX3 yX3_readSaying yX3_readSaying]
def wsX3_readInto_r4 : List Cond := [Cond.code yX3_readSaying cX3_readSaying 5 (some .boolean), Cond.methodLink RX3 86 yX2_add, Cond.instanceMethod yX2_add, Cond.selects RX2 yX2_add yX2_add, Cond.code yX2_add cX2_add 5 (some .boolean), Cond.fieldLink RX2 9 "WhisperRing$Moment" "from" "[I", Cond.fieldLink RX2 15 "WhisperRing$Moment" "speed" "[I", Cond.fieldLink RX2 18 "WhisperRing$Moment" "way" "[I", Cond.fieldLink RX2 21 "WhisperRing$Moment" "loud" "[I", Cond.fieldLink RX2 24 "WhisperRing$Moment" "saidAt" "[I"]
def wsX3_readInto : List Cond := .code yX3_readInto cX3_readInto 3 (some .int) :: ((wsX3_readInto_r1 ++ (wsX3_readInto_r2 ++ (wsX3_readInto_r3 ++ wsX3_readInto_r4))) ++ wsX30 ++ wsX00 ++ wsX20)
def wsX4_init_r1 : List Cond := [Cond.methodLink RX4 3 objectInit, Cond.instanceMethod objectInit, Cond.code objectInit ⟨#[0xb1]⟩ 1 none, Cond.classLink RX4 9 RX3, Cond.instantiable RX3 7, Cond.initialized RX3, Cond.fieldLink RX4 12 "WhisperRing" "script" "LWhisperRing$Script;", Cond.classLink RX4 16 RX1, Cond.instantiable RX1 4, Cond.initialized RX1, Cond.fieldLink RX4 19 "WhisperRing" "hearsay" "LWhisperRing$Hearsay;", Cond.classLink RX4 23 RX2, Cond.fieldLink RX4 25 "WhisperRing" "images" "[LWhisperRing$Moment;", Cond.instantiable RX2 10, Cond.initialized RX2, Cond.arrayClass .boolean, Cond.fieldLink RX4 30 "WhisperRing" "kept" "[Z", Cond.arrayClass .int, Cond.fieldLink RX4 34 "WhisperRing" "guessesAt" "[I", Cond.classLink RX4 38 RX0, Cond.instantiable RX0 6, Cond.initialized RX0, Cond.fieldLink RX4 41 "WhisperRing" "hall" "LWhisperRing$Hall;", Cond.fieldLink RX4 45 "WhisperRing" "draft" "LWhisperRing$Hall;"]
def wsX4_init_r2 : List Cond := [Cond.instanceMethod yX3_init, Cond.code yX3_init cX3_init 1 none, Cond.methodLink RX3 3 objectInit, Cond.fieldLink RX3 9 "WhisperRing$Script" "bytes" "[I", Cond.instanceMethod yX1_init, Cond.code yX1_init cX1_init 1 none, Cond.methodLink RX1 3 objectInit, Cond.fieldLink RX1 9 "WhisperRing$Hearsay" "at" "[I", Cond.fieldLink RX1 15 "WhisperRing$Hearsay" "behind" "[I", Cond.fieldLink RX1 18 "WhisperRing$Hearsay" "there" "[I", Cond.instanceMethod yX2_init, Cond.code yX2_init cX2_init 1 none, Cond.methodLink RX2 3 objectInit, Cond.fieldLink RX2 9 "WhisperRing$Moment" "from" "[I", Cond.fieldLink RX2 15 "WhisperRing$Moment" "speed" "[I", Cond.fieldLink RX2 18 "WhisperRing$Moment" "way" "[I", Cond.fieldLink RX2 21 "WhisperRing$Moment" "loud" "[I", Cond.fieldLink RX2 24 "WhisperRing$Moment" "saidAt" "[I", Cond.fieldLink RX2 27 "WhisperRing$Moment" "deeds" "[I", Cond.instanceMethod yX0_init, Cond.code yX0_init cX0_init 1 none, Cond.methodLink RX0 3 objectInit, Cond.fieldLink RX0 9 "WhisperRing$Hall" "places" "I", Cond.fieldLink RX0 15 "WhisperRing$Hall" "loss" "I"]
def wsX4_init_r3 : List Cond := [Cond.classLink RX0 18 RX2, Cond.fieldLink RX0 21 "WhisperRing$Hall" "now" "LWhisperRing$Moment;", Cond.fieldLink RX0 25 "WhisperRing$Hall" "at" "[I", Cond.fieldLink RX0 29 "WhisperRing$Hall" "strength" "[I"]
def wsX4_init : List Cond := .code yX4_init cX4_init 2 none :: ((wsX4_init_r1 ++ (wsX4_init_r2 ++ wsX4_init_r3)) ++ wsX30 ++ wsX40 ++ wsX10 ++ wsX20 ++ wsX00)
def wsX4_type : List Cond := .code yX4_type cX4_type 2 (some .int) :: ([.fieldLink RX4 12 "WhisperRing" "script" "LWhisperRing$Script;", .fieldLink RX4 56 "WhisperRing$Script" "size" "I", .methodLink RX4 48 yX4_within, .static yX4_within, .initialized RX4, .code yX4_within cX4_within 3 (some .boolean), .methodLink RX4 52 yX3_append, .instanceMethod yX3_append, .selects RX3 yX3_append yX3_append, .initialized RX3, .code yX3_append cX3_append 2 (some .boolean), .fieldLink RX3 15 "WhisperRing$Script" "size" "I", .fieldLink RX3 9 "WhisperRing$Script" "bytes" "[I"] ++ wsX40 ++ wsX30)
def wsX4_clear : List Cond := .code yX4_clear cX4_clear 2 (some .int) :: ([.fieldLink RX4 12 "WhisperRing" "script" "LWhisperRing$Script;", .fieldLink RX4 56 "WhisperRing$Script" "size" "I"] ++ wsX40 ++ wsX30)
def wsX4_gallery_r1 : List Cond := [Cond.fieldLink RX4 12 "WhisperRing" "script" "LWhisperRing$Script;", Cond.fieldLink RX4 45 "WhisperRing" "draft" "LWhisperRing$Hall;", Cond.fieldLink RX4 41 "WhisperRing" "hall" "LWhisperRing$Hall;", Cond.fieldLink RX4 56 "WhisperRing$Script" "size" "I", Cond.fieldLink RX4 19 "WhisperRing" "hearsay" "LWhisperRing$Hearsay;", Cond.fieldLink RX4 64 "WhisperRing$Hearsay" "size" "I", Cond.fieldLink RX4 30 "WhisperRing" "kept" "[Z", Cond.methodLink RX4 60 yX3_readInto, Cond.instanceMethod yX3_readInto, Cond.selects RX3 yX3_readInto yX3_readInto, Cond.initialized RX3, Cond.code yX3_readInto cX3_readInto 3 (some .int), Cond.fieldLink RX3 24 "WhisperRing$Script" "lossTold" "Z", Cond.fieldLink RX3 28 "WhisperRing$Script" "next" "I", Cond.fieldLink RX3 34 "WhisperRing$Script" "token" "I", Cond.fieldLink RX3 41 "WhisperRing$Script" "tokenAt" "I", Cond.methodLink RX3 19 yX0_empty, Cond.instanceMethod yX0_empty, Cond.selects RX0 yX0_empty yX0_empty, Cond.initialized RX0, Cond.code yX0_empty cX0_empty 1 none, Cond.fieldLink RX0 9 "WhisperRing$Hall" "places" "I", Cond.fieldLink RX0 15 "WhisperRing$Hall" "loss" "I", Cond.fieldLink RX0 32 "WhisperRing$Hall" "niches" "I"]
def wsX4_gallery_r2 : List Cond := [Cond.fieldLink RX0 21 "WhisperRing$Hall" "now" "LWhisperRing$Moment;", Cond.methodLink RX0 35 yX2_empty, Cond.instanceMethod yX2_empty, Cond.selects RX2 yX2_empty yX2_empty, Cond.initialized RX2, Cond.code yX2_empty cX2_empty 1 none, Cond.fieldLink RX2 30 "WhisperRing$Moment" "tick" "I", Cond.fieldLink RX2 34 "WhisperRing$Moment" "sayings" "I", Cond.fieldLink RX2 37 "WhisperRing$Moment" "hushed" "I", Cond.fieldLink RX2 40 "WhisperRing$Moment" "noted" "I", Cond.methodLink RX3 31 yX3_step, Cond.instanceMethod yX3_step, Cond.selects RX3 yX3_step yX3_step, Cond.code yX3_step cX3_step 1 none, Cond.fieldLink RX3 15 "WhisperRing$Script" "size" "I", Cond.fieldLink RX3 9 "WhisperRing$Script" "bytes" "[I", Cond.fieldLink RX3 44 "WhisperRing$Script" "value" "I", Cond.methodLink RX3 94 yX3_tokenOf, Cond.static yX3_tokenOf, Cond.code yX3_tokenOf cX3_tokenOf 1 (some .int), Cond.methodLink RX3 98 yX3_weigh, Cond.instanceMethod yX3_weigh, Cond.selects RX3 yX3_weigh yX3_weigh, Cond.code yX3_weigh cX3_weigh 3 none]
def wsX4_gallery_r3 : List Cond := [Cond.methodLink RX3 37 yX3_readItem, Cond.instanceMethod yX3_readItem, Cond.selects RX3 yX3_readItem yX3_readItem, Cond.code yX3_readItem cX3_readItem 3 (some .boolean), Cond.fieldLink RX3 57 "WhisperRing$Hall" "now" "LWhisperRing$Moment;", Cond.fieldLink RX3 61 "WhisperRing$Moment" "sayings" "I", Cond.methodLink RX3 47 yX3_readPlaces, Cond.instanceMethod yX3_readPlaces, Cond.selects RX3 yX3_readPlaces yX3_readPlaces, Cond.code yX3_readPlaces cX3_readPlaces 2 (some .boolean), Cond.fieldLink RX3 73 "WhisperRing$Hall" "places" "I", Cond.methodLink RX3 69 yX3_readNumber, Cond.instanceMethod yX3_readNumber, Cond.selects RX3 yX3_readNumber yX3_readNumber, Cond.code yX3_readNumber cX3_readNumber 3 (some .boolean), Cond.static yX4_within, Cond.initialized RX4, Cond.code yX4_within cX4_within 3 (some .boolean), Cond.methodLink RX3 76 yX3_readStop, Cond.instanceMethod yX3_readStop, Cond.selects RX3 yX3_readStop yX3_readStop, Cond.code yX3_readStop cX3_readStop 1 (some .boolean), Cond.methodLink RX3 51 yX3_readLoss, Cond.instanceMethod yX3_readLoss]
def wsX4_gallery_r4 : List Cond := [Cond.selects RX3 yX3_readLoss yX3_readLoss, Cond.code yX3_readLoss cX3_readLoss 2 (some .boolean), Cond.fieldLink RX3 80 "WhisperRing$Hall" "loss" "I", Cond.methodLink RX3 54 yX3_readNiche, Cond.instanceMethod yX3_readNiche, Cond.selects RX3 yX3_readNiche yX3_readNiche, Cond.code yX3_readNiche cX3_readNiche 2 (some .boolean), Cond.fieldLink RX3 83 "WhisperRing$Hall" "niches" "I", Cond.methodLink RX3 66 yX3_readSaying, Cond.instanceMethod yX3_readSaying, Cond.selects RX3 yX3_readSaying yX3_readSaying, Cond.code yX3_readSaying cX3_readSaying 5 (some .boolean), Cond.methodLink RX3 86 yX2_add, Cond.instanceMethod yX2_add, Cond.selects RX2 yX2_add yX2_add, Cond.code yX2_add cX2_add 5 (some .boolean), Cond.fieldLink RX2 9 "WhisperRing$Moment" "from" "[I", Cond.fieldLink RX2 15 "WhisperRing$Moment" "speed" "[I", Cond.fieldLink RX2 18 "WhisperRing$Moment" "way" "[I", Cond.fieldLink RX2 21 "WhisperRing$Moment" "loud" "[I", Cond.fieldLink RX2 24 "WhisperRing$Moment" "saidAt" "[I"]
def wsX4_gallery : List Cond := .code yX4_gallery cX4_gallery 4 (some .int) :: ((wsX4_gallery_r1 ++ (wsX4_gallery_r2 ++ (wsX4_gallery_r3 ++ wsX4_gallery_r4))) ++ wsX40 ++ wsX30 ++ wsX10 ++ wsX00 ++ wsX20)
def wsX4_saying_r1 : List Cond := [Cond.fieldLink RX4 41 "WhisperRing" "hall" "LWhisperRing$Hall;", Cond.fieldLink RX4 68 "WhisperRing$Hall" "now" "LWhisperRing$Moment;", Cond.fieldLink RX4 72 "WhisperRing$Moment" "from" "[I", Cond.fieldLink RX4 75 "WhisperRing$Moment" "speed" "[I", Cond.fieldLink RX4 78 "WhisperRing$Moment" "way" "[I", Cond.fieldLink RX4 81 "WhisperRing$Moment" "loud" "[I", Cond.methodLink RX4 65 yX0_hasSaying, Cond.instanceMethod yX0_hasSaying, Cond.selects RX0 yX0_hasSaying yX0_hasSaying, Cond.initialized RX0, Cond.code yX0_hasSaying cX0_hasSaying 2 (some .boolean), Cond.fieldLink RX0 21 "WhisperRing$Hall" "now" "LWhisperRing$Moment;", Cond.fieldLink RX0 42 "WhisperRing$Moment" "sayings" "I", Cond.static yX4_within, Cond.initialized RX4, Cond.code yX4_within cX4_within 3 (some .boolean), Cond.methodLink RX4 84 yX0_placeAfter, Cond.instanceMethod yX0_placeAfter, Cond.selects RX0 yX0_placeAfter yX0_placeAfter, Cond.code yX0_placeAfter cX0_placeAfter 3 (some .int), Cond.fieldLink RX0 67 "WhisperRing$Moment" "from" "[I", Cond.fieldLink RX0 70 "WhisperRing$Moment" "way" "[I", Cond.methodLink RX0 73 yX0_goneAfter, Cond.instanceMethod yX0_goneAfter]
def wsX4_saying_r2 : List Cond := [Cond.selects RX0 yX0_goneAfter yX0_goneAfter, Cond.code yX0_goneAfter cX0_goneAfter 3 (some .int), Cond.fieldLink RX0 58 "WhisperRing$Moment" "speed" "[I", Cond.fieldLink RX0 61 "WhisperRing$Moment" "tick" "I", Cond.fieldLink RX0 64 "WhisperRing$Moment" "saidAt" "[I", Cond.methodLink RX0 76 yX0_reach, Cond.instanceMethod yX0_reach, Cond.selects RX0 yX0_reach yX0_reach, Cond.code yX0_reach cX0_reach 5 (some .int), Cond.fieldLink RX0 9 "WhisperRing$Hall" "places" "I", Cond.methodLink RX0 45 yJ9_floorMod_7cf53, Cond.static yJ9_floorMod_7cf53, Cond.initialized RJ9, Cond.code yJ9_floorMod_7cf53 cJ9_floorMod_7cf53 3 (some .int), Cond.methodLink RX4 88 yX0_lapsAfter, Cond.instanceMethod yX0_lapsAfter, Cond.selects RX0 yX0_lapsAfter yX0_lapsAfter, Cond.code yX0_lapsAfter cX0_lapsAfter 3 (some .int), Cond.methodLink RX0 51 yX0_lapsOf, Cond.instanceMethod yX0_lapsOf, Cond.selects RX0 yX0_lapsOf yX0_lapsOf, Cond.code yX0_lapsOf cX0_lapsOf 2 (some .int), Cond.methodLink RX4 91 yX0_strengthAfter, Cond.instanceMethod yX0_strengthAfter]
def wsX4_saying_r3 : List Cond := [Cond.selects RX0 yX0_strengthAfter yX0_strengthAfter, Cond.code yX0_strengthAfter cX0_strengthAfter 3 (some .int), Cond.fieldLink RX0 84 "WhisperRing$Moment" "loud" "[I", Cond.methodLink RX0 80 yX2_isHushed, Cond.instanceMethod yX2_isHushed, Cond.selects RX2 yX2_isHushed yX2_isHushed, Cond.initialized RX2, Cond.code yX2_isHushed cX2_isHushed 2 (some .boolean), Cond.fieldLink RX2 37 "WhisperRing$Moment" "hushed" "I", Cond.methodLink RX0 87 yX0_strengthLeft, Cond.instanceMethod yX0_strengthLeft, Cond.selects RX0 yX0_strengthLeft yX0_strengthLeft, Cond.code yX0_strengthLeft cX0_strengthLeft 3 (some .int), Cond.fieldLink RX0 15 "WhisperRing$Hall" "loss" "I", Cond.methodLink RX0 55 Lib.Math.max.name, Cond.static Lib.Math.max.name, Cond.initialized "java/lang/Math", Cond.code Lib.Math.max.name Lib.Math.max.code 2 (some .int), Cond.methodLink RX4 94 yX2_isHushed, Cond.methodLink RX4 97 yX0_lastOf, Cond.instanceMethod yX0_lastOf, Cond.selects RX0 yX0_lastOf yX0_lastOf, Cond.code yX0_lastOf cX0_lastOf 3 (some .int), Cond.methodLink RX0 93 yX0_strengthAfter]
def wsX4_saying : List Cond := .code yX4_saying cX4_saying 4 (some .int) :: ((wsX4_saying_r1 ++ (wsX4_saying_r2 ++ wsX4_saying_r3)) ++ wsX40 ++ wsX00 ++ wsX20)
def wsX4_place_r1 : List Cond := [Cond.fieldLink RX4 41 "WhisperRing" "hall" "LWhisperRing$Hall;", Cond.methodLink RX4 101 yX0_hasPlace, Cond.instanceMethod yX0_hasPlace, Cond.selects RX0 yX0_hasPlace yX0_hasPlace, Cond.initialized RX0, Cond.code yX0_hasPlace cX0_hasPlace 2 (some .boolean), Cond.fieldLink RX0 9 "WhisperRing$Hall" "places" "I", Cond.static yX4_within, Cond.initialized RX4, Cond.code yX4_within cX4_within 3 (some .boolean), Cond.methodLink RX4 104 yX0_listen, Cond.instanceMethod yX0_listen, Cond.selects RX0 yX0_listen yX0_listen, Cond.code yX0_listen cX0_listen 3 none, Cond.fieldLink RX0 21 "WhisperRing$Hall" "now" "LWhisperRing$Moment;", Cond.fieldLink RX0 42 "WhisperRing$Moment" "sayings" "I", Cond.fieldLink RX0 25 "WhisperRing$Hall" "at" "[I", Cond.fieldLink RX0 29 "WhisperRing$Hall" "strength" "[I", Cond.methodLink RX0 90 yX0_placeAfter, Cond.instanceMethod yX0_placeAfter, Cond.selects RX0 yX0_placeAfter yX0_placeAfter, Cond.code yX0_placeAfter cX0_placeAfter 3 (some .int), Cond.fieldLink RX0 67 "WhisperRing$Moment" "from" "[I", Cond.fieldLink RX0 70 "WhisperRing$Moment" "way" "[I"]
def wsX4_place_r2 : List Cond := [Cond.methodLink RX0 73 yX0_goneAfter, Cond.instanceMethod yX0_goneAfter, Cond.selects RX0 yX0_goneAfter yX0_goneAfter, Cond.code yX0_goneAfter cX0_goneAfter 3 (some .int), Cond.fieldLink RX0 58 "WhisperRing$Moment" "speed" "[I", Cond.fieldLink RX0 61 "WhisperRing$Moment" "tick" "I", Cond.fieldLink RX0 64 "WhisperRing$Moment" "saidAt" "[I", Cond.methodLink RX0 76 yX0_reach, Cond.instanceMethod yX0_reach, Cond.selects RX0 yX0_reach yX0_reach, Cond.code yX0_reach cX0_reach 5 (some .int), Cond.methodLink RX0 45 yJ9_floorMod_7cf53, Cond.static yJ9_floorMod_7cf53, Cond.initialized RJ9, Cond.code yJ9_floorMod_7cf53 cJ9_floorMod_7cf53 3 (some .int), Cond.methodLink RX0 93 yX0_strengthAfter, Cond.instanceMethod yX0_strengthAfter, Cond.selects RX0 yX0_strengthAfter yX0_strengthAfter, Cond.code yX0_strengthAfter cX0_strengthAfter 3 (some .int), Cond.fieldLink RX0 84 "WhisperRing$Moment" "loud" "[I", Cond.methodLink RX0 80 yX2_isHushed, Cond.instanceMethod yX2_isHushed, Cond.selects RX2 yX2_isHushed yX2_isHushed, Cond.initialized RX2]
def wsX4_place_r3 : List Cond := [Cond.code yX2_isHushed cX2_isHushed 2 (some .boolean), Cond.fieldLink RX2 37 "WhisperRing$Moment" "hushed" "I", Cond.methodLink RX0 87 yX0_strengthLeft, Cond.instanceMethod yX0_strengthLeft, Cond.selects RX0 yX0_strengthLeft yX0_strengthLeft, Cond.code yX0_strengthLeft cX0_strengthLeft 3 (some .int), Cond.fieldLink RX0 15 "WhisperRing$Hall" "loss" "I", Cond.methodLink RX0 55 Lib.Math.max.name, Cond.static Lib.Math.max.name, Cond.initialized "java/lang/Math", Cond.code Lib.Math.max.name Lib.Math.max.code 2 (some .int), Cond.methodLink RX0 51 yX0_lapsOf, Cond.instanceMethod yX0_lapsOf, Cond.selects RX0 yX0_lapsOf yX0_lapsOf, Cond.code yX0_lapsOf cX0_lapsOf 2 (some .int), Cond.methodLink RX4 108 yX0_isNiche, Cond.instanceMethod yX0_isNiche, Cond.selects RX0 yX0_isNiche yX0_isNiche, Cond.code yX0_isNiche cX0_isNiche 2 (some .boolean), Cond.fieldLink RX0 32 "WhisperRing$Hall" "niches" "I", Cond.methodLink RX4 111 yX0_soundingAt, Cond.instanceMethod yX0_soundingAt, Cond.selects RX0 yX0_soundingAt yX0_soundingAt, Cond.code yX0_soundingAt cX0_soundingAt 4 (some .int)]
def wsX4_place_r4 : List Cond := [Cond.methodLink RX4 114 yX0_clearAt, Cond.instanceMethod yX0_clearAt, Cond.selects RX0 yX0_clearAt yX0_clearAt, Cond.code yX0_clearAt cX0_clearAt 4 (some .int), Cond.methodLink RX0 96 yX0_strengthAt, Cond.instanceMethod yX0_strengthAt, Cond.selects RX0 yX0_strengthAt yX0_strengthAt, Cond.code yX0_strengthAt cX0_strengthAt 4 (some .int), Cond.methodLink RX4 117 yX0_isSea, Cond.instanceMethod yX0_isSea, Cond.selects RX0 yX0_isSea yX0_isSea, Cond.code yX0_isSea cX0_isSea 2 (some .boolean), Cond.methodLink RX0 99 yX0_soundingAt, Cond.methodLink RX0 102 yX0_clearAt, Cond.methodLink RX4 120 yX0_strengthAt, Cond.methodLink RX4 123 yX0_quietOf, Cond.instanceMethod yX0_quietOf, Cond.selects RX0 yX0_quietOf yX0_quietOf, Cond.code yX0_quietOf cX0_quietOf 3 (some .int), Cond.methodLink RX0 116 yX0_listen]
def wsX4_place : List Cond := .code yX4_place cX4_place 3 (some .int) :: ((wsX4_place_r1 ++ (wsX4_place_r2 ++ (wsX4_place_r3 ++ wsX4_place_r4))) ++ wsX40 ++ wsX00 ++ wsX20)
def wsX4_ticks_r1 : List Cond := [Cond.fieldLink RX4 41 "WhisperRing" "hall" "LWhisperRing$Hall;", Cond.fieldLink RX4 68 "WhisperRing$Hall" "now" "LWhisperRing$Moment;", Cond.fieldLink RX4 126 "WhisperRing$Moment" "tick" "I", Cond.methodLink RX4 48 yX4_within, Cond.static yX4_within, Cond.initialized RX4, Cond.code yX4_within cX4_within 3 (some .boolean), Cond.methodLink RX4 129 yX2_goBy, Cond.instanceMethod yX2_goBy, Cond.selects RX2 yX2_goBy yX2_goBy, Cond.initialized RX2, Cond.code yX2_goBy cX2_goBy 2 none, Cond.fieldLink RX2 30 "WhisperRing$Moment" "tick" "I", Cond.methodLink RX2 49 yX2_note, Cond.instanceMethod yX2_note, Cond.selects RX2 yX2_note yX2_note, Cond.code yX2_note cX2_note 2 none, Cond.fieldLink RX2 40 "WhisperRing$Moment" "noted" "I", Cond.fieldLink RX2 27 "WhisperRing$Moment" "deeds" "[I", Cond.methodLink RX2 43 arraycopyName, Cond.native arraycopyName, Cond.static arraycopyName, Cond.initialized "java/lang/System", Cond.methodLink RX4 104 yX0_listen]
def wsX4_ticks_r2 : List Cond := [Cond.instanceMethod yX0_listen, Cond.selects RX0 yX0_listen yX0_listen, Cond.initialized RX0, Cond.code yX0_listen cX0_listen 3 none, Cond.fieldLink RX0 21 "WhisperRing$Hall" "now" "LWhisperRing$Moment;", Cond.fieldLink RX0 42 "WhisperRing$Moment" "sayings" "I", Cond.fieldLink RX0 25 "WhisperRing$Hall" "at" "[I", Cond.fieldLink RX0 29 "WhisperRing$Hall" "strength" "[I", Cond.methodLink RX0 90 yX0_placeAfter, Cond.instanceMethod yX0_placeAfter, Cond.selects RX0 yX0_placeAfter yX0_placeAfter, Cond.code yX0_placeAfter cX0_placeAfter 3 (some .int), Cond.fieldLink RX0 67 "WhisperRing$Moment" "from" "[I", Cond.fieldLink RX0 70 "WhisperRing$Moment" "way" "[I", Cond.methodLink RX0 73 yX0_goneAfter, Cond.instanceMethod yX0_goneAfter, Cond.selects RX0 yX0_goneAfter yX0_goneAfter, Cond.code yX0_goneAfter cX0_goneAfter 3 (some .int), Cond.fieldLink RX0 58 "WhisperRing$Moment" "speed" "[I", Cond.fieldLink RX0 61 "WhisperRing$Moment" "tick" "I", Cond.fieldLink RX0 64 "WhisperRing$Moment" "saidAt" "[I", Cond.methodLink RX0 76 yX0_reach, Cond.instanceMethod yX0_reach, Cond.selects RX0 yX0_reach yX0_reach]
def wsX4_ticks_r3 : List Cond := [Cond.code yX0_reach cX0_reach 5 (some .int), Cond.fieldLink RX0 9 "WhisperRing$Hall" "places" "I", Cond.methodLink RX0 45 yJ9_floorMod_7cf53, Cond.static yJ9_floorMod_7cf53, Cond.initialized RJ9, Cond.code yJ9_floorMod_7cf53 cJ9_floorMod_7cf53 3 (some .int), Cond.methodLink RX0 93 yX0_strengthAfter, Cond.instanceMethod yX0_strengthAfter, Cond.selects RX0 yX0_strengthAfter yX0_strengthAfter, Cond.code yX0_strengthAfter cX0_strengthAfter 3 (some .int), Cond.fieldLink RX0 84 "WhisperRing$Moment" "loud" "[I", Cond.methodLink RX0 80 yX2_isHushed, Cond.instanceMethod yX2_isHushed, Cond.selects RX2 yX2_isHushed yX2_isHushed, Cond.code yX2_isHushed cX2_isHushed 2 (some .boolean), Cond.fieldLink RX2 37 "WhisperRing$Moment" "hushed" "I", Cond.methodLink RX0 87 yX0_strengthLeft, Cond.instanceMethod yX0_strengthLeft, Cond.selects RX0 yX0_strengthLeft yX0_strengthLeft, Cond.code yX0_strengthLeft cX0_strengthLeft 3 (some .int), Cond.fieldLink RX0 15 "WhisperRing$Hall" "loss" "I", Cond.methodLink RX0 55 Lib.Math.max.name, Cond.static Lib.Math.max.name, Cond.initialized "java/lang/Math"]
def wsX4_ticks_r4 : List Cond := [Cond.code Lib.Math.max.name Lib.Math.max.code 2 (some .int), Cond.methodLink RX0 51 yX0_lapsOf, Cond.instanceMethod yX0_lapsOf, Cond.selects RX0 yX0_lapsOf yX0_lapsOf, Cond.code yX0_lapsOf cX0_lapsOf 2 (some .int), Cond.methodLink RX4 132 yX0_lasting, Cond.instanceMethod yX0_lasting, Cond.selects RX0 yX0_lasting yX0_lasting, Cond.code yX0_lasting cX0_lasting 3 (some .int), Cond.methodLink RX4 136 yJ6_bitCount_0f7a4, Cond.static yJ6_bitCount_0f7a4, Cond.initialized RJ6, Cond.code yJ6_bitCount_0f7a4 cJ6_bitCount_0f7a4 1 (some .int), Cond.constant RJ6 265 (1431655765), Cond.constant RJ6 266 (858993459), Cond.constant RJ6 267 (252645135)]
def wsX4_ticks : List Cond := .code yX4_ticks cX4_ticks 2 (some .int) :: ((wsX4_ticks_r1 ++ (wsX4_ticks_r2 ++ (wsX4_ticks_r3 ++ wsX4_ticks_r4))) ++ wsX40 ++ wsX00 ++ wsX20)
def wsX4_maySay : List Cond := .code yX4_maySay cX4_maySay 5 (some .boolean) :: ([.fieldLink RX4 41 "WhisperRing" "hall" "LWhisperRing$Hall;", .methodLink RX4 101 yX0_hasPlace, .instanceMethod yX0_hasPlace, .selects RX0 yX0_hasPlace yX0_hasPlace, .initialized RX0, .code yX0_hasPlace cX0_hasPlace 2 (some .boolean), .fieldLink RX0 9 "WhisperRing$Hall" "places" "I", .static yX4_within, .initialized RX4, .code yX4_within cX4_within 3 (some .boolean), .methodLink RX4 48 yX4_within] ++ wsX40 ++ wsX00)
def wsX4_says_r1 : List Cond := [Cond.fieldLink RX4 41 "WhisperRing" "hall" "LWhisperRing$Hall;", Cond.fieldLink RX4 68 "WhisperRing$Hall" "now" "LWhisperRing$Moment;", Cond.fieldLink RX4 151 "WhisperRing$Moment" "sayings" "I", Cond.methodLink RX4 141 yX4_maySay, Cond.instanceMethod yX4_maySay, Cond.selects RX4 yX4_maySay yX4_maySay, Cond.initialized RX4, Cond.code yX4_maySay cX4_maySay 5 (some .boolean), Cond.methodLink RX4 101 yX0_hasPlace, Cond.instanceMethod yX0_hasPlace, Cond.selects RX0 yX0_hasPlace yX0_hasPlace, Cond.initialized RX0, Cond.code yX0_hasPlace cX0_hasPlace 2 (some .boolean), Cond.fieldLink RX0 9 "WhisperRing$Hall" "places" "I", Cond.static yX4_within, Cond.code yX4_within cX4_within 3 (some .boolean), Cond.methodLink RX4 48 yX4_within, Cond.methodLink RX4 145 yX2_add, Cond.instanceMethod yX2_add, Cond.selects RX2 yX2_add yX2_add, Cond.initialized RX2, Cond.code yX2_add cX2_add 5 (some .boolean), Cond.fieldLink RX2 34 "WhisperRing$Moment" "sayings" "I", Cond.fieldLink RX2 9 "WhisperRing$Moment" "from" "[I"]
def wsX4_says_r2 : List Cond := [Cond.fieldLink RX2 15 "WhisperRing$Moment" "speed" "[I", Cond.fieldLink RX2 18 "WhisperRing$Moment" "way" "[I", Cond.fieldLink RX2 21 "WhisperRing$Moment" "loud" "[I", Cond.fieldLink RX2 24 "WhisperRing$Moment" "saidAt" "[I", Cond.fieldLink RX2 30 "WhisperRing$Moment" "tick" "I", Cond.methodLink RX4 148 yX2_note, Cond.instanceMethod yX2_note, Cond.selects RX2 yX2_note yX2_note, Cond.code yX2_note cX2_note 2 none, Cond.fieldLink RX2 40 "WhisperRing$Moment" "noted" "I", Cond.fieldLink RX2 27 "WhisperRing$Moment" "deeds" "[I", Cond.methodLink RX2 43 arraycopyName, Cond.native arraycopyName, Cond.static arraycopyName, Cond.initialized "java/lang/System"]
def wsX4_says : List Cond := .code yX4_says cX4_says 5 (some .int) :: ((wsX4_says_r1 ++ wsX4_says_r2) ++ wsX40 ++ wsX00 ++ wsX20)
def wsX4_hushes_r1 : List Cond := [Cond.fieldLink RX4 41 "WhisperRing" "hall" "LWhisperRing$Hall;", Cond.fieldLink RX4 68 "WhisperRing$Hall" "now" "LWhisperRing$Moment;", Cond.methodLink RX4 65 yX0_hasSaying, Cond.instanceMethod yX0_hasSaying, Cond.selects RX0 yX0_hasSaying yX0_hasSaying, Cond.initialized RX0, Cond.code yX0_hasSaying cX0_hasSaying 2 (some .boolean), Cond.fieldLink RX0 21 "WhisperRing$Hall" "now" "LWhisperRing$Moment;", Cond.fieldLink RX0 42 "WhisperRing$Moment" "sayings" "I", Cond.static yX4_within, Cond.initialized RX4, Cond.code yX4_within cX4_within 3 (some .boolean), Cond.methodLink RX4 91 yX0_strengthAfter, Cond.instanceMethod yX0_strengthAfter, Cond.selects RX0 yX0_strengthAfter yX0_strengthAfter, Cond.code yX0_strengthAfter cX0_strengthAfter 3 (some .int), Cond.fieldLink RX0 84 "WhisperRing$Moment" "loud" "[I", Cond.methodLink RX0 80 yX2_isHushed, Cond.instanceMethod yX2_isHushed, Cond.selects RX2 yX2_isHushed yX2_isHushed, Cond.initialized RX2, Cond.code yX2_isHushed cX2_isHushed 2 (some .boolean), Cond.fieldLink RX2 37 "WhisperRing$Moment" "hushed" "I", Cond.methodLink RX0 73 yX0_goneAfter]
def wsX4_hushes_r2 : List Cond := [Cond.instanceMethod yX0_goneAfter, Cond.selects RX0 yX0_goneAfter yX0_goneAfter, Cond.code yX0_goneAfter cX0_goneAfter 3 (some .int), Cond.fieldLink RX0 58 "WhisperRing$Moment" "speed" "[I", Cond.fieldLink RX0 61 "WhisperRing$Moment" "tick" "I", Cond.fieldLink RX0 64 "WhisperRing$Moment" "saidAt" "[I", Cond.methodLink RX0 87 yX0_strengthLeft, Cond.instanceMethod yX0_strengthLeft, Cond.selects RX0 yX0_strengthLeft yX0_strengthLeft, Cond.code yX0_strengthLeft cX0_strengthLeft 3 (some .int), Cond.fieldLink RX0 15 "WhisperRing$Hall" "loss" "I", Cond.methodLink RX0 55 Lib.Math.max.name, Cond.static Lib.Math.max.name, Cond.initialized "java/lang/Math", Cond.code Lib.Math.max.name Lib.Math.max.code 2 (some .int), Cond.methodLink RX0 51 yX0_lapsOf, Cond.instanceMethod yX0_lapsOf, Cond.selects RX0 yX0_lapsOf yX0_lapsOf, Cond.code yX0_lapsOf cX0_lapsOf 2 (some .int), Cond.fieldLink RX0 9 "WhisperRing$Hall" "places" "I", Cond.methodLink RX4 154 yX2_hush, Cond.instanceMethod yX2_hush, Cond.selects RX2 yX2_hush yX2_hush, Cond.code yX2_hush cX2_hush 2 none]
def wsX4_hushes_r3 : List Cond := [Cond.methodLink RX2 49 yX2_note, Cond.instanceMethod yX2_note, Cond.selects RX2 yX2_note yX2_note, Cond.code yX2_note cX2_note 2 none, Cond.fieldLink RX2 40 "WhisperRing$Moment" "noted" "I", Cond.fieldLink RX2 27 "WhisperRing$Moment" "deeds" "[I", Cond.methodLink RX2 43 arraycopyName, Cond.native arraycopyName, Cond.static arraycopyName, Cond.initialized "java/lang/System"]
def wsX4_hushes : List Cond := .code yX4_hushes cX4_hushes 3 (some .int) :: ((wsX4_hushes_r1 ++ (wsX4_hushes_r2 ++ wsX4_hushes_r3)) ++ wsX40 ++ wsX00 ++ wsX20)
def wsX4_undo : List Cond := .code yX4_undo cX4_undo 1 (some .int) :: ([.fieldLink RX4 41 "WhisperRing" "hall" "LWhisperRing$Hall;", .fieldLink RX4 68 "WhisperRing$Hall" "now" "LWhisperRing$Moment;", .fieldLink RX4 161 "WhisperRing$Moment" "noted" "I", .methodLink RX4 157 yX2_takeBack, .instanceMethod yX2_takeBack, .selects RX2 yX2_takeBack yX2_takeBack, .initialized RX2, .code yX2_takeBack cX2_takeBack 2 (some .boolean), .fieldLink RX2 40 "WhisperRing$Moment" "noted" "I", .fieldLink RX2 27 "WhisperRing$Moment" "deeds" "[I", .fieldLink RX2 34 "WhisperRing$Moment" "sayings" "I", .fieldLink RX2 30 "WhisperRing$Moment" "tick" "I", .fieldLink RX2 37 "WhisperRing$Moment" "hushed" "I"] ++ wsX40 ++ wsX00 ++ wsX20)
def wsX4_now_r1 : List Cond := [Cond.fieldLink RX4 41 "WhisperRing" "hall" "LWhisperRing$Hall;", Cond.fieldLink RX4 68 "WhisperRing$Hall" "now" "LWhisperRing$Moment;", Cond.fieldLink RX4 126 "WhisperRing$Moment" "tick" "I", Cond.methodLink RX4 104 yX0_listen, Cond.instanceMethod yX0_listen, Cond.selects RX0 yX0_listen yX0_listen, Cond.initialized RX0, Cond.code yX0_listen cX0_listen 3 none, Cond.fieldLink RX0 21 "WhisperRing$Hall" "now" "LWhisperRing$Moment;", Cond.fieldLink RX0 42 "WhisperRing$Moment" "sayings" "I", Cond.fieldLink RX0 25 "WhisperRing$Hall" "at" "[I", Cond.fieldLink RX0 29 "WhisperRing$Hall" "strength" "[I", Cond.methodLink RX0 90 yX0_placeAfter, Cond.instanceMethod yX0_placeAfter, Cond.selects RX0 yX0_placeAfter yX0_placeAfter, Cond.code yX0_placeAfter cX0_placeAfter 3 (some .int), Cond.fieldLink RX0 67 "WhisperRing$Moment" "from" "[I", Cond.fieldLink RX0 70 "WhisperRing$Moment" "way" "[I", Cond.methodLink RX0 73 yX0_goneAfter, Cond.instanceMethod yX0_goneAfter, Cond.selects RX0 yX0_goneAfter yX0_goneAfter, Cond.code yX0_goneAfter cX0_goneAfter 3 (some .int), Cond.fieldLink RX0 58 "WhisperRing$Moment" "speed" "[I", Cond.fieldLink RX0 61 "WhisperRing$Moment" "tick" "I"]
def wsX4_now_r2 : List Cond := [Cond.fieldLink RX0 64 "WhisperRing$Moment" "saidAt" "[I", Cond.methodLink RX0 76 yX0_reach, Cond.instanceMethod yX0_reach, Cond.selects RX0 yX0_reach yX0_reach, Cond.code yX0_reach cX0_reach 5 (some .int), Cond.fieldLink RX0 9 "WhisperRing$Hall" "places" "I", Cond.methodLink RX0 45 yJ9_floorMod_7cf53, Cond.static yJ9_floorMod_7cf53, Cond.initialized RJ9, Cond.code yJ9_floorMod_7cf53 cJ9_floorMod_7cf53 3 (some .int), Cond.methodLink RX0 93 yX0_strengthAfter, Cond.instanceMethod yX0_strengthAfter, Cond.selects RX0 yX0_strengthAfter yX0_strengthAfter, Cond.code yX0_strengthAfter cX0_strengthAfter 3 (some .int), Cond.fieldLink RX0 84 "WhisperRing$Moment" "loud" "[I", Cond.methodLink RX0 80 yX2_isHushed, Cond.instanceMethod yX2_isHushed, Cond.selects RX2 yX2_isHushed yX2_isHushed, Cond.initialized RX2, Cond.code yX2_isHushed cX2_isHushed 2 (some .boolean), Cond.fieldLink RX2 37 "WhisperRing$Moment" "hushed" "I", Cond.methodLink RX0 87 yX0_strengthLeft, Cond.instanceMethod yX0_strengthLeft, Cond.selects RX0 yX0_strengthLeft yX0_strengthLeft]
def wsX4_now_r3 : List Cond := [Cond.code yX0_strengthLeft cX0_strengthLeft 3 (some .int), Cond.fieldLink RX0 15 "WhisperRing$Hall" "loss" "I", Cond.methodLink RX0 55 Lib.Math.max.name, Cond.static Lib.Math.max.name, Cond.initialized "java/lang/Math", Cond.code Lib.Math.max.name Lib.Math.max.code 2 (some .int), Cond.methodLink RX0 51 yX0_lapsOf, Cond.instanceMethod yX0_lapsOf, Cond.selects RX0 yX0_lapsOf yX0_lapsOf, Cond.code yX0_lapsOf cX0_lapsOf 2 (some .int), Cond.methodLink RX4 132 yX0_lasting, Cond.instanceMethod yX0_lasting, Cond.selects RX0 yX0_lasting yX0_lasting, Cond.code yX0_lasting cX0_lasting 3 (some .int), Cond.methodLink RX4 164 yX0_strengthOf, Cond.instanceMethod yX0_strengthOf, Cond.selects RX0 yX0_strengthOf yX0_strengthOf, Cond.code yX0_strengthOf cX0_strengthOf 4 (some .int), Cond.methodLink RX4 167 yX0_placesThatSound, Cond.instanceMethod yX0_placesThatSound, Cond.selects RX0 yX0_placesThatSound yX0_placesThatSound, Cond.code yX0_placesThatSound cX0_placesThatSound 3 (some .int), Cond.methodLink RX0 99 yX0_soundingAt, Cond.instanceMethod yX0_soundingAt]
def wsX4_now_r4 : List Cond := [Cond.selects RX0 yX0_soundingAt yX0_soundingAt, Cond.code yX0_soundingAt cX0_soundingAt 4 (some .int), Cond.methodLink RX4 170 yX0_seas, Cond.instanceMethod yX0_seas, Cond.selects RX0 yX0_seas yX0_seas, Cond.code yX0_seas cX0_seas 3 (some .int), Cond.methodLink RX0 105 yX0_isSea, Cond.instanceMethod yX0_isSea, Cond.selects RX0 yX0_isSea yX0_isSea, Cond.code yX0_isSea cX0_isSea 2 (some .boolean), Cond.methodLink RX0 102 yX0_clearAt, Cond.instanceMethod yX0_clearAt, Cond.selects RX0 yX0_clearAt yX0_clearAt, Cond.code yX0_clearAt cX0_clearAt 4 (some .int), Cond.methodLink RX0 96 yX0_strengthAt, Cond.instanceMethod yX0_strengthAt, Cond.selects RX0 yX0_strengthAt yX0_strengthAt, Cond.code yX0_strengthAt cX0_strengthAt 4 (some .int)]
def wsX4_now : List Cond := .code yX4_now cX4_now 2 (some .int) :: ((wsX4_now_r1 ++ (wsX4_now_r2 ++ (wsX4_now_r3 ++ wsX4_now_r4))) ++ wsX40 ++ wsX00 ++ wsX20)
def wsX4_when_r1 : List Cond := [Cond.fieldLink RX4 41 "WhisperRing" "hall" "LWhisperRing$Hall;", Cond.methodLink RX4 65 yX0_hasSaying, Cond.instanceMethod yX0_hasSaying, Cond.selects RX0 yX0_hasSaying yX0_hasSaying, Cond.initialized RX0, Cond.code yX0_hasSaying cX0_hasSaying 2 (some .boolean), Cond.fieldLink RX0 21 "WhisperRing$Hall" "now" "LWhisperRing$Moment;", Cond.fieldLink RX0 42 "WhisperRing$Moment" "sayings" "I", Cond.static yX4_within, Cond.initialized RX4, Cond.code yX4_within cX4_within 3 (some .boolean), Cond.methodLink RX4 101 yX0_hasPlace, Cond.instanceMethod yX0_hasPlace, Cond.selects RX0 yX0_hasPlace yX0_hasPlace, Cond.code yX0_hasPlace cX0_hasPlace 2 (some .boolean), Cond.fieldLink RX0 9 "WhisperRing$Hall" "places" "I", Cond.methodLink RX4 173 yX0_whenAt, Cond.instanceMethod yX0_whenAt, Cond.selects RX0 yX0_whenAt yX0_whenAt, Cond.code yX0_whenAt cX0_whenAt 4 (some .int), Cond.methodLink RX0 120 yX0_sounds, Cond.instanceMethod yX0_sounds, Cond.selects RX0 yX0_sounds yX0_sounds, Cond.code yX0_sounds cX0_sounds 4 (some .boolean)]
def wsX4_when_r2 : List Cond := [Cond.methodLink RX0 90 yX0_placeAfter, Cond.instanceMethod yX0_placeAfter, Cond.selects RX0 yX0_placeAfter yX0_placeAfter, Cond.code yX0_placeAfter cX0_placeAfter 3 (some .int), Cond.fieldLink RX0 67 "WhisperRing$Moment" "from" "[I", Cond.fieldLink RX0 70 "WhisperRing$Moment" "way" "[I", Cond.methodLink RX0 73 yX0_goneAfter, Cond.instanceMethod yX0_goneAfter, Cond.selects RX0 yX0_goneAfter yX0_goneAfter, Cond.code yX0_goneAfter cX0_goneAfter 3 (some .int), Cond.fieldLink RX0 58 "WhisperRing$Moment" "speed" "[I", Cond.fieldLink RX0 61 "WhisperRing$Moment" "tick" "I", Cond.fieldLink RX0 64 "WhisperRing$Moment" "saidAt" "[I", Cond.methodLink RX0 76 yX0_reach, Cond.instanceMethod yX0_reach, Cond.selects RX0 yX0_reach yX0_reach, Cond.code yX0_reach cX0_reach 5 (some .int), Cond.methodLink RX0 45 yJ9_floorMod_7cf53, Cond.static yJ9_floorMod_7cf53, Cond.initialized RJ9, Cond.code yJ9_floorMod_7cf53 cJ9_floorMod_7cf53 3 (some .int), Cond.methodLink RX0 93 yX0_strengthAfter, Cond.instanceMethod yX0_strengthAfter, Cond.selects RX0 yX0_strengthAfter yX0_strengthAfter]
def wsX4_when_r3 : List Cond := [Cond.code yX0_strengthAfter cX0_strengthAfter 3 (some .int), Cond.fieldLink RX0 84 "WhisperRing$Moment" "loud" "[I", Cond.methodLink RX0 80 yX2_isHushed, Cond.instanceMethod yX2_isHushed, Cond.selects RX2 yX2_isHushed yX2_isHushed, Cond.initialized RX2, Cond.code yX2_isHushed cX2_isHushed 2 (some .boolean), Cond.fieldLink RX2 37 "WhisperRing$Moment" "hushed" "I", Cond.methodLink RX0 87 yX0_strengthLeft, Cond.instanceMethod yX0_strengthLeft, Cond.selects RX0 yX0_strengthLeft yX0_strengthLeft, Cond.code yX0_strengthLeft cX0_strengthLeft 3 (some .int), Cond.fieldLink RX0 15 "WhisperRing$Hall" "loss" "I", Cond.methodLink RX0 55 Lib.Math.max.name, Cond.static Lib.Math.max.name, Cond.initialized "java/lang/Math", Cond.code Lib.Math.max.name Lib.Math.max.code 2 (some .int), Cond.methodLink RX0 51 yX0_lapsOf, Cond.instanceMethod yX0_lapsOf, Cond.selects RX0 yX0_lapsOf yX0_lapsOf, Cond.code yX0_lapsOf cX0_lapsOf 2 (some .int), Cond.methodLink RX4 176 yX0_oftenAt, Cond.instanceMethod yX0_oftenAt, Cond.selects RX0 yX0_oftenAt yX0_oftenAt]
def wsX4_when_r4 : List Cond := [Cond.code yX0_oftenAt cX0_oftenAt 5 (some .int)]
def wsX4_when : List Cond := .code yX4_when cX4_when 4 (some .int) :: ((wsX4_when_r1 ++ (wsX4_when_r2 ++ (wsX4_when_r3 ++ wsX4_when_r4))) ++ wsX40 ++ wsX00 ++ wsX20)
def wsX4_meet_r1 : List Cond := [Cond.fieldLink RX4 41 "WhisperRing" "hall" "LWhisperRing$Hall;", Cond.methodLink RX4 65 yX0_hasSaying, Cond.instanceMethod yX0_hasSaying, Cond.selects RX0 yX0_hasSaying yX0_hasSaying, Cond.initialized RX0, Cond.code yX0_hasSaying cX0_hasSaying 2 (some .boolean), Cond.fieldLink RX0 21 "WhisperRing$Hall" "now" "LWhisperRing$Moment;", Cond.fieldLink RX0 42 "WhisperRing$Moment" "sayings" "I", Cond.static yX4_within, Cond.initialized RX4, Cond.code yX4_within cX4_within 3 (some .boolean), Cond.methodLink RX4 179 yX0_meetingOf, Cond.instanceMethod yX0_meetingOf, Cond.selects RX0 yX0_meetingOf yX0_meetingOf, Cond.code yX0_meetingOf cX0_meetingOf 4 (some .int), Cond.methodLink RX0 93 yX0_strengthAfter, Cond.instanceMethod yX0_strengthAfter, Cond.selects RX0 yX0_strengthAfter yX0_strengthAfter, Cond.code yX0_strengthAfter cX0_strengthAfter 3 (some .int), Cond.fieldLink RX0 84 "WhisperRing$Moment" "loud" "[I", Cond.methodLink RX0 80 yX2_isHushed, Cond.instanceMethod yX2_isHushed, Cond.selects RX2 yX2_isHushed yX2_isHushed, Cond.initialized RX2]
def wsX4_meet_r2 : List Cond := [Cond.code yX2_isHushed cX2_isHushed 2 (some .boolean), Cond.fieldLink RX2 37 "WhisperRing$Moment" "hushed" "I", Cond.methodLink RX0 73 yX0_goneAfter, Cond.instanceMethod yX0_goneAfter, Cond.selects RX0 yX0_goneAfter yX0_goneAfter, Cond.code yX0_goneAfter cX0_goneAfter 3 (some .int), Cond.fieldLink RX0 58 "WhisperRing$Moment" "speed" "[I", Cond.fieldLink RX0 61 "WhisperRing$Moment" "tick" "I", Cond.fieldLink RX0 64 "WhisperRing$Moment" "saidAt" "[I", Cond.methodLink RX0 87 yX0_strengthLeft, Cond.instanceMethod yX0_strengthLeft, Cond.selects RX0 yX0_strengthLeft yX0_strengthLeft, Cond.code yX0_strengthLeft cX0_strengthLeft 3 (some .int), Cond.fieldLink RX0 15 "WhisperRing$Hall" "loss" "I", Cond.methodLink RX0 55 Lib.Math.max.name, Cond.static Lib.Math.max.name, Cond.initialized "java/lang/Math", Cond.code Lib.Math.max.name Lib.Math.max.code 2 (some .int), Cond.methodLink RX0 51 yX0_lapsOf, Cond.instanceMethod yX0_lapsOf, Cond.selects RX0 yX0_lapsOf yX0_lapsOf, Cond.code yX0_lapsOf cX0_lapsOf 2 (some .int), Cond.fieldLink RX0 9 "WhisperRing$Hall" "places" "I", Cond.methodLink RX0 90 yX0_placeAfter]
def wsX4_meet_r3 : List Cond := [Cond.instanceMethod yX0_placeAfter, Cond.selects RX0 yX0_placeAfter yX0_placeAfter, Cond.code yX0_placeAfter cX0_placeAfter 3 (some .int), Cond.fieldLink RX0 67 "WhisperRing$Moment" "from" "[I", Cond.fieldLink RX0 70 "WhisperRing$Moment" "way" "[I", Cond.methodLink RX0 76 yX0_reach, Cond.instanceMethod yX0_reach, Cond.selects RX0 yX0_reach yX0_reach, Cond.code yX0_reach cX0_reach 5 (some .int), Cond.methodLink RX0 45 yJ9_floorMod_7cf53, Cond.static yJ9_floorMod_7cf53, Cond.initialized RJ9, Cond.code yJ9_floorMod_7cf53 cJ9_floorMod_7cf53 3 (some .int), Cond.methodLink RX0 120 yX0_sounds, Cond.instanceMethod yX0_sounds, Cond.selects RX0 yX0_sounds yX0_sounds, Cond.code yX0_sounds cX0_sounds 4 (some .boolean)]
def wsX4_meet : List Cond := .code yX4_meet cX4_meet 3 (some .int) :: ((wsX4_meet_r1 ++ (wsX4_meet_r2 ++ wsX4_meet_r3)) ++ wsX40 ++ wsX00 ++ wsX20)
def wsX4_best_r1 : List Cond := [Cond.fieldLink RX4 41 "WhisperRing" "hall" "LWhisperRing$Hall;", Cond.methodLink RX4 141 yX4_maySay, Cond.instanceMethod yX4_maySay, Cond.selects RX4 yX4_maySay yX4_maySay, Cond.initialized RX4, Cond.code yX4_maySay cX4_maySay 5 (some .boolean), Cond.methodLink RX4 101 yX0_hasPlace, Cond.instanceMethod yX0_hasPlace, Cond.selects RX0 yX0_hasPlace yX0_hasPlace, Cond.initialized RX0, Cond.code yX0_hasPlace cX0_hasPlace 2 (some .boolean), Cond.fieldLink RX0 9 "WhisperRing$Hall" "places" "I", Cond.static yX4_within, Cond.code yX4_within cX4_within 3 (some .boolean), Cond.methodLink RX4 48 yX4_within, Cond.methodLink RX4 182 yX0_ticksTo, Cond.instanceMethod yX0_ticksTo, Cond.selects RX0 yX0_ticksTo yX0_ticksTo, Cond.code yX0_ticksTo cX0_ticksTo 6 (some .int), Cond.methodLink RX0 76 yX0_reach, Cond.instanceMethod yX0_reach, Cond.selects RX0 yX0_reach yX0_reach, Cond.code yX0_reach cX0_reach 5 (some .int), Cond.methodLink RX0 45 yJ9_floorMod_7cf53]
def wsX4_best_r2 : List Cond := [Cond.static yJ9_floorMod_7cf53, Cond.initialized RJ9, Cond.code yJ9_floorMod_7cf53 cJ9_floorMod_7cf53 3 (some .int), Cond.methodLink RX4 186 yX0_strengthLeft, Cond.instanceMethod yX0_strengthLeft, Cond.selects RX0 yX0_strengthLeft yX0_strengthLeft, Cond.code yX0_strengthLeft cX0_strengthLeft 3 (some .int), Cond.fieldLink RX0 15 "WhisperRing$Hall" "loss" "I", Cond.methodLink RX0 55 Lib.Math.max.name, Cond.static Lib.Math.max.name, Cond.initialized "java/lang/Math", Cond.code Lib.Math.max.name Lib.Math.max.code 2 (some .int), Cond.methodLink RX0 51 yX0_lapsOf, Cond.instanceMethod yX0_lapsOf, Cond.selects RX0 yX0_lapsOf yX0_lapsOf, Cond.code yX0_lapsOf cX0_lapsOf 2 (some .int), Cond.methodLink RX4 189 yX0_firstWait, Cond.instanceMethod yX0_firstWait, Cond.selects RX0 yX0_firstWait yX0_firstWait, Cond.code yX0_firstWait cX0_firstWait 5 (some .int), Cond.methodLink RX0 116 yX0_listen, Cond.instanceMethod yX0_listen, Cond.selects RX0 yX0_listen yX0_listen, Cond.code yX0_listen cX0_listen 3 none]
def wsX4_best_r3 : List Cond := [Cond.fieldLink RX0 21 "WhisperRing$Hall" "now" "LWhisperRing$Moment;", Cond.fieldLink RX0 42 "WhisperRing$Moment" "sayings" "I", Cond.fieldLink RX0 25 "WhisperRing$Hall" "at" "[I", Cond.fieldLink RX0 29 "WhisperRing$Hall" "strength" "[I", Cond.methodLink RX0 90 yX0_placeAfter, Cond.instanceMethod yX0_placeAfter, Cond.selects RX0 yX0_placeAfter yX0_placeAfter, Cond.code yX0_placeAfter cX0_placeAfter 3 (some .int), Cond.fieldLink RX0 67 "WhisperRing$Moment" "from" "[I", Cond.fieldLink RX0 70 "WhisperRing$Moment" "way" "[I", Cond.methodLink RX0 73 yX0_goneAfter, Cond.instanceMethod yX0_goneAfter, Cond.selects RX0 yX0_goneAfter yX0_goneAfter, Cond.code yX0_goneAfter cX0_goneAfter 3 (some .int), Cond.fieldLink RX0 58 "WhisperRing$Moment" "speed" "[I", Cond.fieldLink RX0 61 "WhisperRing$Moment" "tick" "I", Cond.fieldLink RX0 64 "WhisperRing$Moment" "saidAt" "[I", Cond.methodLink RX0 93 yX0_strengthAfter, Cond.instanceMethod yX0_strengthAfter, Cond.selects RX0 yX0_strengthAfter yX0_strengthAfter, Cond.code yX0_strengthAfter cX0_strengthAfter 3 (some .int), Cond.fieldLink RX0 84 "WhisperRing$Moment" "loud" "[I", Cond.methodLink RX0 80 yX2_isHushed, Cond.instanceMethod yX2_isHushed]
def wsX4_best_r4 : List Cond := [Cond.selects RX2 yX2_isHushed yX2_isHushed, Cond.initialized RX2, Cond.code yX2_isHushed cX2_isHushed 2 (some .boolean), Cond.fieldLink RX2 37 "WhisperRing$Moment" "hushed" "I", Cond.methodLink RX0 87 yX0_strengthLeft, Cond.methodLink RX0 96 yX0_strengthAt, Cond.instanceMethod yX0_strengthAt, Cond.selects RX0 yX0_strengthAt yX0_strengthAt, Cond.code yX0_strengthAt cX0_strengthAt 4 (some .int)]
def wsX4_best : List Cond := .code yX4_best cX4_best 8 (some .int) :: ((wsX4_best_r1 ++ (wsX4_best_r2 ++ (wsX4_best_r3 ++ wsX4_best_r4))) ++ wsX40 ++ wsX00 ++ wsX20)
def wsX4_stills_r1 : List Cond := [Cond.fieldLink RX4 41 "WhisperRing" "hall" "LWhisperRing$Hall;", Cond.methodLink RX4 65 yX0_hasSaying, Cond.instanceMethod yX0_hasSaying, Cond.selects RX0 yX0_hasSaying yX0_hasSaying, Cond.initialized RX0, Cond.code yX0_hasSaying cX0_hasSaying 2 (some .boolean), Cond.fieldLink RX0 21 "WhisperRing$Hall" "now" "LWhisperRing$Moment;", Cond.fieldLink RX0 42 "WhisperRing$Moment" "sayings" "I", Cond.static yX4_within, Cond.initialized RX4, Cond.code yX4_within cX4_within 3 (some .boolean), Cond.methodLink RX4 91 yX0_strengthAfter, Cond.instanceMethod yX0_strengthAfter, Cond.selects RX0 yX0_strengthAfter yX0_strengthAfter, Cond.code yX0_strengthAfter cX0_strengthAfter 3 (some .int), Cond.fieldLink RX0 84 "WhisperRing$Moment" "loud" "[I", Cond.methodLink RX0 80 yX2_isHushed, Cond.instanceMethod yX2_isHushed, Cond.selects RX2 yX2_isHushed yX2_isHushed, Cond.initialized RX2, Cond.code yX2_isHushed cX2_isHushed 2 (some .boolean), Cond.fieldLink RX2 37 "WhisperRing$Moment" "hushed" "I", Cond.methodLink RX0 73 yX0_goneAfter, Cond.instanceMethod yX0_goneAfter]
def wsX4_stills_r2 : List Cond := [Cond.selects RX0 yX0_goneAfter yX0_goneAfter, Cond.code yX0_goneAfter cX0_goneAfter 3 (some .int), Cond.fieldLink RX0 58 "WhisperRing$Moment" "speed" "[I", Cond.fieldLink RX0 61 "WhisperRing$Moment" "tick" "I", Cond.fieldLink RX0 64 "WhisperRing$Moment" "saidAt" "[I", Cond.methodLink RX0 87 yX0_strengthLeft, Cond.instanceMethod yX0_strengthLeft, Cond.selects RX0 yX0_strengthLeft yX0_strengthLeft, Cond.code yX0_strengthLeft cX0_strengthLeft 3 (some .int), Cond.fieldLink RX0 15 "WhisperRing$Hall" "loss" "I", Cond.methodLink RX0 55 Lib.Math.max.name, Cond.static Lib.Math.max.name, Cond.initialized "java/lang/Math", Cond.code Lib.Math.max.name Lib.Math.max.code 2 (some .int), Cond.methodLink RX0 51 yX0_lapsOf, Cond.instanceMethod yX0_lapsOf, Cond.selects RX0 yX0_lapsOf yX0_lapsOf, Cond.code yX0_lapsOf cX0_lapsOf 2 (some .int), Cond.fieldLink RX0 9 "WhisperRing$Hall" "places" "I", Cond.methodLink RX4 104 yX0_listen, Cond.instanceMethod yX0_listen, Cond.selects RX0 yX0_listen yX0_listen, Cond.code yX0_listen cX0_listen 3 none, Cond.fieldLink RX0 25 "WhisperRing$Hall" "at" "[I"]
def wsX4_stills_r3 : List Cond := [Cond.fieldLink RX0 29 "WhisperRing$Hall" "strength" "[I", Cond.methodLink RX0 90 yX0_placeAfter, Cond.instanceMethod yX0_placeAfter, Cond.selects RX0 yX0_placeAfter yX0_placeAfter, Cond.code yX0_placeAfter cX0_placeAfter 3 (some .int), Cond.fieldLink RX0 67 "WhisperRing$Moment" "from" "[I", Cond.fieldLink RX0 70 "WhisperRing$Moment" "way" "[I", Cond.methodLink RX0 76 yX0_reach, Cond.instanceMethod yX0_reach, Cond.selects RX0 yX0_reach yX0_reach, Cond.code yX0_reach cX0_reach 5 (some .int), Cond.methodLink RX0 45 yJ9_floorMod_7cf53, Cond.static yJ9_floorMod_7cf53, Cond.initialized RJ9, Cond.code yJ9_floorMod_7cf53 cJ9_floorMod_7cf53 3 (some .int), Cond.methodLink RX0 93 yX0_strengthAfter, Cond.methodLink RX4 193 yX0_fewestToHush, Cond.instanceMethod yX0_fewestToHush, Cond.selects RX0 yX0_fewestToHush yX0_fewestToHush, Cond.code yX0_fewestToHush cX0_fewestToHush 6 (some .int), Cond.methodLink RX0 99 yX0_soundingAt, Cond.instanceMethod yX0_soundingAt, Cond.selects RX0 yX0_soundingAt yX0_soundingAt, Cond.code yX0_soundingAt cX0_soundingAt 4 (some .int)]
def wsX4_stills_r4 : List Cond := [Cond.methodLink RX0 108 yJ6_bitCount_0f7a4, Cond.static yJ6_bitCount_0f7a4, Cond.initialized RJ6, Cond.code yJ6_bitCount_0f7a4 cJ6_bitCount_0f7a4 1 (some .int), Cond.constant RJ6 265 (1431655765), Cond.constant RJ6 266 (858993459), Cond.constant RJ6 267 (252645135), Cond.methodLink RX0 113 yX0_strengthOf, Cond.instanceMethod yX0_strengthOf, Cond.selects RX0 yX0_strengthOf yX0_strengthOf, Cond.code yX0_strengthOf cX0_strengthOf 4 (some .int)]
def wsX4_stills : List Cond := .code yX4_stills cX4_stills 2 (some .int) :: ((wsX4_stills_r1 ++ (wsX4_stills_r2 ++ (wsX4_stills_r3 ++ wsX4_stills_r4))) ++ wsX40 ++ wsX00 ++ wsX20)
def wsX4_lastingParts : List Cond := .code yX4_lastingParts cX4_lastingParts 4 (some .int) :: ([.methodLink RX4 199 yX4_lastingParts, .static yX4_lastingParts, .initialized RX4])
def wsX4_commonDivisor : List Cond := .code yX4_commonDivisor cX4_commonDivisor 6 (some .int) :: ([])
def wsX4_odds_r1 : List Cond := [Cond.fieldLink RX4 41 "WhisperRing" "hall" "LWhisperRing$Hall;", Cond.fieldLink RX4 196 "WhisperRing$Hall" "loss" "I", Cond.methodLink RX4 65 yX0_hasSaying, Cond.instanceMethod yX0_hasSaying, Cond.selects RX0 yX0_hasSaying yX0_hasSaying, Cond.initialized RX0, Cond.code yX0_hasSaying cX0_hasSaying 2 (some .boolean), Cond.fieldLink RX0 21 "WhisperRing$Hall" "now" "LWhisperRing$Moment;", Cond.fieldLink RX0 42 "WhisperRing$Moment" "sayings" "I", Cond.static yX4_within, Cond.initialized RX4, Cond.code yX4_within cX4_within 3 (some .boolean), Cond.methodLink RX4 48 yX4_within, Cond.methodLink RX4 91 yX0_strengthAfter, Cond.instanceMethod yX0_strengthAfter, Cond.selects RX0 yX0_strengthAfter yX0_strengthAfter, Cond.code yX0_strengthAfter cX0_strengthAfter 3 (some .int), Cond.fieldLink RX0 84 "WhisperRing$Moment" "loud" "[I", Cond.methodLink RX0 80 yX2_isHushed, Cond.instanceMethod yX2_isHushed, Cond.selects RX2 yX2_isHushed yX2_isHushed, Cond.initialized RX2, Cond.code yX2_isHushed cX2_isHushed 2 (some .boolean), Cond.fieldLink RX2 37 "WhisperRing$Moment" "hushed" "I"]
def wsX4_odds_r2 : List Cond := [Cond.methodLink RX0 73 yX0_goneAfter, Cond.instanceMethod yX0_goneAfter, Cond.selects RX0 yX0_goneAfter yX0_goneAfter, Cond.code yX0_goneAfter cX0_goneAfter 3 (some .int), Cond.fieldLink RX0 58 "WhisperRing$Moment" "speed" "[I", Cond.fieldLink RX0 61 "WhisperRing$Moment" "tick" "I", Cond.fieldLink RX0 64 "WhisperRing$Moment" "saidAt" "[I", Cond.methodLink RX0 87 yX0_strengthLeft, Cond.instanceMethod yX0_strengthLeft, Cond.selects RX0 yX0_strengthLeft yX0_strengthLeft, Cond.code yX0_strengthLeft cX0_strengthLeft 3 (some .int), Cond.fieldLink RX0 15 "WhisperRing$Hall" "loss" "I", Cond.methodLink RX0 55 Lib.Math.max.name, Cond.static Lib.Math.max.name, Cond.initialized "java/lang/Math", Cond.code Lib.Math.max.name Lib.Math.max.code 2 (some .int), Cond.methodLink RX0 51 yX0_lapsOf, Cond.instanceMethod yX0_lapsOf, Cond.selects RX0 yX0_lapsOf yX0_lapsOf, Cond.code yX0_lapsOf cX0_lapsOf 2 (some .int), Cond.fieldLink RX0 9 "WhisperRing$Hall" "places" "I", Cond.methodLink RX4 199 yX4_lastingParts, Cond.static yX4_lastingParts, Cond.code yX4_lastingParts cX4_lastingParts 4 (some .int)]
def wsX4_odds_r3 : List Cond := [Cond.methodLink RX4 202 yX4_commonDivisor, Cond.static yX4_commonDivisor, Cond.code yX4_commonDivisor cX4_commonDivisor 6 (some .int)]
def wsX4_odds : List Cond := .code yX4_odds cX4_odds 8 (some .int) :: ((wsX4_odds_r1 ++ (wsX4_odds_r2 ++ wsX4_odds_r3)) ++ wsX40 ++ wsX00 ++ wsX20)
def wsX4_hears : List Cond := .code yX4_hears cX4_hears 4 (some .int) :: ([.fieldLink RX4 41 "WhisperRing" "hall" "LWhisperRing$Hall;", .fieldLink RX4 19 "WhisperRing" "hearsay" "LWhisperRing$Hearsay;", .fieldLink RX4 64 "WhisperRing$Hearsay" "size" "I", .methodLink RX4 101 yX0_hasPlace, .instanceMethod yX0_hasPlace, .selects RX0 yX0_hasPlace yX0_hasPlace, .initialized RX0, .code yX0_hasPlace cX0_hasPlace 2 (some .boolean), .fieldLink RX0 9 "WhisperRing$Hall" "places" "I", .static yX4_within, .initialized RX4, .code yX4_within cX4_within 3 (some .boolean), .methodLink RX4 48 yX4_within, .methodLink RX4 205 yX1_add, .instanceMethod yX1_add, .selects RX1 yX1_add yX1_add, .initialized RX1, .code yX1_add cX1_add 4 (some .boolean), .fieldLink RX1 21 "WhisperRing$Hearsay" "size" "I", .fieldLink RX1 9 "WhisperRing$Hearsay" "at" "[I", .fieldLink RX1 15 "WhisperRing$Hearsay" "behind" "[I", .fieldLink RX1 18 "WhisperRing$Hearsay" "there" "[I"] ++ wsX40 ++ wsX10 ++ wsX00)
def wsX4_forget : List Cond := .code yX4_forget cX4_forget 2 (some .int) :: ([.fieldLink RX4 19 "WhisperRing" "hearsay" "LWhisperRing$Hearsay;", .fieldLink RX4 64 "WhisperRing$Hearsay" "size" "I"] ++ wsX40 ++ wsX10)
def wsX4_guessCount_r1 : List Cond := [Cond.fieldLink RX4 41 "WhisperRing" "hall" "LWhisperRing$Hall;", Cond.fieldLink RX4 216 "WhisperRing$Hall" "places" "I", Cond.fieldLink RX4 19 "WhisperRing" "hearsay" "LWhisperRing$Hearsay;", Cond.methodLink RX4 254 yX1_fits, Cond.instanceMethod yX1_fits, Cond.selects RX1 yX1_fits yX1_fits, Cond.initialized RX1, Cond.code yX1_fits cX1_fits 5 (some .boolean), Cond.fieldLink RX1 21 "WhisperRing$Hearsay" "size" "I", Cond.fieldLink RX1 15 "WhisperRing$Hearsay" "behind" "[I", Cond.fieldLink RX1 9 "WhisperRing$Hearsay" "at" "[I", Cond.fieldLink RX1 18 "WhisperRing$Hearsay" "there" "[I", Cond.methodLink RX1 41 yX1_placeBehind, Cond.static yX1_placeBehind, Cond.code yX1_placeBehind cX1_placeBehind 3 (some .int), Cond.methodLink RX1 25 yX1_placeIn, Cond.static yX1_placeIn, Cond.code yX1_placeIn cX1_placeIn 1 (some .int), Cond.methodLink RX1 29 yX1_wayIn, Cond.static yX1_wayIn, Cond.code yX1_wayIn cX1_wayIn 1 (some .int), Cond.methodLink RX1 32 yX1_speedIn, Cond.static yX1_speedIn, Cond.code yX1_speedIn cX1_speedIn 1 (some .int)]
def wsX4_guessCount_r2 : List Cond := [Cond.methodLink RX1 35 yX0_reach, Cond.instanceMethod yX0_reach, Cond.selects RX0 yX0_reach yX0_reach, Cond.initialized RX0, Cond.code yX0_reach cX0_reach 5 (some .int), Cond.fieldLink RX0 9 "WhisperRing$Hall" "places" "I", Cond.methodLink RX0 45 yJ9_floorMod_7cf53, Cond.static yJ9_floorMod_7cf53, Cond.initialized RJ9, Cond.code yJ9_floorMod_7cf53 cJ9_floorMod_7cf53 3 (some .int)]
def wsX4_guessCount : List Cond := .code yX4_guessCount cX4_guessCount 3 (some .int) :: ((wsX4_guessCount_r1 ++ wsX4_guessCount_r2) ++ wsX40 ++ wsX00 ++ wsX10)
def wsX4_firstGuess_r1 : List Cond := [Cond.fieldLink RX4 41 "WhisperRing" "hall" "LWhisperRing$Hall;", Cond.fieldLink RX4 216 "WhisperRing$Hall" "places" "I", Cond.fieldLink RX4 19 "WhisperRing" "hearsay" "LWhisperRing$Hearsay;", Cond.methodLink RX4 254 yX1_fits, Cond.instanceMethod yX1_fits, Cond.selects RX1 yX1_fits yX1_fits, Cond.initialized RX1, Cond.code yX1_fits cX1_fits 5 (some .boolean), Cond.fieldLink RX1 21 "WhisperRing$Hearsay" "size" "I", Cond.fieldLink RX1 15 "WhisperRing$Hearsay" "behind" "[I", Cond.fieldLink RX1 9 "WhisperRing$Hearsay" "at" "[I", Cond.fieldLink RX1 18 "WhisperRing$Hearsay" "there" "[I", Cond.methodLink RX1 41 yX1_placeBehind, Cond.static yX1_placeBehind, Cond.code yX1_placeBehind cX1_placeBehind 3 (some .int), Cond.methodLink RX1 25 yX1_placeIn, Cond.static yX1_placeIn, Cond.code yX1_placeIn cX1_placeIn 1 (some .int), Cond.methodLink RX1 29 yX1_wayIn, Cond.static yX1_wayIn, Cond.code yX1_wayIn cX1_wayIn 1 (some .int), Cond.methodLink RX1 32 yX1_speedIn, Cond.static yX1_speedIn, Cond.code yX1_speedIn cX1_speedIn 1 (some .int)]
def wsX4_firstGuess_r2 : List Cond := [Cond.methodLink RX1 35 yX0_reach, Cond.instanceMethod yX0_reach, Cond.selects RX0 yX0_reach yX0_reach, Cond.initialized RX0, Cond.code yX0_reach cX0_reach 5 (some .int), Cond.fieldLink RX0 9 "WhisperRing$Hall" "places" "I", Cond.methodLink RX0 45 yJ9_floorMod_7cf53, Cond.static yJ9_floorMod_7cf53, Cond.initialized RJ9, Cond.code yJ9_floorMod_7cf53 cJ9_floorMod_7cf53 3 (some .int), Cond.methodLink RX4 258 yX1_placeIn, Cond.methodLink RX4 261 yX1_speedIn, Cond.methodLink RX4 264 yX1_wayIn]
def wsX4_firstGuess : List Cond := .code yX4_firstGuess cX4_firstGuess 2 (some .int) :: ((wsX4_firstGuess_r1 ++ wsX4_firstGuess_r2) ++ wsX40 ++ wsX00 ++ wsX10)
def wsX4_guesses_r1 : List Cond := [Cond.methodLink RX4 207 yX4_guessCount, Cond.instanceMethod yX4_guessCount, Cond.selects RX4 yX4_guessCount yX4_guessCount, Cond.initialized RX4, Cond.code yX4_guessCount cX4_guessCount 3 (some .int), Cond.fieldLink RX4 41 "WhisperRing" "hall" "LWhisperRing$Hall;", Cond.fieldLink RX4 216 "WhisperRing$Hall" "places" "I", Cond.fieldLink RX4 19 "WhisperRing" "hearsay" "LWhisperRing$Hearsay;", Cond.methodLink RX4 254 yX1_fits, Cond.instanceMethod yX1_fits, Cond.selects RX1 yX1_fits yX1_fits, Cond.initialized RX1, Cond.code yX1_fits cX1_fits 5 (some .boolean), Cond.fieldLink RX1 21 "WhisperRing$Hearsay" "size" "I", Cond.fieldLink RX1 15 "WhisperRing$Hearsay" "behind" "[I", Cond.fieldLink RX1 9 "WhisperRing$Hearsay" "at" "[I", Cond.fieldLink RX1 18 "WhisperRing$Hearsay" "there" "[I", Cond.methodLink RX1 41 yX1_placeBehind, Cond.static yX1_placeBehind, Cond.code yX1_placeBehind cX1_placeBehind 3 (some .int), Cond.methodLink RX1 25 yX1_placeIn, Cond.static yX1_placeIn, Cond.code yX1_placeIn cX1_placeIn 1 (some .int), Cond.methodLink RX1 29 yX1_wayIn]
def wsX4_guesses_r2 : List Cond := [Cond.static yX1_wayIn, Cond.code yX1_wayIn cX1_wayIn 1 (some .int), Cond.methodLink RX1 32 yX1_speedIn, Cond.static yX1_speedIn, Cond.code yX1_speedIn cX1_speedIn 1 (some .int), Cond.methodLink RX1 35 yX0_reach, Cond.instanceMethod yX0_reach, Cond.selects RX0 yX0_reach yX0_reach, Cond.initialized RX0, Cond.code yX0_reach cX0_reach 5 (some .int), Cond.fieldLink RX0 9 "WhisperRing$Hall" "places" "I", Cond.methodLink RX0 45 yJ9_floorMod_7cf53, Cond.static yJ9_floorMod_7cf53, Cond.initialized RJ9, Cond.code yJ9_floorMod_7cf53 cJ9_floorMod_7cf53 3 (some .int), Cond.methodLink RX4 210 yX4_firstGuess, Cond.instanceMethod yX4_firstGuess, Cond.selects RX4 yX4_firstGuess yX4_firstGuess, Cond.code yX4_firstGuess cX4_firstGuess 2 (some .int), Cond.methodLink RX4 258 yX1_placeIn, Cond.methodLink RX4 261 yX1_speedIn, Cond.methodLink RX4 264 yX1_wayIn]
def wsX4_guesses : List Cond := .code yX4_guesses cX4_guesses 2 (some .int) :: ((wsX4_guesses_r1 ++ wsX4_guesses_r2) ++ wsX40 ++ wsX00 ++ wsX10)
def wsX4_sortGuesses_r1 : List Cond := [Cond.fieldLink RX4 34 "WhisperRing" "guessesAt" "[I", Cond.fieldLink RX4 41 "WhisperRing" "hall" "LWhisperRing$Hall;", Cond.fieldLink RX4 216 "WhisperRing$Hall" "places" "I", Cond.fieldLink RX4 19 "WhisperRing" "hearsay" "LWhisperRing$Hearsay;", Cond.methodLink RX4 267 yX1_placeBehind, Cond.static yX1_placeBehind, Cond.initialized RX1, Cond.code yX1_placeBehind cX1_placeBehind 3 (some .int), Cond.methodLink RX1 25 yX1_placeIn, Cond.static yX1_placeIn, Cond.code yX1_placeIn cX1_placeIn 1 (some .int), Cond.methodLink RX1 29 yX1_wayIn, Cond.static yX1_wayIn, Cond.code yX1_wayIn cX1_wayIn 1 (some .int), Cond.methodLink RX1 32 yX1_speedIn, Cond.static yX1_speedIn, Cond.code yX1_speedIn cX1_speedIn 1 (some .int), Cond.methodLink RX1 35 yX0_reach, Cond.instanceMethod yX0_reach, Cond.selects RX0 yX0_reach yX0_reach, Cond.initialized RX0, Cond.code yX0_reach cX0_reach 5 (some .int), Cond.fieldLink RX0 9 "WhisperRing$Hall" "places" "I", Cond.methodLink RX0 45 yJ9_floorMod_7cf53]
def wsX4_sortGuesses_r2 : List Cond := [Cond.static yJ9_floorMod_7cf53, Cond.initialized RJ9, Cond.code yJ9_floorMod_7cf53 cJ9_floorMod_7cf53 3 (some .int), Cond.methodLink RX4 254 yX1_fits, Cond.instanceMethod yX1_fits, Cond.selects RX1 yX1_fits yX1_fits, Cond.code yX1_fits cX1_fits 5 (some .boolean), Cond.fieldLink RX1 21 "WhisperRing$Hearsay" "size" "I", Cond.fieldLink RX1 15 "WhisperRing$Hearsay" "behind" "[I", Cond.fieldLink RX1 9 "WhisperRing$Hearsay" "at" "[I", Cond.fieldLink RX1 18 "WhisperRing$Hearsay" "there" "[I", Cond.methodLink RX1 41 yX1_placeBehind, Cond.methodLink RX4 48 yX4_within, Cond.static yX4_within, Cond.initialized RX4, Cond.code yX4_within cX4_within 3 (some .boolean)]
def wsX4_sortGuesses : List Cond := .code yX4_sortGuesses cX4_sortGuesses 5 (some .int) :: ((wsX4_sortGuesses_r1 ++ wsX4_sortGuesses_r2) ++ wsX40 ++ wsX00 ++ wsX10)
def wsX4_ask_r1 : List Cond := [Cond.fieldLink RX4 41 "WhisperRing" "hall" "LWhisperRing$Hall;", Cond.fieldLink RX4 216 "WhisperRing$Hall" "places" "I", Cond.fieldLink RX4 34 "WhisperRing" "guessesAt" "[I", Cond.methodLink RX4 219 Lib.Math.max.name, Cond.static Lib.Math.max.name, Cond.initialized "java/lang/Math", Cond.code Lib.Math.max.name Lib.Math.max.code 2 (some .int), Cond.methodLink RX4 48 yX4_within, Cond.static yX4_within, Cond.initialized RX4, Cond.code yX4_within cX4_within 3 (some .boolean), Cond.methodLink RX4 213 yX4_sortGuesses, Cond.instanceMethod yX4_sortGuesses, Cond.selects RX4 yX4_sortGuesses yX4_sortGuesses, Cond.code yX4_sortGuesses cX4_sortGuesses 5 (some .int), Cond.fieldLink RX4 19 "WhisperRing" "hearsay" "LWhisperRing$Hearsay;", Cond.methodLink RX4 267 yX1_placeBehind, Cond.static yX1_placeBehind, Cond.initialized RX1, Cond.code yX1_placeBehind cX1_placeBehind 3 (some .int), Cond.methodLink RX1 25 yX1_placeIn, Cond.static yX1_placeIn, Cond.code yX1_placeIn cX1_placeIn 1 (some .int), Cond.methodLink RX1 29 yX1_wayIn]
def wsX4_ask_r2 : List Cond := [Cond.static yX1_wayIn, Cond.code yX1_wayIn cX1_wayIn 1 (some .int), Cond.methodLink RX1 32 yX1_speedIn, Cond.static yX1_speedIn, Cond.code yX1_speedIn cX1_speedIn 1 (some .int), Cond.methodLink RX1 35 yX0_reach, Cond.instanceMethod yX0_reach, Cond.selects RX0 yX0_reach yX0_reach, Cond.initialized RX0, Cond.code yX0_reach cX0_reach 5 (some .int), Cond.fieldLink RX0 9 "WhisperRing$Hall" "places" "I", Cond.methodLink RX0 45 yJ9_floorMod_7cf53, Cond.static yJ9_floorMod_7cf53, Cond.initialized RJ9, Cond.code yJ9_floorMod_7cf53 cJ9_floorMod_7cf53 3 (some .int), Cond.methodLink RX4 254 yX1_fits, Cond.instanceMethod yX1_fits, Cond.selects RX1 yX1_fits yX1_fits, Cond.code yX1_fits cX1_fits 5 (some .boolean), Cond.fieldLink RX1 21 "WhisperRing$Hearsay" "size" "I", Cond.fieldLink RX1 15 "WhisperRing$Hearsay" "behind" "[I", Cond.fieldLink RX1 9 "WhisperRing$Hearsay" "at" "[I", Cond.fieldLink RX1 18 "WhisperRing$Hearsay" "there" "[I", Cond.methodLink RX1 41 yX1_placeBehind]
def wsX4_ask : List Cond := .code yX4_ask cX4_ask 7 (some .int) :: ((wsX4_ask_r1 ++ wsX4_ask_r2) ++ wsX40 ++ wsX00 ++ wsX10)
def wsX4_asSaying : List Cond := .code yX4_asSaying cX4_asSaying 2 (some .int) :: ([.fieldLink RX4 250 "WhisperRing" "trace" "J", .fieldLink RX4 41 "WhisperRing" "hall" "LWhisperRing$Hall;", .fieldLink RX4 68 "WhisperRing$Hall" "now" "LWhisperRing$Moment;", .fieldLink RX4 81 "WhisperRing$Moment" "loud" "[I"] ++ wsX40 ++ wsX00 ++ wsX20)
def wsX4_asVow_r1 : List Cond := [Cond.fieldLink RX4 250 "WhisperRing" "trace" "J", Cond.constantLong RX4 271 (10), Cond.fieldLink RX4 41 "WhisperRing" "hall" "LWhisperRing$Hall;", Cond.methodLink RX4 225 yX4_asSaying, Cond.instanceMethod yX4_asSaying, Cond.selects RX4 yX4_asSaying yX4_asSaying, Cond.initialized RX4, Cond.code yX4_asSaying cX4_asSaying 2 (some .int), Cond.fieldLink RX4 68 "WhisperRing$Hall" "now" "LWhisperRing$Moment;", Cond.fieldLink RX4 81 "WhisperRing$Moment" "loud" "[I", Cond.methodLink RX4 91 yX0_strengthAfter, Cond.instanceMethod yX0_strengthAfter, Cond.selects RX0 yX0_strengthAfter yX0_strengthAfter, Cond.initialized RX0, Cond.code yX0_strengthAfter cX0_strengthAfter 3 (some .int), Cond.fieldLink RX0 21 "WhisperRing$Hall" "now" "LWhisperRing$Moment;", Cond.fieldLink RX0 84 "WhisperRing$Moment" "loud" "[I", Cond.methodLink RX0 80 yX2_isHushed, Cond.instanceMethod yX2_isHushed, Cond.selects RX2 yX2_isHushed yX2_isHushed, Cond.initialized RX2, Cond.code yX2_isHushed cX2_isHushed 2 (some .boolean), Cond.fieldLink RX2 37 "WhisperRing$Moment" "hushed" "I", Cond.methodLink RX0 73 yX0_goneAfter]
def wsX4_asVow_r2 : List Cond := [Cond.instanceMethod yX0_goneAfter, Cond.selects RX0 yX0_goneAfter yX0_goneAfter, Cond.code yX0_goneAfter cX0_goneAfter 3 (some .int), Cond.fieldLink RX0 58 "WhisperRing$Moment" "speed" "[I", Cond.fieldLink RX0 61 "WhisperRing$Moment" "tick" "I", Cond.fieldLink RX0 64 "WhisperRing$Moment" "saidAt" "[I", Cond.methodLink RX0 87 yX0_strengthLeft, Cond.instanceMethod yX0_strengthLeft, Cond.selects RX0 yX0_strengthLeft yX0_strengthLeft, Cond.code yX0_strengthLeft cX0_strengthLeft 3 (some .int), Cond.fieldLink RX0 15 "WhisperRing$Hall" "loss" "I", Cond.methodLink RX0 55 Lib.Math.max.name, Cond.static Lib.Math.max.name, Cond.initialized "java/lang/Math", Cond.code Lib.Math.max.name Lib.Math.max.code 2 (some .int), Cond.methodLink RX0 51 yX0_lapsOf, Cond.instanceMethod yX0_lapsOf, Cond.selects RX0 yX0_lapsOf yX0_lapsOf, Cond.code yX0_lapsOf cX0_lapsOf 2 (some .int), Cond.fieldLink RX0 9 "WhisperRing$Hall" "places" "I"]
def wsX4_asVow : List Cond := .code yX4_asVow cX4_asVow 2 (some .int) :: ((wsX4_asVow_r1 ++ wsX4_asVow_r2) ++ wsX40 ++ wsX00 ++ wsX20)
def wsX4_asRumour : List Cond := .code yX4_asRumour cX4_asRumour 2 (some .int) :: ([.fieldLink RX4 250 "WhisperRing" "trace" "J", .constantLong RX4 273 (100), .fieldLink RX4 41 "WhisperRing" "hall" "LWhisperRing$Hall;", .fieldLink RX4 68 "WhisperRing$Hall" "now" "LWhisperRing$Moment;", .fieldLink RX4 75 "WhisperRing$Moment" "speed" "[I", .methodLink RX4 225 yX4_asSaying, .instanceMethod yX4_asSaying, .selects RX4 yX4_asSaying yX4_asSaying, .initialized RX4, .code yX4_asSaying cX4_asSaying 2 (some .int), .fieldLink RX4 81 "WhisperRing$Moment" "loud" "[I"] ++ wsX40 ++ wsX00 ++ wsX20)
def wsX4_asCurse_r1 : List Cond := [Cond.fieldLink RX4 250 "WhisperRing" "trace" "J", Cond.constantLong RX4 275 (1000), Cond.methodLink RX4 228 yX4_asVow, Cond.instanceMethod yX4_asVow, Cond.selects RX4 yX4_asVow yX4_asVow, Cond.initialized RX4, Cond.code yX4_asVow cX4_asVow 2 (some .int), Cond.constantLong RX4 271 (10), Cond.fieldLink RX4 41 "WhisperRing" "hall" "LWhisperRing$Hall;", Cond.methodLink RX4 225 yX4_asSaying, Cond.instanceMethod yX4_asSaying, Cond.selects RX4 yX4_asSaying yX4_asSaying, Cond.code yX4_asSaying cX4_asSaying 2 (some .int), Cond.fieldLink RX4 68 "WhisperRing$Hall" "now" "LWhisperRing$Moment;", Cond.fieldLink RX4 81 "WhisperRing$Moment" "loud" "[I", Cond.methodLink RX4 91 yX0_strengthAfter, Cond.instanceMethod yX0_strengthAfter, Cond.selects RX0 yX0_strengthAfter yX0_strengthAfter, Cond.initialized RX0, Cond.code yX0_strengthAfter cX0_strengthAfter 3 (some .int), Cond.fieldLink RX0 21 "WhisperRing$Hall" "now" "LWhisperRing$Moment;", Cond.fieldLink RX0 84 "WhisperRing$Moment" "loud" "[I", Cond.methodLink RX0 80 yX2_isHushed, Cond.instanceMethod yX2_isHushed]
def wsX4_asCurse_r2 : List Cond := [Cond.selects RX2 yX2_isHushed yX2_isHushed, Cond.initialized RX2, Cond.code yX2_isHushed cX2_isHushed 2 (some .boolean), Cond.fieldLink RX2 37 "WhisperRing$Moment" "hushed" "I", Cond.methodLink RX0 73 yX0_goneAfter, Cond.instanceMethod yX0_goneAfter, Cond.selects RX0 yX0_goneAfter yX0_goneAfter, Cond.code yX0_goneAfter cX0_goneAfter 3 (some .int), Cond.fieldLink RX0 58 "WhisperRing$Moment" "speed" "[I", Cond.fieldLink RX0 61 "WhisperRing$Moment" "tick" "I", Cond.fieldLink RX0 64 "WhisperRing$Moment" "saidAt" "[I", Cond.methodLink RX0 87 yX0_strengthLeft, Cond.instanceMethod yX0_strengthLeft, Cond.selects RX0 yX0_strengthLeft yX0_strengthLeft, Cond.code yX0_strengthLeft cX0_strengthLeft 3 (some .int), Cond.fieldLink RX0 15 "WhisperRing$Hall" "loss" "I", Cond.methodLink RX0 55 Lib.Math.max.name, Cond.static Lib.Math.max.name, Cond.initialized "java/lang/Math", Cond.code Lib.Math.max.name Lib.Math.max.code 2 (some .int), Cond.methodLink RX0 51 yX0_lapsOf, Cond.instanceMethod yX0_lapsOf, Cond.selects RX0 yX0_lapsOf yX0_lapsOf, Cond.code yX0_lapsOf cX0_lapsOf 2 (some .int)]
def wsX4_asCurse_r3 : List Cond := [Cond.fieldLink RX0 9 "WhisperRing$Hall" "places" "I"]
def wsX4_asCurse : List Cond := .code yX4_asCurse cX4_asCurse 2 (some .int) :: ((wsX4_asCurse_r1 ++ (wsX4_asCurse_r2 ++ wsX4_asCurse_r3)) ++ wsX40 ++ wsX00 ++ wsX20)
def wsX4_asLie : List Cond := .code yX4_asLie cX4_asLie 2 (some .int) :: ([.fieldLink RX4 250 "WhisperRing" "trace" "J", .constantLong RX4 277 (10000), .methodLink RX4 231 yX4_asRumour, .instanceMethod yX4_asRumour, .selects RX4 yX4_asRumour yX4_asRumour, .initialized RX4, .code yX4_asRumour cX4_asRumour 2 (some .int), .constantLong RX4 273 (100), .fieldLink RX4 41 "WhisperRing" "hall" "LWhisperRing$Hall;", .fieldLink RX4 68 "WhisperRing$Hall" "now" "LWhisperRing$Moment;", .fieldLink RX4 75 "WhisperRing$Moment" "speed" "[I", .methodLink RX4 225 yX4_asSaying, .instanceMethod yX4_asSaying, .selects RX4 yX4_asSaying yX4_asSaying, .code yX4_asSaying cX4_asSaying 2 (some .int), .fieldLink RX4 81 "WhisperRing$Moment" "loud" "[I"] ++ wsX40 ++ wsX00 ++ wsX20)
def wsX4_asHymn_r1 : List Cond := [Cond.fieldLink RX4 250 "WhisperRing" "trace" "J", Cond.constantLong RX4 279 (100000), Cond.fieldLink RX4 41 "WhisperRing" "hall" "LWhisperRing$Hall;", Cond.methodLink RX4 225 yX4_asSaying, Cond.instanceMethod yX4_asSaying, Cond.selects RX4 yX4_asSaying yX4_asSaying, Cond.initialized RX4, Cond.code yX4_asSaying cX4_asSaying 2 (some .int), Cond.fieldLink RX4 68 "WhisperRing$Hall" "now" "LWhisperRing$Moment;", Cond.fieldLink RX4 81 "WhisperRing$Moment" "loud" "[I", Cond.methodLink RX4 84 yX0_placeAfter, Cond.instanceMethod yX0_placeAfter, Cond.selects RX0 yX0_placeAfter yX0_placeAfter, Cond.initialized RX0, Cond.code yX0_placeAfter cX0_placeAfter 3 (some .int), Cond.fieldLink RX0 21 "WhisperRing$Hall" "now" "LWhisperRing$Moment;", Cond.fieldLink RX0 67 "WhisperRing$Moment" "from" "[I", Cond.fieldLink RX0 70 "WhisperRing$Moment" "way" "[I", Cond.methodLink RX0 73 yX0_goneAfter, Cond.instanceMethod yX0_goneAfter, Cond.selects RX0 yX0_goneAfter yX0_goneAfter, Cond.code yX0_goneAfter cX0_goneAfter 3 (some .int), Cond.fieldLink RX0 58 "WhisperRing$Moment" "speed" "[I", Cond.fieldLink RX0 61 "WhisperRing$Moment" "tick" "I"]
def wsX4_asHymn_r2 : List Cond := [Cond.fieldLink RX0 64 "WhisperRing$Moment" "saidAt" "[I", Cond.methodLink RX0 76 yX0_reach, Cond.instanceMethod yX0_reach, Cond.selects RX0 yX0_reach yX0_reach, Cond.code yX0_reach cX0_reach 5 (some .int), Cond.fieldLink RX0 9 "WhisperRing$Hall" "places" "I", Cond.methodLink RX0 45 yJ9_floorMod_7cf53, Cond.static yJ9_floorMod_7cf53, Cond.initialized RJ9, Cond.code yJ9_floorMod_7cf53 cJ9_floorMod_7cf53 3 (some .int)]
def wsX4_asHymn : List Cond := .code yX4_asHymn cX4_asHymn 2 (some .int) :: ((wsX4_asHymn_r1 ++ wsX4_asHymn_r2) ++ wsX40 ++ wsX00 ++ wsX20)
def wsX4_mark_r1 : List Cond := [Cond.fieldLink RX4 41 "WhisperRing" "hall" "LWhisperRing$Hall;", Cond.constant RX4 224 (-1000000), Cond.methodLink RX4 65 yX0_hasSaying, Cond.instanceMethod yX0_hasSaying, Cond.selects RX0 yX0_hasSaying yX0_hasSaying, Cond.initialized RX0, Cond.code yX0_hasSaying cX0_hasSaying 2 (some .boolean), Cond.fieldLink RX0 21 "WhisperRing$Hall" "now" "LWhisperRing$Moment;", Cond.fieldLink RX0 42 "WhisperRing$Moment" "sayings" "I", Cond.static yX4_within, Cond.initialized RX4, Cond.code yX4_within cX4_within 3 (some .boolean), Cond.methodLink RX4 225 yX4_asSaying, Cond.instanceMethod yX4_asSaying, Cond.selects RX4 yX4_asSaying yX4_asSaying, Cond.code yX4_asSaying cX4_asSaying 2 (some .int), Cond.fieldLink RX4 250 "WhisperRing" "trace" "J", Cond.fieldLink RX4 68 "WhisperRing$Hall" "now" "LWhisperRing$Moment;", Cond.fieldLink RX4 81 "WhisperRing$Moment" "loud" "[I", Cond.methodLink RX4 228 yX4_asVow, Cond.instanceMethod yX4_asVow, Cond.selects RX4 yX4_asVow yX4_asVow, Cond.code yX4_asVow cX4_asVow 2 (some .int), Cond.constantLong RX4 271 (10)]
def wsX4_mark_r2 : List Cond := [Cond.methodLink RX4 91 yX0_strengthAfter, Cond.instanceMethod yX0_strengthAfter, Cond.selects RX0 yX0_strengthAfter yX0_strengthAfter, Cond.code yX0_strengthAfter cX0_strengthAfter 3 (some .int), Cond.fieldLink RX0 84 "WhisperRing$Moment" "loud" "[I", Cond.methodLink RX0 80 yX2_isHushed, Cond.instanceMethod yX2_isHushed, Cond.selects RX2 yX2_isHushed yX2_isHushed, Cond.initialized RX2, Cond.code yX2_isHushed cX2_isHushed 2 (some .boolean), Cond.fieldLink RX2 37 "WhisperRing$Moment" "hushed" "I", Cond.methodLink RX0 73 yX0_goneAfter, Cond.instanceMethod yX0_goneAfter, Cond.selects RX0 yX0_goneAfter yX0_goneAfter, Cond.code yX0_goneAfter cX0_goneAfter 3 (some .int), Cond.fieldLink RX0 58 "WhisperRing$Moment" "speed" "[I", Cond.fieldLink RX0 61 "WhisperRing$Moment" "tick" "I", Cond.fieldLink RX0 64 "WhisperRing$Moment" "saidAt" "[I", Cond.methodLink RX0 87 yX0_strengthLeft, Cond.instanceMethod yX0_strengthLeft, Cond.selects RX0 yX0_strengthLeft yX0_strengthLeft, Cond.code yX0_strengthLeft cX0_strengthLeft 3 (some .int), Cond.fieldLink RX0 15 "WhisperRing$Hall" "loss" "I", Cond.methodLink RX0 55 Lib.Math.max.name]
def wsX4_mark_r3 : List Cond := [Cond.static Lib.Math.max.name, Cond.initialized "java/lang/Math", Cond.code Lib.Math.max.name Lib.Math.max.code 2 (some .int), Cond.methodLink RX0 51 yX0_lapsOf, Cond.instanceMethod yX0_lapsOf, Cond.selects RX0 yX0_lapsOf yX0_lapsOf, Cond.code yX0_lapsOf cX0_lapsOf 2 (some .int), Cond.fieldLink RX0 9 "WhisperRing$Hall" "places" "I", Cond.methodLink RX4 231 yX4_asRumour, Cond.instanceMethod yX4_asRumour, Cond.selects RX4 yX4_asRumour yX4_asRumour, Cond.code yX4_asRumour cX4_asRumour 2 (some .int), Cond.constantLong RX4 273 (100), Cond.fieldLink RX4 75 "WhisperRing$Moment" "speed" "[I", Cond.methodLink RX4 234 yX4_asCurse, Cond.instanceMethod yX4_asCurse, Cond.selects RX4 yX4_asCurse yX4_asCurse, Cond.code yX4_asCurse cX4_asCurse 2 (some .int), Cond.constantLong RX4 275 (1000), Cond.methodLink RX4 237 yX4_asLie, Cond.instanceMethod yX4_asLie, Cond.selects RX4 yX4_asLie yX4_asLie, Cond.code yX4_asLie cX4_asLie 2 (some .int), Cond.constantLong RX4 277 (10000)]
def wsX4_mark_r4 : List Cond := [Cond.methodLink RX4 240 yX4_asHymn, Cond.instanceMethod yX4_asHymn, Cond.selects RX4 yX4_asHymn yX4_asHymn, Cond.code yX4_asHymn cX4_asHymn 2 (some .int), Cond.constantLong RX4 279 (100000), Cond.methodLink RX4 84 yX0_placeAfter, Cond.instanceMethod yX0_placeAfter, Cond.selects RX0 yX0_placeAfter yX0_placeAfter, Cond.code yX0_placeAfter cX0_placeAfter 3 (some .int), Cond.fieldLink RX0 67 "WhisperRing$Moment" "from" "[I", Cond.fieldLink RX0 70 "WhisperRing$Moment" "way" "[I", Cond.methodLink RX0 76 yX0_reach, Cond.instanceMethod yX0_reach, Cond.selects RX0 yX0_reach yX0_reach, Cond.code yX0_reach cX0_reach 5 (some .int), Cond.methodLink RX0 45 yJ9_floorMod_7cf53, Cond.static yJ9_floorMod_7cf53, Cond.initialized RJ9, Cond.code yJ9_floorMod_7cf53 cJ9_floorMod_7cf53 3 (some .int)]
def wsX4_mark : List Cond := .code yX4_mark cX4_mark 3 (some .int) :: ((wsX4_mark_r1 ++ (wsX4_mark_r2 ++ (wsX4_mark_r3 ++ wsX4_mark_r4))) ++ wsX40 ++ wsX00 ++ wsX20)
def wsX4_keep_r1 : List Cond := [Cond.fieldLink RX4 25 "WhisperRing" "images" "[LWhisperRing$Moment;", Cond.fieldLink RX4 41 "WhisperRing" "hall" "LWhisperRing$Hall;", Cond.fieldLink RX4 68 "WhisperRing$Hall" "now" "LWhisperRing$Moment;", Cond.fieldLink RX4 30 "WhisperRing" "kept" "[Z", Cond.fieldLink RX4 126 "WhisperRing$Moment" "tick" "I", Cond.methodLink RX4 48 yX4_within, Cond.static yX4_within, Cond.initialized RX4, Cond.code yX4_within cX4_within 3 (some .boolean), Cond.methodLink RX4 243 yX2_become, Cond.instanceMethod yX2_become, Cond.selects RX2 yX2_become yX2_become, Cond.initialized RX2, Cond.code yX2_become cX2_become 2 none, Cond.fieldLink RX2 30 "WhisperRing$Moment" "tick" "I", Cond.fieldLink RX2 34 "WhisperRing$Moment" "sayings" "I", Cond.fieldLink RX2 37 "WhisperRing$Moment" "hushed" "I", Cond.fieldLink RX2 40 "WhisperRing$Moment" "noted" "I", Cond.fieldLink RX2 9 "WhisperRing$Moment" "from" "[I", Cond.methodLink RX2 43 arraycopyName, Cond.native arraycopyName, Cond.static arraycopyName, Cond.initialized "java/lang/System", Cond.fieldLink RX2 15 "WhisperRing$Moment" "speed" "[I"]
def wsX4_keep_r2 : List Cond := [Cond.fieldLink RX2 18 "WhisperRing$Moment" "way" "[I", Cond.fieldLink RX2 21 "WhisperRing$Moment" "loud" "[I", Cond.fieldLink RX2 24 "WhisperRing$Moment" "saidAt" "[I", Cond.fieldLink RX2 27 "WhisperRing$Moment" "deeds" "[I"]
def wsX4_keep : List Cond := .code yX4_keep cX4_keep 2 (some .int) :: ((wsX4_keep_r1 ++ wsX4_keep_r2) ++ wsX40 ++ wsX00 ++ wsX20)
def wsX4_back_r1 : List Cond := [Cond.fieldLink RX4 30 "WhisperRing" "kept" "[Z", Cond.fieldLink RX4 41 "WhisperRing" "hall" "LWhisperRing$Hall;", Cond.fieldLink RX4 68 "WhisperRing$Hall" "now" "LWhisperRing$Moment;", Cond.fieldLink RX4 25 "WhisperRing" "images" "[LWhisperRing$Moment;", Cond.fieldLink RX4 126 "WhisperRing$Moment" "tick" "I", Cond.methodLink RX4 48 yX4_within, Cond.static yX4_within, Cond.initialized RX4, Cond.code yX4_within cX4_within 3 (some .boolean), Cond.methodLink RX4 243 yX2_become, Cond.instanceMethod yX2_become, Cond.selects RX2 yX2_become yX2_become, Cond.initialized RX2, Cond.code yX2_become cX2_become 2 none, Cond.fieldLink RX2 30 "WhisperRing$Moment" "tick" "I", Cond.fieldLink RX2 34 "WhisperRing$Moment" "sayings" "I", Cond.fieldLink RX2 37 "WhisperRing$Moment" "hushed" "I", Cond.fieldLink RX2 40 "WhisperRing$Moment" "noted" "I", Cond.fieldLink RX2 9 "WhisperRing$Moment" "from" "[I", Cond.methodLink RX2 43 arraycopyName, Cond.native arraycopyName, Cond.static arraycopyName, Cond.initialized "java/lang/System", Cond.fieldLink RX2 15 "WhisperRing$Moment" "speed" "[I"]
def wsX4_back_r2 : List Cond := [Cond.fieldLink RX2 18 "WhisperRing$Moment" "way" "[I", Cond.fieldLink RX2 21 "WhisperRing$Moment" "loud" "[I", Cond.fieldLink RX2 24 "WhisperRing$Moment" "saidAt" "[I", Cond.fieldLink RX2 27 "WhisperRing$Moment" "deeds" "[I"]
def wsX4_back : List Cond := .code yX4_back cX4_back 2 (some .int) :: ((wsX4_back_r1 ++ wsX4_back_r2) ++ wsX40 ++ wsX00 ++ wsX20)
def wsX4_count : List Cond := .code yX4_count cX4_count 2 (some .int) :: ([.fieldLink RX4 41 "WhisperRing" "hall" "LWhisperRing$Hall;", .fieldLink RX4 216 "WhisperRing$Hall" "places" "I", .fieldLink RX4 68 "WhisperRing$Hall" "now" "LWhisperRing$Moment;", .fieldLink RX4 151 "WhisperRing$Moment" "sayings" "I", .fieldLink RX4 196 "WhisperRing$Hall" "loss" "I", .fieldLink RX4 247 "WhisperRing$Hall" "niches" "I", .fieldLink RX4 19 "WhisperRing" "hearsay" "LWhisperRing$Hearsay;", .fieldLink RX4 64 "WhisperRing$Hearsay" "size" "I", .fieldLink RX4 161 "WhisperRing$Moment" "noted" "I", .fieldLink RX4 12 "WhisperRing" "script" "LWhisperRing$Script;", .fieldLink RX4 56 "WhisperRing$Script" "size" "I", .methodLink RX4 136 yJ6_bitCount_0f7a4, .static yJ6_bitCount_0f7a4, .initialized RJ6, .code yJ6_bitCount_0f7a4 cJ6_bitCount_0f7a4 1 (some .int), .constant RJ6 265 (1431655765), .constant RJ6 266 (858993459), .constant RJ6 267 (252645135)] ++ wsX40 ++ wsX00 ++ wsX20 ++ wsX10 ++ wsX30)
def wsX4_trace : List Cond := .code yX4_trace cX4_trace 1 (some .long) :: ([.fieldLink RX4 250 "WhisperRing" "trace" "J"] ++ wsX40)
def wsX5_init : List Cond := .code yX5_init cX5_init 1 none :: ([.methodLink RX5 1 objectInit, .instanceMethod objectInit, .code objectInit ⟨#[0xb1]⟩ 1 none, .arrayClass .int, .fieldLink RX5 7 "WhisperRingModel" "text" "[I", .fieldLink RX5 13 "WhisperRingModel" "places" "I", .fieldLink RX5 17 "WhisperRingModel" "loss" "I", .fieldLink RX5 20 "WhisperRingModel" "st" "[I", .fieldLink RX5 23 "WhisperRingModel" "book" "[I", .fieldLink RX5 26 "WhisperRingModel" "images" "[I", .arrayClass .boolean, .fieldLink RX5 29 "WhisperRingModel" "isKept" "[Z", .fieldLink RX5 33 "WhisperRingModel" "heard" "[I", .fieldLink RX5 36 "WhisperRingModel" "read" "[I"] ++ wsX50)
def wsX5_in : List Cond := .code yX5_in cX5_in 3 (some .boolean) :: ([])
def wsX5_has : List Cond := .code yX5_has cX5_has 2 (some .boolean) :: ([])
def wsX5_bits : List Cond := .code yX5_bits cX5_bits 3 (some .int) :: ([])
def wsX5_bring : List Cond := .code yX5_bring cX5_bring 6 none :: ([])
def wsX5_isSaying : List Cond := .code yX5_isSaying cX5_isSaying 2 (some .boolean) :: ([.fieldLink RX5 20 "WhisperRingModel" "st" "[I", .methodLink RX5 39 yX5_in, .static yX5_in, .initialized RX5, .code yX5_in cX5_in 3 (some .boolean)] ++ wsX50)
def wsX5_isPlace : List Cond := .code yX5_isPlace cX5_isPlace 2 (some .boolean) :: ([.fieldLink RX5 13 "WhisperRingModel" "places" "I", .methodLink RX5 39 yX5_in, .static yX5_in, .initialized RX5, .code yX5_in cX5_in 3 (some .boolean)] ++ wsX50)
def wsX5_type : List Cond := .code yX5_type cX5_type 2 (some .int) :: ([.fieldLink RX5 43 "WhisperRingModel" "length" "I", .fieldLink RX5 7 "WhisperRingModel" "text" "[I", .methodLink RX5 39 yX5_in, .static yX5_in, .initialized RX5, .code yX5_in cX5_in 3 (some .boolean)] ++ wsX50)
def wsX5_clear : List Cond := .code yX5_clear cX5_clear 2 (some .int) :: ([.fieldLink RX5 43 "WhisperRingModel" "length" "I"] ++ wsX50)
def wsX5_here : List Cond := .code yX5_here cX5_here 1 (some .int) :: ([.fieldLink RX5 46 "WhisperRingModel" "at" "I", .fieldLink RX5 43 "WhisperRingModel" "length" "I", .fieldLink RX5 7 "WhisperRingModel" "text" "[I"] ++ wsX50)
def wsX5_skips : List Cond := .code yX5_skips cX5_skips 1 none :: ([.fieldLink RX5 46 "WhisperRingModel" "at" "I", .methodLink RX5 49 yX5_here, .instanceMethod yX5_here, .selects RX5 yX5_here yX5_here, .initialized RX5, .code yX5_here cX5_here 1 (some .int), .fieldLink RX5 43 "WhisperRingModel" "length" "I", .fieldLink RX5 7 "WhisperRingModel" "text" "[I"] ++ wsX50)
def wsX5_number : List Cond := .code yX5_number cX5_number 6 (some .int) :: ([.fieldLink RX5 53 "WhisperRingModel" "wrong" "I", .fieldLink RX5 46 "WhisperRingModel" "at" "I", .fieldLink RX5 43 "WhisperRingModel" "length" "I", .fieldLink RX5 7 "WhisperRingModel" "text" "[I", .methodLink RX5 56 yX5_skips, .instanceMethod yX5_skips, .selects RX5 yX5_skips yX5_skips, .initialized RX5, .code yX5_skips cX5_skips 1 none, .methodLink RX5 49 yX5_here, .instanceMethod yX5_here, .selects RX5 yX5_here yX5_here, .code yX5_here cX5_here 1 (some .int), .methodLink RX5 39 yX5_in, .static yX5_in, .code yX5_in cX5_in 3 (some .boolean)] ++ wsX50)
def wsX5_ends : List Cond := .code yX5_ends cX5_ends 1 none :: ([.fieldLink RX5 53 "WhisperRingModel" "wrong" "I", .fieldLink RX5 46 "WhisperRingModel" "at" "I", .fieldLink RX5 59 "WhisperRingModel" "items" "I", .methodLink RX5 56 yX5_skips, .instanceMethod yX5_skips, .selects RX5 yX5_skips yX5_skips, .initialized RX5, .code yX5_skips cX5_skips 1 none, .methodLink RX5 49 yX5_here, .instanceMethod yX5_here, .selects RX5 yX5_here yX5_here, .code yX5_here cX5_here 1 (some .int), .fieldLink RX5 43 "WhisperRingModel" "length" "I", .fieldLink RX5 7 "WhisperRingModel" "text" "[I"] ++ wsX50)
def wsX5_readSaying_r1 : List Cond := [Cond.fieldLink RX5 36 "WhisperRingModel" "read" "[I", Cond.fieldLink RX5 62 "WhisperRingModel" "readPlaces" "I", Cond.methodLink RX5 65 yX5_number, Cond.instanceMethod yX5_number, Cond.selects RX5 yX5_number yX5_number, Cond.initialized RX5, Cond.code yX5_number cX5_number 6 (some .int), Cond.fieldLink RX5 53 "WhisperRingModel" "wrong" "I", Cond.fieldLink RX5 46 "WhisperRingModel" "at" "I", Cond.fieldLink RX5 43 "WhisperRingModel" "length" "I", Cond.fieldLink RX5 7 "WhisperRingModel" "text" "[I", Cond.methodLink RX5 56 yX5_skips, Cond.instanceMethod yX5_skips, Cond.selects RX5 yX5_skips yX5_skips, Cond.code yX5_skips cX5_skips 1 none, Cond.methodLink RX5 49 yX5_here, Cond.instanceMethod yX5_here, Cond.selects RX5 yX5_here yX5_here, Cond.code yX5_here cX5_here 1 (some .int), Cond.methodLink RX5 39 yX5_in, Cond.static yX5_in, Cond.code yX5_in cX5_in 3 (some .boolean), Cond.methodLink RX5 69 yX5_ends, Cond.instanceMethod yX5_ends]
def wsX5_readSaying_r2 : List Cond := [Cond.selects RX5 yX5_ends yX5_ends, Cond.code yX5_ends cX5_ends 1 none, Cond.fieldLink RX5 59 "WhisperRingModel" "items" "I"]
def wsX5_readSaying : List Cond := .code yX5_readSaying cX5_readSaying 2 none :: ((wsX5_readSaying_r1 ++ wsX5_readSaying_r2) ++ wsX50)
def wsX5_readItem_r1 : List Cond := [Cond.fieldLink RX5 46 "WhisperRingModel" "at" "I", Cond.fieldLink RX5 43 "WhisperRingModel" "length" "I", Cond.fieldLink RX5 7 "WhisperRingModel" "text" "[I", Cond.fieldLink RX5 59 "WhisperRingModel" "items" "I", Cond.fieldLink RX5 72 "WhisperRingModel" "saidLoss" "Z", Cond.fieldLink RX5 36 "WhisperRingModel" "read" "[I", Cond.fieldLink RX5 53 "WhisperRingModel" "wrong" "I", Cond.fieldLink RX5 62 "WhisperRingModel" "readPlaces" "I", Cond.fieldLink RX5 76 "WhisperRingModel" "readLoss" "I", Cond.fieldLink RX5 79 "WhisperRingModel" "readNiches" "I", Cond.methodLink RX5 49 yX5_here, Cond.instanceMethod yX5_here, Cond.selects RX5 yX5_here yX5_here, Cond.initialized RX5, Cond.code yX5_here cX5_here 1 (some .int), Cond.methodLink RX5 39 yX5_in, Cond.static yX5_in, Cond.code yX5_in cX5_in 3 (some .boolean), Cond.methodLink RX5 65 yX5_number, Cond.instanceMethod yX5_number, Cond.selects RX5 yX5_number yX5_number, Cond.code yX5_number cX5_number 6 (some .int), Cond.methodLink RX5 56 yX5_skips, Cond.instanceMethod yX5_skips]
def wsX5_readItem_r2 : List Cond := [Cond.selects RX5 yX5_skips yX5_skips, Cond.code yX5_skips cX5_skips 1 none, Cond.methodLink RX5 69 yX5_ends, Cond.instanceMethod yX5_ends, Cond.selects RX5 yX5_ends yX5_ends, Cond.code yX5_ends cX5_ends 1 none, Cond.methodLink RX5 82 yX5_readSaying, Cond.instanceMethod yX5_readSaying, Cond.selects RX5 yX5_readSaying yX5_readSaying, Cond.code yX5_readSaying cX5_readSaying 2 none]
def wsX5_readItem : List Cond := .code yX5_readItem cX5_readItem 4 none :: ((wsX5_readItem_r1 ++ wsX5_readItem_r2) ++ wsX50)
def wsX5_gallery_r1 : List Cond := [Cond.fieldLink RX5 46 "WhisperRingModel" "at" "I", Cond.fieldLink RX5 53 "WhisperRingModel" "wrong" "I", Cond.fieldLink RX5 59 "WhisperRingModel" "items" "I", Cond.fieldLink RX5 62 "WhisperRingModel" "readPlaces" "I", Cond.fieldLink RX5 76 "WhisperRingModel" "readLoss" "I", Cond.fieldLink RX5 72 "WhisperRingModel" "saidLoss" "Z", Cond.fieldLink RX5 79 "WhisperRingModel" "readNiches" "I", Cond.fieldLink RX5 36 "WhisperRingModel" "read" "[I", Cond.fieldLink RX5 43 "WhisperRingModel" "length" "I", Cond.fieldLink RX5 13 "WhisperRingModel" "places" "I", Cond.fieldLink RX5 17 "WhisperRingModel" "loss" "I", Cond.fieldLink RX5 88 "WhisperRingModel" "niches" "I", Cond.fieldLink RX5 20 "WhisperRingModel" "st" "[I", Cond.fieldLink RX5 95 "WhisperRingModel" "undos" "I", Cond.fieldLink RX5 98 "WhisperRingModel" "heardMany" "I", Cond.fieldLink RX5 29 "WhisperRingModel" "isKept" "[Z", Cond.methodLink RX5 56 yX5_skips, Cond.instanceMethod yX5_skips, Cond.selects RX5 yX5_skips yX5_skips, Cond.initialized RX5, Cond.code yX5_skips cX5_skips 1 none, Cond.methodLink RX5 49 yX5_here, Cond.instanceMethod yX5_here, Cond.selects RX5 yX5_here yX5_here]
def wsX5_gallery_r2 : List Cond := [Cond.code yX5_here cX5_here 1 (some .int), Cond.fieldLink RX5 7 "WhisperRingModel" "text" "[I", Cond.methodLink RX5 85 yX5_readItem, Cond.instanceMethod yX5_readItem, Cond.selects RX5 yX5_readItem yX5_readItem, Cond.code yX5_readItem cX5_readItem 4 none, Cond.methodLink RX5 39 yX5_in, Cond.static yX5_in, Cond.code yX5_in cX5_in 3 (some .boolean), Cond.methodLink RX5 65 yX5_number, Cond.instanceMethod yX5_number, Cond.selects RX5 yX5_number yX5_number, Cond.code yX5_number cX5_number 6 (some .int), Cond.methodLink RX5 69 yX5_ends, Cond.instanceMethod yX5_ends, Cond.selects RX5 yX5_ends yX5_ends, Cond.code yX5_ends cX5_ends 1 none, Cond.methodLink RX5 82 yX5_readSaying, Cond.instanceMethod yX5_readSaying, Cond.selects RX5 yX5_readSaying yX5_readSaying, Cond.code yX5_readSaying cX5_readSaying 2 none, Cond.methodLink RX5 91 yX5_bring, Cond.static yX5_bring, Cond.code yX5_bring cX5_bring 6 none]
def wsX5_gallery : List Cond := .code yX5_gallery cX5_gallery 2 (some .int) :: ((wsX5_gallery_r1 ++ wsX5_gallery_r2) ++ wsX50)
def wsX5_round : List Cond := .code yX5_round cX5_round 2 (some .int) :: ([.fieldLink RX5 13 "WhisperRingModel" "places" "I"] ++ wsX50)
def wsX5_placeBy : List Cond := .code yX5_placeBy cX5_placeBy 5 (some .int) :: ([.methodLink RX5 101 yX5_round, .instanceMethod yX5_round, .selects RX5 yX5_round yX5_round, .initialized RX5, .code yX5_round cX5_round 2 (some .int), .fieldLink RX5 13 "WhisperRingModel" "places" "I"] ++ wsX50)
def wsX5_ago : List Cond := .code yX5_ago cX5_ago 3 (some .int) :: ([.fieldLink RX5 20 "WhisperRingModel" "st" "[I"] ++ wsX50)
def wsX5_placeOf : List Cond := .code yX5_placeOf cX5_placeOf 3 (some .int) :: ([.fieldLink RX5 20 "WhisperRingModel" "st" "[I", .methodLink RX5 105 yX5_ago, .instanceMethod yX5_ago, .selects RX5 yX5_ago yX5_ago, .initialized RX5, .code yX5_ago cX5_ago 3 (some .int), .methodLink RX5 108 yX5_placeBy, .instanceMethod yX5_placeBy, .selects RX5 yX5_placeBy yX5_placeBy, .code yX5_placeBy cX5_placeBy 5 (some .int), .methodLink RX5 101 yX5_round, .instanceMethod yX5_round, .selects RX5 yX5_round yX5_round, .code yX5_round cX5_round 2 (some .int), .fieldLink RX5 13 "WhisperRingModel" "places" "I"] ++ wsX50)
def wsX5_lapsOf : List Cond := .code yX5_lapsOf cX5_lapsOf 3 (some .int) :: ([.fieldLink RX5 20 "WhisperRingModel" "st" "[I", .fieldLink RX5 13 "WhisperRingModel" "places" "I", .methodLink RX5 105 yX5_ago, .instanceMethod yX5_ago, .selects RX5 yX5_ago yX5_ago, .initialized RX5, .code yX5_ago cX5_ago 3 (some .int)] ++ wsX50)
def wsX5_strengthOf : List Cond := .code yX5_strengthOf cX5_strengthOf 4 (some .int) :: ([.fieldLink RX5 20 "WhisperRingModel" "st" "[I", .fieldLink RX5 17 "WhisperRingModel" "loss" "I", .methodLink RX5 112 yX5_lapsOf, .instanceMethod yX5_lapsOf, .selects RX5 yX5_lapsOf yX5_lapsOf, .initialized RX5, .code yX5_lapsOf cX5_lapsOf 3 (some .int), .fieldLink RX5 13 "WhisperRingModel" "places" "I", .methodLink RX5 105 yX5_ago, .instanceMethod yX5_ago, .selects RX5 yX5_ago yX5_ago, .code yX5_ago cX5_ago 3 (some .int)] ++ wsX50)
def wsX5_soundsOf_r1 : List Cond := [Cond.fieldLink RX5 20 "WhisperRingModel" "st" "[I", Cond.methodLink RX5 115 yX5_strengthOf, Cond.instanceMethod yX5_strengthOf, Cond.selects RX5 yX5_strengthOf yX5_strengthOf, Cond.initialized RX5, Cond.code yX5_strengthOf cX5_strengthOf 4 (some .int), Cond.fieldLink RX5 17 "WhisperRingModel" "loss" "I", Cond.methodLink RX5 112 yX5_lapsOf, Cond.instanceMethod yX5_lapsOf, Cond.selects RX5 yX5_lapsOf yX5_lapsOf, Cond.code yX5_lapsOf cX5_lapsOf 3 (some .int), Cond.fieldLink RX5 13 "WhisperRingModel" "places" "I", Cond.methodLink RX5 105 yX5_ago, Cond.instanceMethod yX5_ago, Cond.selects RX5 yX5_ago yX5_ago, Cond.code yX5_ago cX5_ago 3 (some .int), Cond.methodLink RX5 118 yX5_placeOf, Cond.instanceMethod yX5_placeOf, Cond.selects RX5 yX5_placeOf yX5_placeOf, Cond.code yX5_placeOf cX5_placeOf 3 (some .int), Cond.methodLink RX5 108 yX5_placeBy, Cond.instanceMethod yX5_placeBy, Cond.selects RX5 yX5_placeBy yX5_placeBy, Cond.code yX5_placeBy cX5_placeBy 5 (some .int)]
def wsX5_soundsOf_r2 : List Cond := [Cond.methodLink RX5 101 yX5_round, Cond.instanceMethod yX5_round, Cond.selects RX5 yX5_round yX5_round, Cond.code yX5_round cX5_round 2 (some .int)]
def wsX5_soundsOf : List Cond := .code yX5_soundsOf cX5_soundsOf 5 (some .int) :: ((wsX5_soundsOf_r1 ++ wsX5_soundsOf_r2) ++ wsX50)
def wsX5_loudOf : List Cond := .code yX5_loudOf cX5_loudOf 5 (some .int) :: ([.fieldLink RX5 20 "WhisperRingModel" "st" "[I", .methodLink RX5 121 yX5_has, .static yX5_has, .initialized RX5, .code yX5_has cX5_has 2 (some .boolean), .methodLink RX5 115 yX5_strengthOf, .instanceMethod yX5_strengthOf, .selects RX5 yX5_strengthOf yX5_strengthOf, .code yX5_strengthOf cX5_strengthOf 4 (some .int), .fieldLink RX5 17 "WhisperRingModel" "loss" "I", .methodLink RX5 112 yX5_lapsOf, .instanceMethod yX5_lapsOf, .selects RX5 yX5_lapsOf yX5_lapsOf, .code yX5_lapsOf cX5_lapsOf 3 (some .int), .fieldLink RX5 13 "WhisperRingModel" "places" "I", .methodLink RX5 105 yX5_ago, .instanceMethod yX5_ago, .selects RX5 yX5_ago yX5_ago, .code yX5_ago cX5_ago 3 (some .int)] ++ wsX50)
def wsX5_clearOf : List Cond := .code yX5_clearOf cX5_clearOf 6 (some .int) :: ([.fieldLink RX5 20 "WhisperRingModel" "st" "[I", .methodLink RX5 125 yX5_loudOf, .instanceMethod yX5_loudOf, .selects RX5 yX5_loudOf yX5_loudOf, .initialized RX5, .code yX5_loudOf cX5_loudOf 5 (some .int), .methodLink RX5 121 yX5_has, .static yX5_has, .code yX5_has cX5_has 2 (some .boolean), .methodLink RX5 115 yX5_strengthOf, .instanceMethod yX5_strengthOf, .selects RX5 yX5_strengthOf yX5_strengthOf, .code yX5_strengthOf cX5_strengthOf 4 (some .int), .fieldLink RX5 17 "WhisperRingModel" "loss" "I", .methodLink RX5 112 yX5_lapsOf, .instanceMethod yX5_lapsOf, .selects RX5 yX5_lapsOf yX5_lapsOf, .code yX5_lapsOf cX5_lapsOf 3 (some .int), .fieldLink RX5 13 "WhisperRingModel" "places" "I", .methodLink RX5 105 yX5_ago, .instanceMethod yX5_ago, .selects RX5 yX5_ago yX5_ago, .code yX5_ago cX5_ago 3 (some .int)] ++ wsX50)
def wsX5_lastOf : List Cond := .code yX5_lastOf cX5_lastOf 3 (some .int) :: ([.methodLink RX5 115 yX5_strengthOf, .instanceMethod yX5_strengthOf, .selects RX5 yX5_strengthOf yX5_strengthOf, .initialized RX5, .code yX5_strengthOf cX5_strengthOf 4 (some .int), .fieldLink RX5 20 "WhisperRingModel" "st" "[I", .fieldLink RX5 17 "WhisperRingModel" "loss" "I", .methodLink RX5 112 yX5_lapsOf, .instanceMethod yX5_lapsOf, .selects RX5 yX5_lapsOf yX5_lapsOf, .code yX5_lapsOf cX5_lapsOf 3 (some .int), .fieldLink RX5 13 "WhisperRingModel" "places" "I", .methodLink RX5 105 yX5_ago, .instanceMethod yX5_ago, .selects RX5 yX5_ago yX5_ago, .code yX5_ago cX5_ago 3 (some .int)] ++ wsX50)
def wsX5_quietOf_r1 : List Cond := [Cond.methodLink RX5 128 yX5_soundsOf, Cond.instanceMethod yX5_soundsOf, Cond.selects RX5 yX5_soundsOf yX5_soundsOf, Cond.initialized RX5, Cond.code yX5_soundsOf cX5_soundsOf 5 (some .int), Cond.fieldLink RX5 20 "WhisperRingModel" "st" "[I", Cond.methodLink RX5 115 yX5_strengthOf, Cond.instanceMethod yX5_strengthOf, Cond.selects RX5 yX5_strengthOf yX5_strengthOf, Cond.code yX5_strengthOf cX5_strengthOf 4 (some .int), Cond.fieldLink RX5 17 "WhisperRingModel" "loss" "I", Cond.methodLink RX5 112 yX5_lapsOf, Cond.instanceMethod yX5_lapsOf, Cond.selects RX5 yX5_lapsOf yX5_lapsOf, Cond.code yX5_lapsOf cX5_lapsOf 3 (some .int), Cond.fieldLink RX5 13 "WhisperRingModel" "places" "I", Cond.methodLink RX5 105 yX5_ago, Cond.instanceMethod yX5_ago, Cond.selects RX5 yX5_ago yX5_ago, Cond.code yX5_ago cX5_ago 3 (some .int), Cond.methodLink RX5 118 yX5_placeOf, Cond.instanceMethod yX5_placeOf, Cond.selects RX5 yX5_placeOf yX5_placeOf, Cond.code yX5_placeOf cX5_placeOf 3 (some .int)]
def wsX5_quietOf_r2 : List Cond := [Cond.methodLink RX5 108 yX5_placeBy, Cond.instanceMethod yX5_placeBy, Cond.selects RX5 yX5_placeBy yX5_placeBy, Cond.code yX5_placeBy cX5_placeBy 5 (some .int), Cond.methodLink RX5 101 yX5_round, Cond.instanceMethod yX5_round, Cond.selects RX5 yX5_round yX5_round, Cond.code yX5_round cX5_round 2 (some .int)]
def wsX5_quietOf : List Cond := .code yX5_quietOf cX5_quietOf 3 (some .int) :: ((wsX5_quietOf_r1 ++ wsX5_quietOf_r2) ++ wsX50)
def wsX5_saying_r1 : List Cond := [Cond.fieldLink RX5 20 "WhisperRingModel" "st" "[I", Cond.methodLink RX5 131 yX5_isSaying, Cond.instanceMethod yX5_isSaying, Cond.selects RX5 yX5_isSaying yX5_isSaying, Cond.initialized RX5, Cond.code yX5_isSaying cX5_isSaying 2 (some .boolean), Cond.methodLink RX5 39 yX5_in, Cond.static yX5_in, Cond.code yX5_in cX5_in 3 (some .boolean), Cond.methodLink RX5 118 yX5_placeOf, Cond.instanceMethod yX5_placeOf, Cond.selects RX5 yX5_placeOf yX5_placeOf, Cond.code yX5_placeOf cX5_placeOf 3 (some .int), Cond.methodLink RX5 105 yX5_ago, Cond.instanceMethod yX5_ago, Cond.selects RX5 yX5_ago yX5_ago, Cond.code yX5_ago cX5_ago 3 (some .int), Cond.methodLink RX5 108 yX5_placeBy, Cond.instanceMethod yX5_placeBy, Cond.selects RX5 yX5_placeBy yX5_placeBy, Cond.code yX5_placeBy cX5_placeBy 5 (some .int), Cond.methodLink RX5 101 yX5_round, Cond.instanceMethod yX5_round, Cond.selects RX5 yX5_round yX5_round]
def wsX5_saying_r2 : List Cond := [Cond.code yX5_round cX5_round 2 (some .int), Cond.fieldLink RX5 13 "WhisperRingModel" "places" "I", Cond.methodLink RX5 112 yX5_lapsOf, Cond.instanceMethod yX5_lapsOf, Cond.selects RX5 yX5_lapsOf yX5_lapsOf, Cond.code yX5_lapsOf cX5_lapsOf 3 (some .int), Cond.methodLink RX5 115 yX5_strengthOf, Cond.instanceMethod yX5_strengthOf, Cond.selects RX5 yX5_strengthOf yX5_strengthOf, Cond.code yX5_strengthOf cX5_strengthOf 4 (some .int), Cond.fieldLink RX5 17 "WhisperRingModel" "loss" "I", Cond.methodLink RX5 135 yX5_lastOf, Cond.instanceMethod yX5_lastOf, Cond.selects RX5 yX5_lastOf yX5_lastOf, Cond.code yX5_lastOf cX5_lastOf 3 (some .int)]
def wsX5_saying : List Cond := .code yX5_saying cX5_saying 3 (some .int) :: ((wsX5_saying_r1 ++ wsX5_saying_r2) ++ wsX50)
def wsX5_place_r1 : List Cond := [Cond.fieldLink RX5 88 "WhisperRingModel" "niches" "I", Cond.methodLink RX5 138 yX5_isPlace, Cond.instanceMethod yX5_isPlace, Cond.selects RX5 yX5_isPlace yX5_isPlace, Cond.initialized RX5, Cond.code yX5_isPlace cX5_isPlace 2 (some .boolean), Cond.fieldLink RX5 13 "WhisperRingModel" "places" "I", Cond.methodLink RX5 39 yX5_in, Cond.static yX5_in, Cond.code yX5_in cX5_in 3 (some .boolean), Cond.methodLink RX5 128 yX5_soundsOf, Cond.instanceMethod yX5_soundsOf, Cond.selects RX5 yX5_soundsOf yX5_soundsOf, Cond.code yX5_soundsOf cX5_soundsOf 5 (some .int), Cond.fieldLink RX5 20 "WhisperRingModel" "st" "[I", Cond.methodLink RX5 115 yX5_strengthOf, Cond.instanceMethod yX5_strengthOf, Cond.selects RX5 yX5_strengthOf yX5_strengthOf, Cond.code yX5_strengthOf cX5_strengthOf 4 (some .int), Cond.fieldLink RX5 17 "WhisperRingModel" "loss" "I", Cond.methodLink RX5 112 yX5_lapsOf, Cond.instanceMethod yX5_lapsOf, Cond.selects RX5 yX5_lapsOf yX5_lapsOf, Cond.code yX5_lapsOf cX5_lapsOf 3 (some .int)]
def wsX5_place_r2 : List Cond := [Cond.methodLink RX5 105 yX5_ago, Cond.instanceMethod yX5_ago, Cond.selects RX5 yX5_ago yX5_ago, Cond.code yX5_ago cX5_ago 3 (some .int), Cond.methodLink RX5 118 yX5_placeOf, Cond.instanceMethod yX5_placeOf, Cond.selects RX5 yX5_placeOf yX5_placeOf, Cond.code yX5_placeOf cX5_placeOf 3 (some .int), Cond.methodLink RX5 108 yX5_placeBy, Cond.instanceMethod yX5_placeBy, Cond.selects RX5 yX5_placeBy yX5_placeBy, Cond.code yX5_placeBy cX5_placeBy 5 (some .int), Cond.methodLink RX5 101 yX5_round, Cond.instanceMethod yX5_round, Cond.selects RX5 yX5_round yX5_round, Cond.code yX5_round cX5_round 2 (some .int), Cond.methodLink RX5 141 yX5_clearOf, Cond.instanceMethod yX5_clearOf, Cond.selects RX5 yX5_clearOf yX5_clearOf, Cond.code yX5_clearOf cX5_clearOf 6 (some .int), Cond.methodLink RX5 125 yX5_loudOf, Cond.instanceMethod yX5_loudOf, Cond.selects RX5 yX5_loudOf yX5_loudOf, Cond.code yX5_loudOf cX5_loudOf 5 (some .int)]
def wsX5_place_r3 : List Cond := [Cond.methodLink RX5 121 yX5_has, Cond.static yX5_has, Cond.code yX5_has cX5_has 2 (some .boolean), Cond.methodLink RX5 144 yX5_quietOf, Cond.instanceMethod yX5_quietOf, Cond.selects RX5 yX5_quietOf yX5_quietOf, Cond.code yX5_quietOf cX5_quietOf 3 (some .int)]
def wsX5_place : List Cond := .code yX5_place cX5_place 4 (some .int) :: ((wsX5_place_r1 ++ (wsX5_place_r2 ++ wsX5_place_r3)) ++ wsX50)
def wsX5_notes : List Cond := .code yX5_notes cX5_notes 1 none :: ([.fieldLink RX5 95 "WhisperRingModel" "undos" "I", .fieldLink RX5 23 "WhisperRingModel" "book" "[I", .fieldLink RX5 20 "WhisperRingModel" "st" "[I", .methodLink RX5 91 yX5_bring, .static yX5_bring, .initialized RX5, .code yX5_bring cX5_bring 6 none] ++ wsX50)
def wsX5_alive : List Cond := .code yX5_alive cX5_alive 3 (some .int) :: ([.fieldLink RX5 20 "WhisperRingModel" "st" "[I", .methodLink RX5 115 yX5_strengthOf, .instanceMethod yX5_strengthOf, .selects RX5 yX5_strengthOf yX5_strengthOf, .initialized RX5, .code yX5_strengthOf cX5_strengthOf 4 (some .int), .fieldLink RX5 17 "WhisperRingModel" "loss" "I", .methodLink RX5 112 yX5_lapsOf, .instanceMethod yX5_lapsOf, .selects RX5 yX5_lapsOf yX5_lapsOf, .code yX5_lapsOf cX5_lapsOf 3 (some .int), .fieldLink RX5 13 "WhisperRingModel" "places" "I", .methodLink RX5 105 yX5_ago, .instanceMethod yX5_ago, .selects RX5 yX5_ago yX5_ago, .code yX5_ago cX5_ago 3 (some .int)] ++ wsX50)
def wsX5_ticks_r1 : List Cond := [Cond.fieldLink RX5 20 "WhisperRingModel" "st" "[I", Cond.methodLink RX5 39 yX5_in, Cond.static yX5_in, Cond.initialized RX5, Cond.code yX5_in cX5_in 3 (some .boolean), Cond.methodLink RX5 147 yX5_notes, Cond.instanceMethod yX5_notes, Cond.selects RX5 yX5_notes yX5_notes, Cond.code yX5_notes cX5_notes 1 none, Cond.fieldLink RX5 95 "WhisperRingModel" "undos" "I", Cond.fieldLink RX5 23 "WhisperRingModel" "book" "[I", Cond.methodLink RX5 91 yX5_bring, Cond.static yX5_bring, Cond.code yX5_bring cX5_bring 6 none, Cond.methodLink RX5 150 yX5_alive, Cond.instanceMethod yX5_alive, Cond.selects RX5 yX5_alive yX5_alive, Cond.code yX5_alive cX5_alive 3 (some .int), Cond.methodLink RX5 115 yX5_strengthOf, Cond.instanceMethod yX5_strengthOf, Cond.selects RX5 yX5_strengthOf yX5_strengthOf, Cond.code yX5_strengthOf cX5_strengthOf 4 (some .int), Cond.fieldLink RX5 17 "WhisperRingModel" "loss" "I", Cond.methodLink RX5 112 yX5_lapsOf]
def wsX5_ticks_r2 : List Cond := [Cond.instanceMethod yX5_lapsOf, Cond.selects RX5 yX5_lapsOf yX5_lapsOf, Cond.code yX5_lapsOf cX5_lapsOf 3 (some .int), Cond.fieldLink RX5 13 "WhisperRingModel" "places" "I", Cond.methodLink RX5 105 yX5_ago, Cond.instanceMethod yX5_ago, Cond.selects RX5 yX5_ago yX5_ago, Cond.code yX5_ago cX5_ago 3 (some .int), Cond.methodLink RX5 153 yX5_bits, Cond.static yX5_bits, Cond.code yX5_bits cX5_bits 3 (some .int)]
def wsX5_ticks : List Cond := .code yX5_ticks cX5_ticks 2 (some .int) :: ((wsX5_ticks_r1 ++ wsX5_ticks_r2) ++ wsX50)
def wsX5_says : List Cond := .code yX5_says cX5_says 6 (some .int) :: ([.fieldLink RX5 20 "WhisperRingModel" "st" "[I", .methodLink RX5 138 yX5_isPlace, .instanceMethod yX5_isPlace, .selects RX5 yX5_isPlace yX5_isPlace, .initialized RX5, .code yX5_isPlace cX5_isPlace 2 (some .boolean), .fieldLink RX5 13 "WhisperRingModel" "places" "I", .methodLink RX5 39 yX5_in, .static yX5_in, .code yX5_in cX5_in 3 (some .boolean), .methodLink RX5 147 yX5_notes, .instanceMethod yX5_notes, .selects RX5 yX5_notes yX5_notes, .code yX5_notes cX5_notes 1 none, .fieldLink RX5 95 "WhisperRingModel" "undos" "I", .fieldLink RX5 23 "WhisperRingModel" "book" "[I", .methodLink RX5 91 yX5_bring, .static yX5_bring, .code yX5_bring cX5_bring 6 none] ++ wsX50)
def wsX5_hushes_r1 : List Cond := [Cond.fieldLink RX5 20 "WhisperRingModel" "st" "[I", Cond.methodLink RX5 131 yX5_isSaying, Cond.instanceMethod yX5_isSaying, Cond.selects RX5 yX5_isSaying yX5_isSaying, Cond.initialized RX5, Cond.code yX5_isSaying cX5_isSaying 2 (some .boolean), Cond.methodLink RX5 39 yX5_in, Cond.static yX5_in, Cond.code yX5_in cX5_in 3 (some .boolean), Cond.methodLink RX5 115 yX5_strengthOf, Cond.instanceMethod yX5_strengthOf, Cond.selects RX5 yX5_strengthOf yX5_strengthOf, Cond.code yX5_strengthOf cX5_strengthOf 4 (some .int), Cond.fieldLink RX5 17 "WhisperRingModel" "loss" "I", Cond.methodLink RX5 112 yX5_lapsOf, Cond.instanceMethod yX5_lapsOf, Cond.selects RX5 yX5_lapsOf yX5_lapsOf, Cond.code yX5_lapsOf cX5_lapsOf 3 (some .int), Cond.fieldLink RX5 13 "WhisperRingModel" "places" "I", Cond.methodLink RX5 105 yX5_ago, Cond.instanceMethod yX5_ago, Cond.selects RX5 yX5_ago yX5_ago, Cond.code yX5_ago cX5_ago 3 (some .int), Cond.methodLink RX5 147 yX5_notes]
def wsX5_hushes_r2 : List Cond := [Cond.instanceMethod yX5_notes, Cond.selects RX5 yX5_notes yX5_notes, Cond.code yX5_notes cX5_notes 1 none, Cond.fieldLink RX5 95 "WhisperRingModel" "undos" "I", Cond.fieldLink RX5 23 "WhisperRingModel" "book" "[I", Cond.methodLink RX5 91 yX5_bring, Cond.static yX5_bring, Cond.code yX5_bring cX5_bring 6 none]
def wsX5_hushes : List Cond := .code yX5_hushes cX5_hushes 3 (some .int) :: ((wsX5_hushes_r1 ++ wsX5_hushes_r2) ++ wsX50)
def wsX5_undo : List Cond := .code yX5_undo cX5_undo 1 (some .int) :: ([.fieldLink RX5 95 "WhisperRingModel" "undos" "I", .fieldLink RX5 23 "WhisperRingModel" "book" "[I", .fieldLink RX5 20 "WhisperRingModel" "st" "[I", .methodLink RX5 91 yX5_bring, .static yX5_bring, .initialized RX5, .code yX5_bring cX5_bring 6 none] ++ wsX50)
def wsX5_placesThat_r1 : List Cond := [Cond.fieldLink RX5 13 "WhisperRingModel" "places" "I", Cond.methodLink RX5 128 yX5_soundsOf, Cond.instanceMethod yX5_soundsOf, Cond.selects RX5 yX5_soundsOf yX5_soundsOf, Cond.initialized RX5, Cond.code yX5_soundsOf cX5_soundsOf 5 (some .int), Cond.fieldLink RX5 20 "WhisperRingModel" "st" "[I", Cond.methodLink RX5 115 yX5_strengthOf, Cond.instanceMethod yX5_strengthOf, Cond.selects RX5 yX5_strengthOf yX5_strengthOf, Cond.code yX5_strengthOf cX5_strengthOf 4 (some .int), Cond.fieldLink RX5 17 "WhisperRingModel" "loss" "I", Cond.methodLink RX5 112 yX5_lapsOf, Cond.instanceMethod yX5_lapsOf, Cond.selects RX5 yX5_lapsOf yX5_lapsOf, Cond.code yX5_lapsOf cX5_lapsOf 3 (some .int), Cond.methodLink RX5 105 yX5_ago, Cond.instanceMethod yX5_ago, Cond.selects RX5 yX5_ago yX5_ago, Cond.code yX5_ago cX5_ago 3 (some .int), Cond.methodLink RX5 118 yX5_placeOf, Cond.instanceMethod yX5_placeOf, Cond.selects RX5 yX5_placeOf yX5_placeOf, Cond.code yX5_placeOf cX5_placeOf 3 (some .int)]
def wsX5_placesThat_r2 : List Cond := [Cond.methodLink RX5 108 yX5_placeBy, Cond.instanceMethod yX5_placeBy, Cond.selects RX5 yX5_placeBy yX5_placeBy, Cond.code yX5_placeBy cX5_placeBy 5 (some .int), Cond.methodLink RX5 101 yX5_round, Cond.instanceMethod yX5_round, Cond.selects RX5 yX5_round yX5_round, Cond.code yX5_round cX5_round 2 (some .int), Cond.methodLink RX5 141 yX5_clearOf, Cond.instanceMethod yX5_clearOf, Cond.selects RX5 yX5_clearOf yX5_clearOf, Cond.code yX5_clearOf cX5_clearOf 6 (some .int), Cond.methodLink RX5 125 yX5_loudOf, Cond.instanceMethod yX5_loudOf, Cond.selects RX5 yX5_loudOf yX5_loudOf, Cond.code yX5_loudOf cX5_loudOf 5 (some .int), Cond.methodLink RX5 121 yX5_has, Cond.static yX5_has, Cond.code yX5_has cX5_has 2 (some .boolean)]
def wsX5_placesThat : List Cond := .code yX5_placesThat cX5_placesThat 5 (some .int) :: ((wsX5_placesThat_r1 ++ wsX5_placesThat_r2) ++ wsX50)
def wsX5_now_r1 : List Cond := [Cond.fieldLink RX5 20 "WhisperRingModel" "st" "[I", Cond.methodLink RX5 150 yX5_alive, Cond.instanceMethod yX5_alive, Cond.selects RX5 yX5_alive yX5_alive, Cond.initialized RX5, Cond.code yX5_alive cX5_alive 3 (some .int), Cond.methodLink RX5 115 yX5_strengthOf, Cond.instanceMethod yX5_strengthOf, Cond.selects RX5 yX5_strengthOf yX5_strengthOf, Cond.code yX5_strengthOf cX5_strengthOf 4 (some .int), Cond.fieldLink RX5 17 "WhisperRingModel" "loss" "I", Cond.methodLink RX5 112 yX5_lapsOf, Cond.instanceMethod yX5_lapsOf, Cond.selects RX5 yX5_lapsOf yX5_lapsOf, Cond.code yX5_lapsOf cX5_lapsOf 3 (some .int), Cond.fieldLink RX5 13 "WhisperRingModel" "places" "I", Cond.methodLink RX5 105 yX5_ago, Cond.instanceMethod yX5_ago, Cond.selects RX5 yX5_ago yX5_ago, Cond.code yX5_ago cX5_ago 3 (some .int), Cond.methodLink RX5 125 yX5_loudOf, Cond.instanceMethod yX5_loudOf, Cond.selects RX5 yX5_loudOf yX5_loudOf, Cond.code yX5_loudOf cX5_loudOf 5 (some .int)]
def wsX5_now_r2 : List Cond := [Cond.methodLink RX5 121 yX5_has, Cond.static yX5_has, Cond.code yX5_has cX5_has 2 (some .boolean), Cond.methodLink RX5 156 yX5_placesThat, Cond.instanceMethod yX5_placesThat, Cond.selects RX5 yX5_placesThat yX5_placesThat, Cond.code yX5_placesThat cX5_placesThat 5 (some .int), Cond.methodLink RX5 128 yX5_soundsOf, Cond.instanceMethod yX5_soundsOf, Cond.selects RX5 yX5_soundsOf yX5_soundsOf, Cond.code yX5_soundsOf cX5_soundsOf 5 (some .int), Cond.methodLink RX5 118 yX5_placeOf, Cond.instanceMethod yX5_placeOf, Cond.selects RX5 yX5_placeOf yX5_placeOf, Cond.code yX5_placeOf cX5_placeOf 3 (some .int), Cond.methodLink RX5 108 yX5_placeBy, Cond.instanceMethod yX5_placeBy, Cond.selects RX5 yX5_placeBy yX5_placeBy, Cond.code yX5_placeBy cX5_placeBy 5 (some .int), Cond.methodLink RX5 101 yX5_round, Cond.instanceMethod yX5_round, Cond.selects RX5 yX5_round yX5_round, Cond.code yX5_round cX5_round 2 (some .int), Cond.methodLink RX5 141 yX5_clearOf]
def wsX5_now_r3 : List Cond := [Cond.instanceMethod yX5_clearOf, Cond.selects RX5 yX5_clearOf yX5_clearOf, Cond.code yX5_clearOf cX5_clearOf 6 (some .int)]
def wsX5_now : List Cond := .code yX5_now cX5_now 2 (some .int) :: ((wsX5_now_r1 ++ (wsX5_now_r2 ++ wsX5_now_r3)) ++ wsX50)
def wsX5_when_r1 : List Cond := [Cond.methodLink RX5 131 yX5_isSaying, Cond.instanceMethod yX5_isSaying, Cond.selects RX5 yX5_isSaying yX5_isSaying, Cond.initialized RX5, Cond.code yX5_isSaying cX5_isSaying 2 (some .boolean), Cond.fieldLink RX5 20 "WhisperRingModel" "st" "[I", Cond.methodLink RX5 39 yX5_in, Cond.static yX5_in, Cond.code yX5_in cX5_in 3 (some .boolean), Cond.methodLink RX5 138 yX5_isPlace, Cond.instanceMethod yX5_isPlace, Cond.selects RX5 yX5_isPlace yX5_isPlace, Cond.code yX5_isPlace cX5_isPlace 2 (some .boolean), Cond.fieldLink RX5 13 "WhisperRingModel" "places" "I", Cond.methodLink RX5 115 yX5_strengthOf, Cond.instanceMethod yX5_strengthOf, Cond.selects RX5 yX5_strengthOf yX5_strengthOf, Cond.code yX5_strengthOf cX5_strengthOf 4 (some .int), Cond.fieldLink RX5 17 "WhisperRingModel" "loss" "I", Cond.methodLink RX5 112 yX5_lapsOf, Cond.instanceMethod yX5_lapsOf, Cond.selects RX5 yX5_lapsOf yX5_lapsOf, Cond.code yX5_lapsOf cX5_lapsOf 3 (some .int), Cond.methodLink RX5 105 yX5_ago]
def wsX5_when_r2 : List Cond := [Cond.instanceMethod yX5_ago, Cond.selects RX5 yX5_ago yX5_ago, Cond.code yX5_ago cX5_ago 3 (some .int), Cond.methodLink RX5 118 yX5_placeOf, Cond.instanceMethod yX5_placeOf, Cond.selects RX5 yX5_placeOf yX5_placeOf, Cond.code yX5_placeOf cX5_placeOf 3 (some .int), Cond.methodLink RX5 108 yX5_placeBy, Cond.instanceMethod yX5_placeBy, Cond.selects RX5 yX5_placeBy yX5_placeBy, Cond.code yX5_placeBy cX5_placeBy 5 (some .int), Cond.methodLink RX5 101 yX5_round, Cond.instanceMethod yX5_round, Cond.selects RX5 yX5_round yX5_round, Cond.code yX5_round cX5_round 2 (some .int)]
def wsX5_when : List Cond := .code yX5_when cX5_when 7 (some .int) :: ((wsX5_when_r1 ++ wsX5_when_r2) ++ wsX50)
def wsX5_meet_r1 : List Cond := [Cond.methodLink RX5 131 yX5_isSaying, Cond.instanceMethod yX5_isSaying, Cond.selects RX5 yX5_isSaying yX5_isSaying, Cond.initialized RX5, Cond.code yX5_isSaying cX5_isSaying 2 (some .boolean), Cond.fieldLink RX5 20 "WhisperRingModel" "st" "[I", Cond.methodLink RX5 39 yX5_in, Cond.static yX5_in, Cond.code yX5_in cX5_in 3 (some .boolean), Cond.methodLink RX5 115 yX5_strengthOf, Cond.instanceMethod yX5_strengthOf, Cond.selects RX5 yX5_strengthOf yX5_strengthOf, Cond.code yX5_strengthOf cX5_strengthOf 4 (some .int), Cond.fieldLink RX5 17 "WhisperRingModel" "loss" "I", Cond.methodLink RX5 112 yX5_lapsOf, Cond.instanceMethod yX5_lapsOf, Cond.selects RX5 yX5_lapsOf yX5_lapsOf, Cond.code yX5_lapsOf cX5_lapsOf 3 (some .int), Cond.fieldLink RX5 13 "WhisperRingModel" "places" "I", Cond.methodLink RX5 105 yX5_ago, Cond.instanceMethod yX5_ago, Cond.selects RX5 yX5_ago yX5_ago, Cond.code yX5_ago cX5_ago 3 (some .int), Cond.methodLink RX5 118 yX5_placeOf]
def wsX5_meet_r2 : List Cond := [Cond.instanceMethod yX5_placeOf, Cond.selects RX5 yX5_placeOf yX5_placeOf, Cond.code yX5_placeOf cX5_placeOf 3 (some .int), Cond.methodLink RX5 108 yX5_placeBy, Cond.instanceMethod yX5_placeBy, Cond.selects RX5 yX5_placeBy yX5_placeBy, Cond.code yX5_placeBy cX5_placeBy 5 (some .int), Cond.methodLink RX5 101 yX5_round, Cond.instanceMethod yX5_round, Cond.selects RX5 yX5_round yX5_round, Cond.code yX5_round cX5_round 2 (some .int)]
def wsX5_meet : List Cond := .code yX5_meet cX5_meet 4 (some .int) :: ((wsX5_meet_r1 ++ wsX5_meet_r2) ++ wsX50)
def wsX5_best_r1 : List Cond := [Cond.fieldLink RX5 13 "WhisperRingModel" "places" "I", Cond.fieldLink RX5 17 "WhisperRingModel" "loss" "I", Cond.methodLink RX5 138 yX5_isPlace, Cond.instanceMethod yX5_isPlace, Cond.selects RX5 yX5_isPlace yX5_isPlace, Cond.initialized RX5, Cond.code yX5_isPlace cX5_isPlace 2 (some .boolean), Cond.methodLink RX5 39 yX5_in, Cond.static yX5_in, Cond.code yX5_in cX5_in 3 (some .boolean), Cond.methodLink RX5 108 yX5_placeBy, Cond.instanceMethod yX5_placeBy, Cond.selects RX5 yX5_placeBy yX5_placeBy, Cond.code yX5_placeBy cX5_placeBy 5 (some .int), Cond.methodLink RX5 101 yX5_round, Cond.instanceMethod yX5_round, Cond.selects RX5 yX5_round yX5_round, Cond.code yX5_round cX5_round 2 (some .int), Cond.methodLink RX5 128 yX5_soundsOf, Cond.instanceMethod yX5_soundsOf, Cond.selects RX5 yX5_soundsOf yX5_soundsOf, Cond.code yX5_soundsOf cX5_soundsOf 5 (some .int), Cond.fieldLink RX5 20 "WhisperRingModel" "st" "[I", Cond.methodLink RX5 115 yX5_strengthOf]
def wsX5_best_r2 : List Cond := [Cond.instanceMethod yX5_strengthOf, Cond.selects RX5 yX5_strengthOf yX5_strengthOf, Cond.code yX5_strengthOf cX5_strengthOf 4 (some .int), Cond.methodLink RX5 112 yX5_lapsOf, Cond.instanceMethod yX5_lapsOf, Cond.selects RX5 yX5_lapsOf yX5_lapsOf, Cond.code yX5_lapsOf cX5_lapsOf 3 (some .int), Cond.methodLink RX5 105 yX5_ago, Cond.instanceMethod yX5_ago, Cond.selects RX5 yX5_ago yX5_ago, Cond.code yX5_ago cX5_ago 3 (some .int), Cond.methodLink RX5 118 yX5_placeOf, Cond.instanceMethod yX5_placeOf, Cond.selects RX5 yX5_placeOf yX5_placeOf, Cond.code yX5_placeOf cX5_placeOf 3 (some .int), Cond.methodLink RX5 125 yX5_loudOf, Cond.instanceMethod yX5_loudOf, Cond.selects RX5 yX5_loudOf yX5_loudOf, Cond.code yX5_loudOf cX5_loudOf 5 (some .int), Cond.methodLink RX5 121 yX5_has, Cond.static yX5_has, Cond.code yX5_has cX5_has 2 (some .boolean)]
def wsX5_best : List Cond := .code yX5_best cX5_best 9 (some .int) :: ((wsX5_best_r1 ++ wsX5_best_r2) ++ wsX50)
def wsX5_stills_r1 : List Cond := [Cond.methodLink RX5 131 yX5_isSaying, Cond.instanceMethod yX5_isSaying, Cond.selects RX5 yX5_isSaying yX5_isSaying, Cond.initialized RX5, Cond.code yX5_isSaying cX5_isSaying 2 (some .boolean), Cond.fieldLink RX5 20 "WhisperRingModel" "st" "[I", Cond.methodLink RX5 39 yX5_in, Cond.static yX5_in, Cond.code yX5_in cX5_in 3 (some .boolean), Cond.methodLink RX5 115 yX5_strengthOf, Cond.instanceMethod yX5_strengthOf, Cond.selects RX5 yX5_strengthOf yX5_strengthOf, Cond.code yX5_strengthOf cX5_strengthOf 4 (some .int), Cond.fieldLink RX5 17 "WhisperRingModel" "loss" "I", Cond.methodLink RX5 112 yX5_lapsOf, Cond.instanceMethod yX5_lapsOf, Cond.selects RX5 yX5_lapsOf yX5_lapsOf, Cond.code yX5_lapsOf cX5_lapsOf 3 (some .int), Cond.fieldLink RX5 13 "WhisperRingModel" "places" "I", Cond.methodLink RX5 105 yX5_ago, Cond.instanceMethod yX5_ago, Cond.selects RX5 yX5_ago yX5_ago, Cond.code yX5_ago cX5_ago 3 (some .int), Cond.methodLink RX5 118 yX5_placeOf]
def wsX5_stills_r2 : List Cond := [Cond.instanceMethod yX5_placeOf, Cond.selects RX5 yX5_placeOf yX5_placeOf, Cond.code yX5_placeOf cX5_placeOf 3 (some .int), Cond.methodLink RX5 108 yX5_placeBy, Cond.instanceMethod yX5_placeBy, Cond.selects RX5 yX5_placeBy yX5_placeBy, Cond.code yX5_placeBy cX5_placeBy 5 (some .int), Cond.methodLink RX5 101 yX5_round, Cond.instanceMethod yX5_round, Cond.selects RX5 yX5_round yX5_round, Cond.code yX5_round cX5_round 2 (some .int), Cond.methodLink RX5 128 yX5_soundsOf, Cond.instanceMethod yX5_soundsOf, Cond.selects RX5 yX5_soundsOf yX5_soundsOf, Cond.code yX5_soundsOf cX5_soundsOf 5 (some .int), Cond.methodLink RX5 153 yX5_bits, Cond.static yX5_bits, Cond.code yX5_bits cX5_bits 3 (some .int), Cond.methodLink RX5 125 yX5_loudOf, Cond.instanceMethod yX5_loudOf, Cond.selects RX5 yX5_loudOf yX5_loudOf, Cond.code yX5_loudOf cX5_loudOf 5 (some .int), Cond.methodLink RX5 121 yX5_has, Cond.static yX5_has]
def wsX5_stills_r3 : List Cond := [Cond.code yX5_has cX5_has 2 (some .boolean)]
def wsX5_stills : List Cond := .code yX5_stills cX5_stills 7 (some .int) :: ((wsX5_stills_r1 ++ (wsX5_stills_r2 ++ wsX5_stills_r3)) ++ wsX50)
def wsX5_divisor : List Cond := .code yX5_divisor cX5_divisor 5 (some .int) :: ([])
def wsX5_odds_r1 : List Cond := [Cond.fieldLink RX5 17 "WhisperRingModel" "loss" "I", Cond.methodLink RX5 131 yX5_isSaying, Cond.instanceMethod yX5_isSaying, Cond.selects RX5 yX5_isSaying yX5_isSaying, Cond.initialized RX5, Cond.code yX5_isSaying cX5_isSaying 2 (some .boolean), Cond.fieldLink RX5 20 "WhisperRingModel" "st" "[I", Cond.methodLink RX5 39 yX5_in, Cond.static yX5_in, Cond.code yX5_in cX5_in 3 (some .boolean), Cond.methodLink RX5 115 yX5_strengthOf, Cond.instanceMethod yX5_strengthOf, Cond.selects RX5 yX5_strengthOf yX5_strengthOf, Cond.code yX5_strengthOf cX5_strengthOf 4 (some .int), Cond.methodLink RX5 112 yX5_lapsOf, Cond.instanceMethod yX5_lapsOf, Cond.selects RX5 yX5_lapsOf yX5_lapsOf, Cond.code yX5_lapsOf cX5_lapsOf 3 (some .int), Cond.fieldLink RX5 13 "WhisperRingModel" "places" "I", Cond.methodLink RX5 105 yX5_ago, Cond.instanceMethod yX5_ago, Cond.selects RX5 yX5_ago yX5_ago, Cond.code yX5_ago cX5_ago 3 (some .int), Cond.methodLink RX5 121 yX5_has]
def wsX5_odds_r2 : List Cond := [Cond.static yX5_has, Cond.code yX5_has cX5_has 2 (some .boolean), Cond.methodLink RX5 153 yX5_bits, Cond.static yX5_bits, Cond.code yX5_bits cX5_bits 3 (some .int), Cond.methodLink RX5 160 yX5_divisor, Cond.static yX5_divisor, Cond.code yX5_divisor cX5_divisor 5 (some .int)]
def wsX5_odds : List Cond := .code yX5_odds cX5_odds 11 (some .int) :: ((wsX5_odds_r1 ++ wsX5_odds_r2) ++ wsX50)
def wsX5_hears : List Cond := .code yX5_hears cX5_hears 4 (some .int) :: ([.fieldLink RX5 98 "WhisperRingModel" "heardMany" "I", .fieldLink RX5 33 "WhisperRingModel" "heard" "[I", .methodLink RX5 138 yX5_isPlace, .instanceMethod yX5_isPlace, .selects RX5 yX5_isPlace yX5_isPlace, .initialized RX5, .code yX5_isPlace cX5_isPlace 2 (some .boolean), .fieldLink RX5 13 "WhisperRingModel" "places" "I", .methodLink RX5 39 yX5_in, .static yX5_in, .code yX5_in cX5_in 3 (some .boolean)] ++ wsX50)
def wsX5_forget : List Cond := .code yX5_forget cX5_forget 2 (some .int) :: ([.fieldLink RX5 98 "WhisperRingModel" "heardMany" "I"] ++ wsX50)
def wsX5_guessAt : List Cond := .code yX5_guessAt cX5_guessAt 3 (some .int) :: ([.methodLink RX5 108 yX5_placeBy, .instanceMethod yX5_placeBy, .selects RX5 yX5_placeBy yX5_placeBy, .initialized RX5, .code yX5_placeBy cX5_placeBy 5 (some .int), .methodLink RX5 101 yX5_round, .instanceMethod yX5_round, .selects RX5 yX5_round yX5_round, .code yX5_round cX5_round 2 (some .int), .fieldLink RX5 13 "WhisperRingModel" "places" "I"] ++ wsX50)
def wsX5_fits : List Cond := .code yX5_fits cX5_fits 4 (some .boolean) :: ([.fieldLink RX5 98 "WhisperRingModel" "heardMany" "I", .fieldLink RX5 33 "WhisperRingModel" "heard" "[I", .methodLink RX5 163 yX5_guessAt, .instanceMethod yX5_guessAt, .selects RX5 yX5_guessAt yX5_guessAt, .initialized RX5, .code yX5_guessAt cX5_guessAt 3 (some .int), .methodLink RX5 108 yX5_placeBy, .instanceMethod yX5_placeBy, .selects RX5 yX5_placeBy yX5_placeBy, .code yX5_placeBy cX5_placeBy 5 (some .int), .methodLink RX5 101 yX5_round, .instanceMethod yX5_round, .selects RX5 yX5_round yX5_round, .code yX5_round cX5_round 2 (some .int), .fieldLink RX5 13 "WhisperRingModel" "places" "I"] ++ wsX50)
def wsX5_guesses : List Cond := .code yX5_guesses cX5_guesses 5 (some .int) :: ([.fieldLink RX5 13 "WhisperRingModel" "places" "I", .methodLink RX5 39 yX5_in, .static yX5_in, .initialized RX5, .code yX5_in cX5_in 3 (some .boolean), .methodLink RX5 166 yX5_fits, .instanceMethod yX5_fits, .selects RX5 yX5_fits yX5_fits, .code yX5_fits cX5_fits 4 (some .boolean), .fieldLink RX5 98 "WhisperRingModel" "heardMany" "I", .fieldLink RX5 33 "WhisperRingModel" "heard" "[I", .methodLink RX5 163 yX5_guessAt, .instanceMethod yX5_guessAt, .selects RX5 yX5_guessAt yX5_guessAt, .code yX5_guessAt cX5_guessAt 3 (some .int), .methodLink RX5 108 yX5_placeBy, .instanceMethod yX5_placeBy, .selects RX5 yX5_placeBy yX5_placeBy, .code yX5_placeBy cX5_placeBy 5 (some .int), .methodLink RX5 101 yX5_round, .instanceMethod yX5_round, .selects RX5 yX5_round yX5_round, .code yX5_round cX5_round 2 (some .int)] ++ wsX50)
def wsX5_ask_r1 : List Cond := [Cond.fieldLink RX5 13 "WhisperRingModel" "places" "I", Cond.methodLink RX5 39 yX5_in, Cond.static yX5_in, Cond.initialized RX5, Cond.code yX5_in cX5_in 3 (some .boolean), Cond.methodLink RX5 169 yX5_guesses, Cond.instanceMethod yX5_guesses, Cond.selects RX5 yX5_guesses yX5_guesses, Cond.code yX5_guesses cX5_guesses 5 (some .int), Cond.methodLink RX5 166 yX5_fits, Cond.instanceMethod yX5_fits, Cond.selects RX5 yX5_fits yX5_fits, Cond.code yX5_fits cX5_fits 4 (some .boolean), Cond.fieldLink RX5 98 "WhisperRingModel" "heardMany" "I", Cond.fieldLink RX5 33 "WhisperRingModel" "heard" "[I", Cond.methodLink RX5 163 yX5_guessAt, Cond.instanceMethod yX5_guessAt, Cond.selects RX5 yX5_guessAt yX5_guessAt, Cond.code yX5_guessAt cX5_guessAt 3 (some .int), Cond.methodLink RX5 108 yX5_placeBy, Cond.instanceMethod yX5_placeBy, Cond.selects RX5 yX5_placeBy yX5_placeBy, Cond.code yX5_placeBy cX5_placeBy 5 (some .int), Cond.methodLink RX5 101 yX5_round]
def wsX5_ask_r2 : List Cond := [Cond.instanceMethod yX5_round, Cond.selects RX5 yX5_round yX5_round, Cond.code yX5_round cX5_round 2 (some .int)]
def wsX5_ask : List Cond := .code yX5_ask cX5_ask 8 (some .int) :: ((wsX5_ask_r1 ++ wsX5_ask_r2) ++ wsX50)
def wsX5_mark_r1 : List Cond := [Cond.constant RX5 172 (-1000000), Cond.fieldLink RX5 20 "WhisperRingModel" "st" "[I", Cond.fieldLink RX5 173 "WhisperRingModel" "trail" "J", Cond.constantLong RX5 177 (10), Cond.constantLong RX5 179 (100), Cond.constantLong RX5 181 (1010), Cond.constantLong RX5 183 (10100), Cond.constantLong RX5 185 (100000), Cond.methodLink RX5 39 yX5_in, Cond.static yX5_in, Cond.initialized RX5, Cond.code yX5_in cX5_in 3 (some .boolean), Cond.methodLink RX5 131 yX5_isSaying, Cond.instanceMethod yX5_isSaying, Cond.selects RX5 yX5_isSaying yX5_isSaying, Cond.code yX5_isSaying cX5_isSaying 2 (some .boolean), Cond.methodLink RX5 115 yX5_strengthOf, Cond.instanceMethod yX5_strengthOf, Cond.selects RX5 yX5_strengthOf yX5_strengthOf, Cond.code yX5_strengthOf cX5_strengthOf 4 (some .int), Cond.fieldLink RX5 17 "WhisperRingModel" "loss" "I", Cond.methodLink RX5 112 yX5_lapsOf, Cond.instanceMethod yX5_lapsOf, Cond.selects RX5 yX5_lapsOf yX5_lapsOf]
def wsX5_mark_r2 : List Cond := [Cond.code yX5_lapsOf cX5_lapsOf 3 (some .int), Cond.fieldLink RX5 13 "WhisperRingModel" "places" "I", Cond.methodLink RX5 105 yX5_ago, Cond.instanceMethod yX5_ago, Cond.selects RX5 yX5_ago yX5_ago, Cond.code yX5_ago cX5_ago 3 (some .int), Cond.methodLink RX5 118 yX5_placeOf, Cond.instanceMethod yX5_placeOf, Cond.selects RX5 yX5_placeOf yX5_placeOf, Cond.code yX5_placeOf cX5_placeOf 3 (some .int), Cond.methodLink RX5 108 yX5_placeBy, Cond.instanceMethod yX5_placeBy, Cond.selects RX5 yX5_placeBy yX5_placeBy, Cond.code yX5_placeBy cX5_placeBy 5 (some .int), Cond.methodLink RX5 101 yX5_round, Cond.instanceMethod yX5_round, Cond.selects RX5 yX5_round yX5_round, Cond.code yX5_round cX5_round 2 (some .int)]
def wsX5_mark : List Cond := .code yX5_mark cX5_mark 4 (some .int) :: ((wsX5_mark_r1 ++ wsX5_mark_r2) ++ wsX50)
def wsX5_keep : List Cond := .code yX5_keep cX5_keep 3 (some .int) :: ([.fieldLink RX5 29 "WhisperRingModel" "isKept" "[Z", .fieldLink RX5 26 "WhisperRingModel" "images" "[I", .fieldLink RX5 95 "WhisperRingModel" "undos" "I", .fieldLink RX5 20 "WhisperRingModel" "st" "[I", .fieldLink RX5 23 "WhisperRingModel" "book" "[I", .methodLink RX5 39 yX5_in, .static yX5_in, .initialized RX5, .code yX5_in cX5_in 3 (some .boolean), .methodLink RX5 91 yX5_bring, .static yX5_bring, .code yX5_bring cX5_bring 6 none] ++ wsX50)
def wsX5_back : List Cond := .code yX5_back cX5_back 3 (some .int) :: ([.fieldLink RX5 29 "WhisperRingModel" "isKept" "[Z", .fieldLink RX5 26 "WhisperRingModel" "images" "[I", .fieldLink RX5 95 "WhisperRingModel" "undos" "I", .fieldLink RX5 20 "WhisperRingModel" "st" "[I", .fieldLink RX5 23 "WhisperRingModel" "book" "[I", .methodLink RX5 39 yX5_in, .static yX5_in, .initialized RX5, .code yX5_in cX5_in 3 (some .boolean), .methodLink RX5 91 yX5_bring, .static yX5_bring, .code yX5_bring cX5_bring 6 none] ++ wsX50)
def wsX5_count : List Cond := .code yX5_count cX5_count 2 (some .int) :: ([.fieldLink RX5 13 "WhisperRingModel" "places" "I", .fieldLink RX5 20 "WhisperRingModel" "st" "[I", .fieldLink RX5 17 "WhisperRingModel" "loss" "I", .fieldLink RX5 88 "WhisperRingModel" "niches" "I", .fieldLink RX5 98 "WhisperRingModel" "heardMany" "I", .fieldLink RX5 95 "WhisperRingModel" "undos" "I", .fieldLink RX5 43 "WhisperRingModel" "length" "I", .methodLink RX5 153 yX5_bits, .static yX5_bits, .initialized RX5, .code yX5_bits cX5_bits 3 (some .int)] ++ wsX50)
def wsX5_trace : List Cond := .code yX5_trace cX5_trace 1 (some .long) :: ([.fieldLink RX5 173 "WhisperRingModel" "trail" "J"] ++ wsX50)
def wsJ9_max_7cf53 : List Cond := .code yJ9_max_7cf53 cJ9_max_7cf53 2 (some .int) :: ([])
def wsL_law_r1 : List Cond := [Cond.classLink RL 7 RX4, Cond.instantiable RX4 8, Cond.initialized RX4, Cond.classLink RL 10 RX5, Cond.instantiable RX5 21, Cond.initialized RX5, Cond.methodLink RL 9 yX4_init, Cond.instanceMethod yX4_init, Cond.code yX4_init cX4_init 2 none, Cond.methodLink RX4 3 objectInit, Cond.instanceMethod objectInit, Cond.code objectInit ⟨#[0xb1]⟩ 1 none, Cond.classLink RX4 9 RX3, Cond.instantiable RX3 7, Cond.initialized RX3, Cond.fieldLink RX4 12 "WhisperRing" "script" "LWhisperRing$Script;", Cond.classLink RX4 16 RX1, Cond.instantiable RX1 4, Cond.initialized RX1, Cond.fieldLink RX4 19 "WhisperRing" "hearsay" "LWhisperRing$Hearsay;", Cond.classLink RX4 23 RX2, Cond.fieldLink RX4 25 "WhisperRing" "images" "[LWhisperRing$Moment;", Cond.instantiable RX2 10, Cond.initialized RX2]
def wsL_law_r2 : List Cond := [Cond.arrayClass .boolean, Cond.fieldLink RX4 30 "WhisperRing" "kept" "[Z", Cond.arrayClass .int, Cond.fieldLink RX4 34 "WhisperRing" "guessesAt" "[I", Cond.classLink RX4 38 RX0, Cond.instantiable RX0 6, Cond.initialized RX0, Cond.fieldLink RX4 41 "WhisperRing" "hall" "LWhisperRing$Hall;", Cond.fieldLink RX4 45 "WhisperRing" "draft" "LWhisperRing$Hall;", Cond.instanceMethod yX3_init, Cond.code yX3_init cX3_init 1 none, Cond.methodLink RX3 3 objectInit, Cond.fieldLink RX3 9 "WhisperRing$Script" "bytes" "[I", Cond.instanceMethod yX1_init, Cond.code yX1_init cX1_init 1 none, Cond.methodLink RX1 3 objectInit, Cond.fieldLink RX1 9 "WhisperRing$Hearsay" "at" "[I", Cond.fieldLink RX1 15 "WhisperRing$Hearsay" "behind" "[I", Cond.fieldLink RX1 18 "WhisperRing$Hearsay" "there" "[I", Cond.instanceMethod yX2_init, Cond.code yX2_init cX2_init 1 none, Cond.methodLink RX2 3 objectInit, Cond.fieldLink RX2 9 "WhisperRing$Moment" "from" "[I", Cond.fieldLink RX2 15 "WhisperRing$Moment" "speed" "[I"]
def wsL_law_r3 : List Cond := [Cond.fieldLink RX2 18 "WhisperRing$Moment" "way" "[I", Cond.fieldLink RX2 21 "WhisperRing$Moment" "loud" "[I", Cond.fieldLink RX2 24 "WhisperRing$Moment" "saidAt" "[I", Cond.fieldLink RX2 27 "WhisperRing$Moment" "deeds" "[I", Cond.instanceMethod yX0_init, Cond.code yX0_init cX0_init 1 none, Cond.methodLink RX0 3 objectInit, Cond.fieldLink RX0 9 "WhisperRing$Hall" "places" "I", Cond.fieldLink RX0 15 "WhisperRing$Hall" "loss" "I", Cond.classLink RX0 18 RX2, Cond.fieldLink RX0 21 "WhisperRing$Hall" "now" "LWhisperRing$Moment;", Cond.fieldLink RX0 25 "WhisperRing$Hall" "at" "[I", Cond.fieldLink RX0 29 "WhisperRing$Hall" "strength" "[I", Cond.methodLink RL 12 yX5_init, Cond.instanceMethod yX5_init, Cond.code yX5_init cX5_init 1 none, Cond.methodLink RX5 1 objectInit, Cond.fieldLink RX5 7 "WhisperRingModel" "text" "[I", Cond.fieldLink RX5 13 "WhisperRingModel" "places" "I", Cond.fieldLink RX5 17 "WhisperRingModel" "loss" "I", Cond.fieldLink RX5 20 "WhisperRingModel" "st" "[I", Cond.fieldLink RX5 23 "WhisperRingModel" "book" "[I", Cond.fieldLink RX5 26 "WhisperRingModel" "images" "[I", Cond.fieldLink RX5 29 "WhisperRingModel" "isKept" "[Z"]
def wsL_law_r4 : List Cond := [Cond.fieldLink RX5 33 "WhisperRingModel" "heard" "[I", Cond.fieldLink RX5 36 "WhisperRingModel" "read" "[I", Cond.methodLink RL 13 yX4_type, Cond.instanceMethod yX4_type, Cond.selects RX4 yX4_type yX4_type, Cond.code yX4_type cX4_type 2 (some .int), Cond.fieldLink RX4 56 "WhisperRing$Script" "size" "I", Cond.methodLink RX4 48 yX4_within, Cond.static yX4_within, Cond.code yX4_within cX4_within 3 (some .boolean), Cond.methodLink RX4 52 yX3_append, Cond.instanceMethod yX3_append, Cond.selects RX3 yX3_append yX3_append, Cond.code yX3_append cX3_append 2 (some .boolean), Cond.fieldLink RX3 15 "WhisperRing$Script" "size" "I", Cond.methodLink RL 17 yX5_type, Cond.instanceMethod yX5_type, Cond.selects RX5 yX5_type yX5_type, Cond.code yX5_type cX5_type 2 (some .int), Cond.fieldLink RX5 43 "WhisperRingModel" "length" "I", Cond.methodLink RX5 39 yX5_in, Cond.static yX5_in, Cond.code yX5_in cX5_in 3 (some .boolean), Cond.methodLink RL 18 yX4_clear]
def wsL_law_r5 : List Cond := [Cond.instanceMethod yX4_clear, Cond.selects RX4 yX4_clear yX4_clear, Cond.code yX4_clear cX4_clear 2 (some .int), Cond.methodLink RL 22 yX5_clear, Cond.instanceMethod yX5_clear, Cond.selects RX5 yX5_clear yX5_clear, Cond.code yX5_clear cX5_clear 2 (some .int), Cond.methodLink RL 23 yX4_gallery, Cond.instanceMethod yX4_gallery, Cond.selects RX4 yX4_gallery yX4_gallery, Cond.code yX4_gallery cX4_gallery 4 (some .int), Cond.fieldLink RX4 64 "WhisperRing$Hearsay" "size" "I", Cond.methodLink RX4 60 yX3_readInto, Cond.instanceMethod yX3_readInto, Cond.selects RX3 yX3_readInto yX3_readInto, Cond.code yX3_readInto cX3_readInto 3 (some .int), Cond.fieldLink RX3 24 "WhisperRing$Script" "lossTold" "Z", Cond.fieldLink RX3 28 "WhisperRing$Script" "next" "I", Cond.fieldLink RX3 34 "WhisperRing$Script" "token" "I", Cond.fieldLink RX3 41 "WhisperRing$Script" "tokenAt" "I", Cond.methodLink RX3 19 yX0_empty, Cond.instanceMethod yX0_empty, Cond.selects RX0 yX0_empty yX0_empty, Cond.code yX0_empty cX0_empty 1 none]
def wsL_law_r6 : List Cond := [Cond.fieldLink RX0 32 "WhisperRing$Hall" "niches" "I", Cond.methodLink RX0 35 yX2_empty, Cond.instanceMethod yX2_empty, Cond.selects RX2 yX2_empty yX2_empty, Cond.code yX2_empty cX2_empty 1 none, Cond.fieldLink RX2 30 "WhisperRing$Moment" "tick" "I", Cond.fieldLink RX2 34 "WhisperRing$Moment" "sayings" "I", Cond.fieldLink RX2 37 "WhisperRing$Moment" "hushed" "I", Cond.fieldLink RX2 40 "WhisperRing$Moment" "noted" "I", Cond.methodLink RX3 31 yX3_step, Cond.instanceMethod yX3_step, Cond.selects RX3 yX3_step yX3_step, Cond.code yX3_step cX3_step 1 none, Cond.fieldLink RX3 44 "WhisperRing$Script" "value" "I", Cond.methodLink RX3 94 yX3_tokenOf, Cond.static yX3_tokenOf, Cond.code yX3_tokenOf cX3_tokenOf 1 (some .int), Cond.methodLink RX3 98 yX3_weigh, Cond.instanceMethod yX3_weigh, Cond.selects RX3 yX3_weigh yX3_weigh, Cond.code yX3_weigh cX3_weigh 3 none, Cond.methodLink RX3 37 yX3_readItem, Cond.instanceMethod yX3_readItem, Cond.selects RX3 yX3_readItem yX3_readItem]
def wsL_law_r7 : List Cond := [Cond.code yX3_readItem cX3_readItem 3 (some .boolean), Cond.fieldLink RX3 57 "WhisperRing$Hall" "now" "LWhisperRing$Moment;", Cond.fieldLink RX3 61 "WhisperRing$Moment" "sayings" "I", Cond.methodLink RX3 47 yX3_readPlaces, Cond.instanceMethod yX3_readPlaces, Cond.selects RX3 yX3_readPlaces yX3_readPlaces, Cond.code yX3_readPlaces cX3_readPlaces 2 (some .boolean), Cond.fieldLink RX3 73 "WhisperRing$Hall" "places" "I", Cond.methodLink RX3 69 yX3_readNumber, Cond.instanceMethod yX3_readNumber, Cond.selects RX3 yX3_readNumber yX3_readNumber, Cond.code yX3_readNumber cX3_readNumber 3 (some .boolean), Cond.methodLink RX3 76 yX3_readStop, Cond.instanceMethod yX3_readStop, Cond.selects RX3 yX3_readStop yX3_readStop, Cond.code yX3_readStop cX3_readStop 1 (some .boolean), Cond.methodLink RX3 51 yX3_readLoss, Cond.instanceMethod yX3_readLoss, Cond.selects RX3 yX3_readLoss yX3_readLoss, Cond.code yX3_readLoss cX3_readLoss 2 (some .boolean), Cond.fieldLink RX3 80 "WhisperRing$Hall" "loss" "I", Cond.methodLink RX3 54 yX3_readNiche, Cond.instanceMethod yX3_readNiche, Cond.selects RX3 yX3_readNiche yX3_readNiche]
def wsL_law_r8 : List Cond := [Cond.code yX3_readNiche cX3_readNiche 2 (some .boolean), Cond.fieldLink RX3 83 "WhisperRing$Hall" "niches" "I", Cond.methodLink RX3 66 yX3_readSaying, Cond.instanceMethod yX3_readSaying, Cond.selects RX3 yX3_readSaying yX3_readSaying, Cond.code yX3_readSaying cX3_readSaying 5 (some .boolean), Cond.methodLink RX3 86 yX2_add, Cond.instanceMethod yX2_add, Cond.selects RX2 yX2_add yX2_add, Cond.code yX2_add cX2_add 5 (some .boolean), Cond.methodLink RL 26 yX5_gallery, Cond.instanceMethod yX5_gallery, Cond.selects RX5 yX5_gallery yX5_gallery, Cond.code yX5_gallery cX5_gallery 2 (some .int), Cond.fieldLink RX5 46 "WhisperRingModel" "at" "I", Cond.fieldLink RX5 53 "WhisperRingModel" "wrong" "I", Cond.fieldLink RX5 59 "WhisperRingModel" "items" "I", Cond.fieldLink RX5 62 "WhisperRingModel" "readPlaces" "I", Cond.fieldLink RX5 76 "WhisperRingModel" "readLoss" "I", Cond.fieldLink RX5 72 "WhisperRingModel" "saidLoss" "Z", Cond.fieldLink RX5 79 "WhisperRingModel" "readNiches" "I", Cond.fieldLink RX5 88 "WhisperRingModel" "niches" "I", Cond.fieldLink RX5 95 "WhisperRingModel" "undos" "I", Cond.fieldLink RX5 98 "WhisperRingModel" "heardMany" "I"]
def wsL_law_r9 : List Cond := [Cond.methodLink RX5 56 yX5_skips, Cond.instanceMethod yX5_skips, Cond.selects RX5 yX5_skips yX5_skips, Cond.code yX5_skips cX5_skips 1 none, Cond.methodLink RX5 49 yX5_here, Cond.instanceMethod yX5_here, Cond.selects RX5 yX5_here yX5_here, Cond.code yX5_here cX5_here 1 (some .int), Cond.methodLink RX5 85 yX5_readItem, Cond.instanceMethod yX5_readItem, Cond.selects RX5 yX5_readItem yX5_readItem, Cond.code yX5_readItem cX5_readItem 4 none, Cond.methodLink RX5 65 yX5_number, Cond.instanceMethod yX5_number, Cond.selects RX5 yX5_number yX5_number, Cond.code yX5_number cX5_number 6 (some .int), Cond.methodLink RX5 69 yX5_ends, Cond.instanceMethod yX5_ends, Cond.selects RX5 yX5_ends yX5_ends, Cond.code yX5_ends cX5_ends 1 none, Cond.methodLink RX5 82 yX5_readSaying, Cond.instanceMethod yX5_readSaying, Cond.selects RX5 yX5_readSaying yX5_readSaying, Cond.code yX5_readSaying cX5_readSaying 2 none]
def wsL_law_r10 : List Cond := [Cond.methodLink RX5 91 yX5_bring, Cond.static yX5_bring, Cond.code yX5_bring cX5_bring 6 none, Cond.methodLink RL 27 yX4_saying, Cond.instanceMethod yX4_saying, Cond.selects RX4 yX4_saying yX4_saying, Cond.code yX4_saying cX4_saying 4 (some .int), Cond.fieldLink RX4 68 "WhisperRing$Hall" "now" "LWhisperRing$Moment;", Cond.fieldLink RX4 72 "WhisperRing$Moment" "from" "[I", Cond.fieldLink RX4 75 "WhisperRing$Moment" "speed" "[I", Cond.fieldLink RX4 78 "WhisperRing$Moment" "way" "[I", Cond.fieldLink RX4 81 "WhisperRing$Moment" "loud" "[I", Cond.methodLink RX4 65 yX0_hasSaying, Cond.instanceMethod yX0_hasSaying, Cond.selects RX0 yX0_hasSaying yX0_hasSaying, Cond.code yX0_hasSaying cX0_hasSaying 2 (some .boolean), Cond.fieldLink RX0 42 "WhisperRing$Moment" "sayings" "I", Cond.methodLink RX4 84 yX0_placeAfter, Cond.instanceMethod yX0_placeAfter, Cond.selects RX0 yX0_placeAfter yX0_placeAfter, Cond.code yX0_placeAfter cX0_placeAfter 3 (some .int), Cond.fieldLink RX0 67 "WhisperRing$Moment" "from" "[I", Cond.fieldLink RX0 70 "WhisperRing$Moment" "way" "[I", Cond.methodLink RX0 73 yX0_goneAfter]
def wsL_law_r11 : List Cond := [Cond.instanceMethod yX0_goneAfter, Cond.selects RX0 yX0_goneAfter yX0_goneAfter, Cond.code yX0_goneAfter cX0_goneAfter 3 (some .int), Cond.fieldLink RX0 58 "WhisperRing$Moment" "speed" "[I", Cond.fieldLink RX0 61 "WhisperRing$Moment" "tick" "I", Cond.fieldLink RX0 64 "WhisperRing$Moment" "saidAt" "[I", Cond.methodLink RX0 76 yX0_reach, Cond.instanceMethod yX0_reach, Cond.selects RX0 yX0_reach yX0_reach, Cond.code yX0_reach cX0_reach 5 (some .int), Cond.methodLink RX0 45 yJ9_floorMod_7cf53, Cond.static yJ9_floorMod_7cf53, Cond.initialized RJ9, Cond.code yJ9_floorMod_7cf53 cJ9_floorMod_7cf53 3 (some .int), Cond.methodLink RX4 88 yX0_lapsAfter, Cond.instanceMethod yX0_lapsAfter, Cond.selects RX0 yX0_lapsAfter yX0_lapsAfter, Cond.code yX0_lapsAfter cX0_lapsAfter 3 (some .int), Cond.methodLink RX0 51 yX0_lapsOf, Cond.instanceMethod yX0_lapsOf, Cond.selects RX0 yX0_lapsOf yX0_lapsOf, Cond.code yX0_lapsOf cX0_lapsOf 2 (some .int), Cond.methodLink RX4 91 yX0_strengthAfter, Cond.instanceMethod yX0_strengthAfter]
def wsL_law_r12 : List Cond := [Cond.selects RX0 yX0_strengthAfter yX0_strengthAfter, Cond.code yX0_strengthAfter cX0_strengthAfter 3 (some .int), Cond.fieldLink RX0 84 "WhisperRing$Moment" "loud" "[I", Cond.methodLink RX0 80 yX2_isHushed, Cond.instanceMethod yX2_isHushed, Cond.selects RX2 yX2_isHushed yX2_isHushed, Cond.code yX2_isHushed cX2_isHushed 2 (some .boolean), Cond.methodLink RX0 87 yX0_strengthLeft, Cond.instanceMethod yX0_strengthLeft, Cond.selects RX0 yX0_strengthLeft yX0_strengthLeft, Cond.code yX0_strengthLeft cX0_strengthLeft 3 (some .int), Cond.methodLink RX0 55 Lib.Math.max.name, Cond.static Lib.Math.max.name, Cond.initialized "java/lang/Math", Cond.code Lib.Math.max.name Lib.Math.max.code 2 (some .int), Cond.methodLink RX4 94 yX2_isHushed, Cond.methodLink RX4 97 yX0_lastOf, Cond.instanceMethod yX0_lastOf, Cond.selects RX0 yX0_lastOf yX0_lastOf, Cond.code yX0_lastOf cX0_lastOf 3 (some .int), Cond.methodLink RX0 93 yX0_strengthAfter, Cond.methodLink RL 31 yX5_saying, Cond.instanceMethod yX5_saying, Cond.selects RX5 yX5_saying yX5_saying]
def wsL_law_r13 : List Cond := [Cond.code yX5_saying cX5_saying 3 (some .int), Cond.methodLink RX5 131 yX5_isSaying, Cond.instanceMethod yX5_isSaying, Cond.selects RX5 yX5_isSaying yX5_isSaying, Cond.code yX5_isSaying cX5_isSaying 2 (some .boolean), Cond.methodLink RX5 118 yX5_placeOf, Cond.instanceMethod yX5_placeOf, Cond.selects RX5 yX5_placeOf yX5_placeOf, Cond.code yX5_placeOf cX5_placeOf 3 (some .int), Cond.methodLink RX5 105 yX5_ago, Cond.instanceMethod yX5_ago, Cond.selects RX5 yX5_ago yX5_ago, Cond.code yX5_ago cX5_ago 3 (some .int), Cond.methodLink RX5 108 yX5_placeBy, Cond.instanceMethod yX5_placeBy, Cond.selects RX5 yX5_placeBy yX5_placeBy, Cond.code yX5_placeBy cX5_placeBy 5 (some .int), Cond.methodLink RX5 101 yX5_round, Cond.instanceMethod yX5_round, Cond.selects RX5 yX5_round yX5_round, Cond.code yX5_round cX5_round 2 (some .int), Cond.methodLink RX5 112 yX5_lapsOf, Cond.instanceMethod yX5_lapsOf, Cond.selects RX5 yX5_lapsOf yX5_lapsOf]
def wsL_law_r14 : List Cond := [Cond.code yX5_lapsOf cX5_lapsOf 3 (some .int), Cond.methodLink RX5 115 yX5_strengthOf, Cond.instanceMethod yX5_strengthOf, Cond.selects RX5 yX5_strengthOf yX5_strengthOf, Cond.code yX5_strengthOf cX5_strengthOf 4 (some .int), Cond.methodLink RX5 135 yX5_lastOf, Cond.instanceMethod yX5_lastOf, Cond.selects RX5 yX5_lastOf yX5_lastOf, Cond.code yX5_lastOf cX5_lastOf 3 (some .int), Cond.methodLink RL 32 yX4_place, Cond.instanceMethod yX4_place, Cond.selects RX4 yX4_place yX4_place, Cond.code yX4_place cX4_place 3 (some .int), Cond.methodLink RX4 101 yX0_hasPlace, Cond.instanceMethod yX0_hasPlace, Cond.selects RX0 yX0_hasPlace yX0_hasPlace, Cond.code yX0_hasPlace cX0_hasPlace 2 (some .boolean), Cond.methodLink RX4 104 yX0_listen, Cond.instanceMethod yX0_listen, Cond.selects RX0 yX0_listen yX0_listen, Cond.code yX0_listen cX0_listen 3 none, Cond.methodLink RX0 90 yX0_placeAfter, Cond.methodLink RX4 108 yX0_isNiche, Cond.instanceMethod yX0_isNiche]
def wsL_law_r15 : List Cond := [Cond.selects RX0 yX0_isNiche yX0_isNiche, Cond.code yX0_isNiche cX0_isNiche 2 (some .boolean), Cond.methodLink RX4 111 yX0_soundingAt, Cond.instanceMethod yX0_soundingAt, Cond.selects RX0 yX0_soundingAt yX0_soundingAt, Cond.code yX0_soundingAt cX0_soundingAt 4 (some .int), Cond.methodLink RX4 114 yX0_clearAt, Cond.instanceMethod yX0_clearAt, Cond.selects RX0 yX0_clearAt yX0_clearAt, Cond.code yX0_clearAt cX0_clearAt 4 (some .int), Cond.methodLink RX0 96 yX0_strengthAt, Cond.instanceMethod yX0_strengthAt, Cond.selects RX0 yX0_strengthAt yX0_strengthAt, Cond.code yX0_strengthAt cX0_strengthAt 4 (some .int), Cond.methodLink RX4 117 yX0_isSea, Cond.instanceMethod yX0_isSea, Cond.selects RX0 yX0_isSea yX0_isSea, Cond.code yX0_isSea cX0_isSea 2 (some .boolean), Cond.methodLink RX0 99 yX0_soundingAt, Cond.methodLink RX0 102 yX0_clearAt, Cond.methodLink RX4 120 yX0_strengthAt, Cond.methodLink RX4 123 yX0_quietOf, Cond.instanceMethod yX0_quietOf, Cond.selects RX0 yX0_quietOf yX0_quietOf]
def wsL_law_r16 : List Cond := [Cond.code yX0_quietOf cX0_quietOf 3 (some .int), Cond.methodLink RX0 116 yX0_listen, Cond.methodLink RL 35 yX5_place, Cond.instanceMethod yX5_place, Cond.selects RX5 yX5_place yX5_place, Cond.code yX5_place cX5_place 4 (some .int), Cond.methodLink RX5 138 yX5_isPlace, Cond.instanceMethod yX5_isPlace, Cond.selects RX5 yX5_isPlace yX5_isPlace, Cond.code yX5_isPlace cX5_isPlace 2 (some .boolean), Cond.methodLink RX5 128 yX5_soundsOf, Cond.instanceMethod yX5_soundsOf, Cond.selects RX5 yX5_soundsOf yX5_soundsOf, Cond.code yX5_soundsOf cX5_soundsOf 5 (some .int), Cond.methodLink RX5 141 yX5_clearOf, Cond.instanceMethod yX5_clearOf, Cond.selects RX5 yX5_clearOf yX5_clearOf, Cond.code yX5_clearOf cX5_clearOf 6 (some .int), Cond.methodLink RX5 125 yX5_loudOf, Cond.instanceMethod yX5_loudOf, Cond.selects RX5 yX5_loudOf yX5_loudOf, Cond.code yX5_loudOf cX5_loudOf 5 (some .int), Cond.methodLink RX5 121 yX5_has, Cond.static yX5_has]
def wsL_law_r17 : List Cond := [Cond.code yX5_has cX5_has 2 (some .boolean), Cond.methodLink RX5 144 yX5_quietOf, Cond.instanceMethod yX5_quietOf, Cond.selects RX5 yX5_quietOf yX5_quietOf, Cond.code yX5_quietOf cX5_quietOf 3 (some .int), Cond.methodLink RL 36 yX4_ticks, Cond.instanceMethod yX4_ticks, Cond.selects RX4 yX4_ticks yX4_ticks, Cond.code yX4_ticks cX4_ticks 2 (some .int), Cond.fieldLink RX4 126 "WhisperRing$Moment" "tick" "I", Cond.methodLink RX4 129 yX2_goBy, Cond.instanceMethod yX2_goBy, Cond.selects RX2 yX2_goBy yX2_goBy, Cond.code yX2_goBy cX2_goBy 2 none, Cond.methodLink RX2 49 yX2_note, Cond.instanceMethod yX2_note, Cond.selects RX2 yX2_note yX2_note, Cond.code yX2_note cX2_note 2 none, Cond.methodLink RX2 43 arraycopyName, Cond.native arraycopyName, Cond.static arraycopyName, Cond.initialized "java/lang/System", Cond.methodLink RX4 132 yX0_lasting, Cond.instanceMethod yX0_lasting]
def wsL_law_r18 : List Cond := [Cond.selects RX0 yX0_lasting yX0_lasting, Cond.code yX0_lasting cX0_lasting 3 (some .int), Cond.methodLink RX4 136 yJ6_bitCount_0f7a4, Cond.static yJ6_bitCount_0f7a4, Cond.initialized RJ6, Cond.code yJ6_bitCount_0f7a4 cJ6_bitCount_0f7a4 1 (some .int), Cond.constant RJ6 265 (1431655765), Cond.constant RJ6 266 (858993459), Cond.constant RJ6 267 (252645135), Cond.methodLink RL 39 yX5_ticks, Cond.instanceMethod yX5_ticks, Cond.selects RX5 yX5_ticks yX5_ticks, Cond.code yX5_ticks cX5_ticks 2 (some .int), Cond.methodLink RX5 147 yX5_notes, Cond.instanceMethod yX5_notes, Cond.selects RX5 yX5_notes yX5_notes, Cond.code yX5_notes cX5_notes 1 none, Cond.methodLink RX5 150 yX5_alive, Cond.instanceMethod yX5_alive, Cond.selects RX5 yX5_alive yX5_alive, Cond.code yX5_alive cX5_alive 3 (some .int), Cond.methodLink RX5 153 yX5_bits, Cond.static yX5_bits, Cond.code yX5_bits cX5_bits 3 (some .int)]
def wsL_law_r19 : List Cond := [Cond.methodLink RL 40 yX4_says, Cond.instanceMethod yX4_says, Cond.selects RX4 yX4_says yX4_says, Cond.code yX4_says cX4_says 5 (some .int), Cond.fieldLink RX4 151 "WhisperRing$Moment" "sayings" "I", Cond.methodLink RX4 141 yX4_maySay, Cond.instanceMethod yX4_maySay, Cond.selects RX4 yX4_maySay yX4_maySay, Cond.code yX4_maySay cX4_maySay 5 (some .boolean), Cond.methodLink RX4 145 yX2_add, Cond.methodLink RX4 148 yX2_note, Cond.methodLink RL 44 yX5_says, Cond.instanceMethod yX5_says, Cond.selects RX5 yX5_says yX5_says, Cond.code yX5_says cX5_says 6 (some .int), Cond.methodLink RL 45 yX4_hushes, Cond.instanceMethod yX4_hushes, Cond.selects RX4 yX4_hushes yX4_hushes, Cond.code yX4_hushes cX4_hushes 3 (some .int), Cond.methodLink RX4 154 yX2_hush, Cond.instanceMethod yX2_hush, Cond.selects RX2 yX2_hush yX2_hush, Cond.code yX2_hush cX2_hush 2 none, Cond.methodLink RL 48 yX5_hushes]
def wsL_law_r20 : List Cond := [Cond.instanceMethod yX5_hushes, Cond.selects RX5 yX5_hushes yX5_hushes, Cond.code yX5_hushes cX5_hushes 3 (some .int), Cond.methodLink RL 49 yX4_undo, Cond.instanceMethod yX4_undo, Cond.selects RX4 yX4_undo yX4_undo, Cond.code yX4_undo cX4_undo 1 (some .int), Cond.fieldLink RX4 161 "WhisperRing$Moment" "noted" "I", Cond.methodLink RX4 157 yX2_takeBack, Cond.instanceMethod yX2_takeBack, Cond.selects RX2 yX2_takeBack yX2_takeBack, Cond.code yX2_takeBack cX2_takeBack 2 (some .boolean), Cond.methodLink RL 52 yX5_undo, Cond.instanceMethod yX5_undo, Cond.selects RX5 yX5_undo yX5_undo, Cond.code yX5_undo cX5_undo 1 (some .int), Cond.methodLink RL 53 yX4_now, Cond.instanceMethod yX4_now, Cond.selects RX4 yX4_now yX4_now, Cond.code yX4_now cX4_now 2 (some .int), Cond.methodLink RX4 164 yX0_strengthOf, Cond.instanceMethod yX0_strengthOf, Cond.selects RX0 yX0_strengthOf yX0_strengthOf, Cond.code yX0_strengthOf cX0_strengthOf 4 (some .int)]
def wsL_law_r21 : List Cond := [Cond.methodLink RX4 167 yX0_placesThatSound, Cond.instanceMethod yX0_placesThatSound, Cond.selects RX0 yX0_placesThatSound yX0_placesThatSound, Cond.code yX0_placesThatSound cX0_placesThatSound 3 (some .int), Cond.methodLink RX4 170 yX0_seas, Cond.instanceMethod yX0_seas, Cond.selects RX0 yX0_seas yX0_seas, Cond.code yX0_seas cX0_seas 3 (some .int), Cond.methodLink RX0 105 yX0_isSea, Cond.methodLink RL 56 yX5_now, Cond.instanceMethod yX5_now, Cond.selects RX5 yX5_now yX5_now, Cond.code yX5_now cX5_now 2 (some .int), Cond.methodLink RX5 156 yX5_placesThat, Cond.instanceMethod yX5_placesThat, Cond.selects RX5 yX5_placesThat yX5_placesThat, Cond.code yX5_placesThat cX5_placesThat 5 (some .int), Cond.methodLink RL 57 yX4_when, Cond.instanceMethod yX4_when, Cond.selects RX4 yX4_when yX4_when, Cond.code yX4_when cX4_when 4 (some .int), Cond.methodLink RX4 173 yX0_whenAt, Cond.instanceMethod yX0_whenAt, Cond.selects RX0 yX0_whenAt yX0_whenAt]
def wsL_law_r22 : List Cond := [Cond.code yX0_whenAt cX0_whenAt 4 (some .int), Cond.methodLink RX0 120 yX0_sounds, Cond.instanceMethod yX0_sounds, Cond.selects RX0 yX0_sounds yX0_sounds, Cond.code yX0_sounds cX0_sounds 4 (some .boolean), Cond.methodLink RX4 176 yX0_oftenAt, Cond.instanceMethod yX0_oftenAt, Cond.selects RX0 yX0_oftenAt yX0_oftenAt, Cond.code yX0_oftenAt cX0_oftenAt 5 (some .int), Cond.methodLink RL 61 yX5_when, Cond.instanceMethod yX5_when, Cond.selects RX5 yX5_when yX5_when, Cond.code yX5_when cX5_when 7 (some .int), Cond.methodLink RL 62 yX4_meet, Cond.instanceMethod yX4_meet, Cond.selects RX4 yX4_meet yX4_meet, Cond.code yX4_meet cX4_meet 3 (some .int), Cond.methodLink RX4 179 yX0_meetingOf, Cond.instanceMethod yX0_meetingOf, Cond.selects RX0 yX0_meetingOf yX0_meetingOf, Cond.code yX0_meetingOf cX0_meetingOf 4 (some .int), Cond.methodLink RL 65 yX5_meet, Cond.instanceMethod yX5_meet, Cond.selects RX5 yX5_meet yX5_meet]
def wsL_law_r23 : List Cond := [Cond.code yX5_meet cX5_meet 4 (some .int), Cond.methodLink RL 66 yX4_best, Cond.instanceMethod yX4_best, Cond.selects RX4 yX4_best yX4_best, Cond.code yX4_best cX4_best 8 (some .int), Cond.methodLink RX4 182 yX0_ticksTo, Cond.instanceMethod yX0_ticksTo, Cond.selects RX0 yX0_ticksTo yX0_ticksTo, Cond.code yX0_ticksTo cX0_ticksTo 6 (some .int), Cond.methodLink RX4 186 yX0_strengthLeft, Cond.methodLink RX4 189 yX0_firstWait, Cond.instanceMethod yX0_firstWait, Cond.selects RX0 yX0_firstWait yX0_firstWait, Cond.code yX0_firstWait cX0_firstWait 5 (some .int), Cond.methodLink RL 70 yX5_best, Cond.instanceMethod yX5_best, Cond.selects RX5 yX5_best yX5_best, Cond.code yX5_best cX5_best 9 (some .int), Cond.methodLink RL 71 yX4_stills, Cond.instanceMethod yX4_stills, Cond.selects RX4 yX4_stills yX4_stills, Cond.code yX4_stills cX4_stills 2 (some .int), Cond.methodLink RX4 193 yX0_fewestToHush, Cond.instanceMethod yX0_fewestToHush]
def wsL_law_r24 : List Cond := [Cond.selects RX0 yX0_fewestToHush yX0_fewestToHush, Cond.code yX0_fewestToHush cX0_fewestToHush 6 (some .int), Cond.methodLink RX0 108 yJ6_bitCount_0f7a4, Cond.methodLink RX0 113 yX0_strengthOf, Cond.methodLink RL 74 yX5_stills, Cond.instanceMethod yX5_stills, Cond.selects RX5 yX5_stills yX5_stills, Cond.code yX5_stills cX5_stills 7 (some .int), Cond.methodLink RL 75 yX4_odds, Cond.instanceMethod yX4_odds, Cond.selects RX4 yX4_odds yX4_odds, Cond.code yX4_odds cX4_odds 8 (some .int), Cond.fieldLink RX4 196 "WhisperRing$Hall" "loss" "I", Cond.methodLink RX4 199 yX4_lastingParts, Cond.static yX4_lastingParts, Cond.code yX4_lastingParts cX4_lastingParts 4 (some .int), Cond.methodLink RX4 202 yX4_commonDivisor, Cond.static yX4_commonDivisor, Cond.code yX4_commonDivisor cX4_commonDivisor 6 (some .int), Cond.methodLink RL 78 yX5_odds, Cond.instanceMethod yX5_odds, Cond.selects RX5 yX5_odds yX5_odds, Cond.code yX5_odds cX5_odds 11 (some .int), Cond.methodLink RX5 160 yX5_divisor]
def wsL_law_r25 : List Cond := [Cond.static yX5_divisor, Cond.code yX5_divisor cX5_divisor 5 (some .int), Cond.methodLink RL 79 yX4_hears, Cond.instanceMethod yX4_hears, Cond.selects RX4 yX4_hears yX4_hears, Cond.code yX4_hears cX4_hears 4 (some .int), Cond.methodLink RX4 205 yX1_add, Cond.instanceMethod yX1_add, Cond.selects RX1 yX1_add yX1_add, Cond.code yX1_add cX1_add 4 (some .boolean), Cond.fieldLink RX1 21 "WhisperRing$Hearsay" "size" "I", Cond.methodLink RL 82 yX5_hears, Cond.instanceMethod yX5_hears, Cond.selects RX5 yX5_hears yX5_hears, Cond.code yX5_hears cX5_hears 4 (some .int), Cond.methodLink RL 83 yX4_forget, Cond.instanceMethod yX4_forget, Cond.selects RX4 yX4_forget yX4_forget, Cond.code yX4_forget cX4_forget 2 (some .int), Cond.methodLink RL 86 yX5_forget, Cond.instanceMethod yX5_forget, Cond.selects RX5 yX5_forget yX5_forget, Cond.code yX5_forget cX5_forget 2 (some .int), Cond.methodLink RL 87 yX4_guesses]
def wsL_law_r26 : List Cond := [Cond.instanceMethod yX4_guesses, Cond.selects RX4 yX4_guesses yX4_guesses, Cond.code yX4_guesses cX4_guesses 2 (some .int), Cond.methodLink RX4 207 yX4_guessCount, Cond.instanceMethod yX4_guessCount, Cond.selects RX4 yX4_guessCount yX4_guessCount, Cond.code yX4_guessCount cX4_guessCount 3 (some .int), Cond.fieldLink RX4 216 "WhisperRing$Hall" "places" "I", Cond.methodLink RX4 254 yX1_fits, Cond.instanceMethod yX1_fits, Cond.selects RX1 yX1_fits yX1_fits, Cond.code yX1_fits cX1_fits 5 (some .boolean), Cond.methodLink RX1 41 yX1_placeBehind, Cond.static yX1_placeBehind, Cond.code yX1_placeBehind cX1_placeBehind 3 (some .int), Cond.methodLink RX1 25 yX1_placeIn, Cond.static yX1_placeIn, Cond.code yX1_placeIn cX1_placeIn 1 (some .int), Cond.methodLink RX1 29 yX1_wayIn, Cond.static yX1_wayIn, Cond.code yX1_wayIn cX1_wayIn 1 (some .int), Cond.methodLink RX1 32 yX1_speedIn, Cond.static yX1_speedIn, Cond.code yX1_speedIn cX1_speedIn 1 (some .int)]
def wsL_law_r27 : List Cond := [Cond.methodLink RX1 35 yX0_reach, Cond.methodLink RX4 210 yX4_firstGuess, Cond.instanceMethod yX4_firstGuess, Cond.selects RX4 yX4_firstGuess yX4_firstGuess, Cond.code yX4_firstGuess cX4_firstGuess 2 (some .int), Cond.methodLink RX4 258 yX1_placeIn, Cond.methodLink RX4 261 yX1_speedIn, Cond.methodLink RX4 264 yX1_wayIn, Cond.methodLink RL 90 yX5_guesses, Cond.instanceMethod yX5_guesses, Cond.selects RX5 yX5_guesses yX5_guesses, Cond.code yX5_guesses cX5_guesses 5 (some .int), Cond.methodLink RX5 166 yX5_fits, Cond.instanceMethod yX5_fits, Cond.selects RX5 yX5_fits yX5_fits, Cond.code yX5_fits cX5_fits 4 (some .boolean), Cond.methodLink RX5 163 yX5_guessAt, Cond.instanceMethod yX5_guessAt, Cond.selects RX5 yX5_guessAt yX5_guessAt, Cond.code yX5_guessAt cX5_guessAt 3 (some .int), Cond.methodLink RL 91 yX4_ask, Cond.instanceMethod yX4_ask, Cond.selects RX4 yX4_ask yX4_ask, Cond.code yX4_ask cX4_ask 7 (some .int)]
def wsL_law_r28 : List Cond := [Cond.methodLink RX4 219 Lib.Math.max.name, Cond.methodLink RX4 213 yX4_sortGuesses, Cond.instanceMethod yX4_sortGuesses, Cond.selects RX4 yX4_sortGuesses yX4_sortGuesses, Cond.code yX4_sortGuesses cX4_sortGuesses 5 (some .int), Cond.methodLink RX4 267 yX1_placeBehind, Cond.methodLink RL 94 yX5_ask, Cond.instanceMethod yX5_ask, Cond.selects RX5 yX5_ask yX5_ask, Cond.code yX5_ask cX5_ask 8 (some .int), Cond.methodLink RX5 169 yX5_guesses, Cond.methodLink RL 95 yX4_mark, Cond.instanceMethod yX4_mark, Cond.selects RX4 yX4_mark yX4_mark, Cond.code yX4_mark cX4_mark 3 (some .int), Cond.constant RX4 224 (-1000000), Cond.methodLink RX4 225 yX4_asSaying, Cond.instanceMethod yX4_asSaying, Cond.selects RX4 yX4_asSaying yX4_asSaying, Cond.code yX4_asSaying cX4_asSaying 2 (some .int), Cond.fieldLink RX4 250 "WhisperRing" "trace" "J", Cond.methodLink RX4 228 yX4_asVow, Cond.instanceMethod yX4_asVow, Cond.selects RX4 yX4_asVow yX4_asVow]
def wsL_law_r29 : List Cond := [Cond.code yX4_asVow cX4_asVow 2 (some .int), Cond.constantLong RX4 271 (10), Cond.methodLink RX4 231 yX4_asRumour, Cond.instanceMethod yX4_asRumour, Cond.selects RX4 yX4_asRumour yX4_asRumour, Cond.code yX4_asRumour cX4_asRumour 2 (some .int), Cond.constantLong RX4 273 (100), Cond.methodLink RX4 234 yX4_asCurse, Cond.instanceMethod yX4_asCurse, Cond.selects RX4 yX4_asCurse yX4_asCurse, Cond.code yX4_asCurse cX4_asCurse 2 (some .int), Cond.constantLong RX4 275 (1000), Cond.methodLink RX4 237 yX4_asLie, Cond.instanceMethod yX4_asLie, Cond.selects RX4 yX4_asLie yX4_asLie, Cond.code yX4_asLie cX4_asLie 2 (some .int), Cond.constantLong RX4 277 (10000), Cond.methodLink RX4 240 yX4_asHymn, Cond.instanceMethod yX4_asHymn, Cond.selects RX4 yX4_asHymn yX4_asHymn, Cond.code yX4_asHymn cX4_asHymn 2 (some .int), Cond.constantLong RX4 279 (100000), Cond.methodLink RL 98 yX5_mark, Cond.instanceMethod yX5_mark]
def wsL_law_r30 : List Cond := [Cond.selects RX5 yX5_mark yX5_mark, Cond.code yX5_mark cX5_mark 4 (some .int), Cond.constant RX5 172 (-1000000), Cond.fieldLink RX5 173 "WhisperRingModel" "trail" "J", Cond.constantLong RX5 177 (10), Cond.constantLong RX5 179 (100), Cond.constantLong RX5 181 (1010), Cond.constantLong RX5 183 (10100), Cond.constantLong RX5 185 (100000), Cond.methodLink RL 99 yX4_keep, Cond.instanceMethod yX4_keep, Cond.selects RX4 yX4_keep yX4_keep, Cond.code yX4_keep cX4_keep 2 (some .int), Cond.methodLink RX4 243 yX2_become, Cond.instanceMethod yX2_become, Cond.selects RX2 yX2_become yX2_become, Cond.code yX2_become cX2_become 2 none, Cond.methodLink RL 102 yX5_keep, Cond.instanceMethod yX5_keep, Cond.selects RX5 yX5_keep yX5_keep, Cond.code yX5_keep cX5_keep 3 (some .int), Cond.methodLink RL 103 yX4_back, Cond.instanceMethod yX4_back, Cond.selects RX4 yX4_back yX4_back]
def wsL_law_r31 : List Cond := [Cond.code yX4_back cX4_back 2 (some .int), Cond.methodLink RL 106 yX5_back, Cond.instanceMethod yX5_back, Cond.selects RX5 yX5_back yX5_back, Cond.code yX5_back cX5_back 3 (some .int), Cond.methodLink RL 107 yX4_count, Cond.instanceMethod yX4_count, Cond.selects RX4 yX4_count yX4_count, Cond.code yX4_count cX4_count 2 (some .int), Cond.fieldLink RX4 247 "WhisperRing$Hall" "niches" "I", Cond.methodLink RL 110 yX5_count, Cond.instanceMethod yX5_count, Cond.selects RX5 yX5_count yX5_count, Cond.code yX5_count cX5_count 2 (some .int), Cond.methodLink RL 111 yX4_trace, Cond.instanceMethod yX4_trace, Cond.selects RX4 yX4_trace yX4_trace, Cond.code yX4_trace cX4_trace 1 (some .long), Cond.methodLink RL 115 yX5_trace, Cond.instanceMethod yX5_trace, Cond.selects RX5 yX5_trace yX5_trace, Cond.code yX5_trace cX5_trace 1 (some .long)]
def wsL_law : List Cond := (wsL_law_r1 ++ (wsL_law_r2 ++ (wsL_law_r3 ++ (wsL_law_r4 ++ (wsL_law_r5 ++ (wsL_law_r6 ++ (wsL_law_r7 ++ (wsL_law_r8 ++ (wsL_law_r9 ++ (wsL_law_r10 ++ (wsL_law_r11 ++ (wsL_law_r12 ++ (wsL_law_r13 ++ (wsL_law_r14 ++ (wsL_law_r15 ++ (wsL_law_r16 ++ (wsL_law_r17 ++ (wsL_law_r18 ++ (wsL_law_r19 ++ (wsL_law_r20 ++ (wsL_law_r21 ++ (wsL_law_r22 ++ (wsL_law_r23 ++ (wsL_law_r24 ++ (wsL_law_r25 ++ (wsL_law_r26 ++ (wsL_law_r27 ++ (wsL_law_r28 ++ (wsL_law_r29 ++ (wsL_law_r30 ++ wsL_law_r31)))))))))))))))))))))))))))))) ++ wsX40 ++ wsX50 ++ wsX30 ++ wsX10 ++ wsX20 ++ wsX00 ++ ([] : List Cond)
abbrev vwCl : List vw_C := [(RX0, TX0, 6), (RX1, TX1, 4), (RX2, TX2, 10), (RX3, TX3, 7), (RX4, TX4, 8), (RX5, TX5, 21)]
end
section
set_option maxRecDepth 20000 in
theorem ggX0_init_X2_init : GoodIn wsX0_init wsX2_init := goodIn_r _ [14, 15, 2, 3, 10, 16, 17, 18, 19, 20, 21, 28, 29, 30, 31, 32, 33, 34, 35, 36, 37] (by decide +kernel) (by decide +kernel)
set_option maxRecDepth 20000 in
theorem gX0_init_X2_init_n20 : GoodIn wsX0_init (wsX2_init) := ggX0_init_X2_init
theorem dX0_init_0 : decode cX0_init 0 = .ok (.aload_n 0, 1) := by decide +kernel
theorem dX0_init_1 : decode cX0_init 1 = .ok (.invokespecial 3, 3) := by decide +kernel
theorem dX0_init_4 : decode cX0_init 4 = .ok (.aload_n 0, 1) := by decide +kernel
theorem dX0_init_5 : decode cX0_init 5 = .ok (.bipush 12, 2) := by decide +kernel
theorem dX0_init_7 : decode cX0_init 7 = .ok (.putfield 9, 3) := by decide +kernel
theorem dX0_init_10 : decode cX0_init 10 = .ok (.aload_n 0, 1) := by decide +kernel
theorem dX0_init_11 : decode cX0_init 11 = .ok (.iconst 1, 1) := by decide +kernel
theorem dX0_init_12 : decode cX0_init 12 = .ok (.putfield 15, 3) := by decide +kernel
theorem dX0_init_15 : decode cX0_init 15 = .ok (.aload_n 0, 1) := by decide +kernel
theorem dX0_init_16 : decode cX0_init 16 = .ok (.new 18, 3) := by decide +kernel
theorem dX0_init_19 : decode cX0_init 19 = .ok (.dup, 1) := by decide +kernel
theorem dX0_init_20 : decode cX0_init 20 = .ok (.invokespecial 20, 3) := by decide +kernel
theorem dX0_init_23 : decode cX0_init 23 = .ok (.putfield 21, 3) := by decide +kernel
theorem dX0_init_26 : decode cX0_init 26 = .ok (.aload_n 0, 1) := by decide +kernel
theorem dX0_init_27 : decode cX0_init 27 = .ok (.bipush 8, 2) := by decide +kernel
theorem dX0_init_29 : decode cX0_init 29 = .ok (.newarray .int, 2) := by decide +kernel
theorem dX0_init_31 : decode cX0_init 31 = .ok (.putfield 25, 3) := by decide +kernel
theorem dX0_init_34 : decode cX0_init 34 = .ok (.aload_n 0, 1) := by decide +kernel
theorem dX0_init_35 : decode cX0_init 35 = .ok (.bipush 8, 2) := by decide +kernel
theorem dX0_init_37 : decode cX0_init 37 = .ok (.newarray .int, 2) := by decide +kernel
theorem dX0_init_39 : decode cX0_init 39 = .ok (.putfield 29, 3) := by decide +kernel
theorem dX0_init_42 : decode cX0_init 42 = .ok (.return_, 1) := by decide +kernel
set_option maxRecDepth 20000 in
theorem ggX0_empty_X2_empty : GoodIn wsX0_empty wsX2_empty := goodIn_r _ [9, 10, 11, 12, 13, 20, 21, 22, 23, 24, 25, 26, 27, 28, 29] (by decide +kernel) (by decide +kernel)
set_option maxRecDepth 20000 in
theorem gX0_empty_X2_empty : GoodIn wsX0_empty (wsV RX0 35 RX2 yX2_empty wsX2_empty) := goodIn_app (goodIn_of _ (by decide +kernel)) ggX0_empty_X2_empty
theorem dX0_empty_0 : decode cX0_empty 0 = .ok (.aload_n 0, 1) := by decide +kernel
theorem dX0_empty_1 : decode cX0_empty 1 = .ok (.bipush 12, 2) := by decide +kernel
theorem dX0_empty_3 : decode cX0_empty 3 = .ok (.putfield 9, 3) := by decide +kernel
theorem dX0_empty_6 : decode cX0_empty 6 = .ok (.aload_n 0, 1) := by decide +kernel
theorem dX0_empty_7 : decode cX0_empty 7 = .ok (.iconst 1, 1) := by decide +kernel
theorem dX0_empty_8 : decode cX0_empty 8 = .ok (.putfield 15, 3) := by decide +kernel
theorem dX0_empty_11 : decode cX0_empty 11 = .ok (.aload_n 0, 1) := by decide +kernel
theorem dX0_empty_12 : decode cX0_empty 12 = .ok (.iconst 0, 1) := by decide +kernel
theorem dX0_empty_13 : decode cX0_empty 13 = .ok (.putfield 32, 3) := by decide +kernel
theorem dX0_empty_16 : decode cX0_empty 16 = .ok (.aload_n 0, 1) := by decide +kernel
theorem dX0_empty_17 : decode cX0_empty 17 = .ok (.getfield 21, 3) := by decide +kernel
theorem dX0_empty_20 : decode cX0_empty 20 = .ok (.invokevirtual 35, 3) := by decide +kernel
theorem dX0_empty_23 : decode cX0_empty 23 = .ok (.return_, 1) := by decide +kernel
set_option maxRecDepth 20000 in
theorem ggX0_hasPlace_X4_within : GoodIn wsX0_hasPlace wsX4_within := goodIn_r _ [4] (by decide +kernel) (by decide +kernel)
set_option maxRecDepth 20000 in
theorem gX0_hasPlace_X4_within_n38 : GoodIn wsX0_hasPlace (wsX4_within) := ggX0_hasPlace_X4_within
theorem dX0_hasPlace_0 : decode cX0_hasPlace 0 = .ok (.iload_n 1, 1) := by decide +kernel
theorem dX0_hasPlace_1 : decode cX0_hasPlace 1 = .ok (.iconst 0, 1) := by decide +kernel
theorem dX0_hasPlace_2 : decode cX0_hasPlace 2 = .ok (.aload_n 0, 1) := by decide +kernel
theorem dX0_hasPlace_3 : decode cX0_hasPlace 3 = .ok (.getfield 9, 3) := by decide +kernel
theorem dX0_hasPlace_6 : decode cX0_hasPlace 6 = .ok (.iconst 1, 1) := by decide +kernel
theorem dX0_hasPlace_7 : decode cX0_hasPlace 7 = .ok (.isub, 1) := by decide +kernel
theorem dX0_hasPlace_8 : decode cX0_hasPlace 8 = .ok (.invokestatic 38, 3) := by decide +kernel
theorem dX0_hasPlace_11 : decode cX0_hasPlace 11 = .ok (.ireturn, 1) := by decide +kernel
set_option maxRecDepth 20000 in
theorem ggX0_hasSaying_X4_within : GoodIn wsX0_hasSaying wsX4_within := goodIn_r _ [5] (by decide +kernel) (by decide +kernel)
set_option maxRecDepth 20000 in
theorem gX0_hasSaying_X4_within_n38 : GoodIn wsX0_hasSaying (wsX4_within) := ggX0_hasSaying_X4_within
theorem dX0_hasSaying_0 : decode cX0_hasSaying 0 = .ok (.iload_n 1, 1) := by decide +kernel
theorem dX0_hasSaying_1 : decode cX0_hasSaying 1 = .ok (.iconst 0, 1) := by decide +kernel
theorem dX0_hasSaying_2 : decode cX0_hasSaying 2 = .ok (.aload_n 0, 1) := by decide +kernel
theorem dX0_hasSaying_3 : decode cX0_hasSaying 3 = .ok (.getfield 21, 3) := by decide +kernel
theorem dX0_hasSaying_6 : decode cX0_hasSaying 6 = .ok (.getfield 42, 3) := by decide +kernel
theorem dX0_hasSaying_9 : decode cX0_hasSaying 9 = .ok (.iconst 1, 1) := by decide +kernel
theorem dX0_hasSaying_10 : decode cX0_hasSaying 10 = .ok (.isub, 1) := by decide +kernel
theorem dX0_hasSaying_11 : decode cX0_hasSaying 11 = .ok (.invokestatic 38, 3) := by decide +kernel
theorem dX0_hasSaying_14 : decode cX0_hasSaying 14 = .ok (.ireturn, 1) := by decide +kernel
theorem dX0_isNiche_0 : decode cX0_isNiche 0 = .ok (.aload_n 0, 1) := by decide +kernel
theorem dX0_isNiche_1 : decode cX0_isNiche 1 = .ok (.getfield 32, 3) := by decide +kernel
theorem dX0_isNiche_4 : decode cX0_isNiche 4 = .ok (.iload_n 1, 1) := by decide +kernel
theorem dX0_isNiche_5 : decode cX0_isNiche 5 = .ok (.ishr, 1) := by decide +kernel
theorem dX0_isNiche_6 : decode cX0_isNiche 6 = .ok (.iconst 1, 1) := by decide +kernel
theorem dX0_isNiche_7 : decode cX0_isNiche 7 = .ok (.iand, 1) := by decide +kernel
theorem dX0_isNiche_8 : decode cX0_isNiche 8 = .ok (.iconst 1, 1) := by decide +kernel
theorem dX0_isNiche_9 : decode cX0_isNiche 9 = .ok (.if_icmp .ne 7, 3) := by decide +kernel
theorem dX0_isNiche_12 : decode cX0_isNiche 12 = .ok (.iconst 1, 1) := by decide +kernel
theorem dX0_isNiche_13 : decode cX0_isNiche 13 = .ok (.goto 4, 3) := by decide +kernel
theorem dX0_isNiche_16 : decode cX0_isNiche 16 = .ok (.iconst 0, 1) := by decide +kernel
theorem dX0_isNiche_17 : decode cX0_isNiche 17 = .ok (.ireturn, 1) := by decide +kernel
set_option maxRecDepth 20000 in
theorem ggX0_reach_J9_floorMod_7cf53 : GoodIn wsX0_reach wsJ9_floorMod_7cf53 := goodIn_r _ [5] (by decide +kernel) (by decide +kernel)
set_option maxRecDepth 20000 in
theorem gX0_reach_J9_floorMod_7cf53 : GoodIn wsX0_reach (va_wsS RX0 45 yJ9_floorMod_7cf53 wsJ9_floorMod_7cf53) := goodIn_app (goodIn_of _ (by decide +kernel)) ggX0_reach_J9_floorMod_7cf53
theorem dX0_reach_0 : decode cX0_reach 0 = .ok (.iload_n 2, 1) := by decide +kernel
theorem dX0_reach_1 : decode cX0_reach 1 = .ok (.ifCond .ne 9, 3) := by decide +kernel
theorem dX0_reach_4 : decode cX0_reach 4 = .ok (.iload_n 1, 1) := by decide +kernel
theorem dX0_reach_5 : decode cX0_reach 5 = .ok (.iload_n 3, 1) := by decide +kernel
theorem dX0_reach_6 : decode cX0_reach 6 = .ok (.iadd, 1) := by decide +kernel
theorem dX0_reach_7 : decode cX0_reach 7 = .ok (.goto 6, 3) := by decide +kernel
theorem dX0_reach_10 : decode cX0_reach 10 = .ok (.iload_n 1, 1) := by decide +kernel
theorem dX0_reach_11 : decode cX0_reach 11 = .ok (.iload_n 3, 1) := by decide +kernel
theorem dX0_reach_12 : decode cX0_reach 12 = .ok (.isub, 1) := by decide +kernel
theorem dX0_reach_13 : decode cX0_reach 13 = .ok (.istore 4, 2) := by decide +kernel
theorem dX0_reach_15 : decode cX0_reach 15 = .ok (.aload_n 0, 1) := by decide +kernel
theorem dX0_reach_16 : decode cX0_reach 16 = .ok (.getfield 9, 3) := by decide +kernel
theorem dX0_reach_19 : decode cX0_reach 19 = .ok (.ifCond .le 15, 3) := by decide +kernel
theorem dX0_reach_22 : decode cX0_reach 22 = .ok (.iload 4, 2) := by decide +kernel
theorem dX0_reach_24 : decode cX0_reach 24 = .ok (.aload_n 0, 1) := by decide +kernel
theorem dX0_reach_25 : decode cX0_reach 25 = .ok (.getfield 9, 3) := by decide +kernel
theorem dX0_reach_28 : decode cX0_reach 28 = .ok (.invokestatic 45, 3) := by decide +kernel
theorem dX0_reach_31 : decode cX0_reach 31 = .ok (.goto 4, 3) := by decide +kernel
theorem dX0_reach_34 : decode cX0_reach 34 = .ok (.iconst 0, 1) := by decide +kernel
theorem dX0_reach_35 : decode cX0_reach 35 = .ok (.ireturn, 1) := by decide +kernel
theorem dX0_lapsOf_0 : decode cX0_lapsOf 0 = .ok (.aload_n 0, 1) := by decide +kernel
theorem dX0_lapsOf_1 : decode cX0_lapsOf 1 = .ok (.getfield 9, 3) := by decide +kernel
theorem dX0_lapsOf_4 : decode cX0_lapsOf 4 = .ok (.ifCond .le 12, 3) := by decide +kernel
theorem dX0_lapsOf_7 : decode cX0_lapsOf 7 = .ok (.iload_n 1, 1) := by decide +kernel
theorem dX0_lapsOf_8 : decode cX0_lapsOf 8 = .ok (.aload_n 0, 1) := by decide +kernel
theorem dX0_lapsOf_9 : decode cX0_lapsOf 9 = .ok (.getfield 9, 3) := by decide +kernel
theorem dX0_lapsOf_12 : decode cX0_lapsOf 12 = .ok (.idiv, 1) := by decide +kernel
theorem dX0_lapsOf_13 : decode cX0_lapsOf 13 = .ok (.goto 4, 3) := by decide +kernel
theorem dX0_lapsOf_16 : decode cX0_lapsOf 16 = .ok (.iconst 0, 1) := by decide +kernel
theorem dX0_lapsOf_17 : decode cX0_lapsOf 17 = .ok (.ireturn, 1) := by decide +kernel
set_option maxRecDepth 20000 in
theorem ggX0_strengthLeft_X0_lapsOf : GoodIn wsX0_strengthLeft wsX0_lapsOf := goodIn_r _ [10, 11, 12, 13, 14, 15, 16, 17] (by decide +kernel) (by decide +kernel)
set_option maxRecDepth 20000 in
theorem gX0_strengthLeft_X0_lapsOf : GoodIn wsX0_strengthLeft (wsV RX0 51 RX0 yX0_lapsOf wsX0_lapsOf) := goodIn_app (goodIn_of _ (by decide +kernel)) ggX0_strengthLeft_X0_lapsOf
theorem dX0_strengthLeft_0 : decode cX0_strengthLeft 0 = .ok (.iconst 0, 1) := by decide +kernel
theorem dX0_strengthLeft_1 : decode cX0_strengthLeft 1 = .ok (.iload_n 1, 1) := by decide +kernel
theorem dX0_strengthLeft_2 : decode cX0_strengthLeft 2 = .ok (.aload_n 0, 1) := by decide +kernel
theorem dX0_strengthLeft_3 : decode cX0_strengthLeft 3 = .ok (.getfield 15, 3) := by decide +kernel
theorem dX0_strengthLeft_6 : decode cX0_strengthLeft 6 = .ok (.aload_n 0, 1) := by decide +kernel
theorem dX0_strengthLeft_7 : decode cX0_strengthLeft 7 = .ok (.iload_n 2, 1) := by decide +kernel
theorem dX0_strengthLeft_8 : decode cX0_strengthLeft 8 = .ok (.invokevirtual 51, 3) := by decide +kernel
theorem dX0_strengthLeft_11 : decode cX0_strengthLeft 11 = .ok (.imul, 1) := by decide +kernel
theorem dX0_strengthLeft_12 : decode cX0_strengthLeft 12 = .ok (.isub, 1) := by decide +kernel
theorem dX0_strengthLeft_13 : decode cX0_strengthLeft 13 = .ok (.invokestatic 55, 3) := by decide +kernel
theorem dX0_strengthLeft_16 : decode cX0_strengthLeft 16 = .ok (.ireturn, 1) := by decide +kernel
theorem dX0_goneAfter_0 : decode cX0_goneAfter 0 = .ok (.aload_n 0, 1) := by decide +kernel
theorem dX0_goneAfter_1 : decode cX0_goneAfter 1 = .ok (.getfield 21, 3) := by decide +kernel
theorem dX0_goneAfter_4 : decode cX0_goneAfter 4 = .ok (.getfield 58, 3) := by decide +kernel
theorem dX0_goneAfter_7 : decode cX0_goneAfter 7 = .ok (.iload_n 1, 1) := by decide +kernel
theorem dX0_goneAfter_8 : decode cX0_goneAfter 8 = .ok (.iaload, 1) := by decide +kernel
theorem dX0_goneAfter_9 : decode cX0_goneAfter 9 = .ok (.aload_n 0, 1) := by decide +kernel
theorem dX0_goneAfter_10 : decode cX0_goneAfter 10 = .ok (.getfield 21, 3) := by decide +kernel
theorem dX0_goneAfter_13 : decode cX0_goneAfter 13 = .ok (.getfield 61, 3) := by decide +kernel
theorem dX0_goneAfter_16 : decode cX0_goneAfter 16 = .ok (.iload_n 2, 1) := by decide +kernel
theorem dX0_goneAfter_17 : decode cX0_goneAfter 17 = .ok (.iadd, 1) := by decide +kernel
theorem dX0_goneAfter_18 : decode cX0_goneAfter 18 = .ok (.aload_n 0, 1) := by decide +kernel
theorem dX0_goneAfter_19 : decode cX0_goneAfter 19 = .ok (.getfield 21, 3) := by decide +kernel
theorem dX0_goneAfter_22 : decode cX0_goneAfter 22 = .ok (.getfield 64, 3) := by decide +kernel
theorem dX0_goneAfter_25 : decode cX0_goneAfter 25 = .ok (.iload_n 1, 1) := by decide +kernel
theorem dX0_goneAfter_26 : decode cX0_goneAfter 26 = .ok (.iaload, 1) := by decide +kernel
theorem dX0_goneAfter_27 : decode cX0_goneAfter 27 = .ok (.isub, 1) := by decide +kernel
theorem dX0_goneAfter_28 : decode cX0_goneAfter 28 = .ok (.imul, 1) := by decide +kernel
theorem dX0_goneAfter_29 : decode cX0_goneAfter 29 = .ok (.ireturn, 1) := by decide +kernel
set_option maxRecDepth 20000 in
theorem ggX0_placeAfter_X0_goneAfter : GoodIn wsX0_placeAfter wsX0_goneAfter := goodIn_r _ [8, 1, 9, 10, 11, 21, 22, 23, 24, 25, 26, 27, 28, 29, 30, 31, 32, 33, 34, 35, 36] (by decide +kernel) (by decide +kernel)
set_option maxRecDepth 20000 in
theorem gX0_placeAfter_X0_goneAfter : GoodIn wsX0_placeAfter (wsV RX0 73 RX0 yX0_goneAfter wsX0_goneAfter) := goodIn_app (goodIn_of _ (by decide +kernel)) ggX0_placeAfter_X0_goneAfter
set_option maxRecDepth 20000 in
theorem ggX0_placeAfter_X0_reach : GoodIn wsX0_placeAfter wsX0_reach := goodIn_r _ [15, 16, 17, 18, 19, 20, 21, 22, 23, 24, 25, 26] (by decide +kernel) (by decide +kernel)
set_option maxRecDepth 20000 in
theorem gX0_placeAfter_X0_reach : GoodIn wsX0_placeAfter (wsV RX0 76 RX0 yX0_reach wsX0_reach) := goodIn_app (goodIn_of _ (by decide +kernel)) ggX0_placeAfter_X0_reach
theorem dX0_placeAfter_0 : decode cX0_placeAfter 0 = .ok (.aload_n 0, 1) := by decide +kernel
theorem dX0_placeAfter_1 : decode cX0_placeAfter 1 = .ok (.aload_n 0, 1) := by decide +kernel
theorem dX0_placeAfter_2 : decode cX0_placeAfter 2 = .ok (.getfield 21, 3) := by decide +kernel
theorem dX0_placeAfter_5 : decode cX0_placeAfter 5 = .ok (.getfield 67, 3) := by decide +kernel
theorem dX0_placeAfter_8 : decode cX0_placeAfter 8 = .ok (.iload_n 1, 1) := by decide +kernel
theorem dX0_placeAfter_9 : decode cX0_placeAfter 9 = .ok (.iaload, 1) := by decide +kernel
theorem dX0_placeAfter_10 : decode cX0_placeAfter 10 = .ok (.aload_n 0, 1) := by decide +kernel
theorem dX0_placeAfter_11 : decode cX0_placeAfter 11 = .ok (.getfield 21, 3) := by decide +kernel
theorem dX0_placeAfter_14 : decode cX0_placeAfter 14 = .ok (.getfield 70, 3) := by decide +kernel
theorem dX0_placeAfter_17 : decode cX0_placeAfter 17 = .ok (.iload_n 1, 1) := by decide +kernel
theorem dX0_placeAfter_18 : decode cX0_placeAfter 18 = .ok (.iaload, 1) := by decide +kernel
theorem dX0_placeAfter_19 : decode cX0_placeAfter 19 = .ok (.aload_n 0, 1) := by decide +kernel
theorem dX0_placeAfter_20 : decode cX0_placeAfter 20 = .ok (.iload_n 1, 1) := by decide +kernel
theorem dX0_placeAfter_21 : decode cX0_placeAfter 21 = .ok (.iload_n 2, 1) := by decide +kernel
theorem dX0_placeAfter_22 : decode cX0_placeAfter 22 = .ok (.invokevirtual 73, 3) := by decide +kernel
theorem dX0_placeAfter_25 : decode cX0_placeAfter 25 = .ok (.invokevirtual 76, 3) := by decide +kernel
theorem dX0_placeAfter_28 : decode cX0_placeAfter 28 = .ok (.ireturn, 1) := by decide +kernel
set_option maxRecDepth 20000 in
theorem ggX0_lapsAfter_X0_goneAfter : GoodIn wsX0_lapsAfter wsX0_goneAfter := goodIn_r _ [5, 6, 7, 8, 9, 15, 16, 17, 18, 19, 20, 21, 22, 23, 24, 25, 26, 27, 28, 29, 30] (by decide +kernel) (by decide +kernel)
set_option maxRecDepth 20000 in
theorem gX0_lapsAfter_X0_goneAfter : GoodIn wsX0_lapsAfter (wsV RX0 73 RX0 yX0_goneAfter wsX0_goneAfter) := goodIn_app (goodIn_of _ (by decide +kernel)) ggX0_lapsAfter_X0_goneAfter
set_option maxRecDepth 20000 in
theorem ggX0_lapsAfter_X0_lapsOf : GoodIn wsX0_lapsAfter wsX0_lapsOf := goodIn_r _ [13, 14, 15, 16, 17, 18, 19, 20] (by decide +kernel) (by decide +kernel)
set_option maxRecDepth 20000 in
theorem gX0_lapsAfter_X0_lapsOf : GoodIn wsX0_lapsAfter (wsV RX0 51 RX0 yX0_lapsOf wsX0_lapsOf) := goodIn_app (goodIn_of _ (by decide +kernel)) ggX0_lapsAfter_X0_lapsOf
theorem dX0_lapsAfter_0 : decode cX0_lapsAfter 0 = .ok (.aload_n 0, 1) := by decide +kernel
theorem dX0_lapsAfter_1 : decode cX0_lapsAfter 1 = .ok (.aload_n 0, 1) := by decide +kernel
theorem dX0_lapsAfter_2 : decode cX0_lapsAfter 2 = .ok (.iload_n 1, 1) := by decide +kernel
theorem dX0_lapsAfter_3 : decode cX0_lapsAfter 3 = .ok (.iload_n 2, 1) := by decide +kernel
theorem dX0_lapsAfter_4 : decode cX0_lapsAfter 4 = .ok (.invokevirtual 73, 3) := by decide +kernel
theorem dX0_lapsAfter_7 : decode cX0_lapsAfter 7 = .ok (.invokevirtual 51, 3) := by decide +kernel
theorem dX0_lapsAfter_10 : decode cX0_lapsAfter 10 = .ok (.ireturn, 1) := by decide +kernel
set_option maxRecDepth 20000 in
theorem ggX0_strengthAfter_X2_isHushed : GoodIn wsX0_strengthAfter wsX2_isHushed := goodIn_r _ [7, 8, 37, 38, 39, 40, 41, 42, 43, 44, 45, 46] (by decide +kernel) (by decide +kernel)
set_option maxRecDepth 20000 in
theorem gX0_strengthAfter_X2_isHushed : GoodIn wsX0_strengthAfter (wsV RX0 80 RX2 yX2_isHushed wsX2_isHushed) := goodIn_app (goodIn_of _ (by decide +kernel)) ggX0_strengthAfter_X2_isHushed
set_option maxRecDepth 20000 in
theorem ggX0_strengthAfter_X0_goneAfter : GoodIn wsX0_strengthAfter wsX0_goneAfter := goodIn_r _ [13, 1, 14, 15, 16, 31, 32, 33, 34, 35, 36, 37, 38, 39, 40, 41, 42, 43, 44, 45, 46] (by decide +kernel) (by decide +kernel)
set_option maxRecDepth 20000 in
theorem gX0_strengthAfter_X0_goneAfter : GoodIn wsX0_strengthAfter (wsV RX0 73 RX0 yX0_goneAfter wsX0_goneAfter) := goodIn_app (goodIn_of _ (by decide +kernel)) ggX0_strengthAfter_X0_goneAfter
set_option maxRecDepth 20000 in
theorem ggX0_strengthAfter_X0_strengthLeft : GoodIn wsX0_strengthAfter wsX0_strengthLeft := goodIn_r _ [20, 21, 22, 23, 24, 25, 26, 27, 28, 12, 29, 30, 31, 32, 33, 34, 35, 36] (by decide +kernel) (by decide +kernel)
set_option maxRecDepth 20000 in
theorem gX0_strengthAfter_X0_strengthLeft : GoodIn wsX0_strengthAfter (wsV RX0 87 RX0 yX0_strengthLeft wsX0_strengthLeft) := goodIn_app (goodIn_of _ (by decide +kernel)) ggX0_strengthAfter_X0_strengthLeft
theorem dX0_strengthAfter_0 : decode cX0_strengthAfter 0 = .ok (.aload_n 0, 1) := by decide +kernel
theorem dX0_strengthAfter_1 : decode cX0_strengthAfter 1 = .ok (.getfield 21, 3) := by decide +kernel
theorem dX0_strengthAfter_4 : decode cX0_strengthAfter 4 = .ok (.iload_n 1, 1) := by decide +kernel
theorem dX0_strengthAfter_5 : decode cX0_strengthAfter 5 = .ok (.invokevirtual 80, 3) := by decide +kernel
theorem dX0_strengthAfter_8 : decode cX0_strengthAfter 8 = .ok (.ifCond .eq 7, 3) := by decide +kernel
theorem dX0_strengthAfter_11 : decode cX0_strengthAfter 11 = .ok (.iconst 0, 1) := by decide +kernel
theorem dX0_strengthAfter_12 : decode cX0_strengthAfter 12 = .ok (.goto 22, 3) := by decide +kernel
theorem dX0_strengthAfter_15 : decode cX0_strengthAfter 15 = .ok (.aload_n 0, 1) := by decide +kernel
theorem dX0_strengthAfter_16 : decode cX0_strengthAfter 16 = .ok (.aload_n 0, 1) := by decide +kernel
theorem dX0_strengthAfter_17 : decode cX0_strengthAfter 17 = .ok (.getfield 21, 3) := by decide +kernel
theorem dX0_strengthAfter_20 : decode cX0_strengthAfter 20 = .ok (.getfield 84, 3) := by decide +kernel
theorem dX0_strengthAfter_23 : decode cX0_strengthAfter 23 = .ok (.iload_n 1, 1) := by decide +kernel
theorem dX0_strengthAfter_24 : decode cX0_strengthAfter 24 = .ok (.iaload, 1) := by decide +kernel
theorem dX0_strengthAfter_25 : decode cX0_strengthAfter 25 = .ok (.aload_n 0, 1) := by decide +kernel
theorem dX0_strengthAfter_26 : decode cX0_strengthAfter 26 = .ok (.iload_n 1, 1) := by decide +kernel
theorem dX0_strengthAfter_27 : decode cX0_strengthAfter 27 = .ok (.iload_n 2, 1) := by decide +kernel
theorem dX0_strengthAfter_28 : decode cX0_strengthAfter 28 = .ok (.invokevirtual 73, 3) := by decide +kernel
theorem dX0_strengthAfter_31 : decode cX0_strengthAfter 31 = .ok (.invokevirtual 87, 3) := by decide +kernel
theorem dX0_strengthAfter_34 : decode cX0_strengthAfter 34 = .ok (.ireturn, 1) := by decide +kernel
set_option maxRecDepth 20000 in
theorem ggX0_sounds_X0_placeAfter : GoodIn wsX0_sounds wsX0_placeAfter := goodIn_r _ [5, 6, 7, 8, 9, 10, 11, 4, 12, 13, 14, 15, 16, 17, 18, 19, 20, 21, 22, 23, 24, 49, 50, 51, 52, 53, 54, 55, 56, 57, 58, 59, 60, 61, 62, 63, 64] (by decide +kernel) (by decide +kernel)
set_option maxRecDepth 20000 in
theorem gX0_sounds_X0_placeAfter : GoodIn wsX0_sounds (wsV RX0 90 RX0 yX0_placeAfter wsX0_placeAfter) := goodIn_app (goodIn_of _ (by decide +kernel)) ggX0_sounds_X0_placeAfter
set_option maxRecDepth 20000 in
theorem ggX0_sounds_X0_strengthAfter : GoodIn wsX0_sounds wsX0_strengthAfter := goodIn_r _ [28, 6, 29, 30, 31, 32, 33, 34, 35, 9, 10, 11, 4, 12, 13, 14, 15, 36, 37, 38, 39, 40, 41, 42, 43, 44, 45, 46, 47, 48, 20, 49, 50, 51, 52, 53, 54, 55, 56, 57, 58, 59, 60, 61, 62, 63, 64] (by decide +kernel) (by decide +kernel)
set_option maxRecDepth 20000 in
theorem gX0_sounds_X0_strengthAfter : GoodIn wsX0_sounds (wsV RX0 93 RX0 yX0_strengthAfter wsX0_strengthAfter) := goodIn_app (goodIn_of _ (by decide +kernel)) ggX0_sounds_X0_strengthAfter
theorem dX0_sounds_0 : decode cX0_sounds 0 = .ok (.aload_n 0, 1) := by decide +kernel
theorem dX0_sounds_1 : decode cX0_sounds 1 = .ok (.iload_n 1, 1) := by decide +kernel
theorem dX0_sounds_2 : decode cX0_sounds 2 = .ok (.iload_n 3, 1) := by decide +kernel
theorem dX0_sounds_3 : decode cX0_sounds 3 = .ok (.invokevirtual 90, 3) := by decide +kernel
theorem dX0_sounds_6 : decode cX0_sounds 6 = .ok (.iload_n 2, 1) := by decide +kernel
theorem dX0_sounds_7 : decode cX0_sounds 7 = .ok (.if_icmp .ne 16, 3) := by decide +kernel
theorem dX0_sounds_10 : decode cX0_sounds 10 = .ok (.aload_n 0, 1) := by decide +kernel
theorem dX0_sounds_11 : decode cX0_sounds 11 = .ok (.iload_n 1, 1) := by decide +kernel
theorem dX0_sounds_12 : decode cX0_sounds 12 = .ok (.iload_n 3, 1) := by decide +kernel
theorem dX0_sounds_13 : decode cX0_sounds 13 = .ok (.invokevirtual 93, 3) := by decide +kernel
theorem dX0_sounds_16 : decode cX0_sounds 16 = .ok (.ifCond .le 7, 3) := by decide +kernel
theorem dX0_sounds_19 : decode cX0_sounds 19 = .ok (.iconst 1, 1) := by decide +kernel
theorem dX0_sounds_20 : decode cX0_sounds 20 = .ok (.goto 4, 3) := by decide +kernel
theorem dX0_sounds_23 : decode cX0_sounds 23 = .ok (.iconst 0, 1) := by decide +kernel
theorem dX0_sounds_24 : decode cX0_sounds 24 = .ok (.ireturn, 1) := by decide +kernel
set_option maxRecDepth 20000 in
theorem ggX0_listen_X0_placeAfter : GoodIn wsX0_listen wsX0_placeAfter := goodIn_r _ [9, 1, 10, 11, 12, 13, 14, 8, 15, 16, 17, 18, 19, 20, 21, 22, 23, 24, 25, 26, 27, 52, 53, 54, 55, 56, 57, 58, 59, 60, 61, 62, 63, 64, 65, 66, 67] (by decide +kernel) (by decide +kernel)
set_option maxRecDepth 20000 in
theorem gX0_listen_X0_placeAfter : GoodIn wsX0_listen (wsV RX0 90 RX0 yX0_placeAfter wsX0_placeAfter) := goodIn_app (goodIn_of _ (by decide +kernel)) ggX0_listen_X0_placeAfter
set_option maxRecDepth 20000 in
theorem ggX0_listen_X0_strengthAfter : GoodIn wsX0_listen wsX0_strengthAfter := goodIn_r _ [31, 1, 32, 33, 34, 35, 36, 37, 38, 12, 13, 14, 8, 15, 16, 17, 18, 39, 40, 41, 42, 43, 44, 45, 46, 47, 48, 49, 50, 51, 23, 52, 53, 54, 55, 56, 57, 58, 59, 60, 61, 62, 63, 64, 65, 66, 67] (by decide +kernel) (by decide +kernel)
set_option maxRecDepth 20000 in
theorem gX0_listen_X0_strengthAfter : GoodIn wsX0_listen (wsV RX0 93 RX0 yX0_strengthAfter wsX0_strengthAfter) := goodIn_app (goodIn_of _ (by decide +kernel)) ggX0_listen_X0_strengthAfter
theorem dX0_listen_0 : decode cX0_listen 0 = .ok (.iconst 0, 1) := by decide +kernel
theorem dX0_listen_1 : decode cX0_listen 1 = .ok (.istore_n 2, 1) := by decide +kernel
theorem dX0_listen_2 : decode cX0_listen 2 = .ok (.iload_n 2, 1) := by decide +kernel
theorem dX0_listen_3 : decode cX0_listen 3 = .ok (.aload_n 0, 1) := by decide +kernel
theorem dX0_listen_4 : decode cX0_listen 4 = .ok (.getfield 21, 3) := by decide +kernel
theorem dX0_listen_7 : decode cX0_listen 7 = .ok (.getfield 42, 3) := by decide +kernel
theorem dX0_listen_10 : decode cX0_listen 10 = .ok (.if_icmp .ge 33, 3) := by decide +kernel
theorem dX0_listen_13 : decode cX0_listen 13 = .ok (.aload_n 0, 1) := by decide +kernel
theorem dX0_listen_14 : decode cX0_listen 14 = .ok (.getfield 25, 3) := by decide +kernel
theorem dX0_listen_17 : decode cX0_listen 17 = .ok (.iload_n 2, 1) := by decide +kernel
theorem dX0_listen_18 : decode cX0_listen 18 = .ok (.aload_n 0, 1) := by decide +kernel
theorem dX0_listen_19 : decode cX0_listen 19 = .ok (.iload_n 2, 1) := by decide +kernel
theorem dX0_listen_20 : decode cX0_listen 20 = .ok (.iload_n 1, 1) := by decide +kernel
theorem dX0_listen_21 : decode cX0_listen 21 = .ok (.invokevirtual 90, 3) := by decide +kernel
theorem dX0_listen_24 : decode cX0_listen 24 = .ok (.iastore, 1) := by decide +kernel
theorem dX0_listen_25 : decode cX0_listen 25 = .ok (.aload_n 0, 1) := by decide +kernel
theorem dX0_listen_26 : decode cX0_listen 26 = .ok (.getfield 29, 3) := by decide +kernel
theorem dX0_listen_29 : decode cX0_listen 29 = .ok (.iload_n 2, 1) := by decide +kernel
theorem dX0_listen_30 : decode cX0_listen 30 = .ok (.aload_n 0, 1) := by decide +kernel
theorem dX0_listen_31 : decode cX0_listen 31 = .ok (.iload_n 2, 1) := by decide +kernel
theorem dX0_listen_32 : decode cX0_listen 32 = .ok (.iload_n 1, 1) := by decide +kernel
theorem dX0_listen_33 : decode cX0_listen 33 = .ok (.invokevirtual 93, 3) := by decide +kernel
theorem dX0_listen_36 : decode cX0_listen 36 = .ok (.iastore, 1) := by decide +kernel
theorem dX0_listen_37 : decode cX0_listen 37 = .ok (.iinc 2 1, 3) := by decide +kernel
theorem dX0_listen_40 : decode cX0_listen 40 = .ok (.goto (-38), 3) := by decide +kernel
theorem dX0_listen_43 : decode cX0_listen 43 = .ok (.return_, 1) := by decide +kernel
theorem dX0_soundingAt_0 : decode cX0_soundingAt 0 = .ok (.iconst 0, 1) := by decide +kernel
theorem dX0_soundingAt_1 : decode cX0_soundingAt 1 = .ok (.istore_n 2, 1) := by decide +kernel
theorem dX0_soundingAt_2 : decode cX0_soundingAt 2 = .ok (.iconst 0, 1) := by decide +kernel
theorem dX0_soundingAt_3 : decode cX0_soundingAt 3 = .ok (.istore_n 3, 1) := by decide +kernel
theorem dX0_soundingAt_4 : decode cX0_soundingAt 4 = .ok (.iload_n 3, 1) := by decide +kernel
theorem dX0_soundingAt_5 : decode cX0_soundingAt 5 = .ok (.aload_n 0, 1) := by decide +kernel
theorem dX0_soundingAt_6 : decode cX0_soundingAt 6 = .ok (.getfield 21, 3) := by decide +kernel
theorem dX0_soundingAt_9 : decode cX0_soundingAt 9 = .ok (.getfield 42, 3) := by decide +kernel
theorem dX0_soundingAt_12 : decode cX0_soundingAt 12 = .ok (.if_icmp .ge 34, 3) := by decide +kernel
theorem dX0_soundingAt_15 : decode cX0_soundingAt 15 = .ok (.aload_n 0, 1) := by decide +kernel
theorem dX0_soundingAt_16 : decode cX0_soundingAt 16 = .ok (.getfield 25, 3) := by decide +kernel
theorem dX0_soundingAt_19 : decode cX0_soundingAt 19 = .ok (.iload_n 3, 1) := by decide +kernel
theorem dX0_soundingAt_20 : decode cX0_soundingAt 20 = .ok (.iaload, 1) := by decide +kernel
theorem dX0_soundingAt_21 : decode cX0_soundingAt 21 = .ok (.iload_n 1, 1) := by decide +kernel
theorem dX0_soundingAt_22 : decode cX0_soundingAt 22 = .ok (.if_icmp .ne 18, 3) := by decide +kernel
theorem dX0_soundingAt_25 : decode cX0_soundingAt 25 = .ok (.aload_n 0, 1) := by decide +kernel
theorem dX0_soundingAt_26 : decode cX0_soundingAt 26 = .ok (.getfield 29, 3) := by decide +kernel
theorem dX0_soundingAt_29 : decode cX0_soundingAt 29 = .ok (.iload_n 3, 1) := by decide +kernel
theorem dX0_soundingAt_30 : decode cX0_soundingAt 30 = .ok (.iaload, 1) := by decide +kernel
theorem dX0_soundingAt_31 : decode cX0_soundingAt 31 = .ok (.ifCond .le 9, 3) := by decide +kernel
theorem dX0_soundingAt_34 : decode cX0_soundingAt 34 = .ok (.iload_n 2, 1) := by decide +kernel
theorem dX0_soundingAt_35 : decode cX0_soundingAt 35 = .ok (.iconst 1, 1) := by decide +kernel
theorem dX0_soundingAt_36 : decode cX0_soundingAt 36 = .ok (.iload_n 3, 1) := by decide +kernel
theorem dX0_soundingAt_37 : decode cX0_soundingAt 37 = .ok (.ishl, 1) := by decide +kernel
theorem dX0_soundingAt_38 : decode cX0_soundingAt 38 = .ok (.ior, 1) := by decide +kernel
theorem dX0_soundingAt_39 : decode cX0_soundingAt 39 = .ok (.istore_n 2, 1) := by decide +kernel
theorem dX0_soundingAt_40 : decode cX0_soundingAt 40 = .ok (.iinc 3 1, 3) := by decide +kernel
theorem dX0_soundingAt_43 : decode cX0_soundingAt 43 = .ok (.goto (-39), 3) := by decide +kernel
theorem dX0_soundingAt_46 : decode cX0_soundingAt 46 = .ok (.iload_n 2, 1) := by decide +kernel
theorem dX0_soundingAt_47 : decode cX0_soundingAt 47 = .ok (.ireturn, 1) := by decide +kernel
theorem dX0_strengthAt_0 : decode cX0_strengthAt 0 = .ok (.iconst 0, 1) := by decide +kernel
theorem dX0_strengthAt_1 : decode cX0_strengthAt 1 = .ok (.istore_n 2, 1) := by decide +kernel
theorem dX0_strengthAt_2 : decode cX0_strengthAt 2 = .ok (.iconst 0, 1) := by decide +kernel
theorem dX0_strengthAt_3 : decode cX0_strengthAt 3 = .ok (.istore_n 3, 1) := by decide +kernel
theorem dX0_strengthAt_4 : decode cX0_strengthAt 4 = .ok (.iload_n 3, 1) := by decide +kernel
theorem dX0_strengthAt_5 : decode cX0_strengthAt 5 = .ok (.aload_n 0, 1) := by decide +kernel
theorem dX0_strengthAt_6 : decode cX0_strengthAt 6 = .ok (.getfield 21, 3) := by decide +kernel
theorem dX0_strengthAt_9 : decode cX0_strengthAt 9 = .ok (.getfield 42, 3) := by decide +kernel
theorem dX0_strengthAt_12 : decode cX0_strengthAt 12 = .ok (.if_icmp .ge 28, 3) := by decide +kernel
theorem dX0_strengthAt_15 : decode cX0_strengthAt 15 = .ok (.aload_n 0, 1) := by decide +kernel
theorem dX0_strengthAt_16 : decode cX0_strengthAt 16 = .ok (.getfield 25, 3) := by decide +kernel
theorem dX0_strengthAt_19 : decode cX0_strengthAt 19 = .ok (.iload_n 3, 1) := by decide +kernel
theorem dX0_strengthAt_20 : decode cX0_strengthAt 20 = .ok (.iaload, 1) := by decide +kernel
theorem dX0_strengthAt_21 : decode cX0_strengthAt 21 = .ok (.iload_n 1, 1) := by decide +kernel
theorem dX0_strengthAt_22 : decode cX0_strengthAt 22 = .ok (.if_icmp .ne 12, 3) := by decide +kernel
theorem dX0_strengthAt_25 : decode cX0_strengthAt 25 = .ok (.iload_n 2, 1) := by decide +kernel
theorem dX0_strengthAt_26 : decode cX0_strengthAt 26 = .ok (.aload_n 0, 1) := by decide +kernel
theorem dX0_strengthAt_27 : decode cX0_strengthAt 27 = .ok (.getfield 29, 3) := by decide +kernel
theorem dX0_strengthAt_30 : decode cX0_strengthAt 30 = .ok (.iload_n 3, 1) := by decide +kernel
theorem dX0_strengthAt_31 : decode cX0_strengthAt 31 = .ok (.iaload, 1) := by decide +kernel
theorem dX0_strengthAt_32 : decode cX0_strengthAt 32 = .ok (.iadd, 1) := by decide +kernel
theorem dX0_strengthAt_33 : decode cX0_strengthAt 33 = .ok (.istore_n 2, 1) := by decide +kernel
theorem dX0_strengthAt_34 : decode cX0_strengthAt 34 = .ok (.iinc 3 1, 3) := by decide +kernel
theorem dX0_strengthAt_37 : decode cX0_strengthAt 37 = .ok (.goto (-33), 3) := by decide +kernel
theorem dX0_strengthAt_40 : decode cX0_strengthAt 40 = .ok (.iload_n 2, 1) := by decide +kernel
theorem dX0_strengthAt_41 : decode cX0_strengthAt 41 = .ok (.ireturn, 1) := by decide +kernel
set_option maxRecDepth 20000 in
theorem ggX0_clearAt_X0_strengthAt : GoodIn wsX0_clearAt wsX0_strengthAt := goodIn_r _ [9, 1, 2, 3, 4, 10, 11, 12, 13, 14, 15, 16, 17, 18, 19, 20, 21, 22, 23, 24, 25] (by decide +kernel) (by decide +kernel)
set_option maxRecDepth 20000 in
theorem gX0_clearAt_X0_strengthAt : GoodIn wsX0_clearAt (wsV RX0 96 RX0 yX0_strengthAt wsX0_strengthAt) := goodIn_app (goodIn_of _ (by decide +kernel)) ggX0_clearAt_X0_strengthAt
theorem dX0_clearAt_0 : decode cX0_clearAt 0 = .ok (.aload_n 0, 1) := by decide +kernel
theorem dX0_clearAt_1 : decode cX0_clearAt 1 = .ok (.iload_n 1, 1) := by decide +kernel
theorem dX0_clearAt_2 : decode cX0_clearAt 2 = .ok (.invokevirtual 96, 3) := by decide +kernel
theorem dX0_clearAt_5 : decode cX0_clearAt 5 = .ok (.istore_n 2, 1) := by decide +kernel
theorem dX0_clearAt_6 : decode cX0_clearAt 6 = .ok (.iconst 0, 1) := by decide +kernel
theorem dX0_clearAt_7 : decode cX0_clearAt 7 = .ok (.istore_n 3, 1) := by decide +kernel
theorem dX0_clearAt_8 : decode cX0_clearAt 8 = .ok (.iload_n 3, 1) := by decide +kernel
theorem dX0_clearAt_9 : decode cX0_clearAt 9 = .ok (.aload_n 0, 1) := by decide +kernel
theorem dX0_clearAt_10 : decode cX0_clearAt 10 = .ok (.getfield 21, 3) := by decide +kernel
theorem dX0_clearAt_13 : decode cX0_clearAt 13 = .ok (.getfield 42, 3) := by decide +kernel
theorem dX0_clearAt_16 : decode cX0_clearAt 16 = .ok (.if_icmp .ge 33, 3) := by decide +kernel
theorem dX0_clearAt_19 : decode cX0_clearAt 19 = .ok (.aload_n 0, 1) := by decide +kernel
theorem dX0_clearAt_20 : decode cX0_clearAt 20 = .ok (.getfield 25, 3) := by decide +kernel
theorem dX0_clearAt_23 : decode cX0_clearAt 23 = .ok (.iload_n 3, 1) := by decide +kernel
theorem dX0_clearAt_24 : decode cX0_clearAt 24 = .ok (.iaload, 1) := by decide +kernel
theorem dX0_clearAt_25 : decode cX0_clearAt 25 = .ok (.iload_n 1, 1) := by decide +kernel
theorem dX0_clearAt_26 : decode cX0_clearAt 26 = .ok (.if_icmp .ne 17, 3) := by decide +kernel
theorem dX0_clearAt_29 : decode cX0_clearAt 29 = .ok (.iconst 2, 1) := by decide +kernel
theorem dX0_clearAt_30 : decode cX0_clearAt 30 = .ok (.aload_n 0, 1) := by decide +kernel
theorem dX0_clearAt_31 : decode cX0_clearAt 31 = .ok (.getfield 29, 3) := by decide +kernel
theorem dX0_clearAt_34 : decode cX0_clearAt 34 = .ok (.iload_n 3, 1) := by decide +kernel
theorem dX0_clearAt_35 : decode cX0_clearAt 35 = .ok (.iaload, 1) := by decide +kernel
theorem dX0_clearAt_36 : decode cX0_clearAt 36 = .ok (.imul, 1) := by decide +kernel
theorem dX0_clearAt_37 : decode cX0_clearAt 37 = .ok (.iload_n 2, 1) := by decide +kernel
theorem dX0_clearAt_38 : decode cX0_clearAt 38 = .ok (.if_icmp .le 5, 3) := by decide +kernel
theorem dX0_clearAt_41 : decode cX0_clearAt 41 = .ok (.iload_n 3, 1) := by decide +kernel
theorem dX0_clearAt_42 : decode cX0_clearAt 42 = .ok (.ireturn, 1) := by decide +kernel
theorem dX0_clearAt_43 : decode cX0_clearAt 43 = .ok (.iinc 3 1, 3) := by decide +kernel
theorem dX0_clearAt_46 : decode cX0_clearAt 46 = .ok (.goto (-38), 3) := by decide +kernel
theorem dX0_clearAt_49 : decode cX0_clearAt 49 = .ok (.bipush (-9), 2) := by decide +kernel
theorem dX0_clearAt_51 : decode cX0_clearAt 51 = .ok (.ireturn, 1) := by decide +kernel
set_option maxRecDepth 20000 in
theorem ggX0_isSea_X0_soundingAt : GoodIn wsX0_isSea wsX0_soundingAt := goodIn_r _ [5, 6, 7, 8, 9, 18, 19, 20, 21, 22, 23, 24, 25, 26, 27, 28, 29, 30, 31, 32, 33] (by decide +kernel) (by decide +kernel)
set_option maxRecDepth 20000 in
theorem gX0_isSea_X0_soundingAt : GoodIn wsX0_isSea (wsV RX0 99 RX0 yX0_soundingAt wsX0_soundingAt) := goodIn_app (goodIn_of _ (by decide +kernel)) ggX0_isSea_X0_soundingAt
set_option maxRecDepth 20000 in
theorem ggX0_isSea_X0_clearAt : GoodIn wsX0_isSea wsX0_clearAt := goodIn_r _ [13, 6, 7, 8, 9, 14, 15, 16, 4, 17, 18, 19, 20, 21, 22, 23, 24, 25, 26, 27, 28, 29, 30, 31, 32, 33] (by decide +kernel) (by decide +kernel)
set_option maxRecDepth 20000 in
theorem gX0_isSea_X0_clearAt : GoodIn wsX0_isSea (wsV RX0 102 RX0 yX0_clearAt wsX0_clearAt) := goodIn_app (goodIn_of _ (by decide +kernel)) ggX0_isSea_X0_clearAt
theorem dX0_isSea_0 : decode cX0_isSea 0 = .ok (.aload_n 0, 1) := by decide +kernel
theorem dX0_isSea_1 : decode cX0_isSea 1 = .ok (.iload_n 1, 1) := by decide +kernel
theorem dX0_isSea_2 : decode cX0_isSea 2 = .ok (.invokevirtual 99, 3) := by decide +kernel
theorem dX0_isSea_5 : decode cX0_isSea 5 = .ok (.ifCond .eq 17, 3) := by decide +kernel
theorem dX0_isSea_8 : decode cX0_isSea 8 = .ok (.aload_n 0, 1) := by decide +kernel
theorem dX0_isSea_9 : decode cX0_isSea 9 = .ok (.iload_n 1, 1) := by decide +kernel
theorem dX0_isSea_10 : decode cX0_isSea 10 = .ok (.invokevirtual 102, 3) := by decide +kernel
theorem dX0_isSea_13 : decode cX0_isSea 13 = .ok (.bipush (-9), 2) := by decide +kernel
theorem dX0_isSea_15 : decode cX0_isSea 15 = .ok (.if_icmp .ne 7, 3) := by decide +kernel
theorem dX0_isSea_18 : decode cX0_isSea 18 = .ok (.iconst 1, 1) := by decide +kernel
theorem dX0_isSea_19 : decode cX0_isSea 19 = .ok (.goto 4, 3) := by decide +kernel
theorem dX0_isSea_22 : decode cX0_isSea 22 = .ok (.iconst 0, 1) := by decide +kernel
theorem dX0_isSea_23 : decode cX0_isSea 23 = .ok (.ireturn, 1) := by decide +kernel
theorem dX0_lasting_0 : decode cX0_lasting 0 = .ok (.iconst 0, 1) := by decide +kernel
theorem dX0_lasting_1 : decode cX0_lasting 1 = .ok (.istore_n 1, 1) := by decide +kernel
theorem dX0_lasting_2 : decode cX0_lasting 2 = .ok (.iconst 0, 1) := by decide +kernel
theorem dX0_lasting_3 : decode cX0_lasting 3 = .ok (.istore_n 2, 1) := by decide +kernel
theorem dX0_lasting_4 : decode cX0_lasting 4 = .ok (.iload_n 2, 1) := by decide +kernel
theorem dX0_lasting_5 : decode cX0_lasting 5 = .ok (.aload_n 0, 1) := by decide +kernel
theorem dX0_lasting_6 : decode cX0_lasting 6 = .ok (.getfield 21, 3) := by decide +kernel
theorem dX0_lasting_9 : decode cX0_lasting 9 = .ok (.getfield 42, 3) := by decide +kernel
theorem dX0_lasting_12 : decode cX0_lasting 12 = .ok (.if_icmp .ge 24, 3) := by decide +kernel
theorem dX0_lasting_15 : decode cX0_lasting 15 = .ok (.aload_n 0, 1) := by decide +kernel
theorem dX0_lasting_16 : decode cX0_lasting 16 = .ok (.getfield 29, 3) := by decide +kernel
theorem dX0_lasting_19 : decode cX0_lasting 19 = .ok (.iload_n 2, 1) := by decide +kernel
theorem dX0_lasting_20 : decode cX0_lasting 20 = .ok (.iaload, 1) := by decide +kernel
theorem dX0_lasting_21 : decode cX0_lasting 21 = .ok (.ifCond .le 9, 3) := by decide +kernel
theorem dX0_lasting_24 : decode cX0_lasting 24 = .ok (.iload_n 1, 1) := by decide +kernel
theorem dX0_lasting_25 : decode cX0_lasting 25 = .ok (.iconst 1, 1) := by decide +kernel
theorem dX0_lasting_26 : decode cX0_lasting 26 = .ok (.iload_n 2, 1) := by decide +kernel
theorem dX0_lasting_27 : decode cX0_lasting 27 = .ok (.ishl, 1) := by decide +kernel
theorem dX0_lasting_28 : decode cX0_lasting 28 = .ok (.ior, 1) := by decide +kernel
theorem dX0_lasting_29 : decode cX0_lasting 29 = .ok (.istore_n 1, 1) := by decide +kernel
theorem dX0_lasting_30 : decode cX0_lasting 30 = .ok (.iinc 2 1, 3) := by decide +kernel
theorem dX0_lasting_33 : decode cX0_lasting 33 = .ok (.goto (-29), 3) := by decide +kernel
theorem dX0_lasting_36 : decode cX0_lasting 36 = .ok (.iload_n 1, 1) := by decide +kernel
theorem dX0_lasting_37 : decode cX0_lasting 37 = .ok (.ireturn, 1) := by decide +kernel
theorem dX0_strengthOf_0 : decode cX0_strengthOf 0 = .ok (.iconst 0, 1) := by decide +kernel
theorem dX0_strengthOf_1 : decode cX0_strengthOf 1 = .ok (.istore_n 2, 1) := by decide +kernel
theorem dX0_strengthOf_2 : decode cX0_strengthOf 2 = .ok (.iconst 0, 1) := by decide +kernel
theorem dX0_strengthOf_3 : decode cX0_strengthOf 3 = .ok (.istore_n 3, 1) := by decide +kernel
theorem dX0_strengthOf_4 : decode cX0_strengthOf 4 = .ok (.iload_n 3, 1) := by decide +kernel
theorem dX0_strengthOf_5 : decode cX0_strengthOf 5 = .ok (.aload_n 0, 1) := by decide +kernel
theorem dX0_strengthOf_6 : decode cX0_strengthOf 6 = .ok (.getfield 21, 3) := by decide +kernel
theorem dX0_strengthOf_9 : decode cX0_strengthOf 9 = .ok (.getfield 42, 3) := by decide +kernel
theorem dX0_strengthOf_12 : decode cX0_strengthOf 12 = .ok (.if_icmp .ge 27, 3) := by decide +kernel
theorem dX0_strengthOf_15 : decode cX0_strengthOf 15 = .ok (.iload_n 1, 1) := by decide +kernel
theorem dX0_strengthOf_16 : decode cX0_strengthOf 16 = .ok (.iload_n 3, 1) := by decide +kernel
theorem dX0_strengthOf_17 : decode cX0_strengthOf 17 = .ok (.ishr, 1) := by decide +kernel
theorem dX0_strengthOf_18 : decode cX0_strengthOf 18 = .ok (.iconst 1, 1) := by decide +kernel
theorem dX0_strengthOf_19 : decode cX0_strengthOf 19 = .ok (.iand, 1) := by decide +kernel
theorem dX0_strengthOf_20 : decode cX0_strengthOf 20 = .ok (.iconst 1, 1) := by decide +kernel
theorem dX0_strengthOf_21 : decode cX0_strengthOf 21 = .ok (.if_icmp .ne 12, 3) := by decide +kernel
theorem dX0_strengthOf_24 : decode cX0_strengthOf 24 = .ok (.iload_n 2, 1) := by decide +kernel
theorem dX0_strengthOf_25 : decode cX0_strengthOf 25 = .ok (.aload_n 0, 1) := by decide +kernel
theorem dX0_strengthOf_26 : decode cX0_strengthOf 26 = .ok (.getfield 29, 3) := by decide +kernel
theorem dX0_strengthOf_29 : decode cX0_strengthOf 29 = .ok (.iload_n 3, 1) := by decide +kernel
theorem dX0_strengthOf_30 : decode cX0_strengthOf 30 = .ok (.iaload, 1) := by decide +kernel
theorem dX0_strengthOf_31 : decode cX0_strengthOf 31 = .ok (.iadd, 1) := by decide +kernel
theorem dX0_strengthOf_32 : decode cX0_strengthOf 32 = .ok (.istore_n 2, 1) := by decide +kernel
theorem dX0_strengthOf_33 : decode cX0_strengthOf 33 = .ok (.iinc 3 1, 3) := by decide +kernel
theorem dX0_strengthOf_36 : decode cX0_strengthOf 36 = .ok (.goto (-32), 3) := by decide +kernel
theorem dX0_strengthOf_39 : decode cX0_strengthOf 39 = .ok (.iload_n 2, 1) := by decide +kernel
theorem dX0_strengthOf_40 : decode cX0_strengthOf 40 = .ok (.ireturn, 1) := by decide +kernel
set_option maxRecDepth 20000 in
theorem ggX0_placesThatSound_X0_soundingAt : GoodIn wsX0_placesThatSound wsX0_soundingAt := goodIn_r _ [6, 7, 8, 9, 10, 11, 12, 13, 14, 15, 16, 17, 18, 19, 20, 21, 22, 23, 24, 25, 26] (by decide +kernel) (by decide +kernel)
set_option maxRecDepth 20000 in
theorem gX0_placesThatSound_X0_soundingAt : GoodIn wsX0_placesThatSound (wsV RX0 99 RX0 yX0_soundingAt wsX0_soundingAt) := goodIn_app (goodIn_of _ (by decide +kernel)) ggX0_placesThatSound_X0_soundingAt
theorem dX0_placesThatSound_0 : decode cX0_placesThatSound 0 = .ok (.iconst 0, 1) := by decide +kernel
theorem dX0_placesThatSound_1 : decode cX0_placesThatSound 1 = .ok (.istore_n 1, 1) := by decide +kernel
theorem dX0_placesThatSound_2 : decode cX0_placesThatSound 2 = .ok (.iconst 0, 1) := by decide +kernel
theorem dX0_placesThatSound_3 : decode cX0_placesThatSound 3 = .ok (.istore_n 2, 1) := by decide +kernel
theorem dX0_placesThatSound_4 : decode cX0_placesThatSound 4 = .ok (.iload_n 2, 1) := by decide +kernel
theorem dX0_placesThatSound_5 : decode cX0_placesThatSound 5 = .ok (.aload_n 0, 1) := by decide +kernel
theorem dX0_placesThatSound_6 : decode cX0_placesThatSound 6 = .ok (.getfield 9, 3) := by decide +kernel
theorem dX0_placesThatSound_9 : decode cX0_placesThatSound 9 = .ok (.if_icmp .ge 20, 3) := by decide +kernel
theorem dX0_placesThatSound_12 : decode cX0_placesThatSound 12 = .ok (.aload_n 0, 1) := by decide +kernel
theorem dX0_placesThatSound_13 : decode cX0_placesThatSound 13 = .ok (.iload_n 2, 1) := by decide +kernel
theorem dX0_placesThatSound_14 : decode cX0_placesThatSound 14 = .ok (.invokevirtual 99, 3) := by decide +kernel
theorem dX0_placesThatSound_17 : decode cX0_placesThatSound 17 = .ok (.ifCond .eq 6, 3) := by decide +kernel
theorem dX0_placesThatSound_20 : decode cX0_placesThatSound 20 = .ok (.iinc 1 1, 3) := by decide +kernel
theorem dX0_placesThatSound_23 : decode cX0_placesThatSound 23 = .ok (.iinc 2 1, 3) := by decide +kernel
theorem dX0_placesThatSound_26 : decode cX0_placesThatSound 26 = .ok (.goto (-22), 3) := by decide +kernel
theorem dX0_placesThatSound_29 : decode cX0_placesThatSound 29 = .ok (.iload_n 1, 1) := by decide +kernel
theorem dX0_placesThatSound_30 : decode cX0_placesThatSound 30 = .ok (.ireturn, 1) := by decide +kernel
set_option maxRecDepth 20000 in
theorem ggX0_seas_X0_isSea : GoodIn wsX0_seas wsX0_isSea := goodIn_r _ [6, 7, 8, 9, 5, 10, 11, 12, 13, 14, 15, 16, 17, 18, 19, 20, 21, 22, 23, 24, 25, 26, 27, 28, 29, 30, 31, 32, 33, 34, 35, 36, 37, 38] (by decide +kernel) (by decide +kernel)
set_option maxRecDepth 20000 in
theorem gX0_seas_X0_isSea : GoodIn wsX0_seas (wsV RX0 105 RX0 yX0_isSea wsX0_isSea) := goodIn_app (goodIn_of _ (by decide +kernel)) ggX0_seas_X0_isSea
theorem dX0_seas_0 : decode cX0_seas 0 = .ok (.iconst 0, 1) := by decide +kernel
theorem dX0_seas_1 : decode cX0_seas 1 = .ok (.istore_n 1, 1) := by decide +kernel
theorem dX0_seas_2 : decode cX0_seas 2 = .ok (.iconst 0, 1) := by decide +kernel
theorem dX0_seas_3 : decode cX0_seas 3 = .ok (.istore_n 2, 1) := by decide +kernel
theorem dX0_seas_4 : decode cX0_seas 4 = .ok (.iload_n 2, 1) := by decide +kernel
theorem dX0_seas_5 : decode cX0_seas 5 = .ok (.aload_n 0, 1) := by decide +kernel
theorem dX0_seas_6 : decode cX0_seas 6 = .ok (.getfield 9, 3) := by decide +kernel
theorem dX0_seas_9 : decode cX0_seas 9 = .ok (.if_icmp .ge 20, 3) := by decide +kernel
theorem dX0_seas_12 : decode cX0_seas 12 = .ok (.aload_n 0, 1) := by decide +kernel
theorem dX0_seas_13 : decode cX0_seas 13 = .ok (.iload_n 2, 1) := by decide +kernel
theorem dX0_seas_14 : decode cX0_seas 14 = .ok (.invokevirtual 105, 3) := by decide +kernel
theorem dX0_seas_17 : decode cX0_seas 17 = .ok (.ifCond .eq 6, 3) := by decide +kernel
theorem dX0_seas_20 : decode cX0_seas 20 = .ok (.iinc 1 1, 3) := by decide +kernel
theorem dX0_seas_23 : decode cX0_seas 23 = .ok (.iinc 2 1, 3) := by decide +kernel
theorem dX0_seas_26 : decode cX0_seas 26 = .ok (.goto (-22), 3) := by decide +kernel
theorem dX0_seas_29 : decode cX0_seas 29 = .ok (.iload_n 1, 1) := by decide +kernel
theorem dX0_seas_30 : decode cX0_seas 30 = .ok (.ireturn, 1) := by decide +kernel
set_option maxRecDepth 20000 in
theorem ggX0_fewestToHush_X0_soundingAt : GoodIn wsX0_fewestToHush wsX0_soundingAt := goodIn_r _ [7, 8, 9, 1, 2, 21, 22, 23, 24, 25, 26, 27, 28, 29, 30, 31, 32, 33, 34, 35, 36] (by decide +kernel) (by decide +kernel)
set_option maxRecDepth 20000 in
theorem gX0_fewestToHush_X0_soundingAt : GoodIn wsX0_fewestToHush (wsV RX0 99 RX0 yX0_soundingAt wsX0_soundingAt) := goodIn_app (goodIn_of _ (by decide +kernel)) ggX0_fewestToHush_X0_soundingAt
set_option maxRecDepth 20000 in
theorem ggX0_fewestToHush_J6_bitCount_0f7a4 : GoodIn wsX0_fewestToHush wsJ6_bitCount_0f7a4 := goodIn_r _ [13, 14, 15, 16] (by decide +kernel) (by decide +kernel)
set_option maxRecDepth 20000 in
theorem gX0_fewestToHush_J6_bitCount_0f7a4 : GoodIn wsX0_fewestToHush (va_wsS RX0 108 yJ6_bitCount_0f7a4 wsJ6_bitCount_0f7a4) := goodIn_app (goodIn_of _ (by decide +kernel)) ggX0_fewestToHush_J6_bitCount_0f7a4
set_option maxRecDepth 20000 in
theorem ggX0_fewestToHush_X0_strengthOf : GoodIn wsX0_fewestToHush wsX0_strengthOf := goodIn_r _ [20, 8, 9, 2, 21, 22, 23, 24, 25, 26, 27, 28, 29, 30, 31, 32, 33, 34, 35, 36] (by decide +kernel) (by decide +kernel)
set_option maxRecDepth 20000 in
theorem gX0_fewestToHush_X0_strengthOf : GoodIn wsX0_fewestToHush (wsV RX0 113 RX0 yX0_strengthOf wsX0_strengthOf) := goodIn_app (goodIn_of _ (by decide +kernel)) ggX0_fewestToHush_X0_strengthOf
theorem dX0_fewestToHush_0 : decode cX0_fewestToHush 0 = .ok (.aload_n 0, 1) := by decide +kernel
theorem dX0_fewestToHush_1 : decode cX0_fewestToHush 1 = .ok (.aload_n 0, 1) := by decide +kernel
theorem dX0_fewestToHush_2 : decode cX0_fewestToHush 2 = .ok (.getfield 25, 3) := by decide +kernel
theorem dX0_fewestToHush_5 : decode cX0_fewestToHush 5 = .ok (.iload_n 1, 1) := by decide +kernel
theorem dX0_fewestToHush_6 : decode cX0_fewestToHush 6 = .ok (.iaload, 1) := by decide +kernel
theorem dX0_fewestToHush_7 : decode cX0_fewestToHush 7 = .ok (.invokevirtual 99, 3) := by decide +kernel
theorem dX0_fewestToHush_10 : decode cX0_fewestToHush 10 = .ok (.iconst 1, 1) := by decide +kernel
theorem dX0_fewestToHush_11 : decode cX0_fewestToHush 11 = .ok (.iload_n 1, 1) := by decide +kernel
theorem dX0_fewestToHush_12 : decode cX0_fewestToHush 12 = .ok (.ishl, 1) := by decide +kernel
theorem dX0_fewestToHush_13 : decode cX0_fewestToHush 13 = .ok (.iconst (-1), 1) := by decide +kernel
theorem dX0_fewestToHush_14 : decode cX0_fewestToHush 14 = .ok (.ixor, 1) := by decide +kernel
theorem dX0_fewestToHush_15 : decode cX0_fewestToHush 15 = .ok (.iand, 1) := by decide +kernel
theorem dX0_fewestToHush_16 : decode cX0_fewestToHush 16 = .ok (.istore_n 2, 1) := by decide +kernel
theorem dX0_fewestToHush_17 : decode cX0_fewestToHush 17 = .ok (.iload_n 2, 1) := by decide +kernel
theorem dX0_fewestToHush_18 : decode cX0_fewestToHush 18 = .ok (.istore_n 3, 1) := by decide +kernel
theorem dX0_fewestToHush_19 : decode cX0_fewestToHush 19 = .ok (.iconst 0, 1) := by decide +kernel
theorem dX0_fewestToHush_20 : decode cX0_fewestToHush 20 = .ok (.istore 4, 2) := by decide +kernel
theorem dX0_fewestToHush_22 : decode cX0_fewestToHush 22 = .ok (.iload 4, 2) := by decide +kernel
theorem dX0_fewestToHush_24 : decode cX0_fewestToHush 24 = .ok (.iload_n 2, 1) := by decide +kernel
theorem dX0_fewestToHush_25 : decode cX0_fewestToHush 25 = .ok (.if_icmp .gt 64, 3) := by decide +kernel
theorem dX0_fewestToHush_28 : decode cX0_fewestToHush 28 = .ok (.iload 4, 2) := by decide +kernel
theorem dX0_fewestToHush_30 : decode cX0_fewestToHush 30 = .ok (.invokestatic 108, 3) := by decide +kernel
theorem dX0_fewestToHush_33 : decode cX0_fewestToHush 33 = .ok (.iload_n 3, 1) := by decide +kernel
theorem dX0_fewestToHush_34 : decode cX0_fewestToHush 34 = .ok (.invokestatic 108, 3) := by decide +kernel
theorem dX0_fewestToHush_37 : decode cX0_fewestToHush 37 = .ok (.if_icmp .ge 7, 3) := by decide +kernel
theorem dX0_fewestToHush_40 : decode cX0_fewestToHush 40 = .ok (.iconst 1, 1) := by decide +kernel
theorem dX0_fewestToHush_41 : decode cX0_fewestToHush 41 = .ok (.goto 4, 3) := by decide +kernel
theorem dX0_fewestToHush_44 : decode cX0_fewestToHush 44 = .ok (.iconst 0, 1) := by decide +kernel
theorem dX0_fewestToHush_45 : decode cX0_fewestToHush 45 = .ok (.istore 5, 2) := by decide +kernel
theorem dX0_fewestToHush_47 : decode cX0_fewestToHush 47 = .ok (.iload 5, 2) := by decide +kernel
theorem dX0_fewestToHush_49 : decode cX0_fewestToHush 49 = .ok (.ifCond .eq 34, 3) := by decide +kernel
theorem dX0_fewestToHush_52 : decode cX0_fewestToHush 52 = .ok (.iload 4, 2) := by decide +kernel
theorem dX0_fewestToHush_54 : decode cX0_fewestToHush 54 = .ok (.iload_n 2, 1) := by decide +kernel
theorem dX0_fewestToHush_55 : decode cX0_fewestToHush 55 = .ok (.iconst (-1), 1) := by decide +kernel
theorem dX0_fewestToHush_56 : decode cX0_fewestToHush 56 = .ok (.ixor, 1) := by decide +kernel
theorem dX0_fewestToHush_57 : decode cX0_fewestToHush 57 = .ok (.iand, 1) := by decide +kernel
theorem dX0_fewestToHush_58 : decode cX0_fewestToHush 58 = .ok (.ifCond .ne 25, 3) := by decide +kernel
theorem dX0_fewestToHush_61 : decode cX0_fewestToHush 61 = .ok (.aload_n 0, 1) := by decide +kernel
theorem dX0_fewestToHush_62 : decode cX0_fewestToHush 62 = .ok (.getfield 29, 3) := by decide +kernel
theorem dX0_fewestToHush_65 : decode cX0_fewestToHush 65 = .ok (.iload_n 1, 1) := by decide +kernel
theorem dX0_fewestToHush_66 : decode cX0_fewestToHush 66 = .ok (.iaload, 1) := by decide +kernel
theorem dX0_fewestToHush_67 : decode cX0_fewestToHush 67 = .ok (.aload_n 0, 1) := by decide +kernel
theorem dX0_fewestToHush_68 : decode cX0_fewestToHush 68 = .ok (.iload_n 2, 1) := by decide +kernel
theorem dX0_fewestToHush_69 : decode cX0_fewestToHush 69 = .ok (.iload 4, 2) := by decide +kernel
theorem dX0_fewestToHush_71 : decode cX0_fewestToHush 71 = .ok (.iconst (-1), 1) := by decide +kernel
theorem dX0_fewestToHush_72 : decode cX0_fewestToHush 72 = .ok (.ixor, 1) := by decide +kernel
theorem dX0_fewestToHush_73 : decode cX0_fewestToHush 73 = .ok (.iand, 1) := by decide +kernel
theorem dX0_fewestToHush_74 : decode cX0_fewestToHush 74 = .ok (.invokevirtual 113, 3) := by decide +kernel
theorem dX0_fewestToHush_77 : decode cX0_fewestToHush 77 = .ok (.if_icmp .le 6, 3) := by decide +kernel
theorem dX0_fewestToHush_80 : decode cX0_fewestToHush 80 = .ok (.iload 4, 2) := by decide +kernel
theorem dX0_fewestToHush_82 : decode cX0_fewestToHush 82 = .ok (.istore_n 3, 1) := by decide +kernel
theorem dX0_fewestToHush_83 : decode cX0_fewestToHush 83 = .ok (.iinc 4 1, 3) := by decide +kernel
theorem dX0_fewestToHush_86 : decode cX0_fewestToHush 86 = .ok (.goto (-64), 3) := by decide +kernel
theorem dX0_fewestToHush_89 : decode cX0_fewestToHush 89 = .ok (.iload_n 3, 1) := by decide +kernel
theorem dX0_fewestToHush_90 : decode cX0_fewestToHush 90 = .ok (.ireturn, 1) := by decide +kernel
set_option maxRecDepth 20000 in
theorem ggX0_lastOf_X0_strengthAfter : GoodIn wsX0_lastOf wsX0_strengthAfter := goodIn_r _ [5, 6, 7, 8, 9, 10, 11, 12, 13, 14, 15, 16, 4, 17, 18, 19, 20, 21, 22, 23, 24, 25, 26, 27, 28, 29, 30, 31, 32, 33, 34, 35, 36, 37, 38, 39, 40, 41, 42, 43, 44, 45, 46, 47, 48, 49, 50] (by decide +kernel) (by decide +kernel)
set_option maxRecDepth 20000 in
theorem gX0_lastOf_X0_strengthAfter : GoodIn wsX0_lastOf (wsV RX0 93 RX0 yX0_strengthAfter wsX0_strengthAfter) := goodIn_app (goodIn_of _ (by decide +kernel)) ggX0_lastOf_X0_strengthAfter
theorem dX0_lastOf_0 : decode cX0_lastOf 0 = .ok (.iconst 0, 1) := by decide +kernel
theorem dX0_lastOf_1 : decode cX0_lastOf 1 = .ok (.istore_n 2, 1) := by decide +kernel
theorem dX0_lastOf_2 : decode cX0_lastOf 2 = .ok (.iload_n 2, 1) := by decide +kernel
theorem dX0_lastOf_3 : decode cX0_lastOf 3 = .ok (.sipush 999, 3) := by decide +kernel
theorem dX0_lastOf_6 : decode cX0_lastOf 6 = .ok (.if_icmp .gt 20, 3) := by decide +kernel
theorem dX0_lastOf_9 : decode cX0_lastOf 9 = .ok (.aload_n 0, 1) := by decide +kernel
theorem dX0_lastOf_10 : decode cX0_lastOf 10 = .ok (.iload_n 1, 1) := by decide +kernel
theorem dX0_lastOf_11 : decode cX0_lastOf 11 = .ok (.iload_n 2, 1) := by decide +kernel
theorem dX0_lastOf_12 : decode cX0_lastOf 12 = .ok (.invokevirtual 93, 3) := by decide +kernel
theorem dX0_lastOf_15 : decode cX0_lastOf 15 = .ok (.ifCond .ne 5, 3) := by decide +kernel
theorem dX0_lastOf_18 : decode cX0_lastOf 18 = .ok (.iload_n 2, 1) := by decide +kernel
theorem dX0_lastOf_19 : decode cX0_lastOf 19 = .ok (.ireturn, 1) := by decide +kernel
theorem dX0_lastOf_20 : decode cX0_lastOf 20 = .ok (.iinc 2 1, 3) := by decide +kernel
theorem dX0_lastOf_23 : decode cX0_lastOf 23 = .ok (.goto (-21), 3) := by decide +kernel
theorem dX0_lastOf_26 : decode cX0_lastOf 26 = .ok (.bipush (-9), 2) := by decide +kernel
theorem dX0_lastOf_28 : decode cX0_lastOf 28 = .ok (.ireturn, 1) := by decide +kernel
set_option maxRecDepth 20000 in
theorem ggX0_quietOf_X0_listen : GoodIn wsX0_quietOf wsX0_listen := goodIn_r _ [5, 6, 7, 8, 9, 10, 11, 12, 4, 13, 14, 15, 16, 17, 18, 19, 20, 21, 22, 23, 24, 25, 26, 27, 28, 29, 30, 31, 32, 33, 34, 35, 36, 37, 38, 39, 40, 41, 42, 43, 44, 45, 46, 47, 48, 49, 50, 51, 52, 53, 54, 55, 60, 61, 62, 63, 64, 65, 66, 67, 68, 69, 70, 71, 72, 73, 74, 75] (by decide +kernel) (by decide +kernel)
set_option maxRecDepth 20000 in
theorem gX0_quietOf_X0_listen : GoodIn wsX0_quietOf (wsV RX0 116 RX0 yX0_listen wsX0_listen) := goodIn_app (goodIn_of _ (by decide +kernel)) ggX0_quietOf_X0_listen
set_option maxRecDepth 20000 in
theorem ggX0_quietOf_X0_soundingAt : GoodIn wsX0_quietOf wsX0_soundingAt := goodIn_r _ [59, 6, 7, 8, 9, 60, 61, 62, 63, 64, 65, 66, 67, 68, 69, 70, 71, 72, 73, 74, 75] (by decide +kernel) (by decide +kernel)
set_option maxRecDepth 20000 in
theorem gX0_quietOf_X0_soundingAt : GoodIn wsX0_quietOf (wsV RX0 99 RX0 yX0_soundingAt wsX0_soundingAt) := goodIn_app (goodIn_of _ (by decide +kernel)) ggX0_quietOf_X0_soundingAt
theorem dX0_quietOf_0 : decode cX0_quietOf 0 = .ok (.iconst 0, 1) := by decide +kernel
theorem dX0_quietOf_1 : decode cX0_quietOf 1 = .ok (.istore_n 2, 1) := by decide +kernel
theorem dX0_quietOf_2 : decode cX0_quietOf 2 = .ok (.iload_n 2, 1) := by decide +kernel
theorem dX0_quietOf_3 : decode cX0_quietOf 3 = .ok (.bipush 99, 2) := by decide +kernel
theorem dX0_quietOf_5 : decode cX0_quietOf 5 = .ok (.if_icmp .gt 24, 3) := by decide +kernel
theorem dX0_quietOf_8 : decode cX0_quietOf 8 = .ok (.aload_n 0, 1) := by decide +kernel
theorem dX0_quietOf_9 : decode cX0_quietOf 9 = .ok (.iload_n 2, 1) := by decide +kernel
theorem dX0_quietOf_10 : decode cX0_quietOf 10 = .ok (.invokevirtual 116, 3) := by decide +kernel
theorem dX0_quietOf_13 : decode cX0_quietOf 13 = .ok (.aload_n 0, 1) := by decide +kernel
theorem dX0_quietOf_14 : decode cX0_quietOf 14 = .ok (.iload_n 1, 1) := by decide +kernel
theorem dX0_quietOf_15 : decode cX0_quietOf 15 = .ok (.invokevirtual 99, 3) := by decide +kernel
theorem dX0_quietOf_18 : decode cX0_quietOf 18 = .ok (.ifCond .ne 5, 3) := by decide +kernel
theorem dX0_quietOf_21 : decode cX0_quietOf 21 = .ok (.iload_n 2, 1) := by decide +kernel
theorem dX0_quietOf_22 : decode cX0_quietOf 22 = .ok (.ireturn, 1) := by decide +kernel
theorem dX0_quietOf_23 : decode cX0_quietOf 23 = .ok (.iinc 2 1, 3) := by decide +kernel
theorem dX0_quietOf_26 : decode cX0_quietOf 26 = .ok (.goto (-24), 3) := by decide +kernel
theorem dX0_quietOf_29 : decode cX0_quietOf 29 = .ok (.bipush (-9), 2) := by decide +kernel
theorem dX0_quietOf_31 : decode cX0_quietOf 31 = .ok (.ireturn, 1) := by decide +kernel
set_option maxRecDepth 20000 in
theorem ggX0_whenAt_X0_sounds : GoodIn wsX0_whenAt wsX0_sounds := goodIn_r _ [5, 6, 7, 8, 4, 9, 10, 11, 12, 13, 14, 15, 16, 17, 18, 19, 20, 21, 22, 23, 24, 25, 26, 27, 28, 29, 30, 31, 32, 33, 34, 35, 36, 37, 38, 39, 40, 41, 42, 43, 44, 45, 46, 47, 48, 49, 50, 51, 52, 53, 54, 55, 56, 57, 58, 59, 60, 61, 62, 63, 64, 65, 66, 67, 68] (by decide +kernel) (by decide +kernel)
set_option maxRecDepth 20000 in
theorem gX0_whenAt_X0_sounds : GoodIn wsX0_whenAt (wsV RX0 120 RX0 yX0_sounds wsX0_sounds) := goodIn_app (goodIn_of _ (by decide +kernel)) ggX0_whenAt_X0_sounds
theorem dX0_whenAt_0 : decode cX0_whenAt 0 = .ok (.iconst 0, 1) := by decide +kernel
theorem dX0_whenAt_1 : decode cX0_whenAt 1 = .ok (.istore_n 3, 1) := by decide +kernel
theorem dX0_whenAt_2 : decode cX0_whenAt 2 = .ok (.iload_n 3, 1) := by decide +kernel
theorem dX0_whenAt_3 : decode cX0_whenAt 3 = .ok (.sipush 999, 3) := by decide +kernel
theorem dX0_whenAt_6 : decode cX0_whenAt 6 = .ok (.if_icmp .gt 21, 3) := by decide +kernel
theorem dX0_whenAt_9 : decode cX0_whenAt 9 = .ok (.aload_n 0, 1) := by decide +kernel
theorem dX0_whenAt_10 : decode cX0_whenAt 10 = .ok (.iload_n 1, 1) := by decide +kernel
theorem dX0_whenAt_11 : decode cX0_whenAt 11 = .ok (.iload_n 2, 1) := by decide +kernel
theorem dX0_whenAt_12 : decode cX0_whenAt 12 = .ok (.iload_n 3, 1) := by decide +kernel
theorem dX0_whenAt_13 : decode cX0_whenAt 13 = .ok (.invokevirtual 120, 3) := by decide +kernel
theorem dX0_whenAt_16 : decode cX0_whenAt 16 = .ok (.ifCond .eq 5, 3) := by decide +kernel
theorem dX0_whenAt_19 : decode cX0_whenAt 19 = .ok (.iload_n 3, 1) := by decide +kernel
theorem dX0_whenAt_20 : decode cX0_whenAt 20 = .ok (.ireturn, 1) := by decide +kernel
theorem dX0_whenAt_21 : decode cX0_whenAt 21 = .ok (.iinc 3 1, 3) := by decide +kernel
theorem dX0_whenAt_24 : decode cX0_whenAt 24 = .ok (.goto (-22), 3) := by decide +kernel
theorem dX0_whenAt_27 : decode cX0_whenAt 27 = .ok (.bipush (-9), 2) := by decide +kernel
theorem dX0_whenAt_29 : decode cX0_whenAt 29 = .ok (.ireturn, 1) := by decide +kernel
set_option maxRecDepth 20000 in
theorem ggX0_oftenAt_X0_sounds : GoodIn wsX0_oftenAt wsX0_sounds := goodIn_r _ [5, 6, 7, 8, 4, 9, 10, 11, 12, 13, 14, 15, 16, 17, 18, 19, 20, 21, 22, 23, 24, 25, 26, 27, 28, 29, 30, 31, 32, 33, 34, 35, 36, 37, 38, 39, 40, 41, 42, 43, 44, 45, 46, 47, 48, 49, 50, 51, 52, 53, 54, 55, 56, 57, 58, 59, 60, 61, 62, 63, 64, 65, 66, 67, 68] (by decide +kernel) (by decide +kernel)
set_option maxRecDepth 20000 in
theorem gX0_oftenAt_X0_sounds : GoodIn wsX0_oftenAt (wsV RX0 120 RX0 yX0_sounds wsX0_sounds) := goodIn_app (goodIn_of _ (by decide +kernel)) ggX0_oftenAt_X0_sounds
theorem dX0_oftenAt_0 : decode cX0_oftenAt 0 = .ok (.iconst 0, 1) := by decide +kernel
theorem dX0_oftenAt_1 : decode cX0_oftenAt 1 = .ok (.istore_n 3, 1) := by decide +kernel
theorem dX0_oftenAt_2 : decode cX0_oftenAt 2 = .ok (.iconst 0, 1) := by decide +kernel
theorem dX0_oftenAt_3 : decode cX0_oftenAt 3 = .ok (.istore 4, 2) := by decide +kernel
theorem dX0_oftenAt_5 : decode cX0_oftenAt 5 = .ok (.iload 4, 2) := by decide +kernel
theorem dX0_oftenAt_7 : decode cX0_oftenAt 7 = .ok (.sipush 999, 3) := by decide +kernel
theorem dX0_oftenAt_10 : decode cX0_oftenAt 10 = .ok (.if_icmp .gt 23, 3) := by decide +kernel
theorem dX0_oftenAt_13 : decode cX0_oftenAt 13 = .ok (.aload_n 0, 1) := by decide +kernel
theorem dX0_oftenAt_14 : decode cX0_oftenAt 14 = .ok (.iload_n 1, 1) := by decide +kernel
theorem dX0_oftenAt_15 : decode cX0_oftenAt 15 = .ok (.iload_n 2, 1) := by decide +kernel
theorem dX0_oftenAt_16 : decode cX0_oftenAt 16 = .ok (.iload 4, 2) := by decide +kernel
theorem dX0_oftenAt_18 : decode cX0_oftenAt 18 = .ok (.invokevirtual 120, 3) := by decide +kernel
theorem dX0_oftenAt_21 : decode cX0_oftenAt 21 = .ok (.ifCond .eq 6, 3) := by decide +kernel
theorem dX0_oftenAt_24 : decode cX0_oftenAt 24 = .ok (.iinc 3 1, 3) := by decide +kernel
theorem dX0_oftenAt_27 : decode cX0_oftenAt 27 = .ok (.iinc 4 1, 3) := by decide +kernel
theorem dX0_oftenAt_30 : decode cX0_oftenAt 30 = .ok (.goto (-25), 3) := by decide +kernel
theorem dX0_oftenAt_33 : decode cX0_oftenAt 33 = .ok (.iload_n 3, 1) := by decide +kernel
theorem dX0_oftenAt_34 : decode cX0_oftenAt 34 = .ok (.ireturn, 1) := by decide +kernel
set_option maxRecDepth 20000 in
theorem ggX0_meetingOf_X0_strengthAfter : GoodIn wsX0_meetingOf wsX0_strengthAfter := goodIn_r _ [5, 6, 7, 8, 9, 10, 11, 12, 13, 14, 15, 16, 4, 17, 18, 19, 20, 21, 22, 23, 24, 25, 26, 27, 28, 29, 30, 31, 32, 33, 34, 53, 54, 55, 56, 57, 58, 59, 60, 61, 62, 63, 64, 65, 66, 67, 68] (by decide +kernel) (by decide +kernel)
set_option maxRecDepth 20000 in
theorem gX0_meetingOf_X0_strengthAfter : GoodIn wsX0_meetingOf (wsV RX0 93 RX0 yX0_strengthAfter wsX0_strengthAfter) := goodIn_app (goodIn_of _ (by decide +kernel)) ggX0_meetingOf_X0_strengthAfter
set_option maxRecDepth 20000 in
theorem ggX0_meetingOf_X0_placeAfter : GoodIn wsX0_meetingOf wsX0_placeAfter := goodIn_r _ [38, 6, 39, 40, 14, 15, 16, 4, 17, 18, 19, 20, 41, 42, 43, 44, 34, 45, 46, 47, 48, 53, 54, 55, 56, 57, 58, 59, 60, 61, 62, 63, 64, 65, 66, 67, 68] (by decide +kernel) (by decide +kernel)
set_option maxRecDepth 20000 in
theorem gX0_meetingOf_X0_placeAfter : GoodIn wsX0_meetingOf (wsV RX0 90 RX0 yX0_placeAfter wsX0_placeAfter) := goodIn_app (goodIn_of _ (by decide +kernel)) ggX0_meetingOf_X0_placeAfter
set_option maxRecDepth 20000 in
theorem ggX0_meetingOf_X0_sounds : GoodIn wsX0_meetingOf wsX0_sounds := goodIn_r _ [52, 35, 36, 37, 4, 38, 6, 39, 40, 14, 15, 16, 17, 18, 19, 20, 41, 42, 43, 44, 34, 45, 46, 47, 48, 1, 2, 3, 5, 7, 8, 9, 10, 11, 12, 13, 21, 22, 23, 24, 25, 26, 27, 28, 29, 30, 31, 32, 33, 53, 54, 55, 56, 57, 58, 59, 60, 61, 62, 63, 64, 65, 66, 67, 68] (by decide +kernel) (by decide +kernel)
set_option maxRecDepth 20000 in
theorem gX0_meetingOf_X0_sounds : GoodIn wsX0_meetingOf (wsV RX0 120 RX0 yX0_sounds wsX0_sounds) := goodIn_app (goodIn_of _ (by decide +kernel)) ggX0_meetingOf_X0_sounds
theorem dX0_meetingOf_0 : decode cX0_meetingOf 0 = .ok (.iconst 0, 1) := by decide +kernel
theorem dX0_meetingOf_1 : decode cX0_meetingOf 1 = .ok (.istore_n 3, 1) := by decide +kernel
theorem dX0_meetingOf_2 : decode cX0_meetingOf 2 = .ok (.iload_n 3, 1) := by decide +kernel
theorem dX0_meetingOf_3 : decode cX0_meetingOf 3 = .ok (.sipush 999, 3) := by decide +kernel
theorem dX0_meetingOf_6 : decode cX0_meetingOf 6 = .ok (.if_icmp .gt 35, 3) := by decide +kernel
theorem dX0_meetingOf_9 : decode cX0_meetingOf 9 = .ok (.aload_n 0, 1) := by decide +kernel
theorem dX0_meetingOf_10 : decode cX0_meetingOf 10 = .ok (.iload_n 1, 1) := by decide +kernel
theorem dX0_meetingOf_11 : decode cX0_meetingOf 11 = .ok (.iload_n 3, 1) := by decide +kernel
theorem dX0_meetingOf_12 : decode cX0_meetingOf 12 = .ok (.invokevirtual 93, 3) := by decide +kernel
theorem dX0_meetingOf_15 : decode cX0_meetingOf 15 = .ok (.ifCond .le 20, 3) := by decide +kernel
theorem dX0_meetingOf_18 : decode cX0_meetingOf 18 = .ok (.aload_n 0, 1) := by decide +kernel
theorem dX0_meetingOf_19 : decode cX0_meetingOf 19 = .ok (.iload_n 2, 1) := by decide +kernel
theorem dX0_meetingOf_20 : decode cX0_meetingOf 20 = .ok (.aload_n 0, 1) := by decide +kernel
theorem dX0_meetingOf_21 : decode cX0_meetingOf 21 = .ok (.iload_n 1, 1) := by decide +kernel
theorem dX0_meetingOf_22 : decode cX0_meetingOf 22 = .ok (.iload_n 3, 1) := by decide +kernel
theorem dX0_meetingOf_23 : decode cX0_meetingOf 23 = .ok (.invokevirtual 90, 3) := by decide +kernel
theorem dX0_meetingOf_26 : decode cX0_meetingOf 26 = .ok (.iload_n 3, 1) := by decide +kernel
theorem dX0_meetingOf_27 : decode cX0_meetingOf 27 = .ok (.invokevirtual 120, 3) := by decide +kernel
theorem dX0_meetingOf_30 : decode cX0_meetingOf 30 = .ok (.ifCond .eq 5, 3) := by decide +kernel
theorem dX0_meetingOf_33 : decode cX0_meetingOf 33 = .ok (.iload_n 3, 1) := by decide +kernel
theorem dX0_meetingOf_34 : decode cX0_meetingOf 34 = .ok (.ireturn, 1) := by decide +kernel
theorem dX0_meetingOf_35 : decode cX0_meetingOf 35 = .ok (.iinc 3 1, 3) := by decide +kernel
theorem dX0_meetingOf_38 : decode cX0_meetingOf 38 = .ok (.goto (-36), 3) := by decide +kernel
theorem dX0_meetingOf_41 : decode cX0_meetingOf 41 = .ok (.bipush (-9), 2) := by decide +kernel
theorem dX0_meetingOf_43 : decode cX0_meetingOf 43 = .ok (.ireturn, 1) := by decide +kernel
set_option maxRecDepth 20000 in
theorem ggX0_ticksTo_X0_reach : GoodIn wsX0_ticksTo wsX0_reach := goodIn_r _ [6, 1, 7, 8, 9, 10, 11, 12, 13, 14, 15, 16] (by decide +kernel) (by decide +kernel)
set_option maxRecDepth 20000 in
theorem gX0_ticksTo_X0_reach : GoodIn wsX0_ticksTo (wsV RX0 76 RX0 yX0_reach wsX0_reach) := goodIn_app (goodIn_of _ (by decide +kernel)) ggX0_ticksTo_X0_reach
theorem dX0_ticksTo_0 : decode cX0_ticksTo 0 = .ok (.iconst 0, 1) := by decide +kernel
theorem dX0_ticksTo_1 : decode cX0_ticksTo 1 = .ok (.istore 5, 2) := by decide +kernel
theorem dX0_ticksTo_3 : decode cX0_ticksTo 3 = .ok (.iload 5, 2) := by decide +kernel
theorem dX0_ticksTo_5 : decode cX0_ticksTo 5 = .ok (.aload_n 0, 1) := by decide +kernel
theorem dX0_ticksTo_6 : decode cX0_ticksTo 6 = .ok (.getfield 9, 3) := by decide +kernel
theorem dX0_ticksTo_9 : decode cX0_ticksTo 9 = .ok (.if_icmp .ge 27, 3) := by decide +kernel
theorem dX0_ticksTo_12 : decode cX0_ticksTo 12 = .ok (.aload_n 0, 1) := by decide +kernel
theorem dX0_ticksTo_13 : decode cX0_ticksTo 13 = .ok (.iload_n 1, 1) := by decide +kernel
theorem dX0_ticksTo_14 : decode cX0_ticksTo 14 = .ok (.iload 4, 2) := by decide +kernel
theorem dX0_ticksTo_16 : decode cX0_ticksTo 16 = .ok (.iload_n 3, 1) := by decide +kernel
theorem dX0_ticksTo_17 : decode cX0_ticksTo 17 = .ok (.iload 5, 2) := by decide +kernel
theorem dX0_ticksTo_19 : decode cX0_ticksTo 19 = .ok (.imul, 1) := by decide +kernel
theorem dX0_ticksTo_20 : decode cX0_ticksTo 20 = .ok (.invokevirtual 76, 3) := by decide +kernel
theorem dX0_ticksTo_23 : decode cX0_ticksTo 23 = .ok (.iload_n 2, 1) := by decide +kernel
theorem dX0_ticksTo_24 : decode cX0_ticksTo 24 = .ok (.if_icmp .ne 6, 3) := by decide +kernel
theorem dX0_ticksTo_27 : decode cX0_ticksTo 27 = .ok (.iload 5, 2) := by decide +kernel
theorem dX0_ticksTo_29 : decode cX0_ticksTo 29 = .ok (.ireturn, 1) := by decide +kernel
theorem dX0_ticksTo_30 : decode cX0_ticksTo 30 = .ok (.iinc 5 1, 3) := by decide +kernel
theorem dX0_ticksTo_33 : decode cX0_ticksTo 33 = .ok (.goto (-30), 3) := by decide +kernel
theorem dX0_ticksTo_36 : decode cX0_ticksTo 36 = .ok (.bipush (-9), 2) := by decide +kernel
theorem dX0_ticksTo_38 : decode cX0_ticksTo 38 = .ok (.ireturn, 1) := by decide +kernel
set_option maxRecDepth 20000 in
theorem ggX0_firstWait_X0_listen : GoodIn wsX0_firstWait wsX0_listen := goodIn_r _ [5, 6, 7, 8, 9, 10, 11, 12, 4, 13, 14, 15, 16, 17, 18, 19, 20, 21, 22, 23, 24, 25, 26, 27, 28, 29, 30, 31, 32, 33, 34, 35, 36, 37, 38, 39, 40, 41, 42, 43, 44, 45, 46, 47, 48, 49, 50, 51, 52, 53, 54, 55, 60, 61, 62, 63, 64, 65, 66, 67, 68, 69, 70, 71, 72, 73, 74, 75] (by decide +kernel) (by decide +kernel)
set_option maxRecDepth 20000 in
theorem gX0_firstWait_X0_listen : GoodIn wsX0_firstWait (wsV RX0 116 RX0 yX0_listen wsX0_listen) := goodIn_app (goodIn_of _ (by decide +kernel)) ggX0_firstWait_X0_listen
set_option maxRecDepth 20000 in
theorem ggX0_firstWait_X0_strengthAt : GoodIn wsX0_firstWait wsX0_strengthAt := goodIn_r _ [59, 6, 7, 8, 9, 60, 61, 62, 63, 64, 65, 66, 67, 68, 69, 70, 71, 72, 73, 74, 75] (by decide +kernel) (by decide +kernel)
set_option maxRecDepth 20000 in
theorem gX0_firstWait_X0_strengthAt : GoodIn wsX0_firstWait (wsV RX0 96 RX0 yX0_strengthAt wsX0_strengthAt) := goodIn_app (goodIn_of _ (by decide +kernel)) ggX0_firstWait_X0_strengthAt
theorem dX0_firstWait_0 : decode cX0_firstWait 0 = .ok (.iconst 0, 1) := by decide +kernel
theorem dX0_firstWait_1 : decode cX0_firstWait 1 = .ok (.istore 4, 2) := by decide +kernel
theorem dX0_firstWait_3 : decode cX0_firstWait 3 = .ok (.iload 4, 2) := by decide +kernel
theorem dX0_firstWait_5 : decode cX0_firstWait 5 = .ok (.bipush 99, 2) := by decide +kernel
theorem dX0_firstWait_7 : decode cX0_firstWait 7 = .ok (.if_icmp .gt 29, 3) := by decide +kernel
theorem dX0_firstWait_10 : decode cX0_firstWait 10 = .ok (.aload_n 0, 1) := by decide +kernel
theorem dX0_firstWait_11 : decode cX0_firstWait 11 = .ok (.iload 4, 2) := by decide +kernel
theorem dX0_firstWait_13 : decode cX0_firstWait 13 = .ok (.iload_n 2, 1) := by decide +kernel
theorem dX0_firstWait_14 : decode cX0_firstWait 14 = .ok (.iadd, 1) := by decide +kernel
theorem dX0_firstWait_15 : decode cX0_firstWait 15 = .ok (.invokevirtual 116, 3) := by decide +kernel
theorem dX0_firstWait_18 : decode cX0_firstWait 18 = .ok (.iload_n 3, 1) := by decide +kernel
theorem dX0_firstWait_19 : decode cX0_firstWait 19 = .ok (.aload_n 0, 1) := by decide +kernel
theorem dX0_firstWait_20 : decode cX0_firstWait 20 = .ok (.iload_n 1, 1) := by decide +kernel
theorem dX0_firstWait_21 : decode cX0_firstWait 21 = .ok (.invokevirtual 96, 3) := by decide +kernel
theorem dX0_firstWait_24 : decode cX0_firstWait 24 = .ok (.if_icmp .le 6, 3) := by decide +kernel
theorem dX0_firstWait_27 : decode cX0_firstWait 27 = .ok (.iload 4, 2) := by decide +kernel
theorem dX0_firstWait_29 : decode cX0_firstWait 29 = .ok (.ireturn, 1) := by decide +kernel
theorem dX0_firstWait_30 : decode cX0_firstWait 30 = .ok (.iinc 4 1, 3) := by decide +kernel
theorem dX0_firstWait_33 : decode cX0_firstWait 33 = .ok (.goto (-30), 3) := by decide +kernel
theorem dX0_firstWait_36 : decode cX0_firstWait 36 = .ok (.bipush (-9), 2) := by decide +kernel
theorem dX0_firstWait_38 : decode cX0_firstWait 38 = .ok (.ireturn, 1) := by decide +kernel
theorem dX1_init_0 : decode cX1_init 0 = .ok (.aload_n 0, 1) := by decide +kernel
theorem dX1_init_1 : decode cX1_init 1 = .ok (.invokespecial 3, 3) := by decide +kernel
theorem dX1_init_4 : decode cX1_init 4 = .ok (.aload_n 0, 1) := by decide +kernel
theorem dX1_init_5 : decode cX1_init 5 = .ok (.bipush 6, 2) := by decide +kernel
theorem dX1_init_7 : decode cX1_init 7 = .ok (.newarray .int, 2) := by decide +kernel
theorem dX1_init_9 : decode cX1_init 9 = .ok (.putfield 9, 3) := by decide +kernel
theorem dX1_init_12 : decode cX1_init 12 = .ok (.aload_n 0, 1) := by decide +kernel
theorem dX1_init_13 : decode cX1_init 13 = .ok (.bipush 6, 2) := by decide +kernel
theorem dX1_init_15 : decode cX1_init 15 = .ok (.newarray .int, 2) := by decide +kernel
theorem dX1_init_17 : decode cX1_init 17 = .ok (.putfield 15, 3) := by decide +kernel
theorem dX1_init_20 : decode cX1_init 20 = .ok (.aload_n 0, 1) := by decide +kernel
theorem dX1_init_21 : decode cX1_init 21 = .ok (.bipush 6, 2) := by decide +kernel
theorem dX1_init_23 : decode cX1_init 23 = .ok (.newarray .int, 2) := by decide +kernel
theorem dX1_init_25 : decode cX1_init 25 = .ok (.putfield 18, 3) := by decide +kernel
theorem dX1_init_28 : decode cX1_init 28 = .ok (.return_, 1) := by decide +kernel
theorem dX1_add_0 : decode cX1_add 0 = .ok (.aload_n 0, 1) := by decide +kernel
theorem dX1_add_1 : decode cX1_add 1 = .ok (.getfield 21, 3) := by decide +kernel
theorem dX1_add_4 : decode cX1_add 4 = .ok (.bipush 6, 2) := by decide +kernel
theorem dX1_add_6 : decode cX1_add 6 = .ok (.if_icmp .lt 5, 3) := by decide +kernel
theorem dX1_add_9 : decode cX1_add 9 = .ok (.iconst 0, 1) := by decide +kernel
theorem dX1_add_10 : decode cX1_add 10 = .ok (.ireturn, 1) := by decide +kernel
theorem dX1_add_11 : decode cX1_add 11 = .ok (.aload_n 0, 1) := by decide +kernel
theorem dX1_add_12 : decode cX1_add 12 = .ok (.getfield 9, 3) := by decide +kernel
theorem dX1_add_15 : decode cX1_add 15 = .ok (.aload_n 0, 1) := by decide +kernel
theorem dX1_add_16 : decode cX1_add 16 = .ok (.getfield 21, 3) := by decide +kernel
theorem dX1_add_19 : decode cX1_add 19 = .ok (.iload_n 1, 1) := by decide +kernel
theorem dX1_add_20 : decode cX1_add 20 = .ok (.iastore, 1) := by decide +kernel
theorem dX1_add_21 : decode cX1_add 21 = .ok (.aload_n 0, 1) := by decide +kernel
theorem dX1_add_22 : decode cX1_add 22 = .ok (.getfield 15, 3) := by decide +kernel
theorem dX1_add_25 : decode cX1_add 25 = .ok (.aload_n 0, 1) := by decide +kernel
theorem dX1_add_26 : decode cX1_add 26 = .ok (.getfield 21, 3) := by decide +kernel
theorem dX1_add_29 : decode cX1_add 29 = .ok (.iload_n 2, 1) := by decide +kernel
theorem dX1_add_30 : decode cX1_add 30 = .ok (.iastore, 1) := by decide +kernel
theorem dX1_add_31 : decode cX1_add 31 = .ok (.aload_n 0, 1) := by decide +kernel
theorem dX1_add_32 : decode cX1_add 32 = .ok (.getfield 18, 3) := by decide +kernel
theorem dX1_add_35 : decode cX1_add 35 = .ok (.aload_n 0, 1) := by decide +kernel
theorem dX1_add_36 : decode cX1_add 36 = .ok (.getfield 21, 3) := by decide +kernel
theorem dX1_add_39 : decode cX1_add 39 = .ok (.iload_n 3, 1) := by decide +kernel
theorem dX1_add_40 : decode cX1_add 40 = .ok (.iastore, 1) := by decide +kernel
theorem dX1_add_41 : decode cX1_add 41 = .ok (.aload_n 0, 1) := by decide +kernel
theorem dX1_add_42 : decode cX1_add 42 = .ok (.dup, 1) := by decide +kernel
theorem dX1_add_43 : decode cX1_add 43 = .ok (.getfield 21, 3) := by decide +kernel
theorem dX1_add_46 : decode cX1_add 46 = .ok (.iconst 1, 1) := by decide +kernel
theorem dX1_add_47 : decode cX1_add 47 = .ok (.iadd, 1) := by decide +kernel
theorem dX1_add_48 : decode cX1_add 48 = .ok (.putfield 21, 3) := by decide +kernel
theorem dX1_add_51 : decode cX1_add 51 = .ok (.iconst 1, 1) := by decide +kernel
theorem dX1_add_52 : decode cX1_add 52 = .ok (.ireturn, 1) := by decide +kernel
theorem dX1_placeIn_0 : decode cX1_placeIn 0 = .ok (.iload_n 0, 1) := by decide +kernel
theorem dX1_placeIn_1 : decode cX1_placeIn 1 = .ok (.bipush 12, 2) := by decide +kernel
theorem dX1_placeIn_3 : decode cX1_placeIn 3 = .ok (.idiv, 1) := by decide +kernel
theorem dX1_placeIn_4 : decode cX1_placeIn 4 = .ok (.ireturn, 1) := by decide +kernel
theorem dX1_speedIn_0 : decode cX1_speedIn 0 = .ok (.iload_n 0, 1) := by decide +kernel
theorem dX1_speedIn_1 : decode cX1_speedIn 1 = .ok (.bipush 12, 2) := by decide +kernel
theorem dX1_speedIn_3 : decode cX1_speedIn 3 = .ok (.irem, 1) := by decide +kernel
theorem dX1_speedIn_4 : decode cX1_speedIn 4 = .ok (.iconst 2, 1) := by decide +kernel
theorem dX1_speedIn_5 : decode cX1_speedIn 5 = .ok (.idiv, 1) := by decide +kernel
theorem dX1_speedIn_6 : decode cX1_speedIn 6 = .ok (.iconst 1, 1) := by decide +kernel
theorem dX1_speedIn_7 : decode cX1_speedIn 7 = .ok (.iadd, 1) := by decide +kernel
theorem dX1_speedIn_8 : decode cX1_speedIn 8 = .ok (.ireturn, 1) := by decide +kernel
theorem dX1_wayIn_0 : decode cX1_wayIn 0 = .ok (.iload_n 0, 1) := by decide +kernel
theorem dX1_wayIn_1 : decode cX1_wayIn 1 = .ok (.iconst 2, 1) := by decide +kernel
theorem dX1_wayIn_2 : decode cX1_wayIn 2 = .ok (.irem, 1) := by decide +kernel
theorem dX1_wayIn_3 : decode cX1_wayIn 3 = .ok (.ireturn, 1) := by decide +kernel
set_option maxRecDepth 20000 in
theorem ggX1_placeBehind_X1_placeIn : GoodIn wsX1_placeBehind wsX1_placeIn := goodIn_r _ [4] (by decide +kernel) (by decide +kernel)
set_option maxRecDepth 20000 in
theorem gX1_placeBehind_X1_placeIn : GoodIn wsX1_placeBehind (va_wsS RX1 25 yX1_placeIn wsX1_placeIn) := goodIn_app (goodIn_of _ (by decide +kernel)) ggX1_placeBehind_X1_placeIn
set_option maxRecDepth 20000 in
theorem ggX1_placeBehind_X1_wayIn : GoodIn wsX1_placeBehind wsX1_wayIn := goodIn_r _ [7] (by decide +kernel) (by decide +kernel)
set_option maxRecDepth 20000 in
theorem gX1_placeBehind_X1_wayIn : GoodIn wsX1_placeBehind (va_wsS RX1 29 yX1_wayIn wsX1_wayIn) := goodIn_app (goodIn_of _ (by decide +kernel)) ggX1_placeBehind_X1_wayIn
set_option maxRecDepth 20000 in
theorem ggX1_placeBehind_X1_speedIn : GoodIn wsX1_placeBehind wsX1_speedIn := goodIn_r _ [10] (by decide +kernel) (by decide +kernel)
set_option maxRecDepth 20000 in
theorem gX1_placeBehind_X1_speedIn : GoodIn wsX1_placeBehind (va_wsS RX1 32 yX1_speedIn wsX1_speedIn) := goodIn_app (goodIn_of _ (by decide +kernel)) ggX1_placeBehind_X1_speedIn
set_option maxRecDepth 20000 in
theorem ggX1_placeBehind_X0_reach : GoodIn wsX1_placeBehind wsX0_reach := goodIn_r _ [15, 16, 17, 18, 19, 20, 21, 22, 23, 24, 25, 26] (by decide +kernel) (by decide +kernel)
set_option maxRecDepth 20000 in
theorem gX1_placeBehind_X0_reach : GoodIn wsX1_placeBehind (wsV RX1 35 RX0 yX0_reach wsX0_reach) := goodIn_app (goodIn_of _ (by decide +kernel)) ggX1_placeBehind_X0_reach
theorem dX1_placeBehind_0 : decode cX1_placeBehind 0 = .ok (.aload_n 0, 1) := by decide +kernel
theorem dX1_placeBehind_1 : decode cX1_placeBehind 1 = .ok (.iload_n 1, 1) := by decide +kernel
theorem dX1_placeBehind_2 : decode cX1_placeBehind 2 = .ok (.invokestatic 25, 3) := by decide +kernel
theorem dX1_placeBehind_5 : decode cX1_placeBehind 5 = .ok (.iload_n 1, 1) := by decide +kernel
theorem dX1_placeBehind_6 : decode cX1_placeBehind 6 = .ok (.invokestatic 29, 3) := by decide +kernel
theorem dX1_placeBehind_9 : decode cX1_placeBehind 9 = .ok (.iload_n 1, 1) := by decide +kernel
theorem dX1_placeBehind_10 : decode cX1_placeBehind 10 = .ok (.invokestatic 32, 3) := by decide +kernel
theorem dX1_placeBehind_13 : decode cX1_placeBehind 13 = .ok (.iload_n 2, 1) := by decide +kernel
theorem dX1_placeBehind_14 : decode cX1_placeBehind 14 = .ok (.imul, 1) := by decide +kernel
theorem dX1_placeBehind_15 : decode cX1_placeBehind 15 = .ok (.invokevirtual 35, 3) := by decide +kernel
theorem dX1_placeBehind_18 : decode cX1_placeBehind 18 = .ok (.ireturn, 1) := by decide +kernel
set_option maxRecDepth 20000 in
theorem ggX1_fits_X1_placeBehind : GoodIn wsX1_fits wsX1_placeBehind := goodIn_r _ [8, 9, 10, 7, 11, 12, 13, 14, 15, 16, 17, 18, 19, 20, 21, 22, 23, 24, 25, 26, 27, 32, 33, 34, 35, 36, 37] (by decide +kernel) (by decide +kernel)
set_option maxRecDepth 20000 in
theorem gX1_fits_X1_placeBehind : GoodIn wsX1_fits (va_wsS RX1 41 yX1_placeBehind wsX1_placeBehind) := goodIn_app (goodIn_of _ (by decide +kernel)) ggX1_fits_X1_placeBehind
theorem dX1_fits_0 : decode cX1_fits 0 = .ok (.iconst 0, 1) := by decide +kernel
theorem dX1_fits_1 : decode cX1_fits 1 = .ok (.istore_n 3, 1) := by decide +kernel
theorem dX1_fits_2 : decode cX1_fits 2 = .ok (.iload_n 3, 1) := by decide +kernel
theorem dX1_fits_3 : decode cX1_fits 3 = .ok (.aload_n 0, 1) := by decide +kernel
theorem dX1_fits_4 : decode cX1_fits 4 = .ok (.getfield 21, 3) := by decide +kernel
theorem dX1_fits_7 : decode cX1_fits 7 = .ok (.if_icmp .ge 58, 3) := by decide +kernel
theorem dX1_fits_10 : decode cX1_fits 10 = .ok (.aload_n 1, 1) := by decide +kernel
theorem dX1_fits_11 : decode cX1_fits 11 = .ok (.iload_n 2, 1) := by decide +kernel
theorem dX1_fits_12 : decode cX1_fits 12 = .ok (.aload_n 0, 1) := by decide +kernel
theorem dX1_fits_13 : decode cX1_fits 13 = .ok (.getfield 15, 3) := by decide +kernel
theorem dX1_fits_16 : decode cX1_fits 16 = .ok (.iload_n 3, 1) := by decide +kernel
theorem dX1_fits_17 : decode cX1_fits 17 = .ok (.iaload, 1) := by decide +kernel
theorem dX1_fits_18 : decode cX1_fits 18 = .ok (.invokestatic 41, 3) := by decide +kernel
theorem dX1_fits_21 : decode cX1_fits 21 = .ok (.aload_n 0, 1) := by decide +kernel
theorem dX1_fits_22 : decode cX1_fits 22 = .ok (.getfield 9, 3) := by decide +kernel
theorem dX1_fits_25 : decode cX1_fits 25 = .ok (.iload_n 3, 1) := by decide +kernel
theorem dX1_fits_26 : decode cX1_fits 26 = .ok (.iaload, 1) := by decide +kernel
theorem dX1_fits_27 : decode cX1_fits 27 = .ok (.if_icmp .ne 7, 3) := by decide +kernel
theorem dX1_fits_30 : decode cX1_fits 30 = .ok (.iconst 1, 1) := by decide +kernel
theorem dX1_fits_31 : decode cX1_fits 31 = .ok (.goto 4, 3) := by decide +kernel
theorem dX1_fits_34 : decode cX1_fits 34 = .ok (.iconst 0, 1) := by decide +kernel
theorem dX1_fits_35 : decode cX1_fits 35 = .ok (.istore 4, 2) := by decide +kernel
theorem dX1_fits_37 : decode cX1_fits 37 = .ok (.iload 4, 2) := by decide +kernel
theorem dX1_fits_39 : decode cX1_fits 39 = .ok (.aload_n 0, 1) := by decide +kernel
theorem dX1_fits_40 : decode cX1_fits 40 = .ok (.getfield 18, 3) := by decide +kernel
theorem dX1_fits_43 : decode cX1_fits 43 = .ok (.iload_n 3, 1) := by decide +kernel
theorem dX1_fits_44 : decode cX1_fits 44 = .ok (.iaload, 1) := by decide +kernel
theorem dX1_fits_45 : decode cX1_fits 45 = .ok (.iconst 1, 1) := by decide +kernel
theorem dX1_fits_46 : decode cX1_fits 46 = .ok (.if_icmp .ne 7, 3) := by decide +kernel
theorem dX1_fits_49 : decode cX1_fits 49 = .ok (.iconst 1, 1) := by decide +kernel
theorem dX1_fits_50 : decode cX1_fits 50 = .ok (.goto 4, 3) := by decide +kernel
theorem dX1_fits_53 : decode cX1_fits 53 = .ok (.iconst 0, 1) := by decide +kernel
theorem dX1_fits_54 : decode cX1_fits 54 = .ok (.if_icmp .eq 5, 3) := by decide +kernel
theorem dX1_fits_57 : decode cX1_fits 57 = .ok (.iconst 0, 1) := by decide +kernel
theorem dX1_fits_58 : decode cX1_fits 58 = .ok (.ireturn, 1) := by decide +kernel
theorem dX1_fits_59 : decode cX1_fits 59 = .ok (.iinc 3 1, 3) := by decide +kernel
theorem dX1_fits_62 : decode cX1_fits 62 = .ok (.goto (-60), 3) := by decide +kernel
theorem dX1_fits_65 : decode cX1_fits 65 = .ok (.iconst 1, 1) := by decide +kernel
theorem dX1_fits_66 : decode cX1_fits 66 = .ok (.ireturn, 1) := by decide +kernel
theorem dX2_init_0 : decode cX2_init 0 = .ok (.aload_n 0, 1) := by decide +kernel
theorem dX2_init_1 : decode cX2_init 1 = .ok (.invokespecial 3, 3) := by decide +kernel
theorem dX2_init_4 : decode cX2_init 4 = .ok (.aload_n 0, 1) := by decide +kernel
theorem dX2_init_5 : decode cX2_init 5 = .ok (.bipush 8, 2) := by decide +kernel
theorem dX2_init_7 : decode cX2_init 7 = .ok (.newarray .int, 2) := by decide +kernel
theorem dX2_init_9 : decode cX2_init 9 = .ok (.putfield 9, 3) := by decide +kernel
theorem dX2_init_12 : decode cX2_init 12 = .ok (.aload_n 0, 1) := by decide +kernel
theorem dX2_init_13 : decode cX2_init 13 = .ok (.bipush 8, 2) := by decide +kernel
theorem dX2_init_15 : decode cX2_init 15 = .ok (.newarray .int, 2) := by decide +kernel
theorem dX2_init_17 : decode cX2_init 17 = .ok (.putfield 15, 3) := by decide +kernel
theorem dX2_init_20 : decode cX2_init 20 = .ok (.aload_n 0, 1) := by decide +kernel
theorem dX2_init_21 : decode cX2_init 21 = .ok (.bipush 8, 2) := by decide +kernel
theorem dX2_init_23 : decode cX2_init 23 = .ok (.newarray .int, 2) := by decide +kernel
theorem dX2_init_25 : decode cX2_init 25 = .ok (.putfield 18, 3) := by decide +kernel
theorem dX2_init_28 : decode cX2_init 28 = .ok (.aload_n 0, 1) := by decide +kernel
theorem dX2_init_29 : decode cX2_init 29 = .ok (.bipush 8, 2) := by decide +kernel
theorem dX2_init_31 : decode cX2_init 31 = .ok (.newarray .int, 2) := by decide +kernel
theorem dX2_init_33 : decode cX2_init 33 = .ok (.putfield 21, 3) := by decide +kernel
theorem dX2_init_36 : decode cX2_init 36 = .ok (.aload_n 0, 1) := by decide +kernel
theorem dX2_init_37 : decode cX2_init 37 = .ok (.bipush 8, 2) := by decide +kernel
theorem dX2_init_39 : decode cX2_init 39 = .ok (.newarray .int, 2) := by decide +kernel
theorem dX2_init_41 : decode cX2_init 41 = .ok (.putfield 24, 3) := by decide +kernel
theorem dX2_init_44 : decode cX2_init 44 = .ok (.aload_n 0, 1) := by decide +kernel
theorem dX2_init_45 : decode cX2_init 45 = .ok (.bipush 10, 2) := by decide +kernel
theorem dX2_init_47 : decode cX2_init 47 = .ok (.newarray .int, 2) := by decide +kernel
theorem dX2_init_49 : decode cX2_init 49 = .ok (.putfield 27, 3) := by decide +kernel
theorem dX2_init_52 : decode cX2_init 52 = .ok (.return_, 1) := by decide +kernel
theorem dX2_empty_0 : decode cX2_empty 0 = .ok (.aload_n 0, 1) := by decide +kernel
theorem dX2_empty_1 : decode cX2_empty 1 = .ok (.iconst 0, 1) := by decide +kernel
theorem dX2_empty_2 : decode cX2_empty 2 = .ok (.putfield 30, 3) := by decide +kernel
theorem dX2_empty_5 : decode cX2_empty 5 = .ok (.aload_n 0, 1) := by decide +kernel
theorem dX2_empty_6 : decode cX2_empty 6 = .ok (.iconst 0, 1) := by decide +kernel
theorem dX2_empty_7 : decode cX2_empty 7 = .ok (.putfield 34, 3) := by decide +kernel
theorem dX2_empty_10 : decode cX2_empty 10 = .ok (.aload_n 0, 1) := by decide +kernel
theorem dX2_empty_11 : decode cX2_empty 11 = .ok (.iconst 0, 1) := by decide +kernel
theorem dX2_empty_12 : decode cX2_empty 12 = .ok (.putfield 37, 3) := by decide +kernel
theorem dX2_empty_15 : decode cX2_empty 15 = .ok (.aload_n 0, 1) := by decide +kernel
theorem dX2_empty_16 : decode cX2_empty 16 = .ok (.iconst 0, 1) := by decide +kernel
theorem dX2_empty_17 : decode cX2_empty 17 = .ok (.putfield 40, 3) := by decide +kernel
theorem dX2_empty_20 : decode cX2_empty 20 = .ok (.return_, 1) := by decide +kernel
theorem dX2_become_0 : decode cX2_become 0 = .ok (.aload_n 0, 1) := by decide +kernel
theorem dX2_become_1 : decode cX2_become 1 = .ok (.aload_n 1, 1) := by decide +kernel
theorem dX2_become_2 : decode cX2_become 2 = .ok (.getfield 30, 3) := by decide +kernel
theorem dX2_become_5 : decode cX2_become 5 = .ok (.putfield 30, 3) := by decide +kernel
theorem dX2_become_8 : decode cX2_become 8 = .ok (.aload_n 0, 1) := by decide +kernel
theorem dX2_become_9 : decode cX2_become 9 = .ok (.aload_n 1, 1) := by decide +kernel
theorem dX2_become_10 : decode cX2_become 10 = .ok (.getfield 34, 3) := by decide +kernel
theorem dX2_become_13 : decode cX2_become 13 = .ok (.putfield 34, 3) := by decide +kernel
theorem dX2_become_16 : decode cX2_become 16 = .ok (.aload_n 0, 1) := by decide +kernel
theorem dX2_become_17 : decode cX2_become 17 = .ok (.aload_n 1, 1) := by decide +kernel
theorem dX2_become_18 : decode cX2_become 18 = .ok (.getfield 37, 3) := by decide +kernel
theorem dX2_become_21 : decode cX2_become 21 = .ok (.putfield 37, 3) := by decide +kernel
theorem dX2_become_24 : decode cX2_become 24 = .ok (.aload_n 0, 1) := by decide +kernel
theorem dX2_become_25 : decode cX2_become 25 = .ok (.aload_n 1, 1) := by decide +kernel
theorem dX2_become_26 : decode cX2_become 26 = .ok (.getfield 40, 3) := by decide +kernel
theorem dX2_become_29 : decode cX2_become 29 = .ok (.putfield 40, 3) := by decide +kernel
theorem dX2_become_32 : decode cX2_become 32 = .ok (.aload_n 1, 1) := by decide +kernel
theorem dX2_become_33 : decode cX2_become 33 = .ok (.getfield 9, 3) := by decide +kernel
theorem dX2_become_36 : decode cX2_become 36 = .ok (.iconst 0, 1) := by decide +kernel
theorem dX2_become_37 : decode cX2_become 37 = .ok (.aload_n 0, 1) := by decide +kernel
theorem dX2_become_38 : decode cX2_become 38 = .ok (.getfield 9, 3) := by decide +kernel
theorem dX2_become_41 : decode cX2_become 41 = .ok (.iconst 0, 1) := by decide +kernel
theorem dX2_become_42 : decode cX2_become 42 = .ok (.bipush 8, 2) := by decide +kernel
theorem dX2_become_44 : decode cX2_become 44 = .ok (.invokestatic 43, 3) := by decide +kernel
theorem dX2_become_47 : decode cX2_become 47 = .ok (.aload_n 1, 1) := by decide +kernel
theorem dX2_become_48 : decode cX2_become 48 = .ok (.getfield 15, 3) := by decide +kernel
theorem dX2_become_51 : decode cX2_become 51 = .ok (.iconst 0, 1) := by decide +kernel
theorem dX2_become_52 : decode cX2_become 52 = .ok (.aload_n 0, 1) := by decide +kernel
theorem dX2_become_53 : decode cX2_become 53 = .ok (.getfield 15, 3) := by decide +kernel
theorem dX2_become_56 : decode cX2_become 56 = .ok (.iconst 0, 1) := by decide +kernel
theorem dX2_become_57 : decode cX2_become 57 = .ok (.bipush 8, 2) := by decide +kernel
theorem dX2_become_59 : decode cX2_become 59 = .ok (.invokestatic 43, 3) := by decide +kernel
theorem dX2_become_62 : decode cX2_become 62 = .ok (.aload_n 1, 1) := by decide +kernel
theorem dX2_become_63 : decode cX2_become 63 = .ok (.getfield 18, 3) := by decide +kernel
theorem dX2_become_66 : decode cX2_become 66 = .ok (.iconst 0, 1) := by decide +kernel
theorem dX2_become_67 : decode cX2_become 67 = .ok (.aload_n 0, 1) := by decide +kernel
theorem dX2_become_68 : decode cX2_become 68 = .ok (.getfield 18, 3) := by decide +kernel
theorem dX2_become_71 : decode cX2_become 71 = .ok (.iconst 0, 1) := by decide +kernel
theorem dX2_become_72 : decode cX2_become 72 = .ok (.bipush 8, 2) := by decide +kernel
theorem dX2_become_74 : decode cX2_become 74 = .ok (.invokestatic 43, 3) := by decide +kernel
theorem dX2_become_77 : decode cX2_become 77 = .ok (.aload_n 1, 1) := by decide +kernel
theorem dX2_become_78 : decode cX2_become 78 = .ok (.getfield 21, 3) := by decide +kernel
theorem dX2_become_81 : decode cX2_become 81 = .ok (.iconst 0, 1) := by decide +kernel
theorem dX2_become_82 : decode cX2_become 82 = .ok (.aload_n 0, 1) := by decide +kernel
theorem dX2_become_83 : decode cX2_become 83 = .ok (.getfield 21, 3) := by decide +kernel
theorem dX2_become_86 : decode cX2_become 86 = .ok (.iconst 0, 1) := by decide +kernel
theorem dX2_become_87 : decode cX2_become 87 = .ok (.bipush 8, 2) := by decide +kernel
theorem dX2_become_89 : decode cX2_become 89 = .ok (.invokestatic 43, 3) := by decide +kernel
theorem dX2_become_92 : decode cX2_become 92 = .ok (.aload_n 1, 1) := by decide +kernel
theorem dX2_become_93 : decode cX2_become 93 = .ok (.getfield 24, 3) := by decide +kernel
theorem dX2_become_96 : decode cX2_become 96 = .ok (.iconst 0, 1) := by decide +kernel
theorem dX2_become_97 : decode cX2_become 97 = .ok (.aload_n 0, 1) := by decide +kernel
theorem dX2_become_98 : decode cX2_become 98 = .ok (.getfield 24, 3) := by decide +kernel
theorem dX2_become_101 : decode cX2_become 101 = .ok (.iconst 0, 1) := by decide +kernel
theorem dX2_become_102 : decode cX2_become 102 = .ok (.bipush 8, 2) := by decide +kernel
theorem dX2_become_104 : decode cX2_become 104 = .ok (.invokestatic 43, 3) := by decide +kernel
theorem dX2_become_107 : decode cX2_become 107 = .ok (.aload_n 1, 1) := by decide +kernel
theorem dX2_become_108 : decode cX2_become 108 = .ok (.getfield 27, 3) := by decide +kernel
theorem dX2_become_111 : decode cX2_become 111 = .ok (.iconst 0, 1) := by decide +kernel
theorem dX2_become_112 : decode cX2_become 112 = .ok (.aload_n 0, 1) := by decide +kernel
theorem dX2_become_113 : decode cX2_become 113 = .ok (.getfield 27, 3) := by decide +kernel
theorem dX2_become_116 : decode cX2_become 116 = .ok (.iconst 0, 1) := by decide +kernel
theorem dX2_become_117 : decode cX2_become 117 = .ok (.bipush 10, 2) := by decide +kernel
theorem dX2_become_119 : decode cX2_become 119 = .ok (.invokestatic 43, 3) := by decide +kernel
theorem dX2_become_122 : decode cX2_become 122 = .ok (.return_, 1) := by decide +kernel
theorem dX2_isHushed_0 : decode cX2_isHushed 0 = .ok (.aload_n 0, 1) := by decide +kernel
theorem dX2_isHushed_1 : decode cX2_isHushed 1 = .ok (.getfield 37, 3) := by decide +kernel
theorem dX2_isHushed_4 : decode cX2_isHushed 4 = .ok (.iload_n 1, 1) := by decide +kernel
theorem dX2_isHushed_5 : decode cX2_isHushed 5 = .ok (.ishr, 1) := by decide +kernel
theorem dX2_isHushed_6 : decode cX2_isHushed 6 = .ok (.iconst 1, 1) := by decide +kernel
theorem dX2_isHushed_7 : decode cX2_isHushed 7 = .ok (.iand, 1) := by decide +kernel
theorem dX2_isHushed_8 : decode cX2_isHushed 8 = .ok (.iconst 1, 1) := by decide +kernel
theorem dX2_isHushed_9 : decode cX2_isHushed 9 = .ok (.if_icmp .ne 7, 3) := by decide +kernel
theorem dX2_isHushed_12 : decode cX2_isHushed 12 = .ok (.iconst 1, 1) := by decide +kernel
theorem dX2_isHushed_13 : decode cX2_isHushed 13 = .ok (.goto 4, 3) := by decide +kernel
theorem dX2_isHushed_16 : decode cX2_isHushed 16 = .ok (.iconst 0, 1) := by decide +kernel
theorem dX2_isHushed_17 : decode cX2_isHushed 17 = .ok (.ireturn, 1) := by decide +kernel
theorem dX2_add_0 : decode cX2_add 0 = .ok (.aload_n 0, 1) := by decide +kernel
theorem dX2_add_1 : decode cX2_add 1 = .ok (.getfield 34, 3) := by decide +kernel
theorem dX2_add_4 : decode cX2_add 4 = .ok (.bipush 8, 2) := by decide +kernel
theorem dX2_add_6 : decode cX2_add 6 = .ok (.if_icmp .lt 5, 3) := by decide +kernel
theorem dX2_add_9 : decode cX2_add 9 = .ok (.iconst 0, 1) := by decide +kernel
theorem dX2_add_10 : decode cX2_add 10 = .ok (.ireturn, 1) := by decide +kernel
theorem dX2_add_11 : decode cX2_add 11 = .ok (.aload_n 0, 1) := by decide +kernel
theorem dX2_add_12 : decode cX2_add 12 = .ok (.getfield 9, 3) := by decide +kernel
theorem dX2_add_15 : decode cX2_add 15 = .ok (.aload_n 0, 1) := by decide +kernel
theorem dX2_add_16 : decode cX2_add 16 = .ok (.getfield 34, 3) := by decide +kernel
theorem dX2_add_19 : decode cX2_add 19 = .ok (.iload_n 1, 1) := by decide +kernel
theorem dX2_add_20 : decode cX2_add 20 = .ok (.iastore, 1) := by decide +kernel
theorem dX2_add_21 : decode cX2_add 21 = .ok (.aload_n 0, 1) := by decide +kernel
theorem dX2_add_22 : decode cX2_add 22 = .ok (.getfield 15, 3) := by decide +kernel
theorem dX2_add_25 : decode cX2_add 25 = .ok (.aload_n 0, 1) := by decide +kernel
theorem dX2_add_26 : decode cX2_add 26 = .ok (.getfield 34, 3) := by decide +kernel
theorem dX2_add_29 : decode cX2_add 29 = .ok (.iload_n 2, 1) := by decide +kernel
theorem dX2_add_30 : decode cX2_add 30 = .ok (.iastore, 1) := by decide +kernel
theorem dX2_add_31 : decode cX2_add 31 = .ok (.aload_n 0, 1) := by decide +kernel
theorem dX2_add_32 : decode cX2_add 32 = .ok (.getfield 18, 3) := by decide +kernel
theorem dX2_add_35 : decode cX2_add 35 = .ok (.aload_n 0, 1) := by decide +kernel
theorem dX2_add_36 : decode cX2_add 36 = .ok (.getfield 34, 3) := by decide +kernel
theorem dX2_add_39 : decode cX2_add 39 = .ok (.iload_n 3, 1) := by decide +kernel
theorem dX2_add_40 : decode cX2_add 40 = .ok (.iastore, 1) := by decide +kernel
theorem dX2_add_41 : decode cX2_add 41 = .ok (.aload_n 0, 1) := by decide +kernel
theorem dX2_add_42 : decode cX2_add 42 = .ok (.getfield 21, 3) := by decide +kernel
theorem dX2_add_45 : decode cX2_add 45 = .ok (.aload_n 0, 1) := by decide +kernel
theorem dX2_add_46 : decode cX2_add 46 = .ok (.getfield 34, 3) := by decide +kernel
theorem dX2_add_49 : decode cX2_add 49 = .ok (.iload 4, 2) := by decide +kernel
theorem dX2_add_51 : decode cX2_add 51 = .ok (.iastore, 1) := by decide +kernel
theorem dX2_add_52 : decode cX2_add 52 = .ok (.aload_n 0, 1) := by decide +kernel
theorem dX2_add_53 : decode cX2_add 53 = .ok (.getfield 24, 3) := by decide +kernel
theorem dX2_add_56 : decode cX2_add 56 = .ok (.aload_n 0, 1) := by decide +kernel
theorem dX2_add_57 : decode cX2_add 57 = .ok (.getfield 34, 3) := by decide +kernel
theorem dX2_add_60 : decode cX2_add 60 = .ok (.aload_n 0, 1) := by decide +kernel
theorem dX2_add_61 : decode cX2_add 61 = .ok (.getfield 30, 3) := by decide +kernel
theorem dX2_add_64 : decode cX2_add 64 = .ok (.iastore, 1) := by decide +kernel
theorem dX2_add_65 : decode cX2_add 65 = .ok (.aload_n 0, 1) := by decide +kernel
theorem dX2_add_66 : decode cX2_add 66 = .ok (.dup, 1) := by decide +kernel
theorem dX2_add_67 : decode cX2_add 67 = .ok (.getfield 34, 3) := by decide +kernel
theorem dX2_add_70 : decode cX2_add 70 = .ok (.iconst 1, 1) := by decide +kernel
theorem dX2_add_71 : decode cX2_add 71 = .ok (.iadd, 1) := by decide +kernel
theorem dX2_add_72 : decode cX2_add 72 = .ok (.putfield 34, 3) := by decide +kernel
theorem dX2_add_75 : decode cX2_add 75 = .ok (.iconst 1, 1) := by decide +kernel
theorem dX2_add_76 : decode cX2_add 76 = .ok (.ireturn, 1) := by decide +kernel
set_option maxRecDepth 20000 in
theorem ggX2_goBy_X2_note : GoodIn wsX2_goBy wsX2_note := goodIn_r _ [6, 7, 8, 9, 10, 11, 12, 13, 14, 15, 16, 17, 18, 19, 20, 21, 22] (by decide +kernel) (by decide +kernel)
set_option maxRecDepth 20000 in
theorem gX2_goBy_X2_note : GoodIn wsX2_goBy (wsV RX2 49 RX2 yX2_note wsX2_note) := goodIn_app (goodIn_of _ (by decide +kernel)) ggX2_goBy_X2_note
theorem dX2_goBy_0 : decode cX2_goBy 0 = .ok (.aload_n 0, 1) := by decide +kernel
theorem dX2_goBy_1 : decode cX2_goBy 1 = .ok (.dup, 1) := by decide +kernel
theorem dX2_goBy_2 : decode cX2_goBy 2 = .ok (.getfield 30, 3) := by decide +kernel
theorem dX2_goBy_5 : decode cX2_goBy 5 = .ok (.iload_n 1, 1) := by decide +kernel
theorem dX2_goBy_6 : decode cX2_goBy 6 = .ok (.iadd, 1) := by decide +kernel
theorem dX2_goBy_7 : decode cX2_goBy 7 = .ok (.putfield 30, 3) := by decide +kernel
theorem dX2_goBy_10 : decode cX2_goBy 10 = .ok (.aload_n 0, 1) := by decide +kernel
theorem dX2_goBy_11 : decode cX2_goBy 11 = .ok (.iload_n 1, 1) := by decide +kernel
theorem dX2_goBy_12 : decode cX2_goBy 12 = .ok (.invokevirtual 49, 3) := by decide +kernel
theorem dX2_goBy_15 : decode cX2_goBy 15 = .ok (.return_, 1) := by decide +kernel
set_option maxRecDepth 20000 in
theorem ggX2_hush_X2_note : GoodIn wsX2_hush wsX2_note := goodIn_r _ [6, 7, 8, 9, 10, 11, 12, 13, 14, 15, 16, 17, 18, 19, 20, 21, 22] (by decide +kernel) (by decide +kernel)
set_option maxRecDepth 20000 in
theorem gX2_hush_X2_note : GoodIn wsX2_hush (wsV RX2 49 RX2 yX2_note wsX2_note) := goodIn_app (goodIn_of _ (by decide +kernel)) ggX2_hush_X2_note
theorem dX2_hush_0 : decode cX2_hush 0 = .ok (.aload_n 0, 1) := by decide +kernel
theorem dX2_hush_1 : decode cX2_hush 1 = .ok (.dup, 1) := by decide +kernel
theorem dX2_hush_2 : decode cX2_hush 2 = .ok (.getfield 37, 3) := by decide +kernel
theorem dX2_hush_5 : decode cX2_hush 5 = .ok (.iconst 1, 1) := by decide +kernel
theorem dX2_hush_6 : decode cX2_hush 6 = .ok (.iload_n 1, 1) := by decide +kernel
theorem dX2_hush_7 : decode cX2_hush 7 = .ok (.ishl, 1) := by decide +kernel
theorem dX2_hush_8 : decode cX2_hush 8 = .ok (.ior, 1) := by decide +kernel
theorem dX2_hush_9 : decode cX2_hush 9 = .ok (.putfield 37, 3) := by decide +kernel
theorem dX2_hush_12 : decode cX2_hush 12 = .ok (.aload_n 0, 1) := by decide +kernel
theorem dX2_hush_13 : decode cX2_hush 13 = .ok (.iconst (-1), 1) := by decide +kernel
theorem dX2_hush_14 : decode cX2_hush 14 = .ok (.iload_n 1, 1) := by decide +kernel
theorem dX2_hush_15 : decode cX2_hush 15 = .ok (.isub, 1) := by decide +kernel
theorem dX2_hush_16 : decode cX2_hush 16 = .ok (.invokevirtual 49, 3) := by decide +kernel
theorem dX2_hush_19 : decode cX2_hush 19 = .ok (.return_, 1) := by decide +kernel
theorem dX2_note_0 : decode cX2_note 0 = .ok (.aload_n 0, 1) := by decide +kernel
theorem dX2_note_1 : decode cX2_note 1 = .ok (.getfield 40, 3) := by decide +kernel
theorem dX2_note_4 : decode cX2_note 4 = .ok (.bipush 10, 2) := by decide +kernel
theorem dX2_note_6 : decode cX2_note 6 = .ok (.if_icmp .lt 24, 3) := by decide +kernel
theorem dX2_note_9 : decode cX2_note 9 = .ok (.aload_n 0, 1) := by decide +kernel
theorem dX2_note_10 : decode cX2_note 10 = .ok (.getfield 27, 3) := by decide +kernel
theorem dX2_note_13 : decode cX2_note 13 = .ok (.iconst 1, 1) := by decide +kernel
theorem dX2_note_14 : decode cX2_note 14 = .ok (.aload_n 0, 1) := by decide +kernel
theorem dX2_note_15 : decode cX2_note 15 = .ok (.getfield 27, 3) := by decide +kernel
theorem dX2_note_18 : decode cX2_note 18 = .ok (.iconst 0, 1) := by decide +kernel
theorem dX2_note_19 : decode cX2_note 19 = .ok (.bipush 9, 2) := by decide +kernel
theorem dX2_note_21 : decode cX2_note 21 = .ok (.invokestatic 43, 3) := by decide +kernel
theorem dX2_note_24 : decode cX2_note 24 = .ok (.aload_n 0, 1) := by decide +kernel
theorem dX2_note_25 : decode cX2_note 25 = .ok (.bipush 9, 2) := by decide +kernel
theorem dX2_note_27 : decode cX2_note 27 = .ok (.putfield 40, 3) := by decide +kernel
theorem dX2_note_30 : decode cX2_note 30 = .ok (.aload_n 0, 1) := by decide +kernel
theorem dX2_note_31 : decode cX2_note 31 = .ok (.getfield 27, 3) := by decide +kernel
theorem dX2_note_34 : decode cX2_note 34 = .ok (.aload_n 0, 1) := by decide +kernel
theorem dX2_note_35 : decode cX2_note 35 = .ok (.getfield 40, 3) := by decide +kernel
theorem dX2_note_38 : decode cX2_note 38 = .ok (.iload_n 1, 1) := by decide +kernel
theorem dX2_note_39 : decode cX2_note 39 = .ok (.iastore, 1) := by decide +kernel
theorem dX2_note_40 : decode cX2_note 40 = .ok (.aload_n 0, 1) := by decide +kernel
theorem dX2_note_41 : decode cX2_note 41 = .ok (.dup, 1) := by decide +kernel
theorem dX2_note_42 : decode cX2_note 42 = .ok (.getfield 40, 3) := by decide +kernel
theorem dX2_note_45 : decode cX2_note 45 = .ok (.iconst 1, 1) := by decide +kernel
theorem dX2_note_46 : decode cX2_note 46 = .ok (.iadd, 1) := by decide +kernel
theorem dX2_note_47 : decode cX2_note 47 = .ok (.putfield 40, 3) := by decide +kernel
theorem dX2_note_50 : decode cX2_note 50 = .ok (.return_, 1) := by decide +kernel
theorem dX2_takeBack_0 : decode cX2_takeBack 0 = .ok (.aload_n 0, 1) := by decide +kernel
theorem dX2_takeBack_1 : decode cX2_takeBack 1 = .ok (.getfield 40, 3) := by decide +kernel
theorem dX2_takeBack_4 : decode cX2_takeBack 4 = .ok (.ifCond .gt 5, 3) := by decide +kernel
theorem dX2_takeBack_7 : decode cX2_takeBack 7 = .ok (.iconst 0, 1) := by decide +kernel
theorem dX2_takeBack_8 : decode cX2_takeBack 8 = .ok (.ireturn, 1) := by decide +kernel
theorem dX2_takeBack_9 : decode cX2_takeBack 9 = .ok (.aload_n 0, 1) := by decide +kernel
theorem dX2_takeBack_10 : decode cX2_takeBack 10 = .ok (.dup, 1) := by decide +kernel
theorem dX2_takeBack_11 : decode cX2_takeBack 11 = .ok (.getfield 40, 3) := by decide +kernel
theorem dX2_takeBack_14 : decode cX2_takeBack 14 = .ok (.iconst 1, 1) := by decide +kernel
theorem dX2_takeBack_15 : decode cX2_takeBack 15 = .ok (.isub, 1) := by decide +kernel
theorem dX2_takeBack_16 : decode cX2_takeBack 16 = .ok (.putfield 40, 3) := by decide +kernel
theorem dX2_takeBack_19 : decode cX2_takeBack 19 = .ok (.aload_n 0, 1) := by decide +kernel
theorem dX2_takeBack_20 : decode cX2_takeBack 20 = .ok (.getfield 27, 3) := by decide +kernel
theorem dX2_takeBack_23 : decode cX2_takeBack 23 = .ok (.aload_n 0, 1) := by decide +kernel
theorem dX2_takeBack_24 : decode cX2_takeBack 24 = .ok (.getfield 40, 3) := by decide +kernel
theorem dX2_takeBack_27 : decode cX2_takeBack 27 = .ok (.iaload, 1) := by decide +kernel
theorem dX2_takeBack_28 : decode cX2_takeBack 28 = .ok (.istore_n 1, 1) := by decide +kernel
theorem dX2_takeBack_29 : decode cX2_takeBack 29 = .ok (.iload_n 1, 1) := by decide +kernel
theorem dX2_takeBack_30 : decode cX2_takeBack 30 = .ok (.ifCond .ne 16, 3) := by decide +kernel
theorem dX2_takeBack_33 : decode cX2_takeBack 33 = .ok (.aload_n 0, 1) := by decide +kernel
theorem dX2_takeBack_34 : decode cX2_takeBack 34 = .ok (.dup, 1) := by decide +kernel
theorem dX2_takeBack_35 : decode cX2_takeBack 35 = .ok (.getfield 34, 3) := by decide +kernel
theorem dX2_takeBack_38 : decode cX2_takeBack 38 = .ok (.iconst 1, 1) := by decide +kernel
theorem dX2_takeBack_39 : decode cX2_takeBack 39 = .ok (.isub, 1) := by decide +kernel
theorem dX2_takeBack_40 : decode cX2_takeBack 40 = .ok (.putfield 34, 3) := by decide +kernel
theorem dX2_takeBack_43 : decode cX2_takeBack 43 = .ok (.goto 36, 3) := by decide +kernel
theorem dX2_takeBack_46 : decode cX2_takeBack 46 = .ok (.iload_n 1, 1) := by decide +kernel
theorem dX2_takeBack_47 : decode cX2_takeBack 47 = .ok (.ifCond .le 16, 3) := by decide +kernel
theorem dX2_takeBack_50 : decode cX2_takeBack 50 = .ok (.aload_n 0, 1) := by decide +kernel
theorem dX2_takeBack_51 : decode cX2_takeBack 51 = .ok (.dup, 1) := by decide +kernel
theorem dX2_takeBack_52 : decode cX2_takeBack 52 = .ok (.getfield 30, 3) := by decide +kernel
theorem dX2_takeBack_55 : decode cX2_takeBack 55 = .ok (.iload_n 1, 1) := by decide +kernel
theorem dX2_takeBack_56 : decode cX2_takeBack 56 = .ok (.isub, 1) := by decide +kernel
theorem dX2_takeBack_57 : decode cX2_takeBack 57 = .ok (.putfield 30, 3) := by decide +kernel
theorem dX2_takeBack_60 : decode cX2_takeBack 60 = .ok (.goto 19, 3) := by decide +kernel
theorem dX2_takeBack_63 : decode cX2_takeBack 63 = .ok (.aload_n 0, 1) := by decide +kernel
theorem dX2_takeBack_64 : decode cX2_takeBack 64 = .ok (.dup, 1) := by decide +kernel
theorem dX2_takeBack_65 : decode cX2_takeBack 65 = .ok (.getfield 37, 3) := by decide +kernel
theorem dX2_takeBack_68 : decode cX2_takeBack 68 = .ok (.iconst 1, 1) := by decide +kernel
theorem dX2_takeBack_69 : decode cX2_takeBack 69 = .ok (.iconst (-1), 1) := by decide +kernel
theorem dX2_takeBack_70 : decode cX2_takeBack 70 = .ok (.iload_n 1, 1) := by decide +kernel
theorem dX2_takeBack_71 : decode cX2_takeBack 71 = .ok (.isub, 1) := by decide +kernel
theorem dX2_takeBack_72 : decode cX2_takeBack 72 = .ok (.ishl, 1) := by decide +kernel
theorem dX2_takeBack_73 : decode cX2_takeBack 73 = .ok (.iconst (-1), 1) := by decide +kernel
theorem dX2_takeBack_74 : decode cX2_takeBack 74 = .ok (.ixor, 1) := by decide +kernel
theorem dX2_takeBack_75 : decode cX2_takeBack 75 = .ok (.iand, 1) := by decide +kernel
theorem dX2_takeBack_76 : decode cX2_takeBack 76 = .ok (.putfield 37, 3) := by decide +kernel
theorem dX2_takeBack_79 : decode cX2_takeBack 79 = .ok (.iconst 1, 1) := by decide +kernel
theorem dX2_takeBack_80 : decode cX2_takeBack 80 = .ok (.ireturn, 1) := by decide +kernel
theorem dX3_init_0 : decode cX3_init 0 = .ok (.aload_n 0, 1) := by decide +kernel
theorem dX3_init_1 : decode cX3_init 1 = .ok (.invokespecial 3, 3) := by decide +kernel
theorem dX3_init_4 : decode cX3_init 4 = .ok (.aload_n 0, 1) := by decide +kernel
theorem dX3_init_5 : decode cX3_init 5 = .ok (.bipush 120, 2) := by decide +kernel
theorem dX3_init_7 : decode cX3_init 7 = .ok (.newarray .int, 2) := by decide +kernel
theorem dX3_init_9 : decode cX3_init 9 = .ok (.putfield 9, 3) := by decide +kernel
theorem dX3_init_12 : decode cX3_init 12 = .ok (.return_, 1) := by decide +kernel
theorem dX3_append_0 : decode cX3_append 0 = .ok (.aload_n 0, 1) := by decide +kernel
theorem dX3_append_1 : decode cX3_append 1 = .ok (.getfield 15, 3) := by decide +kernel
theorem dX3_append_4 : decode cX3_append 4 = .ok (.bipush 120, 2) := by decide +kernel
theorem dX3_append_6 : decode cX3_append 6 = .ok (.if_icmp .lt 5, 3) := by decide +kernel
theorem dX3_append_9 : decode cX3_append 9 = .ok (.iconst 0, 1) := by decide +kernel
theorem dX3_append_10 : decode cX3_append 10 = .ok (.ireturn, 1) := by decide +kernel
theorem dX3_append_11 : decode cX3_append 11 = .ok (.aload_n 0, 1) := by decide +kernel
theorem dX3_append_12 : decode cX3_append 12 = .ok (.getfield 9, 3) := by decide +kernel
theorem dX3_append_15 : decode cX3_append 15 = .ok (.aload_n 0, 1) := by decide +kernel
theorem dX3_append_16 : decode cX3_append 16 = .ok (.getfield 15, 3) := by decide +kernel
theorem dX3_append_19 : decode cX3_append 19 = .ok (.iload_n 1, 1) := by decide +kernel
theorem dX3_append_20 : decode cX3_append 20 = .ok (.iastore, 1) := by decide +kernel
theorem dX3_append_21 : decode cX3_append 21 = .ok (.aload_n 0, 1) := by decide +kernel
theorem dX3_append_22 : decode cX3_append 22 = .ok (.dup, 1) := by decide +kernel
theorem dX3_append_23 : decode cX3_append 23 = .ok (.getfield 15, 3) := by decide +kernel
theorem dX3_append_26 : decode cX3_append 26 = .ok (.iconst 1, 1) := by decide +kernel
theorem dX3_append_27 : decode cX3_append 27 = .ok (.iadd, 1) := by decide +kernel
theorem dX3_append_28 : decode cX3_append 28 = .ok (.putfield 15, 3) := by decide +kernel
theorem dX3_append_31 : decode cX3_append 31 = .ok (.iconst 1, 1) := by decide +kernel
theorem dX3_append_32 : decode cX3_append 32 = .ok (.ireturn, 1) := by decide +kernel
set_option maxRecDepth 20000 in
theorem ggX3_readInto_X0_empty : GoodIn wsX3_readInto wsX0_empty := goodIn_r _ [9, 10, 11, 12, 13, 14, 15, 16, 17, 18, 19, 20, 21, 22, 90, 91, 92, 93, 94, 95, 96, 97, 98, 99, 100, 101, 102, 103, 104, 105] (by decide +kernel) (by decide +kernel)
set_option maxRecDepth 20000 in
theorem gX3_readInto_X0_empty : GoodIn wsX3_readInto (wsV RX3 19 RX0 yX0_empty wsX0_empty) := goodIn_app (goodIn_of _ (by decide +kernel)) ggX3_readInto_X0_empty
set_option maxRecDepth 20000 in
theorem ggX3_readInto_X3_step : GoodIn wsX3_readInto wsX3_step := goodIn_r _ [27, 2, 28, 29, 4, 3, 30, 31, 32, 26, 33, 34, 35, 36, 37, 83, 84, 85, 86, 87, 88, 89] (by decide +kernel) (by decide +kernel)
set_option maxRecDepth 20000 in
theorem gX3_readInto_X3_step : GoodIn wsX3_readInto (wsV RX3 31 RX3 yX3_step wsX3_step) := goodIn_app (goodIn_of _ (by decide +kernel)) ggX3_readInto_X3_step
set_option maxRecDepth 20000 in
theorem ggX3_readInto_X3_readItem : GoodIn wsX3_readInto wsX3_readItem := goodIn_r _ [41, 3, 30, 1, 42, 43, 44, 45, 46, 26, 47, 48, 49, 50, 51, 52, 23, 24, 25, 27, 2, 28, 29, 4, 31, 32, 33, 34, 35, 36, 37, 53, 54, 55, 56, 57, 58, 59, 60, 61, 62, 63, 64, 65, 66, 67, 68, 69, 70, 71, 72, 73, 74, 75, 76, 17, 77, 20, 78, 79, 80, 81, 82, 19, 83, 84, 85, 86, 87, 88, 89, 90, 91, 92, 93, 94, 95, 96, 97, 98, 99, 100, 101, 102, 103, 104, 105] (by decide +kernel) (by decide +kernel)
set_option maxRecDepth 20000 in
theorem gX3_readInto_X3_readItem : GoodIn wsX3_readInto (wsV RX3 37 RX3 yX3_readItem wsX3_readItem) := goodIn_app (goodIn_of _ (by decide +kernel)) ggX3_readInto_X3_readItem
theorem dX3_readInto_0 : decode cX3_readInto 0 = .ok (.aload_n 1, 1) := by decide +kernel
theorem dX3_readInto_1 : decode cX3_readInto 1 = .ok (.invokevirtual 19, 3) := by decide +kernel
theorem dX3_readInto_4 : decode cX3_readInto 4 = .ok (.aload_n 0, 1) := by decide +kernel
theorem dX3_readInto_5 : decode cX3_readInto 5 = .ok (.iconst 0, 1) := by decide +kernel
theorem dX3_readInto_6 : decode cX3_readInto 6 = .ok (.putfield 24, 3) := by decide +kernel
theorem dX3_readInto_9 : decode cX3_readInto 9 = .ok (.aload_n 0, 1) := by decide +kernel
theorem dX3_readInto_10 : decode cX3_readInto 10 = .ok (.iconst 0, 1) := by decide +kernel
theorem dX3_readInto_11 : decode cX3_readInto 11 = .ok (.putfield 28, 3) := by decide +kernel
theorem dX3_readInto_14 : decode cX3_readInto 14 = .ok (.iconst 0, 1) := by decide +kernel
theorem dX3_readInto_15 : decode cX3_readInto 15 = .ok (.istore_n 2, 1) := by decide +kernel
theorem dX3_readInto_16 : decode cX3_readInto 16 = .ok (.aload_n 0, 1) := by decide +kernel
theorem dX3_readInto_17 : decode cX3_readInto 17 = .ok (.invokevirtual 31, 3) := by decide +kernel
theorem dX3_readInto_20 : decode cX3_readInto 20 = .ok (.iload_n 2, 1) := by decide +kernel
theorem dX3_readInto_21 : decode cX3_readInto 21 = .ok (.bipush 120, 2) := by decide +kernel
theorem dX3_readInto_23 : decode cX3_readInto 23 = .ok (.if_icmp .ge 33, 3) := by decide +kernel
theorem dX3_readInto_26 : decode cX3_readInto 26 = .ok (.aload_n 0, 1) := by decide +kernel
theorem dX3_readInto_27 : decode cX3_readInto 27 = .ok (.getfield 34, 3) := by decide +kernel
theorem dX3_readInto_30 : decode cX3_readInto 30 = .ok (.ifCond .eq 26, 3) := by decide +kernel
theorem dX3_readInto_33 : decode cX3_readInto 33 = .ok (.aload_n 0, 1) := by decide +kernel
theorem dX3_readInto_34 : decode cX3_readInto 34 = .ok (.aload_n 1, 1) := by decide +kernel
theorem dX3_readInto_35 : decode cX3_readInto 35 = .ok (.iload_n 2, 1) := by decide +kernel
theorem dX3_readInto_36 : decode cX3_readInto 36 = .ok (.invokevirtual 37, 3) := by decide +kernel
theorem dX3_readInto_39 : decode cX3_readInto 39 = .ok (.ifCond .ne 11, 3) := by decide +kernel
theorem dX3_readInto_42 : decode cX3_readInto 42 = .ok (.bipush (-10), 2) := by decide +kernel
theorem dX3_readInto_44 : decode cX3_readInto 44 = .ok (.aload_n 0, 1) := by decide +kernel
theorem dX3_readInto_45 : decode cX3_readInto 45 = .ok (.getfield 41, 3) := by decide +kernel
theorem dX3_readInto_48 : decode cX3_readInto 48 = .ok (.isub, 1) := by decide +kernel
theorem dX3_readInto_49 : decode cX3_readInto 49 = .ok (.ireturn, 1) := by decide +kernel
theorem dX3_readInto_50 : decode cX3_readInto 50 = .ok (.iinc 2 1, 3) := by decide +kernel
theorem dX3_readInto_53 : decode cX3_readInto 53 = .ok (.goto (-33), 3) := by decide +kernel
theorem dX3_readInto_56 : decode cX3_readInto 56 = .ok (.iload_n 2, 1) := by decide +kernel
theorem dX3_readInto_57 : decode cX3_readInto 57 = .ok (.ireturn, 1) := by decide +kernel
set_option maxRecDepth 20000 in
theorem ggX3_readItem_X3_readPlaces : GoodIn wsX3_readItem wsX3_readPlaces := goodIn_r _ [10, 2, 11, 12, 13, 14, 9, 15, 1, 16, 17, 18, 19, 20, 21, 22, 23, 24, 25, 26, 27, 28, 29, 30, 31, 32, 33, 34, 35, 36, 37, 64, 65, 66, 67, 68, 69, 70, 71, 72, 73, 74, 75, 76] (by decide +kernel) (by decide +kernel)
set_option maxRecDepth 20000 in
theorem gX3_readItem_X3_readPlaces : GoodIn wsX3_readItem (wsV RX3 47 RX3 yX3_readPlaces wsX3_readPlaces) := goodIn_app (goodIn_of _ (by decide +kernel)) ggX3_readItem_X3_readPlaces
set_option maxRecDepth 20000 in
theorem ggX3_readItem_X3_readLoss : GoodIn wsX3_readItem wsX3_readLoss := goodIn_r _ [41, 2, 42, 3, 12, 13, 14, 9, 15, 1, 16, 17, 18, 19, 20, 21, 22, 23, 24, 25, 26, 27, 28, 29, 30, 31, 32, 33, 34, 35, 36, 37, 64, 65, 66, 67, 68, 69, 70, 71, 72, 73, 74, 75, 76] (by decide +kernel) (by decide +kernel)
set_option maxRecDepth 20000 in
theorem gX3_readItem_X3_readLoss : GoodIn wsX3_readItem (wsV RX3 51 RX3 yX3_readLoss wsX3_readLoss) := goodIn_app (goodIn_of _ (by decide +kernel)) ggX3_readItem_X3_readLoss
set_option maxRecDepth 20000 in
theorem ggX3_readItem_X3_readNiche : GoodIn wsX3_readItem wsX3_readNiche := goodIn_r _ [46, 11, 47, 2, 12, 13, 14, 9, 15, 1, 16, 17, 18, 19, 20, 21, 22, 23, 24, 25, 26, 27, 28, 29, 30, 31, 32, 33, 34, 35, 36, 37, 71, 72, 73, 74, 75, 76, 64, 65, 66, 67, 68, 69, 70] (by decide +kernel) (by decide +kernel)
set_option maxRecDepth 20000 in
theorem gX3_readItem_X3_readNiche : GoodIn wsX3_readItem (wsV RX3 54 RX3 yX3_readNiche wsX3_readNiche) := goodIn_app (goodIn_of _ (by decide +kernel)) ggX3_readItem_X3_readNiche
set_option maxRecDepth 20000 in
theorem ggX3_readItem_X3_readSaying : GoodIn wsX3_readItem wsX3_readSaying := goodIn_r _ [51, 11, 2, 4, 12, 13, 14, 9, 15, 1, 16, 17, 18, 19, 20, 21, 22, 23, 24, 25, 26, 27, 28, 29, 30, 31, 32, 33, 52, 53, 54, 55, 56, 57, 58, 59, 60, 61, 62, 63, 34, 35, 36, 37, 71, 72, 73, 74, 75, 76, 64, 65, 66, 67, 68, 69, 70, 77, 78, 79, 80, 81, 82, 83, 84, 85, 86] (by decide +kernel) (by decide +kernel)
set_option maxRecDepth 20000 in
theorem gX3_readItem_X3_readSaying : GoodIn wsX3_readItem (wsV RX3 66 RX3 yX3_readSaying wsX3_readSaying) := goodIn_app (goodIn_of _ (by decide +kernel)) ggX3_readItem_X3_readSaying
theorem dX3_readItem_0 : decode cX3_readItem 0 = .ok (.aload_n 0, 1) := by decide +kernel
theorem dX3_readItem_1 : decode cX3_readItem 1 = .ok (.getfield 34, 3) := by decide +kernel
theorem dX3_readItem_4 : decode cX3_readItem 4 = .ok (.iconst 1, 1) := by decide +kernel
theorem dX3_readItem_5 : decode cX3_readItem 5 = .ok (.if_icmp .eq 5, 3) := by decide +kernel
theorem dX3_readItem_8 : decode cX3_readItem 8 = .ok (.iconst 0, 1) := by decide +kernel
theorem dX3_readItem_9 : decode cX3_readItem 9 = .ok (.ireturn, 1) := by decide +kernel
theorem dX3_readItem_10 : decode cX3_readItem 10 = .ok (.aload_n 0, 1) := by decide +kernel
theorem dX3_readItem_11 : decode cX3_readItem 11 = .ok (.getfield 44, 3) := by decide +kernel
theorem dX3_readItem_14 : decode cX3_readItem 14 = .ok (.lookupswitch 113 #[(104, 81), (108, 60), (110, 42), (115, 87)], 42) := by decide +kernel
theorem dX3_readItem_56 : decode cX3_readItem 56 = .ok (.iload_n 2, 1) := by decide +kernel
theorem dX3_readItem_57 : decode cX3_readItem 57 = .ok (.ifCond .ne 15, 3) := by decide +kernel
theorem dX3_readItem_60 : decode cX3_readItem 60 = .ok (.aload_n 0, 1) := by decide +kernel
theorem dX3_readItem_61 : decode cX3_readItem 61 = .ok (.aload_n 1, 1) := by decide +kernel
theorem dX3_readItem_62 : decode cX3_readItem 62 = .ok (.invokevirtual 47, 3) := by decide +kernel
theorem dX3_readItem_65 : decode cX3_readItem 65 = .ok (.ifCond .eq 7, 3) := by decide +kernel
theorem dX3_readItem_68 : decode cX3_readItem 68 = .ok (.iconst 1, 1) := by decide +kernel
theorem dX3_readItem_69 : decode cX3_readItem 69 = .ok (.goto 4, 3) := by decide +kernel
theorem dX3_readItem_72 : decode cX3_readItem 72 = .ok (.iconst 0, 1) := by decide +kernel
theorem dX3_readItem_73 : decode cX3_readItem 73 = .ok (.ireturn, 1) := by decide +kernel
theorem dX3_readItem_74 : decode cX3_readItem 74 = .ok (.aload_n 0, 1) := by decide +kernel
theorem dX3_readItem_75 : decode cX3_readItem 75 = .ok (.getfield 24, 3) := by decide +kernel
theorem dX3_readItem_78 : decode cX3_readItem 78 = .ok (.ifCond .ne 15, 3) := by decide +kernel
theorem dX3_readItem_81 : decode cX3_readItem 81 = .ok (.aload_n 0, 1) := by decide +kernel
theorem dX3_readItem_82 : decode cX3_readItem 82 = .ok (.aload_n 1, 1) := by decide +kernel
theorem dX3_readItem_83 : decode cX3_readItem 83 = .ok (.invokevirtual 51, 3) := by decide +kernel
theorem dX3_readItem_86 : decode cX3_readItem 86 = .ok (.ifCond .eq 7, 3) := by decide +kernel
theorem dX3_readItem_89 : decode cX3_readItem 89 = .ok (.iconst 1, 1) := by decide +kernel
theorem dX3_readItem_90 : decode cX3_readItem 90 = .ok (.goto 4, 3) := by decide +kernel
theorem dX3_readItem_93 : decode cX3_readItem 93 = .ok (.iconst 0, 1) := by decide +kernel
theorem dX3_readItem_94 : decode cX3_readItem 94 = .ok (.ireturn, 1) := by decide +kernel
theorem dX3_readItem_95 : decode cX3_readItem 95 = .ok (.aload_n 0, 1) := by decide +kernel
theorem dX3_readItem_96 : decode cX3_readItem 96 = .ok (.aload_n 1, 1) := by decide +kernel
theorem dX3_readItem_97 : decode cX3_readItem 97 = .ok (.invokevirtual 54, 3) := by decide +kernel
theorem dX3_readItem_100 : decode cX3_readItem 100 = .ok (.ireturn, 1) := by decide +kernel
theorem dX3_readItem_101 : decode cX3_readItem 101 = .ok (.aload_n 1, 1) := by decide +kernel
theorem dX3_readItem_102 : decode cX3_readItem 102 = .ok (.getfield 57, 3) := by decide +kernel
theorem dX3_readItem_105 : decode cX3_readItem 105 = .ok (.getfield 61, 3) := by decide +kernel
theorem dX3_readItem_108 : decode cX3_readItem 108 = .ok (.bipush 8, 2) := by decide +kernel
theorem dX3_readItem_110 : decode cX3_readItem 110 = .ok (.if_icmp .ge 15, 3) := by decide +kernel
theorem dX3_readItem_113 : decode cX3_readItem 113 = .ok (.aload_n 0, 1) := by decide +kernel
theorem dX3_readItem_114 : decode cX3_readItem 114 = .ok (.aload_n 1, 1) := by decide +kernel
theorem dX3_readItem_115 : decode cX3_readItem 115 = .ok (.invokevirtual 66, 3) := by decide +kernel
theorem dX3_readItem_118 : decode cX3_readItem 118 = .ok (.ifCond .eq 7, 3) := by decide +kernel
theorem dX3_readItem_121 : decode cX3_readItem 121 = .ok (.iconst 1, 1) := by decide +kernel
theorem dX3_readItem_122 : decode cX3_readItem 122 = .ok (.goto 4, 3) := by decide +kernel
theorem dX3_readItem_125 : decode cX3_readItem 125 = .ok (.iconst 0, 1) := by decide +kernel
theorem dX3_readItem_126 : decode cX3_readItem 126 = .ok (.ireturn, 1) := by decide +kernel
theorem dX3_readItem_127 : decode cX3_readItem 127 = .ok (.iconst 0, 1) := by decide +kernel
theorem dX3_readItem_128 : decode cX3_readItem 128 = .ok (.ireturn, 1) := by decide +kernel
set_option maxRecDepth 20000 in
theorem ggX3_readPlaces_X3_readNumber : GoodIn wsX3_readPlaces wsX3_readNumber := goodIn_r _ [7, 8, 1, 9, 10, 11, 6, 12, 13, 14, 15, 16, 17, 18, 19, 20, 21, 22, 23, 24, 25, 26, 31, 32, 33, 34, 35, 36, 37] (by decide +kernel) (by decide +kernel)
set_option maxRecDepth 20000 in
theorem gX3_readPlaces_X3_readNumber : GoodIn wsX3_readPlaces (wsV RX3 69 RX3 yX3_readNumber wsX3_readNumber) := goodIn_app (goodIn_of _ (by decide +kernel)) ggX3_readPlaces_X3_readNumber
set_option maxRecDepth 20000 in
theorem ggX3_readPlaces_X3_readStop : GoodIn wsX3_readPlaces wsX3_readStop := goodIn_r _ [30, 8, 9, 10, 11, 6, 12, 13, 14, 15, 16, 1, 17, 18, 19, 20, 21, 22, 23, 31, 32, 33, 34, 35, 36, 37] (by decide +kernel) (by decide +kernel)
set_option maxRecDepth 20000 in
theorem gX3_readPlaces_X3_readStop : GoodIn wsX3_readPlaces (wsV RX3 76 RX3 yX3_readStop wsX3_readStop) := goodIn_app (goodIn_of _ (by decide +kernel)) ggX3_readPlaces_X3_readStop
theorem dX3_readPlaces_0 : decode cX3_readPlaces 0 = .ok (.aload_n 0, 1) := by decide +kernel
theorem dX3_readPlaces_1 : decode cX3_readPlaces 1 = .ok (.iconst 4, 1) := by decide +kernel
theorem dX3_readPlaces_2 : decode cX3_readPlaces 2 = .ok (.bipush 24, 2) := by decide +kernel
theorem dX3_readPlaces_4 : decode cX3_readPlaces 4 = .ok (.invokevirtual 69, 3) := by decide +kernel
theorem dX3_readPlaces_7 : decode cX3_readPlaces 7 = .ok (.ifCond .ne 5, 3) := by decide +kernel
theorem dX3_readPlaces_10 : decode cX3_readPlaces 10 = .ok (.iconst 0, 1) := by decide +kernel
theorem dX3_readPlaces_11 : decode cX3_readPlaces 11 = .ok (.ireturn, 1) := by decide +kernel
theorem dX3_readPlaces_12 : decode cX3_readPlaces 12 = .ok (.aload_n 1, 1) := by decide +kernel
theorem dX3_readPlaces_13 : decode cX3_readPlaces 13 = .ok (.aload_n 0, 1) := by decide +kernel
theorem dX3_readPlaces_14 : decode cX3_readPlaces 14 = .ok (.getfield 44, 3) := by decide +kernel
theorem dX3_readPlaces_17 : decode cX3_readPlaces 17 = .ok (.putfield 73, 3) := by decide +kernel
theorem dX3_readPlaces_20 : decode cX3_readPlaces 20 = .ok (.aload_n 0, 1) := by decide +kernel
theorem dX3_readPlaces_21 : decode cX3_readPlaces 21 = .ok (.invokevirtual 76, 3) := by decide +kernel
theorem dX3_readPlaces_24 : decode cX3_readPlaces 24 = .ok (.ireturn, 1) := by decide +kernel
set_option maxRecDepth 20000 in
theorem ggX3_readLoss_X3_readNumber : GoodIn wsX3_readLoss wsX3_readNumber := goodIn_r _ [8, 9, 1, 10, 11, 12, 7, 13, 14, 15, 16, 17, 18, 19, 20, 21, 22, 23, 24, 25, 26, 27, 32, 33, 34, 35, 36, 37, 38] (by decide +kernel) (by decide +kernel)
set_option maxRecDepth 20000 in
theorem gX3_readLoss_X3_readNumber : GoodIn wsX3_readLoss (wsV RX3 69 RX3 yX3_readNumber wsX3_readNumber) := goodIn_app (goodIn_of _ (by decide +kernel)) ggX3_readLoss_X3_readNumber
set_option maxRecDepth 20000 in
theorem ggX3_readLoss_X3_readStop : GoodIn wsX3_readLoss wsX3_readStop := goodIn_r _ [31, 9, 10, 11, 12, 7, 13, 14, 15, 16, 17, 1, 18, 19, 20, 21, 22, 23, 24, 32, 33, 34, 35, 36, 37, 38] (by decide +kernel) (by decide +kernel)
set_option maxRecDepth 20000 in
theorem gX3_readLoss_X3_readStop : GoodIn wsX3_readLoss (wsV RX3 76 RX3 yX3_readStop wsX3_readStop) := goodIn_app (goodIn_of _ (by decide +kernel)) ggX3_readLoss_X3_readStop
theorem dX3_readLoss_0 : decode cX3_readLoss 0 = .ok (.aload_n 0, 1) := by decide +kernel
theorem dX3_readLoss_1 : decode cX3_readLoss 1 = .ok (.iconst 1, 1) := by decide +kernel
theorem dX3_readLoss_2 : decode cX3_readLoss 2 = .ok (.bipush 9, 2) := by decide +kernel
theorem dX3_readLoss_4 : decode cX3_readLoss 4 = .ok (.invokevirtual 69, 3) := by decide +kernel
theorem dX3_readLoss_7 : decode cX3_readLoss 7 = .ok (.ifCond .ne 5, 3) := by decide +kernel
theorem dX3_readLoss_10 : decode cX3_readLoss 10 = .ok (.iconst 0, 1) := by decide +kernel
theorem dX3_readLoss_11 : decode cX3_readLoss 11 = .ok (.ireturn, 1) := by decide +kernel
theorem dX3_readLoss_12 : decode cX3_readLoss 12 = .ok (.aload_n 1, 1) := by decide +kernel
theorem dX3_readLoss_13 : decode cX3_readLoss 13 = .ok (.aload_n 0, 1) := by decide +kernel
theorem dX3_readLoss_14 : decode cX3_readLoss 14 = .ok (.getfield 44, 3) := by decide +kernel
theorem dX3_readLoss_17 : decode cX3_readLoss 17 = .ok (.putfield 80, 3) := by decide +kernel
theorem dX3_readLoss_20 : decode cX3_readLoss 20 = .ok (.aload_n 0, 1) := by decide +kernel
theorem dX3_readLoss_21 : decode cX3_readLoss 21 = .ok (.iconst 1, 1) := by decide +kernel
theorem dX3_readLoss_22 : decode cX3_readLoss 22 = .ok (.putfield 24, 3) := by decide +kernel
theorem dX3_readLoss_25 : decode cX3_readLoss 25 = .ok (.aload_n 0, 1) := by decide +kernel
theorem dX3_readLoss_26 : decode cX3_readLoss 26 = .ok (.invokevirtual 76, 3) := by decide +kernel
theorem dX3_readLoss_29 : decode cX3_readLoss 29 = .ok (.ireturn, 1) := by decide +kernel
end
section
set_option maxRecDepth 20000 in
theorem ggX3_readNiche_X3_readNumber : GoodIn wsX3_readNiche wsX3_readNumber := goodIn_r _ [8, 9, 3, 10, 11, 12, 7, 13, 14, 15, 16, 17, 18, 19, 20, 21, 22, 23, 24, 25, 26, 27, 38, 39, 40, 41, 42, 43, 44] (by decide +kernel) (by decide +kernel)
set_option maxRecDepth 20000 in
theorem gX3_readNiche_X3_readNumber : GoodIn wsX3_readNiche (wsV RX3 69 RX3 yX3_readNumber wsX3_readNumber) := goodIn_app (goodIn_of _ (by decide +kernel)) ggX3_readNiche_X3_readNumber
set_option maxRecDepth 20000 in
theorem ggX3_readNiche_X3_readStop : GoodIn wsX3_readNiche wsX3_readStop := goodIn_r _ [31, 9, 10, 11, 12, 7, 13, 14, 15, 16, 17, 3, 18, 19, 20, 21, 22, 23, 24, 38, 39, 40, 41, 42, 43, 44] (by decide +kernel) (by decide +kernel)
set_option maxRecDepth 20000 in
theorem gX3_readNiche_X3_readStop : GoodIn wsX3_readNiche (wsV RX3 76 RX3 yX3_readStop wsX3_readStop) := goodIn_app (goodIn_of _ (by decide +kernel)) ggX3_readNiche_X3_readStop
theorem dX3_readNiche_0 : decode cX3_readNiche 0 = .ok (.aload_n 0, 1) := by decide +kernel
theorem dX3_readNiche_1 : decode cX3_readNiche 1 = .ok (.iconst 0, 1) := by decide +kernel
theorem dX3_readNiche_2 : decode cX3_readNiche 2 = .ok (.aload_n 1, 1) := by decide +kernel
theorem dX3_readNiche_3 : decode cX3_readNiche 3 = .ok (.getfield 73, 3) := by decide +kernel
theorem dX3_readNiche_6 : decode cX3_readNiche 6 = .ok (.iconst 1, 1) := by decide +kernel
theorem dX3_readNiche_7 : decode cX3_readNiche 7 = .ok (.isub, 1) := by decide +kernel
theorem dX3_readNiche_8 : decode cX3_readNiche 8 = .ok (.invokevirtual 69, 3) := by decide +kernel
theorem dX3_readNiche_11 : decode cX3_readNiche 11 = .ok (.ifCond .ne 5, 3) := by decide +kernel
theorem dX3_readNiche_14 : decode cX3_readNiche 14 = .ok (.iconst 0, 1) := by decide +kernel
theorem dX3_readNiche_15 : decode cX3_readNiche 15 = .ok (.ireturn, 1) := by decide +kernel
theorem dX3_readNiche_16 : decode cX3_readNiche 16 = .ok (.aload_n 1, 1) := by decide +kernel
theorem dX3_readNiche_17 : decode cX3_readNiche 17 = .ok (.dup, 1) := by decide +kernel
theorem dX3_readNiche_18 : decode cX3_readNiche 18 = .ok (.getfield 83, 3) := by decide +kernel
theorem dX3_readNiche_21 : decode cX3_readNiche 21 = .ok (.iconst 1, 1) := by decide +kernel
theorem dX3_readNiche_22 : decode cX3_readNiche 22 = .ok (.aload_n 0, 1) := by decide +kernel
theorem dX3_readNiche_23 : decode cX3_readNiche 23 = .ok (.getfield 44, 3) := by decide +kernel
theorem dX3_readNiche_26 : decode cX3_readNiche 26 = .ok (.ishl, 1) := by decide +kernel
theorem dX3_readNiche_27 : decode cX3_readNiche 27 = .ok (.ior, 1) := by decide +kernel
theorem dX3_readNiche_28 : decode cX3_readNiche 28 = .ok (.putfield 83, 3) := by decide +kernel
theorem dX3_readNiche_31 : decode cX3_readNiche 31 = .ok (.aload_n 0, 1) := by decide +kernel
theorem dX3_readNiche_32 : decode cX3_readNiche 32 = .ok (.invokevirtual 76, 3) := by decide +kernel
theorem dX3_readNiche_35 : decode cX3_readNiche 35 = .ok (.ireturn, 1) := by decide +kernel
set_option maxRecDepth 20000 in
theorem ggX3_readSaying_X3_readNumber : GoodIn wsX3_readSaying wsX3_readNumber := goodIn_r _ [8, 9, 2, 10, 11, 12, 7, 13, 14, 15, 16, 17, 18, 19, 20, 21, 22, 23, 24, 25, 26, 27, 50, 51, 52, 53, 54, 55, 56] (by decide +kernel) (by decide +kernel)
set_option maxRecDepth 20000 in
theorem gX3_readSaying_X3_readNumber : GoodIn wsX3_readSaying (wsV RX3 69 RX3 yX3_readNumber wsX3_readNumber) := goodIn_app (goodIn_of _ (by decide +kernel)) ggX3_readSaying_X3_readNumber
set_option maxRecDepth 20000 in
theorem ggX3_readSaying_X2_add : GoodIn wsX3_readSaying wsX2_add := goodIn_r _ [32, 33, 34, 35, 36, 37, 38, 39, 57, 58, 59, 60, 61, 62, 63, 64, 65, 66] (by decide +kernel) (by decide +kernel)
set_option maxRecDepth 20000 in
theorem gX3_readSaying_X2_add : GoodIn wsX3_readSaying (wsV RX3 86 RX2 yX2_add wsX2_add) := goodIn_app (goodIn_of _ (by decide +kernel)) ggX3_readSaying_X2_add
set_option maxRecDepth 20000 in
theorem ggX3_readSaying_X3_readStop : GoodIn wsX3_readSaying wsX3_readStop := goodIn_r _ [43, 9, 10, 11, 12, 7, 13, 14, 15, 16, 17, 2, 18, 19, 20, 21, 22, 23, 24, 50, 51, 52, 53, 54, 55, 56] (by decide +kernel) (by decide +kernel)
set_option maxRecDepth 20000 in
theorem gX3_readSaying_X3_readStop : GoodIn wsX3_readSaying (wsV RX3 76 RX3 yX3_readStop wsX3_readStop) := goodIn_app (goodIn_of _ (by decide +kernel)) ggX3_readSaying_X3_readStop
theorem dX3_readSaying_0 : decode cX3_readSaying 0 = .ok (.aload_n 0, 1) := by decide +kernel
theorem dX3_readSaying_1 : decode cX3_readSaying 1 = .ok (.iconst 0, 1) := by decide +kernel
theorem dX3_readSaying_2 : decode cX3_readSaying 2 = .ok (.aload_n 1, 1) := by decide +kernel
theorem dX3_readSaying_3 : decode cX3_readSaying 3 = .ok (.getfield 73, 3) := by decide +kernel
theorem dX3_readSaying_6 : decode cX3_readSaying 6 = .ok (.iconst 1, 1) := by decide +kernel
theorem dX3_readSaying_7 : decode cX3_readSaying 7 = .ok (.isub, 1) := by decide +kernel
theorem dX3_readSaying_8 : decode cX3_readSaying 8 = .ok (.invokevirtual 69, 3) := by decide +kernel
theorem dX3_readSaying_11 : decode cX3_readSaying 11 = .ok (.ifCond .ne 5, 3) := by decide +kernel
theorem dX3_readSaying_14 : decode cX3_readSaying 14 = .ok (.iconst 0, 1) := by decide +kernel
theorem dX3_readSaying_15 : decode cX3_readSaying 15 = .ok (.ireturn, 1) := by decide +kernel
theorem dX3_readSaying_16 : decode cX3_readSaying 16 = .ok (.aload_n 0, 1) := by decide +kernel
theorem dX3_readSaying_17 : decode cX3_readSaying 17 = .ok (.getfield 44, 3) := by decide +kernel
theorem dX3_readSaying_20 : decode cX3_readSaying 20 = .ok (.istore_n 2, 1) := by decide +kernel
theorem dX3_readSaying_21 : decode cX3_readSaying 21 = .ok (.aload_n 0, 1) := by decide +kernel
theorem dX3_readSaying_22 : decode cX3_readSaying 22 = .ok (.iconst 1, 1) := by decide +kernel
theorem dX3_readSaying_23 : decode cX3_readSaying 23 = .ok (.bipush 6, 2) := by decide +kernel
theorem dX3_readSaying_25 : decode cX3_readSaying 25 = .ok (.invokevirtual 69, 3) := by decide +kernel
theorem dX3_readSaying_28 : decode cX3_readSaying 28 = .ok (.ifCond .ne 5, 3) := by decide +kernel
theorem dX3_readSaying_31 : decode cX3_readSaying 31 = .ok (.iconst 0, 1) := by decide +kernel
theorem dX3_readSaying_32 : decode cX3_readSaying 32 = .ok (.ireturn, 1) := by decide +kernel
theorem dX3_readSaying_33 : decode cX3_readSaying 33 = .ok (.aload_n 0, 1) := by decide +kernel
theorem dX3_readSaying_34 : decode cX3_readSaying 34 = .ok (.getfield 44, 3) := by decide +kernel
theorem dX3_readSaying_37 : decode cX3_readSaying 37 = .ok (.istore_n 3, 1) := by decide +kernel
theorem dX3_readSaying_38 : decode cX3_readSaying 38 = .ok (.aload_n 0, 1) := by decide +kernel
theorem dX3_readSaying_39 : decode cX3_readSaying 39 = .ok (.iconst 0, 1) := by decide +kernel
theorem dX3_readSaying_40 : decode cX3_readSaying 40 = .ok (.iconst 1, 1) := by decide +kernel
theorem dX3_readSaying_41 : decode cX3_readSaying 41 = .ok (.invokevirtual 69, 3) := by decide +kernel
theorem dX3_readSaying_44 : decode cX3_readSaying 44 = .ok (.ifCond .ne 5, 3) := by decide +kernel
theorem dX3_readSaying_47 : decode cX3_readSaying 47 = .ok (.iconst 0, 1) := by decide +kernel
theorem dX3_readSaying_48 : decode cX3_readSaying 48 = .ok (.ireturn, 1) := by decide +kernel
theorem dX3_readSaying_49 : decode cX3_readSaying 49 = .ok (.aload_n 0, 1) := by decide +kernel
theorem dX3_readSaying_50 : decode cX3_readSaying 50 = .ok (.getfield 44, 3) := by decide +kernel
theorem dX3_readSaying_53 : decode cX3_readSaying 53 = .ok (.istore 4, 2) := by decide +kernel
theorem dX3_readSaying_55 : decode cX3_readSaying 55 = .ok (.aload_n 0, 1) := by decide +kernel
theorem dX3_readSaying_56 : decode cX3_readSaying 56 = .ok (.iconst 1, 1) := by decide +kernel
theorem dX3_readSaying_57 : decode cX3_readSaying 57 = .ok (.bipush 30, 2) := by decide +kernel
theorem dX3_readSaying_59 : decode cX3_readSaying 59 = .ok (.invokevirtual 69, 3) := by decide +kernel
theorem dX3_readSaying_62 : decode cX3_readSaying 62 = .ok (.ifCond .ne 5, 3) := by decide +kernel
theorem dX3_readSaying_65 : decode cX3_readSaying 65 = .ok (.iconst 0, 1) := by decide +kernel
theorem dX3_readSaying_66 : decode cX3_readSaying 66 = .ok (.ireturn, 1) := by decide +kernel
theorem dX3_readSaying_67 : decode cX3_readSaying 67 = .ok (.aload_n 1, 1) := by decide +kernel
theorem dX3_readSaying_68 : decode cX3_readSaying 68 = .ok (.getfield 57, 3) := by decide +kernel
theorem dX3_readSaying_71 : decode cX3_readSaying 71 = .ok (.iload_n 2, 1) := by decide +kernel
theorem dX3_readSaying_72 : decode cX3_readSaying 72 = .ok (.iload_n 3, 1) := by decide +kernel
theorem dX3_readSaying_73 : decode cX3_readSaying 73 = .ok (.iload 4, 2) := by decide +kernel
theorem dX3_readSaying_75 : decode cX3_readSaying 75 = .ok (.aload_n 0, 1) := by decide +kernel
theorem dX3_readSaying_76 : decode cX3_readSaying 76 = .ok (.getfield 44, 3) := by decide +kernel
theorem dX3_readSaying_79 : decode cX3_readSaying 79 = .ok (.invokevirtual 86, 3) := by decide +kernel
theorem dX3_readSaying_82 : decode cX3_readSaying 82 = .ok (.ifCond .eq 14, 3) := by decide +kernel
theorem dX3_readSaying_85 : decode cX3_readSaying 85 = .ok (.aload_n 0, 1) := by decide +kernel
theorem dX3_readSaying_86 : decode cX3_readSaying 86 = .ok (.invokevirtual 76, 3) := by decide +kernel
theorem dX3_readSaying_89 : decode cX3_readSaying 89 = .ok (.ifCond .eq 7, 3) := by decide +kernel
theorem dX3_readSaying_92 : decode cX3_readSaying 92 = .ok (.iconst 1, 1) := by decide +kernel
theorem dX3_readSaying_93 : decode cX3_readSaying 93 = .ok (.goto 4, 3) := by decide +kernel
theorem dX3_readSaying_96 : decode cX3_readSaying 96 = .ok (.iconst 0, 1) := by decide +kernel
theorem dX3_readSaying_97 : decode cX3_readSaying 97 = .ok (.ireturn, 1) := by decide +kernel
set_option maxRecDepth 20000 in
theorem ggX3_readNumber_X3_step : GoodIn wsX3_readNumber wsX3_step := goodIn_r _ [7, 8, 9, 10, 11, 1, 2, 12, 13, 6, 14, 15, 16, 17, 18, 22, 23, 24, 25, 26, 27, 28] (by decide +kernel) (by decide +kernel)
set_option maxRecDepth 20000 in
theorem gX3_readNumber_X3_step : GoodIn wsX3_readNumber (wsV RX3 31 RX3 yX3_step wsX3_step) := goodIn_app (goodIn_of _ (by decide +kernel)) ggX3_readNumber_X3_step
set_option maxRecDepth 20000 in
theorem ggX3_readNumber_X4_within : GoodIn wsX3_readNumber wsX4_within := goodIn_r _ [21] (by decide +kernel) (by decide +kernel)
set_option maxRecDepth 20000 in
theorem gX3_readNumber_X4_within_n90 : GoodIn wsX3_readNumber (wsX4_within) := ggX3_readNumber_X4_within
theorem dX3_readNumber_0 : decode cX3_readNumber 0 = .ok (.aload_n 0, 1) := by decide +kernel
theorem dX3_readNumber_1 : decode cX3_readNumber 1 = .ok (.invokevirtual 31, 3) := by decide +kernel
theorem dX3_readNumber_4 : decode cX3_readNumber 4 = .ok (.aload_n 0, 1) := by decide +kernel
theorem dX3_readNumber_5 : decode cX3_readNumber 5 = .ok (.getfield 34, 3) := by decide +kernel
theorem dX3_readNumber_8 : decode cX3_readNumber 8 = .ok (.iconst 2, 1) := by decide +kernel
theorem dX3_readNumber_9 : decode cX3_readNumber 9 = .ok (.if_icmp .ne 19, 3) := by decide +kernel
theorem dX3_readNumber_12 : decode cX3_readNumber 12 = .ok (.aload_n 0, 1) := by decide +kernel
theorem dX3_readNumber_13 : decode cX3_readNumber 13 = .ok (.getfield 44, 3) := by decide +kernel
theorem dX3_readNumber_16 : decode cX3_readNumber 16 = .ok (.iload_n 1, 1) := by decide +kernel
theorem dX3_readNumber_17 : decode cX3_readNumber 17 = .ok (.iload_n 2, 1) := by decide +kernel
theorem dX3_readNumber_18 : decode cX3_readNumber 18 = .ok (.invokestatic 90, 3) := by decide +kernel
theorem dX3_readNumber_21 : decode cX3_readNumber 21 = .ok (.ifCond .eq 7, 3) := by decide +kernel
theorem dX3_readNumber_24 : decode cX3_readNumber 24 = .ok (.iconst 1, 1) := by decide +kernel
theorem dX3_readNumber_25 : decode cX3_readNumber 25 = .ok (.goto 4, 3) := by decide +kernel
theorem dX3_readNumber_28 : decode cX3_readNumber 28 = .ok (.iconst 0, 1) := by decide +kernel
theorem dX3_readNumber_29 : decode cX3_readNumber 29 = .ok (.ireturn, 1) := by decide +kernel
set_option maxRecDepth 20000 in
theorem ggX3_readStop_X3_step : GoodIn wsX3_readStop wsX3_step := goodIn_r _ [6, 7, 8, 9, 10, 1, 11, 12, 13, 5, 14, 15, 16, 17, 18, 19, 20, 21, 22, 23, 24, 25] (by decide +kernel) (by decide +kernel)
set_option maxRecDepth 20000 in
theorem gX3_readStop_X3_step : GoodIn wsX3_readStop (wsV RX3 31 RX3 yX3_step wsX3_step) := goodIn_app (goodIn_of _ (by decide +kernel)) ggX3_readStop_X3_step
theorem dX3_readStop_0 : decode cX3_readStop 0 = .ok (.aload_n 0, 1) := by decide +kernel
theorem dX3_readStop_1 : decode cX3_readStop 1 = .ok (.invokevirtual 31, 3) := by decide +kernel
theorem dX3_readStop_4 : decode cX3_readStop 4 = .ok (.aload_n 0, 1) := by decide +kernel
theorem dX3_readStop_5 : decode cX3_readStop 5 = .ok (.getfield 34, 3) := by decide +kernel
theorem dX3_readStop_8 : decode cX3_readStop 8 = .ok (.iconst 3, 1) := by decide +kernel
theorem dX3_readStop_9 : decode cX3_readStop 9 = .ok (.if_icmp .eq 5, 3) := by decide +kernel
theorem dX3_readStop_12 : decode cX3_readStop 12 = .ok (.iconst 0, 1) := by decide +kernel
theorem dX3_readStop_13 : decode cX3_readStop 13 = .ok (.ireturn, 1) := by decide +kernel
theorem dX3_readStop_14 : decode cX3_readStop 14 = .ok (.aload_n 0, 1) := by decide +kernel
theorem dX3_readStop_15 : decode cX3_readStop 15 = .ok (.invokevirtual 31, 3) := by decide +kernel
theorem dX3_readStop_18 : decode cX3_readStop 18 = .ok (.iconst 1, 1) := by decide +kernel
theorem dX3_readStop_19 : decode cX3_readStop 19 = .ok (.ireturn, 1) := by decide +kernel
set_option maxRecDepth 20000 in
theorem ggX3_step_X3_tokenOf : GoodIn wsX3_step wsX3_tokenOf := goodIn_r _ [10] (by decide +kernel) (by decide +kernel)
set_option maxRecDepth 20000 in
theorem gX3_step_X3_tokenOf : GoodIn wsX3_step (va_wsS RX3 94 yX3_tokenOf wsX3_tokenOf) := goodIn_app (goodIn_of _ (by decide +kernel)) ggX3_step_X3_tokenOf
set_option maxRecDepth 20000 in
theorem ggX3_step_X3_weigh : GoodIn wsX3_step wsX3_weigh := goodIn_r _ [14, 4, 2, 5, 3, 6, 15, 16, 17, 18, 19, 20, 21] (by decide +kernel) (by decide +kernel)
set_option maxRecDepth 20000 in
theorem gX3_step_X3_weigh : GoodIn wsX3_step (wsV RX3 98 RX3 yX3_weigh wsX3_weigh) := goodIn_app (goodIn_of _ (by decide +kernel)) ggX3_step_X3_weigh
theorem dX3_step_0 : decode cX3_step 0 = .ok (.aload_n 0, 1) := by decide +kernel
theorem dX3_step_1 : decode cX3_step 1 = .ok (.getfield 28, 3) := by decide +kernel
theorem dX3_step_4 : decode cX3_step 4 = .ok (.aload_n 0, 1) := by decide +kernel
theorem dX3_step_5 : decode cX3_step 5 = .ok (.getfield 15, 3) := by decide +kernel
theorem dX3_step_8 : decode cX3_step 8 = .ok (.if_icmp .ge 30, 3) := by decide +kernel
theorem dX3_step_11 : decode cX3_step 11 = .ok (.aload_n 0, 1) := by decide +kernel
theorem dX3_step_12 : decode cX3_step 12 = .ok (.getfield 9, 3) := by decide +kernel
theorem dX3_step_15 : decode cX3_step 15 = .ok (.aload_n 0, 1) := by decide +kernel
theorem dX3_step_16 : decode cX3_step 16 = .ok (.getfield 28, 3) := by decide +kernel
theorem dX3_step_19 : decode cX3_step 19 = .ok (.iaload, 1) := by decide +kernel
theorem dX3_step_20 : decode cX3_step 20 = .ok (.bipush 32, 2) := by decide +kernel
theorem dX3_step_22 : decode cX3_step 22 = .ok (.if_icmp .ne 16, 3) := by decide +kernel
theorem dX3_step_25 : decode cX3_step 25 = .ok (.aload_n 0, 1) := by decide +kernel
theorem dX3_step_26 : decode cX3_step 26 = .ok (.dup, 1) := by decide +kernel
theorem dX3_step_27 : decode cX3_step 27 = .ok (.getfield 28, 3) := by decide +kernel
theorem dX3_step_30 : decode cX3_step 30 = .ok (.iconst 1, 1) := by decide +kernel
theorem dX3_step_31 : decode cX3_step 31 = .ok (.iadd, 1) := by decide +kernel
theorem dX3_step_32 : decode cX3_step 32 = .ok (.putfield 28, 3) := by decide +kernel
theorem dX3_step_35 : decode cX3_step 35 = .ok (.goto (-35), 3) := by decide +kernel
theorem dX3_step_38 : decode cX3_step 38 = .ok (.aload_n 0, 1) := by decide +kernel
theorem dX3_step_39 : decode cX3_step 39 = .ok (.aload_n 0, 1) := by decide +kernel
theorem dX3_step_40 : decode cX3_step 40 = .ok (.getfield 28, 3) := by decide +kernel
theorem dX3_step_43 : decode cX3_step 43 = .ok (.putfield 41, 3) := by decide +kernel
theorem dX3_step_46 : decode cX3_step 46 = .ok (.aload_n 0, 1) := by decide +kernel
theorem dX3_step_47 : decode cX3_step 47 = .ok (.aload_n 0, 1) := by decide +kernel
theorem dX3_step_48 : decode cX3_step 48 = .ok (.getfield 28, 3) := by decide +kernel
theorem dX3_step_51 : decode cX3_step 51 = .ok (.aload_n 0, 1) := by decide +kernel
theorem dX3_step_52 : decode cX3_step 52 = .ok (.getfield 15, 3) := by decide +kernel
theorem dX3_step_55 : decode cX3_step 55 = .ok (.if_icmp .ge 18, 3) := by decide +kernel
theorem dX3_step_58 : decode cX3_step 58 = .ok (.aload_n 0, 1) := by decide +kernel
theorem dX3_step_59 : decode cX3_step 59 = .ok (.getfield 9, 3) := by decide +kernel
theorem dX3_step_62 : decode cX3_step 62 = .ok (.aload_n 0, 1) := by decide +kernel
theorem dX3_step_63 : decode cX3_step 63 = .ok (.getfield 28, 3) := by decide +kernel
theorem dX3_step_66 : decode cX3_step 66 = .ok (.iaload, 1) := by decide +kernel
theorem dX3_step_67 : decode cX3_step 67 = .ok (.invokestatic 94, 3) := by decide +kernel
theorem dX3_step_70 : decode cX3_step 70 = .ok (.goto 4, 3) := by decide +kernel
theorem dX3_step_73 : decode cX3_step 73 = .ok (.iconst 0, 1) := by decide +kernel
theorem dX3_step_74 : decode cX3_step 74 = .ok (.putfield 34, 3) := by decide +kernel
theorem dX3_step_77 : decode cX3_step 77 = .ok (.aload_n 0, 1) := by decide +kernel
theorem dX3_step_78 : decode cX3_step 78 = .ok (.iconst 0, 1) := by decide +kernel
theorem dX3_step_79 : decode cX3_step 79 = .ok (.putfield 44, 3) := by decide +kernel
theorem dX3_step_82 : decode cX3_step 82 = .ok (.aload_n 0, 1) := by decide +kernel
theorem dX3_step_83 : decode cX3_step 83 = .ok (.getfield 34, 3) := by decide +kernel
theorem dX3_step_86 : decode cX3_step 86 = .ok (.iconst 1, 1) := by decide +kernel
theorem dX3_step_87 : decode cX3_step 87 = .ok (.if_icmp .eq 11, 3) := by decide +kernel
theorem dX3_step_90 : decode cX3_step 90 = .ok (.aload_n 0, 1) := by decide +kernel
theorem dX3_step_91 : decode cX3_step 91 = .ok (.getfield 34, 3) := by decide +kernel
theorem dX3_step_94 : decode cX3_step 94 = .ok (.iconst 2, 1) := by decide +kernel
theorem dX3_step_95 : decode cX3_step 95 = .ok (.if_icmp .ne 62, 3) := by decide +kernel
theorem dX3_step_98 : decode cX3_step 98 = .ok (.aload_n 0, 1) := by decide +kernel
theorem dX3_step_99 : decode cX3_step 99 = .ok (.getfield 28, 3) := by decide +kernel
theorem dX3_step_102 : decode cX3_step 102 = .ok (.aload_n 0, 1) := by decide +kernel
theorem dX3_step_103 : decode cX3_step 103 = .ok (.getfield 15, 3) := by decide +kernel
theorem dX3_step_106 : decode cX3_step 106 = .ok (.if_icmp .ge 35, 3) := by decide +kernel
theorem dX3_step_109 : decode cX3_step 109 = .ok (.aload_n 0, 1) := by decide +kernel
theorem dX3_step_110 : decode cX3_step 110 = .ok (.getfield 9, 3) := by decide +kernel
theorem dX3_step_113 : decode cX3_step 113 = .ok (.aload_n 0, 1) := by decide +kernel
theorem dX3_step_114 : decode cX3_step 114 = .ok (.getfield 28, 3) := by decide +kernel
theorem dX3_step_117 : decode cX3_step 117 = .ok (.iaload, 1) := by decide +kernel
theorem dX3_step_118 : decode cX3_step 118 = .ok (.invokestatic 94, 3) := by decide +kernel
theorem dX3_step_121 : decode cX3_step 121 = .ok (.aload_n 0, 1) := by decide +kernel
theorem dX3_step_122 : decode cX3_step 122 = .ok (.getfield 34, 3) := by decide +kernel
theorem dX3_step_125 : decode cX3_step 125 = .ok (.if_icmp .ne 16, 3) := by decide +kernel
theorem dX3_step_128 : decode cX3_step 128 = .ok (.aload_n 0, 1) := by decide +kernel
theorem dX3_step_129 : decode cX3_step 129 = .ok (.dup, 1) := by decide +kernel
theorem dX3_step_130 : decode cX3_step 130 = .ok (.getfield 28, 3) := by decide +kernel
theorem dX3_step_133 : decode cX3_step 133 = .ok (.iconst 1, 1) := by decide +kernel
theorem dX3_step_134 : decode cX3_step 134 = .ok (.iadd, 1) := by decide +kernel
theorem dX3_step_135 : decode cX3_step 135 = .ok (.putfield 28, 3) := by decide +kernel
theorem dX3_step_138 : decode cX3_step 138 = .ok (.goto (-40), 3) := by decide +kernel
theorem dX3_step_141 : decode cX3_step 141 = .ok (.aload_n 0, 1) := by decide +kernel
theorem dX3_step_142 : decode cX3_step 142 = .ok (.aload_n 0, 1) := by decide +kernel
theorem dX3_step_143 : decode cX3_step 143 = .ok (.getfield 28, 3) := by decide +kernel
theorem dX3_step_146 : decode cX3_step 146 = .ok (.aload_n 0, 1) := by decide +kernel
theorem dX3_step_147 : decode cX3_step 147 = .ok (.getfield 41, 3) := by decide +kernel
theorem dX3_step_150 : decode cX3_step 150 = .ok (.isub, 1) := by decide +kernel
theorem dX3_step_151 : decode cX3_step 151 = .ok (.invokevirtual 98, 3) := by decide +kernel
theorem dX3_step_154 : decode cX3_step 154 = .ok (.goto 20, 3) := by decide +kernel
theorem dX3_step_157 : decode cX3_step 157 = .ok (.aload_n 0, 1) := by decide +kernel
theorem dX3_step_158 : decode cX3_step 158 = .ok (.getfield 34, 3) := by decide +kernel
theorem dX3_step_161 : decode cX3_step 161 = .ok (.ifCond .eq 13, 3) := by decide +kernel
theorem dX3_step_164 : decode cX3_step 164 = .ok (.aload_n 0, 1) := by decide +kernel
theorem dX3_step_165 : decode cX3_step 165 = .ok (.dup, 1) := by decide +kernel
theorem dX3_step_166 : decode cX3_step 166 = .ok (.getfield 28, 3) := by decide +kernel
theorem dX3_step_169 : decode cX3_step 169 = .ok (.iconst 1, 1) := by decide +kernel
theorem dX3_step_170 : decode cX3_step 170 = .ok (.iadd, 1) := by decide +kernel
theorem dX3_step_171 : decode cX3_step 171 = .ok (.putfield 28, 3) := by decide +kernel
theorem dX3_step_174 : decode cX3_step 174 = .ok (.return_, 1) := by decide +kernel
theorem dX3_tokenOf_0 : decode cX3_tokenOf 0 = .ok (.iload_n 0, 1) := by decide +kernel
theorem dX3_tokenOf_1 : decode cX3_tokenOf 1 = .ok (.bipush 97, 2) := by decide +kernel
theorem dX3_tokenOf_3 : decode cX3_tokenOf 3 = .ok (.if_icmp .lt 11, 3) := by decide +kernel
theorem dX3_tokenOf_6 : decode cX3_tokenOf 6 = .ok (.iload_n 0, 1) := by decide +kernel
theorem dX3_tokenOf_7 : decode cX3_tokenOf 7 = .ok (.bipush 122, 2) := by decide +kernel
theorem dX3_tokenOf_9 : decode cX3_tokenOf 9 = .ok (.if_icmp .gt 5, 3) := by decide +kernel
theorem dX3_tokenOf_12 : decode cX3_tokenOf 12 = .ok (.iconst 1, 1) := by decide +kernel
theorem dX3_tokenOf_13 : decode cX3_tokenOf 13 = .ok (.ireturn, 1) := by decide +kernel
theorem dX3_tokenOf_14 : decode cX3_tokenOf 14 = .ok (.iload_n 0, 1) := by decide +kernel
theorem dX3_tokenOf_15 : decode cX3_tokenOf 15 = .ok (.bipush 48, 2) := by decide +kernel
theorem dX3_tokenOf_17 : decode cX3_tokenOf 17 = .ok (.if_icmp .lt 11, 3) := by decide +kernel
theorem dX3_tokenOf_20 : decode cX3_tokenOf 20 = .ok (.iload_n 0, 1) := by decide +kernel
theorem dX3_tokenOf_21 : decode cX3_tokenOf 21 = .ok (.bipush 57, 2) := by decide +kernel
theorem dX3_tokenOf_23 : decode cX3_tokenOf 23 = .ok (.if_icmp .gt 5, 3) := by decide +kernel
theorem dX3_tokenOf_26 : decode cX3_tokenOf 26 = .ok (.iconst 2, 1) := by decide +kernel
theorem dX3_tokenOf_27 : decode cX3_tokenOf 27 = .ok (.ireturn, 1) := by decide +kernel
theorem dX3_tokenOf_28 : decode cX3_tokenOf 28 = .ok (.iload_n 0, 1) := by decide +kernel
theorem dX3_tokenOf_29 : decode cX3_tokenOf 29 = .ok (.bipush 59, 2) := by decide +kernel
theorem dX3_tokenOf_31 : decode cX3_tokenOf 31 = .ok (.if_icmp .ne 7, 3) := by decide +kernel
theorem dX3_tokenOf_34 : decode cX3_tokenOf 34 = .ok (.iconst 3, 1) := by decide +kernel
theorem dX3_tokenOf_35 : decode cX3_tokenOf 35 = .ok (.goto 4, 3) := by decide +kernel
theorem dX3_tokenOf_38 : decode cX3_tokenOf 38 = .ok (.iconst 4, 1) := by decide +kernel
theorem dX3_tokenOf_39 : decode cX3_tokenOf 39 = .ok (.ireturn, 1) := by decide +kernel
theorem dX3_weigh_0 : decode cX3_weigh 0 = .ok (.iload_n 1, 1) := by decide +kernel
theorem dX3_weigh_1 : decode cX3_weigh 1 = .ok (.iconst 1, 1) := by decide +kernel
theorem dX3_weigh_2 : decode cX3_weigh 2 = .ok (.if_icmp .ne 53, 3) := by decide +kernel
theorem dX3_weigh_5 : decode cX3_weigh 5 = .ok (.aload_n 0, 1) := by decide +kernel
theorem dX3_weigh_6 : decode cX3_weigh 6 = .ok (.getfield 41, 3) := by decide +kernel
theorem dX3_weigh_9 : decode cX3_weigh 9 = .ok (.aload_n 0, 1) := by decide +kernel
theorem dX3_weigh_10 : decode cX3_weigh 10 = .ok (.getfield 15, 3) := by decide +kernel
theorem dX3_weigh_13 : decode cX3_weigh 13 = .ok (.if_icmp .ge 42, 3) := by decide +kernel
theorem dX3_weigh_16 : decode cX3_weigh 16 = .ok (.aload_n 0, 1) := by decide +kernel
theorem dX3_weigh_17 : decode cX3_weigh 17 = .ok (.aload_n 0, 1) := by decide +kernel
theorem dX3_weigh_18 : decode cX3_weigh 18 = .ok (.getfield 34, 3) := by decide +kernel
theorem dX3_weigh_21 : decode cX3_weigh 21 = .ok (.iconst 2, 1) := by decide +kernel
theorem dX3_weigh_22 : decode cX3_weigh 22 = .ok (.if_icmp .ne 18, 3) := by decide +kernel
theorem dX3_weigh_25 : decode cX3_weigh 25 = .ok (.aload_n 0, 1) := by decide +kernel
theorem dX3_weigh_26 : decode cX3_weigh 26 = .ok (.getfield 9, 3) := by decide +kernel
theorem dX3_weigh_29 : decode cX3_weigh 29 = .ok (.aload_n 0, 1) := by decide +kernel
theorem dX3_weigh_30 : decode cX3_weigh 30 = .ok (.getfield 41, 3) := by decide +kernel
theorem dX3_weigh_33 : decode cX3_weigh 33 = .ok (.iaload, 1) := by decide +kernel
theorem dX3_weigh_34 : decode cX3_weigh 34 = .ok (.bipush 48, 2) := by decide +kernel
theorem dX3_weigh_36 : decode cX3_weigh 36 = .ok (.isub, 1) := by decide +kernel
theorem dX3_weigh_37 : decode cX3_weigh 37 = .ok (.goto 12, 3) := by decide +kernel
theorem dX3_weigh_40 : decode cX3_weigh 40 = .ok (.aload_n 0, 1) := by decide +kernel
theorem dX3_weigh_41 : decode cX3_weigh 41 = .ok (.getfield 9, 3) := by decide +kernel
theorem dX3_weigh_44 : decode cX3_weigh 44 = .ok (.aload_n 0, 1) := by decide +kernel
theorem dX3_weigh_45 : decode cX3_weigh 45 = .ok (.getfield 41, 3) := by decide +kernel
theorem dX3_weigh_48 : decode cX3_weigh 48 = .ok (.iaload, 1) := by decide +kernel
theorem dX3_weigh_49 : decode cX3_weigh 49 = .ok (.putfield 44, 3) := by decide +kernel
theorem dX3_weigh_52 : decode cX3_weigh 52 = .ok (.goto 104, 3) := by decide +kernel
theorem dX3_weigh_55 : decode cX3_weigh 55 = .ok (.aload_n 0, 1) := by decide +kernel
theorem dX3_weigh_56 : decode cX3_weigh 56 = .ok (.getfield 34, 3) := by decide +kernel
theorem dX3_weigh_59 : decode cX3_weigh 59 = .ok (.iconst 2, 1) := by decide +kernel
theorem dX3_weigh_60 : decode cX3_weigh 60 = .ok (.if_icmp .ne 96, 3) := by decide +kernel
theorem dX3_weigh_63 : decode cX3_weigh 63 = .ok (.iload_n 1, 1) := by decide +kernel
theorem dX3_weigh_64 : decode cX3_weigh 64 = .ok (.iconst 2, 1) := by decide +kernel
theorem dX3_weigh_65 : decode cX3_weigh 65 = .ok (.if_icmp .ne 34, 3) := by decide +kernel
theorem dX3_weigh_68 : decode cX3_weigh 68 = .ok (.aload_n 0, 1) := by decide +kernel
theorem dX3_weigh_69 : decode cX3_weigh 69 = .ok (.getfield 41, 3) := by decide +kernel
theorem dX3_weigh_72 : decode cX3_weigh 72 = .ok (.iconst 1, 1) := by decide +kernel
theorem dX3_weigh_73 : decode cX3_weigh 73 = .ok (.iadd, 1) := by decide +kernel
theorem dX3_weigh_74 : decode cX3_weigh 74 = .ok (.aload_n 0, 1) := by decide +kernel
theorem dX3_weigh_75 : decode cX3_weigh 75 = .ok (.getfield 15, 3) := by decide +kernel
theorem dX3_weigh_78 : decode cX3_weigh 78 = .ok (.if_icmp .ge 21, 3) := by decide +kernel
theorem dX3_weigh_81 : decode cX3_weigh 81 = .ok (.aload_n 0, 1) := by decide +kernel
theorem dX3_weigh_82 : decode cX3_weigh 82 = .ok (.getfield 9, 3) := by decide +kernel
theorem dX3_weigh_85 : decode cX3_weigh 85 = .ok (.aload_n 0, 1) := by decide +kernel
theorem dX3_weigh_86 : decode cX3_weigh 86 = .ok (.getfield 41, 3) := by decide +kernel
theorem dX3_weigh_89 : decode cX3_weigh 89 = .ok (.iaload, 1) := by decide +kernel
theorem dX3_weigh_90 : decode cX3_weigh 90 = .ok (.bipush 48, 2) := by decide +kernel
theorem dX3_weigh_92 : decode cX3_weigh 92 = .ok (.if_icmp .eq 7, 3) := by decide +kernel
theorem dX3_weigh_95 : decode cX3_weigh 95 = .ok (.iconst 1, 1) := by decide +kernel
theorem dX3_weigh_96 : decode cX3_weigh 96 = .ok (.goto 4, 3) := by decide +kernel
theorem dX3_weigh_99 : decode cX3_weigh 99 = .ok (.iconst 0, 1) := by decide +kernel
theorem dX3_weigh_100 : decode cX3_weigh 100 = .ok (.istore_n 2, 1) := by decide +kernel
theorem dX3_weigh_101 : decode cX3_weigh 101 = .ok (.aload_n 0, 1) := by decide +kernel
theorem dX3_weigh_102 : decode cX3_weigh 102 = .ok (.iload_n 2, 1) := by decide +kernel
theorem dX3_weigh_103 : decode cX3_weigh 103 = .ok (.ifCond .eq 7, 3) := by decide +kernel
theorem dX3_weigh_106 : decode cX3_weigh 106 = .ok (.iconst 2, 1) := by decide +kernel
theorem dX3_weigh_107 : decode cX3_weigh 107 = .ok (.goto 4, 3) := by decide +kernel
theorem dX3_weigh_110 : decode cX3_weigh 110 = .ok (.iconst 4, 1) := by decide +kernel
theorem dX3_weigh_111 : decode cX3_weigh 111 = .ok (.putfield 34, 3) := by decide +kernel
theorem dX3_weigh_114 : decode cX3_weigh 114 = .ok (.aload_n 0, 1) := by decide +kernel
theorem dX3_weigh_115 : decode cX3_weigh 115 = .ok (.iload_n 2, 1) := by decide +kernel
theorem dX3_weigh_116 : decode cX3_weigh 116 = .ok (.ifCond .eq 36, 3) := by decide +kernel
theorem dX3_weigh_119 : decode cX3_weigh 119 = .ok (.bipush 10, 2) := by decide +kernel
theorem dX3_weigh_121 : decode cX3_weigh 121 = .ok (.aload_n 0, 1) := by decide +kernel
theorem dX3_weigh_122 : decode cX3_weigh 122 = .ok (.getfield 9, 3) := by decide +kernel
theorem dX3_weigh_125 : decode cX3_weigh 125 = .ok (.aload_n 0, 1) := by decide +kernel
theorem dX3_weigh_126 : decode cX3_weigh 126 = .ok (.getfield 41, 3) := by decide +kernel
theorem dX3_weigh_129 : decode cX3_weigh 129 = .ok (.iaload, 1) := by decide +kernel
theorem dX3_weigh_130 : decode cX3_weigh 130 = .ok (.bipush 48, 2) := by decide +kernel
theorem dX3_weigh_132 : decode cX3_weigh 132 = .ok (.isub, 1) := by decide +kernel
theorem dX3_weigh_133 : decode cX3_weigh 133 = .ok (.imul, 1) := by decide +kernel
theorem dX3_weigh_134 : decode cX3_weigh 134 = .ok (.aload_n 0, 1) := by decide +kernel
theorem dX3_weigh_135 : decode cX3_weigh 135 = .ok (.getfield 9, 3) := by decide +kernel
theorem dX3_weigh_138 : decode cX3_weigh 138 = .ok (.aload_n 0, 1) := by decide +kernel
theorem dX3_weigh_139 : decode cX3_weigh 139 = .ok (.getfield 41, 3) := by decide +kernel
theorem dX3_weigh_142 : decode cX3_weigh 142 = .ok (.iconst 1, 1) := by decide +kernel
theorem dX3_weigh_143 : decode cX3_weigh 143 = .ok (.iadd, 1) := by decide +kernel
theorem dX3_weigh_144 : decode cX3_weigh 144 = .ok (.iaload, 1) := by decide +kernel
theorem dX3_weigh_145 : decode cX3_weigh 145 = .ok (.iadd, 1) := by decide +kernel
theorem dX3_weigh_146 : decode cX3_weigh 146 = .ok (.bipush 48, 2) := by decide +kernel
theorem dX3_weigh_148 : decode cX3_weigh 148 = .ok (.isub, 1) := by decide +kernel
theorem dX3_weigh_149 : decode cX3_weigh 149 = .ok (.goto 4, 3) := by decide +kernel
theorem dX3_weigh_152 : decode cX3_weigh 152 = .ok (.iconst 0, 1) := by decide +kernel
theorem dX3_weigh_153 : decode cX3_weigh 153 = .ok (.putfield 44, 3) := by decide +kernel
theorem dX3_weigh_156 : decode cX3_weigh 156 = .ok (.return_, 1) := by decide +kernel
set_option maxRecDepth 20000 in
theorem ggX4_init_X3_init : GoodIn wsX4_init wsX3_init := goodIn_r _ [26, 27, 2, 3, 18, 28, 53, 54, 55, 56, 57, 58, 59] (by decide +kernel) (by decide +kernel)
set_option maxRecDepth 20000 in
theorem gX4_init_X3_init_n11 : GoodIn wsX4_init (wsX3_init) := ggX4_init_X3_init
set_option maxRecDepth 20000 in
theorem ggX4_init_X1_init : GoodIn wsX4_init wsX1_init := goodIn_r _ [30, 31, 2, 3, 18, 32, 33, 34, 68, 69, 70, 71] (by decide +kernel) (by decide +kernel)
set_option maxRecDepth 20000 in
theorem gX4_init_X1_init_n18 : GoodIn wsX4_init (wsX1_init) := ggX4_init_X1_init
set_option maxRecDepth 20000 in
theorem ggX4_init_X2_init : GoodIn wsX4_init wsX2_init := goodIn_r _ [36, 37, 2, 3, 18, 38, 39, 40, 41, 42, 43, 72, 73, 74, 75, 76, 77, 78, 79, 80, 81] (by decide +kernel) (by decide +kernel)
set_option maxRecDepth 20000 in
theorem gX4_init_X2_init_n29 : GoodIn wsX4_init (wsX2_init) := ggX4_init_X2_init
set_option maxRecDepth 20000 in
theorem ggX4_init_X0_init : GoodIn wsX4_init wsX0_init := goodIn_r _ [45, 46, 2, 3, 47, 48, 49, 14, 15, 50, 18, 51, 52, 35, 36, 37, 38, 39, 40, 41, 42, 43, 82, 83, 84, 85, 86, 87, 72, 73, 74, 75, 76, 77, 78, 79, 80, 81] (by decide +kernel) (by decide +kernel)
set_option maxRecDepth 20000 in
theorem gX4_init_X0_init_n40 : GoodIn wsX4_init (wsX0_init) := ggX4_init_X0_init
theorem dX4_init_0 : decode cX4_init 0 = .ok (.aload_n 0, 1) := by decide +kernel
theorem dX4_init_1 : decode cX4_init 1 = .ok (.invokespecial 3, 3) := by decide +kernel
theorem dX4_init_4 : decode cX4_init 4 = .ok (.aload_n 0, 1) := by decide +kernel
theorem dX4_init_5 : decode cX4_init 5 = .ok (.new 9, 3) := by decide +kernel
theorem dX4_init_8 : decode cX4_init 8 = .ok (.dup, 1) := by decide +kernel
theorem dX4_init_9 : decode cX4_init 9 = .ok (.invokespecial 11, 3) := by decide +kernel
theorem dX4_init_12 : decode cX4_init 12 = .ok (.putfield 12, 3) := by decide +kernel
theorem dX4_init_15 : decode cX4_init 15 = .ok (.aload_n 0, 1) := by decide +kernel
theorem dX4_init_16 : decode cX4_init 16 = .ok (.new 16, 3) := by decide +kernel
theorem dX4_init_19 : decode cX4_init 19 = .ok (.dup, 1) := by decide +kernel
theorem dX4_init_20 : decode cX4_init 20 = .ok (.invokespecial 18, 3) := by decide +kernel
theorem dX4_init_23 : decode cX4_init 23 = .ok (.putfield 19, 3) := by decide +kernel
theorem dX4_init_26 : decode cX4_init 26 = .ok (.aload_n 0, 1) := by decide +kernel
theorem dX4_init_27 : decode cX4_init 27 = .ok (.iconst 2, 1) := by decide +kernel
theorem dX4_init_28 : decode cX4_init 28 = .ok (.anewarray 23, 3) := by decide +kernel
theorem dX4_init_31 : decode cX4_init 31 = .ok (.putfield 25, 3) := by decide +kernel
theorem dX4_init_34 : decode cX4_init 34 = .ok (.iconst 0, 1) := by decide +kernel
theorem dX4_init_35 : decode cX4_init 35 = .ok (.istore_n 1, 1) := by decide +kernel
theorem dX4_init_36 : decode cX4_init 36 = .ok (.iload_n 1, 1) := by decide +kernel
theorem dX4_init_37 : decode cX4_init 37 = .ok (.iconst 2, 1) := by decide +kernel
theorem dX4_init_38 : decode cX4_init 38 = .ok (.if_icmp .ge 22, 3) := by decide +kernel
theorem dX4_init_41 : decode cX4_init 41 = .ok (.aload_n 0, 1) := by decide +kernel
theorem dX4_init_42 : decode cX4_init 42 = .ok (.getfield 25, 3) := by decide +kernel
theorem dX4_init_45 : decode cX4_init 45 = .ok (.iload_n 1, 1) := by decide +kernel
theorem dX4_init_46 : decode cX4_init 46 = .ok (.new 23, 3) := by decide +kernel
theorem dX4_init_49 : decode cX4_init 49 = .ok (.dup, 1) := by decide +kernel
theorem dX4_init_50 : decode cX4_init 50 = .ok (.invokespecial 29, 3) := by decide +kernel
theorem dX4_init_53 : decode cX4_init 53 = .ok (.aastore, 1) := by decide +kernel
theorem dX4_init_54 : decode cX4_init 54 = .ok (.iinc 1 1, 3) := by decide +kernel
theorem dX4_init_57 : decode cX4_init 57 = .ok (.goto (-21), 3) := by decide +kernel
theorem dX4_init_60 : decode cX4_init 60 = .ok (.aload_n 0, 1) := by decide +kernel
theorem dX4_init_61 : decode cX4_init 61 = .ok (.iconst 2, 1) := by decide +kernel
theorem dX4_init_62 : decode cX4_init 62 = .ok (.newarray .boolean, 2) := by decide +kernel
theorem dX4_init_64 : decode cX4_init 64 = .ok (.putfield 30, 3) := by decide +kernel
theorem dX4_init_67 : decode cX4_init 67 = .ok (.aload_n 0, 1) := by decide +kernel
theorem dX4_init_68 : decode cX4_init 68 = .ok (.bipush 24, 2) := by decide +kernel
theorem dX4_init_70 : decode cX4_init 70 = .ok (.newarray .int, 2) := by decide +kernel
theorem dX4_init_72 : decode cX4_init 72 = .ok (.putfield 34, 3) := by decide +kernel
theorem dX4_init_75 : decode cX4_init 75 = .ok (.aload_n 0, 1) := by decide +kernel
theorem dX4_init_76 : decode cX4_init 76 = .ok (.new 38, 3) := by decide +kernel
theorem dX4_init_79 : decode cX4_init 79 = .ok (.dup, 1) := by decide +kernel
theorem dX4_init_80 : decode cX4_init 80 = .ok (.invokespecial 40, 3) := by decide +kernel
theorem dX4_init_83 : decode cX4_init 83 = .ok (.putfield 41, 3) := by decide +kernel
theorem dX4_init_86 : decode cX4_init 86 = .ok (.aload_n 0, 1) := by decide +kernel
theorem dX4_init_87 : decode cX4_init 87 = .ok (.new 38, 3) := by decide +kernel
theorem dX4_init_90 : decode cX4_init 90 = .ok (.dup, 1) := by decide +kernel
theorem dX4_init_91 : decode cX4_init 91 = .ok (.invokespecial 40, 3) := by decide +kernel
theorem dX4_init_94 : decode cX4_init 94 = .ok (.putfield 45, 3) := by decide +kernel
theorem dX4_init_97 : decode cX4_init 97 = .ok (.return_, 1) := by decide +kernel
set_option maxRecDepth 20000 in
theorem ggX4_type_X4_within : GoodIn wsX4_type wsX4_within := goodIn_r _ [6] (by decide +kernel) (by decide +kernel)
set_option maxRecDepth 20000 in
theorem gX4_type_X4_within : GoodIn wsX4_type (va_wsS RX4 48 yX4_within wsX4_within) := goodIn_app (goodIn_of _ (by decide +kernel)) ggX4_type_X4_within
set_option maxRecDepth 20000 in
theorem ggX4_type_X3_append : GoodIn wsX4_type wsX3_append := goodIn_r _ [11, 12, 13, 22, 23, 24, 25, 26, 27, 28] (by decide +kernel) (by decide +kernel)
set_option maxRecDepth 20000 in
theorem gX4_type_X3_append : GoodIn wsX4_type (wsV RX4 52 RX3 yX3_append wsX3_append) := goodIn_app (goodIn_of _ (by decide +kernel)) ggX4_type_X3_append
theorem dX4_type_0 : decode cX4_type 0 = .ok (.iload_n 1, 1) := by decide +kernel
theorem dX4_type_1 : decode cX4_type 1 = .ok (.iconst 0, 1) := by decide +kernel
theorem dX4_type_2 : decode cX4_type 2 = .ok (.sipush 255, 3) := by decide +kernel
theorem dX4_type_5 : decode cX4_type 5 = .ok (.invokestatic 48, 3) := by decide +kernel
theorem dX4_type_8 : decode cX4_type 8 = .ok (.ifCond .ne 5, 3) := by decide +kernel
theorem dX4_type_11 : decode cX4_type 11 = .ok (.iconst (-1), 1) := by decide +kernel
theorem dX4_type_12 : decode cX4_type 12 = .ok (.ireturn, 1) := by decide +kernel
theorem dX4_type_13 : decode cX4_type 13 = .ok (.aload_n 0, 1) := by decide +kernel
theorem dX4_type_14 : decode cX4_type 14 = .ok (.getfield 12, 3) := by decide +kernel
theorem dX4_type_17 : decode cX4_type 17 = .ok (.iload_n 1, 1) := by decide +kernel
theorem dX4_type_18 : decode cX4_type 18 = .ok (.invokevirtual 52, 3) := by decide +kernel
theorem dX4_type_21 : decode cX4_type 21 = .ok (.ifCond .eq 13, 3) := by decide +kernel
theorem dX4_type_24 : decode cX4_type 24 = .ok (.aload_n 0, 1) := by decide +kernel
theorem dX4_type_25 : decode cX4_type 25 = .ok (.getfield 12, 3) := by decide +kernel
theorem dX4_type_28 : decode cX4_type 28 = .ok (.getfield 56, 3) := by decide +kernel
theorem dX4_type_31 : decode cX4_type 31 = .ok (.goto 5, 3) := by decide +kernel
theorem dX4_type_34 : decode cX4_type 34 = .ok (.bipush (-3), 2) := by decide +kernel
theorem dX4_type_36 : decode cX4_type 36 = .ok (.ireturn, 1) := by decide +kernel
theorem dX4_clear_0 : decode cX4_clear 0 = .ok (.aload_n 0, 1) := by decide +kernel
theorem dX4_clear_1 : decode cX4_clear 1 = .ok (.getfield 12, 3) := by decide +kernel
theorem dX4_clear_4 : decode cX4_clear 4 = .ok (.getfield 56, 3) := by decide +kernel
theorem dX4_clear_7 : decode cX4_clear 7 = .ok (.istore_n 1, 1) := by decide +kernel
theorem dX4_clear_8 : decode cX4_clear 8 = .ok (.aload_n 0, 1) := by decide +kernel
theorem dX4_clear_9 : decode cX4_clear 9 = .ok (.getfield 12, 3) := by decide +kernel
theorem dX4_clear_12 : decode cX4_clear 12 = .ok (.iconst 0, 1) := by decide +kernel
theorem dX4_clear_13 : decode cX4_clear 13 = .ok (.putfield 56, 3) := by decide +kernel
theorem dX4_clear_16 : decode cX4_clear 16 = .ok (.iload_n 1, 1) := by decide +kernel
theorem dX4_clear_17 : decode cX4_clear 17 = .ok (.ireturn, 1) := by decide +kernel
set_option maxRecDepth 20000 in
theorem ggX4_gallery_X3_readInto : GoodIn wsX4_gallery wsX3_readInto := goodIn_r _ [12, 13, 14, 15, 16, 17, 18, 19, 20, 21, 22, 23, 24, 25, 26, 27, 28, 29, 30, 31, 32, 33, 34, 35, 36, 37, 11, 38, 39, 40, 41, 42, 43, 44, 45, 46, 47, 48, 49, 50, 51, 52, 53, 54, 55, 56, 57, 58, 59, 60, 61, 62, 63, 64, 65, 66, 67, 68, 69, 70, 71, 72, 73, 74, 75, 76, 77, 78, 79, 80, 81, 82, 83, 84, 85, 86, 87, 88, 89, 90, 91, 92, 93, 102, 103, 104, 105, 106, 107, 108, 113, 114, 115, 116, 117, 118, 119, 120, 121, 122, 123, 124, 125, 126, 127, 128] (by decide +kernel) (by decide +kernel)
set_option maxRecDepth 20000 in
theorem gX4_gallery_X3_readInto : GoodIn wsX4_gallery (wsV RX4 60 RX3 yX3_readInto wsX3_readInto) := goodIn_app (goodIn_of _ (by decide +kernel)) ggX4_gallery_X3_readInto
theorem dX4_gallery_0 : decode cX4_gallery 0 = .ok (.aload_n 0, 1) := by decide +kernel
theorem dX4_gallery_1 : decode cX4_gallery 1 = .ok (.getfield 12, 3) := by decide +kernel
theorem dX4_gallery_4 : decode cX4_gallery 4 = .ok (.aload_n 0, 1) := by decide +kernel
theorem dX4_gallery_5 : decode cX4_gallery 5 = .ok (.getfield 45, 3) := by decide +kernel
theorem dX4_gallery_8 : decode cX4_gallery 8 = .ok (.invokevirtual 60, 3) := by decide +kernel
theorem dX4_gallery_11 : decode cX4_gallery 11 = .ok (.istore_n 1, 1) := by decide +kernel
theorem dX4_gallery_12 : decode cX4_gallery 12 = .ok (.iload_n 1, 1) := by decide +kernel
theorem dX4_gallery_13 : decode cX4_gallery 13 = .ok (.ifCond .ge 5, 3) := by decide +kernel
theorem dX4_gallery_16 : decode cX4_gallery 16 = .ok (.iload_n 1, 1) := by decide +kernel
theorem dX4_gallery_17 : decode cX4_gallery 17 = .ok (.ireturn, 1) := by decide +kernel
theorem dX4_gallery_18 : decode cX4_gallery 18 = .ok (.aload_n 0, 1) := by decide +kernel
theorem dX4_gallery_19 : decode cX4_gallery 19 = .ok (.getfield 41, 3) := by decide +kernel
theorem dX4_gallery_22 : decode cX4_gallery 22 = .ok (.astore_n 2, 1) := by decide +kernel
theorem dX4_gallery_23 : decode cX4_gallery 23 = .ok (.aload_n 0, 1) := by decide +kernel
theorem dX4_gallery_24 : decode cX4_gallery 24 = .ok (.aload_n 0, 1) := by decide +kernel
theorem dX4_gallery_25 : decode cX4_gallery 25 = .ok (.getfield 45, 3) := by decide +kernel
theorem dX4_gallery_28 : decode cX4_gallery 28 = .ok (.putfield 41, 3) := by decide +kernel
theorem dX4_gallery_31 : decode cX4_gallery 31 = .ok (.aload_n 0, 1) := by decide +kernel
theorem dX4_gallery_32 : decode cX4_gallery 32 = .ok (.aload_n 2, 1) := by decide +kernel
theorem dX4_gallery_33 : decode cX4_gallery 33 = .ok (.putfield 45, 3) := by decide +kernel
theorem dX4_gallery_36 : decode cX4_gallery 36 = .ok (.aload_n 0, 1) := by decide +kernel
theorem dX4_gallery_37 : decode cX4_gallery 37 = .ok (.getfield 12, 3) := by decide +kernel
theorem dX4_gallery_40 : decode cX4_gallery 40 = .ok (.iconst 0, 1) := by decide +kernel
theorem dX4_gallery_41 : decode cX4_gallery 41 = .ok (.putfield 56, 3) := by decide +kernel
theorem dX4_gallery_44 : decode cX4_gallery 44 = .ok (.aload_n 0, 1) := by decide +kernel
theorem dX4_gallery_45 : decode cX4_gallery 45 = .ok (.getfield 19, 3) := by decide +kernel
theorem dX4_gallery_48 : decode cX4_gallery 48 = .ok (.iconst 0, 1) := by decide +kernel
theorem dX4_gallery_49 : decode cX4_gallery 49 = .ok (.putfield 64, 3) := by decide +kernel
theorem dX4_gallery_52 : decode cX4_gallery 52 = .ok (.iconst 0, 1) := by decide +kernel
theorem dX4_gallery_53 : decode cX4_gallery 53 = .ok (.istore_n 3, 1) := by decide +kernel
theorem dX4_gallery_54 : decode cX4_gallery 54 = .ok (.iload_n 3, 1) := by decide +kernel
theorem dX4_gallery_55 : decode cX4_gallery 55 = .ok (.iconst 2, 1) := by decide +kernel
theorem dX4_gallery_56 : decode cX4_gallery 56 = .ok (.if_icmp .ge 16, 3) := by decide +kernel
theorem dX4_gallery_59 : decode cX4_gallery 59 = .ok (.aload_n 0, 1) := by decide +kernel
theorem dX4_gallery_60 : decode cX4_gallery 60 = .ok (.getfield 30, 3) := by decide +kernel
theorem dX4_gallery_63 : decode cX4_gallery 63 = .ok (.iload_n 3, 1) := by decide +kernel
theorem dX4_gallery_64 : decode cX4_gallery 64 = .ok (.iconst 0, 1) := by decide +kernel
theorem dX4_gallery_65 : decode cX4_gallery 65 = .ok (.bastore, 1) := by decide +kernel
theorem dX4_gallery_66 : decode cX4_gallery 66 = .ok (.iinc 3 1, 3) := by decide +kernel
theorem dX4_gallery_69 : decode cX4_gallery 69 = .ok (.goto (-15), 3) := by decide +kernel
theorem dX4_gallery_72 : decode cX4_gallery 72 = .ok (.iload_n 1, 1) := by decide +kernel
theorem dX4_gallery_73 : decode cX4_gallery 73 = .ok (.ireturn, 1) := by decide +kernel
set_option maxRecDepth 20000 in
theorem ggX4_saying_X0_hasSaying : GoodIn wsX4_saying wsX0_hasSaying := goodIn_r _ [11, 12, 13, 14, 15, 16, 81, 82, 83, 84, 85, 86, 87, 88, 89, 90, 91, 92, 93, 94, 95, 96] (by decide +kernel) (by decide +kernel)
set_option maxRecDepth 20000 in
theorem gX4_saying_X0_hasSaying : GoodIn wsX4_saying (wsV RX4 65 RX0 yX0_hasSaying wsX0_hasSaying) := goodIn_app (goodIn_of _ (by decide +kernel)) ggX4_saying_X0_hasSaying
set_option maxRecDepth 20000 in
theorem ggX4_saying_X0_placeAfter : GoodIn wsX4_saying wsX0_placeAfter := goodIn_r _ [20, 12, 21, 22, 23, 24, 25, 10, 26, 27, 28, 29, 30, 31, 32, 33, 34, 35, 36, 37, 38, 81, 82, 83, 84, 85, 86, 87, 88, 89, 90, 91, 92, 93, 94, 95, 96] (by decide +kernel) (by decide +kernel)
set_option maxRecDepth 20000 in
theorem gX4_saying_X0_placeAfter : GoodIn wsX4_saying (wsV RX4 84 RX0 yX0_placeAfter wsX0_placeAfter) := goodIn_app (goodIn_of _ (by decide +kernel)) ggX4_saying_X0_placeAfter
set_option maxRecDepth 20000 in
theorem ggX4_saying_X0_lapsAfter : GoodIn wsX4_saying wsX0_lapsAfter := goodIn_r _ [42, 23, 24, 25, 10, 26, 12, 27, 28, 29, 43, 44, 45, 46, 34, 81, 82, 83, 84, 85, 86, 87, 88, 89, 90, 91, 92, 93, 94, 95, 96] (by decide +kernel) (by decide +kernel)
set_option maxRecDepth 20000 in
theorem gX4_saying_X0_lapsAfter : GoodIn wsX4_saying (wsV RX4 88 RX0 yX0_lapsAfter wsX0_lapsAfter) := goodIn_app (goodIn_of _ (by decide +kernel)) ggX4_saying_X0_lapsAfter
set_option maxRecDepth 20000 in
theorem ggX4_saying_X0_strengthAfter : GoodIn wsX4_saying wsX0_strengthAfter := goodIn_r _ [50, 12, 51, 52, 53, 54, 55, 56, 57, 23, 24, 25, 10, 26, 27, 28, 29, 58, 59, 60, 61, 62, 63, 64, 65, 66, 43, 44, 45, 46, 34, 81, 82, 83, 84, 85, 86, 87, 88, 89, 90, 91, 92, 93, 94, 95, 96] (by decide +kernel) (by decide +kernel)
set_option maxRecDepth 20000 in
theorem gX4_saying_X0_strengthAfter : GoodIn wsX4_saying (wsV RX4 91 RX0 yX0_strengthAfter wsX0_strengthAfter) := goodIn_app (goodIn_of _ (by decide +kernel)) ggX4_saying_X0_strengthAfter
set_option maxRecDepth 20000 in
theorem ggX4_saying_X2_isHushed : GoodIn wsX4_saying wsX2_isHushed := goodIn_r _ [56, 57, 87, 88, 89, 90, 91, 92, 93, 94, 95, 96] (by decide +kernel) (by decide +kernel)
set_option maxRecDepth 20000 in
theorem gX4_saying_X2_isHushed : GoodIn wsX4_saying (wsV RX4 94 RX2 yX2_isHushed wsX2_isHushed) := goodIn_app (goodIn_of _ (by decide +kernel)) ggX4_saying_X2_isHushed
set_option maxRecDepth 20000 in
theorem ggX4_saying_X0_lastOf : GoodIn wsX4_saying wsX0_lastOf := goodIn_r _ [71, 72, 48, 49, 10, 50, 12, 51, 52, 53, 54, 55, 56, 57, 23, 24, 25, 26, 27, 28, 29, 58, 59, 60, 61, 62, 63, 64, 65, 66, 43, 44, 45, 46, 34, 81, 82, 83, 84, 85, 86, 87, 88, 89, 90, 91, 92, 93, 94, 95, 96] (by decide +kernel) (by decide +kernel)
set_option maxRecDepth 20000 in
theorem gX4_saying_X0_lastOf : GoodIn wsX4_saying (wsV RX4 97 RX0 yX0_lastOf wsX0_lastOf) := goodIn_app (goodIn_of _ (by decide +kernel)) ggX4_saying_X0_lastOf
theorem dX4_saying_0 : decode cX4_saying 0 = .ok (.aload_n 0, 1) := by decide +kernel
theorem dX4_saying_1 : decode cX4_saying 1 = .ok (.getfield 41, 3) := by decide +kernel
theorem dX4_saying_4 : decode cX4_saying 4 = .ok (.iload_n 1, 1) := by decide +kernel
theorem dX4_saying_5 : decode cX4_saying 5 = .ok (.invokevirtual 65, 3) := by decide +kernel
theorem dX4_saying_8 : decode cX4_saying 8 = .ok (.ifCond .ne 5, 3) := by decide +kernel
theorem dX4_saying_11 : decode cX4_saying 11 = .ok (.iconst (-1), 1) := by decide +kernel
theorem dX4_saying_12 : decode cX4_saying 12 = .ok (.ireturn, 1) := by decide +kernel
theorem dX4_saying_13 : decode cX4_saying 13 = .ok (.aload_n 0, 1) := by decide +kernel
theorem dX4_saying_14 : decode cX4_saying 14 = .ok (.getfield 41, 3) := by decide +kernel
theorem dX4_saying_17 : decode cX4_saying 17 = .ok (.getfield 68, 3) := by decide +kernel
theorem dX4_saying_20 : decode cX4_saying 20 = .ok (.astore_n 3, 1) := by decide +kernel
theorem dX4_saying_21 : decode cX4_saying 21 = .ok (.iload_n 2, 1) := by decide +kernel
theorem dX4_saying_22 : decode cX4_saying 22 = .ok (.tableswitch 131 0 8 #[50, 57, 64, 71, 78, 88, 98, 108, 122], 50) := by decide +kernel
theorem dX4_saying_72 : decode cX4_saying 72 = .ok (.aload_n 3, 1) := by decide +kernel
theorem dX4_saying_73 : decode cX4_saying 73 = .ok (.getfield 72, 3) := by decide +kernel
theorem dX4_saying_76 : decode cX4_saying 76 = .ok (.iload_n 1, 1) := by decide +kernel
theorem dX4_saying_77 : decode cX4_saying 77 = .ok (.iaload, 1) := by decide +kernel
theorem dX4_saying_78 : decode cX4_saying 78 = .ok (.ireturn, 1) := by decide +kernel
theorem dX4_saying_79 : decode cX4_saying 79 = .ok (.aload_n 3, 1) := by decide +kernel
theorem dX4_saying_80 : decode cX4_saying 80 = .ok (.getfield 75, 3) := by decide +kernel
theorem dX4_saying_83 : decode cX4_saying 83 = .ok (.iload_n 1, 1) := by decide +kernel
theorem dX4_saying_84 : decode cX4_saying 84 = .ok (.iaload, 1) := by decide +kernel
theorem dX4_saying_85 : decode cX4_saying 85 = .ok (.ireturn, 1) := by decide +kernel
theorem dX4_saying_86 : decode cX4_saying 86 = .ok (.aload_n 3, 1) := by decide +kernel
theorem dX4_saying_87 : decode cX4_saying 87 = .ok (.getfield 78, 3) := by decide +kernel
theorem dX4_saying_90 : decode cX4_saying 90 = .ok (.iload_n 1, 1) := by decide +kernel
theorem dX4_saying_91 : decode cX4_saying 91 = .ok (.iaload, 1) := by decide +kernel
theorem dX4_saying_92 : decode cX4_saying 92 = .ok (.ireturn, 1) := by decide +kernel
theorem dX4_saying_93 : decode cX4_saying 93 = .ok (.aload_n 3, 1) := by decide +kernel
theorem dX4_saying_94 : decode cX4_saying 94 = .ok (.getfield 81, 3) := by decide +kernel
theorem dX4_saying_97 : decode cX4_saying 97 = .ok (.iload_n 1, 1) := by decide +kernel
theorem dX4_saying_98 : decode cX4_saying 98 = .ok (.iaload, 1) := by decide +kernel
theorem dX4_saying_99 : decode cX4_saying 99 = .ok (.ireturn, 1) := by decide +kernel
theorem dX4_saying_100 : decode cX4_saying 100 = .ok (.aload_n 0, 1) := by decide +kernel
theorem dX4_saying_101 : decode cX4_saying 101 = .ok (.getfield 41, 3) := by decide +kernel
theorem dX4_saying_104 : decode cX4_saying 104 = .ok (.iload_n 1, 1) := by decide +kernel
theorem dX4_saying_105 : decode cX4_saying 105 = .ok (.iconst 0, 1) := by decide +kernel
theorem dX4_saying_106 : decode cX4_saying 106 = .ok (.invokevirtual 84, 3) := by decide +kernel
theorem dX4_saying_109 : decode cX4_saying 109 = .ok (.ireturn, 1) := by decide +kernel
theorem dX4_saying_110 : decode cX4_saying 110 = .ok (.aload_n 0, 1) := by decide +kernel
theorem dX4_saying_111 : decode cX4_saying 111 = .ok (.getfield 41, 3) := by decide +kernel
theorem dX4_saying_114 : decode cX4_saying 114 = .ok (.iload_n 1, 1) := by decide +kernel
theorem dX4_saying_115 : decode cX4_saying 115 = .ok (.iconst 0, 1) := by decide +kernel
theorem dX4_saying_116 : decode cX4_saying 116 = .ok (.invokevirtual 88, 3) := by decide +kernel
theorem dX4_saying_119 : decode cX4_saying 119 = .ok (.ireturn, 1) := by decide +kernel
theorem dX4_saying_120 : decode cX4_saying 120 = .ok (.aload_n 0, 1) := by decide +kernel
theorem dX4_saying_121 : decode cX4_saying 121 = .ok (.getfield 41, 3) := by decide +kernel
theorem dX4_saying_124 : decode cX4_saying 124 = .ok (.iload_n 1, 1) := by decide +kernel
theorem dX4_saying_125 : decode cX4_saying 125 = .ok (.iconst 0, 1) := by decide +kernel
theorem dX4_saying_126 : decode cX4_saying 126 = .ok (.invokevirtual 91, 3) := by decide +kernel
theorem dX4_saying_129 : decode cX4_saying 129 = .ok (.ireturn, 1) := by decide +kernel
theorem dX4_saying_130 : decode cX4_saying 130 = .ok (.aload_n 3, 1) := by decide +kernel
theorem dX4_saying_131 : decode cX4_saying 131 = .ok (.iload_n 1, 1) := by decide +kernel
theorem dX4_saying_132 : decode cX4_saying 132 = .ok (.invokevirtual 94, 3) := by decide +kernel
theorem dX4_saying_135 : decode cX4_saying 135 = .ok (.ifCond .eq 7, 3) := by decide +kernel
theorem dX4_saying_138 : decode cX4_saying 138 = .ok (.iconst 1, 1) := by decide +kernel
theorem dX4_saying_139 : decode cX4_saying 139 = .ok (.goto 4, 3) := by decide +kernel
theorem dX4_saying_142 : decode cX4_saying 142 = .ok (.iconst 0, 1) := by decide +kernel
theorem dX4_saying_143 : decode cX4_saying 143 = .ok (.ireturn, 1) := by decide +kernel
theorem dX4_saying_144 : decode cX4_saying 144 = .ok (.aload_n 0, 1) := by decide +kernel
theorem dX4_saying_145 : decode cX4_saying 145 = .ok (.getfield 41, 3) := by decide +kernel
theorem dX4_saying_148 : decode cX4_saying 148 = .ok (.iload_n 1, 1) := by decide +kernel
theorem dX4_saying_149 : decode cX4_saying 149 = .ok (.invokevirtual 97, 3) := by decide +kernel
theorem dX4_saying_152 : decode cX4_saying 152 = .ok (.ireturn, 1) := by decide +kernel
theorem dX4_saying_153 : decode cX4_saying 153 = .ok (.iconst (-1), 1) := by decide +kernel
theorem dX4_saying_154 : decode cX4_saying 154 = .ok (.ireturn, 1) := by decide +kernel
set_option maxRecDepth 20000 in
theorem ggX4_place_X0_hasPlace : GoodIn wsX4_place wsX0_hasPlace := goodIn_r _ [6, 7, 8, 9, 10, 101, 102, 103, 104, 105, 106] (by decide +kernel) (by decide +kernel)
set_option maxRecDepth 20000 in
theorem gX4_place_X0_hasPlace : GoodIn wsX4_place (wsV RX4 101 RX0 yX0_hasPlace wsX0_hasPlace) := goodIn_app (goodIn_of _ (by decide +kernel)) ggX4_place_X0_hasPlace
set_option maxRecDepth 20000 in
theorem ggX4_place_X0_listen : GoodIn wsX4_place wsX0_listen := goodIn_r _ [14, 15, 16, 17, 18, 19, 20, 21, 5, 22, 23, 24, 25, 26, 27, 28, 29, 30, 31, 32, 33, 34, 35, 7, 36, 37, 38, 39, 40, 41, 42, 43, 44, 45, 46, 47, 48, 49, 50, 51, 52, 53, 54, 55, 56, 57, 58, 59, 60, 61, 62, 63, 101, 102, 103, 104, 105, 106, 107, 108, 109, 110, 111, 112, 113, 114, 115, 116] (by decide +kernel) (by decide +kernel)
set_option maxRecDepth 20000 in
theorem gX4_place_X0_listen : GoodIn wsX4_place (wsV RX4 104 RX0 yX0_listen wsX0_listen) := goodIn_app (goodIn_of _ (by decide +kernel)) ggX4_place_X0_listen
set_option maxRecDepth 20000 in
theorem ggX4_place_X0_isNiche : GoodIn wsX4_place wsX0_isNiche := goodIn_r _ [67, 68, 101, 102, 103, 104, 105, 106] (by decide +kernel) (by decide +kernel)
set_option maxRecDepth 20000 in
theorem gX4_place_X0_isNiche : GoodIn wsX4_place (wsV RX4 108 RX0 yX0_isNiche wsX0_isNiche) := goodIn_app (goodIn_of _ (by decide +kernel)) ggX4_place_X0_isNiche
set_option maxRecDepth 20000 in
theorem ggX4_place_X0_soundingAt : GoodIn wsX4_place wsX0_soundingAt := goodIn_r _ [72, 15, 16, 17, 18, 101, 102, 103, 104, 105, 106, 107, 108, 109, 110, 111, 112, 113, 114, 115, 116] (by decide +kernel) (by decide +kernel)
set_option maxRecDepth 20000 in
theorem gX4_place_X0_soundingAt : GoodIn wsX4_place (wsV RX4 111 RX0 yX0_soundingAt wsX0_soundingAt) := goodIn_app (goodIn_of _ (by decide +kernel)) ggX4_place_X0_soundingAt
set_option maxRecDepth 20000 in
theorem ggX4_place_X0_clearAt : GoodIn wsX4_place wsX0_clearAt := goodIn_r _ [76, 15, 16, 17, 18, 77, 78, 79, 5, 80, 101, 102, 103, 104, 105, 106, 107, 108, 109, 110, 111, 112, 113, 114, 115, 116] (by decide +kernel) (by decide +kernel)
set_option maxRecDepth 20000 in
theorem gX4_place_X0_clearAt : GoodIn wsX4_place (wsV RX4 114 RX0 yX0_clearAt wsX0_clearAt) := goodIn_app (goodIn_of _ (by decide +kernel)) ggX4_place_X0_clearAt
set_option maxRecDepth 20000 in
theorem ggX4_place_X0_isSea : GoodIn wsX4_place wsX0_isSea := goodIn_r _ [84, 85, 70, 71, 5, 72, 15, 16, 17, 18, 86, 74, 75, 76, 77, 78, 79, 80, 101, 102, 103, 104, 105, 106, 107, 108, 109, 110, 111, 112, 113, 114, 115, 116] (by decide +kernel) (by decide +kernel)
set_option maxRecDepth 20000 in
theorem gX4_place_X0_isSea : GoodIn wsX4_place (wsV RX4 117 RX0 yX0_isSea wsX0_isSea) := goodIn_app (goodIn_of _ (by decide +kernel)) ggX4_place_X0_isSea
set_option maxRecDepth 20000 in
theorem ggX4_place_X0_strengthAt : GoodIn wsX4_place wsX0_strengthAt := goodIn_r _ [80, 15, 16, 17, 18, 101, 102, 103, 104, 105, 106, 107, 108, 109, 110, 111, 112, 113, 114, 115, 116] (by decide +kernel) (by decide +kernel)
set_option maxRecDepth 20000 in
theorem gX4_place_X0_strengthAt : GoodIn wsX4_place (wsV RX4 120 RX0 yX0_strengthAt wsX0_strengthAt) := goodIn_app (goodIn_of _ (by decide +kernel)) ggX4_place_X0_strengthAt
set_option maxRecDepth 20000 in
theorem ggX4_place_X0_quietOf : GoodIn wsX4_place wsX0_quietOf := goodIn_r _ [91, 92, 12, 13, 5, 14, 15, 16, 17, 18, 19, 20, 21, 22, 23, 24, 25, 26, 27, 28, 29, 30, 31, 32, 33, 34, 35, 7, 36, 37, 38, 39, 40, 41, 42, 43, 44, 45, 46, 47, 48, 49, 50, 51, 52, 53, 54, 55, 56, 57, 58, 59, 60, 61, 62, 63, 85, 70, 71, 72, 101, 102, 103, 104, 105, 106, 107, 108, 109, 110, 111, 112, 113, 114, 115, 116] (by decide +kernel) (by decide +kernel)
set_option maxRecDepth 20000 in
theorem gX4_place_X0_quietOf : GoodIn wsX4_place (wsV RX4 123 RX0 yX0_quietOf wsX0_quietOf) := goodIn_app (goodIn_of _ (by decide +kernel)) ggX4_place_X0_quietOf
theorem dX4_place_0 : decode cX4_place 0 = .ok (.aload_n 0, 1) := by decide +kernel
theorem dX4_place_1 : decode cX4_place 1 = .ok (.getfield 41, 3) := by decide +kernel
theorem dX4_place_4 : decode cX4_place 4 = .ok (.iload_n 1, 1) := by decide +kernel
theorem dX4_place_5 : decode cX4_place 5 = .ok (.invokevirtual 101, 3) := by decide +kernel
theorem dX4_place_8 : decode cX4_place 8 = .ok (.ifCond .ne 5, 3) := by decide +kernel
theorem dX4_place_11 : decode cX4_place 11 = .ok (.iconst (-1), 1) := by decide +kernel
theorem dX4_place_12 : decode cX4_place 12 = .ok (.ireturn, 1) := by decide +kernel
theorem dX4_place_13 : decode cX4_place 13 = .ok (.aload_n 0, 1) := by decide +kernel
theorem dX4_place_14 : decode cX4_place 14 = .ok (.getfield 41, 3) := by decide +kernel
theorem dX4_place_17 : decode cX4_place 17 = .ok (.iconst 0, 1) := by decide +kernel
theorem dX4_place_18 : decode cX4_place 18 = .ok (.invokevirtual 104, 3) := by decide +kernel
theorem dX4_place_21 : decode cX4_place 21 = .ok (.iload_n 2, 1) := by decide +kernel
theorem dX4_place_22 : decode cX4_place 22 = .ok (.tableswitch 132 0 5 #[38, 55, 64, 73, 90, 123], 38) := by decide +kernel
theorem dX4_place_60 : decode cX4_place 60 = .ok (.aload_n 0, 1) := by decide +kernel
theorem dX4_place_61 : decode cX4_place 61 = .ok (.getfield 41, 3) := by decide +kernel
theorem dX4_place_64 : decode cX4_place 64 = .ok (.iload_n 1, 1) := by decide +kernel
theorem dX4_place_65 : decode cX4_place 65 = .ok (.invokevirtual 108, 3) := by decide +kernel
theorem dX4_place_68 : decode cX4_place 68 = .ok (.ifCond .eq 7, 3) := by decide +kernel
theorem dX4_place_71 : decode cX4_place 71 = .ok (.iconst 1, 1) := by decide +kernel
theorem dX4_place_72 : decode cX4_place 72 = .ok (.goto 4, 3) := by decide +kernel
theorem dX4_place_75 : decode cX4_place 75 = .ok (.iconst 0, 1) := by decide +kernel
theorem dX4_place_76 : decode cX4_place 76 = .ok (.ireturn, 1) := by decide +kernel
theorem dX4_place_77 : decode cX4_place 77 = .ok (.aload_n 0, 1) := by decide +kernel
theorem dX4_place_78 : decode cX4_place 78 = .ok (.getfield 41, 3) := by decide +kernel
theorem dX4_place_81 : decode cX4_place 81 = .ok (.iload_n 1, 1) := by decide +kernel
theorem dX4_place_82 : decode cX4_place 82 = .ok (.invokevirtual 111, 3) := by decide +kernel
theorem dX4_place_85 : decode cX4_place 85 = .ok (.ireturn, 1) := by decide +kernel
theorem dX4_place_86 : decode cX4_place 86 = .ok (.aload_n 0, 1) := by decide +kernel
theorem dX4_place_87 : decode cX4_place 87 = .ok (.getfield 41, 3) := by decide +kernel
theorem dX4_place_90 : decode cX4_place 90 = .ok (.iload_n 1, 1) := by decide +kernel
theorem dX4_place_91 : decode cX4_place 91 = .ok (.invokevirtual 114, 3) := by decide +kernel
theorem dX4_place_94 : decode cX4_place 94 = .ok (.ireturn, 1) := by decide +kernel
theorem dX4_place_95 : decode cX4_place 95 = .ok (.aload_n 0, 1) := by decide +kernel
theorem dX4_place_96 : decode cX4_place 96 = .ok (.getfield 41, 3) := by decide +kernel
theorem dX4_place_99 : decode cX4_place 99 = .ok (.iload_n 1, 1) := by decide +kernel
theorem dX4_place_100 : decode cX4_place 100 = .ok (.invokevirtual 117, 3) := by decide +kernel
theorem dX4_place_103 : decode cX4_place 103 = .ok (.ifCond .eq 7, 3) := by decide +kernel
theorem dX4_place_106 : decode cX4_place 106 = .ok (.iconst 1, 1) := by decide +kernel
theorem dX4_place_107 : decode cX4_place 107 = .ok (.goto 4, 3) := by decide +kernel
theorem dX4_place_110 : decode cX4_place 110 = .ok (.iconst 0, 1) := by decide +kernel
theorem dX4_place_111 : decode cX4_place 111 = .ok (.ireturn, 1) := by decide +kernel
theorem dX4_place_112 : decode cX4_place 112 = .ok (.aload_n 0, 1) := by decide +kernel
theorem dX4_place_113 : decode cX4_place 113 = .ok (.getfield 41, 3) := by decide +kernel
theorem dX4_place_116 : decode cX4_place 116 = .ok (.iload_n 1, 1) := by decide +kernel
theorem dX4_place_117 : decode cX4_place 117 = .ok (.invokevirtual 108, 3) := by decide +kernel
theorem dX4_place_120 : decode cX4_place 120 = .ok (.ifCond .eq 16, 3) := by decide +kernel
theorem dX4_place_123 : decode cX4_place 123 = .ok (.iconst 2, 1) := by decide +kernel
theorem dX4_place_124 : decode cX4_place 124 = .ok (.aload_n 0, 1) := by decide +kernel
theorem dX4_place_125 : decode cX4_place 125 = .ok (.getfield 41, 3) := by decide +kernel
theorem dX4_place_128 : decode cX4_place 128 = .ok (.iload_n 1, 1) := by decide +kernel
theorem dX4_place_129 : decode cX4_place 129 = .ok (.invokevirtual 120, 3) := by decide +kernel
theorem dX4_place_132 : decode cX4_place 132 = .ok (.imul, 1) := by decide +kernel
theorem dX4_place_133 : decode cX4_place 133 = .ok (.goto 11, 3) := by decide +kernel
theorem dX4_place_136 : decode cX4_place 136 = .ok (.aload_n 0, 1) := by decide +kernel
theorem dX4_place_137 : decode cX4_place 137 = .ok (.getfield 41, 3) := by decide +kernel
theorem dX4_place_140 : decode cX4_place 140 = .ok (.iload_n 1, 1) := by decide +kernel
theorem dX4_place_141 : decode cX4_place 141 = .ok (.invokevirtual 120, 3) := by decide +kernel
theorem dX4_place_144 : decode cX4_place 144 = .ok (.ireturn, 1) := by decide +kernel
theorem dX4_place_145 : decode cX4_place 145 = .ok (.aload_n 0, 1) := by decide +kernel
theorem dX4_place_146 : decode cX4_place 146 = .ok (.getfield 41, 3) := by decide +kernel
theorem dX4_place_149 : decode cX4_place 149 = .ok (.iload_n 1, 1) := by decide +kernel
theorem dX4_place_150 : decode cX4_place 150 = .ok (.invokevirtual 123, 3) := by decide +kernel
theorem dX4_place_153 : decode cX4_place 153 = .ok (.ireturn, 1) := by decide +kernel
theorem dX4_place_154 : decode cX4_place 154 = .ok (.iconst (-1), 1) := by decide +kernel
theorem dX4_place_155 : decode cX4_place 155 = .ok (.ireturn, 1) := by decide +kernel
set_option maxRecDepth 20000 in
theorem ggX4_ticks_X4_within : GoodIn wsX4_ticks wsX4_within := goodIn_r _ [7] (by decide +kernel) (by decide +kernel)
set_option maxRecDepth 20000 in
theorem gX4_ticks_X4_within : GoodIn wsX4_ticks (va_wsS RX4 48 yX4_within wsX4_within) := goodIn_app (goodIn_of _ (by decide +kernel)) ggX4_ticks_X4_within
set_option maxRecDepth 20000 in
theorem ggX4_ticks_X2_goBy : GoodIn wsX4_ticks wsX2_goBy := goodIn_r _ [12, 13, 14, 15, 16, 11, 17, 18, 19, 20, 21, 22, 23, 103, 104, 105, 106, 107, 108, 109, 110, 111, 112] (by decide +kernel) (by decide +kernel)
set_option maxRecDepth 20000 in
theorem gX4_ticks_X2_goBy : GoodIn wsX4_ticks (wsV RX4 129 RX2 yX2_goBy wsX2_goBy) := goodIn_app (goodIn_of _ (by decide +kernel)) ggX4_ticks_X2_goBy
set_option maxRecDepth 20000 in
theorem ggX4_ticks_X0_listen : GoodIn wsX4_ticks wsX0_listen := goodIn_r _ [28, 29, 30, 31, 32, 33, 34, 35, 27, 36, 37, 38, 39, 40, 41, 42, 43, 44, 45, 46, 47, 48, 49, 50, 51, 52, 53, 54, 55, 56, 57, 58, 59, 60, 61, 62, 11, 63, 64, 65, 66, 67, 68, 69, 70, 71, 72, 73, 74, 75, 76, 77, 97, 98, 99, 100, 101, 102, 103, 104, 105, 106, 107, 108, 109, 110, 111, 112] (by decide +kernel) (by decide +kernel)
set_option maxRecDepth 20000 in
theorem gX4_ticks_X0_listen : GoodIn wsX4_ticks (wsV RX4 104 RX0 yX0_listen wsX0_listen) := goodIn_app (goodIn_of _ (by decide +kernel)) ggX4_ticks_X0_listen
set_option maxRecDepth 20000 in
theorem ggX4_ticks_X0_lasting : GoodIn wsX4_ticks wsX0_lasting := goodIn_r _ [81, 29, 30, 32, 97, 98, 99, 100, 101, 102, 103, 104, 105, 106, 107, 108, 109, 110, 111, 112] (by decide +kernel) (by decide +kernel)
set_option maxRecDepth 20000 in
theorem gX4_ticks_X0_lasting : GoodIn wsX4_ticks (wsV RX4 132 RX0 yX0_lasting wsX0_lasting) := goodIn_app (goodIn_of _ (by decide +kernel)) ggX4_ticks_X0_lasting
set_option maxRecDepth 20000 in
theorem ggX4_ticks_J6_bitCount_0f7a4 : GoodIn wsX4_ticks wsJ6_bitCount_0f7a4 := goodIn_r _ [85, 86, 87, 88] (by decide +kernel) (by decide +kernel)
set_option maxRecDepth 20000 in
theorem gX4_ticks_J6_bitCount_0f7a4 : GoodIn wsX4_ticks (va_wsS RX4 136 yJ6_bitCount_0f7a4 wsJ6_bitCount_0f7a4) := goodIn_app (goodIn_of _ (by decide +kernel)) ggX4_ticks_J6_bitCount_0f7a4
theorem dX4_ticks_0 : decode cX4_ticks 0 = .ok (.iload_n 1, 1) := by decide +kernel
theorem dX4_ticks_1 : decode cX4_ticks 1 = .ok (.iconst 1, 1) := by decide +kernel
theorem dX4_ticks_2 : decode cX4_ticks 2 = .ok (.bipush 99, 2) := by decide +kernel
theorem dX4_ticks_4 : decode cX4_ticks 4 = .ok (.invokestatic 48, 3) := by decide +kernel
theorem dX4_ticks_7 : decode cX4_ticks 7 = .ok (.ifCond .ne 5, 3) := by decide +kernel
theorem dX4_ticks_10 : decode cX4_ticks 10 = .ok (.iconst (-1), 1) := by decide +kernel
theorem dX4_ticks_11 : decode cX4_ticks 11 = .ok (.ireturn, 1) := by decide +kernel
theorem dX4_ticks_12 : decode cX4_ticks 12 = .ok (.aload_n 0, 1) := by decide +kernel
theorem dX4_ticks_13 : decode cX4_ticks 13 = .ok (.getfield 41, 3) := by decide +kernel
theorem dX4_ticks_16 : decode cX4_ticks 16 = .ok (.getfield 68, 3) := by decide +kernel
theorem dX4_ticks_19 : decode cX4_ticks 19 = .ok (.getfield 126, 3) := by decide +kernel
theorem dX4_ticks_22 : decode cX4_ticks 22 = .ok (.iload_n 1, 1) := by decide +kernel
theorem dX4_ticks_23 : decode cX4_ticks 23 = .ok (.iadd, 1) := by decide +kernel
theorem dX4_ticks_24 : decode cX4_ticks 24 = .ok (.sipush 9999, 3) := by decide +kernel
theorem dX4_ticks_27 : decode cX4_ticks 27 = .ok (.if_icmp .le 6, 3) := by decide +kernel
theorem dX4_ticks_30 : decode cX4_ticks 30 = .ok (.bipush (-2), 2) := by decide +kernel
theorem dX4_ticks_32 : decode cX4_ticks 32 = .ok (.ireturn, 1) := by decide +kernel
theorem dX4_ticks_33 : decode cX4_ticks 33 = .ok (.aload_n 0, 1) := by decide +kernel
theorem dX4_ticks_34 : decode cX4_ticks 34 = .ok (.getfield 41, 3) := by decide +kernel
theorem dX4_ticks_37 : decode cX4_ticks 37 = .ok (.getfield 68, 3) := by decide +kernel
theorem dX4_ticks_40 : decode cX4_ticks 40 = .ok (.iload_n 1, 1) := by decide +kernel
theorem dX4_ticks_41 : decode cX4_ticks 41 = .ok (.invokevirtual 129, 3) := by decide +kernel
theorem dX4_ticks_44 : decode cX4_ticks 44 = .ok (.aload_n 0, 1) := by decide +kernel
theorem dX4_ticks_45 : decode cX4_ticks 45 = .ok (.getfield 41, 3) := by decide +kernel
theorem dX4_ticks_48 : decode cX4_ticks 48 = .ok (.iconst 0, 1) := by decide +kernel
theorem dX4_ticks_49 : decode cX4_ticks 49 = .ok (.invokevirtual 104, 3) := by decide +kernel
theorem dX4_ticks_52 : decode cX4_ticks 52 = .ok (.aload_n 0, 1) := by decide +kernel
theorem dX4_ticks_53 : decode cX4_ticks 53 = .ok (.getfield 41, 3) := by decide +kernel
theorem dX4_ticks_56 : decode cX4_ticks 56 = .ok (.invokevirtual 132, 3) := by decide +kernel
theorem dX4_ticks_59 : decode cX4_ticks 59 = .ok (.invokestatic 136, 3) := by decide +kernel
theorem dX4_ticks_62 : decode cX4_ticks 62 = .ok (.ireturn, 1) := by decide +kernel
set_option maxRecDepth 20000 in
theorem ggX4_says_X4_maySay : GoodIn wsX4_says wsX4_maySay := goodIn_r _ [8, 1, 9, 10, 11, 12, 13, 14, 15, 7, 16, 17, 40, 41, 42, 43, 44, 45, 46, 47, 48, 49, 50, 51, 52, 53] (by decide +kernel) (by decide +kernel)
set_option maxRecDepth 20000 in
theorem gX4_says_X4_maySay : GoodIn wsX4_says (wsV RX4 141 RX4 yX4_maySay wsX4_maySay) := goodIn_app (goodIn_of _ (by decide +kernel)) ggX4_says_X4_maySay
set_option maxRecDepth 20000 in
theorem ggX4_says_X2_add : GoodIn wsX4_says wsX2_add := goodIn_r _ [22, 23, 24, 25, 26, 27, 28, 29, 54, 55, 56, 57, 58, 59, 60, 61, 62, 63] (by decide +kernel) (by decide +kernel)
set_option maxRecDepth 20000 in
theorem gX4_says_X2_add : GoodIn wsX4_says (wsV RX4 145 RX2 yX2_add wsX2_add) := goodIn_app (goodIn_of _ (by decide +kernel)) ggX4_says_X2_add
set_option maxRecDepth 20000 in
theorem ggX4_says_X2_note : GoodIn wsX4_says wsX2_note := goodIn_r _ [33, 34, 35, 36, 37, 38, 39, 54, 55, 56, 57, 58, 59, 60, 61, 62, 63] (by decide +kernel) (by decide +kernel)
set_option maxRecDepth 20000 in
theorem gX4_says_X2_note : GoodIn wsX4_says (wsV RX4 148 RX2 yX2_note wsX2_note) := goodIn_app (goodIn_of _ (by decide +kernel)) ggX4_says_X2_note
theorem dX4_says_0 : decode cX4_says 0 = .ok (.aload_n 0, 1) := by decide +kernel
theorem dX4_says_1 : decode cX4_says 1 = .ok (.iload_n 1, 1) := by decide +kernel
theorem dX4_says_2 : decode cX4_says 2 = .ok (.iload_n 2, 1) := by decide +kernel
theorem dX4_says_3 : decode cX4_says 3 = .ok (.iload_n 3, 1) := by decide +kernel
theorem dX4_says_4 : decode cX4_says 4 = .ok (.iload 4, 2) := by decide +kernel
theorem dX4_says_6 : decode cX4_says 6 = .ok (.invokevirtual 141, 3) := by decide +kernel
theorem dX4_says_9 : decode cX4_says 9 = .ok (.ifCond .ne 5, 3) := by decide +kernel
theorem dX4_says_12 : decode cX4_says 12 = .ok (.iconst (-1), 1) := by decide +kernel
theorem dX4_says_13 : decode cX4_says 13 = .ok (.ireturn, 1) := by decide +kernel
theorem dX4_says_14 : decode cX4_says 14 = .ok (.aload_n 0, 1) := by decide +kernel
theorem dX4_says_15 : decode cX4_says 15 = .ok (.getfield 41, 3) := by decide +kernel
theorem dX4_says_18 : decode cX4_says 18 = .ok (.getfield 68, 3) := by decide +kernel
theorem dX4_says_21 : decode cX4_says 21 = .ok (.iload_n 1, 1) := by decide +kernel
theorem dX4_says_22 : decode cX4_says 22 = .ok (.iload_n 2, 1) := by decide +kernel
theorem dX4_says_23 : decode cX4_says 23 = .ok (.iload_n 3, 1) := by decide +kernel
theorem dX4_says_24 : decode cX4_says 24 = .ok (.iload 4, 2) := by decide +kernel
theorem dX4_says_26 : decode cX4_says 26 = .ok (.invokevirtual 145, 3) := by decide +kernel
theorem dX4_says_29 : decode cX4_says 29 = .ok (.ifCond .ne 6, 3) := by decide +kernel
theorem dX4_says_32 : decode cX4_says 32 = .ok (.bipush (-3), 2) := by decide +kernel
theorem dX4_says_34 : decode cX4_says 34 = .ok (.ireturn, 1) := by decide +kernel
theorem dX4_says_35 : decode cX4_says 35 = .ok (.aload_n 0, 1) := by decide +kernel
theorem dX4_says_36 : decode cX4_says 36 = .ok (.getfield 41, 3) := by decide +kernel
theorem dX4_says_39 : decode cX4_says 39 = .ok (.getfield 68, 3) := by decide +kernel
theorem dX4_says_42 : decode cX4_says 42 = .ok (.iconst 0, 1) := by decide +kernel
theorem dX4_says_43 : decode cX4_says 43 = .ok (.invokevirtual 148, 3) := by decide +kernel
theorem dX4_says_46 : decode cX4_says 46 = .ok (.aload_n 0, 1) := by decide +kernel
theorem dX4_says_47 : decode cX4_says 47 = .ok (.getfield 41, 3) := by decide +kernel
theorem dX4_says_50 : decode cX4_says 50 = .ok (.getfield 68, 3) := by decide +kernel
theorem dX4_says_53 : decode cX4_says 53 = .ok (.getfield 151, 3) := by decide +kernel
theorem dX4_says_56 : decode cX4_says 56 = .ok (.iconst 1, 1) := by decide +kernel
theorem dX4_says_57 : decode cX4_says 57 = .ok (.isub, 1) := by decide +kernel
theorem dX4_says_58 : decode cX4_says 58 = .ok (.ireturn, 1) := by decide +kernel
set_option maxRecDepth 20000 in
theorem ggX4_hushes_X0_hasSaying : GoodIn wsX4_hushes wsX0_hasSaying := goodIn_r _ [7, 8, 9, 10, 11, 12, 67, 68, 69, 70, 71, 72, 73, 74, 75, 76, 77, 78, 79, 80, 81, 82] (by decide +kernel) (by decide +kernel)
set_option maxRecDepth 20000 in
theorem gX4_hushes_X0_hasSaying : GoodIn wsX4_hushes (wsV RX4 65 RX0 yX0_hasSaying wsX0_hasSaying) := goodIn_app (goodIn_of _ (by decide +kernel)) ggX4_hushes_X0_hasSaying
set_option maxRecDepth 20000 in
theorem ggX4_hushes_X0_strengthAfter : GoodIn wsX4_hushes wsX0_strengthAfter := goodIn_r _ [16, 8, 17, 18, 19, 20, 21, 22, 23, 24, 25, 26, 6, 27, 28, 29, 30, 31, 32, 33, 34, 35, 36, 37, 38, 39, 40, 41, 42, 43, 44, 67, 68, 69, 70, 71, 72, 73, 74, 75, 76, 77, 78, 79, 80, 81, 82] (by decide +kernel) (by decide +kernel)
set_option maxRecDepth 20000 in
theorem gX4_hushes_X0_strengthAfter : GoodIn wsX4_hushes (wsV RX4 91 RX0 yX0_strengthAfter wsX0_strengthAfter) := goodIn_app (goodIn_of _ (by decide +kernel)) ggX4_hushes_X0_strengthAfter
set_option maxRecDepth 20000 in
theorem ggX4_hushes_X2_hush : GoodIn wsX4_hushes wsX2_hush := goodIn_r _ [48, 23, 49, 50, 51, 21, 52, 53, 54, 55, 56, 57, 58, 73, 74, 75, 76, 77, 78, 79, 80, 81, 82] (by decide +kernel) (by decide +kernel)
set_option maxRecDepth 20000 in
theorem gX4_hushes_X2_hush : GoodIn wsX4_hushes (wsV RX4 154 RX2 yX2_hush wsX2_hush) := goodIn_app (goodIn_of _ (by decide +kernel)) ggX4_hushes_X2_hush
theorem dX4_hushes_0 : decode cX4_hushes 0 = .ok (.aload_n 0, 1) := by decide +kernel
theorem dX4_hushes_1 : decode cX4_hushes 1 = .ok (.getfield 41, 3) := by decide +kernel
theorem dX4_hushes_4 : decode cX4_hushes 4 = .ok (.iload_n 1, 1) := by decide +kernel
theorem dX4_hushes_5 : decode cX4_hushes 5 = .ok (.invokevirtual 65, 3) := by decide +kernel
theorem dX4_hushes_8 : decode cX4_hushes 8 = .ok (.ifCond .ne 5, 3) := by decide +kernel
theorem dX4_hushes_11 : decode cX4_hushes 11 = .ok (.iconst (-1), 1) := by decide +kernel
theorem dX4_hushes_12 : decode cX4_hushes 12 = .ok (.ireturn, 1) := by decide +kernel
theorem dX4_hushes_13 : decode cX4_hushes 13 = .ok (.aload_n 0, 1) := by decide +kernel
theorem dX4_hushes_14 : decode cX4_hushes 14 = .ok (.getfield 41, 3) := by decide +kernel
theorem dX4_hushes_17 : decode cX4_hushes 17 = .ok (.iload_n 1, 1) := by decide +kernel
theorem dX4_hushes_18 : decode cX4_hushes 18 = .ok (.iconst 0, 1) := by decide +kernel
theorem dX4_hushes_19 : decode cX4_hushes 19 = .ok (.invokevirtual 91, 3) := by decide +kernel
theorem dX4_hushes_22 : decode cX4_hushes 22 = .ok (.istore_n 2, 1) := by decide +kernel
theorem dX4_hushes_23 : decode cX4_hushes 23 = .ok (.iload_n 2, 1) := by decide +kernel
theorem dX4_hushes_24 : decode cX4_hushes 24 = .ok (.ifCond .ne 6, 3) := by decide +kernel
theorem dX4_hushes_27 : decode cX4_hushes 27 = .ok (.bipush (-2), 2) := by decide +kernel
theorem dX4_hushes_29 : decode cX4_hushes 29 = .ok (.ireturn, 1) := by decide +kernel
theorem dX4_hushes_30 : decode cX4_hushes 30 = .ok (.aload_n 0, 1) := by decide +kernel
theorem dX4_hushes_31 : decode cX4_hushes 31 = .ok (.getfield 41, 3) := by decide +kernel
theorem dX4_hushes_34 : decode cX4_hushes 34 = .ok (.getfield 68, 3) := by decide +kernel
theorem dX4_hushes_37 : decode cX4_hushes 37 = .ok (.iload_n 1, 1) := by decide +kernel
theorem dX4_hushes_38 : decode cX4_hushes 38 = .ok (.invokevirtual 154, 3) := by decide +kernel
theorem dX4_hushes_41 : decode cX4_hushes 41 = .ok (.iload_n 2, 1) := by decide +kernel
theorem dX4_hushes_42 : decode cX4_hushes 42 = .ok (.ireturn, 1) := by decide +kernel
set_option maxRecDepth 20000 in
theorem ggX4_undo_X2_takeBack : GoodIn wsX4_undo wsX2_takeBack := goodIn_r _ [8, 9, 10, 11, 12, 13, 28, 29, 30, 31, 32, 33, 34, 35, 36, 37] (by decide +kernel) (by decide +kernel)
set_option maxRecDepth 20000 in
theorem gX4_undo_X2_takeBack : GoodIn wsX4_undo (wsV RX4 157 RX2 yX2_takeBack wsX2_takeBack) := goodIn_app (goodIn_of _ (by decide +kernel)) ggX4_undo_X2_takeBack
theorem dX4_undo_0 : decode cX4_undo 0 = .ok (.aload_n 0, 1) := by decide +kernel
theorem dX4_undo_1 : decode cX4_undo 1 = .ok (.getfield 41, 3) := by decide +kernel
theorem dX4_undo_4 : decode cX4_undo 4 = .ok (.getfield 68, 3) := by decide +kernel
theorem dX4_undo_7 : decode cX4_undo 7 = .ok (.invokevirtual 157, 3) := by decide +kernel
theorem dX4_undo_10 : decode cX4_undo 10 = .ok (.ifCond .eq 16, 3) := by decide +kernel
theorem dX4_undo_13 : decode cX4_undo 13 = .ok (.aload_n 0, 1) := by decide +kernel
theorem dX4_undo_14 : decode cX4_undo 14 = .ok (.getfield 41, 3) := by decide +kernel
theorem dX4_undo_17 : decode cX4_undo 17 = .ok (.getfield 68, 3) := by decide +kernel
theorem dX4_undo_20 : decode cX4_undo 20 = .ok (.getfield 161, 3) := by decide +kernel
theorem dX4_undo_23 : decode cX4_undo 23 = .ok (.goto 5, 3) := by decide +kernel
theorem dX4_undo_26 : decode cX4_undo 26 = .ok (.bipush (-2), 2) := by decide +kernel
theorem dX4_undo_28 : decode cX4_undo 28 = .ok (.ireturn, 1) := by decide +kernel
set_option maxRecDepth 20000 in
theorem ggX4_now_X0_listen : GoodIn wsX4_now wsX0_listen := goodIn_r _ [8, 9, 10, 11, 12, 13, 14, 15, 7, 16, 17, 18, 19, 20, 21, 22, 23, 24, 25, 26, 27, 28, 29, 30, 31, 32, 33, 34, 35, 36, 37, 38, 39, 40, 41, 42, 43, 44, 45, 46, 47, 48, 49, 50, 51, 52, 53, 54, 55, 56, 57, 58, 99, 100, 101, 102, 103, 104, 105, 106, 107, 108, 109, 110, 111, 112, 113, 114] (by decide +kernel) (by decide +kernel)
set_option maxRecDepth 20000 in
theorem gX4_now_X0_listen : GoodIn wsX4_now (wsV RX4 104 RX0 yX0_listen wsX0_listen) := goodIn_app (goodIn_of _ (by decide +kernel)) ggX4_now_X0_listen
set_option maxRecDepth 20000 in
theorem ggX4_now_X0_lasting : GoodIn wsX4_now wsX0_lasting := goodIn_r _ [62, 9, 10, 12, 99, 100, 101, 102, 103, 104, 105, 106, 107, 108, 109, 110, 111, 112, 113, 114] (by decide +kernel) (by decide +kernel)
set_option maxRecDepth 20000 in
theorem gX4_now_X0_lasting : GoodIn wsX4_now (wsV RX4 132 RX0 yX0_lasting wsX0_lasting) := goodIn_app (goodIn_of _ (by decide +kernel)) ggX4_now_X0_lasting
set_option maxRecDepth 20000 in
theorem ggX4_now_X0_strengthOf : GoodIn wsX4_now wsX0_strengthOf := goodIn_r _ [66, 9, 10, 12, 99, 100, 101, 102, 103, 104, 105, 106, 107, 108, 109, 110, 111, 112, 113, 114] (by decide +kernel) (by decide +kernel)
set_option maxRecDepth 20000 in
theorem gX4_now_X0_strengthOf : GoodIn wsX4_now (wsV RX4 164 RX0 yX0_strengthOf wsX0_strengthOf) := goodIn_app (goodIn_of _ (by decide +kernel)) ggX4_now_X0_strengthOf
set_option maxRecDepth 20000 in
theorem ggX4_now_X0_placesThatSound : GoodIn wsX4_now wsX0_placesThatSound := goodIn_r _ [70, 30, 71, 72, 73, 7, 74, 9, 10, 11, 12, 99, 100, 101, 102, 103, 104, 105, 106, 107, 108, 109, 110, 111, 112, 113, 114] (by decide +kernel) (by decide +kernel)
set_option maxRecDepth 20000 in
theorem gX4_now_X0_placesThatSound : GoodIn wsX4_now (wsV RX4 167 RX0 yX0_placesThatSound wsX0_placesThatSound) := goodIn_app (goodIn_of _ (by decide +kernel)) ggX4_now_X0_placesThatSound
set_option maxRecDepth 20000 in
theorem ggX4_now_X0_seas : GoodIn wsX4_now wsX0_seas := goodIn_r _ [78, 30, 79, 80, 81, 7, 82, 71, 72, 73, 74, 9, 10, 11, 12, 83, 84, 85, 86, 87, 88, 89, 90, 99, 100, 101, 102, 103, 104, 105, 106, 107, 108, 109, 110, 111, 112, 113, 114] (by decide +kernel) (by decide +kernel)
set_option maxRecDepth 20000 in
theorem gX4_now_X0_seas : GoodIn wsX4_now (wsV RX4 170 RX0 yX0_seas wsX0_seas) := goodIn_app (goodIn_of _ (by decide +kernel)) ggX4_now_X0_seas
theorem dX4_now_0 : decode cX4_now 0 = .ok (.aload_n 0, 1) := by decide +kernel
theorem dX4_now_1 : decode cX4_now 1 = .ok (.getfield 41, 3) := by decide +kernel
theorem dX4_now_4 : decode cX4_now 4 = .ok (.iconst 0, 1) := by decide +kernel
theorem dX4_now_5 : decode cX4_now 5 = .ok (.invokevirtual 104, 3) := by decide +kernel
theorem dX4_now_8 : decode cX4_now 8 = .ok (.iload_n 1, 1) := by decide +kernel
theorem dX4_now_9 : decode cX4_now 9 = .ok (.tableswitch 85 0 4 #[35, 46, 54, 69, 77], 35) := by decide +kernel
theorem dX4_now_44 : decode cX4_now 44 = .ok (.aload_n 0, 1) := by decide +kernel
theorem dX4_now_45 : decode cX4_now 45 = .ok (.getfield 41, 3) := by decide +kernel
theorem dX4_now_48 : decode cX4_now 48 = .ok (.getfield 68, 3) := by decide +kernel
theorem dX4_now_51 : decode cX4_now 51 = .ok (.getfield 126, 3) := by decide +kernel
theorem dX4_now_54 : decode cX4_now 54 = .ok (.ireturn, 1) := by decide +kernel
theorem dX4_now_55 : decode cX4_now 55 = .ok (.aload_n 0, 1) := by decide +kernel
theorem dX4_now_56 : decode cX4_now 56 = .ok (.getfield 41, 3) := by decide +kernel
theorem dX4_now_59 : decode cX4_now 59 = .ok (.invokevirtual 132, 3) := by decide +kernel
theorem dX4_now_62 : decode cX4_now 62 = .ok (.ireturn, 1) := by decide +kernel
theorem dX4_now_63 : decode cX4_now 63 = .ok (.aload_n 0, 1) := by decide +kernel
theorem dX4_now_64 : decode cX4_now 64 = .ok (.getfield 41, 3) := by decide +kernel
theorem dX4_now_67 : decode cX4_now 67 = .ok (.aload_n 0, 1) := by decide +kernel
theorem dX4_now_68 : decode cX4_now 68 = .ok (.getfield 41, 3) := by decide +kernel
theorem dX4_now_71 : decode cX4_now 71 = .ok (.invokevirtual 132, 3) := by decide +kernel
theorem dX4_now_74 : decode cX4_now 74 = .ok (.invokevirtual 164, 3) := by decide +kernel
theorem dX4_now_77 : decode cX4_now 77 = .ok (.ireturn, 1) := by decide +kernel
theorem dX4_now_78 : decode cX4_now 78 = .ok (.aload_n 0, 1) := by decide +kernel
theorem dX4_now_79 : decode cX4_now 79 = .ok (.getfield 41, 3) := by decide +kernel
theorem dX4_now_82 : decode cX4_now 82 = .ok (.invokevirtual 167, 3) := by decide +kernel
theorem dX4_now_85 : decode cX4_now 85 = .ok (.ireturn, 1) := by decide +kernel
theorem dX4_now_86 : decode cX4_now 86 = .ok (.aload_n 0, 1) := by decide +kernel
theorem dX4_now_87 : decode cX4_now 87 = .ok (.getfield 41, 3) := by decide +kernel
theorem dX4_now_90 : decode cX4_now 90 = .ok (.invokevirtual 170, 3) := by decide +kernel
theorem dX4_now_93 : decode cX4_now 93 = .ok (.ireturn, 1) := by decide +kernel
theorem dX4_now_94 : decode cX4_now 94 = .ok (.iconst (-1), 1) := by decide +kernel
theorem dX4_now_95 : decode cX4_now 95 = .ok (.ireturn, 1) := by decide +kernel
set_option maxRecDepth 20000 in
theorem ggX4_when_X0_hasSaying : GoodIn wsX4_when wsX0_hasSaying := goodIn_r _ [6, 7, 8, 9, 10, 11, 82, 83, 84, 85, 86, 87, 88, 89, 90, 91, 92, 93, 94, 95, 96, 97] (by decide +kernel) (by decide +kernel)
set_option maxRecDepth 20000 in
theorem gX4_when_X0_hasSaying : GoodIn wsX4_when (wsV RX4 65 RX0 yX0_hasSaying wsX0_hasSaying) := goodIn_app (goodIn_of _ (by decide +kernel)) ggX4_when_X0_hasSaying
set_option maxRecDepth 20000 in
theorem ggX4_when_X0_hasPlace : GoodIn wsX4_when wsX0_hasPlace := goodIn_r _ [15, 16, 9, 10, 11, 82, 83, 84, 85, 86, 87] (by decide +kernel) (by decide +kernel)
set_option maxRecDepth 20000 in
theorem gX4_when_X0_hasPlace : GoodIn wsX4_when (wsV RX4 101 RX0 yX0_hasPlace wsX0_hasPlace) := goodIn_app (goodIn_of _ (by decide +kernel)) ggX4_when_X0_hasPlace
set_option maxRecDepth 20000 in
theorem ggX4_when_X0_whenAt : GoodIn wsX4_when wsX0_whenAt := goodIn_r _ [20, 21, 22, 23, 5, 24, 25, 26, 27, 28, 7, 29, 30, 31, 32, 33, 34, 35, 36, 37, 38, 39, 40, 41, 16, 42, 43, 44, 45, 46, 47, 48, 49, 50, 51, 52, 53, 54, 55, 56, 57, 58, 59, 60, 61, 62, 63, 64, 65, 66, 67, 68, 69, 82, 83, 84, 85, 86, 87, 88, 89, 90, 91, 92, 93, 94, 95, 96, 97] (by decide +kernel) (by decide +kernel)
set_option maxRecDepth 20000 in
theorem gX4_when_X0_whenAt : GoodIn wsX4_when (wsV RX4 173 RX0 yX0_whenAt wsX0_whenAt) := goodIn_app (goodIn_of _ (by decide +kernel)) ggX4_when_X0_whenAt
set_option maxRecDepth 20000 in
theorem ggX4_when_X0_oftenAt : GoodIn wsX4_when wsX0_oftenAt := goodIn_r _ [73, 21, 22, 23, 5, 24, 25, 26, 27, 28, 7, 29, 30, 31, 32, 33, 34, 35, 36, 37, 38, 39, 40, 41, 16, 42, 43, 44, 45, 46, 47, 48, 49, 50, 51, 52, 53, 54, 55, 56, 57, 58, 59, 60, 61, 62, 63, 64, 65, 66, 67, 68, 69, 82, 83, 84, 85, 86, 87, 88, 89, 90, 91, 92, 93, 94, 95, 96, 97] (by decide +kernel) (by decide +kernel)
set_option maxRecDepth 20000 in
theorem gX4_when_X0_oftenAt : GoodIn wsX4_when (wsV RX4 176 RX0 yX0_oftenAt wsX0_oftenAt) := goodIn_app (goodIn_of _ (by decide +kernel)) ggX4_when_X0_oftenAt
theorem dX4_when_0 : decode cX4_when 0 = .ok (.aload_n 0, 1) := by decide +kernel
theorem dX4_when_1 : decode cX4_when 1 = .ok (.getfield 41, 3) := by decide +kernel
theorem dX4_when_4 : decode cX4_when 4 = .ok (.iload_n 1, 1) := by decide +kernel
theorem dX4_when_5 : decode cX4_when 5 = .ok (.invokevirtual 65, 3) := by decide +kernel
theorem dX4_when_8 : decode cX4_when 8 = .ok (.ifCond .eq 14, 3) := by decide +kernel
theorem dX4_when_11 : decode cX4_when 11 = .ok (.aload_n 0, 1) := by decide +kernel
theorem dX4_when_12 : decode cX4_when 12 = .ok (.getfield 41, 3) := by decide +kernel
theorem dX4_when_15 : decode cX4_when 15 = .ok (.iload_n 2, 1) := by decide +kernel
theorem dX4_when_16 : decode cX4_when 16 = .ok (.invokevirtual 101, 3) := by decide +kernel
theorem dX4_when_19 : decode cX4_when 19 = .ok (.ifCond .ne 5, 3) := by decide +kernel
theorem dX4_when_22 : decode cX4_when 22 = .ok (.iconst (-1), 1) := by decide +kernel
theorem dX4_when_23 : decode cX4_when 23 = .ok (.ireturn, 1) := by decide +kernel
theorem dX4_when_24 : decode cX4_when 24 = .ok (.iload_n 3, 1) := by decide +kernel
theorem dX4_when_25 : decode cX4_when 25 = .ok (.lookupswitch 47 #[(0, 27), (1, 37)], 27) := by decide +kernel
theorem dX4_when_52 : decode cX4_when 52 = .ok (.aload_n 0, 1) := by decide +kernel
theorem dX4_when_53 : decode cX4_when 53 = .ok (.getfield 41, 3) := by decide +kernel
theorem dX4_when_56 : decode cX4_when 56 = .ok (.iload_n 1, 1) := by decide +kernel
theorem dX4_when_57 : decode cX4_when 57 = .ok (.iload_n 2, 1) := by decide +kernel
theorem dX4_when_58 : decode cX4_when 58 = .ok (.invokevirtual 173, 3) := by decide +kernel
theorem dX4_when_61 : decode cX4_when 61 = .ok (.ireturn, 1) := by decide +kernel
theorem dX4_when_62 : decode cX4_when 62 = .ok (.aload_n 0, 1) := by decide +kernel
theorem dX4_when_63 : decode cX4_when 63 = .ok (.getfield 41, 3) := by decide +kernel
theorem dX4_when_66 : decode cX4_when 66 = .ok (.iload_n 1, 1) := by decide +kernel
theorem dX4_when_67 : decode cX4_when 67 = .ok (.iload_n 2, 1) := by decide +kernel
theorem dX4_when_68 : decode cX4_when 68 = .ok (.invokevirtual 176, 3) := by decide +kernel
theorem dX4_when_71 : decode cX4_when 71 = .ok (.ireturn, 1) := by decide +kernel
theorem dX4_when_72 : decode cX4_when 72 = .ok (.iconst (-1), 1) := by decide +kernel
theorem dX4_when_73 : decode cX4_when 73 = .ok (.ireturn, 1) := by decide +kernel
set_option maxRecDepth 20000 in
theorem ggX4_meet_X0_hasSaying : GoodIn wsX4_meet wsX0_hasSaying := goodIn_r _ [6, 7, 8, 9, 10, 11, 74, 75, 76, 77, 78, 79, 80, 81, 82, 83, 84, 85, 86, 87, 88, 89] (by decide +kernel) (by decide +kernel)
set_option maxRecDepth 20000 in
theorem gX4_meet_X0_hasSaying : GoodIn wsX4_meet (wsV RX4 65 RX0 yX0_hasSaying wsX0_hasSaying) := goodIn_app (goodIn_of _ (by decide +kernel)) ggX4_meet_X0_hasSaying
set_option maxRecDepth 20000 in
theorem ggX4_meet_X0_meetingOf : GoodIn wsX4_meet wsX0_meetingOf := goodIn_r _ [15, 16, 17, 18, 5, 19, 7, 20, 21, 22, 23, 24, 25, 26, 27, 28, 29, 30, 31, 32, 33, 34, 35, 36, 37, 38, 39, 40, 41, 42, 43, 44, 45, 46, 47, 48, 49, 50, 51, 52, 53, 54, 55, 56, 57, 58, 59, 60, 61, 62, 63, 64, 65, 74, 75, 76, 77, 78, 79, 80, 81, 82, 83, 84, 85, 86, 87, 88, 89] (by decide +kernel) (by decide +kernel)
set_option maxRecDepth 20000 in
theorem gX4_meet_X0_meetingOf : GoodIn wsX4_meet (wsV RX4 179 RX0 yX0_meetingOf wsX0_meetingOf) := goodIn_app (goodIn_of _ (by decide +kernel)) ggX4_meet_X0_meetingOf
theorem dX4_meet_0 : decode cX4_meet 0 = .ok (.aload_n 0, 1) := by decide +kernel
theorem dX4_meet_1 : decode cX4_meet 1 = .ok (.getfield 41, 3) := by decide +kernel
theorem dX4_meet_4 : decode cX4_meet 4 = .ok (.iload_n 1, 1) := by decide +kernel
theorem dX4_meet_5 : decode cX4_meet 5 = .ok (.invokevirtual 65, 3) := by decide +kernel
theorem dX4_meet_8 : decode cX4_meet 8 = .ok (.ifCond .eq 19, 3) := by decide +kernel
theorem dX4_meet_11 : decode cX4_meet 11 = .ok (.aload_n 0, 1) := by decide +kernel
theorem dX4_meet_12 : decode cX4_meet 12 = .ok (.getfield 41, 3) := by decide +kernel
theorem dX4_meet_15 : decode cX4_meet 15 = .ok (.iload_n 2, 1) := by decide +kernel
theorem dX4_meet_16 : decode cX4_meet 16 = .ok (.invokevirtual 65, 3) := by decide +kernel
theorem dX4_meet_19 : decode cX4_meet 19 = .ok (.ifCond .eq 8, 3) := by decide +kernel
theorem dX4_meet_22 : decode cX4_meet 22 = .ok (.iload_n 1, 1) := by decide +kernel
theorem dX4_meet_23 : decode cX4_meet 23 = .ok (.iload_n 2, 1) := by decide +kernel
theorem dX4_meet_24 : decode cX4_meet 24 = .ok (.if_icmp .ne 5, 3) := by decide +kernel
theorem dX4_meet_27 : decode cX4_meet 27 = .ok (.iconst (-1), 1) := by decide +kernel
theorem dX4_meet_28 : decode cX4_meet 28 = .ok (.ireturn, 1) := by decide +kernel
theorem dX4_meet_29 : decode cX4_meet 29 = .ok (.aload_n 0, 1) := by decide +kernel
theorem dX4_meet_30 : decode cX4_meet 30 = .ok (.getfield 41, 3) := by decide +kernel
theorem dX4_meet_33 : decode cX4_meet 33 = .ok (.iload_n 1, 1) := by decide +kernel
theorem dX4_meet_34 : decode cX4_meet 34 = .ok (.iload_n 2, 1) := by decide +kernel
theorem dX4_meet_35 : decode cX4_meet 35 = .ok (.invokevirtual 179, 3) := by decide +kernel
theorem dX4_meet_38 : decode cX4_meet 38 = .ok (.ireturn, 1) := by decide +kernel
set_option maxRecDepth 20000 in
theorem ggX4_best_X4_maySay : GoodIn wsX4_best wsX4_maySay := goodIn_r _ [6, 1, 7, 8, 9, 10, 11, 12, 13, 5, 14, 15, 82, 83, 84, 85, 86, 87, 88, 89, 90, 91, 92, 93, 94, 95] (by decide +kernel) (by decide +kernel)
set_option maxRecDepth 20000 in
theorem gX4_best_X4_maySay : GoodIn wsX4_best (wsV RX4 141 RX4 yX4_maySay wsX4_maySay) := goodIn_app (goodIn_of _ (by decide +kernel)) ggX4_best_X4_maySay
set_option maxRecDepth 20000 in
theorem ggX4_best_X0_hasPlace : GoodIn wsX4_best wsX0_hasPlace := goodIn_r _ [11, 12, 13, 5, 14, 90, 91, 92, 93, 94, 95] (by decide +kernel) (by decide +kernel)
set_option maxRecDepth 20000 in
theorem gX4_best_X0_hasPlace : GoodIn wsX4_best (wsV RX4 101 RX0 yX0_hasPlace wsX0_hasPlace) := goodIn_app (goodIn_of _ (by decide +kernel)) ggX4_best_X0_hasPlace
set_option maxRecDepth 20000 in
theorem ggX4_best_X0_ticksTo : GoodIn wsX4_best wsX0_ticksTo := goodIn_r _ [19, 12, 20, 21, 22, 10, 23, 24, 25, 26, 27, 90, 91, 92, 93, 94, 95] (by decide +kernel) (by decide +kernel)
set_option maxRecDepth 20000 in
theorem gX4_best_X0_ticksTo : GoodIn wsX4_best (wsV RX4 182 RX0 yX0_ticksTo wsX0_ticksTo) := goodIn_app (goodIn_of _ (by decide +kernel)) ggX4_best_X0_ticksTo
set_option maxRecDepth 20000 in
theorem ggX4_best_X0_strengthLeft : GoodIn wsX4_best wsX0_strengthLeft := goodIn_r _ [31, 32, 33, 34, 35, 36, 37, 38, 39, 10, 40, 12, 90, 91, 92, 93, 94, 95] (by decide +kernel) (by decide +kernel)
set_option maxRecDepth 20000 in
theorem gX4_best_X0_strengthLeft : GoodIn wsX4_best (wsV RX4 186 RX0 yX0_strengthLeft wsX0_strengthLeft) := goodIn_app (goodIn_of _ (by decide +kernel)) ggX4_best_X0_strengthLeft
set_option maxRecDepth 20000 in
theorem ggX4_best_X0_firstWait : GoodIn wsX4_best wsX0_firstWait := goodIn_r _ [44, 45, 46, 47, 10, 48, 49, 50, 51, 52, 53, 54, 55, 56, 57, 58, 59, 60, 61, 62, 63, 64, 65, 20, 21, 22, 23, 12, 24, 25, 26, 27, 66, 67, 68, 69, 70, 71, 72, 73, 74, 75, 76, 77, 29, 30, 31, 32, 33, 34, 35, 36, 37, 38, 39, 40, 78, 79, 80, 81, 90, 91, 92, 93, 94, 95, 96, 97, 98, 99, 100, 101, 102, 103, 104, 105] (by decide +kernel) (by decide +kernel)
set_option maxRecDepth 20000 in
theorem gX4_best_X0_firstWait : GoodIn wsX4_best (wsV RX4 189 RX0 yX0_firstWait wsX0_firstWait) := goodIn_app (goodIn_of _ (by decide +kernel)) ggX4_best_X0_firstWait
theorem dX4_best_0 : decode cX4_best 0 = .ok (.aload_n 0, 1) := by decide +kernel
theorem dX4_best_1 : decode cX4_best 1 = .ok (.iload_n 1, 1) := by decide +kernel
theorem dX4_best_2 : decode cX4_best 2 = .ok (.iload_n 3, 1) := by decide +kernel
theorem dX4_best_3 : decode cX4_best 3 = .ok (.iload 4, 2) := by decide +kernel
theorem dX4_best_5 : decode cX4_best 5 = .ok (.iload 5, 2) := by decide +kernel
theorem dX4_best_7 : decode cX4_best 7 = .ok (.invokevirtual 141, 3) := by decide +kernel
theorem dX4_best_10 : decode cX4_best 10 = .ok (.ifCond .eq 14, 3) := by decide +kernel
theorem dX4_best_13 : decode cX4_best 13 = .ok (.aload_n 0, 1) := by decide +kernel
theorem dX4_best_14 : decode cX4_best 14 = .ok (.getfield 41, 3) := by decide +kernel
theorem dX4_best_17 : decode cX4_best 17 = .ok (.iload_n 2, 1) := by decide +kernel
theorem dX4_best_18 : decode cX4_best 18 = .ok (.invokevirtual 101, 3) := by decide +kernel
theorem dX4_best_21 : decode cX4_best 21 = .ok (.ifCond .ne 5, 3) := by decide +kernel
theorem dX4_best_24 : decode cX4_best 24 = .ok (.iconst (-1), 1) := by decide +kernel
theorem dX4_best_25 : decode cX4_best 25 = .ok (.ireturn, 1) := by decide +kernel
theorem dX4_best_26 : decode cX4_best 26 = .ok (.aload_n 0, 1) := by decide +kernel
theorem dX4_best_27 : decode cX4_best 27 = .ok (.getfield 41, 3) := by decide +kernel
theorem dX4_best_30 : decode cX4_best 30 = .ok (.iload_n 1, 1) := by decide +kernel
theorem dX4_best_31 : decode cX4_best 31 = .ok (.iload_n 2, 1) := by decide +kernel
theorem dX4_best_32 : decode cX4_best 32 = .ok (.iload_n 3, 1) := by decide +kernel
theorem dX4_best_33 : decode cX4_best 33 = .ok (.iload 4, 2) := by decide +kernel
theorem dX4_best_35 : decode cX4_best 35 = .ok (.invokevirtual 182, 3) := by decide +kernel
theorem dX4_best_38 : decode cX4_best 38 = .ok (.istore 6, 2) := by decide +kernel
theorem dX4_best_40 : decode cX4_best 40 = .ok (.iload 6, 2) := by decide +kernel
theorem dX4_best_42 : decode cX4_best 42 = .ok (.bipush (-9), 2) := by decide +kernel
theorem dX4_best_44 : decode cX4_best 44 = .ok (.if_icmp .ne 6, 3) := by decide +kernel
theorem dX4_best_47 : decode cX4_best 47 = .ok (.bipush (-9), 2) := by decide +kernel
theorem dX4_best_49 : decode cX4_best 49 = .ok (.ireturn, 1) := by decide +kernel
theorem dX4_best_50 : decode cX4_best 50 = .ok (.aload_n 0, 1) := by decide +kernel
theorem dX4_best_51 : decode cX4_best 51 = .ok (.getfield 41, 3) := by decide +kernel
theorem dX4_best_54 : decode cX4_best 54 = .ok (.iload 5, 2) := by decide +kernel
theorem dX4_best_56 : decode cX4_best 56 = .ok (.iload_n 3, 1) := by decide +kernel
theorem dX4_best_57 : decode cX4_best 57 = .ok (.iload 6, 2) := by decide +kernel
theorem dX4_best_59 : decode cX4_best 59 = .ok (.imul, 1) := by decide +kernel
theorem dX4_best_60 : decode cX4_best 60 = .ok (.invokevirtual 186, 3) := by decide +kernel
theorem dX4_best_63 : decode cX4_best 63 = .ok (.istore 7, 2) := by decide +kernel
theorem dX4_best_65 : decode cX4_best 65 = .ok (.iload 7, 2) := by decide +kernel
theorem dX4_best_67 : decode cX4_best 67 = .ok (.ifCond .ne 6, 3) := by decide +kernel
theorem dX4_best_70 : decode cX4_best 70 = .ok (.bipush (-9), 2) := by decide +kernel
theorem dX4_best_72 : decode cX4_best 72 = .ok (.ireturn, 1) := by decide +kernel
theorem dX4_best_73 : decode cX4_best 73 = .ok (.aload_n 0, 1) := by decide +kernel
theorem dX4_best_74 : decode cX4_best 74 = .ok (.getfield 41, 3) := by decide +kernel
theorem dX4_best_77 : decode cX4_best 77 = .ok (.iload_n 2, 1) := by decide +kernel
theorem dX4_best_78 : decode cX4_best 78 = .ok (.iload 6, 2) := by decide +kernel
theorem dX4_best_80 : decode cX4_best 80 = .ok (.iload 7, 2) := by decide +kernel
theorem dX4_best_82 : decode cX4_best 82 = .ok (.invokevirtual 189, 3) := by decide +kernel
theorem dX4_best_85 : decode cX4_best 85 = .ok (.ireturn, 1) := by decide +kernel
set_option maxRecDepth 20000 in
theorem ggX4_stills_X0_hasSaying : GoodIn wsX4_stills wsX0_hasSaying := goodIn_r _ [6, 7, 8, 9, 10, 11, 92, 93, 94, 95, 96, 97, 98, 99, 100, 101, 102, 103, 104, 105, 106, 107] (by decide +kernel) (by decide +kernel)
set_option maxRecDepth 20000 in
theorem gX4_stills_X0_hasSaying : GoodIn wsX4_stills (wsV RX4 65 RX0 yX0_hasSaying wsX0_hasSaying) := goodIn_app (goodIn_of _ (by decide +kernel)) ggX4_stills_X0_hasSaying
set_option maxRecDepth 20000 in
theorem ggX4_stills_X0_strengthAfter : GoodIn wsX4_stills wsX0_strengthAfter := goodIn_r _ [15, 7, 16, 17, 18, 19, 20, 21, 22, 23, 24, 25, 5, 26, 27, 28, 29, 30, 31, 32, 33, 34, 35, 36, 37, 38, 39, 40, 41, 42, 43, 92, 93, 94, 95, 96, 97, 98, 99, 100, 101, 102, 103, 104, 105, 106, 107] (by decide +kernel) (by decide +kernel)
set_option maxRecDepth 20000 in
theorem gX4_stills_X0_strengthAfter : GoodIn wsX4_stills (wsV RX4 91 RX0 yX0_strengthAfter wsX0_strengthAfter) := goodIn_app (goodIn_of _ (by decide +kernel)) ggX4_stills_X0_strengthAfter
set_option maxRecDepth 20000 in
theorem ggX4_stills_X0_listen : GoodIn wsX4_stills wsX0_listen := goodIn_r _ [47, 7, 8, 48, 49, 50, 51, 52, 5, 53, 54, 55, 23, 24, 25, 26, 27, 28, 29, 56, 57, 58, 59, 43, 60, 61, 62, 63, 64, 13, 14, 15, 16, 17, 18, 19, 20, 21, 22, 30, 31, 32, 33, 34, 35, 36, 37, 38, 39, 40, 41, 42, 92, 93, 94, 95, 96, 97, 98, 99, 100, 101, 102, 103, 104, 105, 106, 107] (by decide +kernel) (by decide +kernel)
set_option maxRecDepth 20000 in
theorem gX4_stills_X0_listen : GoodIn wsX4_stills (wsV RX4 104 RX0 yX0_listen wsX0_listen) := goodIn_app (goodIn_of _ (by decide +kernel)) ggX4_stills_X0_listen
set_option maxRecDepth 20000 in
theorem ggX4_stills_X0_fewestToHush : GoodIn wsX4_stills wsX0_fewestToHush := goodIn_r _ [68, 48, 49, 69, 70, 71, 5, 72, 7, 8, 73, 74, 75, 76, 77, 78, 79, 80, 81, 82, 83, 92, 93, 94, 95, 96, 97, 98, 99, 100, 101, 102, 103, 104, 105, 106, 107] (by decide +kernel) (by decide +kernel)
set_option maxRecDepth 20000 in
theorem gX4_stills_X0_fewestToHush : GoodIn wsX4_stills (wsV RX4 193 RX0 yX0_fewestToHush wsX0_fewestToHush) := goodIn_app (goodIn_of _ (by decide +kernel)) ggX4_stills_X0_fewestToHush
theorem dX4_stills_0 : decode cX4_stills 0 = .ok (.aload_n 0, 1) := by decide +kernel
theorem dX4_stills_1 : decode cX4_stills 1 = .ok (.getfield 41, 3) := by decide +kernel
theorem dX4_stills_4 : decode cX4_stills 4 = .ok (.iload_n 1, 1) := by decide +kernel
theorem dX4_stills_5 : decode cX4_stills 5 = .ok (.invokevirtual 65, 3) := by decide +kernel
theorem dX4_stills_8 : decode cX4_stills 8 = .ok (.ifCond .ne 5, 3) := by decide +kernel
theorem dX4_stills_11 : decode cX4_stills 11 = .ok (.iconst (-1), 1) := by decide +kernel
theorem dX4_stills_12 : decode cX4_stills 12 = .ok (.ireturn, 1) := by decide +kernel
theorem dX4_stills_13 : decode cX4_stills 13 = .ok (.aload_n 0, 1) := by decide +kernel
theorem dX4_stills_14 : decode cX4_stills 14 = .ok (.getfield 41, 3) := by decide +kernel
theorem dX4_stills_17 : decode cX4_stills 17 = .ok (.iload_n 1, 1) := by decide +kernel
theorem dX4_stills_18 : decode cX4_stills 18 = .ok (.iconst 0, 1) := by decide +kernel
theorem dX4_stills_19 : decode cX4_stills 19 = .ok (.invokevirtual 91, 3) := by decide +kernel
theorem dX4_stills_22 : decode cX4_stills 22 = .ok (.ifCond .ne 6, 3) := by decide +kernel
theorem dX4_stills_25 : decode cX4_stills 25 = .ok (.bipush (-9), 2) := by decide +kernel
theorem dX4_stills_27 : decode cX4_stills 27 = .ok (.ireturn, 1) := by decide +kernel
theorem dX4_stills_28 : decode cX4_stills 28 = .ok (.aload_n 0, 1) := by decide +kernel
theorem dX4_stills_29 : decode cX4_stills 29 = .ok (.getfield 41, 3) := by decide +kernel
theorem dX4_stills_32 : decode cX4_stills 32 = .ok (.iconst 0, 1) := by decide +kernel
theorem dX4_stills_33 : decode cX4_stills 33 = .ok (.invokevirtual 104, 3) := by decide +kernel
theorem dX4_stills_36 : decode cX4_stills 36 = .ok (.aload_n 0, 1) := by decide +kernel
theorem dX4_stills_37 : decode cX4_stills 37 = .ok (.getfield 41, 3) := by decide +kernel
theorem dX4_stills_40 : decode cX4_stills 40 = .ok (.iload_n 1, 1) := by decide +kernel
theorem dX4_stills_41 : decode cX4_stills 41 = .ok (.invokevirtual 193, 3) := by decide +kernel
theorem dX4_stills_44 : decode cX4_stills 44 = .ok (.ireturn, 1) := by decide +kernel
set_option maxRecDepth 20000 in
theorem ggX4_odds_X0_hasSaying : GoodIn wsX4_odds wsX0_hasSaying := goodIn_r _ [7, 8, 9, 10, 11, 12, 60, 61, 62, 63, 64, 65, 66, 67, 68, 69, 70, 71, 72, 73, 74, 75] (by decide +kernel) (by decide +kernel)
set_option maxRecDepth 20000 in
theorem gX4_odds_X0_hasSaying : GoodIn wsX4_odds (wsV RX4 65 RX0 yX0_hasSaying wsX0_hasSaying) := goodIn_app (goodIn_of _ (by decide +kernel)) ggX4_odds_X0_hasSaying
set_option maxRecDepth 20000 in
theorem ggX4_odds_X4_within : GoodIn wsX4_odds wsX4_within := goodIn_r _ [12] (by decide +kernel) (by decide +kernel)
set_option maxRecDepth 20000 in
theorem gX4_odds_X4_within : GoodIn wsX4_odds (va_wsS RX4 48 yX4_within wsX4_within) := goodIn_app (goodIn_of _ (by decide +kernel)) ggX4_odds_X4_within
set_option maxRecDepth 20000 in
theorem ggX4_odds_X0_strengthAfter : GoodIn wsX4_odds wsX0_strengthAfter := goodIn_r _ [17, 8, 18, 19, 20, 21, 22, 23, 24, 25, 26, 27, 6, 28, 29, 30, 31, 32, 33, 34, 35, 36, 37, 38, 39, 40, 41, 42, 43, 44, 45, 60, 61, 62, 63, 64, 65, 66, 67, 68, 69, 70, 71, 72, 73, 74, 75] (by decide +kernel) (by decide +kernel)
set_option maxRecDepth 20000 in
theorem gX4_odds_X0_strengthAfter : GoodIn wsX4_odds (wsV RX4 91 RX0 yX0_strengthAfter wsX0_strengthAfter) := goodIn_app (goodIn_of _ (by decide +kernel)) ggX4_odds_X0_strengthAfter
set_option maxRecDepth 20000 in
theorem ggX4_odds_X4_lastingParts : GoodIn wsX4_odds wsX4_lastingParts := goodIn_r _ [48, 46, 47, 11] (by decide +kernel) (by decide +kernel)
set_option maxRecDepth 20000 in
theorem gX4_odds_X4_lastingParts : GoodIn wsX4_odds (va_wsS RX4 199 yX4_lastingParts wsX4_lastingParts) := goodIn_app (goodIn_of _ (by decide +kernel)) ggX4_odds_X4_lastingParts
set_option maxRecDepth 20000 in
theorem ggX4_odds_X4_commonDivisor : GoodIn wsX4_odds wsX4_commonDivisor := goodIn_r _ [51] (by decide +kernel) (by decide +kernel)
set_option maxRecDepth 20000 in
theorem gX4_odds_X4_commonDivisor : GoodIn wsX4_odds (va_wsS RX4 202 yX4_commonDivisor wsX4_commonDivisor) := goodIn_app (goodIn_of _ (by decide +kernel)) ggX4_odds_X4_commonDivisor
theorem dX4_odds_0 : decode cX4_odds 0 = .ok (.aload_n 0, 1) := by decide +kernel
theorem dX4_odds_1 : decode cX4_odds 1 = .ok (.getfield 41, 3) := by decide +kernel
theorem dX4_odds_4 : decode cX4_odds 4 = .ok (.iload_n 1, 1) := by decide +kernel
theorem dX4_odds_5 : decode cX4_odds 5 = .ok (.invokevirtual 65, 3) := by decide +kernel
theorem dX4_odds_8 : decode cX4_odds 8 = .ok (.ifCond .eq 33, 3) := by decide +kernel
theorem dX4_odds_11 : decode cX4_odds 11 = .ok (.iload_n 2, 1) := by decide +kernel
theorem dX4_odds_12 : decode cX4_odds 12 = .ok (.iconst 0, 1) := by decide +kernel
theorem dX4_odds_13 : decode cX4_odds 13 = .ok (.bipush 6, 2) := by decide +kernel
theorem dX4_odds_15 : decode cX4_odds 15 = .ok (.invokestatic 48, 3) := by decide +kernel
theorem dX4_odds_18 : decode cX4_odds 18 = .ok (.ifCond .eq 23, 3) := by decide +kernel
theorem dX4_odds_21 : decode cX4_odds 21 = .ok (.iload_n 3, 1) := by decide +kernel
theorem dX4_odds_22 : decode cX4_odds 22 = .ok (.iconst 0, 1) := by decide +kernel
theorem dX4_odds_23 : decode cX4_odds 23 = .ok (.bipush 10, 2) := by decide +kernel
theorem dX4_odds_25 : decode cX4_odds 25 = .ok (.invokestatic 48, 3) := by decide +kernel
theorem dX4_odds_28 : decode cX4_odds 28 = .ok (.ifCond .eq 13, 3) := by decide +kernel
theorem dX4_odds_31 : decode cX4_odds 31 = .ok (.iload 4, 2) := by decide +kernel
theorem dX4_odds_33 : decode cX4_odds 33 = .ok (.iconst 0, 1) := by decide +kernel
theorem dX4_odds_34 : decode cX4_odds 34 = .ok (.iconst 1, 1) := by decide +kernel
theorem dX4_odds_35 : decode cX4_odds 35 = .ok (.invokestatic 48, 3) := by decide +kernel
theorem dX4_odds_38 : decode cX4_odds 38 = .ok (.ifCond .ne 5, 3) := by decide +kernel
theorem dX4_odds_41 : decode cX4_odds 41 = .ok (.iconst (-1), 1) := by decide +kernel
theorem dX4_odds_42 : decode cX4_odds 42 = .ok (.ireturn, 1) := by decide +kernel
theorem dX4_odds_43 : decode cX4_odds 43 = .ok (.iconst 1, 1) := by decide +kernel
theorem dX4_odds_44 : decode cX4_odds 44 = .ok (.istore 5, 2) := by decide +kernel
theorem dX4_odds_46 : decode cX4_odds 46 = .ok (.iconst 0, 1) := by decide +kernel
theorem dX4_odds_47 : decode cX4_odds 47 = .ok (.istore 6, 2) := by decide +kernel
theorem dX4_odds_49 : decode cX4_odds 49 = .ok (.iload 6, 2) := by decide +kernel
theorem dX4_odds_51 : decode cX4_odds 51 = .ok (.iload_n 2, 1) := by decide +kernel
theorem dX4_odds_52 : decode cX4_odds 52 = .ok (.if_icmp .ge 16, 3) := by decide +kernel
theorem dX4_odds_55 : decode cX4_odds 55 = .ok (.iload 5, 2) := by decide +kernel
theorem dX4_odds_57 : decode cX4_odds 57 = .ok (.bipush 10, 2) := by decide +kernel
theorem dX4_odds_59 : decode cX4_odds 59 = .ok (.imul, 1) := by decide +kernel
theorem dX4_odds_60 : decode cX4_odds 60 = .ok (.istore 5, 2) := by decide +kernel
theorem dX4_odds_62 : decode cX4_odds 62 = .ok (.iinc 6 1, 3) := by decide +kernel
theorem dX4_odds_65 : decode cX4_odds 65 = .ok (.goto (-16), 3) := by decide +kernel
theorem dX4_odds_68 : decode cX4_odds 68 = .ok (.aload_n 0, 1) := by decide +kernel
theorem dX4_odds_69 : decode cX4_odds 69 = .ok (.getfield 41, 3) := by decide +kernel
theorem dX4_odds_72 : decode cX4_odds 72 = .ok (.iload_n 1, 1) := by decide +kernel
theorem dX4_odds_73 : decode cX4_odds 73 = .ok (.iconst 0, 1) := by decide +kernel
theorem dX4_odds_74 : decode cX4_odds 74 = .ok (.invokevirtual 91, 3) := by decide +kernel
theorem dX4_odds_77 : decode cX4_odds 77 = .ok (.aload_n 0, 1) := by decide +kernel
theorem dX4_odds_78 : decode cX4_odds 78 = .ok (.getfield 41, 3) := by decide +kernel
theorem dX4_odds_81 : decode cX4_odds 81 = .ok (.getfield 196, 3) := by decide +kernel
theorem dX4_odds_84 : decode cX4_odds 84 = .ok (.iload_n 2, 1) := by decide +kernel
theorem dX4_odds_85 : decode cX4_odds 85 = .ok (.iload_n 3, 1) := by decide +kernel
theorem dX4_odds_86 : decode cX4_odds 86 = .ok (.invokestatic 199, 3) := by decide +kernel
theorem dX4_odds_89 : decode cX4_odds 89 = .ok (.istore 6, 2) := by decide +kernel
theorem dX4_odds_91 : decode cX4_odds 91 = .ok (.iload 5, 2) := by decide +kernel
theorem dX4_odds_93 : decode cX4_odds 93 = .ok (.iload 6, 2) := by decide +kernel
theorem dX4_odds_95 : decode cX4_odds 95 = .ok (.invokestatic 202, 3) := by decide +kernel
theorem dX4_odds_98 : decode cX4_odds 98 = .ok (.istore 7, 2) := by decide +kernel
theorem dX4_odds_100 : decode cX4_odds 100 = .ok (.iload 7, 2) := by decide +kernel
theorem dX4_odds_102 : decode cX4_odds 102 = .ok (.iconst 1, 1) := by decide +kernel
theorem dX4_odds_103 : decode cX4_odds 103 = .ok (.if_icmp .ge 5, 3) := by decide +kernel
theorem dX4_odds_106 : decode cX4_odds 106 = .ok (.iconst (-1), 1) := by decide +kernel
theorem dX4_odds_107 : decode cX4_odds 107 = .ok (.ireturn, 1) := by decide +kernel
theorem dX4_odds_108 : decode cX4_odds 108 = .ok (.iload 4, 2) := by decide +kernel
theorem dX4_odds_110 : decode cX4_odds 110 = .ok (.ifCond .ne 11, 3) := by decide +kernel
theorem dX4_odds_113 : decode cX4_odds 113 = .ok (.iload 6, 2) := by decide +kernel
theorem dX4_odds_115 : decode cX4_odds 115 = .ok (.iload 7, 2) := by decide +kernel
theorem dX4_odds_117 : decode cX4_odds 117 = .ok (.idiv, 1) := by decide +kernel
theorem dX4_odds_118 : decode cX4_odds 118 = .ok (.goto 8, 3) := by decide +kernel
theorem dX4_odds_121 : decode cX4_odds 121 = .ok (.iload 5, 2) := by decide +kernel
theorem dX4_odds_123 : decode cX4_odds 123 = .ok (.iload 7, 2) := by decide +kernel
theorem dX4_odds_125 : decode cX4_odds 125 = .ok (.idiv, 1) := by decide +kernel
theorem dX4_odds_126 : decode cX4_odds 126 = .ok (.ireturn, 1) := by decide +kernel
set_option maxRecDepth 20000 in
theorem ggX4_hears_X0_hasPlace : GoodIn wsX4_hears wsX0_hasPlace := goodIn_r _ [8, 9, 10, 11, 12, 35, 36, 37, 38, 39, 40] (by decide +kernel) (by decide +kernel)
set_option maxRecDepth 20000 in
theorem gX4_hears_X0_hasPlace : GoodIn wsX4_hears (wsV RX4 101 RX0 yX0_hasPlace wsX0_hasPlace) := goodIn_app (goodIn_of _ (by decide +kernel)) ggX4_hears_X0_hasPlace
set_option maxRecDepth 20000 in
theorem ggX4_hears_X4_within : GoodIn wsX4_hears wsX4_within := goodIn_r _ [12] (by decide +kernel) (by decide +kernel)
set_option maxRecDepth 20000 in
theorem gX4_hears_X4_within : GoodIn wsX4_hears (va_wsS RX4 48 yX4_within wsX4_within) := goodIn_app (goodIn_of _ (by decide +kernel)) ggX4_hears_X4_within
set_option maxRecDepth 20000 in
theorem ggX4_hears_X1_add : GoodIn wsX4_hears wsX1_add := goodIn_r _ [18, 19, 20, 21, 22, 31, 32, 33, 34] (by decide +kernel) (by decide +kernel)
set_option maxRecDepth 20000 in
theorem gX4_hears_X1_add : GoodIn wsX4_hears (wsV RX4 205 RX1 yX1_add wsX1_add) := goodIn_app (goodIn_of _ (by decide +kernel)) ggX4_hears_X1_add
theorem dX4_hears_0 : decode cX4_hears 0 = .ok (.aload_n 0, 1) := by decide +kernel
theorem dX4_hears_1 : decode cX4_hears 1 = .ok (.getfield 41, 3) := by decide +kernel
theorem dX4_hears_4 : decode cX4_hears 4 = .ok (.iload_n 1, 1) := by decide +kernel
theorem dX4_hears_5 : decode cX4_hears 5 = .ok (.invokevirtual 101, 3) := by decide +kernel
theorem dX4_hears_8 : decode cX4_hears 8 = .ok (.ifCond .eq 22, 3) := by decide +kernel
theorem dX4_hears_11 : decode cX4_hears 11 = .ok (.iload_n 2, 1) := by decide +kernel
theorem dX4_hears_12 : decode cX4_hears 12 = .ok (.iconst 0, 1) := by decide +kernel
theorem dX4_hears_13 : decode cX4_hears 13 = .ok (.bipush 99, 2) := by decide +kernel
theorem dX4_hears_15 : decode cX4_hears 15 = .ok (.invokestatic 48, 3) := by decide +kernel
theorem dX4_hears_18 : decode cX4_hears 18 = .ok (.ifCond .eq 12, 3) := by decide +kernel
theorem dX4_hears_21 : decode cX4_hears 21 = .ok (.iload_n 3, 1) := by decide +kernel
theorem dX4_hears_22 : decode cX4_hears 22 = .ok (.iconst 0, 1) := by decide +kernel
theorem dX4_hears_23 : decode cX4_hears 23 = .ok (.iconst 1, 1) := by decide +kernel
theorem dX4_hears_24 : decode cX4_hears 24 = .ok (.invokestatic 48, 3) := by decide +kernel
theorem dX4_hears_27 : decode cX4_hears 27 = .ok (.ifCond .ne 5, 3) := by decide +kernel
theorem dX4_hears_30 : decode cX4_hears 30 = .ok (.iconst (-1), 1) := by decide +kernel
theorem dX4_hears_31 : decode cX4_hears 31 = .ok (.ireturn, 1) := by decide +kernel
theorem dX4_hears_32 : decode cX4_hears 32 = .ok (.aload_n 0, 1) := by decide +kernel
theorem dX4_hears_33 : decode cX4_hears 33 = .ok (.getfield 19, 3) := by decide +kernel
theorem dX4_hears_36 : decode cX4_hears 36 = .ok (.iload_n 1, 1) := by decide +kernel
theorem dX4_hears_37 : decode cX4_hears 37 = .ok (.iload_n 2, 1) := by decide +kernel
theorem dX4_hears_38 : decode cX4_hears 38 = .ok (.iload_n 3, 1) := by decide +kernel
theorem dX4_hears_39 : decode cX4_hears 39 = .ok (.invokevirtual 205, 3) := by decide +kernel
theorem dX4_hears_42 : decode cX4_hears 42 = .ok (.ifCond .eq 13, 3) := by decide +kernel
theorem dX4_hears_45 : decode cX4_hears 45 = .ok (.aload_n 0, 1) := by decide +kernel
theorem dX4_hears_46 : decode cX4_hears 46 = .ok (.getfield 19, 3) := by decide +kernel
theorem dX4_hears_49 : decode cX4_hears 49 = .ok (.getfield 64, 3) := by decide +kernel
theorem dX4_hears_52 : decode cX4_hears 52 = .ok (.goto 5, 3) := by decide +kernel
theorem dX4_hears_55 : decode cX4_hears 55 = .ok (.bipush (-3), 2) := by decide +kernel
theorem dX4_hears_57 : decode cX4_hears 57 = .ok (.ireturn, 1) := by decide +kernel
theorem dX4_forget_0 : decode cX4_forget 0 = .ok (.aload_n 0, 1) := by decide +kernel
theorem dX4_forget_1 : decode cX4_forget 1 = .ok (.getfield 19, 3) := by decide +kernel
theorem dX4_forget_4 : decode cX4_forget 4 = .ok (.getfield 64, 3) := by decide +kernel
theorem dX4_forget_7 : decode cX4_forget 7 = .ok (.istore_n 1, 1) := by decide +kernel
theorem dX4_forget_8 : decode cX4_forget 8 = .ok (.aload_n 0, 1) := by decide +kernel
theorem dX4_forget_9 : decode cX4_forget 9 = .ok (.getfield 19, 3) := by decide +kernel
theorem dX4_forget_12 : decode cX4_forget 12 = .ok (.iconst 0, 1) := by decide +kernel
theorem dX4_forget_13 : decode cX4_forget 13 = .ok (.putfield 64, 3) := by decide +kernel
theorem dX4_forget_16 : decode cX4_forget 16 = .ok (.iload_n 1, 1) := by decide +kernel
theorem dX4_forget_17 : decode cX4_forget 17 = .ok (.ireturn, 1) := by decide +kernel
set_option maxRecDepth 20000 in
theorem ggX4_guesses_X4_guessCount : GoodIn wsX4_guesses wsX4_guessCount := goodIn_r _ [5, 6, 7, 8, 9, 10, 11, 12, 13, 14, 15, 16, 17, 18, 19, 20, 21, 22, 23, 24, 25, 26, 27, 28, 29, 30, 31, 32, 33, 34, 35, 36, 37, 38, 39, 47, 48, 49, 50, 51, 52, 53, 54, 55, 56, 57, 58, 59, 60, 61, 62, 63, 64] (by decide +kernel) (by decide +kernel)
set_option maxRecDepth 20000 in
theorem gX4_guesses_X4_guessCount : GoodIn wsX4_guesses (wsV RX4 207 RX4 yX4_guessCount wsX4_guessCount) := goodIn_app (goodIn_of _ (by decide +kernel)) ggX4_guesses_X4_guessCount
set_option maxRecDepth 20000 in
theorem ggX4_guesses_X4_firstGuess : GoodIn wsX4_guesses wsX4_firstGuess := goodIn_r _ [43, 6, 7, 8, 9, 10, 11, 12, 13, 14, 15, 16, 17, 18, 19, 20, 21, 22, 23, 24, 25, 26, 27, 28, 29, 30, 31, 32, 33, 34, 35, 36, 37, 38, 39, 44, 45, 46, 47, 48, 49, 50, 51, 52, 53, 54, 55, 56, 57, 58, 59, 60, 61, 62, 63, 64] (by decide +kernel) (by decide +kernel)
set_option maxRecDepth 20000 in
theorem gX4_guesses_X4_firstGuess : GoodIn wsX4_guesses (wsV RX4 210 RX4 yX4_firstGuess wsX4_firstGuess) := goodIn_app (goodIn_of _ (by decide +kernel)) ggX4_guesses_X4_firstGuess
theorem dX4_guesses_0 : decode cX4_guesses 0 = .ok (.iload_n 1, 1) := by decide +kernel
theorem dX4_guesses_1 : decode cX4_guesses 1 = .ok (.lookupswitch 37 #[(0, 27), (1, 32)], 27) := by decide +kernel
theorem dX4_guesses_28 : decode cX4_guesses 28 = .ok (.aload_n 0, 1) := by decide +kernel
theorem dX4_guesses_29 : decode cX4_guesses 29 = .ok (.invokevirtual 207, 3) := by decide +kernel
theorem dX4_guesses_32 : decode cX4_guesses 32 = .ok (.ireturn, 1) := by decide +kernel
theorem dX4_guesses_33 : decode cX4_guesses 33 = .ok (.aload_n 0, 1) := by decide +kernel
theorem dX4_guesses_34 : decode cX4_guesses 34 = .ok (.invokevirtual 210, 3) := by decide +kernel
theorem dX4_guesses_37 : decode cX4_guesses 37 = .ok (.ireturn, 1) := by decide +kernel
theorem dX4_guesses_38 : decode cX4_guesses 38 = .ok (.iconst (-1), 1) := by decide +kernel
theorem dX4_guesses_39 : decode cX4_guesses 39 = .ok (.ireturn, 1) := by decide +kernel
set_option maxRecDepth 20000 in
theorem ggX4_ask_X4_within : GoodIn wsX4_ask wsX4_within := goodIn_r _ [11] (by decide +kernel) (by decide +kernel)
set_option maxRecDepth 20000 in
theorem gX4_ask_X4_within : GoodIn wsX4_ask (va_wsS RX4 48 yX4_within wsX4_within) := goodIn_app (goodIn_of _ (by decide +kernel)) ggX4_ask_X4_within
set_option maxRecDepth 20000 in
theorem ggX4_ask_X4_sortGuesses : GoodIn wsX4_ask wsX4_sortGuesses := goodIn_r _ [15, 3, 1, 2, 16, 17, 18, 19, 20, 21, 22, 23, 24, 25, 26, 27, 28, 29, 30, 31, 32, 33, 34, 35, 36, 37, 38, 39, 40, 41, 42, 43, 44, 45, 46, 47, 48, 8, 9, 10, 11, 49, 50, 51, 52, 53, 54, 55, 56, 57, 58, 59, 60, 61, 62, 63, 64, 65, 66] (by decide +kernel) (by decide +kernel)
set_option maxRecDepth 20000 in
theorem gX4_ask_X4_sortGuesses : GoodIn wsX4_ask (wsV RX4 213 RX4 yX4_sortGuesses wsX4_sortGuesses) := goodIn_app (goodIn_of _ (by decide +kernel)) ggX4_ask_X4_sortGuesses
theorem dX4_ask_0 : decode cX4_ask 0 = .ok (.iload_n 1, 1) := by decide +kernel
theorem dX4_ask_1 : decode cX4_ask 1 = .ok (.iconst 0, 1) := by decide +kernel
theorem dX4_ask_2 : decode cX4_ask 2 = .ok (.bipush 99, 2) := by decide +kernel
theorem dX4_ask_4 : decode cX4_ask 4 = .ok (.invokestatic 48, 3) := by decide +kernel
theorem dX4_ask_7 : decode cX4_ask 7 = .ok (.ifCond .ne 5, 3) := by decide +kernel
theorem dX4_ask_10 : decode cX4_ask 10 = .ok (.iconst (-1), 1) := by decide +kernel
theorem dX4_ask_11 : decode cX4_ask 11 = .ok (.ireturn, 1) := by decide +kernel
theorem dX4_ask_12 : decode cX4_ask 12 = .ok (.aload_n 0, 1) := by decide +kernel
theorem dX4_ask_13 : decode cX4_ask 13 = .ok (.iload_n 1, 1) := by decide +kernel
theorem dX4_ask_14 : decode cX4_ask 14 = .ok (.invokevirtual 213, 3) := by decide +kernel
theorem dX4_ask_17 : decode cX4_ask 17 = .ok (.istore_n 2, 1) := by decide +kernel
theorem dX4_ask_18 : decode cX4_ask 18 = .ok (.iload_n 2, 1) := by decide +kernel
theorem dX4_ask_19 : decode cX4_ask 19 = .ok (.istore_n 3, 1) := by decide +kernel
theorem dX4_ask_20 : decode cX4_ask 20 = .ok (.bipush (-9), 2) := by decide +kernel
theorem dX4_ask_22 : decode cX4_ask 22 = .ok (.istore 4, 2) := by decide +kernel
theorem dX4_ask_24 : decode cX4_ask 24 = .ok (.iconst 0, 1) := by decide +kernel
theorem dX4_ask_25 : decode cX4_ask 25 = .ok (.istore 5, 2) := by decide +kernel
theorem dX4_ask_27 : decode cX4_ask 27 = .ok (.iload 5, 2) := by decide +kernel
theorem dX4_ask_29 : decode cX4_ask 29 = .ok (.aload_n 0, 1) := by decide +kernel
theorem dX4_ask_30 : decode cX4_ask 30 = .ok (.getfield 41, 3) := by decide +kernel
theorem dX4_ask_33 : decode cX4_ask 33 = .ok (.getfield 216, 3) := by decide +kernel
theorem dX4_ask_36 : decode cX4_ask 36 = .ok (.if_icmp .ge 50, 3) := by decide +kernel
theorem dX4_ask_39 : decode cX4_ask 39 = .ok (.iload 5, 2) := by decide +kernel
theorem dX4_ask_41 : decode cX4_ask 41 = .ok (.bipush 24, 2) := by decide +kernel
theorem dX4_ask_43 : decode cX4_ask 43 = .ok (.if_icmp .ge 43, 3) := by decide +kernel
theorem dX4_ask_46 : decode cX4_ask 46 = .ok (.aload_n 0, 1) := by decide +kernel
theorem dX4_ask_47 : decode cX4_ask 47 = .ok (.getfield 34, 3) := by decide +kernel
theorem dX4_ask_50 : decode cX4_ask 50 = .ok (.iload 5, 2) := by decide +kernel
theorem dX4_ask_52 : decode cX4_ask 52 = .ok (.iaload, 1) := by decide +kernel
theorem dX4_ask_53 : decode cX4_ask 53 = .ok (.iload_n 2, 1) := by decide +kernel
theorem dX4_ask_54 : decode cX4_ask 54 = .ok (.aload_n 0, 1) := by decide +kernel
theorem dX4_ask_55 : decode cX4_ask 55 = .ok (.getfield 34, 3) := by decide +kernel
theorem dX4_ask_58 : decode cX4_ask 58 = .ok (.iload 5, 2) := by decide +kernel
theorem dX4_ask_60 : decode cX4_ask 60 = .ok (.iaload, 1) := by decide +kernel
theorem dX4_ask_61 : decode cX4_ask 61 = .ok (.isub, 1) := by decide +kernel
theorem dX4_ask_62 : decode cX4_ask 62 = .ok (.invokestatic 219, 3) := by decide +kernel
theorem dX4_ask_65 : decode cX4_ask 65 = .ok (.istore 6, 2) := by decide +kernel
theorem dX4_ask_67 : decode cX4_ask 67 = .ok (.iload 6, 2) := by decide +kernel
theorem dX4_ask_69 : decode cX4_ask 69 = .ok (.iload_n 3, 1) := by decide +kernel
theorem dX4_ask_70 : decode cX4_ask 70 = .ok (.if_icmp .ge 10, 3) := by decide +kernel
theorem dX4_ask_73 : decode cX4_ask 73 = .ok (.iload 6, 2) := by decide +kernel
theorem dX4_ask_75 : decode cX4_ask 75 = .ok (.istore_n 3, 1) := by decide +kernel
theorem dX4_ask_76 : decode cX4_ask 76 = .ok (.iload 5, 2) := by decide +kernel
theorem dX4_ask_78 : decode cX4_ask 78 = .ok (.istore 4, 2) := by decide +kernel
theorem dX4_ask_80 : decode cX4_ask 80 = .ok (.iinc 5 1, 3) := by decide +kernel
theorem dX4_ask_83 : decode cX4_ask 83 = .ok (.goto (-56), 3) := by decide +kernel
theorem dX4_ask_86 : decode cX4_ask 86 = .ok (.iload 4, 2) := by decide +kernel
theorem dX4_ask_88 : decode cX4_ask 88 = .ok (.ireturn, 1) := by decide +kernel
set_option maxRecDepth 20000 in
theorem ggX4_mark_X0_hasSaying : GoodIn wsX4_mark wsX0_hasSaying := goodIn_r _ [7, 8, 9, 10, 11, 12, 100, 101, 102, 103, 104, 105, 106, 107, 108, 109, 110, 111, 112, 113, 114, 115] (by decide +kernel) (by decide +kernel)
set_option maxRecDepth 20000 in
theorem gX4_mark_X0_hasSaying : GoodIn wsX4_mark (wsV RX4 65 RX0 yX0_hasSaying wsX0_hasSaying) := goodIn_app (goodIn_of _ (by decide +kernel)) ggX4_mark_X0_hasSaying
set_option maxRecDepth 20000 in
theorem ggX4_mark_X4_asSaying : GoodIn wsX4_mark wsX4_asSaying := goodIn_r _ [16, 17, 1, 18, 19, 92, 93, 94, 95, 96, 97, 98, 99, 100, 101, 102, 103, 104, 105, 106, 107, 108, 109, 110, 111, 112, 113, 114, 115] (by decide +kernel) (by decide +kernel)
set_option maxRecDepth 20000 in
theorem gX4_mark_X4_asSaying : GoodIn wsX4_mark (wsV RX4 225 RX4 yX4_asSaying wsX4_asSaying) := goodIn_app (goodIn_of _ (by decide +kernel)) ggX4_mark_X4_asSaying
set_option maxRecDepth 20000 in
theorem ggX4_mark_X4_asVow : GoodIn wsX4_mark wsX4_asVow := goodIn_r _ [23, 17, 24, 1, 13, 14, 15, 11, 16, 18, 19, 25, 26, 27, 6, 28, 8, 29, 30, 31, 32, 33, 34, 35, 36, 37, 38, 39, 40, 41, 42, 43, 44, 45, 46, 47, 48, 49, 50, 51, 52, 53, 54, 55, 56, 92, 93, 94, 95, 96, 97, 98, 99, 100, 101, 102, 103, 104, 105, 106, 107, 108, 109, 110, 111, 112, 113, 114, 115] (by decide +kernel) (by decide +kernel)
set_option maxRecDepth 20000 in
theorem gX4_mark_X4_asVow : GoodIn wsX4_mark (wsV RX4 228 RX4 yX4_asVow wsX4_asVow) := goodIn_app (goodIn_of _ (by decide +kernel)) ggX4_mark_X4_asVow
set_option maxRecDepth 20000 in
theorem ggX4_mark_X4_asRumour : GoodIn wsX4_mark wsX4_asRumour := goodIn_r _ [60, 17, 61, 1, 18, 62, 13, 14, 15, 11, 16, 19, 92, 93, 94, 95, 96, 97, 98, 99, 100, 101, 102, 103, 104, 105, 106, 107, 108, 109, 110, 111, 112, 113, 114, 115] (by decide +kernel) (by decide +kernel)
set_option maxRecDepth 20000 in
theorem gX4_mark_X4_asRumour : GoodIn wsX4_mark (wsV RX4 231 RX4 yX4_asRumour wsX4_asRumour) := goodIn_app (goodIn_of _ (by decide +kernel)) ggX4_mark_X4_asRumour
set_option maxRecDepth 20000 in
theorem ggX4_mark_X4_asCurse : GoodIn wsX4_mark wsX4_asCurse := goodIn_r _ [66, 17, 67, 20, 21, 22, 11, 23, 24, 1, 13, 14, 15, 16, 18, 19, 25, 26, 27, 6, 28, 8, 29, 30, 31, 32, 33, 34, 35, 36, 37, 38, 39, 40, 41, 42, 43, 44, 45, 46, 47, 48, 49, 50, 51, 52, 53, 54, 55, 56, 92, 93, 94, 95, 96, 97, 98, 99, 100, 101, 102, 103, 104, 105, 106, 107, 108, 109, 110, 111, 112, 113, 114, 115] (by decide +kernel) (by decide +kernel)
set_option maxRecDepth 20000 in
theorem gX4_mark_X4_asCurse : GoodIn wsX4_mark (wsV RX4 234 RX4 yX4_asCurse wsX4_asCurse) := goodIn_app (goodIn_of _ (by decide +kernel)) ggX4_mark_X4_asCurse
set_option maxRecDepth 20000 in
theorem ggX4_mark_X4_asLie : GoodIn wsX4_mark wsX4_asLie := goodIn_r _ [71, 17, 72, 57, 58, 59, 11, 60, 61, 1, 18, 62, 13, 14, 15, 16, 19, 92, 93, 94, 95, 96, 97, 98, 99, 100, 101, 102, 103, 104, 105, 106, 107, 108, 109, 110, 111, 112, 113, 114, 115] (by decide +kernel) (by decide +kernel)
set_option maxRecDepth 20000 in
theorem gX4_mark_X4_asLie : GoodIn wsX4_mark (wsV RX4 237 RX4 yX4_asLie wsX4_asLie) := goodIn_app (goodIn_of _ (by decide +kernel)) ggX4_mark_X4_asLie
set_option maxRecDepth 20000 in
theorem ggX4_mark_X4_asHymn : GoodIn wsX4_mark wsX4_asHymn := goodIn_r _ [76, 17, 77, 1, 13, 14, 15, 11, 16, 18, 19, 78, 79, 80, 6, 81, 8, 82, 83, 36, 37, 38, 39, 40, 41, 42, 84, 85, 86, 87, 56, 88, 89, 90, 91, 92, 93, 94, 95, 96, 97, 98, 99, 100, 101, 102, 103, 104, 105, 106, 107, 108, 109, 110, 111, 112, 113, 114, 115] (by decide +kernel) (by decide +kernel)
set_option maxRecDepth 20000 in
theorem gX4_mark_X4_asHymn : GoodIn wsX4_mark (wsV RX4 240 RX4 yX4_asHymn wsX4_asHymn) := goodIn_app (goodIn_of _ (by decide +kernel)) ggX4_mark_X4_asHymn
theorem dX4_mark_0 : decode cX4_mark 0 = .ok (.aload_n 0, 1) := by decide +kernel
theorem dX4_mark_1 : decode cX4_mark 1 = .ok (.getfield 41, 3) := by decide +kernel
theorem dX4_mark_4 : decode cX4_mark 4 = .ok (.iload_n 2, 1) := by decide +kernel
theorem dX4_mark_5 : decode cX4_mark 5 = .ok (.invokevirtual 65, 3) := by decide +kernel
theorem dX4_mark_8 : decode cX4_mark 8 = .ok (.ifCond .ne 6, 3) := by decide +kernel
theorem dX4_mark_11 : decode cX4_mark 11 = .ok (.ldc 224, 2) := by decide +kernel
theorem dX4_mark_13 : decode cX4_mark 13 = .ok (.ireturn, 1) := by decide +kernel
theorem dX4_mark_14 : decode cX4_mark 14 = .ok (.iload_n 1, 1) := by decide +kernel
theorem dX4_mark_15 : decode cX4_mark 15 = .ok (.tableswitch 73 0 5 #[37, 43, 49, 55, 61, 67], 37) := by decide +kernel
theorem dX4_mark_52 : decode cX4_mark 52 = .ok (.aload_n 0, 1) := by decide +kernel
theorem dX4_mark_53 : decode cX4_mark 53 = .ok (.iload_n 2, 1) := by decide +kernel
theorem dX4_mark_54 : decode cX4_mark 54 = .ok (.invokevirtual 225, 3) := by decide +kernel
theorem dX4_mark_57 : decode cX4_mark 57 = .ok (.ireturn, 1) := by decide +kernel
theorem dX4_mark_58 : decode cX4_mark 58 = .ok (.aload_n 0, 1) := by decide +kernel
theorem dX4_mark_59 : decode cX4_mark 59 = .ok (.iload_n 2, 1) := by decide +kernel
theorem dX4_mark_60 : decode cX4_mark 60 = .ok (.invokevirtual 228, 3) := by decide +kernel
theorem dX4_mark_63 : decode cX4_mark 63 = .ok (.ireturn, 1) := by decide +kernel
theorem dX4_mark_64 : decode cX4_mark 64 = .ok (.aload_n 0, 1) := by decide +kernel
theorem dX4_mark_65 : decode cX4_mark 65 = .ok (.iload_n 2, 1) := by decide +kernel
theorem dX4_mark_66 : decode cX4_mark 66 = .ok (.invokevirtual 231, 3) := by decide +kernel
theorem dX4_mark_69 : decode cX4_mark 69 = .ok (.ireturn, 1) := by decide +kernel
theorem dX4_mark_70 : decode cX4_mark 70 = .ok (.aload_n 0, 1) := by decide +kernel
theorem dX4_mark_71 : decode cX4_mark 71 = .ok (.iload_n 2, 1) := by decide +kernel
theorem dX4_mark_72 : decode cX4_mark 72 = .ok (.invokevirtual 234, 3) := by decide +kernel
theorem dX4_mark_75 : decode cX4_mark 75 = .ok (.ireturn, 1) := by decide +kernel
theorem dX4_mark_76 : decode cX4_mark 76 = .ok (.aload_n 0, 1) := by decide +kernel
theorem dX4_mark_77 : decode cX4_mark 77 = .ok (.iload_n 2, 1) := by decide +kernel
theorem dX4_mark_78 : decode cX4_mark 78 = .ok (.invokevirtual 237, 3) := by decide +kernel
theorem dX4_mark_81 : decode cX4_mark 81 = .ok (.ireturn, 1) := by decide +kernel
theorem dX4_mark_82 : decode cX4_mark 82 = .ok (.aload_n 0, 1) := by decide +kernel
theorem dX4_mark_83 : decode cX4_mark 83 = .ok (.iload_n 2, 1) := by decide +kernel
theorem dX4_mark_84 : decode cX4_mark 84 = .ok (.invokevirtual 240, 3) := by decide +kernel
theorem dX4_mark_87 : decode cX4_mark 87 = .ok (.ireturn, 1) := by decide +kernel
theorem dX4_mark_88 : decode cX4_mark 88 = .ok (.ldc 224, 2) := by decide +kernel
theorem dX4_mark_90 : decode cX4_mark 90 = .ok (.ireturn, 1) := by decide +kernel
end
section
set_option maxRecDepth 20000 in
theorem ggX4_keep_X4_within : GoodIn wsX4_keep wsX4_within := goodIn_r _ [9] (by decide +kernel) (by decide +kernel)
set_option maxRecDepth 20000 in
theorem gX4_keep_X4_within : GoodIn wsX4_keep (va_wsS RX4 48 yX4_within wsX4_within) := goodIn_app (goodIn_of _ (by decide +kernel)) ggX4_keep_X4_within
set_option maxRecDepth 20000 in
theorem ggX4_keep_X2_become : GoodIn wsX4_keep wsX2_become := goodIn_r _ [14, 15, 16, 17, 18, 19, 20, 21, 22, 23, 24, 25, 26, 27, 28, 43, 44, 45, 46, 47, 48, 49, 50, 51, 52] (by decide +kernel) (by decide +kernel)
set_option maxRecDepth 20000 in
theorem gX4_keep_X2_become : GoodIn wsX4_keep (wsV RX4 243 RX2 yX2_become wsX2_become) := goodIn_app (goodIn_of _ (by decide +kernel)) ggX4_keep_X2_become
theorem dX4_keep_0 : decode cX4_keep 0 = .ok (.iload_n 1, 1) := by decide +kernel
theorem dX4_keep_1 : decode cX4_keep 1 = .ok (.iconst 0, 1) := by decide +kernel
theorem dX4_keep_2 : decode cX4_keep 2 = .ok (.iconst 1, 1) := by decide +kernel
theorem dX4_keep_3 : decode cX4_keep 3 = .ok (.invokestatic 48, 3) := by decide +kernel
theorem dX4_keep_6 : decode cX4_keep 6 = .ok (.ifCond .ne 5, 3) := by decide +kernel
theorem dX4_keep_9 : decode cX4_keep 9 = .ok (.iconst (-1), 1) := by decide +kernel
theorem dX4_keep_10 : decode cX4_keep 10 = .ok (.ireturn, 1) := by decide +kernel
theorem dX4_keep_11 : decode cX4_keep 11 = .ok (.aload_n 0, 1) := by decide +kernel
theorem dX4_keep_12 : decode cX4_keep 12 = .ok (.getfield 25, 3) := by decide +kernel
theorem dX4_keep_15 : decode cX4_keep 15 = .ok (.iload_n 1, 1) := by decide +kernel
theorem dX4_keep_16 : decode cX4_keep 16 = .ok (.aaload, 1) := by decide +kernel
theorem dX4_keep_17 : decode cX4_keep 17 = .ok (.aload_n 0, 1) := by decide +kernel
theorem dX4_keep_18 : decode cX4_keep 18 = .ok (.getfield 41, 3) := by decide +kernel
theorem dX4_keep_21 : decode cX4_keep 21 = .ok (.getfield 68, 3) := by decide +kernel
theorem dX4_keep_24 : decode cX4_keep 24 = .ok (.invokevirtual 243, 3) := by decide +kernel
theorem dX4_keep_27 : decode cX4_keep 27 = .ok (.aload_n 0, 1) := by decide +kernel
theorem dX4_keep_28 : decode cX4_keep 28 = .ok (.getfield 30, 3) := by decide +kernel
theorem dX4_keep_31 : decode cX4_keep 31 = .ok (.iload_n 1, 1) := by decide +kernel
theorem dX4_keep_32 : decode cX4_keep 32 = .ok (.iconst 1, 1) := by decide +kernel
theorem dX4_keep_33 : decode cX4_keep 33 = .ok (.bastore, 1) := by decide +kernel
theorem dX4_keep_34 : decode cX4_keep 34 = .ok (.aload_n 0, 1) := by decide +kernel
theorem dX4_keep_35 : decode cX4_keep 35 = .ok (.getfield 41, 3) := by decide +kernel
theorem dX4_keep_38 : decode cX4_keep 38 = .ok (.getfield 68, 3) := by decide +kernel
theorem dX4_keep_41 : decode cX4_keep 41 = .ok (.getfield 126, 3) := by decide +kernel
theorem dX4_keep_44 : decode cX4_keep 44 = .ok (.ireturn, 1) := by decide +kernel
set_option maxRecDepth 20000 in
theorem ggX4_back_X4_within : GoodIn wsX4_back wsX4_within := goodIn_r _ [9] (by decide +kernel) (by decide +kernel)
set_option maxRecDepth 20000 in
theorem gX4_back_X4_within : GoodIn wsX4_back (va_wsS RX4 48 yX4_within wsX4_within) := goodIn_app (goodIn_of _ (by decide +kernel)) ggX4_back_X4_within
set_option maxRecDepth 20000 in
theorem ggX4_back_X2_become : GoodIn wsX4_back wsX2_become := goodIn_r _ [14, 15, 16, 17, 18, 19, 20, 21, 22, 23, 24, 25, 26, 27, 28, 43, 44, 45, 46, 47, 48, 49, 50, 51, 52] (by decide +kernel) (by decide +kernel)
set_option maxRecDepth 20000 in
theorem gX4_back_X2_become : GoodIn wsX4_back (wsV RX4 243 RX2 yX2_become wsX2_become) := goodIn_app (goodIn_of _ (by decide +kernel)) ggX4_back_X2_become
theorem dX4_back_0 : decode cX4_back 0 = .ok (.iload_n 1, 1) := by decide +kernel
theorem dX4_back_1 : decode cX4_back 1 = .ok (.iconst 0, 1) := by decide +kernel
theorem dX4_back_2 : decode cX4_back 2 = .ok (.iconst 1, 1) := by decide +kernel
theorem dX4_back_3 : decode cX4_back 3 = .ok (.invokestatic 48, 3) := by decide +kernel
theorem dX4_back_6 : decode cX4_back 6 = .ok (.ifCond .ne 5, 3) := by decide +kernel
theorem dX4_back_9 : decode cX4_back 9 = .ok (.iconst (-1), 1) := by decide +kernel
theorem dX4_back_10 : decode cX4_back 10 = .ok (.ireturn, 1) := by decide +kernel
theorem dX4_back_11 : decode cX4_back 11 = .ok (.aload_n 0, 1) := by decide +kernel
theorem dX4_back_12 : decode cX4_back 12 = .ok (.getfield 30, 3) := by decide +kernel
theorem dX4_back_15 : decode cX4_back 15 = .ok (.iload_n 1, 1) := by decide +kernel
theorem dX4_back_16 : decode cX4_back 16 = .ok (.baload, 1) := by decide +kernel
theorem dX4_back_17 : decode cX4_back 17 = .ok (.ifCond .ne 6, 3) := by decide +kernel
theorem dX4_back_20 : decode cX4_back 20 = .ok (.bipush (-2), 2) := by decide +kernel
theorem dX4_back_22 : decode cX4_back 22 = .ok (.ireturn, 1) := by decide +kernel
theorem dX4_back_23 : decode cX4_back 23 = .ok (.aload_n 0, 1) := by decide +kernel
theorem dX4_back_24 : decode cX4_back 24 = .ok (.getfield 41, 3) := by decide +kernel
theorem dX4_back_27 : decode cX4_back 27 = .ok (.getfield 68, 3) := by decide +kernel
theorem dX4_back_30 : decode cX4_back 30 = .ok (.aload_n 0, 1) := by decide +kernel
theorem dX4_back_31 : decode cX4_back 31 = .ok (.getfield 25, 3) := by decide +kernel
theorem dX4_back_34 : decode cX4_back 34 = .ok (.iload_n 1, 1) := by decide +kernel
theorem dX4_back_35 : decode cX4_back 35 = .ok (.aaload, 1) := by decide +kernel
theorem dX4_back_36 : decode cX4_back 36 = .ok (.invokevirtual 243, 3) := by decide +kernel
theorem dX4_back_39 : decode cX4_back 39 = .ok (.aload_n 0, 1) := by decide +kernel
theorem dX4_back_40 : decode cX4_back 40 = .ok (.getfield 41, 3) := by decide +kernel
theorem dX4_back_43 : decode cX4_back 43 = .ok (.getfield 68, 3) := by decide +kernel
theorem dX4_back_46 : decode cX4_back 46 = .ok (.getfield 126, 3) := by decide +kernel
theorem dX4_back_49 : decode cX4_back 49 = .ok (.ireturn, 1) := by decide +kernel
set_option maxRecDepth 20000 in
theorem ggX4_count_J6_bitCount_0f7a4 : GoodIn wsX4_count wsJ6_bitCount_0f7a4 := goodIn_r _ [15, 16, 17, 18] (by decide +kernel) (by decide +kernel)
set_option maxRecDepth 20000 in
theorem gX4_count_J6_bitCount_0f7a4 : GoodIn wsX4_count (va_wsS RX4 136 yJ6_bitCount_0f7a4 wsJ6_bitCount_0f7a4) := goodIn_app (goodIn_of _ (by decide +kernel)) ggX4_count_J6_bitCount_0f7a4
theorem dX4_count_0 : decode cX4_count 0 = .ok (.iload_n 1, 1) := by decide +kernel
theorem dX4_count_1 : decode cX4_count 1 = .ok (.tableswitch 108 0 6 #[43, 51, 62, 70, 81, 89, 100], 43) := by decide +kernel
theorem dX4_count_44 : decode cX4_count 44 = .ok (.aload_n 0, 1) := by decide +kernel
theorem dX4_count_45 : decode cX4_count 45 = .ok (.getfield 41, 3) := by decide +kernel
theorem dX4_count_48 : decode cX4_count 48 = .ok (.getfield 216, 3) := by decide +kernel
theorem dX4_count_51 : decode cX4_count 51 = .ok (.ireturn, 1) := by decide +kernel
theorem dX4_count_52 : decode cX4_count 52 = .ok (.aload_n 0, 1) := by decide +kernel
theorem dX4_count_53 : decode cX4_count 53 = .ok (.getfield 41, 3) := by decide +kernel
theorem dX4_count_56 : decode cX4_count 56 = .ok (.getfield 68, 3) := by decide +kernel
theorem dX4_count_59 : decode cX4_count 59 = .ok (.getfield 151, 3) := by decide +kernel
theorem dX4_count_62 : decode cX4_count 62 = .ok (.ireturn, 1) := by decide +kernel
theorem dX4_count_63 : decode cX4_count 63 = .ok (.aload_n 0, 1) := by decide +kernel
theorem dX4_count_64 : decode cX4_count 64 = .ok (.getfield 41, 3) := by decide +kernel
theorem dX4_count_67 : decode cX4_count 67 = .ok (.getfield 196, 3) := by decide +kernel
theorem dX4_count_70 : decode cX4_count 70 = .ok (.ireturn, 1) := by decide +kernel
theorem dX4_count_71 : decode cX4_count 71 = .ok (.aload_n 0, 1) := by decide +kernel
theorem dX4_count_72 : decode cX4_count 72 = .ok (.getfield 41, 3) := by decide +kernel
theorem dX4_count_75 : decode cX4_count 75 = .ok (.getfield 247, 3) := by decide +kernel
theorem dX4_count_78 : decode cX4_count 78 = .ok (.invokestatic 136, 3) := by decide +kernel
theorem dX4_count_81 : decode cX4_count 81 = .ok (.ireturn, 1) := by decide +kernel
theorem dX4_count_82 : decode cX4_count 82 = .ok (.aload_n 0, 1) := by decide +kernel
theorem dX4_count_83 : decode cX4_count 83 = .ok (.getfield 19, 3) := by decide +kernel
theorem dX4_count_86 : decode cX4_count 86 = .ok (.getfield 64, 3) := by decide +kernel
theorem dX4_count_89 : decode cX4_count 89 = .ok (.ireturn, 1) := by decide +kernel
theorem dX4_count_90 : decode cX4_count 90 = .ok (.aload_n 0, 1) := by decide +kernel
theorem dX4_count_91 : decode cX4_count 91 = .ok (.getfield 41, 3) := by decide +kernel
theorem dX4_count_94 : decode cX4_count 94 = .ok (.getfield 68, 3) := by decide +kernel
theorem dX4_count_97 : decode cX4_count 97 = .ok (.getfield 161, 3) := by decide +kernel
theorem dX4_count_100 : decode cX4_count 100 = .ok (.ireturn, 1) := by decide +kernel
theorem dX4_count_101 : decode cX4_count 101 = .ok (.aload_n 0, 1) := by decide +kernel
theorem dX4_count_102 : decode cX4_count 102 = .ok (.getfield 12, 3) := by decide +kernel
theorem dX4_count_105 : decode cX4_count 105 = .ok (.getfield 56, 3) := by decide +kernel
theorem dX4_count_108 : decode cX4_count 108 = .ok (.ireturn, 1) := by decide +kernel
theorem dX4_count_109 : decode cX4_count 109 = .ok (.iconst (-1), 1) := by decide +kernel
theorem dX4_count_110 : decode cX4_count 110 = .ok (.ireturn, 1) := by decide +kernel
theorem dX4_trace_0 : decode cX4_trace 0 = .ok (.aload_n 0, 1) := by decide +kernel
theorem dX4_trace_1 : decode cX4_trace 1 = .ok (.getfield 250, 3) := by decide +kernel
theorem dX4_trace_4 : decode cX4_trace 4 = .ok (.lreturn, 1) := by decide +kernel
theorem dX4_within_0 : decode cX4_within 0 = .ok (.iload_n 0, 1) := by decide +kernel
theorem dX4_within_1 : decode cX4_within 1 = .ok (.iload_n 1, 1) := by decide +kernel
theorem dX4_within_2 : decode cX4_within 2 = .ok (.if_icmp .lt 12, 3) := by decide +kernel
theorem dX4_within_5 : decode cX4_within 5 = .ok (.iload_n 0, 1) := by decide +kernel
theorem dX4_within_6 : decode cX4_within 6 = .ok (.iload_n 2, 1) := by decide +kernel
theorem dX4_within_7 : decode cX4_within 7 = .ok (.if_icmp .gt 7, 3) := by decide +kernel
theorem dX4_within_10 : decode cX4_within 10 = .ok (.iconst 1, 1) := by decide +kernel
theorem dX4_within_11 : decode cX4_within 11 = .ok (.goto 4, 3) := by decide +kernel
theorem dX4_within_14 : decode cX4_within 14 = .ok (.iconst 0, 1) := by decide +kernel
theorem dX4_within_15 : decode cX4_within 15 = .ok (.ireturn, 1) := by decide +kernel
set_option maxRecDepth 20000 in
theorem ggX4_maySay_X0_hasPlace : GoodIn wsX4_maySay wsX0_hasPlace := goodIn_r _ [6, 7, 8, 9, 10, 20, 21, 22, 23, 24, 25] (by decide +kernel) (by decide +kernel)
set_option maxRecDepth 20000 in
theorem gX4_maySay_X0_hasPlace : GoodIn wsX4_maySay (wsV RX4 101 RX0 yX0_hasPlace wsX0_hasPlace) := goodIn_app (goodIn_of _ (by decide +kernel)) ggX4_maySay_X0_hasPlace
set_option maxRecDepth 20000 in
theorem ggX4_maySay_X4_within : GoodIn wsX4_maySay wsX4_within := goodIn_r _ [10] (by decide +kernel) (by decide +kernel)
set_option maxRecDepth 20000 in
theorem gX4_maySay_X4_within : GoodIn wsX4_maySay (va_wsS RX4 48 yX4_within wsX4_within) := goodIn_app (goodIn_of _ (by decide +kernel)) ggX4_maySay_X4_within
theorem dX4_maySay_0 : decode cX4_maySay 0 = .ok (.aload_n 0, 1) := by decide +kernel
theorem dX4_maySay_1 : decode cX4_maySay 1 = .ok (.getfield 41, 3) := by decide +kernel
theorem dX4_maySay_4 : decode cX4_maySay 4 = .ok (.iload_n 1, 1) := by decide +kernel
theorem dX4_maySay_5 : decode cX4_maySay 5 = .ok (.invokevirtual 101, 3) := by decide +kernel
theorem dX4_maySay_8 : decode cX4_maySay 8 = .ok (.ifCond .eq 37, 3) := by decide +kernel
theorem dX4_maySay_11 : decode cX4_maySay 11 = .ok (.iload_n 2, 1) := by decide +kernel
theorem dX4_maySay_12 : decode cX4_maySay 12 = .ok (.iconst 1, 1) := by decide +kernel
theorem dX4_maySay_13 : decode cX4_maySay 13 = .ok (.bipush 6, 2) := by decide +kernel
theorem dX4_maySay_15 : decode cX4_maySay 15 = .ok (.invokestatic 48, 3) := by decide +kernel
theorem dX4_maySay_18 : decode cX4_maySay 18 = .ok (.ifCond .eq 27, 3) := by decide +kernel
theorem dX4_maySay_21 : decode cX4_maySay 21 = .ok (.iload_n 3, 1) := by decide +kernel
theorem dX4_maySay_22 : decode cX4_maySay 22 = .ok (.iconst 0, 1) := by decide +kernel
theorem dX4_maySay_23 : decode cX4_maySay 23 = .ok (.iconst 1, 1) := by decide +kernel
theorem dX4_maySay_24 : decode cX4_maySay 24 = .ok (.invokestatic 48, 3) := by decide +kernel
theorem dX4_maySay_27 : decode cX4_maySay 27 = .ok (.ifCond .eq 18, 3) := by decide +kernel
theorem dX4_maySay_30 : decode cX4_maySay 30 = .ok (.iload 4, 2) := by decide +kernel
theorem dX4_maySay_32 : decode cX4_maySay 32 = .ok (.iconst 1, 1) := by decide +kernel
theorem dX4_maySay_33 : decode cX4_maySay 33 = .ok (.bipush 30, 2) := by decide +kernel
theorem dX4_maySay_35 : decode cX4_maySay 35 = .ok (.invokestatic 48, 3) := by decide +kernel
theorem dX4_maySay_38 : decode cX4_maySay 38 = .ok (.ifCond .eq 7, 3) := by decide +kernel
theorem dX4_maySay_41 : decode cX4_maySay 41 = .ok (.iconst 1, 1) := by decide +kernel
theorem dX4_maySay_42 : decode cX4_maySay 42 = .ok (.goto 4, 3) := by decide +kernel
theorem dX4_maySay_45 : decode cX4_maySay 45 = .ok (.iconst 0, 1) := by decide +kernel
theorem dX4_maySay_46 : decode cX4_maySay 46 = .ok (.ireturn, 1) := by decide +kernel
set_option maxRecDepth 20000 in
theorem ggX4_lastingParts_X4_lastingParts : GoodIn wsX4_lastingParts wsX4_lastingParts := goodIn_r _ [0, 1, 2, 3] (by decide +kernel) (by decide +kernel)
set_option maxRecDepth 20000 in
theorem gX4_lastingParts_X4_lastingParts : GoodIn wsX4_lastingParts (va_wsS RX4 199 yX4_lastingParts wsX4_lastingParts) := goodIn_app (goodIn_of _ (by decide +kernel)) ggX4_lastingParts_X4_lastingParts
theorem dX4_lastingParts_0 : decode cX4_lastingParts 0 = .ok (.iload_n 0, 1) := by decide +kernel
theorem dX4_lastingParts_1 : decode cX4_lastingParts 1 = .ok (.ifCond .gt 5, 3) := by decide +kernel
theorem dX4_lastingParts_4 : decode cX4_lastingParts 4 = .ok (.iconst 0, 1) := by decide +kernel
theorem dX4_lastingParts_5 : decode cX4_lastingParts 5 = .ok (.ireturn, 1) := by decide +kernel
theorem dX4_lastingParts_6 : decode cX4_lastingParts 6 = .ok (.iload_n 2, 1) := by decide +kernel
theorem dX4_lastingParts_7 : decode cX4_lastingParts 7 = .ok (.ifCond .gt 5, 3) := by decide +kernel
theorem dX4_lastingParts_10 : decode cX4_lastingParts 10 = .ok (.iconst 1, 1) := by decide +kernel
theorem dX4_lastingParts_11 : decode cX4_lastingParts 11 = .ok (.ireturn, 1) := by decide +kernel
theorem dX4_lastingParts_12 : decode cX4_lastingParts 12 = .ok (.bipush 10, 2) := by decide +kernel
theorem dX4_lastingParts_14 : decode cX4_lastingParts 14 = .ok (.iload_n 3, 1) := by decide +kernel
theorem dX4_lastingParts_15 : decode cX4_lastingParts 15 = .ok (.isub, 1) := by decide +kernel
theorem dX4_lastingParts_16 : decode cX4_lastingParts 16 = .ok (.iload_n 0, 1) := by decide +kernel
theorem dX4_lastingParts_17 : decode cX4_lastingParts 17 = .ok (.iload_n 1, 1) := by decide +kernel
theorem dX4_lastingParts_18 : decode cX4_lastingParts 18 = .ok (.isub, 1) := by decide +kernel
theorem dX4_lastingParts_19 : decode cX4_lastingParts 19 = .ok (.iload_n 1, 1) := by decide +kernel
theorem dX4_lastingParts_20 : decode cX4_lastingParts 20 = .ok (.iload_n 2, 1) := by decide +kernel
theorem dX4_lastingParts_21 : decode cX4_lastingParts 21 = .ok (.iconst 1, 1) := by decide +kernel
theorem dX4_lastingParts_22 : decode cX4_lastingParts 22 = .ok (.isub, 1) := by decide +kernel
theorem dX4_lastingParts_23 : decode cX4_lastingParts 23 = .ok (.iload_n 3, 1) := by decide +kernel
theorem dX4_lastingParts_24 : decode cX4_lastingParts 24 = .ok (.invokestatic 199, 3) := by decide +kernel
theorem dX4_lastingParts_27 : decode cX4_lastingParts 27 = .ok (.imul, 1) := by decide +kernel
theorem dX4_lastingParts_28 : decode cX4_lastingParts 28 = .ok (.iload_n 3, 1) := by decide +kernel
theorem dX4_lastingParts_29 : decode cX4_lastingParts 29 = .ok (.iload_n 0, 1) := by decide +kernel
theorem dX4_lastingParts_30 : decode cX4_lastingParts 30 = .ok (.iconst 2, 1) := by decide +kernel
theorem dX4_lastingParts_31 : decode cX4_lastingParts 31 = .ok (.iload_n 1, 1) := by decide +kernel
theorem dX4_lastingParts_32 : decode cX4_lastingParts 32 = .ok (.imul, 1) := by decide +kernel
theorem dX4_lastingParts_33 : decode cX4_lastingParts 33 = .ok (.isub, 1) := by decide +kernel
theorem dX4_lastingParts_34 : decode cX4_lastingParts 34 = .ok (.iload_n 1, 1) := by decide +kernel
theorem dX4_lastingParts_35 : decode cX4_lastingParts 35 = .ok (.iload_n 2, 1) := by decide +kernel
theorem dX4_lastingParts_36 : decode cX4_lastingParts 36 = .ok (.iconst 1, 1) := by decide +kernel
theorem dX4_lastingParts_37 : decode cX4_lastingParts 37 = .ok (.isub, 1) := by decide +kernel
theorem dX4_lastingParts_38 : decode cX4_lastingParts 38 = .ok (.iload_n 3, 1) := by decide +kernel
theorem dX4_lastingParts_39 : decode cX4_lastingParts 39 = .ok (.invokestatic 199, 3) := by decide +kernel
theorem dX4_lastingParts_42 : decode cX4_lastingParts 42 = .ok (.imul, 1) := by decide +kernel
theorem dX4_lastingParts_43 : decode cX4_lastingParts 43 = .ok (.iadd, 1) := by decide +kernel
theorem dX4_lastingParts_44 : decode cX4_lastingParts 44 = .ok (.ireturn, 1) := by decide +kernel
theorem dX4_commonDivisor_0 : decode cX4_commonDivisor 0 = .ok (.iload_n 0, 1) := by decide +kernel
theorem dX4_commonDivisor_1 : decode cX4_commonDivisor 1 = .ok (.istore_n 2, 1) := by decide +kernel
theorem dX4_commonDivisor_2 : decode cX4_commonDivisor 2 = .ok (.iload_n 1, 1) := by decide +kernel
theorem dX4_commonDivisor_3 : decode cX4_commonDivisor 3 = .ok (.istore_n 3, 1) := by decide +kernel
theorem dX4_commonDivisor_4 : decode cX4_commonDivisor 4 = .ok (.iconst 0, 1) := by decide +kernel
theorem dX4_commonDivisor_5 : decode cX4_commonDivisor 5 = .ok (.istore 4, 2) := by decide +kernel
theorem dX4_commonDivisor_7 : decode cX4_commonDivisor 7 = .ok (.iload 4, 2) := by decide +kernel
theorem dX4_commonDivisor_9 : decode cX4_commonDivisor 9 = .ok (.bipush 64, 2) := by decide +kernel
theorem dX4_commonDivisor_11 : decode cX4_commonDivisor 11 = .ok (.if_icmp .ge 23, 3) := by decide +kernel
theorem dX4_commonDivisor_14 : decode cX4_commonDivisor 14 = .ok (.iload_n 3, 1) := by decide +kernel
theorem dX4_commonDivisor_15 : decode cX4_commonDivisor 15 = .ok (.ifCond .le 19, 3) := by decide +kernel
theorem dX4_commonDivisor_18 : decode cX4_commonDivisor 18 = .ok (.iload_n 2, 1) := by decide +kernel
theorem dX4_commonDivisor_19 : decode cX4_commonDivisor 19 = .ok (.iload_n 3, 1) := by decide +kernel
theorem dX4_commonDivisor_20 : decode cX4_commonDivisor 20 = .ok (.irem, 1) := by decide +kernel
theorem dX4_commonDivisor_21 : decode cX4_commonDivisor 21 = .ok (.istore 5, 2) := by decide +kernel
theorem dX4_commonDivisor_23 : decode cX4_commonDivisor 23 = .ok (.iload_n 3, 1) := by decide +kernel
theorem dX4_commonDivisor_24 : decode cX4_commonDivisor 24 = .ok (.istore_n 2, 1) := by decide +kernel
theorem dX4_commonDivisor_25 : decode cX4_commonDivisor 25 = .ok (.iload 5, 2) := by decide +kernel
theorem dX4_commonDivisor_27 : decode cX4_commonDivisor 27 = .ok (.istore_n 3, 1) := by decide +kernel
theorem dX4_commonDivisor_28 : decode cX4_commonDivisor 28 = .ok (.iinc 4 1, 3) := by decide +kernel
theorem dX4_commonDivisor_31 : decode cX4_commonDivisor 31 = .ok (.goto (-24), 3) := by decide +kernel
theorem dX4_commonDivisor_34 : decode cX4_commonDivisor 34 = .ok (.iload_n 2, 1) := by decide +kernel
theorem dX4_commonDivisor_35 : decode cX4_commonDivisor 35 = .ok (.ireturn, 1) := by decide +kernel
set_option maxRecDepth 20000 in
theorem ggX4_guessCount_X1_fits : GoodIn wsX4_guessCount wsX1_fits := goodIn_r _ [8, 9, 10, 11, 12, 13, 14, 7, 15, 16, 17, 18, 19, 20, 21, 22, 23, 24, 25, 26, 27, 28, 29, 30, 31, 32, 33, 34, 49, 50, 51, 52, 43, 44, 45, 46, 47, 48] (by decide +kernel) (by decide +kernel)
set_option maxRecDepth 20000 in
theorem gX4_guessCount_X1_fits : GoodIn wsX4_guessCount (wsV RX4 254 RX1 yX1_fits wsX1_fits) := goodIn_app (goodIn_of _ (by decide +kernel)) ggX4_guessCount_X1_fits
theorem dX4_guessCount_0 : decode cX4_guessCount 0 = .ok (.iconst 0, 1) := by decide +kernel
theorem dX4_guessCount_1 : decode cX4_guessCount 1 = .ok (.istore_n 1, 1) := by decide +kernel
theorem dX4_guessCount_2 : decode cX4_guessCount 2 = .ok (.iconst 0, 1) := by decide +kernel
theorem dX4_guessCount_3 : decode cX4_guessCount 3 = .ok (.istore_n 2, 1) := by decide +kernel
theorem dX4_guessCount_4 : decode cX4_guessCount 4 = .ok (.iload_n 2, 1) := by decide +kernel
theorem dX4_guessCount_5 : decode cX4_guessCount 5 = .ok (.aload_n 0, 1) := by decide +kernel
theorem dX4_guessCount_6 : decode cX4_guessCount 6 = .ok (.getfield 41, 3) := by decide +kernel
theorem dX4_guessCount_9 : decode cX4_guessCount 9 = .ok (.getfield 216, 3) := by decide +kernel
theorem dX4_guessCount_12 : decode cX4_guessCount 12 = .ok (.bipush 12, 2) := by decide +kernel
theorem dX4_guessCount_14 : decode cX4_guessCount 14 = .ok (.imul, 1) := by decide +kernel
theorem dX4_guessCount_15 : decode cX4_guessCount 15 = .ok (.if_icmp .ge 27, 3) := by decide +kernel
theorem dX4_guessCount_18 : decode cX4_guessCount 18 = .ok (.aload_n 0, 1) := by decide +kernel
theorem dX4_guessCount_19 : decode cX4_guessCount 19 = .ok (.getfield 19, 3) := by decide +kernel
theorem dX4_guessCount_22 : decode cX4_guessCount 22 = .ok (.aload_n 0, 1) := by decide +kernel
theorem dX4_guessCount_23 : decode cX4_guessCount 23 = .ok (.getfield 41, 3) := by decide +kernel
theorem dX4_guessCount_26 : decode cX4_guessCount 26 = .ok (.iload_n 2, 1) := by decide +kernel
theorem dX4_guessCount_27 : decode cX4_guessCount 27 = .ok (.invokevirtual 254, 3) := by decide +kernel
theorem dX4_guessCount_30 : decode cX4_guessCount 30 = .ok (.ifCond .eq 6, 3) := by decide +kernel
theorem dX4_guessCount_33 : decode cX4_guessCount 33 = .ok (.iinc 1 1, 3) := by decide +kernel
theorem dX4_guessCount_36 : decode cX4_guessCount 36 = .ok (.iinc 2 1, 3) := by decide +kernel
theorem dX4_guessCount_39 : decode cX4_guessCount 39 = .ok (.goto (-35), 3) := by decide +kernel
theorem dX4_guessCount_42 : decode cX4_guessCount 42 = .ok (.iload_n 1, 1) := by decide +kernel
theorem dX4_guessCount_43 : decode cX4_guessCount 43 = .ok (.ireturn, 1) := by decide +kernel
set_option maxRecDepth 20000 in
theorem ggX4_firstGuess_X1_fits : GoodIn wsX4_firstGuess wsX1_fits := goodIn_r _ [8, 9, 10, 11, 12, 13, 14, 7, 15, 16, 17, 18, 19, 20, 21, 22, 23, 24, 25, 26, 27, 28, 29, 30, 31, 32, 33, 34, 52, 53, 54, 55, 46, 47, 48, 49, 50, 51] (by decide +kernel) (by decide +kernel)
set_option maxRecDepth 20000 in
theorem gX4_firstGuess_X1_fits : GoodIn wsX4_firstGuess (wsV RX4 254 RX1 yX1_fits wsX1_fits) := goodIn_app (goodIn_of _ (by decide +kernel)) ggX4_firstGuess_X1_fits
set_option maxRecDepth 20000 in
theorem ggX4_firstGuess_X1_placeIn : GoodIn wsX4_firstGuess wsX1_placeIn := goodIn_r _ [18] (by decide +kernel) (by decide +kernel)
set_option maxRecDepth 20000 in
theorem gX4_firstGuess_X1_placeIn : GoodIn wsX4_firstGuess (va_wsS RX4 258 yX1_placeIn wsX1_placeIn) := goodIn_app (goodIn_of _ (by decide +kernel)) ggX4_firstGuess_X1_placeIn
set_option maxRecDepth 20000 in
theorem ggX4_firstGuess_X1_speedIn : GoodIn wsX4_firstGuess wsX1_speedIn := goodIn_r _ [24] (by decide +kernel) (by decide +kernel)
set_option maxRecDepth 20000 in
theorem gX4_firstGuess_X1_speedIn : GoodIn wsX4_firstGuess (va_wsS RX4 261 yX1_speedIn wsX1_speedIn) := goodIn_app (goodIn_of _ (by decide +kernel)) ggX4_firstGuess_X1_speedIn
set_option maxRecDepth 20000 in
theorem ggX4_firstGuess_X1_wayIn : GoodIn wsX4_firstGuess wsX1_wayIn := goodIn_r _ [21] (by decide +kernel) (by decide +kernel)
set_option maxRecDepth 20000 in
theorem gX4_firstGuess_X1_wayIn : GoodIn wsX4_firstGuess (va_wsS RX4 264 yX1_wayIn wsX1_wayIn) := goodIn_app (goodIn_of _ (by decide +kernel)) ggX4_firstGuess_X1_wayIn
theorem dX4_firstGuess_0 : decode cX4_firstGuess 0 = .ok (.iconst 0, 1) := by decide +kernel
theorem dX4_firstGuess_1 : decode cX4_firstGuess 1 = .ok (.istore_n 1, 1) := by decide +kernel
theorem dX4_firstGuess_2 : decode cX4_firstGuess 2 = .ok (.iload_n 1, 1) := by decide +kernel
theorem dX4_firstGuess_3 : decode cX4_firstGuess 3 = .ok (.aload_n 0, 1) := by decide +kernel
theorem dX4_firstGuess_4 : decode cX4_firstGuess 4 = .ok (.getfield 41, 3) := by decide +kernel
theorem dX4_firstGuess_7 : decode cX4_firstGuess 7 = .ok (.getfield 216, 3) := by decide +kernel
theorem dX4_firstGuess_10 : decode cX4_firstGuess 10 = .ok (.bipush 12, 2) := by decide +kernel
theorem dX4_firstGuess_12 : decode cX4_firstGuess 12 = .ok (.imul, 1) := by decide +kernel
theorem dX4_firstGuess_13 : decode cX4_firstGuess 13 = .ok (.if_icmp .ge 45, 3) := by decide +kernel
theorem dX4_firstGuess_16 : decode cX4_firstGuess 16 = .ok (.aload_n 0, 1) := by decide +kernel
theorem dX4_firstGuess_17 : decode cX4_firstGuess 17 = .ok (.getfield 19, 3) := by decide +kernel
theorem dX4_firstGuess_20 : decode cX4_firstGuess 20 = .ok (.aload_n 0, 1) := by decide +kernel
theorem dX4_firstGuess_21 : decode cX4_firstGuess 21 = .ok (.getfield 41, 3) := by decide +kernel
theorem dX4_firstGuess_24 : decode cX4_firstGuess 24 = .ok (.iload_n 1, 1) := by decide +kernel
theorem dX4_firstGuess_25 : decode cX4_firstGuess 25 = .ok (.invokevirtual 254, 3) := by decide +kernel
theorem dX4_firstGuess_28 : decode cX4_firstGuess 28 = .ok (.ifCond .eq 24, 3) := by decide +kernel
theorem dX4_firstGuess_31 : decode cX4_firstGuess 31 = .ok (.bipush 100, 2) := by decide +kernel
theorem dX4_firstGuess_33 : decode cX4_firstGuess 33 = .ok (.iload_n 1, 1) := by decide +kernel
theorem dX4_firstGuess_34 : decode cX4_firstGuess 34 = .ok (.invokestatic 258, 3) := by decide +kernel
theorem dX4_firstGuess_37 : decode cX4_firstGuess 37 = .ok (.imul, 1) := by decide +kernel
theorem dX4_firstGuess_38 : decode cX4_firstGuess 38 = .ok (.bipush 10, 2) := by decide +kernel
theorem dX4_firstGuess_40 : decode cX4_firstGuess 40 = .ok (.iload_n 1, 1) := by decide +kernel
theorem dX4_firstGuess_41 : decode cX4_firstGuess 41 = .ok (.invokestatic 261, 3) := by decide +kernel
theorem dX4_firstGuess_44 : decode cX4_firstGuess 44 = .ok (.imul, 1) := by decide +kernel
theorem dX4_firstGuess_45 : decode cX4_firstGuess 45 = .ok (.iadd, 1) := by decide +kernel
theorem dX4_firstGuess_46 : decode cX4_firstGuess 46 = .ok (.iload_n 1, 1) := by decide +kernel
theorem dX4_firstGuess_47 : decode cX4_firstGuess 47 = .ok (.invokestatic 264, 3) := by decide +kernel
theorem dX4_firstGuess_50 : decode cX4_firstGuess 50 = .ok (.iadd, 1) := by decide +kernel
theorem dX4_firstGuess_51 : decode cX4_firstGuess 51 = .ok (.ireturn, 1) := by decide +kernel
theorem dX4_firstGuess_52 : decode cX4_firstGuess 52 = .ok (.iinc 1 1, 3) := by decide +kernel
theorem dX4_firstGuess_55 : decode cX4_firstGuess 55 = .ok (.goto (-53), 3) := by decide +kernel
theorem dX4_firstGuess_58 : decode cX4_firstGuess 58 = .ok (.bipush (-9), 2) := by decide +kernel
theorem dX4_firstGuess_60 : decode cX4_firstGuess 60 = .ok (.ireturn, 1) := by decide +kernel
set_option maxRecDepth 20000 in
theorem ggX4_sortGuesses_X1_placeBehind : GoodIn wsX4_sortGuesses wsX1_placeBehind := goodIn_r _ [8, 9, 10, 7, 11, 12, 13, 14, 15, 16, 17, 18, 19, 20, 21, 22, 23, 24, 25, 26, 27, 49, 50, 51, 52, 53, 54] (by decide +kernel) (by decide +kernel)
set_option maxRecDepth 20000 in
theorem gX4_sortGuesses_X1_placeBehind : GoodIn wsX4_sortGuesses (va_wsS RX4 267 yX1_placeBehind wsX1_placeBehind) := goodIn_app (goodIn_of _ (by decide +kernel)) ggX4_sortGuesses_X1_placeBehind
set_option maxRecDepth 20000 in
theorem ggX4_sortGuesses_X1_fits : GoodIn wsX4_sortGuesses wsX1_fits := goodIn_r _ [31, 32, 33, 34, 35, 36, 6, 7, 8, 9, 10, 11, 12, 13, 14, 15, 16, 17, 18, 19, 20, 21, 22, 23, 24, 25, 26, 27, 55, 56, 57, 58, 49, 50, 51, 52, 53, 54] (by decide +kernel) (by decide +kernel)
set_option maxRecDepth 20000 in
theorem gX4_sortGuesses_X1_fits : GoodIn wsX4_sortGuesses (wsV RX4 254 RX1 yX1_fits wsX1_fits) := goodIn_app (goodIn_of _ (by decide +kernel)) ggX4_sortGuesses_X1_fits
set_option maxRecDepth 20000 in
theorem ggX4_sortGuesses_X4_within : GoodIn wsX4_sortGuesses wsX4_within := goodIn_r _ [40] (by decide +kernel) (by decide +kernel)
set_option maxRecDepth 20000 in
theorem gX4_sortGuesses_X4_within : GoodIn wsX4_sortGuesses (va_wsS RX4 48 yX4_within wsX4_within) := goodIn_app (goodIn_of _ (by decide +kernel)) ggX4_sortGuesses_X4_within
theorem dX4_sortGuesses_0 : decode cX4_sortGuesses 0 = .ok (.iconst 0, 1) := by decide +kernel
theorem dX4_sortGuesses_1 : decode cX4_sortGuesses 1 = .ok (.istore_n 2, 1) := by decide +kernel
theorem dX4_sortGuesses_2 : decode cX4_sortGuesses 2 = .ok (.iload_n 2, 1) := by decide +kernel
theorem dX4_sortGuesses_3 : decode cX4_sortGuesses 3 = .ok (.bipush 24, 2) := by decide +kernel
theorem dX4_sortGuesses_5 : decode cX4_sortGuesses 5 = .ok (.if_icmp .ge 16, 3) := by decide +kernel
theorem dX4_sortGuesses_8 : decode cX4_sortGuesses 8 = .ok (.aload_n 0, 1) := by decide +kernel
theorem dX4_sortGuesses_9 : decode cX4_sortGuesses 9 = .ok (.getfield 34, 3) := by decide +kernel
theorem dX4_sortGuesses_12 : decode cX4_sortGuesses 12 = .ok (.iload_n 2, 1) := by decide +kernel
theorem dX4_sortGuesses_13 : decode cX4_sortGuesses 13 = .ok (.iconst 0, 1) := by decide +kernel
theorem dX4_sortGuesses_14 : decode cX4_sortGuesses 14 = .ok (.iastore, 1) := by decide +kernel
theorem dX4_sortGuesses_15 : decode cX4_sortGuesses 15 = .ok (.iinc 2 1, 3) := by decide +kernel
theorem dX4_sortGuesses_18 : decode cX4_sortGuesses 18 = .ok (.goto (-16), 3) := by decide +kernel
theorem dX4_sortGuesses_21 : decode cX4_sortGuesses 21 = .ok (.iconst 0, 1) := by decide +kernel
theorem dX4_sortGuesses_22 : decode cX4_sortGuesses 22 = .ok (.istore_n 2, 1) := by decide +kernel
theorem dX4_sortGuesses_23 : decode cX4_sortGuesses 23 = .ok (.iconst 0, 1) := by decide +kernel
theorem dX4_sortGuesses_24 : decode cX4_sortGuesses 24 = .ok (.istore_n 3, 1) := by decide +kernel
theorem dX4_sortGuesses_25 : decode cX4_sortGuesses 25 = .ok (.iload_n 3, 1) := by decide +kernel
theorem dX4_sortGuesses_26 : decode cX4_sortGuesses 26 = .ok (.aload_n 0, 1) := by decide +kernel
theorem dX4_sortGuesses_27 : decode cX4_sortGuesses 27 = .ok (.getfield 41, 3) := by decide +kernel
theorem dX4_sortGuesses_30 : decode cX4_sortGuesses 30 = .ok (.getfield 216, 3) := by decide +kernel
theorem dX4_sortGuesses_33 : decode cX4_sortGuesses 33 = .ok (.bipush 12, 2) := by decide +kernel
theorem dX4_sortGuesses_35 : decode cX4_sortGuesses 35 = .ok (.imul, 1) := by decide +kernel
theorem dX4_sortGuesses_36 : decode cX4_sortGuesses 36 = .ok (.if_icmp .ge 60, 3) := by decide +kernel
theorem dX4_sortGuesses_39 : decode cX4_sortGuesses 39 = .ok (.aload_n 0, 1) := by decide +kernel
theorem dX4_sortGuesses_40 : decode cX4_sortGuesses 40 = .ok (.getfield 41, 3) := by decide +kernel
theorem dX4_sortGuesses_43 : decode cX4_sortGuesses 43 = .ok (.iload_n 3, 1) := by decide +kernel
theorem dX4_sortGuesses_44 : decode cX4_sortGuesses 44 = .ok (.iload_n 1, 1) := by decide +kernel
theorem dX4_sortGuesses_45 : decode cX4_sortGuesses 45 = .ok (.invokestatic 267, 3) := by decide +kernel
theorem dX4_sortGuesses_48 : decode cX4_sortGuesses 48 = .ok (.istore 4, 2) := by decide +kernel
theorem dX4_sortGuesses_50 : decode cX4_sortGuesses 50 = .ok (.aload_n 0, 1) := by decide +kernel
theorem dX4_sortGuesses_51 : decode cX4_sortGuesses 51 = .ok (.getfield 19, 3) := by decide +kernel
theorem dX4_sortGuesses_54 : decode cX4_sortGuesses 54 = .ok (.aload_n 0, 1) := by decide +kernel
theorem dX4_sortGuesses_55 : decode cX4_sortGuesses 55 = .ok (.getfield 41, 3) := by decide +kernel
theorem dX4_sortGuesses_58 : decode cX4_sortGuesses 58 = .ok (.iload_n 3, 1) := by decide +kernel
theorem dX4_sortGuesses_59 : decode cX4_sortGuesses 59 = .ok (.invokevirtual 254, 3) := by decide +kernel
theorem dX4_sortGuesses_62 : decode cX4_sortGuesses 62 = .ok (.ifCond .eq 28, 3) := by decide +kernel
theorem dX4_sortGuesses_65 : decode cX4_sortGuesses 65 = .ok (.iload 4, 2) := by decide +kernel
theorem dX4_sortGuesses_67 : decode cX4_sortGuesses 67 = .ok (.iconst 0, 1) := by decide +kernel
theorem dX4_sortGuesses_68 : decode cX4_sortGuesses 68 = .ok (.bipush 23, 2) := by decide +kernel
theorem dX4_sortGuesses_70 : decode cX4_sortGuesses 70 = .ok (.invokestatic 48, 3) := by decide +kernel
theorem dX4_sortGuesses_73 : decode cX4_sortGuesses 73 = .ok (.ifCond .eq 17, 3) := by decide +kernel
theorem dX4_sortGuesses_76 : decode cX4_sortGuesses 76 = .ok (.aload_n 0, 1) := by decide +kernel
theorem dX4_sortGuesses_77 : decode cX4_sortGuesses 77 = .ok (.getfield 34, 3) := by decide +kernel
theorem dX4_sortGuesses_80 : decode cX4_sortGuesses 80 = .ok (.iload 4, 2) := by decide +kernel
theorem dX4_sortGuesses_82 : decode cX4_sortGuesses 82 = .ok (.dup2, 1) := by decide +kernel
theorem dX4_sortGuesses_83 : decode cX4_sortGuesses 83 = .ok (.iaload, 1) := by decide +kernel
theorem dX4_sortGuesses_84 : decode cX4_sortGuesses 84 = .ok (.iconst 1, 1) := by decide +kernel
theorem dX4_sortGuesses_85 : decode cX4_sortGuesses 85 = .ok (.iadd, 1) := by decide +kernel
theorem dX4_sortGuesses_86 : decode cX4_sortGuesses 86 = .ok (.iastore, 1) := by decide +kernel
theorem dX4_sortGuesses_87 : decode cX4_sortGuesses 87 = .ok (.iinc 2 1, 3) := by decide +kernel
theorem dX4_sortGuesses_90 : decode cX4_sortGuesses 90 = .ok (.iinc 3 1, 3) := by decide +kernel
theorem dX4_sortGuesses_93 : decode cX4_sortGuesses 93 = .ok (.goto (-68), 3) := by decide +kernel
theorem dX4_sortGuesses_96 : decode cX4_sortGuesses 96 = .ok (.iload_n 2, 1) := by decide +kernel
theorem dX4_sortGuesses_97 : decode cX4_sortGuesses 97 = .ok (.ireturn, 1) := by decide +kernel
theorem dX4_asSaying_0 : decode cX4_asSaying 0 = .ok (.aload_n 0, 1) := by decide +kernel
theorem dX4_asSaying_1 : decode cX4_asSaying 1 = .ok (.dup, 1) := by decide +kernel
theorem dX4_asSaying_2 : decode cX4_asSaying 2 = .ok (.getfield 250, 3) := by decide +kernel
theorem dX4_asSaying_5 : decode cX4_asSaying 5 = .ok (.lconst 1, 1) := by decide +kernel
theorem dX4_asSaying_6 : decode cX4_asSaying 6 = .ok (.ladd, 1) := by decide +kernel
theorem dX4_asSaying_7 : decode cX4_asSaying 7 = .ok (.putfield 250, 3) := by decide +kernel
theorem dX4_asSaying_10 : decode cX4_asSaying 10 = .ok (.aload_n 0, 1) := by decide +kernel
theorem dX4_asSaying_11 : decode cX4_asSaying 11 = .ok (.getfield 41, 3) := by decide +kernel
theorem dX4_asSaying_14 : decode cX4_asSaying 14 = .ok (.getfield 68, 3) := by decide +kernel
theorem dX4_asSaying_17 : decode cX4_asSaying 17 = .ok (.getfield 81, 3) := by decide +kernel
theorem dX4_asSaying_20 : decode cX4_asSaying 20 = .ok (.iload_n 1, 1) := by decide +kernel
theorem dX4_asSaying_21 : decode cX4_asSaying 21 = .ok (.iaload, 1) := by decide +kernel
theorem dX4_asSaying_22 : decode cX4_asSaying 22 = .ok (.ireturn, 1) := by decide +kernel
set_option maxRecDepth 20000 in
theorem ggX4_asVow_X4_asSaying : GoodIn wsX4_asVow wsX4_asSaying := goodIn_r _ [8, 1, 3, 9, 10, 45, 46, 47, 48, 49, 50, 51, 52, 53, 54, 55, 56, 57, 58, 59, 60, 61, 62, 63, 64, 65, 66, 67, 68] (by decide +kernel) (by decide +kernel)
set_option maxRecDepth 20000 in
theorem gX4_asVow_X4_asSaying : GoodIn wsX4_asVow (wsV RX4 225 RX4 yX4_asSaying wsX4_asSaying) := goodIn_app (goodIn_of _ (by decide +kernel)) ggX4_asVow_X4_asSaying
set_option maxRecDepth 20000 in
theorem ggX4_asVow_X0_strengthAfter : GoodIn wsX4_asVow wsX0_strengthAfter := goodIn_r _ [15, 16, 17, 18, 19, 20, 21, 22, 23, 24, 25, 26, 14, 27, 28, 29, 30, 31, 32, 33, 34, 35, 36, 37, 38, 39, 40, 41, 42, 43, 44, 53, 54, 55, 56, 57, 58, 59, 60, 61, 62, 63, 64, 65, 66, 67, 68] (by decide +kernel) (by decide +kernel)
set_option maxRecDepth 20000 in
theorem gX4_asVow_X0_strengthAfter : GoodIn wsX4_asVow (wsV RX4 91 RX0 yX0_strengthAfter wsX0_strengthAfter) := goodIn_app (goodIn_of _ (by decide +kernel)) ggX4_asVow_X0_strengthAfter
theorem dX4_asVow_0 : decode cX4_asVow 0 = .ok (.aload_n 0, 1) := by decide +kernel
theorem dX4_asVow_1 : decode cX4_asVow 1 = .ok (.dup, 1) := by decide +kernel
theorem dX4_asVow_2 : decode cX4_asVow 2 = .ok (.getfield 250, 3) := by decide +kernel
theorem dX4_asVow_5 : decode cX4_asVow 5 = .ok (.ldc2_w 271, 3) := by decide +kernel
theorem dX4_asVow_8 : decode cX4_asVow 8 = .ok (.ladd, 1) := by decide +kernel
theorem dX4_asVow_9 : decode cX4_asVow 9 = .ok (.putfield 250, 3) := by decide +kernel
theorem dX4_asVow_12 : decode cX4_asVow 12 = .ok (.aload_n 0, 1) := by decide +kernel
theorem dX4_asVow_13 : decode cX4_asVow 13 = .ok (.iload_n 1, 1) := by decide +kernel
theorem dX4_asVow_14 : decode cX4_asVow 14 = .ok (.invokevirtual 225, 3) := by decide +kernel
theorem dX4_asVow_17 : decode cX4_asVow 17 = .ok (.aload_n 0, 1) := by decide +kernel
theorem dX4_asVow_18 : decode cX4_asVow 18 = .ok (.getfield 41, 3) := by decide +kernel
theorem dX4_asVow_21 : decode cX4_asVow 21 = .ok (.iload_n 1, 1) := by decide +kernel
theorem dX4_asVow_22 : decode cX4_asVow 22 = .ok (.iconst 0, 1) := by decide +kernel
theorem dX4_asVow_23 : decode cX4_asVow 23 = .ok (.invokevirtual 91, 3) := by decide +kernel
theorem dX4_asVow_26 : decode cX4_asVow 26 = .ok (.iadd, 1) := by decide +kernel
theorem dX4_asVow_27 : decode cX4_asVow 27 = .ok (.ireturn, 1) := by decide +kernel
set_option maxRecDepth 20000 in
theorem ggX4_asRumour_X4_asSaying : GoodIn wsX4_asRumour wsX4_asSaying := goodIn_r _ [10, 1, 3, 4, 11, 12, 13, 14, 15, 16, 17, 18, 19, 20, 21, 22, 23, 24, 25, 26, 27, 28, 29, 30, 31, 32, 33, 34, 35] (by decide +kernel) (by decide +kernel)
set_option maxRecDepth 20000 in
theorem gX4_asRumour_X4_asSaying : GoodIn wsX4_asRumour (wsV RX4 225 RX4 yX4_asSaying wsX4_asSaying) := goodIn_app (goodIn_of _ (by decide +kernel)) ggX4_asRumour_X4_asSaying
theorem dX4_asRumour_0 : decode cX4_asRumour 0 = .ok (.aload_n 0, 1) := by decide +kernel
theorem dX4_asRumour_1 : decode cX4_asRumour 1 = .ok (.dup, 1) := by decide +kernel
theorem dX4_asRumour_2 : decode cX4_asRumour 2 = .ok (.getfield 250, 3) := by decide +kernel
theorem dX4_asRumour_5 : decode cX4_asRumour 5 = .ok (.ldc2_w 273, 3) := by decide +kernel
theorem dX4_asRumour_8 : decode cX4_asRumour 8 = .ok (.ladd, 1) := by decide +kernel
theorem dX4_asRumour_9 : decode cX4_asRumour 9 = .ok (.putfield 250, 3) := by decide +kernel
theorem dX4_asRumour_12 : decode cX4_asRumour 12 = .ok (.aload_n 0, 1) := by decide +kernel
theorem dX4_asRumour_13 : decode cX4_asRumour 13 = .ok (.iload_n 1, 1) := by decide +kernel
theorem dX4_asRumour_14 : decode cX4_asRumour 14 = .ok (.invokevirtual 225, 3) := by decide +kernel
theorem dX4_asRumour_17 : decode cX4_asRumour 17 = .ok (.aload_n 0, 1) := by decide +kernel
theorem dX4_asRumour_18 : decode cX4_asRumour 18 = .ok (.getfield 41, 3) := by decide +kernel
theorem dX4_asRumour_21 : decode cX4_asRumour 21 = .ok (.getfield 68, 3) := by decide +kernel
theorem dX4_asRumour_24 : decode cX4_asRumour 24 = .ok (.getfield 75, 3) := by decide +kernel
theorem dX4_asRumour_27 : decode cX4_asRumour 27 = .ok (.iload_n 1, 1) := by decide +kernel
theorem dX4_asRumour_28 : decode cX4_asRumour 28 = .ok (.iaload, 1) := by decide +kernel
theorem dX4_asRumour_29 : decode cX4_asRumour 29 = .ok (.isub, 1) := by decide +kernel
theorem dX4_asRumour_30 : decode cX4_asRumour 30 = .ok (.ireturn, 1) := by decide +kernel
set_option maxRecDepth 20000 in
theorem ggX4_asCurse_X4_asVow : GoodIn wsX4_asCurse wsX4_asVow := goodIn_r _ [7, 1, 8, 9, 10, 11, 12, 6, 13, 14, 15, 16, 17, 18, 19, 20, 21, 22, 23, 24, 25, 26, 27, 28, 29, 30, 31, 32, 33, 34, 35, 36, 37, 38, 39, 40, 41, 42, 43, 44, 45, 46, 47, 48, 49, 50, 51, 52, 53, 54, 55, 56, 57, 58, 59, 60, 61, 62, 63, 64, 65, 66, 67, 68, 69, 70, 71, 72, 73] (by decide +kernel) (by decide +kernel)
set_option maxRecDepth 20000 in
theorem gX4_asCurse_X4_asVow : GoodIn wsX4_asCurse (wsV RX4 228 RX4 yX4_asVow wsX4_asVow) := goodIn_app (goodIn_of _ (by decide +kernel)) ggX4_asCurse_X4_asVow
theorem dX4_asCurse_0 : decode cX4_asCurse 0 = .ok (.aload_n 0, 1) := by decide +kernel
theorem dX4_asCurse_1 : decode cX4_asCurse 1 = .ok (.dup, 1) := by decide +kernel
theorem dX4_asCurse_2 : decode cX4_asCurse 2 = .ok (.getfield 250, 3) := by decide +kernel
theorem dX4_asCurse_5 : decode cX4_asCurse 5 = .ok (.ldc2_w 275, 3) := by decide +kernel
theorem dX4_asCurse_8 : decode cX4_asCurse 8 = .ok (.ladd, 1) := by decide +kernel
theorem dX4_asCurse_9 : decode cX4_asCurse 9 = .ok (.putfield 250, 3) := by decide +kernel
theorem dX4_asCurse_12 : decode cX4_asCurse 12 = .ok (.aload_n 0, 1) := by decide +kernel
theorem dX4_asCurse_13 : decode cX4_asCurse 13 = .ok (.iload_n 1, 1) := by decide +kernel
theorem dX4_asCurse_14 : decode cX4_asCurse 14 = .ok (.invokevirtual 228, 3) := by decide +kernel
theorem dX4_asCurse_17 : decode cX4_asCurse 17 = .ok (.iconst 2, 1) := by decide +kernel
theorem dX4_asCurse_18 : decode cX4_asCurse 18 = .ok (.imul, 1) := by decide +kernel
theorem dX4_asCurse_19 : decode cX4_asCurse 19 = .ok (.ireturn, 1) := by decide +kernel
set_option maxRecDepth 20000 in
theorem ggX4_asLie_X4_asRumour : GoodIn wsX4_asLie wsX4_asRumour := goodIn_r _ [7, 1, 8, 9, 10, 11, 12, 13, 14, 6, 15, 16, 17, 18, 19, 20, 21, 22, 23, 24, 25, 26, 27, 28, 29, 30, 31, 32, 33, 34, 35, 36, 37, 38, 39, 40] (by decide +kernel) (by decide +kernel)
set_option maxRecDepth 20000 in
theorem gX4_asLie_X4_asRumour : GoodIn wsX4_asLie (wsV RX4 231 RX4 yX4_asRumour wsX4_asRumour) := goodIn_app (goodIn_of _ (by decide +kernel)) ggX4_asLie_X4_asRumour
theorem dX4_asLie_0 : decode cX4_asLie 0 = .ok (.aload_n 0, 1) := by decide +kernel
theorem dX4_asLie_1 : decode cX4_asLie 1 = .ok (.dup, 1) := by decide +kernel
theorem dX4_asLie_2 : decode cX4_asLie 2 = .ok (.getfield 250, 3) := by decide +kernel
theorem dX4_asLie_5 : decode cX4_asLie 5 = .ok (.ldc2_w 277, 3) := by decide +kernel
theorem dX4_asLie_8 : decode cX4_asLie 8 = .ok (.ladd, 1) := by decide +kernel
theorem dX4_asLie_9 : decode cX4_asLie 9 = .ok (.putfield 250, 3) := by decide +kernel
theorem dX4_asLie_12 : decode cX4_asLie 12 = .ok (.aload_n 0, 1) := by decide +kernel
theorem dX4_asLie_13 : decode cX4_asLie 13 = .ok (.iload_n 1, 1) := by decide +kernel
theorem dX4_asLie_14 : decode cX4_asLie 14 = .ok (.invokevirtual 231, 3) := by decide +kernel
theorem dX4_asLie_17 : decode cX4_asLie 17 = .ok (.iload_n 1, 1) := by decide +kernel
theorem dX4_asLie_18 : decode cX4_asLie 18 = .ok (.iadd, 1) := by decide +kernel
theorem dX4_asLie_19 : decode cX4_asLie 19 = .ok (.ireturn, 1) := by decide +kernel
set_option maxRecDepth 20000 in
theorem ggX4_asHymn_X4_asSaying : GoodIn wsX4_asHymn wsX4_asSaying := goodIn_r _ [8, 1, 3, 9, 10, 35, 36, 37, 38, 39, 40, 41, 42, 43, 44, 45, 46, 47, 48, 49, 50, 51, 52, 53, 54, 55, 56, 57, 58] (by decide +kernel) (by decide +kernel)
set_option maxRecDepth 20000 in
theorem gX4_asHymn_X4_asSaying : GoodIn wsX4_asHymn (wsV RX4 225 RX4 yX4_asSaying wsX4_asSaying) := goodIn_app (goodIn_of _ (by decide +kernel)) ggX4_asHymn_X4_asSaying
set_option maxRecDepth 20000 in
theorem ggX4_asHymn_X0_placeAfter : GoodIn wsX4_asHymn wsX0_placeAfter := goodIn_r _ [15, 16, 17, 18, 19, 20, 21, 14, 22, 23, 24, 25, 26, 27, 28, 29, 30, 31, 32, 33, 34, 43, 44, 45, 46, 47, 48, 49, 50, 51, 52, 53, 54, 55, 56, 57, 58] (by decide +kernel) (by decide +kernel)
set_option maxRecDepth 20000 in
theorem gX4_asHymn_X0_placeAfter : GoodIn wsX4_asHymn (wsV RX4 84 RX0 yX0_placeAfter wsX0_placeAfter) := goodIn_app (goodIn_of _ (by decide +kernel)) ggX4_asHymn_X0_placeAfter
theorem dX4_asHymn_0 : decode cX4_asHymn 0 = .ok (.aload_n 0, 1) := by decide +kernel
theorem dX4_asHymn_1 : decode cX4_asHymn 1 = .ok (.dup, 1) := by decide +kernel
theorem dX4_asHymn_2 : decode cX4_asHymn 2 = .ok (.getfield 250, 3) := by decide +kernel
theorem dX4_asHymn_5 : decode cX4_asHymn 5 = .ok (.ldc2_w 279, 3) := by decide +kernel
theorem dX4_asHymn_8 : decode cX4_asHymn 8 = .ok (.ladd, 1) := by decide +kernel
theorem dX4_asHymn_9 : decode cX4_asHymn 9 = .ok (.putfield 250, 3) := by decide +kernel
theorem dX4_asHymn_12 : decode cX4_asHymn 12 = .ok (.aload_n 0, 1) := by decide +kernel
theorem dX4_asHymn_13 : decode cX4_asHymn 13 = .ok (.iload_n 1, 1) := by decide +kernel
theorem dX4_asHymn_14 : decode cX4_asHymn 14 = .ok (.invokevirtual 225, 3) := by decide +kernel
theorem dX4_asHymn_17 : decode cX4_asHymn 17 = .ok (.aload_n 0, 1) := by decide +kernel
theorem dX4_asHymn_18 : decode cX4_asHymn 18 = .ok (.getfield 41, 3) := by decide +kernel
theorem dX4_asHymn_21 : decode cX4_asHymn 21 = .ok (.iload_n 1, 1) := by decide +kernel
theorem dX4_asHymn_22 : decode cX4_asHymn 22 = .ok (.iconst 0, 1) := by decide +kernel
theorem dX4_asHymn_23 : decode cX4_asHymn 23 = .ok (.invokevirtual 84, 3) := by decide +kernel
theorem dX4_asHymn_26 : decode cX4_asHymn 26 = .ok (.iadd, 1) := by decide +kernel
theorem dX4_asHymn_27 : decode cX4_asHymn 27 = .ok (.ireturn, 1) := by decide +kernel
theorem dX5_init_0 : decode cX5_init 0 = .ok (.aload_n 0, 1) := by decide +kernel
theorem dX5_init_1 : decode cX5_init 1 = .ok (.invokespecial 1, 3) := by decide +kernel
theorem dX5_init_4 : decode cX5_init 4 = .ok (.aload_n 0, 1) := by decide +kernel
theorem dX5_init_5 : decode cX5_init 5 = .ok (.bipush 120, 2) := by decide +kernel
theorem dX5_init_7 : decode cX5_init 7 = .ok (.newarray .int, 2) := by decide +kernel
theorem dX5_init_9 : decode cX5_init 9 = .ok (.putfield 7, 3) := by decide +kernel
theorem dX5_init_12 : decode cX5_init 12 = .ok (.aload_n 0, 1) := by decide +kernel
theorem dX5_init_13 : decode cX5_init 13 = .ok (.bipush 12, 2) := by decide +kernel
theorem dX5_init_15 : decode cX5_init 15 = .ok (.putfield 13, 3) := by decide +kernel
theorem dX5_init_18 : decode cX5_init 18 = .ok (.aload_n 0, 1) := by decide +kernel
theorem dX5_init_19 : decode cX5_init 19 = .ok (.iconst 1, 1) := by decide +kernel
theorem dX5_init_20 : decode cX5_init 20 = .ok (.putfield 17, 3) := by decide +kernel
theorem dX5_init_23 : decode cX5_init 23 = .ok (.aload_n 0, 1) := by decide +kernel
theorem dX5_init_24 : decode cX5_init 24 = .ok (.bipush 50, 2) := by decide +kernel
theorem dX5_init_26 : decode cX5_init 26 = .ok (.newarray .int, 2) := by decide +kernel
theorem dX5_init_28 : decode cX5_init 28 = .ok (.putfield 20, 3) := by decide +kernel
theorem dX5_init_31 : decode cX5_init 31 = .ok (.aload_n 0, 1) := by decide +kernel
theorem dX5_init_32 : decode cX5_init 32 = .ok (.sipush 500, 3) := by decide +kernel
theorem dX5_init_35 : decode cX5_init 35 = .ok (.newarray .int, 2) := by decide +kernel
theorem dX5_init_37 : decode cX5_init 37 = .ok (.putfield 23, 3) := by decide +kernel
theorem dX5_init_40 : decode cX5_init 40 = .ok (.aload_n 0, 1) := by decide +kernel
theorem dX5_init_41 : decode cX5_init 41 = .ok (.sipush 1102, 3) := by decide +kernel
theorem dX5_init_44 : decode cX5_init 44 = .ok (.newarray .int, 2) := by decide +kernel
theorem dX5_init_46 : decode cX5_init 46 = .ok (.putfield 26, 3) := by decide +kernel
theorem dX5_init_49 : decode cX5_init 49 = .ok (.aload_n 0, 1) := by decide +kernel
theorem dX5_init_50 : decode cX5_init 50 = .ok (.iconst 2, 1) := by decide +kernel
theorem dX5_init_51 : decode cX5_init 51 = .ok (.newarray .boolean, 2) := by decide +kernel
theorem dX5_init_53 : decode cX5_init 53 = .ok (.putfield 29, 3) := by decide +kernel
theorem dX5_init_56 : decode cX5_init 56 = .ok (.aload_n 0, 1) := by decide +kernel
theorem dX5_init_57 : decode cX5_init 57 = .ok (.bipush 18, 2) := by decide +kernel
theorem dX5_init_59 : decode cX5_init 59 = .ok (.newarray .int, 2) := by decide +kernel
theorem dX5_init_61 : decode cX5_init 61 = .ok (.putfield 33, 3) := by decide +kernel
theorem dX5_init_64 : decode cX5_init 64 = .ok (.aload_n 0, 1) := by decide +kernel
theorem dX5_init_65 : decode cX5_init 65 = .ok (.bipush 50, 2) := by decide +kernel
theorem dX5_init_67 : decode cX5_init 67 = .ok (.newarray .int, 2) := by decide +kernel
theorem dX5_init_69 : decode cX5_init 69 = .ok (.putfield 36, 3) := by decide +kernel
theorem dX5_init_72 : decode cX5_init 72 = .ok (.return_, 1) := by decide +kernel
theorem dX5_in_0 : decode cX5_in 0 = .ok (.iload_n 0, 1) := by decide +kernel
theorem dX5_in_1 : decode cX5_in 1 = .ok (.iload_n 1, 1) := by decide +kernel
theorem dX5_in_2 : decode cX5_in 2 = .ok (.if_icmp .lt 12, 3) := by decide +kernel
theorem dX5_in_5 : decode cX5_in 5 = .ok (.iload_n 0, 1) := by decide +kernel
theorem dX5_in_6 : decode cX5_in 6 = .ok (.iload_n 2, 1) := by decide +kernel
theorem dX5_in_7 : decode cX5_in 7 = .ok (.if_icmp .gt 7, 3) := by decide +kernel
theorem dX5_in_10 : decode cX5_in 10 = .ok (.iconst 1, 1) := by decide +kernel
theorem dX5_in_11 : decode cX5_in 11 = .ok (.goto 4, 3) := by decide +kernel
theorem dX5_in_14 : decode cX5_in 14 = .ok (.iconst 0, 1) := by decide +kernel
theorem dX5_in_15 : decode cX5_in 15 = .ok (.ireturn, 1) := by decide +kernel
theorem dX5_has_0 : decode cX5_has 0 = .ok (.iload_n 0, 1) := by decide +kernel
theorem dX5_has_1 : decode cX5_has 1 = .ok (.iload_n 1, 1) := by decide +kernel
theorem dX5_has_2 : decode cX5_has 2 = .ok (.ishr, 1) := by decide +kernel
theorem dX5_has_3 : decode cX5_has 3 = .ok (.iconst 1, 1) := by decide +kernel
theorem dX5_has_4 : decode cX5_has 4 = .ok (.iand, 1) := by decide +kernel
theorem dX5_has_5 : decode cX5_has 5 = .ok (.iconst 1, 1) := by decide +kernel
theorem dX5_has_6 : decode cX5_has 6 = .ok (.if_icmp .ne 7, 3) := by decide +kernel
theorem dX5_has_9 : decode cX5_has 9 = .ok (.iconst 1, 1) := by decide +kernel
theorem dX5_has_10 : decode cX5_has 10 = .ok (.goto 4, 3) := by decide +kernel
theorem dX5_has_13 : decode cX5_has 13 = .ok (.iconst 0, 1) := by decide +kernel
theorem dX5_has_14 : decode cX5_has 14 = .ok (.ireturn, 1) := by decide +kernel
theorem dX5_bits_0 : decode cX5_bits 0 = .ok (.iconst 0, 1) := by decide +kernel
theorem dX5_bits_1 : decode cX5_bits 1 = .ok (.istore_n 1, 1) := by decide +kernel
theorem dX5_bits_2 : decode cX5_bits 2 = .ok (.iload_n 0, 1) := by decide +kernel
theorem dX5_bits_3 : decode cX5_bits 3 = .ok (.istore_n 2, 1) := by decide +kernel
theorem dX5_bits_4 : decode cX5_bits 4 = .ok (.iload_n 2, 1) := by decide +kernel
theorem dX5_bits_5 : decode cX5_bits 5 = .ok (.ifCond .eq 15, 3) := by decide +kernel
theorem dX5_bits_8 : decode cX5_bits 8 = .ok (.iinc 1 1, 3) := by decide +kernel
theorem dX5_bits_11 : decode cX5_bits 11 = .ok (.iload_n 2, 1) := by decide +kernel
theorem dX5_bits_12 : decode cX5_bits 12 = .ok (.iload_n 2, 1) := by decide +kernel
theorem dX5_bits_13 : decode cX5_bits 13 = .ok (.iconst 1, 1) := by decide +kernel
theorem dX5_bits_14 : decode cX5_bits 14 = .ok (.isub, 1) := by decide +kernel
theorem dX5_bits_15 : decode cX5_bits 15 = .ok (.iand, 1) := by decide +kernel
theorem dX5_bits_16 : decode cX5_bits 16 = .ok (.istore_n 2, 1) := by decide +kernel
theorem dX5_bits_17 : decode cX5_bits 17 = .ok (.goto (-13), 3) := by decide +kernel
theorem dX5_bits_20 : decode cX5_bits 20 = .ok (.iload_n 1, 1) := by decide +kernel
theorem dX5_bits_21 : decode cX5_bits 21 = .ok (.ireturn, 1) := by decide +kernel
theorem dX5_bring_0 : decode cX5_bring 0 = .ok (.iconst 0, 1) := by decide +kernel
theorem dX5_bring_1 : decode cX5_bring 1 = .ok (.istore 5, 2) := by decide +kernel
theorem dX5_bring_3 : decode cX5_bring 3 = .ok (.iload 5, 2) := by decide +kernel
theorem dX5_bring_5 : decode cX5_bring 5 = .ok (.iload 4, 2) := by decide +kernel
theorem dX5_bring_7 : decode cX5_bring 7 = .ok (.if_icmp .ge 21, 3) := by decide +kernel
theorem dX5_bring_10 : decode cX5_bring 10 = .ok (.aload_n 2, 1) := by decide +kernel
theorem dX5_bring_11 : decode cX5_bring 11 = .ok (.iload_n 3, 1) := by decide +kernel
theorem dX5_bring_12 : decode cX5_bring 12 = .ok (.iload 5, 2) := by decide +kernel
theorem dX5_bring_14 : decode cX5_bring 14 = .ok (.iadd, 1) := by decide +kernel
theorem dX5_bring_15 : decode cX5_bring 15 = .ok (.aload_n 0, 1) := by decide +kernel
theorem dX5_bring_16 : decode cX5_bring 16 = .ok (.iload_n 1, 1) := by decide +kernel
theorem dX5_bring_17 : decode cX5_bring 17 = .ok (.iload 5, 2) := by decide +kernel
theorem dX5_bring_19 : decode cX5_bring 19 = .ok (.iadd, 1) := by decide +kernel
theorem dX5_bring_20 : decode cX5_bring 20 = .ok (.iaload, 1) := by decide +kernel
theorem dX5_bring_21 : decode cX5_bring 21 = .ok (.iastore, 1) := by decide +kernel
theorem dX5_bring_22 : decode cX5_bring 22 = .ok (.iinc 5 1, 3) := by decide +kernel
theorem dX5_bring_25 : decode cX5_bring 25 = .ok (.goto (-22), 3) := by decide +kernel
theorem dX5_bring_28 : decode cX5_bring 28 = .ok (.return_, 1) := by decide +kernel
set_option maxRecDepth 20000 in
theorem ggX5_isSaying_X5_in : GoodIn wsX5_isSaying wsX5_in := goodIn_r _ [5] (by decide +kernel) (by decide +kernel)
set_option maxRecDepth 20000 in
theorem gX5_isSaying_X5_in : GoodIn wsX5_isSaying (va_wsS RX5 39 yX5_in wsX5_in) := goodIn_app (goodIn_of _ (by decide +kernel)) ggX5_isSaying_X5_in
theorem dX5_isSaying_0 : decode cX5_isSaying 0 = .ok (.iload_n 1, 1) := by decide +kernel
theorem dX5_isSaying_1 : decode cX5_isSaying 1 = .ok (.iconst 0, 1) := by decide +kernel
theorem dX5_isSaying_2 : decode cX5_isSaying 2 = .ok (.aload_n 0, 1) := by decide +kernel
theorem dX5_isSaying_3 : decode cX5_isSaying 3 = .ok (.getfield 20, 3) := by decide +kernel
theorem dX5_isSaying_6 : decode cX5_isSaying 6 = .ok (.iconst 1, 1) := by decide +kernel
theorem dX5_isSaying_7 : decode cX5_isSaying 7 = .ok (.iaload, 1) := by decide +kernel
theorem dX5_isSaying_8 : decode cX5_isSaying 8 = .ok (.iconst 1, 1) := by decide +kernel
theorem dX5_isSaying_9 : decode cX5_isSaying 9 = .ok (.isub, 1) := by decide +kernel
theorem dX5_isSaying_10 : decode cX5_isSaying 10 = .ok (.invokestatic 39, 3) := by decide +kernel
theorem dX5_isSaying_13 : decode cX5_isSaying 13 = .ok (.ireturn, 1) := by decide +kernel
set_option maxRecDepth 20000 in
theorem ggX5_isPlace_X5_in : GoodIn wsX5_isPlace wsX5_in := goodIn_r _ [5] (by decide +kernel) (by decide +kernel)
set_option maxRecDepth 20000 in
theorem gX5_isPlace_X5_in : GoodIn wsX5_isPlace (va_wsS RX5 39 yX5_in wsX5_in) := goodIn_app (goodIn_of _ (by decide +kernel)) ggX5_isPlace_X5_in
theorem dX5_isPlace_0 : decode cX5_isPlace 0 = .ok (.iload_n 1, 1) := by decide +kernel
theorem dX5_isPlace_1 : decode cX5_isPlace 1 = .ok (.iconst 0, 1) := by decide +kernel
theorem dX5_isPlace_2 : decode cX5_isPlace 2 = .ok (.aload_n 0, 1) := by decide +kernel
theorem dX5_isPlace_3 : decode cX5_isPlace 3 = .ok (.getfield 13, 3) := by decide +kernel
theorem dX5_isPlace_6 : decode cX5_isPlace 6 = .ok (.iconst 1, 1) := by decide +kernel
theorem dX5_isPlace_7 : decode cX5_isPlace 7 = .ok (.isub, 1) := by decide +kernel
theorem dX5_isPlace_8 : decode cX5_isPlace 8 = .ok (.invokestatic 39, 3) := by decide +kernel
theorem dX5_isPlace_11 : decode cX5_isPlace 11 = .ok (.ireturn, 1) := by decide +kernel
set_option maxRecDepth 20000 in
theorem ggX5_type_X5_in : GoodIn wsX5_type wsX5_in := goodIn_r _ [6] (by decide +kernel) (by decide +kernel)
set_option maxRecDepth 20000 in
theorem gX5_type_X5_in : GoodIn wsX5_type (va_wsS RX5 39 yX5_in wsX5_in) := goodIn_app (goodIn_of _ (by decide +kernel)) ggX5_type_X5_in
theorem dX5_type_0 : decode cX5_type 0 = .ok (.iload_n 1, 1) := by decide +kernel
theorem dX5_type_1 : decode cX5_type 1 = .ok (.iconst 0, 1) := by decide +kernel
theorem dX5_type_2 : decode cX5_type 2 = .ok (.sipush 255, 3) := by decide +kernel
theorem dX5_type_5 : decode cX5_type 5 = .ok (.invokestatic 39, 3) := by decide +kernel
theorem dX5_type_8 : decode cX5_type 8 = .ok (.ifCond .ne 5, 3) := by decide +kernel
theorem dX5_type_11 : decode cX5_type 11 = .ok (.iconst (-1), 1) := by decide +kernel
theorem dX5_type_12 : decode cX5_type 12 = .ok (.ireturn, 1) := by decide +kernel
theorem dX5_type_13 : decode cX5_type 13 = .ok (.aload_n 0, 1) := by decide +kernel
theorem dX5_type_14 : decode cX5_type 14 = .ok (.getfield 43, 3) := by decide +kernel
theorem dX5_type_17 : decode cX5_type 17 = .ok (.bipush 120, 2) := by decide +kernel
theorem dX5_type_19 : decode cX5_type 19 = .ok (.if_icmp .ne 6, 3) := by decide +kernel
theorem dX5_type_22 : decode cX5_type 22 = .ok (.bipush (-3), 2) := by decide +kernel
theorem dX5_type_24 : decode cX5_type 24 = .ok (.ireturn, 1) := by decide +kernel
theorem dX5_type_25 : decode cX5_type 25 = .ok (.aload_n 0, 1) := by decide +kernel
theorem dX5_type_26 : decode cX5_type 26 = .ok (.getfield 7, 3) := by decide +kernel
theorem dX5_type_29 : decode cX5_type 29 = .ok (.aload_n 0, 1) := by decide +kernel
theorem dX5_type_30 : decode cX5_type 30 = .ok (.getfield 43, 3) := by decide +kernel
theorem dX5_type_33 : decode cX5_type 33 = .ok (.iload_n 1, 1) := by decide +kernel
theorem dX5_type_34 : decode cX5_type 34 = .ok (.iastore, 1) := by decide +kernel
theorem dX5_type_35 : decode cX5_type 35 = .ok (.aload_n 0, 1) := by decide +kernel
theorem dX5_type_36 : decode cX5_type 36 = .ok (.dup, 1) := by decide +kernel
theorem dX5_type_37 : decode cX5_type 37 = .ok (.getfield 43, 3) := by decide +kernel
theorem dX5_type_40 : decode cX5_type 40 = .ok (.iconst 1, 1) := by decide +kernel
theorem dX5_type_41 : decode cX5_type 41 = .ok (.iadd, 1) := by decide +kernel
theorem dX5_type_42 : decode cX5_type 42 = .ok (.putfield 43, 3) := by decide +kernel
theorem dX5_type_45 : decode cX5_type 45 = .ok (.aload_n 0, 1) := by decide +kernel
theorem dX5_type_46 : decode cX5_type 46 = .ok (.getfield 43, 3) := by decide +kernel
theorem dX5_type_49 : decode cX5_type 49 = .ok (.ireturn, 1) := by decide +kernel
theorem dX5_clear_0 : decode cX5_clear 0 = .ok (.aload_n 0, 1) := by decide +kernel
theorem dX5_clear_1 : decode cX5_clear 1 = .ok (.getfield 43, 3) := by decide +kernel
theorem dX5_clear_4 : decode cX5_clear 4 = .ok (.istore_n 1, 1) := by decide +kernel
theorem dX5_clear_5 : decode cX5_clear 5 = .ok (.aload_n 0, 1) := by decide +kernel
theorem dX5_clear_6 : decode cX5_clear 6 = .ok (.iconst 0, 1) := by decide +kernel
theorem dX5_clear_7 : decode cX5_clear 7 = .ok (.putfield 43, 3) := by decide +kernel
theorem dX5_clear_10 : decode cX5_clear 10 = .ok (.iload_n 1, 1) := by decide +kernel
theorem dX5_clear_11 : decode cX5_clear 11 = .ok (.ireturn, 1) := by decide +kernel
theorem dX5_here_0 : decode cX5_here 0 = .ok (.aload_n 0, 1) := by decide +kernel
theorem dX5_here_1 : decode cX5_here 1 = .ok (.getfield 46, 3) := by decide +kernel
theorem dX5_here_4 : decode cX5_here 4 = .ok (.aload_n 0, 1) := by decide +kernel
theorem dX5_here_5 : decode cX5_here 5 = .ok (.getfield 43, 3) := by decide +kernel
theorem dX5_here_8 : decode cX5_here 8 = .ok (.if_icmp .ge 15, 3) := by decide +kernel
theorem dX5_here_11 : decode cX5_here 11 = .ok (.aload_n 0, 1) := by decide +kernel
theorem dX5_here_12 : decode cX5_here 12 = .ok (.getfield 7, 3) := by decide +kernel
theorem dX5_here_15 : decode cX5_here 15 = .ok (.aload_n 0, 1) := by decide +kernel
theorem dX5_here_16 : decode cX5_here 16 = .ok (.getfield 46, 3) := by decide +kernel
theorem dX5_here_19 : decode cX5_here 19 = .ok (.iaload, 1) := by decide +kernel
theorem dX5_here_20 : decode cX5_here 20 = .ok (.goto 4, 3) := by decide +kernel
theorem dX5_here_23 : decode cX5_here 23 = .ok (.iconst (-1), 1) := by decide +kernel
theorem dX5_here_24 : decode cX5_here 24 = .ok (.ireturn, 1) := by decide +kernel
set_option maxRecDepth 20000 in
theorem ggX5_skips_X5_here : GoodIn wsX5_skips wsX5_here := goodIn_r _ [6, 1, 7, 8, 9, 10, 11, 12, 13, 14, 15, 16, 17, 18, 19, 20, 21, 22, 23, 24, 25, 26, 27, 28, 29] (by decide +kernel) (by decide +kernel)
set_option maxRecDepth 20000 in
theorem gX5_skips_X5_here : GoodIn wsX5_skips (wsV RX5 49 RX5 yX5_here wsX5_here) := goodIn_app (goodIn_of _ (by decide +kernel)) ggX5_skips_X5_here
theorem dX5_skips_0 : decode cX5_skips 0 = .ok (.aload_n 0, 1) := by decide +kernel
theorem dX5_skips_1 : decode cX5_skips 1 = .ok (.invokevirtual 49, 3) := by decide +kernel
theorem dX5_skips_4 : decode cX5_skips 4 = .ok (.bipush 32, 2) := by decide +kernel
theorem dX5_skips_6 : decode cX5_skips 6 = .ok (.if_icmp .ne 16, 3) := by decide +kernel
theorem dX5_skips_9 : decode cX5_skips 9 = .ok (.aload_n 0, 1) := by decide +kernel
theorem dX5_skips_10 : decode cX5_skips 10 = .ok (.dup, 1) := by decide +kernel
theorem dX5_skips_11 : decode cX5_skips 11 = .ok (.getfield 46, 3) := by decide +kernel
theorem dX5_skips_14 : decode cX5_skips 14 = .ok (.iconst 1, 1) := by decide +kernel
theorem dX5_skips_15 : decode cX5_skips 15 = .ok (.iadd, 1) := by decide +kernel
theorem dX5_skips_16 : decode cX5_skips 16 = .ok (.putfield 46, 3) := by decide +kernel
theorem dX5_skips_19 : decode cX5_skips 19 = .ok (.goto (-19), 3) := by decide +kernel
theorem dX5_skips_22 : decode cX5_skips 22 = .ok (.return_, 1) := by decide +kernel
set_option maxRecDepth 20000 in
theorem ggX5_number_X5_skips : GoodIn wsX5_number wsX5_skips := goodIn_r _ [9, 2, 10, 11, 12, 8, 13, 3, 4, 17, 18, 19, 20, 21, 22, 23, 24, 25, 26, 27, 28, 29, 30, 31, 32, 33, 34, 35, 36, 37] (by decide +kernel) (by decide +kernel)
set_option maxRecDepth 20000 in
theorem gX5_number_X5_skips : GoodIn wsX5_number (wsV RX5 56 RX5 yX5_skips wsX5_skips) := goodIn_app (goodIn_of _ (by decide +kernel)) ggX5_number_X5_skips
set_option maxRecDepth 20000 in
theorem ggX5_number_X5_in : GoodIn wsX5_number wsX5_in := goodIn_r _ [16] (by decide +kernel) (by decide +kernel)
set_option maxRecDepth 20000 in
theorem gX5_number_X5_in : GoodIn wsX5_number (va_wsS RX5 39 yX5_in wsX5_in) := goodIn_app (goodIn_of _ (by decide +kernel)) ggX5_number_X5_in
set_option maxRecDepth 20000 in
theorem ggX5_number_X5_here : GoodIn wsX5_number wsX5_here := goodIn_r _ [13, 2, 3, 4, 17, 18, 19, 20, 21, 22, 23, 24, 25, 26, 27, 28, 29, 30, 31, 32, 33, 34, 35, 36, 37] (by decide +kernel) (by decide +kernel)
set_option maxRecDepth 20000 in
theorem gX5_number_X5_here : GoodIn wsX5_number (wsV RX5 49 RX5 yX5_here wsX5_here) := goodIn_app (goodIn_of _ (by decide +kernel)) ggX5_number_X5_here
theorem dX5_number_0 : decode cX5_number 0 = .ok (.aload_n 0, 1) := by decide +kernel
theorem dX5_number_1 : decode cX5_number 1 = .ok (.getfield 53, 3) := by decide +kernel
theorem dX5_number_4 : decode cX5_number 4 = .ok (.ifCond .lt 5, 3) := by decide +kernel
theorem dX5_number_7 : decode cX5_number 7 = .ok (.iconst 0, 1) := by decide +kernel
theorem dX5_number_8 : decode cX5_number 8 = .ok (.ireturn, 1) := by decide +kernel
theorem dX5_number_9 : decode cX5_number 9 = .ok (.aload_n 0, 1) := by decide +kernel
theorem dX5_number_10 : decode cX5_number 10 = .ok (.invokevirtual 56, 3) := by decide +kernel
theorem dX5_number_13 : decode cX5_number 13 = .ok (.iconst 0, 1) := by decide +kernel
theorem dX5_number_14 : decode cX5_number 14 = .ok (.istore_n 3, 1) := by decide +kernel
theorem dX5_number_15 : decode cX5_number 15 = .ok (.iconst 0, 1) := by decide +kernel
theorem dX5_number_16 : decode cX5_number 16 = .ok (.istore 4, 2) := by decide +kernel
theorem dX5_number_18 : decode cX5_number 18 = .ok (.aload_n 0, 1) := by decide +kernel
theorem dX5_number_19 : decode cX5_number 19 = .ok (.getfield 46, 3) := by decide +kernel
theorem dX5_number_22 : decode cX5_number 22 = .ok (.iload_n 3, 1) := by decide +kernel
theorem dX5_number_23 : decode cX5_number 23 = .ok (.iadd, 1) := by decide +kernel
theorem dX5_number_24 : decode cX5_number 24 = .ok (.aload_n 0, 1) := by decide +kernel
theorem dX5_number_25 : decode cX5_number 25 = .ok (.getfield 43, 3) := by decide +kernel
theorem dX5_number_28 : decode cX5_number 28 = .ok (.if_icmp .ge 62, 3) := by decide +kernel
theorem dX5_number_31 : decode cX5_number 31 = .ok (.aload_n 0, 1) := by decide +kernel
theorem dX5_number_32 : decode cX5_number 32 = .ok (.getfield 7, 3) := by decide +kernel
theorem dX5_number_35 : decode cX5_number 35 = .ok (.aload_n 0, 1) := by decide +kernel
theorem dX5_number_36 : decode cX5_number 36 = .ok (.getfield 46, 3) := by decide +kernel
theorem dX5_number_39 : decode cX5_number 39 = .ok (.iload_n 3, 1) := by decide +kernel
theorem dX5_number_40 : decode cX5_number 40 = .ok (.iadd, 1) := by decide +kernel
theorem dX5_number_41 : decode cX5_number 41 = .ok (.iaload, 1) := by decide +kernel
theorem dX5_number_42 : decode cX5_number 42 = .ok (.bipush 48, 2) := by decide +kernel
theorem dX5_number_44 : decode cX5_number 44 = .ok (.bipush 57, 2) := by decide +kernel
theorem dX5_number_46 : decode cX5_number 46 = .ok (.invokestatic 39, 3) := by decide +kernel
theorem dX5_number_49 : decode cX5_number 49 = .ok (.ifCond .eq 41, 3) := by decide +kernel
theorem dX5_number_52 : decode cX5_number 52 = .ok (.iload_n 3, 1) := by decide +kernel
theorem dX5_number_53 : decode cX5_number 53 = .ok (.iconst 3, 1) := by decide +kernel
theorem dX5_number_54 : decode cX5_number 54 = .ok (.if_icmp .ge 26, 3) := by decide +kernel
theorem dX5_number_57 : decode cX5_number 57 = .ok (.bipush 10, 2) := by decide +kernel
theorem dX5_number_59 : decode cX5_number 59 = .ok (.iload 4, 2) := by decide +kernel
theorem dX5_number_61 : decode cX5_number 61 = .ok (.imul, 1) := by decide +kernel
theorem dX5_number_62 : decode cX5_number 62 = .ok (.aload_n 0, 1) := by decide +kernel
theorem dX5_number_63 : decode cX5_number 63 = .ok (.getfield 7, 3) := by decide +kernel
theorem dX5_number_66 : decode cX5_number 66 = .ok (.aload_n 0, 1) := by decide +kernel
theorem dX5_number_67 : decode cX5_number 67 = .ok (.getfield 46, 3) := by decide +kernel
theorem dX5_number_70 : decode cX5_number 70 = .ok (.iload_n 3, 1) := by decide +kernel
theorem dX5_number_71 : decode cX5_number 71 = .ok (.iadd, 1) := by decide +kernel
theorem dX5_number_72 : decode cX5_number 72 = .ok (.iaload, 1) := by decide +kernel
theorem dX5_number_73 : decode cX5_number 73 = .ok (.iadd, 1) := by decide +kernel
theorem dX5_number_74 : decode cX5_number 74 = .ok (.bipush 48, 2) := by decide +kernel
theorem dX5_number_76 : decode cX5_number 76 = .ok (.isub, 1) := by decide +kernel
theorem dX5_number_77 : decode cX5_number 77 = .ok (.goto 5, 3) := by decide +kernel
theorem dX5_number_80 : decode cX5_number 80 = .ok (.iload 4, 2) := by decide +kernel
theorem dX5_number_82 : decode cX5_number 82 = .ok (.istore 4, 2) := by decide +kernel
theorem dX5_number_84 : decode cX5_number 84 = .ok (.iinc 3 1, 3) := by decide +kernel
theorem dX5_number_87 : decode cX5_number 87 = .ok (.goto (-69), 3) := by decide +kernel
theorem dX5_number_90 : decode cX5_number 90 = .ok (.iload_n 3, 1) := by decide +kernel
theorem dX5_number_91 : decode cX5_number 91 = .ok (.iconst 1, 1) := by decide +kernel
theorem dX5_number_92 : decode cX5_number 92 = .ok (.if_icmp .eq 17, 3) := by decide +kernel
theorem dX5_number_95 : decode cX5_number 95 = .ok (.iload_n 3, 1) := by decide +kernel
theorem dX5_number_96 : decode cX5_number 96 = .ok (.iconst 2, 1) := by decide +kernel
theorem dX5_number_97 : decode cX5_number 97 = .ok (.if_icmp .ne 16, 3) := by decide +kernel
theorem dX5_number_100 : decode cX5_number 100 = .ok (.aload_n 0, 1) := by decide +kernel
theorem dX5_number_101 : decode cX5_number 101 = .ok (.invokevirtual 49, 3) := by decide +kernel
theorem dX5_number_104 : decode cX5_number 104 = .ok (.bipush 48, 2) := by decide +kernel
theorem dX5_number_106 : decode cX5_number 106 = .ok (.if_icmp .eq 7, 3) := by decide +kernel
theorem dX5_number_109 : decode cX5_number 109 = .ok (.iconst 1, 1) := by decide +kernel
theorem dX5_number_110 : decode cX5_number 110 = .ok (.goto 4, 3) := by decide +kernel
theorem dX5_number_113 : decode cX5_number 113 = .ok (.iconst 0, 1) := by decide +kernel
theorem dX5_number_114 : decode cX5_number 114 = .ok (.istore 5, 2) := by decide +kernel
theorem dX5_number_116 : decode cX5_number 116 = .ok (.iload 5, 2) := by decide +kernel
theorem dX5_number_118 : decode cX5_number 118 = .ok (.ifCond .eq 13, 3) := by decide +kernel
theorem dX5_number_121 : decode cX5_number 121 = .ok (.iload 4, 2) := by decide +kernel
theorem dX5_number_123 : decode cX5_number 123 = .ok (.iload_n 1, 1) := by decide +kernel
theorem dX5_number_124 : decode cX5_number 124 = .ok (.iload_n 2, 1) := by decide +kernel
theorem dX5_number_125 : decode cX5_number 125 = .ok (.invokestatic 39, 3) := by decide +kernel
theorem dX5_number_128 : decode cX5_number 128 = .ok (.ifCond .ne 13, 3) := by decide +kernel
theorem dX5_number_131 : decode cX5_number 131 = .ok (.aload_n 0, 1) := by decide +kernel
theorem dX5_number_132 : decode cX5_number 132 = .ok (.aload_n 0, 1) := by decide +kernel
theorem dX5_number_133 : decode cX5_number 133 = .ok (.getfield 46, 3) := by decide +kernel
theorem dX5_number_136 : decode cX5_number 136 = .ok (.putfield 53, 3) := by decide +kernel
theorem dX5_number_139 : decode cX5_number 139 = .ok (.iconst 0, 1) := by decide +kernel
theorem dX5_number_140 : decode cX5_number 140 = .ok (.ireturn, 1) := by decide +kernel
theorem dX5_number_141 : decode cX5_number 141 = .ok (.aload_n 0, 1) := by decide +kernel
theorem dX5_number_142 : decode cX5_number 142 = .ok (.dup, 1) := by decide +kernel
theorem dX5_number_143 : decode cX5_number 143 = .ok (.getfield 46, 3) := by decide +kernel
theorem dX5_number_146 : decode cX5_number 146 = .ok (.iload_n 3, 1) := by decide +kernel
theorem dX5_number_147 : decode cX5_number 147 = .ok (.iadd, 1) := by decide +kernel
theorem dX5_number_148 : decode cX5_number 148 = .ok (.putfield 46, 3) := by decide +kernel
theorem dX5_number_151 : decode cX5_number 151 = .ok (.iload 4, 2) := by decide +kernel
theorem dX5_number_153 : decode cX5_number 153 = .ok (.ireturn, 1) := by decide +kernel
set_option maxRecDepth 20000 in
theorem ggX5_ends_X5_skips : GoodIn wsX5_ends wsX5_skips := goodIn_r _ [8, 2, 9, 10, 11, 7, 12, 13, 14, 15, 16, 17, 18, 19, 20, 21, 22, 23, 24, 25, 26, 27, 28, 29, 30, 31, 32, 33, 34, 35] (by decide +kernel) (by decide +kernel)
set_option maxRecDepth 20000 in
theorem gX5_ends_X5_skips : GoodIn wsX5_ends (wsV RX5 56 RX5 yX5_skips wsX5_skips) := goodIn_app (goodIn_of _ (by decide +kernel)) ggX5_ends_X5_skips
set_option maxRecDepth 20000 in
theorem ggX5_ends_X5_here : GoodIn wsX5_ends wsX5_here := goodIn_r _ [12, 2, 13, 14, 15, 16, 17, 18, 19, 20, 21, 22, 23, 24, 25, 26, 27, 28, 29, 30, 31, 32, 33, 34, 35] (by decide +kernel) (by decide +kernel)
set_option maxRecDepth 20000 in
theorem gX5_ends_X5_here : GoodIn wsX5_ends (wsV RX5 49 RX5 yX5_here wsX5_here) := goodIn_app (goodIn_of _ (by decide +kernel)) ggX5_ends_X5_here
theorem dX5_ends_0 : decode cX5_ends 0 = .ok (.aload_n 0, 1) := by decide +kernel
theorem dX5_ends_1 : decode cX5_ends 1 = .ok (.getfield 53, 3) := by decide +kernel
theorem dX5_ends_4 : decode cX5_ends 4 = .ok (.ifCond .lt 4, 3) := by decide +kernel
theorem dX5_ends_7 : decode cX5_ends 7 = .ok (.return_, 1) := by decide +kernel
theorem dX5_ends_8 : decode cX5_ends 8 = .ok (.aload_n 0, 1) := by decide +kernel
theorem dX5_ends_9 : decode cX5_ends 9 = .ok (.invokevirtual 56, 3) := by decide +kernel
theorem dX5_ends_12 : decode cX5_ends 12 = .ok (.aload_n 0, 1) := by decide +kernel
theorem dX5_ends_13 : decode cX5_ends 13 = .ok (.invokevirtual 49, 3) := by decide +kernel
theorem dX5_ends_16 : decode cX5_ends 16 = .ok (.bipush 59, 2) := by decide +kernel
theorem dX5_ends_18 : decode cX5_ends 18 = .ok (.if_icmp .ne 26, 3) := by decide +kernel
theorem dX5_ends_21 : decode cX5_ends 21 = .ok (.aload_n 0, 1) := by decide +kernel
theorem dX5_ends_22 : decode cX5_ends 22 = .ok (.dup, 1) := by decide +kernel
theorem dX5_ends_23 : decode cX5_ends 23 = .ok (.getfield 46, 3) := by decide +kernel
theorem dX5_ends_26 : decode cX5_ends 26 = .ok (.iconst 1, 1) := by decide +kernel
theorem dX5_ends_27 : decode cX5_ends 27 = .ok (.iadd, 1) := by decide +kernel
theorem dX5_ends_28 : decode cX5_ends 28 = .ok (.putfield 46, 3) := by decide +kernel
theorem dX5_ends_31 : decode cX5_ends 31 = .ok (.aload_n 0, 1) := by decide +kernel
theorem dX5_ends_32 : decode cX5_ends 32 = .ok (.dup, 1) := by decide +kernel
theorem dX5_ends_33 : decode cX5_ends 33 = .ok (.getfield 59, 3) := by decide +kernel
theorem dX5_ends_36 : decode cX5_ends 36 = .ok (.iconst 1, 1) := by decide +kernel
theorem dX5_ends_37 : decode cX5_ends 37 = .ok (.iadd, 1) := by decide +kernel
theorem dX5_ends_38 : decode cX5_ends 38 = .ok (.putfield 59, 3) := by decide +kernel
theorem dX5_ends_41 : decode cX5_ends 41 = .ok (.goto 11, 3) := by decide +kernel
theorem dX5_ends_44 : decode cX5_ends 44 = .ok (.aload_n 0, 1) := by decide +kernel
theorem dX5_ends_45 : decode cX5_ends 45 = .ok (.aload_n 0, 1) := by decide +kernel
theorem dX5_ends_46 : decode cX5_ends 46 = .ok (.getfield 46, 3) := by decide +kernel
theorem dX5_ends_49 : decode cX5_ends 49 = .ok (.putfield 53, 3) := by decide +kernel
theorem dX5_ends_52 : decode cX5_ends 52 = .ok (.return_, 1) := by decide +kernel
set_option maxRecDepth 20000 in
theorem ggX5_readSaying_X5_number : GoodIn wsX5_readSaying wsX5_number := goodIn_r _ [7, 8, 9, 10, 11, 12, 13, 14, 6, 15, 16, 17, 18, 19, 20, 21, 22, 28, 29, 30, 31, 32, 33, 34, 35, 36, 37, 38, 39, 40, 41, 42, 43, 44, 45, 46, 47, 48] (by decide +kernel) (by decide +kernel)
set_option maxRecDepth 20000 in
theorem gX5_readSaying_X5_number : GoodIn wsX5_readSaying (wsV RX5 65 RX5 yX5_number wsX5_number) := goodIn_app (goodIn_of _ (by decide +kernel)) ggX5_readSaying_X5_number
set_option maxRecDepth 20000 in
theorem ggX5_readSaying_X5_ends : GoodIn wsX5_readSaying wsX5_ends := goodIn_r _ [26, 8, 9, 27, 12, 13, 14, 6, 15, 16, 17, 18, 19, 10, 11, 28, 29, 30, 31, 32, 33, 34, 35, 36, 37, 38, 39, 40, 41, 42, 43, 44, 45, 46, 47, 48] (by decide +kernel) (by decide +kernel)
set_option maxRecDepth 20000 in
theorem gX5_readSaying_X5_ends : GoodIn wsX5_readSaying (wsV RX5 69 RX5 yX5_ends wsX5_ends) := goodIn_app (goodIn_of _ (by decide +kernel)) ggX5_readSaying_X5_ends
theorem dX5_readSaying_0 : decode cX5_readSaying 0 = .ok (.aload_n 0, 1) := by decide +kernel
theorem dX5_readSaying_1 : decode cX5_readSaying 1 = .ok (.getfield 36, 3) := by decide +kernel
theorem dX5_readSaying_4 : decode cX5_readSaying 4 = .ok (.iconst 1, 1) := by decide +kernel
theorem dX5_readSaying_5 : decode cX5_readSaying 5 = .ok (.iaload, 1) := by decide +kernel
theorem dX5_readSaying_6 : decode cX5_readSaying 6 = .ok (.istore_n 1, 1) := by decide +kernel
theorem dX5_readSaying_7 : decode cX5_readSaying 7 = .ok (.aload_n 0, 1) := by decide +kernel
theorem dX5_readSaying_8 : decode cX5_readSaying 8 = .ok (.getfield 36, 3) := by decide +kernel
theorem dX5_readSaying_11 : decode cX5_readSaying 11 = .ok (.iconst 2, 1) := by decide +kernel
theorem dX5_readSaying_12 : decode cX5_readSaying 12 = .ok (.iload_n 1, 1) := by decide +kernel
theorem dX5_readSaying_13 : decode cX5_readSaying 13 = .ok (.iadd, 1) := by decide +kernel
theorem dX5_readSaying_14 : decode cX5_readSaying 14 = .ok (.aload_n 0, 1) := by decide +kernel
theorem dX5_readSaying_15 : decode cX5_readSaying 15 = .ok (.iconst 0, 1) := by decide +kernel
theorem dX5_readSaying_16 : decode cX5_readSaying 16 = .ok (.aload_n 0, 1) := by decide +kernel
theorem dX5_readSaying_17 : decode cX5_readSaying 17 = .ok (.getfield 62, 3) := by decide +kernel
theorem dX5_readSaying_20 : decode cX5_readSaying 20 = .ok (.iconst 1, 1) := by decide +kernel
theorem dX5_readSaying_21 : decode cX5_readSaying 21 = .ok (.isub, 1) := by decide +kernel
theorem dX5_readSaying_22 : decode cX5_readSaying 22 = .ok (.invokevirtual 65, 3) := by decide +kernel
theorem dX5_readSaying_25 : decode cX5_readSaying 25 = .ok (.iastore, 1) := by decide +kernel
theorem dX5_readSaying_26 : decode cX5_readSaying 26 = .ok (.aload_n 0, 1) := by decide +kernel
theorem dX5_readSaying_27 : decode cX5_readSaying 27 = .ok (.getfield 36, 3) := by decide +kernel
theorem dX5_readSaying_30 : decode cX5_readSaying 30 = .ok (.bipush 10, 2) := by decide +kernel
theorem dX5_readSaying_32 : decode cX5_readSaying 32 = .ok (.iload_n 1, 1) := by decide +kernel
theorem dX5_readSaying_33 : decode cX5_readSaying 33 = .ok (.iadd, 1) := by decide +kernel
theorem dX5_readSaying_34 : decode cX5_readSaying 34 = .ok (.aload_n 0, 1) := by decide +kernel
theorem dX5_readSaying_35 : decode cX5_readSaying 35 = .ok (.iconst 1, 1) := by decide +kernel
theorem dX5_readSaying_36 : decode cX5_readSaying 36 = .ok (.bipush 6, 2) := by decide +kernel
theorem dX5_readSaying_38 : decode cX5_readSaying 38 = .ok (.invokevirtual 65, 3) := by decide +kernel
theorem dX5_readSaying_41 : decode cX5_readSaying 41 = .ok (.iastore, 1) := by decide +kernel
theorem dX5_readSaying_42 : decode cX5_readSaying 42 = .ok (.aload_n 0, 1) := by decide +kernel
theorem dX5_readSaying_43 : decode cX5_readSaying 43 = .ok (.getfield 36, 3) := by decide +kernel
theorem dX5_readSaying_46 : decode cX5_readSaying 46 = .ok (.bipush 18, 2) := by decide +kernel
theorem dX5_readSaying_48 : decode cX5_readSaying 48 = .ok (.iload_n 1, 1) := by decide +kernel
theorem dX5_readSaying_49 : decode cX5_readSaying 49 = .ok (.iadd, 1) := by decide +kernel
theorem dX5_readSaying_50 : decode cX5_readSaying 50 = .ok (.aload_n 0, 1) := by decide +kernel
theorem dX5_readSaying_51 : decode cX5_readSaying 51 = .ok (.iconst 0, 1) := by decide +kernel
theorem dX5_readSaying_52 : decode cX5_readSaying 52 = .ok (.iconst 1, 1) := by decide +kernel
theorem dX5_readSaying_53 : decode cX5_readSaying 53 = .ok (.invokevirtual 65, 3) := by decide +kernel
theorem dX5_readSaying_56 : decode cX5_readSaying 56 = .ok (.iastore, 1) := by decide +kernel
theorem dX5_readSaying_57 : decode cX5_readSaying 57 = .ok (.aload_n 0, 1) := by decide +kernel
theorem dX5_readSaying_58 : decode cX5_readSaying 58 = .ok (.getfield 36, 3) := by decide +kernel
theorem dX5_readSaying_61 : decode cX5_readSaying 61 = .ok (.bipush 26, 2) := by decide +kernel
theorem dX5_readSaying_63 : decode cX5_readSaying 63 = .ok (.iload_n 1, 1) := by decide +kernel
theorem dX5_readSaying_64 : decode cX5_readSaying 64 = .ok (.iadd, 1) := by decide +kernel
theorem dX5_readSaying_65 : decode cX5_readSaying 65 = .ok (.aload_n 0, 1) := by decide +kernel
theorem dX5_readSaying_66 : decode cX5_readSaying 66 = .ok (.iconst 1, 1) := by decide +kernel
theorem dX5_readSaying_67 : decode cX5_readSaying 67 = .ok (.bipush 30, 2) := by decide +kernel
theorem dX5_readSaying_69 : decode cX5_readSaying 69 = .ok (.invokevirtual 65, 3) := by decide +kernel
theorem dX5_readSaying_72 : decode cX5_readSaying 72 = .ok (.iastore, 1) := by decide +kernel
theorem dX5_readSaying_73 : decode cX5_readSaying 73 = .ok (.aload_n 0, 1) := by decide +kernel
theorem dX5_readSaying_74 : decode cX5_readSaying 74 = .ok (.getfield 36, 3) := by decide +kernel
theorem dX5_readSaying_77 : decode cX5_readSaying 77 = .ok (.iconst 1, 1) := by decide +kernel
theorem dX5_readSaying_78 : decode cX5_readSaying 78 = .ok (.dup2, 1) := by decide +kernel
theorem dX5_readSaying_79 : decode cX5_readSaying 79 = .ok (.iaload, 1) := by decide +kernel
theorem dX5_readSaying_80 : decode cX5_readSaying 80 = .ok (.iconst 1, 1) := by decide +kernel
theorem dX5_readSaying_81 : decode cX5_readSaying 81 = .ok (.iadd, 1) := by decide +kernel
theorem dX5_readSaying_82 : decode cX5_readSaying 82 = .ok (.iastore, 1) := by decide +kernel
theorem dX5_readSaying_83 : decode cX5_readSaying 83 = .ok (.aload_n 0, 1) := by decide +kernel
theorem dX5_readSaying_84 : decode cX5_readSaying 84 = .ok (.invokevirtual 69, 3) := by decide +kernel
theorem dX5_readSaying_87 : decode cX5_readSaying 87 = .ok (.return_, 1) := by decide +kernel
set_option maxRecDepth 20000 in
theorem ggX5_readItem_X5_here : GoodIn wsX5_readItem wsX5_here := goodIn_r _ [15, 1, 2, 3, 35, 36, 37, 38, 39, 40, 41, 42, 43, 44, 45, 46, 47, 48, 49, 50, 51, 52, 53, 54, 55] (by decide +kernel) (by decide +kernel)
set_option maxRecDepth 20000 in
theorem gX5_readItem_X5_here : GoodIn wsX5_readItem (wsV RX5 49 RX5 yX5_here wsX5_here) := goodIn_app (goodIn_of _ (by decide +kernel)) ggX5_readItem_X5_here
set_option maxRecDepth 20000 in
theorem ggX5_readItem_X5_in : GoodIn wsX5_readItem wsX5_in := goodIn_r _ [18] (by decide +kernel) (by decide +kernel)
set_option maxRecDepth 20000 in
theorem gX5_readItem_X5_in : GoodIn wsX5_readItem (va_wsS RX5 39 yX5_in wsX5_in) := goodIn_app (goodIn_of _ (by decide +kernel)) ggX5_readItem_X5_in
set_option maxRecDepth 20000 in
theorem ggX5_readItem_X5_number : GoodIn wsX5_readItem wsX5_number := goodIn_r _ [22, 7, 1, 2, 3, 23, 24, 25, 14, 26, 11, 12, 13, 15, 16, 17, 18, 35, 36, 37, 38, 39, 40, 41, 42, 43, 44, 45, 46, 47, 48, 49, 50, 51, 52, 53, 54, 55] (by decide +kernel) (by decide +kernel)
set_option maxRecDepth 20000 in
theorem gX5_readItem_X5_number : GoodIn wsX5_readItem (wsV RX5 65 RX5 yX5_number wsX5_number) := goodIn_app (goodIn_of _ (by decide +kernel)) ggX5_readItem_X5_number
set_option maxRecDepth 20000 in
theorem ggX5_readItem_X5_ends : GoodIn wsX5_readItem wsX5_ends := goodIn_r _ [30, 7, 1, 4, 23, 24, 25, 14, 26, 11, 12, 13, 15, 2, 3, 35, 36, 37, 38, 39, 40, 41, 42, 43, 44, 45, 46, 47, 48, 49, 50, 51, 52, 53, 54, 55] (by decide +kernel) (by decide +kernel)
set_option maxRecDepth 20000 in
theorem gX5_readItem_X5_ends : GoodIn wsX5_readItem (wsV RX5 69 RX5 yX5_ends wsX5_ends) := goodIn_app (goodIn_of _ (by decide +kernel)) ggX5_readItem_X5_ends
set_option maxRecDepth 20000 in
theorem ggX5_readItem_X5_readSaying : GoodIn wsX5_readItem wsX5_readSaying := goodIn_r _ [34, 6, 8, 19, 20, 21, 14, 22, 7, 1, 2, 3, 23, 24, 25, 26, 11, 12, 13, 15, 16, 17, 18, 27, 28, 29, 30, 4, 35, 36, 37, 38, 39, 40, 41, 42, 43, 44, 45, 46, 47, 48, 49, 50, 51, 52, 53, 54, 55] (by decide +kernel) (by decide +kernel)
set_option maxRecDepth 20000 in
theorem gX5_readItem_X5_readSaying : GoodIn wsX5_readItem (wsV RX5 82 RX5 yX5_readSaying wsX5_readSaying) := goodIn_app (goodIn_of _ (by decide +kernel)) ggX5_readItem_X5_readSaying
theorem dX5_readItem_0 : decode cX5_readItem 0 = .ok (.aload_n 0, 1) := by decide +kernel
theorem dX5_readItem_1 : decode cX5_readItem 1 = .ok (.invokevirtual 49, 3) := by decide +kernel
theorem dX5_readItem_4 : decode cX5_readItem 4 = .ok (.istore_n 1, 1) := by decide +kernel
theorem dX5_readItem_5 : decode cX5_readItem 5 = .ok (.aload_n 0, 1) := by decide +kernel
theorem dX5_readItem_6 : decode cX5_readItem 6 = .ok (.getfield 46, 3) := by decide +kernel
theorem dX5_readItem_9 : decode cX5_readItem 9 = .ok (.iconst 1, 1) := by decide +kernel
theorem dX5_readItem_10 : decode cX5_readItem 10 = .ok (.iadd, 1) := by decide +kernel
theorem dX5_readItem_11 : decode cX5_readItem 11 = .ok (.aload_n 0, 1) := by decide +kernel
theorem dX5_readItem_12 : decode cX5_readItem 12 = .ok (.getfield 43, 3) := by decide +kernel
theorem dX5_readItem_15 : decode cX5_readItem 15 = .ok (.if_icmp .ge 24, 3) := by decide +kernel
theorem dX5_readItem_18 : decode cX5_readItem 18 = .ok (.aload_n 0, 1) := by decide +kernel
theorem dX5_readItem_19 : decode cX5_readItem 19 = .ok (.getfield 7, 3) := by decide +kernel
theorem dX5_readItem_22 : decode cX5_readItem 22 = .ok (.aload_n 0, 1) := by decide +kernel
theorem dX5_readItem_23 : decode cX5_readItem 23 = .ok (.getfield 46, 3) := by decide +kernel
theorem dX5_readItem_26 : decode cX5_readItem 26 = .ok (.iconst 1, 1) := by decide +kernel
theorem dX5_readItem_27 : decode cX5_readItem 27 = .ok (.iadd, 1) := by decide +kernel
theorem dX5_readItem_28 : decode cX5_readItem 28 = .ok (.iaload, 1) := by decide +kernel
theorem dX5_readItem_29 : decode cX5_readItem 29 = .ok (.bipush 97, 2) := by decide +kernel
theorem dX5_readItem_31 : decode cX5_readItem 31 = .ok (.bipush 122, 2) := by decide +kernel
theorem dX5_readItem_33 : decode cX5_readItem 33 = .ok (.invokestatic 39, 3) := by decide +kernel
theorem dX5_readItem_36 : decode cX5_readItem 36 = .ok (.ifCond .ne 7, 3) := by decide +kernel
theorem dX5_readItem_39 : decode cX5_readItem 39 = .ok (.iconst 1, 1) := by decide +kernel
theorem dX5_readItem_40 : decode cX5_readItem 40 = .ok (.goto 4, 3) := by decide +kernel
theorem dX5_readItem_43 : decode cX5_readItem 43 = .ok (.iconst 0, 1) := by decide +kernel
theorem dX5_readItem_44 : decode cX5_readItem 44 = .ok (.istore_n 2, 1) := by decide +kernel
theorem dX5_readItem_45 : decode cX5_readItem 45 = .ok (.iload_n 1, 1) := by decide +kernel
theorem dX5_readItem_46 : decode cX5_readItem 46 = .ok (.bipush 110, 2) := by decide +kernel
theorem dX5_readItem_48 : decode cX5_readItem 48 = .ok (.if_icmp .ne 10, 3) := by decide +kernel
theorem dX5_readItem_51 : decode cX5_readItem 51 = .ok (.aload_n 0, 1) := by decide +kernel
theorem dX5_readItem_52 : decode cX5_readItem 52 = .ok (.getfield 59, 3) := by decide +kernel
theorem dX5_readItem_55 : decode cX5_readItem 55 = .ok (.ifCond .eq 39, 3) := by decide +kernel
theorem dX5_readItem_58 : decode cX5_readItem 58 = .ok (.iload_n 1, 1) := by decide +kernel
theorem dX5_readItem_59 : decode cX5_readItem 59 = .ok (.bipush 108, 2) := by decide +kernel
theorem dX5_readItem_61 : decode cX5_readItem 61 = .ok (.if_icmp .ne 10, 3) := by decide +kernel
theorem dX5_readItem_64 : decode cX5_readItem 64 = .ok (.aload_n 0, 1) := by decide +kernel
theorem dX5_readItem_65 : decode cX5_readItem 65 = .ok (.getfield 72, 3) := by decide +kernel
theorem dX5_readItem_68 : decode cX5_readItem 68 = .ok (.ifCond .eq 26, 3) := by decide +kernel
theorem dX5_readItem_71 : decode cX5_readItem 71 = .ok (.iload_n 1, 1) := by decide +kernel
theorem dX5_readItem_72 : decode cX5_readItem 72 = .ok (.bipush 104, 2) := by decide +kernel
theorem dX5_readItem_74 : decode cX5_readItem 74 = .ok (.if_icmp .eq 20, 3) := by decide +kernel
theorem dX5_readItem_77 : decode cX5_readItem 77 = .ok (.iload_n 1, 1) := by decide +kernel
theorem dX5_readItem_78 : decode cX5_readItem 78 = .ok (.bipush 115, 2) := by decide +kernel
theorem dX5_readItem_80 : decode cX5_readItem 80 = .ok (.if_icmp .ne 18, 3) := by decide +kernel
theorem dX5_readItem_83 : decode cX5_readItem 83 = .ok (.aload_n 0, 1) := by decide +kernel
theorem dX5_readItem_84 : decode cX5_readItem 84 = .ok (.getfield 36, 3) := by decide +kernel
theorem dX5_readItem_87 : decode cX5_readItem 87 = .ok (.iconst 1, 1) := by decide +kernel
theorem dX5_readItem_88 : decode cX5_readItem 88 = .ok (.iaload, 1) := by decide +kernel
theorem dX5_readItem_89 : decode cX5_readItem 89 = .ok (.bipush 8, 2) := by decide +kernel
theorem dX5_readItem_91 : decode cX5_readItem 91 = .ok (.if_icmp .ge 7, 3) := by decide +kernel
theorem dX5_readItem_94 : decode cX5_readItem 94 = .ok (.iconst 1, 1) := by decide +kernel
theorem dX5_readItem_95 : decode cX5_readItem 95 = .ok (.goto 4, 3) := by decide +kernel
theorem dX5_readItem_98 : decode cX5_readItem 98 = .ok (.iconst 0, 1) := by decide +kernel
theorem dX5_readItem_99 : decode cX5_readItem 99 = .ok (.istore_n 3, 1) := by decide +kernel
theorem dX5_readItem_100 : decode cX5_readItem 100 = .ok (.iload_n 3, 1) := by decide +kernel
theorem dX5_readItem_101 : decode cX5_readItem 101 = .ok (.ifCond .eq 7, 3) := by decide +kernel
theorem dX5_readItem_104 : decode cX5_readItem 104 = .ok (.iload_n 2, 1) := by decide +kernel
theorem dX5_readItem_105 : decode cX5_readItem 105 = .ok (.ifCond .ne 12, 3) := by decide +kernel
theorem dX5_readItem_108 : decode cX5_readItem 108 = .ok (.aload_n 0, 1) := by decide +kernel
theorem dX5_readItem_109 : decode cX5_readItem 109 = .ok (.aload_n 0, 1) := by decide +kernel
theorem dX5_readItem_110 : decode cX5_readItem 110 = .ok (.getfield 46, 3) := by decide +kernel
theorem dX5_readItem_113 : decode cX5_readItem 113 = .ok (.putfield 53, 3) := by decide +kernel
theorem dX5_readItem_116 : decode cX5_readItem 116 = .ok (.return_, 1) := by decide +kernel
theorem dX5_readItem_117 : decode cX5_readItem 117 = .ok (.aload_n 0, 1) := by decide +kernel
theorem dX5_readItem_118 : decode cX5_readItem 118 = .ok (.dup, 1) := by decide +kernel
theorem dX5_readItem_119 : decode cX5_readItem 119 = .ok (.getfield 46, 3) := by decide +kernel
theorem dX5_readItem_122 : decode cX5_readItem 122 = .ok (.iconst 1, 1) := by decide +kernel
theorem dX5_readItem_123 : decode cX5_readItem 123 = .ok (.iadd, 1) := by decide +kernel
theorem dX5_readItem_124 : decode cX5_readItem 124 = .ok (.putfield 46, 3) := by decide +kernel
theorem dX5_readItem_127 : decode cX5_readItem 127 = .ok (.iload_n 1, 1) := by decide +kernel
theorem dX5_readItem_128 : decode cX5_readItem 128 = .ok (.bipush 110, 2) := by decide +kernel
theorem dX5_readItem_130 : decode cX5_readItem 130 = .ok (.if_icmp .ne 21, 3) := by decide +kernel
theorem dX5_readItem_133 : decode cX5_readItem 133 = .ok (.aload_n 0, 1) := by decide +kernel
theorem dX5_readItem_134 : decode cX5_readItem 134 = .ok (.aload_n 0, 1) := by decide +kernel
theorem dX5_readItem_135 : decode cX5_readItem 135 = .ok (.iconst 4, 1) := by decide +kernel
theorem dX5_readItem_136 : decode cX5_readItem 136 = .ok (.bipush 24, 2) := by decide +kernel
theorem dX5_readItem_138 : decode cX5_readItem 138 = .ok (.invokevirtual 65, 3) := by decide +kernel
theorem dX5_readItem_141 : decode cX5_readItem 141 = .ok (.putfield 62, 3) := by decide +kernel
theorem dX5_readItem_144 : decode cX5_readItem 144 = .ok (.aload_n 0, 1) := by decide +kernel
theorem dX5_readItem_145 : decode cX5_readItem 145 = .ok (.invokevirtual 69, 3) := by decide +kernel
theorem dX5_readItem_148 : decode cX5_readItem 148 = .ok (.goto 71, 3) := by decide +kernel
theorem dX5_readItem_151 : decode cX5_readItem 151 = .ok (.iload_n 1, 1) := by decide +kernel
theorem dX5_readItem_152 : decode cX5_readItem 152 = .ok (.bipush 108, 2) := by decide +kernel
theorem dX5_readItem_154 : decode cX5_readItem 154 = .ok (.if_icmp .ne 26, 3) := by decide +kernel
theorem dX5_readItem_157 : decode cX5_readItem 157 = .ok (.aload_n 0, 1) := by decide +kernel
theorem dX5_readItem_158 : decode cX5_readItem 158 = .ok (.iconst 1, 1) := by decide +kernel
theorem dX5_readItem_159 : decode cX5_readItem 159 = .ok (.putfield 72, 3) := by decide +kernel
theorem dX5_readItem_162 : decode cX5_readItem 162 = .ok (.aload_n 0, 1) := by decide +kernel
theorem dX5_readItem_163 : decode cX5_readItem 163 = .ok (.aload_n 0, 1) := by decide +kernel
theorem dX5_readItem_164 : decode cX5_readItem 164 = .ok (.iconst 1, 1) := by decide +kernel
theorem dX5_readItem_165 : decode cX5_readItem 165 = .ok (.bipush 9, 2) := by decide +kernel
theorem dX5_readItem_167 : decode cX5_readItem 167 = .ok (.invokevirtual 65, 3) := by decide +kernel
theorem dX5_readItem_170 : decode cX5_readItem 170 = .ok (.putfield 76, 3) := by decide +kernel
theorem dX5_readItem_173 : decode cX5_readItem 173 = .ok (.aload_n 0, 1) := by decide +kernel
theorem dX5_readItem_174 : decode cX5_readItem 174 = .ok (.invokevirtual 69, 3) := by decide +kernel
theorem dX5_readItem_177 : decode cX5_readItem 177 = .ok (.goto 42, 3) := by decide +kernel
theorem dX5_readItem_180 : decode cX5_readItem 180 = .ok (.iload_n 1, 1) := by decide +kernel
theorem dX5_readItem_181 : decode cX5_readItem 181 = .ok (.bipush 104, 2) := by decide +kernel
theorem dX5_readItem_183 : decode cX5_readItem 183 = .ok (.if_icmp .ne 32, 3) := by decide +kernel
theorem dX5_readItem_186 : decode cX5_readItem 186 = .ok (.aload_n 0, 1) := by decide +kernel
theorem dX5_readItem_187 : decode cX5_readItem 187 = .ok (.dup, 1) := by decide +kernel
theorem dX5_readItem_188 : decode cX5_readItem 188 = .ok (.getfield 79, 3) := by decide +kernel
theorem dX5_readItem_191 : decode cX5_readItem 191 = .ok (.iconst 1, 1) := by decide +kernel
theorem dX5_readItem_192 : decode cX5_readItem 192 = .ok (.aload_n 0, 1) := by decide +kernel
theorem dX5_readItem_193 : decode cX5_readItem 193 = .ok (.iconst 0, 1) := by decide +kernel
theorem dX5_readItem_194 : decode cX5_readItem 194 = .ok (.aload_n 0, 1) := by decide +kernel
theorem dX5_readItem_195 : decode cX5_readItem 195 = .ok (.getfield 62, 3) := by decide +kernel
theorem dX5_readItem_198 : decode cX5_readItem 198 = .ok (.iconst 1, 1) := by decide +kernel
theorem dX5_readItem_199 : decode cX5_readItem 199 = .ok (.isub, 1) := by decide +kernel
theorem dX5_readItem_200 : decode cX5_readItem 200 = .ok (.invokevirtual 65, 3) := by decide +kernel
theorem dX5_readItem_203 : decode cX5_readItem 203 = .ok (.ishl, 1) := by decide +kernel
theorem dX5_readItem_204 : decode cX5_readItem 204 = .ok (.ior, 1) := by decide +kernel
theorem dX5_readItem_205 : decode cX5_readItem 205 = .ok (.putfield 79, 3) := by decide +kernel
theorem dX5_readItem_208 : decode cX5_readItem 208 = .ok (.aload_n 0, 1) := by decide +kernel
theorem dX5_readItem_209 : decode cX5_readItem 209 = .ok (.invokevirtual 69, 3) := by decide +kernel
theorem dX5_readItem_212 : decode cX5_readItem 212 = .ok (.goto 7, 3) := by decide +kernel
theorem dX5_readItem_215 : decode cX5_readItem 215 = .ok (.aload_n 0, 1) := by decide +kernel
theorem dX5_readItem_216 : decode cX5_readItem 216 = .ok (.invokevirtual 82, 3) := by decide +kernel
theorem dX5_readItem_219 : decode cX5_readItem 219 = .ok (.return_, 1) := by decide +kernel
set_option maxRecDepth 20000 in
theorem ggX5_gallery_X5_skips : GoodIn wsX5_gallery wsX5_skips := goodIn_r _ [21, 1, 22, 23, 24, 20, 25, 9, 26, 49, 50, 51, 52, 53, 54, 55, 56, 57, 58, 59, 60, 61, 62, 63, 64, 65, 66, 67, 68, 69] (by decide +kernel) (by decide +kernel)
set_option maxRecDepth 20000 in
theorem gX5_gallery_X5_skips : GoodIn wsX5_gallery (wsV RX5 56 RX5 yX5_skips wsX5_skips) := goodIn_app (goodIn_of _ (by decide +kernel)) ggX5_gallery_X5_skips
set_option maxRecDepth 20000 in
theorem ggX5_gallery_X5_readItem : GoodIn wsX5_gallery wsX5_readItem := goodIn_r _ [30, 1, 9, 26, 3, 6, 8, 2, 4, 5, 7, 22, 23, 24, 20, 25, 31, 32, 33, 34, 35, 36, 37, 17, 18, 19, 21, 38, 39, 40, 41, 42, 43, 44, 45, 49, 50, 51, 52, 53, 54, 55, 56, 57, 58, 59, 60, 61, 62, 63, 64, 65, 66, 67, 68, 69] (by decide +kernel) (by decide +kernel)
set_option maxRecDepth 20000 in
theorem gX5_gallery_X5_readItem : GoodIn wsX5_gallery (wsV RX5 85 RX5 yX5_readItem wsX5_readItem) := goodIn_app (goodIn_of _ (by decide +kernel)) ggX5_gallery_X5_readItem
set_option maxRecDepth 20000 in
theorem ggX5_gallery_X5_bring : GoodIn wsX5_gallery wsX5_bring := goodIn_r _ [48] (by decide +kernel) (by decide +kernel)
set_option maxRecDepth 20000 in
theorem gX5_gallery_X5_bring : GoodIn wsX5_gallery (va_wsS RX5 91 yX5_bring wsX5_bring) := goodIn_app (goodIn_of _ (by decide +kernel)) ggX5_gallery_X5_bring
theorem dX5_gallery_0 : decode cX5_gallery 0 = .ok (.aload_n 0, 1) := by decide +kernel
theorem dX5_gallery_1 : decode cX5_gallery 1 = .ok (.iconst 0, 1) := by decide +kernel
theorem dX5_gallery_2 : decode cX5_gallery 2 = .ok (.putfield 46, 3) := by decide +kernel
theorem dX5_gallery_5 : decode cX5_gallery 5 = .ok (.aload_n 0, 1) := by decide +kernel
theorem dX5_gallery_6 : decode cX5_gallery 6 = .ok (.iconst (-1), 1) := by decide +kernel
theorem dX5_gallery_7 : decode cX5_gallery 7 = .ok (.putfield 53, 3) := by decide +kernel
theorem dX5_gallery_10 : decode cX5_gallery 10 = .ok (.aload_n 0, 1) := by decide +kernel
theorem dX5_gallery_11 : decode cX5_gallery 11 = .ok (.iconst 0, 1) := by decide +kernel
theorem dX5_gallery_12 : decode cX5_gallery 12 = .ok (.putfield 59, 3) := by decide +kernel
theorem dX5_gallery_15 : decode cX5_gallery 15 = .ok (.aload_n 0, 1) := by decide +kernel
theorem dX5_gallery_16 : decode cX5_gallery 16 = .ok (.bipush 12, 2) := by decide +kernel
theorem dX5_gallery_18 : decode cX5_gallery 18 = .ok (.putfield 62, 3) := by decide +kernel
theorem dX5_gallery_21 : decode cX5_gallery 21 = .ok (.aload_n 0, 1) := by decide +kernel
theorem dX5_gallery_22 : decode cX5_gallery 22 = .ok (.iconst 1, 1) := by decide +kernel
theorem dX5_gallery_23 : decode cX5_gallery 23 = .ok (.putfield 76, 3) := by decide +kernel
theorem dX5_gallery_26 : decode cX5_gallery 26 = .ok (.aload_n 0, 1) := by decide +kernel
theorem dX5_gallery_27 : decode cX5_gallery 27 = .ok (.iconst 0, 1) := by decide +kernel
theorem dX5_gallery_28 : decode cX5_gallery 28 = .ok (.putfield 72, 3) := by decide +kernel
theorem dX5_gallery_31 : decode cX5_gallery 31 = .ok (.aload_n 0, 1) := by decide +kernel
theorem dX5_gallery_32 : decode cX5_gallery 32 = .ok (.iconst 0, 1) := by decide +kernel
theorem dX5_gallery_33 : decode cX5_gallery 33 = .ok (.putfield 79, 3) := by decide +kernel
theorem dX5_gallery_36 : decode cX5_gallery 36 = .ok (.iconst 0, 1) := by decide +kernel
theorem dX5_gallery_37 : decode cX5_gallery 37 = .ok (.istore_n 1, 1) := by decide +kernel
theorem dX5_gallery_38 : decode cX5_gallery 38 = .ok (.iload_n 1, 1) := by decide +kernel
theorem dX5_gallery_39 : decode cX5_gallery 39 = .ok (.bipush 50, 2) := by decide +kernel
theorem dX5_gallery_41 : decode cX5_gallery 41 = .ok (.if_icmp .ge 16, 3) := by decide +kernel
theorem dX5_gallery_44 : decode cX5_gallery 44 = .ok (.aload_n 0, 1) := by decide +kernel
theorem dX5_gallery_45 : decode cX5_gallery 45 = .ok (.getfield 36, 3) := by decide +kernel
theorem dX5_gallery_48 : decode cX5_gallery 48 = .ok (.iload_n 1, 1) := by decide +kernel
theorem dX5_gallery_49 : decode cX5_gallery 49 = .ok (.iconst 0, 1) := by decide +kernel
theorem dX5_gallery_50 : decode cX5_gallery 50 = .ok (.iastore, 1) := by decide +kernel
theorem dX5_gallery_51 : decode cX5_gallery 51 = .ok (.iinc 1 1, 3) := by decide +kernel
theorem dX5_gallery_54 : decode cX5_gallery 54 = .ok (.goto (-16), 3) := by decide +kernel
theorem dX5_gallery_57 : decode cX5_gallery 57 = .ok (.aload_n 0, 1) := by decide +kernel
theorem dX5_gallery_58 : decode cX5_gallery 58 = .ok (.invokevirtual 56, 3) := by decide +kernel
theorem dX5_gallery_61 : decode cX5_gallery 61 = .ok (.aload_n 0, 1) := by decide +kernel
theorem dX5_gallery_62 : decode cX5_gallery 62 = .ok (.getfield 53, 3) := by decide +kernel
theorem dX5_gallery_65 : decode cX5_gallery 65 = .ok (.ifCond .ge 32, 3) := by decide +kernel
theorem dX5_gallery_68 : decode cX5_gallery 68 = .ok (.aload_n 0, 1) := by decide +kernel
theorem dX5_gallery_69 : decode cX5_gallery 69 = .ok (.getfield 46, 3) := by decide +kernel
theorem dX5_gallery_72 : decode cX5_gallery 72 = .ok (.aload_n 0, 1) := by decide +kernel
theorem dX5_gallery_73 : decode cX5_gallery 73 = .ok (.getfield 43, 3) := by decide +kernel
theorem dX5_gallery_76 : decode cX5_gallery 76 = .ok (.if_icmp .ge 21, 3) := by decide +kernel
theorem dX5_gallery_79 : decode cX5_gallery 79 = .ok (.aload_n 0, 1) := by decide +kernel
theorem dX5_gallery_80 : decode cX5_gallery 80 = .ok (.invokevirtual 85, 3) := by decide +kernel
theorem dX5_gallery_83 : decode cX5_gallery 83 = .ok (.aload_n 0, 1) := by decide +kernel
theorem dX5_gallery_84 : decode cX5_gallery 84 = .ok (.getfield 53, 3) := by decide +kernel
theorem dX5_gallery_87 : decode cX5_gallery 87 = .ok (.ifCond .ge (-26), 3) := by decide +kernel
theorem dX5_gallery_90 : decode cX5_gallery 90 = .ok (.aload_n 0, 1) := by decide +kernel
theorem dX5_gallery_91 : decode cX5_gallery 91 = .ok (.invokevirtual 56, 3) := by decide +kernel
theorem dX5_gallery_94 : decode cX5_gallery 94 = .ok (.goto (-33), 3) := by decide +kernel
theorem dX5_gallery_97 : decode cX5_gallery 97 = .ok (.aload_n 0, 1) := by decide +kernel
theorem dX5_gallery_98 : decode cX5_gallery 98 = .ok (.getfield 53, 3) := by decide +kernel
theorem dX5_gallery_101 : decode cX5_gallery 101 = .ok (.ifCond .lt 11, 3) := by decide +kernel
theorem dX5_gallery_104 : decode cX5_gallery 104 = .ok (.bipush (-10), 2) := by decide +kernel
theorem dX5_gallery_106 : decode cX5_gallery 106 = .ok (.aload_n 0, 1) := by decide +kernel
theorem dX5_gallery_107 : decode cX5_gallery 107 = .ok (.getfield 53, 3) := by decide +kernel
theorem dX5_gallery_110 : decode cX5_gallery 110 = .ok (.isub, 1) := by decide +kernel
theorem dX5_gallery_111 : decode cX5_gallery 111 = .ok (.ireturn, 1) := by decide +kernel
theorem dX5_gallery_112 : decode cX5_gallery 112 = .ok (.aload_n 0, 1) := by decide +kernel
theorem dX5_gallery_113 : decode cX5_gallery 113 = .ok (.iconst 0, 1) := by decide +kernel
theorem dX5_gallery_114 : decode cX5_gallery 114 = .ok (.putfield 43, 3) := by decide +kernel
theorem dX5_gallery_117 : decode cX5_gallery 117 = .ok (.aload_n 0, 1) := by decide +kernel
theorem dX5_gallery_118 : decode cX5_gallery 118 = .ok (.aload_n 0, 1) := by decide +kernel
theorem dX5_gallery_119 : decode cX5_gallery 119 = .ok (.getfield 62, 3) := by decide +kernel
theorem dX5_gallery_122 : decode cX5_gallery 122 = .ok (.putfield 13, 3) := by decide +kernel
theorem dX5_gallery_125 : decode cX5_gallery 125 = .ok (.aload_n 0, 1) := by decide +kernel
theorem dX5_gallery_126 : decode cX5_gallery 126 = .ok (.aload_n 0, 1) := by decide +kernel
theorem dX5_gallery_127 : decode cX5_gallery 127 = .ok (.getfield 76, 3) := by decide +kernel
theorem dX5_gallery_130 : decode cX5_gallery 130 = .ok (.putfield 17, 3) := by decide +kernel
theorem dX5_gallery_133 : decode cX5_gallery 133 = .ok (.aload_n 0, 1) := by decide +kernel
theorem dX5_gallery_134 : decode cX5_gallery 134 = .ok (.aload_n 0, 1) := by decide +kernel
theorem dX5_gallery_135 : decode cX5_gallery 135 = .ok (.getfield 79, 3) := by decide +kernel
theorem dX5_gallery_138 : decode cX5_gallery 138 = .ok (.putfield 88, 3) := by decide +kernel
theorem dX5_gallery_141 : decode cX5_gallery 141 = .ok (.aload_n 0, 1) := by decide +kernel
theorem dX5_gallery_142 : decode cX5_gallery 142 = .ok (.getfield 36, 3) := by decide +kernel
theorem dX5_gallery_145 : decode cX5_gallery 145 = .ok (.iconst 0, 1) := by decide +kernel
theorem dX5_gallery_146 : decode cX5_gallery 146 = .ok (.aload_n 0, 1) := by decide +kernel
theorem dX5_gallery_147 : decode cX5_gallery 147 = .ok (.getfield 20, 3) := by decide +kernel
theorem dX5_gallery_150 : decode cX5_gallery 150 = .ok (.iconst 0, 1) := by decide +kernel
theorem dX5_gallery_151 : decode cX5_gallery 151 = .ok (.bipush 50, 2) := by decide +kernel
theorem dX5_gallery_153 : decode cX5_gallery 153 = .ok (.invokestatic 91, 3) := by decide +kernel
theorem dX5_gallery_156 : decode cX5_gallery 156 = .ok (.aload_n 0, 1) := by decide +kernel
theorem dX5_gallery_157 : decode cX5_gallery 157 = .ok (.iconst 0, 1) := by decide +kernel
theorem dX5_gallery_158 : decode cX5_gallery 158 = .ok (.putfield 95, 3) := by decide +kernel
theorem dX5_gallery_161 : decode cX5_gallery 161 = .ok (.aload_n 0, 1) := by decide +kernel
theorem dX5_gallery_162 : decode cX5_gallery 162 = .ok (.iconst 0, 1) := by decide +kernel
theorem dX5_gallery_163 : decode cX5_gallery 163 = .ok (.putfield 98, 3) := by decide +kernel
theorem dX5_gallery_166 : decode cX5_gallery 166 = .ok (.aload_n 0, 1) := by decide +kernel
theorem dX5_gallery_167 : decode cX5_gallery 167 = .ok (.getfield 29, 3) := by decide +kernel
theorem dX5_gallery_170 : decode cX5_gallery 170 = .ok (.iconst 0, 1) := by decide +kernel
theorem dX5_gallery_171 : decode cX5_gallery 171 = .ok (.iconst 0, 1) := by decide +kernel
theorem dX5_gallery_172 : decode cX5_gallery 172 = .ok (.bastore, 1) := by decide +kernel
theorem dX5_gallery_173 : decode cX5_gallery 173 = .ok (.aload_n 0, 1) := by decide +kernel
theorem dX5_gallery_174 : decode cX5_gallery 174 = .ok (.getfield 29, 3) := by decide +kernel
theorem dX5_gallery_177 : decode cX5_gallery 177 = .ok (.iconst 1, 1) := by decide +kernel
theorem dX5_gallery_178 : decode cX5_gallery 178 = .ok (.iconst 0, 1) := by decide +kernel
theorem dX5_gallery_179 : decode cX5_gallery 179 = .ok (.bastore, 1) := by decide +kernel
theorem dX5_gallery_180 : decode cX5_gallery 180 = .ok (.aload_n 0, 1) := by decide +kernel
theorem dX5_gallery_181 : decode cX5_gallery 181 = .ok (.getfield 59, 3) := by decide +kernel
theorem dX5_gallery_184 : decode cX5_gallery 184 = .ok (.ireturn, 1) := by decide +kernel
theorem dX5_round_0 : decode cX5_round 0 = .ok (.iload_n 1, 1) := by decide +kernel
theorem dX5_round_1 : decode cX5_round 1 = .ok (.aload_n 0, 1) := by decide +kernel
theorem dX5_round_2 : decode cX5_round 2 = .ok (.getfield 13, 3) := by decide +kernel
theorem dX5_round_5 : decode cX5_round 5 = .ok (.irem, 1) := by decide +kernel
theorem dX5_round_6 : decode cX5_round 6 = .ok (.aload_n 0, 1) := by decide +kernel
theorem dX5_round_7 : decode cX5_round 7 = .ok (.getfield 13, 3) := by decide +kernel
theorem dX5_round_10 : decode cX5_round 10 = .ok (.iadd, 1) := by decide +kernel
theorem dX5_round_11 : decode cX5_round 11 = .ok (.aload_n 0, 1) := by decide +kernel
theorem dX5_round_12 : decode cX5_round 12 = .ok (.getfield 13, 3) := by decide +kernel
theorem dX5_round_15 : decode cX5_round 15 = .ok (.irem, 1) := by decide +kernel
theorem dX5_round_16 : decode cX5_round 16 = .ok (.ireturn, 1) := by decide +kernel
set_option maxRecDepth 20000 in
theorem ggX5_placeBy_X5_round : GoodIn wsX5_placeBy wsX5_round := goodIn_r _ [5, 6, 7, 8, 9, 10, 11, 12, 13, 14, 15, 16, 17, 18, 19, 20, 21, 22, 23, 24, 25, 26, 27] (by decide +kernel) (by decide +kernel)
set_option maxRecDepth 20000 in
theorem gX5_placeBy_X5_round : GoodIn wsX5_placeBy (wsV RX5 101 RX5 yX5_round wsX5_round) := goodIn_app (goodIn_of _ (by decide +kernel)) ggX5_placeBy_X5_round
theorem dX5_placeBy_0 : decode cX5_placeBy 0 = .ok (.aload_n 0, 1) := by decide +kernel
theorem dX5_placeBy_1 : decode cX5_placeBy 1 = .ok (.iload_n 3, 1) := by decide +kernel
theorem dX5_placeBy_2 : decode cX5_placeBy 2 = .ok (.ifCond .ne 12, 3) := by decide +kernel
theorem dX5_placeBy_5 : decode cX5_placeBy 5 = .ok (.iload_n 1, 1) := by decide +kernel
theorem dX5_placeBy_6 : decode cX5_placeBy 6 = .ok (.iload_n 2, 1) := by decide +kernel
theorem dX5_placeBy_7 : decode cX5_placeBy 7 = .ok (.iload 4, 2) := by decide +kernel
theorem dX5_placeBy_9 : decode cX5_placeBy 9 = .ok (.imul, 1) := by decide +kernel
theorem dX5_placeBy_10 : decode cX5_placeBy 10 = .ok (.iadd, 1) := by decide +kernel
theorem dX5_placeBy_11 : decode cX5_placeBy 11 = .ok (.goto 9, 3) := by decide +kernel
theorem dX5_placeBy_14 : decode cX5_placeBy 14 = .ok (.iload_n 1, 1) := by decide +kernel
theorem dX5_placeBy_15 : decode cX5_placeBy 15 = .ok (.iload_n 2, 1) := by decide +kernel
theorem dX5_placeBy_16 : decode cX5_placeBy 16 = .ok (.iload 4, 2) := by decide +kernel
theorem dX5_placeBy_18 : decode cX5_placeBy 18 = .ok (.imul, 1) := by decide +kernel
theorem dX5_placeBy_19 : decode cX5_placeBy 19 = .ok (.isub, 1) := by decide +kernel
theorem dX5_placeBy_20 : decode cX5_placeBy 20 = .ok (.invokevirtual 101, 3) := by decide +kernel
theorem dX5_placeBy_23 : decode cX5_placeBy 23 = .ok (.ireturn, 1) := by decide +kernel
theorem dX5_ago_0 : decode cX5_ago 0 = .ok (.aload_n 0, 1) := by decide +kernel
theorem dX5_ago_1 : decode cX5_ago 1 = .ok (.getfield 20, 3) := by decide +kernel
theorem dX5_ago_4 : decode cX5_ago 4 = .ok (.iconst 0, 1) := by decide +kernel
theorem dX5_ago_5 : decode cX5_ago 5 = .ok (.iaload, 1) := by decide +kernel
theorem dX5_ago_6 : decode cX5_ago 6 = .ok (.iload_n 2, 1) := by decide +kernel
theorem dX5_ago_7 : decode cX5_ago 7 = .ok (.iadd, 1) := by decide +kernel
theorem dX5_ago_8 : decode cX5_ago 8 = .ok (.aload_n 0, 1) := by decide +kernel
theorem dX5_ago_9 : decode cX5_ago 9 = .ok (.getfield 20, 3) := by decide +kernel
theorem dX5_ago_12 : decode cX5_ago 12 = .ok (.bipush 34, 2) := by decide +kernel
theorem dX5_ago_14 : decode cX5_ago 14 = .ok (.iload_n 1, 1) := by decide +kernel
theorem dX5_ago_15 : decode cX5_ago 15 = .ok (.iadd, 1) := by decide +kernel
theorem dX5_ago_16 : decode cX5_ago 16 = .ok (.iaload, 1) := by decide +kernel
theorem dX5_ago_17 : decode cX5_ago 17 = .ok (.isub, 1) := by decide +kernel
theorem dX5_ago_18 : decode cX5_ago 18 = .ok (.ireturn, 1) := by decide +kernel
set_option maxRecDepth 20000 in
theorem ggX5_placeOf_X5_ago : GoodIn wsX5_placeOf wsX5_ago := goodIn_r _ [6, 1, 16, 17, 18, 19, 20, 21, 22, 23, 24, 25, 26, 27, 28, 29, 30, 31, 32, 33, 34, 35, 36] (by decide +kernel) (by decide +kernel)
set_option maxRecDepth 20000 in
theorem gX5_placeOf_X5_ago : GoodIn wsX5_placeOf (wsV RX5 105 RX5 yX5_ago wsX5_ago) := goodIn_app (goodIn_of _ (by decide +kernel)) ggX5_placeOf_X5_ago
set_option maxRecDepth 20000 in
theorem ggX5_placeOf_X5_placeBy : GoodIn wsX5_placeOf wsX5_placeBy := goodIn_r _ [10, 11, 12, 13, 5, 14, 15, 16, 17, 18, 19, 20, 21, 22, 23, 24, 25, 26, 27, 28, 29, 30, 31, 32, 33, 34, 35, 36] (by decide +kernel) (by decide +kernel)
set_option maxRecDepth 20000 in
theorem gX5_placeOf_X5_placeBy : GoodIn wsX5_placeOf (wsV RX5 108 RX5 yX5_placeBy wsX5_placeBy) := goodIn_app (goodIn_of _ (by decide +kernel)) ggX5_placeOf_X5_placeBy
theorem dX5_placeOf_0 : decode cX5_placeOf 0 = .ok (.aload_n 0, 1) := by decide +kernel
theorem dX5_placeOf_1 : decode cX5_placeOf 1 = .ok (.aload_n 0, 1) := by decide +kernel
theorem dX5_placeOf_2 : decode cX5_placeOf 2 = .ok (.getfield 20, 3) := by decide +kernel
theorem dX5_placeOf_5 : decode cX5_placeOf 5 = .ok (.iconst 2, 1) := by decide +kernel
theorem dX5_placeOf_6 : decode cX5_placeOf 6 = .ok (.iload_n 1, 1) := by decide +kernel
theorem dX5_placeOf_7 : decode cX5_placeOf 7 = .ok (.iadd, 1) := by decide +kernel
theorem dX5_placeOf_8 : decode cX5_placeOf 8 = .ok (.iaload, 1) := by decide +kernel
theorem dX5_placeOf_9 : decode cX5_placeOf 9 = .ok (.aload_n 0, 1) := by decide +kernel
theorem dX5_placeOf_10 : decode cX5_placeOf 10 = .ok (.getfield 20, 3) := by decide +kernel
theorem dX5_placeOf_13 : decode cX5_placeOf 13 = .ok (.bipush 10, 2) := by decide +kernel
theorem dX5_placeOf_15 : decode cX5_placeOf 15 = .ok (.iload_n 1, 1) := by decide +kernel
theorem dX5_placeOf_16 : decode cX5_placeOf 16 = .ok (.iadd, 1) := by decide +kernel
theorem dX5_placeOf_17 : decode cX5_placeOf 17 = .ok (.iaload, 1) := by decide +kernel
theorem dX5_placeOf_18 : decode cX5_placeOf 18 = .ok (.aload_n 0, 1) := by decide +kernel
theorem dX5_placeOf_19 : decode cX5_placeOf 19 = .ok (.getfield 20, 3) := by decide +kernel
theorem dX5_placeOf_22 : decode cX5_placeOf 22 = .ok (.bipush 18, 2) := by decide +kernel
theorem dX5_placeOf_24 : decode cX5_placeOf 24 = .ok (.iload_n 1, 1) := by decide +kernel
theorem dX5_placeOf_25 : decode cX5_placeOf 25 = .ok (.iadd, 1) := by decide +kernel
theorem dX5_placeOf_26 : decode cX5_placeOf 26 = .ok (.iaload, 1) := by decide +kernel
theorem dX5_placeOf_27 : decode cX5_placeOf 27 = .ok (.aload_n 0, 1) := by decide +kernel
theorem dX5_placeOf_28 : decode cX5_placeOf 28 = .ok (.iload_n 1, 1) := by decide +kernel
theorem dX5_placeOf_29 : decode cX5_placeOf 29 = .ok (.iload_n 2, 1) := by decide +kernel
theorem dX5_placeOf_30 : decode cX5_placeOf 30 = .ok (.invokevirtual 105, 3) := by decide +kernel
theorem dX5_placeOf_33 : decode cX5_placeOf 33 = .ok (.invokevirtual 108, 3) := by decide +kernel
theorem dX5_placeOf_36 : decode cX5_placeOf 36 = .ok (.ireturn, 1) := by decide +kernel
set_option maxRecDepth 20000 in
theorem ggX5_lapsOf_X5_ago : GoodIn wsX5_lapsOf wsX5_ago := goodIn_r _ [7, 1, 8, 9, 10, 11, 12, 13, 14, 15, 16, 17, 18, 19, 20, 21, 22, 23, 24, 25, 26, 27, 28] (by decide +kernel) (by decide +kernel)
set_option maxRecDepth 20000 in
theorem gX5_lapsOf_X5_ago : GoodIn wsX5_lapsOf (wsV RX5 105 RX5 yX5_ago wsX5_ago) := goodIn_app (goodIn_of _ (by decide +kernel)) ggX5_lapsOf_X5_ago
theorem dX5_lapsOf_0 : decode cX5_lapsOf 0 = .ok (.aload_n 0, 1) := by decide +kernel
theorem dX5_lapsOf_1 : decode cX5_lapsOf 1 = .ok (.getfield 20, 3) := by decide +kernel
theorem dX5_lapsOf_4 : decode cX5_lapsOf 4 = .ok (.bipush 10, 2) := by decide +kernel
theorem dX5_lapsOf_6 : decode cX5_lapsOf 6 = .ok (.iload_n 1, 1) := by decide +kernel
theorem dX5_lapsOf_7 : decode cX5_lapsOf 7 = .ok (.iadd, 1) := by decide +kernel
theorem dX5_lapsOf_8 : decode cX5_lapsOf 8 = .ok (.iaload, 1) := by decide +kernel
theorem dX5_lapsOf_9 : decode cX5_lapsOf 9 = .ok (.aload_n 0, 1) := by decide +kernel
theorem dX5_lapsOf_10 : decode cX5_lapsOf 10 = .ok (.iload_n 1, 1) := by decide +kernel
theorem dX5_lapsOf_11 : decode cX5_lapsOf 11 = .ok (.iload_n 2, 1) := by decide +kernel
theorem dX5_lapsOf_12 : decode cX5_lapsOf 12 = .ok (.invokevirtual 105, 3) := by decide +kernel
theorem dX5_lapsOf_15 : decode cX5_lapsOf 15 = .ok (.imul, 1) := by decide +kernel
theorem dX5_lapsOf_16 : decode cX5_lapsOf 16 = .ok (.aload_n 0, 1) := by decide +kernel
theorem dX5_lapsOf_17 : decode cX5_lapsOf 17 = .ok (.getfield 13, 3) := by decide +kernel
theorem dX5_lapsOf_20 : decode cX5_lapsOf 20 = .ok (.idiv, 1) := by decide +kernel
theorem dX5_lapsOf_21 : decode cX5_lapsOf 21 = .ok (.ireturn, 1) := by decide +kernel
set_option maxRecDepth 20000 in
theorem ggX5_strengthOf_X5_lapsOf : GoodIn wsX5_strengthOf wsX5_lapsOf := goodIn_r _ [7, 1, 8, 9, 10, 11, 6, 12, 13, 14, 15, 16, 17, 18, 19, 20, 21, 22, 23, 24, 25, 26, 27, 28, 29, 30, 31, 32, 33] (by decide +kernel) (by decide +kernel)
set_option maxRecDepth 20000 in
theorem gX5_strengthOf_X5_lapsOf : GoodIn wsX5_strengthOf (wsV RX5 112 RX5 yX5_lapsOf wsX5_lapsOf) := goodIn_app (goodIn_of _ (by decide +kernel)) ggX5_strengthOf_X5_lapsOf
theorem dX5_strengthOf_0 : decode cX5_strengthOf 0 = .ok (.aload_n 0, 1) := by decide +kernel
theorem dX5_strengthOf_1 : decode cX5_strengthOf 1 = .ok (.getfield 20, 3) := by decide +kernel
theorem dX5_strengthOf_4 : decode cX5_strengthOf 4 = .ok (.bipush 26, 2) := by decide +kernel
theorem dX5_strengthOf_6 : decode cX5_strengthOf 6 = .ok (.iload_n 1, 1) := by decide +kernel
theorem dX5_strengthOf_7 : decode cX5_strengthOf 7 = .ok (.iadd, 1) := by decide +kernel
theorem dX5_strengthOf_8 : decode cX5_strengthOf 8 = .ok (.iaload, 1) := by decide +kernel
theorem dX5_strengthOf_9 : decode cX5_strengthOf 9 = .ok (.aload_n 0, 1) := by decide +kernel
theorem dX5_strengthOf_10 : decode cX5_strengthOf 10 = .ok (.getfield 17, 3) := by decide +kernel
theorem dX5_strengthOf_13 : decode cX5_strengthOf 13 = .ok (.aload_n 0, 1) := by decide +kernel
theorem dX5_strengthOf_14 : decode cX5_strengthOf 14 = .ok (.iload_n 1, 1) := by decide +kernel
theorem dX5_strengthOf_15 : decode cX5_strengthOf 15 = .ok (.iload_n 2, 1) := by decide +kernel
theorem dX5_strengthOf_16 : decode cX5_strengthOf 16 = .ok (.invokevirtual 112, 3) := by decide +kernel
theorem dX5_strengthOf_19 : decode cX5_strengthOf 19 = .ok (.imul, 1) := by decide +kernel
theorem dX5_strengthOf_20 : decode cX5_strengthOf 20 = .ok (.isub, 1) := by decide +kernel
theorem dX5_strengthOf_21 : decode cX5_strengthOf 21 = .ok (.istore_n 3, 1) := by decide +kernel
theorem dX5_strengthOf_22 : decode cX5_strengthOf 22 = .ok (.iload_n 3, 1) := by decide +kernel
theorem dX5_strengthOf_23 : decode cX5_strengthOf 23 = .ok (.ifCond .lt 16, 3) := by decide +kernel
theorem dX5_strengthOf_26 : decode cX5_strengthOf 26 = .ok (.aload_n 0, 1) := by decide +kernel
theorem dX5_strengthOf_27 : decode cX5_strengthOf 27 = .ok (.getfield 20, 3) := by decide +kernel
theorem dX5_strengthOf_30 : decode cX5_strengthOf 30 = .ok (.bipush 42, 2) := by decide +kernel
theorem dX5_strengthOf_32 : decode cX5_strengthOf 32 = .ok (.iload_n 1, 1) := by decide +kernel
theorem dX5_strengthOf_33 : decode cX5_strengthOf 33 = .ok (.iadd, 1) := by decide +kernel
theorem dX5_strengthOf_34 : decode cX5_strengthOf 34 = .ok (.iaload, 1) := by decide +kernel
theorem dX5_strengthOf_35 : decode cX5_strengthOf 35 = .ok (.iconst 1, 1) := by decide +kernel
theorem dX5_strengthOf_36 : decode cX5_strengthOf 36 = .ok (.if_icmp .ne 7, 3) := by decide +kernel
theorem dX5_strengthOf_39 : decode cX5_strengthOf 39 = .ok (.iconst 0, 1) := by decide +kernel
theorem dX5_strengthOf_40 : decode cX5_strengthOf 40 = .ok (.goto 4, 3) := by decide +kernel
theorem dX5_strengthOf_43 : decode cX5_strengthOf 43 = .ok (.iload_n 3, 1) := by decide +kernel
theorem dX5_strengthOf_44 : decode cX5_strengthOf 44 = .ok (.ireturn, 1) := by decide +kernel
set_option maxRecDepth 20000 in
theorem ggX5_soundsOf_X5_strengthOf : GoodIn wsX5_soundsOf wsX5_strengthOf := goodIn_r _ [6, 1, 7, 8, 9, 10, 5, 11, 12, 13, 14, 15, 16, 29, 30, 31, 32, 33, 34, 35, 36, 37, 38, 39, 40, 41, 42, 43, 44, 45, 46, 47, 48, 49] (by decide +kernel) (by decide +kernel)
set_option maxRecDepth 20000 in
theorem gX5_soundsOf_X5_strengthOf : GoodIn wsX5_soundsOf (wsV RX5 115 RX5 yX5_strengthOf wsX5_strengthOf) := goodIn_app (goodIn_of _ (by decide +kernel)) ggX5_soundsOf_X5_strengthOf
set_option maxRecDepth 20000 in
theorem ggX5_soundsOf_X5_placeOf : GoodIn wsX5_soundsOf wsX5_placeOf := goodIn_r _ [20, 1, 13, 14, 15, 5, 16, 21, 22, 23, 24, 25, 26, 27, 28, 12, 29, 30, 31, 32, 33, 34, 35, 36, 37, 38, 39, 40, 41, 42, 43, 44, 45, 46, 47, 48, 49] (by decide +kernel) (by decide +kernel)
set_option maxRecDepth 20000 in
theorem gX5_soundsOf_X5_placeOf : GoodIn wsX5_soundsOf (wsV RX5 118 RX5 yX5_placeOf wsX5_placeOf) := goodIn_app (goodIn_of _ (by decide +kernel)) ggX5_soundsOf_X5_placeOf
theorem dX5_soundsOf_0 : decode cX5_soundsOf 0 = .ok (.iconst 0, 1) := by decide +kernel
theorem dX5_soundsOf_1 : decode cX5_soundsOf 1 = .ok (.istore_n 3, 1) := by decide +kernel
theorem dX5_soundsOf_2 : decode cX5_soundsOf 2 = .ok (.iconst 0, 1) := by decide +kernel
theorem dX5_soundsOf_3 : decode cX5_soundsOf 3 = .ok (.istore 4, 2) := by decide +kernel
theorem dX5_soundsOf_5 : decode cX5_soundsOf 5 = .ok (.iload 4, 2) := by decide +kernel
theorem dX5_soundsOf_7 : decode cX5_soundsOf 7 = .ok (.aload_n 0, 1) := by decide +kernel
theorem dX5_soundsOf_8 : decode cX5_soundsOf 8 = .ok (.getfield 20, 3) := by decide +kernel
theorem dX5_soundsOf_11 : decode cX5_soundsOf 11 = .ok (.iconst 1, 1) := by decide +kernel
theorem dX5_soundsOf_12 : decode cX5_soundsOf 12 = .ok (.iaload, 1) := by decide +kernel
theorem dX5_soundsOf_13 : decode cX5_soundsOf 13 = .ok (.if_icmp .ge 41, 3) := by decide +kernel
theorem dX5_soundsOf_16 : decode cX5_soundsOf 16 = .ok (.iload_n 3, 1) := by decide +kernel
theorem dX5_soundsOf_17 : decode cX5_soundsOf 17 = .ok (.aload_n 0, 1) := by decide +kernel
theorem dX5_soundsOf_18 : decode cX5_soundsOf 18 = .ok (.iload 4, 2) := by decide +kernel
theorem dX5_soundsOf_20 : decode cX5_soundsOf 20 = .ok (.iload_n 2, 1) := by decide +kernel
theorem dX5_soundsOf_21 : decode cX5_soundsOf 21 = .ok (.invokevirtual 115, 3) := by decide +kernel
theorem dX5_soundsOf_24 : decode cX5_soundsOf 24 = .ok (.ifCond .le 21, 3) := by decide +kernel
theorem dX5_soundsOf_27 : decode cX5_soundsOf 27 = .ok (.aload_n 0, 1) := by decide +kernel
theorem dX5_soundsOf_28 : decode cX5_soundsOf 28 = .ok (.iload 4, 2) := by decide +kernel
theorem dX5_soundsOf_30 : decode cX5_soundsOf 30 = .ok (.iload_n 2, 1) := by decide +kernel
theorem dX5_soundsOf_31 : decode cX5_soundsOf 31 = .ok (.invokevirtual 118, 3) := by decide +kernel
theorem dX5_soundsOf_34 : decode cX5_soundsOf 34 = .ok (.iload_n 1, 1) := by decide +kernel
theorem dX5_soundsOf_35 : decode cX5_soundsOf 35 = .ok (.if_icmp .ne 10, 3) := by decide +kernel
theorem dX5_soundsOf_38 : decode cX5_soundsOf 38 = .ok (.iconst 1, 1) := by decide +kernel
theorem dX5_soundsOf_39 : decode cX5_soundsOf 39 = .ok (.iload 4, 2) := by decide +kernel
theorem dX5_soundsOf_41 : decode cX5_soundsOf 41 = .ok (.ishl, 1) := by decide +kernel
theorem dX5_soundsOf_42 : decode cX5_soundsOf 42 = .ok (.goto 4, 3) := by decide +kernel
theorem dX5_soundsOf_45 : decode cX5_soundsOf 45 = .ok (.iconst 0, 1) := by decide +kernel
theorem dX5_soundsOf_46 : decode cX5_soundsOf 46 = .ok (.ior, 1) := by decide +kernel
theorem dX5_soundsOf_47 : decode cX5_soundsOf 47 = .ok (.istore_n 3, 1) := by decide +kernel
theorem dX5_soundsOf_48 : decode cX5_soundsOf 48 = .ok (.iinc 4 1, 3) := by decide +kernel
theorem dX5_soundsOf_51 : decode cX5_soundsOf 51 = .ok (.goto (-46), 3) := by decide +kernel
theorem dX5_soundsOf_54 : decode cX5_soundsOf 54 = .ok (.iload_n 3, 1) := by decide +kernel
theorem dX5_soundsOf_55 : decode cX5_soundsOf 55 = .ok (.ireturn, 1) := by decide +kernel
set_option maxRecDepth 20000 in
theorem ggX5_loudOf_X5_has : GoodIn wsX5_loudOf wsX5_has := goodIn_r _ [5] (by decide +kernel) (by decide +kernel)
set_option maxRecDepth 20000 in
theorem gX5_loudOf_X5_has : GoodIn wsX5_loudOf (va_wsS RX5 121 yX5_has wsX5_has) := goodIn_app (goodIn_of _ (by decide +kernel)) ggX5_loudOf_X5_has
set_option maxRecDepth 20000 in
theorem ggX5_loudOf_X5_strengthOf : GoodIn wsX5_loudOf wsX5_strengthOf := goodIn_r _ [9, 1, 10, 11, 12, 13, 4, 14, 15, 16, 17, 18, 19, 20, 21, 22, 23, 24, 25, 26, 27, 28, 29, 30, 31, 32, 33, 34, 35, 36, 37, 38, 39, 40] (by decide +kernel) (by decide +kernel)
set_option maxRecDepth 20000 in
theorem gX5_loudOf_X5_strengthOf : GoodIn wsX5_loudOf (wsV RX5 115 RX5 yX5_strengthOf wsX5_strengthOf) := goodIn_app (goodIn_of _ (by decide +kernel)) ggX5_loudOf_X5_strengthOf
theorem dX5_loudOf_0 : decode cX5_loudOf 0 = .ok (.iconst 0, 1) := by decide +kernel
theorem dX5_loudOf_1 : decode cX5_loudOf 1 = .ok (.istore_n 3, 1) := by decide +kernel
theorem dX5_loudOf_2 : decode cX5_loudOf 2 = .ok (.iconst 0, 1) := by decide +kernel
theorem dX5_loudOf_3 : decode cX5_loudOf 3 = .ok (.istore 4, 2) := by decide +kernel
theorem dX5_loudOf_5 : decode cX5_loudOf 5 = .ok (.iload 4, 2) := by decide +kernel
theorem dX5_loudOf_7 : decode cX5_loudOf 7 = .ok (.aload_n 0, 1) := by decide +kernel
theorem dX5_loudOf_8 : decode cX5_loudOf 8 = .ok (.getfield 20, 3) := by decide +kernel
theorem dX5_loudOf_11 : decode cX5_loudOf 11 = .ok (.iconst 1, 1) := by decide +kernel
theorem dX5_loudOf_12 : decode cX5_loudOf 12 = .ok (.iaload, 1) := by decide +kernel
theorem dX5_loudOf_13 : decode cX5_loudOf 13 = .ok (.if_icmp .ge 32, 3) := by decide +kernel
theorem dX5_loudOf_16 : decode cX5_loudOf 16 = .ok (.iload_n 3, 1) := by decide +kernel
theorem dX5_loudOf_17 : decode cX5_loudOf 17 = .ok (.iload_n 1, 1) := by decide +kernel
theorem dX5_loudOf_18 : decode cX5_loudOf 18 = .ok (.iload 4, 2) := by decide +kernel
theorem dX5_loudOf_20 : decode cX5_loudOf 20 = .ok (.invokestatic 121, 3) := by decide +kernel
theorem dX5_loudOf_23 : decode cX5_loudOf 23 = .ok (.ifCond .eq 13, 3) := by decide +kernel
theorem dX5_loudOf_26 : decode cX5_loudOf 26 = .ok (.aload_n 0, 1) := by decide +kernel
theorem dX5_loudOf_27 : decode cX5_loudOf 27 = .ok (.iload 4, 2) := by decide +kernel
theorem dX5_loudOf_29 : decode cX5_loudOf 29 = .ok (.iload_n 2, 1) := by decide +kernel
theorem dX5_loudOf_30 : decode cX5_loudOf 30 = .ok (.invokevirtual 115, 3) := by decide +kernel
theorem dX5_loudOf_33 : decode cX5_loudOf 33 = .ok (.goto 4, 3) := by decide +kernel
theorem dX5_loudOf_36 : decode cX5_loudOf 36 = .ok (.iconst 0, 1) := by decide +kernel
theorem dX5_loudOf_37 : decode cX5_loudOf 37 = .ok (.iadd, 1) := by decide +kernel
theorem dX5_loudOf_38 : decode cX5_loudOf 38 = .ok (.istore_n 3, 1) := by decide +kernel
theorem dX5_loudOf_39 : decode cX5_loudOf 39 = .ok (.iinc 4 1, 3) := by decide +kernel
theorem dX5_loudOf_42 : decode cX5_loudOf 42 = .ok (.goto (-37), 3) := by decide +kernel
theorem dX5_loudOf_45 : decode cX5_loudOf 45 = .ok (.iload_n 3, 1) := by decide +kernel
theorem dX5_loudOf_46 : decode cX5_loudOf 46 = .ok (.ireturn, 1) := by decide +kernel
end
section
set_option maxRecDepth 20000 in
theorem ggX5_clearOf_X5_loudOf : GoodIn wsX5_clearOf wsX5_loudOf := goodIn_r _ [6, 1, 7, 8, 5, 9, 10, 11, 12, 13, 14, 15, 16, 17, 18, 19, 20, 21, 22, 23, 24, 25, 26, 27, 28, 29, 30, 31, 32, 33, 34, 35, 36, 37, 38, 39, 40, 41, 42, 43, 44] (by decide +kernel) (by decide +kernel)
set_option maxRecDepth 20000 in
theorem gX5_clearOf_X5_loudOf : GoodIn wsX5_clearOf (wsV RX5 125 RX5 yX5_loudOf wsX5_loudOf) := goodIn_app (goodIn_of _ (by decide +kernel)) ggX5_clearOf_X5_loudOf
set_option maxRecDepth 20000 in
theorem ggX5_clearOf_X5_has : GoodIn wsX5_clearOf wsX5_has := goodIn_r _ [9] (by decide +kernel) (by decide +kernel)
set_option maxRecDepth 20000 in
theorem gX5_clearOf_X5_has : GoodIn wsX5_clearOf (va_wsS RX5 121 yX5_has wsX5_has) := goodIn_app (goodIn_of _ (by decide +kernel)) ggX5_clearOf_X5_has
set_option maxRecDepth 20000 in
theorem ggX5_clearOf_X5_strengthOf : GoodIn wsX5_clearOf wsX5_strengthOf := goodIn_r _ [13, 1, 14, 15, 16, 17, 5, 18, 19, 20, 21, 22, 23, 24, 25, 26, 27, 28, 29, 30, 31, 32, 33, 34, 35, 36, 37, 38, 39, 40, 41, 42, 43, 44] (by decide +kernel) (by decide +kernel)
set_option maxRecDepth 20000 in
theorem gX5_clearOf_X5_strengthOf : GoodIn wsX5_clearOf (wsV RX5 115 RX5 yX5_strengthOf wsX5_strengthOf) := goodIn_app (goodIn_of _ (by decide +kernel)) ggX5_clearOf_X5_strengthOf
theorem dX5_clearOf_0 : decode cX5_clearOf 0 = .ok (.aload_n 0, 1) := by decide +kernel
theorem dX5_clearOf_1 : decode cX5_clearOf 1 = .ok (.iload_n 1, 1) := by decide +kernel
theorem dX5_clearOf_2 : decode cX5_clearOf 2 = .ok (.iload_n 2, 1) := by decide +kernel
theorem dX5_clearOf_3 : decode cX5_clearOf 3 = .ok (.invokevirtual 125, 3) := by decide +kernel
theorem dX5_clearOf_6 : decode cX5_clearOf 6 = .ok (.istore_n 3, 1) := by decide +kernel
theorem dX5_clearOf_7 : decode cX5_clearOf 7 = .ok (.bipush (-9), 2) := by decide +kernel
theorem dX5_clearOf_9 : decode cX5_clearOf 9 = .ok (.istore 4, 2) := by decide +kernel
theorem dX5_clearOf_11 : decode cX5_clearOf 11 = .ok (.iconst 0, 1) := by decide +kernel
theorem dX5_clearOf_12 : decode cX5_clearOf 12 = .ok (.istore 5, 2) := by decide +kernel
theorem dX5_clearOf_14 : decode cX5_clearOf 14 = .ok (.iload 5, 2) := by decide +kernel
theorem dX5_clearOf_16 : decode cX5_clearOf 16 = .ok (.aload_n 0, 1) := by decide +kernel
theorem dX5_clearOf_17 : decode cX5_clearOf 17 = .ok (.getfield 20, 3) := by decide +kernel
theorem dX5_clearOf_20 : decode cX5_clearOf 20 = .ok (.iconst 1, 1) := by decide +kernel
theorem dX5_clearOf_21 : decode cX5_clearOf 21 = .ok (.iaload, 1) := by decide +kernel
theorem dX5_clearOf_22 : decode cX5_clearOf 22 = .ok (.if_icmp .ge 40, 3) := by decide +kernel
theorem dX5_clearOf_25 : decode cX5_clearOf 25 = .ok (.iload_n 1, 1) := by decide +kernel
theorem dX5_clearOf_26 : decode cX5_clearOf 26 = .ok (.iload 5, 2) := by decide +kernel
theorem dX5_clearOf_28 : decode cX5_clearOf 28 = .ok (.invokestatic 121, 3) := by decide +kernel
theorem dX5_clearOf_31 : decode cX5_clearOf 31 = .ok (.ifCond .eq 21, 3) := by decide +kernel
theorem dX5_clearOf_34 : decode cX5_clearOf 34 = .ok (.iconst 2, 1) := by decide +kernel
theorem dX5_clearOf_35 : decode cX5_clearOf 35 = .ok (.aload_n 0, 1) := by decide +kernel
theorem dX5_clearOf_36 : decode cX5_clearOf 36 = .ok (.iload 5, 2) := by decide +kernel
theorem dX5_clearOf_38 : decode cX5_clearOf 38 = .ok (.iload_n 2, 1) := by decide +kernel
theorem dX5_clearOf_39 : decode cX5_clearOf 39 = .ok (.invokevirtual 115, 3) := by decide +kernel
theorem dX5_clearOf_42 : decode cX5_clearOf 42 = .ok (.imul, 1) := by decide +kernel
theorem dX5_clearOf_43 : decode cX5_clearOf 43 = .ok (.iload_n 3, 1) := by decide +kernel
theorem dX5_clearOf_44 : decode cX5_clearOf 44 = .ok (.if_icmp .le 8, 3) := by decide +kernel
theorem dX5_clearOf_47 : decode cX5_clearOf 47 = .ok (.iload 5, 2) := by decide +kernel
theorem dX5_clearOf_49 : decode cX5_clearOf 49 = .ok (.goto 5, 3) := by decide +kernel
theorem dX5_clearOf_52 : decode cX5_clearOf 52 = .ok (.iload 4, 2) := by decide +kernel
theorem dX5_clearOf_54 : decode cX5_clearOf 54 = .ok (.istore 4, 2) := by decide +kernel
theorem dX5_clearOf_56 : decode cX5_clearOf 56 = .ok (.iinc 5 1, 3) := by decide +kernel
theorem dX5_clearOf_59 : decode cX5_clearOf 59 = .ok (.goto (-45), 3) := by decide +kernel
theorem dX5_clearOf_62 : decode cX5_clearOf 62 = .ok (.iload 4, 2) := by decide +kernel
theorem dX5_clearOf_64 : decode cX5_clearOf 64 = .ok (.ireturn, 1) := by decide +kernel
set_option maxRecDepth 20000 in
theorem ggX5_lastOf_X5_strengthOf : GoodIn wsX5_lastOf wsX5_strengthOf := goodIn_r _ [5, 6, 7, 8, 9, 10, 4, 11, 12, 13, 14, 15, 16, 17, 18, 19, 20, 21, 22, 23, 24, 25, 26, 27, 28, 29, 30, 31, 32, 33, 34, 35, 36, 37] (by decide +kernel) (by decide +kernel)
set_option maxRecDepth 20000 in
theorem gX5_lastOf_X5_strengthOf : GoodIn wsX5_lastOf (wsV RX5 115 RX5 yX5_strengthOf wsX5_strengthOf) := goodIn_app (goodIn_of _ (by decide +kernel)) ggX5_lastOf_X5_strengthOf
theorem dX5_lastOf_0 : decode cX5_lastOf 0 = .ok (.iconst 0, 1) := by decide +kernel
theorem dX5_lastOf_1 : decode cX5_lastOf 1 = .ok (.istore_n 2, 1) := by decide +kernel
theorem dX5_lastOf_2 : decode cX5_lastOf 2 = .ok (.iload_n 2, 1) := by decide +kernel
theorem dX5_lastOf_3 : decode cX5_lastOf 3 = .ok (.sipush 999, 3) := by decide +kernel
theorem dX5_lastOf_6 : decode cX5_lastOf 6 = .ok (.if_icmp .gt 20, 3) := by decide +kernel
theorem dX5_lastOf_9 : decode cX5_lastOf 9 = .ok (.aload_n 0, 1) := by decide +kernel
theorem dX5_lastOf_10 : decode cX5_lastOf 10 = .ok (.iload_n 1, 1) := by decide +kernel
theorem dX5_lastOf_11 : decode cX5_lastOf 11 = .ok (.iload_n 2, 1) := by decide +kernel
theorem dX5_lastOf_12 : decode cX5_lastOf 12 = .ok (.invokevirtual 115, 3) := by decide +kernel
theorem dX5_lastOf_15 : decode cX5_lastOf 15 = .ok (.ifCond .ne 5, 3) := by decide +kernel
theorem dX5_lastOf_18 : decode cX5_lastOf 18 = .ok (.iload_n 2, 1) := by decide +kernel
theorem dX5_lastOf_19 : decode cX5_lastOf 19 = .ok (.ireturn, 1) := by decide +kernel
theorem dX5_lastOf_20 : decode cX5_lastOf 20 = .ok (.iinc 2 1, 3) := by decide +kernel
theorem dX5_lastOf_23 : decode cX5_lastOf 23 = .ok (.goto (-21), 3) := by decide +kernel
theorem dX5_lastOf_26 : decode cX5_lastOf 26 = .ok (.bipush (-9), 2) := by decide +kernel
theorem dX5_lastOf_28 : decode cX5_lastOf 28 = .ok (.ireturn, 1) := by decide +kernel
set_option maxRecDepth 20000 in
theorem ggX5_quietOf_X5_soundsOf : GoodIn wsX5_quietOf wsX5_soundsOf := goodIn_r _ [5, 6, 7, 8, 9, 4, 10, 11, 12, 13, 14, 15, 16, 17, 18, 19, 20, 21, 22, 23, 24, 25, 26, 27, 28, 29, 30, 31, 32, 33, 34, 35, 36, 37, 38, 39, 40, 41, 42, 43, 44, 45, 46, 47, 48, 49, 50, 51, 52, 53] (by decide +kernel) (by decide +kernel)
set_option maxRecDepth 20000 in
theorem gX5_quietOf_X5_soundsOf : GoodIn wsX5_quietOf (wsV RX5 128 RX5 yX5_soundsOf wsX5_soundsOf) := goodIn_app (goodIn_of _ (by decide +kernel)) ggX5_quietOf_X5_soundsOf
theorem dX5_quietOf_0 : decode cX5_quietOf 0 = .ok (.iconst 0, 1) := by decide +kernel
theorem dX5_quietOf_1 : decode cX5_quietOf 1 = .ok (.istore_n 2, 1) := by decide +kernel
theorem dX5_quietOf_2 : decode cX5_quietOf 2 = .ok (.iload_n 2, 1) := by decide +kernel
theorem dX5_quietOf_3 : decode cX5_quietOf 3 = .ok (.bipush 99, 2) := by decide +kernel
theorem dX5_quietOf_5 : decode cX5_quietOf 5 = .ok (.if_icmp .gt 20, 3) := by decide +kernel
theorem dX5_quietOf_8 : decode cX5_quietOf 8 = .ok (.aload_n 0, 1) := by decide +kernel
theorem dX5_quietOf_9 : decode cX5_quietOf 9 = .ok (.iload_n 1, 1) := by decide +kernel
theorem dX5_quietOf_10 : decode cX5_quietOf 10 = .ok (.iload_n 2, 1) := by decide +kernel
theorem dX5_quietOf_11 : decode cX5_quietOf 11 = .ok (.invokevirtual 128, 3) := by decide +kernel
theorem dX5_quietOf_14 : decode cX5_quietOf 14 = .ok (.ifCond .ne 5, 3) := by decide +kernel
theorem dX5_quietOf_17 : decode cX5_quietOf 17 = .ok (.iload_n 2, 1) := by decide +kernel
theorem dX5_quietOf_18 : decode cX5_quietOf 18 = .ok (.ireturn, 1) := by decide +kernel
theorem dX5_quietOf_19 : decode cX5_quietOf 19 = .ok (.iinc 2 1, 3) := by decide +kernel
theorem dX5_quietOf_22 : decode cX5_quietOf 22 = .ok (.goto (-20), 3) := by decide +kernel
theorem dX5_quietOf_25 : decode cX5_quietOf 25 = .ok (.bipush (-9), 2) := by decide +kernel
theorem dX5_quietOf_27 : decode cX5_quietOf 27 = .ok (.ireturn, 1) := by decide +kernel
set_option maxRecDepth 20000 in
theorem ggX5_saying_X5_isSaying : GoodIn wsX5_saying wsX5_isSaying := goodIn_r _ [6, 1, 7, 8, 5, 9, 40, 41, 42, 43, 44, 45, 46, 47, 48, 49, 50, 51, 52, 53, 54, 55, 56, 57, 58, 59, 60] (by decide +kernel) (by decide +kernel)
set_option maxRecDepth 20000 in
theorem gX5_saying_X5_isSaying : GoodIn wsX5_saying (wsV RX5 131 RX5 yX5_isSaying wsX5_isSaying) := goodIn_app (goodIn_of _ (by decide +kernel)) ggX5_saying_X5_isSaying
set_option maxRecDepth 20000 in
theorem ggX5_saying_X5_placeOf : GoodIn wsX5_saying wsX5_placeOf := goodIn_r _ [13, 1, 14, 15, 16, 5, 17, 18, 19, 20, 21, 22, 23, 24, 25, 26, 40, 41, 42, 43, 44, 45, 46, 47, 48, 49, 50, 51, 52, 53, 54, 55, 56, 57, 58, 59, 60] (by decide +kernel) (by decide +kernel)
set_option maxRecDepth 20000 in
theorem gX5_saying_X5_placeOf : GoodIn wsX5_saying (wsV RX5 118 RX5 yX5_placeOf wsX5_placeOf) := goodIn_app (goodIn_of _ (by decide +kernel)) ggX5_saying_X5_placeOf
set_option maxRecDepth 20000 in
theorem ggX5_saying_X5_lapsOf : GoodIn wsX5_saying wsX5_lapsOf := goodIn_r _ [30, 1, 26, 14, 15, 16, 5, 17, 40, 41, 42, 43, 44, 45, 46, 47, 48, 49, 50, 51, 52, 53, 54, 55, 56, 57, 58, 59, 60] (by decide +kernel) (by decide +kernel)
set_option maxRecDepth 20000 in
theorem gX5_saying_X5_lapsOf : GoodIn wsX5_saying (wsV RX5 112 RX5 yX5_lapsOf wsX5_lapsOf) := goodIn_app (goodIn_of _ (by decide +kernel)) ggX5_saying_X5_lapsOf
set_option maxRecDepth 20000 in
theorem ggX5_saying_X5_strengthOf : GoodIn wsX5_saying wsX5_strengthOf := goodIn_r _ [34, 1, 35, 27, 28, 29, 5, 30, 26, 14, 15, 16, 17, 40, 41, 42, 43, 44, 45, 46, 47, 48, 49, 50, 51, 52, 53, 54, 55, 56, 57, 58, 59, 60] (by decide +kernel) (by decide +kernel)
set_option maxRecDepth 20000 in
theorem gX5_saying_X5_strengthOf : GoodIn wsX5_saying (wsV RX5 115 RX5 yX5_strengthOf wsX5_strengthOf) := goodIn_app (goodIn_of _ (by decide +kernel)) ggX5_saying_X5_strengthOf
set_option maxRecDepth 20000 in
theorem ggX5_saying_X5_lastOf : GoodIn wsX5_saying wsX5_lastOf := goodIn_r _ [39, 31, 32, 33, 5, 34, 1, 35, 27, 28, 29, 30, 26, 14, 15, 16, 17, 40, 41, 42, 43, 44, 45, 46, 47, 48, 49, 50, 51, 52, 53, 54, 55, 56, 57, 58, 59, 60] (by decide +kernel) (by decide +kernel)
set_option maxRecDepth 20000 in
theorem gX5_saying_X5_lastOf : GoodIn wsX5_saying (wsV RX5 135 RX5 yX5_lastOf wsX5_lastOf) := goodIn_app (goodIn_of _ (by decide +kernel)) ggX5_saying_X5_lastOf
theorem dX5_saying_0 : decode cX5_saying 0 = .ok (.aload_n 0, 1) := by decide +kernel
theorem dX5_saying_1 : decode cX5_saying 1 = .ok (.iload_n 1, 1) := by decide +kernel
theorem dX5_saying_2 : decode cX5_saying 2 = .ok (.invokevirtual 131, 3) := by decide +kernel
theorem dX5_saying_5 : decode cX5_saying 5 = .ok (.ifCond .ne 5, 3) := by decide +kernel
theorem dX5_saying_8 : decode cX5_saying 8 = .ok (.iconst (-1), 1) := by decide +kernel
theorem dX5_saying_9 : decode cX5_saying 9 = .ok (.ireturn, 1) := by decide +kernel
theorem dX5_saying_10 : decode cX5_saying 10 = .ok (.iload_n 2, 1) := by decide +kernel
theorem dX5_saying_11 : decode cX5_saying 11 = .ok (.tableswitch 125 0 8 #[49, 58, 68, 78, 88, 95, 102, 109, 119], 49) := by decide +kernel
theorem dX5_saying_60 : decode cX5_saying 60 = .ok (.aload_n 0, 1) := by decide +kernel
theorem dX5_saying_61 : decode cX5_saying 61 = .ok (.getfield 20, 3) := by decide +kernel
theorem dX5_saying_64 : decode cX5_saying 64 = .ok (.iconst 2, 1) := by decide +kernel
theorem dX5_saying_65 : decode cX5_saying 65 = .ok (.iload_n 1, 1) := by decide +kernel
theorem dX5_saying_66 : decode cX5_saying 66 = .ok (.iadd, 1) := by decide +kernel
theorem dX5_saying_67 : decode cX5_saying 67 = .ok (.iaload, 1) := by decide +kernel
theorem dX5_saying_68 : decode cX5_saying 68 = .ok (.ireturn, 1) := by decide +kernel
theorem dX5_saying_69 : decode cX5_saying 69 = .ok (.aload_n 0, 1) := by decide +kernel
theorem dX5_saying_70 : decode cX5_saying 70 = .ok (.getfield 20, 3) := by decide +kernel
theorem dX5_saying_73 : decode cX5_saying 73 = .ok (.bipush 10, 2) := by decide +kernel
theorem dX5_saying_75 : decode cX5_saying 75 = .ok (.iload_n 1, 1) := by decide +kernel
theorem dX5_saying_76 : decode cX5_saying 76 = .ok (.iadd, 1) := by decide +kernel
theorem dX5_saying_77 : decode cX5_saying 77 = .ok (.iaload, 1) := by decide +kernel
theorem dX5_saying_78 : decode cX5_saying 78 = .ok (.ireturn, 1) := by decide +kernel
theorem dX5_saying_79 : decode cX5_saying 79 = .ok (.aload_n 0, 1) := by decide +kernel
theorem dX5_saying_80 : decode cX5_saying 80 = .ok (.getfield 20, 3) := by decide +kernel
theorem dX5_saying_83 : decode cX5_saying 83 = .ok (.bipush 18, 2) := by decide +kernel
theorem dX5_saying_85 : decode cX5_saying 85 = .ok (.iload_n 1, 1) := by decide +kernel
theorem dX5_saying_86 : decode cX5_saying 86 = .ok (.iadd, 1) := by decide +kernel
theorem dX5_saying_87 : decode cX5_saying 87 = .ok (.iaload, 1) := by decide +kernel
theorem dX5_saying_88 : decode cX5_saying 88 = .ok (.ireturn, 1) := by decide +kernel
theorem dX5_saying_89 : decode cX5_saying 89 = .ok (.aload_n 0, 1) := by decide +kernel
theorem dX5_saying_90 : decode cX5_saying 90 = .ok (.getfield 20, 3) := by decide +kernel
theorem dX5_saying_93 : decode cX5_saying 93 = .ok (.bipush 26, 2) := by decide +kernel
theorem dX5_saying_95 : decode cX5_saying 95 = .ok (.iload_n 1, 1) := by decide +kernel
theorem dX5_saying_96 : decode cX5_saying 96 = .ok (.iadd, 1) := by decide +kernel
theorem dX5_saying_97 : decode cX5_saying 97 = .ok (.iaload, 1) := by decide +kernel
theorem dX5_saying_98 : decode cX5_saying 98 = .ok (.ireturn, 1) := by decide +kernel
theorem dX5_saying_99 : decode cX5_saying 99 = .ok (.aload_n 0, 1) := by decide +kernel
theorem dX5_saying_100 : decode cX5_saying 100 = .ok (.iload_n 1, 1) := by decide +kernel
theorem dX5_saying_101 : decode cX5_saying 101 = .ok (.iconst 0, 1) := by decide +kernel
theorem dX5_saying_102 : decode cX5_saying 102 = .ok (.invokevirtual 118, 3) := by decide +kernel
theorem dX5_saying_105 : decode cX5_saying 105 = .ok (.ireturn, 1) := by decide +kernel
theorem dX5_saying_106 : decode cX5_saying 106 = .ok (.aload_n 0, 1) := by decide +kernel
theorem dX5_saying_107 : decode cX5_saying 107 = .ok (.iload_n 1, 1) := by decide +kernel
theorem dX5_saying_108 : decode cX5_saying 108 = .ok (.iconst 0, 1) := by decide +kernel
theorem dX5_saying_109 : decode cX5_saying 109 = .ok (.invokevirtual 112, 3) := by decide +kernel
theorem dX5_saying_112 : decode cX5_saying 112 = .ok (.ireturn, 1) := by decide +kernel
theorem dX5_saying_113 : decode cX5_saying 113 = .ok (.aload_n 0, 1) := by decide +kernel
theorem dX5_saying_114 : decode cX5_saying 114 = .ok (.iload_n 1, 1) := by decide +kernel
theorem dX5_saying_115 : decode cX5_saying 115 = .ok (.iconst 0, 1) := by decide +kernel
theorem dX5_saying_116 : decode cX5_saying 116 = .ok (.invokevirtual 115, 3) := by decide +kernel
theorem dX5_saying_119 : decode cX5_saying 119 = .ok (.ireturn, 1) := by decide +kernel
theorem dX5_saying_120 : decode cX5_saying 120 = .ok (.aload_n 0, 1) := by decide +kernel
theorem dX5_saying_121 : decode cX5_saying 121 = .ok (.getfield 20, 3) := by decide +kernel
theorem dX5_saying_124 : decode cX5_saying 124 = .ok (.bipush 42, 2) := by decide +kernel
theorem dX5_saying_126 : decode cX5_saying 126 = .ok (.iload_n 1, 1) := by decide +kernel
theorem dX5_saying_127 : decode cX5_saying 127 = .ok (.iadd, 1) := by decide +kernel
theorem dX5_saying_128 : decode cX5_saying 128 = .ok (.iaload, 1) := by decide +kernel
theorem dX5_saying_129 : decode cX5_saying 129 = .ok (.ireturn, 1) := by decide +kernel
theorem dX5_saying_130 : decode cX5_saying 130 = .ok (.aload_n 0, 1) := by decide +kernel
theorem dX5_saying_131 : decode cX5_saying 131 = .ok (.iload_n 1, 1) := by decide +kernel
theorem dX5_saying_132 : decode cX5_saying 132 = .ok (.invokevirtual 135, 3) := by decide +kernel
theorem dX5_saying_135 : decode cX5_saying 135 = .ok (.ireturn, 1) := by decide +kernel
theorem dX5_saying_136 : decode cX5_saying 136 = .ok (.iconst (-1), 1) := by decide +kernel
theorem dX5_saying_137 : decode cX5_saying 137 = .ok (.ireturn, 1) := by decide +kernel
set_option maxRecDepth 20000 in
theorem ggX5_place_X5_isPlace : GoodIn wsX5_place wsX5_isPlace := goodIn_r _ [6, 7, 8, 9, 5, 10, 56, 57, 58, 59, 60, 61, 62, 63, 64, 65, 66, 67, 68, 69, 70, 71, 72, 73, 74, 75, 76] (by decide +kernel) (by decide +kernel)
set_option maxRecDepth 20000 in
theorem gX5_place_X5_isPlace : GoodIn wsX5_place (wsV RX5 138 RX5 yX5_isPlace wsX5_isPlace) := goodIn_app (goodIn_of _ (by decide +kernel)) ggX5_place_X5_isPlace
set_option maxRecDepth 20000 in
theorem ggX5_place_X5_soundsOf : GoodIn wsX5_place wsX5_soundsOf := goodIn_r _ [14, 15, 16, 17, 18, 5, 19, 20, 21, 22, 23, 24, 7, 25, 26, 27, 28, 29, 30, 31, 32, 33, 34, 35, 36, 37, 38, 39, 40, 56, 57, 58, 59, 60, 61, 62, 63, 64, 65, 66, 67, 68, 69, 70, 71, 72, 73, 74, 75, 76] (by decide +kernel) (by decide +kernel)
set_option maxRecDepth 20000 in
theorem gX5_place_X5_soundsOf : GoodIn wsX5_place (wsV RX5 128 RX5 yX5_soundsOf wsX5_soundsOf) := goodIn_app (goodIn_of _ (by decide +kernel)) ggX5_place_X5_soundsOf
set_option maxRecDepth 20000 in
theorem ggX5_place_X5_clearOf : GoodIn wsX5_place wsX5_clearOf := goodIn_r _ [44, 15, 45, 46, 47, 5, 48, 49, 50, 51, 16, 17, 18, 19, 20, 21, 22, 23, 24, 7, 25, 26, 27, 28, 56, 57, 58, 59, 60, 61, 62, 63, 64, 65, 66, 67, 68, 69, 70, 71, 72, 73, 74, 75, 76] (by decide +kernel) (by decide +kernel)
set_option maxRecDepth 20000 in
theorem gX5_place_X5_clearOf : GoodIn wsX5_place (wsV RX5 141 RX5 yX5_clearOf wsX5_clearOf) := goodIn_app (goodIn_of _ (by decide +kernel)) ggX5_place_X5_clearOf
set_option maxRecDepth 20000 in
theorem ggX5_place_X5_has : GoodIn wsX5_place wsX5_has := goodIn_r _ [51] (by decide +kernel) (by decide +kernel)
set_option maxRecDepth 20000 in
theorem gX5_place_X5_has : GoodIn wsX5_place (va_wsS RX5 121 yX5_has wsX5_has) := goodIn_app (goodIn_of _ (by decide +kernel)) ggX5_place_X5_has
set_option maxRecDepth 20000 in
theorem ggX5_place_X5_loudOf : GoodIn wsX5_place wsX5_loudOf := goodIn_r _ [48, 15, 49, 50, 5, 51, 16, 17, 18, 19, 20, 21, 22, 23, 24, 7, 25, 26, 27, 28, 56, 57, 58, 59, 60, 61, 62, 63, 64, 65, 66, 67, 68, 69, 70, 71, 72, 73, 74, 75, 76] (by decide +kernel) (by decide +kernel)
set_option maxRecDepth 20000 in
theorem gX5_place_X5_loudOf : GoodIn wsX5_place (wsV RX5 125 RX5 yX5_loudOf wsX5_loudOf) := goodIn_app (goodIn_of _ (by decide +kernel)) ggX5_place_X5_loudOf
set_option maxRecDepth 20000 in
theorem ggX5_place_X5_quietOf : GoodIn wsX5_place wsX5_quietOf := goodIn_r _ [55, 11, 12, 13, 5, 14, 15, 16, 17, 18, 19, 20, 21, 22, 23, 24, 7, 25, 26, 27, 28, 29, 30, 31, 32, 33, 34, 35, 36, 37, 38, 39, 40, 56, 57, 58, 59, 60, 61, 62, 63, 64, 65, 66, 67, 68, 69, 70, 71, 72, 73, 74, 75, 76] (by decide +kernel) (by decide +kernel)
set_option maxRecDepth 20000 in
theorem gX5_place_X5_quietOf : GoodIn wsX5_place (wsV RX5 144 RX5 yX5_quietOf wsX5_quietOf) := goodIn_app (goodIn_of _ (by decide +kernel)) ggX5_place_X5_quietOf
theorem dX5_place_0 : decode cX5_place 0 = .ok (.aload_n 0, 1) := by decide +kernel
theorem dX5_place_1 : decode cX5_place 1 = .ok (.iload_n 1, 1) := by decide +kernel
theorem dX5_place_2 : decode cX5_place 2 = .ok (.invokevirtual 138, 3) := by decide +kernel
theorem dX5_place_5 : decode cX5_place 5 = .ok (.ifCond .ne 5, 3) := by decide +kernel
theorem dX5_place_8 : decode cX5_place 8 = .ok (.iconst (-1), 1) := by decide +kernel
theorem dX5_place_9 : decode cX5_place 9 = .ok (.ireturn, 1) := by decide +kernel
theorem dX5_place_10 : decode cX5_place 10 = .ok (.aload_n 0, 1) := by decide +kernel
theorem dX5_place_11 : decode cX5_place 11 = .ok (.iload_n 1, 1) := by decide +kernel
theorem dX5_place_12 : decode cX5_place 12 = .ok (.iconst 0, 1) := by decide +kernel
theorem dX5_place_13 : decode cX5_place 13 = .ok (.invokevirtual 128, 3) := by decide +kernel
theorem dX5_place_16 : decode cX5_place 16 = .ok (.istore_n 3, 1) := by decide +kernel
theorem dX5_place_17 : decode cX5_place 17 = .ok (.iload_n 2, 1) := by decide +kernel
theorem dX5_place_18 : decode cX5_place 18 = .ok (.tableswitch 107 0 5 #[38, 47, 49, 56, 77, 101], 38) := by decide +kernel
theorem dX5_place_56 : decode cX5_place 56 = .ok (.aload_n 0, 1) := by decide +kernel
theorem dX5_place_57 : decode cX5_place 57 = .ok (.getfield 88, 3) := by decide +kernel
theorem dX5_place_60 : decode cX5_place 60 = .ok (.iload_n 1, 1) := by decide +kernel
theorem dX5_place_61 : decode cX5_place 61 = .ok (.ishr, 1) := by decide +kernel
theorem dX5_place_62 : decode cX5_place 62 = .ok (.iconst 1, 1) := by decide +kernel
theorem dX5_place_63 : decode cX5_place 63 = .ok (.iand, 1) := by decide +kernel
theorem dX5_place_64 : decode cX5_place 64 = .ok (.ireturn, 1) := by decide +kernel
theorem dX5_place_65 : decode cX5_place 65 = .ok (.iload_n 3, 1) := by decide +kernel
theorem dX5_place_66 : decode cX5_place 66 = .ok (.ireturn, 1) := by decide +kernel
theorem dX5_place_67 : decode cX5_place 67 = .ok (.aload_n 0, 1) := by decide +kernel
theorem dX5_place_68 : decode cX5_place 68 = .ok (.iload_n 3, 1) := by decide +kernel
theorem dX5_place_69 : decode cX5_place 69 = .ok (.iconst 0, 1) := by decide +kernel
theorem dX5_place_70 : decode cX5_place 70 = .ok (.invokevirtual 141, 3) := by decide +kernel
theorem dX5_place_73 : decode cX5_place 73 = .ok (.ireturn, 1) := by decide +kernel
theorem dX5_place_74 : decode cX5_place 74 = .ok (.iload_n 3, 1) := by decide +kernel
theorem dX5_place_75 : decode cX5_place 75 = .ok (.ifCond .eq 18, 3) := by decide +kernel
theorem dX5_place_78 : decode cX5_place 78 = .ok (.aload_n 0, 1) := by decide +kernel
theorem dX5_place_79 : decode cX5_place 79 = .ok (.iload_n 3, 1) := by decide +kernel
theorem dX5_place_80 : decode cX5_place 80 = .ok (.iconst 0, 1) := by decide +kernel
theorem dX5_place_81 : decode cX5_place 81 = .ok (.invokevirtual 141, 3) := by decide +kernel
theorem dX5_place_84 : decode cX5_place 84 = .ok (.bipush (-9), 2) := by decide +kernel
theorem dX5_place_86 : decode cX5_place 86 = .ok (.if_icmp .ne 7, 3) := by decide +kernel
theorem dX5_place_89 : decode cX5_place 89 = .ok (.iconst 1, 1) := by decide +kernel
theorem dX5_place_90 : decode cX5_place 90 = .ok (.goto 4, 3) := by decide +kernel
theorem dX5_place_93 : decode cX5_place 93 = .ok (.iconst 0, 1) := by decide +kernel
theorem dX5_place_94 : decode cX5_place 94 = .ok (.ireturn, 1) := by decide +kernel
theorem dX5_place_95 : decode cX5_place 95 = .ok (.aload_n 0, 1) := by decide +kernel
theorem dX5_place_96 : decode cX5_place 96 = .ok (.getfield 88, 3) := by decide +kernel
theorem dX5_place_99 : decode cX5_place 99 = .ok (.iload_n 1, 1) := by decide +kernel
theorem dX5_place_100 : decode cX5_place 100 = .ok (.invokestatic 121, 3) := by decide +kernel
theorem dX5_place_103 : decode cX5_place 103 = .ok (.ifCond .eq 7, 3) := by decide +kernel
theorem dX5_place_106 : decode cX5_place 106 = .ok (.iconst 2, 1) := by decide +kernel
theorem dX5_place_107 : decode cX5_place 107 = .ok (.goto 4, 3) := by decide +kernel
theorem dX5_place_110 : decode cX5_place 110 = .ok (.iconst 1, 1) := by decide +kernel
theorem dX5_place_111 : decode cX5_place 111 = .ok (.aload_n 0, 1) := by decide +kernel
theorem dX5_place_112 : decode cX5_place 112 = .ok (.iload_n 3, 1) := by decide +kernel
theorem dX5_place_113 : decode cX5_place 113 = .ok (.iconst 0, 1) := by decide +kernel
theorem dX5_place_114 : decode cX5_place 114 = .ok (.invokevirtual 125, 3) := by decide +kernel
theorem dX5_place_117 : decode cX5_place 117 = .ok (.imul, 1) := by decide +kernel
theorem dX5_place_118 : decode cX5_place 118 = .ok (.ireturn, 1) := by decide +kernel
theorem dX5_place_119 : decode cX5_place 119 = .ok (.aload_n 0, 1) := by decide +kernel
theorem dX5_place_120 : decode cX5_place 120 = .ok (.iload_n 1, 1) := by decide +kernel
theorem dX5_place_121 : decode cX5_place 121 = .ok (.invokevirtual 144, 3) := by decide +kernel
theorem dX5_place_124 : decode cX5_place 124 = .ok (.ireturn, 1) := by decide +kernel
theorem dX5_place_125 : decode cX5_place 125 = .ok (.iconst (-1), 1) := by decide +kernel
theorem dX5_place_126 : decode cX5_place 126 = .ok (.ireturn, 1) := by decide +kernel
set_option maxRecDepth 20000 in
theorem ggX5_notes_X5_bring : GoodIn wsX5_notes wsX5_bring := goodIn_r _ [7] (by decide +kernel) (by decide +kernel)
set_option maxRecDepth 20000 in
theorem gX5_notes_X5_bring : GoodIn wsX5_notes (va_wsS RX5 91 yX5_bring wsX5_bring) := goodIn_app (goodIn_of _ (by decide +kernel)) ggX5_notes_X5_bring
theorem dX5_notes_0 : decode cX5_notes 0 = .ok (.aload_n 0, 1) := by decide +kernel
theorem dX5_notes_1 : decode cX5_notes 1 = .ok (.getfield 95, 3) := by decide +kernel
theorem dX5_notes_4 : decode cX5_notes 4 = .ok (.bipush 10, 2) := by decide +kernel
theorem dX5_notes_6 : decode cX5_notes 6 = .ok (.if_icmp .ne 30, 3) := by decide +kernel
theorem dX5_notes_9 : decode cX5_notes 9 = .ok (.aload_n 0, 1) := by decide +kernel
theorem dX5_notes_10 : decode cX5_notes 10 = .ok (.getfield 23, 3) := by decide +kernel
theorem dX5_notes_13 : decode cX5_notes 13 = .ok (.bipush 50, 2) := by decide +kernel
theorem dX5_notes_15 : decode cX5_notes 15 = .ok (.aload_n 0, 1) := by decide +kernel
theorem dX5_notes_16 : decode cX5_notes 16 = .ok (.getfield 23, 3) := by decide +kernel
theorem dX5_notes_19 : decode cX5_notes 19 = .ok (.iconst 0, 1) := by decide +kernel
theorem dX5_notes_20 : decode cX5_notes 20 = .ok (.sipush 450, 3) := by decide +kernel
theorem dX5_notes_23 : decode cX5_notes 23 = .ok (.invokestatic 91, 3) := by decide +kernel
theorem dX5_notes_26 : decode cX5_notes 26 = .ok (.aload_n 0, 1) := by decide +kernel
theorem dX5_notes_27 : decode cX5_notes 27 = .ok (.dup, 1) := by decide +kernel
theorem dX5_notes_28 : decode cX5_notes 28 = .ok (.getfield 95, 3) := by decide +kernel
theorem dX5_notes_31 : decode cX5_notes 31 = .ok (.iconst 1, 1) := by decide +kernel
theorem dX5_notes_32 : decode cX5_notes 32 = .ok (.isub, 1) := by decide +kernel
theorem dX5_notes_33 : decode cX5_notes 33 = .ok (.putfield 95, 3) := by decide +kernel
theorem dX5_notes_36 : decode cX5_notes 36 = .ok (.aload_n 0, 1) := by decide +kernel
theorem dX5_notes_37 : decode cX5_notes 37 = .ok (.getfield 20, 3) := by decide +kernel
theorem dX5_notes_40 : decode cX5_notes 40 = .ok (.iconst 0, 1) := by decide +kernel
theorem dX5_notes_41 : decode cX5_notes 41 = .ok (.aload_n 0, 1) := by decide +kernel
theorem dX5_notes_42 : decode cX5_notes 42 = .ok (.getfield 23, 3) := by decide +kernel
theorem dX5_notes_45 : decode cX5_notes 45 = .ok (.bipush 50, 2) := by decide +kernel
theorem dX5_notes_47 : decode cX5_notes 47 = .ok (.aload_n 0, 1) := by decide +kernel
theorem dX5_notes_48 : decode cX5_notes 48 = .ok (.getfield 95, 3) := by decide +kernel
theorem dX5_notes_51 : decode cX5_notes 51 = .ok (.imul, 1) := by decide +kernel
theorem dX5_notes_52 : decode cX5_notes 52 = .ok (.bipush 50, 2) := by decide +kernel
theorem dX5_notes_54 : decode cX5_notes 54 = .ok (.invokestatic 91, 3) := by decide +kernel
theorem dX5_notes_57 : decode cX5_notes 57 = .ok (.aload_n 0, 1) := by decide +kernel
theorem dX5_notes_58 : decode cX5_notes 58 = .ok (.dup, 1) := by decide +kernel
theorem dX5_notes_59 : decode cX5_notes 59 = .ok (.getfield 95, 3) := by decide +kernel
theorem dX5_notes_62 : decode cX5_notes 62 = .ok (.iconst 1, 1) := by decide +kernel
theorem dX5_notes_63 : decode cX5_notes 63 = .ok (.iadd, 1) := by decide +kernel
theorem dX5_notes_64 : decode cX5_notes 64 = .ok (.putfield 95, 3) := by decide +kernel
theorem dX5_notes_67 : decode cX5_notes 67 = .ok (.return_, 1) := by decide +kernel
set_option maxRecDepth 20000 in
theorem ggX5_alive_X5_strengthOf : GoodIn wsX5_alive wsX5_strengthOf := goodIn_r _ [6, 1, 7, 8, 9, 10, 5, 11, 12, 13, 14, 15, 16, 17, 18, 19, 20, 21, 22, 23, 24, 25, 26, 27, 28, 29, 30, 31, 32, 33, 34, 35, 36, 37] (by decide +kernel) (by decide +kernel)
set_option maxRecDepth 20000 in
theorem gX5_alive_X5_strengthOf : GoodIn wsX5_alive (wsV RX5 115 RX5 yX5_strengthOf wsX5_strengthOf) := goodIn_app (goodIn_of _ (by decide +kernel)) ggX5_alive_X5_strengthOf
theorem dX5_alive_0 : decode cX5_alive 0 = .ok (.iconst 0, 1) := by decide +kernel
theorem dX5_alive_1 : decode cX5_alive 1 = .ok (.istore_n 1, 1) := by decide +kernel
theorem dX5_alive_2 : decode cX5_alive 2 = .ok (.iconst 0, 1) := by decide +kernel
theorem dX5_alive_3 : decode cX5_alive 3 = .ok (.istore_n 2, 1) := by decide +kernel
theorem dX5_alive_4 : decode cX5_alive 4 = .ok (.iload_n 2, 1) := by decide +kernel
theorem dX5_alive_5 : decode cX5_alive 5 = .ok (.aload_n 0, 1) := by decide +kernel
theorem dX5_alive_6 : decode cX5_alive 6 = .ok (.getfield 20, 3) := by decide +kernel
theorem dX5_alive_9 : decode cX5_alive 9 = .ok (.iconst 1, 1) := by decide +kernel
theorem dX5_alive_10 : decode cX5_alive 10 = .ok (.iaload, 1) := by decide +kernel
theorem dX5_alive_11 : decode cX5_alive 11 = .ok (.if_icmp .ge 28, 3) := by decide +kernel
theorem dX5_alive_14 : decode cX5_alive 14 = .ok (.iload_n 1, 1) := by decide +kernel
theorem dX5_alive_15 : decode cX5_alive 15 = .ok (.aload_n 0, 1) := by decide +kernel
theorem dX5_alive_16 : decode cX5_alive 16 = .ok (.iload_n 2, 1) := by decide +kernel
theorem dX5_alive_17 : decode cX5_alive 17 = .ok (.iconst 0, 1) := by decide +kernel
theorem dX5_alive_18 : decode cX5_alive 18 = .ok (.invokevirtual 115, 3) := by decide +kernel
theorem dX5_alive_21 : decode cX5_alive 21 = .ok (.ifCond .le 9, 3) := by decide +kernel
theorem dX5_alive_24 : decode cX5_alive 24 = .ok (.iconst 1, 1) := by decide +kernel
theorem dX5_alive_25 : decode cX5_alive 25 = .ok (.iload_n 2, 1) := by decide +kernel
theorem dX5_alive_26 : decode cX5_alive 26 = .ok (.ishl, 1) := by decide +kernel
theorem dX5_alive_27 : decode cX5_alive 27 = .ok (.goto 4, 3) := by decide +kernel
theorem dX5_alive_30 : decode cX5_alive 30 = .ok (.iconst 0, 1) := by decide +kernel
theorem dX5_alive_31 : decode cX5_alive 31 = .ok (.ior, 1) := by decide +kernel
theorem dX5_alive_32 : decode cX5_alive 32 = .ok (.istore_n 1, 1) := by decide +kernel
theorem dX5_alive_33 : decode cX5_alive 33 = .ok (.iinc 2 1, 3) := by decide +kernel
theorem dX5_alive_36 : decode cX5_alive 36 = .ok (.goto (-32), 3) := by decide +kernel
theorem dX5_alive_39 : decode cX5_alive 39 = .ok (.iload_n 1, 1) := by decide +kernel
theorem dX5_alive_40 : decode cX5_alive 40 = .ok (.ireturn, 1) := by decide +kernel
set_option maxRecDepth 20000 in
theorem ggX5_ticks_X5_in : GoodIn wsX5_ticks wsX5_in := goodIn_r _ [5] (by decide +kernel) (by decide +kernel)
set_option maxRecDepth 20000 in
theorem gX5_ticks_X5_in : GoodIn wsX5_ticks (va_wsS RX5 39 yX5_in wsX5_in) := goodIn_app (goodIn_of _ (by decide +kernel)) ggX5_ticks_X5_in
set_option maxRecDepth 20000 in
theorem ggX5_ticks_X5_notes : GoodIn wsX5_ticks wsX5_notes := goodIn_r _ [9, 10, 11, 1, 12, 13, 4, 14, 36, 37, 38, 39, 40, 41, 42, 43, 44, 45, 46, 47, 48, 49, 50, 51, 52, 53, 54, 55, 56] (by decide +kernel) (by decide +kernel)
set_option maxRecDepth 20000 in
theorem gX5_ticks_X5_notes : GoodIn wsX5_ticks (wsV RX5 147 RX5 yX5_notes wsX5_notes) := goodIn_app (goodIn_of _ (by decide +kernel)) ggX5_ticks_X5_notes
set_option maxRecDepth 20000 in
theorem ggX5_ticks_X5_alive : GoodIn wsX5_ticks wsX5_alive := goodIn_r _ [18, 1, 19, 20, 21, 4, 22, 23, 24, 25, 26, 27, 28, 29, 30, 31, 32, 36, 37, 38, 39, 40, 41, 42, 43, 44, 45, 46, 47, 48, 49, 50, 51, 52, 53, 54, 55, 56] (by decide +kernel) (by decide +kernel)
set_option maxRecDepth 20000 in
theorem gX5_ticks_X5_alive : GoodIn wsX5_ticks (wsV RX5 150 RX5 yX5_alive wsX5_alive) := goodIn_app (goodIn_of _ (by decide +kernel)) ggX5_ticks_X5_alive
set_option maxRecDepth 20000 in
theorem ggX5_ticks_X5_bits : GoodIn wsX5_ticks wsX5_bits := goodIn_r _ [35] (by decide +kernel) (by decide +kernel)
set_option maxRecDepth 20000 in
theorem gX5_ticks_X5_bits : GoodIn wsX5_ticks (va_wsS RX5 153 yX5_bits wsX5_bits) := goodIn_app (goodIn_of _ (by decide +kernel)) ggX5_ticks_X5_bits
theorem dX5_ticks_0 : decode cX5_ticks 0 = .ok (.iload_n 1, 1) := by decide +kernel
theorem dX5_ticks_1 : decode cX5_ticks 1 = .ok (.iconst 1, 1) := by decide +kernel
theorem dX5_ticks_2 : decode cX5_ticks 2 = .ok (.bipush 99, 2) := by decide +kernel
theorem dX5_ticks_4 : decode cX5_ticks 4 = .ok (.invokestatic 39, 3) := by decide +kernel
theorem dX5_ticks_7 : decode cX5_ticks 7 = .ok (.ifCond .ne 5, 3) := by decide +kernel
theorem dX5_ticks_10 : decode cX5_ticks 10 = .ok (.iconst (-1), 1) := by decide +kernel
theorem dX5_ticks_11 : decode cX5_ticks 11 = .ok (.ireturn, 1) := by decide +kernel
theorem dX5_ticks_12 : decode cX5_ticks 12 = .ok (.aload_n 0, 1) := by decide +kernel
theorem dX5_ticks_13 : decode cX5_ticks 13 = .ok (.getfield 20, 3) := by decide +kernel
theorem dX5_ticks_16 : decode cX5_ticks 16 = .ok (.iconst 0, 1) := by decide +kernel
theorem dX5_ticks_17 : decode cX5_ticks 17 = .ok (.iaload, 1) := by decide +kernel
theorem dX5_ticks_18 : decode cX5_ticks 18 = .ok (.iload_n 1, 1) := by decide +kernel
theorem dX5_ticks_19 : decode cX5_ticks 19 = .ok (.iadd, 1) := by decide +kernel
theorem dX5_ticks_20 : decode cX5_ticks 20 = .ok (.sipush 9999, 3) := by decide +kernel
theorem dX5_ticks_23 : decode cX5_ticks 23 = .ok (.if_icmp .le 6, 3) := by decide +kernel
theorem dX5_ticks_26 : decode cX5_ticks 26 = .ok (.bipush (-2), 2) := by decide +kernel
theorem dX5_ticks_28 : decode cX5_ticks 28 = .ok (.ireturn, 1) := by decide +kernel
theorem dX5_ticks_29 : decode cX5_ticks 29 = .ok (.aload_n 0, 1) := by decide +kernel
theorem dX5_ticks_30 : decode cX5_ticks 30 = .ok (.invokevirtual 147, 3) := by decide +kernel
theorem dX5_ticks_33 : decode cX5_ticks 33 = .ok (.aload_n 0, 1) := by decide +kernel
theorem dX5_ticks_34 : decode cX5_ticks 34 = .ok (.getfield 20, 3) := by decide +kernel
theorem dX5_ticks_37 : decode cX5_ticks 37 = .ok (.iconst 0, 1) := by decide +kernel
theorem dX5_ticks_38 : decode cX5_ticks 38 = .ok (.dup2, 1) := by decide +kernel
theorem dX5_ticks_39 : decode cX5_ticks 39 = .ok (.iaload, 1) := by decide +kernel
theorem dX5_ticks_40 : decode cX5_ticks 40 = .ok (.iload_n 1, 1) := by decide +kernel
theorem dX5_ticks_41 : decode cX5_ticks 41 = .ok (.iadd, 1) := by decide +kernel
theorem dX5_ticks_42 : decode cX5_ticks 42 = .ok (.iastore, 1) := by decide +kernel
theorem dX5_ticks_43 : decode cX5_ticks 43 = .ok (.aload_n 0, 1) := by decide +kernel
theorem dX5_ticks_44 : decode cX5_ticks 44 = .ok (.invokevirtual 150, 3) := by decide +kernel
theorem dX5_ticks_47 : decode cX5_ticks 47 = .ok (.invokestatic 153, 3) := by decide +kernel
theorem dX5_ticks_50 : decode cX5_ticks 50 = .ok (.ireturn, 1) := by decide +kernel
set_option maxRecDepth 20000 in
theorem ggX5_says_X5_isPlace : GoodIn wsX5_says wsX5_isPlace := goodIn_r _ [6, 7, 8, 9, 5, 10, 20, 21, 22, 23, 24, 25, 26, 27, 28, 29, 30, 31, 32, 33, 34, 35, 36, 37, 38, 39, 40] (by decide +kernel) (by decide +kernel)
set_option maxRecDepth 20000 in
theorem gX5_says_X5_isPlace : GoodIn wsX5_says (wsV RX5 138 RX5 yX5_isPlace wsX5_isPlace) := goodIn_app (goodIn_of _ (by decide +kernel)) ggX5_says_X5_isPlace
set_option maxRecDepth 20000 in
theorem ggX5_says_X5_in : GoodIn wsX5_says wsX5_in := goodIn_r _ [10] (by decide +kernel) (by decide +kernel)
set_option maxRecDepth 20000 in
theorem gX5_says_X5_in : GoodIn wsX5_says (va_wsS RX5 39 yX5_in wsX5_in) := goodIn_app (goodIn_of _ (by decide +kernel)) ggX5_says_X5_in
set_option maxRecDepth 20000 in
theorem ggX5_says_X5_notes : GoodIn wsX5_says wsX5_notes := goodIn_r _ [14, 15, 16, 1, 17, 18, 5, 19, 20, 21, 22, 23, 24, 25, 26, 27, 28, 29, 30, 31, 32, 33, 34, 35, 36, 37, 38, 39, 40] (by decide +kernel) (by decide +kernel)
set_option maxRecDepth 20000 in
theorem gX5_says_X5_notes : GoodIn wsX5_says (wsV RX5 147 RX5 yX5_notes wsX5_notes) := goodIn_app (goodIn_of _ (by decide +kernel)) ggX5_says_X5_notes
theorem dX5_says_0 : decode cX5_says 0 = .ok (.aload_n 0, 1) := by decide +kernel
theorem dX5_says_1 : decode cX5_says 1 = .ok (.iload_n 1, 1) := by decide +kernel
theorem dX5_says_2 : decode cX5_says 2 = .ok (.invokevirtual 138, 3) := by decide +kernel
theorem dX5_says_5 : decode cX5_says 5 = .ok (.ifCond .eq 33, 3) := by decide +kernel
theorem dX5_says_8 : decode cX5_says 8 = .ok (.iload_n 2, 1) := by decide +kernel
theorem dX5_says_9 : decode cX5_says 9 = .ok (.iconst 1, 1) := by decide +kernel
theorem dX5_says_10 : decode cX5_says 10 = .ok (.bipush 6, 2) := by decide +kernel
theorem dX5_says_12 : decode cX5_says 12 = .ok (.invokestatic 39, 3) := by decide +kernel
theorem dX5_says_15 : decode cX5_says 15 = .ok (.ifCond .eq 23, 3) := by decide +kernel
theorem dX5_says_18 : decode cX5_says 18 = .ok (.iload_n 3, 1) := by decide +kernel
theorem dX5_says_19 : decode cX5_says 19 = .ok (.iconst 0, 1) := by decide +kernel
theorem dX5_says_20 : decode cX5_says 20 = .ok (.iconst 1, 1) := by decide +kernel
theorem dX5_says_21 : decode cX5_says 21 = .ok (.invokestatic 39, 3) := by decide +kernel
theorem dX5_says_24 : decode cX5_says 24 = .ok (.ifCond .eq 14, 3) := by decide +kernel
theorem dX5_says_27 : decode cX5_says 27 = .ok (.iload 4, 2) := by decide +kernel
theorem dX5_says_29 : decode cX5_says 29 = .ok (.iconst 1, 1) := by decide +kernel
theorem dX5_says_30 : decode cX5_says 30 = .ok (.bipush 30, 2) := by decide +kernel
theorem dX5_says_32 : decode cX5_says 32 = .ok (.invokestatic 39, 3) := by decide +kernel
theorem dX5_says_35 : decode cX5_says 35 = .ok (.ifCond .ne 5, 3) := by decide +kernel
theorem dX5_says_38 : decode cX5_says 38 = .ok (.iconst (-1), 1) := by decide +kernel
theorem dX5_says_39 : decode cX5_says 39 = .ok (.ireturn, 1) := by decide +kernel
theorem dX5_says_40 : decode cX5_says 40 = .ok (.aload_n 0, 1) := by decide +kernel
theorem dX5_says_41 : decode cX5_says 41 = .ok (.getfield 20, 3) := by decide +kernel
theorem dX5_says_44 : decode cX5_says 44 = .ok (.iconst 1, 1) := by decide +kernel
theorem dX5_says_45 : decode cX5_says 45 = .ok (.iaload, 1) := by decide +kernel
theorem dX5_says_46 : decode cX5_says 46 = .ok (.istore 5, 2) := by decide +kernel
theorem dX5_says_48 : decode cX5_says 48 = .ok (.iload 5, 2) := by decide +kernel
theorem dX5_says_50 : decode cX5_says 50 = .ok (.bipush 8, 2) := by decide +kernel
theorem dX5_says_52 : decode cX5_says 52 = .ok (.if_icmp .ne 6, 3) := by decide +kernel
theorem dX5_says_55 : decode cX5_says 55 = .ok (.bipush (-3), 2) := by decide +kernel
theorem dX5_says_57 : decode cX5_says 57 = .ok (.ireturn, 1) := by decide +kernel
theorem dX5_says_58 : decode cX5_says 58 = .ok (.aload_n 0, 1) := by decide +kernel
theorem dX5_says_59 : decode cX5_says 59 = .ok (.invokevirtual 147, 3) := by decide +kernel
theorem dX5_says_62 : decode cX5_says 62 = .ok (.aload_n 0, 1) := by decide +kernel
theorem dX5_says_63 : decode cX5_says 63 = .ok (.getfield 20, 3) := by decide +kernel
theorem dX5_says_66 : decode cX5_says 66 = .ok (.iconst 2, 1) := by decide +kernel
theorem dX5_says_67 : decode cX5_says 67 = .ok (.iload 5, 2) := by decide +kernel
theorem dX5_says_69 : decode cX5_says 69 = .ok (.iadd, 1) := by decide +kernel
theorem dX5_says_70 : decode cX5_says 70 = .ok (.iload_n 1, 1) := by decide +kernel
theorem dX5_says_71 : decode cX5_says 71 = .ok (.iastore, 1) := by decide +kernel
theorem dX5_says_72 : decode cX5_says 72 = .ok (.aload_n 0, 1) := by decide +kernel
theorem dX5_says_73 : decode cX5_says 73 = .ok (.getfield 20, 3) := by decide +kernel
theorem dX5_says_76 : decode cX5_says 76 = .ok (.bipush 10, 2) := by decide +kernel
theorem dX5_says_78 : decode cX5_says 78 = .ok (.iload 5, 2) := by decide +kernel
theorem dX5_says_80 : decode cX5_says 80 = .ok (.iadd, 1) := by decide +kernel
theorem dX5_says_81 : decode cX5_says 81 = .ok (.iload_n 2, 1) := by decide +kernel
theorem dX5_says_82 : decode cX5_says 82 = .ok (.iastore, 1) := by decide +kernel
theorem dX5_says_83 : decode cX5_says 83 = .ok (.aload_n 0, 1) := by decide +kernel
theorem dX5_says_84 : decode cX5_says 84 = .ok (.getfield 20, 3) := by decide +kernel
theorem dX5_says_87 : decode cX5_says 87 = .ok (.bipush 18, 2) := by decide +kernel
theorem dX5_says_89 : decode cX5_says 89 = .ok (.iload 5, 2) := by decide +kernel
theorem dX5_says_91 : decode cX5_says 91 = .ok (.iadd, 1) := by decide +kernel
theorem dX5_says_92 : decode cX5_says 92 = .ok (.iload_n 3, 1) := by decide +kernel
theorem dX5_says_93 : decode cX5_says 93 = .ok (.iastore, 1) := by decide +kernel
theorem dX5_says_94 : decode cX5_says 94 = .ok (.aload_n 0, 1) := by decide +kernel
theorem dX5_says_95 : decode cX5_says 95 = .ok (.getfield 20, 3) := by decide +kernel
theorem dX5_says_98 : decode cX5_says 98 = .ok (.bipush 26, 2) := by decide +kernel
theorem dX5_says_100 : decode cX5_says 100 = .ok (.iload 5, 2) := by decide +kernel
theorem dX5_says_102 : decode cX5_says 102 = .ok (.iadd, 1) := by decide +kernel
theorem dX5_says_103 : decode cX5_says 103 = .ok (.iload 4, 2) := by decide +kernel
theorem dX5_says_105 : decode cX5_says 105 = .ok (.iastore, 1) := by decide +kernel
theorem dX5_says_106 : decode cX5_says 106 = .ok (.aload_n 0, 1) := by decide +kernel
theorem dX5_says_107 : decode cX5_says 107 = .ok (.getfield 20, 3) := by decide +kernel
theorem dX5_says_110 : decode cX5_says 110 = .ok (.bipush 34, 2) := by decide +kernel
theorem dX5_says_112 : decode cX5_says 112 = .ok (.iload 5, 2) := by decide +kernel
theorem dX5_says_114 : decode cX5_says 114 = .ok (.iadd, 1) := by decide +kernel
theorem dX5_says_115 : decode cX5_says 115 = .ok (.aload_n 0, 1) := by decide +kernel
theorem dX5_says_116 : decode cX5_says 116 = .ok (.getfield 20, 3) := by decide +kernel
theorem dX5_says_119 : decode cX5_says 119 = .ok (.iconst 0, 1) := by decide +kernel
theorem dX5_says_120 : decode cX5_says 120 = .ok (.iaload, 1) := by decide +kernel
theorem dX5_says_121 : decode cX5_says 121 = .ok (.iastore, 1) := by decide +kernel
theorem dX5_says_122 : decode cX5_says 122 = .ok (.aload_n 0, 1) := by decide +kernel
theorem dX5_says_123 : decode cX5_says 123 = .ok (.getfield 20, 3) := by decide +kernel
theorem dX5_says_126 : decode cX5_says 126 = .ok (.bipush 42, 2) := by decide +kernel
theorem dX5_says_128 : decode cX5_says 128 = .ok (.iload 5, 2) := by decide +kernel
theorem dX5_says_130 : decode cX5_says 130 = .ok (.iadd, 1) := by decide +kernel
theorem dX5_says_131 : decode cX5_says 131 = .ok (.iconst 0, 1) := by decide +kernel
theorem dX5_says_132 : decode cX5_says 132 = .ok (.iastore, 1) := by decide +kernel
theorem dX5_says_133 : decode cX5_says 133 = .ok (.aload_n 0, 1) := by decide +kernel
theorem dX5_says_134 : decode cX5_says 134 = .ok (.getfield 20, 3) := by decide +kernel
theorem dX5_says_137 : decode cX5_says 137 = .ok (.iconst 1, 1) := by decide +kernel
theorem dX5_says_138 : decode cX5_says 138 = .ok (.dup2, 1) := by decide +kernel
theorem dX5_says_139 : decode cX5_says 139 = .ok (.iaload, 1) := by decide +kernel
theorem dX5_says_140 : decode cX5_says 140 = .ok (.iconst 1, 1) := by decide +kernel
theorem dX5_says_141 : decode cX5_says 141 = .ok (.iadd, 1) := by decide +kernel
theorem dX5_says_142 : decode cX5_says 142 = .ok (.iastore, 1) := by decide +kernel
theorem dX5_says_143 : decode cX5_says 143 = .ok (.iload 5, 2) := by decide +kernel
theorem dX5_says_145 : decode cX5_says 145 = .ok (.ireturn, 1) := by decide +kernel
set_option maxRecDepth 20000 in
theorem ggX5_hushes_X5_isSaying : GoodIn wsX5_hushes wsX5_isSaying := goodIn_r _ [6, 1, 7, 8, 5, 9, 33, 34, 35, 36, 37, 38, 39, 40, 41, 42, 43, 44, 45, 46, 47, 48, 49, 50, 51, 52, 53] (by decide +kernel) (by decide +kernel)
set_option maxRecDepth 20000 in
theorem gX5_hushes_X5_isSaying : GoodIn wsX5_hushes (wsV RX5 131 RX5 yX5_isSaying wsX5_isSaying) := goodIn_app (goodIn_of _ (by decide +kernel)) ggX5_hushes_X5_isSaying
set_option maxRecDepth 20000 in
theorem ggX5_hushes_X5_strengthOf : GoodIn wsX5_hushes wsX5_strengthOf := goodIn_r _ [13, 1, 14, 15, 16, 17, 5, 18, 19, 20, 21, 22, 23, 33, 34, 35, 36, 37, 38, 39, 40, 41, 42, 43, 44, 45, 46, 47, 48, 49, 50, 51, 52, 53] (by decide +kernel) (by decide +kernel)
set_option maxRecDepth 20000 in
theorem gX5_hushes_X5_strengthOf : GoodIn wsX5_hushes (wsV RX5 115 RX5 yX5_strengthOf wsX5_strengthOf) := goodIn_app (goodIn_of _ (by decide +kernel)) ggX5_hushes_X5_strengthOf
set_option maxRecDepth 20000 in
theorem ggX5_hushes_X5_notes : GoodIn wsX5_hushes wsX5_notes := goodIn_r _ [27, 28, 29, 1, 30, 31, 5, 32, 33, 34, 35, 36, 37, 38, 39, 40, 41, 42, 43, 44, 45, 46, 47, 48, 49, 50, 51, 52, 53] (by decide +kernel) (by decide +kernel)
set_option maxRecDepth 20000 in
theorem gX5_hushes_X5_notes : GoodIn wsX5_hushes (wsV RX5 147 RX5 yX5_notes wsX5_notes) := goodIn_app (goodIn_of _ (by decide +kernel)) ggX5_hushes_X5_notes
theorem dX5_hushes_0 : decode cX5_hushes 0 = .ok (.aload_n 0, 1) := by decide +kernel
theorem dX5_hushes_1 : decode cX5_hushes 1 = .ok (.iload_n 1, 1) := by decide +kernel
theorem dX5_hushes_2 : decode cX5_hushes 2 = .ok (.invokevirtual 131, 3) := by decide +kernel
theorem dX5_hushes_5 : decode cX5_hushes 5 = .ok (.ifCond .ne 5, 3) := by decide +kernel
theorem dX5_hushes_8 : decode cX5_hushes 8 = .ok (.iconst (-1), 1) := by decide +kernel
theorem dX5_hushes_9 : decode cX5_hushes 9 = .ok (.ireturn, 1) := by decide +kernel
theorem dX5_hushes_10 : decode cX5_hushes 10 = .ok (.aload_n 0, 1) := by decide +kernel
theorem dX5_hushes_11 : decode cX5_hushes 11 = .ok (.iload_n 1, 1) := by decide +kernel
theorem dX5_hushes_12 : decode cX5_hushes 12 = .ok (.iconst 0, 1) := by decide +kernel
theorem dX5_hushes_13 : decode cX5_hushes 13 = .ok (.invokevirtual 115, 3) := by decide +kernel
theorem dX5_hushes_16 : decode cX5_hushes 16 = .ok (.istore_n 2, 1) := by decide +kernel
theorem dX5_hushes_17 : decode cX5_hushes 17 = .ok (.iload_n 2, 1) := by decide +kernel
theorem dX5_hushes_18 : decode cX5_hushes 18 = .ok (.ifCond .ne 6, 3) := by decide +kernel
theorem dX5_hushes_21 : decode cX5_hushes 21 = .ok (.bipush (-2), 2) := by decide +kernel
theorem dX5_hushes_23 : decode cX5_hushes 23 = .ok (.ireturn, 1) := by decide +kernel
theorem dX5_hushes_24 : decode cX5_hushes 24 = .ok (.aload_n 0, 1) := by decide +kernel
theorem dX5_hushes_25 : decode cX5_hushes 25 = .ok (.invokevirtual 147, 3) := by decide +kernel
theorem dX5_hushes_28 : decode cX5_hushes 28 = .ok (.aload_n 0, 1) := by decide +kernel
theorem dX5_hushes_29 : decode cX5_hushes 29 = .ok (.getfield 20, 3) := by decide +kernel
theorem dX5_hushes_32 : decode cX5_hushes 32 = .ok (.bipush 42, 2) := by decide +kernel
theorem dX5_hushes_34 : decode cX5_hushes 34 = .ok (.iload_n 1, 1) := by decide +kernel
theorem dX5_hushes_35 : decode cX5_hushes 35 = .ok (.iadd, 1) := by decide +kernel
theorem dX5_hushes_36 : decode cX5_hushes 36 = .ok (.iconst 1, 1) := by decide +kernel
theorem dX5_hushes_37 : decode cX5_hushes 37 = .ok (.iastore, 1) := by decide +kernel
theorem dX5_hushes_38 : decode cX5_hushes 38 = .ok (.iload_n 2, 1) := by decide +kernel
theorem dX5_hushes_39 : decode cX5_hushes 39 = .ok (.ireturn, 1) := by decide +kernel
set_option maxRecDepth 20000 in
theorem ggX5_undo_X5_bring : GoodIn wsX5_undo wsX5_bring := goodIn_r _ [7] (by decide +kernel) (by decide +kernel)
set_option maxRecDepth 20000 in
theorem gX5_undo_X5_bring : GoodIn wsX5_undo (va_wsS RX5 91 yX5_bring wsX5_bring) := goodIn_app (goodIn_of _ (by decide +kernel)) ggX5_undo_X5_bring
theorem dX5_undo_0 : decode cX5_undo 0 = .ok (.aload_n 0, 1) := by decide +kernel
theorem dX5_undo_1 : decode cX5_undo 1 = .ok (.getfield 95, 3) := by decide +kernel
theorem dX5_undo_4 : decode cX5_undo 4 = .ok (.ifCond .ne 6, 3) := by decide +kernel
theorem dX5_undo_7 : decode cX5_undo 7 = .ok (.bipush (-2), 2) := by decide +kernel
theorem dX5_undo_9 : decode cX5_undo 9 = .ok (.ireturn, 1) := by decide +kernel
theorem dX5_undo_10 : decode cX5_undo 10 = .ok (.aload_n 0, 1) := by decide +kernel
theorem dX5_undo_11 : decode cX5_undo 11 = .ok (.dup, 1) := by decide +kernel
theorem dX5_undo_12 : decode cX5_undo 12 = .ok (.getfield 95, 3) := by decide +kernel
theorem dX5_undo_15 : decode cX5_undo 15 = .ok (.iconst 1, 1) := by decide +kernel
theorem dX5_undo_16 : decode cX5_undo 16 = .ok (.isub, 1) := by decide +kernel
theorem dX5_undo_17 : decode cX5_undo 17 = .ok (.putfield 95, 3) := by decide +kernel
theorem dX5_undo_20 : decode cX5_undo 20 = .ok (.aload_n 0, 1) := by decide +kernel
theorem dX5_undo_21 : decode cX5_undo 21 = .ok (.getfield 23, 3) := by decide +kernel
theorem dX5_undo_24 : decode cX5_undo 24 = .ok (.bipush 50, 2) := by decide +kernel
theorem dX5_undo_26 : decode cX5_undo 26 = .ok (.aload_n 0, 1) := by decide +kernel
theorem dX5_undo_27 : decode cX5_undo 27 = .ok (.getfield 95, 3) := by decide +kernel
theorem dX5_undo_30 : decode cX5_undo 30 = .ok (.imul, 1) := by decide +kernel
theorem dX5_undo_31 : decode cX5_undo 31 = .ok (.aload_n 0, 1) := by decide +kernel
theorem dX5_undo_32 : decode cX5_undo 32 = .ok (.getfield 20, 3) := by decide +kernel
theorem dX5_undo_35 : decode cX5_undo 35 = .ok (.iconst 0, 1) := by decide +kernel
theorem dX5_undo_36 : decode cX5_undo 36 = .ok (.bipush 50, 2) := by decide +kernel
theorem dX5_undo_38 : decode cX5_undo 38 = .ok (.invokestatic 91, 3) := by decide +kernel
theorem dX5_undo_41 : decode cX5_undo 41 = .ok (.aload_n 0, 1) := by decide +kernel
theorem dX5_undo_42 : decode cX5_undo 42 = .ok (.getfield 95, 3) := by decide +kernel
theorem dX5_undo_45 : decode cX5_undo 45 = .ok (.ireturn, 1) := by decide +kernel
set_option maxRecDepth 20000 in
theorem ggX5_placesThat_X5_soundsOf : GoodIn wsX5_placesThat wsX5_soundsOf := goodIn_r _ [6, 7, 8, 9, 10, 5, 11, 12, 13, 14, 15, 16, 1, 17, 18, 19, 20, 21, 22, 23, 24, 25, 26, 27, 28, 29, 30, 31, 32, 44, 45, 46, 47, 48, 49, 50, 51, 52, 53, 54, 55, 56, 57, 58, 59, 60, 61, 62, 63, 64] (by decide +kernel) (by decide +kernel)
set_option maxRecDepth 20000 in
theorem gX5_placesThat_X5_soundsOf : GoodIn wsX5_placesThat (wsV RX5 128 RX5 yX5_soundsOf wsX5_soundsOf) := goodIn_app (goodIn_of _ (by decide +kernel)) ggX5_placesThat_X5_soundsOf
set_option maxRecDepth 20000 in
theorem ggX5_placesThat_X5_clearOf : GoodIn wsX5_placesThat wsX5_clearOf := goodIn_r _ [36, 7, 37, 38, 39, 5, 40, 41, 42, 43, 8, 9, 10, 11, 12, 13, 14, 15, 16, 1, 17, 18, 19, 20, 44, 45, 46, 47, 48, 49, 50, 51, 52, 53, 54, 55, 56, 57, 58, 59, 60, 61, 62, 63, 64] (by decide +kernel) (by decide +kernel)
set_option maxRecDepth 20000 in
theorem gX5_placesThat_X5_clearOf : GoodIn wsX5_placesThat (wsV RX5 141 RX5 yX5_clearOf wsX5_clearOf) := goodIn_app (goodIn_of _ (by decide +kernel)) ggX5_placesThat_X5_clearOf
theorem dX5_placesThat_0 : decode cX5_placesThat 0 = .ok (.iconst 0, 1) := by decide +kernel
theorem dX5_placesThat_1 : decode cX5_placesThat 1 = .ok (.istore_n 2, 1) := by decide +kernel
theorem dX5_placesThat_2 : decode cX5_placesThat 2 = .ok (.iconst 0, 1) := by decide +kernel
theorem dX5_placesThat_3 : decode cX5_placesThat 3 = .ok (.istore_n 3, 1) := by decide +kernel
theorem dX5_placesThat_4 : decode cX5_placesThat 4 = .ok (.iload_n 3, 1) := by decide +kernel
theorem dX5_placesThat_5 : decode cX5_placesThat 5 = .ok (.aload_n 0, 1) := by decide +kernel
theorem dX5_placesThat_6 : decode cX5_placesThat 6 = .ok (.getfield 13, 3) := by decide +kernel
theorem dX5_placesThat_9 : decode cX5_placesThat 9 = .ok (.if_icmp .ge 46, 3) := by decide +kernel
theorem dX5_placesThat_12 : decode cX5_placesThat 12 = .ok (.aload_n 0, 1) := by decide +kernel
theorem dX5_placesThat_13 : decode cX5_placesThat 13 = .ok (.iload_n 3, 1) := by decide +kernel
theorem dX5_placesThat_14 : decode cX5_placesThat 14 = .ok (.iconst 0, 1) := by decide +kernel
theorem dX5_placesThat_15 : decode cX5_placesThat 15 = .ok (.invokevirtual 128, 3) := by decide +kernel
theorem dX5_placesThat_18 : decode cX5_placesThat 18 = .ok (.istore 4, 2) := by decide +kernel
theorem dX5_placesThat_20 : decode cX5_placesThat 20 = .ok (.iload_n 2, 1) := by decide +kernel
theorem dX5_placesThat_21 : decode cX5_placesThat 21 = .ok (.iload 4, 2) := by decide +kernel
theorem dX5_placesThat_23 : decode cX5_placesThat 23 = .ok (.ifCond .eq 23, 3) := by decide +kernel
theorem dX5_placesThat_26 : decode cX5_placesThat 26 = .ok (.iload_n 1, 1) := by decide +kernel
theorem dX5_placesThat_27 : decode cX5_placesThat 27 = .ok (.ifCond .eq 15, 3) := by decide +kernel
theorem dX5_placesThat_30 : decode cX5_placesThat 30 = .ok (.aload_n 0, 1) := by decide +kernel
theorem dX5_placesThat_31 : decode cX5_placesThat 31 = .ok (.iload 4, 2) := by decide +kernel
theorem dX5_placesThat_33 : decode cX5_placesThat 33 = .ok (.iconst 0, 1) := by decide +kernel
theorem dX5_placesThat_34 : decode cX5_placesThat 34 = .ok (.invokevirtual 141, 3) := by decide +kernel
theorem dX5_placesThat_37 : decode cX5_placesThat 37 = .ok (.bipush (-9), 2) := by decide +kernel
theorem dX5_placesThat_39 : decode cX5_placesThat 39 = .ok (.if_icmp .ne 7, 3) := by decide +kernel
theorem dX5_placesThat_42 : decode cX5_placesThat 42 = .ok (.iconst 1, 1) := by decide +kernel
theorem dX5_placesThat_43 : decode cX5_placesThat 43 = .ok (.goto 4, 3) := by decide +kernel
theorem dX5_placesThat_46 : decode cX5_placesThat 46 = .ok (.iconst 0, 1) := by decide +kernel
theorem dX5_placesThat_47 : decode cX5_placesThat 47 = .ok (.iadd, 1) := by decide +kernel
theorem dX5_placesThat_48 : decode cX5_placesThat 48 = .ok (.istore_n 2, 1) := by decide +kernel
theorem dX5_placesThat_49 : decode cX5_placesThat 49 = .ok (.iinc 3 1, 3) := by decide +kernel
theorem dX5_placesThat_52 : decode cX5_placesThat 52 = .ok (.goto (-48), 3) := by decide +kernel
theorem dX5_placesThat_55 : decode cX5_placesThat 55 = .ok (.iload_n 2, 1) := by decide +kernel
theorem dX5_placesThat_56 : decode cX5_placesThat 56 = .ok (.ireturn, 1) := by decide +kernel
set_option maxRecDepth 20000 in
theorem ggX5_now_X5_alive : GoodIn wsX5_now wsX5_alive := goodIn_r _ [6, 1, 7, 8, 9, 5, 10, 11, 12, 13, 14, 15, 16, 17, 18, 19, 20, 52, 53, 54, 55, 56, 57, 58, 59, 60, 61, 62, 63, 64, 65, 66, 67, 68, 69, 70, 71, 72] (by decide +kernel) (by decide +kernel)
set_option maxRecDepth 20000 in
theorem gX5_now_X5_alive : GoodIn wsX5_now (wsV RX5 150 RX5 yX5_alive wsX5_alive) := goodIn_app (goodIn_of _ (by decide +kernel)) ggX5_now_X5_alive
set_option maxRecDepth 20000 in
theorem ggX5_now_X5_loudOf : GoodIn wsX5_now wsX5_loudOf := goodIn_r _ [24, 1, 25, 26, 5, 27, 7, 8, 9, 10, 11, 12, 13, 14, 15, 16, 17, 18, 19, 20, 52, 53, 54, 55, 56, 57, 58, 59, 60, 61, 62, 63, 64, 65, 66, 67, 68, 69, 70, 71, 72] (by decide +kernel) (by decide +kernel)
set_option maxRecDepth 20000 in
theorem gX5_now_X5_loudOf : GoodIn wsX5_now (wsV RX5 125 RX5 yX5_loudOf wsX5_loudOf) := goodIn_app (goodIn_of _ (by decide +kernel)) ggX5_now_X5_loudOf
set_option maxRecDepth 20000 in
theorem ggX5_now_X5_placesThat : GoodIn wsX5_now wsX5_placesThat := goodIn_r _ [31, 16, 32, 33, 34, 5, 35, 1, 7, 8, 9, 10, 11, 12, 13, 14, 15, 17, 18, 19, 20, 36, 37, 38, 39, 40, 41, 42, 43, 44, 45, 46, 47, 48, 49, 50, 51, 21, 22, 23, 24, 25, 26, 27, 52, 53, 54, 55, 56, 57, 58, 59, 60, 61, 62, 63, 64, 65, 66, 67, 68, 69, 70, 71, 72] (by decide +kernel) (by decide +kernel)
set_option maxRecDepth 20000 in
theorem gX5_now_X5_placesThat : GoodIn wsX5_now (wsV RX5 156 RX5 yX5_placesThat wsX5_placesThat) := goodIn_app (goodIn_of _ (by decide +kernel)) ggX5_now_X5_placesThat
theorem dX5_now_0 : decode cX5_now 0 = .ok (.iload_n 1, 1) := by decide +kernel
theorem dX5_now_1 : decode cX5_now 1 = .ok (.tableswitch 69 0 4 #[35, 42, 47, 57, 63], 35) := by decide +kernel
theorem dX5_now_36 : decode cX5_now 36 = .ok (.aload_n 0, 1) := by decide +kernel
theorem dX5_now_37 : decode cX5_now 37 = .ok (.getfield 20, 3) := by decide +kernel
theorem dX5_now_40 : decode cX5_now 40 = .ok (.iconst 0, 1) := by decide +kernel
theorem dX5_now_41 : decode cX5_now 41 = .ok (.iaload, 1) := by decide +kernel
theorem dX5_now_42 : decode cX5_now 42 = .ok (.ireturn, 1) := by decide +kernel
theorem dX5_now_43 : decode cX5_now 43 = .ok (.aload_n 0, 1) := by decide +kernel
theorem dX5_now_44 : decode cX5_now 44 = .ok (.invokevirtual 150, 3) := by decide +kernel
theorem dX5_now_47 : decode cX5_now 47 = .ok (.ireturn, 1) := by decide +kernel
theorem dX5_now_48 : decode cX5_now 48 = .ok (.aload_n 0, 1) := by decide +kernel
theorem dX5_now_49 : decode cX5_now 49 = .ok (.aload_n 0, 1) := by decide +kernel
theorem dX5_now_50 : decode cX5_now 50 = .ok (.invokevirtual 150, 3) := by decide +kernel
theorem dX5_now_53 : decode cX5_now 53 = .ok (.iconst 0, 1) := by decide +kernel
theorem dX5_now_54 : decode cX5_now 54 = .ok (.invokevirtual 125, 3) := by decide +kernel
theorem dX5_now_57 : decode cX5_now 57 = .ok (.ireturn, 1) := by decide +kernel
theorem dX5_now_58 : decode cX5_now 58 = .ok (.aload_n 0, 1) := by decide +kernel
theorem dX5_now_59 : decode cX5_now 59 = .ok (.iconst 0, 1) := by decide +kernel
theorem dX5_now_60 : decode cX5_now 60 = .ok (.invokevirtual 156, 3) := by decide +kernel
theorem dX5_now_63 : decode cX5_now 63 = .ok (.ireturn, 1) := by decide +kernel
theorem dX5_now_64 : decode cX5_now 64 = .ok (.aload_n 0, 1) := by decide +kernel
theorem dX5_now_65 : decode cX5_now 65 = .ok (.iconst 1, 1) := by decide +kernel
theorem dX5_now_66 : decode cX5_now 66 = .ok (.invokevirtual 156, 3) := by decide +kernel
theorem dX5_now_69 : decode cX5_now 69 = .ok (.ireturn, 1) := by decide +kernel
theorem dX5_now_70 : decode cX5_now 70 = .ok (.iconst (-1), 1) := by decide +kernel
theorem dX5_now_71 : decode cX5_now 71 = .ok (.ireturn, 1) := by decide +kernel
set_option maxRecDepth 20000 in
theorem ggX5_when_X5_isSaying : GoodIn wsX5_when wsX5_isSaying := goodIn_r _ [5, 6, 7, 8, 4, 9, 40, 41, 42, 43, 44, 45, 46, 47, 48, 49, 50, 51, 52, 53, 54, 55, 56, 57, 58, 59, 60] (by decide +kernel) (by decide +kernel)
set_option maxRecDepth 20000 in
theorem gX5_when_X5_isSaying : GoodIn wsX5_when (wsV RX5 131 RX5 yX5_isSaying wsX5_isSaying) := goodIn_app (goodIn_of _ (by decide +kernel)) ggX5_when_X5_isSaying
set_option maxRecDepth 20000 in
theorem ggX5_when_X5_isPlace : GoodIn wsX5_when wsX5_isPlace := goodIn_r _ [13, 14, 7, 8, 4, 9, 40, 41, 42, 43, 44, 45, 46, 47, 48, 49, 50, 51, 52, 53, 54, 55, 56, 57, 58, 59, 60] (by decide +kernel) (by decide +kernel)
set_option maxRecDepth 20000 in
theorem gX5_when_X5_isPlace : GoodIn wsX5_when (wsV RX5 138 RX5 yX5_isPlace wsX5_isPlace) := goodIn_app (goodIn_of _ (by decide +kernel)) ggX5_when_X5_isPlace
set_option maxRecDepth 20000 in
theorem ggX5_when_X5_in : GoodIn wsX5_when wsX5_in := goodIn_r _ [9] (by decide +kernel) (by decide +kernel)
set_option maxRecDepth 20000 in
theorem gX5_when_X5_in : GoodIn wsX5_when (va_wsS RX5 39 yX5_in wsX5_in) := goodIn_app (goodIn_of _ (by decide +kernel)) ggX5_when_X5_in
set_option maxRecDepth 20000 in
theorem ggX5_when_X5_strengthOf : GoodIn wsX5_when wsX5_strengthOf := goodIn_r _ [18, 6, 19, 20, 21, 22, 4, 23, 14, 24, 25, 26, 27, 40, 41, 42, 43, 44, 45, 46, 47, 48, 49, 50, 51, 52, 53, 54, 55, 56, 57, 58, 59, 60] (by decide +kernel) (by decide +kernel)
set_option maxRecDepth 20000 in
theorem gX5_when_X5_strengthOf : GoodIn wsX5_when (wsV RX5 115 RX5 yX5_strengthOf wsX5_strengthOf) := goodIn_app (goodIn_of _ (by decide +kernel)) ggX5_when_X5_strengthOf
set_option maxRecDepth 20000 in
theorem ggX5_when_X5_placeOf : GoodIn wsX5_when wsX5_placeOf := goodIn_r _ [31, 6, 24, 25, 26, 4, 27, 32, 33, 34, 35, 36, 37, 38, 39, 14, 40, 41, 42, 43, 44, 45, 46, 47, 48, 49, 50, 51, 52, 53, 54, 55, 56, 57, 58, 59, 60] (by decide +kernel) (by decide +kernel)
set_option maxRecDepth 20000 in
theorem gX5_when_X5_placeOf : GoodIn wsX5_when (wsV RX5 118 RX5 yX5_placeOf wsX5_placeOf) := goodIn_app (goodIn_of _ (by decide +kernel)) ggX5_when_X5_placeOf
theorem dX5_when_0 : decode cX5_when 0 = .ok (.aload_n 0, 1) := by decide +kernel
theorem dX5_when_1 : decode cX5_when 1 = .ok (.iload_n 1, 1) := by decide +kernel
theorem dX5_when_2 : decode cX5_when 2 = .ok (.invokevirtual 131, 3) := by decide +kernel
theorem dX5_when_5 : decode cX5_when 5 = .ok (.ifCond .eq 20, 3) := by decide +kernel
theorem dX5_when_8 : decode cX5_when 8 = .ok (.aload_n 0, 1) := by decide +kernel
theorem dX5_when_9 : decode cX5_when 9 = .ok (.iload_n 2, 1) := by decide +kernel
theorem dX5_when_10 : decode cX5_when 10 = .ok (.invokevirtual 138, 3) := by decide +kernel
theorem dX5_when_13 : decode cX5_when 13 = .ok (.ifCond .eq 12, 3) := by decide +kernel
theorem dX5_when_16 : decode cX5_when 16 = .ok (.iload_n 3, 1) := by decide +kernel
theorem dX5_when_17 : decode cX5_when 17 = .ok (.iconst 0, 1) := by decide +kernel
theorem dX5_when_18 : decode cX5_when 18 = .ok (.iconst 1, 1) := by decide +kernel
theorem dX5_when_19 : decode cX5_when 19 = .ok (.invokestatic 39, 3) := by decide +kernel
theorem dX5_when_22 : decode cX5_when 22 = .ok (.ifCond .ne 5, 3) := by decide +kernel
theorem dX5_when_25 : decode cX5_when 25 = .ok (.iconst (-1), 1) := by decide +kernel
theorem dX5_when_26 : decode cX5_when 26 = .ok (.ireturn, 1) := by decide +kernel
theorem dX5_when_27 : decode cX5_when 27 = .ok (.bipush (-9), 2) := by decide +kernel
theorem dX5_when_29 : decode cX5_when 29 = .ok (.istore 4, 2) := by decide +kernel
theorem dX5_when_31 : decode cX5_when 31 = .ok (.iconst 0, 1) := by decide +kernel
theorem dX5_when_32 : decode cX5_when 32 = .ok (.istore 5, 2) := by decide +kernel
theorem dX5_when_34 : decode cX5_when 34 = .ok (.sipush 999, 3) := by decide +kernel
theorem dX5_when_37 : decode cX5_when 37 = .ok (.istore 6, 2) := by decide +kernel
theorem dX5_when_39 : decode cX5_when 39 = .ok (.iload 6, 2) := by decide +kernel
theorem dX5_when_41 : decode cX5_when 41 = .ok (.ifCond .lt 37, 3) := by decide +kernel
theorem dX5_when_44 : decode cX5_when 44 = .ok (.aload_n 0, 1) := by decide +kernel
theorem dX5_when_45 : decode cX5_when 45 = .ok (.iload_n 1, 1) := by decide +kernel
theorem dX5_when_46 : decode cX5_when 46 = .ok (.iload 6, 2) := by decide +kernel
theorem dX5_when_48 : decode cX5_when 48 = .ok (.invokevirtual 115, 3) := by decide +kernel
theorem dX5_when_51 : decode cX5_when 51 = .ok (.ifCond .le 21, 3) := by decide +kernel
theorem dX5_when_54 : decode cX5_when 54 = .ok (.aload_n 0, 1) := by decide +kernel
theorem dX5_when_55 : decode cX5_when 55 = .ok (.iload_n 1, 1) := by decide +kernel
theorem dX5_when_56 : decode cX5_when 56 = .ok (.iload 6, 2) := by decide +kernel
theorem dX5_when_58 : decode cX5_when 58 = .ok (.invokevirtual 118, 3) := by decide +kernel
theorem dX5_when_61 : decode cX5_when 61 = .ok (.iload_n 2, 1) := by decide +kernel
theorem dX5_when_62 : decode cX5_when 62 = .ok (.if_icmp .ne 10, 3) := by decide +kernel
theorem dX5_when_65 : decode cX5_when 65 = .ok (.iload 6, 2) := by decide +kernel
theorem dX5_when_67 : decode cX5_when 67 = .ok (.istore 4, 2) := by decide +kernel
theorem dX5_when_69 : decode cX5_when 69 = .ok (.iinc 5 1, 3) := by decide +kernel
theorem dX5_when_72 : decode cX5_when 72 = .ok (.iinc 6 (-1), 3) := by decide +kernel
theorem dX5_when_75 : decode cX5_when 75 = .ok (.goto (-36), 3) := by decide +kernel
theorem dX5_when_78 : decode cX5_when 78 = .ok (.iload_n 3, 1) := by decide +kernel
theorem dX5_when_79 : decode cX5_when 79 = .ok (.ifCond .ne 8, 3) := by decide +kernel
theorem dX5_when_82 : decode cX5_when 82 = .ok (.iload 4, 2) := by decide +kernel
theorem dX5_when_84 : decode cX5_when 84 = .ok (.goto 5, 3) := by decide +kernel
theorem dX5_when_87 : decode cX5_when 87 = .ok (.iload 5, 2) := by decide +kernel
theorem dX5_when_89 : decode cX5_when 89 = .ok (.ireturn, 1) := by decide +kernel
set_option maxRecDepth 20000 in
theorem ggX5_meet_X5_isSaying : GoodIn wsX5_meet wsX5_isSaying := goodIn_r _ [5, 6, 7, 8, 4, 9, 36, 37, 38, 39, 40, 41, 42, 43, 44, 45, 46, 47, 48, 49, 50, 51, 52, 53, 54, 55, 56] (by decide +kernel) (by decide +kernel)
set_option maxRecDepth 20000 in
theorem gX5_meet_X5_isSaying : GoodIn wsX5_meet (wsV RX5 131 RX5 yX5_isSaying wsX5_isSaying) := goodIn_app (goodIn_of _ (by decide +kernel)) ggX5_meet_X5_isSaying
set_option maxRecDepth 20000 in
theorem ggX5_meet_X5_strengthOf : GoodIn wsX5_meet wsX5_strengthOf := goodIn_r _ [13, 6, 14, 15, 16, 17, 4, 18, 19, 20, 21, 22, 23, 36, 37, 38, 39, 40, 41, 42, 43, 44, 45, 46, 47, 48, 49, 50, 51, 52, 53, 54, 55, 56] (by decide +kernel) (by decide +kernel)
set_option maxRecDepth 20000 in
theorem gX5_meet_X5_strengthOf : GoodIn wsX5_meet (wsV RX5 115 RX5 yX5_strengthOf wsX5_strengthOf) := goodIn_app (goodIn_of _ (by decide +kernel)) ggX5_meet_X5_strengthOf
set_option maxRecDepth 20000 in
theorem ggX5_meet_X5_placeOf : GoodIn wsX5_meet wsX5_placeOf := goodIn_r _ [27, 6, 20, 21, 22, 4, 23, 28, 29, 30, 31, 32, 33, 34, 35, 19, 36, 37, 38, 39, 40, 41, 42, 43, 44, 45, 46, 47, 48, 49, 50, 51, 52, 53, 54, 55, 56] (by decide +kernel) (by decide +kernel)
set_option maxRecDepth 20000 in
theorem gX5_meet_X5_placeOf : GoodIn wsX5_meet (wsV RX5 118 RX5 yX5_placeOf wsX5_placeOf) := goodIn_app (goodIn_of _ (by decide +kernel)) ggX5_meet_X5_placeOf
theorem dX5_meet_0 : decode cX5_meet 0 = .ok (.aload_n 0, 1) := by decide +kernel
theorem dX5_meet_1 : decode cX5_meet 1 = .ok (.iload_n 1, 1) := by decide +kernel
theorem dX5_meet_2 : decode cX5_meet 2 = .ok (.invokevirtual 131, 3) := by decide +kernel
theorem dX5_meet_5 : decode cX5_meet 5 = .ok (.ifCond .eq 16, 3) := by decide +kernel
theorem dX5_meet_8 : decode cX5_meet 8 = .ok (.aload_n 0, 1) := by decide +kernel
theorem dX5_meet_9 : decode cX5_meet 9 = .ok (.iload_n 2, 1) := by decide +kernel
theorem dX5_meet_10 : decode cX5_meet 10 = .ok (.invokevirtual 131, 3) := by decide +kernel
theorem dX5_meet_13 : decode cX5_meet 13 = .ok (.ifCond .eq 8, 3) := by decide +kernel
theorem dX5_meet_16 : decode cX5_meet 16 = .ok (.iload_n 1, 1) := by decide +kernel
theorem dX5_meet_17 : decode cX5_meet 17 = .ok (.iload_n 2, 1) := by decide +kernel
theorem dX5_meet_18 : decode cX5_meet 18 = .ok (.if_icmp .ne 5, 3) := by decide +kernel
theorem dX5_meet_21 : decode cX5_meet 21 = .ok (.iconst (-1), 1) := by decide +kernel
theorem dX5_meet_22 : decode cX5_meet 22 = .ok (.ireturn, 1) := by decide +kernel
theorem dX5_meet_23 : decode cX5_meet 23 = .ok (.iconst 0, 1) := by decide +kernel
theorem dX5_meet_24 : decode cX5_meet 24 = .ok (.istore_n 3, 1) := by decide +kernel
theorem dX5_meet_25 : decode cX5_meet 25 = .ok (.iload_n 3, 1) := by decide +kernel
theorem dX5_meet_26 : decode cX5_meet 26 = .ok (.sipush 999, 3) := by decide +kernel
theorem dX5_meet_29 : decode cX5_meet 29 = .ok (.if_icmp .gt 44, 3) := by decide +kernel
theorem dX5_meet_32 : decode cX5_meet 32 = .ok (.aload_n 0, 1) := by decide +kernel
theorem dX5_meet_33 : decode cX5_meet 33 = .ok (.iload_n 1, 1) := by decide +kernel
theorem dX5_meet_34 : decode cX5_meet 34 = .ok (.iload_n 3, 1) := by decide +kernel
theorem dX5_meet_35 : decode cX5_meet 35 = .ok (.invokevirtual 115, 3) := by decide +kernel
theorem dX5_meet_38 : decode cX5_meet 38 = .ok (.ifCond .le 29, 3) := by decide +kernel
theorem dX5_meet_41 : decode cX5_meet 41 = .ok (.aload_n 0, 1) := by decide +kernel
theorem dX5_meet_42 : decode cX5_meet 42 = .ok (.iload_n 2, 1) := by decide +kernel
theorem dX5_meet_43 : decode cX5_meet 43 = .ok (.iload_n 3, 1) := by decide +kernel
theorem dX5_meet_44 : decode cX5_meet 44 = .ok (.invokevirtual 115, 3) := by decide +kernel
theorem dX5_meet_47 : decode cX5_meet 47 = .ok (.ifCond .le 20, 3) := by decide +kernel
theorem dX5_meet_50 : decode cX5_meet 50 = .ok (.aload_n 0, 1) := by decide +kernel
theorem dX5_meet_51 : decode cX5_meet 51 = .ok (.iload_n 1, 1) := by decide +kernel
theorem dX5_meet_52 : decode cX5_meet 52 = .ok (.iload_n 3, 1) := by decide +kernel
theorem dX5_meet_53 : decode cX5_meet 53 = .ok (.invokevirtual 118, 3) := by decide +kernel
theorem dX5_meet_56 : decode cX5_meet 56 = .ok (.aload_n 0, 1) := by decide +kernel
theorem dX5_meet_57 : decode cX5_meet 57 = .ok (.iload_n 2, 1) := by decide +kernel
theorem dX5_meet_58 : decode cX5_meet 58 = .ok (.iload_n 3, 1) := by decide +kernel
theorem dX5_meet_59 : decode cX5_meet 59 = .ok (.invokevirtual 118, 3) := by decide +kernel
theorem dX5_meet_62 : decode cX5_meet 62 = .ok (.if_icmp .ne 5, 3) := by decide +kernel
theorem dX5_meet_65 : decode cX5_meet 65 = .ok (.iload_n 3, 1) := by decide +kernel
theorem dX5_meet_66 : decode cX5_meet 66 = .ok (.ireturn, 1) := by decide +kernel
theorem dX5_meet_67 : decode cX5_meet 67 = .ok (.iinc 3 1, 3) := by decide +kernel
theorem dX5_meet_70 : decode cX5_meet 70 = .ok (.goto (-45), 3) := by decide +kernel
theorem dX5_meet_73 : decode cX5_meet 73 = .ok (.bipush (-9), 2) := by decide +kernel
theorem dX5_meet_75 : decode cX5_meet 75 = .ok (.ireturn, 1) := by decide +kernel
set_option maxRecDepth 20000 in
theorem ggX5_best_X5_isPlace : GoodIn wsX5_best wsX5_isPlace := goodIn_r _ [7, 1, 8, 9, 6, 10, 47, 48, 49, 50, 51, 52, 53, 54, 55, 56, 57, 58, 59, 60, 61, 62, 63, 64, 65, 66, 67] (by decide +kernel) (by decide +kernel)
set_option maxRecDepth 20000 in
theorem gX5_best_X5_isPlace : GoodIn wsX5_best (wsV RX5 138 RX5 yX5_isPlace wsX5_isPlace) := goodIn_app (goodIn_of _ (by decide +kernel)) ggX5_best_X5_isPlace
set_option maxRecDepth 20000 in
theorem ggX5_best_X5_in : GoodIn wsX5_best wsX5_in := goodIn_r _ [10] (by decide +kernel) (by decide +kernel)
set_option maxRecDepth 20000 in
theorem gX5_best_X5_in : GoodIn wsX5_best (va_wsS RX5 39 yX5_in wsX5_in) := goodIn_app (goodIn_of _ (by decide +kernel)) ggX5_best_X5_in
set_option maxRecDepth 20000 in
theorem ggX5_best_X5_placeBy : GoodIn wsX5_best wsX5_placeBy := goodIn_r _ [14, 15, 16, 17, 6, 18, 1, 47, 48, 49, 50, 51, 52, 53, 54, 55, 56, 57, 58, 59, 60, 61, 62, 63, 64, 65, 66, 67] (by decide +kernel) (by decide +kernel)
set_option maxRecDepth 20000 in
theorem gX5_best_X5_placeBy : GoodIn wsX5_best (wsV RX5 108 RX5 yX5_placeBy wsX5_placeBy) := goodIn_app (goodIn_of _ (by decide +kernel)) ggX5_best_X5_placeBy
set_option maxRecDepth 20000 in
theorem ggX5_best_X5_soundsOf : GoodIn wsX5_best wsX5_soundsOf := goodIn_r _ [22, 23, 24, 25, 26, 6, 27, 2, 28, 29, 30, 31, 1, 32, 33, 34, 35, 36, 37, 38, 39, 11, 12, 13, 14, 15, 16, 17, 18, 47, 48, 49, 50, 51, 52, 53, 54, 55, 56, 57, 58, 59, 60, 61, 62, 63, 64, 65, 66, 67] (by decide +kernel) (by decide +kernel)
set_option maxRecDepth 20000 in
theorem gX5_best_X5_soundsOf : GoodIn wsX5_best (wsV RX5 128 RX5 yX5_soundsOf wsX5_soundsOf) := goodIn_app (goodIn_of _ (by decide +kernel)) ggX5_best_X5_soundsOf
set_option maxRecDepth 20000 in
theorem ggX5_best_X5_loudOf : GoodIn wsX5_best wsX5_loudOf := goodIn_r _ [43, 23, 44, 45, 6, 46, 24, 25, 26, 27, 2, 28, 29, 30, 31, 1, 32, 33, 34, 35, 47, 48, 49, 50, 51, 52, 53, 54, 55, 56, 57, 58, 59, 60, 61, 62, 63, 64, 65, 66, 67] (by decide +kernel) (by decide +kernel)
set_option maxRecDepth 20000 in
theorem gX5_best_X5_loudOf : GoodIn wsX5_best (wsV RX5 125 RX5 yX5_loudOf wsX5_loudOf) := goodIn_app (goodIn_of _ (by decide +kernel)) ggX5_best_X5_loudOf
theorem dX5_best_0 : decode cX5_best 0 = .ok (.aload_n 0, 1) := by decide +kernel
theorem dX5_best_1 : decode cX5_best 1 = .ok (.iload_n 1, 1) := by decide +kernel
theorem dX5_best_2 : decode cX5_best 2 = .ok (.invokevirtual 138, 3) := by decide +kernel
theorem dX5_best_5 : decode cX5_best 5 = .ok (.ifCond .eq 42, 3) := by decide +kernel
theorem dX5_best_8 : decode cX5_best 8 = .ok (.aload_n 0, 1) := by decide +kernel
theorem dX5_best_9 : decode cX5_best 9 = .ok (.iload_n 2, 1) := by decide +kernel
theorem dX5_best_10 : decode cX5_best 10 = .ok (.invokevirtual 138, 3) := by decide +kernel
theorem dX5_best_13 : decode cX5_best 13 = .ok (.ifCond .eq 34, 3) := by decide +kernel
theorem dX5_best_16 : decode cX5_best 16 = .ok (.iload_n 3, 1) := by decide +kernel
theorem dX5_best_17 : decode cX5_best 17 = .ok (.iconst 1, 1) := by decide +kernel
theorem dX5_best_18 : decode cX5_best 18 = .ok (.bipush 6, 2) := by decide +kernel
theorem dX5_best_20 : decode cX5_best 20 = .ok (.invokestatic 39, 3) := by decide +kernel
theorem dX5_best_23 : decode cX5_best 23 = .ok (.ifCond .eq 24, 3) := by decide +kernel
theorem dX5_best_26 : decode cX5_best 26 = .ok (.iload 4, 2) := by decide +kernel
theorem dX5_best_28 : decode cX5_best 28 = .ok (.iconst 0, 1) := by decide +kernel
theorem dX5_best_29 : decode cX5_best 29 = .ok (.iconst 1, 1) := by decide +kernel
theorem dX5_best_30 : decode cX5_best 30 = .ok (.invokestatic 39, 3) := by decide +kernel
theorem dX5_best_33 : decode cX5_best 33 = .ok (.ifCond .eq 14, 3) := by decide +kernel
theorem dX5_best_36 : decode cX5_best 36 = .ok (.iload 5, 2) := by decide +kernel
theorem dX5_best_38 : decode cX5_best 38 = .ok (.iconst 1, 1) := by decide +kernel
theorem dX5_best_39 : decode cX5_best 39 = .ok (.bipush 30, 2) := by decide +kernel
theorem dX5_best_41 : decode cX5_best 41 = .ok (.invokestatic 39, 3) := by decide +kernel
theorem dX5_best_44 : decode cX5_best 44 = .ok (.ifCond .ne 5, 3) := by decide +kernel
theorem dX5_best_47 : decode cX5_best 47 = .ok (.iconst (-1), 1) := by decide +kernel
theorem dX5_best_48 : decode cX5_best 48 = .ok (.ireturn, 1) := by decide +kernel
theorem dX5_best_49 : decode cX5_best 49 = .ok (.iconst 0, 1) := by decide +kernel
theorem dX5_best_50 : decode cX5_best 50 = .ok (.istore 6, 2) := by decide +kernel
theorem dX5_best_52 : decode cX5_best 52 = .ok (.iload 6, 2) := by decide +kernel
theorem dX5_best_54 : decode cX5_best 54 = .ok (.aload_n 0, 1) := by decide +kernel
theorem dX5_best_55 : decode cX5_best 55 = .ok (.getfield 13, 3) := by decide +kernel
theorem dX5_best_58 : decode cX5_best 58 = .ok (.if_icmp .ge 23, 3) := by decide +kernel
theorem dX5_best_61 : decode cX5_best 61 = .ok (.aload_n 0, 1) := by decide +kernel
theorem dX5_best_62 : decode cX5_best 62 = .ok (.iload_n 1, 1) := by decide +kernel
theorem dX5_best_63 : decode cX5_best 63 = .ok (.iload_n 3, 1) := by decide +kernel
theorem dX5_best_64 : decode cX5_best 64 = .ok (.iload 4, 2) := by decide +kernel
theorem dX5_best_66 : decode cX5_best 66 = .ok (.iload 6, 2) := by decide +kernel
theorem dX5_best_68 : decode cX5_best 68 = .ok (.invokevirtual 108, 3) := by decide +kernel
theorem dX5_best_71 : decode cX5_best 71 = .ok (.iload_n 2, 1) := by decide +kernel
theorem dX5_best_72 : decode cX5_best 72 = .ok (.if_icmp .eq 9, 3) := by decide +kernel
theorem dX5_best_75 : decode cX5_best 75 = .ok (.iinc 6 1, 3) := by decide +kernel
theorem dX5_best_78 : decode cX5_best 78 = .ok (.goto (-26), 3) := by decide +kernel
theorem dX5_best_81 : decode cX5_best 81 = .ok (.iload 5, 2) := by decide +kernel
theorem dX5_best_83 : decode cX5_best 83 = .ok (.aload_n 0, 1) := by decide +kernel
theorem dX5_best_84 : decode cX5_best 84 = .ok (.getfield 17, 3) := by decide +kernel
theorem dX5_best_87 : decode cX5_best 87 = .ok (.iload_n 3, 1) := by decide +kernel
theorem dX5_best_88 : decode cX5_best 88 = .ok (.iload 6, 2) := by decide +kernel
theorem dX5_best_90 : decode cX5_best 90 = .ok (.imul, 1) := by decide +kernel
theorem dX5_best_91 : decode cX5_best 91 = .ok (.aload_n 0, 1) := by decide +kernel
theorem dX5_best_92 : decode cX5_best 92 = .ok (.getfield 13, 3) := by decide +kernel
theorem dX5_best_95 : decode cX5_best 95 = .ok (.idiv, 1) := by decide +kernel
theorem dX5_best_96 : decode cX5_best 96 = .ok (.imul, 1) := by decide +kernel
theorem dX5_best_97 : decode cX5_best 97 = .ok (.isub, 1) := by decide +kernel
theorem dX5_best_98 : decode cX5_best 98 = .ok (.istore 7, 2) := by decide +kernel
theorem dX5_best_100 : decode cX5_best 100 = .ok (.iload 6, 2) := by decide +kernel
theorem dX5_best_102 : decode cX5_best 102 = .ok (.aload_n 0, 1) := by decide +kernel
theorem dX5_best_103 : decode cX5_best 103 = .ok (.getfield 13, 3) := by decide +kernel
theorem dX5_best_106 : decode cX5_best 106 = .ok (.if_icmp .eq 8, 3) := by decide +kernel
theorem dX5_best_109 : decode cX5_best 109 = .ok (.iload 7, 2) := by decide +kernel
theorem dX5_best_111 : decode cX5_best 111 = .ok (.ifCond .gt 6, 3) := by decide +kernel
theorem dX5_best_114 : decode cX5_best 114 = .ok (.bipush (-9), 2) := by decide +kernel
theorem dX5_best_116 : decode cX5_best 116 = .ok (.ireturn, 1) := by decide +kernel
theorem dX5_best_117 : decode cX5_best 117 = .ok (.iconst 0, 1) := by decide +kernel
theorem dX5_best_118 : decode cX5_best 118 = .ok (.istore 8, 2) := by decide +kernel
theorem dX5_best_120 : decode cX5_best 120 = .ok (.iload 8, 2) := by decide +kernel
theorem dX5_best_122 : decode cX5_best 122 = .ok (.bipush 99, 2) := by decide +kernel
theorem dX5_best_124 : decode cX5_best 124 = .ok (.if_icmp .gt 36, 3) := by decide +kernel
theorem dX5_best_127 : decode cX5_best 127 = .ok (.iload 7, 2) := by decide +kernel
theorem dX5_best_129 : decode cX5_best 129 = .ok (.aload_n 0, 1) := by decide +kernel
theorem dX5_best_130 : decode cX5_best 130 = .ok (.aload_n 0, 1) := by decide +kernel
theorem dX5_best_131 : decode cX5_best 131 = .ok (.iload_n 2, 1) := by decide +kernel
theorem dX5_best_132 : decode cX5_best 132 = .ok (.iload 8, 2) := by decide +kernel
theorem dX5_best_134 : decode cX5_best 134 = .ok (.iload 6, 2) := by decide +kernel
theorem dX5_best_136 : decode cX5_best 136 = .ok (.iadd, 1) := by decide +kernel
theorem dX5_best_137 : decode cX5_best 137 = .ok (.invokevirtual 128, 3) := by decide +kernel
theorem dX5_best_140 : decode cX5_best 140 = .ok (.iload 8, 2) := by decide +kernel
theorem dX5_best_142 : decode cX5_best 142 = .ok (.iload 6, 2) := by decide +kernel
theorem dX5_best_144 : decode cX5_best 144 = .ok (.iadd, 1) := by decide +kernel
theorem dX5_best_145 : decode cX5_best 145 = .ok (.invokevirtual 125, 3) := by decide +kernel
theorem dX5_best_148 : decode cX5_best 148 = .ok (.if_icmp .le 6, 3) := by decide +kernel
theorem dX5_best_151 : decode cX5_best 151 = .ok (.iload 8, 2) := by decide +kernel
theorem dX5_best_153 : decode cX5_best 153 = .ok (.ireturn, 1) := by decide +kernel
theorem dX5_best_154 : decode cX5_best 154 = .ok (.iinc 8 1, 3) := by decide +kernel
theorem dX5_best_157 : decode cX5_best 157 = .ok (.goto (-37), 3) := by decide +kernel
theorem dX5_best_160 : decode cX5_best 160 = .ok (.bipush (-9), 2) := by decide +kernel
theorem dX5_best_162 : decode cX5_best 162 = .ok (.ireturn, 1) := by decide +kernel
set_option maxRecDepth 20000 in
theorem ggX5_stills_X5_isSaying : GoodIn wsX5_stills wsX5_isSaying := goodIn_r _ [5, 6, 7, 8, 4, 9, 50, 51, 52, 53, 54, 55, 56, 57, 58, 59, 60, 61, 62, 63, 64, 65, 66, 67, 68, 69, 70] (by decide +kernel) (by decide +kernel)
set_option maxRecDepth 20000 in
theorem gX5_stills_X5_isSaying : GoodIn wsX5_stills (wsV RX5 131 RX5 yX5_isSaying wsX5_isSaying) := goodIn_app (goodIn_of _ (by decide +kernel)) ggX5_stills_X5_isSaying
set_option maxRecDepth 20000 in
theorem ggX5_stills_X5_strengthOf : GoodIn wsX5_stills wsX5_strengthOf := goodIn_r _ [13, 6, 14, 15, 16, 17, 4, 18, 19, 20, 21, 22, 23, 50, 51, 52, 53, 54, 55, 56, 57, 58, 59, 60, 61, 62, 63, 64, 65, 66, 67, 68, 69, 70] (by decide +kernel) (by decide +kernel)
set_option maxRecDepth 20000 in
theorem gX5_stills_X5_strengthOf : GoodIn wsX5_stills (wsV RX5 115 RX5 yX5_strengthOf wsX5_strengthOf) := goodIn_app (goodIn_of _ (by decide +kernel)) ggX5_stills_X5_strengthOf
set_option maxRecDepth 20000 in
theorem ggX5_stills_X5_placeOf : GoodIn wsX5_stills wsX5_placeOf := goodIn_r _ [27, 6, 20, 21, 22, 4, 23, 28, 29, 30, 31, 32, 33, 34, 35, 19, 50, 51, 52, 53, 54, 55, 56, 57, 58, 59, 60, 61, 62, 63, 64, 65, 66, 67, 68, 69, 70] (by decide +kernel) (by decide +kernel)
set_option maxRecDepth 20000 in
theorem gX5_stills_X5_placeOf : GoodIn wsX5_stills (wsV RX5 118 RX5 yX5_placeOf wsX5_placeOf) := goodIn_app (goodIn_of _ (by decide +kernel)) ggX5_stills_X5_placeOf
set_option maxRecDepth 20000 in
theorem ggX5_stills_X5_soundsOf : GoodIn wsX5_stills wsX5_soundsOf := goodIn_r _ [39, 6, 10, 11, 12, 4, 13, 14, 15, 16, 17, 18, 19, 20, 21, 22, 23, 24, 25, 26, 27, 28, 29, 30, 31, 32, 33, 34, 35, 50, 51, 52, 53, 54, 55, 56, 57, 58, 59, 60, 61, 62, 63, 64, 65, 66, 67, 68, 69, 70] (by decide +kernel) (by decide +kernel)
set_option maxRecDepth 20000 in
theorem gX5_stills_X5_soundsOf : GoodIn wsX5_stills (wsV RX5 128 RX5 yX5_soundsOf wsX5_soundsOf) := goodIn_app (goodIn_of _ (by decide +kernel)) ggX5_stills_X5_soundsOf
set_option maxRecDepth 20000 in
theorem ggX5_stills_X5_bits : GoodIn wsX5_stills wsX5_bits := goodIn_r _ [42] (by decide +kernel) (by decide +kernel)
set_option maxRecDepth 20000 in
theorem gX5_stills_X5_bits : GoodIn wsX5_stills (va_wsS RX5 153 yX5_bits wsX5_bits) := goodIn_app (goodIn_of _ (by decide +kernel)) ggX5_stills_X5_bits
set_option maxRecDepth 20000 in
theorem ggX5_stills_X5_loudOf : GoodIn wsX5_stills wsX5_loudOf := goodIn_r _ [46, 6, 47, 48, 4, 49, 10, 11, 12, 13, 14, 15, 16, 17, 18, 19, 20, 21, 22, 23, 50, 51, 52, 53, 54, 55, 56, 57, 58, 59, 60, 61, 62, 63, 64, 65, 66, 67, 68, 69, 70] (by decide +kernel) (by decide +kernel)
set_option maxRecDepth 20000 in
theorem gX5_stills_X5_loudOf : GoodIn wsX5_stills (wsV RX5 125 RX5 yX5_loudOf wsX5_loudOf) := goodIn_app (goodIn_of _ (by decide +kernel)) ggX5_stills_X5_loudOf
theorem dX5_stills_0 : decode cX5_stills 0 = .ok (.aload_n 0, 1) := by decide +kernel
theorem dX5_stills_1 : decode cX5_stills 1 = .ok (.iload_n 1, 1) := by decide +kernel
theorem dX5_stills_2 : decode cX5_stills 2 = .ok (.invokevirtual 131, 3) := by decide +kernel
theorem dX5_stills_5 : decode cX5_stills 5 = .ok (.ifCond .ne 5, 3) := by decide +kernel
theorem dX5_stills_8 : decode cX5_stills 8 = .ok (.iconst (-1), 1) := by decide +kernel
theorem dX5_stills_9 : decode cX5_stills 9 = .ok (.ireturn, 1) := by decide +kernel
theorem dX5_stills_10 : decode cX5_stills 10 = .ok (.aload_n 0, 1) := by decide +kernel
theorem dX5_stills_11 : decode cX5_stills 11 = .ok (.iload_n 1, 1) := by decide +kernel
theorem dX5_stills_12 : decode cX5_stills 12 = .ok (.iconst 0, 1) := by decide +kernel
theorem dX5_stills_13 : decode cX5_stills 13 = .ok (.invokevirtual 115, 3) := by decide +kernel
theorem dX5_stills_16 : decode cX5_stills 16 = .ok (.istore_n 2, 1) := by decide +kernel
theorem dX5_stills_17 : decode cX5_stills 17 = .ok (.aload_n 0, 1) := by decide +kernel
theorem dX5_stills_18 : decode cX5_stills 18 = .ok (.aload_n 0, 1) := by decide +kernel
theorem dX5_stills_19 : decode cX5_stills 19 = .ok (.iload_n 1, 1) := by decide +kernel
theorem dX5_stills_20 : decode cX5_stills 20 = .ok (.iconst 0, 1) := by decide +kernel
theorem dX5_stills_21 : decode cX5_stills 21 = .ok (.invokevirtual 118, 3) := by decide +kernel
theorem dX5_stills_24 : decode cX5_stills 24 = .ok (.iconst 0, 1) := by decide +kernel
theorem dX5_stills_25 : decode cX5_stills 25 = .ok (.invokevirtual 128, 3) := by decide +kernel
theorem dX5_stills_28 : decode cX5_stills 28 = .ok (.iconst 1, 1) := by decide +kernel
theorem dX5_stills_29 : decode cX5_stills 29 = .ok (.iload_n 1, 1) := by decide +kernel
theorem dX5_stills_30 : decode cX5_stills 30 = .ok (.ishl, 1) := by decide +kernel
theorem dX5_stills_31 : decode cX5_stills 31 = .ok (.iconst (-1), 1) := by decide +kernel
theorem dX5_stills_32 : decode cX5_stills 32 = .ok (.ixor, 1) := by decide +kernel
theorem dX5_stills_33 : decode cX5_stills 33 = .ok (.iand, 1) := by decide +kernel
theorem dX5_stills_34 : decode cX5_stills 34 = .ok (.istore_n 3, 1) := by decide +kernel
theorem dX5_stills_35 : decode cX5_stills 35 = .ok (.iload_n 3, 1) := by decide +kernel
theorem dX5_stills_36 : decode cX5_stills 36 = .ok (.istore 4, 2) := by decide +kernel
theorem dX5_stills_38 : decode cX5_stills 38 = .ok (.iload_n 3, 1) := by decide +kernel
theorem dX5_stills_39 : decode cX5_stills 39 = .ok (.istore 5, 2) := by decide +kernel
theorem dX5_stills_41 : decode cX5_stills 41 = .ok (.iload 5, 2) := by decide +kernel
theorem dX5_stills_43 : decode cX5_stills 43 = .ok (.ifCond .lt 67, 3) := by decide +kernel
theorem dX5_stills_46 : decode cX5_stills 46 = .ok (.iload 5, 2) := by decide +kernel
theorem dX5_stills_48 : decode cX5_stills 48 = .ok (.iload_n 3, 1) := by decide +kernel
theorem dX5_stills_49 : decode cX5_stills 49 = .ok (.iconst (-1), 1) := by decide +kernel
theorem dX5_stills_50 : decode cX5_stills 50 = .ok (.ixor, 1) := by decide +kernel
theorem dX5_stills_51 : decode cX5_stills 51 = .ok (.iand, 1) := by decide +kernel
theorem dX5_stills_52 : decode cX5_stills 52 = .ok (.ifCond .ne 20, 3) := by decide +kernel
theorem dX5_stills_55 : decode cX5_stills 55 = .ok (.iload 5, 2) := by decide +kernel
theorem dX5_stills_57 : decode cX5_stills 57 = .ok (.invokestatic 153, 3) := by decide +kernel
theorem dX5_stills_60 : decode cX5_stills 60 = .ok (.iload 4, 2) := by decide +kernel
theorem dX5_stills_62 : decode cX5_stills 62 = .ok (.invokestatic 153, 3) := by decide +kernel
theorem dX5_stills_65 : decode cX5_stills 65 = .ok (.if_icmp .gt 7, 3) := by decide +kernel
theorem dX5_stills_68 : decode cX5_stills 68 = .ok (.iconst 1, 1) := by decide +kernel
theorem dX5_stills_69 : decode cX5_stills 69 = .ok (.goto 4, 3) := by decide +kernel
theorem dX5_stills_72 : decode cX5_stills 72 = .ok (.iconst 0, 1) := by decide +kernel
theorem dX5_stills_73 : decode cX5_stills 73 = .ok (.istore 6, 2) := by decide +kernel
theorem dX5_stills_75 : decode cX5_stills 75 = .ok (.iload 6, 2) := by decide +kernel
theorem dX5_stills_77 : decode cX5_stills 77 = .ok (.ifCond .eq 23, 3) := by decide +kernel
theorem dX5_stills_80 : decode cX5_stills 80 = .ok (.iload_n 2, 1) := by decide +kernel
theorem dX5_stills_81 : decode cX5_stills 81 = .ok (.aload_n 0, 1) := by decide +kernel
theorem dX5_stills_82 : decode cX5_stills 82 = .ok (.iload_n 3, 1) := by decide +kernel
theorem dX5_stills_83 : decode cX5_stills 83 = .ok (.iload 5, 2) := by decide +kernel
theorem dX5_stills_85 : decode cX5_stills 85 = .ok (.iconst (-1), 1) := by decide +kernel
theorem dX5_stills_86 : decode cX5_stills 86 = .ok (.ixor, 1) := by decide +kernel
theorem dX5_stills_87 : decode cX5_stills 87 = .ok (.iand, 1) := by decide +kernel
theorem dX5_stills_88 : decode cX5_stills 88 = .ok (.iconst 0, 1) := by decide +kernel
theorem dX5_stills_89 : decode cX5_stills 89 = .ok (.invokevirtual 125, 3) := by decide +kernel
theorem dX5_stills_92 : decode cX5_stills 92 = .ok (.if_icmp .le 8, 3) := by decide +kernel
theorem dX5_stills_95 : decode cX5_stills 95 = .ok (.iload 5, 2) := by decide +kernel
theorem dX5_stills_97 : decode cX5_stills 97 = .ok (.goto 5, 3) := by decide +kernel
theorem dX5_stills_100 : decode cX5_stills 100 = .ok (.iload 4, 2) := by decide +kernel
theorem dX5_stills_102 : decode cX5_stills 102 = .ok (.istore 4, 2) := by decide +kernel
theorem dX5_stills_104 : decode cX5_stills 104 = .ok (.iinc 5 (-1), 3) := by decide +kernel
theorem dX5_stills_107 : decode cX5_stills 107 = .ok (.goto (-66), 3) := by decide +kernel
theorem dX5_stills_110 : decode cX5_stills 110 = .ok (.iload_n 2, 1) := by decide +kernel
theorem dX5_stills_111 : decode cX5_stills 111 = .ok (.ifCond .ne 8, 3) := by decide +kernel
theorem dX5_stills_114 : decode cX5_stills 114 = .ok (.bipush (-9), 2) := by decide +kernel
theorem dX5_stills_116 : decode cX5_stills 116 = .ok (.goto 5, 3) := by decide +kernel
theorem dX5_stills_119 : decode cX5_stills 119 = .ok (.iload 4, 2) := by decide +kernel
theorem dX5_stills_121 : decode cX5_stills 121 = .ok (.ireturn, 1) := by decide +kernel
theorem dX5_divisor_0 : decode cX5_divisor 0 = .ok (.iload_n 0, 1) := by decide +kernel
theorem dX5_divisor_1 : decode cX5_divisor 1 = .ok (.istore_n 2, 1) := by decide +kernel
theorem dX5_divisor_2 : decode cX5_divisor 2 = .ok (.iload_n 1, 1) := by decide +kernel
theorem dX5_divisor_3 : decode cX5_divisor 3 = .ok (.istore_n 3, 1) := by decide +kernel
theorem dX5_divisor_4 : decode cX5_divisor 4 = .ok (.iload_n 3, 1) := by decide +kernel
theorem dX5_divisor_5 : decode cX5_divisor 5 = .ok (.ifCond .le 16, 3) := by decide +kernel
theorem dX5_divisor_8 : decode cX5_divisor 8 = .ok (.iload_n 2, 1) := by decide +kernel
theorem dX5_divisor_9 : decode cX5_divisor 9 = .ok (.iload_n 3, 1) := by decide +kernel
theorem dX5_divisor_10 : decode cX5_divisor 10 = .ok (.irem, 1) := by decide +kernel
theorem dX5_divisor_11 : decode cX5_divisor 11 = .ok (.istore 4, 2) := by decide +kernel
theorem dX5_divisor_13 : decode cX5_divisor 13 = .ok (.iload_n 3, 1) := by decide +kernel
theorem dX5_divisor_14 : decode cX5_divisor 14 = .ok (.istore_n 2, 1) := by decide +kernel
theorem dX5_divisor_15 : decode cX5_divisor 15 = .ok (.iload 4, 2) := by decide +kernel
theorem dX5_divisor_17 : decode cX5_divisor 17 = .ok (.istore_n 3, 1) := by decide +kernel
theorem dX5_divisor_18 : decode cX5_divisor 18 = .ok (.goto (-14), 3) := by decide +kernel
theorem dX5_divisor_21 : decode cX5_divisor 21 = .ok (.iload_n 2, 1) := by decide +kernel
theorem dX5_divisor_22 : decode cX5_divisor 22 = .ok (.ireturn, 1) := by decide +kernel
set_option maxRecDepth 20000 in
theorem ggX5_odds_X5_isSaying : GoodIn wsX5_odds wsX5_isSaying := goodIn_r _ [6, 7, 8, 9, 5, 10, 33, 34, 35, 36, 37, 38, 39, 40, 41, 42, 43, 44, 45, 46, 47, 48, 49, 50, 51, 52, 53] (by decide +kernel) (by decide +kernel)
set_option maxRecDepth 20000 in
theorem gX5_odds_X5_isSaying : GoodIn wsX5_odds (wsV RX5 131 RX5 yX5_isSaying wsX5_isSaying) := goodIn_app (goodIn_of _ (by decide +kernel)) ggX5_odds_X5_isSaying
set_option maxRecDepth 20000 in
theorem ggX5_odds_X5_in : GoodIn wsX5_odds wsX5_in := goodIn_r _ [10] (by decide +kernel) (by decide +kernel)
set_option maxRecDepth 20000 in
theorem gX5_odds_X5_in : GoodIn wsX5_odds (va_wsS RX5 39 yX5_in wsX5_in) := goodIn_app (goodIn_of _ (by decide +kernel)) ggX5_odds_X5_in
set_option maxRecDepth 20000 in
theorem ggX5_odds_X5_strengthOf : GoodIn wsX5_odds wsX5_strengthOf := goodIn_r _ [14, 7, 1, 15, 16, 17, 5, 18, 19, 20, 21, 22, 23, 33, 34, 35, 36, 37, 38, 39, 40, 41, 42, 43, 44, 45, 46, 47, 48, 49, 50, 51, 52, 53] (by decide +kernel) (by decide +kernel)
set_option maxRecDepth 20000 in
theorem gX5_odds_X5_strengthOf : GoodIn wsX5_odds (wsV RX5 115 RX5 yX5_strengthOf wsX5_strengthOf) := goodIn_app (goodIn_of _ (by decide +kernel)) ggX5_odds_X5_strengthOf
set_option maxRecDepth 20000 in
theorem ggX5_odds_X5_has : GoodIn wsX5_odds wsX5_has := goodIn_r _ [26] (by decide +kernel) (by decide +kernel)
set_option maxRecDepth 20000 in
theorem gX5_odds_X5_has : GoodIn wsX5_odds (va_wsS RX5 121 yX5_has wsX5_has) := goodIn_app (goodIn_of _ (by decide +kernel)) ggX5_odds_X5_has
set_option maxRecDepth 20000 in
theorem ggX5_odds_X5_bits : GoodIn wsX5_odds wsX5_bits := goodIn_r _ [29] (by decide +kernel) (by decide +kernel)
set_option maxRecDepth 20000 in
theorem gX5_odds_X5_bits : GoodIn wsX5_odds (va_wsS RX5 153 yX5_bits wsX5_bits) := goodIn_app (goodIn_of _ (by decide +kernel)) ggX5_odds_X5_bits
set_option maxRecDepth 20000 in
theorem ggX5_odds_X5_divisor : GoodIn wsX5_odds wsX5_divisor := goodIn_r _ [32] (by decide +kernel) (by decide +kernel)
set_option maxRecDepth 20000 in
theorem gX5_odds_X5_divisor : GoodIn wsX5_odds (va_wsS RX5 160 yX5_divisor wsX5_divisor) := goodIn_app (goodIn_of _ (by decide +kernel)) ggX5_odds_X5_divisor
theorem dX5_odds_0 : decode cX5_odds 0 = .ok (.aload_n 0, 1) := by decide +kernel
theorem dX5_odds_1 : decode cX5_odds 1 = .ok (.iload_n 1, 1) := by decide +kernel
theorem dX5_odds_2 : decode cX5_odds 2 = .ok (.invokevirtual 131, 3) := by decide +kernel
theorem dX5_odds_5 : decode cX5_odds 5 = .ok (.ifCond .eq 33, 3) := by decide +kernel
theorem dX5_odds_8 : decode cX5_odds 8 = .ok (.iload_n 2, 1) := by decide +kernel
theorem dX5_odds_9 : decode cX5_odds 9 = .ok (.iconst 0, 1) := by decide +kernel
theorem dX5_odds_10 : decode cX5_odds 10 = .ok (.bipush 6, 2) := by decide +kernel
theorem dX5_odds_12 : decode cX5_odds 12 = .ok (.invokestatic 39, 3) := by decide +kernel
theorem dX5_odds_15 : decode cX5_odds 15 = .ok (.ifCond .eq 23, 3) := by decide +kernel
theorem dX5_odds_18 : decode cX5_odds 18 = .ok (.iload_n 3, 1) := by decide +kernel
theorem dX5_odds_19 : decode cX5_odds 19 = .ok (.iconst 0, 1) := by decide +kernel
theorem dX5_odds_20 : decode cX5_odds 20 = .ok (.bipush 10, 2) := by decide +kernel
theorem dX5_odds_22 : decode cX5_odds 22 = .ok (.invokestatic 39, 3) := by decide +kernel
theorem dX5_odds_25 : decode cX5_odds 25 = .ok (.ifCond .eq 13, 3) := by decide +kernel
theorem dX5_odds_28 : decode cX5_odds 28 = .ok (.iload 4, 2) := by decide +kernel
theorem dX5_odds_30 : decode cX5_odds 30 = .ok (.iconst 0, 1) := by decide +kernel
theorem dX5_odds_31 : decode cX5_odds 31 = .ok (.iconst 1, 1) := by decide +kernel
theorem dX5_odds_32 : decode cX5_odds 32 = .ok (.invokestatic 39, 3) := by decide +kernel
theorem dX5_odds_35 : decode cX5_odds 35 = .ok (.ifCond .ne 5, 3) := by decide +kernel
theorem dX5_odds_38 : decode cX5_odds 38 = .ok (.iconst (-1), 1) := by decide +kernel
theorem dX5_odds_39 : decode cX5_odds 39 = .ok (.ireturn, 1) := by decide +kernel
theorem dX5_odds_40 : decode cX5_odds 40 = .ok (.aload_n 0, 1) := by decide +kernel
theorem dX5_odds_41 : decode cX5_odds 41 = .ok (.iload_n 1, 1) := by decide +kernel
theorem dX5_odds_42 : decode cX5_odds 42 = .ok (.iconst 0, 1) := by decide +kernel
theorem dX5_odds_43 : decode cX5_odds 43 = .ok (.invokevirtual 115, 3) := by decide +kernel
theorem dX5_odds_46 : decode cX5_odds 46 = .ok (.istore 5, 2) := by decide +kernel
theorem dX5_odds_48 : decode cX5_odds 48 = .ok (.iconst 0, 1) := by decide +kernel
theorem dX5_odds_49 : decode cX5_odds 49 = .ok (.istore 6, 2) := by decide +kernel
theorem dX5_odds_51 : decode cX5_odds 51 = .ok (.iconst 0, 1) := by decide +kernel
theorem dX5_odds_52 : decode cX5_odds 52 = .ok (.istore 7, 2) := by decide +kernel
theorem dX5_odds_54 : decode cX5_odds 54 = .ok (.iconst 0, 1) := by decide +kernel
theorem dX5_odds_55 : decode cX5_odds 55 = .ok (.istore 8, 2) := by decide +kernel
theorem dX5_odds_57 : decode cX5_odds 57 = .ok (.iload 8, 2) := by decide +kernel
theorem dX5_odds_59 : decode cX5_odds 59 = .ok (.iconst 1, 1) := by decide +kernel
theorem dX5_odds_60 : decode cX5_odds 60 = .ok (.iload_n 2, 1) := by decide +kernel
theorem dX5_odds_61 : decode cX5_odds 61 = .ok (.ishl, 1) := by decide +kernel
theorem dX5_odds_62 : decode cX5_odds 62 = .ok (.if_icmp .ge 86, 3) := by decide +kernel
theorem dX5_odds_65 : decode cX5_odds 65 = .ok (.iconst 1, 1) := by decide +kernel
theorem dX5_odds_66 : decode cX5_odds 66 = .ok (.istore 9, 2) := by decide +kernel
theorem dX5_odds_68 : decode cX5_odds 68 = .ok (.iconst 0, 1) := by decide +kernel
theorem dX5_odds_69 : decode cX5_odds 69 = .ok (.istore 10, 2) := by decide +kernel
theorem dX5_odds_71 : decode cX5_odds 71 = .ok (.iload 10, 2) := by decide +kernel
theorem dX5_odds_73 : decode cX5_odds 73 = .ok (.iload_n 2, 1) := by decide +kernel
theorem dX5_odds_74 : decode cX5_odds 74 = .ok (.if_icmp .ge 32, 3) := by decide +kernel
theorem dX5_odds_77 : decode cX5_odds 77 = .ok (.iload 9, 2) := by decide +kernel
theorem dX5_odds_79 : decode cX5_odds 79 = .ok (.iload 8, 2) := by decide +kernel
theorem dX5_odds_81 : decode cX5_odds 81 = .ok (.iload 10, 2) := by decide +kernel
theorem dX5_odds_83 : decode cX5_odds 83 = .ok (.invokestatic 121, 3) := by decide +kernel
theorem dX5_odds_86 : decode cX5_odds 86 = .ok (.ifCond .eq 7, 3) := by decide +kernel
theorem dX5_odds_89 : decode cX5_odds 89 = .ok (.iload_n 3, 1) := by decide +kernel
theorem dX5_odds_90 : decode cX5_odds 90 = .ok (.goto 7, 3) := by decide +kernel
theorem dX5_odds_93 : decode cX5_odds 93 = .ok (.bipush 10, 2) := by decide +kernel
theorem dX5_odds_95 : decode cX5_odds 95 = .ok (.iload_n 3, 1) := by decide +kernel
theorem dX5_odds_96 : decode cX5_odds 96 = .ok (.isub, 1) := by decide +kernel
theorem dX5_odds_97 : decode cX5_odds 97 = .ok (.imul, 1) := by decide +kernel
theorem dX5_odds_98 : decode cX5_odds 98 = .ok (.istore 9, 2) := by decide +kernel
theorem dX5_odds_100 : decode cX5_odds 100 = .ok (.iinc 10 1, 3) := by decide +kernel
theorem dX5_odds_103 : decode cX5_odds 103 = .ok (.goto (-32), 3) := by decide +kernel
theorem dX5_odds_106 : decode cX5_odds 106 = .ok (.iload 6, 2) := by decide +kernel
theorem dX5_odds_108 : decode cX5_odds 108 = .ok (.iload 5, 2) := by decide +kernel
theorem dX5_odds_110 : decode cX5_odds 110 = .ok (.aload_n 0, 1) := by decide +kernel
theorem dX5_odds_111 : decode cX5_odds 111 = .ok (.getfield 17, 3) := by decide +kernel
theorem dX5_odds_114 : decode cX5_odds 114 = .ok (.iload_n 2, 1) := by decide +kernel
theorem dX5_odds_115 : decode cX5_odds 115 = .ok (.iload 8, 2) := by decide +kernel
theorem dX5_odds_117 : decode cX5_odds 117 = .ok (.invokestatic 153, 3) := by decide +kernel
theorem dX5_odds_120 : decode cX5_odds 120 = .ok (.iadd, 1) := by decide +kernel
theorem dX5_odds_121 : decode cX5_odds 121 = .ok (.imul, 1) := by decide +kernel
theorem dX5_odds_122 : decode cX5_odds 122 = .ok (.isub, 1) := by decide +kernel
theorem dX5_odds_123 : decode cX5_odds 123 = .ok (.ifCond .le 8, 3) := by decide +kernel
theorem dX5_odds_126 : decode cX5_odds 126 = .ok (.iload 9, 2) := by decide +kernel
theorem dX5_odds_128 : decode cX5_odds 128 = .ok (.goto 4, 3) := by decide +kernel
theorem dX5_odds_131 : decode cX5_odds 131 = .ok (.iconst 0, 1) := by decide +kernel
theorem dX5_odds_132 : decode cX5_odds 132 = .ok (.iadd, 1) := by decide +kernel
theorem dX5_odds_133 : decode cX5_odds 133 = .ok (.istore 6, 2) := by decide +kernel
theorem dX5_odds_135 : decode cX5_odds 135 = .ok (.iload 7, 2) := by decide +kernel
theorem dX5_odds_137 : decode cX5_odds 137 = .ok (.iload 9, 2) := by decide +kernel
theorem dX5_odds_139 : decode cX5_odds 139 = .ok (.iadd, 1) := by decide +kernel
theorem dX5_odds_140 : decode cX5_odds 140 = .ok (.istore 7, 2) := by decide +kernel
theorem dX5_odds_142 : decode cX5_odds 142 = .ok (.iinc 8 1, 3) := by decide +kernel
theorem dX5_odds_145 : decode cX5_odds 145 = .ok (.goto (-88), 3) := by decide +kernel
theorem dX5_odds_148 : decode cX5_odds 148 = .ok (.iload 6, 2) := by decide +kernel
theorem dX5_odds_150 : decode cX5_odds 150 = .ok (.iload 7, 2) := by decide +kernel
theorem dX5_odds_152 : decode cX5_odds 152 = .ok (.invokestatic 160, 3) := by decide +kernel
theorem dX5_odds_155 : decode cX5_odds 155 = .ok (.istore 8, 2) := by decide +kernel
theorem dX5_odds_157 : decode cX5_odds 157 = .ok (.iload 4, 2) := by decide +kernel
theorem dX5_odds_159 : decode cX5_odds 159 = .ok (.ifCond .ne 11, 3) := by decide +kernel
theorem dX5_odds_162 : decode cX5_odds 162 = .ok (.iload 6, 2) := by decide +kernel
theorem dX5_odds_164 : decode cX5_odds 164 = .ok (.iload 8, 2) := by decide +kernel
theorem dX5_odds_166 : decode cX5_odds 166 = .ok (.idiv, 1) := by decide +kernel
theorem dX5_odds_167 : decode cX5_odds 167 = .ok (.goto 8, 3) := by decide +kernel
theorem dX5_odds_170 : decode cX5_odds 170 = .ok (.iload 7, 2) := by decide +kernel
theorem dX5_odds_172 : decode cX5_odds 172 = .ok (.iload 8, 2) := by decide +kernel
theorem dX5_odds_174 : decode cX5_odds 174 = .ok (.idiv, 1) := by decide +kernel
theorem dX5_odds_175 : decode cX5_odds 175 = .ok (.ireturn, 1) := by decide +kernel
set_option maxRecDepth 20000 in
theorem ggX5_hears_X5_isPlace : GoodIn wsX5_hears wsX5_isPlace := goodIn_r _ [7, 8, 9, 10, 6, 11, 12, 13, 14, 15, 16, 17, 18, 19, 20, 21, 22, 23, 24, 25, 26, 27, 28, 29, 30, 31, 32] (by decide +kernel) (by decide +kernel)
set_option maxRecDepth 20000 in
theorem gX5_hears_X5_isPlace : GoodIn wsX5_hears (wsV RX5 138 RX5 yX5_isPlace wsX5_isPlace) := goodIn_app (goodIn_of _ (by decide +kernel)) ggX5_hears_X5_isPlace
set_option maxRecDepth 20000 in
theorem ggX5_hears_X5_in : GoodIn wsX5_hears wsX5_in := goodIn_r _ [11] (by decide +kernel) (by decide +kernel)
set_option maxRecDepth 20000 in
theorem gX5_hears_X5_in : GoodIn wsX5_hears (va_wsS RX5 39 yX5_in wsX5_in) := goodIn_app (goodIn_of _ (by decide +kernel)) ggX5_hears_X5_in
theorem dX5_hears_0 : decode cX5_hears 0 = .ok (.aload_n 0, 1) := by decide +kernel
theorem dX5_hears_1 : decode cX5_hears 1 = .ok (.iload_n 1, 1) := by decide +kernel
theorem dX5_hears_2 : decode cX5_hears 2 = .ok (.invokevirtual 138, 3) := by decide +kernel
theorem dX5_hears_5 : decode cX5_hears 5 = .ok (.ifCond .eq 22, 3) := by decide +kernel
theorem dX5_hears_8 : decode cX5_hears 8 = .ok (.iload_n 2, 1) := by decide +kernel
theorem dX5_hears_9 : decode cX5_hears 9 = .ok (.iconst 0, 1) := by decide +kernel
theorem dX5_hears_10 : decode cX5_hears 10 = .ok (.bipush 99, 2) := by decide +kernel
theorem dX5_hears_12 : decode cX5_hears 12 = .ok (.invokestatic 39, 3) := by decide +kernel
theorem dX5_hears_15 : decode cX5_hears 15 = .ok (.ifCond .eq 12, 3) := by decide +kernel
theorem dX5_hears_18 : decode cX5_hears 18 = .ok (.iload_n 3, 1) := by decide +kernel
theorem dX5_hears_19 : decode cX5_hears 19 = .ok (.iconst 0, 1) := by decide +kernel
theorem dX5_hears_20 : decode cX5_hears 20 = .ok (.iconst 1, 1) := by decide +kernel
theorem dX5_hears_21 : decode cX5_hears 21 = .ok (.invokestatic 39, 3) := by decide +kernel
theorem dX5_hears_24 : decode cX5_hears 24 = .ok (.ifCond .ne 5, 3) := by decide +kernel
theorem dX5_hears_27 : decode cX5_hears 27 = .ok (.iconst (-1), 1) := by decide +kernel
theorem dX5_hears_28 : decode cX5_hears 28 = .ok (.ireturn, 1) := by decide +kernel
theorem dX5_hears_29 : decode cX5_hears 29 = .ok (.aload_n 0, 1) := by decide +kernel
theorem dX5_hears_30 : decode cX5_hears 30 = .ok (.getfield 98, 3) := by decide +kernel
theorem dX5_hears_33 : decode cX5_hears 33 = .ok (.bipush 6, 2) := by decide +kernel
theorem dX5_hears_35 : decode cX5_hears 35 = .ok (.if_icmp .ne 6, 3) := by decide +kernel
theorem dX5_hears_38 : decode cX5_hears 38 = .ok (.bipush (-3), 2) := by decide +kernel
theorem dX5_hears_40 : decode cX5_hears 40 = .ok (.ireturn, 1) := by decide +kernel
theorem dX5_hears_41 : decode cX5_hears 41 = .ok (.aload_n 0, 1) := by decide +kernel
theorem dX5_hears_42 : decode cX5_hears 42 = .ok (.getfield 33, 3) := by decide +kernel
theorem dX5_hears_45 : decode cX5_hears 45 = .ok (.iconst 3, 1) := by decide +kernel
theorem dX5_hears_46 : decode cX5_hears 46 = .ok (.aload_n 0, 1) := by decide +kernel
theorem dX5_hears_47 : decode cX5_hears 47 = .ok (.getfield 98, 3) := by decide +kernel
theorem dX5_hears_50 : decode cX5_hears 50 = .ok (.imul, 1) := by decide +kernel
theorem dX5_hears_51 : decode cX5_hears 51 = .ok (.iload_n 1, 1) := by decide +kernel
theorem dX5_hears_52 : decode cX5_hears 52 = .ok (.iastore, 1) := by decide +kernel
theorem dX5_hears_53 : decode cX5_hears 53 = .ok (.aload_n 0, 1) := by decide +kernel
theorem dX5_hears_54 : decode cX5_hears 54 = .ok (.getfield 33, 3) := by decide +kernel
theorem dX5_hears_57 : decode cX5_hears 57 = .ok (.iconst 3, 1) := by decide +kernel
theorem dX5_hears_58 : decode cX5_hears 58 = .ok (.aload_n 0, 1) := by decide +kernel
theorem dX5_hears_59 : decode cX5_hears 59 = .ok (.getfield 98, 3) := by decide +kernel
theorem dX5_hears_62 : decode cX5_hears 62 = .ok (.imul, 1) := by decide +kernel
theorem dX5_hears_63 : decode cX5_hears 63 = .ok (.iconst 1, 1) := by decide +kernel
theorem dX5_hears_64 : decode cX5_hears 64 = .ok (.iadd, 1) := by decide +kernel
theorem dX5_hears_65 : decode cX5_hears 65 = .ok (.iload_n 2, 1) := by decide +kernel
theorem dX5_hears_66 : decode cX5_hears 66 = .ok (.iastore, 1) := by decide +kernel
theorem dX5_hears_67 : decode cX5_hears 67 = .ok (.aload_n 0, 1) := by decide +kernel
theorem dX5_hears_68 : decode cX5_hears 68 = .ok (.getfield 33, 3) := by decide +kernel
theorem dX5_hears_71 : decode cX5_hears 71 = .ok (.iconst 3, 1) := by decide +kernel
theorem dX5_hears_72 : decode cX5_hears 72 = .ok (.aload_n 0, 1) := by decide +kernel
theorem dX5_hears_73 : decode cX5_hears 73 = .ok (.getfield 98, 3) := by decide +kernel
theorem dX5_hears_76 : decode cX5_hears 76 = .ok (.imul, 1) := by decide +kernel
theorem dX5_hears_77 : decode cX5_hears 77 = .ok (.iconst 2, 1) := by decide +kernel
theorem dX5_hears_78 : decode cX5_hears 78 = .ok (.iadd, 1) := by decide +kernel
theorem dX5_hears_79 : decode cX5_hears 79 = .ok (.iload_n 3, 1) := by decide +kernel
theorem dX5_hears_80 : decode cX5_hears 80 = .ok (.iastore, 1) := by decide +kernel
theorem dX5_hears_81 : decode cX5_hears 81 = .ok (.aload_n 0, 1) := by decide +kernel
theorem dX5_hears_82 : decode cX5_hears 82 = .ok (.dup, 1) := by decide +kernel
theorem dX5_hears_83 : decode cX5_hears 83 = .ok (.getfield 98, 3) := by decide +kernel
theorem dX5_hears_86 : decode cX5_hears 86 = .ok (.iconst 1, 1) := by decide +kernel
theorem dX5_hears_87 : decode cX5_hears 87 = .ok (.iadd, 1) := by decide +kernel
theorem dX5_hears_88 : decode cX5_hears 88 = .ok (.putfield 98, 3) := by decide +kernel
theorem dX5_hears_91 : decode cX5_hears 91 = .ok (.aload_n 0, 1) := by decide +kernel
theorem dX5_hears_92 : decode cX5_hears 92 = .ok (.getfield 98, 3) := by decide +kernel
theorem dX5_hears_95 : decode cX5_hears 95 = .ok (.ireturn, 1) := by decide +kernel
theorem dX5_forget_0 : decode cX5_forget 0 = .ok (.aload_n 0, 1) := by decide +kernel
theorem dX5_forget_1 : decode cX5_forget 1 = .ok (.getfield 98, 3) := by decide +kernel
theorem dX5_forget_4 : decode cX5_forget 4 = .ok (.istore_n 1, 1) := by decide +kernel
theorem dX5_forget_5 : decode cX5_forget 5 = .ok (.aload_n 0, 1) := by decide +kernel
theorem dX5_forget_6 : decode cX5_forget 6 = .ok (.iconst 0, 1) := by decide +kernel
theorem dX5_forget_7 : decode cX5_forget 7 = .ok (.putfield 98, 3) := by decide +kernel
theorem dX5_forget_10 : decode cX5_forget 10 = .ok (.iload_n 1, 1) := by decide +kernel
theorem dX5_forget_11 : decode cX5_forget 11 = .ok (.ireturn, 1) := by decide +kernel
set_option maxRecDepth 20000 in
theorem ggX5_fits_X5_guessAt : GoodIn wsX5_fits wsX5_guessAt := goodIn_r _ [7, 8, 9, 10, 6, 11, 12, 13, 14, 15, 16, 17, 18, 19, 20, 21, 22, 23, 24, 25, 26, 27, 28, 29, 30, 31, 32, 33, 34, 35, 36, 37] (by decide +kernel) (by decide +kernel)
set_option maxRecDepth 20000 in
theorem gX5_fits_X5_guessAt : GoodIn wsX5_fits (wsV RX5 163 RX5 yX5_guessAt wsX5_guessAt) := goodIn_app (goodIn_of _ (by decide +kernel)) ggX5_fits_X5_guessAt
theorem dX5_fits_0 : decode cX5_fits 0 = .ok (.iconst 1, 1) := by decide +kernel
theorem dX5_fits_1 : decode cX5_fits 1 = .ok (.istore_n 2, 1) := by decide +kernel
theorem dX5_fits_2 : decode cX5_fits 2 = .ok (.iconst 0, 1) := by decide +kernel
theorem dX5_fits_3 : decode cX5_fits 3 = .ok (.istore_n 3, 1) := by decide +kernel
theorem dX5_fits_4 : decode cX5_fits 4 = .ok (.iload_n 3, 1) := by decide +kernel
theorem dX5_fits_5 : decode cX5_fits 5 = .ok (.aload_n 0, 1) := by decide +kernel
theorem dX5_fits_6 : decode cX5_fits 6 = .ok (.getfield 98, 3) := by decide +kernel
theorem dX5_fits_9 : decode cX5_fits 9 = .ok (.if_icmp .ge 72, 3) := by decide +kernel
theorem dX5_fits_12 : decode cX5_fits 12 = .ok (.iload_n 2, 1) := by decide +kernel
theorem dX5_fits_13 : decode cX5_fits 13 = .ok (.ifCond .eq 60, 3) := by decide +kernel
theorem dX5_fits_16 : decode cX5_fits 16 = .ok (.aload_n 0, 1) := by decide +kernel
theorem dX5_fits_17 : decode cX5_fits 17 = .ok (.iload_n 1, 1) := by decide +kernel
theorem dX5_fits_18 : decode cX5_fits 18 = .ok (.aload_n 0, 1) := by decide +kernel
theorem dX5_fits_19 : decode cX5_fits 19 = .ok (.getfield 33, 3) := by decide +kernel
theorem dX5_fits_22 : decode cX5_fits 22 = .ok (.iconst 3, 1) := by decide +kernel
theorem dX5_fits_23 : decode cX5_fits 23 = .ok (.iload_n 3, 1) := by decide +kernel
theorem dX5_fits_24 : decode cX5_fits 24 = .ok (.imul, 1) := by decide +kernel
theorem dX5_fits_25 : decode cX5_fits 25 = .ok (.iconst 1, 1) := by decide +kernel
theorem dX5_fits_26 : decode cX5_fits 26 = .ok (.iadd, 1) := by decide +kernel
theorem dX5_fits_27 : decode cX5_fits 27 = .ok (.iaload, 1) := by decide +kernel
theorem dX5_fits_28 : decode cX5_fits 28 = .ok (.invokevirtual 163, 3) := by decide +kernel
theorem dX5_fits_31 : decode cX5_fits 31 = .ok (.aload_n 0, 1) := by decide +kernel
theorem dX5_fits_32 : decode cX5_fits 32 = .ok (.getfield 33, 3) := by decide +kernel
theorem dX5_fits_35 : decode cX5_fits 35 = .ok (.iconst 3, 1) := by decide +kernel
theorem dX5_fits_36 : decode cX5_fits 36 = .ok (.iload_n 3, 1) := by decide +kernel
theorem dX5_fits_37 : decode cX5_fits 37 = .ok (.imul, 1) := by decide +kernel
theorem dX5_fits_38 : decode cX5_fits 38 = .ok (.iaload, 1) := by decide +kernel
theorem dX5_fits_39 : decode cX5_fits 39 = .ok (.if_icmp .ne 7, 3) := by decide +kernel
theorem dX5_fits_42 : decode cX5_fits 42 = .ok (.iconst 1, 1) := by decide +kernel
theorem dX5_fits_43 : decode cX5_fits 43 = .ok (.goto 4, 3) := by decide +kernel
theorem dX5_fits_46 : decode cX5_fits 46 = .ok (.iconst 0, 1) := by decide +kernel
theorem dX5_fits_47 : decode cX5_fits 47 = .ok (.aload_n 0, 1) := by decide +kernel
theorem dX5_fits_48 : decode cX5_fits 48 = .ok (.getfield 33, 3) := by decide +kernel
theorem dX5_fits_51 : decode cX5_fits 51 = .ok (.iconst 3, 1) := by decide +kernel
theorem dX5_fits_52 : decode cX5_fits 52 = .ok (.iload_n 3, 1) := by decide +kernel
theorem dX5_fits_53 : decode cX5_fits 53 = .ok (.imul, 1) := by decide +kernel
theorem dX5_fits_54 : decode cX5_fits 54 = .ok (.iconst 2, 1) := by decide +kernel
theorem dX5_fits_55 : decode cX5_fits 55 = .ok (.iadd, 1) := by decide +kernel
theorem dX5_fits_56 : decode cX5_fits 56 = .ok (.iaload, 1) := by decide +kernel
theorem dX5_fits_57 : decode cX5_fits 57 = .ok (.iconst 1, 1) := by decide +kernel
theorem dX5_fits_58 : decode cX5_fits 58 = .ok (.if_icmp .ne 7, 3) := by decide +kernel
theorem dX5_fits_61 : decode cX5_fits 61 = .ok (.iconst 1, 1) := by decide +kernel
theorem dX5_fits_62 : decode cX5_fits 62 = .ok (.goto 4, 3) := by decide +kernel
theorem dX5_fits_65 : decode cX5_fits 65 = .ok (.iconst 0, 1) := by decide +kernel
theorem dX5_fits_66 : decode cX5_fits 66 = .ok (.if_icmp .ne 7, 3) := by decide +kernel
theorem dX5_fits_69 : decode cX5_fits 69 = .ok (.iconst 1, 1) := by decide +kernel
theorem dX5_fits_70 : decode cX5_fits 70 = .ok (.goto 4, 3) := by decide +kernel
theorem dX5_fits_73 : decode cX5_fits 73 = .ok (.iconst 0, 1) := by decide +kernel
theorem dX5_fits_74 : decode cX5_fits 74 = .ok (.istore_n 2, 1) := by decide +kernel
theorem dX5_fits_75 : decode cX5_fits 75 = .ok (.iinc 3 1, 3) := by decide +kernel
theorem dX5_fits_78 : decode cX5_fits 78 = .ok (.goto (-74), 3) := by decide +kernel
theorem dX5_fits_81 : decode cX5_fits 81 = .ok (.iload_n 2, 1) := by decide +kernel
theorem dX5_fits_82 : decode cX5_fits 82 = .ok (.ireturn, 1) := by decide +kernel
set_option maxRecDepth 20000 in
theorem ggX5_guessAt_X5_placeBy : GoodIn wsX5_guessAt wsX5_placeBy := goodIn_r _ [5, 6, 7, 8, 4, 9, 10, 11, 12, 13, 14, 15, 16, 17, 18, 19, 20, 21, 22, 23, 24, 25, 26, 27, 28, 29, 30, 31] (by decide +kernel) (by decide +kernel)
set_option maxRecDepth 20000 in
theorem gX5_guessAt_X5_placeBy : GoodIn wsX5_guessAt (wsV RX5 108 RX5 yX5_placeBy wsX5_placeBy) := goodIn_app (goodIn_of _ (by decide +kernel)) ggX5_guessAt_X5_placeBy
theorem dX5_guessAt_0 : decode cX5_guessAt 0 = .ok (.aload_n 0, 1) := by decide +kernel
theorem dX5_guessAt_1 : decode cX5_guessAt 1 = .ok (.iload_n 1, 1) := by decide +kernel
theorem dX5_guessAt_2 : decode cX5_guessAt 2 = .ok (.bipush 12, 2) := by decide +kernel
theorem dX5_guessAt_4 : decode cX5_guessAt 4 = .ok (.idiv, 1) := by decide +kernel
theorem dX5_guessAt_5 : decode cX5_guessAt 5 = .ok (.iload_n 1, 1) := by decide +kernel
theorem dX5_guessAt_6 : decode cX5_guessAt 6 = .ok (.iconst 2, 1) := by decide +kernel
theorem dX5_guessAt_7 : decode cX5_guessAt 7 = .ok (.idiv, 1) := by decide +kernel
theorem dX5_guessAt_8 : decode cX5_guessAt 8 = .ok (.bipush 6, 2) := by decide +kernel
theorem dX5_guessAt_10 : decode cX5_guessAt 10 = .ok (.irem, 1) := by decide +kernel
theorem dX5_guessAt_11 : decode cX5_guessAt 11 = .ok (.iconst 1, 1) := by decide +kernel
theorem dX5_guessAt_12 : decode cX5_guessAt 12 = .ok (.iadd, 1) := by decide +kernel
theorem dX5_guessAt_13 : decode cX5_guessAt 13 = .ok (.iload_n 1, 1) := by decide +kernel
theorem dX5_guessAt_14 : decode cX5_guessAt 14 = .ok (.iconst 2, 1) := by decide +kernel
theorem dX5_guessAt_15 : decode cX5_guessAt 15 = .ok (.irem, 1) := by decide +kernel
theorem dX5_guessAt_16 : decode cX5_guessAt 16 = .ok (.iload_n 2, 1) := by decide +kernel
theorem dX5_guessAt_17 : decode cX5_guessAt 17 = .ok (.invokevirtual 108, 3) := by decide +kernel
theorem dX5_guessAt_20 : decode cX5_guessAt 20 = .ok (.ireturn, 1) := by decide +kernel
set_option maxRecDepth 20000 in
theorem ggX5_guesses_X5_in : GoodIn wsX5_guesses wsX5_in := goodIn_r _ [5] (by decide +kernel) (by decide +kernel)
set_option maxRecDepth 20000 in
theorem gX5_guesses_X5_in : GoodIn wsX5_guesses (va_wsS RX5 39 yX5_in wsX5_in) := goodIn_app (goodIn_of _ (by decide +kernel)) ggX5_guesses_X5_in
set_option maxRecDepth 20000 in
theorem ggX5_guesses_X5_fits : GoodIn wsX5_guesses wsX5_fits := goodIn_r _ [9, 10, 11, 12, 13, 14, 4, 15, 16, 17, 18, 19, 20, 21, 22, 23, 1, 24, 25, 26, 27, 28, 29, 30, 31, 32, 33, 34, 35, 36, 37, 38, 39, 40, 41, 42, 43, 44] (by decide +kernel) (by decide +kernel)
set_option maxRecDepth 20000 in
theorem gX5_guesses_X5_fits : GoodIn wsX5_guesses (wsV RX5 166 RX5 yX5_fits wsX5_fits) := goodIn_app (goodIn_of _ (by decide +kernel)) ggX5_guesses_X5_fits
theorem dX5_guesses_0 : decode cX5_guesses 0 = .ok (.iload_n 1, 1) := by decide +kernel
theorem dX5_guesses_1 : decode cX5_guesses 1 = .ok (.iconst 0, 1) := by decide +kernel
theorem dX5_guesses_2 : decode cX5_guesses 2 = .ok (.iconst 1, 1) := by decide +kernel
theorem dX5_guesses_3 : decode cX5_guesses 3 = .ok (.invokestatic 39, 3) := by decide +kernel
theorem dX5_guesses_6 : decode cX5_guesses 6 = .ok (.ifCond .ne 5, 3) := by decide +kernel
theorem dX5_guesses_9 : decode cX5_guesses 9 = .ok (.iconst (-1), 1) := by decide +kernel
theorem dX5_guesses_10 : decode cX5_guesses 10 = .ok (.ireturn, 1) := by decide +kernel
theorem dX5_guesses_11 : decode cX5_guesses 11 = .ok (.iconst 0, 1) := by decide +kernel
theorem dX5_guesses_12 : decode cX5_guesses 12 = .ok (.istore_n 2, 1) := by decide +kernel
theorem dX5_guesses_13 : decode cX5_guesses 13 = .ok (.bipush (-9), 2) := by decide +kernel
theorem dX5_guesses_15 : decode cX5_guesses 15 = .ok (.istore_n 3, 1) := by decide +kernel
theorem dX5_guesses_16 : decode cX5_guesses 16 = .ok (.bipush 12, 2) := by decide +kernel
theorem dX5_guesses_18 : decode cX5_guesses 18 = .ok (.aload_n 0, 1) := by decide +kernel
theorem dX5_guesses_19 : decode cX5_guesses 19 = .ok (.getfield 13, 3) := by decide +kernel
theorem dX5_guesses_22 : decode cX5_guesses 22 = .ok (.imul, 1) := by decide +kernel
theorem dX5_guesses_23 : decode cX5_guesses 23 = .ok (.iconst 1, 1) := by decide +kernel
theorem dX5_guesses_24 : decode cX5_guesses 24 = .ok (.isub, 1) := by decide +kernel
theorem dX5_guesses_25 : decode cX5_guesses 25 = .ok (.istore 4, 2) := by decide +kernel
theorem dX5_guesses_27 : decode cX5_guesses 27 = .ok (.iload 4, 2) := by decide +kernel
theorem dX5_guesses_29 : decode cX5_guesses 29 = .ok (.ifCond .lt 48, 3) := by decide +kernel
theorem dX5_guesses_32 : decode cX5_guesses 32 = .ok (.aload_n 0, 1) := by decide +kernel
theorem dX5_guesses_33 : decode cX5_guesses 33 = .ok (.iload 4, 2) := by decide +kernel
theorem dX5_guesses_35 : decode cX5_guesses 35 = .ok (.invokevirtual 166, 3) := by decide +kernel
theorem dX5_guesses_38 : decode cX5_guesses 38 = .ok (.ifCond .eq 33, 3) := by decide +kernel
theorem dX5_guesses_41 : decode cX5_guesses 41 = .ok (.iinc 2 1, 3) := by decide +kernel
theorem dX5_guesses_44 : decode cX5_guesses 44 = .ok (.bipush 100, 2) := by decide +kernel
theorem dX5_guesses_46 : decode cX5_guesses 46 = .ok (.iload 4, 2) := by decide +kernel
theorem dX5_guesses_48 : decode cX5_guesses 48 = .ok (.bipush 12, 2) := by decide +kernel
theorem dX5_guesses_50 : decode cX5_guesses 50 = .ok (.idiv, 1) := by decide +kernel
theorem dX5_guesses_51 : decode cX5_guesses 51 = .ok (.imul, 1) := by decide +kernel
theorem dX5_guesses_52 : decode cX5_guesses 52 = .ok (.bipush 10, 2) := by decide +kernel
theorem dX5_guesses_54 : decode cX5_guesses 54 = .ok (.iload 4, 2) := by decide +kernel
theorem dX5_guesses_56 : decode cX5_guesses 56 = .ok (.iconst 2, 1) := by decide +kernel
theorem dX5_guesses_57 : decode cX5_guesses 57 = .ok (.idiv, 1) := by decide +kernel
theorem dX5_guesses_58 : decode cX5_guesses 58 = .ok (.bipush 6, 2) := by decide +kernel
theorem dX5_guesses_60 : decode cX5_guesses 60 = .ok (.irem, 1) := by decide +kernel
theorem dX5_guesses_61 : decode cX5_guesses 61 = .ok (.iconst 1, 1) := by decide +kernel
theorem dX5_guesses_62 : decode cX5_guesses 62 = .ok (.iadd, 1) := by decide +kernel
theorem dX5_guesses_63 : decode cX5_guesses 63 = .ok (.imul, 1) := by decide +kernel
theorem dX5_guesses_64 : decode cX5_guesses 64 = .ok (.iadd, 1) := by decide +kernel
theorem dX5_guesses_65 : decode cX5_guesses 65 = .ok (.iload 4, 2) := by decide +kernel
theorem dX5_guesses_67 : decode cX5_guesses 67 = .ok (.iconst 2, 1) := by decide +kernel
theorem dX5_guesses_68 : decode cX5_guesses 68 = .ok (.irem, 1) := by decide +kernel
theorem dX5_guesses_69 : decode cX5_guesses 69 = .ok (.iadd, 1) := by decide +kernel
theorem dX5_guesses_70 : decode cX5_guesses 70 = .ok (.istore_n 3, 1) := by decide +kernel
theorem dX5_guesses_71 : decode cX5_guesses 71 = .ok (.iinc 4 (-1), 3) := by decide +kernel
theorem dX5_guesses_74 : decode cX5_guesses 74 = .ok (.goto (-47), 3) := by decide +kernel
theorem dX5_guesses_77 : decode cX5_guesses 77 = .ok (.iload_n 1, 1) := by decide +kernel
theorem dX5_guesses_78 : decode cX5_guesses 78 = .ok (.ifCond .ne 7, 3) := by decide +kernel
theorem dX5_guesses_81 : decode cX5_guesses 81 = .ok (.iload_n 2, 1) := by decide +kernel
theorem dX5_guesses_82 : decode cX5_guesses 82 = .ok (.goto 4, 3) := by decide +kernel
theorem dX5_guesses_85 : decode cX5_guesses 85 = .ok (.iload_n 3, 1) := by decide +kernel
theorem dX5_guesses_86 : decode cX5_guesses 86 = .ok (.ireturn, 1) := by decide +kernel
set_option maxRecDepth 20000 in
theorem ggX5_ask_X5_in : GoodIn wsX5_ask wsX5_in := goodIn_r _ [5] (by decide +kernel) (by decide +kernel)
set_option maxRecDepth 20000 in
theorem gX5_ask_X5_in : GoodIn wsX5_ask (va_wsS RX5 39 yX5_in wsX5_in) := goodIn_app (goodIn_of _ (by decide +kernel)) ggX5_ask_X5_in
set_option maxRecDepth 20000 in
theorem ggX5_ask_X5_guesses : GoodIn wsX5_ask wsX5_guesses := goodIn_r _ [9, 1, 2, 3, 4, 5, 10, 11, 12, 13, 14, 15, 16, 17, 18, 19, 20, 21, 22, 23, 24, 25, 26, 27, 28, 29, 30, 31, 32, 33, 34, 35, 36, 37, 38, 39, 40, 41, 42, 43, 44, 45, 46, 47, 48] (by decide +kernel) (by decide +kernel)
set_option maxRecDepth 20000 in
theorem gX5_ask_X5_guesses : GoodIn wsX5_ask (wsV RX5 169 RX5 yX5_guesses wsX5_guesses) := goodIn_app (goodIn_of _ (by decide +kernel)) ggX5_ask_X5_guesses
set_option maxRecDepth 20000 in
theorem ggX5_ask_X5_fits : GoodIn wsX5_ask wsX5_fits := goodIn_r _ [13, 14, 15, 16, 17, 18, 4, 19, 20, 21, 22, 23, 24, 25, 26, 27, 1, 28, 29, 30, 31, 32, 33, 34, 35, 36, 37, 38, 39, 40, 41, 42, 43, 44, 45, 46, 47, 48] (by decide +kernel) (by decide +kernel)
set_option maxRecDepth 20000 in
theorem gX5_ask_X5_fits : GoodIn wsX5_ask (wsV RX5 166 RX5 yX5_fits wsX5_fits) := goodIn_app (goodIn_of _ (by decide +kernel)) ggX5_ask_X5_fits
set_option maxRecDepth 20000 in
theorem ggX5_ask_X5_guessAt : GoodIn wsX5_ask wsX5_guessAt := goodIn_r _ [19, 20, 21, 22, 4, 23, 24, 25, 26, 27, 1, 28, 29, 30, 31, 32, 33, 34, 35, 36, 37, 38, 39, 40, 41, 42, 43, 44, 45, 46, 47, 48] (by decide +kernel) (by decide +kernel)
end
section
theorem dJ6_bitCount_0f7a4_0 : decode cJ6_bitCount_0f7a4 0 = .ok (.iload_n 0, 1) := by decide +kernel
theorem dJ6_bitCount_0f7a4_1 : decode cJ6_bitCount_0f7a4 1 = .ok (.iload_n 0, 1) := by decide +kernel
theorem dJ6_bitCount_0f7a4_2 : decode cJ6_bitCount_0f7a4 2 = .ok (.iconst 1, 1) := by decide +kernel
theorem dJ6_bitCount_0f7a4_3 : decode cJ6_bitCount_0f7a4 3 = .ok (.iushr, 1) := by decide +kernel
theorem dJ6_bitCount_0f7a4_4 : decode cJ6_bitCount_0f7a4 4 = .ok (.ldc_w 265, 3) := by decide +kernel
theorem dJ6_bitCount_0f7a4_7 : decode cJ6_bitCount_0f7a4 7 = .ok (.iand, 1) := by decide +kernel
theorem dJ6_bitCount_0f7a4_8 : decode cJ6_bitCount_0f7a4 8 = .ok (.isub, 1) := by decide +kernel
theorem dJ6_bitCount_0f7a4_9 : decode cJ6_bitCount_0f7a4 9 = .ok (.istore_n 0, 1) := by decide +kernel
theorem dJ6_bitCount_0f7a4_10 : decode cJ6_bitCount_0f7a4 10 = .ok (.iload_n 0, 1) := by decide +kernel
theorem dJ6_bitCount_0f7a4_11 : decode cJ6_bitCount_0f7a4 11 = .ok (.ldc_w 266, 3) := by decide +kernel
theorem dJ6_bitCount_0f7a4_14 : decode cJ6_bitCount_0f7a4 14 = .ok (.iand, 1) := by decide +kernel
theorem dJ6_bitCount_0f7a4_15 : decode cJ6_bitCount_0f7a4 15 = .ok (.iload_n 0, 1) := by decide +kernel
theorem dJ6_bitCount_0f7a4_16 : decode cJ6_bitCount_0f7a4 16 = .ok (.iconst 2, 1) := by decide +kernel
theorem dJ6_bitCount_0f7a4_17 : decode cJ6_bitCount_0f7a4 17 = .ok (.iushr, 1) := by decide +kernel
theorem dJ6_bitCount_0f7a4_18 : decode cJ6_bitCount_0f7a4 18 = .ok (.ldc_w 266, 3) := by decide +kernel
theorem dJ6_bitCount_0f7a4_21 : decode cJ6_bitCount_0f7a4 21 = .ok (.iand, 1) := by decide +kernel
theorem dJ6_bitCount_0f7a4_22 : decode cJ6_bitCount_0f7a4 22 = .ok (.iadd, 1) := by decide +kernel
theorem dJ6_bitCount_0f7a4_23 : decode cJ6_bitCount_0f7a4 23 = .ok (.istore_n 0, 1) := by decide +kernel
theorem dJ6_bitCount_0f7a4_24 : decode cJ6_bitCount_0f7a4 24 = .ok (.iload_n 0, 1) := by decide +kernel
theorem dJ6_bitCount_0f7a4_25 : decode cJ6_bitCount_0f7a4 25 = .ok (.iload_n 0, 1) := by decide +kernel
theorem dJ6_bitCount_0f7a4_26 : decode cJ6_bitCount_0f7a4 26 = .ok (.iconst 4, 1) := by decide +kernel
theorem dJ6_bitCount_0f7a4_27 : decode cJ6_bitCount_0f7a4 27 = .ok (.iushr, 1) := by decide +kernel
theorem dJ6_bitCount_0f7a4_28 : decode cJ6_bitCount_0f7a4 28 = .ok (.iadd, 1) := by decide +kernel
theorem dJ6_bitCount_0f7a4_29 : decode cJ6_bitCount_0f7a4 29 = .ok (.ldc_w 267, 3) := by decide +kernel
theorem dJ6_bitCount_0f7a4_32 : decode cJ6_bitCount_0f7a4 32 = .ok (.iand, 1) := by decide +kernel
theorem dJ6_bitCount_0f7a4_33 : decode cJ6_bitCount_0f7a4 33 = .ok (.istore_n 0, 1) := by decide +kernel
theorem dJ6_bitCount_0f7a4_34 : decode cJ6_bitCount_0f7a4 34 = .ok (.iload_n 0, 1) := by decide +kernel
theorem dJ6_bitCount_0f7a4_35 : decode cJ6_bitCount_0f7a4 35 = .ok (.iload_n 0, 1) := by decide +kernel
theorem dJ6_bitCount_0f7a4_36 : decode cJ6_bitCount_0f7a4 36 = .ok (.bipush 8, 2) := by decide +kernel
theorem dJ6_bitCount_0f7a4_38 : decode cJ6_bitCount_0f7a4 38 = .ok (.iushr, 1) := by decide +kernel
theorem dJ6_bitCount_0f7a4_39 : decode cJ6_bitCount_0f7a4 39 = .ok (.iadd, 1) := by decide +kernel
theorem dJ6_bitCount_0f7a4_40 : decode cJ6_bitCount_0f7a4 40 = .ok (.istore_n 0, 1) := by decide +kernel
theorem dJ6_bitCount_0f7a4_41 : decode cJ6_bitCount_0f7a4 41 = .ok (.iload_n 0, 1) := by decide +kernel
theorem dJ6_bitCount_0f7a4_42 : decode cJ6_bitCount_0f7a4 42 = .ok (.iload_n 0, 1) := by decide +kernel
theorem dJ6_bitCount_0f7a4_43 : decode cJ6_bitCount_0f7a4 43 = .ok (.bipush 16, 2) := by decide +kernel
theorem dJ6_bitCount_0f7a4_45 : decode cJ6_bitCount_0f7a4 45 = .ok (.iushr, 1) := by decide +kernel
theorem dJ6_bitCount_0f7a4_46 : decode cJ6_bitCount_0f7a4 46 = .ok (.iadd, 1) := by decide +kernel
theorem dJ6_bitCount_0f7a4_47 : decode cJ6_bitCount_0f7a4 47 = .ok (.istore_n 0, 1) := by decide +kernel
theorem dJ6_bitCount_0f7a4_48 : decode cJ6_bitCount_0f7a4 48 = .ok (.iload_n 0, 1) := by decide +kernel
theorem dJ6_bitCount_0f7a4_49 : decode cJ6_bitCount_0f7a4 49 = .ok (.bipush 63, 2) := by decide +kernel
theorem dJ6_bitCount_0f7a4_51 : decode cJ6_bitCount_0f7a4 51 = .ok (.iand, 1) := by decide +kernel
theorem dJ6_bitCount_0f7a4_52 : decode cJ6_bitCount_0f7a4 52 = .ok (.ireturn, 1) := by decide +kernel
theorem dJ9_floorMod_7cf53_0 : decode cJ9_floorMod_7cf53 0 = .ok (.iload_n 0, 1) := by decide +kernel
theorem dJ9_floorMod_7cf53_1 : decode cJ9_floorMod_7cf53 1 = .ok (.iload_n 1, 1) := by decide +kernel
theorem dJ9_floorMod_7cf53_2 : decode cJ9_floorMod_7cf53 2 = .ok (.irem, 1) := by decide +kernel
theorem dJ9_floorMod_7cf53_3 : decode cJ9_floorMod_7cf53 3 = .ok (.istore_n 2, 1) := by decide +kernel
theorem dJ9_floorMod_7cf53_4 : decode cJ9_floorMod_7cf53 4 = .ok (.iload_n 0, 1) := by decide +kernel
theorem dJ9_floorMod_7cf53_5 : decode cJ9_floorMod_7cf53 5 = .ok (.iload_n 1, 1) := by decide +kernel
theorem dJ9_floorMod_7cf53_6 : decode cJ9_floorMod_7cf53 6 = .ok (.ixor, 1) := by decide +kernel
theorem dJ9_floorMod_7cf53_7 : decode cJ9_floorMod_7cf53 7 = .ok (.ifCond .ge 11, 3) := by decide +kernel
theorem dJ9_floorMod_7cf53_10 : decode cJ9_floorMod_7cf53 10 = .ok (.iload_n 2, 1) := by decide +kernel
theorem dJ9_floorMod_7cf53_11 : decode cJ9_floorMod_7cf53 11 = .ok (.ifCond .eq 7, 3) := by decide +kernel
theorem dJ9_floorMod_7cf53_14 : decode cJ9_floorMod_7cf53 14 = .ok (.iload_n 2, 1) := by decide +kernel
theorem dJ9_floorMod_7cf53_15 : decode cJ9_floorMod_7cf53 15 = .ok (.iload_n 1, 1) := by decide +kernel
theorem dJ9_floorMod_7cf53_16 : decode cJ9_floorMod_7cf53 16 = .ok (.iadd, 1) := by decide +kernel
theorem dJ9_floorMod_7cf53_17 : decode cJ9_floorMod_7cf53 17 = .ok (.ireturn, 1) := by decide +kernel
theorem dJ9_floorMod_7cf53_18 : decode cJ9_floorMod_7cf53 18 = .ok (.iload_n 2, 1) := by decide +kernel
theorem dJ9_floorMod_7cf53_19 : decode cJ9_floorMod_7cf53 19 = .ok (.ireturn, 1) := by decide +kernel
theorem dJ9_max_7cf53_0 : decode cJ9_max_7cf53 0 = .ok (.iload_n 0, 1) := by decide +kernel
theorem dJ9_max_7cf53_1 : decode cJ9_max_7cf53 1 = .ok (.iload_n 1, 1) := by decide +kernel
theorem dJ9_max_7cf53_2 : decode cJ9_max_7cf53 2 = .ok (.if_icmp .lt 7, 3) := by decide +kernel
theorem dJ9_max_7cf53_5 : decode cJ9_max_7cf53 5 = .ok (.iload_n 0, 1) := by decide +kernel
theorem dJ9_max_7cf53_6 : decode cJ9_max_7cf53 6 = .ok (.goto 4, 3) := by decide +kernel
theorem dJ9_max_7cf53_9 : decode cJ9_max_7cf53 9 = .ok (.iload_n 1, 1) := by decide +kernel
theorem dJ9_max_7cf53_10 : decode cJ9_max_7cf53 10 = .ok (.ireturn, 1) := by decide +kernel
end
section
/-! ===== base: what every contract here is made of ===== -/
abbrev gG : Type := va_G × ClassId × ClassId × ClassId
abbrev gTys (G : gG) : List (ClassId × FieldType) := [(G.2.1, .int), (G.2.2.1, .boolean), (G.2.2.2, .object RX2)]
/-- what is known of the tables at every state -/
def gK (G : gG) (U : State) : Prop := va_K G.1 vwCl (gTys G) U ∧ va_Nw (.methodLinkNest RX0 38 yX4_within RX4) U ∧ va_Nw (.methodLinkNest RX3 90 yX4_within RX4) U
theorem gK.calling {G : gG} {U : State} (g : JFrame) (mk : MethodId) (a : Array Value) (h : gK G U) : gK G (U.calling g mk a) :=
  ⟨va_K.moved (u := U) (U := U.calling g mk a) (Vm.Alike.refl U.vm) h.1, va_Nw.same (U := U.calling g mk a) rfl rfl h.2.1, va_Nw.same (U := U.calling g mk a) rfl rfl h.2.2⟩
theorem gK.warm {G : gG} {s U : State} (hW : s.WarmedH U.vm) (h : gK G s) : gK G U := ⟨va_K.moved hW.alike h.1, va_Nw.warmM hW h.2.1, va_Nw.warmM hW h.2.2⟩
def bI (b : Bool) : Int32 := if b then 1 else 0
theorem bI_0 {b : Bool} (h : bI b = 0) : b = false := by cases b; rfl; exact absurd h (by decide)
theorem bI_1 {b : Bool} (h : ¬ bI b = 0) : b = true := by cases b; exact absurd rfl h; rfl
theorem bI_nar (b : Bool) : narrow .boolean (.int (bI b)) = .int (bI b) := by cases b <;> rfl
abbrev gRm (d : Nat) : Room := { frames := d, cells := 0, slots := 0, locals := 40 * d }
/-- a method that only reads the cells cs, and answers r -/
def gRd (l : Launch) (y : MethodName) (ws : List Cond) (d : Nat) (G : gG) (av : List Value) (cs : va_W) (r : Int32) : Prop :=
  Met l y ws (gRm d) (va_Pc av (fun U => va_P G.1 vwCl cs U.heap ∧ gK G U)) (vp_Si (fun x => x = r)) 0 0 (fun _ => False)
theorem g_rd {l : Launch} {y : MethodName} {ws ws' : List Cond} {d : Nat} {G : gG} {av : List Value} {cs : va_W} {r : Int32} {cc : ByteArray} {maxL : Nat} {ret : Option FieldType} (hy : plainName y.cls = true) (hw : ws = Cond.code y cc maxL ret :: ws') (hlen : (lg_sl av).length ≤ maxL)
    (body : ∀ (p : Program) (e : Env) (s : State) (m : MethodId) (below : List Frame) (meth : Method) (c : Code), p.tables.exec = Jvm.exec → c.code = cc → meth.sig.returnType = ret → c.maxLocals = maxL → s.vm.findClass y.cls = some m.cls → (∀ w ∈ ws, w.before av.toArray s = true) → meth.locks = false → va_P G.1 vwCl cs s.heap → gK G s → ∀ ls : Array Slot, lv_has ls maxL (lv_args 0 av) →
      W p l e (gRm d) s m av.toArray below meth c s.heap [] 0 0 (MQ below (vp_Si (fun x => x = r)) av.toArray s 0 0 (fun _ => False)) (F0 m 0 ls [])) : gRd l y ws d G av cs r := by
  refine Met.ofW (cc := cc) (maxL := maxL) (ret := ret) hy hw ?_
  intro p e s m args below meth c s₁ B hml hv
  obtain ⟨rfl, hP, hK⟩ := hv
  rw [lg_entry_eq]
  exact body p e s m below meth c B.exec B.bytes B.returns hml (findClass_of_methodNamed B.named) (atoms_spec (ws := ws) B.pre) B.notSynchronized hP hK _ (lv_entry av hlen)
/-! ways of a writer -/
def gAd (cs : va_W) : Nat → Prop := fun q => q ∈ cs.map Prod.fst
def gQ (G : gG) (cs cs' : va_W) (ov : Option Value) : Array Value → State → Outcome → State → Prop := fun _ st oc t => oc = .returned ov ∧ va_P G.1 vwCl cs' t.heap ∧ va_F (gAd cs) st t
/-- a method that turns the cells cs into cs', and answers ov -/
def gWr (l : Launch) (y : MethodName) (ws : List Cond) (d : Nat) (G : gG) (av : List Value) (cs cs' : va_W) (ov : Option Value) : Prop :=
  Met l y ws (gRm d) (va_Pc av (fun U => va_P G.1 vwCl cs U.heap ∧ gK G U ∧ va_D (fun _ => True) cs)) (gQ G cs cs' ov) 0 0 (gAd cs)
theorem gD_ad {cs : va_W} {B : Nat → Prop} (h : va_D B cs) : va_D (gAd cs) cs := ⟨h.1, fun k q hk => List.mem_map.mpr ⟨q, List.mem_of_getElem? hk, rfl⟩⟩
theorem gD_same {A : Nat → Prop} {ws ws' : va_W} (e : ws'.map Prod.fst = ws.map Prod.fst) (h : va_D A ws) : va_D A ws' := by
  have key : ∀ (k : Nat) (q : Nat × va_E), ws'[k]? = some q → ∃ e2, ws[k]? = some (q.1, e2) := by
    intro k q hk
    have h1 : (ws'.map Prod.fst)[k]? = some q.1 := by rw [List.getElem?_map, hk]; rfl
    rw [e, List.getElem?_map] at h1
    cases hi : ws[k]? with
    | none => rw [hi] at h1; cases h1
    | some x =>
      rw [hi] at h1
      exact ⟨x.2, by rw [← Option.some.inj h1]⟩
  refine ⟨fun i j p q hi hj hpq => ?_, fun k q hk => ?_⟩
  · obtain ⟨e1, h1⟩ := key i p hi
    obtain ⟨e2, h2⟩ := key j q hj
    exact h.1 i j _ _ h1 h2 hpq
  · obtain ⟨e1, h1⟩ := key k q hk
    exact h.2 k (q.1, e1) h1
theorem g_wr {l : Launch} {y : MethodName} {ws ws' : List Cond} {d : Nat} {G : gG} {av : List Value} {cs cs' : va_W} {ov : Option Value} {cc : ByteArray} {maxL : Nat} {ret : Option FieldType} (hy : plainName y.cls = true) (hw : ws = Cond.code y cc maxL ret :: ws') (hlen : (lg_sl av).length ≤ maxL)
    (body : ∀ (p : Program) (e : Env) (s : State) (m : MethodId) (below : List Frame) (meth : Method) (c : Code), p.tables.exec = Jvm.exec → c.code = cc → meth.sig.returnType = ret → c.maxLocals = maxL → s.vm.findClass y.cls = some m.cls → (∀ w ∈ ws, w.before av.toArray s = true) → meth.locks = false → gK G s → ∀ A : Nat → Prop, A = gAd cs → va_P G.1 vwCl cs s.heap → va_D A cs → va_S A s.heap s.heap [] → ∀ ls : Array Slot, lv_has ls maxL (lv_args 0 av) →
      W p l e (gRm d) s m av.toArray below meth c s.heap [] 0 0 (MQ below (gQ G cs cs' ov) av.toArray s 0 0 (gAd cs)) (F0 m 0 ls [])) : gWr l y ws d G av cs cs' ov := by
  refine Met.ofW (cc := cc) (maxL := maxL) (ret := ret) hy hw ?_
  intro p e s m args below meth c s₁ B hml hv
  obtain ⟨rfl, hP, hK, hD⟩ := hv
  rw [lg_entry_eq]
  exact body p e s m below meth c B.exec B.bytes B.returns hml (findClass_of_methodNamed B.named) (atoms_spec (ws := ws) B.pre) B.notSynchronized hK _ rfl hP (gD_ad hD) va_S.rf _ (lv_entry av hlen)
/-- a world with some of its cells changed, by their places -/
def gMg : va_W → List Nat → va_W → va_W
  | ws, i :: is, q :: qs => gMg (ws.set i q) is qs
  | ws, [], _ => ws
  | ws, _, [] => ws
theorem gMg_get : ∀ (is : List Nat) (qs : va_W) (ws : va_W) (k : Nat) (q : Nat × va_E), is.length = qs.length → (gMg ws is qs)[k]? = some q → (∃ j : Nat, is[j]? = some k ∧ qs[j]? = some q) ∨ (ws[k]? = some q ∧ k ∉ is)
  | [], qs, ws, k, q, _, h => by
    refine Or.inr ⟨?_, List.not_mem_nil⟩
    cases qs <;> exact h
  | i :: is, [], ws, k, q, hl, h => by cases hl
  | i :: is, c :: qs, ws, k, q, hl, h => by
    have h : (gMg (ws.set i c) is qs)[k]? = some q := h
    rcases gMg_get is qs (ws.set i c) k q (Nat.succ.inj hl) h with ⟨j, h1, h2⟩ | ⟨h1, h2⟩
    · exact Or.inl ⟨j + 1, h1, h2⟩
    · by_cases e : i = k
      · subst e
        rw [List.getElem?_set_self' ] at h1
        cases hw : ws[i]? with
        | none => rw [hw] at h1; cases h1
        | some x =>
          rw [hw] at h1
          exact Or.inl ⟨0, rfl, by rw [← Option.some.inj h1]; rfl⟩
      · rw [List.getElem?_set_ne e] at h1
        refine Or.inr ⟨h1, fun hm => ?_⟩
        rcases List.mem_cons.mp hm with h3 | h3
        · exact e h3.symm
        · exact h2 h3
/-- behind a call of a writer: the caller's cells, some of them changed -/
theorem g_join {A0 : Nat → Prop} {D : va_G} {cl : List vw_C} {ws ws1 cs cs' : va_W} {H H1 : Heap} (hP : va_P D cl ws H) (hD : va_D A0 ws) (isC : List Nat) (hC : isC.map (fun i => ws[i]?) = cs.map some) (hlen : isC.length = cs'.length) (hM : ws1 = gMg ws isC cs')
    (hk : ∀ q : Nat, q < H.size → ¬ gAd cs q → H1[q]? = H[q]?) (hP1 : va_P D cl cs' H1) : va_P D cl ws1 H1 := by
  subst hM
  intro k q hq
  rcases gMg_get isC cs' ws k q hlen hq with ⟨j, h1, h2⟩ | ⟨h1, h2⟩
  · exact hP1 j q h2
  · have ha := hP k q h1
    refine ha.kept (hk q.1 ha.lt (fun hm => ?_))
    obtain ⟨x, hx, hxe⟩ := List.mem_map.mp hm
    obtain ⟨j, hj⟩ := List.getElem?_of_mem hx
    have h3 : (isC.map (fun i => ws[i]?))[j]? = some (some x) := by rw [hC, List.getElem?_map, hj]; rfl
    rw [List.getElem?_map] at h3
    cases hi : isC[j]? with
    | none => rw [hi] at h3; cases h3
    | some i =>
      rw [hi] at h3
      have h4 : ws[i]? = some x := Option.some.inj h3
      have h5 := hD.1 i k x q h4 h1 hxe
      subst h5
      exact h2 (List.mem_of_getElem? hi)
theorem g_adsub {A0 : Nat → Prop} {ws cs : va_W} (hD : va_D A0 ws) (isC : List Nat) (hC : isC.map (fun i => ws[i]?) = cs.map some) : ∀ q, gAd cs q → A0 q := by
  intro q hm
  obtain ⟨x, hx, hxe⟩ := List.mem_map.mp hm
  obtain ⟨j, hj⟩ := List.getElem?_of_mem hx
  have h3 : (isC.map (fun i => ws[i]?))[j]? = some (some x) := by rw [hC, List.getElem?_map, hj]; rfl
  rw [List.getElem?_map] at h3
  cases hi : isC[j]? with
  | none => rw [hi] at h3; cases h3
  | some i =>
    rw [hi] at h3
    have h4 : ws[i]? = some x := Option.some.inj h3
    rw [← hxe]
    exact hD.2 i x h4
section GW
variable {p : Program} {l : Launch} {e : Env} {R : Room} {s : State} {m : MethodId} {args : Array Value} {below : List Frame} {meth : Method} {c : Code} {H : Heap} {locs : List Loc} {cells slots : Nat} {Q : State → Prop}
variable {cc : ByteArray} {pc : Nat} {ls : Array Slot} {rest st0 : List Value} {D : va_G} {cl : List vw_C} {A : Nat → Prop} {a : Nat} {tys : List (ClassId × FieldType)} {ws : va_W} {H0 : Heap} {G : gG}
theorem g_top {x y : Int32} (h : x = y) (k : W p l e R s m args below meth c H locs cells slots Q (F0 m pc ls (.int y :: rest))) : W p l e R s m args below meth c H locs cells slots Q (F0 m pc ls (.int x :: rest)) := by rw [h]; exact k
theorem g_ri {v r : Int32} (hx : p.tables.exec = Jvm.exec) (hb : c.code = cc) (hr : meth.sig.returnType = some .int) (hlocks : meth.locks = false) (hdg : decode cc pc = .ok (.ireturn, 1)) (hv : v = r) :
    W p l e R s m args below meth c s.heap [] 0 0 (MQ below (vp_Si (fun x => x = r)) args s 0 0 (fun _ => False)) (F0 m pc ls [.int v]) := W.iret hx hb hr (fun t ht _ => ⟨v, rfl, hv, ht⟩) (fun _ h => by cases h) hdg hlocks
theorem g_rz {v : Int32} {b : Bool} (hx : p.tables.exec = Jvm.exec) (hb : c.code = cc) (hr : meth.sig.returnType = some .boolean) (hlocks : meth.locks = false) (hdg : decode cc pc = .ok (.ireturn, 1)) (hv : v = bI b) :
    W p l e R s m args below meth c s.heap [] 0 0 (MQ below (vp_Si (fun x => x = bI b)) args s 0 0 (fun _ => False)) (F0 m pc ls [.int v]) := W.zret (ty := .boolean) hx hb hr (by rw [hv]; exact bI_nar b) (fun t ht _ => ⟨v, rfl, hv, ht⟩) (fun _ h => by cases h) hdg hlocks
theorem g_wi {cs cs' : va_W} {v r : Int32} (hx : p.tables.exec = Jvm.exec) (hb : c.code = cc) (hr : meth.sig.returnType = some .int) (hlocks : meth.locks = false) (hAe : A = gAd cs) (hP : va_P G.1 vwCl cs' H) (hS : va_S A s.heap H locs) (hdg : decode cc pc = .ok (.ireturn, 1)) (hv : v = r) :
    W p l e R s m args below meth c H locs 0 0 (MQ below (gQ G cs cs' (some (.int r))) args s 0 0 (gAd cs)) (F0 m pc ls [.int v]) := by
  subst hAe
  exact W.iret hx hb hr (fun t ht _ => ⟨by rw [hv], by rw [ht]; exact hP, hS.F ht⟩) hS.2.2 hdg hlocks
theorem g_wz {cs cs' : va_W} {v : Int32} {b : Bool} (hx : p.tables.exec = Jvm.exec) (hb : c.code = cc) (hr : meth.sig.returnType = some .boolean) (hlocks : meth.locks = false) (hAe : A = gAd cs) (hP : va_P G.1 vwCl cs' H) (hS : va_S A s.heap H locs) (hdg : decode cc pc = .ok (.ireturn, 1)) (hv : v = bI b) :
    W p l e R s m args below meth c H locs 0 0 (MQ below (gQ G cs cs' (some (.int (bI b)))) args s 0 0 (gAd cs)) (F0 m pc ls [.int v]) := by
  subst hAe
  exact W.zret (ty := .boolean) hx hb hr (by rw [hv]; exact bI_nar b) (fun t ht _ => ⟨by rw [hv], by rw [ht]; exact hP, hS.F ht⟩) hS.2.2 hdg hlocks
theorem g_wv {cs cs' : va_W} (hx : p.tables.exec = Jvm.exec) (hb : c.code = cc) (hr : meth.sig.returnType = none) (hlocks : meth.locks = false) (hAe : A = gAd cs) (hP : va_P G.1 vwCl cs' H) (hS : va_S A s.heap H locs) (hdg : decode cc pc = .ok (.return_, 1)) :
    W p l e R s m args below meth c H locs 0 0 (MQ below (gQ G cs cs' none) args s 0 0 (gAd cs)) (F0 m pc ls []) := by
  subst hAe
  exact W.vret hx hb hr (fun t ht _ => ⟨rfl, by rw [ht]; exact hP, hS.F ht⟩) hS.2.2 hdg hlocks
theorem g_iald (hx : p.tables.exec = Jvm.exec) (hb : c.code = cc) (hK : va_K D cl tys s) (hP : va_P D cl ws H) (q0 t0 : Nat) {cA : ClassId} {n : Nat} {f : Nat → Int32} (ha : ws[q0]? = some (a, .inl (cA, n, .inl f))) (ht : tys[t0]? = some (cA, .int)) {i : Nat} (hi : i < n) (hn : n < 2 ^ 31) (hdg : decode cc pc = .ok (.iaload, 1))
    (kk : W p l e R s m args below meth c H locs cells slots Q (F0 m (pc + 1) ls (.int (f i) :: rest))) : W p l e R s m args below meth c H locs cells slots Q (F0 m pc ls (.int (nI i) :: .ref a :: rest)) := by
  refine va_iald hx hb hK hP q0 t0 ha ht (vp_in_nI hi hn) hdg ?_
  rw [nI_clamp (Nat.lt_trans hi hn)]
  exact kk
theorem g_zald (hx : p.tables.exec = Jvm.exec) (hb : c.code = cc) (hK : va_K D cl tys s) (hP : va_P D cl ws H) (q0 t0 : Nat) {cA : ClassId} {n : Nat} {f : Nat → Int32} (ha : ws[q0]? = some (a, .inl (cA, n, .inl f))) (ht : tys[t0]? = some (cA, .boolean)) {i : Nat} (hi : i < n) (hn : n < 2 ^ 31) (hdg : decode cc pc = .ok (.baload, 1))
    (kk : W p l e R s m args below meth c H locs cells slots Q (F0 m (pc + 1) ls (.int (f i) :: rest))) : W p l e R s m args below meth c H locs cells slots Q (F0 m pc ls (.int (nI i) :: .ref a :: rest)) := by
  refine va_zald hx hb hK hP q0 t0 ha ht (vp_in_nI hi hn) hdg ?_
  rw [nI_clamp (Nat.lt_trans hi hn)]
  exact kk
theorem g_iast (hx : p.tables.exec = Jvm.exec) (hb : c.code = cc) (hK : va_K D cl tys s) (hP : va_P D cl ws H) (hD : va_D A ws) (hS : va_S A H0 H locs) (q0 t0 : Nat) {cA : ClassId} {n : Nat} {f : Nat → Int32} (ha : ws[q0]? = some (a, .inl (cA, n, .inl f))) (ht : tys[t0]? = some (cA, .int)) {i : Nat} {x : Int32} (hi : i < n) (hn : n < 2 ^ 31) (hdg : decode cc pc = .ok (.iastore, 1))
    (kk : ∀ (H1 : Heap) (locs1 : List Loc), va_P D cl (ws.set q0 (a, .inl (cA, n, .inl (upd f i x)))) H1 → va_D A (ws.set q0 (a, .inl (cA, n, .inl (upd f i x)))) → va_S A H0 H1 locs1 → W p l e R s m args below meth c H1 locs1 cells slots Q (F0 m (pc + 1) ls rest)) : W p l e R s m args below meth c H locs cells slots Q (F0 m pc ls (.int x :: .int (nI i) :: .ref a :: rest)) := by
  refine va_iast hx hb hK hP hD hS q0 t0 ha ht (vp_in_nI hi hn) hdg ?_
  rw [nI_clamp (Nat.lt_trans hi hn)]
  exact kk
theorem g_zast (hx : p.tables.exec = Jvm.exec) (hb : c.code = cc) (hK : va_K D cl tys s) (hP : va_P D cl ws H) (hD : va_D A ws) (hS : va_S A H0 H locs) (q0 t0 : Nat) {cA : ClassId} {n : Nat} {f : Nat → Int32} (ha : ws[q0]? = some (a, .inl (cA, n, .inl f))) (ht : tys[t0]? = some (cA, .boolean)) {i : Nat} {x : Int32} (hi : i < n) (hn : n < 2 ^ 31) (hz : vp_nar .boolean x = x) (hdg : decode cc pc = .ok (.bastore, 1))
    (kk : ∀ (H1 : Heap) (locs1 : List Loc), va_P D cl (ws.set q0 (a, .inl (cA, n, .inl (upd f i x)))) H1 → va_D A (ws.set q0 (a, .inl (cA, n, .inl (upd f i x)))) → va_S A H0 H1 locs1 → W p l e R s m args below meth c H1 locs1 cells slots Q (F0 m (pc + 1) ls rest)) : W p l e R s m args below meth c H locs cells slots Q (F0 m pc ls (.int x :: .int (nI i) :: .ref a :: rest)) := by
  refine va_zast hx hb hK hP hD hS q0 t0 ha ht (vp_in_nI hi hn) hdg ?_
  rw [nI_clamp (Nat.lt_trans hi hn), hz]
  exact kk
variable {y : MethodName} {bytes : ByteArray} {maxL nL n index d : Nat} {ret : Option FieldType} {Ts wy wy' : List Cond} {own C : String} {b : Nat} {As : List Value} {cs cs' : va_W} {r : Int32}
/-- a call of a reader on an object -/
theorem g_rdV (hx : p.tables.exec = Jvm.exec) (hb : c.code = cc) (hml : c.maxLocals = nL) (hown : s.vm.findClass own = some m.cls) (hts : ∀ w ∈ Ts, w.before args s = true) (hM : gRd l y wy d G (.ref b :: As) cs r) (hG : GoodIn Ts (wsV own index C y wy)) (hw : wy = Cond.code y bytes maxL ret :: wy')
    (hd : y.cls = C ∧ y.cls ≠ "java/lang/invoke/MethodHandle" ∧ y.cls ≠ "java/lang/invoke/VarHandle" ∧ (parseMethodDescriptor y.desc).map (fun d => d.parameters.length) = some n) (hR : d + 1 ≤ R.frames ∧ 8 + (maxL + 11) + 40 * d ≤ R.locals) (hK : gK G s) (hP : va_P G.1 vwCl cs H) {q : vw_C} {ci : Nat} {fs : List Value} (hq : q.1 = C) (hc : vwCl[ci]? = some q) (he : cs[0]? = some (b, .inr (ci, fs)))
    (hn : As.length = n) (hls : ls.size = nL) (hst : st0 = As.reverse ++ .ref b :: rest) (hrm : (rest.map fun v => v.category).sum ≤ 8) (hf : cells ≤ R.cells ∧ slots ≤ R.slots) (hdg : decode cc pc = .ok (.invokevirtual index, 3))
    (kk : W p l e R s m args below meth c H locs cells slots Q (F0 m (pc + 3) ls (.int r :: rest))) : W p l e R s m args below meth c H locs cells slots Q (F0 m pc ls st0) := by
  subst hq
  refine vp_callSi (va_runV (As := As) (rest := rest) (b := b) ⟨hx, hb, hml, hown, hts⟩ hM (cwV n hts hG hw rfl rfl hd hR) ⟨fun a U g mk q => ⟨q.1, q.2.1, q.2.2.calling g mk a⟩, va_recv hK.1 hP hc he, fun U hU hW => ⟨rfl, by rw [hU]; exact hP, hK.warm hW⟩⟩ rfl hn hls hst (lv_room hrm) hdg hf).run (fun r' hr' => ?_)
  have hr' : r' = r := hr'
  rw [hr']
  exact kk
/-- a call of a static reader -/
theorem g_rdS (hx : p.tables.exec = Jvm.exec) (hb : c.code = cc) (hml : c.maxLocals = nL) (hown : s.vm.findClass own = some m.cls) (hts : ∀ w ∈ Ts, w.before args s = true) (hM : gRd l y wy d G As cs r) (hG : GoodIn Ts (va_wsS own index y wy)) (hw : wy = Cond.code y bytes maxL ret :: wy')
    (hd : y.cls ≠ "java/lang/invoke/MethodHandle" ∧ y.cls ≠ "java/lang/invoke/VarHandle" ∧ (parseMethodDescriptor y.desc).map (fun d => d.parameters.length) = some n) (hR : d + 1 ≤ R.frames ∧ 8 + (maxL + 11) + 40 * d ≤ R.locals) (hK : gK G s) (hP : va_P G.1 vwCl cs H)
    (hn : As.length = n) (hls : ls.size = nL) (hst : st0 = As.reverse ++ rest) (hrm : (rest.map fun v => v.category).sum ≤ 8) (hf : cells ≤ R.cells ∧ slots ≤ R.slots) (hdg : decode cc pc = .ok (.invokestatic index, 3))
    (kk : W p l e R s m args below meth c H locs cells slots Q (F0 m (pc + 3) ls (.int r :: rest))) : W p l e R s m args below meth c H locs cells slots Q (F0 m pc ls st0) := by
  refine vp_callSi (va_runS (As := As) (rest := rest) ⟨hx, hb, hml, hown, hts⟩ hM (va_cwS n hts hG hw rfl rfl hd hR) ⟨fun a U g mk q => ⟨q.1, q.2.1, q.2.2.calling g mk a⟩, fun U hU hW => ⟨rfl, by rw [hU]; exact hP, hK.warm hW⟩⟩ rfl hn hls hst (lv_room hrm) hdg hf).run (fun r' hr' => ?_)
  have hr' : r' = r := hr'
  rw [hr']
  exact kk
/-- a call of a nest mate's static reader -/
theorem g_rdN {host : String} (hx : p.tables.exec = Jvm.exec) (hb : c.code = cc) (hml : c.maxLocals = nL) (hown : s.vm.findClass own = some m.cls) (hts : ∀ w ∈ Ts, w.before args s = true) (hM : gRd l y wy d G As cs r) (hG : GoodIn Ts wy) (hw : wy = Cond.code y bytes maxL ret :: wy') (hl : va_Nw (.methodLinkNest own index y host) s) (hini : (Cond.initialized y.cls).before args s = true) (hstt : (Cond.static y).before args s = true)
    (hd : y.cls ≠ "java/lang/invoke/MethodHandle" ∧ y.cls ≠ "java/lang/invoke/VarHandle" ∧ (parseMethodDescriptor y.desc).map (fun d => d.parameters.length) = some n) (hR : d + 1 ≤ R.frames ∧ 8 + (maxL + 11) + 40 * d ≤ R.locals) (hK : gK G s) (hP : va_P G.1 vwCl cs H)
    (hn : As.length = n) (hls : ls.size = nL) (hst : st0 = As.reverse ++ rest) (hrm : (rest.map fun v => v.category).sum ≤ 8) (hf : cells ≤ R.cells ∧ slots ≤ R.slots) (hdg : decode cc pc = .ok (.invokestatic index, 3))
    (kk : W p l e R s m args below meth c H locs cells slots Q (F0 m (pc + 3) ls (.int r :: rest))) : W p l e R s m args below meth c H locs cells slots Q (F0 m pc ls st0) := by
  refine vp_callSi (va_runSN (As := As) (rest := rest) ⟨hx, hb, hml, hown, hts⟩ hM ⟨va_cnB n hts hG hw rfl rfl hl hini hd hR, hstt, trivial⟩ ⟨fun a U g mk q => ⟨q.1, q.2.1, q.2.2.calling g mk a⟩, fun U hU hW => ⟨rfl, by rw [hU]; exact hP, hK.warm hW⟩⟩ rfl hn hls hst (lv_room hrm) hdg hf).run (fun r' hr' => ?_)
  have hr' : r' = r := hr'
  rw [hr']
  exact kk
/-- behind a run of a writer -/
theorem g_wrun {ov : Option Value} {ws1 : va_W} {av : Array Value} (hr : va_Run p l e R s m args below meth c H locs cells slots 0 0 (F0 m pc ls st0) rest (gQ G cs cs' ov av) (gAd cs)) (hP : va_P G.1 vwCl ws H) (hD : va_D A ws) (hS : va_S A H0 H locs) (isC : List Nat) (hC : isC.map (fun i => ws[i]?) = cs.map some) (hlen : isC.length = cs'.length) (hM : ws1 = gMg ws isC cs') (hsame : ws1.map Prod.fst = ws.map Prod.fst)
    (kk : ∀ (H1 : Heap) (locs1 : List Loc), va_P G.1 vwCl ws1 H1 → va_D A ws1 → va_S A H0 H1 locs1 → W p l e R s m args below meth c H1 locs1 cells slots Q (F0 m (pc + 3) ls (ov.toList ++ rest))) : W p l e R s m args below meth c H locs cells slots Q (F0 m pc ls st0) := by
  intro T hT X
  obtain ⟨v, st₀, t, T', L, h0, X', hL, e1, e2, ⟨hv, hp, hz, hk⟩, st⟩ := hr T hT X
  cases hv
  rw [h0] at hz hk
  have hsub := g_adsub hD isC hC
  obtain ⟨t2, a1, b1⟩ := kk T'.heap (locs ++ L) (g_join hP hD isC hC hlen hM (fun q h1 h2 => by rw [e1]; exact hk q h1 h2) (by rw [e1]; exact hp)) (gD_same hsame hD)
    ⟨Nat.le_trans hS.1 (by rw [e1]; exact hz), fun q h1 h2 => by rw [e1, hk q (Nat.lt_of_lt_of_le h1 hS.1) (fun z => h2 (hsub q z))]; exact hS.2.1 q h1 h2, fun q hq => by
      rcases List.mem_append.mp hq with h | h
      · exact hS.2.2 q h
      · exact hsub _ (hL q h)⟩ T' rfl X'
  exact ⟨t2, st t2 a1, b1⟩
/-- a call of a writer on an object -/
theorem g_wrV {ov : Option Value} {ws1 : va_W} (hx : p.tables.exec = Jvm.exec) (hb : c.code = cc) (hml : c.maxLocals = nL) (hown : s.vm.findClass own = some m.cls) (hts : ∀ w ∈ Ts, w.before args s = true) (hM : gWr l y wy d G (.ref b :: As) cs cs' ov) (hG : GoodIn Ts (wsV own index C y wy)) (hw : wy = Cond.code y bytes maxL ret :: wy')
    (hd : y.cls = C ∧ y.cls ≠ "java/lang/invoke/MethodHandle" ∧ y.cls ≠ "java/lang/invoke/VarHandle" ∧ (parseMethodDescriptor y.desc).map (fun d => d.parameters.length) = some n) (hR : d + 1 ≤ R.frames ∧ 8 + (maxL + 11) + 40 * d ≤ R.locals) (hK : gK G s) (hP : va_P G.1 vwCl ws H) (hD : va_D A ws) (hS : va_S A H0 H locs) (isC : List Nat) (hnd : va_nd isC = true) (hC : isC.map (fun i => ws[i]?) = cs.map some) (hlen : isC.length = cs'.length) (hMg : ws1 = gMg ws isC cs') (hsame : ws1.map Prod.fst = ws.map Prod.fst) {q : vw_C} {ci : Nat} {fs : List Value} (hq : q.1 = C) (hc : vwCl[ci]? = some q) (he : cs[0]? = some (b, .inr (ci, fs)))
    (hn : As.length = n) (hls : ls.size = nL) (hst : st0 = As.reverse ++ .ref b :: rest) (hrm : (rest.map fun v => v.category).sum ≤ 8) (hf : cells ≤ R.cells ∧ slots ≤ R.slots) (hdg : decode cc pc = .ok (.invokevirtual index, 3))
    (kk : ∀ (H1 : Heap) (locs1 : List Loc), va_P G.1 vwCl ws1 H1 → va_D A ws1 → va_S A H0 H1 locs1 → W p l e R s m args below meth c H1 locs1 cells slots Q (F0 m (pc + 3) ls (ov.toList ++ rest))) : W p l e R s m args below meth c H locs cells slots Q (F0 m pc ls st0) := by
  subst hq
  have hPc : va_P G.1 vwCl cs H := fun k x hx => by
    have h3 : (isC.map (fun i => ws[i]?))[k]? = some (some x) := by rw [hC, List.getElem?_map, hx]; rfl
    rw [List.getElem?_map] at h3
    cases hi : isC[k]? with
    | none => rw [hi] at h3; cases h3
    | some i => rw [hi] at h3; exact hP i x (Option.some.inj h3)
  have hDc : va_D (fun _ => True) cs := (hD.sub isC hnd hC).weaken (fun _ _ _ _ => trivial)
  exact g_wrun (va_runV (As := As) (rest := rest) (b := b) ⟨hx, hb, hml, hown, hts⟩ hM (cwV n hts hG hw rfl rfl hd hR) ⟨fun a U g mk q => ⟨q.1, q.2.1, q.2.2.1.calling g mk a, q.2.2.2⟩, va_recv hK.1 hPc hc he, fun U hU hW => ⟨rfl, by rw [hU]; exact hPc, hK.warm hW, hDc⟩⟩ rfl hn hls hst (lv_room hrm) hdg hf) hP hD hS isC hC hlen hMg hsame kk
/-- a call of a static writer -/
theorem g_wrS {ov : Option Value} {ws1 : va_W} (hx : p.tables.exec = Jvm.exec) (hb : c.code = cc) (hml : c.maxLocals = nL) (hown : s.vm.findClass own = some m.cls) (hts : ∀ w ∈ Ts, w.before args s = true) (hM : gWr l y wy d G As cs cs' ov) (hG : GoodIn Ts (va_wsS own index y wy)) (hw : wy = Cond.code y bytes maxL ret :: wy')
    (hd : y.cls ≠ "java/lang/invoke/MethodHandle" ∧ y.cls ≠ "java/lang/invoke/VarHandle" ∧ (parseMethodDescriptor y.desc).map (fun d => d.parameters.length) = some n) (hR : d + 1 ≤ R.frames ∧ 8 + (maxL + 11) + 40 * d ≤ R.locals) (hK : gK G s) (hP : va_P G.1 vwCl ws H) (hD : va_D A ws) (hS : va_S A H0 H locs) (isC : List Nat) (hnd : va_nd isC = true) (hC : isC.map (fun i => ws[i]?) = cs.map some) (hlen : isC.length = cs'.length) (hMg : ws1 = gMg ws isC cs') (hsame : ws1.map Prod.fst = ws.map Prod.fst)
    (hn : As.length = n) (hls : ls.size = nL) (hst : st0 = As.reverse ++ rest) (hrm : (rest.map fun v => v.category).sum ≤ 8) (hf : cells ≤ R.cells ∧ slots ≤ R.slots) (hdg : decode cc pc = .ok (.invokestatic index, 3))
    (kk : ∀ (H1 : Heap) (locs1 : List Loc), va_P G.1 vwCl ws1 H1 → va_D A ws1 → va_S A H0 H1 locs1 → W p l e R s m args below meth c H1 locs1 cells slots Q (F0 m (pc + 3) ls (ov.toList ++ rest))) : W p l e R s m args below meth c H locs cells slots Q (F0 m pc ls st0) := by
  have hPc : va_P G.1 vwCl cs H := fun k x hx => by
    have h3 : (isC.map (fun i => ws[i]?))[k]? = some (some x) := by rw [hC, List.getElem?_map, hx]; rfl
    rw [List.getElem?_map] at h3
    cases hi : isC[k]? with
    | none => rw [hi] at h3; cases h3
    | some i => rw [hi] at h3; exact hP i x (Option.some.inj h3)
  have hDc : va_D (fun _ => True) cs := (hD.sub isC hnd hC).weaken (fun _ _ _ _ => trivial)
  exact g_wrun (va_runS (As := As) (rest := rest) ⟨hx, hb, hml, hown, hts⟩ hM (va_cwS n hts hG hw rfl rfl hd hR) ⟨fun a U g mk q => ⟨q.1, q.2.1, q.2.2.1.calling g mk a, q.2.2.2⟩, fun U hU hW => ⟨rfl, by rw [hU]; exact hPc, hK.warm hW, hDc⟩⟩ rfl hn hls hst (lv_room hrm) hdg hf) hP hD hS isC hC hlen hMg hsame kk
end GW
/-! a reader that is the JDK's own method -/
theorem Met_ofWF {l : Launch} {y : MethodName} {ws ws' : List Cond} {rm : Room} {Pc : Array Value → State → Prop} {Qc : Array Value → State → Outcome → State → Prop} {mc ms : Nat} {free : Addr → Prop} {cc : ByteArray} {maxL : Nat} {ret : Option FieldType}
    (hy : plainFor y = true) (hw : ws = Cond.code y cc maxL ret :: ws')
    (body : ∀ p e s m args below meth c s₁, BodyLoose p l y (headSpec ws rm) cc maxL ret e s m args below meth c s₁ → c.maxLocals = maxL → Pc args s →
      W p l e (headSpec ws rm).room s m args below meth c s.heap [] 0 0 (MQ below Qc args s mc ms free) (entryFrame m args maxL)) : Met l y ws rm Pc Qc mc ms free := by
  refine MetFree.of_bodySF (code := cc) (maxLocals := maxL) (ret := ret) hy ?_ ?_
  · intro args s m h hn
    obtain ⟨meth, c, h1, h2, h3, h4, h5, h6, -, -⟩ := Cond.code_spec hn (atoms_spec (ws := ws) h _ (by rw [hw]; exact List.mem_cons_self))
    exact ⟨meth, c, h1, h2, h3, h4, h5, h6⟩
  · intro p e s m args below meth c s₁ B hml hP _
    have hh0 : s₁.heap = s.heap := by rw [B.state]; rfl
    obtain ⟨t, a1, o, b1, b2, b3⟩ := body p e s m args below meth c s₁ B hml hP s₁ hh0 (Stand.of_body B)
    exact ⟨t, o, a1, b1, b2, ⟨b3.1, b3.2⟩⟩
theorem g_rdJ {l : Launch} {y : MethodName} {ws ws' : List Cond} {d : Nat} {G : gG} {av : List Value} {cs : va_W} {r : Int32} {cc : ByteArray} {maxL : Nat} {ret : Option FieldType} (hy : plainFor y = true) (hw : ws = Cond.code y cc maxL ret :: ws') (hlen : (lg_sl av).length ≤ maxL)
    (body : ∀ (p : Program) (e : Env) (s : State) (m : MethodId) (below : List Frame) (meth : Method) (c : Code), p.tables.exec = Jvm.exec → c.code = cc → meth.sig.returnType = ret → c.maxLocals = maxL → s.vm.findClass y.cls = some m.cls → (∀ w ∈ ws, w.before av.toArray s = true) → meth.locks = false → va_P G.1 vwCl cs s.heap → gK G s → ∀ ls : Array Slot, lv_has ls maxL (lv_args 0 av) →
      W p l e (gRm d) s m av.toArray below meth c s.heap [] 0 0 (MQ below (vp_Si (fun x => x = r)) av.toArray s 0 0 (fun _ => False)) (F0 m 0 ls [])) : gRd l y ws d G av cs r := by
  refine Met_ofWF (cc := cc) (maxL := maxL) (ret := ret) hy hw ?_
  intro p e s m args below meth c s₁ B hml hv
  obtain ⟨rfl, hP, hK⟩ := hv
  rw [lg_entry_eq]
  exact body p e s m below meth c B.exec B.bytes B.returns hml (findClass_of_methodNamed B.named) (atoms_spec (ws := ws) B.pre) B.notSynchronized hP hK _ (lv_entry av hlen)
end
section
/-! ===== states, worlds, and what the methods of a moment and of a hall answer ===== -/
abbrev sh (o : Nat) (a : Nat → Nat) : Nat → Nat := fun k => a (o + k)
theorem gP_nil {D : va_G} {cl : List vw_C} {H : Heap} : va_P D cl [] H := fun k q h => by simp at h
theorem bI_fit (b : Bool) : fits .boolean (.int (bI b)) = true := by cases b <;> rfl
theorem gl_le {x y : Int32} (h : y ≤ x) : ¬ x < y := fun q => by
  rw [Int32.lt_iff_toInt_lt] at q
  rw [Int32.le_iff_toInt_le] at h
  omega
theorem gl_nle {x y : Int32} (h : ¬ y ≤ x) : x < y := by
  rw [Int32.le_iff_toInt_le] at h
  rw [Int32.lt_iff_toInt_lt]
  omega
theorem gl_nlt {x y : Int32} (h : ¬ x < y) : y ≤ x := by
  rw [Int32.lt_iff_toInt_lt] at h
  rw [Int32.le_iff_toInt_le]
  omega
theorem gl_lt {x y : Int32} (h : x < y) : ¬ y ≤ x := fun q => gl_le q h
theorem gl_in {sa : Int32} {n i : Nat} (hn : sa = nI n) (h1 : n < 2 ^ 31) (h2 : i < 2 ^ 31) (c : nI i < sa) : i < n := by rw [hn] at c; exact (nI_ltI h2 h1).mp c
theorem gl_ex {sa : Int32} {n i : Nat} (hn : sa = nI n) (h1 : n < 2 ^ 31) (h2 : i < 2 ^ 31) (c : ¬ nI i < sa) : n ≤ i := by
  rw [hn] at c
  exact Nat.le_of_not_lt (fun q => c ((nI_ltI h2 h1).mpr q))
theorem gl_cx {y : Int32} {k i : Nat} (hy : y = nI k) (hk : k < 2 ^ 31) (hi : i < 2 ^ 31) (c : y < nI i) : k < i := by rw [hy] at c; exact (nI_ltI hk hi).mp c
theorem gl_ci {y : Int32} {k i : Nat} (hy : y = nI k) (hk : k < 2 ^ 31) (hi : i < 2 ^ 31) (c : ¬ y < nI i) : i ≤ k := by
  rw [hy] at c
  exact Nat.le_of_not_lt (fun q => c ((nI_ltI hk hi).mpr q))
/-- bits, sums, counts and the first of what a row of yes and no tells -/
def bitsOf (q : Nat → Bool) : Nat → Int32
  | 0 => 0
  | i + 1 => if q i then bitsOf q i ||| ((1 : Int32) <<< (nI i &&& 31)) else bitsOf q i
def sumOf (q : Nat → Bool) (f : Nat → Int32) : Nat → Int32
  | 0 => 0
  | i + 1 => if q i then sumOf q f i + f i else sumOf q f i
def cntOf (q : Nat → Bool) : Nat → Nat
  | 0 => 0
  | i + 1 => if q i then cntOf q i + 1 else cntOf q i
def firstF (q : Nat → Bool) : Nat → Nat → Option Nat
  | 0, _ => none
  | f + 1, i => if q i then some i else firstF q f (i + 1)
def oI : Option Nat → Int32
  | some i => nI i
  | none => -9
theorem bO_y {q : Nat → Bool} {i : Nat} {x : Int32} (hx : x = bitsOf q i) (h : q i = true) : x ||| ((1 : Int32) <<< (nI i &&& 31)) = bitsOf q (i + 1) := by rw [hx, bitsOf, if_pos h]
theorem bO_n {q : Nat → Bool} {i : Nat} {x : Int32} (hx : x = bitsOf q i) (h : q i = false) : x = bitsOf q (i + 1) := by rw [hx, bitsOf, if_neg (by rw [h]; decide)]
theorem sO_y {q : Nat → Bool} {f : Nat → Int32} {i : Nat} {x : Int32} (hx : x = sumOf q f i) (h : q i = true) : x + f i = sumOf q f (i + 1) := by rw [hx, sumOf, if_pos h]
theorem sO_n {q : Nat → Bool} {f : Nat → Int32} {i : Nat} {x : Int32} (hx : x = sumOf q f i) (h : q i = false) : x = sumOf q f (i + 1) := by rw [hx, sumOf, if_neg (by rw [h]; decide)]
theorem cO_y {q : Nat → Bool} {i : Nat} {x : Nat} (hx : x = cntOf q i) (h : q i = true) : x + 1 = cntOf q (i + 1) := by rw [hx, cntOf, if_pos h]
theorem cO_n {q : Nat → Bool} {i : Nat} {x : Nat} (hx : x = cntOf q i) (h : q i = false) : x = cntOf q (i + 1) := by rw [hx, cntOf, if_neg (by rw [h]; decide)]
theorem cO_le (q : Nat → Bool) : ∀ n, cntOf q n ≤ n
  | 0 => Nat.le_refl _
  | n + 1 => by
    have h := cO_le q n
    rw [cntOf]
    split <;> omega
theorem fF_y {q : Nat → Bool} {N i : Nat} (he : firstF q N 0 = firstF q (N - i) i) (hi : i < N) (hq : q i = true) : firstF q N 0 = some i := by
  rw [he, show N - i = (N - (i + 1)) + 1 by omega, firstF, if_pos hq]
theorem fF_n {q : Nat → Bool} {N i : Nat} (he : firstF q N 0 = firstF q (N - i) i) (hi : i < N) (hq : q i = false) : firstF q N 0 = firstF q (N - (i + 1)) (i + 1) := by
  rw [he, show N - i = (N - (i + 1)) + 1 by omega, firstF, if_neg (by rw [hq]; decide)]
theorem fF_e {q : Nat → Bool} {N i : Nat} (he : firstF q N 0 = firstF q (N - i) i) (hi : N ≤ i) : firstF q N 0 = none := by
  rw [he, show N - i = 0 by omega, firstF]
theorem oI_s {o : Option Nat} {i : Nat} (h : o = some i) : nI i = oI o := by rw [h]; rfl
theorem oI_n {o : Option Nat} (h : o = none) : (-9) = oI o := by rw [h]; rfl
theorem tt2 {a b : Prop} [Decidable a] [Decidable b] (h1 : a) (h2 : b) : (decide a && decide b) = true := by simp [h1, h2]
theorem ff1 {a b : Prop} [Decidable a] [Decidable b] (h1 : ¬ a) : (decide a && decide b) = false := by simp [h1]
theorem ff2 {a b : Prop} [Decidable a] [Decidable b] (h1 : ¬ b) : (decide a && decide b) = false := by simp [h1]
/-- a row whose first places are filled anew -/
def lsF (f g : Nat → Int32) (i : Nat) : Nat → Int32 := fun j => if j < i then f j else g j
theorem lsF_0 (f g : Nat → Int32) : lsF f g 0 = g := by
  funext j
  simp [lsF]
theorem lsF_s {f g : Nat → Int32} {i : Nat} {x : Int32} (hx : x = f i) : upd (lsF f g i) i x = lsF f g (i + 1) := by
  funext j
  simp only [upd, lsF, hx]
  by_cases h : j = i
  · subst h; simp
  · by_cases h2 : j < i
    · rw [if_neg h, if_pos h2, if_pos (by omega)]
    · rw [if_neg h, if_neg h2, if_neg (by omega)]
abbrev MoS : Type := Int32 × Int32 × Int32 × Int32 × (Nat → Int32) × (Nat → Int32) × (Nat → Int32) × (Nat → Int32) × (Nat → Int32) × (Nat → Int32)
abbrev MoS.tick (m : MoS) : Int32 := m.1
abbrev MoS.sayings (m : MoS) : Int32 := m.2.1
abbrev MoS.hushed (m : MoS) : Int32 := m.2.2.1
abbrev MoS.noted (m : MoS) : Int32 := m.2.2.2.1
abbrev MoS.frm (m : MoS) : Nat → Int32 := m.2.2.2.2.1
abbrev MoS.speed (m : MoS) : Nat → Int32 := m.2.2.2.2.2.1
abbrev MoS.way (m : MoS) : Nat → Int32 := m.2.2.2.2.2.2.1
abbrev MoS.loud (m : MoS) : Nat → Int32 := m.2.2.2.2.2.2.2.1
abbrev MoS.said (m : MoS) : Nat → Int32 := m.2.2.2.2.2.2.2.2.1
abbrev MoS.deeds (m : MoS) : Nat → Int32 := m.2.2.2.2.2.2.2.2.2
def wMo (a : Nat → Nat) (cI : ClassId) (m : MoS) : va_W := [(a 0, .inr (2, [.int m.tick, .int m.sayings, .int m.hushed, .int m.noted, .ref (a 1), .ref (a 2), .ref (a 3), .ref (a 4), .ref (a 5), .ref (a 6)])), (a 1, .inl (cI, 8, .inl m.frm)), (a 2, .inl (cI, 8, .inl m.speed)), (a 3, .inl (cI, 8, .inl m.way)), (a 4, .inl (cI, 8, .inl m.loud)), (a 5, .inl (cI, 8, .inl m.said)), (a 6, .inl (cI, 10, .inl m.deeds))]
abbrev HaS : Type := Int32 × Int32 × Int32 × MoS × (Nat → Int32) × (Nat → Int32)
abbrev HaS.pl (h : HaS) : Int32 := h.1
abbrev HaS.loss (h : HaS) : Int32 := h.2.1
abbrev HaS.nich (h : HaS) : Int32 := h.2.2.1
abbrev HaS.mo (h : HaS) : MoS := h.2.2.2.1
abbrev HaS.ats (h : HaS) : Nat → Int32 := h.2.2.2.2.1
abbrev HaS.str (h : HaS) : Nat → Int32 := h.2.2.2.2.2
def wHa (a : Nat → Nat) (cI : ClassId) (h : HaS) : va_W := [(a 0, .inr (0, [.int h.pl, .int h.loss, .int h.nich, .ref (a 1), .ref (a 8), .ref (a 9)])), (a 1, .inr (2, [.int h.mo.tick, .int h.mo.sayings, .int h.mo.hushed, .int h.mo.noted, .ref (a 2), .ref (a 3), .ref (a 4), .ref (a 5), .ref (a 6), .ref (a 7)])), (a 2, .inl (cI, 8, .inl h.mo.frm)), (a 3, .inl (cI, 8, .inl h.mo.speed)), (a 4, .inl (cI, 8, .inl h.mo.way)), (a 5, .inl (cI, 8, .inl h.mo.loud)), (a 6, .inl (cI, 8, .inl h.mo.said)), (a 7, .inl (cI, 10, .inl h.mo.deeds)), (a 8, .inl (cI, 8, .inl h.ats)), (a 9, .inl (cI, 8, .inl h.str))]
/-- within, floorMod, bitCount -/
def wIn (x lo hi : Int32) : Bool := !decide (x < lo) && !decide (hi < x)
def jFm (x y : Int32) : Int32 := if x ^^^ y < 0 then (if x - x / y * y = 0 then x - x / y * y else x - x / y * y + y) else x - x / y * y
def jU (x : Int32) (k : Int32) : Int32 := (x.toUInt32 >>> (k.toUInt32 &&& Int32.toUInt32 31)).toInt32
def jB1 (x : Int32) : Int32 := x - (jU x 1 &&& 1431655765)
def jB2 (x : Int32) : Int32 := (x &&& 858993459) + (jU x 2 &&& 858993459)
def jB3 (x : Int32) : Int32 := (x + jU x 4) &&& 252645135
def jB4 (x : Int32) : Int32 := x + jU x 8
def jB5 (x : Int32) : Int32 := x + jU x 16
def jBc (x : Int32) : Int32 := jB5 (jB4 (jB3 (jB2 (jB1 x)))) &&& 63
/-- a set has k -/
def hasB (x k : Int32) : Bool := decide ((x >>> (k &&& 31)) &&& 1 = 1)
/-- a hall's answers -/
def hReach (h : HaS) (p way gone : Int32) : Int32 := if 0 < h.pl then jFm (if way = 0 then p + gone else p - gone) h.pl else 0
def hLaps (h : HaS) (gone : Int32) : Int32 := if 0 < h.pl then gone / h.pl else 0
def hLeft (h : HaS) (loud gone : Int32) : Int32 := if 0 < loud - h.loss * hLaps h gone then loud - h.loss * hLaps h gone else 0
def hGone (h : HaS) (s : Nat) (k : Int32) : Int32 := h.mo.speed s * (h.mo.tick + k - h.mo.said s)
def hPlace (h : HaS) (s : Nat) (k : Int32) : Int32 := hReach h (h.mo.frm s) (h.mo.way s) (hGone h s k)
def hStr (h : HaS) (s : Nat) (k : Int32) : Int32 := if hasB h.mo.hushed (nI s) then 0 else hLeft h (h.mo.loud s) (hGone h s k)
def hSnd (h : HaS) (s : Nat) (p k : Int32) : Bool := decide (hPlace h s k = p) && decide (0 < hStr h s k)
/-- with where all are, and how strong, noted -/
def hLis (h : HaS) (n : Nat) (k : Int32) : HaS := (h.pl, h.loss, h.nich, h.mo, lsF (fun s => hPlace h s k) h.ats n, lsF (fun s => hStr h s k) h.str n)
def hSndB (h : HaS) (n : Nat) (p : Int32) : Int32 := bitsOf (fun s => decide (h.ats s = p) && decide (0 < h.str s)) n
def hStrAt (h : HaS) (n : Nat) (p : Int32) : Int32 := sumOf (fun s => decide (h.ats s = p)) h.str n
def hClear (h : HaS) (n : Nat) (p : Int32) : Int32 := oI (firstF (fun s => decide (h.ats s = p) && decide (hStrAt h n p < 2 * h.str s)) n 0)
def hSea (h : HaS) (n : Nat) (p : Int32) : Bool := !decide (hSndB h n p = 0) && decide (hClear h n p = -9)
def hLast (h : HaS) (n : Nat) : Int32 := bitsOf (fun s => decide (0 < h.str s)) n
def hStrOf (h : HaS) (n : Nat) (b : Int32) : Int32 := sumOf (fun s => hasB b (nI s)) h.str n
def hNSnd (h : HaS) (n N : Nat) : Int32 := nI (cntOf (fun p => !decide (hSndB h n (nI p) = 0)) N)
def hNSea (h : HaS) (n N : Nat) : Int32 := nI (cntOf (fun p => hSea h n (nI p)) N)
def hFewL (h : HaS) (n s : Nat) (o : Int32) : Nat → Int32
  | 0 => o
  | k + 1 => if jBc (nI k) < jBc (hFewL h n s o k) then (if nI k &&& (o ^^^ (-1)) = 0 then (if hStrOf h n (o &&& (nI k ^^^ (-1))) < h.str s then nI k else hFewL h n s o k) else hFewL h n s o k) else hFewL h n s o k
def hOth (h : HaS) (n s : Nat) : Int32 := hSndB h n (h.ats s) &&& (((1 : Int32) <<< (nI s &&& 31)) ^^^ (-1))
def hLastOf (h : HaS) (s : Nat) : Int32 := oI (firstF (fun k => decide (hStr h s (nI k) = 0)) 1000 0)
def hQuiF (h : HaS) (n : Nat) (p : Int32) : Option Nat := firstF (fun k => decide (hSndB (hLis h n (nI k)) n p = 0)) 100 0
def hWhen (h : HaS) (s : Nat) (p : Int32) : Int32 := oI (firstF (fun k => hSnd h s p (nI k)) 1000 0)
def hOften (h : HaS) (s : Nat) (p : Int32) : Int32 := nI (cntOf (fun k => hSnd h s p (nI k)) 1000)
def hMeet (h : HaS) (s t : Nat) : Int32 := oI (firstF (fun k => decide (0 < hStr h s (nI k)) && hSnd h t (hPlace h s (nI k)) (nI k)) 1000 0)
def hTicksTo (h : HaS) (N : Nat) (p q sp way : Int32) : Int32 := oI (firstF (fun k => decide (hReach h p way (sp * nI k) = q)) N 0)
def hWaitF (h : HaS) (n : Nat) (q un ow : Int32) : Option Nat := firstF (fun k => decide (hStrAt (hLis h n (nI k + un)) n q < ow)) 100 0
end
section
theorem h_X4_within : yX4_within.cls ≠ "java/lang/invoke/MethodHandle" ∧ yX4_within.cls ≠ "java/lang/invoke/VarHandle" ∧ (parseMethodDescriptor yX4_within.desc).map (fun d => d.parameters.length) = some 3 := by decide +kernel
set_option maxHeartbeats 4000000 in
set_option maxRecDepth 100000 in
theorem c_X4_within (lz : Launch) (G : gG) (x lo hi : Int32) : gRd lz yX4_within wsX4_within 0 G [.int x, .int lo, .int hi] ([]) (bI (wIn x lo hi)) := by
  refine g_rd (by decide) rfl (Nat.le_of_ble_eq_true rfl) ?_
  intro pz ez sz mz bz tz cz hx hb hr hml hown hts hlocks hP hK ls hl
  have hl : lv_has ls 3 [(0, .int x), (1, .int lo), (2, .int hi)] := hl
  refine lv_iload_n hx hb dX4_within_0 rfl (lv_at hl 0 rfl) ?_
  refine lv_iload_n hx hb dX4_within_1 rfl (lv_at hl 1 rfl) ?_
  refine lv_icmp_lt (tgt := 14) hx hb dX4_within_2 (by decide) (fun c_1 => ?_) (fun c_1 => ?_)
  · skip
    refine lv_iconst (v := 0) hx hb dX4_within_14 (by decide) ?_
    exact g_rz hx hb hr hlocks dX4_within_15 (by simp [wIn, bI, c_1])
  · skip
    refine lv_iload_n hx hb dX4_within_5 rfl (lv_at hl 0 rfl) ?_
    refine lv_iload_n hx hb dX4_within_6 rfl (lv_at hl 2 rfl) ?_
    refine lv_icmp_gt (tgt := 14) hx hb dX4_within_7 (by decide) (fun c_2 => ?_) (fun c_2 => ?_)
    · skip
      refine lv_iconst (v := 0) hx hb dX4_within_14 (by decide) ?_
      exact g_rz hx hb hr hlocks dX4_within_15 (by simp [wIn, bI, c_1, c_2])
    · skip
      refine lv_iconst (v := 1) hx hb dX4_within_10 (by decide) ?_
      refine lv_goto (tgt := 15) hx hb dX4_within_11 (by decide) ?_
      exact g_rz hx hb hr hlocks dX4_within_15 (by simp [wIn, bI, c_1, c_2])

theorem h_J9_floorMod_7cf53 : yJ9_floorMod_7cf53.cls ≠ "java/lang/invoke/MethodHandle" ∧ yJ9_floorMod_7cf53.cls ≠ "java/lang/invoke/VarHandle" ∧ (parseMethodDescriptor yJ9_floorMod_7cf53.desc).map (fun d => d.parameters.length) = some 2 := by decide +kernel
set_option maxHeartbeats 4000000 in
set_option maxRecDepth 100000 in
theorem c_J9_floorMod_7cf53 (lz : Launch) (G : gG) (x y : Int32) (hy : ¬ y = 0) : gRd lz yJ9_floorMod_7cf53 wsJ9_floorMod_7cf53 0 G [.int x, .int y] ([]) (jFm x y) := by
  refine g_rdJ (by decide +kernel) rfl (Nat.le_of_ble_eq_true rfl) ?_
  intro pz ez sz mz bz tz cz hx hb hr hml hown hts hlocks hP hK ls hl
  have hl : lv_has ls 3 [(0, .int x), (1, .int y)] := hl
  refine lv_iload_n hx hb dJ9_floorMod_7cf53_0 rfl (lv_at hl 0 rfl) ?_
  refine lv_iload_n hx hb dJ9_floorMod_7cf53_1 rfl (lv_at hl 1 rfl) ?_
  refine lv_irem hx hb dJ9_floorMod_7cf53_2 (by assumption) ?_
  refine lv_istore_n (lv' := [(2, .int (x - x / y * y)), (0, .int x), (1, .int y)]) hx hb dJ9_floorMod_7cf53_3 rfl hl (by decide) rfl (fun ls hl => ?_)
  refine lv_iload_n hx hb dJ9_floorMod_7cf53_4 rfl (lv_at hl 1 rfl) ?_
  refine lv_iload_n hx hb dJ9_floorMod_7cf53_5 rfl (lv_at hl 2 rfl) ?_
  refine lv_ixor hx hb dJ9_floorMod_7cf53_6 ?_
  refine lv_if_ge (tgt := 18) hx hb dJ9_floorMod_7cf53_7 (by decide) (fun c_1 => ?_) (fun c_1 => ?_)
  · skip
    have c_1 := gl_le c_1
    refine lv_iload_n hx hb dJ9_floorMod_7cf53_18 rfl (lv_at hl 0 rfl) ?_
    exact g_ri hx hb hr hlocks dJ9_floorMod_7cf53_19 (by first | rfl | (simp only [jFm, c_1, bI, if_true, if_false, reduceIte, Bool.false_eq_true, ite_true, ite_false]; done) | (simp [jFm, c_1, bI]; done))
  · skip
    have c_1 := gl_nle c_1
    refine lv_iload_n hx hb dJ9_floorMod_7cf53_10 rfl (lv_at hl 0 rfl) ?_
    refine lv_if_eq (tgt := 18) hx hb dJ9_floorMod_7cf53_11 (by decide) (fun c_2 => ?_) (fun c_2 => ?_)
    · skip
      refine lv_iload_n hx hb dJ9_floorMod_7cf53_18 rfl (lv_at hl 0 rfl) ?_
      exact g_ri hx hb hr hlocks dJ9_floorMod_7cf53_19 (by first | rfl | (simp only [jFm, c_1, c_2, bI, if_true, if_false, reduceIte, Bool.false_eq_true, ite_true, ite_false]; done) | (simp [jFm, c_1, c_2, bI]; done))
    · skip
      refine lv_iload_n hx hb dJ9_floorMod_7cf53_14 rfl (lv_at hl 0 rfl) ?_
      refine lv_iload_n hx hb dJ9_floorMod_7cf53_15 rfl (lv_at hl 2 rfl) ?_
      refine lv_iadd hx hb dJ9_floorMod_7cf53_16 ?_
      exact g_ri hx hb hr hlocks dJ9_floorMod_7cf53_17 (by first | rfl | (simp only [jFm, c_1, c_2, bI, if_true, if_false, reduceIte, Bool.false_eq_true, ite_true, ite_false]; done) | (simp [jFm, c_1, c_2, bI]; done))

theorem h_J6_bitCount_0f7a4 : yJ6_bitCount_0f7a4.cls ≠ "java/lang/invoke/MethodHandle" ∧ yJ6_bitCount_0f7a4.cls ≠ "java/lang/invoke/VarHandle" ∧ (parseMethodDescriptor yJ6_bitCount_0f7a4.desc).map (fun d => d.parameters.length) = some 1 := by decide +kernel
set_option maxHeartbeats 4000000 in
set_option maxRecDepth 100000 in
theorem c_J6_bitCount_0f7a4 (lz : Launch) (G : gG) (x : Int32) : gRd lz yJ6_bitCount_0f7a4 wsJ6_bitCount_0f7a4 0 G [.int x] ([]) (jBc x) := by
  refine g_rdJ (by decide +kernel) rfl (Nat.le_of_ble_eq_true rfl) ?_
  intro pz ez sz mz bz tz cz hx hb hr hml hown hts hlocks hP hK ls hl
  have hl : lv_has ls 1 [(0, .int x)] := hl
  have fk265 := hts (.constant RJ6 265 1431655765) (by decide +kernel)
  have fk266 := hts (.constant RJ6 266 858993459) (by decide +kernel)
  have fk267 := hts (.constant RJ6 267 252645135) (by decide +kernel)
  refine lv_iload_n hx hb dJ6_bitCount_0f7a4_0 rfl (lv_at hl 0 rfl) ?_
  refine lv_iload_n hx hb dJ6_bitCount_0f7a4_1 rfl (lv_at hl 0 rfl) ?_
  refine lv_iconst (v := 1) hx hb dJ6_bitCount_0f7a4_2 (by decide) ?_
  refine lv_iushr (v := (x.toUInt32 >>> ((1 : Int32).toUInt32 &&& Int32.toUInt32 31)).toInt32) hx hb dJ6_bitCount_0f7a4_3 rfl ?_
  refine lv_ldcw (v := 1431655765) hx hb hown fk265 dJ6_bitCount_0f7a4_4 ?_
  refine lv_iand hx hb dJ6_bitCount_0f7a4_7 ?_
  refine lv_isub hx hb dJ6_bitCount_0f7a4_8 ?_
  refine g_top (y := jB1 x) rfl ?_
  refine lv_istore_n (lv' := [(0, .int (jB1 x))]) hx hb dJ6_bitCount_0f7a4_9 rfl hl (by decide) rfl (fun ls hl => ?_)
  refine lv_iload_n hx hb dJ6_bitCount_0f7a4_10 rfl (lv_at hl 0 rfl) ?_
  refine lv_ldcw (v := 858993459) hx hb hown fk266 dJ6_bitCount_0f7a4_11 ?_
  refine lv_iand hx hb dJ6_bitCount_0f7a4_14 ?_
  refine lv_iload_n hx hb dJ6_bitCount_0f7a4_15 rfl (lv_at hl 0 rfl) ?_
  refine lv_iconst (v := 2) hx hb dJ6_bitCount_0f7a4_16 (by decide) ?_
  refine lv_iushr (v := ((jB1 x).toUInt32 >>> ((2 : Int32).toUInt32 &&& Int32.toUInt32 31)).toInt32) hx hb dJ6_bitCount_0f7a4_17 rfl ?_
  refine lv_ldcw (v := 858993459) hx hb hown fk266 dJ6_bitCount_0f7a4_18 ?_
  refine lv_iand hx hb dJ6_bitCount_0f7a4_21 ?_
  refine lv_iadd hx hb dJ6_bitCount_0f7a4_22 ?_
  refine g_top (y := jB2 (jB1 x)) rfl ?_
  refine lv_istore_n (lv' := [(0, .int (jB2 (jB1 x)))]) hx hb dJ6_bitCount_0f7a4_23 rfl hl (by decide) rfl (fun ls hl => ?_)
  refine lv_iload_n hx hb dJ6_bitCount_0f7a4_24 rfl (lv_at hl 0 rfl) ?_
  refine lv_iload_n hx hb dJ6_bitCount_0f7a4_25 rfl (lv_at hl 0 rfl) ?_
  refine lv_iconst (v := 4) hx hb dJ6_bitCount_0f7a4_26 (by decide) ?_
  refine lv_iushr (v := ((jB2 (jB1 x)).toUInt32 >>> ((4 : Int32).toUInt32 &&& Int32.toUInt32 31)).toInt32) hx hb dJ6_bitCount_0f7a4_27 rfl ?_
  refine lv_iadd hx hb dJ6_bitCount_0f7a4_28 ?_
  refine lv_ldcw (v := 252645135) hx hb hown fk267 dJ6_bitCount_0f7a4_29 ?_
  refine lv_iand hx hb dJ6_bitCount_0f7a4_32 ?_
  refine g_top (y := jB3 (jB2 (jB1 x))) rfl ?_
  refine lv_istore_n (lv' := [(0, .int (jB3 (jB2 (jB1 x))))]) hx hb dJ6_bitCount_0f7a4_33 rfl hl (by decide) rfl (fun ls hl => ?_)
  refine lv_iload_n hx hb dJ6_bitCount_0f7a4_34 rfl (lv_at hl 0 rfl) ?_
  refine lv_iload_n hx hb dJ6_bitCount_0f7a4_35 rfl (lv_at hl 0 rfl) ?_
  refine lv_bipush (v := 8) hx hb dJ6_bitCount_0f7a4_36 (by decide) ?_
  refine lv_iushr (v := ((jB3 (jB2 (jB1 x))).toUInt32 >>> ((8 : Int32).toUInt32 &&& Int32.toUInt32 31)).toInt32) hx hb dJ6_bitCount_0f7a4_38 rfl ?_
  refine lv_iadd hx hb dJ6_bitCount_0f7a4_39 ?_
  refine g_top (y := jB4 (jB3 (jB2 (jB1 x)))) rfl ?_
  refine lv_istore_n (lv' := [(0, .int (jB4 (jB3 (jB2 (jB1 x)))))]) hx hb dJ6_bitCount_0f7a4_40 rfl hl (by decide) rfl (fun ls hl => ?_)
  refine lv_iload_n hx hb dJ6_bitCount_0f7a4_41 rfl (lv_at hl 0 rfl) ?_
  refine lv_iload_n hx hb dJ6_bitCount_0f7a4_42 rfl (lv_at hl 0 rfl) ?_
  refine lv_bipush (v := 16) hx hb dJ6_bitCount_0f7a4_43 (by decide) ?_
  refine lv_iushr (v := ((jB4 (jB3 (jB2 (jB1 x)))).toUInt32 >>> ((16 : Int32).toUInt32 &&& Int32.toUInt32 31)).toInt32) hx hb dJ6_bitCount_0f7a4_45 rfl ?_
  refine lv_iadd hx hb dJ6_bitCount_0f7a4_46 ?_
  refine g_top (y := jB5 (jB4 (jB3 (jB2 (jB1 x))))) rfl ?_
  refine lv_istore_n (lv' := [(0, .int (jB5 (jB4 (jB3 (jB2 (jB1 x))))))]) hx hb dJ6_bitCount_0f7a4_47 rfl hl (by decide) rfl (fun ls hl => ?_)
  refine lv_iload_n hx hb dJ6_bitCount_0f7a4_48 rfl (lv_at hl 0 rfl) ?_
  refine lv_bipush (v := 63) hx hb dJ6_bitCount_0f7a4_49 (by decide) ?_
  refine lv_iand hx hb dJ6_bitCount_0f7a4_51 ?_
  exact g_ri hx hb hr hlocks dJ6_bitCount_0f7a4_52 rfl

theorem i_X2_isHushed_X2 : ∀ w ∈ wsX20, w ∈ wsX2_isHushed := by decide +kernel
theorem h_X2_isHushed : yX2_isHushed.cls = RX2 ∧ yX2_isHushed.cls ≠ "java/lang/invoke/MethodHandle" ∧ yX2_isHushed.cls ≠ "java/lang/invoke/VarHandle" ∧ (parseMethodDescriptor yX2_isHushed.desc).map (fun d => d.parameters.length) = some 1 := by decide +kernel
set_option maxHeartbeats 4000000 in
set_option maxRecDepth 100000 in
theorem c_X2_isHushed (lz : Launch) (G : gG) (a : Nat → Nat) (m : MoS) (s : Int32) : gRd lz yX2_isHushed wsX2_isHushed 0 G [.ref (a 0), .int s] (wMo a G.2.1 m) (bI (hasB m.hushed s)) := by
  refine g_rd (by decide) rfl (Nat.le_of_ble_eq_true rfl) ?_
  intro pz ez sz mz bz tz cz hx hb hr hml hown hts hlocks hP hK ls hl
  have hl : lv_has ls 2 [(0, .ref (a 0)), (1, .int s)] := hl
  have f37 := hts (.fieldLink RX2 37 "WhisperRing$Moment" "hushed" "I") (by decide +kernel)
  refine lv_aload_n hx hb dX2_isHushed_0 rfl (lv_at hl 0 rfl) ?_
  refine va_get (D := G.1) (ci := 2) (v := .int m.hushed) (C := RX2) (T := TX2) (N := 10) hx hb hts i_X2_isHushed_X2 hown hK.1 hP 0 rfl rfl 2 (by decide) f37 (fun _ h9 => h9) rfl dX2_isHushed_1 ?_
  refine lv_iload_n hx hb dX2_isHushed_4 rfl (lv_at hl 1 rfl) ?_
  refine lv_ishr hx hb dX2_isHushed_5 ?_
  refine lv_iconst (v := 1) hx hb dX2_isHushed_6 (by decide) ?_
  refine lv_iand hx hb dX2_isHushed_7 ?_
  refine lv_iconst (v := 1) hx hb dX2_isHushed_8 (by decide) ?_
  refine lv_icmp_ne (tgt := 16) hx hb dX2_isHushed_9 (by decide) (fun c_1 => ?_) (fun c_1 => ?_)
  · skip
    refine lv_iconst (v := 0) hx hb dX2_isHushed_16 (by decide) ?_
    exact g_rz hx hb hr hlocks dX2_isHushed_17 (by simp [hasB, bI, c_1])
  · skip
    refine lv_iconst (v := 1) hx hb dX2_isHushed_12 (by decide) ?_
    refine lv_goto (tgt := 17) hx hb dX2_isHushed_13 (by decide) ?_
    exact g_rz hx hb hr hlocks dX2_isHushed_17 (by simp [hasB, bI, c_1])

theorem i_X0_hasPlace_X0 : ∀ w ∈ wsX00, w ∈ wsX0_hasPlace := by decide +kernel
theorem h_X0_hasPlace : yX0_hasPlace.cls = RX0 ∧ yX0_hasPlace.cls ≠ "java/lang/invoke/MethodHandle" ∧ yX0_hasPlace.cls ≠ "java/lang/invoke/VarHandle" ∧ (parseMethodDescriptor yX0_hasPlace.desc).map (fun d => d.parameters.length) = some 1 := by decide +kernel
set_option maxHeartbeats 4000000 in
set_option maxRecDepth 100000 in
theorem c_X0_hasPlace (lz : Launch) (G : gG) (a : Nat → Nat) (h : HaS) (p : Int32) : gRd lz yX0_hasPlace wsX0_hasPlace 1 G [.ref (a 0), .int p] (wHa a G.2.1 h) (bI (wIn p 0 (h.pl - 1))) := by
  refine g_rd (by decide) rfl (Nat.le_of_ble_eq_true rfl) ?_
  intro pz ez sz mz bz tz cz hx hb hr hml hown hts hlocks hP hK ls hl
  have hl : lv_has ls 2 [(0, .ref (a 0)), (1, .int p)] := hl
  have f9 := hts (.fieldLink RX0 9 "WhisperRing$Hall" "places" "I") (by decide +kernel)
  have fniX4 := hts (.initialized RX4) (by decide +kernel)
  have fnsX4_within := hts (.static yX4_within) (by decide +kernel)
  refine lv_iload_n hx hb dX0_hasPlace_0 rfl (lv_at hl 1 rfl) ?_
  refine lv_iconst (v := 0) hx hb dX0_hasPlace_1 (by decide) ?_
  refine lv_aload_n hx hb dX0_hasPlace_2 rfl (lv_at hl 0 rfl) ?_
  refine va_get (D := G.1) (ci := 0) (v := .int h.pl) (C := RX0) (T := TX0) (N := 6) hx hb hts i_X0_hasPlace_X0 hown hK.1 hP 0 rfl rfl 0 (by decide) f9 (fun _ h9 => h9) rfl dX0_hasPlace_3 ?_
  refine lv_iconst (v := 1) hx hb dX0_hasPlace_6 (by decide) ?_
  refine lv_isub hx hb dX0_hasPlace_7 ?_
  refine g_rdN (As := [.int p, .int 0, .int (h.pl - 1)]) (rest := []) (nL := 2) hx hb hml hown hts (c_X4_within lz G p 0 (h.pl - 1)) gX0_hasPlace_X4_within_n38 rfl hK.2.1 fniX4 fnsX4_within h_X4_within ⟨Nat.le_of_ble_eq_true rfl, Nat.le_of_ble_eq_true rfl⟩ hK gP_nil rfl hl.1 rfl (Nat.le_of_ble_eq_true rfl) ⟨Nat.le_refl _, Nat.le_refl _⟩ dX0_hasPlace_8 ?_
  exact g_rz hx hb hr hlocks dX0_hasPlace_11 rfl

theorem i_X0_hasSaying_X0 : ∀ w ∈ wsX00, w ∈ wsX0_hasSaying := by decide +kernel
theorem i_X0_hasSaying_X2 : ∀ w ∈ wsX20, w ∈ wsX0_hasSaying := by decide +kernel
theorem h_X0_hasSaying : yX0_hasSaying.cls = RX0 ∧ yX0_hasSaying.cls ≠ "java/lang/invoke/MethodHandle" ∧ yX0_hasSaying.cls ≠ "java/lang/invoke/VarHandle" ∧ (parseMethodDescriptor yX0_hasSaying.desc).map (fun d => d.parameters.length) = some 1 := by decide +kernel
set_option maxHeartbeats 4000000 in
set_option maxRecDepth 100000 in
theorem c_X0_hasSaying (lz : Launch) (G : gG) (a : Nat → Nat) (h : HaS) (s : Int32) : gRd lz yX0_hasSaying wsX0_hasSaying 1 G [.ref (a 0), .int s] (wHa a G.2.1 h) (bI (wIn s 0 (h.mo.sayings - 1))) := by
  refine g_rd (by decide) rfl (Nat.le_of_ble_eq_true rfl) ?_
  intro pz ez sz mz bz tz cz hx hb hr hml hown hts hlocks hP hK ls hl
  have hl : lv_has ls 2 [(0, .ref (a 0)), (1, .int s)] := hl
  have f21 := hts (.fieldLink RX0 21 "WhisperRing$Hall" "now" "LWhisperRing$Moment;") (by decide +kernel)
  have f42 := hts (.fieldLink RX0 42 "WhisperRing$Moment" "sayings" "I") (by decide +kernel)
  have fniX4 := hts (.initialized RX4) (by decide +kernel)
  have fnsX4_within := hts (.static yX4_within) (by decide +kernel)
  refine lv_iload_n hx hb dX0_hasSaying_0 rfl (lv_at hl 1 rfl) ?_
  refine lv_iconst (v := 0) hx hb dX0_hasSaying_1 (by decide) ?_
  refine lv_aload_n hx hb dX0_hasSaying_2 rfl (lv_at hl 0 rfl) ?_
  refine va_get (D := G.1) (ci := 0) (v := .ref (a 1)) (C := RX0) (T := TX0) (N := 6) hx hb hts i_X0_hasSaying_X0 hown hK.1 hP 0 rfl rfl 3 (by decide) f21 (fun _ h9 => h9) rfl dX0_hasSaying_3 ?_
  refine va_get (D := G.1) (ci := 2) (v := .int h.mo.sayings) (C := RX2) (T := TX2) (N := 10) hx hb hts i_X0_hasSaying_X2 hown hK.1 hP 1 rfl rfl 1 (by decide) f42 (fun _ h9 => h9) rfl dX0_hasSaying_6 ?_
  refine lv_iconst (v := 1) hx hb dX0_hasSaying_9 (by decide) ?_
  refine lv_isub hx hb dX0_hasSaying_10 ?_
  refine g_rdN (As := [.int s, .int 0, .int (h.mo.sayings - 1)]) (rest := []) (nL := 2) hx hb hml hown hts (c_X4_within lz G s 0 (h.mo.sayings - 1)) gX0_hasSaying_X4_within_n38 rfl hK.2.1 fniX4 fnsX4_within h_X4_within ⟨Nat.le_of_ble_eq_true rfl, Nat.le_of_ble_eq_true rfl⟩ hK gP_nil rfl hl.1 rfl (Nat.le_of_ble_eq_true rfl) ⟨Nat.le_refl _, Nat.le_refl _⟩ dX0_hasSaying_11 ?_
  exact g_rz hx hb hr hlocks dX0_hasSaying_14 rfl

theorem i_X0_isNiche_X0 : ∀ w ∈ wsX00, w ∈ wsX0_isNiche := by decide +kernel
theorem h_X0_isNiche : yX0_isNiche.cls = RX0 ∧ yX0_isNiche.cls ≠ "java/lang/invoke/MethodHandle" ∧ yX0_isNiche.cls ≠ "java/lang/invoke/VarHandle" ∧ (parseMethodDescriptor yX0_isNiche.desc).map (fun d => d.parameters.length) = some 1 := by decide +kernel
set_option maxHeartbeats 4000000 in
set_option maxRecDepth 100000 in
theorem c_X0_isNiche (lz : Launch) (G : gG) (a : Nat → Nat) (h : HaS) (p : Int32) : gRd lz yX0_isNiche wsX0_isNiche 0 G [.ref (a 0), .int p] (wHa a G.2.1 h) (bI (hasB h.nich p)) := by
  refine g_rd (by decide) rfl (Nat.le_of_ble_eq_true rfl) ?_
  intro pz ez sz mz bz tz cz hx hb hr hml hown hts hlocks hP hK ls hl
  have hl : lv_has ls 2 [(0, .ref (a 0)), (1, .int p)] := hl
  have f32 := hts (.fieldLink RX0 32 "WhisperRing$Hall" "niches" "I") (by decide +kernel)
  refine lv_aload_n hx hb dX0_isNiche_0 rfl (lv_at hl 0 rfl) ?_
  refine va_get (D := G.1) (ci := 0) (v := .int h.nich) (C := RX0) (T := TX0) (N := 6) hx hb hts i_X0_isNiche_X0 hown hK.1 hP 0 rfl rfl 2 (by decide) f32 (fun _ h9 => h9) rfl dX0_isNiche_1 ?_
  refine lv_iload_n hx hb dX0_isNiche_4 rfl (lv_at hl 1 rfl) ?_
  refine lv_ishr hx hb dX0_isNiche_5 ?_
  refine lv_iconst (v := 1) hx hb dX0_isNiche_6 (by decide) ?_
  refine lv_iand hx hb dX0_isNiche_7 ?_
  refine lv_iconst (v := 1) hx hb dX0_isNiche_8 (by decide) ?_
  refine lv_icmp_ne (tgt := 16) hx hb dX0_isNiche_9 (by decide) (fun c_1 => ?_) (fun c_1 => ?_)
  · skip
    refine lv_iconst (v := 0) hx hb dX0_isNiche_16 (by decide) ?_
    exact g_rz hx hb hr hlocks dX0_isNiche_17 (by simp [hasB, bI, c_1])
  · skip
    refine lv_iconst (v := 1) hx hb dX0_isNiche_12 (by decide) ?_
    refine lv_goto (tgt := 17) hx hb dX0_isNiche_13 (by decide) ?_
    exact g_rz hx hb hr hlocks dX0_isNiche_17 (by simp [hasB, bI, c_1])

theorem i_X0_reach_X0 : ∀ w ∈ wsX00, w ∈ wsX0_reach := by decide +kernel
theorem h_X0_reach : yX0_reach.cls = RX0 ∧ yX0_reach.cls ≠ "java/lang/invoke/MethodHandle" ∧ yX0_reach.cls ≠ "java/lang/invoke/VarHandle" ∧ (parseMethodDescriptor yX0_reach.desc).map (fun d => d.parameters.length) = some 3 := by decide +kernel
set_option maxHeartbeats 4000000 in
set_option maxRecDepth 100000 in
theorem c_X0_reach (lz : Launch) (G : gG) (a : Nat → Nat) (h : HaS) (p way gone : Int32) : gRd lz yX0_reach wsX0_reach 1 G [.ref (a 0), .int p, .int way, .int gone] (wHa a G.2.1 h) (hReach h p way gone) := by
  refine g_rd (by decide) rfl (Nat.le_of_ble_eq_true rfl) ?_
  intro pz ez sz mz bz tz cz hx hb hr hml hown hts hlocks hP hK ls hl
  have hl : lv_has ls 5 [(0, .ref (a 0)), (1, .int p), (2, .int way), (3, .int gone)] := hl
  have f9 := hts (.fieldLink RX0 9 "WhisperRing$Hall" "places" "I") (by decide +kernel)
  refine lv_iload_n hx hb dX0_reach_0 rfl (lv_at hl 2 rfl) ?_
  refine lv_if_ne (tgt := 10) hx hb dX0_reach_1 (by decide) (fun c_1 => ?_) (fun c_1 => ?_)
  · skip
    refine lv_iload_n hx hb dX0_reach_10 rfl (lv_at hl 1 rfl) ?_
    refine lv_iload_n hx hb dX0_reach_11 rfl (lv_at hl 3 rfl) ?_
    refine lv_isub hx hb dX0_reach_12 ?_
    refine lv_istore (lv' := [(4, .int (p - gone)), (0, .ref (a 0)), (1, .int p), (2, .int way), (3, .int gone)]) hx hb dX0_reach_13 hl (by decide) rfl (fun ls hl => ?_)
    refine lv_aload_n hx hb dX0_reach_15 rfl (lv_at hl 1 rfl) ?_
    refine va_get (D := G.1) (ci := 0) (v := .int h.pl) (C := RX0) (T := TX0) (N := 6) hx hb hts i_X0_reach_X0 hown hK.1 hP 0 rfl rfl 0 (by decide) f9 (fun _ h9 => h9) rfl dX0_reach_16 ?_
    refine lv_if_le (tgt := 34) hx hb dX0_reach_19 (by decide) (fun c_2 => ?_) (fun c_2 => ?_)
    · skip
      have c_2 := gl_le c_2
      refine lv_iconst (v := 0) hx hb dX0_reach_34 (by decide) ?_
      exact g_ri hx hb hr hlocks dX0_reach_35 (by first | rfl | (simp only [hReach, c_1, c_2, bI, if_true, if_false, reduceIte, Bool.false_eq_true, ite_true, ite_false]; done) | (simp [hReach, c_1, c_2, bI]; done))
    · skip
      have c_2 := gl_nle c_2
      have hne : ¬ h.pl = 0 := fun q => by rw [q] at c_2; exact absurd c_2 (by decide)
      refine lv_iload hx hb dX0_reach_22 (lv_at hl 0 rfl) ?_
      refine lv_aload_n hx hb dX0_reach_24 rfl (lv_at hl 1 rfl) ?_
      refine va_get (D := G.1) (ci := 0) (v := .int h.pl) (C := RX0) (T := TX0) (N := 6) hx hb hts i_X0_reach_X0 hown hK.1 hP 0 rfl rfl 0 (by decide) f9 (fun _ h9 => h9) rfl dX0_reach_25 ?_
      refine g_rdS (As := [.int (p - gone), .int h.pl]) (rest := []) (nL := 5) hx hb hml hown hts (c_J9_floorMod_7cf53 lz G (p - gone) h.pl (by assumption)) gX0_reach_J9_floorMod_7cf53 rfl h_J9_floorMod_7cf53 ⟨Nat.le_of_ble_eq_true rfl, Nat.le_of_ble_eq_true rfl⟩ hK gP_nil rfl hl.1 rfl (Nat.le_of_ble_eq_true rfl) ⟨Nat.le_refl _, Nat.le_refl _⟩ dX0_reach_28 ?_
      refine lv_goto (tgt := 35) hx hb dX0_reach_31 (by decide) ?_
      exact g_ri hx hb hr hlocks dX0_reach_35 (by first | rfl | (simp only [hReach, c_1, c_2, bI, if_true, if_false, reduceIte, Bool.false_eq_true, ite_true, ite_false]; done) | (simp [hReach, c_1, c_2, bI]; done))
  · skip
    refine lv_iload_n hx hb dX0_reach_4 rfl (lv_at hl 1 rfl) ?_
    refine lv_iload_n hx hb dX0_reach_5 rfl (lv_at hl 3 rfl) ?_
    refine lv_iadd hx hb dX0_reach_6 ?_
    refine lv_goto (tgt := 13) hx hb dX0_reach_7 (by decide) ?_
    refine lv_istore (lv' := [(4, .int (p + gone)), (0, .ref (a 0)), (1, .int p), (2, .int way), (3, .int gone)]) hx hb dX0_reach_13 hl (by decide) rfl (fun ls hl => ?_)
    refine lv_aload_n hx hb dX0_reach_15 rfl (lv_at hl 1 rfl) ?_
    refine va_get (D := G.1) (ci := 0) (v := .int h.pl) (C := RX0) (T := TX0) (N := 6) hx hb hts i_X0_reach_X0 hown hK.1 hP 0 rfl rfl 0 (by decide) f9 (fun _ h9 => h9) rfl dX0_reach_16 ?_
    refine lv_if_le (tgt := 34) hx hb dX0_reach_19 (by decide) (fun c_3 => ?_) (fun c_3 => ?_)
    · skip
      have c_3 := gl_le c_3
      refine lv_iconst (v := 0) hx hb dX0_reach_34 (by decide) ?_
      exact g_ri hx hb hr hlocks dX0_reach_35 (by first | rfl | (simp only [hReach, c_1, c_3, bI, if_true, if_false, reduceIte, Bool.false_eq_true, ite_true, ite_false]; done) | (simp [hReach, c_1, c_3, bI]; done))
    · skip
      have c_3 := gl_nle c_3
      have hne : ¬ h.pl = 0 := fun q => by rw [q] at c_3; exact absurd c_3 (by decide)
      refine lv_iload hx hb dX0_reach_22 (lv_at hl 0 rfl) ?_
      refine lv_aload_n hx hb dX0_reach_24 rfl (lv_at hl 1 rfl) ?_
      refine va_get (D := G.1) (ci := 0) (v := .int h.pl) (C := RX0) (T := TX0) (N := 6) hx hb hts i_X0_reach_X0 hown hK.1 hP 0 rfl rfl 0 (by decide) f9 (fun _ h9 => h9) rfl dX0_reach_25 ?_
      refine g_rdS (As := [.int (p + gone), .int h.pl]) (rest := []) (nL := 5) hx hb hml hown hts (c_J9_floorMod_7cf53 lz G (p + gone) h.pl (by assumption)) gX0_reach_J9_floorMod_7cf53 rfl h_J9_floorMod_7cf53 ⟨Nat.le_of_ble_eq_true rfl, Nat.le_of_ble_eq_true rfl⟩ hK gP_nil rfl hl.1 rfl (Nat.le_of_ble_eq_true rfl) ⟨Nat.le_refl _, Nat.le_refl _⟩ dX0_reach_28 ?_
      refine lv_goto (tgt := 35) hx hb dX0_reach_31 (by decide) ?_
      exact g_ri hx hb hr hlocks dX0_reach_35 (by first | rfl | (simp only [hReach, c_1, c_3, bI, if_true, if_false, reduceIte, Bool.false_eq_true, ite_true, ite_false]; done) | (simp [hReach, c_1, c_3, bI]; done))

theorem i_X0_lapsOf_X0 : ∀ w ∈ wsX00, w ∈ wsX0_lapsOf := by decide +kernel
theorem h_X0_lapsOf : yX0_lapsOf.cls = RX0 ∧ yX0_lapsOf.cls ≠ "java/lang/invoke/MethodHandle" ∧ yX0_lapsOf.cls ≠ "java/lang/invoke/VarHandle" ∧ (parseMethodDescriptor yX0_lapsOf.desc).map (fun d => d.parameters.length) = some 1 := by decide +kernel
set_option maxHeartbeats 4000000 in
set_option maxRecDepth 100000 in
theorem c_X0_lapsOf (lz : Launch) (G : gG) (a : Nat → Nat) (h : HaS) (gone : Int32) : gRd lz yX0_lapsOf wsX0_lapsOf 0 G [.ref (a 0), .int gone] (wHa a G.2.1 h) (hLaps h gone) := by
  refine g_rd (by decide) rfl (Nat.le_of_ble_eq_true rfl) ?_
  intro pz ez sz mz bz tz cz hx hb hr hml hown hts hlocks hP hK ls hl
  have hl : lv_has ls 2 [(0, .ref (a 0)), (1, .int gone)] := hl
  have f9 := hts (.fieldLink RX0 9 "WhisperRing$Hall" "places" "I") (by decide +kernel)
  refine lv_aload_n hx hb dX0_lapsOf_0 rfl (lv_at hl 0 rfl) ?_
  refine va_get (D := G.1) (ci := 0) (v := .int h.pl) (C := RX0) (T := TX0) (N := 6) hx hb hts i_X0_lapsOf_X0 hown hK.1 hP 0 rfl rfl 0 (by decide) f9 (fun _ h9 => h9) rfl dX0_lapsOf_1 ?_
  refine lv_if_le (tgt := 16) hx hb dX0_lapsOf_4 (by decide) (fun c_1 => ?_) (fun c_1 => ?_)
  · skip
    have c_1 := gl_le c_1
    refine lv_iconst (v := 0) hx hb dX0_lapsOf_16 (by decide) ?_
    exact g_ri hx hb hr hlocks dX0_lapsOf_17 (by first | rfl | (simp only [hLaps, c_1, bI, if_true, if_false, reduceIte, Bool.false_eq_true, ite_true, ite_false]; done) | (simp [hLaps, c_1, bI]; done))
  · skip
    have c_1 := gl_nle c_1
    have hne : ¬ h.pl = 0 := fun q => by rw [q] at c_1; exact absurd c_1 (by decide)
    refine lv_iload_n hx hb dX0_lapsOf_7 rfl (lv_at hl 1 rfl) ?_
    refine lv_aload_n hx hb dX0_lapsOf_8 rfl (lv_at hl 0 rfl) ?_
    refine va_get (D := G.1) (ci := 0) (v := .int h.pl) (C := RX0) (T := TX0) (N := 6) hx hb hts i_X0_lapsOf_X0 hown hK.1 hP 0 rfl rfl 0 (by decide) f9 (fun _ h9 => h9) rfl dX0_lapsOf_9 ?_
    refine lv_idiv hx hb dX0_lapsOf_12 (by assumption) ?_
    refine lv_goto (tgt := 17) hx hb dX0_lapsOf_13 (by decide) ?_
    exact g_ri hx hb hr hlocks dX0_lapsOf_17 (by first | rfl | (simp only [hLaps, c_1, bI, if_true, if_false, reduceIte, Bool.false_eq_true, ite_true, ite_false]; done) | (simp [hLaps, c_1, bI]; done))

theorem i_X0_strengthLeft_X0 : ∀ w ∈ wsX00, w ∈ wsX0_strengthLeft := by decide +kernel
theorem h_X0_strengthLeft : yX0_strengthLeft.cls = RX0 ∧ yX0_strengthLeft.cls ≠ "java/lang/invoke/MethodHandle" ∧ yX0_strengthLeft.cls ≠ "java/lang/invoke/VarHandle" ∧ (parseMethodDescriptor yX0_strengthLeft.desc).map (fun d => d.parameters.length) = some 2 := by decide +kernel
set_option maxHeartbeats 4000000 in
set_option maxRecDepth 100000 in
theorem c_X0_strengthLeft (lz : Launch) (G : gG) (a : Nat → Nat) (h : HaS) (loud gone : Int32) : gRd lz yX0_strengthLeft wsX0_strengthLeft 1 G [.ref (a 0), .int loud, .int gone] (wHa a G.2.1 h) (hLeft h loud gone) := by
  refine g_rd (by decide) rfl (Nat.le_of_ble_eq_true rfl) ?_
  intro pz ez sz mz bz tz cz hx hb hr hml hown hts hlocks hP hK ls hl
  have hl : lv_has ls 3 [(0, .ref (a 0)), (1, .int loud), (2, .int gone)] := hl
  have f15 := hts (.fieldLink RX0 15 "WhisperRing$Hall" "loss" "I") (by decide +kernel)
  have f55 := hts (.methodLink RX0 55 Lib.Math.max.name) (by decide +kernel)
  have fmxc := hts (.code Lib.Math.max.name Lib.Math.max.code 2 (some .int)) (by decide +kernel)
  have fmxi := hts (.initialized "java/lang/Math") (by decide +kernel)
  have fmxs := hts (.static Lib.Math.max.name) (by decide +kernel)
  refine lv_iconst (v := 0) hx hb dX0_strengthLeft_0 (by decide) ?_
  refine lv_iload_n hx hb dX0_strengthLeft_1 rfl (lv_at hl 1 rfl) ?_
  refine lv_aload_n hx hb dX0_strengthLeft_2 rfl (lv_at hl 0 rfl) ?_
  refine va_get (D := G.1) (ci := 0) (v := .int h.loss) (C := RX0) (T := TX0) (N := 6) hx hb hts i_X0_strengthLeft_X0 hown hK.1 hP 0 rfl rfl 1 (by decide) f15 (fun _ h9 => h9) rfl dX0_strengthLeft_3 ?_
  refine lv_aload_n hx hb dX0_strengthLeft_6 rfl (lv_at hl 0 rfl) ?_
  refine lv_iload_n hx hb dX0_strengthLeft_7 rfl (lv_at hl 2 rfl) ?_
  refine g_rdV (As := [.int gone]) (rest := [.int h.loss, .int loud, .int 0]) (nL := 3) hx hb hml hown hts (c_X0_lapsOf lz G a h gone) gX0_strengthLeft_X0_lapsOf rfl h_X0_lapsOf ⟨Nat.le_of_ble_eq_true rfl, Nat.le_of_ble_eq_true rfl⟩ hK hP (ci := 0) rfl rfl rfl rfl hl.1 rfl (Nat.le_of_ble_eq_true rfl) ⟨Nat.le_refl _, Nat.le_refl _⟩ dX0_strengthLeft_8 ?_
  refine lv_imul hx hb dX0_strengthLeft_11 ?_
  refine lv_isub hx hb dX0_strengthLeft_12 ?_
  refine va_mmax hx hb (hml.trans hl.1.symm) hown f55 fmxs fmxi fmxc (Nat.le_of_ble_eq_true rfl) (Nat.le_of_ble_eq_true rfl) (Nat.le_refl _) (Nat.le_refl _) dX0_strengthLeft_13 ?_
  exact g_ri hx hb hr hlocks dX0_strengthLeft_16 (by first | rfl | (simp only [hLeft, bI, if_true, if_false, reduceIte, Bool.false_eq_true, ite_true, ite_false]; done) | (simp [hLeft, bI]; done))

theorem i_X0_goneAfter_X0 : ∀ w ∈ wsX00, w ∈ wsX0_goneAfter := by decide +kernel
theorem i_X0_goneAfter_X2 : ∀ w ∈ wsX20, w ∈ wsX0_goneAfter := by decide +kernel
theorem h_X0_goneAfter : yX0_goneAfter.cls = RX0 ∧ yX0_goneAfter.cls ≠ "java/lang/invoke/MethodHandle" ∧ yX0_goneAfter.cls ≠ "java/lang/invoke/VarHandle" ∧ (parseMethodDescriptor yX0_goneAfter.desc).map (fun d => d.parameters.length) = some 2 := by decide +kernel
set_option maxHeartbeats 4000000 in
set_option maxRecDepth 100000 in
theorem c_X0_goneAfter (lz : Launch) (G : gG) (a : Nat → Nat) (h : HaS) (s : Nat) (k : Int32) (hs : s < 8) : gRd lz yX0_goneAfter wsX0_goneAfter 0 G [.ref (a 0), .int (nI s), .int k] (wHa a G.2.1 h) (hGone h s k) := by
  refine g_rd (by decide) rfl (Nat.le_of_ble_eq_true rfl) ?_
  intro pz ez sz mz bz tz cz hx hb hr hml hown hts hlocks hP hK ls hl
  have hl : lv_has ls 3 [(0, .ref (a 0)), (1, .int (nI s)), (2, .int k)] := hl
  have f21 := hts (.fieldLink RX0 21 "WhisperRing$Hall" "now" "LWhisperRing$Moment;") (by decide +kernel)
  have f58 := hts (.fieldLink RX0 58 "WhisperRing$Moment" "speed" "[I") (by decide +kernel)
  have f61 := hts (.fieldLink RX0 61 "WhisperRing$Moment" "tick" "I") (by decide +kernel)
  have f64 := hts (.fieldLink RX0 64 "WhisperRing$Moment" "saidAt" "[I") (by decide +kernel)
  refine lv_aload_n hx hb dX0_goneAfter_0 rfl (lv_at hl 0 rfl) ?_
  refine va_get (D := G.1) (ci := 0) (v := .ref (a 1)) (C := RX0) (T := TX0) (N := 6) hx hb hts i_X0_goneAfter_X0 hown hK.1 hP 0 rfl rfl 3 (by decide) f21 (fun _ h9 => h9) rfl dX0_goneAfter_1 ?_
  refine va_get (D := G.1) (ci := 2) (v := .ref (a 3)) (C := RX2) (T := TX2) (N := 10) hx hb hts i_X0_goneAfter_X2 hown hK.1 hP 1 rfl rfl 5 (by decide) f58 (fun _ h9 => h9) rfl dX0_goneAfter_4 ?_
  refine lv_iload_n hx hb dX0_goneAfter_7 rfl (lv_at hl 1 rfl) ?_
  refine g_iald hx hb hK.1 hP 3 0 rfl rfl (i := s) (by omega) (by decide) dX0_goneAfter_8 ?_
  refine lv_aload_n hx hb dX0_goneAfter_9 rfl (lv_at hl 0 rfl) ?_
  refine va_get (D := G.1) (ci := 0) (v := .ref (a 1)) (C := RX0) (T := TX0) (N := 6) hx hb hts i_X0_goneAfter_X0 hown hK.1 hP 0 rfl rfl 3 (by decide) f21 (fun _ h9 => h9) rfl dX0_goneAfter_10 ?_
  refine va_get (D := G.1) (ci := 2) (v := .int h.mo.tick) (C := RX2) (T := TX2) (N := 10) hx hb hts i_X0_goneAfter_X2 hown hK.1 hP 1 rfl rfl 0 (by decide) f61 (fun _ h9 => h9) rfl dX0_goneAfter_13 ?_
  refine lv_iload_n hx hb dX0_goneAfter_16 rfl (lv_at hl 2 rfl) ?_
  refine lv_iadd hx hb dX0_goneAfter_17 ?_
  refine lv_aload_n hx hb dX0_goneAfter_18 rfl (lv_at hl 0 rfl) ?_
  refine va_get (D := G.1) (ci := 0) (v := .ref (a 1)) (C := RX0) (T := TX0) (N := 6) hx hb hts i_X0_goneAfter_X0 hown hK.1 hP 0 rfl rfl 3 (by decide) f21 (fun _ h9 => h9) rfl dX0_goneAfter_19 ?_
  refine va_get (D := G.1) (ci := 2) (v := .ref (a 6)) (C := RX2) (T := TX2) (N := 10) hx hb hts i_X0_goneAfter_X2 hown hK.1 hP 1 rfl rfl 8 (by decide) f64 (fun _ h9 => h9) rfl dX0_goneAfter_22 ?_
  refine lv_iload_n hx hb dX0_goneAfter_25 rfl (lv_at hl 1 rfl) ?_
  refine g_iald hx hb hK.1 hP 6 0 rfl rfl (i := s) (by omega) (by decide) dX0_goneAfter_26 ?_
  refine lv_isub hx hb dX0_goneAfter_27 ?_
  refine lv_imul hx hb dX0_goneAfter_28 ?_
  exact g_ri hx hb hr hlocks dX0_goneAfter_29 rfl

theorem i_X0_placeAfter_X0 : ∀ w ∈ wsX00, w ∈ wsX0_placeAfter := by decide +kernel
theorem i_X0_placeAfter_X2 : ∀ w ∈ wsX20, w ∈ wsX0_placeAfter := by decide +kernel
theorem h_X0_placeAfter : yX0_placeAfter.cls = RX0 ∧ yX0_placeAfter.cls ≠ "java/lang/invoke/MethodHandle" ∧ yX0_placeAfter.cls ≠ "java/lang/invoke/VarHandle" ∧ (parseMethodDescriptor yX0_placeAfter.desc).map (fun d => d.parameters.length) = some 2 := by decide +kernel
set_option maxHeartbeats 4000000 in
set_option maxRecDepth 100000 in
theorem c_X0_placeAfter (lz : Launch) (G : gG) (a : Nat → Nat) (h : HaS) (s : Nat) (k : Int32) (hs : s < 8) : gRd lz yX0_placeAfter wsX0_placeAfter 2 G [.ref (a 0), .int (nI s), .int k] (wHa a G.2.1 h) (hPlace h s k) := by
  refine g_rd (by decide) rfl (Nat.le_of_ble_eq_true rfl) ?_
  intro pz ez sz mz bz tz cz hx hb hr hml hown hts hlocks hP hK ls hl
  have hl : lv_has ls 3 [(0, .ref (a 0)), (1, .int (nI s)), (2, .int k)] := hl
  have f21 := hts (.fieldLink RX0 21 "WhisperRing$Hall" "now" "LWhisperRing$Moment;") (by decide +kernel)
  have f67 := hts (.fieldLink RX0 67 "WhisperRing$Moment" "from" "[I") (by decide +kernel)
  have f70 := hts (.fieldLink RX0 70 "WhisperRing$Moment" "way" "[I") (by decide +kernel)
  refine lv_aload_n hx hb dX0_placeAfter_0 rfl (lv_at hl 0 rfl) ?_
  refine lv_aload_n hx hb dX0_placeAfter_1 rfl (lv_at hl 0 rfl) ?_
  refine va_get (D := G.1) (ci := 0) (v := .ref (a 1)) (C := RX0) (T := TX0) (N := 6) hx hb hts i_X0_placeAfter_X0 hown hK.1 hP 0 rfl rfl 3 (by decide) f21 (fun _ h9 => h9) rfl dX0_placeAfter_2 ?_
  refine va_get (D := G.1) (ci := 2) (v := .ref (a 2)) (C := RX2) (T := TX2) (N := 10) hx hb hts i_X0_placeAfter_X2 hown hK.1 hP 1 rfl rfl 4 (by decide) f67 (fun _ h9 => h9) rfl dX0_placeAfter_5 ?_
  refine lv_iload_n hx hb dX0_placeAfter_8 rfl (lv_at hl 1 rfl) ?_
  refine g_iald hx hb hK.1 hP 2 0 rfl rfl (i := s) (by omega) (by decide) dX0_placeAfter_9 ?_
  refine lv_aload_n hx hb dX0_placeAfter_10 rfl (lv_at hl 0 rfl) ?_
  refine va_get (D := G.1) (ci := 0) (v := .ref (a 1)) (C := RX0) (T := TX0) (N := 6) hx hb hts i_X0_placeAfter_X0 hown hK.1 hP 0 rfl rfl 3 (by decide) f21 (fun _ h9 => h9) rfl dX0_placeAfter_11 ?_
  refine va_get (D := G.1) (ci := 2) (v := .ref (a 4)) (C := RX2) (T := TX2) (N := 10) hx hb hts i_X0_placeAfter_X2 hown hK.1 hP 1 rfl rfl 6 (by decide) f70 (fun _ h9 => h9) rfl dX0_placeAfter_14 ?_
  refine lv_iload_n hx hb dX0_placeAfter_17 rfl (lv_at hl 1 rfl) ?_
  refine g_iald hx hb hK.1 hP 4 0 rfl rfl (i := s) (by omega) (by decide) dX0_placeAfter_18 ?_
  refine lv_aload_n hx hb dX0_placeAfter_19 rfl (lv_at hl 0 rfl) ?_
  refine lv_iload_n hx hb dX0_placeAfter_20 rfl (lv_at hl 1 rfl) ?_
  refine lv_iload_n hx hb dX0_placeAfter_21 rfl (lv_at hl 2 rfl) ?_
  refine g_rdV (As := [.int (nI s), .int k]) (rest := [.int (h.mo.way s), .int (h.mo.frm s), .ref (a 0)]) (nL := 3) hx hb hml hown hts (c_X0_goneAfter lz G a h s k (by omega)) gX0_placeAfter_X0_goneAfter rfl h_X0_goneAfter ⟨Nat.le_of_ble_eq_true rfl, Nat.le_of_ble_eq_true rfl⟩ hK hP (ci := 0) rfl rfl rfl rfl hl.1 rfl (Nat.le_of_ble_eq_true rfl) ⟨Nat.le_refl _, Nat.le_refl _⟩ dX0_placeAfter_22 ?_
  refine g_rdV (As := [.int (h.mo.frm s), .int (h.mo.way s), .int (hGone h s k)]) (rest := []) (nL := 3) hx hb hml hown hts (c_X0_reach lz G a h (h.mo.frm s) (h.mo.way s) (hGone h s k)) gX0_placeAfter_X0_reach rfl h_X0_reach ⟨Nat.le_of_ble_eq_true rfl, Nat.le_of_ble_eq_true rfl⟩ hK hP (ci := 0) rfl rfl rfl rfl hl.1 rfl (Nat.le_of_ble_eq_true rfl) ⟨Nat.le_refl _, Nat.le_refl _⟩ dX0_placeAfter_25 ?_
  exact g_ri hx hb hr hlocks dX0_placeAfter_28 rfl

theorem h_X0_lapsAfter : yX0_lapsAfter.cls = RX0 ∧ yX0_lapsAfter.cls ≠ "java/lang/invoke/MethodHandle" ∧ yX0_lapsAfter.cls ≠ "java/lang/invoke/VarHandle" ∧ (parseMethodDescriptor yX0_lapsAfter.desc).map (fun d => d.parameters.length) = some 2 := by decide +kernel
set_option maxHeartbeats 4000000 in
set_option maxRecDepth 100000 in
theorem c_X0_lapsAfter (lz : Launch) (G : gG) (a : Nat → Nat) (h : HaS) (s : Nat) (k : Int32) (hs : s < 8) : gRd lz yX0_lapsAfter wsX0_lapsAfter 1 G [.ref (a 0), .int (nI s), .int k] (wHa a G.2.1 h) (hLaps h (hGone h s k)) := by
  refine g_rd (by decide) rfl (Nat.le_of_ble_eq_true rfl) ?_
  intro pz ez sz mz bz tz cz hx hb hr hml hown hts hlocks hP hK ls hl
  have hl : lv_has ls 3 [(0, .ref (a 0)), (1, .int (nI s)), (2, .int k)] := hl
  refine lv_aload_n hx hb dX0_lapsAfter_0 rfl (lv_at hl 0 rfl) ?_
  refine lv_aload_n hx hb dX0_lapsAfter_1 rfl (lv_at hl 0 rfl) ?_
  refine lv_iload_n hx hb dX0_lapsAfter_2 rfl (lv_at hl 1 rfl) ?_
  refine lv_iload_n hx hb dX0_lapsAfter_3 rfl (lv_at hl 2 rfl) ?_
  refine g_rdV (As := [.int (nI s), .int k]) (rest := [.ref (a 0)]) (nL := 3) hx hb hml hown hts (c_X0_goneAfter lz G a h s k (by omega)) gX0_lapsAfter_X0_goneAfter rfl h_X0_goneAfter ⟨Nat.le_of_ble_eq_true rfl, Nat.le_of_ble_eq_true rfl⟩ hK hP (ci := 0) rfl rfl rfl rfl hl.1 rfl (Nat.le_of_ble_eq_true rfl) ⟨Nat.le_refl _, Nat.le_refl _⟩ dX0_lapsAfter_4 ?_
  refine g_rdV (As := [.int (hGone h s k)]) (rest := []) (nL := 3) hx hb hml hown hts (c_X0_lapsOf lz G a h (hGone h s k)) gX0_lapsAfter_X0_lapsOf rfl h_X0_lapsOf ⟨Nat.le_of_ble_eq_true rfl, Nat.le_of_ble_eq_true rfl⟩ hK hP (ci := 0) rfl rfl rfl rfl hl.1 rfl (Nat.le_of_ble_eq_true rfl) ⟨Nat.le_refl _, Nat.le_refl _⟩ dX0_lapsAfter_7 ?_
  exact g_ri hx hb hr hlocks dX0_lapsAfter_10 rfl

theorem i_X0_strengthAfter_X0 : ∀ w ∈ wsX00, w ∈ wsX0_strengthAfter := by decide +kernel
theorem i_X0_strengthAfter_X2 : ∀ w ∈ wsX20, w ∈ wsX0_strengthAfter := by decide +kernel
theorem h_X0_strengthAfter : yX0_strengthAfter.cls = RX0 ∧ yX0_strengthAfter.cls ≠ "java/lang/invoke/MethodHandle" ∧ yX0_strengthAfter.cls ≠ "java/lang/invoke/VarHandle" ∧ (parseMethodDescriptor yX0_strengthAfter.desc).map (fun d => d.parameters.length) = some 2 := by decide +kernel
set_option maxHeartbeats 4000000 in
set_option maxRecDepth 100000 in
theorem c_X0_strengthAfter (lz : Launch) (G : gG) (a : Nat → Nat) (h : HaS) (s : Nat) (k : Int32) (hs : s < 8) : gRd lz yX0_strengthAfter wsX0_strengthAfter 2 G [.ref (a 0), .int (nI s), .int k] (wHa a G.2.1 h) (hStr h s k) := by
  refine g_rd (by decide) rfl (Nat.le_of_ble_eq_true rfl) ?_
  intro pz ez sz mz bz tz cz hx hb hr hml hown hts hlocks hP hK ls hl
  have hl : lv_has ls 3 [(0, .ref (a 0)), (1, .int (nI s)), (2, .int k)] := hl
  have f21 := hts (.fieldLink RX0 21 "WhisperRing$Hall" "now" "LWhisperRing$Moment;") (by decide +kernel)
  have f84 := hts (.fieldLink RX0 84 "WhisperRing$Moment" "loud" "[I") (by decide +kernel)
  refine lv_aload_n hx hb dX0_strengthAfter_0 rfl (lv_at hl 0 rfl) ?_
  refine va_get (D := G.1) (ci := 0) (v := .ref (a 1)) (C := RX0) (T := TX0) (N := 6) hx hb hts i_X0_strengthAfter_X0 hown hK.1 hP 0 rfl rfl 3 (by decide) f21 (fun _ h9 => h9) rfl dX0_strengthAfter_1 ?_
  refine lv_iload_n hx hb dX0_strengthAfter_4 rfl (lv_at hl 1 rfl) ?_
  refine g_rdV (As := [.int (nI s)]) (rest := []) (nL := 3) hx hb hml hown hts (c_X2_isHushed lz G (sh 1 a) h.mo (nI s)) gX0_strengthAfter_X2_isHushed rfl h_X2_isHushed ⟨Nat.le_of_ble_eq_true rfl, Nat.le_of_ble_eq_true rfl⟩ hK (hP.sub [1, 2, 3, 4, 5, 6, 7] rfl) (ci := 2) rfl rfl rfl rfl hl.1 rfl (Nat.le_of_ble_eq_true rfl) ⟨Nat.le_refl _, Nat.le_refl _⟩ dX0_strengthAfter_5 ?_
  refine lv_if_eq (tgt := 15) hx hb dX0_strengthAfter_8 (by decide) (fun c_1 => ?_) (fun c_1 => ?_)
  · skip
    have c_1 := bI_0 c_1
    refine lv_aload_n hx hb dX0_strengthAfter_15 rfl (lv_at hl 0 rfl) ?_
    refine lv_aload_n hx hb dX0_strengthAfter_16 rfl (lv_at hl 0 rfl) ?_
    refine va_get (D := G.1) (ci := 0) (v := .ref (a 1)) (C := RX0) (T := TX0) (N := 6) hx hb hts i_X0_strengthAfter_X0 hown hK.1 hP 0 rfl rfl 3 (by decide) f21 (fun _ h9 => h9) rfl dX0_strengthAfter_17 ?_
    refine va_get (D := G.1) (ci := 2) (v := .ref (a 5)) (C := RX2) (T := TX2) (N := 10) hx hb hts i_X0_strengthAfter_X2 hown hK.1 hP 1 rfl rfl 7 (by decide) f84 (fun _ h9 => h9) rfl dX0_strengthAfter_20 ?_
    refine lv_iload_n hx hb dX0_strengthAfter_23 rfl (lv_at hl 1 rfl) ?_
    refine g_iald hx hb hK.1 hP 5 0 rfl rfl (i := s) (by omega) (by decide) dX0_strengthAfter_24 ?_
    refine lv_aload_n hx hb dX0_strengthAfter_25 rfl (lv_at hl 0 rfl) ?_
    refine lv_iload_n hx hb dX0_strengthAfter_26 rfl (lv_at hl 1 rfl) ?_
    refine lv_iload_n hx hb dX0_strengthAfter_27 rfl (lv_at hl 2 rfl) ?_
    refine g_rdV (As := [.int (nI s), .int k]) (rest := [.int (h.mo.loud s), .ref (a 0)]) (nL := 3) hx hb hml hown hts (c_X0_goneAfter lz G a h s k (by omega)) gX0_strengthAfter_X0_goneAfter rfl h_X0_goneAfter ⟨Nat.le_of_ble_eq_true rfl, Nat.le_of_ble_eq_true rfl⟩ hK hP (ci := 0) rfl rfl rfl rfl hl.1 rfl (Nat.le_of_ble_eq_true rfl) ⟨Nat.le_refl _, Nat.le_refl _⟩ dX0_strengthAfter_28 ?_
    refine g_rdV (As := [.int (h.mo.loud s), .int (hGone h s k)]) (rest := []) (nL := 3) hx hb hml hown hts (c_X0_strengthLeft lz G a h (h.mo.loud s) (hGone h s k)) gX0_strengthAfter_X0_strengthLeft rfl h_X0_strengthLeft ⟨Nat.le_of_ble_eq_true rfl, Nat.le_of_ble_eq_true rfl⟩ hK hP (ci := 0) rfl rfl rfl rfl hl.1 rfl (Nat.le_of_ble_eq_true rfl) ⟨Nat.le_refl _, Nat.le_refl _⟩ dX0_strengthAfter_31 ?_
    exact g_ri hx hb hr hlocks dX0_strengthAfter_34 (by first | rfl | (simp only [hStr, c_1, bI, if_true, if_false, reduceIte, Bool.false_eq_true, ite_true, ite_false]; done) | (simp [hStr, c_1, bI]; done))
  · skip
    have c_1 := bI_1 c_1
    refine lv_iconst (v := 0) hx hb dX0_strengthAfter_11 (by decide) ?_
    refine lv_goto (tgt := 34) hx hb dX0_strengthAfter_12 (by decide) ?_
    exact g_ri hx hb hr hlocks dX0_strengthAfter_34 (by first | rfl | (simp only [hStr, c_1, bI, if_true, if_false, reduceIte, Bool.false_eq_true, ite_true, ite_false]; done) | (simp [hStr, c_1, bI]; done))

theorem h_X0_sounds : yX0_sounds.cls = RX0 ∧ yX0_sounds.cls ≠ "java/lang/invoke/MethodHandle" ∧ yX0_sounds.cls ≠ "java/lang/invoke/VarHandle" ∧ (parseMethodDescriptor yX0_sounds.desc).map (fun d => d.parameters.length) = some 3 := by decide +kernel
set_option maxHeartbeats 4000000 in
set_option maxRecDepth 100000 in
theorem c_X0_sounds (lz : Launch) (G : gG) (a : Nat → Nat) (h : HaS) (s : Nat) (p k : Int32) (hs : s < 8) : gRd lz yX0_sounds wsX0_sounds 3 G [.ref (a 0), .int (nI s), .int p, .int k] (wHa a G.2.1 h) (bI (hSnd h s p k)) := by
  refine g_rd (by decide) rfl (Nat.le_of_ble_eq_true rfl) ?_
  intro pz ez sz mz bz tz cz hx hb hr hml hown hts hlocks hP hK ls hl
  have hl : lv_has ls 4 [(0, .ref (a 0)), (1, .int (nI s)), (2, .int p), (3, .int k)] := hl
  refine lv_aload_n hx hb dX0_sounds_0 rfl (lv_at hl 0 rfl) ?_
  refine lv_iload_n hx hb dX0_sounds_1 rfl (lv_at hl 1 rfl) ?_
  refine lv_iload_n hx hb dX0_sounds_2 rfl (lv_at hl 3 rfl) ?_
  refine g_rdV (As := [.int (nI s), .int k]) (rest := []) (nL := 4) hx hb hml hown hts (c_X0_placeAfter lz G a h s k (by omega)) gX0_sounds_X0_placeAfter rfl h_X0_placeAfter ⟨Nat.le_of_ble_eq_true rfl, Nat.le_of_ble_eq_true rfl⟩ hK hP (ci := 0) rfl rfl rfl rfl hl.1 rfl (Nat.le_of_ble_eq_true rfl) ⟨Nat.le_refl _, Nat.le_refl _⟩ dX0_sounds_3 ?_
  refine lv_iload_n hx hb dX0_sounds_6 rfl (lv_at hl 2 rfl) ?_
  refine lv_icmp_ne (tgt := 23) hx hb dX0_sounds_7 (by decide) (fun c_1 => ?_) (fun c_1 => ?_)
  · skip
    refine lv_iconst (v := 0) hx hb dX0_sounds_23 (by decide) ?_
    exact g_rz hx hb hr hlocks dX0_sounds_24 (by simp [hSnd, bI, c_1])
  · skip
    refine lv_aload_n hx hb dX0_sounds_10 rfl (lv_at hl 0 rfl) ?_
    refine lv_iload_n hx hb dX0_sounds_11 rfl (lv_at hl 1 rfl) ?_
    refine lv_iload_n hx hb dX0_sounds_12 rfl (lv_at hl 3 rfl) ?_
    refine g_rdV (As := [.int (nI s), .int k]) (rest := []) (nL := 4) hx hb hml hown hts (c_X0_strengthAfter lz G a h s k (by omega)) gX0_sounds_X0_strengthAfter rfl h_X0_strengthAfter ⟨Nat.le_of_ble_eq_true rfl, Nat.le_of_ble_eq_true rfl⟩ hK hP (ci := 0) rfl rfl rfl rfl hl.1 rfl (Nat.le_of_ble_eq_true rfl) ⟨Nat.le_refl _, Nat.le_refl _⟩ dX0_sounds_13 ?_
    refine lv_if_le (tgt := 23) hx hb dX0_sounds_16 (by decide) (fun c_2 => ?_) (fun c_2 => ?_)
    · skip
      have c_2 := gl_le c_2
      refine lv_iconst (v := 0) hx hb dX0_sounds_23 (by decide) ?_
      exact g_rz hx hb hr hlocks dX0_sounds_24 (by simp [hSnd, bI, c_1, c_2])
    · skip
      have c_2 := gl_nle c_2
      refine lv_iconst (v := 1) hx hb dX0_sounds_19 (by decide) ?_
      refine lv_goto (tgt := 24) hx hb dX0_sounds_20 (by decide) ?_
      exact g_rz hx hb hr hlocks dX0_sounds_24 (by simp [hSnd, bI, c_1, c_2])
end
section
theorem hLis_lis (h : HaS) (n : Nat) (k z : Int32) : hLis (hLis h n k) n z = hLis h n z := by
  have e1 : ∀ (f f2 g : Nat → Int32), lsF f (lsF f2 g n) n = lsF f g n := by
    intro f f2 g
    funext j
    simp only [lsF]
    by_cases hj : j < n
    · rw [if_pos hj, if_pos hj]
    · rw [if_neg hj, if_neg hj, if_neg hj]
  show (h.pl, h.loss, h.nich, h.mo, lsF (fun s => hPlace h s z) (lsF (fun s => hPlace h s k) h.ats n) n, lsF (fun s => hStr h s z) (lsF (fun s => hStr h s k) h.str n) n) = _
  rw [e1, e1]
  rfl
def hQuiS (h : HaS) (n : Nat) (p : Int32) : HaS := hLis h n (nI ((firstF (fun k => decide (hSndB (hLis h n (nI k)) n p = 0)) 100 0).getD 99))
def hWaitS (h : HaS) (n : Nat) (q un ow : Int32) : HaS := hLis h n (nI ((firstF (fun k => decide (hStrAt (hLis h n (nI k + un)) n q < ow)) 100 0).getD 99) + un)
theorem i_X0_soundingAt_X0 : ∀ w ∈ wsX00, w ∈ wsX0_soundingAt := by decide +kernel
theorem i_X0_soundingAt_X2 : ∀ w ∈ wsX20, w ∈ wsX0_soundingAt := by decide +kernel
theorem h_X0_soundingAt : yX0_soundingAt.cls = RX0 ∧ yX0_soundingAt.cls ≠ "java/lang/invoke/MethodHandle" ∧ yX0_soundingAt.cls ≠ "java/lang/invoke/VarHandle" ∧ (parseMethodDescriptor yX0_soundingAt.desc).map (fun d => d.parameters.length) = some 1 := by decide +kernel
set_option maxHeartbeats 4000000 in
set_option maxRecDepth 100000 in
theorem c_X0_soundingAt (lz : Launch) (G : gG) (a : Nat → Nat) (h : HaS) (n : Nat) (p : Int32) (hn : h.mo.sayings = nI n) (hn8 : n ≤ 8) : gRd lz yX0_soundingAt wsX0_soundingAt 0 G [.ref (a 0), .int p] (wHa a G.2.1 h) (hSndB h n p) := by
  refine g_rd (by decide) rfl (Nat.le_of_ble_eq_true rfl) ?_
  intro pz ez sz mz bz tz cz hx hb hr hml hown hts hlocks hP hK ls hl
  have hl : lv_has ls 4 [(0, .ref (a 0)), (1, .int p)] := hl
  have f21 := hts (.fieldLink RX0 21 "WhisperRing$Hall" "now" "LWhisperRing$Moment;") (by decide +kernel)
  have f25 := hts (.fieldLink RX0 25 "WhisperRing$Hall" "at" "[I") (by decide +kernel)
  have f29 := hts (.fieldLink RX0 29 "WhisperRing$Hall" "strength" "[I") (by decide +kernel)
  have f42 := hts (.fieldLink RX0 42 "WhisperRing$Moment" "sayings" "I") (by decide +kernel)
  refine lv_iconst (v := 0) hx hb dX0_soundingAt_0 (by decide) ?_
  refine lv_istore_n (lv' := [(2, .int 0), (0, .ref (a 0)), (1, .int p)]) hx hb dX0_soundingAt_1 rfl hl (by decide) rfl (fun ls hl => ?_)
  refine lv_iconst (v := 0) hx hb dX0_soundingAt_2 (by decide) ?_
  refine lv_istore_n (lv' := [(3, .int 0), (2, .int 0), (0, .ref (a 0)), (1, .int p)]) hx hb dX0_soundingAt_3 rfl hl (by decide) rfl (fun ls hl => ?_)
  have lp_4 : ∀ (fu_4 : Nat) (i : Nat) (x : Int32), (i ≤ n) → (x = bitsOf (fun s => decide (h.ats s = p) && decide (0 < h.str s)) i) → n - i < fu_4 → ∀ ls : Array Slot, lv_has ls 4 [(0, .ref (a 0)), (1, .int p), (2, .int x), (3, .int (nI i))] → W pz lz ez (gRm 0) sz mz ([.ref (a 0), .int p] : List Value).toArray bz tz cz sz.heap [] 0 0 (MQ bz (vp_Si (fun x => x = hSndB h n p)) ([.ref (a 0), .int p] : List Value).toArray sz 0 0 (fun _ => False)) (F0 mz 4 ls []) := by
    intro fu_4
    induction fu_4 with
    | zero =>
      intro i x hi hac hf_4
      exact absurd hf_4 (Nat.not_lt_zero _)
    | succ fu_4 ih_4 =>
      intro i x hi hac hf_4 ls hl
      refine lv_iload_n hx hb dX0_soundingAt_4 rfl (lv_at hl 3 rfl) ?_
      refine lv_aload_n hx hb dX0_soundingAt_5 rfl (lv_at hl 0 rfl) ?_
      refine va_get (D := G.1) (ci := 0) (v := .ref (a 1)) (C := RX0) (T := TX0) (N := 6) hx hb hts i_X0_soundingAt_X0 hown hK.1 hP 0 rfl rfl 3 (by decide) f21 (fun _ h9 => h9) rfl dX0_soundingAt_6 ?_
      refine va_get (D := G.1) (ci := 2) (v := .int h.mo.sayings) (C := RX2) (T := TX2) (N := 10) hx hb hts i_X0_soundingAt_X2 hown hK.1 hP 1 rfl rfl 1 (by decide) f42 (fun _ h9 => h9) rfl dX0_soundingAt_9 ?_
      refine lv_icmp_ge (tgt := 46) hx hb dX0_soundingAt_12 (by decide) (fun c_1 => ?_) (fun c_1 => ?_)
      · skip
        have c_1 := gl_le c_1
        have hx2 : n ≤ i := gl_ex hn (by omega) (by omega) c_1
        refine lv_iload_n hx hb dX0_soundingAt_46 rfl (lv_at hl 2 rfl) ?_
        exact g_ri hx hb hr hlocks dX0_soundingAt_47 (by rw [hac, show i = n by omega]; rfl)
      · skip
        have c_1 := gl_nle c_1
        have hlt : i < n := gl_in hn (by omega) (by omega) c_1
        refine lv_aload_n hx hb dX0_soundingAt_15 rfl (lv_at hl 0 rfl) ?_
        refine va_get (D := G.1) (ci := 0) (v := .ref (a 8)) (C := RX0) (T := TX0) (N := 6) hx hb hts i_X0_soundingAt_X0 hown hK.1 hP 0 rfl rfl 4 (by decide) f25 (fun _ h9 => h9) rfl dX0_soundingAt_16 ?_
        refine lv_iload_n hx hb dX0_soundingAt_19 rfl (lv_at hl 3 rfl) ?_
        refine g_iald hx hb hK.1 hP 8 0 rfl rfl (i := i) (by omega) (by decide) dX0_soundingAt_20 ?_
        refine lv_iload_n hx hb dX0_soundingAt_21 rfl (lv_at hl 1 rfl) ?_
        refine lv_icmp_ne (tgt := 40) hx hb dX0_soundingAt_22 (by decide) (fun c_2 => ?_) (fun c_2 => ?_)
        · skip
          refine lv_iinc (v := nI (i + 1)) (lv' := [(3, .int (nI (i + 1))), (0, .ref (a 0)), (1, .int p), (2, .int x)]) hx hb dX0_soundingAt_40 hl (k := 3) rfl (nI_1 i) (by decide) rfl (fun ls hl => ?_)
          refine lv_goto (tgt := 4) hx hb dX0_soundingAt_43 (by decide) ?_
          exact ih_4 (i + 1) x hlt (bO_n hac (by simp [c_2])) (by omega) ls (lv_sub hl [1, 2, 3, 0] rfl)
        · skip
          refine lv_aload_n hx hb dX0_soundingAt_25 rfl (lv_at hl 0 rfl) ?_
          refine va_get (D := G.1) (ci := 0) (v := .ref (a 9)) (C := RX0) (T := TX0) (N := 6) hx hb hts i_X0_soundingAt_X0 hown hK.1 hP 0 rfl rfl 5 (by decide) f29 (fun _ h9 => h9) rfl dX0_soundingAt_26 ?_
          refine lv_iload_n hx hb dX0_soundingAt_29 rfl (lv_at hl 3 rfl) ?_
          refine g_iald hx hb hK.1 hP 9 0 rfl rfl (i := i) (by omega) (by decide) dX0_soundingAt_30 ?_
          refine lv_if_le (tgt := 40) hx hb dX0_soundingAt_31 (by decide) (fun c_3 => ?_) (fun c_3 => ?_)
          · skip
            have c_3 := gl_le c_3
            refine lv_iinc (v := nI (i + 1)) (lv' := [(3, .int (nI (i + 1))), (0, .ref (a 0)), (1, .int p), (2, .int x)]) hx hb dX0_soundingAt_40 hl (k := 3) rfl (nI_1 i) (by decide) rfl (fun ls hl => ?_)
            refine lv_goto (tgt := 4) hx hb dX0_soundingAt_43 (by decide) ?_
            exact ih_4 (i + 1) x hlt (bO_n hac (by simp [c_2, c_3])) (by omega) ls (lv_sub hl [1, 2, 3, 0] rfl)
          · skip
            have c_3 := gl_nle c_3
            refine lv_iload_n hx hb dX0_soundingAt_34 rfl (lv_at hl 2 rfl) ?_
            refine lv_iconst (v := 1) hx hb dX0_soundingAt_35 (by decide) ?_
            refine lv_iload_n hx hb dX0_soundingAt_36 rfl (lv_at hl 3 rfl) ?_
            refine lv_ishl hx hb dX0_soundingAt_37 ?_
            refine lv_ior hx hb dX0_soundingAt_38 ?_
            refine lv_istore_n (lv' := [(2, .int (x ||| (1 <<< ((nI i) &&& 31)))), (0, .ref (a 0)), (1, .int p), (3, .int (nI i))]) hx hb dX0_soundingAt_39 rfl hl (by decide) rfl (fun ls hl => ?_)
            refine lv_iinc (v := nI (i + 1)) (lv' := [(3, .int (nI (i + 1))), (2, .int (x ||| (1 <<< ((nI i) &&& 31)))), (0, .ref (a 0)), (1, .int p)]) hx hb dX0_soundingAt_40 hl (k := 3) rfl (nI_1 i) (by decide) rfl (fun ls hl => ?_)
            refine lv_goto (tgt := 4) hx hb dX0_soundingAt_43 (by decide) ?_
            exact ih_4 (i + 1) (x ||| (1 <<< ((nI i) &&& 31))) hlt (bO_y hac (by simp [c_2, c_3])) (by omega) ls (lv_sub hl [2, 3, 1, 0] rfl)
  exact lp_4 ((n - 0) + 1) 0 0 (Nat.zero_le _) rfl (Nat.lt_succ_self _) ls (lv_sub hl [2, 3, 1, 0] rfl)

theorem i_X0_strengthAt_X0 : ∀ w ∈ wsX00, w ∈ wsX0_strengthAt := by decide +kernel
theorem i_X0_strengthAt_X2 : ∀ w ∈ wsX20, w ∈ wsX0_strengthAt := by decide +kernel
theorem h_X0_strengthAt : yX0_strengthAt.cls = RX0 ∧ yX0_strengthAt.cls ≠ "java/lang/invoke/MethodHandle" ∧ yX0_strengthAt.cls ≠ "java/lang/invoke/VarHandle" ∧ (parseMethodDescriptor yX0_strengthAt.desc).map (fun d => d.parameters.length) = some 1 := by decide +kernel
set_option maxHeartbeats 4000000 in
set_option maxRecDepth 100000 in
theorem c_X0_strengthAt (lz : Launch) (G : gG) (a : Nat → Nat) (h : HaS) (n : Nat) (p : Int32) (hn : h.mo.sayings = nI n) (hn8 : n ≤ 8) : gRd lz yX0_strengthAt wsX0_strengthAt 0 G [.ref (a 0), .int p] (wHa a G.2.1 h) (hStrAt h n p) := by
  refine g_rd (by decide) rfl (Nat.le_of_ble_eq_true rfl) ?_
  intro pz ez sz mz bz tz cz hx hb hr hml hown hts hlocks hP hK ls hl
  have hl : lv_has ls 4 [(0, .ref (a 0)), (1, .int p)] := hl
  have f21 := hts (.fieldLink RX0 21 "WhisperRing$Hall" "now" "LWhisperRing$Moment;") (by decide +kernel)
  have f25 := hts (.fieldLink RX0 25 "WhisperRing$Hall" "at" "[I") (by decide +kernel)
  have f29 := hts (.fieldLink RX0 29 "WhisperRing$Hall" "strength" "[I") (by decide +kernel)
  have f42 := hts (.fieldLink RX0 42 "WhisperRing$Moment" "sayings" "I") (by decide +kernel)
  refine lv_iconst (v := 0) hx hb dX0_strengthAt_0 (by decide) ?_
  refine lv_istore_n (lv' := [(2, .int 0), (0, .ref (a 0)), (1, .int p)]) hx hb dX0_strengthAt_1 rfl hl (by decide) rfl (fun ls hl => ?_)
  refine lv_iconst (v := 0) hx hb dX0_strengthAt_2 (by decide) ?_
  refine lv_istore_n (lv' := [(3, .int 0), (2, .int 0), (0, .ref (a 0)), (1, .int p)]) hx hb dX0_strengthAt_3 rfl hl (by decide) rfl (fun ls hl => ?_)
  have lp_4 : ∀ (fu_4 : Nat) (i : Nat) (x : Int32), (i ≤ n) → (x = sumOf (fun s => decide (h.ats s = p)) h.str i) → n - i < fu_4 → ∀ ls : Array Slot, lv_has ls 4 [(0, .ref (a 0)), (1, .int p), (2, .int x), (3, .int (nI i))] → W pz lz ez (gRm 0) sz mz ([.ref (a 0), .int p] : List Value).toArray bz tz cz sz.heap [] 0 0 (MQ bz (vp_Si (fun x => x = hStrAt h n p)) ([.ref (a 0), .int p] : List Value).toArray sz 0 0 (fun _ => False)) (F0 mz 4 ls []) := by
    intro fu_4
    induction fu_4 with
    | zero =>
      intro i x hi hac hf_4
      exact absurd hf_4 (Nat.not_lt_zero _)
    | succ fu_4 ih_4 =>
      intro i x hi hac hf_4 ls hl
      refine lv_iload_n hx hb dX0_strengthAt_4 rfl (lv_at hl 3 rfl) ?_
      refine lv_aload_n hx hb dX0_strengthAt_5 rfl (lv_at hl 0 rfl) ?_
      refine va_get (D := G.1) (ci := 0) (v := .ref (a 1)) (C := RX0) (T := TX0) (N := 6) hx hb hts i_X0_strengthAt_X0 hown hK.1 hP 0 rfl rfl 3 (by decide) f21 (fun _ h9 => h9) rfl dX0_strengthAt_6 ?_
      refine va_get (D := G.1) (ci := 2) (v := .int h.mo.sayings) (C := RX2) (T := TX2) (N := 10) hx hb hts i_X0_strengthAt_X2 hown hK.1 hP 1 rfl rfl 1 (by decide) f42 (fun _ h9 => h9) rfl dX0_strengthAt_9 ?_
      refine lv_icmp_ge (tgt := 40) hx hb dX0_strengthAt_12 (by decide) (fun c_1 => ?_) (fun c_1 => ?_)
      · skip
        have c_1 := gl_le c_1
        have hx2 : n ≤ i := gl_ex hn (by omega) (by omega) c_1
        refine lv_iload_n hx hb dX0_strengthAt_40 rfl (lv_at hl 2 rfl) ?_
        exact g_ri hx hb hr hlocks dX0_strengthAt_41 (by rw [hac, show i = n by omega]; rfl)
      · skip
        have c_1 := gl_nle c_1
        have hlt : i < n := gl_in hn (by omega) (by omega) c_1
        refine lv_aload_n hx hb dX0_strengthAt_15 rfl (lv_at hl 0 rfl) ?_
        refine va_get (D := G.1) (ci := 0) (v := .ref (a 8)) (C := RX0) (T := TX0) (N := 6) hx hb hts i_X0_strengthAt_X0 hown hK.1 hP 0 rfl rfl 4 (by decide) f25 (fun _ h9 => h9) rfl dX0_strengthAt_16 ?_
        refine lv_iload_n hx hb dX0_strengthAt_19 rfl (lv_at hl 3 rfl) ?_
        refine g_iald hx hb hK.1 hP 8 0 rfl rfl (i := i) (by omega) (by decide) dX0_strengthAt_20 ?_
        refine lv_iload_n hx hb dX0_strengthAt_21 rfl (lv_at hl 1 rfl) ?_
        refine lv_icmp_ne (tgt := 34) hx hb dX0_strengthAt_22 (by decide) (fun c_2 => ?_) (fun c_2 => ?_)
        · skip
          refine lv_iinc (v := nI (i + 1)) (lv' := [(3, .int (nI (i + 1))), (0, .ref (a 0)), (1, .int p), (2, .int x)]) hx hb dX0_strengthAt_34 hl (k := 3) rfl (nI_1 i) (by decide) rfl (fun ls hl => ?_)
          refine lv_goto (tgt := 4) hx hb dX0_strengthAt_37 (by decide) ?_
          exact ih_4 (i + 1) x hlt (sO_n hac (by simp [c_2])) (by omega) ls (lv_sub hl [1, 2, 3, 0] rfl)
        · skip
          refine lv_iload_n hx hb dX0_strengthAt_25 rfl (lv_at hl 2 rfl) ?_
          refine lv_aload_n hx hb dX0_strengthAt_26 rfl (lv_at hl 0 rfl) ?_
          refine va_get (D := G.1) (ci := 0) (v := .ref (a 9)) (C := RX0) (T := TX0) (N := 6) hx hb hts i_X0_strengthAt_X0 hown hK.1 hP 0 rfl rfl 5 (by decide) f29 (fun _ h9 => h9) rfl dX0_strengthAt_27 ?_
          refine lv_iload_n hx hb dX0_strengthAt_30 rfl (lv_at hl 3 rfl) ?_
          refine g_iald hx hb hK.1 hP 9 0 rfl rfl (i := i) (by omega) (by decide) dX0_strengthAt_31 ?_
          refine lv_iadd hx hb dX0_strengthAt_32 ?_
          refine lv_istore_n (lv' := [(2, .int (x + (h.str i))), (0, .ref (a 0)), (1, .int p), (3, .int (nI i))]) hx hb dX0_strengthAt_33 rfl hl (by decide) rfl (fun ls hl => ?_)
          refine lv_iinc (v := nI (i + 1)) (lv' := [(3, .int (nI (i + 1))), (2, .int (x + (h.str i))), (0, .ref (a 0)), (1, .int p)]) hx hb dX0_strengthAt_34 hl (k := 3) rfl (nI_1 i) (by decide) rfl (fun ls hl => ?_)
          refine lv_goto (tgt := 4) hx hb dX0_strengthAt_37 (by decide) ?_
          exact ih_4 (i + 1) (x + (h.str i)) hlt (sO_y hac (by simp [c_2])) (by omega) ls (lv_sub hl [2, 3, 1, 0] rfl)
  exact lp_4 ((n - 0) + 1) 0 0 (Nat.zero_le _) rfl (Nat.lt_succ_self _) ls (lv_sub hl [2, 3, 1, 0] rfl)

theorem i_X0_clearAt_X0 : ∀ w ∈ wsX00, w ∈ wsX0_clearAt := by decide +kernel
theorem i_X0_clearAt_X2 : ∀ w ∈ wsX20, w ∈ wsX0_clearAt := by decide +kernel
theorem h_X0_clearAt : yX0_clearAt.cls = RX0 ∧ yX0_clearAt.cls ≠ "java/lang/invoke/MethodHandle" ∧ yX0_clearAt.cls ≠ "java/lang/invoke/VarHandle" ∧ (parseMethodDescriptor yX0_clearAt.desc).map (fun d => d.parameters.length) = some 1 := by decide +kernel
set_option maxHeartbeats 4000000 in
set_option maxRecDepth 100000 in
theorem c_X0_clearAt (lz : Launch) (G : gG) (a : Nat → Nat) (h : HaS) (n : Nat) (p : Int32) (hn : h.mo.sayings = nI n) (hn8 : n ≤ 8) : gRd lz yX0_clearAt wsX0_clearAt 1 G [.ref (a 0), .int p] (wHa a G.2.1 h) (hClear h n p) := by
  refine g_rd (by decide) rfl (Nat.le_of_ble_eq_true rfl) ?_
  intro pz ez sz mz bz tz cz hx hb hr hml hown hts hlocks hP hK ls hl
  have hl : lv_has ls 4 [(0, .ref (a 0)), (1, .int p)] := hl
  have f21 := hts (.fieldLink RX0 21 "WhisperRing$Hall" "now" "LWhisperRing$Moment;") (by decide +kernel)
  have f25 := hts (.fieldLink RX0 25 "WhisperRing$Hall" "at" "[I") (by decide +kernel)
  have f29 := hts (.fieldLink RX0 29 "WhisperRing$Hall" "strength" "[I") (by decide +kernel)
  have f42 := hts (.fieldLink RX0 42 "WhisperRing$Moment" "sayings" "I") (by decide +kernel)
  refine lv_aload_n hx hb dX0_clearAt_0 rfl (lv_at hl 0 rfl) ?_
  refine lv_iload_n hx hb dX0_clearAt_1 rfl (lv_at hl 1 rfl) ?_
  refine g_rdV (As := [.int p]) (rest := []) (nL := 4) hx hb hml hown hts (c_X0_strengthAt lz G a h n p hn hn8) gX0_clearAt_X0_strengthAt rfl h_X0_strengthAt ⟨Nat.le_of_ble_eq_true rfl, Nat.le_of_ble_eq_true rfl⟩ hK hP (ci := 0) rfl rfl rfl rfl hl.1 rfl (Nat.le_of_ble_eq_true rfl) ⟨Nat.le_refl _, Nat.le_refl _⟩ dX0_clearAt_2 ?_
  refine lv_istore_n (lv' := [(2, .int (hStrAt h n p)), (0, .ref (a 0)), (1, .int p)]) hx hb dX0_clearAt_5 rfl hl (by decide) rfl (fun ls hl => ?_)
  refine lv_iconst (v := 0) hx hb dX0_clearAt_6 (by decide) ?_
  refine lv_istore_n (lv' := [(3, .int 0), (2, .int (hStrAt h n p)), (0, .ref (a 0)), (1, .int p)]) hx hb dX0_clearAt_7 rfl hl (by decide) rfl (fun ls hl => ?_)
  have lp_8 : ∀ (fu_8 : Nat) (i : Nat), (i ≤ n) → (firstF (fun s => decide (h.ats s = p) && decide (hStrAt h n p < 2 * h.str s)) n 0 = firstF (fun s => decide (h.ats s = p) && decide (hStrAt h n p < 2 * h.str s)) (n - i) i) → n - i < fu_8 → ∀ ls : Array Slot, lv_has ls 4 [(0, .ref (a 0)), (1, .int p), (2, .int (hStrAt h n p)), (3, .int (nI i))] → W pz lz ez (gRm 1) sz mz ([.ref (a 0), .int p] : List Value).toArray bz tz cz sz.heap [] 0 0 (MQ bz (vp_Si (fun x => x = hClear h n p)) ([.ref (a 0), .int p] : List Value).toArray sz 0 0 (fun _ => False)) (F0 mz 8 ls []) := by
    intro fu_8
    induction fu_8 with
    | zero =>
      intro i hi he hf_8
      exact absurd hf_8 (Nat.not_lt_zero _)
    | succ fu_8 ih_8 =>
      intro i hi he hf_8 ls hl
      refine lv_iload_n hx hb dX0_clearAt_8 rfl (lv_at hl 3 rfl) ?_
      refine lv_aload_n hx hb dX0_clearAt_9 rfl (lv_at hl 0 rfl) ?_
      refine va_get (D := G.1) (ci := 0) (v := .ref (a 1)) (C := RX0) (T := TX0) (N := 6) hx hb hts i_X0_clearAt_X0 hown hK.1 hP 0 rfl rfl 3 (by decide) f21 (fun _ h9 => h9) rfl dX0_clearAt_10 ?_
      refine va_get (D := G.1) (ci := 2) (v := .int h.mo.sayings) (C := RX2) (T := TX2) (N := 10) hx hb hts i_X0_clearAt_X2 hown hK.1 hP 1 rfl rfl 1 (by decide) f42 (fun _ h9 => h9) rfl dX0_clearAt_13 ?_
      refine lv_icmp_ge (tgt := 49) hx hb dX0_clearAt_16 (by decide) (fun c_1 => ?_) (fun c_1 => ?_)
      · skip
        have c_1 := gl_le c_1
        have hx2 : n ≤ i := gl_ex hn (by omega) (by omega) c_1
        refine lv_bipush (v := (-9)) hx hb dX0_clearAt_49 (by decide) ?_
        exact g_ri hx hb hr hlocks dX0_clearAt_51 (oI_n (fF_e he hx2))
      · skip
        have c_1 := gl_nle c_1
        have hlt : i < n := gl_in hn (by omega) (by omega) c_1
        refine lv_aload_n hx hb dX0_clearAt_19 rfl (lv_at hl 0 rfl) ?_
        refine va_get (D := G.1) (ci := 0) (v := .ref (a 8)) (C := RX0) (T := TX0) (N := 6) hx hb hts i_X0_clearAt_X0 hown hK.1 hP 0 rfl rfl 4 (by decide) f25 (fun _ h9 => h9) rfl dX0_clearAt_20 ?_
        refine lv_iload_n hx hb dX0_clearAt_23 rfl (lv_at hl 3 rfl) ?_
        refine g_iald hx hb hK.1 hP 8 0 rfl rfl (i := i) (by omega) (by decide) dX0_clearAt_24 ?_
        refine lv_iload_n hx hb dX0_clearAt_25 rfl (lv_at hl 1 rfl) ?_
        refine lv_icmp_ne (tgt := 43) hx hb dX0_clearAt_26 (by decide) (fun c_2 => ?_) (fun c_2 => ?_)
        · skip
          refine lv_iinc (v := nI (i + 1)) (lv' := [(3, .int (nI (i + 1))), (0, .ref (a 0)), (1, .int p), (2, .int (hStrAt h n p))]) hx hb dX0_clearAt_43 hl (k := 3) rfl (nI_1 i) (by decide) rfl (fun ls hl => ?_)
          refine lv_goto (tgt := 8) hx hb dX0_clearAt_46 (by decide) ?_
          exact ih_8 (i + 1) hlt (fF_n he hlt (by simp [c_2])) (by omega) ls (lv_sub hl [1, 2, 3, 0] rfl)
        · skip
          refine lv_iconst (v := 2) hx hb dX0_clearAt_29 (by decide) ?_
          refine lv_aload_n hx hb dX0_clearAt_30 rfl (lv_at hl 0 rfl) ?_
          refine va_get (D := G.1) (ci := 0) (v := .ref (a 9)) (C := RX0) (T := TX0) (N := 6) hx hb hts i_X0_clearAt_X0 hown hK.1 hP 0 rfl rfl 5 (by decide) f29 (fun _ h9 => h9) rfl dX0_clearAt_31 ?_
          refine lv_iload_n hx hb dX0_clearAt_34 rfl (lv_at hl 3 rfl) ?_
          refine g_iald hx hb hK.1 hP 9 0 rfl rfl (i := i) (by omega) (by decide) dX0_clearAt_35 ?_
          refine lv_imul hx hb dX0_clearAt_36 ?_
          refine lv_iload_n hx hb dX0_clearAt_37 rfl (lv_at hl 2 rfl) ?_
          refine lv_icmp_le (tgt := 43) hx hb dX0_clearAt_38 (by decide) (fun c_3 => ?_) (fun c_3 => ?_)
          · skip
            have c_3 := gl_le c_3
            refine lv_iinc (v := nI (i + 1)) (lv' := [(3, .int (nI (i + 1))), (0, .ref (a 0)), (1, .int p), (2, .int (hStrAt h n p))]) hx hb dX0_clearAt_43 hl (k := 3) rfl (nI_1 i) (by decide) rfl (fun ls hl => ?_)
            refine lv_goto (tgt := 8) hx hb dX0_clearAt_46 (by decide) ?_
            exact ih_8 (i + 1) hlt (fF_n he hlt (by simp [c_2, c_3])) (by omega) ls (lv_sub hl [1, 2, 3, 0] rfl)
          · skip
            have c_3 := gl_nle c_3
            refine lv_iload_n hx hb dX0_clearAt_41 rfl (lv_at hl 3 rfl) ?_
            exact g_ri hx hb hr hlocks dX0_clearAt_42 (oI_s (fF_y he hlt (by simp [c_2, c_3])))
  exact lp_8 ((n - 0) + 1) 0 (Nat.zero_le _) rfl (Nat.lt_succ_self _) ls (lv_sub hl [2, 3, 1, 0] rfl)

theorem h_X0_isSea : yX0_isSea.cls = RX0 ∧ yX0_isSea.cls ≠ "java/lang/invoke/MethodHandle" ∧ yX0_isSea.cls ≠ "java/lang/invoke/VarHandle" ∧ (parseMethodDescriptor yX0_isSea.desc).map (fun d => d.parameters.length) = some 1 := by decide +kernel
set_option maxHeartbeats 4000000 in
set_option maxRecDepth 100000 in
theorem c_X0_isSea (lz : Launch) (G : gG) (a : Nat → Nat) (h : HaS) (n : Nat) (p : Int32) (hn : h.mo.sayings = nI n) (hn8 : n ≤ 8) : gRd lz yX0_isSea wsX0_isSea 2 G [.ref (a 0), .int p] (wHa a G.2.1 h) (bI (hSea h n p)) := by
  refine g_rd (by decide) rfl (Nat.le_of_ble_eq_true rfl) ?_
  intro pz ez sz mz bz tz cz hx hb hr hml hown hts hlocks hP hK ls hl
  have hl : lv_has ls 2 [(0, .ref (a 0)), (1, .int p)] := hl
  refine lv_aload_n hx hb dX0_isSea_0 rfl (lv_at hl 0 rfl) ?_
  refine lv_iload_n hx hb dX0_isSea_1 rfl (lv_at hl 1 rfl) ?_
  refine g_rdV (As := [.int p]) (rest := []) (nL := 2) hx hb hml hown hts (c_X0_soundingAt lz G a h n p hn hn8) gX0_isSea_X0_soundingAt rfl h_X0_soundingAt ⟨Nat.le_of_ble_eq_true rfl, Nat.le_of_ble_eq_true rfl⟩ hK hP (ci := 0) rfl rfl rfl rfl hl.1 rfl (Nat.le_of_ble_eq_true rfl) ⟨Nat.le_refl _, Nat.le_refl _⟩ dX0_isSea_2 ?_
  refine lv_if_eq (tgt := 22) hx hb dX0_isSea_5 (by decide) (fun c_1 => ?_) (fun c_1 => ?_)
  · skip
    refine lv_iconst (v := 0) hx hb dX0_isSea_22 (by decide) ?_
    exact g_rz hx hb hr hlocks dX0_isSea_23 (by simp [hSea, bI, c_1])
  · skip
    refine lv_aload_n hx hb dX0_isSea_8 rfl (lv_at hl 0 rfl) ?_
    refine lv_iload_n hx hb dX0_isSea_9 rfl (lv_at hl 1 rfl) ?_
    refine g_rdV (As := [.int p]) (rest := []) (nL := 2) hx hb hml hown hts (c_X0_clearAt lz G a h n p hn hn8) gX0_isSea_X0_clearAt rfl h_X0_clearAt ⟨Nat.le_of_ble_eq_true rfl, Nat.le_of_ble_eq_true rfl⟩ hK hP (ci := 0) rfl rfl rfl rfl hl.1 rfl (Nat.le_of_ble_eq_true rfl) ⟨Nat.le_refl _, Nat.le_refl _⟩ dX0_isSea_10 ?_
    refine lv_bipush (v := (-9)) hx hb dX0_isSea_13 (by decide) ?_
    refine lv_icmp_ne (tgt := 22) hx hb dX0_isSea_15 (by decide) (fun c_2 => ?_) (fun c_2 => ?_)
    · skip
      refine lv_iconst (v := 0) hx hb dX0_isSea_22 (by decide) ?_
      exact g_rz hx hb hr hlocks dX0_isSea_23 (by simp [hSea, bI, c_1, c_2])
    · skip
      refine lv_iconst (v := 1) hx hb dX0_isSea_18 (by decide) ?_
      refine lv_goto (tgt := 23) hx hb dX0_isSea_19 (by decide) ?_
      exact g_rz hx hb hr hlocks dX0_isSea_23 (by simp [hSea, bI, c_1, c_2])

theorem i_X0_lasting_X0 : ∀ w ∈ wsX00, w ∈ wsX0_lasting := by decide +kernel
theorem i_X0_lasting_X2 : ∀ w ∈ wsX20, w ∈ wsX0_lasting := by decide +kernel
theorem h_X0_lasting : yX0_lasting.cls = RX0 ∧ yX0_lasting.cls ≠ "java/lang/invoke/MethodHandle" ∧ yX0_lasting.cls ≠ "java/lang/invoke/VarHandle" ∧ (parseMethodDescriptor yX0_lasting.desc).map (fun d => d.parameters.length) = some 0 := by decide +kernel
set_option maxHeartbeats 4000000 in
set_option maxRecDepth 100000 in
theorem c_X0_lasting (lz : Launch) (G : gG) (a : Nat → Nat) (h : HaS) (n : Nat) (hn : h.mo.sayings = nI n) (hn8 : n ≤ 8) : gRd lz yX0_lasting wsX0_lasting 0 G [.ref (a 0)] (wHa a G.2.1 h) (hLast h n) := by
  refine g_rd (by decide) rfl (Nat.le_of_ble_eq_true rfl) ?_
  intro pz ez sz mz bz tz cz hx hb hr hml hown hts hlocks hP hK ls hl
  have hl : lv_has ls 3 [(0, .ref (a 0))] := hl
  have f21 := hts (.fieldLink RX0 21 "WhisperRing$Hall" "now" "LWhisperRing$Moment;") (by decide +kernel)
  have f29 := hts (.fieldLink RX0 29 "WhisperRing$Hall" "strength" "[I") (by decide +kernel)
  have f42 := hts (.fieldLink RX0 42 "WhisperRing$Moment" "sayings" "I") (by decide +kernel)
  refine lv_iconst (v := 0) hx hb dX0_lasting_0 (by decide) ?_
  refine lv_istore_n (lv' := [(1, .int 0), (0, .ref (a 0))]) hx hb dX0_lasting_1 rfl hl (by decide) rfl (fun ls hl => ?_)
  refine lv_iconst (v := 0) hx hb dX0_lasting_2 (by decide) ?_
  refine lv_istore_n (lv' := [(2, .int 0), (1, .int 0), (0, .ref (a 0))]) hx hb dX0_lasting_3 rfl hl (by decide) rfl (fun ls hl => ?_)
  have lp_4 : ∀ (fu_4 : Nat) (i : Nat) (x : Int32), (i ≤ n) → (x = bitsOf (fun s => decide (0 < h.str s)) i) → n - i < fu_4 → ∀ ls : Array Slot, lv_has ls 3 [(0, .ref (a 0)), (1, .int x), (2, .int (nI i))] → W pz lz ez (gRm 0) sz mz ([.ref (a 0)] : List Value).toArray bz tz cz sz.heap [] 0 0 (MQ bz (vp_Si (fun x => x = hLast h n)) ([.ref (a 0)] : List Value).toArray sz 0 0 (fun _ => False)) (F0 mz 4 ls []) := by
    intro fu_4
    induction fu_4 with
    | zero =>
      intro i x hi hac hf_4
      exact absurd hf_4 (Nat.not_lt_zero _)
    | succ fu_4 ih_4 =>
      intro i x hi hac hf_4 ls hl
      refine lv_iload_n hx hb dX0_lasting_4 rfl (lv_at hl 2 rfl) ?_
      refine lv_aload_n hx hb dX0_lasting_5 rfl (lv_at hl 0 rfl) ?_
      refine va_get (D := G.1) (ci := 0) (v := .ref (a 1)) (C := RX0) (T := TX0) (N := 6) hx hb hts i_X0_lasting_X0 hown hK.1 hP 0 rfl rfl 3 (by decide) f21 (fun _ h9 => h9) rfl dX0_lasting_6 ?_
      refine va_get (D := G.1) (ci := 2) (v := .int h.mo.sayings) (C := RX2) (T := TX2) (N := 10) hx hb hts i_X0_lasting_X2 hown hK.1 hP 1 rfl rfl 1 (by decide) f42 (fun _ h9 => h9) rfl dX0_lasting_9 ?_
      refine lv_icmp_ge (tgt := 36) hx hb dX0_lasting_12 (by decide) (fun c_1 => ?_) (fun c_1 => ?_)
      · skip
        have c_1 := gl_le c_1
        have hx2 : n ≤ i := gl_ex hn (by omega) (by omega) c_1
        refine lv_iload_n hx hb dX0_lasting_36 rfl (lv_at hl 1 rfl) ?_
        exact g_ri hx hb hr hlocks dX0_lasting_37 (by rw [hac, show i = n by omega]; rfl)
      · skip
        have c_1 := gl_nle c_1
        have hlt : i < n := gl_in hn (by omega) (by omega) c_1
        refine lv_aload_n hx hb dX0_lasting_15 rfl (lv_at hl 0 rfl) ?_
        refine va_get (D := G.1) (ci := 0) (v := .ref (a 9)) (C := RX0) (T := TX0) (N := 6) hx hb hts i_X0_lasting_X0 hown hK.1 hP 0 rfl rfl 5 (by decide) f29 (fun _ h9 => h9) rfl dX0_lasting_16 ?_
        refine lv_iload_n hx hb dX0_lasting_19 rfl (lv_at hl 2 rfl) ?_
        refine g_iald hx hb hK.1 hP 9 0 rfl rfl (i := i) (by omega) (by decide) dX0_lasting_20 ?_
        refine lv_if_le (tgt := 30) hx hb dX0_lasting_21 (by decide) (fun c_2 => ?_) (fun c_2 => ?_)
        · skip
          have c_2 := gl_le c_2
          refine lv_iinc (v := nI (i + 1)) (lv' := [(2, .int (nI (i + 1))), (0, .ref (a 0)), (1, .int x)]) hx hb dX0_lasting_30 hl (k := 2) rfl (nI_1 i) (by decide) rfl (fun ls hl => ?_)
          refine lv_goto (tgt := 4) hx hb dX0_lasting_33 (by decide) ?_
          exact ih_4 (i + 1) x hlt (bO_n hac (by simp [c_2])) (by omega) ls (lv_sub hl [1, 2, 0] rfl)
        · skip
          have c_2 := gl_nle c_2
          refine lv_iload_n hx hb dX0_lasting_24 rfl (lv_at hl 1 rfl) ?_
          refine lv_iconst (v := 1) hx hb dX0_lasting_25 (by decide) ?_
          refine lv_iload_n hx hb dX0_lasting_26 rfl (lv_at hl 2 rfl) ?_
          refine lv_ishl hx hb dX0_lasting_27 ?_
          refine lv_ior hx hb dX0_lasting_28 ?_
          refine lv_istore_n (lv' := [(1, .int (x ||| (1 <<< ((nI i) &&& 31)))), (0, .ref (a 0)), (2, .int (nI i))]) hx hb dX0_lasting_29 rfl hl (by decide) rfl (fun ls hl => ?_)
          refine lv_iinc (v := nI (i + 1)) (lv' := [(2, .int (nI (i + 1))), (1, .int (x ||| (1 <<< ((nI i) &&& 31)))), (0, .ref (a 0))]) hx hb dX0_lasting_30 hl (k := 2) rfl (nI_1 i) (by decide) rfl (fun ls hl => ?_)
          refine lv_goto (tgt := 4) hx hb dX0_lasting_33 (by decide) ?_
          exact ih_4 (i + 1) (x ||| (1 <<< ((nI i) &&& 31))) hlt (bO_y hac (by simp [c_2])) (by omega) ls (lv_sub hl [2, 1, 0] rfl)
  exact lp_4 ((n - 0) + 1) 0 0 (Nat.zero_le _) rfl (Nat.lt_succ_self _) ls (lv_sub hl [2, 1, 0] rfl)

theorem i_X0_strengthOf_X0 : ∀ w ∈ wsX00, w ∈ wsX0_strengthOf := by decide +kernel
theorem i_X0_strengthOf_X2 : ∀ w ∈ wsX20, w ∈ wsX0_strengthOf := by decide +kernel
theorem h_X0_strengthOf : yX0_strengthOf.cls = RX0 ∧ yX0_strengthOf.cls ≠ "java/lang/invoke/MethodHandle" ∧ yX0_strengthOf.cls ≠ "java/lang/invoke/VarHandle" ∧ (parseMethodDescriptor yX0_strengthOf.desc).map (fun d => d.parameters.length) = some 1 := by decide +kernel
set_option maxHeartbeats 4000000 in
set_option maxRecDepth 100000 in
theorem c_X0_strengthOf (lz : Launch) (G : gG) (a : Nat → Nat) (h : HaS) (n : Nat) (b : Int32) (hn : h.mo.sayings = nI n) (hn8 : n ≤ 8) : gRd lz yX0_strengthOf wsX0_strengthOf 0 G [.ref (a 0), .int b] (wHa a G.2.1 h) (hStrOf h n b) := by
  refine g_rd (by decide) rfl (Nat.le_of_ble_eq_true rfl) ?_
  intro pz ez sz mz bz tz cz hx hb hr hml hown hts hlocks hP hK ls hl
  have hl : lv_has ls 4 [(0, .ref (a 0)), (1, .int b)] := hl
  have f21 := hts (.fieldLink RX0 21 "WhisperRing$Hall" "now" "LWhisperRing$Moment;") (by decide +kernel)
  have f29 := hts (.fieldLink RX0 29 "WhisperRing$Hall" "strength" "[I") (by decide +kernel)
  have f42 := hts (.fieldLink RX0 42 "WhisperRing$Moment" "sayings" "I") (by decide +kernel)
  refine lv_iconst (v := 0) hx hb dX0_strengthOf_0 (by decide) ?_
  refine lv_istore_n (lv' := [(2, .int 0), (0, .ref (a 0)), (1, .int b)]) hx hb dX0_strengthOf_1 rfl hl (by decide) rfl (fun ls hl => ?_)
  refine lv_iconst (v := 0) hx hb dX0_strengthOf_2 (by decide) ?_
  refine lv_istore_n (lv' := [(3, .int 0), (2, .int 0), (0, .ref (a 0)), (1, .int b)]) hx hb dX0_strengthOf_3 rfl hl (by decide) rfl (fun ls hl => ?_)
  have lp_4 : ∀ (fu_4 : Nat) (i : Nat) (x : Int32), (i ≤ n) → (x = sumOf (fun s => hasB b (nI s)) h.str i) → n - i < fu_4 → ∀ ls : Array Slot, lv_has ls 4 [(0, .ref (a 0)), (1, .int b), (2, .int x), (3, .int (nI i))] → W pz lz ez (gRm 0) sz mz ([.ref (a 0), .int b] : List Value).toArray bz tz cz sz.heap [] 0 0 (MQ bz (vp_Si (fun x => x = hStrOf h n b)) ([.ref (a 0), .int b] : List Value).toArray sz 0 0 (fun _ => False)) (F0 mz 4 ls []) := by
    intro fu_4
    induction fu_4 with
    | zero =>
      intro i x hi hac hf_4
      exact absurd hf_4 (Nat.not_lt_zero _)
    | succ fu_4 ih_4 =>
      intro i x hi hac hf_4 ls hl
      refine lv_iload_n hx hb dX0_strengthOf_4 rfl (lv_at hl 3 rfl) ?_
      refine lv_aload_n hx hb dX0_strengthOf_5 rfl (lv_at hl 0 rfl) ?_
      refine va_get (D := G.1) (ci := 0) (v := .ref (a 1)) (C := RX0) (T := TX0) (N := 6) hx hb hts i_X0_strengthOf_X0 hown hK.1 hP 0 rfl rfl 3 (by decide) f21 (fun _ h9 => h9) rfl dX0_strengthOf_6 ?_
      refine va_get (D := G.1) (ci := 2) (v := .int h.mo.sayings) (C := RX2) (T := TX2) (N := 10) hx hb hts i_X0_strengthOf_X2 hown hK.1 hP 1 rfl rfl 1 (by decide) f42 (fun _ h9 => h9) rfl dX0_strengthOf_9 ?_
      refine lv_icmp_ge (tgt := 39) hx hb dX0_strengthOf_12 (by decide) (fun c_1 => ?_) (fun c_1 => ?_)
      · skip
        have c_1 := gl_le c_1
        have hx2 : n ≤ i := gl_ex hn (by omega) (by omega) c_1
        refine lv_iload_n hx hb dX0_strengthOf_39 rfl (lv_at hl 2 rfl) ?_
        exact g_ri hx hb hr hlocks dX0_strengthOf_40 (by rw [hac, show i = n by omega]; rfl)
      · skip
        have c_1 := gl_nle c_1
        have hlt : i < n := gl_in hn (by omega) (by omega) c_1
        refine lv_iload_n hx hb dX0_strengthOf_15 rfl (lv_at hl 1 rfl) ?_
        refine lv_iload_n hx hb dX0_strengthOf_16 rfl (lv_at hl 3 rfl) ?_
        refine lv_ishr hx hb dX0_strengthOf_17 ?_
        refine lv_iconst (v := 1) hx hb dX0_strengthOf_18 (by decide) ?_
        refine lv_iand hx hb dX0_strengthOf_19 ?_
        refine lv_iconst (v := 1) hx hb dX0_strengthOf_20 (by decide) ?_
        refine lv_icmp_ne (tgt := 33) hx hb dX0_strengthOf_21 (by decide) (fun c_2 => ?_) (fun c_2 => ?_)
        · skip
          refine lv_iinc (v := nI (i + 1)) (lv' := [(3, .int (nI (i + 1))), (0, .ref (a 0)), (1, .int b), (2, .int x)]) hx hb dX0_strengthOf_33 hl (k := 3) rfl (nI_1 i) (by decide) rfl (fun ls hl => ?_)
          refine lv_goto (tgt := 4) hx hb dX0_strengthOf_36 (by decide) ?_
          exact ih_4 (i + 1) x hlt (sO_n hac (by simp [hasB, c_2])) (by omega) ls (lv_sub hl [1, 2, 3, 0] rfl)
        · skip
          refine lv_iload_n hx hb dX0_strengthOf_24 rfl (lv_at hl 2 rfl) ?_
          refine lv_aload_n hx hb dX0_strengthOf_25 rfl (lv_at hl 0 rfl) ?_
          refine va_get (D := G.1) (ci := 0) (v := .ref (a 9)) (C := RX0) (T := TX0) (N := 6) hx hb hts i_X0_strengthOf_X0 hown hK.1 hP 0 rfl rfl 5 (by decide) f29 (fun _ h9 => h9) rfl dX0_strengthOf_26 ?_
          refine lv_iload_n hx hb dX0_strengthOf_29 rfl (lv_at hl 3 rfl) ?_
          refine g_iald hx hb hK.1 hP 9 0 rfl rfl (i := i) (by omega) (by decide) dX0_strengthOf_30 ?_
          refine lv_iadd hx hb dX0_strengthOf_31 ?_
          refine lv_istore_n (lv' := [(2, .int (x + (h.str i))), (0, .ref (a 0)), (1, .int b), (3, .int (nI i))]) hx hb dX0_strengthOf_32 rfl hl (by decide) rfl (fun ls hl => ?_)
          refine lv_iinc (v := nI (i + 1)) (lv' := [(3, .int (nI (i + 1))), (2, .int (x + (h.str i))), (0, .ref (a 0)), (1, .int b)]) hx hb dX0_strengthOf_33 hl (k := 3) rfl (nI_1 i) (by decide) rfl (fun ls hl => ?_)
          refine lv_goto (tgt := 4) hx hb dX0_strengthOf_36 (by decide) ?_
          exact ih_4 (i + 1) (x + (h.str i)) hlt (sO_y hac (by simp [hasB, c_2])) (by omega) ls (lv_sub hl [2, 3, 1, 0] rfl)
  exact lp_4 ((n - 0) + 1) 0 0 (Nat.zero_le _) rfl (Nat.lt_succ_self _) ls (lv_sub hl [2, 3, 1, 0] rfl)

theorem i_X0_placesThatSound_X0 : ∀ w ∈ wsX00, w ∈ wsX0_placesThatSound := by decide +kernel
theorem h_X0_placesThatSound : yX0_placesThatSound.cls = RX0 ∧ yX0_placesThatSound.cls ≠ "java/lang/invoke/MethodHandle" ∧ yX0_placesThatSound.cls ≠ "java/lang/invoke/VarHandle" ∧ (parseMethodDescriptor yX0_placesThatSound.desc).map (fun d => d.parameters.length) = some 0 := by decide +kernel
set_option maxHeartbeats 4000000 in
set_option maxRecDepth 100000 in
theorem c_X0_placesThatSound (lz : Launch) (G : gG) (a : Nat → Nat) (h : HaS) (n : Nat) (hn : h.mo.sayings = nI n) (hn8 : n ≤ 8) (N : Nat) (hN : h.pl = nI N) (hN24 : N ≤ 24) : gRd lz yX0_placesThatSound wsX0_placesThatSound 1 G [.ref (a 0)] (wHa a G.2.1 h) (hNSnd h n N) := by
  refine g_rd (by decide) rfl (Nat.le_of_ble_eq_true rfl) ?_
  intro pz ez sz mz bz tz cz hx hb hr hml hown hts hlocks hP hK ls hl
  have hl : lv_has ls 3 [(0, .ref (a 0))] := hl
  have f9 := hts (.fieldLink RX0 9 "WhisperRing$Hall" "places" "I") (by decide +kernel)
  refine lv_iconst (v := 0) hx hb dX0_placesThatSound_0 (by decide) ?_
  refine lv_istore_n (lv' := [(1, .int 0), (0, .ref (a 0))]) hx hb dX0_placesThatSound_1 rfl hl (by decide) rfl (fun ls hl => ?_)
  refine lv_iconst (v := 0) hx hb dX0_placesThatSound_2 (by decide) ?_
  refine lv_istore_n (lv' := [(2, .int 0), (1, .int 0), (0, .ref (a 0))]) hx hb dX0_placesThatSound_3 rfl hl (by decide) rfl (fun ls hl => ?_)
  have lp_4 : ∀ (fu_4 : Nat) (i : Nat) (x : Nat), (i ≤ N) → (x = cntOf (fun p => !decide (hSndB h n (nI p) = 0)) i) → N - i < fu_4 → ∀ ls : Array Slot, lv_has ls 3 [(0, .ref (a 0)), (1, .int (nI x)), (2, .int (nI i))] → W pz lz ez (gRm 1) sz mz ([.ref (a 0)] : List Value).toArray bz tz cz sz.heap [] 0 0 (MQ bz (vp_Si (fun x => x = hNSnd h n N)) ([.ref (a 0)] : List Value).toArray sz 0 0 (fun _ => False)) (F0 mz 4 ls []) := by
    intro fu_4
    induction fu_4 with
    | zero =>
      intro i x hi hac hf_4
      exact absurd hf_4 (Nat.not_lt_zero _)
    | succ fu_4 ih_4 =>
      intro i x hi hac hf_4 ls hl
      refine lv_iload_n hx hb dX0_placesThatSound_4 rfl (lv_at hl 2 rfl) ?_
      refine lv_aload_n hx hb dX0_placesThatSound_5 rfl (lv_at hl 0 rfl) ?_
      refine va_get (D := G.1) (ci := 0) (v := .int h.pl) (C := RX0) (T := TX0) (N := 6) hx hb hts i_X0_placesThatSound_X0 hown hK.1 hP 0 rfl rfl 0 (by decide) f9 (fun _ h9 => h9) rfl dX0_placesThatSound_6 ?_
      refine lv_icmp_ge (tgt := 29) hx hb dX0_placesThatSound_9 (by decide) (fun c_1 => ?_) (fun c_1 => ?_)
      · skip
        have c_1 := gl_le c_1
        have hx2 : N ≤ i := gl_ex hN (by omega) (by omega) c_1
        refine lv_iload_n hx hb dX0_placesThatSound_29 rfl (lv_at hl 1 rfl) ?_
        exact g_ri hx hb hr hlocks dX0_placesThatSound_30 (by rw [hac, show i = N by omega]; rfl)
      · skip
        have c_1 := gl_nle c_1
        have hlt : i < N := gl_in hN (by omega) (by omega) c_1
        refine lv_aload_n hx hb dX0_placesThatSound_12 rfl (lv_at hl 0 rfl) ?_
        refine lv_iload_n hx hb dX0_placesThatSound_13 rfl (lv_at hl 2 rfl) ?_
        refine g_rdV (As := [.int (nI i)]) (rest := []) (nL := 3) hx hb hml hown hts (c_X0_soundingAt lz G a h n (nI i) hn hn8) gX0_placesThatSound_X0_soundingAt rfl h_X0_soundingAt ⟨Nat.le_of_ble_eq_true rfl, Nat.le_of_ble_eq_true rfl⟩ hK hP (ci := 0) rfl rfl rfl rfl hl.1 rfl (Nat.le_of_ble_eq_true rfl) ⟨Nat.le_refl _, Nat.le_refl _⟩ dX0_placesThatSound_14 ?_
        refine lv_if_eq (tgt := 23) hx hb dX0_placesThatSound_17 (by decide) (fun c_2 => ?_) (fun c_2 => ?_)
        · skip
          refine lv_iinc (v := nI (i + 1)) (lv' := [(2, .int (nI (i + 1))), (0, .ref (a 0)), (1, .int (nI x))]) hx hb dX0_placesThatSound_23 hl (k := 2) rfl (nI_1 i) (by decide) rfl (fun ls hl => ?_)
          refine lv_goto (tgt := 4) hx hb dX0_placesThatSound_26 (by decide) ?_
          exact ih_4 (i + 1) x hlt (cO_n hac (by simp [c_2])) (by omega) ls (lv_sub hl [1, 2, 0] rfl)
        · skip
          refine lv_iinc (v := nI (x + 1)) (lv' := [(1, .int (nI (x + 1))), (0, .ref (a 0)), (2, .int (nI i))]) hx hb dX0_placesThatSound_20 hl (k := 1) rfl (nI_1 x) (by decide) rfl (fun ls hl => ?_)
          refine lv_iinc (v := nI (i + 1)) (lv' := [(2, .int (nI (i + 1))), (1, .int (nI (x + 1))), (0, .ref (a 0))]) hx hb dX0_placesThatSound_23 hl (k := 2) rfl (nI_1 i) (by decide) rfl (fun ls hl => ?_)
          refine lv_goto (tgt := 4) hx hb dX0_placesThatSound_26 (by decide) ?_
          exact ih_4 (i + 1) (x + 1) hlt (cO_y hac (by simp [c_2])) (by omega) ls (lv_sub hl [2, 1, 0] rfl)
  exact lp_4 ((N - 0) + 1) 0 0 (Nat.zero_le _) rfl (Nat.lt_succ_self _) ls (lv_sub hl [2, 1, 0] rfl)

theorem i_X0_seas_X0 : ∀ w ∈ wsX00, w ∈ wsX0_seas := by decide +kernel
theorem h_X0_seas : yX0_seas.cls = RX0 ∧ yX0_seas.cls ≠ "java/lang/invoke/MethodHandle" ∧ yX0_seas.cls ≠ "java/lang/invoke/VarHandle" ∧ (parseMethodDescriptor yX0_seas.desc).map (fun d => d.parameters.length) = some 0 := by decide +kernel
set_option maxHeartbeats 4000000 in
set_option maxRecDepth 100000 in
theorem c_X0_seas (lz : Launch) (G : gG) (a : Nat → Nat) (h : HaS) (n : Nat) (hn : h.mo.sayings = nI n) (hn8 : n ≤ 8) (N : Nat) (hN : h.pl = nI N) (hN24 : N ≤ 24) : gRd lz yX0_seas wsX0_seas 3 G [.ref (a 0)] (wHa a G.2.1 h) (hNSea h n N) := by
  refine g_rd (by decide) rfl (Nat.le_of_ble_eq_true rfl) ?_
  intro pz ez sz mz bz tz cz hx hb hr hml hown hts hlocks hP hK ls hl
  have hl : lv_has ls 3 [(0, .ref (a 0))] := hl
  have f9 := hts (.fieldLink RX0 9 "WhisperRing$Hall" "places" "I") (by decide +kernel)
  refine lv_iconst (v := 0) hx hb dX0_seas_0 (by decide) ?_
  refine lv_istore_n (lv' := [(1, .int 0), (0, .ref (a 0))]) hx hb dX0_seas_1 rfl hl (by decide) rfl (fun ls hl => ?_)
  refine lv_iconst (v := 0) hx hb dX0_seas_2 (by decide) ?_
  refine lv_istore_n (lv' := [(2, .int 0), (1, .int 0), (0, .ref (a 0))]) hx hb dX0_seas_3 rfl hl (by decide) rfl (fun ls hl => ?_)
  have lp_4 : ∀ (fu_4 : Nat) (i : Nat) (x : Nat), (i ≤ N) → (x = cntOf (fun p => hSea h n (nI p)) i) → N - i < fu_4 → ∀ ls : Array Slot, lv_has ls 3 [(0, .ref (a 0)), (1, .int (nI x)), (2, .int (nI i))] → W pz lz ez (gRm 3) sz mz ([.ref (a 0)] : List Value).toArray bz tz cz sz.heap [] 0 0 (MQ bz (vp_Si (fun x => x = hNSea h n N)) ([.ref (a 0)] : List Value).toArray sz 0 0 (fun _ => False)) (F0 mz 4 ls []) := by
    intro fu_4
    induction fu_4 with
    | zero =>
      intro i x hi hac hf_4
      exact absurd hf_4 (Nat.not_lt_zero _)
    | succ fu_4 ih_4 =>
      intro i x hi hac hf_4 ls hl
      refine lv_iload_n hx hb dX0_seas_4 rfl (lv_at hl 2 rfl) ?_
      refine lv_aload_n hx hb dX0_seas_5 rfl (lv_at hl 0 rfl) ?_
      refine va_get (D := G.1) (ci := 0) (v := .int h.pl) (C := RX0) (T := TX0) (N := 6) hx hb hts i_X0_seas_X0 hown hK.1 hP 0 rfl rfl 0 (by decide) f9 (fun _ h9 => h9) rfl dX0_seas_6 ?_
      refine lv_icmp_ge (tgt := 29) hx hb dX0_seas_9 (by decide) (fun c_1 => ?_) (fun c_1 => ?_)
      · skip
        have c_1 := gl_le c_1
        have hx2 : N ≤ i := gl_ex hN (by omega) (by omega) c_1
        refine lv_iload_n hx hb dX0_seas_29 rfl (lv_at hl 1 rfl) ?_
        exact g_ri hx hb hr hlocks dX0_seas_30 (by rw [hac, show i = N by omega]; rfl)
      · skip
        have c_1 := gl_nle c_1
        have hlt : i < N := gl_in hN (by omega) (by omega) c_1
        refine lv_aload_n hx hb dX0_seas_12 rfl (lv_at hl 0 rfl) ?_
        refine lv_iload_n hx hb dX0_seas_13 rfl (lv_at hl 2 rfl) ?_
        refine g_rdV (As := [.int (nI i)]) (rest := []) (nL := 3) hx hb hml hown hts (c_X0_isSea lz G a h n (nI i) hn hn8) gX0_seas_X0_isSea rfl h_X0_isSea ⟨Nat.le_of_ble_eq_true rfl, Nat.le_of_ble_eq_true rfl⟩ hK hP (ci := 0) rfl rfl rfl rfl hl.1 rfl (Nat.le_of_ble_eq_true rfl) ⟨Nat.le_refl _, Nat.le_refl _⟩ dX0_seas_14 ?_
        refine lv_if_eq (tgt := 23) hx hb dX0_seas_17 (by decide) (fun c_2 => ?_) (fun c_2 => ?_)
        · skip
          have c_2 := bI_0 c_2
          refine lv_iinc (v := nI (i + 1)) (lv' := [(2, .int (nI (i + 1))), (0, .ref (a 0)), (1, .int (nI x))]) hx hb dX0_seas_23 hl (k := 2) rfl (nI_1 i) (by decide) rfl (fun ls hl => ?_)
          refine lv_goto (tgt := 4) hx hb dX0_seas_26 (by decide) ?_
          exact ih_4 (i + 1) x hlt (cO_n hac (by simp [c_2])) (by omega) ls (lv_sub hl [1, 2, 0] rfl)
        · skip
          have c_2 := bI_1 c_2
          refine lv_iinc (v := nI (x + 1)) (lv' := [(1, .int (nI (x + 1))), (0, .ref (a 0)), (2, .int (nI i))]) hx hb dX0_seas_20 hl (k := 1) rfl (nI_1 x) (by decide) rfl (fun ls hl => ?_)
          refine lv_iinc (v := nI (i + 1)) (lv' := [(2, .int (nI (i + 1))), (1, .int (nI (x + 1))), (0, .ref (a 0))]) hx hb dX0_seas_23 hl (k := 2) rfl (nI_1 i) (by decide) rfl (fun ls hl => ?_)
          refine lv_goto (tgt := 4) hx hb dX0_seas_26 (by decide) ?_
          exact ih_4 (i + 1) (x + 1) hlt (cO_y hac (by simp [c_2])) (by omega) ls (lv_sub hl [2, 1, 0] rfl)
  exact lp_4 ((N - 0) + 1) 0 0 (Nat.zero_le _) rfl (Nat.lt_succ_self _) ls (lv_sub hl [2, 1, 0] rfl)

theorem i_X0_fewestToHush_X0 : ∀ w ∈ wsX00, w ∈ wsX0_fewestToHush := by decide +kernel
theorem h_X0_fewestToHush : yX0_fewestToHush.cls = RX0 ∧ yX0_fewestToHush.cls ≠ "java/lang/invoke/MethodHandle" ∧ yX0_fewestToHush.cls ≠ "java/lang/invoke/VarHandle" ∧ (parseMethodDescriptor yX0_fewestToHush.desc).map (fun d => d.parameters.length) = some 1 := by decide +kernel
set_option maxHeartbeats 4000000 in
set_option maxRecDepth 100000 in
theorem c_X0_fewestToHush (lz : Launch) (G : gG) (a : Nat → Nat) (h : HaS) (n s O : Nat) (hs : s < 8) (hn : h.mo.sayings = nI n) (hn8 : n ≤ 8) (hO : hOth h n s = nI O) (hO8 : O < 256) : gRd lz yX0_fewestToHush wsX0_fewestToHush 1 G [.ref (a 0), .int (nI s)] (wHa a G.2.1 h) (hFewL h n s (hOth h n s) (O + 1)) := by
  refine g_rd (by decide) rfl (Nat.le_of_ble_eq_true rfl) ?_
  intro pz ez sz mz bz tz cz hx hb hr hml hown hts hlocks hP hK ls hl
  have hl : lv_has ls 6 [(0, .ref (a 0)), (1, .int (nI s))] := hl
  have f25 := hts (.fieldLink RX0 25 "WhisperRing$Hall" "at" "[I") (by decide +kernel)
  have f29 := hts (.fieldLink RX0 29 "WhisperRing$Hall" "strength" "[I") (by decide +kernel)
  refine lv_aload_n hx hb dX0_fewestToHush_0 rfl (lv_at hl 0 rfl) ?_
  refine lv_aload_n hx hb dX0_fewestToHush_1 rfl (lv_at hl 0 rfl) ?_
  refine va_get (D := G.1) (ci := 0) (v := .ref (a 8)) (C := RX0) (T := TX0) (N := 6) hx hb hts i_X0_fewestToHush_X0 hown hK.1 hP 0 rfl rfl 4 (by decide) f25 (fun _ h9 => h9) rfl dX0_fewestToHush_2 ?_
  refine lv_iload_n hx hb dX0_fewestToHush_5 rfl (lv_at hl 1 rfl) ?_
  refine g_iald hx hb hK.1 hP 8 0 rfl rfl (i := s) (by omega) (by decide) dX0_fewestToHush_6 ?_
  refine g_rdV (As := [.int (h.ats s)]) (rest := []) (nL := 6) hx hb hml hown hts (c_X0_soundingAt lz G a h n (h.ats s) hn hn8) gX0_fewestToHush_X0_soundingAt rfl h_X0_soundingAt ⟨Nat.le_of_ble_eq_true rfl, Nat.le_of_ble_eq_true rfl⟩ hK hP (ci := 0) rfl rfl rfl rfl hl.1 rfl (Nat.le_of_ble_eq_true rfl) ⟨Nat.le_refl _, Nat.le_refl _⟩ dX0_fewestToHush_7 ?_
  refine lv_iconst (v := 1) hx hb dX0_fewestToHush_10 (by decide) ?_
  refine lv_iload_n hx hb dX0_fewestToHush_11 rfl (lv_at hl 1 rfl) ?_
  refine lv_ishl hx hb dX0_fewestToHush_12 ?_
  refine lv_iconst (v := (-1)) hx hb dX0_fewestToHush_13 (by decide) ?_
  refine lv_ixor hx hb dX0_fewestToHush_14 ?_
  refine lv_iand hx hb dX0_fewestToHush_15 ?_
  refine g_top (y := hOth h n s) rfl ?_
  refine lv_istore_n (lv' := [(2, .int (hOth h n s)), (0, .ref (a 0)), (1, .int (nI s))]) hx hb dX0_fewestToHush_16 rfl hl (by decide) rfl (fun ls hl => ?_)
  refine lv_iload_n hx hb dX0_fewestToHush_17 rfl (lv_at hl 0 rfl) ?_
  refine lv_istore_n (lv' := [(3, .int (hOth h n s)), (2, .int (hOth h n s)), (0, .ref (a 0)), (1, .int (nI s))]) hx hb dX0_fewestToHush_18 rfl hl (by decide) rfl (fun ls hl => ?_)
  refine lv_iconst (v := 0) hx hb dX0_fewestToHush_19 (by decide) ?_
  refine lv_istore (lv' := [(4, .int 0), (3, .int (hOth h n s)), (2, .int (hOth h n s)), (0, .ref (a 0)), (1, .int (nI s))]) hx hb dX0_fewestToHush_20 hl (by decide) rfl (fun ls hl => ?_)
  have lp_22 : ∀ (fu_22 : Nat) (i : Nat) (x : Int32), (i ≤ O + 1) → (x = hFewL h n s (hOth h n s) i) → O + 1 - i < fu_22 → ∀ ls : Array Slot, lv_has ls 6 [(0, .ref (a 0)), (1, .int (nI s)), (2, .int (hOth h n s)), (3, .int x), (4, .int (nI i))] → W pz lz ez (gRm 1) sz mz ([.ref (a 0), .int (nI s)] : List Value).toArray bz tz cz sz.heap [] 0 0 (MQ bz (vp_Si (fun x => x = hFewL h n s (hOth h n s) (O + 1))) ([.ref (a 0), .int (nI s)] : List Value).toArray sz 0 0 (fun _ => False)) (F0 mz 22 ls []) := by
    intro fu_22
    induction fu_22 with
    | zero =>
      intro i x hi hac hf_22
      exact absurd hf_22 (Nat.not_lt_zero _)
    | succ fu_22 ih_22 =>
      intro i x hi hac hf_22 ls hl
      refine lv_iload hx hb dX0_fewestToHush_22 (lv_at hl 4 rfl) ?_
      refine lv_iload_n hx hb dX0_fewestToHush_24 rfl (lv_at hl 2 rfl) ?_
      refine lv_icmp_gt (tgt := 89) hx hb dX0_fewestToHush_25 (by decide) (fun c_1 => ?_) (fun c_1 => ?_)
      · skip
        have hx2 : O < i := gl_cx hO (by omega) (by omega) c_1
        refine lv_iload_n hx hb dX0_fewestToHush_89 rfl (lv_at hl 3 rfl) ?_
        exact g_ri hx hb hr hlocks dX0_fewestToHush_90 (by rw [hac, show i = O + 1 by omega])
      · skip
        have hlt : i ≤ O := gl_ci hO (by omega) (by omega) c_1
        refine lv_iload hx hb dX0_fewestToHush_28 (lv_at hl 4 rfl) ?_
        refine g_rdS (As := [.int (nI i)]) (rest := []) (nL := 6) hx hb hml hown hts (c_J6_bitCount_0f7a4 lz G (nI i)) gX0_fewestToHush_J6_bitCount_0f7a4 rfl h_J6_bitCount_0f7a4 ⟨Nat.le_of_ble_eq_true rfl, Nat.le_of_ble_eq_true rfl⟩ hK gP_nil rfl hl.1 rfl (Nat.le_of_ble_eq_true rfl) ⟨Nat.le_refl _, Nat.le_refl _⟩ dX0_fewestToHush_30 ?_
        refine lv_iload_n hx hb dX0_fewestToHush_33 rfl (lv_at hl 3 rfl) ?_
        refine g_rdS (As := [.int x]) (rest := [.int (jBc (nI i))]) (nL := 6) hx hb hml hown hts (c_J6_bitCount_0f7a4 lz G x) gX0_fewestToHush_J6_bitCount_0f7a4 rfl h_J6_bitCount_0f7a4 ⟨Nat.le_of_ble_eq_true rfl, Nat.le_of_ble_eq_true rfl⟩ hK gP_nil rfl hl.1 rfl (Nat.le_of_ble_eq_true rfl) ⟨Nat.le_refl _, Nat.le_refl _⟩ dX0_fewestToHush_34 ?_
        refine lv_icmp_ge (tgt := 44) hx hb dX0_fewestToHush_37 (by decide) (fun c_2 => ?_) (fun c_2 => ?_)
        · skip
          have c_2 := gl_le c_2
          refine lv_iconst (v := 0) hx hb dX0_fewestToHush_44 (by decide) ?_
          refine lv_istore (lv' := [(5, .int 0), (0, .ref (a 0)), (1, .int (nI s)), (2, .int (hOth h n s)), (3, .int x), (4, .int (nI i))]) hx hb dX0_fewestToHush_45 hl (by decide) rfl (fun ls hl => ?_)
          refine lv_iload hx hb dX0_fewestToHush_47 (lv_at hl 0 rfl) ?_
          refine lv_if_eq (tgt := 83) hx hb dX0_fewestToHush_49 (by decide) (fun c_3 => ?_) (fun c_3 => absurd (by decide) c_3)
          refine lv_iinc (v := nI (i + 1)) (lv' := [(4, .int (nI (i + 1))), (5, .int 0), (0, .ref (a 0)), (1, .int (nI s)), (2, .int (hOth h n s)), (3, .int x)]) hx hb dX0_fewestToHush_83 hl (k := 5) rfl (nI_1 i) (by decide) rfl (fun ls hl => ?_)
          refine lv_goto (tgt := 22) hx hb dX0_fewestToHush_86 (by decide) ?_
          exact ih_22 (i + 1) x (by omega) (by rw [hFewL, ← hac]; (first | rw [if_pos c_2] | rw [if_neg c_2])) (by omega) ls (lv_sub hl [2, 3, 4, 5, 0] rfl)
        · skip
          have c_2 := gl_nle c_2
          refine lv_iconst (v := 1) hx hb dX0_fewestToHush_40 (by decide) ?_
          refine lv_goto (tgt := 45) hx hb dX0_fewestToHush_41 (by decide) ?_
          refine lv_istore (lv' := [(5, .int 1), (0, .ref (a 0)), (1, .int (nI s)), (2, .int (hOth h n s)), (3, .int x), (4, .int (nI i))]) hx hb dX0_fewestToHush_45 hl (by decide) rfl (fun ls hl => ?_)
          refine lv_iload hx hb dX0_fewestToHush_47 (lv_at hl 0 rfl) ?_
          refine lv_if_eq (tgt := 83) hx hb dX0_fewestToHush_49 (by decide) (fun c_4 => absurd c_4 (by decide)) (fun c_4 => ?_)
          refine lv_iload hx hb dX0_fewestToHush_52 (lv_at hl 5 rfl) ?_
          refine lv_iload_n hx hb dX0_fewestToHush_54 rfl (lv_at hl 3 rfl) ?_
          refine lv_iconst (v := (-1)) hx hb dX0_fewestToHush_55 (by decide) ?_
          refine lv_ixor hx hb dX0_fewestToHush_56 ?_
          refine lv_iand hx hb dX0_fewestToHush_57 ?_
          refine lv_if_ne (tgt := 83) hx hb dX0_fewestToHush_58 (by decide) (fun c_5 => ?_) (fun c_5 => ?_)
          · skip
            refine lv_iinc (v := nI (i + 1)) (lv' := [(4, .int (nI (i + 1))), (5, .int 1), (0, .ref (a 0)), (1, .int (nI s)), (2, .int (hOth h n s)), (3, .int x)]) hx hb dX0_fewestToHush_83 hl (k := 5) rfl (nI_1 i) (by decide) rfl (fun ls hl => ?_)
            refine lv_goto (tgt := 22) hx hb dX0_fewestToHush_86 (by decide) ?_
            exact ih_22 (i + 1) x (by omega) (by rw [hFewL, ← hac]; (first | rw [if_pos c_2] | rw [if_neg c_2]); (first | rw [if_pos c_5] | rw [if_neg c_5])) (by omega) ls (lv_sub hl [2, 3, 4, 5, 0] rfl)
          · skip
            refine lv_aload_n hx hb dX0_fewestToHush_61 rfl (lv_at hl 1 rfl) ?_
            refine va_get (D := G.1) (ci := 0) (v := .ref (a 9)) (C := RX0) (T := TX0) (N := 6) hx hb hts i_X0_fewestToHush_X0 hown hK.1 hP 0 rfl rfl 5 (by decide) f29 (fun _ h9 => h9) rfl dX0_fewestToHush_62 ?_
            refine lv_iload_n hx hb dX0_fewestToHush_65 rfl (lv_at hl 2 rfl) ?_
            refine g_iald hx hb hK.1 hP 9 0 rfl rfl (i := s) (by omega) (by decide) dX0_fewestToHush_66 ?_
            refine lv_aload_n hx hb dX0_fewestToHush_67 rfl (lv_at hl 1 rfl) ?_
            refine lv_iload_n hx hb dX0_fewestToHush_68 rfl (lv_at hl 3 rfl) ?_
            refine lv_iload hx hb dX0_fewestToHush_69 (lv_at hl 5 rfl) ?_
            refine lv_iconst (v := (-1)) hx hb dX0_fewestToHush_71 (by decide) ?_
            refine lv_ixor hx hb dX0_fewestToHush_72 ?_
            refine lv_iand hx hb dX0_fewestToHush_73 ?_
            refine g_rdV (As := [.int ((hOth h n s) &&& ((nI i) ^^^ (-1)))]) (rest := [.int (h.str s)]) (nL := 6) hx hb hml hown hts (c_X0_strengthOf lz G a h n ((hOth h n s) &&& ((nI i) ^^^ (-1))) hn hn8) gX0_fewestToHush_X0_strengthOf rfl h_X0_strengthOf ⟨Nat.le_of_ble_eq_true rfl, Nat.le_of_ble_eq_true rfl⟩ hK hP (ci := 0) rfl rfl rfl rfl hl.1 rfl (Nat.le_of_ble_eq_true rfl) ⟨Nat.le_refl _, Nat.le_refl _⟩ dX0_fewestToHush_74 ?_
            refine lv_icmp_le (tgt := 83) hx hb dX0_fewestToHush_77 (by decide) (fun c_6 => ?_) (fun c_6 => ?_)
            · skip
              have c_6 := gl_le c_6
              refine lv_iinc (v := nI (i + 1)) (lv' := [(4, .int (nI (i + 1))), (5, .int 1), (0, .ref (a 0)), (1, .int (nI s)), (2, .int (hOth h n s)), (3, .int x)]) hx hb dX0_fewestToHush_83 hl (k := 5) rfl (nI_1 i) (by decide) rfl (fun ls hl => ?_)
              refine lv_goto (tgt := 22) hx hb dX0_fewestToHush_86 (by decide) ?_
              exact ih_22 (i + 1) x (by omega) (by rw [hFewL, ← hac]; (first | rw [if_pos c_2] | rw [if_neg c_2]); (first | rw [if_pos c_5] | rw [if_neg c_5]); (first | rw [if_pos c_6] | rw [if_neg c_6])) (by omega) ls (lv_sub hl [2, 3, 4, 5, 0] rfl)
            · skip
              have c_6 := gl_nle c_6
              refine lv_iload hx hb dX0_fewestToHush_80 (lv_at hl 5 rfl) ?_
              refine lv_istore_n (lv' := [(3, .int (nI i)), (5, .int 1), (0, .ref (a 0)), (1, .int (nI s)), (2, .int (hOth h n s)), (4, .int (nI i))]) hx hb dX0_fewestToHush_82 rfl hl (by decide) rfl (fun ls hl => ?_)
              refine lv_iinc (v := nI (i + 1)) (lv' := [(4, .int (nI (i + 1))), (3, .int (nI i)), (5, .int 1), (0, .ref (a 0)), (1, .int (nI s)), (2, .int (hOth h n s))]) hx hb dX0_fewestToHush_83 hl (k := 5) rfl (nI_1 i) (by decide) rfl (fun ls hl => ?_)
              refine lv_goto (tgt := 22) hx hb dX0_fewestToHush_86 (by decide) ?_
              exact ih_22 (i + 1) (nI i) (by omega) (by rw [hFewL, ← hac]; (first | rw [if_pos c_2] | rw [if_neg c_2]); (first | rw [if_pos c_5] | rw [if_neg c_5]); (first | rw [if_pos c_6] | rw [if_neg c_6])) (by omega) ls (lv_sub hl [3, 4, 5, 1, 0] rfl)
  exact lp_22 ((O + 1 - 0) + 1) 0 (hOth h n s) (Nat.zero_le _) rfl (Nat.lt_succ_self _) ls (lv_sub hl [3, 4, 2, 1, 0] rfl)

theorem h_X0_lastOf : yX0_lastOf.cls = RX0 ∧ yX0_lastOf.cls ≠ "java/lang/invoke/MethodHandle" ∧ yX0_lastOf.cls ≠ "java/lang/invoke/VarHandle" ∧ (parseMethodDescriptor yX0_lastOf.desc).map (fun d => d.parameters.length) = some 1 := by decide +kernel
set_option maxHeartbeats 4000000 in
set_option maxRecDepth 100000 in
theorem c_X0_lastOf (lz : Launch) (G : gG) (a : Nat → Nat) (h : HaS) (s : Nat) (hs : s < 8) : gRd lz yX0_lastOf wsX0_lastOf 3 G [.ref (a 0), .int (nI s)] (wHa a G.2.1 h) (hLastOf h s) := by
  refine g_rd (by decide) rfl (Nat.le_of_ble_eq_true rfl) ?_
  intro pz ez sz mz bz tz cz hx hb hr hml hown hts hlocks hP hK ls hl
  have hl : lv_has ls 3 [(0, .ref (a 0)), (1, .int (nI s))] := hl
  refine lv_iconst (v := 0) hx hb dX0_lastOf_0 (by decide) ?_
  refine lv_istore_n (lv' := [(2, .int 0), (0, .ref (a 0)), (1, .int (nI s))]) hx hb dX0_lastOf_1 rfl hl (by decide) rfl (fun ls hl => ?_)
  have lp_2 : ∀ (fu_2 : Nat) (i : Nat), (i ≤ 1000) → (firstF (fun k => decide (hStr h s (nI k) = 0)) 1000 0 = firstF (fun k => decide (hStr h s (nI k) = 0)) (1000 - i) i) → 1000 - i < fu_2 → ∀ ls : Array Slot, lv_has ls 3 [(0, .ref (a 0)), (1, .int (nI s)), (2, .int (nI i))] → W pz lz ez (gRm 3) sz mz ([.ref (a 0), .int (nI s)] : List Value).toArray bz tz cz sz.heap [] 0 0 (MQ bz (vp_Si (fun x => x = hLastOf h s)) ([.ref (a 0), .int (nI s)] : List Value).toArray sz 0 0 (fun _ => False)) (F0 mz 2 ls []) := by
    intro fu_2
    induction fu_2 with
    | zero =>
      intro i hi he hf_2
      exact absurd hf_2 (Nat.not_lt_zero _)
    | succ fu_2 ih_2 =>
      intro i hi he hf_2 ls hl
      refine lv_iload_n hx hb dX0_lastOf_2 rfl (lv_at hl 2 rfl) ?_
      refine lv_sipush (v := 999) hx hb dX0_lastOf_3 (by decide) ?_
      refine lv_icmp_gt (tgt := 26) hx hb dX0_lastOf_6 (by decide) (fun c_1 => ?_) (fun c_1 => ?_)
      · skip
        have hx2 : 1000 ≤ i := gl_cx (k := 999) rfl (by decide) (by omega) c_1
        refine lv_bipush (v := (-9)) hx hb dX0_lastOf_26 (by decide) ?_
        exact g_ri hx hb hr hlocks dX0_lastOf_28 (oI_n (fF_e he hx2))
      · skip
        have hlt : i < 1000 := Nat.lt_succ_of_le (gl_ci (k := 999) rfl (by decide) (by omega) c_1)
        refine lv_aload_n hx hb dX0_lastOf_9 rfl (lv_at hl 0 rfl) ?_
        refine lv_iload_n hx hb dX0_lastOf_10 rfl (lv_at hl 1 rfl) ?_
        refine lv_iload_n hx hb dX0_lastOf_11 rfl (lv_at hl 2 rfl) ?_
        refine g_rdV (As := [.int (nI s), .int (nI i)]) (rest := []) (nL := 3) hx hb hml hown hts (c_X0_strengthAfter lz G a h s (nI i) (by omega)) gX0_lastOf_X0_strengthAfter rfl h_X0_strengthAfter ⟨Nat.le_of_ble_eq_true rfl, Nat.le_of_ble_eq_true rfl⟩ hK hP (ci := 0) rfl rfl rfl rfl hl.1 rfl (Nat.le_of_ble_eq_true rfl) ⟨Nat.le_refl _, Nat.le_refl _⟩ dX0_lastOf_12 ?_
        refine lv_if_ne (tgt := 20) hx hb dX0_lastOf_15 (by decide) (fun c_2 => ?_) (fun c_2 => ?_)
        · skip
          refine lv_iinc (v := nI (i + 1)) (lv' := [(2, .int (nI (i + 1))), (0, .ref (a 0)), (1, .int (nI s))]) hx hb dX0_lastOf_20 hl (k := 2) rfl (nI_1 i) (by decide) rfl (fun ls hl => ?_)
          refine lv_goto (tgt := 2) hx hb dX0_lastOf_23 (by decide) ?_
          exact ih_2 (i + 1) hlt (fF_n he hlt (by simp [c_2])) (by omega) ls (lv_sub hl [1, 2, 0] rfl)
        · skip
          refine lv_iload_n hx hb dX0_lastOf_18 rfl (lv_at hl 2 rfl) ?_
          exact g_ri hx hb hr hlocks dX0_lastOf_19 (oI_s (fF_y he hlt (by simp [c_2])))
  exact lp_2 ((1000 - 0) + 1) 0 (Nat.zero_le _) rfl (Nat.lt_succ_self _) ls (lv_sub hl [1, 2, 0] rfl)

theorem h_X0_whenAt : yX0_whenAt.cls = RX0 ∧ yX0_whenAt.cls ≠ "java/lang/invoke/MethodHandle" ∧ yX0_whenAt.cls ≠ "java/lang/invoke/VarHandle" ∧ (parseMethodDescriptor yX0_whenAt.desc).map (fun d => d.parameters.length) = some 2 := by decide +kernel
set_option maxHeartbeats 4000000 in
set_option maxRecDepth 100000 in
theorem c_X0_whenAt (lz : Launch) (G : gG) (a : Nat → Nat) (h : HaS) (s : Nat) (p : Int32) (hs : s < 8) : gRd lz yX0_whenAt wsX0_whenAt 4 G [.ref (a 0), .int (nI s), .int p] (wHa a G.2.1 h) (hWhen h s p) := by
  refine g_rd (by decide) rfl (Nat.le_of_ble_eq_true rfl) ?_
  intro pz ez sz mz bz tz cz hx hb hr hml hown hts hlocks hP hK ls hl
  have hl : lv_has ls 4 [(0, .ref (a 0)), (1, .int (nI s)), (2, .int p)] := hl
  refine lv_iconst (v := 0) hx hb dX0_whenAt_0 (by decide) ?_
  refine lv_istore_n (lv' := [(3, .int 0), (0, .ref (a 0)), (1, .int (nI s)), (2, .int p)]) hx hb dX0_whenAt_1 rfl hl (by decide) rfl (fun ls hl => ?_)
  have lp_2 : ∀ (fu_2 : Nat) (i : Nat), (i ≤ 1000) → (firstF (fun k => hSnd h s p (nI k)) 1000 0 = firstF (fun k => hSnd h s p (nI k)) (1000 - i) i) → 1000 - i < fu_2 → ∀ ls : Array Slot, lv_has ls 4 [(0, .ref (a 0)), (1, .int (nI s)), (2, .int p), (3, .int (nI i))] → W pz lz ez (gRm 4) sz mz ([.ref (a 0), .int (nI s), .int p] : List Value).toArray bz tz cz sz.heap [] 0 0 (MQ bz (vp_Si (fun x => x = hWhen h s p)) ([.ref (a 0), .int (nI s), .int p] : List Value).toArray sz 0 0 (fun _ => False)) (F0 mz 2 ls []) := by
    intro fu_2
    induction fu_2 with
    | zero =>
      intro i hi he hf_2
      exact absurd hf_2 (Nat.not_lt_zero _)
    | succ fu_2 ih_2 =>
      intro i hi he hf_2 ls hl
      refine lv_iload_n hx hb dX0_whenAt_2 rfl (lv_at hl 3 rfl) ?_
      refine lv_sipush (v := 999) hx hb dX0_whenAt_3 (by decide) ?_
      refine lv_icmp_gt (tgt := 27) hx hb dX0_whenAt_6 (by decide) (fun c_1 => ?_) (fun c_1 => ?_)
      · skip
        have hx2 : 1000 ≤ i := gl_cx (k := 999) rfl (by decide) (by omega) c_1
        refine lv_bipush (v := (-9)) hx hb dX0_whenAt_27 (by decide) ?_
        exact g_ri hx hb hr hlocks dX0_whenAt_29 (oI_n (fF_e he hx2))
      · skip
        have hlt : i < 1000 := Nat.lt_succ_of_le (gl_ci (k := 999) rfl (by decide) (by omega) c_1)
        refine lv_aload_n hx hb dX0_whenAt_9 rfl (lv_at hl 0 rfl) ?_
        refine lv_iload_n hx hb dX0_whenAt_10 rfl (lv_at hl 1 rfl) ?_
        refine lv_iload_n hx hb dX0_whenAt_11 rfl (lv_at hl 2 rfl) ?_
        refine lv_iload_n hx hb dX0_whenAt_12 rfl (lv_at hl 3 rfl) ?_
        refine g_rdV (As := [.int (nI s), .int p, .int (nI i)]) (rest := []) (nL := 4) hx hb hml hown hts (c_X0_sounds lz G a h s p (nI i) (by omega)) gX0_whenAt_X0_sounds rfl h_X0_sounds ⟨Nat.le_of_ble_eq_true rfl, Nat.le_of_ble_eq_true rfl⟩ hK hP (ci := 0) rfl rfl rfl rfl hl.1 rfl (Nat.le_of_ble_eq_true rfl) ⟨Nat.le_refl _, Nat.le_refl _⟩ dX0_whenAt_13 ?_
        refine lv_if_eq (tgt := 21) hx hb dX0_whenAt_16 (by decide) (fun c_2 => ?_) (fun c_2 => ?_)
        · skip
          have c_2 := bI_0 c_2
          refine lv_iinc (v := nI (i + 1)) (lv' := [(3, .int (nI (i + 1))), (0, .ref (a 0)), (1, .int (nI s)), (2, .int p)]) hx hb dX0_whenAt_21 hl (k := 3) rfl (nI_1 i) (by decide) rfl (fun ls hl => ?_)
          refine lv_goto (tgt := 2) hx hb dX0_whenAt_24 (by decide) ?_
          exact ih_2 (i + 1) hlt (fF_n he hlt (by simp [c_2])) (by omega) ls (lv_sub hl [1, 2, 3, 0] rfl)
        · skip
          have c_2 := bI_1 c_2
          refine lv_iload_n hx hb dX0_whenAt_19 rfl (lv_at hl 3 rfl) ?_
          exact g_ri hx hb hr hlocks dX0_whenAt_20 (oI_s (fF_y he hlt (by simp [c_2])))
  exact lp_2 ((1000 - 0) + 1) 0 (Nat.zero_le _) rfl (Nat.lt_succ_self _) ls (lv_sub hl [1, 2, 3, 0] rfl)

theorem h_X0_oftenAt : yX0_oftenAt.cls = RX0 ∧ yX0_oftenAt.cls ≠ "java/lang/invoke/MethodHandle" ∧ yX0_oftenAt.cls ≠ "java/lang/invoke/VarHandle" ∧ (parseMethodDescriptor yX0_oftenAt.desc).map (fun d => d.parameters.length) = some 2 := by decide +kernel
set_option maxHeartbeats 4000000 in
set_option maxRecDepth 100000 in
theorem c_X0_oftenAt (lz : Launch) (G : gG) (a : Nat → Nat) (h : HaS) (s : Nat) (p : Int32) (hs : s < 8) : gRd lz yX0_oftenAt wsX0_oftenAt 4 G [.ref (a 0), .int (nI s), .int p] (wHa a G.2.1 h) (hOften h s p) := by
  refine g_rd (by decide) rfl (Nat.le_of_ble_eq_true rfl) ?_
  intro pz ez sz mz bz tz cz hx hb hr hml hown hts hlocks hP hK ls hl
  have hl : lv_has ls 5 [(0, .ref (a 0)), (1, .int (nI s)), (2, .int p)] := hl
  refine lv_iconst (v := 0) hx hb dX0_oftenAt_0 (by decide) ?_
  refine lv_istore_n (lv' := [(3, .int 0), (0, .ref (a 0)), (1, .int (nI s)), (2, .int p)]) hx hb dX0_oftenAt_1 rfl hl (by decide) rfl (fun ls hl => ?_)
  refine lv_iconst (v := 0) hx hb dX0_oftenAt_2 (by decide) ?_
  refine lv_istore (lv' := [(4, .int 0), (3, .int 0), (0, .ref (a 0)), (1, .int (nI s)), (2, .int p)]) hx hb dX0_oftenAt_3 hl (by decide) rfl (fun ls hl => ?_)
  have lp_5 : ∀ (fu_5 : Nat) (i : Nat) (x : Nat), (i ≤ 1000) → (x = cntOf (fun k => hSnd h s p (nI k)) i) → 1000 - i < fu_5 → ∀ ls : Array Slot, lv_has ls 5 [(0, .ref (a 0)), (1, .int (nI s)), (2, .int p), (3, .int (nI x)), (4, .int (nI i))] → W pz lz ez (gRm 4) sz mz ([.ref (a 0), .int (nI s), .int p] : List Value).toArray bz tz cz sz.heap [] 0 0 (MQ bz (vp_Si (fun x => x = hOften h s p)) ([.ref (a 0), .int (nI s), .int p] : List Value).toArray sz 0 0 (fun _ => False)) (F0 mz 5 ls []) := by
    intro fu_5
    induction fu_5 with
    | zero =>
      intro i x hi hac hf_5
      exact absurd hf_5 (Nat.not_lt_zero _)
    | succ fu_5 ih_5 =>
      intro i x hi hac hf_5 ls hl
      refine lv_iload hx hb dX0_oftenAt_5 (lv_at hl 4 rfl) ?_
      refine lv_sipush (v := 999) hx hb dX0_oftenAt_7 (by decide) ?_
      refine lv_icmp_gt (tgt := 33) hx hb dX0_oftenAt_10 (by decide) (fun c_1 => ?_) (fun c_1 => ?_)
      · skip
        have hx2 : 1000 ≤ i := gl_cx (k := 999) rfl (by decide) (by omega) c_1
        refine lv_iload_n hx hb dX0_oftenAt_33 rfl (lv_at hl 3 rfl) ?_
        exact g_ri hx hb hr hlocks dX0_oftenAt_34 (by rw [hac, show i = 1000 by omega]; rfl)
      · skip
        have hlt : i < 1000 := Nat.lt_succ_of_le (gl_ci (k := 999) rfl (by decide) (by omega) c_1)
        refine lv_aload_n hx hb dX0_oftenAt_13 rfl (lv_at hl 0 rfl) ?_
        refine lv_iload_n hx hb dX0_oftenAt_14 rfl (lv_at hl 1 rfl) ?_
        refine lv_iload_n hx hb dX0_oftenAt_15 rfl (lv_at hl 2 rfl) ?_
        refine lv_iload hx hb dX0_oftenAt_16 (lv_at hl 4 rfl) ?_
        refine g_rdV (As := [.int (nI s), .int p, .int (nI i)]) (rest := []) (nL := 5) hx hb hml hown hts (c_X0_sounds lz G a h s p (nI i) (by omega)) gX0_oftenAt_X0_sounds rfl h_X0_sounds ⟨Nat.le_of_ble_eq_true rfl, Nat.le_of_ble_eq_true rfl⟩ hK hP (ci := 0) rfl rfl rfl rfl hl.1 rfl (Nat.le_of_ble_eq_true rfl) ⟨Nat.le_refl _, Nat.le_refl _⟩ dX0_oftenAt_18 ?_
        refine lv_if_eq (tgt := 27) hx hb dX0_oftenAt_21 (by decide) (fun c_2 => ?_) (fun c_2 => ?_)
        · skip
          have c_2 := bI_0 c_2
          refine lv_iinc (v := nI (i + 1)) (lv' := [(4, .int (nI (i + 1))), (0, .ref (a 0)), (1, .int (nI s)), (2, .int p), (3, .int (nI x))]) hx hb dX0_oftenAt_27 hl (k := 4) rfl (nI_1 i) (by decide) rfl (fun ls hl => ?_)
          refine lv_goto (tgt := 5) hx hb dX0_oftenAt_30 (by decide) ?_
          exact ih_5 (i + 1) x hlt (cO_n hac (by simp [c_2])) (by omega) ls (lv_sub hl [1, 2, 3, 4, 0] rfl)
        · skip
          have c_2 := bI_1 c_2
          refine lv_iinc (v := nI (x + 1)) (lv' := [(3, .int (nI (x + 1))), (0, .ref (a 0)), (1, .int (nI s)), (2, .int p), (4, .int (nI i))]) hx hb dX0_oftenAt_24 hl (k := 3) rfl (nI_1 x) (by decide) rfl (fun ls hl => ?_)
          refine lv_iinc (v := nI (i + 1)) (lv' := [(4, .int (nI (i + 1))), (3, .int (nI (x + 1))), (0, .ref (a 0)), (1, .int (nI s)), (2, .int p)]) hx hb dX0_oftenAt_27 hl (k := 4) rfl (nI_1 i) (by decide) rfl (fun ls hl => ?_)
          refine lv_goto (tgt := 5) hx hb dX0_oftenAt_30 (by decide) ?_
          exact ih_5 (i + 1) (x + 1) hlt (cO_y hac (by simp [c_2])) (by omega) ls (lv_sub hl [2, 3, 4, 1, 0] rfl)
  exact lp_5 ((1000 - 0) + 1) 0 0 (Nat.zero_le _) rfl (Nat.lt_succ_self _) ls (lv_sub hl [2, 3, 4, 1, 0] rfl)

theorem h_X0_meetingOf : yX0_meetingOf.cls = RX0 ∧ yX0_meetingOf.cls ≠ "java/lang/invoke/MethodHandle" ∧ yX0_meetingOf.cls ≠ "java/lang/invoke/VarHandle" ∧ (parseMethodDescriptor yX0_meetingOf.desc).map (fun d => d.parameters.length) = some 2 := by decide +kernel
set_option maxHeartbeats 4000000 in
set_option maxRecDepth 100000 in
theorem c_X0_meetingOf (lz : Launch) (G : gG) (a : Nat → Nat) (h : HaS) (s t : Nat) (hs : s < 8) (ht : t < 8) : gRd lz yX0_meetingOf wsX0_meetingOf 4 G [.ref (a 0), .int (nI s), .int (nI t)] (wHa a G.2.1 h) (hMeet h s t) := by
  refine g_rd (by decide) rfl (Nat.le_of_ble_eq_true rfl) ?_
  intro pz ez sz mz bz tz cz hx hb hr hml hown hts hlocks hP hK ls hl
  have hl : lv_has ls 4 [(0, .ref (a 0)), (1, .int (nI s)), (2, .int (nI t))] := hl
  refine lv_iconst (v := 0) hx hb dX0_meetingOf_0 (by decide) ?_
  refine lv_istore_n (lv' := [(3, .int 0), (0, .ref (a 0)), (1, .int (nI s)), (2, .int (nI t))]) hx hb dX0_meetingOf_1 rfl hl (by decide) rfl (fun ls hl => ?_)
  have lp_2 : ∀ (fu_2 : Nat) (i : Nat), (i ≤ 1000) → (firstF (fun k => decide (0 < hStr h s (nI k)) && hSnd h t (hPlace h s (nI k)) (nI k)) 1000 0 = firstF (fun k => decide (0 < hStr h s (nI k)) && hSnd h t (hPlace h s (nI k)) (nI k)) (1000 - i) i) → 1000 - i < fu_2 → ∀ ls : Array Slot, lv_has ls 4 [(0, .ref (a 0)), (1, .int (nI s)), (2, .int (nI t)), (3, .int (nI i))] → W pz lz ez (gRm 4) sz mz ([.ref (a 0), .int (nI s), .int (nI t)] : List Value).toArray bz tz cz sz.heap [] 0 0 (MQ bz (vp_Si (fun x => x = hMeet h s t)) ([.ref (a 0), .int (nI s), .int (nI t)] : List Value).toArray sz 0 0 (fun _ => False)) (F0 mz 2 ls []) := by
    intro fu_2
    induction fu_2 with
    | zero =>
      intro i hi he hf_2
      exact absurd hf_2 (Nat.not_lt_zero _)
    | succ fu_2 ih_2 =>
      intro i hi he hf_2 ls hl
      refine lv_iload_n hx hb dX0_meetingOf_2 rfl (lv_at hl 3 rfl) ?_
      refine lv_sipush (v := 999) hx hb dX0_meetingOf_3 (by decide) ?_
      refine lv_icmp_gt (tgt := 41) hx hb dX0_meetingOf_6 (by decide) (fun c_1 => ?_) (fun c_1 => ?_)
      · skip
        have hx2 : 1000 ≤ i := gl_cx (k := 999) rfl (by decide) (by omega) c_1
        refine lv_bipush (v := (-9)) hx hb dX0_meetingOf_41 (by decide) ?_
        exact g_ri hx hb hr hlocks dX0_meetingOf_43 (oI_n (fF_e he hx2))
      · skip
        have hlt : i < 1000 := Nat.lt_succ_of_le (gl_ci (k := 999) rfl (by decide) (by omega) c_1)
        refine lv_aload_n hx hb dX0_meetingOf_9 rfl (lv_at hl 0 rfl) ?_
        refine lv_iload_n hx hb dX0_meetingOf_10 rfl (lv_at hl 1 rfl) ?_
        refine lv_iload_n hx hb dX0_meetingOf_11 rfl (lv_at hl 3 rfl) ?_
        refine g_rdV (As := [.int (nI s), .int (nI i)]) (rest := []) (nL := 4) hx hb hml hown hts (c_X0_strengthAfter lz G a h s (nI i) (by omega)) gX0_meetingOf_X0_strengthAfter rfl h_X0_strengthAfter ⟨Nat.le_of_ble_eq_true rfl, Nat.le_of_ble_eq_true rfl⟩ hK hP (ci := 0) rfl rfl rfl rfl hl.1 rfl (Nat.le_of_ble_eq_true rfl) ⟨Nat.le_refl _, Nat.le_refl _⟩ dX0_meetingOf_12 ?_
        refine lv_if_le (tgt := 35) hx hb dX0_meetingOf_15 (by decide) (fun c_2 => ?_) (fun c_2 => ?_)
        · skip
          have c_2 := gl_le c_2
          refine lv_iinc (v := nI (i + 1)) (lv' := [(3, .int (nI (i + 1))), (0, .ref (a 0)), (1, .int (nI s)), (2, .int (nI t))]) hx hb dX0_meetingOf_35 hl (k := 3) rfl (nI_1 i) (by decide) rfl (fun ls hl => ?_)
          refine lv_goto (tgt := 2) hx hb dX0_meetingOf_38 (by decide) ?_
          exact ih_2 (i + 1) hlt (fF_n he hlt (by simp [c_2])) (by omega) ls (lv_sub hl [1, 2, 3, 0] rfl)
        · skip
          have c_2 := gl_nle c_2
          refine lv_aload_n hx hb dX0_meetingOf_18 rfl (lv_at hl 0 rfl) ?_
          refine lv_iload_n hx hb dX0_meetingOf_19 rfl (lv_at hl 2 rfl) ?_
          refine lv_aload_n hx hb dX0_meetingOf_20 rfl (lv_at hl 0 rfl) ?_
          refine lv_iload_n hx hb dX0_meetingOf_21 rfl (lv_at hl 1 rfl) ?_
          refine lv_iload_n hx hb dX0_meetingOf_22 rfl (lv_at hl 3 rfl) ?_
          refine g_rdV (As := [.int (nI s), .int (nI i)]) (rest := [.int (nI t), .ref (a 0)]) (nL := 4) hx hb hml hown hts (c_X0_placeAfter lz G a h s (nI i) (by omega)) gX0_meetingOf_X0_placeAfter rfl h_X0_placeAfter ⟨Nat.le_of_ble_eq_true rfl, Nat.le_of_ble_eq_true rfl⟩ hK hP (ci := 0) rfl rfl rfl rfl hl.1 rfl (Nat.le_of_ble_eq_true rfl) ⟨Nat.le_refl _, Nat.le_refl _⟩ dX0_meetingOf_23 ?_
          refine lv_iload_n hx hb dX0_meetingOf_26 rfl (lv_at hl 3 rfl) ?_
          refine g_rdV (As := [.int (nI t), .int (hPlace h s (nI i)), .int (nI i)]) (rest := []) (nL := 4) hx hb hml hown hts (c_X0_sounds lz G a h t (hPlace h s (nI i)) (nI i) (by omega)) gX0_meetingOf_X0_sounds rfl h_X0_sounds ⟨Nat.le_of_ble_eq_true rfl, Nat.le_of_ble_eq_true rfl⟩ hK hP (ci := 0) rfl rfl rfl rfl hl.1 rfl (Nat.le_of_ble_eq_true rfl) ⟨Nat.le_refl _, Nat.le_refl _⟩ dX0_meetingOf_27 ?_
          refine lv_if_eq (tgt := 35) hx hb dX0_meetingOf_30 (by decide) (fun c_3 => ?_) (fun c_3 => ?_)
          · skip
            have c_3 := bI_0 c_3
            refine lv_iinc (v := nI (i + 1)) (lv' := [(3, .int (nI (i + 1))), (0, .ref (a 0)), (1, .int (nI s)), (2, .int (nI t))]) hx hb dX0_meetingOf_35 hl (k := 3) rfl (nI_1 i) (by decide) rfl (fun ls hl => ?_)
            refine lv_goto (tgt := 2) hx hb dX0_meetingOf_38 (by decide) ?_
            exact ih_2 (i + 1) hlt (fF_n he hlt (by simp [c_2, c_3])) (by omega) ls (lv_sub hl [1, 2, 3, 0] rfl)
          · skip
            have c_3 := bI_1 c_3
            refine lv_iload_n hx hb dX0_meetingOf_33 rfl (lv_at hl 3 rfl) ?_
            exact g_ri hx hb hr hlocks dX0_meetingOf_34 (oI_s (fF_y he hlt (by simp [c_2, c_3])))
  exact lp_2 ((1000 - 0) + 1) 0 (Nat.zero_le _) rfl (Nat.lt_succ_self _) ls (lv_sub hl [1, 2, 3, 0] rfl)

theorem i_X0_ticksTo_X0 : ∀ w ∈ wsX00, w ∈ wsX0_ticksTo := by decide +kernel
theorem h_X0_ticksTo : yX0_ticksTo.cls = RX0 ∧ yX0_ticksTo.cls ≠ "java/lang/invoke/MethodHandle" ∧ yX0_ticksTo.cls ≠ "java/lang/invoke/VarHandle" ∧ (parseMethodDescriptor yX0_ticksTo.desc).map (fun d => d.parameters.length) = some 4 := by decide +kernel
set_option maxHeartbeats 4000000 in
set_option maxRecDepth 100000 in
theorem c_X0_ticksTo (lz : Launch) (G : gG) (a : Nat → Nat) (h : HaS) (N : Nat) (hN : h.pl = nI N) (hN24 : N ≤ 24) (p q sp way : Int32) : gRd lz yX0_ticksTo wsX0_ticksTo 2 G [.ref (a 0), .int p, .int q, .int sp, .int way] (wHa a G.2.1 h) (hTicksTo h N p q sp way) := by
  refine g_rd (by decide) rfl (Nat.le_of_ble_eq_true rfl) ?_
  intro pz ez sz mz bz tz cz hx hb hr hml hown hts hlocks hP hK ls hl
  have hl : lv_has ls 6 [(0, .ref (a 0)), (1, .int p), (2, .int q), (3, .int sp), (4, .int way)] := hl
  have f9 := hts (.fieldLink RX0 9 "WhisperRing$Hall" "places" "I") (by decide +kernel)
  refine lv_iconst (v := 0) hx hb dX0_ticksTo_0 (by decide) ?_
  refine lv_istore (lv' := [(5, .int 0), (0, .ref (a 0)), (1, .int p), (2, .int q), (3, .int sp), (4, .int way)]) hx hb dX0_ticksTo_1 hl (by decide) rfl (fun ls hl => ?_)
  have lp_3 : ∀ (fu_3 : Nat) (i : Nat), (i ≤ N) → (firstF (fun k => decide (hReach h p way (sp * nI k) = q)) N 0 = firstF (fun k => decide (hReach h p way (sp * nI k) = q)) (N - i) i) → N - i < fu_3 → ∀ ls : Array Slot, lv_has ls 6 [(0, .ref (a 0)), (1, .int p), (2, .int q), (3, .int sp), (4, .int way), (5, .int (nI i))] → W pz lz ez (gRm 2) sz mz ([.ref (a 0), .int p, .int q, .int sp, .int way] : List Value).toArray bz tz cz sz.heap [] 0 0 (MQ bz (vp_Si (fun x => x = hTicksTo h N p q sp way)) ([.ref (a 0), .int p, .int q, .int sp, .int way] : List Value).toArray sz 0 0 (fun _ => False)) (F0 mz 3 ls []) := by
    intro fu_3
    induction fu_3 with
    | zero =>
      intro i hi he hf_3
      exact absurd hf_3 (Nat.not_lt_zero _)
    | succ fu_3 ih_3 =>
      intro i hi he hf_3 ls hl
      refine lv_iload hx hb dX0_ticksTo_3 (lv_at hl 5 rfl) ?_
      refine lv_aload_n hx hb dX0_ticksTo_5 rfl (lv_at hl 0 rfl) ?_
      refine va_get (D := G.1) (ci := 0) (v := .int h.pl) (C := RX0) (T := TX0) (N := 6) hx hb hts i_X0_ticksTo_X0 hown hK.1 hP 0 rfl rfl 0 (by decide) f9 (fun _ h9 => h9) rfl dX0_ticksTo_6 ?_
      refine lv_icmp_ge (tgt := 36) hx hb dX0_ticksTo_9 (by decide) (fun c_1 => ?_) (fun c_1 => ?_)
      · skip
        have c_1 := gl_le c_1
        have hx2 : N ≤ i := gl_ex hN (by omega) (by omega) c_1
        refine lv_bipush (v := (-9)) hx hb dX0_ticksTo_36 (by decide) ?_
        exact g_ri hx hb hr hlocks dX0_ticksTo_38 (oI_n (fF_e he hx2))
      · skip
        have c_1 := gl_nle c_1
        have hlt : i < N := gl_in hN (by omega) (by omega) c_1
        refine lv_aload_n hx hb dX0_ticksTo_12 rfl (lv_at hl 0 rfl) ?_
        refine lv_iload_n hx hb dX0_ticksTo_13 rfl (lv_at hl 1 rfl) ?_
        refine lv_iload hx hb dX0_ticksTo_14 (lv_at hl 4 rfl) ?_
        refine lv_iload_n hx hb dX0_ticksTo_16 rfl (lv_at hl 3 rfl) ?_
        refine lv_iload hx hb dX0_ticksTo_17 (lv_at hl 5 rfl) ?_
        refine lv_imul hx hb dX0_ticksTo_19 ?_
        refine g_rdV (As := [.int p, .int way, .int (sp * (nI i))]) (rest := []) (nL := 6) hx hb hml hown hts (c_X0_reach lz G a h p way (sp * (nI i))) gX0_ticksTo_X0_reach rfl h_X0_reach ⟨Nat.le_of_ble_eq_true rfl, Nat.le_of_ble_eq_true rfl⟩ hK hP (ci := 0) rfl rfl rfl rfl hl.1 rfl (Nat.le_of_ble_eq_true rfl) ⟨Nat.le_refl _, Nat.le_refl _⟩ dX0_ticksTo_20 ?_
        refine lv_iload_n hx hb dX0_ticksTo_23 rfl (lv_at hl 2 rfl) ?_
        refine lv_icmp_ne (tgt := 30) hx hb dX0_ticksTo_24 (by decide) (fun c_2 => ?_) (fun c_2 => ?_)
        · skip
          refine lv_iinc (v := nI (i + 1)) (lv' := [(5, .int (nI (i + 1))), (0, .ref (a 0)), (1, .int p), (2, .int q), (3, .int sp), (4, .int way)]) hx hb dX0_ticksTo_30 hl (k := 5) rfl (nI_1 i) (by decide) rfl (fun ls hl => ?_)
          refine lv_goto (tgt := 3) hx hb dX0_ticksTo_33 (by decide) ?_
          exact ih_3 (i + 1) hlt (fF_n he hlt (by simp [c_2])) (by omega) ls (lv_sub hl [1, 2, 3, 4, 5, 0] rfl)
        · skip
          refine lv_iload hx hb dX0_ticksTo_27 (lv_at hl 5 rfl) ?_
          exact g_ri hx hb hr hlocks dX0_ticksTo_29 (oI_s (fF_y he hlt (by simp [c_2])))
  exact lp_3 ((N - 0) + 1) 0 (Nat.zero_le _) rfl (Nat.lt_succ_self _) ls (lv_sub hl [1, 2, 3, 4, 5, 0] rfl)

theorem i_X0_listen_X0 : ∀ w ∈ wsX00, w ∈ wsX0_listen := by decide +kernel
theorem i_X0_listen_X2 : ∀ w ∈ wsX20, w ∈ wsX0_listen := by decide +kernel
theorem h_X0_listen : yX0_listen.cls = RX0 ∧ yX0_listen.cls ≠ "java/lang/invoke/MethodHandle" ∧ yX0_listen.cls ≠ "java/lang/invoke/VarHandle" ∧ (parseMethodDescriptor yX0_listen.desc).map (fun d => d.parameters.length) = some 1 := by decide +kernel
set_option maxHeartbeats 4000000 in
set_option maxRecDepth 100000 in
theorem c_X0_listen (lz : Launch) (G : gG) (a : Nat → Nat) (h : HaS) (n : Nat) (k : Int32) (hn : h.mo.sayings = nI n) (hn8 : n ≤ 8) : gWr lz yX0_listen wsX0_listen 3 G [.ref (a 0), .int k] (wHa a G.2.1 h) (wHa a G.2.1 (hLis h n k)) none := by
  refine g_wr (by decide) rfl (Nat.le_of_ble_eq_true rfl) ?_
  intro pz ez sz mz bz tz cz hx hb hr hml hown hts hlocks hK A hAe hP hD hS ls hl
  have hl : lv_has ls 3 [(0, .ref (a 0)), (1, .int k)] := hl
  have f21 := hts (.fieldLink RX0 21 "WhisperRing$Hall" "now" "LWhisperRing$Moment;") (by decide +kernel)
  have f25 := hts (.fieldLink RX0 25 "WhisperRing$Hall" "at" "[I") (by decide +kernel)
  have f29 := hts (.fieldLink RX0 29 "WhisperRing$Hall" "strength" "[I") (by decide +kernel)
  have f42 := hts (.fieldLink RX0 42 "WhisperRing$Moment" "sayings" "I") (by decide +kernel)
  refine lv_iconst (v := 0) hx hb dX0_listen_0 (by decide) ?_
  refine lv_istore_n (lv' := [(2, .int 0), (0, .ref (a 0)), (1, .int k)]) hx hb dX0_listen_1 rfl hl (by decide) rfl (fun ls hl => ?_)
  have lp_2 : ∀ (fu_2 : Nat) (i : Nat) (u : Nat → Int32) (v : Nat → Int32), (i ≤ n) → (u = lsF (fun s => hPlace h s k) h.ats i) → (v = lsF (fun s => hStr h s k) h.str i) → n - i < fu_2 → ∀ (H : Heap) (locs : List Loc), va_P G.1 vwCl (wHa a G.2.1 (h.pl, h.loss, h.nich, h.mo, u, v)) H → va_D A (wHa a G.2.1 (h.pl, h.loss, h.nich, h.mo, u, v)) → va_S A sz.heap H locs → ∀ ls : Array Slot, lv_has ls 3 [(0, .ref (a 0)), (1, .int k), (2, .int (nI i))] → W pz lz ez (gRm 3) sz mz ([.ref (a 0), .int k] : List Value).toArray bz tz cz H locs 0 0 (MQ bz (gQ G (wHa a G.2.1 h) (wHa a G.2.1 (hLis h n k)) none) ([.ref (a 0), .int k] : List Value).toArray sz 0 0 (gAd (wHa a G.2.1 h))) (F0 mz 2 ls []) := by
    intro fu_2
    induction fu_2 with
    | zero =>
      intro i u v hi hu hv hf_2
      exact absurd hf_2 (Nat.not_lt_zero _)
    | succ fu_2 ih_2 =>
      intro i u v hi hu hv hf_2 H locs hP hD hS ls hl
      refine lv_iload_n hx hb dX0_listen_2 rfl (lv_at hl 2 rfl) ?_
      refine lv_aload_n hx hb dX0_listen_3 rfl (lv_at hl 0 rfl) ?_
      refine va_get (D := G.1) (ci := 0) (v := .ref (a 1)) (C := RX0) (T := TX0) (N := 6) hx hb hts i_X0_listen_X0 hown hK.1 hP 0 rfl rfl 3 (by decide) f21 (fun _ h9 => h9) rfl dX0_listen_4 ?_
      refine va_get (D := G.1) (ci := 2) (v := .int h.mo.sayings) (C := RX2) (T := TX2) (N := 10) hx hb hts i_X0_listen_X2 hown hK.1 hP 1 rfl rfl 1 (by decide) f42 (fun _ h9 => h9) rfl dX0_listen_7 ?_
      refine lv_icmp_ge (tgt := 43) hx hb dX0_listen_10 (by decide) (fun c_1 => ?_) (fun c_1 => ?_)
      · skip
        have c_1 := gl_le c_1
        have hx2 : n ≤ i := gl_ex hn (by omega) (by omega) c_1
        have hP : va_P G.1 vwCl (wHa a G.2.1 (hLis h n k)) H := by
          rw [hu, hv, show i = n by omega] at hP
          exact hP
        exact g_wv hx hb hr hlocks hAe hP hS dX0_listen_43
      · skip
        have c_1 := gl_nle c_1
        have hlt : i < n := gl_in hn (by omega) (by omega) c_1
        refine lv_aload_n hx hb dX0_listen_13 rfl (lv_at hl 0 rfl) ?_
        refine va_get (D := G.1) (ci := 0) (v := .ref (a 8)) (C := RX0) (T := TX0) (N := 6) hx hb hts i_X0_listen_X0 hown hK.1 hP 0 rfl rfl 4 (by decide) f25 (fun _ h9 => h9) rfl dX0_listen_14 ?_
        refine lv_iload_n hx hb dX0_listen_17 rfl (lv_at hl 2 rfl) ?_
        refine lv_aload_n hx hb dX0_listen_18 rfl (lv_at hl 0 rfl) ?_
        refine lv_iload_n hx hb dX0_listen_19 rfl (lv_at hl 2 rfl) ?_
        refine lv_iload_n hx hb dX0_listen_20 rfl (lv_at hl 1 rfl) ?_
        refine g_rdV (As := [.int (nI i), .int k]) (rest := [.int (nI i), .ref (a 8)]) (nL := 3) hx hb hml hown hts (c_X0_placeAfter lz G a (h.pl, h.loss, h.nich, h.mo, u, v) i k (by omega)) gX0_listen_X0_placeAfter rfl h_X0_placeAfter ⟨Nat.le_of_ble_eq_true rfl, Nat.le_of_ble_eq_true rfl⟩ hK hP (ci := 0) rfl rfl rfl rfl hl.1 rfl (Nat.le_of_ble_eq_true rfl) ⟨Nat.le_refl _, Nat.le_refl _⟩ dX0_listen_21 ?_
        refine g_iast hx hb hK.1 hP hD hS 8 0 rfl rfl (i := i) (by omega) (by decide) dX0_listen_24 (fun H locs hP hD hS => ?_)
        have hP : va_P G.1 vwCl (wHa a G.2.1 (h.pl, h.loss, h.nich, h.mo, upd u i (hPlace (h.pl, h.loss, h.nich, h.mo, u, v) i k), v)) H := hP
        have hD : va_D A (wHa a G.2.1 (h.pl, h.loss, h.nich, h.mo, upd u i (hPlace (h.pl, h.loss, h.nich, h.mo, u, v) i k), v)) := hD
        refine lv_aload_n hx hb dX0_listen_25 rfl (lv_at hl 0 rfl) ?_
        refine va_get (D := G.1) (ci := 0) (v := .ref (a 9)) (C := RX0) (T := TX0) (N := 6) hx hb hts i_X0_listen_X0 hown hK.1 hP 0 rfl rfl 5 (by decide) f29 (fun _ h9 => h9) rfl dX0_listen_26 ?_
        refine lv_iload_n hx hb dX0_listen_29 rfl (lv_at hl 2 rfl) ?_
        refine lv_aload_n hx hb dX0_listen_30 rfl (lv_at hl 0 rfl) ?_
        refine lv_iload_n hx hb dX0_listen_31 rfl (lv_at hl 2 rfl) ?_
        refine lv_iload_n hx hb dX0_listen_32 rfl (lv_at hl 1 rfl) ?_
        refine g_rdV (As := [.int (nI i), .int k]) (rest := [.int (nI i), .ref (a 9)]) (nL := 3) hx hb hml hown hts (c_X0_strengthAfter lz G a (h.pl, h.loss, h.nich, h.mo, upd u i (hPlace (h.pl, h.loss, h.nich, h.mo, u, v) i k), v) i k (by omega)) gX0_listen_X0_strengthAfter rfl h_X0_strengthAfter ⟨Nat.le_of_ble_eq_true rfl, Nat.le_of_ble_eq_true rfl⟩ hK hP (ci := 0) rfl rfl rfl rfl hl.1 rfl (Nat.le_of_ble_eq_true rfl) ⟨Nat.le_refl _, Nat.le_refl _⟩ dX0_listen_33 ?_
        refine g_iast hx hb hK.1 hP hD hS 9 0 rfl rfl (i := i) (by omega) (by decide) dX0_listen_36 (fun H locs hP hD hS => ?_)
        have hP : va_P G.1 vwCl (wHa a G.2.1 (h.pl, h.loss, h.nich, h.mo, upd u i (hPlace (h.pl, h.loss, h.nich, h.mo, u, v) i k), upd v i (hStr (h.pl, h.loss, h.nich, h.mo, upd u i (hPlace (h.pl, h.loss, h.nich, h.mo, u, v) i k), v) i k))) H := hP
        have hD : va_D A (wHa a G.2.1 (h.pl, h.loss, h.nich, h.mo, upd u i (hPlace (h.pl, h.loss, h.nich, h.mo, u, v) i k), upd v i (hStr (h.pl, h.loss, h.nich, h.mo, upd u i (hPlace (h.pl, h.loss, h.nich, h.mo, u, v) i k), v) i k))) := hD
        refine lv_iinc (v := nI (i + 1)) (lv' := [(2, .int (nI (i + 1))), (0, .ref (a 0)), (1, .int k)]) hx hb dX0_listen_37 hl (k := 2) rfl (nI_1 i) (by decide) rfl (fun ls hl => ?_)
        refine lv_goto (tgt := 2) hx hb dX0_listen_40 (by decide) ?_
        exact ih_2 (i + 1) (upd u i (hPlace (h.pl, h.loss, h.nich, h.mo, u, v) i k)) (upd v i (hStr (h.pl, h.loss, h.nich, h.mo, upd u i (hPlace (h.pl, h.loss, h.nich, h.mo, u, v) i k), v) i k)) hlt (by rw [hu]; exact lsF_s rfl) (by rw [hv]; exact lsF_s rfl) (by omega) _ _ hP hD hS ls (lv_sub hl [1, 2, 0] rfl)
  exact lp_2 ((n - 0) + 1) 0 h.ats h.str (Nat.zero_le _) ((lsF_0 _ _).symm) ((lsF_0 _ _).symm) (Nat.lt_succ_self _) _ _ hP hD hS ls (lv_sub hl [1, 2, 0] rfl)

theorem h_X0_quietOf : yX0_quietOf.cls = RX0 ∧ yX0_quietOf.cls ≠ "java/lang/invoke/MethodHandle" ∧ yX0_quietOf.cls ≠ "java/lang/invoke/VarHandle" ∧ (parseMethodDescriptor yX0_quietOf.desc).map (fun d => d.parameters.length) = some 1 := by decide +kernel
set_option maxHeartbeats 4000000 in
set_option maxRecDepth 100000 in
theorem c_X0_quietOf (lz : Launch) (G : gG) (a : Nat → Nat) (h : HaS) (n : Nat) (p : Int32) (hn : h.mo.sayings = nI n) (hn8 : n ≤ 8) : gWr lz yX0_quietOf wsX0_quietOf 4 G [.ref (a 0), .int p] (wHa a G.2.1 h) (wHa a G.2.1 (hQuiS h n p)) (some (.int (oI (hQuiF h n p)))) := by
  refine g_wr (by decide) rfl (Nat.le_of_ble_eq_true rfl) ?_
  intro pz ez sz mz bz tz cz hx hb hr hml hown hts hlocks hK A hAe hP hD hS ls hl
  have hl : lv_has ls 3 [(0, .ref (a 0)), (1, .int p)] := hl
  refine lv_iconst (v := 0) hx hb dX0_quietOf_0 (by decide) ?_
  refine lv_istore_n (lv' := [(2, .int 0), (0, .ref (a 0)), (1, .int p)]) hx hb dX0_quietOf_1 rfl hl (by decide) rfl (fun ls hl => ?_)
  have lp_2 : ∀ (fu_2 : Nat) (i : Nat) (g : HaS), (i ≤ 100) → (firstF (fun k => decide (hSndB (hLis h n (nI k)) n p = 0)) 100 0 = firstF (fun k => decide (hSndB (hLis h n (nI k)) n p = 0)) (100 - i) i) → (∀ z, hLis g n z = hLis h n z) → (g.mo.sayings = nI n) → (∀ j, i = j + 1 → g = hLis h n (nI j)) → 100 - i < fu_2 → ∀ (H : Heap) (locs : List Loc), va_P G.1 vwCl (wHa a G.2.1 g) H → va_D A (wHa a G.2.1 g) → va_S A sz.heap H locs → ∀ ls : Array Slot, lv_has ls 3 [(0, .ref (a 0)), (1, .int p), (2, .int (nI i))] → W pz lz ez (gRm 4) sz mz ([.ref (a 0), .int p] : List Value).toArray bz tz cz H locs 0 0 (MQ bz (gQ G (wHa a G.2.1 h) (wHa a G.2.1 (hQuiS h n p)) (some (.int (oI (hQuiF h n p))))) ([.ref (a 0), .int p] : List Value).toArray sz 0 0 (gAd (wHa a G.2.1 h))) (F0 mz 2 ls []) := by
    intro fu_2
    induction fu_2 with
    | zero =>
      intro i g hi he hg hgn hgl hf_2
      exact absurd hf_2 (Nat.not_lt_zero _)
    | succ fu_2 ih_2 =>
      intro i g hi he hg hgn hgl hf_2 H locs hP hD hS ls hl
      refine lv_iload_n hx hb dX0_quietOf_2 rfl (lv_at hl 2 rfl) ?_
      refine lv_bipush (v := 99) hx hb dX0_quietOf_3 (by decide) ?_
      refine lv_icmp_gt (tgt := 29) hx hb dX0_quietOf_5 (by decide) (fun c_1 => ?_) (fun c_1 => ?_)
      · skip
        have hx2 : 100 ≤ i := gl_cx (k := 99) rfl (by decide) (by omega) c_1
        refine lv_bipush (v := (-9)) hx hb dX0_quietOf_29 (by decide) ?_
        have hfin := fF_e he hx2
        have hP : va_P G.1 vwCl (wHa a G.2.1 (hQuiS h n p)) H := by
          rw [hQuiS, hfin]
          rw [hgl 99 (by omega)] at hP
          exact hP
        exact g_wi hx hb hr hlocks hAe hP hS dX0_quietOf_31 (oI_n hfin)
      · skip
        have hlt : i < 100 := Nat.lt_succ_of_le (gl_ci (k := 99) rfl (by decide) (by omega) c_1)
        refine lv_aload_n hx hb dX0_quietOf_8 rfl (lv_at hl 0 rfl) ?_
        refine lv_iload_n hx hb dX0_quietOf_9 rfl (lv_at hl 2 rfl) ?_
        refine g_wrV (As := [.int (nI i)]) (rest := []) (nL := 3) hx hb hml hown hts (c_X0_listen lz G a g n (nI i) hgn hn8) gX0_quietOf_X0_listen rfl h_X0_listen ⟨Nat.le_of_ble_eq_true rfl, Nat.le_of_ble_eq_true rfl⟩ hK hP hD hS [0, 1, 2, 3, 4, 5, 6, 7, 8, 9] rfl rfl rfl (ws1 := wHa a G.2.1 (hLis g n (nI i))) rfl rfl (ci := 0) rfl rfl rfl rfl hl.1 rfl (Nat.le_of_ble_eq_true rfl) ⟨Nat.le_refl _, Nat.le_refl _⟩ dX0_quietOf_10 (fun H locs hP hD hS => ?_)
        rw [hg] at hP hD
        refine lv_aload_n hx hb dX0_quietOf_13 rfl (lv_at hl 0 rfl) ?_
        refine lv_iload_n hx hb dX0_quietOf_14 rfl (lv_at hl 1 rfl) ?_
        refine g_rdV (As := [.int p]) (rest := []) (nL := 3) hx hb hml hown hts (c_X0_soundingAt lz G a (hLis h n (nI i)) n p hn hn8) gX0_quietOf_X0_soundingAt rfl h_X0_soundingAt ⟨Nat.le_of_ble_eq_true rfl, Nat.le_of_ble_eq_true rfl⟩ hK hP (ci := 0) rfl rfl rfl rfl hl.1 rfl (Nat.le_of_ble_eq_true rfl) ⟨Nat.le_refl _, Nat.le_refl _⟩ dX0_quietOf_15 ?_
        refine lv_if_ne (tgt := 23) hx hb dX0_quietOf_18 (by decide) (fun c_2 => ?_) (fun c_2 => ?_)
        · skip
          refine lv_iinc (v := nI (i + 1)) (lv' := [(2, .int (nI (i + 1))), (0, .ref (a 0)), (1, .int p)]) hx hb dX0_quietOf_23 hl (k := 2) rfl (nI_1 i) (by decide) rfl (fun ls hl => ?_)
          refine lv_goto (tgt := 2) hx hb dX0_quietOf_26 (by decide) ?_
          exact ih_2 (i + 1) (hLis h n (nI i)) hlt (fF_n he hlt (by simp [c_2])) (fun z => hLis_lis h n _ z) hn (fun j hj => by rw [show j = i by omega]) (by omega) _ _ hP hD hS ls (lv_sub hl [1, 2, 0] rfl)
        · skip
          refine lv_iload_n hx hb dX0_quietOf_21 rfl (lv_at hl 2 rfl) ?_
          have hfin := fF_y he hlt (by simp [c_2])
          have hP : va_P G.1 vwCl (wHa a G.2.1 (hQuiS h n p)) H := by
            rw [hQuiS, hfin]
            exact hP
          exact g_wi hx hb hr hlocks hAe hP hS dX0_quietOf_22 (oI_s hfin)
  exact lp_2 ((100 - 0) + 1) 0 h (Nat.zero_le _) rfl (fun _ => rfl) hn (fun j hj => absurd hj (by omega)) (Nat.lt_succ_self _) _ _ hP hD hS ls (lv_sub hl [1, 2, 0] rfl)

theorem h_X0_firstWait : yX0_firstWait.cls = RX0 ∧ yX0_firstWait.cls ≠ "java/lang/invoke/MethodHandle" ∧ yX0_firstWait.cls ≠ "java/lang/invoke/VarHandle" ∧ (parseMethodDescriptor yX0_firstWait.desc).map (fun d => d.parameters.length) = some 3 := by decide +kernel
set_option maxHeartbeats 4000000 in
set_option maxRecDepth 100000 in
theorem c_X0_firstWait (lz : Launch) (G : gG) (a : Nat → Nat) (h : HaS) (n : Nat) (q un ow : Int32) (hn : h.mo.sayings = nI n) (hn8 : n ≤ 8) : gWr lz yX0_firstWait wsX0_firstWait 4 G [.ref (a 0), .int q, .int un, .int ow] (wHa a G.2.1 h) (wHa a G.2.1 (hWaitS h n q un ow)) (some (.int (oI (hWaitF h n q un ow)))) := by
  refine g_wr (by decide) rfl (Nat.le_of_ble_eq_true rfl) ?_
  intro pz ez sz mz bz tz cz hx hb hr hml hown hts hlocks hK A hAe hP hD hS ls hl
  have hl : lv_has ls 5 [(0, .ref (a 0)), (1, .int q), (2, .int un), (3, .int ow)] := hl
  refine lv_iconst (v := 0) hx hb dX0_firstWait_0 (by decide) ?_
  refine lv_istore (lv' := [(4, .int 0), (0, .ref (a 0)), (1, .int q), (2, .int un), (3, .int ow)]) hx hb dX0_firstWait_1 hl (by decide) rfl (fun ls hl => ?_)
  have lp_3 : ∀ (fu_3 : Nat) (i : Nat) (g : HaS), (i ≤ 100) → (firstF (fun k => decide (hStrAt (hLis h n (nI k + un)) n q < ow)) 100 0 = firstF (fun k => decide (hStrAt (hLis h n (nI k + un)) n q < ow)) (100 - i) i) → (∀ z, hLis g n z = hLis h n z) → (g.mo.sayings = nI n) → (∀ j, i = j + 1 → g = hLis h n (nI j + un)) → 100 - i < fu_3 → ∀ (H : Heap) (locs : List Loc), va_P G.1 vwCl (wHa a G.2.1 g) H → va_D A (wHa a G.2.1 g) → va_S A sz.heap H locs → ∀ ls : Array Slot, lv_has ls 5 [(0, .ref (a 0)), (1, .int q), (2, .int un), (3, .int ow), (4, .int (nI i))] → W pz lz ez (gRm 4) sz mz ([.ref (a 0), .int q, .int un, .int ow] : List Value).toArray bz tz cz H locs 0 0 (MQ bz (gQ G (wHa a G.2.1 h) (wHa a G.2.1 (hWaitS h n q un ow)) (some (.int (oI (hWaitF h n q un ow))))) ([.ref (a 0), .int q, .int un, .int ow] : List Value).toArray sz 0 0 (gAd (wHa a G.2.1 h))) (F0 mz 3 ls []) := by
    intro fu_3
    induction fu_3 with
    | zero =>
      intro i g hi he hg hgn hgl hf_3
      exact absurd hf_3 (Nat.not_lt_zero _)
    | succ fu_3 ih_3 =>
      intro i g hi he hg hgn hgl hf_3 H locs hP hD hS ls hl
      refine lv_iload hx hb dX0_firstWait_3 (lv_at hl 4 rfl) ?_
      refine lv_bipush (v := 99) hx hb dX0_firstWait_5 (by decide) ?_
      refine lv_icmp_gt (tgt := 36) hx hb dX0_firstWait_7 (by decide) (fun c_1 => ?_) (fun c_1 => ?_)
      · skip
        have hx2 : 100 ≤ i := gl_cx (k := 99) rfl (by decide) (by omega) c_1
        refine lv_bipush (v := (-9)) hx hb dX0_firstWait_36 (by decide) ?_
        have hfin := fF_e he hx2
        have hP : va_P G.1 vwCl (wHa a G.2.1 (hWaitS h n q un ow)) H := by
          rw [hWaitS, hfin]
          rw [hgl 99 (by omega)] at hP
          exact hP
        exact g_wi hx hb hr hlocks hAe hP hS dX0_firstWait_38 (oI_n hfin)
      · skip
        have hlt : i < 100 := Nat.lt_succ_of_le (gl_ci (k := 99) rfl (by decide) (by omega) c_1)
        refine lv_aload_n hx hb dX0_firstWait_10 rfl (lv_at hl 0 rfl) ?_
        refine lv_iload hx hb dX0_firstWait_11 (lv_at hl 4 rfl) ?_
        refine lv_iload_n hx hb dX0_firstWait_13 rfl (lv_at hl 2 rfl) ?_
        refine lv_iadd hx hb dX0_firstWait_14 ?_
        refine g_wrV (As := [.int ((nI i) + un)]) (rest := []) (nL := 5) hx hb hml hown hts (c_X0_listen lz G a g n ((nI i) + un) hgn hn8) gX0_firstWait_X0_listen rfl h_X0_listen ⟨Nat.le_of_ble_eq_true rfl, Nat.le_of_ble_eq_true rfl⟩ hK hP hD hS [0, 1, 2, 3, 4, 5, 6, 7, 8, 9] rfl rfl rfl (ws1 := wHa a G.2.1 (hLis g n ((nI i) + un))) rfl rfl (ci := 0) rfl rfl rfl rfl hl.1 rfl (Nat.le_of_ble_eq_true rfl) ⟨Nat.le_refl _, Nat.le_refl _⟩ dX0_firstWait_15 (fun H locs hP hD hS => ?_)
        rw [hg] at hP hD
        refine lv_iload_n hx hb dX0_firstWait_18 rfl (lv_at hl 3 rfl) ?_
        refine lv_aload_n hx hb dX0_firstWait_19 rfl (lv_at hl 0 rfl) ?_
        refine lv_iload_n hx hb dX0_firstWait_20 rfl (lv_at hl 1 rfl) ?_
        refine g_rdV (As := [.int q]) (rest := [.int ow]) (nL := 5) hx hb hml hown hts (c_X0_strengthAt lz G a (hLis h n (nI i + un)) n q hn hn8) gX0_firstWait_X0_strengthAt rfl h_X0_strengthAt ⟨Nat.le_of_ble_eq_true rfl, Nat.le_of_ble_eq_true rfl⟩ hK hP (ci := 0) rfl rfl rfl rfl hl.1 rfl (Nat.le_of_ble_eq_true rfl) ⟨Nat.le_refl _, Nat.le_refl _⟩ dX0_firstWait_21 ?_
        refine lv_icmp_le (tgt := 30) hx hb dX0_firstWait_24 (by decide) (fun c_2 => ?_) (fun c_2 => ?_)
        · skip
          have c_2 := gl_le c_2
          refine lv_iinc (v := nI (i + 1)) (lv' := [(4, .int (nI (i + 1))), (0, .ref (a 0)), (1, .int q), (2, .int un), (3, .int ow)]) hx hb dX0_firstWait_30 hl (k := 4) rfl (nI_1 i) (by decide) rfl (fun ls hl => ?_)
          refine lv_goto (tgt := 3) hx hb dX0_firstWait_33 (by decide) ?_
          exact ih_3 (i + 1) (hLis h n (nI i + un)) hlt (fF_n he hlt (by simp [c_2])) (fun z => hLis_lis h n _ z) hn (fun j hj => by rw [show j = i by omega]) (by omega) _ _ hP hD hS ls (lv_sub hl [1, 2, 3, 4, 0] rfl)
        · skip
          have c_2 := gl_nle c_2
          refine lv_iload hx hb dX0_firstWait_27 (lv_at hl 4 rfl) ?_
          have hfin := fF_y he hlt (by simp [c_2])
          have hP : va_P G.1 vwCl (wHa a G.2.1 (hWaitS h n q un ow)) H := by
            rw [hWaitS, hfin]
            exact hP
          exact g_wi hx hb hr hlocks hAe hP hS dX0_firstWait_29 (oI_s hfin)
  exact lp_3 ((100 - 0) + 1) 0 h (Nat.zero_le _) rfl (fun _ => rfl) hn (fun j hj => absurd hj (by omega)) (Nat.lt_succ_self _) _ _ hP hD hS ls (lv_sub hl [1, 2, 3, 4, 0] rfl)
end
