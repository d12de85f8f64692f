section
-- ===== PART A: goes FIRST, ahead of the names: the tables' words, and 'selects' of the private methods out of them =====
/-- a private method of a class that the tables say can be made, by its rows of tables_1 -/
def lw_okq (q : MethodName × Nat) : Prop := (q.1.cls ≠ "java/lang/invoke/MethodHandle" ∧ q.1.cls ≠ "java/lang/invoke/VarHandle") ∧ Cond.instantiable q.1.cls q.2 ∈ tables_1 ∧ Cond.privateMethod q.1 ∈ tables_1 ∧ Cond.instanceMethod q.1 ∈ tables_1
theorem lw_p0 : lw_okq (⟨"NoiseKeys", "refuse", "(I)I"⟩, 6) := ⟨⟨by decide +kernel, by decide +kernel⟩, List.mem_of_getElem? (i := 17) (by decide +kernel), List.mem_of_getElem? (i := 176) (by decide +kernel), List.mem_of_getElem? (i := 177) (by decide +kernel)⟩
theorem lw_p1 : lw_okq (⟨"NoiseKeys", "leaveOut", "(I)V"⟩, 6) := ⟨⟨by decide +kernel, by decide +kernel⟩, List.mem_of_getElem? (i := 17) (by decide +kernel), List.mem_of_getElem? (i := 237) (by decide +kernel), List.mem_of_getElem? (i := 238) (by decide +kernel)⟩
theorem lw_p2 : lw_okq (⟨"NoiseKeys", "firstAgeAbove", "(II)I"⟩, 6) := ⟨⟨by decide +kernel, by decide +kernel⟩, List.mem_of_getElem? (i := 17) (by decide +kernel), List.mem_of_getElem? (i := 351) (by decide +kernel), List.mem_of_getElem? (i := 352) (by decide +kernel)⟩
theorem lw_p3 : lw_okq (⟨"NoiseKeys", "failsAbove", "(III)Z"⟩, 6) := ⟨⟨by decide +kernel, by decide +kernel⟩, List.mem_of_getElem? (i := 17) (by decide +kernel), List.mem_of_getElem? (i := 355) (by decide +kernel), List.mem_of_getElem? (i := 356) (by decide +kernel)⟩
theorem lw_p4 : lw_okq (⟨"NoiseKeys$Flips", "growTo", "(I)V"⟩, 4) := ⟨⟨by decide +kernel, by decide +kernel⟩, List.mem_of_getElem? (i := 134) (by decide +kernel), List.mem_of_getElem? (i := 363) (by decide +kernel), List.mem_of_getElem? (i := 364) (by decide +kernel)⟩
theorem lw_p5 : lw_okq (⟨"NoiseKeys", "likeliestKey", "(I)I"⟩, 6) := ⟨⟨by decide +kernel, by decide +kernel⟩, List.mem_of_getElem? (i := 17) (by decide +kernel), List.mem_of_getElem? (i := 380) (by decide +kernel), List.mem_of_getElem? (i := 381) (by decide +kernel)⟩
theorem lw_p6 : lw_okq (⟨"NoiseKeys", "waysOfKey", "(II)J"⟩, 6) := ⟨⟨by decide +kernel, by decide +kernel⟩, List.mem_of_getElem? (i := 17) (by decide +kernel), List.mem_of_getElem? (i := 384) (by decide +kernel), List.mem_of_getElem? (i := 385) (by decide +kernel)⟩
theorem lw_p7 : lw_okq (⟨"NoiseKeys$Cells", "mateOf", "(I)I"⟩, 3) := ⟨⟨by decide +kernel, by decide +kernel⟩, List.mem_of_getElem? (i := 25) (by decide +kernel), List.mem_of_getElem? (i := 407) (by decide +kernel), List.mem_of_getElem? (i := 408) (by decide +kernel)⟩
theorem lw_p8 : lw_okq (⟨"NoiseKeys$Pairs", "weigh", "(I)V"⟩, 10) := ⟨⟨by decide +kernel, by decide +kernel⟩, List.mem_of_getElem? (i := 91) (by decide +kernel), List.mem_of_getElem? (i := 456) (by decide +kernel), List.mem_of_getElem? (i := 457) (by decide +kernel)⟩
theorem lw_p9 : lw_okq (⟨"NoiseKeys$Pairs", "leastLimit", "()I"⟩, 10) := ⟨⟨by decide +kernel, by decide +kernel⟩, List.mem_of_getElem? (i := 91) (by decide +kernel), List.mem_of_getElem? (i := 460) (by decide +kernel), List.mem_of_getElem? (i := 461) (by decide +kernel)⟩
theorem lw_p10 : lw_okq (⟨"NoiseKeys$Pairs", "greatestLimit", "()I"⟩, 10) := ⟨⟨by decide +kernel, by decide +kernel⟩, List.mem_of_getElem? (i := 91) (by decide +kernel), List.mem_of_getElem? (i := 467) (by decide +kernel), List.mem_of_getElem? (i := 468) (by decide +kernel)⟩
theorem lw_p11 : lw_okq (⟨"NoiseKeys$Pairs", "countPlanes", "(II)V"⟩, 10) := ⟨⟨by decide +kernel, by decide +kernel⟩, List.mem_of_getElem? (i := 91) (by decide +kernel), List.mem_of_getElem? (i := 472) (by decide +kernel), List.mem_of_getElem? (i := 473) (by decide +kernel)⟩
theorem lw_p12 : lw_okq (⟨"java/lang/Throwable", "fillInStackTrace", "(I)Ljava/lang/Throwable;"⟩, 6) := ⟨⟨by decide +kernel, by decide +kernel⟩, List.mem_of_getElem? (i := 598) (by decide +kernel), List.mem_of_getElem? (i := 596) (by decide +kernel), List.mem_of_getElem? (i := 597) (by decide +kernel)⟩
theorem lw_p13 : lw_okq (⟨"NoiseKeys", "waysOfAllKeys", "(I)J"⟩, 6) := ⟨⟨by decide +kernel, by decide +kernel⟩, List.mem_of_getElem? (i := 17) (by decide +kernel), List.mem_of_getElem? (i := 652) (by decide +kernel), List.mem_of_getElem? (i := 653) (by decide +kernel)⟩
theorem lw_p14 : lw_okq (⟨"NoiseKeysModel", "refuse", "(I)I"⟩, 25) := ⟨⟨by decide +kernel, by decide +kernel⟩, List.mem_of_getElem? (i := 656) (by decide +kernel), List.mem_of_getElem? (i := 750) (by decide +kernel), List.mem_of_getElem? (i := 751) (by decide +kernel)⟩
theorem lw_p15 : lw_okq (⟨"NoiseKeysModel", "noRows", "()V"⟩, 25) := ⟨⟨by decide +kernel, by decide +kernel⟩, List.mem_of_getElem? (i := 656) (by decide +kernel), List.mem_of_getElem? (i := 754) (by decide +kernel), List.mem_of_getElem? (i := 755) (by decide +kernel)⟩
def lw_privs_1 : List (MethodName × Nat) := [(⟨"NoiseKeys", "refuse", "(I)I"⟩, 6), (⟨"NoiseKeys", "leaveOut", "(I)V"⟩, 6), (⟨"NoiseKeys", "firstAgeAbove", "(II)I"⟩, 6), (⟨"NoiseKeys", "failsAbove", "(III)Z"⟩, 6), (⟨"NoiseKeys$Flips", "growTo", "(I)V"⟩, 4), (⟨"NoiseKeys", "likeliestKey", "(I)I"⟩, 6), (⟨"NoiseKeys", "waysOfKey", "(II)J"⟩, 6), (⟨"NoiseKeys$Cells", "mateOf", "(I)I"⟩, 3), (⟨"NoiseKeys$Pairs", "weigh", "(I)V"⟩, 10), (⟨"NoiseKeys$Pairs", "leastLimit", "()I"⟩, 10), (⟨"NoiseKeys$Pairs", "greatestLimit", "()I"⟩, 10), (⟨"NoiseKeys$Pairs", "countPlanes", "(II)V"⟩, 10), (⟨"java/lang/Throwable", "fillInStackTrace", "(I)Ljava/lang/Throwable;"⟩, 6), (⟨"NoiseKeys", "waysOfAllKeys", "(I)J"⟩, 6), (⟨"NoiseKeysModel", "refuse", "(I)I"⟩, 25), (⟨"NoiseKeysModel", "noRows", "()V"⟩, 25)]
theorem lw_r1 : ∀ q ∈ lw_privs_1, lw_okq q := List.forall_mem_cons.mpr ⟨lw_p0, List.forall_mem_cons.mpr ⟨lw_p1, List.forall_mem_cons.mpr ⟨lw_p2, List.forall_mem_cons.mpr ⟨lw_p3, List.forall_mem_cons.mpr ⟨lw_p4, List.forall_mem_cons.mpr ⟨lw_p5, List.forall_mem_cons.mpr ⟨lw_p6, List.forall_mem_cons.mpr ⟨lw_p7, List.forall_mem_cons.mpr ⟨lw_p8, List.forall_mem_cons.mpr ⟨lw_p9, List.forall_mem_cons.mpr ⟨lw_p10, List.forall_mem_cons.mpr ⟨lw_p11, List.forall_mem_cons.mpr ⟨lw_p12, List.forall_mem_cons.mpr ⟨lw_p13, List.forall_mem_cons.mpr ⟨lw_p14, List.forall_mem_cons.mpr ⟨lw_p15, fun _ h => absurd h List.not_mem_nil⟩⟩⟩⟩⟩⟩⟩⟩⟩⟩⟩⟩⟩⟩⟩⟩
theorem lw_p16 : lw_okq (⟨"NoiseKeysModel", "noHelp", "()V"⟩, 25) := ⟨⟨by decide +kernel, by decide +kernel⟩, List.mem_of_getElem? (i := 656) (by decide +kernel), List.mem_of_getElem? (i := 758) (by decide +kernel), List.mem_of_getElem? (i := 759) (by decide +kernel)⟩
theorem lw_p17 : lw_okq (⟨"NoiseKeysModel", "isWord", "(I)Z"⟩, 25) := ⟨⟨by decide +kernel, by decide +kernel⟩, List.mem_of_getElem? (i := 656) (by decide +kernel), List.mem_of_getElem? (i := 766) (by decide +kernel), List.mem_of_getElem? (i := 767) (by decide +kernel)⟩
theorem lw_p18 : lw_okq (⟨"NoiseKeysModel", "chanceOf", "(II)I"⟩, 25) := ⟨⟨by decide +kernel, by decide +kernel⟩, List.mem_of_getElem? (i := 656) (by decide +kernel), List.mem_of_getElem? (i := 781) (by decide +kernel), List.mem_of_getElem? (i := 782) (by decide +kernel)⟩
theorem lw_p19 : lw_okq (⟨"NoiseKeysModel", "worn", "(II)I"⟩, 25) := ⟨⟨by decide +kernel, by decide +kernel⟩, List.mem_of_getElem? (i := 656) (by decide +kernel), List.mem_of_getElem? (i := 785) (by decide +kernel), List.mem_of_getElem? (i := 786) (by decide +kernel)⟩
theorem lw_p20 : lw_okq (⟨"NoiseKeysModel", "masks", "(I)V"⟩, 25) := ⟨⟨by decide +kernel, by decide +kernel⟩, List.mem_of_getElem? (i := 656) (by decide +kernel), List.mem_of_getElem? (i := 794) (by decide +kernel), List.mem_of_getElem? (i := 795) (by decide +kernel)⟩
theorem lw_p21 : lw_okq (⟨"NoiseKeysModel", "open", "()I"⟩, 25) := ⟨⟨by decide +kernel, by decide +kernel⟩, List.mem_of_getElem? (i := 656) (by decide +kernel), List.mem_of_getElem? (i := 806) (by decide +kernel), List.mem_of_getElem? (i := 807) (by decide +kernel)⟩
theorem lw_p22 : lw_okq (⟨"NoiseKeysModel", "codewordOf", "(I)I"⟩, 25) := ⟨⟨by decide +kernel, by decide +kernel⟩, List.mem_of_getElem? (i := 656) (by decide +kernel), List.mem_of_getElem? (i := 810) (by decide +kernel), List.mem_of_getElem? (i := 811) (by decide +kernel)⟩
theorem lw_p23 : lw_okq (⟨"NoiseKeysModel", "isKey", "(I)Z"⟩, 25) := ⟨⟨by decide +kernel, by decide +kernel⟩, List.mem_of_getElem? (i := 656) (by decide +kernel), List.mem_of_getElem? (i := 825) (by decide +kernel), List.mem_of_getElem? (i := 826) (by decide +kernel)⟩
theorem lw_p24 : lw_okq (⟨"NoiseKeysModel", "makes", "()V"⟩, 25) := ⟨⟨by decide +kernel, by decide +kernel⟩, List.mem_of_getElem? (i := 656) (by decide +kernel), List.mem_of_getElem? (i := 833) (by decide +kernel), List.mem_of_getElem? (i := 834) (by decide +kernel)⟩
theorem lw_p25 : lw_okq (⟨"NoiseKeysModel", "isChip", "(I)Z"⟩, 25) := ⟨⟨by decide +kernel, by decide +kernel⟩, List.mem_of_getElem? (i := 656) (by decide +kernel), List.mem_of_getElem? (i := 845) (by decide +kernel), List.mem_of_getElem? (i := 846) (by decide +kernel)⟩
theorem lw_p26 : lw_okq (⟨"NoiseKeysModel", "raises", "(I)I"⟩, 25) := ⟨⟨by decide +kernel, by decide +kernel⟩, List.mem_of_getElem? (i := 656) (by decide +kernel), List.mem_of_getElem? (i := 857) (by decide +kernel), List.mem_of_getElem? (i := 858) (by decide +kernel)⟩
theorem lw_p27 : lw_okq (⟨"NoiseKeysModel", "failOf", "(II)J"⟩, 25) := ⟨⟨by decide +kernel, by decide +kernel⟩, List.mem_of_getElem? (i := 656) (by decide +kernel), List.mem_of_getElem? (i := 861) (by decide +kernel), List.mem_of_getElem? (i := 862) (by decide +kernel)⟩
theorem lw_p28 : lw_okq (⟨"NoiseKeysModel", "allOf", "()J"⟩, 25) := ⟨⟨by decide +kernel, by decide +kernel⟩, List.mem_of_getElem? (i := 656) (by decide +kernel), List.mem_of_getElem? (i := 869) (by decide +kernel), List.mem_of_getElem? (i := 870) (by decide +kernel)⟩
theorem lw_p29 : lw_okq (⟨"NoiseKeysModel", "bestGuess", "(I)I"⟩, 25) := ⟨⟨by decide +kernel, by decide +kernel⟩, List.mem_of_getElem? (i := 656) (by decide +kernel), List.mem_of_getElem? (i := 882) (by decide +kernel), List.mem_of_getElem? (i := 883) (by decide +kernel)⟩
theorem lw_p30 : lw_okq (⟨"NoiseKeysModel", "weightOf", "(I)J"⟩, 25) := ⟨⟨by decide +kernel, by decide +kernel⟩, List.mem_of_getElem? (i := 656) (by decide +kernel), List.mem_of_getElem? (i := 886) (by decide +kernel), List.mem_of_getElem? (i := 887) (by decide +kernel)⟩
theorem lw_p31 : lw_okq (⟨"NoiseKeysModel", "openAt", "(I)I"⟩, 25) := ⟨⟨by decide +kernel, by decide +kernel⟩, List.mem_of_getElem? (i := 656) (by decide +kernel), List.mem_of_getElem? (i := 902) (by decide +kernel), List.mem_of_getElem? (i := 903) (by decide +kernel)⟩
def lw_privs_2 : List (MethodName × Nat) := [(⟨"NoiseKeysModel", "noHelp", "()V"⟩, 25), (⟨"NoiseKeysModel", "isWord", "(I)Z"⟩, 25), (⟨"NoiseKeysModel", "chanceOf", "(II)I"⟩, 25), (⟨"NoiseKeysModel", "worn", "(II)I"⟩, 25), (⟨"NoiseKeysModel", "masks", "(I)V"⟩, 25), (⟨"NoiseKeysModel", "open", "()I"⟩, 25), (⟨"NoiseKeysModel", "codewordOf", "(I)I"⟩, 25), (⟨"NoiseKeysModel", "isKey", "(I)Z"⟩, 25), (⟨"NoiseKeysModel", "makes", "()V"⟩, 25), (⟨"NoiseKeysModel", "isChip", "(I)Z"⟩, 25), (⟨"NoiseKeysModel", "raises", "(I)I"⟩, 25), (⟨"NoiseKeysModel", "failOf", "(II)J"⟩, 25), (⟨"NoiseKeysModel", "allOf", "()J"⟩, 25), (⟨"NoiseKeysModel", "bestGuess", "(I)I"⟩, 25), (⟨"NoiseKeysModel", "weightOf", "(I)J"⟩, 25), (⟨"NoiseKeysModel", "openAt", "(I)I"⟩, 25)]
theorem lw_r2 : ∀ q ∈ lw_privs_2, lw_okq q := List.forall_mem_cons.mpr ⟨lw_p16, List.forall_mem_cons.mpr ⟨lw_p17, List.forall_mem_cons.mpr ⟨lw_p18, List.forall_mem_cons.mpr ⟨lw_p19, List.forall_mem_cons.mpr ⟨lw_p20, List.forall_mem_cons.mpr ⟨lw_p21, List.forall_mem_cons.mpr ⟨lw_p22, List.forall_mem_cons.mpr ⟨lw_p23, List.forall_mem_cons.mpr ⟨lw_p24, List.forall_mem_cons.mpr ⟨lw_p25, List.forall_mem_cons.mpr ⟨lw_p26, List.forall_mem_cons.mpr ⟨lw_p27, List.forall_mem_cons.mpr ⟨lw_p28, List.forall_mem_cons.mpr ⟨lw_p29, List.forall_mem_cons.mpr ⟨lw_p30, List.forall_mem_cons.mpr ⟨lw_p31, fun _ h => absurd h List.not_mem_nil⟩⟩⟩⟩⟩⟩⟩⟩⟩⟩⟩⟩⟩⟩⟩⟩
theorem lw_p32 : lw_okq (⟨"NoiseKeysModel", "pairs", "()I"⟩, 25) := ⟨⟨by decide +kernel, by decide +kernel⟩, List.mem_of_getElem? (i := 656) (by decide +kernel), List.mem_of_getElem? (i := 914) (by decide +kernel), List.mem_of_getElem? (i := 915) (by decide +kernel)⟩
theorem lw_p33 : lw_okq (⟨"NoiseKeysModel", "findPlanes", "()V"⟩, 25) := ⟨⟨by decide +kernel, by decide +kernel⟩, List.mem_of_getElem? (i := 656) (by decide +kernel), List.mem_of_getElem? (i := 922) (by decide +kernel), List.mem_of_getElem? (i := 923) (by decide +kernel)⟩
theorem lw_p34 : lw_okq (⟨"NoiseKeysModel", "isPlane", "(I)Z"⟩, 25) := ⟨⟨by decide +kernel, by decide +kernel⟩, List.mem_of_getElem? (i := 656) (by decide +kernel), List.mem_of_getElem? (i := 926) (by decide +kernel), List.mem_of_getElem? (i := 927) (by decide +kernel)⟩
theorem lw_p35 : lw_okq (⟨"NoiseKeysModel", "says", "(II)I"⟩, 25) := ⟨⟨by decide +kernel, by decide +kernel⟩, List.mem_of_getElem? (i := 656) (by decide +kernel), List.mem_of_getElem? (i := 930) (by decide +kernel), List.mem_of_getElem? (i := 931) (by decide +kernel)⟩
theorem lw_p36 : lw_okq (⟨"NoiseKeysModel", "adds", "(I)V"⟩, 25) := ⟨⟨by decide +kernel, by decide +kernel⟩, List.mem_of_getElem? (i := 656) (by decide +kernel), List.mem_of_getElem? (i := 934) (by decide +kernel), List.mem_of_getElem? (i := 935) (by decide +kernel)⟩
theorem lw_p37 : lw_okq (⟨"NoiseKeysModel", "whoseOf", "(I)I"⟩, 25) := ⟨⟨by decide +kernel, by decide +kernel⟩, List.mem_of_getElem? (i := 656) (by decide +kernel), List.mem_of_getElem? (i := 959) (by decide +kernel), List.mem_of_getElem? (i := 960) (by decide +kernel)⟩
theorem lw_p38 : lw_okq (⟨"NoiseKeysModel", "far", "(II)I"⟩, 25) := ⟨⟨by decide +kernel, by decide +kernel⟩, List.mem_of_getElem? (i := 656) (by decide +kernel), List.mem_of_getElem? (i := 963) (by decide +kernel), List.mem_of_getElem? (i := 964) (by decide +kernel)⟩
def lw_privs_3 : List (MethodName × Nat) := [(⟨"NoiseKeysModel", "pairs", "()I"⟩, 25), (⟨"NoiseKeysModel", "findPlanes", "()V"⟩, 25), (⟨"NoiseKeysModel", "isPlane", "(I)Z"⟩, 25), (⟨"NoiseKeysModel", "says", "(II)I"⟩, 25), (⟨"NoiseKeysModel", "adds", "(I)V"⟩, 25), (⟨"NoiseKeysModel", "whoseOf", "(I)I"⟩, 25), (⟨"NoiseKeysModel", "far", "(II)I"⟩, 25)]
theorem lw_r3 : ∀ q ∈ lw_privs_3, lw_okq q := List.forall_mem_cons.mpr ⟨lw_p32, List.forall_mem_cons.mpr ⟨lw_p33, List.forall_mem_cons.mpr ⟨lw_p34, List.forall_mem_cons.mpr ⟨lw_p35, List.forall_mem_cons.mpr ⟨lw_p36, List.forall_mem_cons.mpr ⟨lw_p37, List.forall_mem_cons.mpr ⟨lw_p38, fun _ h => absurd h List.not_mem_nil⟩⟩⟩⟩⟩⟩⟩
def lw_privs : List (MethodName × Nat) := lw_privs_1 ++ (lw_privs_2 ++ (lw_privs_3))
def lw_tbl : List Cond := k2_sels lw_privs ++ tables_1
theorem lw_privs_ok : ∀ q ∈ lw_privs, lw_okq q := by
  show ∀ q ∈ lw_privs_1 ++ (lw_privs_2 ++ (lw_privs_3)), lw_okq q
  exact List.forall_mem_append.mpr ⟨lw_r1, List.forall_mem_append.mpr ⟨lw_r2, lw_r3⟩⟩
end
section
def va_AOA (t : FieldType) (U : State) : Prop := (Cond.arrayOver (.array t)).before #[] U = true
theorem va_AOA.of {t : FieldType} {A : Array Value} {U : State} (h : (Cond.arrayOver (.array t)).before A U = true) : va_AOA t U := h
theorem va_AOA.use {t : FieldType} {A : Array Value} {U : State} (h : va_AOA t U) : (Cond.arrayOver (.array t)).before A U = true := h
/-! ===== BEGIN words of one list among another's, by their places ===== -/
theorem goodIn_r {big : List Cond} (ws : List Cond) (ps : List Nat) (hp : ws = ps.filterMap (fun i => big[i]?)) (h : ws.all goodWord = true) : GoodIn big ws := by
  intro w hw
  have h1 := List.all_eq_true.mp h w hw
  rw [hp] at hw
  obtain ⟨i, -, hi⟩ := List.mem_filterMap.mp hw
  have hm : w ∈ big := by first | exact List.mem_of_getElem? hi | exact List.getElem?_mem hi
  exact ⟨hm, good_of_word h1⟩
theorem goodIn_app {big a b : List Cond} (ha : GoodIn big a) (hb : GoodIn big b) : GoodIn big (a ++ b) := fun w h => (List.mem_append.mp h).elim (ha w) (hb w)
theorem goodIn_ca {big a b : List Cond} {c : Cond} (ha : GoodIn big (c :: a)) (hb : GoodIn big b) : GoodIn big (c :: (a ++ b)) := fun w h => (List.mem_cons.mp h).elim (fun e => ha w (List.mem_cons.mpr (Or.inl e))) (fun h => (List.mem_append.mp h).elim (fun h => ha w (List.mem_cons.mpr (Or.inr h))) (hb w))
theorem goodIn_sub {big ws : List Cond} (hm : ∀ w ∈ ws, w ∈ big) (h : ws.all goodWord = true) : GoodIn big ws := fun w hw => ⟨hm w hw, good_of_word (List.all_eq_true.mp h w hw)⟩
/-! ===== END ===== -/

/-! ===== BEGIN new T[n][m]: the outer array a place, the inner ones among the pooled ===== -/
/-- f, but v at every address of l -/
def vr_up {α : Type} (f : Nat → α) (l : List Nat) (v : α) : Nat → α := fun a => if a ∈ l then v else f a
theorem vr_up_in {α : Type} {f : Nat → α} {l : List Nat} {v : α} {a : Nat} (h : a ∈ l) : vr_up f l v a = v := if_pos h
theorem vr_up_ne {α : Type} {f : Nat → α} {l : List Nat} {v : α} {a : Nat} (h : a ∉ l) : vr_up f l v a = f a := if_neg h
theorem vr_rows {L l : List Nat} {f : Nat → va_E} {e : va_E} (h : ∀ a, a ∈ l → a ∉ L) : va_pl L f ++ l.map (fun a => (a, e)) = va_pl (L ++ l) (vr_up f l e) := by
  unfold va_pl
  rw [List.map_append]
  congr 1
  · apply List.map_congr_left
    intro a ha
    rw [vr_up_ne (fun q => h a q ha)]
  · apply List.map_congr_left
    intro a ha
    rw [vr_up_in ha]
theorem vr_lay {X rows : va_W} {x : Nat × va_E} {pl : va_W} {D : va_G} {cl : List vw_C} {H : Heap} (hP : va_P D cl (((X ++ pl) ++ [x]) ++ rows) H) : va_P D cl ((X ++ [x]) ++ (pl ++ rows)) H := by
  rw [List.append_assoc (X ++ pl)] at hP
  have h := va_P.swap hP
  rw [← List.append_assoc X] at h
  have h2 := va_P.swap h
  rw [List.append_assoc (X ++ [x])] at h2
  exact h2
theorem vr_layD {X rows : va_W} {x : Nat × va_E} {pl : va_W} {A : Nat → Prop} (hD : va_D A (((X ++ pl) ++ [x]) ++ rows)) : va_D A ((X ++ [x]) ++ (pl ++ rows)) := by
  rw [List.append_assoc (X ++ pl)] at hD
  have h := va_D.swap hD
  rw [← List.append_assoc X] at h
  have h2 := va_D.swap h
  rw [List.append_assoc (X ++ [x])] at h2
  exact h2
theorem vr_outer (c : ClassId) (N h0 : Nat) : ∀ i : Nat, Jvm.Free.Multi.outerC c N h0 i = arrV c N (fun j => va_rf (if j < i then some (h0 + 1 + j) else none))
  | 0 => by
    show ({ cls := c, slots := Array.replicate N .null, vm := .none } : Cell) = _
    rw [arrV_new]
    refine congrArg (arrV c N) (funext fun j => ?_)
    simp [va_rf]
  | i + 1 => by
    show (Jvm.Free.Multi.outerC c N h0 i).setSlot i (.ref (h0 + 1 + i)) = _
    rw [vr_outer c N h0 i, arrV_store]
    refine congrArg (arrV c N) (funext fun j => ?_)
    by_cases e : j = i
    · subst e
      simp [updV, va_rf]
    · by_cases h : j < i
      · simp [updV, e, h, Nat.lt_succ_of_lt h]
      · simp [updV, e, h, show ¬ j < i + 1 by omega]
section VGM
variable {p : Program} {l : Launch} {e : Env} {R : Room} {s : State} {m : MethodId} {args : Array Value} {below : List Frame} {meth : Method} {c : Code} {H : Heap} {locs : List Loc} {cells slots : Nat} {Q : State → Prop}
variable {cc : ByteArray} {pc : Nat} {ls : Array Slot} {rest : List Value} {D : va_G} {cl : List vw_C} {A : Nat → Prop} {a : Nat} {tys : List (ClassId × FieldType)} {ws : va_W} {H0 : Heap}
theorem va_mna {X : va_W} {L : List Nat} {f : Nat → va_E} {cc : ByteArray} (hexec : p.tables.exec = Jvm.exec) (hb : c.code = cc) {own : String} {index : Nat} {ty : FieldType} {cy : ClassId} (hown : s.vm.findClass own = some m.cls) (hclink : (Cond.classLink own index ("[" ++ (FieldType.array ty).toString)).before args s = true) (hover : va_AOA ty s) (harr : (Cond.arrayClass ty).before args s = true) (hcy : s.vm.findClass (FieldType.array ty).toString = some cy)
    (hK : va_K D cl tys s) (hP : va_P D cl (X ++ va_pl L f) H) (hD : va_D A (X ++ va_pl L f)) (hS : va_S A H0 H locs) (hA : ∀ q, H0.size ≤ q → A q) {n k : Int32} {N' K' : Nat} {z : vp_A} (hn : ¬ n < 0) (hk : ¬ k < 0) (hN : n.toNatClampNeg = N') (hM : k.toNatClampNeg = K')
    (hb1 : N' * 4 ≤ 536870912) (hb2 : K' * componentBytes ty ≤ 536870912) (hb3 : K' ≤ 536870912) (hdf : fits ty (defaultValue ty) = true) (hdd : (defaultValue ty).isDefault = true) (hcells : cells + (1 + N') ≤ R.cells) (hslots : slots + (N' + N' * K') ≤ R.slots) (hz : ∀ c : ClassId, Jvm.Free.Multi.innerC c K' (defaultValue ty) = vp_cell c z) (hdg : decode cc pc = .ok (.multianewarray index 2, 4))
    (kk : ∀ (q : Nat) (r : Nat → Nat) (cA : ClassId) (H1 : Heap), (∀ i j : Nat, i < N' → j < N' → r i = r j → i = j) → (∀ i : Nat, i < N' → r i ∉ L) → va_K D cl (tys ++ [(cA, .array ty)]) s →
      va_P D cl ((X ++ [(q, .inl (cA, N', .inr (.inr (.inr (.inr (fun i => if i < N' then some (r i) else none))))))]) ++ va_pl (L ++ (List.range N').map r) (vr_up f ((List.range N').map r) (.inl (cy, z)))) H1 → va_D A ((X ++ [(q, .inl (cA, N', .inr (.inr (.inr (.inr (fun i => if i < N' then some (r i) else none))))))]) ++ va_pl (L ++ (List.range N').map r) (vr_up f ((List.range N').map r) (.inl (cy, z)))) → va_S A H0 H1 locs →
      W p l e R s m args below meth c H1 locs (cells + 1 + N') (slots + N' + N' * K') Q (F0 m (pc + 4) ls (.ref q :: rest))) : W p l e R s m args below meth c H locs cells slots Q (F0 m pc ls (.int k :: .int n :: rest)) := by
  subst hN
  subst hM
  intro T hT Xs
  obtain ⟨vm₁, cA, comp, -, fA, fC, hO, -, X', step⟩ := Xs.multianewarray2F hexec hown hclink (va_AOA.use hover) harr (g := F0 m pc ls (.int k :: .int n :: rest)) rfl (by rw [hb]; exact hdg) rfl hn hk hb1 hb2 hb3 hdf hdd hcells hslots
  have ec : some cy = some comp := hcy.symm.trans fC
  cases ec
  generalize hF : Jvm.Free.Multi.fill (T.setVm vm₁) cA cy n.toNatClampNeg k.toNatClampNeg (defaultValue ty) n.toNatClampNeg = F at X' step
  have hTh : (T.setVm vm₁).heap = H := hT
  obtain ⟨f1, f2, -, -⟩ := Jvm.Free.Multi.fill_facts (T.setVm vm₁) cA cy n.toNatClampNeg k.toNatClampNeg (defaultValue ty) n.toNatClampNeg
  rw [hF, hTh] at f1 f2
  have hold : ∀ x : Nat, x < H.size → F.heap[x]? = H[x]? := fun x hx => by
    have := Jvm.Free.Multi.fill_old (T.setVm vm₁) cA cy n.toNatClampNeg k.toNatClampNeg (defaultValue ty) (a := x) (by rw [hTh]; exact hx) n.toNatClampNeg
    rw [hF, hTh] at this
    exact this
  have hrow : ∀ j : Nat, j < n.toNatClampNeg → F.heap[H.size + 1 + j]? = some (vp_cell cy z) := fun j hj => by
    have := Jvm.Free.Multi.fill_inner (T.setVm vm₁) cA cy n.toNatClampNeg k.toNatClampNeg (defaultValue ty) n.toNatClampNeg j hj
    rw [hF, hTh, hz] at this
    exact this
  have hout : Jvm.Free.Multi.outerC cA n.toNatClampNeg H.size n.toNatClampNeg = vp_cell cA (n.toNatClampNeg, .inr (.inr (.inr (.inr (fun i => if i < n.toNatClampNeg then some (H.size + 1 + i) else none))))) := by
    rw [vp_cell_q]
    exact vr_outer cA n.toNatClampNeg H.size n.toNatClampNeg
  rw [hout] at f2
  have hlt : ∀ a, a ∈ L → a < H.size := fun a ha => by
    obtain ⟨k9, hk9⟩ := va_pl_get (X := X) (f := f) ha
    exact (hP k9 _ hk9).lt
  have hnl : ∀ i : Nat, i < n.toNatClampNeg → H.size + 1 + i ∉ L := fun i _ h => by
    have := hlt _ h
    omega
  have hnm : ∀ a, a ∈ (List.range n.toNatClampNeg).map (fun i => H.size + 1 + i) → a ∉ L := fun a ha h => by
    obtain ⟨i, -, rfl⟩ := List.mem_map.mp ha
    have := hlt _ h
    omega
  have hP0 : va_P D cl (X ++ va_pl L f) F.heap := hP.kept (fun k9 x hx => hold x.1 ((hP k9 x hx).lt))
  have hP1 : va_P D cl ((X ++ va_pl L f) ++ [(H.size, .inl (cA, n.toNatClampNeg, .inr (.inr (.inr (.inr (fun i => if i < n.toNatClampNeg then some (H.size + 1 + i) else none))))))]) F.heap := hP0.app (fun k9 x hx => by
    have h0 : k9 < 1 := (List.getElem?_eq_some_iff.mp hx).1
    rw [show k9 = 0 by omega] at hx
    cases hx
    exact f2)
  have hP2 : va_P D cl (((X ++ va_pl L f) ++ [(H.size, .inl (cA, n.toNatClampNeg, .inr (.inr (.inr (.inr (fun i => if i < n.toNatClampNeg then some (H.size + 1 + i) else none))))))]) ++ ((List.range n.toNatClampNeg).map (fun i => H.size + 1 + i)).map (fun a => (a, .inl (cy, z)))) F.heap := hP1.app (fun k9 x hx => by
    obtain ⟨a, ha, rfl⟩ := List.mem_map.mp (List.mem_of_getElem? hx)
    obtain ⟨i, hi, rfl⟩ := List.mem_map.mp ha
    exact hrow i (List.mem_range.mp hi))
  have hD2 : va_D A (((X ++ va_pl L f) ++ [(H.size, .inl (cA, n.toNatClampNeg, .inr (.inr (.inr (.inr (fun i => if i < n.toNatClampNeg then some (H.size + 1 + i) else none))))))]) ++ ((List.range n.toNatClampNeg).map (fun i => H.size + 1 + i)).map (fun a => (a, .inl (cy, z)))) := by
    have hD1 := hD.push (e := .inl (cA, n.toNatClampNeg, .inr (.inr (.inr (.inr (fun i => if i < n.toNatClampNeg then some (H.size + 1 + i) else none)))))) hP rfl (hA _ hS.1)
    generalize hW1 : (X ++ va_pl L f) ++ [(H.size, .inl (cA, n.toNatClampNeg, .inr (.inr (.inr (.inr (fun i => if i < n.toNatClampNeg then some (H.size + 1 + i) else none))))))] = W1 at hD1 hP1 ⊢
    have hle : ∀ (k9 : Nat) (x : Nat × va_E), W1[k9]? = some x → x.1 ≤ H.size := fun k9 x hx => by
      rw [← hW1] at hx
      by_cases hl : k9 < (X ++ va_pl L f).length
      · rw [List.getElem?_append_left hl] at hx
        exact Nat.le_of_lt ((hP k9 x hx).lt)
      · rw [List.getElem?_append_right (by omega)] at hx
        have h0 : k9 - (X ++ va_pl L f).length < 1 := (List.getElem?_eq_some_iff.mp hx).1
        rw [show k9 - (X ++ va_pl L f).length = 0 by omega] at hx
        cases hx
        exact Nat.le_refl _
    have hr : ∀ (k9 : Nat) (x : Nat × va_E), (((List.range n.toNatClampNeg).map (fun i => H.size + 1 + i)).map (fun a => ((a, .inl (cy, z)) : Nat × va_E)))[k9]? = some x → x.1 = H.size + 1 + k9 := fun k9 x hx => by
      rw [List.getElem?_map, List.getElem?_map] at hx
      by_cases h9 : k9 < n.toNatClampNeg
      · rw [List.getElem?_range h9] at hx
        cases hx
        rfl
      · have hn0 : (List.range n.toNatClampNeg)[k9]? = none := List.getElem?_eq_none (by rw [List.length_range]; omega)
        rw [hn0] at hx
        cases hx
    refine ⟨fun i j x y hi hj hxy => ?_, fun k9 x hx => ?_⟩
    · by_cases h1 : i < W1.length <;> by_cases h2 : j < W1.length
      · rw [List.getElem?_append_left h1] at hi
        rw [List.getElem?_append_left h2] at hj
        exact hD1.1 i j x y hi hj hxy
      · rw [List.getElem?_append_left h1] at hi
        rw [List.getElem?_append_right (by omega)] at hj
        have := hle _ _ hi
        have := hr _ _ hj
        omega
      · rw [List.getElem?_append_right (by omega)] at hi
        rw [List.getElem?_append_left h2] at hj
        have := hle _ _ hj
        have := hr _ _ hi
        omega
      · rw [List.getElem?_append_right (by omega)] at hi hj
        have := hr _ _ hi
        have := hr _ _ hj
        omega
    · by_cases h1 : k9 < W1.length
      · rw [List.getElem?_append_left h1] at hx
        exact hD1.2 k9 x hx
      · rw [List.getElem?_append_right (by omega)] at hx
        have := hr _ _ hx
        exact hA _ (by have := hS.1; omega)
  have hAr : ArrOfT s cA (.array ty) := fun N9 z9 => by
    obtain ⟨-, k9, hk9, cm9, hkk9⟩ := (hO 0 0 0).1
    exact ⟨(fun q hq => by cases hq), k9, hk9, cm9, hkk9⟩
  have hK2 : va_K D cl (tys ++ [(cA, .array ty)]) s := ⟨hK.1, fun k9 x hx => by
    by_cases hl : k9 < tys.length
    · rw [List.getElem?_append_left hl] at hx
      exact hK.2 k9 x hx
    · rw [List.getElem?_append_right (by omega)] at hx
      have h0 : k9 - tys.length < 1 := (List.getElem?_eq_some_iff.mp hx).1
      rw [show k9 - tys.length = 0 by omega] at hx
      cases hx
      exact ⟨hAr, fA⟩⟩
  obtain ⟨t, a1, b1⟩ := kk H.size (fun i => H.size + 1 + i) cA F.heap (fun i j _ _ h => by have h9 : H.size + 1 + i = H.size + 1 + j := h; omega) hnl hK2 (by rw [← vr_rows hnm]; exact vr_lay hP2) (by rw [← vr_rows hnm]; exact vr_layD hD2) ⟨by rw [f1]; have := hS.1; omega, fun x h1 h2 => (hold x (Nat.lt_of_lt_of_le h1 hS.1)).trans (hS.2.1 x h1 h2), hS.2.2⟩ F rfl X'
  refine ⟨t, step t ?_, b1⟩
  have e : T.heap.size = H.size := by rw [hT]
  rw [e]
  exact a1
end VGM
/-! ===== END ===== -/

/-! ===== BEGIN exceptions that leave a method, and their catching by the caller (launches without stack traces) ===== -/
section VXA
/-! The laws vx_back, vx_callV, vx_callS, vx_callSW, vx_throw0, vx_throwS follow proofs of the library, with one case more: JvmDerived/Free/Laws.lean (Back.of_free), Shelf42/LK1.lean (callV, callS), Shelf/KitTraced.lean (throwNew0V, throwNewS). -/
/-- where a method has thrown q: the class by its name, the cell, what was written, the world -/
def vx_T (XC : String → State → State → Prop) (st : State) (q : Addr) (t : State) (mc ms : Nat) (free : Addr → Prop) : Prop :=
  ∃ (E : String) (ce : Cell) (L : List Loc), XC E st t ∧ t.heap[q]? = some ce ∧ ce.vm = .none ∧ st.vm.findClass E = some ce.cls ∧ st.WarmedH t.vm ∧ st.sameButNew ({ t with vm := st.vm } : State) L mc ms ∧ ∀ z ∈ L, free z.base
def vx_Q (Qc : Array Value → State → Outcome → State → Prop) (XC : String → State → State → Prop) (mc ms : Nat) (free : Addr → Prop) : Array Value → State → Outcome → State → Prop := fun a st o t =>
  (Qc a st o t ∧ ∃ L, FrameEnd st o t L mc ms ∧ ∀ q ∈ L, free q.base) ∨ ∃ q, o = .threw q ∧ vx_T XC st q t mc ms free
/-- a callee that returns or throws -/
def vx_Met (l : Launch) (y : MethodName) (ws : List Cond) (rm : Room) (Pc : Array Value → State → Prop) (Qc : Array Value → State → Outcome → State → Prop) (XC : String → State → State → Prop) (mc ms : Nat) (free : Addr → Prop) : Prop :=
  MetFree l y (headSpec ws rm) Pc (fun _ _ _ _ _ => True) (vx_Q Qc XC mc ms free)
def vx_Post (XC : String → State → State → Prop) (mc ms : Nat) (free : Addr → Prop) : Pt → Array Value → Addr → Pt → Prop := fun A a q B =>
  ∃ (g : JFrame) (mk : MethodId) (t : State) (L : List Loc) (E : String) (ce : Cell), B.U.heap = t.heap ∧ B.U.vm = t.vm ∧ XC E (A.U.calling g mk a) t ∧ t.heap[q]? = some ce ∧ ce.vm = .none ∧ A.U.vm.findClass E = some ce.cls ∧ B.locs = A.locs ++ L ∧ (∀ z ∈ L, free z.base) ∧ B.cells = A.cells + mc ∧ B.slots = A.slots + ms
def vx_Back (l : Launch) (R : Room) (p : Program) (e : Env) (below : List Frame) (s : State) (sargs : Array Value) (y : MethodName) (len W9 : Nat)
    (Pre : Pt → Array Value → Prop) (Post : Pt → Array Value → Option Value → Pt → Prop) (PostX : Pt → Array Value → Addr → Pt → Prop) : Prop :=
  ∀ (m : MethodId) (meth : Method) (c : Code) (A : Pt) (g : JFrame) (ig : Instr) (mk : MethodId) (a : Array Value),
    Stand p l e R s m sargs below meth c A.U A.locs A.cells A.slots → g.method = m → g.locals.size = c.maxLocals → decode c.code g.pc = .ok (ig, len) →
    2 * g.monitorRoom + (g.stack.map fun v => v.category).sum ≤ W9 → A.U.methodNamed? y = some mk → Pre A a →
    (∃ (v : Option Value) (B : Pt), Stand p l e R s m sargs below meth c B.U B.locs B.cells B.slots ∧ Post A a v B ∧
      Steps p.tables e below (doInvoke e (A.U.setTop g) [] mk a).1 (B.U.setTop { g with pc := g.pc + len, stack := v.toList ++ g.stack })) ∨
    (∃ (q : Addr) (B : Pt), Stand p l e R s m sargs below meth c B.U B.locs B.cells B.slots ∧ PostX A a q B ∧
      Steps p.tables e below (doInvoke e (A.U.setTop g) [] mk a).1 ((B.U.setTop g).pushFrame (.throwing q)))
section Payer
variable {l : Launch} {R : Room} {p : Program} {e : Env} {below : List Frame} {s : State} {sargs : Array Value} {y : MethodName} {len W9 : Nat}
theorem vx_back {ws : List Cond} {rm : Room} {Pc : Array Value → State → Prop} {Qc : Array Value → State → Outcome → State → Prop} {XC : String → State → State → Prop} {mc ms : Nat} {free : Addr → Prop} {bytes : ByteArray} {maxL : Nat} {ret : Option FieldType}
    (hM : vx_Met l y ws rm Pc Qc XC mc ms free) (hblind : FrameBlind Pc) (hrc : rm.cells = mc) (hrs : rm.slots = ms)
    (hframes : rm.frames + 1 ≤ R.frames) (hlocals : W9 + (maxL + 11) + rm.locals ≤ R.locals)
    (hws : ∀ w ∈ ws, ∀ a' U, s.WarmedH U.vm → w.before a' U = true) (hcode : Cond.code y bytes maxL ret ∈ ws) (hinit : ∀ a' U, s.WarmedH U.vm → (Cond.initialized y.cls).before a' U = true) :
    vx_Back l R p e below s sargs y len W9 (PreOf R mc ms Pc) (PostOf Qc mc ms free) (vx_Post XC mc ms free) := by
  intro m meth c A g ig mk a X hg hsize hdg hW hn hp
  have h1 : (headSpec ws rm).pre.before a A.U = true := atoms_intro fun w hw => hws w hw _ _ X.warmed
  have h2 : (Cond.code y bytes maxL ret).before a A.U = true := hws _ hcode _ _ X.warmed
  have h3 : (Cond.initialized y.cls).before a A.U = true := hinit _ _ X.warmed
  have h4 : A.cells + (headSpec ws rm).room.cells ≤ R.cells := by rw [show (headSpec ws rm).room.cells = mc from hrc]; exact hp.1
  have h5 : A.slots + (headSpec ws rm).room.slots ≤ R.slots := by rw [show (headSpec ws rm).room.slots = ms from hrs]; exact hp.2.1
  have hPc : Pc a (A.U.calling g mk a) := hblind _ _ _ _ hp.2.2
  obtain ⟨U, Ls, c0, s0⟩ := A
  dsimp only [Pt.U, Pt.locs, Pt.cells, Pt.slots] at h1 h2 h3 h4 h5 X hn hPc ⊢
  obtain ⟨methY, cY, hmY, hcY, -, hlY, -, -, -, -⟩ := Cond.code_spec hn h2
  obtain ⟨kY, hkY, -⟩ := className_of_methodNamed hn
  have hinitY : kY.init = .initialized := Cond.initialized_spec (findClass_of_methodNamed hn) hkY h3
  have h : At U g.method c below := by rw [hg]; exact X.here
  have hlocals9 : W9 + (maxL + 11) + (headSpec ws rm).room.locals ≤ R.locals := hlocals
  have happ : (headSpec ws rm).appliesLoose y e.platform (U.calling g mk a) = true :=
    Spec.appliesLoose_calling (g := g) h hdg hn hkY hinitY
      (X.room_calling (g := g) (R' := (headSpec ws rm).room) hsize hmY hcY hframes (by rw [hlY]; omega) h4 h5) h1
  obtain ⟨mid, hmid⟩ := h.above
  have hfr : (U.setTop g).frames = (.java g :: mid) ++ below := by rw [State.frames_setTop' g h.top, hmid]; rfl
  obtain ⟨o, s₂, hsteps, -, hend, hq⟩ := Steps.callFree hM p X.admits X.cas X.clock (acts := []) hfr happ hPc trivial
  have hq' : vx_Q Qc XC mc ms free a (U.calling g mk a) o s₂ := hq
  rw [State.frames_setTop' g h.top] at hend
  obtain ⟨g₀, hg0⟩ := Option.isSome_iff_exists.mp h.top
  obtain ⟨r, hr⟩ := State.topJava?_eq_some.mp hg0
  have hr' : (({ U with heap := s₂.heap, slotsUsed := s₂.slotsUsed } : State).setVm s₂.vm).frames = .java g₀ :: r := hr
  rcases hq' with ⟨hqc, L, hfe, hL⟩ | ⟨q, rfl, E, ce, L, hx, hce, hcv, hcl, hW₂, hsm, hL⟩
  · obtain ⟨⟨v, rfl⟩, hW₂, e2, q2, q3, q4, q5, q6⟩ := id hfe
    have e3 : s₂ = ({ (U.calling g mk a).setFrames s₂.frames with heap := s₂.heap, slotsUsed := s₂.slotsUsed } : State).setVm s₂.vm := by
      have : s₂ = ({ s₂ with vm := (U.calling g mk a).vm } : State).setVm s₂.vm := rfl
      rw [e2] at this
      exact this
    obtain ⟨c₂, i₂, len₂, hc₂, hd₂, hf₂⟩ := hend
    have hW' : U.WarmedH s₂.vm := hW₂
    have hcc : c₂ = c := by
      have h1 : s₂.code? g.method = U.code? g.method := by
        rw [State.code?_eq, State.code?_eq, hW'.alike.method?]
      exact Option.some.inj (hc₂.symm.trans (h1.trans h.code))
    subst hcc
    have hlen : len₂ = len := by rw [hdg] at hd₂; cases hd₂; rfl
    subst hlen
    have hs₂ : s₂ = (({ U with heap := s₂.heap, slotsUsed := s₂.slotsUsed } : State).setVm s₂.vm).setTop { g with pc := g.pc + len₂, stack := v.toList ++ g.stack } := by
      refine e3.trans ?_
      rw [hf₂, State.calling_eq h.top, State.setFrames_setFrames, State.setTop_of_frames _ hr', hr]
      rfl
    have hsame : U.sameButNew ({ U with heap := s₂.heap, slotsUsed := s₂.slotsUsed } : State) L mc ms := by
      refine ⟨?_, q2, q3, q4, q5, q6⟩
      obtain ⟨t, ht, -⟩ := State.frames_cons hr
      show ({ U with heap := s₂.heap, slotsUsed := s₂.slotsUsed } : State) = { U.setFrames U.frames with heap := s₂.heap, slotsUsed := s₂.slotsUsed }
      rw [State.setFrames_self ht]
    subst hg
    refine Or.inl ⟨v, ⟨(({ U with heap := s₂.heap, slotsUsed := s₂.slotsUsed } : State).setVm s₂.vm), Ls ++ L, c0 + mc, s0 + ms⟩,
      ⟨X.admits, X.cas, X.clock, X.frames, X.room, X.hears, X.method, X.code, (X.here.setHeapUsed s₂.heap s₂.slotsUsed).setVm hW'.alike, X.tail, State.WarmedH.trans X.warmed hW', X.limits, X.bytes, X.same.trans (hsame.setVm s.vm)⟩,
      ⟨g, mk, s₂, L, rfl, rfl, hqc, rfl, hL, rfl, rfl⟩, ?_⟩
    show Steps p.tables e below _ ((({ U with heap := s₂.heap, slotsUsed := s₂.slotsUsed } : State).setVm s₂.vm).setTop { g with pc := g.pc + len₂, stack := v.toList ++ g.stack })
    rw [← hs₂]
    exact hsteps
  · obtain ⟨e2, q2, q3, q4, q5, q6⟩ := id hsm
    have e3 : s₂ = ({ (U.calling g mk a).setFrames s₂.frames with heap := s₂.heap, slotsUsed := s₂.slotsUsed } : State).setVm s₂.vm := by
      have : s₂ = ({ s₂ with vm := (U.calling g mk a).vm } : State).setVm s₂.vm := rfl
      rw [e2] at this
      exact this
    have hf₂ : s₂.frames = .throwing q :: .java g :: U.frames.tail := hend
    have hW' : U.WarmedH s₂.vm := hW₂
    have hs₂ : s₂ = ((({ U with heap := s₂.heap, slotsUsed := s₂.slotsUsed } : State).setVm s₂.vm).setTop g).pushFrame (.throwing q) := by
      refine e3.trans ?_
      rw [hf₂, State.calling_eq h.top, State.setFrames_setFrames, State.pushFrame, State.frames_setTop _ hr', State.setTop_of_frames _ hr', State.setFrames_setFrames, hr]
      rfl
    have hsame : U.sameButNew ({ U with heap := s₂.heap, slotsUsed := s₂.slotsUsed } : State) L mc ms := by
      refine ⟨?_, q2, q3, q4, q5, q6⟩
      obtain ⟨t, ht, -⟩ := State.frames_cons hr
      show ({ U with heap := s₂.heap, slotsUsed := s₂.slotsUsed } : State) = { U.setFrames U.frames with heap := s₂.heap, slotsUsed := s₂.slotsUsed }
      rw [State.setFrames_self ht]
    subst hg
    refine Or.inr ⟨q, ⟨(({ U with heap := s₂.heap, slotsUsed := s₂.slotsUsed } : State).setVm s₂.vm), Ls ++ L, c0 + mc, s0 + ms⟩,
      ⟨X.admits, X.cas, X.clock, X.frames, X.room, X.hears, X.method, X.code, (X.here.setHeapUsed s₂.heap s₂.slotsUsed).setVm hW'.alike, X.tail, State.WarmedH.trans X.warmed hW', X.limits, X.bytes, X.same.trans (hsame.setVm s.vm)⟩,
      ⟨g, mk, s₂, L, E, ce, rfl, rfl, hx, hce, hcv, hcl, rfl, hL, rfl, rfl⟩, ?_⟩
    show Steps p.tables e below _ (((({ U with heap := s₂.heap, slotsUsed := s₂.slotsUsed } : State).setVm s₂.vm).setTop g).pushFrame (.throwing q))
    rw [← hs₂]
    exact hsteps
end Payer
section Calls
variable {p : Program} {l : Launch} {e : Env} {R : Room} {s : State} {m : MethodId} {args : Array Value} {below : List Frame} {meth : Method} {c : Code} {T : State} {locs : List Loc} {cells slots : Nat}
theorem vx_callV (X : Stand p l e R s m args below meth c T locs cells slots) (hexec : p.tables.exec = Jvm.exec) {own C : String} {index : Nat} {y : MethodName} {bytes : ByteArray} {maxL : Nat} {ret : Option FieldType}
    (hown : s.vm.findClass own = some m.cls) (hlink : (Cond.methodLink own index y).before args s = true) (hinst : (Cond.instanceMethod y).before args s = true) (hsel : (Cond.selects C y y).before args s = true)
    (hcode : (Cond.code y bytes maxL ret).before args s = true) (hy : y.cls ≠ "java/lang/invoke/MethodHandle" ∧ y.cls ≠ "java/lang/invoke/VarHandle")
    {W9 : Nat} {Pre : Pt → Array Value → Prop} {Post : Pt → Array Value → Option Value → Pt → Prop} {PostX : Pt → Array Value → Addr → Pt → Prop} (hK : vx_Back l R p e below s args y 3 W9 Pre Post PostX)
    {b : Addr} {cellB : Cell} (hcell : T.heap[b]? = some cellB) (hobj : cellB.vm.isStatics = false) (hcls : s.vm.findClass C = some cellB.cls)
    {g : JFrame} (hg : g.method = m) (hsize : g.locals.size = c.maxLocals) {argsL rest : List Value} (hlen : ∀ sig, parseMethodDescriptor y.desc = some sig → argsL.length = sig.parameters.length)
    (hstack : g.stack = argsL.reverse ++ .ref b :: rest) (hW : 2 * g.monitorRoom + (rest.map fun v => v.category).sum ≤ W9) (hdg : decode c.code g.pc = .ok (.invokevirtual index, 3))
    (hpre : ∀ vm₁, s.WarmedH vm₁ → Pre ⟨T.setVm vm₁, locs, cells, slots⟩ (Value.ref b :: argsL).toArray) :
    (∃ (v : Option Value) (vm₁ : Vm) (B : Pt), s.WarmedH vm₁ ∧ Stand p l e R s m args below meth c B.U B.locs B.cells B.slots ∧ Post ⟨T.setVm vm₁, locs, cells, slots⟩ (Value.ref b :: argsL).toArray v B ∧
      ∀ target, Steps p.tables e below (B.U.setTop { g with pc := g.pc + 3, stack := v.toList ++ rest }) target → Steps p.tables e below (T.setTop g) target) ∨
    (∃ (q : Addr) (vm₁ : Vm) (B : Pt), s.WarmedH vm₁ ∧ Stand p l e R s m args below meth c B.U B.locs B.cells B.slots ∧ PostX ⟨T.setVm vm₁, locs, cells, slots⟩ (Value.ref b :: argsL).toArray q B ∧
      Steps p.tables e below (T.setTop g) ((B.U.setTop { g with stack := rest }).pushFrame (.throwing q))) := by
  obtain ⟨mk, methM, hnamed, hmethM, hstM, habM⟩ := Cond.instanceMethod_spec hinst
  obtain ⟨methM', cM, hmethM', -, -, -, -, -, -, hsigM⟩ := Cond.code_spec hnamed hcode
  cases hmethM.symm.trans hmethM'
  obtain ⟨c2, r2, m2, q1, q2, q3, q4, kP, hkP, hkPi⟩ := Cond.selects_spec hsel
  cases hcls.symm.trans q1
  cases (State.methodFound?_of_named hnamed hy).symm.trans q2
  cases hnamed.symm.trans q3
  have hselP : selectMethod e.platform s.vm cellB.cls mk = .method mk := by rw [Launch.admits_selectMethod X.admits]; exact q4
  obtain ⟨vm₁, X₁, hstep₁⟩ := X.invokevirtual hexec hown hlink hnamed hmethM hstM hkP hkPi hy (a := b) (cell := cellB) hcell
    (fun z h => by rw [h] at hobj; cases hobj) hselP hmethM habM hkP hkPi (g := g) hg (argsL := argsL) (rest := rest) (hlen _ hsigM) hstack hdg
  rcases hK m meth c ⟨T.setVm vm₁, locs, cells, slots⟩ { g with stack := rest } (.invokevirtual index) mk (Value.ref b :: argsL).toArray X₁ hg hsize hdg hW (X₁.named hnamed) (hpre vm₁ X₁.warmed) with ⟨v, B, X', hpost, hsteps⟩ | ⟨q, B, X', hpost, hsteps⟩
  · exact Or.inl ⟨v, vm₁, B, X₁.warmed, X', hpost, fun target h => hstep₁ _ fun acts => by rw [doInvoke_state]; exact hsteps.trans h⟩
  · exact Or.inr ⟨q, vm₁, B, X₁.warmed, X', hpost, hstep₁ _ fun acts => by rw [doInvoke_state]; exact hsteps⟩
theorem vx_callS (X : Stand p l e R s m args below meth c T locs cells slots) (hexec : p.tables.exec = Jvm.exec) {own : String} {index : Nat} {y : MethodName} {bytes : ByteArray} {maxL : Nat} {ret : Option FieldType}
    (hown : s.vm.findClass own = some m.cls) (hlink : (Cond.methodLink own index y).before args s = true) (hstat : (Cond.static y).before args s = true) (hinit : (Cond.initialized y.cls).before args s = true)
    (hcode : (Cond.code y bytes maxL ret).before args s = true) (hy : y.cls ≠ "java/lang/invoke/MethodHandle" ∧ y.cls ≠ "java/lang/invoke/VarHandle")
    {W9 : Nat} {Pre : Pt → Array Value → Prop} {Post : Pt → Array Value → Option Value → Pt → Prop} {PostX : Pt → Array Value → Addr → Pt → Prop} (hK : vx_Back l R p e below s args y 3 W9 Pre Post PostX)
    {g : JFrame} (hg : g.method = m) (hsize : g.locals.size = c.maxLocals) {argsL rest : List Value} (hlen : ∀ sig, parseMethodDescriptor y.desc = some sig → argsL.length = sig.parameters.length)
    (hstack : g.stack = argsL.reverse ++ rest) (hW : 2 * g.monitorRoom + (rest.map fun v => v.category).sum ≤ W9) (hdg : decode c.code g.pc = .ok (.invokestatic index, 3))
    (hpre : ∀ vm₁, s.WarmedH vm₁ → Pre ⟨T.setVm vm₁, locs, cells, slots⟩ argsL.toArray) :
    (∃ (v : Option Value) (vm₁ : Vm) (B : Pt), s.WarmedH vm₁ ∧ Stand p l e R s m args below meth c B.U B.locs B.cells B.slots ∧ Post ⟨T.setVm vm₁, locs, cells, slots⟩ argsL.toArray v B ∧
      ∀ target, Steps p.tables e below (B.U.setTop { g with pc := g.pc + 3, stack := v.toList ++ rest }) target → Steps p.tables e below (T.setTop g) target) ∨
    (∃ (q : Addr) (vm₁ : Vm) (B : Pt), s.WarmedH vm₁ ∧ Stand p l e R s m args below meth c B.U B.locs B.cells B.slots ∧ PostX ⟨T.setVm vm₁, locs, cells, slots⟩ argsL.toArray q B ∧
      Steps p.tables e below (T.setTop g) ((B.U.setTop { g with stack := rest }).pushFrame (.throwing q))) := by
  obtain ⟨mk, hnamed⟩ := Cond.code_named hcode
  obtain ⟨methM, cM, hmethM, -, -, -, -, -, -, hsigM⟩ := Cond.code_spec hnamed hcode
  have hstatic : methM.isStatic = true := Cond.static_spec hnamed hmethM hstat
  obtain ⟨kP, hkP, -⟩ := className_of_methodNamed hnamed
  have hinitP : kP.init = .initialized := Cond.initialized_spec (findClass_of_methodNamed hnamed) hkP hinit
  obtain ⟨vm₁, X₁, hstep₁⟩ := X.invokestatic hexec hown hlink hnamed hmethM hstatic hkP hinitP hy (g := g) hg (argsL := argsL) (rest := rest) (hlen _ hsigM) hstack hdg
  rcases hK m meth c ⟨T.setVm vm₁, locs, cells, slots⟩ { g with stack := rest } (.invokestatic index) mk argsL.toArray X₁ hg hsize hdg hW (X₁.named hnamed) (hpre vm₁ X₁.warmed) with ⟨v, B, X', hpost, hsteps⟩ | ⟨q, B, X', hpost, hsteps⟩
  · exact Or.inl ⟨v, vm₁, B, X₁.warmed, X', hpost, fun target h => hstep₁ _ fun acts => by rw [doInvoke_state]; exact hsteps.trans h⟩
  · exact Or.inr ⟨q, vm₁, B, X₁.warmed, X', hpost, hstep₁ _ fun acts => by rw [doInvoke_state]; exact hsteps⟩
end Calls
theorem vx_cls {s : State} {T : State} {vm₁ : Vm} {E : String} {k : ClassId} (hW : s.WarmedH vm₁) (h : (T.setVm vm₁).vm.findClass E = some k) : s.vm.findClass E = some k := by
  have h1 : vm₁.findClass E = some k := h
  rw [hW.alike.findClass] at h1
  exact h1
/-- the method's frame g, with q thrown over it -/
def vx_W (p : Program) (l : Launch) (e : Env) (R : Room) (s : State) (m : MethodId) (args : Array Value) (below : List Frame) (meth : Method) (c : Code) (H : Heap) (locs : List Loc) (cells slots : Nat) (Q : State → Prop) (g : JFrame) (q : Addr) : Prop :=
  ∀ T : State, T.heap = H → Stand p l e R s m args below meth c T locs cells slots → ∃ t, Steps p.tables e below ((T.setTop g).pushFrame (.throwing q)) t ∧ Q t
def vx_Run (p : Program) (l : Launch) (e : Env) (R : Room) (s : State) (m : MethodId) (args : Array Value) (below : List Frame) (meth : Method) (c : Code) (H : Heap) (locs : List Loc) (cells slots mc ms : Nat) (g : JFrame) (rest : List Value) (Qa : State → Outcome → State → Prop) (XC : String → State → State → Prop) (free : Addr → Prop) : Prop :=
  ∀ T : State, T.heap = H → Stand p l e R s m args below meth c T locs cells slots →
    (∃ (v : Option Value) (st₀ t T' : State) (L : List Loc), st₀.heap = H ∧ Stand p l e R s m args below meth c T' (locs ++ L) (cells + mc) (slots + ms) ∧ (∀ q ∈ L, free q.base) ∧ T'.heap = t.heap ∧ T'.vm = t.vm ∧ Qa st₀ (.returned v) t ∧
      Goes p e below T g T' { g with pc := g.pc + 3, stack := v.toList ++ rest }) ∨
    (∃ (q : Addr) (st₀ t T' : State) (L : List Loc) (E : String) (ce : Cell), st₀.heap = H ∧ Stand p l e R s m args below meth c T' (locs ++ L) (cells + mc) (slots + ms) ∧ (∀ z ∈ L, free z.base) ∧ T'.heap = t.heap ∧ T'.vm = t.vm ∧ XC E st₀ t ∧ t.heap[q]? = some ce ∧ ce.vm = .none ∧ s.vm.findClass E = some ce.cls ∧
      Steps p.tables e below (T.setTop g) ((T'.setTop { g with stack := rest }).pushFrame (.throwing q)))
def vx_X {S : Type} (px : S → Prop) (B : String → S → State → Prop) (A : Nat → Prop) : String → State → State → Prop := fun E st t => ∃ u : S, px u ∧ B E u t ∧ va_F A st t
section Runs
variable {p : Program} {l : Launch} {e : Env} {R : Room} {s : State} {m : MethodId} {args : Array Value} {below : List Frame} {meth : Method} {c : Code} {H : Heap} {locs : List Loc} {cells slots : Nat}
variable {y : MethodName} {bytes cc : ByteArray} {maxL nL mc ms n index : Nat} {ret : Option FieldType} {ws : List Cond} {rm : Room} {Pc : Array Value → State → Prop} {Qc : Array Value → State → Outcome → State → Prop} {XC : String → State → State → Prop} {free : Addr → Prop} {Ts : List Cond} {own C : String} {b : Addr} {As rest : List Value} {g : JFrame}
theorem vx_callBack (cb : CallB R s args own index y bytes maxL ret ws rm mc ms n) (hM : vx_Met l y ws rm Pc Qc XC mc ms free) (hbl : FrameBlind Pc) : vx_Back l R p e below s args y 3 8 (PreOf R mc ms Pc) (PostOf Qc mc ms free) (vx_Post XC mc ms free) := by
  obtain ⟨hrc, hrs, hfr, hlo, hws, hcw, -, hini, -⟩ := cb
  exact vx_back (bytes := bytes) (maxL := maxL) (ret := ret) hM hbl hrc hrs hfr hlo hws hcw (fun a' U hW => word_at hW (Or.inl (by first | rfl | simp [Cond.onTables, Cond.keeps, Cond.steady])) hini)
theorem vx_runV (S : CallFix p m c cc nL s args Ts own) (hM : vx_Met l y ws rm Pc Qc XC mc ms free) (cw : CallW R s args own C index y bytes maxL ret ws rm mc ms n) (hp : PreV s H C b Pc As)
    (hg : g.method = m) (hn : As.length = n) (hsize : g.locals.size = nL) (hstack : g.stack = As.reverse ++ .ref b :: rest) (hW : 2 * g.monitorRoom + (rest.map fun v => v.category).sum ≤ 8) (hdg : decode cc g.pc = .ok (.invokevirtual index, 3)) (hf : cells + mc ≤ R.cells ∧ slots + ms ≤ R.slots) :
    vx_Run p l e R s m args below meth c H locs cells slots mc ms g rest (Qc (Value.ref b :: As).toArray) XC free := by
  have hK : vx_Back l R p e below s args y 3 8 (PreOf R mc ms Pc) (PostOf Qc mc ms free) (vx_Post XC mc ms free) := vx_callBack cw.1 hM hp.1
  obtain ⟨⟨-, -, -, -, -, -, hcode, -, hy, hlen, hl⟩, hin, hse⟩ := cw
  obtain ⟨hx, hb, hml, ho, -⟩ := S
  obtain ⟨-, ⟨cellB, hcB, hoB, hclB⟩, hPc⟩ := hp
  intro T hT X
  rcases vx_callV X hx (C := C) (bytes := bytes) (maxL := maxL) (ret := ret) ho hl hin hse hcode hy hK (by rw [hT]; exact hcB) hoB hclB hg (hsize.trans hml.symm) (argsL := As) (rest := rest) (fun sig h => hn.trans (hlen sig h)) hstack hW (by rw [hb]; exact hdg)
    (fun vm₁ hW₁ => ⟨hf.1, hf.2, hPc (T.setVm vm₁) hT hW₁⟩) with ⟨v, vm₁, ⟨U', l2, c2, s2⟩, hW₁, X', ⟨g', mk, t, L, e1, e2, hq, h1, hL, h2, h3⟩, st⟩ | ⟨q, vm₁, ⟨U', l2, c2, s2⟩, hW₁, X', ⟨g', mk, t, L, E, ce, e1, e2, hq, hce, hcv, hcl, h1, hL, h2, h3⟩, st⟩
  · dsimp only [Pt.U, Pt.locs, Pt.cells, Pt.slots] at X' e1 e2 h1 h2 h3 st
    subst h1; subst h2; subst h3
    exact Or.inl ⟨v, (T.setVm vm₁).calling g' mk (Value.ref b :: As).toArray, t, U', L, hT, X', hL, e1, e2, hq, st⟩
  · dsimp only [Pt.U, Pt.locs, Pt.cells, Pt.slots] at X' e1 e2 h1 h2 h3 st hcl
    subst h1; subst h2; subst h3
    exact Or.inr ⟨q, (T.setVm vm₁).calling g' mk (Value.ref b :: As).toArray, t, U', L, E, ce, hT, X', hL, e1, e2, hq, hce, hcv, vx_cls hW₁ hcl, st⟩
theorem vx_runS (S : CallFix p m c cc nL s args Ts own) (hM : vx_Met l y ws rm Pc Qc XC mc ms free) (cw : CallB R s args own index y bytes maxL ret ws rm mc ms n ∧ (Cond.static y).before args s = true) (hp : PreS s H Pc As)
    (hg : g.method = m) (hn : As.length = n) (hsize : g.locals.size = nL) (hstack : g.stack = As.reverse ++ rest) (hW : 2 * g.monitorRoom + (rest.map fun v => v.category).sum ≤ 8) (hdg : decode cc g.pc = .ok (.invokestatic index, 3)) (hf : cells + mc ≤ R.cells ∧ slots + ms ≤ R.slots) :
    vx_Run p l e R s m args below meth c H locs cells slots mc ms g rest (Qc As.toArray) XC free := by
  have hK : vx_Back l R p e below s args y 3 8 (PreOf R mc ms Pc) (PostOf Qc mc ms free) (vx_Post XC mc ms free) := vx_callBack cw.1 hM hp.1
  obtain ⟨⟨-, -, -, -, -, -, hcode, hini, hy, hlen, hl⟩, hstt⟩ := cw
  obtain ⟨hx, hb, hml, ho, -⟩ := S
  intro T hT X
  rcases vx_callS X hx (bytes := bytes) (maxL := maxL) (ret := ret) ho hl hstt hini hcode hy hK hg (hsize.trans hml.symm) (argsL := As) (rest := rest) (fun sig h => hn.trans (hlen sig h)) hstack hW (by rw [hb]; exact hdg)
    (fun vm₁ hW₁ => ⟨hf.1, hf.2, hp.2 (T.setVm vm₁) hT hW₁⟩) with ⟨v, vm₁, ⟨U', l2, c2, s2⟩, hW₁, X', ⟨g', mk, t, L, e1, e2, hq, h1, hL, h2, h3⟩, st⟩ | ⟨q, vm₁, ⟨U', l2, c2, s2⟩, hW₁, X', ⟨g', mk, t, L, E, ce, e1, e2, hq, hce, hcv, hcl, h1, hL, h2, h3⟩, st⟩
  · dsimp only [Pt.U, Pt.locs, Pt.cells, Pt.slots] at X' e1 e2 h1 h2 h3 st
    subst h1; subst h2; subst h3
    exact Or.inl ⟨v, (T.setVm vm₁).calling g' mk As.toArray, t, U', L, hT, X', hL, e1, e2, hq, st⟩
  · dsimp only [Pt.U, Pt.locs, Pt.cells, Pt.slots] at X' e1 e2 h1 h2 h3 st hcl
    subst h1; subst h2; subst h3
    exact Or.inr ⟨q, (T.setVm vm₁).calling g' mk As.toArray, t, U', L, E, ce, hT, X', hL, e1, e2, hq, hce, hcv, vx_cls hW₁ hcl, st⟩
end Runs
section Rows
variable {p : Program} {l : Launch} {e : Env} {R : Room} {s : State} {m : MethodId} {args : Array Value} {below : List Frame} {meth : Method} {c : Code} {H : Heap} {locs : List Loc} {cells slots : Nat} {Q : State → Prop}
variable {mc ms : Nat} {free : Addr → Prop} {A0 A1 : Nat → Prop} {H0 : Heap} {a : Array Value} {pc : Nat} {ls : Array Slot} {st0 rest : List Value}
theorem vx_keep {st₀ t T' : State} {L : List Loc} (h0 : st₀.heap = H) (e1 : T'.heap = t.heap) (hS : va_S A0 H0 H locs) (hA : ∀ q, q < H.size → A1 q → A0 q) (hf : ∀ q, free q → A0 q) (hL : ∀ q ∈ L, free q.base) (hF : va_F A1 st₀ t) :
    H.size ≤ T'.heap.size ∧ (∀ q : Nat, q < H.size → ¬ A1 q → T'.heap[q]? = H[q]?) ∧ va_S A0 H0 T'.heap (locs ++ L) := by
  obtain ⟨hz, hk⟩ := hF
  rw [h0] at hz hk
  exact ⟨by rw [e1]; exact hz, fun q h1 h2 => by rw [e1]; exact hk q h1 h2,
    ⟨Nat.le_trans hS.1 (by rw [e1]; exact hz), fun q h1 h2 => by rw [e1, hk q (Nat.lt_of_lt_of_le h1 hS.1) (fun z => h2 (hA q (Nat.lt_of_lt_of_le h1 hS.1) z))]; exact hS.2.1 q h1 h2, fun q hq => by
      rcases List.mem_append.mp hq with h | h
      · exact hS.2.2 q h
      · exact hf _ (hL q h)⟩⟩
theorem vx_calli {S SX : Type} {post : Int32 → S → Prop} {px : SX → Prop} {B : S → State → Prop} {BX : String → SX → State → Prop} {AX : Nat → Prop} (hr : vx_Run p l e R s m args below meth c H locs cells slots mc ms (F0 m pc ls st0) rest (va_Qi post B A1 a) (vx_X px BX AX) free) (hS : va_S A0 H0 H locs) (hA : ∀ q, q < H.size → A1 q → A0 q) (hf : ∀ q, free q → A0 q) (hAX : ∀ q, q < H.size → AX q → A0 q)
    (kx : ∀ (E : String) (ce : Cell) (q9 : Addr) (u : SX) (t : State) (H1 : Heap) (locs1 : List Loc), t.heap = H1 → s.vm.Alike t.vm → px u → BX E u t → H.size ≤ H1.size → (∀ q : Nat, q < H.size → ¬ AX q → H1[q]? = H[q]?) → va_S A0 H0 H1 locs1 → H1[q9]? = some ce → ce.vm = .none → s.vm.findClass E = some ce.cls → vx_W p l e R s m args below meth c H1 locs1 (cells + mc) (slots + ms) Q (F0 m pc ls rest) q9)
    (kk : ∀ (r : Int32) (u : S) (t : State) (H1 : Heap) (locs1 : List Loc), t.heap = H1 → s.vm.Alike t.vm → post r u → B u t → H.size ≤ H1.size → (∀ q : Nat, q < H.size → ¬ A1 q → H1[q]? = H[q]?) → va_S A0 H0 H1 locs1 → W p l e R s m args below meth c H1 locs1 (cells + mc) (slots + ms) Q (F0 m (pc + 3) ls (.int r :: rest))) : W p l e R s m args below meth c H locs cells slots Q (F0 m pc ls st0) := by
  intro T hT X
  rcases hr T hT X with ⟨v, st₀, t, T', L, h0, X', hL, e1, e2, ⟨⟨r, u, hv, hp, hb⟩, hF⟩, st⟩ | ⟨q, st₀, t, T', L, E, ce, h0, X', hL, e1, e2, ⟨u, hp, hb, hF⟩, hce, hcv, hcl, st⟩
  · cases hv
    obtain ⟨k1, k2, k3⟩ := vx_keep h0 e1 hS hA hf hL hF
    obtain ⟨t2, a1, b1⟩ := kk r u t T'.heap (locs ++ L) e1.symm (by rw [← e2]; exact X'.warmed.alike) hp hb k1 k2 k3 T' rfl X'
    exact ⟨t2, st t2 a1, b1⟩
  · obtain ⟨k1, k2, k3⟩ := vx_keep h0 e1 hS hAX hf hL hF
    obtain ⟨t2, a1, b1⟩ := kx E ce q u t T'.heap (locs ++ L) e1.symm (by rw [← e2]; exact X'.warmed.alike) hp hb k1 k2 k3 (by rw [e1]; exact hce) hcv hcl T' rfl X'
    exact ⟨t2, st.trans a1, b1⟩
theorem vx_calll {S SX : Type} {post : Int64 → S → Prop} {px : SX → Prop} {B : S → State → Prop} {BX : String → SX → State → Prop} {AX : Nat → Prop} (hr : vx_Run p l e R s m args below meth c H locs cells slots mc ms (F0 m pc ls st0) rest (va_Ql post B A1 a) (vx_X px BX AX) free) (hS : va_S A0 H0 H locs) (hA : ∀ q, q < H.size → A1 q → A0 q) (hf : ∀ q, free q → A0 q) (hAX : ∀ q, q < H.size → AX q → A0 q)
    (kx : ∀ (E : String) (ce : Cell) (q9 : Addr) (u : SX) (t : State) (H1 : Heap) (locs1 : List Loc), t.heap = H1 → s.vm.Alike t.vm → px u → BX E u t → H.size ≤ H1.size → (∀ q : Nat, q < H.size → ¬ AX q → H1[q]? = H[q]?) → va_S A0 H0 H1 locs1 → H1[q9]? = some ce → ce.vm = .none → s.vm.findClass E = some ce.cls → vx_W p l e R s m args below meth c H1 locs1 (cells + mc) (slots + ms) Q (F0 m pc ls rest) q9)
    (kk : ∀ (r : Int64) (u : S) (t : State) (H1 : Heap) (locs1 : List Loc), t.heap = H1 → s.vm.Alike t.vm → post r u → B u t → H.size ≤ H1.size → (∀ q : Nat, q < H.size → ¬ A1 q → H1[q]? = H[q]?) → va_S A0 H0 H1 locs1 → W p l e R s m args below meth c H1 locs1 (cells + mc) (slots + ms) Q (F0 m (pc + 3) ls (.long r :: rest))) : W p l e R s m args below meth c H locs cells slots Q (F0 m pc ls st0) := by
  intro T hT X
  rcases hr T hT X with ⟨v, st₀, t, T', L, h0, X', hL, e1, e2, ⟨⟨r, u, hv, hp, hb⟩, hF⟩, st⟩ | ⟨q, st₀, t, T', L, E, ce, h0, X', hL, e1, e2, ⟨u, hp, hb, hF⟩, hce, hcv, hcl, st⟩
  · cases hv
    obtain ⟨k1, k2, k3⟩ := vx_keep h0 e1 hS hA hf hL hF
    obtain ⟨t2, a1, b1⟩ := kk r u t T'.heap (locs ++ L) e1.symm (by rw [← e2]; exact X'.warmed.alike) hp hb k1 k2 k3 T' rfl X'
    exact ⟨t2, st t2 a1, b1⟩
  · obtain ⟨k1, k2, k3⟩ := vx_keep h0 e1 hS hAX hf hL hF
    obtain ⟨t2, a1, b1⟩ := kx E ce q u t T'.heap (locs ++ L) e1.symm (by rw [← e2]; exact X'.warmed.alike) hp hb k1 k2 k3 (by rw [e1]; exact hce) hcv hcl T' rfl X'
    exact ⟨t2, st.trans a1, b1⟩
theorem vx_callf {S SX : Type} {post : UInt32 → S → Prop} {px : SX → Prop} {B : S → State → Prop} {BX : String → SX → State → Prop} {AX : Nat → Prop} (hr : vx_Run p l e R s m args below meth c H locs cells slots mc ms (F0 m pc ls st0) rest (va_Qf post B A1 a) (vx_X px BX AX) free) (hS : va_S A0 H0 H locs) (hA : ∀ q, q < H.size → A1 q → A0 q) (hf : ∀ q, free q → A0 q) (hAX : ∀ q, q < H.size → AX q → A0 q)
    (kx : ∀ (E : String) (ce : Cell) (q9 : Addr) (u : SX) (t : State) (H1 : Heap) (locs1 : List Loc), t.heap = H1 → s.vm.Alike t.vm → px u → BX E u t → H.size ≤ H1.size → (∀ q : Nat, q < H.size → ¬ AX q → H1[q]? = H[q]?) → va_S A0 H0 H1 locs1 → H1[q9]? = some ce → ce.vm = .none → s.vm.findClass E = some ce.cls → vx_W p l e R s m args below meth c H1 locs1 (cells + mc) (slots + ms) Q (F0 m pc ls rest) q9)
    (kk : ∀ (r : UInt32) (u : S) (t : State) (H1 : Heap) (locs1 : List Loc), t.heap = H1 → s.vm.Alike t.vm → post r u → B u t → H.size ≤ H1.size → (∀ q : Nat, q < H.size → ¬ A1 q → H1[q]? = H[q]?) → va_S A0 H0 H1 locs1 → W p l e R s m args below meth c H1 locs1 (cells + mc) (slots + ms) Q (F0 m (pc + 3) ls (.float r :: rest))) : W p l e R s m args below meth c H locs cells slots Q (F0 m pc ls st0) := by
  intro T hT X
  rcases hr T hT X with ⟨v, st₀, t, T', L, h0, X', hL, e1, e2, ⟨⟨r, u, hv, hp, hb⟩, hF⟩, st⟩ | ⟨q, st₀, t, T', L, E, ce, h0, X', hL, e1, e2, ⟨u, hp, hb, hF⟩, hce, hcv, hcl, st⟩
  · cases hv
    obtain ⟨k1, k2, k3⟩ := vx_keep h0 e1 hS hA hf hL hF
    obtain ⟨t2, a1, b1⟩ := kk r u t T'.heap (locs ++ L) e1.symm (by rw [← e2]; exact X'.warmed.alike) hp hb k1 k2 k3 T' rfl X'
    exact ⟨t2, st t2 a1, b1⟩
  · obtain ⟨k1, k2, k3⟩ := vx_keep h0 e1 hS hAX hf hL hF
    obtain ⟨t2, a1, b1⟩ := kx E ce q u t T'.heap (locs ++ L) e1.symm (by rw [← e2]; exact X'.warmed.alike) hp hb k1 k2 k3 (by rw [e1]; exact hce) hcv hcl T' rfl X'
    exact ⟨t2, st.trans a1, b1⟩
theorem vx_calld {S SX : Type} {post : UInt64 → S → Prop} {px : SX → Prop} {B : S → State → Prop} {BX : String → SX → State → Prop} {AX : Nat → Prop} (hr : vx_Run p l e R s m args below meth c H locs cells slots mc ms (F0 m pc ls st0) rest (va_Qd post B A1 a) (vx_X px BX AX) free) (hS : va_S A0 H0 H locs) (hA : ∀ q, q < H.size → A1 q → A0 q) (hf : ∀ q, free q → A0 q) (hAX : ∀ q, q < H.size → AX q → A0 q)
    (kx : ∀ (E : String) (ce : Cell) (q9 : Addr) (u : SX) (t : State) (H1 : Heap) (locs1 : List Loc), t.heap = H1 → s.vm.Alike t.vm → px u → BX E u t → H.size ≤ H1.size → (∀ q : Nat, q < H.size → ¬ AX q → H1[q]? = H[q]?) → va_S A0 H0 H1 locs1 → H1[q9]? = some ce → ce.vm = .none → s.vm.findClass E = some ce.cls → vx_W p l e R s m args below meth c H1 locs1 (cells + mc) (slots + ms) Q (F0 m pc ls rest) q9)
    (kk : ∀ (r : UInt64) (u : S) (t : State) (H1 : Heap) (locs1 : List Loc), t.heap = H1 → s.vm.Alike t.vm → post r u → B u t → H.size ≤ H1.size → (∀ q : Nat, q < H.size → ¬ A1 q → H1[q]? = H[q]?) → va_S A0 H0 H1 locs1 → W p l e R s m args below meth c H1 locs1 (cells + mc) (slots + ms) Q (F0 m (pc + 3) ls (.double r :: rest))) : W p l e R s m args below meth c H locs cells slots Q (F0 m pc ls st0) := by
  intro T hT X
  rcases hr T hT X with ⟨v, st₀, t, T', L, h0, X', hL, e1, e2, ⟨⟨r, u, hv, hp, hb⟩, hF⟩, st⟩ | ⟨q, st₀, t, T', L, E, ce, h0, X', hL, e1, e2, ⟨u, hp, hb, hF⟩, hce, hcv, hcl, st⟩
  · cases hv
    obtain ⟨k1, k2, k3⟩ := vx_keep h0 e1 hS hA hf hL hF
    obtain ⟨t2, a1, b1⟩ := kk r u t T'.heap (locs ++ L) e1.symm (by rw [← e2]; exact X'.warmed.alike) hp hb k1 k2 k3 T' rfl X'
    exact ⟨t2, st t2 a1, b1⟩
  · obtain ⟨k1, k2, k3⟩ := vx_keep h0 e1 hS hAX hf hL hF
    obtain ⟨t2, a1, b1⟩ := kx E ce q u t T'.heap (locs ++ L) e1.symm (by rw [← e2]; exact X'.warmed.alike) hp hb k1 k2 k3 (by rw [e1]; exact hce) hcv hcl T' rfl X'
    exact ⟨t2, st.trans a1, b1⟩
theorem vx_callv {S SX : Type} {post : S → Prop} {px : SX → Prop} {B : S → State → Prop} {BX : String → SX → State → Prop} {AX : Nat → Prop} (hr : vx_Run p l e R s m args below meth c H locs cells slots mc ms (F0 m pc ls st0) rest (va_Qv post B A1 a) (vx_X px BX AX) free) (hS : va_S A0 H0 H locs) (hA : ∀ q, q < H.size → A1 q → A0 q) (hf : ∀ q, free q → A0 q) (hAX : ∀ q, q < H.size → AX q → A0 q)
    (kx : ∀ (E : String) (ce : Cell) (q9 : Addr) (u : SX) (t : State) (H1 : Heap) (locs1 : List Loc), t.heap = H1 → s.vm.Alike t.vm → px u → BX E u t → H.size ≤ H1.size → (∀ q : Nat, q < H.size → ¬ AX q → H1[q]? = H[q]?) → va_S A0 H0 H1 locs1 → H1[q9]? = some ce → ce.vm = .none → s.vm.findClass E = some ce.cls → vx_W p l e R s m args below meth c H1 locs1 (cells + mc) (slots + ms) Q (F0 m pc ls rest) q9)
    (kk : ∀ (u : S) (t : State) (H1 : Heap) (locs1 : List Loc), t.heap = H1 → s.vm.Alike t.vm → post u → B u t → H.size ≤ H1.size → (∀ q : Nat, q < H.size → ¬ A1 q → H1[q]? = H[q]?) → va_S A0 H0 H1 locs1 → W p l e R s m args below meth c H1 locs1 (cells + mc) (slots + ms) Q (F0 m (pc + 3) ls (rest))) : W p l e R s m args below meth c H locs cells slots Q (F0 m pc ls st0) := by
  intro T hT X
  rcases hr T hT X with ⟨v, st₀, t, T', L, h0, X', hL, e1, e2, ⟨⟨u, hv, hp, hb⟩, hF⟩, st⟩ | ⟨q, st₀, t, T', L, E, ce, h0, X', hL, e1, e2, ⟨u, hp, hb, hF⟩, hce, hcv, hcl, st⟩
  · cases hv
    obtain ⟨k1, k2, k3⟩ := vx_keep h0 e1 hS hA hf hL hF
    obtain ⟨t2, a1, b1⟩ := kk u t T'.heap (locs ++ L) e1.symm (by rw [← e2]; exact X'.warmed.alike) hp hb k1 k2 k3 T' rfl X'
    exact ⟨t2, st t2 a1, b1⟩
  · obtain ⟨k1, k2, k3⟩ := vx_keep h0 e1 hS hAX hf hL hF
    obtain ⟨t2, a1, b1⟩ := kx E ce q u t T'.heap (locs ++ L) e1.symm (by rw [← e2]; exact X'.warmed.alike) hp hb k1 k2 k3 (by rw [e1]; exact hce) hcv hcl T' rfl X'
    exact ⟨t2, st.trans a1, b1⟩
/-- caught by the row x of this method's table; the rows ahead don't take it -/
theorem vx_catch {own name : String} {E : String} {ce : Cell} {q : Addr} (hown : s.vm.findClass own = some m.cls) (pre : List ExceptionTableEntry) (x : ExceptionTableEntry) (suf : List ExceptionTableEntry) (hsplit : c.exceptionTable.toList = pre ++ x :: suf)
    (hpass : ∀ z ∈ pre, covers z pc = false ∨ (z.catchType ≠ 0 ∧ ∃ nm : String, (Cond.classLink own z.catchType nm).before args s = true ∧ va_Nc E nm s)) (hx : covers x pc = true) (h0 : x.catchType ≠ 0)
    (hlink : (Cond.classLink own x.catchType name).before args s = true) (hcast : (Cond.castable E name).before args s = true) (hcell : H[q]? = some ce) (hv : ce.vm = .none) (hcl : s.vm.findClass E = some ce.cls)
    (kk : W p l e R s m args below meth c H locs cells slots Q (F0 m x.handlerPc ls [.ref q])) : vx_W p l e R s m args below meth c H locs cells slots Q (F0 m pc ls rest) q := by
  intro T hT X
  have hpl : e.platform.magicAccessors = ({} : Platform).magicAccessors := by rw [X.admits.platform]
  obtain ⟨c3, c4, hc3, hc4, hasg⟩ := Cond.castable_spec hcast
  cases Option.some.inj (hc3.symm.trans hcl)
  obtain ⟨c5, hc5, hcl5⟩ := Cond.classLink_spec hown hlink e.platform hpl
  cases Option.some.inj (hc4.symm.trans hc5)
  obtain ⟨vm', X', st⟩ := X.thenCaughtThrough q (g := F0 m pc ls rest) rfl (Steps.refl _) (by rw [hT]; exact hcell) (by rw [hv]; rfl) (by obtain ⟨k9, h9, -⟩ := Vm.findClass_spec hcl; exact ⟨k9, h9⟩) pre x suf hsplit
    (fun z hz => by
      rcases hpass z hz with h | ⟨hz0, nm, hl1, hn1⟩
      · exact Or.inl h
      · obtain ⟨c6, hc6, hcl6⟩ := Cond.classLink_spec hown hl1 e.platform hpl
        obtain ⟨a8, b8, h1, h2, h3⟩ := hn1
        cases Option.some.inj (h1.symm.trans hcl)
        cases Option.some.inj (h2.symm.trans hc6)
        exact Or.inr ⟨hz0, _, hcl6, h3⟩) hx (Or.inr ⟨h0, c4, hcl5, hasg⟩)
  obtain ⟨t, a1, b1⟩ := kk (T.setVm vm') hT X'
  exact ⟨t, st.trans a1, b1⟩
end Rows
section Ends
variable {p : Program} {l : Launch} {e : Env} {R : Room} {s : State} {m : MethodId} {args : Array Value} {below : List Frame} {meth : Method} {c : Code} {H : Heap} {locs : List Loc} {cells slots : Nat} {Q : State → Prop}
variable {mc ms : Nat} {free : Addr → Prop} {A0 A1 : Nat → Prop} {H0 : Heap} {a : Array Value} {ls : Array Slot} {st0 rest : List Value}
variable {Qc : Array Value → State → Outcome → State → Prop} {XC : String → State → State → Prop}
/-- what a body that may throw owes at its end -/
def vx_MQ (below : List Frame) (Qc : Array Value → State → Outcome → State → Prop) (XC : String → State → State → Prop) (a : Array Value) (s : State) (mc ms : Nat) (free : Addr → Prop) : State → Prop := fun t =>
  ∃ o, t.status = .running ∧ Ended t below o ∧ vx_Q Qc XC mc ms free a s o t
theorem vx_ret {g : JFrame} {mc ms : Nat} (k : W p l e R s m args below meth c H locs cells slots (MQ below Qc args s mc ms free) g) : W p l e R s m args below meth c H locs cells slots (vx_MQ below Qc XC args s mc ms free) g := by
  intro T hT X
  obtain ⟨t, a1, o, b1, b2, b3, b4⟩ := k T hT X
  exact ⟨t, a1, o, b1, b2, Or.inl ⟨b3, b4⟩⟩
/-- not caught here: it goes on to the caller -/
theorem vx_widen {g : JFrame} {q : Addr} {k n : Nat} (h1 : cells ≤ k) (h2 : slots ≤ n) (kk : vx_W p l e R s m args below meth c H locs k n Q g q) : vx_W p l e R s m args below meth c H locs cells slots Q g q := fun T hT X => kk T hT (stand_widen X h1 h2)
theorem vx_out {pc : Nat} {E : String} {ce : Cell} {q : Addr} {mc ms : Nat} (hout : ∀ x ∈ c.exceptionTable.toList, covers x pc = false) (hlocks : meth.locks = false) (hcell : H[q]? = some ce) (hv : ce.vm = .none) (hcl : s.vm.findClass E = some ce.cls)
    (hx : ∀ t : State, t.heap = H → s.vm.Alike t.vm → XC E s t) (hf : ∀ z ∈ locs, free z.base) (hc : cells ≤ mc) (hs : slots ≤ ms) :
    vx_W p l e R s m args below meth c H locs cells slots (vx_MQ below Qc XC args s mc ms free) (F0 m pc ls rest) q := by
  intro T hT X
  obtain ⟨st1, hrun, hend, hW, hsm⟩ := X.leaveThrown q (g := F0 m pc ls rest) rfl rfl rfl hout hlocks
  have hcell9 : (T.setFrames (.throwing q :: below)).heap[q]? = some ce := by
    show T.heap[q]? = some ce
    rw [hT]; exact hcell
  exact ⟨_, st1, .threw q, hrun, hend, Or.inr ⟨q, rfl, E, ce, locs, hx _ hT hW.alike, hcell9, hv, hcl, hW, hsm.mono hc hs, hf⟩⟩
theorem vx_frame {U : State} {k n : Nat} (h : s.sameButNew ({ U with vm := s.vm } : State) locs k n) : s.heap.size ≤ U.heap.size ∧ ∀ q : Nat, q < s.heap.size → (∀ z ∈ locs, z.base ≠ q) → U.heap[q]? = s.heap[q]? := by
  obtain ⟨-, h2, -, -, -, h6⟩ := h
  refine ⟨h2, fun q hq hz => ?_⟩
  obtain ⟨c9, e1, e2, e3, e4⟩ := h6 q _ (Array.getElem?_eq_getElem hq)
  have hs : c9.slots = (s.heap[q]).slots := Array.ext_getElem? fun i => e4 i fun hm => hz _ hm rfl
  have h9 : c9 = s.heap[q] := by
    rw [hs] at e2
    exact e2
  have e5 : U.heap[q]? = some c9 := e1
  rw [e5, h9, Array.getElem?_eq_getElem hq]
/-- the words of a throw but the four that speak of the heap -/
def vx_no (w : Cond) : Bool := decide (w ≠ .isRef (.static Bundle.tN "UNASSIGNED_STACK" Bundle.steD)) && decide (w ≠ .isRef (.static Bundle.tN "SUPPRESSED_SENTINEL" Bundle.listD)) && decide (w ≠ .laysStatic Bundle.tN "UNASSIGNED_STACK" Bundle.steD) && decide (w ≠ .laysStatic Bundle.tN "SUPPRESSED_SENTINEL" Bundle.listD)
def vx_at0 (own : String) (ic : Nat) (X : String) (names : List String) : List Cond := (Bundle.ownAtoms0 own ic X names).filter vx_no
def vx_atS (own : String) (ic : Nat) (X : String) (names : List String) : List Cond := (Bundle.ownAtoms own ic X names).filter vx_no
/-- a word that the tables alone decide, or a good one -/
def vx_ot (w : Cond) : Bool := w.onTables || goodWord w
theorem vx_ot_at {args a' : Array Value} {s U : State} {w : Cond} (hW : s.WarmedH U.vm) (hvm : s.vm = U.vm) (hg : vx_ot w = true) (h : w.before args s = true) : w.before a' U = true := by
  simp only [vx_ot, Bool.or_eq_true] at hg
  rcases hg with hg | hg
  · exact va_tabs hg hvm h
  · exact word_at hW (good_of_word hg) h
/-- a list's words: the good ones out of the method's own list, the others by premises of their own -/
theorem vx_hat {args : Array Value} {s : State} {L B : List Cond} (h1 : ∀ w ∈ L.filter goodWord, w.before args s = true) (h2 : ∀ w ∈ L.filter (fun w => !goodWord w), w ∈ B) (h3 : ∀ w ∈ B, w.before args s = true) : ∀ w ∈ L, w.before args s = true := by
  intro w hw
  by_cases g : goodWord w = true
  · exact h1 w (List.mem_filter.mpr ⟨hw, g⟩)
  · refine h3 w (h2 w (List.mem_filter.mpr ⟨hw, ?_⟩))
    show (!goodWord w) = true
    cases hgw : goodWord w
    · rfl
    · exact absurd hgw g
theorem vx_c {args : Array Value} {s : State} {w : Cond} {B : List Cond} (h : w.before args s = true) (t : ∀ w ∈ B, w.before args s = true) : ∀ w' ∈ w :: B, w'.before args s = true := fun w' h' => (List.mem_cons.mp h').elim (fun e => by rw [e]; exact h) (t w')
theorem vx_n {args : Array Value} {s : State} : ∀ w ∈ ([] : List Cond), w.before args s = true := fun _ h => nomatch h
theorem vx_own {args : Array Value} {s : State} {L : List Cond} (h1 : ∀ w ∈ L.filter vx_no, w.before args s = true)
    (hU : (Cond.isRef (.static Bundle.tN "UNASSIGNED_STACK" Bundle.steD)).before args s = true) (hN : (Cond.isRef (.static Bundle.tN "SUPPRESSED_SENTINEL" Bundle.listD)).before args s = true)
    (lU : (Cond.laysStatic Bundle.tN "UNASSIGNED_STACK" Bundle.steD).before args s = true) (lN : (Cond.laysStatic Bundle.tN "SUPPRESSED_SENTINEL" Bundle.listD).before args s = true) : ∀ w ∈ L, w.before args s = true := by
  intro w hw
  by_cases e1 : w = .isRef (.static Bundle.tN "UNASSIGNED_STACK" Bundle.steD)
  · rw [e1]; exact hU
  · by_cases e2 : w = .isRef (.static Bundle.tN "SUPPRESSED_SENTINEL" Bundle.listD)
    · rw [e2]; exact hN
    · by_cases e3 : w = .laysStatic Bundle.tN "UNASSIGNED_STACK" Bundle.steD
      · rw [e3]; exact lU
      · by_cases e4 : w = .laysStatic Bundle.tN "SUPPRESSED_SENTINEL" Bundle.listD
        · rw [e4]; exact lN
        · exact h1 w (List.mem_filter.mpr ⟨hw, by unfold vx_no; rw [decide_eq_true e1, decide_eq_true e2, decide_eq_true e3, decide_eq_true e4]; rfl⟩)
/-- where a static field lies, its class's statics cell in H -/
def vx_L (C n d : String) (A : Nat → Prop) (U : State) (H : Heap) : Prop := ∃ (c : ClassId) (k : Class) (i : Nat) (f : Field) (a : Nat) (cell : Cell), U.vm.findClass C = some c ∧ U.fieldFound? C n d = some (c, k, i, f) ∧ f.isStatic = true ∧ k.statics = some a ∧ H[a]? = some cell ∧ cell.vm.isStatics = true ∧ cell.cls = c ∧ f.slot < cell.slots.size ∧ k.staticTypes[f.slot]? = some f.type ∧ ¬ A a
theorem vx_L.moved {C n d : String} {A : Nat → Prop} {u U : State} {H : Heap} (hvm : u.vm.Alike U.vm) (h : vx_L C n d A u H) : vx_L C n d A U H := by
  obtain ⟨c, k, i, f, a, cell, h1, h2, h3, h4, h5, h6, h7, h8, h9, h10⟩ := h
  obtain ⟨k', hi', he⟩ := State.fieldFound?_setVm hvm h2
  exact ⟨c, k', i, f, a, cell, by rw [hvm.findClass]; exact h1, hi', h3, by rw [he]; exact h4, h5, h6, h7, h8, by rw [he]; exact h9, h10⟩
theorem vx_L.kept {C n d : String} {A : Nat → Prop} {U : State} {H H1 : Heap} (h : vx_L C n d A U H) (hq : ∀ a : Nat, a < H.size → ¬ A a → H1[a]? = H[a]?) : vx_L C n d A U H1 := by
  obtain ⟨c, k, i, f, a, cell, h1, h2, h3, h4, h5, h6, h7, h8, h9, h10⟩ := h
  exact ⟨c, k, i, f, a, cell, h1, h2, h3, h4, by rw [hq a (Array.getElem?_eq_some_iff.mp h5).1 h10]; exact h5, h6, h7, h8, h9, h10⟩
theorem vx_L.narrow {C n d : String} {A B : Nat → Prop} {U : State} {H : Heap} (h : vx_L C n d A U H) (hAB : ∀ q, B q → A q) : vx_L C n d B U H := by
  obtain ⟨c, k, i, f, a, cell, h1, h2, h3, h4, h5, h6, h7, h8, h9, h10⟩ := h
  exact ⟨c, k, i, f, a, cell, h1, h2, h3, h4, h5, h6, h7, h8, h9, fun z => h10 (hAB _ z)⟩
theorem vx_L.word {C n d : String} {A : Nat → Prop} {s : State} {args : Array Value} (h : vx_L C n d A s s.heap) : (Cond.laysStatic C n d).before args s = true := by
  obtain ⟨c, k, i, f, a, cell, h1, h2, h3, h4, h5, h6, h7, h8, h9, -⟩ := h
  show (Cond.laysStatic C n d).holds args s none s [] = true
  exact Cond.laysStatic_of h1 h2 h3 h4 h5 h6 h7 h8 h9
/-- .. and what it holds: null or some reference -/
def vx_Zq (C n d : String) (A : Nat → Prop) (U : State) (H : Heap) : Prop := va_Zq C n d A U H ∧ vx_L C n d A U H
theorem vx_Zq.moved {C n d : String} {A : Nat → Prop} {u U : State} {H : Heap} (hvm : u.vm.Alike U.vm) (h : vx_Zq C n d A u H) : vx_Zq C n d A U H := ⟨va_Zq.moved hvm h.1, vx_L.moved hvm h.2⟩
theorem vx_Zq.kept {C n d : String} {A : Nat → Prop} {U : State} {H H1 : Heap} (h : vx_Zq C n d A U H) (hq : ∀ a : Nat, a < H.size → ¬ A a → H1[a]? = H[a]?) : vx_Zq C n d A U H1 := ⟨va_Zq.kept h.1 hq, vx_L.kept h.2 hq⟩
theorem vx_Zq.narrow {C n d : String} {A B : Nat → Prop} {U : State} {H : Heap} (h : vx_Zq C n d A U H) (hAB : ∀ q, B q → A q) : vx_Zq C n d B U H := ⟨va_Zq.narrow h.1 hAB, vx_L.narrow h.2 hAB⟩
theorem vx_Zqof {args : Array Value} {s : State} {C n d : String} {A : Nat → Prop} (hl : (Cond.laysStatic C n d).before args s = true) (hini : (Cond.initialized C).before args s = true) (h : (Cond.isRef (.static C n d)).before args s = true) (hA : ∀ a : Nat, a < s.heap.size → ¬ A a) : vx_Zq C n d A s s.heap := by
  refine ⟨va_Zqof hl hini h hA, ?_⟩
  obtain ⟨c, k, i, f, a, cell, h1, h2, h3, h4, h5, h6, h7, h8, h9⟩ := Cond.laysStatic_spec hl
  exact ⟨c, k, i, f, a, cell, h1, h2, h3, h4, h5, h6, h7, h8, h9, hA a (Array.getElem?_eq_some_iff.mp h5).1⟩
theorem vx_isRef {C n d : String} {v : Value} {A : Nat → Prop} {s : State} {args : Array Value} (h : va_Z C n d v A s s.heap) (hv : v.isRef = true) : (Cond.isRef (.static C n d)).before args s = true := by
  obtain ⟨cf, kf, fi, f, a, cell, h1, h2, h3, h4, h5, h6, h7, -⟩ := h
  have he : (Term.static C n d).eval args s none [] s = some v := by
    simp [Term.eval, State.fieldNamed?, h1, h2, h4, h5, h6, h7]
  simp only [Cond.before, Cond.holds, Cond.value, he]
  cases v <;> simp_all [Value.isRef]
theorem vx_isRefq {C n d : String} {A : Nat → Prop} {s : State} {args : Array Value} (h : va_Zq C n d A s s.heap) : (Cond.isRef (.static C n d)).before args s = true := by
  rcases h with h | ⟨t, h⟩
  · exact vx_isRef h rfl
  · exact vx_isRef h rfl
/-- the same frame, seen from here: as if the method were called anew in this heap -/
theorem vx_rebase {T : State} (X : Stand p l e R s m args below meth c T locs cells slots) {R' : Room} (hf : R'.frames ≤ R.frames) (hl : R'.locals ≤ R.locals) (hc : cells + R'.cells ≤ R.cells) (hs : slots + R'.slots ≤ R.slots) :
    Stand p l e R' ((T.setVm s.vm).setFrames (.invoking m args :: below)) m args below meth c T [] 0 0 := by
  have htop : (T.setVm s.vm).topJava?.isSome := X.here.top
  have hF : ((T.setVm s.vm).setFrames (.invoking m args :: below)).frames = .invoking m args :: below := State.frames_setFrames _ (State.cur_lt_of_top htop)
  obtain ⟨g₀, hg0⟩ := Option.isSome_iff_exists.mp htop
  obtain ⟨r, hr⟩ := State.topJava?_eq_some.mp hg0
  have hl9 : e.platform.stackLimits (T.setVm s.vm).me = e.platform.stackLimits s.me := X.limits
  have hb9 : (T.setVm s.vm).me.stackBytes = s.me.stackBytes := X.bytes
  refine ⟨X.admits, X.cas, X.clock, hF, ?_, X.hears, X.method, X.code, X.here, X.tail, X.warmed, ?_, ?_, ?_⟩
  · have h := X.room
    have hU : ((T.setVm s.vm).setFrames (.invoking m args :: below)).localsInUse = s.localsInUse := by
      rw [State.localsInUse_invoking hF (meth := meth) (c := c) X.method X.code, State.localsInUse_invoking X.frames X.method X.code]
    simp only [State.hasRoom, Bool.and_eq_true, decide_eq_true_eq] at h ⊢
    obtain ⟨⟨⟨⟨h1, h2, h3, h4, h5, h6⟩, h7⟩, h8⟩, h9⟩ := h
    rw [X.frames, List.length_cons] at h2 h3
    have q1 := X.heapSize
    have q2 := X.used
    simp only [hF, hU, List.length_cons, State.stackLimits_setFrames, State.stackBytes_setFrames, hl9, hb9]
    refine ⟨⟨⟨⟨by omega, by omega, by omega, by omega, by omega, h6⟩, ?_⟩, ?_⟩, X.book⟩
    · show T.heap.size + R'.cells ≤ e.platform.maxCells
      omega
    · show T.slotsUsed + R'.slots ≤ e.platform.maxSlots
      omega
  · rw [State.stackLimits_setFrames]; rfl
  · rw [State.stackBytes_setFrames]; rfl
  · refine ⟨?_, Nat.le_refl _, Nat.le_refl _, ?_, ?_, fun a c9 h9 => ⟨c9, h9, rfl, rfl, fun _ _ => rfl⟩⟩
    · obtain ⟨t, ht, -⟩ := State.frames_cons hr
      show T.setVm s.vm = { ((T.setVm s.vm).setFrames (.invoking m args :: below)).setFrames (T.setVm s.vm).frames with heap := T.heap, slotsUsed := T.slotsUsed }
      rw [State.setFrames_setFrames, State.setFrames_self ht]
      rfl
    · show T.slotsUsed = T.slotsUsed + ((T.heap.toList.drop T.heap.size).map (·.slots.size)).sum
      rw [List.drop_eq_nil_of_le (Nat.le_of_eq Array.length_toList)]
      rfl
    · show ((T.heap.toList.drop T.heap.size).map (·.slots.size)).sum ≤ 0
      rw [List.drop_eq_nil_of_le (Nat.le_of_eq Array.length_toList)]
      exact Nat.le_refl _
/-- 'throw new E()': new; dup; invokespecial; athrow -/
theorem vx_throw0 {cc : ByteArray} {pc : Nat} (hexec : p.tables.exec = Jvm.exec) (hb : c.code = cc) (hl : l.stackTraces = false) {own cls : String} {names : List String} {ik ic mc ms : Nat} {A : Nat → Prop}
    (hown : s.vm.findClass own = some m.cls) (hcls : Bundle.fit cls = true) (hnames : ∀ n ∈ names, Bundle.fit n = true)
    (hk : (Cond.classLink own ik cls).before args s = true) (hini : (Cond.initialized cls).before args s = true) (hat : ∀ w ∈ vx_at0 own ic cls names, w.before args s = true)
    (hgood : ∀ w ∈ Cond.classLink own ik cls :: Cond.initialized cls :: vx_at0 own ic cls names, vx_ot w = true)
    (hU : vx_Zq Bundle.tN "UNASSIGNED_STACK" Bundle.steD A s s.heap) (hN : vx_Zq Bundle.tN "SUPPRESSED_SENTINEL" Bundle.listD A s s.heap) (hS : va_S A s.heap H locs) (hsize : ls.size = c.maxLocals)
    (d0 : decode cc pc = .ok (.new ik, 3)) (d3 : decode cc (pc + 3) = .ok (.dup, 1)) (d4 : decode cc (pc + 4) = .ok (.invokespecial ic, 3)) (d7 : decode cc (pc + 7) = .ok (.athrow, 1))
    (hout : ∀ x ∈ c.exceptionTable.toList, covers x (pc + 7) = false)
    (hRframes : names.length + 3 < R.frames) (hRlocals : (rest.map fun v => v.category).sum + (13 * (names.length + 1) + 42) ≤ R.locals) (hRcells : cells + 1 ≤ R.cells) (hRslots : slots + 6 ≤ R.slots) (hlocks : meth.locks = false)
    (hx : ∀ t : State, s.vm.Alike t.vm → H.size ≤ t.heap.size → (∀ q : Nat, q < H.size → t.heap[q]? = H[q]?) → XC cls s t)
    (hf : ∀ z ∈ locs, free z.base) (hc : cells + 1 ≤ mc) (hs : slots + 6 ≤ ms) :
    W p l e R s m args below meth c H locs cells slots (vx_MQ below Qc XC args s mc ms free) (F0 m pc ls rest) := by
  intro T hT X
  have htr : e.platform.stackTraces = false := (show e.platform.stackTraces = l.stackTraces by rw [X.admits.platform]).trans hl
  have Y := vx_rebase X (R' := { frames := R.frames, locals := R.locals, cells := 1, slots := 6 }) (Nat.le_refl _) (Nat.le_refl _) hRcells hRslots
  obtain ⟨s', hA⟩ : ∃ z, z = (T.setVm s.vm).setFrames (.invoking m args :: below) := ⟨_, rfl⟩
  rw [← hA] at Y
  have hvm : s'.vm = s.vm := by rw [hA]; rfl
  have hhp : s'.heap = H := by rw [hA]; exact hT
  have hW0 : s.WarmedH s'.vm := by rw [hvm]; exact State.WarmedH.refl s
  have hat' : ∀ w ∈ vx_at0 own ic cls names, w.before args s' = true := fun w hw => vx_ot_at hW0 hvm.symm (hgood w (List.mem_cons_of_mem _ (List.mem_cons_of_mem _ hw))) (hat w hw)
  have hk' : (Cond.classLink own ik cls).before args s' = true := vx_ot_at hW0 hvm.symm (hgood _ List.mem_cons_self) hk
  have hini' : (Cond.initialized cls).before args s' = true := vx_ot_at hW0 hvm.symm (hgood _ (List.mem_cons_of_mem _ List.mem_cons_self)) hini
  have hU' : vx_Zq Bundle.tN "UNASSIGNED_STACK" Bundle.steD A s' s'.heap := by rw [hhp]; exact vx_Zq.moved hW0.alike (hU.kept hS.2.1)
  have hN' : vx_Zq Bundle.tN "SUPPRESSED_SENTINEL" Bundle.listD A s' s'.heap := by rw [hhp]; exact vx_Zq.moved hW0.alike (hN.kept hS.2.1)
  have h : ∀ w ∈ Bundle.ownAtoms0 own ic cls names, w.before args s' = true := vx_own hat' (vx_isRefq hU'.1) (vx_isRefq hN'.1) hU'.2.word hN'.2.word
  have hown' : s'.vm.findClass own = some m.cls := by rw [hvm]; exact hown
  have hins : (Cond.instantiable cls 6).before args s' = true := h _ (by simp [Bundle.ownAtoms0])
  obtain ⟨vm₁, cX, kX, hfX, hkX, -, -, X₁, st1⟩ := Y.newCold hexec (own := own) (C := cls) (index := ik) (n := 6) hown' hk' hins hini'
    (g := F0 m pc ls rest) rfl (by rw [hb]; exact d0) (Nat.le_refl _) (Nat.le_refl _)
  generalize hT1 : (T.setVm vm₁).pushCell { cls := cX, slots := kX.instanceTypes.map defaultValue, vm := .none } = T1 at X₁ st1
  have hcat : (Value.ref T.heap.size).category = 1 := rfl
  have hcellA : T1.heap[T.heap.size]? = some (freshCell cX kX) := by rw [← hT1]; exact State.heap_pushCell_size _ _
  have d3' : decode c.code (pc + 3) = .ok (.dup, 1) := by rw [hb]; exact d3
  obtain ⟨U, hsteps, hrun, hend, hW, hsame, ce, hce, hO⟩ := X₁.ctorThrow0 hexec htr (own := own) (cls := cls) (names := names) (ic := ic) hown' hcls hnames h (fun x hx => nomatch hx) hfX hkX hcellA (by rw [hhp, hT]; exact Nat.le_refl _)
    (g := { method := m, pc := pc + 4, locals := ls, stack := .ref T.heap.size :: .ref T.heap.size :: rest, locked := none }) rfl hsize rfl rfl (rest := rest) rfl
    (by rw [hb]; exact d4) (by rw [hb]; exact d7) hout hRframes (by simp only [List.map_cons, List.sum_cons, hcat]; omega) hlocks
  obtain ⟨f1, f2⟩ := vx_frame hsame
  rw [hhp] at f1 f2
  have hWs : s.WarmedH U.vm := State.WarmedH.trans hW0 hW
  have hcl : s.vm.findClass cls = some ce.cls := by
    have h9 := hO.cls
    rw [hvm] at h9
    exact h9
  have hall : s.sameButNew ({ U with vm := s.vm } : State) locs mc ms := by
    subst hA
    obtain ⟨e1, e2⟩ := hsame
    rw [State.setFrames_setFrames] at e1
    have h2 : (T.setVm s.vm).sameButNew ({ U with vm := s.vm } : State) [] (0 + 1) (0 + 6) := ⟨e1, e2⟩
    have h3 := X.same.trans h2
    rw [List.append_nil] at h3
    exact h3.mono hc hs
  refine ⟨U, ?_, .threw T.heap.size, hrun, hend, Or.inr ⟨T.heap.size, rfl, cls, ce, locs, hx U hWs.alike f1 (fun q hq => f2 q hq (fun z hz => nomatch hz)), hce, hO.vm, hcl, hWs, hall, hf⟩⟩
  refine st1 _ ?_
  show Steps p.tables e below (T1.setTop { method := m, pc := pc + 3, locals := ls, stack := .ref T.heap.size :: rest, locked := none }) _
  jvm_step X₁.here [X₁.here.top, hexec, d3', Value.category]
  exact hsteps
/-- 'throw new E("text")': new; dup; ldc; invokespecial; athrow -/
theorem vx_throwS {cc : ByteArray} {pc : Nat} (hexec : p.tables.exec = Jvm.exec) (hb : c.code = cc) (hl : l.stackTraces = false) {own cls text : String} {names : List String} {ik is ic mc ms sa : Nat} {A : Nat → Prop}
    (hown : s.vm.findClass own = some m.cls) (hcls : Bundle.fit cls = true) (hnames : ∀ n ∈ names, Bundle.fit n = true)
    (hk : (Cond.classLink own ik cls).before args s = true) (hini : (Cond.initialized cls).before args s = true) (hstr : vk_R own is text sa s) (hat : ∀ w ∈ vx_atS own ic cls names, w.before args s = true)
    (hgood : ∀ w ∈ Cond.classLink own ik cls :: Cond.initialized cls :: vx_atS own ic cls names, vx_ot w = true)
    (hU : vx_Zq Bundle.tN "UNASSIGNED_STACK" Bundle.steD A s s.heap) (hN : vx_Zq Bundle.tN "SUPPRESSED_SENTINEL" Bundle.listD A s s.heap) (hS : va_S A s.heap H locs) (hsize : ls.size = c.maxLocals)
    (d0 : decode cc pc = .ok (.new ik, 3)) (d3 : decode cc (pc + 3) = .ok (.dup, 1)) (d4 : decode cc (pc + 4) = .ok (.ldc is, 2)) (d6 : decode cc (pc + 6) = .ok (.invokespecial ic, 3)) (d9 : decode cc (pc + 9) = .ok (.athrow, 1))
    (hout : ∀ x ∈ c.exceptionTable.toList, covers x (pc + 9) = false)
    (hRframes : names.length + 3 < R.frames) (hRlocals : (rest.map fun v => v.category).sum + (13 * (names.length + 1) + 43) ≤ R.locals) (hRcells : cells + 1 ≤ R.cells) (hRslots : slots + 6 ≤ R.slots) (hlocks : meth.locks = false)
    (hx : ∀ t : State, s.vm.Alike t.vm → H.size ≤ t.heap.size → (∀ q : Nat, q < H.size → t.heap[q]? = H[q]?) → XC cls s t)
    (hf : ∀ z ∈ locs, free z.base) (hc : cells + 1 ≤ mc) (hs : slots + 6 ≤ ms) :
    W p l e R s m args below meth c H locs cells slots (vx_MQ below Qc XC args s mc ms free) (F0 m pc ls rest) := by
  intro T hT X
  have htr : e.platform.stackTraces = false := (show e.platform.stackTraces = l.stackTraces by rw [X.admits.platform]).trans hl
  have Y := vx_rebase X (R' := { frames := R.frames, locals := R.locals, cells := 1, slots := 6 }) (Nat.le_refl _) (Nat.le_refl _) hRcells hRslots
  obtain ⟨s', hA⟩ : ∃ z, z = (T.setVm s.vm).setFrames (.invoking m args :: below) := ⟨_, rfl⟩
  rw [← hA] at Y
  have hvm : s'.vm = s.vm := by rw [hA]; rfl
  have hhp : s'.heap = H := by rw [hA]; exact hT
  have hW0 : s.WarmedH s'.vm := by rw [hvm]; exact State.WarmedH.refl s
  have hat' : ∀ w ∈ vx_atS own ic cls names, w.before args s' = true := fun w hw => vx_ot_at hW0 hvm.symm (hgood w (List.mem_cons_of_mem _ (List.mem_cons_of_mem _ hw))) (hat w hw)
  have hk' : (Cond.classLink own ik cls).before args s' = true := vx_ot_at hW0 hvm.symm (hgood _ List.mem_cons_self) hk
  have hini' : (Cond.initialized cls).before args s' = true := vx_ot_at hW0 hvm.symm (hgood _ (List.mem_cons_of_mem _ List.mem_cons_self)) hini
  have hU' : vx_Zq Bundle.tN "UNASSIGNED_STACK" Bundle.steD A s' s'.heap := by rw [hhp]; exact vx_Zq.moved hW0.alike (hU.kept hS.2.1)
  have hN' : vx_Zq Bundle.tN "SUPPRESSED_SENTINEL" Bundle.listD A s' s'.heap := by rw [hhp]; exact vx_Zq.moved hW0.alike (hN.kept hS.2.1)
  have h : ∀ w ∈ Bundle.ownAtoms own ic cls names, w.before args s' = true := vx_own hat' (vx_isRefq hU'.1) (vx_isRefq hN'.1) hU'.2.word hN'.2.word
  have hown' : s'.vm.findClass own = some m.cls := by rw [hvm]; exact hown
  have hins : (Cond.instantiable cls 6).before args s' = true := h _ (by simp [Bundle.ownAtoms])
  obtain ⟨vm₁, cX, kX, hfX, hkX, -, -, X₁, st1⟩ := Y.newCold hexec (own := own) (C := cls) (index := ik) (n := 6) hown' hk' hins hini'
    (g := F0 m pc ls rest) rfl (by rw [hb]; exact d0) (Nat.le_refl _) (Nat.le_refl _)
  generalize hT1 : (T.setVm vm₁).pushCell { cls := cX, slots := kX.instanceTypes.map defaultValue, vm := .none } = T1 at X₁ st1
  have hcat : (Value.ref T.heap.size).category = 1 := rfl
  have hcellA : T1.heap[T.heap.size]? = some (freshCell cX kX) := by rw [← hT1]; exact State.heap_pushCell_size _ _
  have d3' : decode c.code (pc + 3) = .ok (.dup, 1) := by rw [hb]; exact d3
  have d4' : decode c.code (pc + 4) = .ok (.ldc is, 2) := by rw [hb]; exact d4
  have hstr' : vk_R own is text sa s' := vk_R.warm hW0 hstr
  obtain ⟨U, hsteps, hrun, hend, hW, hsame, ce, hce, hO⟩ := X₁.ctorThrowS hexec htr (own := own) (cls := cls) (names := names) (ic := ic) hown' hcls hnames h (fun x hx => nomatch hx) hfX hkX hcellA (by rw [hhp, hT]; exact Nat.le_refl _) (msg := .ref sa) rfl
    (g := { method := m, pc := pc + 6, locals := ls, stack := .ref sa :: .ref T.heap.size :: .ref T.heap.size :: rest, locked := none }) rfl hsize rfl rfl (rest := rest) rfl
    (by rw [hb]; exact d6) (by rw [hb]; exact d9) hout hRframes (by simp only [List.map_cons, List.sum_cons, hcat]; omega) hlocks
  obtain ⟨f1, f2⟩ := vx_frame hsame
  rw [hhp] at f1 f2
  have hWs : s.WarmedH U.vm := State.WarmedH.trans hW0 hW
  have hcl : s.vm.findClass cls = some ce.cls := by
    have h9 := hO.cls
    rw [hvm] at h9
    exact h9
  have hall : s.sameButNew ({ U with vm := s.vm } : State) locs mc ms := by
    subst hA
    obtain ⟨e1, e2⟩ := hsame
    rw [State.setFrames_setFrames] at e1
    have h2 : (T.setVm s.vm).sameButNew ({ U with vm := s.vm } : State) [] (0 + 1) (0 + 6) := ⟨e1, e2⟩
    have h3 := X.same.trans h2
    rw [List.append_nil] at h3
    exact h3.mono hc hs
  refine ⟨U, ?_, .threw T.heap.size, hrun, hend, Or.inr ⟨T.heap.size, rfl, cls, ce, locs, hx U hWs.alike f1 (fun q hq => f2 q hq (fun z hz => nomatch hz)), hce, hO.vm, hcl, hWs, hall, hf⟩⟩
  refine st1 _ ?_
  show Steps p.tables e below (T1.setTop { method := m, pc := pc + 3, locals := ls, stack := .ref T.heap.size :: rest, locked := none }) _
  jvm_step X₁.here [X₁.here.top, hexec, d3', Value.category]
  exact X₁.ldcString hexec (own := own) (text := text) (index := is) (a := sa) hown' hstr'.1 hstr'.2
    (g := { method := m, pc := pc + 4, locals := ls, stack := .ref T.heap.size :: .ref T.heap.size :: rest, locked := none }) rfl d4' _ hsteps
/-- 'throw new E("text")', the text by a wide index -/
theorem vx_throwSW {cc : ByteArray} {pc : Nat} (hexec : p.tables.exec = Jvm.exec) (hb : c.code = cc) (hl : l.stackTraces = false) {own cls text : String} {names : List String} {ik is ic mc ms sa : Nat} {A : Nat → Prop}
    (hown : s.vm.findClass own = some m.cls) (hcls : Bundle.fit cls = true) (hnames : ∀ n ∈ names, Bundle.fit n = true)
    (hk : (Cond.classLink own ik cls).before args s = true) (hini : (Cond.initialized cls).before args s = true) (hstr : vk_R own is text sa s) (hat : ∀ w ∈ vx_atS own ic cls names, w.before args s = true)
    (hgood : ∀ w ∈ Cond.classLink own ik cls :: Cond.initialized cls :: vx_atS own ic cls names, vx_ot w = true)
    (hU : vx_Zq Bundle.tN "UNASSIGNED_STACK" Bundle.steD A s s.heap) (hN : vx_Zq Bundle.tN "SUPPRESSED_SENTINEL" Bundle.listD A s s.heap) (hS : va_S A s.heap H locs) (hsize : ls.size = c.maxLocals)
    (d0 : decode cc pc = .ok (.new ik, 3)) (d3 : decode cc (pc + 3) = .ok (.dup, 1)) (d4 : decode cc (pc + 4) = .ok (.ldc_w is, 3)) (d7 : decode cc (pc + 7) = .ok (.invokespecial ic, 3)) (d10 : decode cc (pc + 10) = .ok (.athrow, 1))
    (hout : ∀ x ∈ c.exceptionTable.toList, covers x (pc + 10) = false)
    (hRframes : names.length + 3 < R.frames) (hRlocals : (rest.map fun v => v.category).sum + (13 * (names.length + 1) + 43) ≤ R.locals) (hRcells : cells + 1 ≤ R.cells) (hRslots : slots + 6 ≤ R.slots) (hlocks : meth.locks = false)
    (hx : ∀ t : State, s.vm.Alike t.vm → H.size ≤ t.heap.size → (∀ q : Nat, q < H.size → t.heap[q]? = H[q]?) → XC cls s t)
    (hf : ∀ z ∈ locs, free z.base) (hc : cells + 1 ≤ mc) (hs : slots + 6 ≤ ms) :
    W p l e R s m args below meth c H locs cells slots (vx_MQ below Qc XC args s mc ms free) (F0 m pc ls rest) := by
  intro T hT X
  have htr : e.platform.stackTraces = false := (show e.platform.stackTraces = l.stackTraces by rw [X.admits.platform]).trans hl
  have Y := vx_rebase X (R' := { frames := R.frames, locals := R.locals, cells := 1, slots := 6 }) (Nat.le_refl _) (Nat.le_refl _) hRcells hRslots
  obtain ⟨s', hA⟩ : ∃ z, z = (T.setVm s.vm).setFrames (.invoking m args :: below) := ⟨_, rfl⟩
  rw [← hA] at Y
  have hvm : s'.vm = s.vm := by rw [hA]; rfl
  have hhp : s'.heap = H := by rw [hA]; exact hT
  have hW0 : s.WarmedH s'.vm := by rw [hvm]; exact State.WarmedH.refl s
  have hat' : ∀ w ∈ vx_atS own ic cls names, w.before args s' = true := fun w hw => vx_ot_at hW0 hvm.symm (hgood w (List.mem_cons_of_mem _ (List.mem_cons_of_mem _ hw))) (hat w hw)
  have hk' : (Cond.classLink own ik cls).before args s' = true := vx_ot_at hW0 hvm.symm (hgood _ List.mem_cons_self) hk
  have hini' : (Cond.initialized cls).before args s' = true := vx_ot_at hW0 hvm.symm (hgood _ (List.mem_cons_of_mem _ List.mem_cons_self)) hini
  have hU' : vx_Zq Bundle.tN "UNASSIGNED_STACK" Bundle.steD A s' s'.heap := by rw [hhp]; exact vx_Zq.moved hW0.alike (hU.kept hS.2.1)
  have hN' : vx_Zq Bundle.tN "SUPPRESSED_SENTINEL" Bundle.listD A s' s'.heap := by rw [hhp]; exact vx_Zq.moved hW0.alike (hN.kept hS.2.1)
  have h : ∀ w ∈ Bundle.ownAtoms own ic cls names, w.before args s' = true := vx_own hat' (vx_isRefq hU'.1) (vx_isRefq hN'.1) hU'.2.word hN'.2.word
  have hown' : s'.vm.findClass own = some m.cls := by rw [hvm]; exact hown
  have hins : (Cond.instantiable cls 6).before args s' = true := h _ (by simp [Bundle.ownAtoms])
  obtain ⟨vm₁, cX, kX, hfX, hkX, -, -, X₁, st1⟩ := Y.newCold hexec (own := own) (C := cls) (index := ik) (n := 6) hown' hk' hins hini'
    (g := F0 m pc ls rest) rfl (by rw [hb]; exact d0) (Nat.le_refl _) (Nat.le_refl _)
  generalize hT1 : (T.setVm vm₁).pushCell { cls := cX, slots := kX.instanceTypes.map defaultValue, vm := .none } = T1 at X₁ st1
  have hcat : (Value.ref T.heap.size).category = 1 := rfl
  have hcellA : T1.heap[T.heap.size]? = some (freshCell cX kX) := by rw [← hT1]; exact State.heap_pushCell_size _ _
  have d3' : decode c.code (pc + 3) = .ok (.dup, 1) := by rw [hb]; exact d3
  have d4' : decode c.code (pc + 4) = .ok (.ldc_w is, 3) := by rw [hb]; exact d4
  have hstr' : vk_R own is text sa s' := vk_R.warm hW0 hstr
  obtain ⟨U, hsteps, hrun, hend, hW, hsame, ce, hce, hO⟩ := X₁.ctorThrowS hexec htr (own := own) (cls := cls) (names := names) (ic := ic) hown' hcls hnames h (fun x hx => nomatch hx) hfX hkX hcellA (by rw [hhp, hT]; exact Nat.le_refl _) (msg := .ref sa) rfl
    (g := { method := m, pc := pc + 7, locals := ls, stack := .ref sa :: .ref T.heap.size :: .ref T.heap.size :: rest, locked := none }) rfl hsize rfl rfl (rest := rest) rfl
    (by rw [hb]; exact d7) (by rw [hb]; exact d10) hout hRframes (by simp only [List.map_cons, List.sum_cons, hcat]; omega) hlocks
  obtain ⟨f1, f2⟩ := vx_frame hsame
  rw [hhp] at f1 f2
  have hWs : s.WarmedH U.vm := State.WarmedH.trans hW0 hW
  have hcl : s.vm.findClass cls = some ce.cls := by
    have h9 := hO.cls
    rw [hvm] at h9
    exact h9
  have hall : s.sameButNew ({ U with vm := s.vm } : State) locs mc ms := by
    subst hA
    obtain ⟨e1, e2⟩ := hsame
    rw [State.setFrames_setFrames] at e1
    have h2 : (T.setVm s.vm).sameButNew ({ U with vm := s.vm } : State) [] (0 + 1) (0 + 6) := ⟨e1, e2⟩
    have h3 := X.same.trans h2
    rw [List.append_nil] at h3
    exact h3.mono hc hs
  refine ⟨U, ?_, .threw T.heap.size, hrun, hend, Or.inr ⟨T.heap.size, rfl, cls, ce, locs, hx U hWs.alike f1 (fun q hq => f2 q hq (fun z hz => nomatch hz)), hce, hO.vm, hcl, hWs, hall, hf⟩⟩
  refine st1 _ ?_
  show Steps p.tables e below (T1.setTop { method := m, pc := pc + 3, locals := ls, stack := .ref T.heap.size :: rest, locked := none }) _
  jvm_step X₁.here [X₁.here.top, hexec, d3', Value.category]
  exact X₁.ldcStringW hexec (own := own) (text := text) (index := is) (a := sa) hown' hstr'.1 hstr'.2
    (g := { method := m, pc := pc + 4, locals := ls, stack := .ref T.heap.size :: .ref T.heap.size :: rest, locked := none }) rfl d4' _ hsteps
end Ends
section Bodies
variable {l : Launch}
theorem vx_ofW {y : MethodName} {ws ws' : List Cond} {rm : Room} {Pc : Array Value → State → Prop} {Qc : Array Value → State → Outcome → State → Prop} {XC : String → State → State → Prop} {mc ms : Nat} {free : Addr → Prop} {cc : ByteArray} {maxL : Nat} {ret : Option FieldType}
    (hy : plainName y.cls = true) (hw : ws = Cond.code y cc maxL ret :: ws')
    (body : ∀ p e s m args below meth c s₁, BodyLoose p l y (headSpec ws rm) cc maxL ret e s m args below meth c s₁ → c.maxLocals = maxL → (∀ x ∈ c.exceptionTable.toList, False) → Pc args s →
      W p l e (headSpec ws rm).room s m args below meth c s.heap [] 0 0 (vx_MQ below Qc XC args s mc ms free) (entryFrame m args maxL)) : vx_Met l y ws rm Pc Qc XC mc ms free := by
  refine MetFree.of_bodyS (code := cc) (maxLocals := maxL) (ret := ret) hy ?_ ?_
  · intro args s m h hn
    obtain ⟨meth, c, h1, h2, h3, h4, h5, h6, -, -⟩ := Cond.code_spec hn (atoms_spec (ws := ws) h _ (by rw [hw]; exact List.mem_cons_self))
    exact ⟨meth, c, h1, h2, h3, h4, h5, h6⟩
  · intro p e s m args below meth c s₁ B hml hP _
    have hh0 : s₁.heap = s.heap := by rw [B.state]; rfl
    have ht : ∀ x ∈ c.exceptionTable.toList, False := by
      obtain ⟨meth9, c9, h1, h2, -, -, -, -, h7, -⟩ := Cond.code_spec B.named (atoms_spec (ws := ws) B.pre _ (by rw [hw]; exact List.mem_cons_self))
      cases Option.some.inj (h1.symm.trans B.method)
      cases Option.some.inj (h2.symm.trans (Stand.of_body B).code)
      intro x hx
      rw [Array.isEmpty_iff.mp h7] at hx
      cases hx
    obtain ⟨t, a1, o, b1, b2, b3⟩ := body p e s m args below meth c s₁ B hml ht hP s₁ hh0 (Stand.of_body B)
    exact ⟨t, o, a1, b1, b2, b3⟩
/-- the table of a body with handlers -/
theorem vx_table {p : Program} {x y : MethodName} {S : Spec} {cc bytes : ByteArray} {maxL maxL' : Nat} {ret ret' : Option FieldType} {e : Env} {s s₁ : State} {m : MethodId} {args : Array Value} {below : List Frame} {meth : Method} {c : Code} {hh : List (Nat × Nat × Nat × Nat)}
    (B : BodyLoose p l y S cc maxL ret e s m args below meth c s₁) (h : (Cond.codeWith y bytes maxL' ret' hh).before args s = true) : c.exceptionTable.toList = tableOf hh := by
  obtain ⟨m9, meth9, c9, hn9, h1, h2, -, -, h6, -⟩ := Cond.codeWith_spec h
  cases Option.some.inj (hn9.symm.trans B.named)
  cases Option.some.inj (h1.symm.trans B.method)
  cases Option.some.inj (h2.symm.trans (Stand.of_body B).code)
  rw [← h6, table_eq]
end Bodies
end VXA
/-! ===== END ===== -/
/-! ===== BEGIN a static call of a method with an exception table ===== -/
section VXS
variable {p : Program} {l : Launch} {e : Env} {R : Room} {s : State} {m : MethodId} {args : Array Value} {below : List Frame} {meth : Method} {c : Code} {T : State} {H : Heap} {locs : List Loc} {cells slots : Nat}
abbrev vx_CSW (R : Room) (s : State) (args : Array Value) (own : String) (index : Nat) (y : MethodName) (bytes : ByteArray) (maxL : Nat) (ret : Option FieldType) (hh : List (Nat × Nat × Nat × Nat)) (ws : List Cond) (rm : Room) (mc ms n : Nat) : Prop :=
  (rm.cells = mc ∧ rm.slots = ms ∧ rm.frames + 1 ≤ R.frames ∧ 8 + (maxL + 11) + rm.locals ≤ R.locals ∧ (∀ w ∈ ws, ∀ (a' : Array Value) (U : State), s.WarmedH U.vm → w.before a' U = true) ∧ Cond.codeWith y bytes maxL ret hh ∈ ws) ∧
  (Cond.codeWith y bytes maxL ret hh).before args s = true ∧ (Cond.initialized y.cls).before args s = true ∧ (y.cls ≠ "java/lang/invoke/MethodHandle" ∧ y.cls ≠ "java/lang/invoke/VarHandle") ∧
  (∀ sig, parseMethodDescriptor y.desc = some sig → n = sig.parameters.length) ∧ (Cond.methodLink own index y).before args s = true ∧ (Cond.static y).before args s = true
theorem vx_cwSW {own : String} {index maxL mc ms : Nat} {y : MethodName} {bytes : ByteArray} {ret : Option FieldType} {hh : List (Nat × Nat × Nat × Nat)} {Ts ws ws' : List Cond} {rm : Room} (n : Nat) (ht : ∀ w ∈ Ts, w.before args s = true) (hT : GoodIn Ts (va_wsS own index y ws)) (hw : ws = Cond.codeWith y bytes maxL ret hh :: ws') (hrc : rm.cells = mc) (hrs : rm.slots = ms)
    (hd : y.cls ≠ "java/lang/invoke/MethodHandle" ∧ y.cls ≠ "java/lang/invoke/VarHandle" ∧ (parseMethodDescriptor y.desc).map (fun d => d.parameters.length) = some n) (hR : rm.frames + 1 ≤ R.frames ∧ 8 + (maxL + 11) + rm.locals ≤ R.locals) :
    vx_CSW R s args own index y bytes maxL ret hh ws rm mc ms n := by
  have ok : ∀ w ∈ va_wsS own index y ws, w.before args s = true := fun w h => ht w (hT w h).1
  have hG : GoodIn Ts ws := fun w h => hT w (by unfold va_wsS; exact List.mem_append_right _ h)
  have hc : Cond.codeWith y bytes maxL ret hh ∈ ws := by rw [hw]; exact List.mem_cons_self
  refine ⟨⟨hrc, hrs, hR.1, hR.2, pay_in ht hG, hc⟩, ht _ (hG _ hc).1, ok _ (by simp [va_wsS]), ⟨hd.1, hd.2.1⟩, fun sig h => ?_, ok _ (by simp [va_wsS]), ok _ (by simp [va_wsS])⟩
  have h2 := hd.2.2
  rw [h] at h2
  exact (Option.some.inj h2).symm
theorem vx_callSW (X : Stand p l e R s m args below meth c T locs cells slots) (hexec : p.tables.exec = Jvm.exec) {own : String} {index : Nat} {y : MethodName} {bytes : ByteArray} {maxL : Nat} {ret : Option FieldType} {hh : List (Nat × Nat × Nat × Nat)}
    (hown : s.vm.findClass own = some m.cls) (hlink : (Cond.methodLink own index y).before args s = true) (hstat : (Cond.static y).before args s = true) (hinit : (Cond.initialized y.cls).before args s = true)
    (hcode : (Cond.codeWith y bytes maxL ret hh).before args s = true) (hy : y.cls ≠ "java/lang/invoke/MethodHandle" ∧ y.cls ≠ "java/lang/invoke/VarHandle")
    {W9 : Nat} {Pre : Pt → Array Value → Prop} {Post : Pt → Array Value → Option Value → Pt → Prop} (hK : Back l R p e below s args y 3 W9 Pre Post)
    {g : JFrame} (hg : g.method = m) (hsize : g.locals.size = c.maxLocals) {argsL rest : List Value} (hlen : ∀ sig, parseMethodDescriptor y.desc = some sig → argsL.length = sig.parameters.length)
    (hstack : g.stack = argsL.reverse ++ rest) (hW : 2 * g.monitorRoom + (rest.map fun v => v.category).sum ≤ W9) (hdg : decode c.code g.pc = .ok (.invokestatic index, 3))
    (hpre : ∀ vm₁, s.WarmedH vm₁ → Pre ⟨T.setVm vm₁, locs, cells, slots⟩ argsL.toArray) :
    ∃ (v : Option Value) (vm₁ : Vm) (B : Pt), s.WarmedH vm₁ ∧ Stand p l e R s m args below meth c B.U B.locs B.cells B.slots ∧ Post ⟨T.setVm vm₁, locs, cells, slots⟩ argsL.toArray v B ∧
      ∀ target, Steps p.tables e below (B.U.setTop { g with pc := g.pc + 3, stack := v.toList ++ rest }) target → Steps p.tables e below (T.setTop g) target := by
  obtain ⟨mk, methM, cM, hnamed, hmethM, -, -, -, -, -, -, hsigM⟩ := Cond.codeWith_spec hcode
  have hstatic : methM.isStatic = true := Cond.static_spec hnamed hmethM hstat
  obtain ⟨kP, hkP, -⟩ := className_of_methodNamed hnamed
  have hinitP : kP.init = .initialized := Cond.initialized_spec (findClass_of_methodNamed hnamed) hkP hinit
  obtain ⟨vm₁, X₁, hstep₁⟩ := X.invokestatic hexec hown hlink hnamed hmethM hstatic hkP hinitP hy (g := g) hg (argsL := argsL) (rest := rest) (hlen _ hsigM) hstack hdg
  obtain ⟨v, B, X', hpost, hsteps⟩ := hK m meth c ⟨T.setVm vm₁, locs, cells, slots⟩ { g with stack := rest } (.invokestatic index) mk argsL.toArray X₁ hg hsize hdg hW (X₁.named hnamed) (hpre vm₁ X₁.warmed)
  exact ⟨v, vm₁, B, X₁.warmed, X', hpost, fun target h => hstep₁ _ fun acts => by rw [doInvoke_state]; exact hsteps.trans h⟩
theorem vx_runSW {y : MethodName} {bytes cc : ByteArray} {maxL nL mc ms n index : Nat} {ret : Option FieldType} {hh : List (Nat × Nat × Nat × Nat)} {ws : List Cond} {rm : Room} {Pc : Array Value → State → Prop} {Qc : Array Value → State → Outcome → State → Prop} {free : Addr → Prop} {Ts : List Cond} {own : String} {As rest : List Value} {g : JFrame}
    (S : CallFix p m c cc nL s args Ts own) (hM : Met l y ws rm Pc Qc mc ms free) (cw : vx_CSW R s args own index y bytes maxL ret hh ws rm mc ms n) (hp : PreS s H Pc As)
    (hg : g.method = m) (hn : As.length = n) (hsize : g.locals.size = nL) (hstack : g.stack = As.reverse ++ rest) (hW : 2 * g.monitorRoom + (rest.map fun v => v.category).sum ≤ 8) (hdg : decode cc g.pc = .ok (.invokestatic index, 3)) (hf : cells + mc ≤ R.cells ∧ slots + ms ≤ R.slots) :
    va_Run p l e R s m args below meth c H locs cells slots mc ms g rest (Qc As.toArray) (free) := by
  obtain ⟨⟨hrc, hrs, hfr, hlo, hws, hcw⟩, hcode, hini, hy, hlen, hl, hstt⟩ := cw
  have hK : Back l R p e below s args y 3 8 (PreOf R mc ms Pc) (PostOf Qc mc ms free) := va_backW (hh := hh) (bytes := bytes) (maxL := maxL) (ret := ret) hM hp.1 hrc hrs hfr hlo hws hcw (fun a' U hW => word_at hW (Or.inl (by first | rfl | simp [Cond.onTables, Cond.keeps, Cond.steady])) hini)
  obtain ⟨hx, hb, hml, ho, -⟩ := S
  intro T hT X
  obtain ⟨v, vm₁, ⟨U', l2, c2, s2⟩, hW₁, X', ⟨g', mk, t, L, e1, e2, hq, h1, hL, h2, h3⟩, st⟩ := vx_callSW X hx (hh := hh) (bytes := bytes) (maxL := maxL) (ret := ret) ho hl hstt hini hcode hy hK hg (hsize.trans hml.symm) (argsL := As) (rest := rest) (fun sig h => hn.trans (hlen sig h)) hstack hW (by rw [hb]; exact hdg)
    (fun vm₁ hW₁ => ⟨hf.1, hf.2, hp.2 (T.setVm vm₁) hT hW₁⟩)
  dsimp only [Pt.U, Pt.locs, Pt.cells, Pt.slots] at X' e1 e2 h1 h2 h3 st
  subst h1; subst h2; subst h3
  exact ⟨v, (T.setVm vm₁).calling g' mk As.toArray, t, U', L, hT, X', hL, e1, e2, hq, st⟩
/-- not caught here, past rows that name other classes: it goes on to the caller -/
theorem vx_outP {p : Program} {l : Launch} {e : Env} {R : Room} {s : State} {m : MethodId} {args : Array Value} {below : List Frame} {meth : Method} {c : Code} {H : Heap} {locs : List Loc} {cells slots : Nat} {free : Addr → Prop} {ls : Array Slot} {rest : List Value} {Qc : Array Value → State → Outcome → State → Prop} {XC : String → State → State → Prop}
    {pc : Nat} {own E : String} {ce : Cell} {q : Addr} {mc ms : Nat} (hown : s.vm.findClass own = some m.cls) (hlocks : meth.locks = false)
    (hpass : ∀ z ∈ c.exceptionTable.toList, covers z pc = false ∨ (z.catchType ≠ 0 ∧ ∃ nm : String, (Cond.classLink own z.catchType nm).before args s = true ∧ va_Nc E nm s)) (hcell : H[q]? = some ce) (hv : ce.vm = .none) (hcl : s.vm.findClass E = some ce.cls)
    (hx : ∀ t : State, t.heap = H → s.vm.Alike t.vm → XC E s t) (hf : ∀ z ∈ locs, free z.base) (hc : cells ≤ mc) (hs : slots ≤ ms) :
    vx_W p l e R s m args below meth c H locs cells slots (vx_MQ below Qc XC args s mc ms free) (F0 m pc ls rest) q := by
  intro T hT X
  have hpl : e.platform.magicAccessors = ({} : Platform).magicAccessors := by rw [X.admits.platform]
  obtain ⟨vm', hW', X', st⟩ := X.outThrough hlocks q (g := F0 m pc ls rest) rfl rfl rfl (cell := ce) (by rw [hT]; exact hcell) (by rw [hv]; rfl)
    (by obtain ⟨k9, h9, -⟩ := Vm.findClass_spec hcl; exact ⟨k9, h9⟩) (fun z hz => by
      rcases hpass z hz with h | ⟨hz0, nm, hl1, hn1⟩
      · exact Or.inl h
      · obtain ⟨c6, hc6, hcl6⟩ := Cond.classLink_spec hown hl1 e.platform hpl
        obtain ⟨a8, b8, h1, h2, h3⟩ := hn1
        cases Option.some.inj (h1.symm.trans hcl)
        cases Option.some.inj (h2.symm.trans hc6)
        exact Or.inr ⟨hz0, _, hcl6, h3⟩)
  obtain ⟨g₀, hfr⟩ := X'.frames_eq
  have hcell9 : ((T.setVm vm').setFrames (.throwing q :: below)).heap[q]? = some ce := by
    show T.heap[q]? = some ce
    rw [hT]; exact hcell
  have hend : Ended ((T.setVm vm').setFrames (.throwing q :: below)) below (.threw q) := State.frames_setFrames _ (State.cur_lt_of_frames hfr)
  refine ⟨(T.setVm vm').setFrames (.throwing q :: below), ?_, .threw q, X'.here.running, hend, Or.inr ⟨q, rfl, E, ce, locs, hx _ hT (X'.ends _).1.alike, hcell9, hv, hcl, (X'.ends _).1, (X'.ends _).2.mono hc hs, hf⟩⟩
  rw [X.pushThrowing_eq]
  exact st
/-- a thing of a world lies in the heap -/
theorem vx_lt {D : va_G} {cl : List vw_C} {ws : va_W} {H1 : Heap} (h : va_P D cl ws H1) {k : Nat} {q : Nat × va_E} (hk : ws[k]? = some q) : q.1 < H1.size := (h k q hk).lt
end VXS
/-! ===== END ===== -/
/-! ===== BEGIN methods with a table of their own: called by a name, returning or throwing ===== -/
section VXH
/-! vx_backW, vx_callVX, vx_callSX, vx_callVW, vx_runVW, vx_runVX, vx_runSX, vx_ofWH follow the same proofs as their sisters above (Free/Laws.lean, Shelf42/LK1.lean); vx_outP calls Shelf42/NT130.lean (outThrough). -/
section
variable {l : Launch} {R : Room} {p : Program} {e : Env} {below : List Frame} {s : State} {sargs : Array Value} {y : MethodName} {len W9 : Nat}
theorem vx_backW {ws : List Cond} {rm : Room} {Pc : Array Value → State → Prop} {Qc : Array Value → State → Outcome → State → Prop} {XC : String → State → State → Prop} {mc ms : Nat} {free : Addr → Prop} {bytes : ByteArray} {maxL : Nat} {ret : Option FieldType} {hh : List (Nat × Nat × Nat × Nat)}
    (hM : vx_Met l y ws rm Pc Qc XC mc ms free) (hblind : FrameBlind Pc) (hrc : rm.cells = mc) (hrs : rm.slots = ms)
    (hframes : rm.frames + 1 ≤ R.frames) (hlocals : W9 + (maxL + 11) + rm.locals ≤ R.locals)
    (hws : ∀ w ∈ ws, ∀ a' U, s.WarmedH U.vm → w.before a' U = true) (hcode : Cond.codeWith y bytes maxL ret hh ∈ ws) (hinit : ∀ a' U, s.WarmedH U.vm → (Cond.initialized y.cls).before a' U = true) :
    vx_Back l R p e below s sargs y len W9 (PreOf R mc ms Pc) (PostOf Qc mc ms free) (vx_Post XC mc ms free) := by
  intro m meth c A g ig mk a X hg hsize hdg hW hn hp
  have h1 : (headSpec ws rm).pre.before a A.U = true := atoms_intro fun w hw => hws w hw _ _ X.warmed
  have h2 : (Cond.codeWith y bytes maxL ret hh).before a A.U = true := hws _ hcode _ _ X.warmed
  have h3 : (Cond.initialized y.cls).before a A.U = true := hinit _ _ X.warmed
  have h4 : A.cells + (headSpec ws rm).room.cells ≤ R.cells := by rw [show (headSpec ws rm).room.cells = mc from hrc]; exact hp.1
  have h5 : A.slots + (headSpec ws rm).room.slots ≤ R.slots := by rw [show (headSpec ws rm).room.slots = ms from hrs]; exact hp.2.1
  have hPc : Pc a (A.U.calling g mk a) := hblind _ _ _ _ hp.2.2
  obtain ⟨U, Ls, c0, s0⟩ := A
  dsimp only [Pt.U, Pt.locs, Pt.cells, Pt.slots] at h1 h2 h3 h4 h5 X hn hPc ⊢
  obtain ⟨m9, methY, cY, hn9, hmY, hcY, -, hlY, -⟩ := Cond.codeWith_spec h2
  cases Option.some.inj (hn9.symm.trans hn)
  obtain ⟨kY, hkY, -⟩ := className_of_methodNamed hn
  have hinitY : kY.init = .initialized := Cond.initialized_spec (findClass_of_methodNamed hn) hkY h3
  have h : At U g.method c below := by rw [hg]; exact X.here
  have hlocals9 : W9 + (maxL + 11) + (headSpec ws rm).room.locals ≤ R.locals := hlocals
  have happ : (headSpec ws rm).appliesLoose y e.platform (U.calling g mk a) = true :=
    Spec.appliesLoose_calling (g := g) h hdg hn hkY hinitY
      (X.room_calling (g := g) (R' := (headSpec ws rm).room) hsize hmY hcY hframes (by rw [hlY]; omega) h4 h5) h1
  obtain ⟨mid, hmid⟩ := h.above
  have hfr : (U.setTop g).frames = (.java g :: mid) ++ below := by rw [State.frames_setTop' g h.top, hmid]; rfl
  obtain ⟨o, s₂, hsteps, -, hend, hq⟩ := Steps.callFree hM p X.admits X.cas X.clock (acts := []) hfr happ hPc trivial
  have hq' : vx_Q Qc XC mc ms free a (U.calling g mk a) o s₂ := hq
  rw [State.frames_setTop' g h.top] at hend
  obtain ⟨g₀, hg0⟩ := Option.isSome_iff_exists.mp h.top
  obtain ⟨r, hr⟩ := State.topJava?_eq_some.mp hg0
  have hr' : (({ U with heap := s₂.heap, slotsUsed := s₂.slotsUsed } : State).setVm s₂.vm).frames = .java g₀ :: r := hr
  rcases hq' with ⟨hqc, L, hfe, hL⟩ | ⟨q, rfl, E, ce, L, hx, hce, hcv, hcl, hW₂, hsm, hL⟩
  · obtain ⟨⟨v, rfl⟩, hW₂, e2, q2, q3, q4, q5, q6⟩ := id hfe
    have e3 : s₂ = ({ (U.calling g mk a).setFrames s₂.frames with heap := s₂.heap, slotsUsed := s₂.slotsUsed } : State).setVm s₂.vm := by
      have : s₂ = ({ s₂ with vm := (U.calling g mk a).vm } : State).setVm s₂.vm := rfl
      rw [e2] at this
      exact this
    obtain ⟨c₂, i₂, len₂, hc₂, hd₂, hf₂⟩ := hend
    have hW' : U.WarmedH s₂.vm := hW₂
    have hcc : c₂ = c := by
      have h1 : s₂.code? g.method = U.code? g.method := by
        rw [State.code?_eq, State.code?_eq, hW'.alike.method?]
      exact Option.some.inj (hc₂.symm.trans (h1.trans h.code))
    subst hcc
    have hlen : len₂ = len := by rw [hdg] at hd₂; cases hd₂; rfl
    subst hlen
    have hs₂ : s₂ = (({ U with heap := s₂.heap, slotsUsed := s₂.slotsUsed } : State).setVm s₂.vm).setTop { g with pc := g.pc + len₂, stack := v.toList ++ g.stack } := by
      refine e3.trans ?_
      rw [hf₂, State.calling_eq h.top, State.setFrames_setFrames, State.setTop_of_frames _ hr', hr]
      rfl
    have hsame : U.sameButNew ({ U with heap := s₂.heap, slotsUsed := s₂.slotsUsed } : State) L mc ms := by
      refine ⟨?_, q2, q3, q4, q5, q6⟩
      obtain ⟨t, ht, -⟩ := State.frames_cons hr
      show ({ U with heap := s₂.heap, slotsUsed := s₂.slotsUsed } : State) = { U.setFrames U.frames with heap := s₂.heap, slotsUsed := s₂.slotsUsed }
      rw [State.setFrames_self ht]
    subst hg
    refine Or.inl ⟨v, ⟨(({ U with heap := s₂.heap, slotsUsed := s₂.slotsUsed } : State).setVm s₂.vm), Ls ++ L, c0 + mc, s0 + ms⟩,
      ⟨X.admits, X.cas, X.clock, X.frames, X.room, X.hears, X.method, X.code, (X.here.setHeapUsed s₂.heap s₂.slotsUsed).setVm hW'.alike, X.tail, State.WarmedH.trans X.warmed hW', X.limits, X.bytes, X.same.trans (hsame.setVm s.vm)⟩,
      ⟨g, mk, s₂, L, rfl, rfl, hqc, rfl, hL, rfl, rfl⟩, ?_⟩
    show Steps p.tables e below _ ((({ U with heap := s₂.heap, slotsUsed := s₂.slotsUsed } : State).setVm s₂.vm).setTop { g with pc := g.pc + len₂, stack := v.toList ++ g.stack })
    rw [← hs₂]
    exact hsteps
  · obtain ⟨e2, q2, q3, q4, q5, q6⟩ := id hsm
    have e3 : s₂ = ({ (U.calling g mk a).setFrames s₂.frames with heap := s₂.heap, slotsUsed := s₂.slotsUsed } : State).setVm s₂.vm := by
      have : s₂ = ({ s₂ with vm := (U.calling g mk a).vm } : State).setVm s₂.vm := rfl
      rw [e2] at this
      exact this
    have hf₂ : s₂.frames = .throwing q :: .java g :: U.frames.tail := hend
    have hW' : U.WarmedH s₂.vm := hW₂
    have hs₂ : s₂ = ((({ U with heap := s₂.heap, slotsUsed := s₂.slotsUsed } : State).setVm s₂.vm).setTop g).pushFrame (.throwing q) := by
      refine e3.trans ?_
      rw [hf₂, State.calling_eq h.top, State.setFrames_setFrames, State.pushFrame, State.frames_setTop _ hr', State.setTop_of_frames _ hr', State.setFrames_setFrames, hr]
      rfl
    have hsame : U.sameButNew ({ U with heap := s₂.heap, slotsUsed := s₂.slotsUsed } : State) L mc ms := by
      refine ⟨?_, q2, q3, q4, q5, q6⟩
      obtain ⟨t, ht, -⟩ := State.frames_cons hr
      show ({ U with heap := s₂.heap, slotsUsed := s₂.slotsUsed } : State) = { U.setFrames U.frames with heap := s₂.heap, slotsUsed := s₂.slotsUsed }
      rw [State.setFrames_self ht]
    subst hg
    refine Or.inr ⟨q, ⟨(({ U with heap := s₂.heap, slotsUsed := s₂.slotsUsed } : State).setVm s₂.vm), Ls ++ L, c0 + mc, s0 + ms⟩,
      ⟨X.admits, X.cas, X.clock, X.frames, X.room, X.hears, X.method, X.code, (X.here.setHeapUsed s₂.heap s₂.slotsUsed).setVm hW'.alike, X.tail, State.WarmedH.trans X.warmed hW', X.limits, X.bytes, X.same.trans (hsame.setVm s.vm)⟩,
      ⟨g, mk, s₂, L, E, ce, rfl, rfl, hx, hce, hcv, hcl, rfl, hL, rfl, rfl⟩, ?_⟩
    show Steps p.tables e below _ (((({ U with heap := s₂.heap, slotsUsed := s₂.slotsUsed } : State).setVm s₂.vm).setTop g).pushFrame (.throwing q))
    rw [← hs₂]
    exact hsteps
end
variable {p : Program} {l : Launch} {e : Env} {R : Room} {s : State} {m : MethodId} {args : Array Value} {below : List Frame} {meth : Method} {c : Code} {T : State} {H : Heap} {locs : List Loc} {cells slots : Nat}
theorem vx_callVX (X : Stand p l e R s m args below meth c T locs cells slots) (hexec : p.tables.exec = Jvm.exec) {own C : String} {index : Nat} {y : MethodName} {bytes : ByteArray} {maxL : Nat} {ret : Option FieldType} {hh : List (Nat × Nat × Nat × Nat)}
    (hown : s.vm.findClass own = some m.cls) (hlink : (Cond.methodLink own index y).before args s = true) (hinst : (Cond.instanceMethod y).before args s = true) (hsel : (Cond.selects C y y).before args s = true)
    (hcode : (Cond.codeWith y bytes maxL ret hh).before args s = true) (hy : y.cls ≠ "java/lang/invoke/MethodHandle" ∧ y.cls ≠ "java/lang/invoke/VarHandle")
    {W9 : Nat} {Pre : Pt → Array Value → Prop} {Post : Pt → Array Value → Option Value → Pt → Prop} {PostX : Pt → Array Value → Addr → Pt → Prop} (hK : vx_Back l R p e below s args y 3 W9 Pre Post PostX)
    {b : Addr} {cellB : Cell} (hcell : T.heap[b]? = some cellB) (hobj : cellB.vm.isStatics = false) (hcls : s.vm.findClass C = some cellB.cls)
    {g : JFrame} (hg : g.method = m) (hsize : g.locals.size = c.maxLocals) {argsL rest : List Value} (hlen : ∀ sig, parseMethodDescriptor y.desc = some sig → argsL.length = sig.parameters.length)
    (hstack : g.stack = argsL.reverse ++ .ref b :: rest) (hW : 2 * g.monitorRoom + (rest.map fun v => v.category).sum ≤ W9) (hdg : decode c.code g.pc = .ok (.invokevirtual index, 3))
    (hpre : ∀ vm₁, s.WarmedH vm₁ → Pre ⟨T.setVm vm₁, locs, cells, slots⟩ (Value.ref b :: argsL).toArray) :
    (∃ (v : Option Value) (vm₁ : Vm) (B : Pt), s.WarmedH vm₁ ∧ Stand p l e R s m args below meth c B.U B.locs B.cells B.slots ∧ Post ⟨T.setVm vm₁, locs, cells, slots⟩ (Value.ref b :: argsL).toArray v B ∧
      ∀ target, Steps p.tables e below (B.U.setTop { g with pc := g.pc + 3, stack := v.toList ++ rest }) target → Steps p.tables e below (T.setTop g) target) ∨
    (∃ (q : Addr) (vm₁ : Vm) (B : Pt), s.WarmedH vm₁ ∧ Stand p l e R s m args below meth c B.U B.locs B.cells B.slots ∧ PostX ⟨T.setVm vm₁, locs, cells, slots⟩ (Value.ref b :: argsL).toArray q B ∧
      Steps p.tables e below (T.setTop g) ((B.U.setTop { g with stack := rest }).pushFrame (.throwing q))) := by
  obtain ⟨mk, methM, hnamed, hmethM, hstM, habM⟩ := Cond.instanceMethod_spec hinst
  obtain ⟨m8, methM', cM, hn8, hmethM', -, -, -, -, -, -, hsigM⟩ := Cond.codeWith_spec hcode
  cases Option.some.inj (hn8.symm.trans hnamed)
  cases hmethM.symm.trans hmethM'
  obtain ⟨c2, r2, m2, q1, q2, q3, q4, kP, hkP, hkPi⟩ := Cond.selects_spec hsel
  cases hcls.symm.trans q1
  cases (State.methodFound?_of_named hnamed hy).symm.trans q2
  cases hnamed.symm.trans q3
  have hselP : selectMethod e.platform s.vm cellB.cls mk = .method mk := by rw [Launch.admits_selectMethod X.admits]; exact q4
  obtain ⟨vm₁, X₁, hstep₁⟩ := X.invokevirtual hexec hown hlink hnamed hmethM hstM hkP hkPi hy (a := b) (cell := cellB) hcell
    (fun z h => by rw [h] at hobj; cases hobj) hselP hmethM habM hkP hkPi (g := g) hg (argsL := argsL) (rest := rest) (hlen _ hsigM) hstack hdg
  rcases hK m meth c ⟨T.setVm vm₁, locs, cells, slots⟩ { g with stack := rest } (.invokevirtual index) mk (Value.ref b :: argsL).toArray X₁ hg hsize hdg hW (X₁.named hnamed) (hpre vm₁ X₁.warmed) with ⟨v, B, X', hpost, hsteps⟩ | ⟨q, B, X', hpost, hsteps⟩
  · exact Or.inl ⟨v, vm₁, B, X₁.warmed, X', hpost, fun target h => hstep₁ _ fun acts => by rw [doInvoke_state]; exact hsteps.trans h⟩
  · exact Or.inr ⟨q, vm₁, B, X₁.warmed, X', hpost, hstep₁ _ fun acts => by rw [doInvoke_state]; exact hsteps⟩
theorem vx_callSX (X : Stand p l e R s m args below meth c T locs cells slots) (hexec : p.tables.exec = Jvm.exec) {own : String} {index : Nat} {y : MethodName} {bytes : ByteArray} {maxL : Nat} {ret : Option FieldType} {hh : List (Nat × Nat × Nat × Nat)}
    (hown : s.vm.findClass own = some m.cls) (hlink : (Cond.methodLink own index y).before args s = true) (hstat : (Cond.static y).before args s = true) (hinit : (Cond.initialized y.cls).before args s = true)
    (hcode : (Cond.codeWith y bytes maxL ret hh).before args s = true) (hy : y.cls ≠ "java/lang/invoke/MethodHandle" ∧ y.cls ≠ "java/lang/invoke/VarHandle")
    {W9 : Nat} {Pre : Pt → Array Value → Prop} {Post : Pt → Array Value → Option Value → Pt → Prop} {PostX : Pt → Array Value → Addr → Pt → Prop} (hK : vx_Back l R p e below s args y 3 W9 Pre Post PostX)
    {g : JFrame} (hg : g.method = m) (hsize : g.locals.size = c.maxLocals) {argsL rest : List Value} (hlen : ∀ sig, parseMethodDescriptor y.desc = some sig → argsL.length = sig.parameters.length)
    (hstack : g.stack = argsL.reverse ++ rest) (hW : 2 * g.monitorRoom + (rest.map fun v => v.category).sum ≤ W9) (hdg : decode c.code g.pc = .ok (.invokestatic index, 3))
    (hpre : ∀ vm₁, s.WarmedH vm₁ → Pre ⟨T.setVm vm₁, locs, cells, slots⟩ argsL.toArray) :
    (∃ (v : Option Value) (vm₁ : Vm) (B : Pt), s.WarmedH vm₁ ∧ Stand p l e R s m args below meth c B.U B.locs B.cells B.slots ∧ Post ⟨T.setVm vm₁, locs, cells, slots⟩ argsL.toArray v B ∧
      ∀ target, Steps p.tables e below (B.U.setTop { g with pc := g.pc + 3, stack := v.toList ++ rest }) target → Steps p.tables e below (T.setTop g) target) ∨
    (∃ (q : Addr) (vm₁ : Vm) (B : Pt), s.WarmedH vm₁ ∧ Stand p l e R s m args below meth c B.U B.locs B.cells B.slots ∧ PostX ⟨T.setVm vm₁, locs, cells, slots⟩ argsL.toArray q B ∧
      Steps p.tables e below (T.setTop g) ((B.U.setTop { g with stack := rest }).pushFrame (.throwing q))) := by
  obtain ⟨mk, methM, cM, hnamed, hmethM, -, -, -, -, -, -, hsigM⟩ := Cond.codeWith_spec hcode
  have hstatic : methM.isStatic = true := Cond.static_spec hnamed hmethM hstat
  obtain ⟨kP, hkP, -⟩ := className_of_methodNamed hnamed
  have hinitP : kP.init = .initialized := Cond.initialized_spec (findClass_of_methodNamed hnamed) hkP hinit
  obtain ⟨vm₁, X₁, hstep₁⟩ := X.invokestatic hexec hown hlink hnamed hmethM hstatic hkP hinitP hy (g := g) hg (argsL := argsL) (rest := rest) (hlen _ hsigM) hstack hdg
  rcases hK m meth c ⟨T.setVm vm₁, locs, cells, slots⟩ { g with stack := rest } (.invokestatic index) mk argsL.toArray X₁ hg hsize hdg hW (X₁.named hnamed) (hpre vm₁ X₁.warmed) with ⟨v, B, X', hpost, hsteps⟩ | ⟨q, B, X', hpost, hsteps⟩
  · exact Or.inl ⟨v, vm₁, B, X₁.warmed, X', hpost, fun target h => hstep₁ _ fun acts => by rw [doInvoke_state]; exact hsteps.trans h⟩
  · exact Or.inr ⟨q, vm₁, B, X₁.warmed, X', hpost, hstep₁ _ fun acts => by rw [doInvoke_state]; exact hsteps⟩
theorem vx_callVW (X : Stand p l e R s m args below meth c T locs cells slots) (hexec : p.tables.exec = Jvm.exec) {own C : String} {index : Nat} {y : MethodName} {bytes : ByteArray} {maxL : Nat} {ret : Option FieldType} {hh : List (Nat × Nat × Nat × Nat)}
    (hown : s.vm.findClass own = some m.cls) (hlink : (Cond.methodLink own index y).before args s = true) (hinst : (Cond.instanceMethod y).before args s = true) (hsel : (Cond.selects C y y).before args s = true)
    (hcode : (Cond.codeWith y bytes maxL ret hh).before args s = true) (hy : y.cls ≠ "java/lang/invoke/MethodHandle" ∧ y.cls ≠ "java/lang/invoke/VarHandle")
    {W9 : Nat} {Pre : Pt → Array Value → Prop} {Post : Pt → Array Value → Option Value → Pt → Prop} (hK : Back l R p e below s args y 3 W9 Pre Post)
    {b : Addr} {cellB : Cell} (hcell : T.heap[b]? = some cellB) (hobj : cellB.vm.isStatics = false) (hcls : s.vm.findClass C = some cellB.cls)
    {g : JFrame} (hg : g.method = m) (hsize : g.locals.size = c.maxLocals) {argsL rest : List Value} (hlen : ∀ sig, parseMethodDescriptor y.desc = some sig → argsL.length = sig.parameters.length)
    (hstack : g.stack = argsL.reverse ++ .ref b :: rest) (hW : 2 * g.monitorRoom + (rest.map fun v => v.category).sum ≤ W9) (hdg : decode c.code g.pc = .ok (.invokevirtual index, 3))
    (hpre : ∀ vm₁, s.WarmedH vm₁ → Pre ⟨T.setVm vm₁, locs, cells, slots⟩ (Value.ref b :: argsL).toArray) :
    ∃ (v : Option Value) (vm₁ : Vm) (B : Pt), s.WarmedH vm₁ ∧ Stand p l e R s m args below meth c B.U B.locs B.cells B.slots ∧ Post ⟨T.setVm vm₁, locs, cells, slots⟩ (Value.ref b :: argsL).toArray v B ∧
      ∀ target, Steps p.tables e below (B.U.setTop { g with pc := g.pc + 3, stack := v.toList ++ rest }) target → Steps p.tables e below (T.setTop g) target := by
  obtain ⟨mk, methM, hnamed, hmethM, hstM, habM⟩ := Cond.instanceMethod_spec hinst
  obtain ⟨m8, methM', cM, hn8, hmethM', -, -, -, -, -, -, hsigM⟩ := Cond.codeWith_spec hcode
  cases Option.some.inj (hn8.symm.trans hnamed)
  cases hmethM.symm.trans hmethM'
  obtain ⟨c2, r2, m2, q1, q2, q3, q4, kP, hkP, hkPi⟩ := Cond.selects_spec hsel
  cases hcls.symm.trans q1
  cases (State.methodFound?_of_named hnamed hy).symm.trans q2
  cases hnamed.symm.trans q3
  have hselP : selectMethod e.platform s.vm cellB.cls mk = .method mk := by rw [Launch.admits_selectMethod X.admits]; exact q4
  obtain ⟨vm₁, X₁, hstep₁⟩ := X.invokevirtual hexec hown hlink hnamed hmethM hstM hkP hkPi hy (a := b) (cell := cellB) hcell
    (fun z h => by rw [h] at hobj; cases hobj) hselP hmethM habM hkP hkPi (g := g) hg (argsL := argsL) (rest := rest) (hlen _ hsigM) hstack hdg
  obtain ⟨v, B, X', hpost, hsteps⟩ := hK m meth c ⟨T.setVm vm₁, locs, cells, slots⟩ { g with stack := rest } (.invokevirtual index) mk (Value.ref b :: argsL).toArray X₁ hg hsize hdg hW (X₁.named hnamed) (hpre vm₁ X₁.warmed)
  exact ⟨v, vm₁, B, X₁.warmed, X', hpost, fun target h => hstep₁ _ fun acts => by rw [doInvoke_state]; exact hsteps.trans h⟩
abbrev vx_CVW (R : Room) (s : State) (args : Array Value) (own C : String) (index : Nat) (y : MethodName) (bytes : ByteArray) (maxL : Nat) (ret : Option FieldType) (hh : List (Nat × Nat × Nat × Nat)) (ws : List Cond) (rm : Room) (mc ms n : Nat) : Prop :=
  (rm.cells = mc ∧ rm.slots = ms ∧ rm.frames + 1 ≤ R.frames ∧ 8 + (maxL + 11) + rm.locals ≤ R.locals ∧ (∀ w ∈ ws, ∀ (a' : Array Value) (U : State), s.WarmedH U.vm → w.before a' U = true) ∧ Cond.codeWith y bytes maxL ret hh ∈ ws) ∧
  (Cond.codeWith y bytes maxL ret hh).before args s = true ∧ (Cond.initialized y.cls).before args s = true ∧ (y.cls ≠ "java/lang/invoke/MethodHandle" ∧ y.cls ≠ "java/lang/invoke/VarHandle") ∧
  (∀ sig, parseMethodDescriptor y.desc = some sig → n = sig.parameters.length) ∧ (Cond.methodLink own index y).before args s = true ∧ (Cond.instanceMethod y).before args s = true ∧ (Cond.selects C y y).before args s = true
theorem vx_cwVW {own C : String} {index maxL mc ms : Nat} {y : MethodName} {bytes : ByteArray} {ret : Option FieldType} {hh : List (Nat × Nat × Nat × Nat)} {Ts ws ws' : List Cond} {rm : Room} (n : Nat) (ht : ∀ w ∈ Ts, w.before args s = true) (hT : GoodIn Ts (wsV own index C y ws)) (hw : ws = Cond.codeWith y bytes maxL ret hh :: ws') (hrc : rm.cells = mc) (hrs : rm.slots = ms)
    (hd : y.cls = C ∧ y.cls ≠ "java/lang/invoke/MethodHandle" ∧ y.cls ≠ "java/lang/invoke/VarHandle" ∧ (parseMethodDescriptor y.desc).map (fun d => d.parameters.length) = some n) (hR : rm.frames + 1 ≤ R.frames ∧ 8 + (maxL + 11) + rm.locals ≤ R.locals) :
    vx_CVW R s args own C index y bytes maxL ret hh ws rm mc ms n := by
  obtain ⟨hC, hd⟩ := hd
  subst hC
  have ok : ∀ w ∈ wsV own index y.cls y ws, w.before args s = true := fun w h => ht w (hT w h).1
  have hG : GoodIn Ts ws := fun w h => hT w (by unfold wsV; exact List.mem_append_right _ h)
  have hc : Cond.codeWith y bytes maxL ret hh ∈ ws := by rw [hw]; exact List.mem_cons_self
  refine ⟨⟨hrc, hrs, hR.1, hR.2, pay_in ht hG, hc⟩, ht _ (hG _ hc).1, ok _ (by simp [wsV]), ⟨hd.1, hd.2.1⟩, fun sig h => ?_, ok _ (by simp [wsV]), ok _ (by simp [wsV]), ok _ (by simp [wsV])⟩
  have h2 := hd.2.2
  rw [h] at h2
  exact (Option.some.inj h2).symm
theorem vx_runVW {y : MethodName} {bytes cc : ByteArray} {maxL nL mc ms n index : Nat} {ret : Option FieldType} {hh : List (Nat × Nat × Nat × Nat)} {ws : List Cond} {rm : Room} {Pc : Array Value → State → Prop} {Qc : Array Value → State → Outcome → State → Prop} {free : Addr → Prop} {Ts : List Cond} {own C : String} {b : Addr} {As rest : List Value} {g : JFrame}
    (S : CallFix p m c cc nL s args Ts own) (hM : Met l y ws rm Pc Qc mc ms free) (cw : vx_CVW R s args own C index y bytes maxL ret hh ws rm mc ms n) (hp : PreV s H C b Pc As)
    (hg : g.method = m) (hn : As.length = n) (hsize : g.locals.size = nL) (hstack : g.stack = As.reverse ++ .ref b :: rest) (hW : 2 * g.monitorRoom + (rest.map fun v => v.category).sum ≤ 8) (hdg : decode cc g.pc = .ok (.invokevirtual index, 3)) (hf : cells + mc ≤ R.cells ∧ slots + ms ≤ R.slots) :
    va_Run p l e R s m args below meth c H locs cells slots mc ms g rest (Qc (Value.ref b :: As).toArray) free := by
  obtain ⟨⟨hrc, hrs, hfr, hlo, hws, hcw⟩, hcode, hini, hy, hlen, hl, hin, hse⟩ := cw
  have hK : Back l R p e below s args y 3 8 (PreOf R mc ms Pc) (PostOf Qc mc ms free) := va_backW (hh := hh) (bytes := bytes) (maxL := maxL) (ret := ret) hM hp.1 hrc hrs hfr hlo hws hcw (fun a' U hW => word_at hW (Or.inl (by first | rfl | simp [Cond.onTables, Cond.keeps, Cond.steady])) hini)
  obtain ⟨hx, hb, hml, ho, -⟩ := S
  obtain ⟨-, ⟨cellB, hcB, hoB, hclB⟩, hPc⟩ := hp
  intro T hT X
  obtain ⟨v, vm₁, ⟨U', l2, c2, s2⟩, hW₁, X', ⟨g', mk, t, L, e1, e2, hq, h1, hL, h2, h3⟩, st⟩ := vx_callVW X hx (C := C) (hh := hh) (bytes := bytes) (maxL := maxL) (ret := ret) ho hl hin hse hcode hy hK (by rw [hT]; exact hcB) hoB hclB hg (hsize.trans hml.symm) (argsL := As) (rest := rest) (fun sig h => hn.trans (hlen sig h)) hstack hW (by rw [hb]; exact hdg)
    (fun vm₁ hW₁ => ⟨hf.1, hf.2, hPc (T.setVm vm₁) hT hW₁⟩)
  dsimp only [Pt.U, Pt.locs, Pt.cells, Pt.slots] at X' e1 e2 h1 h2 h3 st
  subst h1; subst h2; subst h3
  exact ⟨v, (T.setVm vm₁).calling g' mk (Value.ref b :: As).toArray, t, U', L, hT, X', hL, e1, e2, hq, st⟩
section
variable {y : MethodName} {bytes cc : ByteArray} {maxL nL mc ms n index : Nat} {ret : Option FieldType} {ws : List Cond} {rm : Room} {Pc : Array Value → State → Prop} {Qc : Array Value → State → Outcome → State → Prop} {XC : String → State → State → Prop} {free : Addr → Prop} {Ts : List Cond} {own C : String} {b : Addr} {As rest : List Value} {g : JFrame}
theorem vx_runVX {hh : List (Nat × Nat × Nat × Nat)} (S : CallFix p m c cc nL s args Ts own) (hM : vx_Met l y ws rm Pc Qc XC mc ms free) (cw : vx_CVW R s args own C index y bytes maxL ret hh ws rm mc ms n) (hp : PreV s H C b Pc As)
    (hg : g.method = m) (hn : As.length = n) (hsize : g.locals.size = nL) (hstack : g.stack = As.reverse ++ .ref b :: rest) (hW : 2 * g.monitorRoom + (rest.map fun v => v.category).sum ≤ 8) (hdg : decode cc g.pc = .ok (.invokevirtual index, 3)) (hf : cells + mc ≤ R.cells ∧ slots + ms ≤ R.slots) :
    vx_Run p l e R s m args below meth c H locs cells slots mc ms g rest (Qc (Value.ref b :: As).toArray) XC free := by
  obtain ⟨⟨hrc, hrs, hfr, hlo, hws, hcw⟩, hcode, hini, hy, hlen, hl, hin, hse⟩ := cw
  have hK : vx_Back l R p e below s args y 3 8 (PreOf R mc ms Pc) (PostOf Qc mc ms free) (vx_Post XC mc ms free) := vx_backW (hh := hh) (bytes := bytes) (maxL := maxL) (ret := ret) hM hp.1 hrc hrs hfr hlo hws hcw (fun a' U hW => word_at hW (Or.inl (by first | rfl | simp [Cond.onTables, Cond.keeps, Cond.steady])) hini)
  obtain ⟨hx, hb, hml, ho, -⟩ := S
  obtain ⟨-, ⟨cellB, hcB, hoB, hclB⟩, hPc⟩ := hp
  intro T hT X
  rcases vx_callVX X hx (C := C) (hh := hh) (bytes := bytes) (maxL := maxL) (ret := ret) ho hl hin hse hcode hy hK (by rw [hT]; exact hcB) hoB hclB hg (hsize.trans hml.symm) (argsL := As) (rest := rest) (fun sig h => hn.trans (hlen sig h)) hstack hW (by rw [hb]; exact hdg)
    (fun vm₁ hW₁ => ⟨hf.1, hf.2, hPc (T.setVm vm₁) hT hW₁⟩) with ⟨v, vm₁, ⟨U', l2, c2, s2⟩, hW₁, X', ⟨g', mk, t, L, e1, e2, hq, h1, hL, h2, h3⟩, st⟩ | ⟨q, vm₁, ⟨U', l2, c2, s2⟩, hW₁, X', ⟨g', mk, t, L, E, ce, e1, e2, hq, hce, hcv, hcl, h1, hL, h2, h3⟩, st⟩
  · dsimp only [Pt.U, Pt.locs, Pt.cells, Pt.slots] at X' e1 e2 h1 h2 h3 st
    subst h1; subst h2; subst h3
    exact Or.inl ⟨v, (T.setVm vm₁).calling g' mk (Value.ref b :: As).toArray, t, U', L, hT, X', hL, e1, e2, hq, st⟩
  · dsimp only [Pt.U, Pt.locs, Pt.cells, Pt.slots] at X' e1 e2 h1 h2 h3 st hcl
    subst h1; subst h2; subst h3
    exact Or.inr ⟨q, (T.setVm vm₁).calling g' mk (Value.ref b :: As).toArray, t, U', L, E, ce, hT, X', hL, e1, e2, hq, hce, hcv, vx_cls hW₁ hcl, st⟩
theorem vx_runSX {hh : List (Nat × Nat × Nat × Nat)} (S : CallFix p m c cc nL s args Ts own) (hM : vx_Met l y ws rm Pc Qc XC mc ms free) (cw : vx_CSW R s args own index y bytes maxL ret hh ws rm mc ms n) (hp : PreS s H Pc As)
    (hg : g.method = m) (hn : As.length = n) (hsize : g.locals.size = nL) (hstack : g.stack = As.reverse ++ rest) (hW : 2 * g.monitorRoom + (rest.map fun v => v.category).sum ≤ 8) (hdg : decode cc g.pc = .ok (.invokestatic index, 3)) (hf : cells + mc ≤ R.cells ∧ slots + ms ≤ R.slots) :
    vx_Run p l e R s m args below meth c H locs cells slots mc ms g rest (Qc As.toArray) XC free := by
  obtain ⟨⟨hrc, hrs, hfr, hlo, hws, hcw⟩, hcode, hini, hy, hlen, hl, hstt⟩ := cw
  have hK : vx_Back l R p e below s args y 3 8 (PreOf R mc ms Pc) (PostOf Qc mc ms free) (vx_Post XC mc ms free) := vx_backW (hh := hh) (bytes := bytes) (maxL := maxL) (ret := ret) hM hp.1 hrc hrs hfr hlo hws hcw (fun a' U hW => word_at hW (Or.inl (by first | rfl | simp [Cond.onTables, Cond.keeps, Cond.steady])) hini)
  obtain ⟨hx, hb, hml, ho, -⟩ := S
  intro T hT X
  rcases vx_callSX X hx (hh := hh) (bytes := bytes) (maxL := maxL) (ret := ret) ho hl hstt hini hcode hy hK hg (hsize.trans hml.symm) (argsL := As) (rest := rest) (fun sig h => hn.trans (hlen sig h)) hstack hW (by rw [hb]; exact hdg)
    (fun vm₁ hW₁ => ⟨hf.1, hf.2, hp.2 (T.setVm vm₁) hT hW₁⟩) with ⟨v, vm₁, ⟨U', l2, c2, s2⟩, hW₁, X', ⟨g', mk, t, L, e1, e2, hq, h1, hL, h2, h3⟩, st⟩ | ⟨q, vm₁, ⟨U', l2, c2, s2⟩, hW₁, X', ⟨g', mk, t, L, E, ce, e1, e2, hq, hce, hcv, hcl, h1, hL, h2, h3⟩, st⟩
  · dsimp only [Pt.U, Pt.locs, Pt.cells, Pt.slots] at X' e1 e2 h1 h2 h3 st
    subst h1; subst h2; subst h3
    exact Or.inl ⟨v, (T.setVm vm₁).calling g' mk As.toArray, t, U', L, hT, X', hL, e1, e2, hq, st⟩
  · dsimp only [Pt.U, Pt.locs, Pt.cells, Pt.slots] at X' e1 e2 h1 h2 h3 st hcl
    subst h1; subst h2; subst h3
    exact Or.inr ⟨q, (T.setVm vm₁).calling g' mk As.toArray, t, U', L, E, ce, hT, X', hL, e1, e2, hq, hce, hcv, vx_cls hW₁ hcl, st⟩
end
end VXH
theorem vx_ofWH {l : Launch} {y : MethodName} {ws ws' : List Cond} {rm : Room} {Pc : Array Value → State → Prop} {Qc : Array Value → State → Outcome → State → Prop} {XC : String → State → State → Prop} {mc ms : Nat} {free : Addr → Prop} {cc : ByteArray} {maxL : Nat} {ret : Option FieldType} {hh : List (Nat × Nat × Nat × Nat)}
    (hy : plainName y.cls = true) (hw : ws = Cond.codeWith y cc maxL ret hh :: ws')
    (body : ∀ p e s m args below meth c s₁, BodyLoose p l y (headSpec ws rm) cc maxL ret e s m args below meth c s₁ → c.maxLocals = maxL → Pc args s →
      W p l e (headSpec ws rm).room s m args below meth c s.heap [] 0 0 (vx_MQ below Qc XC args s mc ms free) (entryFrame m args maxL)) : vx_Met l y ws rm Pc Qc XC mc ms free := by
  refine MetFree.of_bodyS (code := cc) (maxLocals := maxL) (ret := ret) hy ?_ ?_
  · intro args s m h hn
    obtain ⟨m9, meth, c, hn9, h1, h2, h3, h4, -, h5, h6, -⟩ := Cond.codeWith_spec (atoms_spec (ws := ws) h _ (by rw [hw]; exact List.mem_cons_self))
    cases hn.symm.trans hn9
    exact ⟨meth, c, h1, h2, h3, h4, h5, h6⟩
  · intro p e s m args below meth c s₁ B hml hP _
    have hh0 : s₁.heap = s.heap := by rw [B.state]; rfl
    obtain ⟨t, a1, o, b1, b2, b3⟩ := body p e s m args below meth c s₁ B hml hP s₁ hh0 (Stand.of_body B)
    exact ⟨t, o, a1, b1, b2, b3⟩
/-! ===== END ===== -/
end
section
/-! ===== BEGIN printed: names, fields, word lists, decode rows ===== -/
def RX0 : String := "NoiseKeys$Cells"
def TX0 : u_T := fun k => match k with
  | 0 => ("NoiseKeys$Cells", "n", "I", false)
  | 1 => ("NoiseKeys$Cells", "mask", "I", false)
  | _ => ("NoiseKeys$Cells", "told", "[[I", true)
def tyX0 : Nat → FieldType := fun k => match k with
  | 0 => .int
  | 1 => .int
  | _ => .array (.array .int)
abbrev wsX00 : List Cond := u_ws RX0 TX0 3
theorem nmX0 : ∀ a, a < 3 → ∀ b, b < 3 → a ≠ b → (TX0 a).2.1 ≠ (TX0 b).2.1 := by decide +kernel
theorem tyX0_ok : ∀ k, k < 3 → parseFieldDescriptor (TX0 k).2.2.1 = some (tyX0 k) := by decide +kernel
abbrev cX0_init : ByteArray := prog_2_method_1_code
def yX0_init : MethodName := ⟨RX0, "<init>", "()V"⟩
abbrev cX0_leastOf : ByteArray := prog_2_method_2_code
def yX0_leastOf : MethodName := ⟨RX0, "leastOf", "(I)I"⟩
abbrev cX0_greatestOf : ByteArray := prog_2_method_3_code
def yX0_greatestOf : MethodName := ⟨RX0, "greatestOf", "(I)I"⟩
abbrev cX0_change : ByteArray := prog_2_method_4_code
def yX0_change : MethodName := ⟨RX0, "change", "(III)I"⟩
abbrev cX0_isCell : ByteArray := prog_2_method_5_code
def yX0_isCell : MethodName := ⟨RX0, "isCell", "(I)Z"⟩
abbrev cX0_isWord : ByteArray := prog_2_method_6_code
def yX0_isWord : MethodName := ⟨RX0, "isWord", "(I)Z"⟩
abbrev cX0_isMasked : ByteArray := prog_2_method_7_code
def yX0_isMasked : MethodName := ⟨RX0, "isMasked", "(I)Z"⟩
abbrev cX0_open : ByteArray := prog_2_method_8_code
def yX0_open : MethodName := ⟨RX0, "open", "(I)I"⟩
abbrev cX0_openSet : ByteArray := prog_2_method_9_code
def yX0_openSet : MethodName := ⟨RX0, "openSet", "()I"⟩
abbrev cX0_openCells : ByteArray := prog_2_method_10_code
def yX0_openCells : MethodName := ⟨RX0, "openCells", "()I"⟩
abbrev cX0_allWays : ByteArray := prog_2_method_11_code
def yX0_allWays : MethodName := ⟨RX0, "allWays", "()J"⟩
abbrev cX0_agedChance : ByteArray := prog_2_method_12_code
def yX0_agedChance : MethodName := ⟨RX0, "agedChance", "(II)I"⟩
abbrev cX0_likelierThan : ByteArray := prog_2_method_13_code
def yX0_likelierThan : MethodName := ⟨RX0, "likelierThan", "(II)I"⟩
abbrev cX0_waysToBe : ByteArray := prog_2_method_14_code
def yX0_waysToBe : MethodName := ⟨RX0, "waysToBe", "(I)J"⟩
abbrev cX0_evenBitsLedByOne : ByteArray := prog_2_method_15_code
def yX0_evenBitsLedByOne : MethodName := ⟨RX0, "evenBitsLedByOne", "(I)I"⟩
abbrev cX0_expectedEvenBits : ByteArray := prog_2_method_16_code
def yX0_expectedEvenBits : MethodName := ⟨RX0, "expectedEvenBits", "()I"⟩
abbrev cX0_expectedOfTwo : ByteArray := prog_2_method_17_code
def yX0_expectedOfTwo : MethodName := ⟨RX0, "expectedOfTwo", "(II)I"⟩
abbrev cX0_mateOf : ByteArray := prog_2_method_18_code
def yX0_mateOf : MethodName := ⟨RX0, "mateOf", "(I)I"⟩
def RX1 : String := "NoiseKeys$Chips"
def TX1 : u_T := fun k => match k with
  | 0 => ("NoiseKeys$Chips", "many", "I", false)
  | 1 => ("NoiseKeys$Chips", "nominal", "[I", true)
  | 2 => ("NoiseKeys$Chips", "helped", "[Z", true)
  | 3 => ("NoiseKeys$Chips", "help", "[I", true)
  | _ => ("NoiseKeys$Chips", "key", "[I", true)
def tyX1 : Nat → FieldType := fun k => match k with
  | 0 => .int
  | 1 => .array .int
  | 2 => .array .boolean
  | 3 => .array .int
  | _ => .array .int
abbrev wsX10 : List Cond := u_ws RX1 TX1 5
theorem nmX1 : ∀ a, a < 5 → ∀ b, b < 5 → a ≠ b → (TX1 a).2.1 ≠ (TX1 b).2.1 := by decide +kernel
theorem tyX1_ok : ∀ k, k < 5 → parseFieldDescriptor (TX1 k).2.2.1 = some (tyX1 k) := by decide +kernel
abbrev cX1_init : ByteArray := prog_3_method_1_code
def yX1_init : MethodName := ⟨RX1, "<init>", "()V"⟩
abbrev cX1_isChip : ByteArray := prog_3_method_2_code
def yX1_isChip : MethodName := ⟨RX1, "isChip", "(I)Z"⟩
abbrev cX1_add : ByteArray := prog_3_method_3_code
def yX1_add : MethodName := ⟨RX1, "add", "(I)I"⟩
abbrev cX1_dropAll : ByteArray := prog_3_method_4_code
def yX1_dropAll : MethodName := ⟨RX1, "dropAll", "()V"⟩
abbrev cX1_giveHelp : ByteArray := prog_3_method_5_code
def yX1_giveHelp : MethodName := ⟨RX1, "giveHelp", "(III)V"⟩
abbrev cX1_dropHelp : ByteArray := prog_3_method_6_code
def yX1_dropHelp : MethodName := ⟨RX1, "dropHelp", "()V"⟩
abbrev cX1_withHelp : ByteArray := prog_3_method_7_code
def yX1_withHelp : MethodName := ⟨RX1, "withHelp", "()I"⟩
abbrev cX1_nearest : ByteArray := prog_3_method_8_code
def yX1_nearest : MethodName := ⟨RX1, "nearest", "(II)I"⟩
abbrev cX1_hasLoneNearest : ByteArray := prog_3_method_9_code
def yX1_hasLoneNearest : MethodName := ⟨RX1, "hasLoneNearest", "(II)Z"⟩
abbrev cX1_fewestApart : ByteArray := prog_3_method_10_code
def yX1_fewestApart : MethodName := ⟨RX1, "fewestApart", "(I)I"⟩
abbrev cX1_onesAt : ByteArray := prog_3_method_11_code
def yX1_onesAt : MethodName := ⟨RX1, "onesAt", "(I)I"⟩
def RX2 : String := "NoiseKeys$Code"
def TX2 : u_T := fun k => match k with
  | 0 => ("NoiseKeys$Code", "rows", "I", false)
  | _ => ("NoiseKeys$Code", "words", "[I", true)
def tyX2 : Nat → FieldType := fun k => match k with
  | 0 => .int
  | _ => .array .int
abbrev wsX20 : List Cond := u_ws RX2 TX2 2
theorem nmX2 : ∀ a, a < 2 → ∀ b, b < 2 → a ≠ b → (TX2 a).2.1 ≠ (TX2 b).2.1 := by decide +kernel
theorem tyX2_ok : ∀ k, k < 2 → parseFieldDescriptor (TX2 k).2.2.1 = some (tyX2 k) := by decide +kernel
abbrev cX2_init : ByteArray := prog_4_method_1_code
def yX2_init : MethodName := ⟨RX2, "<init>", "()V"⟩
abbrev cX2_keys : ByteArray := prog_4_method_2_code
def yX2_keys : MethodName := ⟨RX2, "keys", "()I"⟩
abbrev cX2_isKey : ByteArray := prog_4_method_3_code
def yX2_isKey : MethodName := ⟨RX2, "isKey", "(I)Z"⟩
abbrev cX2_dropRows : ByteArray := prog_4_method_4_code
def yX2_dropRows : MethodName := ⟨RX2, "dropRows", "()V"⟩
abbrev cX2_holds : ByteArray := prog_4_method_5_code
def yX2_holds : MethodName := ⟨RX2, "holds", "(I)Z"⟩
abbrev cX2_addRow : ByteArray := prog_4_method_6_code
def yX2_addRow : MethodName := ⟨RX2, "addRow", "(I)V"⟩
abbrev cX2_fewestBits : ByteArray := prog_4_method_7_code
def yX2_fewestBits : MethodName := ⟨RX2, "fewestBits", "()I"⟩
abbrev cX2_nearestKey : ByteArray := prog_4_method_8_code
def yX2_nearestKey : MethodName := ⟨RX2, "nearestKey", "(I)I"⟩
abbrev cX2_hasOneNearest : ByteArray := prog_4_method_9_code
def yX2_hasOneNearest : MethodName := ⟨RX2, "hasOneNearest", "(I)Z"⟩
def RX3 : String := "NoiseKeys$Flips"
def TX3 : u_T := fun k => match k with
  | 0 => ("NoiseKeys$Flips", "cells", "LNoiseKeys$Cells;", true)
  | 1 => ("NoiseKeys$Flips", "code", "LNoiseKeys$Code;", true)
  | 2 => ("NoiseKeys$Flips", "flip", "[I", true)
  | _ => ("NoiseKeys$Flips", "stay", "[I", true)
def tyX3 : Nat → FieldType := fun k => match k with
  | 0 => .object "NoiseKeys$Cells"
  | 1 => .object "NoiseKeys$Code"
  | 2 => .array .int
  | _ => .array .int
abbrev wsX30 : List Cond := u_ws RX3 TX3 4
theorem nmX3 : ∀ a, a < 4 → ∀ b, b < 4 → a ≠ b → (TX3 a).2.1 ≠ (TX3 b).2.1 := by decide +kernel
theorem tyX3_ok : ∀ k, k < 4 → parseFieldDescriptor (TX3 k).2.2.1 = some (tyX3 k) := by decide +kernel
abbrev cX3_init : ByteArray := prog_5_method_1_code
def yX3_init : MethodName := ⟨RX3, "<init>", "(LNoiseKeys$Cells;LNoiseKeys$Code;)V"⟩
abbrev cX3_harmful : ByteArray := prog_5_method_2_code
def yX3_harmful : MethodName := ⟨RX3, "harmful", "(II)J"⟩
abbrev cX3_growTo : ByteArray := prog_5_method_3_code
def yX3_growTo : MethodName := ⟨RX3, "growTo", "(I)V"⟩
abbrev cX3_harmless : ByteArray := prog_5_method_4_code
def yX3_harmless : MethodName := ⟨RX3, "harmless", "(LNoiseKeys$Flips;IIIJ)J"⟩
def RX4 : String := "NoiseKeys$Pairs"
def TX4 : u_T := fun k => match k with
  | 0 => ("NoiseKeys$Pairs", "many", "I", false)
  | 1 => ("NoiseKeys$Pairs", "seen", "[Z", true)
  | 2 => ("NoiseKeys$Pairs", "answer", "[I", true)
  | 3 => ("NoiseKeys$Pairs", "used", "[Z", true)
  | 4 => ("NoiseKeys$Pairs", "surveyed", "Z", false)
  | 5 => ("NoiseKeys$Pairs", "planes", "I", false)
  | 6 => ("NoiseKeys$Pairs", "first", "[I", true)
  | 7 => ("NoiseKeys$Pairs", "sayingOne", "[I", true)
  | 8 => ("NoiseKeys$Pairs", "weights", "[I", true)
  | _ => ("NoiseKeys$Pairs", "sums", "[I", true)
def tyX4 : Nat → FieldType := fun k => match k with
  | 0 => .int
  | 1 => .array .boolean
  | 2 => .array .int
  | 3 => .array .boolean
  | 4 => .boolean
  | 5 => .int
  | 6 => .array .int
  | 7 => .array .int
  | 8 => .array .int
  | _ => .array .int
abbrev wsX40 : List Cond := u_ws RX4 TX4 10
theorem nmX4 : ∀ a, a < 10 → ∀ b, b < 10 → a ≠ b → (TX4 a).2.1 ≠ (TX4 b).2.1 := by decide +kernel
theorem tyX4_ok : ∀ k, k < 10 → parseFieldDescriptor (TX4 k).2.2.1 = some (tyX4 k) := by decide +kernel
abbrev cX4_init : ByteArray := prog_6_method_1_code
def yX4_init : MethodName := ⟨RX4, "<init>", "()V"⟩
abbrev cX4_isQuestion : ByteArray := prog_6_method_2_code
def yX4_isQuestion : MethodName := ⟨RX4, "isQuestion", "(I)Z"⟩
abbrev cX4_isAnswer : ByteArray := prog_6_method_3_code
def yX4_isAnswer : MethodName := ⟨RX4, "isAnswer", "(I)Z"⟩
abbrev cX4_keep : ByteArray := prog_6_method_4_code
def yX4_keep : MethodName := ⟨RX4, "keep", "(II)V"⟩
abbrev cX4_usedOnes : ByteArray := prog_6_method_5_code
def yX4_usedOnes : MethodName := ⟨RX4, "usedOnes", "()I"⟩
abbrev cX4_foretell : ByteArray := prog_6_method_6_code
def yX4_foretell : MethodName := ⟨RX4, "foretell", "(I)I"⟩
abbrev cX4_halvingQuestion : ByteArray := prog_6_method_7_code
def yX4_halvingQuestion : MethodName := ⟨RX4, "halvingQuestion", "()I"⟩
abbrev cX4_survey : ByteArray := prog_6_method_8_code
def yX4_survey : MethodName := ⟨RX4, "survey", "()V"⟩
abbrev cX4_weigh : ByteArray := prog_6_method_9_code
def yX4_weigh : MethodName := ⟨RX4, "weigh", "(I)V"⟩
abbrev cX4_leastLimit : ByteArray := prog_6_method_10_code
def yX4_leastLimit : MethodName := ⟨RX4, "leastLimit", "()I"⟩
abbrev cX4_greatestLimit : ByteArray := prog_6_method_11_code
def yX4_greatestLimit : MethodName := ⟨RX4, "greatestLimit", "()I"⟩
abbrev cX4_countPlanes : ByteArray := prog_6_method_12_code
def yX4_countPlanes : MethodName := ⟨RX4, "countPlanes", "(II)V"⟩
def RX5 : String := "NoiseKeys"
def TX5 : u_T := fun k => match k with
  | 0 => ("NoiseKeys", "ownCells", "LNoiseKeys$Cells;", true)
  | 1 => ("NoiseKeys", "ownCode", "LNoiseKeys$Code;", true)
  | 2 => ("NoiseKeys", "ownChips", "LNoiseKeys$Chips;", true)
  | 3 => ("NoiseKeys", "ownPairs", "LNoiseKeys$Pairs;", true)
  | 4 => ("NoiseKeys", "flips", "LNoiseKeys$Flips;", true)
  | _ => ("NoiseKeys", "refusals", "[I", true)
def tyX5 : Nat → FieldType := fun k => match k with
  | 0 => .object "NoiseKeys$Cells"
  | 1 => .object "NoiseKeys$Code"
  | 2 => .object "NoiseKeys$Chips"
  | 3 => .object "NoiseKeys$Pairs"
  | 4 => .object "NoiseKeys$Flips"
  | _ => .array .int
abbrev wsX50 : List Cond := u_ws RX5 TX5 6
theorem nmX5 : ∀ a, a < 6 → ∀ b, b < 6 → a ≠ b → (TX5 a).2.1 ≠ (TX5 b).2.1 := by decide +kernel
theorem tyX5_ok : ∀ k, k < 6 → parseFieldDescriptor (TX5 k).2.2.1 = some (tyX5 k) := by decide +kernel
abbrev cX5_init : ByteArray := prog_1_method_1_code
def yX5_init : MethodName := ⟨RX5, "<init>", "()V"⟩
abbrev cX5_cells : ByteArray := prog_1_method_2_code
def yX5_cells : MethodName := ⟨RX5, "cells", "(I)I"⟩
abbrev cX5_chip : ByteArray := prog_1_method_3_code
def yX5_chip : MethodName := ⟨RX5, "chip", "(I)I"⟩
abbrev cX5_set : ByteArray := prog_1_method_4_code
def yX5_set : MethodName := ⟨RX5, "set", "(III)I"⟩
abbrev cX5_chance : ByteArray := prog_1_method_5_code
def yX5_chance : MethodName := ⟨RX5, "chance", "(II)I"⟩
abbrev cX5_mask : ByteArray := prog_1_method_6_code
def yX5_mask : MethodName := ⟨RX5, "mask", "(I)I"⟩
abbrev cX5_maskBy : ByteArray := prog_1_method_7_code
def yX5_maskBy : MethodName := ⟨RX5, "maskBy", "(II)I"⟩
abbrev cX5_row : ByteArray := prog_1_method_8_code
def yX5_row : MethodName := ⟨RX5, "row", "(I)I"⟩
abbrev cX5_distance : ByteArray := prog_1_method_9_code
def yX5_distance : MethodName := ⟨RX5, "distance", "()I"⟩
abbrev cX5_codeword : ByteArray := prog_1_method_10_code
def yX5_codeword : MethodName := ⟨RX5, "codeword", "(I)I"⟩
abbrev cX5_mended : ByteArray := prog_1_method_11_code
def yX5_mended : MethodName := ⟨RX5, "mended", "(I)I"⟩
abbrev cX5_clear : ByteArray := prog_1_method_12_code
def yX5_clear : MethodName := ⟨RX5, "clear", "(I)I"⟩
abbrev cX5_enrol : ByteArray := prog_1_method_13_code
def yX5_enrol : MethodName := ⟨RX5, "enrol", "(II)I"⟩
abbrev cX5_reading : ByteArray := prog_1_method_14_code
def yX5_reading : MethodName := ⟨RX5, "reading", "(II)I"⟩
abbrev cX5_fail : ByteArray := prog_1_method_15_code
def yX5_fail : MethodName := ⟨RX5, "fail", "(II)J"⟩
abbrev cX5_all : ByteArray := prog_1_method_16_code
def yX5_all : MethodName := ⟨RX5, "all", "()J"⟩
abbrev cX5_lasts : ByteArray := prog_1_method_17_code
def yX5_lasts : MethodName := ⟨RX5, "lasts", "(II)I"⟩
abbrev cX5_guess : ByteArray := prog_1_method_18_code
def yX5_guess : MethodName := ⟨RX5, "guess", "(I)I"⟩
abbrev cX5_weight : ByteArray := prog_1_method_19_code
def yX5_weight : MethodName := ⟨RX5, "weight", "(IZ)J"⟩
abbrev cX5_leak : ByteArray := prog_1_method_20_code
def yX5_leak : MethodName := ⟨RX5, "leak", "()I"⟩
abbrev cX5_even : ByteArray := prog_1_method_21_code
def yX5_even : MethodName := ⟨RX5, "even", "(II)I"⟩
abbrev cX5_expected : ByteArray := prog_1_method_22_code
def yX5_expected : MethodName := ⟨RX5, "expected", "()I"⟩
abbrev cX5_pair : ByteArray := prog_1_method_23_code
def yX5_pair : MethodName := ⟨RX5, "pair", "(II)I"⟩
abbrev cX5_planes : ByteArray := prog_1_method_24_code
def yX5_planes : MethodName := ⟨RX5, "planes", "()I"⟩
abbrev cX5_plane : ByteArray := prog_1_method_25_code
def yX5_plane : MethodName := ⟨RX5, "plane", "(I)I"⟩
abbrev cX5_foretold : ByteArray := prog_1_method_26_code
def yX5_foretold : MethodName := ⟨RX5, "foretold", "(I)I"⟩
abbrev cX5_next : ByteArray := prog_1_method_27_code
def yX5_next : MethodName := ⟨RX5, "next", "()I"⟩
abbrev cX5_check : ByteArray := prog_1_method_28_code
def yX5_check : MethodName := ⟨RX5, "check", "(II)I"⟩
abbrev cX5_whose : ByteArray := prog_1_method_29_code
def yX5_whose : MethodName := ⟨RX5, "whose", "(I)I"⟩
abbrev cX5_sure : ByteArray := prog_1_method_30_code
def yX5_sure : MethodName := ⟨RX5, "sure", "(I)I"⟩
abbrev cX5_apart : ByteArray := prog_1_method_31_code
def yX5_apart : MethodName := ⟨RX5, "apart", "()I"⟩
abbrev cX5_odd : ByteArray := prog_1_method_32_code
def yX5_odd : MethodName := ⟨RX5, "odd", "(I)I"⟩
abbrev cX5_count : ByteArray := prog_1_method_33_code
def yX5_count : MethodName := ⟨RX5, "count", "(I)I"⟩
abbrev cX5_refuse : ByteArray := prog_1_method_34_code
def yX5_refuse : MethodName := ⟨RX5, "refuse", "(I)I"⟩
abbrev cX5_leaveOut : ByteArray := prog_1_method_35_code
def yX5_leaveOut : MethodName := ⟨RX5, "leaveOut", "(I)V"⟩
abbrev cX5_firstAgeAbove : ByteArray := prog_1_method_36_code
def yX5_firstAgeAbove : MethodName := ⟨RX5, "firstAgeAbove", "(II)I"⟩
abbrev cX5_failsAbove : ByteArray := prog_1_method_37_code
def yX5_failsAbove : MethodName := ⟨RX5, "failsAbove", "(III)Z"⟩
abbrev cX5_likeliestKey : ByteArray := prog_1_method_38_code
def yX5_likeliestKey : MethodName := ⟨RX5, "likeliestKey", "(I)I"⟩
abbrev cX5_waysOfAllKeys : ByteArray := prog_1_method_39_code
def yX5_waysOfAllKeys : MethodName := ⟨RX5, "waysOfAllKeys", "(I)J"⟩
abbrev cX5_waysOfKey : ByteArray := prog_1_method_40_code
def yX5_waysOfKey : MethodName := ⟨RX5, "waysOfKey", "(II)J"⟩
def RX6 : String := "NoiseKeysModel"
def TX6 : u_T := fun k => match k with
  | 0 => ("NoiseKeysModel", "refusals", "[I", true)
  | 1 => ("NoiseKeysModel", "chances", "[I", true)
  | 2 => ("NoiseKeysModel", "wears", "[I", true)
  | 3 => ("NoiseKeysModel", "leans", "[I", true)
  | 4 => ("NoiseKeysModel", "nominal", "[I", true)
  | 5 => ("NoiseKeysModel", "help", "[I", true)
  | 6 => ("NoiseKeysModel", "keys", "[I", true)
  | 7 => ("NoiseKeysModel", "rows", "[I", true)
  | 8 => ("NoiseKeysModel", "answers", "[I", true)
  | 9 => ("NoiseKeysModel", "hasHelp", "[Z", true)
  | 10 => ("NoiseKeysModel", "used", "[Z", true)
  | 11 => ("NoiseKeysModel", "n", "I", false)
  | 12 => ("NoiseKeysModel", "chips", "I", false)
  | 13 => ("NoiseKeysModel", "mask", "I", false)
  | 14 => ("NoiseKeysModel", "k", "I", false)
  | 15 => ("NoiseKeysModel", "thrown", "I", false)
  | 16 => ("NoiseKeysModel", "table", "[I", true)
  | 17 => ("NoiseKeysModel", "code", "[I", true)
  | 18 => ("NoiseKeysModel", "isClear", "[Z", true)
  | 19 => ("NoiseKeysModel", "isMade", "Z", false)
  | 20 => ("NoiseKeysModel", "parts", "[J", true)
  | 21 => ("NoiseKeysModel", "planes", "I", false)
  | 22 => ("NoiseKeysModel", "first", "[I", true)
  | 23 => ("NoiseKeysModel", "ones", "[I", true)
  | _ => ("NoiseKeysModel", "w", "[I", true)
def tyX6 : Nat → FieldType := fun k => match k with
  | 0 => .array .int
  | 1 => .array .int
  | 2 => .array .int
  | 3 => .array .int
  | 4 => .array .int
  | 5 => .array .int
  | 6 => .array .int
  | 7 => .array .int
  | 8 => .array .int
  | 9 => .array .boolean
  | 10 => .array .boolean
  | 11 => .int
  | 12 => .int
  | 13 => .int
  | 14 => .int
  | 15 => .int
  | 16 => .array .int
  | 17 => .array .int
  | 18 => .array .boolean
  | 19 => .boolean
  | 20 => .array .long
  | 21 => .int
  | 22 => .array .int
  | 23 => .array .int
  | _ => .array .int
abbrev wsX60 : List Cond := u_ws RX6 TX6 25
theorem nmX6 : ∀ a, a < 25 → ∀ b, b < 25 → a ≠ b → (TX6 a).2.1 ≠ (TX6 b).2.1 := by decide +kernel
theorem tyX6_ok : ∀ k, k < 25 → parseFieldDescriptor (TX6 k).2.2.1 = some (tyX6 k) := by decide +kernel
abbrev cX6_init : ByteArray := prog_8_method_1_code
def yX6_init : MethodName := ⟨RX6, "<init>", "()V"⟩
abbrev cX6_thrown : ByteArray := prog_8_method_2_code
def yX6_thrown : MethodName := ⟨RX6, "thrown", "()I"⟩
abbrev cX6_raises : ByteArray := prog_8_method_3_code
def yX6_raises : MethodName := ⟨RX6, "raises", "(I)I"⟩
abbrev cX6_refuse : ByteArray := prog_8_method_4_code
def yX6_refuse : MethodName := ⟨RX6, "refuse", "(I)I"⟩
abbrev cX6_isIn : ByteArray := prog_8_method_5_code
def yX6_isIn : MethodName := ⟨RX6, "isIn", "(II)Z"⟩
abbrev cX6_wrong : ByteArray := prog_8_method_6_code
def yX6_wrong : MethodName := ⟨RX6, "wrong", "(III)I"⟩
abbrev cX6_isWord : ByteArray := prog_8_method_7_code
def yX6_isWord : MethodName := ⟨RX6, "isWord", "(I)Z"⟩
abbrev cX6_bits : ByteArray := prog_8_method_8_code
def yX6_bits : MethodName := ⟨RX6, "bits", "(I)I"⟩
abbrev cX6_open : ByteArray := prog_8_method_9_code
def yX6_open : MethodName := ⟨RX6, "open", "()I"⟩
abbrev cX6_noRows : ByteArray := prog_8_method_10_code
def yX6_noRows : MethodName := ⟨RX6, "noRows", "()V"⟩
abbrev cX6_noHelp : ByteArray := prog_8_method_11_code
def yX6_noHelp : MethodName := ⟨RX6, "noHelp", "()V"⟩
abbrev cX6_cells : ByteArray := prog_8_method_12_code
def yX6_cells : MethodName := ⟨RX6, "cells", "(I)I"⟩
abbrev cX6_chip : ByteArray := prog_8_method_13_code
def yX6_chip : MethodName := ⟨RX6, "chip", "(I)I"⟩
abbrev cX6_set : ByteArray := prog_8_method_14_code
def yX6_set : MethodName := ⟨RX6, "set", "(III)I"⟩
abbrev cX6_worn : ByteArray := prog_8_method_15_code
def yX6_worn : MethodName := ⟨RX6, "worn", "(II)I"⟩
abbrev cX6_chanceOf : ByteArray := prog_8_method_16_code
def yX6_chanceOf : MethodName := ⟨RX6, "chanceOf", "(II)I"⟩
abbrev cX6_chance : ByteArray := prog_8_method_17_code
def yX6_chance : MethodName := ⟨RX6, "chance", "(II)I"⟩
abbrev cX6_masks : ByteArray := prog_8_method_18_code
def yX6_masks : MethodName := ⟨RX6, "masks", "(I)V"⟩
abbrev cX6_mask : ByteArray := prog_8_method_19_code
def yX6_mask : MethodName := ⟨RX6, "mask", "(I)I"⟩
abbrev cX6_maskBy : ByteArray := prog_8_method_20_code
def yX6_maskBy : MethodName := ⟨RX6, "maskBy", "(II)I"⟩
abbrev cX6_codewordOf : ByteArray := prog_8_method_21_code
def yX6_codewordOf : MethodName := ⟨RX6, "codewordOf", "(I)I"⟩
abbrev cX6_row : ByteArray := prog_8_method_22_code
def yX6_row : MethodName := ⟨RX6, "row", "(I)I"⟩
abbrev cX6_distance : ByteArray := prog_8_method_23_code
def yX6_distance : MethodName := ⟨RX6, "distance", "()I"⟩
abbrev cX6_isKey : ByteArray := prog_8_method_24_code
def yX6_isKey : MethodName := ⟨RX6, "isKey", "(I)Z"⟩
abbrev cX6_codeword : ByteArray := prog_8_method_25_code
def yX6_codeword : MethodName := ⟨RX6, "codeword", "(I)I"⟩
abbrev cX6_makes : ByteArray := prog_8_method_26_code
def yX6_makes : MethodName := ⟨RX6, "makes", "()V"⟩
abbrev cX6_mended : ByteArray := prog_8_method_27_code
def yX6_mended : MethodName := ⟨RX6, "mended", "(I)I"⟩
abbrev cX6_clear : ByteArray := prog_8_method_28_code
def yX6_clear : MethodName := ⟨RX6, "clear", "(I)I"⟩
abbrev cX6_isChip : ByteArray := prog_8_method_29_code
def yX6_isChip : MethodName := ⟨RX6, "isChip", "(I)Z"⟩
abbrev cX6_enrol : ByteArray := prog_8_method_30_code
def yX6_enrol : MethodName := ⟨RX6, "enrol", "(II)I"⟩
abbrev cX6_reading : ByteArray := prog_8_method_31_code
def yX6_reading : MethodName := ⟨RX6, "reading", "(II)I"⟩
abbrev cX6_failOf : ByteArray := prog_8_method_32_code
def yX6_failOf : MethodName := ⟨RX6, "failOf", "(II)J"⟩
abbrev cX6_allOf : ByteArray := prog_8_method_33_code
def yX6_allOf : MethodName := ⟨RX6, "allOf", "()J"⟩
abbrev cX6_fail : ByteArray := prog_8_method_34_code
def yX6_fail : MethodName := ⟨RX6, "fail", "(II)J"⟩
abbrev cX6_all : ByteArray := prog_8_method_35_code
def yX6_all : MethodName := ⟨RX6, "all", "()J"⟩
abbrev cX6_lasts : ByteArray := prog_8_method_36_code
def yX6_lasts : MethodName := ⟨RX6, "lasts", "(II)I"⟩
abbrev cX6_weightOf : ByteArray := prog_8_method_37_code
def yX6_weightOf : MethodName := ⟨RX6, "weightOf", "(I)J"⟩
abbrev cX6_bestGuess : ByteArray := prog_8_method_38_code
def yX6_bestGuess : MethodName := ⟨RX6, "bestGuess", "(I)I"⟩
abbrev cX6_guess : ByteArray := prog_8_method_39_code
def yX6_guess : MethodName := ⟨RX6, "guess", "(I)I"⟩
abbrev cX6_weight : ByteArray := prog_8_method_40_code
def yX6_weight : MethodName := ⟨RX6, "weight", "(IZ)J"⟩
abbrev cX6_leak : ByteArray := prog_8_method_41_code
def yX6_leak : MethodName := ⟨RX6, "leak", "()I"⟩
abbrev cX6_openAt : ByteArray := prog_8_method_42_code
def yX6_openAt : MethodName := ⟨RX6, "openAt", "(I)I"⟩
abbrev cX6_even : ByteArray := prog_8_method_43_code
def yX6_even : MethodName := ⟨RX6, "even", "(II)I"⟩
abbrev cX6_expected : ByteArray := prog_8_method_44_code
def yX6_expected : MethodName := ⟨RX6, "expected", "()I"⟩
abbrev cX6_findPlanes : ByteArray := prog_8_method_45_code
def yX6_findPlanes : MethodName := ⟨RX6, "findPlanes", "()V"⟩
abbrev cX6_says : ByteArray := prog_8_method_46_code
def yX6_says : MethodName := ⟨RX6, "says", "(II)I"⟩
abbrev cX6_isPlane : ByteArray := prog_8_method_47_code
def yX6_isPlane : MethodName := ⟨RX6, "isPlane", "(I)Z"⟩
abbrev cX6_adds : ByteArray := prog_8_method_48_code
def yX6_adds : MethodName := ⟨RX6, "adds", "(I)V"⟩
abbrev cX6_pairs : ByteArray := prog_8_method_49_code
def yX6_pairs : MethodName := ⟨RX6, "pairs", "()I"⟩
abbrev cX6_pair : ByteArray := prog_8_method_50_code
def yX6_pair : MethodName := ⟨RX6, "pair", "(II)I"⟩
abbrev cX6_planes : ByteArray := prog_8_method_51_code
def yX6_planes : MethodName := ⟨RX6, "planes", "()I"⟩
abbrev cX6_plane : ByteArray := prog_8_method_52_code
def yX6_plane : MethodName := ⟨RX6, "plane", "(I)I"⟩
abbrev cX6_foretold : ByteArray := prog_8_method_53_code
def yX6_foretold : MethodName := ⟨RX6, "foretold", "(I)I"⟩
abbrev cX6_next : ByteArray := prog_8_method_54_code
def yX6_next : MethodName := ⟨RX6, "next", "()I"⟩
abbrev cX6_check : ByteArray := prog_8_method_55_code
def yX6_check : MethodName := ⟨RX6, "check", "(II)I"⟩
abbrev cX6_far : ByteArray := prog_8_method_56_code
def yX6_far : MethodName := ⟨RX6, "far", "(II)I"⟩
abbrev cX6_whoseOf : ByteArray := prog_8_method_57_code
def yX6_whoseOf : MethodName := ⟨RX6, "whoseOf", "(I)I"⟩
abbrev cX6_whose : ByteArray := prog_8_method_58_code
def yX6_whose : MethodName := ⟨RX6, "whose", "(I)I"⟩
abbrev cX6_sure : ByteArray := prog_8_method_59_code
def yX6_sure : MethodName := ⟨RX6, "sure", "(I)I"⟩
abbrev cX6_apart : ByteArray := prog_8_method_60_code
def yX6_apart : MethodName := ⟨RX6, "apart", "()I"⟩
abbrev cX6_odd : ByteArray := prog_8_method_61_code
def yX6_odd : MethodName := ⟨RX6, "odd", "(I)I"⟩
abbrev cX6_count : ByteArray := prog_8_method_62_code
def yX6_count : MethodName := ⟨RX6, "count", "(I)I"⟩
def RJ6 : String := "java/lang/Integer"
def TJ6 : u_T := fun k => match k with
  | _ => ("", "", "", false)
def tyJ6 : Nat → FieldType := fun k => match k with
  | _ => .int
abbrev wsJ60 : List Cond := u_ws RJ6 TJ6 0
theorem nmJ6 : ∀ a, a < 0 → ∀ b, b < 0 → a ≠ b → (TJ6 a).2.1 ≠ (TJ6 b).2.1 := by decide +kernel
theorem tyJ6_ok : ∀ k, k < 0 → parseFieldDescriptor (TJ6 k).2.2.1 = some (tyJ6 k) := by decide +kernel
abbrev cJ6_highestOneBit_0f7a4 : ByteArray := prog_12_method_45_code
def yJ6_highestOneBit_0f7a4 : MethodName := ⟨RJ6, "highestOneBit", "(I)I"⟩
abbrev cJ6_numberOfLeadingZeros_0f7a4 : ByteArray := prog_12_method_47_code
def yJ6_numberOfLeadingZeros_0f7a4 : MethodName := ⟨RJ6, "numberOfLeadingZeros", "(I)I"⟩
abbrev cJ6_numberOfTrailingZeros_0f7a4 : ByteArray := prog_12_method_48_code
def yJ6_numberOfTrailingZeros_0f7a4 : MethodName := ⟨RJ6, "numberOfTrailingZeros", "(I)I"⟩
abbrev cJ6_bitCount_0f7a4 : ByteArray := prog_12_method_49_code
def yJ6_bitCount_0f7a4 : MethodName := ⟨RJ6, "bitCount", "(I)I"⟩
def RJ9 : String := "java/lang/Math"
def TJ9 : u_T := fun k => match k with
  | _ => ("", "", "", false)
def tyJ9 : Nat → FieldType := fun k => match k with
  | _ => .int
abbrev wsJ90 : List Cond := u_ws RJ9 TJ9 0
theorem nmJ9 : ∀ a, a < 0 → ∀ b, b < 0 → a ≠ b → (TJ9 a).2.1 ≠ (TJ9 b).2.1 := by decide +kernel
theorem tyJ9_ok : ∀ k, k < 0 → parseFieldDescriptor (TJ9 k).2.2.1 = some (tyJ9 k) := by decide +kernel
abbrev cJ9_max_7cf53 : ByteArray := prog_13_method_65_code
def yJ9_max_7cf53 : MethodName := ⟨RJ9, "max", "(II)I"⟩
abbrev cJ9_min_7cf53 : ByteArray := prog_13_method_69_code
def yJ9_min_7cf53 : MethodName := ⟨RJ9, "min", "(II)I"⟩
def RJ0 : String := "java/lang/String"
def TJ0 : u_T := fun k => match k with
  | _ => ("", "", "", false)
def tyJ0 : Nat → FieldType := fun k => match k with
  | _ => .int
abbrev wsJ00 : List Cond := u_ws RJ0 TJ0 0
theorem nmJ0 : ∀ a, a < 0 → ∀ b, b < 0 → a ≠ b → (TJ0 a).2.1 ≠ (TJ0 b).2.1 := by decide +kernel
theorem tyJ0_ok : ∀ k, k < 0 → parseFieldDescriptor (TJ0 k).2.2.1 = some (tyJ0 k) := by decide +kernel
def RJ10 : String := "java/lang/System"
def TJ10 : u_T := fun k => match k with
  | _ => ("", "", "", false)
def tyJ10 : Nat → FieldType := fun k => match k with
  | _ => .int
abbrev wsJ100 : List Cond := u_ws RJ10 TJ10 0
theorem nmJ10 : ∀ a, a < 0 → ∀ b, b < 0 → a ≠ b → (TJ10 a).2.1 ≠ (TJ10 b).2.1 := by decide +kernel
theorem tyJ10_ok : ∀ k, k < 0 → parseFieldDescriptor (TJ10 k).2.2.1 = some (tyJ10 k) := by decide +kernel
def RL : String := "NoiseKeysLaw"
abbrev cL_fail : ByteArray := method_3_code
def yL_fail : MethodName := ⟨RL, "fail", "(LNoiseKeys;II[J)I"⟩
abbrev cL_weight : ByteArray := method_4_code
def yL_weight : MethodName := ⟨RL, "weight", "(LNoiseKeys;IZ[J)I"⟩
abbrev cL_law : ByteArray := code
def yL_law : MethodName := ⟨RL, "law", "([I)Z"⟩
abbrev vwCl : List vw_C := [(RX0, TX0, 3), (RX1, TX1, 5), (RX2, TX2, 2), (RX3, TX3, 4), (RX4, TX4, 10), (RX5, TX5, 6), (RX6, TX6, 25)]
end
section
theorem dX0_init_0 : decode cX0_init 0 = .ok (.aload_n 0, 1) := by decide +kernel
theorem dX0_init_1 : decode cX0_init 1 = .ok (.invokespecial 3, 3) := by decide +kernel
theorem dX0_init_4 : decode cX0_init 4 = .ok (.aload_n 0, 1) := by decide +kernel
theorem dX0_init_5 : decode cX0_init 5 = .ok (.bipush 8, 2) := by decide +kernel
theorem dX0_init_7 : decode cX0_init 7 = .ok (.putfield 9, 3) := by decide +kernel
theorem dX0_init_10 : decode cX0_init 10 = .ok (.aload_n 0, 1) := by decide +kernel
theorem dX0_init_11 : decode cX0_init 11 = .ok (.iconst 0, 1) := by decide +kernel
theorem dX0_init_12 : decode cX0_init 12 = .ok (.putfield 15, 3) := by decide +kernel
theorem dX0_init_15 : decode cX0_init 15 = .ok (.aload_n 0, 1) := by decide +kernel
theorem dX0_init_16 : decode cX0_init 16 = .ok (.iconst 3, 1) := by decide +kernel
theorem dX0_init_17 : decode cX0_init 17 = .ok (.bipush 14, 2) := by decide +kernel
theorem dX0_init_19 : decode cX0_init 19 = .ok (.multianewarray 18 2, 4) := by decide +kernel
theorem dX0_init_23 : decode cX0_init 23 = .ok (.putfield 20, 3) := by decide +kernel
theorem dX0_init_26 : decode cX0_init 26 = .ok (.iconst 0, 1) := by decide +kernel
theorem dX0_init_27 : decode cX0_init 27 = .ok (.istore_n 1, 1) := by decide +kernel
theorem dX0_init_28 : decode cX0_init 28 = .ok (.iload_n 1, 1) := by decide +kernel
theorem dX0_init_29 : decode cX0_init 29 = .ok (.bipush 14, 2) := by decide +kernel
theorem dX0_init_31 : decode cX0_init 31 = .ok (.if_icmp .ge 27, 3) := by decide +kernel
theorem dX0_init_34 : decode cX0_init 34 = .ok (.aload_n 0, 1) := by decide +kernel
theorem dX0_init_35 : decode cX0_init 35 = .ok (.getfield 20, 3) := by decide +kernel
theorem dX0_init_38 : decode cX0_init 38 = .ok (.iconst 0, 1) := by decide +kernel
theorem dX0_init_39 : decode cX0_init 39 = .ok (.aaload, 1) := by decide +kernel
theorem dX0_init_40 : decode cX0_init 40 = .ok (.iload_n 1, 1) := by decide +kernel
theorem dX0_init_41 : decode cX0_init 41 = .ok (.iconst 1, 1) := by decide +kernel
theorem dX0_init_42 : decode cX0_init 42 = .ok (.iastore, 1) := by decide +kernel
theorem dX0_init_43 : decode cX0_init 43 = .ok (.aload_n 0, 1) := by decide +kernel
theorem dX0_init_44 : decode cX0_init 44 = .ok (.getfield 20, 3) := by decide +kernel
theorem dX0_init_47 : decode cX0_init 47 = .ok (.iconst 2, 1) := by decide +kernel
theorem dX0_init_48 : decode cX0_init 48 = .ok (.aaload, 1) := by decide +kernel
theorem dX0_init_49 : decode cX0_init 49 = .ok (.iload_n 1, 1) := by decide +kernel
theorem dX0_init_50 : decode cX0_init 50 = .ok (.iconst 4, 1) := by decide +kernel
theorem dX0_init_51 : decode cX0_init 51 = .ok (.iastore, 1) := by decide +kernel
theorem dX0_init_52 : decode cX0_init 52 = .ok (.iinc 1 1, 3) := by decide +kernel
theorem dX0_init_55 : decode cX0_init 55 = .ok (.goto (-27), 3) := by decide +kernel
theorem dX0_init_58 : decode cX0_init 58 = .ok (.return_, 1) := by decide +kernel
theorem dX0_leastOf_0 : decode cX0_leastOf 0 = .ok (.iload_n 0, 1) := by decide +kernel
theorem dX0_leastOf_1 : decode cX0_leastOf 1 = .ok (.iconst 2, 1) := by decide +kernel
theorem dX0_leastOf_2 : decode cX0_leastOf 2 = .ok (.if_icmp .ne 7, 3) := by decide +kernel
theorem dX0_leastOf_5 : decode cX0_leastOf 5 = .ok (.iconst 1, 1) := by decide +kernel
theorem dX0_leastOf_6 : decode cX0_leastOf 6 = .ok (.goto 4, 3) := by decide +kernel
theorem dX0_leastOf_9 : decode cX0_leastOf 9 = .ok (.iconst 0, 1) := by decide +kernel
theorem dX0_leastOf_10 : decode cX0_leastOf 10 = .ok (.ireturn, 1) := by decide +kernel
theorem dX0_greatestOf_0 : decode cX0_greatestOf 0 = .ok (.iload_n 0, 1) := by decide +kernel
theorem dX0_greatestOf_1 : decode cX0_greatestOf 1 = .ok (.iconst 2, 1) := by decide +kernel
theorem dX0_greatestOf_2 : decode cX0_greatestOf 2 = .ok (.if_icmp .ne 8, 3) := by decide +kernel
theorem dX0_greatestOf_5 : decode cX0_greatestOf 5 = .ok (.bipush 7, 2) := by decide +kernel
theorem dX0_greatestOf_7 : decode cX0_greatestOf 7 = .ok (.goto 4, 3) := by decide +kernel
theorem dX0_greatestOf_10 : decode cX0_greatestOf 10 = .ok (.iconst 4, 1) := by decide +kernel
theorem dX0_greatestOf_11 : decode cX0_greatestOf 11 = .ok (.ireturn, 1) := by decide +kernel
theorem dX0_change_0 : decode cX0_change 0 = .ok (.aload_n 0, 1) := by decide +kernel
theorem dX0_change_1 : decode cX0_change 1 = .ok (.getfield 20, 3) := by decide +kernel
theorem dX0_change_4 : decode cX0_change 4 = .ok (.iload_n 2, 1) := by decide +kernel
theorem dX0_change_5 : decode cX0_change 5 = .ok (.aaload, 1) := by decide +kernel
theorem dX0_change_6 : decode cX0_change 6 = .ok (.iload_n 1, 1) := by decide +kernel
theorem dX0_change_7 : decode cX0_change 7 = .ok (.iaload, 1) := by decide +kernel
theorem dX0_change_8 : decode cX0_change 8 = .ok (.istore 4, 2) := by decide +kernel
theorem dX0_change_10 : decode cX0_change 10 = .ok (.aload_n 0, 1) := by decide +kernel
theorem dX0_change_11 : decode cX0_change 11 = .ok (.getfield 20, 3) := by decide +kernel
theorem dX0_change_14 : decode cX0_change 14 = .ok (.iload_n 2, 1) := by decide +kernel
theorem dX0_change_15 : decode cX0_change 15 = .ok (.aaload, 1) := by decide +kernel
theorem dX0_change_16 : decode cX0_change 16 = .ok (.iload_n 1, 1) := by decide +kernel
theorem dX0_change_17 : decode cX0_change 17 = .ok (.iload_n 3, 1) := by decide +kernel
theorem dX0_change_18 : decode cX0_change 18 = .ok (.iastore, 1) := by decide +kernel
theorem dX0_change_19 : decode cX0_change 19 = .ok (.iload 4, 2) := by decide +kernel
theorem dX0_change_21 : decode cX0_change 21 = .ok (.ireturn, 1) := by decide +kernel
theorem dX0_isCell_0 : decode cX0_isCell 0 = .ok (.iload_n 1, 1) := by decide +kernel
theorem dX0_isCell_1 : decode cX0_isCell 1 = .ok (.ifCond .lt 15, 3) := by decide +kernel
theorem dX0_isCell_4 : decode cX0_isCell 4 = .ok (.iload_n 1, 1) := by decide +kernel
theorem dX0_isCell_5 : decode cX0_isCell 5 = .ok (.aload_n 0, 1) := by decide +kernel
theorem dX0_isCell_6 : decode cX0_isCell 6 = .ok (.getfield 9, 3) := by decide +kernel
theorem dX0_isCell_9 : decode cX0_isCell 9 = .ok (.if_icmp .ge 7, 3) := by decide +kernel
theorem dX0_isCell_12 : decode cX0_isCell 12 = .ok (.iconst 1, 1) := by decide +kernel
theorem dX0_isCell_13 : decode cX0_isCell 13 = .ok (.goto 4, 3) := by decide +kernel
theorem dX0_isCell_16 : decode cX0_isCell 16 = .ok (.iconst 0, 1) := by decide +kernel
theorem dX0_isCell_17 : decode cX0_isCell 17 = .ok (.ireturn, 1) := by decide +kernel
theorem dX0_isWord_0 : decode cX0_isWord 0 = .ok (.iload_n 1, 1) := by decide +kernel
theorem dX0_isWord_1 : decode cX0_isWord 1 = .ok (.aload_n 0, 1) := by decide +kernel
theorem dX0_isWord_2 : decode cX0_isWord 2 = .ok (.getfield 9, 3) := by decide +kernel
theorem dX0_isWord_5 : decode cX0_isWord 5 = .ok (.ishr, 1) := by decide +kernel
theorem dX0_isWord_6 : decode cX0_isWord 6 = .ok (.ifCond .ne 7, 3) := by decide +kernel
theorem dX0_isWord_9 : decode cX0_isWord 9 = .ok (.iconst 1, 1) := by decide +kernel
theorem dX0_isWord_10 : decode cX0_isWord 10 = .ok (.goto 4, 3) := by decide +kernel
theorem dX0_isWord_13 : decode cX0_isWord 13 = .ok (.iconst 0, 1) := by decide +kernel
theorem dX0_isWord_14 : decode cX0_isWord 14 = .ok (.ireturn, 1) := by decide +kernel
theorem dX0_isMasked_0 : decode cX0_isMasked 0 = .ok (.aload_n 0, 1) := by decide +kernel
theorem dX0_isMasked_1 : decode cX0_isMasked 1 = .ok (.getfield 15, 3) := by decide +kernel
theorem dX0_isMasked_4 : decode cX0_isMasked 4 = .ok (.iload_n 1, 1) := by decide +kernel
theorem dX0_isMasked_5 : decode cX0_isMasked 5 = .ok (.ishr, 1) := by decide +kernel
theorem dX0_isMasked_6 : decode cX0_isMasked 6 = .ok (.iconst 1, 1) := by decide +kernel
theorem dX0_isMasked_7 : decode cX0_isMasked 7 = .ok (.iand, 1) := by decide +kernel
theorem dX0_isMasked_8 : decode cX0_isMasked 8 = .ok (.iconst 1, 1) := by decide +kernel
theorem dX0_isMasked_9 : decode cX0_isMasked 9 = .ok (.if_icmp .ne 7, 3) := by decide +kernel
theorem dX0_isMasked_12 : decode cX0_isMasked 12 = .ok (.iconst 1, 1) := by decide +kernel
theorem dX0_isMasked_13 : decode cX0_isMasked 13 = .ok (.goto 4, 3) := by decide +kernel
theorem dX0_isMasked_16 : decode cX0_isMasked 16 = .ok (.iconst 0, 1) := by decide +kernel
theorem dX0_isMasked_17 : decode cX0_isMasked 17 = .ok (.ireturn, 1) := by decide +kernel
theorem dX0_open_0 : decode cX0_open 0 = .ok (.iload_n 1, 1) := by decide +kernel
theorem dX0_open_1 : decode cX0_open 1 = .ok (.aload_n 0, 1) := by decide +kernel
theorem dX0_open_2 : decode cX0_open 2 = .ok (.getfield 15, 3) := by decide +kernel
theorem dX0_open_5 : decode cX0_open 5 = .ok (.iconst (-1), 1) := by decide +kernel
theorem dX0_open_6 : decode cX0_open 6 = .ok (.ixor, 1) := by decide +kernel
theorem dX0_open_7 : decode cX0_open 7 = .ok (.iand, 1) := by decide +kernel
theorem dX0_open_8 : decode cX0_open 8 = .ok (.ireturn, 1) := by decide +kernel
theorem dX0_openSet_0 : decode cX0_openSet 0 = .ok (.aload_n 0, 1) := by decide +kernel
theorem dX0_openSet_1 : decode cX0_openSet 1 = .ok (.iconst 1, 1) := by decide +kernel
theorem dX0_openSet_2 : decode cX0_openSet 2 = .ok (.aload_n 0, 1) := by decide +kernel
theorem dX0_openSet_3 : decode cX0_openSet 3 = .ok (.getfield 9, 3) := by decide +kernel
theorem dX0_openSet_6 : decode cX0_openSet 6 = .ok (.ishl, 1) := by decide +kernel
theorem dX0_openSet_7 : decode cX0_openSet 7 = .ok (.iconst 1, 1) := by decide +kernel
theorem dX0_openSet_8 : decode cX0_openSet 8 = .ok (.isub, 1) := by decide +kernel
theorem dX0_openSet_9 : decode cX0_openSet 9 = .ok (.invokevirtual 23, 3) := by decide +kernel
theorem dX0_openSet_12 : decode cX0_openSet 12 = .ok (.ireturn, 1) := by decide +kernel
theorem dX0_openCells_0 : decode cX0_openCells 0 = .ok (.aload_n 0, 1) := by decide +kernel
theorem dX0_openCells_1 : decode cX0_openCells 1 = .ok (.invokevirtual 27, 3) := by decide +kernel
theorem dX0_openCells_4 : decode cX0_openCells 4 = .ok (.invokestatic 31, 3) := by decide +kernel
theorem dX0_openCells_7 : decode cX0_openCells 7 = .ok (.ireturn, 1) := by decide +kernel
theorem dX0_allWays_0 : decode cX0_allWays 0 = .ok (.lconst 1, 1) := by decide +kernel
theorem dX0_allWays_1 : decode cX0_allWays 1 = .ok (.iconst 3, 1) := by decide +kernel
theorem dX0_allWays_2 : decode cX0_allWays 2 = .ok (.aload_n 0, 1) := by decide +kernel
theorem dX0_allWays_3 : decode cX0_allWays 3 = .ok (.invokevirtual 36, 3) := by decide +kernel
theorem dX0_allWays_6 : decode cX0_allWays 6 = .ok (.imul, 1) := by decide +kernel
theorem dX0_allWays_7 : decode cX0_allWays 7 = .ok (.lshl, 1) := by decide +kernel
theorem dX0_allWays_8 : decode cX0_allWays 8 = .ok (.lreturn, 1) := by decide +kernel
theorem dX0_agedChance_0 : decode cX0_agedChance 0 = .ok (.iconst 4, 1) := by decide +kernel
theorem dX0_agedChance_1 : decode cX0_agedChance 1 = .ok (.aload_n 0, 1) := by decide +kernel
theorem dX0_agedChance_2 : decode cX0_agedChance 2 = .ok (.getfield 20, 3) := by decide +kernel
theorem dX0_agedChance_5 : decode cX0_agedChance 5 = .ok (.iconst 0, 1) := by decide +kernel
theorem dX0_agedChance_6 : decode cX0_agedChance 6 = .ok (.aaload, 1) := by decide +kernel
theorem dX0_agedChance_7 : decode cX0_agedChance 7 = .ok (.iload_n 1, 1) := by decide +kernel
theorem dX0_agedChance_8 : decode cX0_agedChance 8 = .ok (.iaload, 1) := by decide +kernel
theorem dX0_agedChance_9 : decode cX0_agedChance 9 = .ok (.aload_n 0, 1) := by decide +kernel
theorem dX0_agedChance_10 : decode cX0_agedChance 10 = .ok (.getfield 20, 3) := by decide +kernel
theorem dX0_agedChance_13 : decode cX0_agedChance 13 = .ok (.iconst 1, 1) := by decide +kernel
theorem dX0_agedChance_14 : decode cX0_agedChance 14 = .ok (.aaload, 1) := by decide +kernel
theorem dX0_agedChance_15 : decode cX0_agedChance 15 = .ok (.iload_n 1, 1) := by decide +kernel
theorem dX0_agedChance_16 : decode cX0_agedChance 16 = .ok (.iaload, 1) := by decide +kernel
theorem dX0_agedChance_17 : decode cX0_agedChance 17 = .ok (.iload_n 2, 1) := by decide +kernel
theorem dX0_agedChance_18 : decode cX0_agedChance 18 = .ok (.imul, 1) := by decide +kernel
theorem dX0_agedChance_19 : decode cX0_agedChance 19 = .ok (.bipush 10, 2) := by decide +kernel
theorem dX0_agedChance_21 : decode cX0_agedChance 21 = .ok (.idiv, 1) := by decide +kernel
theorem dX0_agedChance_22 : decode cX0_agedChance 22 = .ok (.iadd, 1) := by decide +kernel
theorem dX0_agedChance_23 : decode cX0_agedChance 23 = .ok (.invokestatic 39, 3) := by decide +kernel
theorem dX0_agedChance_26 : decode cX0_agedChance 26 = .ok (.ireturn, 1) := by decide +kernel
theorem dX0_likelierThan_0 : decode cX0_likelierThan 0 = .ok (.iconst 0, 1) := by decide +kernel
theorem dX0_likelierThan_1 : decode cX0_likelierThan 1 = .ok (.istore_n 3, 1) := by decide +kernel
theorem dX0_likelierThan_2 : decode cX0_likelierThan 2 = .ok (.iconst 0, 1) := by decide +kernel
theorem dX0_likelierThan_3 : decode cX0_likelierThan 3 = .ok (.istore 4, 2) := by decide +kernel
theorem dX0_likelierThan_5 : decode cX0_likelierThan 5 = .ok (.iload 4, 2) := by decide +kernel
theorem dX0_likelierThan_7 : decode cX0_likelierThan 7 = .ok (.aload_n 0, 1) := by decide +kernel
theorem dX0_likelierThan_8 : decode cX0_likelierThan 8 = .ok (.getfield 9, 3) := by decide +kernel
theorem dX0_likelierThan_11 : decode cX0_likelierThan 11 = .ok (.if_icmp .ge 27, 3) := by decide +kernel
theorem dX0_likelierThan_14 : decode cX0_likelierThan 14 = .ok (.aload_n 0, 1) := by decide +kernel
theorem dX0_likelierThan_15 : decode cX0_likelierThan 15 = .ok (.iload 4, 2) := by decide +kernel
theorem dX0_likelierThan_17 : decode cX0_likelierThan 17 = .ok (.iload_n 2, 1) := by decide +kernel
theorem dX0_likelierThan_18 : decode cX0_likelierThan 18 = .ok (.invokevirtual 45, 3) := by decide +kernel
theorem dX0_likelierThan_21 : decode cX0_likelierThan 21 = .ok (.iload_n 1, 1) := by decide +kernel
theorem dX0_likelierThan_22 : decode cX0_likelierThan 22 = .ok (.if_icmp .le 10, 3) := by decide +kernel
theorem dX0_likelierThan_25 : decode cX0_likelierThan 25 = .ok (.iload_n 3, 1) := by decide +kernel
theorem dX0_likelierThan_26 : decode cX0_likelierThan 26 = .ok (.iconst 1, 1) := by decide +kernel
theorem dX0_likelierThan_27 : decode cX0_likelierThan 27 = .ok (.iload 4, 2) := by decide +kernel
theorem dX0_likelierThan_29 : decode cX0_likelierThan 29 = .ok (.ishl, 1) := by decide +kernel
theorem dX0_likelierThan_30 : decode cX0_likelierThan 30 = .ok (.ior, 1) := by decide +kernel
theorem dX0_likelierThan_31 : decode cX0_likelierThan 31 = .ok (.istore_n 3, 1) := by decide +kernel
theorem dX0_likelierThan_32 : decode cX0_likelierThan 32 = .ok (.iinc 4 1, 3) := by decide +kernel
theorem dX0_likelierThan_35 : decode cX0_likelierThan 35 = .ok (.goto (-30), 3) := by decide +kernel
theorem dX0_likelierThan_38 : decode cX0_likelierThan 38 = .ok (.iload_n 3, 1) := by decide +kernel
theorem dX0_likelierThan_39 : decode cX0_likelierThan 39 = .ok (.ireturn, 1) := by decide +kernel
theorem dX0_waysToBe_0 : decode cX0_waysToBe 0 = .ok (.lconst 1, 1) := by decide +kernel
theorem dX0_waysToBe_1 : decode cX0_waysToBe 1 = .ok (.lstore_n 2, 1) := by decide +kernel
theorem dX0_waysToBe_2 : decode cX0_waysToBe 2 = .ok (.iconst 0, 1) := by decide +kernel
theorem dX0_waysToBe_3 : decode cX0_waysToBe 3 = .ok (.istore 4, 2) := by decide +kernel
theorem dX0_waysToBe_5 : decode cX0_waysToBe 5 = .ok (.iload 4, 2) := by decide +kernel
theorem dX0_waysToBe_7 : decode cX0_waysToBe 7 = .ok (.aload_n 0, 1) := by decide +kernel
theorem dX0_waysToBe_8 : decode cX0_waysToBe 8 = .ok (.getfield 9, 3) := by decide +kernel
theorem dX0_waysToBe_11 : decode cX0_waysToBe 11 = .ok (.if_icmp .ge 54, 3) := by decide +kernel
theorem dX0_waysToBe_14 : decode cX0_waysToBe 14 = .ok (.aload_n 0, 1) := by decide +kernel
theorem dX0_waysToBe_15 : decode cX0_waysToBe 15 = .ok (.iload 4, 2) := by decide +kernel
theorem dX0_waysToBe_17 : decode cX0_waysToBe 17 = .ok (.invokevirtual 48, 3) := by decide +kernel
theorem dX0_waysToBe_20 : decode cX0_waysToBe 20 = .ok (.ifCond .ne 39, 3) := by decide +kernel
theorem dX0_waysToBe_23 : decode cX0_waysToBe 23 = .ok (.aload_n 0, 1) := by decide +kernel
theorem dX0_waysToBe_24 : decode cX0_waysToBe 24 = .ok (.getfield 20, 3) := by decide +kernel
theorem dX0_waysToBe_27 : decode cX0_waysToBe 27 = .ok (.iconst 2, 1) := by decide +kernel
theorem dX0_waysToBe_28 : decode cX0_waysToBe 28 = .ok (.aaload, 1) := by decide +kernel
theorem dX0_waysToBe_29 : decode cX0_waysToBe 29 = .ok (.iload 4, 2) := by decide +kernel
theorem dX0_waysToBe_31 : decode cX0_waysToBe 31 = .ok (.iaload, 1) := by decide +kernel
theorem dX0_waysToBe_32 : decode cX0_waysToBe 32 = .ok (.istore 5, 2) := by decide +kernel
theorem dX0_waysToBe_34 : decode cX0_waysToBe 34 = .ok (.lload_n 2, 1) := by decide +kernel
theorem dX0_waysToBe_35 : decode cX0_waysToBe 35 = .ok (.iload_n 1, 1) := by decide +kernel
theorem dX0_waysToBe_36 : decode cX0_waysToBe 36 = .ok (.iload 4, 2) := by decide +kernel
theorem dX0_waysToBe_38 : decode cX0_waysToBe 38 = .ok (.ishr, 1) := by decide +kernel
theorem dX0_waysToBe_39 : decode cX0_waysToBe 39 = .ok (.iconst 1, 1) := by decide +kernel
theorem dX0_waysToBe_40 : decode cX0_waysToBe 40 = .ok (.iand, 1) := by decide +kernel
theorem dX0_waysToBe_41 : decode cX0_waysToBe 41 = .ok (.iconst 1, 1) := by decide +kernel
theorem dX0_waysToBe_42 : decode cX0_waysToBe 42 = .ok (.if_icmp .ne 9, 3) := by decide +kernel
theorem dX0_waysToBe_45 : decode cX0_waysToBe 45 = .ok (.iload 5, 2) := by decide +kernel
theorem dX0_waysToBe_47 : decode cX0_waysToBe 47 = .ok (.i2l, 1) := by decide +kernel
theorem dX0_waysToBe_48 : decode cX0_waysToBe 48 = .ok (.goto 9, 3) := by decide +kernel
theorem dX0_waysToBe_51 : decode cX0_waysToBe 51 = .ok (.bipush 8, 2) := by decide +kernel
theorem dX0_waysToBe_53 : decode cX0_waysToBe 53 = .ok (.iload 5, 2) := by decide +kernel
theorem dX0_waysToBe_55 : decode cX0_waysToBe 55 = .ok (.isub, 1) := by decide +kernel
theorem dX0_waysToBe_56 : decode cX0_waysToBe 56 = .ok (.i2l, 1) := by decide +kernel
theorem dX0_waysToBe_57 : decode cX0_waysToBe 57 = .ok (.lmul, 1) := by decide +kernel
theorem dX0_waysToBe_58 : decode cX0_waysToBe 58 = .ok (.lstore_n 2, 1) := by decide +kernel
theorem dX0_waysToBe_59 : decode cX0_waysToBe 59 = .ok (.iinc 4 1, 3) := by decide +kernel
theorem dX0_waysToBe_62 : decode cX0_waysToBe 62 = .ok (.goto (-57), 3) := by decide +kernel
theorem dX0_waysToBe_65 : decode cX0_waysToBe 65 = .ok (.lload_n 2, 1) := by decide +kernel
theorem dX0_waysToBe_66 : decode cX0_waysToBe 66 = .ok (.lreturn, 1) := by decide +kernel
theorem dX0_evenBitsLedByOne_0 : decode cX0_evenBitsLedByOne 0 = .ok (.iconst 1, 1) := by decide +kernel
theorem dX0_evenBitsLedByOne_1 : decode cX0_evenBitsLedByOne 1 = .ok (.istore_n 2, 1) := by decide +kernel
theorem dX0_evenBitsLedByOne_2 : decode cX0_evenBitsLedByOne 2 = .ok (.iconst 0, 1) := by decide +kernel
theorem dX0_evenBitsLedByOne_3 : decode cX0_evenBitsLedByOne 3 = .ok (.istore_n 3, 1) := by decide +kernel
theorem dX0_evenBitsLedByOne_4 : decode cX0_evenBitsLedByOne 4 = .ok (.iload_n 3, 1) := by decide +kernel
theorem dX0_evenBitsLedByOne_5 : decode cX0_evenBitsLedByOne 5 = .ok (.aload_n 0, 1) := by decide +kernel
theorem dX0_evenBitsLedByOne_6 : decode cX0_evenBitsLedByOne 6 = .ok (.getfield 9, 3) := by decide +kernel
theorem dX0_evenBitsLedByOne_9 : decode cX0_evenBitsLedByOne 9 = .ok (.if_icmp .ge 46, 3) := by decide +kernel
theorem dX0_evenBitsLedByOne_12 : decode cX0_evenBitsLedByOne 12 = .ok (.aload_n 0, 1) := by decide +kernel
theorem dX0_evenBitsLedByOne_13 : decode cX0_evenBitsLedByOne 13 = .ok (.iload_n 3, 1) := by decide +kernel
theorem dX0_evenBitsLedByOne_14 : decode cX0_evenBitsLedByOne 14 = .ok (.invokevirtual 52, 3) := by decide +kernel
theorem dX0_evenBitsLedByOne_17 : decode cX0_evenBitsLedByOne 17 = .ok (.istore 4, 2) := by decide +kernel
theorem dX0_evenBitsLedByOne_19 : decode cX0_evenBitsLedByOne 19 = .ok (.iload 4, 2) := by decide +kernel
theorem dX0_evenBitsLedByOne_21 : decode cX0_evenBitsLedByOne 21 = .ok (.ifCond .lt 28, 3) := by decide +kernel
theorem dX0_evenBitsLedByOne_24 : decode cX0_evenBitsLedByOne 24 = .ok (.iload_n 1, 1) := by decide +kernel
theorem dX0_evenBitsLedByOne_25 : decode cX0_evenBitsLedByOne 25 = .ok (.iload 4, 2) := by decide +kernel
theorem dX0_evenBitsLedByOne_27 : decode cX0_evenBitsLedByOne 27 = .ok (.ishr, 1) := by decide +kernel
theorem dX0_evenBitsLedByOne_28 : decode cX0_evenBitsLedByOne 28 = .ok (.iconst 1, 1) := by decide +kernel
theorem dX0_evenBitsLedByOne_29 : decode cX0_evenBitsLedByOne 29 = .ok (.iand, 1) := by decide +kernel
theorem dX0_evenBitsLedByOne_30 : decode cX0_evenBitsLedByOne 30 = .ok (.iload_n 1, 1) := by decide +kernel
theorem dX0_evenBitsLedByOne_31 : decode cX0_evenBitsLedByOne 31 = .ok (.iload_n 3, 1) := by decide +kernel
theorem dX0_evenBitsLedByOne_32 : decode cX0_evenBitsLedByOne 32 = .ok (.ishr, 1) := by decide +kernel
theorem dX0_evenBitsLedByOne_33 : decode cX0_evenBitsLedByOne 33 = .ok (.iconst 1, 1) := by decide +kernel
theorem dX0_evenBitsLedByOne_34 : decode cX0_evenBitsLedByOne 34 = .ok (.iand, 1) := by decide +kernel
theorem dX0_evenBitsLedByOne_35 : decode cX0_evenBitsLedByOne 35 = .ok (.if_icmp .eq 14, 3) := by decide +kernel
theorem dX0_evenBitsLedByOne_38 : decode cX0_evenBitsLedByOne 38 = .ok (.iload_n 2, 1) := by decide +kernel
theorem dX0_evenBitsLedByOne_39 : decode cX0_evenBitsLedByOne 39 = .ok (.iconst 1, 1) := by decide +kernel
theorem dX0_evenBitsLedByOne_40 : decode cX0_evenBitsLedByOne 40 = .ok (.ishl, 1) := by decide +kernel
theorem dX0_evenBitsLedByOne_41 : decode cX0_evenBitsLedByOne 41 = .ok (.iload_n 1, 1) := by decide +kernel
theorem dX0_evenBitsLedByOne_42 : decode cX0_evenBitsLedByOne 42 = .ok (.iload 4, 2) := by decide +kernel
theorem dX0_evenBitsLedByOne_44 : decode cX0_evenBitsLedByOne 44 = .ok (.ishr, 1) := by decide +kernel
theorem dX0_evenBitsLedByOne_45 : decode cX0_evenBitsLedByOne 45 = .ok (.iconst 1, 1) := by decide +kernel
theorem dX0_evenBitsLedByOne_46 : decode cX0_evenBitsLedByOne 46 = .ok (.iand, 1) := by decide +kernel
theorem dX0_evenBitsLedByOne_47 : decode cX0_evenBitsLedByOne 47 = .ok (.ior, 1) := by decide +kernel
theorem dX0_evenBitsLedByOne_48 : decode cX0_evenBitsLedByOne 48 = .ok (.istore_n 2, 1) := by decide +kernel
theorem dX0_evenBitsLedByOne_49 : decode cX0_evenBitsLedByOne 49 = .ok (.iinc 3 1, 3) := by decide +kernel
theorem dX0_evenBitsLedByOne_52 : decode cX0_evenBitsLedByOne 52 = .ok (.goto (-48), 3) := by decide +kernel
theorem dX0_evenBitsLedByOne_55 : decode cX0_evenBitsLedByOne 55 = .ok (.iload_n 2, 1) := by decide +kernel
theorem dX0_evenBitsLedByOne_56 : decode cX0_evenBitsLedByOne 56 = .ok (.ireturn, 1) := by decide +kernel
theorem dX0_expectedEvenBits_0 : decode cX0_expectedEvenBits 0 = .ok (.iconst 0, 1) := by decide +kernel
theorem dX0_expectedEvenBits_1 : decode cX0_expectedEvenBits 1 = .ok (.istore_n 1, 1) := by decide +kernel
theorem dX0_expectedEvenBits_2 : decode cX0_expectedEvenBits 2 = .ok (.iconst 0, 1) := by decide +kernel
theorem dX0_expectedEvenBits_3 : decode cX0_expectedEvenBits 3 = .ok (.istore_n 2, 1) := by decide +kernel
theorem dX0_expectedEvenBits_4 : decode cX0_expectedEvenBits 4 = .ok (.iload_n 2, 1) := by decide +kernel
theorem dX0_expectedEvenBits_5 : decode cX0_expectedEvenBits 5 = .ok (.aload_n 0, 1) := by decide +kernel
theorem dX0_expectedEvenBits_6 : decode cX0_expectedEvenBits 6 = .ok (.getfield 9, 3) := by decide +kernel
theorem dX0_expectedEvenBits_9 : decode cX0_expectedEvenBits 9 = .ok (.if_icmp .ge 41, 3) := by decide +kernel
theorem dX0_expectedEvenBits_12 : decode cX0_expectedEvenBits 12 = .ok (.aload_n 0, 1) := by decide +kernel
theorem dX0_expectedEvenBits_13 : decode cX0_expectedEvenBits 13 = .ok (.iload_n 2, 1) := by decide +kernel
theorem dX0_expectedEvenBits_14 : decode cX0_expectedEvenBits 14 = .ok (.invokevirtual 52, 3) := by decide +kernel
theorem dX0_expectedEvenBits_17 : decode cX0_expectedEvenBits 17 = .ok (.istore_n 3, 1) := by decide +kernel
theorem dX0_expectedEvenBits_18 : decode cX0_expectedEvenBits 18 = .ok (.iload_n 3, 1) := by decide +kernel
theorem dX0_expectedEvenBits_19 : decode cX0_expectedEvenBits 19 = .ok (.ifCond .lt 25, 3) := by decide +kernel
theorem dX0_expectedEvenBits_22 : decode cX0_expectedEvenBits 22 = .ok (.iload_n 1, 1) := by decide +kernel
theorem dX0_expectedEvenBits_23 : decode cX0_expectedEvenBits 23 = .ok (.aload_n 0, 1) := by decide +kernel
theorem dX0_expectedEvenBits_24 : decode cX0_expectedEvenBits 24 = .ok (.getfield 20, 3) := by decide +kernel
theorem dX0_expectedEvenBits_27 : decode cX0_expectedEvenBits 27 = .ok (.iconst 2, 1) := by decide +kernel
theorem dX0_expectedEvenBits_28 : decode cX0_expectedEvenBits 28 = .ok (.aaload, 1) := by decide +kernel
theorem dX0_expectedEvenBits_29 : decode cX0_expectedEvenBits 29 = .ok (.iload_n 3, 1) := by decide +kernel
theorem dX0_expectedEvenBits_30 : decode cX0_expectedEvenBits 30 = .ok (.iaload, 1) := by decide +kernel
theorem dX0_expectedEvenBits_31 : decode cX0_expectedEvenBits 31 = .ok (.aload_n 0, 1) := by decide +kernel
theorem dX0_expectedEvenBits_32 : decode cX0_expectedEvenBits 32 = .ok (.getfield 20, 3) := by decide +kernel
theorem dX0_expectedEvenBits_35 : decode cX0_expectedEvenBits 35 = .ok (.iconst 2, 1) := by decide +kernel
theorem dX0_expectedEvenBits_36 : decode cX0_expectedEvenBits 36 = .ok (.aaload, 1) := by decide +kernel
theorem dX0_expectedEvenBits_37 : decode cX0_expectedEvenBits 37 = .ok (.iload_n 2, 1) := by decide +kernel
theorem dX0_expectedEvenBits_38 : decode cX0_expectedEvenBits 38 = .ok (.iaload, 1) := by decide +kernel
theorem dX0_expectedEvenBits_39 : decode cX0_expectedEvenBits 39 = .ok (.invokestatic 55, 3) := by decide +kernel
theorem dX0_expectedEvenBits_42 : decode cX0_expectedEvenBits 42 = .ok (.iadd, 1) := by decide +kernel
theorem dX0_expectedEvenBits_43 : decode cX0_expectedEvenBits 43 = .ok (.istore_n 1, 1) := by decide +kernel
theorem dX0_expectedEvenBits_44 : decode cX0_expectedEvenBits 44 = .ok (.iinc 2 1, 3) := by decide +kernel
theorem dX0_expectedEvenBits_47 : decode cX0_expectedEvenBits 47 = .ok (.goto (-43), 3) := by decide +kernel
theorem dX0_expectedEvenBits_50 : decode cX0_expectedEvenBits 50 = .ok (.iload_n 1, 1) := by decide +kernel
theorem dX0_expectedEvenBits_51 : decode cX0_expectedEvenBits 51 = .ok (.ireturn, 1) := by decide +kernel
theorem dX0_expectedOfTwo_0 : decode cX0_expectedOfTwo 0 = .ok (.iload_n 0, 1) := by decide +kernel
theorem dX0_expectedOfTwo_1 : decode cX0_expectedOfTwo 1 = .ok (.bipush 8, 2) := by decide +kernel
theorem dX0_expectedOfTwo_3 : decode cX0_expectedOfTwo 3 = .ok (.iload_n 1, 1) := by decide +kernel
theorem dX0_expectedOfTwo_4 : decode cX0_expectedOfTwo 4 = .ok (.isub, 1) := by decide +kernel
theorem dX0_expectedOfTwo_5 : decode cX0_expectedOfTwo 5 = .ok (.imul, 1) := by decide +kernel
theorem dX0_expectedOfTwo_6 : decode cX0_expectedOfTwo 6 = .ok (.bipush 8, 2) := by decide +kernel
theorem dX0_expectedOfTwo_8 : decode cX0_expectedOfTwo 8 = .ok (.iload_n 0, 1) := by decide +kernel
theorem dX0_expectedOfTwo_9 : decode cX0_expectedOfTwo 9 = .ok (.isub, 1) := by decide +kernel
theorem dX0_expectedOfTwo_10 : decode cX0_expectedOfTwo 10 = .ok (.iload_n 1, 1) := by decide +kernel
theorem dX0_expectedOfTwo_11 : decode cX0_expectedOfTwo 11 = .ok (.imul, 1) := by decide +kernel
theorem dX0_expectedOfTwo_12 : decode cX0_expectedOfTwo 12 = .ok (.iadd, 1) := by decide +kernel
theorem dX0_expectedOfTwo_13 : decode cX0_expectedOfTwo 13 = .ok (.ireturn, 1) := by decide +kernel
theorem dX0_mateOf_0 : decode cX0_mateOf 0 = .ok (.aload_n 0, 1) := by decide +kernel
theorem dX0_mateOf_1 : decode cX0_mateOf 1 = .ok (.iconst 1, 1) := by decide +kernel
theorem dX0_mateOf_2 : decode cX0_mateOf 2 = .ok (.iload_n 1, 1) := by decide +kernel
theorem dX0_mateOf_3 : decode cX0_mateOf 3 = .ok (.ishl, 1) := by decide +kernel
theorem dX0_mateOf_4 : decode cX0_mateOf 4 = .ok (.iconst 1, 1) := by decide +kernel
theorem dX0_mateOf_5 : decode cX0_mateOf 5 = .ok (.isub, 1) := by decide +kernel
theorem dX0_mateOf_6 : decode cX0_mateOf 6 = .ok (.invokevirtual 23, 3) := by decide +kernel
theorem dX0_mateOf_9 : decode cX0_mateOf 9 = .ok (.istore_n 2, 1) := by decide +kernel
theorem dX0_mateOf_10 : decode cX0_mateOf 10 = .ok (.aload_n 0, 1) := by decide +kernel
theorem dX0_mateOf_11 : decode cX0_mateOf 11 = .ok (.iload_n 1, 1) := by decide +kernel
theorem dX0_mateOf_12 : decode cX0_mateOf 12 = .ok (.invokevirtual 48, 3) := by decide +kernel
theorem dX0_mateOf_15 : decode cX0_mateOf 15 = .ok (.ifCond .ne 17, 3) := by decide +kernel
theorem dX0_mateOf_18 : decode cX0_mateOf 18 = .ok (.iload_n 2, 1) := by decide +kernel
theorem dX0_mateOf_19 : decode cX0_mateOf 19 = .ok (.invokestatic 31, 3) := by decide +kernel
theorem dX0_mateOf_22 : decode cX0_mateOf 22 = .ok (.iconst 2, 1) := by decide +kernel
theorem dX0_mateOf_23 : decode cX0_mateOf 23 = .ok (.irem, 1) := by decide +kernel
theorem dX0_mateOf_24 : decode cX0_mateOf 24 = .ok (.iconst 1, 1) := by decide +kernel
theorem dX0_mateOf_25 : decode cX0_mateOf 25 = .ok (.if_icmp .ne 7, 3) := by decide +kernel
theorem dX0_mateOf_28 : decode cX0_mateOf 28 = .ok (.iconst 1, 1) := by decide +kernel
theorem dX0_mateOf_29 : decode cX0_mateOf 29 = .ok (.goto 4, 3) := by decide +kernel
theorem dX0_mateOf_32 : decode cX0_mateOf 32 = .ok (.iconst 0, 1) := by decide +kernel
theorem dX0_mateOf_33 : decode cX0_mateOf 33 = .ok (.istore_n 3, 1) := by decide +kernel
theorem dX0_mateOf_34 : decode cX0_mateOf 34 = .ok (.iload_n 3, 1) := by decide +kernel
theorem dX0_mateOf_35 : decode cX0_mateOf 35 = .ok (.ifCond .eq 13, 3) := by decide +kernel
theorem dX0_mateOf_38 : decode cX0_mateOf 38 = .ok (.bipush 31, 2) := by decide +kernel
theorem dX0_mateOf_40 : decode cX0_mateOf 40 = .ok (.iload_n 2, 1) := by decide +kernel
theorem dX0_mateOf_41 : decode cX0_mateOf 41 = .ok (.invokestatic 58, 3) := by decide +kernel
theorem dX0_mateOf_44 : decode cX0_mateOf 44 = .ok (.isub, 1) := by decide +kernel
theorem dX0_mateOf_45 : decode cX0_mateOf 45 = .ok (.goto 4, 3) := by decide +kernel
theorem dX0_mateOf_48 : decode cX0_mateOf 48 = .ok (.iconst (-1), 1) := by decide +kernel
theorem dX0_mateOf_49 : decode cX0_mateOf 49 = .ok (.ireturn, 1) := by decide +kernel
theorem dX1_init_0 : decode cX1_init 0 = .ok (.aload_n 0, 1) := by decide +kernel
theorem dX1_init_1 : decode cX1_init 1 = .ok (.invokespecial 1, 3) := by decide +kernel
theorem dX1_init_4 : decode cX1_init 4 = .ok (.aload_n 0, 1) := by decide +kernel
theorem dX1_init_5 : decode cX1_init 5 = .ok (.iconst 0, 1) := by decide +kernel
theorem dX1_init_6 : decode cX1_init 6 = .ok (.putfield 7, 3) := by decide +kernel
theorem dX1_init_9 : decode cX1_init 9 = .ok (.aload_n 0, 1) := by decide +kernel
theorem dX1_init_10 : decode cX1_init 10 = .ok (.bipush 8, 2) := by decide +kernel
theorem dX1_init_12 : decode cX1_init 12 = .ok (.newarray .int, 2) := by decide +kernel
theorem dX1_init_14 : decode cX1_init 14 = .ok (.putfield 13, 3) := by decide +kernel
theorem dX1_init_17 : decode cX1_init 17 = .ok (.aload_n 0, 1) := by decide +kernel
theorem dX1_init_18 : decode cX1_init 18 = .ok (.bipush 8, 2) := by decide +kernel
theorem dX1_init_20 : decode cX1_init 20 = .ok (.newarray .boolean, 2) := by decide +kernel
theorem dX1_init_22 : decode cX1_init 22 = .ok (.putfield 17, 3) := by decide +kernel
theorem dX1_init_25 : decode cX1_init 25 = .ok (.aload_n 0, 1) := by decide +kernel
theorem dX1_init_26 : decode cX1_init 26 = .ok (.bipush 8, 2) := by decide +kernel
theorem dX1_init_28 : decode cX1_init 28 = .ok (.newarray .int, 2) := by decide +kernel
theorem dX1_init_30 : decode cX1_init 30 = .ok (.putfield 21, 3) := by decide +kernel
theorem dX1_init_33 : decode cX1_init 33 = .ok (.aload_n 0, 1) := by decide +kernel
theorem dX1_init_34 : decode cX1_init 34 = .ok (.bipush 8, 2) := by decide +kernel
theorem dX1_init_36 : decode cX1_init 36 = .ok (.newarray .int, 2) := by decide +kernel
theorem dX1_init_38 : decode cX1_init 38 = .ok (.putfield 24, 3) := by decide +kernel
theorem dX1_init_41 : decode cX1_init 41 = .ok (.return_, 1) := by decide +kernel
theorem dX1_isChip_0 : decode cX1_isChip 0 = .ok (.iload_n 1, 1) := by decide +kernel
theorem dX1_isChip_1 : decode cX1_isChip 1 = .ok (.ifCond .lt 15, 3) := by decide +kernel
theorem dX1_isChip_4 : decode cX1_isChip 4 = .ok (.iload_n 1, 1) := by decide +kernel
theorem dX1_isChip_5 : decode cX1_isChip 5 = .ok (.aload_n 0, 1) := by decide +kernel
theorem dX1_isChip_6 : decode cX1_isChip 6 = .ok (.getfield 7, 3) := by decide +kernel
theorem dX1_isChip_9 : decode cX1_isChip 9 = .ok (.if_icmp .ge 7, 3) := by decide +kernel
theorem dX1_isChip_12 : decode cX1_isChip 12 = .ok (.iconst 1, 1) := by decide +kernel
theorem dX1_isChip_13 : decode cX1_isChip 13 = .ok (.goto 4, 3) := by decide +kernel
theorem dX1_isChip_16 : decode cX1_isChip 16 = .ok (.iconst 0, 1) := by decide +kernel
theorem dX1_isChip_17 : decode cX1_isChip 17 = .ok (.ireturn, 1) := by decide +kernel
theorem dX1_add_0 : decode cX1_add 0 = .ok (.aload_n 0, 1) := by decide +kernel
theorem dX1_add_1 : decode cX1_add 1 = .ok (.getfield 7, 3) := by decide +kernel
theorem dX1_add_4 : decode cX1_add 4 = .ok (.istore_n 2, 1) := by decide +kernel
theorem dX1_add_5 : decode cX1_add 5 = .ok (.iload_n 2, 1) := by decide +kernel
theorem dX1_add_6 : decode cX1_add 6 = .ok (.bipush 8, 2) := by decide +kernel
theorem dX1_add_8 : decode cX1_add 8 = .ok (.if_icmp .ge 27, 3) := by decide +kernel
theorem dX1_add_11 : decode cX1_add 11 = .ok (.aload_n 0, 1) := by decide +kernel
theorem dX1_add_12 : decode cX1_add 12 = .ok (.getfield 13, 3) := by decide +kernel
theorem dX1_add_15 : decode cX1_add 15 = .ok (.iload_n 2, 1) := by decide +kernel
theorem dX1_add_16 : decode cX1_add 16 = .ok (.iload_n 1, 1) := by decide +kernel
theorem dX1_add_17 : decode cX1_add 17 = .ok (.iastore, 1) := by decide +kernel
theorem dX1_add_18 : decode cX1_add 18 = .ok (.aload_n 0, 1) := by decide +kernel
theorem dX1_add_19 : decode cX1_add 19 = .ok (.getfield 17, 3) := by decide +kernel
theorem dX1_add_22 : decode cX1_add 22 = .ok (.iload_n 2, 1) := by decide +kernel
theorem dX1_add_23 : decode cX1_add 23 = .ok (.iconst 0, 1) := by decide +kernel
theorem dX1_add_24 : decode cX1_add 24 = .ok (.bastore, 1) := by decide +kernel
theorem dX1_add_25 : decode cX1_add 25 = .ok (.aload_n 0, 1) := by decide +kernel
theorem dX1_add_26 : decode cX1_add 26 = .ok (.dup, 1) := by decide +kernel
theorem dX1_add_27 : decode cX1_add 27 = .ok (.getfield 7, 3) := by decide +kernel
theorem dX1_add_30 : decode cX1_add 30 = .ok (.iconst 1, 1) := by decide +kernel
theorem dX1_add_31 : decode cX1_add 31 = .ok (.iadd, 1) := by decide +kernel
theorem dX1_add_32 : decode cX1_add 32 = .ok (.putfield 7, 3) := by decide +kernel
theorem dX1_add_35 : decode cX1_add 35 = .ok (.iload_n 2, 1) := by decide +kernel
theorem dX1_add_36 : decode cX1_add 36 = .ok (.ireturn, 1) := by decide +kernel
theorem dX1_dropAll_0 : decode cX1_dropAll 0 = .ok (.aload_n 0, 1) := by decide +kernel
theorem dX1_dropAll_1 : decode cX1_dropAll 1 = .ok (.iconst 0, 1) := by decide +kernel
theorem dX1_dropAll_2 : decode cX1_dropAll 2 = .ok (.putfield 7, 3) := by decide +kernel
theorem dX1_dropAll_5 : decode cX1_dropAll 5 = .ok (.return_, 1) := by decide +kernel
theorem dX1_giveHelp_0 : decode cX1_giveHelp 0 = .ok (.aload_n 0, 1) := by decide +kernel
theorem dX1_giveHelp_1 : decode cX1_giveHelp 1 = .ok (.getfield 17, 3) := by decide +kernel
theorem dX1_giveHelp_4 : decode cX1_giveHelp 4 = .ok (.iload_n 1, 1) := by decide +kernel
theorem dX1_giveHelp_5 : decode cX1_giveHelp 5 = .ok (.iconst 1, 1) := by decide +kernel
theorem dX1_giveHelp_6 : decode cX1_giveHelp 6 = .ok (.bastore, 1) := by decide +kernel
theorem dX1_giveHelp_7 : decode cX1_giveHelp 7 = .ok (.aload_n 0, 1) := by decide +kernel
theorem dX1_giveHelp_8 : decode cX1_giveHelp 8 = .ok (.getfield 21, 3) := by decide +kernel
theorem dX1_giveHelp_11 : decode cX1_giveHelp 11 = .ok (.iload_n 1, 1) := by decide +kernel
theorem dX1_giveHelp_12 : decode cX1_giveHelp 12 = .ok (.iload_n 2, 1) := by decide +kernel
theorem dX1_giveHelp_13 : decode cX1_giveHelp 13 = .ok (.iastore, 1) := by decide +kernel
theorem dX1_giveHelp_14 : decode cX1_giveHelp 14 = .ok (.aload_n 0, 1) := by decide +kernel
theorem dX1_giveHelp_15 : decode cX1_giveHelp 15 = .ok (.getfield 24, 3) := by decide +kernel
theorem dX1_giveHelp_18 : decode cX1_giveHelp 18 = .ok (.iload_n 1, 1) := by decide +kernel
theorem dX1_giveHelp_19 : decode cX1_giveHelp 19 = .ok (.iload_n 3, 1) := by decide +kernel
theorem dX1_giveHelp_20 : decode cX1_giveHelp 20 = .ok (.iastore, 1) := by decide +kernel
theorem dX1_giveHelp_21 : decode cX1_giveHelp 21 = .ok (.return_, 1) := by decide +kernel
theorem dX1_dropHelp_0 : decode cX1_dropHelp 0 = .ok (.iconst 0, 1) := by decide +kernel
theorem dX1_dropHelp_1 : decode cX1_dropHelp 1 = .ok (.istore_n 1, 1) := by decide +kernel
theorem dX1_dropHelp_2 : decode cX1_dropHelp 2 = .ok (.iload_n 1, 1) := by decide +kernel
theorem dX1_dropHelp_3 : decode cX1_dropHelp 3 = .ok (.aload_n 0, 1) := by decide +kernel
theorem dX1_dropHelp_4 : decode cX1_dropHelp 4 = .ok (.getfield 7, 3) := by decide +kernel
theorem dX1_dropHelp_7 : decode cX1_dropHelp 7 = .ok (.if_icmp .ge 16, 3) := by decide +kernel
theorem dX1_dropHelp_10 : decode cX1_dropHelp 10 = .ok (.aload_n 0, 1) := by decide +kernel
theorem dX1_dropHelp_11 : decode cX1_dropHelp 11 = .ok (.getfield 17, 3) := by decide +kernel
theorem dX1_dropHelp_14 : decode cX1_dropHelp 14 = .ok (.iload_n 1, 1) := by decide +kernel
theorem dX1_dropHelp_15 : decode cX1_dropHelp 15 = .ok (.iconst 0, 1) := by decide +kernel
theorem dX1_dropHelp_16 : decode cX1_dropHelp 16 = .ok (.bastore, 1) := by decide +kernel
theorem dX1_dropHelp_17 : decode cX1_dropHelp 17 = .ok (.iinc 1 1, 3) := by decide +kernel
theorem dX1_dropHelp_20 : decode cX1_dropHelp 20 = .ok (.goto (-18), 3) := by decide +kernel
theorem dX1_dropHelp_23 : decode cX1_dropHelp 23 = .ok (.return_, 1) := by decide +kernel
theorem dX1_withHelp_0 : decode cX1_withHelp 0 = .ok (.iconst 0, 1) := by decide +kernel
theorem dX1_withHelp_1 : decode cX1_withHelp 1 = .ok (.istore_n 1, 1) := by decide +kernel
theorem dX1_withHelp_2 : decode cX1_withHelp 2 = .ok (.iconst 0, 1) := by decide +kernel
theorem dX1_withHelp_3 : decode cX1_withHelp 3 = .ok (.istore_n 2, 1) := by decide +kernel
theorem dX1_withHelp_4 : decode cX1_withHelp 4 = .ok (.iload_n 2, 1) := by decide +kernel
theorem dX1_withHelp_5 : decode cX1_withHelp 5 = .ok (.aload_n 0, 1) := by decide +kernel
theorem dX1_withHelp_6 : decode cX1_withHelp 6 = .ok (.getfield 7, 3) := by decide +kernel
theorem dX1_withHelp_9 : decode cX1_withHelp 9 = .ok (.if_icmp .ge 26, 3) := by decide +kernel
theorem dX1_withHelp_12 : decode cX1_withHelp 12 = .ok (.iload_n 1, 1) := by decide +kernel
theorem dX1_withHelp_13 : decode cX1_withHelp 13 = .ok (.aload_n 0, 1) := by decide +kernel
theorem dX1_withHelp_14 : decode cX1_withHelp 14 = .ok (.getfield 17, 3) := by decide +kernel
theorem dX1_withHelp_17 : decode cX1_withHelp 17 = .ok (.iload_n 2, 1) := by decide +kernel
theorem dX1_withHelp_18 : decode cX1_withHelp 18 = .ok (.baload, 1) := by decide +kernel
theorem dX1_withHelp_19 : decode cX1_withHelp 19 = .ok (.ifCond .eq 7, 3) := by decide +kernel
theorem dX1_withHelp_22 : decode cX1_withHelp 22 = .ok (.iconst 1, 1) := by decide +kernel
theorem dX1_withHelp_23 : decode cX1_withHelp 23 = .ok (.goto 4, 3) := by decide +kernel
theorem dX1_withHelp_26 : decode cX1_withHelp 26 = .ok (.iconst 0, 1) := by decide +kernel
theorem dX1_withHelp_27 : decode cX1_withHelp 27 = .ok (.iadd, 1) := by decide +kernel
theorem dX1_withHelp_28 : decode cX1_withHelp 28 = .ok (.istore_n 1, 1) := by decide +kernel
theorem dX1_withHelp_29 : decode cX1_withHelp 29 = .ok (.iinc 2 1, 3) := by decide +kernel
theorem dX1_withHelp_32 : decode cX1_withHelp 32 = .ok (.goto (-28), 3) := by decide +kernel
theorem dX1_withHelp_35 : decode cX1_withHelp 35 = .ok (.iload_n 1, 1) := by decide +kernel
theorem dX1_withHelp_36 : decode cX1_withHelp 36 = .ok (.ireturn, 1) := by decide +kernel
theorem dX1_nearest_0 : decode cX1_nearest 0 = .ok (.iconst (-1), 1) := by decide +kernel
theorem dX1_nearest_1 : decode cX1_nearest 1 = .ok (.istore_n 3, 1) := by decide +kernel
theorem dX1_nearest_2 : decode cX1_nearest 2 = .ok (.iconst 0, 1) := by decide +kernel
theorem dX1_nearest_3 : decode cX1_nearest 3 = .ok (.istore 4, 2) := by decide +kernel
theorem dX1_nearest_5 : decode cX1_nearest 5 = .ok (.iconst 0, 1) := by decide +kernel
theorem dX1_nearest_6 : decode cX1_nearest 6 = .ok (.istore 5, 2) := by decide +kernel
theorem dX1_nearest_8 : decode cX1_nearest 8 = .ok (.iload 5, 2) := by decide +kernel
theorem dX1_nearest_10 : decode cX1_nearest 10 = .ok (.aload_n 0, 1) := by decide +kernel
theorem dX1_nearest_11 : decode cX1_nearest 11 = .ok (.getfield 7, 3) := by decide +kernel
theorem dX1_nearest_14 : decode cX1_nearest 14 = .ok (.if_icmp .ge 43, 3) := by decide +kernel
theorem dX1_nearest_17 : decode cX1_nearest 17 = .ok (.aload_n 0, 1) := by decide +kernel
theorem dX1_nearest_18 : decode cX1_nearest 18 = .ok (.getfield 13, 3) := by decide +kernel
theorem dX1_nearest_21 : decode cX1_nearest 21 = .ok (.iload 5, 2) := by decide +kernel
theorem dX1_nearest_23 : decode cX1_nearest 23 = .ok (.iaload, 1) := by decide +kernel
theorem dX1_nearest_24 : decode cX1_nearest 24 = .ok (.iload_n 1, 1) := by decide +kernel
theorem dX1_nearest_25 : decode cX1_nearest 25 = .ok (.ixor, 1) := by decide +kernel
theorem dX1_nearest_26 : decode cX1_nearest 26 = .ok (.iload_n 2, 1) := by decide +kernel
theorem dX1_nearest_27 : decode cX1_nearest 27 = .ok (.iand, 1) := by decide +kernel
theorem dX1_nearest_28 : decode cX1_nearest 28 = .ok (.invokestatic 27, 3) := by decide +kernel
theorem dX1_nearest_31 : decode cX1_nearest 31 = .ok (.istore 6, 2) := by decide +kernel
theorem dX1_nearest_33 : decode cX1_nearest 33 = .ok (.iload_n 3, 1) := by decide +kernel
theorem dX1_nearest_34 : decode cX1_nearest 34 = .ok (.ifCond .lt 10, 3) := by decide +kernel
theorem dX1_nearest_37 : decode cX1_nearest 37 = .ok (.iload 6, 2) := by decide +kernel
theorem dX1_nearest_39 : decode cX1_nearest 39 = .ok (.iload 4, 2) := by decide +kernel
theorem dX1_nearest_41 : decode cX1_nearest 41 = .ok (.if_icmp .ge 10, 3) := by decide +kernel
theorem dX1_nearest_44 : decode cX1_nearest 44 = .ok (.iload 6, 2) := by decide +kernel
theorem dX1_nearest_46 : decode cX1_nearest 46 = .ok (.istore 4, 2) := by decide +kernel
theorem dX1_nearest_48 : decode cX1_nearest 48 = .ok (.iload 5, 2) := by decide +kernel
theorem dX1_nearest_50 : decode cX1_nearest 50 = .ok (.istore_n 3, 1) := by decide +kernel
theorem dX1_nearest_51 : decode cX1_nearest 51 = .ok (.iinc 5 1, 3) := by decide +kernel
theorem dX1_nearest_54 : decode cX1_nearest 54 = .ok (.goto (-46), 3) := by decide +kernel
theorem dX1_nearest_57 : decode cX1_nearest 57 = .ok (.iload_n 3, 1) := by decide +kernel
theorem dX1_nearest_58 : decode cX1_nearest 58 = .ok (.ireturn, 1) := by decide +kernel
theorem dX1_hasLoneNearest_0 : decode cX1_hasLoneNearest 0 = .ok (.aload_n 0, 1) := by decide +kernel
theorem dX1_hasLoneNearest_1 : decode cX1_hasLoneNearest 1 = .ok (.iload_n 1, 1) := by decide +kernel
theorem dX1_hasLoneNearest_2 : decode cX1_hasLoneNearest 2 = .ok (.iload_n 2, 1) := by decide +kernel
theorem dX1_hasLoneNearest_3 : decode cX1_hasLoneNearest 3 = .ok (.invokevirtual 33, 3) := by decide +kernel
theorem dX1_hasLoneNearest_6 : decode cX1_hasLoneNearest 6 = .ok (.istore_n 3, 1) := by decide +kernel
theorem dX1_hasLoneNearest_7 : decode cX1_hasLoneNearest 7 = .ok (.iload_n 3, 1) := by decide +kernel
theorem dX1_hasLoneNearest_8 : decode cX1_hasLoneNearest 8 = .ok (.ifCond .ge 5, 3) := by decide +kernel
theorem dX1_hasLoneNearest_11 : decode cX1_hasLoneNearest 11 = .ok (.iconst 0, 1) := by decide +kernel
theorem dX1_hasLoneNearest_12 : decode cX1_hasLoneNearest 12 = .ok (.ireturn, 1) := by decide +kernel
theorem dX1_hasLoneNearest_13 : decode cX1_hasLoneNearest 13 = .ok (.aload_n 0, 1) := by decide +kernel
theorem dX1_hasLoneNearest_14 : decode cX1_hasLoneNearest 14 = .ok (.getfield 13, 3) := by decide +kernel
theorem dX1_hasLoneNearest_17 : decode cX1_hasLoneNearest 17 = .ok (.iload_n 3, 1) := by decide +kernel
theorem dX1_hasLoneNearest_18 : decode cX1_hasLoneNearest 18 = .ok (.iaload, 1) := by decide +kernel
theorem dX1_hasLoneNearest_19 : decode cX1_hasLoneNearest 19 = .ok (.iload_n 1, 1) := by decide +kernel
theorem dX1_hasLoneNearest_20 : decode cX1_hasLoneNearest 20 = .ok (.ixor, 1) := by decide +kernel
theorem dX1_hasLoneNearest_21 : decode cX1_hasLoneNearest 21 = .ok (.iload_n 2, 1) := by decide +kernel
theorem dX1_hasLoneNearest_22 : decode cX1_hasLoneNearest 22 = .ok (.iand, 1) := by decide +kernel
theorem dX1_hasLoneNearest_23 : decode cX1_hasLoneNearest 23 = .ok (.invokestatic 27, 3) := by decide +kernel
theorem dX1_hasLoneNearest_26 : decode cX1_hasLoneNearest 26 = .ok (.iconst 3, 1) := by decide +kernel
theorem dX1_hasLoneNearest_27 : decode cX1_hasLoneNearest 27 = .ok (.iadd, 1) := by decide +kernel
theorem dX1_hasLoneNearest_28 : decode cX1_hasLoneNearest 28 = .ok (.istore 4, 2) := by decide +kernel
theorem dX1_hasLoneNearest_30 : decode cX1_hasLoneNearest 30 = .ok (.iconst 0, 1) := by decide +kernel
theorem dX1_hasLoneNearest_31 : decode cX1_hasLoneNearest 31 = .ok (.istore 5, 2) := by decide +kernel
theorem dX1_hasLoneNearest_33 : decode cX1_hasLoneNearest 33 = .ok (.iload 5, 2) := by decide +kernel
theorem dX1_hasLoneNearest_35 : decode cX1_hasLoneNearest 35 = .ok (.aload_n 0, 1) := by decide +kernel
theorem dX1_hasLoneNearest_36 : decode cX1_hasLoneNearest 36 = .ok (.getfield 7, 3) := by decide +kernel
theorem dX1_hasLoneNearest_39 : decode cX1_hasLoneNearest 39 = .ok (.if_icmp .ge 36, 3) := by decide +kernel
theorem dX1_hasLoneNearest_42 : decode cX1_hasLoneNearest 42 = .ok (.iload 5, 2) := by decide +kernel
theorem dX1_hasLoneNearest_44 : decode cX1_hasLoneNearest 44 = .ok (.iload_n 3, 1) := by decide +kernel
theorem dX1_hasLoneNearest_45 : decode cX1_hasLoneNearest 45 = .ok (.if_icmp .eq 24, 3) := by decide +kernel
theorem dX1_hasLoneNearest_48 : decode cX1_hasLoneNearest 48 = .ok (.aload_n 0, 1) := by decide +kernel
theorem dX1_hasLoneNearest_49 : decode cX1_hasLoneNearest 49 = .ok (.getfield 13, 3) := by decide +kernel
theorem dX1_hasLoneNearest_52 : decode cX1_hasLoneNearest 52 = .ok (.iload 5, 2) := by decide +kernel
theorem dX1_hasLoneNearest_54 : decode cX1_hasLoneNearest 54 = .ok (.iaload, 1) := by decide +kernel
theorem dX1_hasLoneNearest_55 : decode cX1_hasLoneNearest 55 = .ok (.iload_n 1, 1) := by decide +kernel
theorem dX1_hasLoneNearest_56 : decode cX1_hasLoneNearest 56 = .ok (.ixor, 1) := by decide +kernel
theorem dX1_hasLoneNearest_57 : decode cX1_hasLoneNearest 57 = .ok (.iload_n 2, 1) := by decide +kernel
theorem dX1_hasLoneNearest_58 : decode cX1_hasLoneNearest 58 = .ok (.iand, 1) := by decide +kernel
theorem dX1_hasLoneNearest_59 : decode cX1_hasLoneNearest 59 = .ok (.invokestatic 27, 3) := by decide +kernel
theorem dX1_hasLoneNearest_62 : decode cX1_hasLoneNearest 62 = .ok (.iload 4, 2) := by decide +kernel
theorem dX1_hasLoneNearest_64 : decode cX1_hasLoneNearest 64 = .ok (.if_icmp .ge 5, 3) := by decide +kernel
theorem dX1_hasLoneNearest_67 : decode cX1_hasLoneNearest 67 = .ok (.iconst 0, 1) := by decide +kernel
theorem dX1_hasLoneNearest_68 : decode cX1_hasLoneNearest 68 = .ok (.ireturn, 1) := by decide +kernel
theorem dX1_hasLoneNearest_69 : decode cX1_hasLoneNearest 69 = .ok (.iinc 5 1, 3) := by decide +kernel
theorem dX1_hasLoneNearest_72 : decode cX1_hasLoneNearest 72 = .ok (.goto (-39), 3) := by decide +kernel
theorem dX1_hasLoneNearest_75 : decode cX1_hasLoneNearest 75 = .ok (.iconst 1, 1) := by decide +kernel
theorem dX1_hasLoneNearest_76 : decode cX1_hasLoneNearest 76 = .ok (.ireturn, 1) := by decide +kernel
theorem dX1_fewestApart_0 : decode cX1_fewestApart 0 = .ok (.bipush 14, 2) := by decide +kernel
theorem dX1_fewestApart_2 : decode cX1_fewestApart 2 = .ok (.istore_n 2, 1) := by decide +kernel
theorem dX1_fewestApart_3 : decode cX1_fewestApart 3 = .ok (.iconst 0, 1) := by decide +kernel
theorem dX1_fewestApart_4 : decode cX1_fewestApart 4 = .ok (.istore_n 3, 1) := by decide +kernel
theorem dX1_fewestApart_5 : decode cX1_fewestApart 5 = .ok (.iload_n 3, 1) := by decide +kernel
theorem dX1_fewestApart_6 : decode cX1_fewestApart 6 = .ok (.aload_n 0, 1) := by decide +kernel
theorem dX1_fewestApart_7 : decode cX1_fewestApart 7 = .ok (.getfield 7, 3) := by decide +kernel
theorem dX1_fewestApart_10 : decode cX1_fewestApart 10 = .ok (.if_icmp .ge 48, 3) := by decide +kernel
theorem dX1_fewestApart_13 : decode cX1_fewestApart 13 = .ok (.iconst 0, 1) := by decide +kernel
theorem dX1_fewestApart_14 : decode cX1_fewestApart 14 = .ok (.istore 4, 2) := by decide +kernel
theorem dX1_fewestApart_16 : decode cX1_fewestApart 16 = .ok (.iload 4, 2) := by decide +kernel
theorem dX1_fewestApart_18 : decode cX1_fewestApart 18 = .ok (.iload_n 3, 1) := by decide +kernel
theorem dX1_fewestApart_19 : decode cX1_fewestApart 19 = .ok (.if_icmp .ge 33, 3) := by decide +kernel
theorem dX1_fewestApart_22 : decode cX1_fewestApart 22 = .ok (.iload_n 2, 1) := by decide +kernel
theorem dX1_fewestApart_23 : decode cX1_fewestApart 23 = .ok (.aload_n 0, 1) := by decide +kernel
theorem dX1_fewestApart_24 : decode cX1_fewestApart 24 = .ok (.getfield 13, 3) := by decide +kernel
theorem dX1_fewestApart_27 : decode cX1_fewestApart 27 = .ok (.iload_n 3, 1) := by decide +kernel
theorem dX1_fewestApart_28 : decode cX1_fewestApart 28 = .ok (.iaload, 1) := by decide +kernel
theorem dX1_fewestApart_29 : decode cX1_fewestApart 29 = .ok (.aload_n 0, 1) := by decide +kernel
theorem dX1_fewestApart_30 : decode cX1_fewestApart 30 = .ok (.getfield 13, 3) := by decide +kernel
theorem dX1_fewestApart_33 : decode cX1_fewestApart 33 = .ok (.iload 4, 2) := by decide +kernel
theorem dX1_fewestApart_35 : decode cX1_fewestApart 35 = .ok (.iaload, 1) := by decide +kernel
theorem dX1_fewestApart_36 : decode cX1_fewestApart 36 = .ok (.ixor, 1) := by decide +kernel
theorem dX1_fewestApart_37 : decode cX1_fewestApart 37 = .ok (.iload_n 1, 1) := by decide +kernel
theorem dX1_fewestApart_38 : decode cX1_fewestApart 38 = .ok (.iand, 1) := by decide +kernel
theorem dX1_fewestApart_39 : decode cX1_fewestApart 39 = .ok (.invokestatic 27, 3) := by decide +kernel
theorem dX1_fewestApart_42 : decode cX1_fewestApart 42 = .ok (.invokestatic 39, 3) := by decide +kernel
theorem dX1_fewestApart_45 : decode cX1_fewestApart 45 = .ok (.istore_n 2, 1) := by decide +kernel
theorem dX1_fewestApart_46 : decode cX1_fewestApart 46 = .ok (.iinc 4 1, 3) := by decide +kernel
theorem dX1_fewestApart_49 : decode cX1_fewestApart 49 = .ok (.goto (-33), 3) := by decide +kernel
theorem dX1_fewestApart_52 : decode cX1_fewestApart 52 = .ok (.iinc 3 1, 3) := by decide +kernel
theorem dX1_fewestApart_55 : decode cX1_fewestApart 55 = .ok (.goto (-50), 3) := by decide +kernel
theorem dX1_fewestApart_58 : decode cX1_fewestApart 58 = .ok (.iload_n 2, 1) := by decide +kernel
theorem dX1_fewestApart_59 : decode cX1_fewestApart 59 = .ok (.ireturn, 1) := by decide +kernel
theorem dX1_onesAt_0 : decode cX1_onesAt 0 = .ok (.iconst 0, 1) := by decide +kernel
theorem dX1_onesAt_1 : decode cX1_onesAt 1 = .ok (.istore_n 2, 1) := by decide +kernel
theorem dX1_onesAt_2 : decode cX1_onesAt 2 = .ok (.iconst 0, 1) := by decide +kernel
theorem dX1_onesAt_3 : decode cX1_onesAt 3 = .ok (.istore_n 3, 1) := by decide +kernel
theorem dX1_onesAt_4 : decode cX1_onesAt 4 = .ok (.iload_n 3, 1) := by decide +kernel
theorem dX1_onesAt_5 : decode cX1_onesAt 5 = .ok (.aload_n 0, 1) := by decide +kernel
theorem dX1_onesAt_6 : decode cX1_onesAt 6 = .ok (.getfield 7, 3) := by decide +kernel
theorem dX1_onesAt_9 : decode cX1_onesAt 9 = .ok (.if_icmp .ge 22, 3) := by decide +kernel
theorem dX1_onesAt_12 : decode cX1_onesAt 12 = .ok (.iload_n 2, 1) := by decide +kernel
theorem dX1_onesAt_13 : decode cX1_onesAt 13 = .ok (.aload_n 0, 1) := by decide +kernel
theorem dX1_onesAt_14 : decode cX1_onesAt 14 = .ok (.getfield 13, 3) := by decide +kernel
theorem dX1_onesAt_17 : decode cX1_onesAt 17 = .ok (.iload_n 3, 1) := by decide +kernel
theorem dX1_onesAt_18 : decode cX1_onesAt 18 = .ok (.iaload, 1) := by decide +kernel
theorem dX1_onesAt_19 : decode cX1_onesAt 19 = .ok (.iload_n 1, 1) := by decide +kernel
theorem dX1_onesAt_20 : decode cX1_onesAt 20 = .ok (.ishr, 1) := by decide +kernel
theorem dX1_onesAt_21 : decode cX1_onesAt 21 = .ok (.iconst 1, 1) := by decide +kernel
theorem dX1_onesAt_22 : decode cX1_onesAt 22 = .ok (.iand, 1) := by decide +kernel
theorem dX1_onesAt_23 : decode cX1_onesAt 23 = .ok (.iadd, 1) := by decide +kernel
theorem dX1_onesAt_24 : decode cX1_onesAt 24 = .ok (.istore_n 2, 1) := by decide +kernel
theorem dX1_onesAt_25 : decode cX1_onesAt 25 = .ok (.iinc 3 1, 3) := by decide +kernel
theorem dX1_onesAt_28 : decode cX1_onesAt 28 = .ok (.goto (-24), 3) := by decide +kernel
theorem dX1_onesAt_31 : decode cX1_onesAt 31 = .ok (.iload_n 2, 1) := by decide +kernel
theorem dX1_onesAt_32 : decode cX1_onesAt 32 = .ok (.ireturn, 1) := by decide +kernel
theorem dX2_init_0 : decode cX2_init 0 = .ok (.aload_n 0, 1) := by decide +kernel
theorem dX2_init_1 : decode cX2_init 1 = .ok (.invokespecial 1, 3) := by decide +kernel
theorem dX2_init_4 : decode cX2_init 4 = .ok (.aload_n 0, 1) := by decide +kernel
theorem dX2_init_5 : decode cX2_init 5 = .ok (.iconst 0, 1) := by decide +kernel
theorem dX2_init_6 : decode cX2_init 6 = .ok (.putfield 7, 3) := by decide +kernel
theorem dX2_init_9 : decode cX2_init 9 = .ok (.aload_n 0, 1) := by decide +kernel
theorem dX2_init_10 : decode cX2_init 10 = .ok (.bipush 64, 2) := by decide +kernel
theorem dX2_init_12 : decode cX2_init 12 = .ok (.newarray .int, 2) := by decide +kernel
theorem dX2_init_14 : decode cX2_init 14 = .ok (.putfield 13, 3) := by decide +kernel
theorem dX2_init_17 : decode cX2_init 17 = .ok (.return_, 1) := by decide +kernel
theorem dX2_keys_0 : decode cX2_keys 0 = .ok (.iconst 1, 1) := by decide +kernel
theorem dX2_keys_1 : decode cX2_keys 1 = .ok (.aload_n 0, 1) := by decide +kernel
theorem dX2_keys_2 : decode cX2_keys 2 = .ok (.getfield 7, 3) := by decide +kernel
theorem dX2_keys_5 : decode cX2_keys 5 = .ok (.ishl, 1) := by decide +kernel
theorem dX2_keys_6 : decode cX2_keys 6 = .ok (.ireturn, 1) := by decide +kernel
theorem dX2_isKey_0 : decode cX2_isKey 0 = .ok (.iload_n 1, 1) := by decide +kernel
theorem dX2_isKey_1 : decode cX2_isKey 1 = .ok (.ifCond .lt 15, 3) := by decide +kernel
theorem dX2_isKey_4 : decode cX2_isKey 4 = .ok (.iload_n 1, 1) := by decide +kernel
theorem dX2_isKey_5 : decode cX2_isKey 5 = .ok (.aload_n 0, 1) := by decide +kernel
theorem dX2_isKey_6 : decode cX2_isKey 6 = .ok (.invokevirtual 17, 3) := by decide +kernel
theorem dX2_isKey_9 : decode cX2_isKey 9 = .ok (.if_icmp .ge 7, 3) := by decide +kernel
theorem dX2_isKey_12 : decode cX2_isKey 12 = .ok (.iconst 1, 1) := by decide +kernel
theorem dX2_isKey_13 : decode cX2_isKey 13 = .ok (.goto 4, 3) := by decide +kernel
theorem dX2_isKey_16 : decode cX2_isKey 16 = .ok (.iconst 0, 1) := by decide +kernel
theorem dX2_isKey_17 : decode cX2_isKey 17 = .ok (.ireturn, 1) := by decide +kernel
theorem dX2_dropRows_0 : decode cX2_dropRows 0 = .ok (.aload_n 0, 1) := by decide +kernel
theorem dX2_dropRows_1 : decode cX2_dropRows 1 = .ok (.iconst 0, 1) := by decide +kernel
theorem dX2_dropRows_2 : decode cX2_dropRows 2 = .ok (.putfield 7, 3) := by decide +kernel
theorem dX2_dropRows_5 : decode cX2_dropRows 5 = .ok (.return_, 1) := by decide +kernel
theorem dX2_holds_0 : decode cX2_holds 0 = .ok (.iconst 0, 1) := by decide +kernel
theorem dX2_holds_1 : decode cX2_holds 1 = .ok (.istore_n 2, 1) := by decide +kernel
theorem dX2_holds_2 : decode cX2_holds 2 = .ok (.iload_n 2, 1) := by decide +kernel
theorem dX2_holds_3 : decode cX2_holds 3 = .ok (.aload_n 0, 1) := by decide +kernel
theorem dX2_holds_4 : decode cX2_holds 4 = .ok (.invokevirtual 17, 3) := by decide +kernel
theorem dX2_holds_7 : decode cX2_holds 7 = .ok (.if_icmp .ge 21, 3) := by decide +kernel
theorem dX2_holds_10 : decode cX2_holds 10 = .ok (.aload_n 0, 1) := by decide +kernel
theorem dX2_holds_11 : decode cX2_holds 11 = .ok (.getfield 13, 3) := by decide +kernel
theorem dX2_holds_14 : decode cX2_holds 14 = .ok (.iload_n 2, 1) := by decide +kernel
theorem dX2_holds_15 : decode cX2_holds 15 = .ok (.iaload, 1) := by decide +kernel
theorem dX2_holds_16 : decode cX2_holds 16 = .ok (.iload_n 1, 1) := by decide +kernel
theorem dX2_holds_17 : decode cX2_holds 17 = .ok (.if_icmp .ne 5, 3) := by decide +kernel
theorem dX2_holds_20 : decode cX2_holds 20 = .ok (.iconst 1, 1) := by decide +kernel
theorem dX2_holds_21 : decode cX2_holds 21 = .ok (.ireturn, 1) := by decide +kernel
theorem dX2_holds_22 : decode cX2_holds 22 = .ok (.iinc 2 1, 3) := by decide +kernel
theorem dX2_holds_25 : decode cX2_holds 25 = .ok (.goto (-23), 3) := by decide +kernel
theorem dX2_holds_28 : decode cX2_holds 28 = .ok (.iconst 0, 1) := by decide +kernel
theorem dX2_holds_29 : decode cX2_holds 29 = .ok (.ireturn, 1) := by decide +kernel
theorem dX2_addRow_0 : decode cX2_addRow 0 = .ok (.aload_n 0, 1) := by decide +kernel
theorem dX2_addRow_1 : decode cX2_addRow 1 = .ok (.getfield 7, 3) := by decide +kernel
theorem dX2_addRow_4 : decode cX2_addRow 4 = .ok (.bipush 6, 2) := by decide +kernel
theorem dX2_addRow_6 : decode cX2_addRow 6 = .ok (.if_icmp .ge 47, 3) := by decide +kernel
theorem dX2_addRow_9 : decode cX2_addRow 9 = .ok (.aload_n 0, 1) := by decide +kernel
theorem dX2_addRow_10 : decode cX2_addRow 10 = .ok (.invokevirtual 17, 3) := by decide +kernel
theorem dX2_addRow_13 : decode cX2_addRow 13 = .ok (.istore_n 2, 1) := by decide +kernel
theorem dX2_addRow_14 : decode cX2_addRow 14 = .ok (.iconst 0, 1) := by decide +kernel
theorem dX2_addRow_15 : decode cX2_addRow 15 = .ok (.istore_n 3, 1) := by decide +kernel
theorem dX2_addRow_16 : decode cX2_addRow 16 = .ok (.iload_n 3, 1) := by decide +kernel
theorem dX2_addRow_17 : decode cX2_addRow 17 = .ok (.iload_n 2, 1) := by decide +kernel
theorem dX2_addRow_18 : decode cX2_addRow 18 = .ok (.if_icmp .ge 25, 3) := by decide +kernel
theorem dX2_addRow_21 : decode cX2_addRow 21 = .ok (.aload_n 0, 1) := by decide +kernel
theorem dX2_addRow_22 : decode cX2_addRow 22 = .ok (.getfield 13, 3) := by decide +kernel
theorem dX2_addRow_25 : decode cX2_addRow 25 = .ok (.iload_n 2, 1) := by decide +kernel
theorem dX2_addRow_26 : decode cX2_addRow 26 = .ok (.iload_n 3, 1) := by decide +kernel
theorem dX2_addRow_27 : decode cX2_addRow 27 = .ok (.iadd, 1) := by decide +kernel
theorem dX2_addRow_28 : decode cX2_addRow 28 = .ok (.aload_n 0, 1) := by decide +kernel
theorem dX2_addRow_29 : decode cX2_addRow 29 = .ok (.getfield 13, 3) := by decide +kernel
theorem dX2_addRow_32 : decode cX2_addRow 32 = .ok (.iload_n 3, 1) := by decide +kernel
theorem dX2_addRow_33 : decode cX2_addRow 33 = .ok (.iaload, 1) := by decide +kernel
theorem dX2_addRow_34 : decode cX2_addRow 34 = .ok (.iload_n 1, 1) := by decide +kernel
theorem dX2_addRow_35 : decode cX2_addRow 35 = .ok (.ixor, 1) := by decide +kernel
theorem dX2_addRow_36 : decode cX2_addRow 36 = .ok (.iastore, 1) := by decide +kernel
theorem dX2_addRow_37 : decode cX2_addRow 37 = .ok (.iinc 3 1, 3) := by decide +kernel
theorem dX2_addRow_40 : decode cX2_addRow 40 = .ok (.goto (-24), 3) := by decide +kernel
theorem dX2_addRow_43 : decode cX2_addRow 43 = .ok (.aload_n 0, 1) := by decide +kernel
theorem dX2_addRow_44 : decode cX2_addRow 44 = .ok (.dup, 1) := by decide +kernel
theorem dX2_addRow_45 : decode cX2_addRow 45 = .ok (.getfield 7, 3) := by decide +kernel
theorem dX2_addRow_48 : decode cX2_addRow 48 = .ok (.iconst 1, 1) := by decide +kernel
theorem dX2_addRow_49 : decode cX2_addRow 49 = .ok (.iadd, 1) := by decide +kernel
theorem dX2_addRow_50 : decode cX2_addRow 50 = .ok (.putfield 7, 3) := by decide +kernel
theorem dX2_addRow_53 : decode cX2_addRow 53 = .ok (.return_, 1) := by decide +kernel
theorem dX2_fewestBits_0 : decode cX2_fewestBits 0 = .ok (.iconst 0, 1) := by decide +kernel
theorem dX2_fewestBits_1 : decode cX2_fewestBits 1 = .ok (.istore_n 1, 1) := by decide +kernel
theorem dX2_fewestBits_2 : decode cX2_fewestBits 2 = .ok (.iconst 1, 1) := by decide +kernel
theorem dX2_fewestBits_3 : decode cX2_fewestBits 3 = .ok (.istore_n 2, 1) := by decide +kernel
theorem dX2_fewestBits_4 : decode cX2_fewestBits 4 = .ok (.iload_n 2, 1) := by decide +kernel
theorem dX2_fewestBits_5 : decode cX2_fewestBits 5 = .ok (.aload_n 0, 1) := by decide +kernel
theorem dX2_fewestBits_6 : decode cX2_fewestBits 6 = .ok (.invokevirtual 17, 3) := by decide +kernel
theorem dX2_fewestBits_9 : decode cX2_fewestBits 9 = .ok (.if_icmp .ge 31, 3) := by decide +kernel
theorem dX2_fewestBits_12 : decode cX2_fewestBits 12 = .ok (.aload_n 0, 1) := by decide +kernel
theorem dX2_fewestBits_13 : decode cX2_fewestBits 13 = .ok (.getfield 13, 3) := by decide +kernel
theorem dX2_fewestBits_16 : decode cX2_fewestBits 16 = .ok (.iload_n 2, 1) := by decide +kernel
theorem dX2_fewestBits_17 : decode cX2_fewestBits 17 = .ok (.iaload, 1) := by decide +kernel
theorem dX2_fewestBits_18 : decode cX2_fewestBits 18 = .ok (.invokestatic 21, 3) := by decide +kernel
theorem dX2_fewestBits_21 : decode cX2_fewestBits 21 = .ok (.istore_n 3, 1) := by decide +kernel
theorem dX2_fewestBits_22 : decode cX2_fewestBits 22 = .ok (.iload_n 2, 1) := by decide +kernel
theorem dX2_fewestBits_23 : decode cX2_fewestBits 23 = .ok (.iconst 1, 1) := by decide +kernel
theorem dX2_fewestBits_24 : decode cX2_fewestBits 24 = .ok (.if_icmp .eq 8, 3) := by decide +kernel
theorem dX2_fewestBits_27 : decode cX2_fewestBits 27 = .ok (.iload_n 3, 1) := by decide +kernel
theorem dX2_fewestBits_28 : decode cX2_fewestBits 28 = .ok (.iload_n 1, 1) := by decide +kernel
theorem dX2_fewestBits_29 : decode cX2_fewestBits 29 = .ok (.if_icmp .ge 5, 3) := by decide +kernel
theorem dX2_fewestBits_32 : decode cX2_fewestBits 32 = .ok (.iload_n 3, 1) := by decide +kernel
theorem dX2_fewestBits_33 : decode cX2_fewestBits 33 = .ok (.istore_n 1, 1) := by decide +kernel
theorem dX2_fewestBits_34 : decode cX2_fewestBits 34 = .ok (.iinc 2 1, 3) := by decide +kernel
theorem dX2_fewestBits_37 : decode cX2_fewestBits 37 = .ok (.goto (-33), 3) := by decide +kernel
theorem dX2_fewestBits_40 : decode cX2_fewestBits 40 = .ok (.iload_n 1, 1) := by decide +kernel
theorem dX2_fewestBits_41 : decode cX2_fewestBits 41 = .ok (.ireturn, 1) := by decide +kernel
theorem dX2_nearestKey_0 : decode cX2_nearestKey 0 = .ok (.iconst 0, 1) := by decide +kernel
theorem dX2_nearestKey_1 : decode cX2_nearestKey 1 = .ok (.istore_n 2, 1) := by decide +kernel
theorem dX2_nearestKey_2 : decode cX2_nearestKey 2 = .ok (.aload_n 0, 1) := by decide +kernel
theorem dX2_nearestKey_3 : decode cX2_nearestKey 3 = .ok (.getfield 13, 3) := by decide +kernel
theorem dX2_nearestKey_6 : decode cX2_nearestKey 6 = .ok (.iconst 0, 1) := by decide +kernel
theorem dX2_nearestKey_7 : decode cX2_nearestKey 7 = .ok (.iaload, 1) := by decide +kernel
theorem dX2_nearestKey_8 : decode cX2_nearestKey 8 = .ok (.iload_n 1, 1) := by decide +kernel
theorem dX2_nearestKey_9 : decode cX2_nearestKey 9 = .ok (.ixor, 1) := by decide +kernel
theorem dX2_nearestKey_10 : decode cX2_nearestKey 10 = .ok (.invokestatic 21, 3) := by decide +kernel
theorem dX2_nearestKey_13 : decode cX2_nearestKey 13 = .ok (.istore_n 3, 1) := by decide +kernel
theorem dX2_nearestKey_14 : decode cX2_nearestKey 14 = .ok (.aload_n 0, 1) := by decide +kernel
theorem dX2_nearestKey_15 : decode cX2_nearestKey 15 = .ok (.invokevirtual 17, 3) := by decide +kernel
theorem dX2_nearestKey_18 : decode cX2_nearestKey 18 = .ok (.istore 4, 2) := by decide +kernel
theorem dX2_nearestKey_20 : decode cX2_nearestKey 20 = .ok (.iconst 1, 1) := by decide +kernel
theorem dX2_nearestKey_21 : decode cX2_nearestKey 21 = .ok (.istore 5, 2) := by decide +kernel
theorem dX2_nearestKey_23 : decode cX2_nearestKey 23 = .ok (.iload 5, 2) := by decide +kernel
theorem dX2_nearestKey_25 : decode cX2_nearestKey 25 = .ok (.iload 4, 2) := by decide +kernel
theorem dX2_nearestKey_27 : decode cX2_nearestKey 27 = .ok (.if_icmp .ge 35, 3) := by decide +kernel
theorem dX2_nearestKey_30 : decode cX2_nearestKey 30 = .ok (.aload_n 0, 1) := by decide +kernel
theorem dX2_nearestKey_31 : decode cX2_nearestKey 31 = .ok (.getfield 13, 3) := by decide +kernel
theorem dX2_nearestKey_34 : decode cX2_nearestKey 34 = .ok (.iload 5, 2) := by decide +kernel
theorem dX2_nearestKey_36 : decode cX2_nearestKey 36 = .ok (.iaload, 1) := by decide +kernel
theorem dX2_nearestKey_37 : decode cX2_nearestKey 37 = .ok (.iload_n 1, 1) := by decide +kernel
theorem dX2_nearestKey_38 : decode cX2_nearestKey 38 = .ok (.ixor, 1) := by decide +kernel
theorem dX2_nearestKey_39 : decode cX2_nearestKey 39 = .ok (.invokestatic 21, 3) := by decide +kernel
theorem dX2_nearestKey_42 : decode cX2_nearestKey 42 = .ok (.istore 6, 2) := by decide +kernel
theorem dX2_nearestKey_44 : decode cX2_nearestKey 44 = .ok (.iload 6, 2) := by decide +kernel
theorem dX2_nearestKey_46 : decode cX2_nearestKey 46 = .ok (.iload_n 3, 1) := by decide +kernel
theorem dX2_nearestKey_47 : decode cX2_nearestKey 47 = .ok (.if_icmp .ge 9, 3) := by decide +kernel
theorem dX2_nearestKey_50 : decode cX2_nearestKey 50 = .ok (.iload 6, 2) := by decide +kernel
theorem dX2_nearestKey_52 : decode cX2_nearestKey 52 = .ok (.istore_n 3, 1) := by decide +kernel
theorem dX2_nearestKey_53 : decode cX2_nearestKey 53 = .ok (.iload 5, 2) := by decide +kernel
theorem dX2_nearestKey_55 : decode cX2_nearestKey 55 = .ok (.istore_n 2, 1) := by decide +kernel
theorem dX2_nearestKey_56 : decode cX2_nearestKey 56 = .ok (.iinc 5 1, 3) := by decide +kernel
theorem dX2_nearestKey_59 : decode cX2_nearestKey 59 = .ok (.goto (-36), 3) := by decide +kernel
theorem dX2_nearestKey_62 : decode cX2_nearestKey 62 = .ok (.iload_n 2, 1) := by decide +kernel
theorem dX2_nearestKey_63 : decode cX2_nearestKey 63 = .ok (.ireturn, 1) := by decide +kernel
theorem dX2_hasOneNearest_0 : decode cX2_hasOneNearest 0 = .ok (.aload_n 0, 1) := by decide +kernel
theorem dX2_hasOneNearest_1 : decode cX2_hasOneNearest 1 = .ok (.iload_n 1, 1) := by decide +kernel
theorem dX2_hasOneNearest_2 : decode cX2_hasOneNearest 2 = .ok (.invokevirtual 27, 3) := by decide +kernel
theorem dX2_hasOneNearest_5 : decode cX2_hasOneNearest 5 = .ok (.istore_n 2, 1) := by decide +kernel
theorem dX2_hasOneNearest_6 : decode cX2_hasOneNearest 6 = .ok (.aload_n 0, 1) := by decide +kernel
theorem dX2_hasOneNearest_7 : decode cX2_hasOneNearest 7 = .ok (.getfield 13, 3) := by decide +kernel
theorem dX2_hasOneNearest_10 : decode cX2_hasOneNearest 10 = .ok (.iload_n 2, 1) := by decide +kernel
theorem dX2_hasOneNearest_11 : decode cX2_hasOneNearest 11 = .ok (.iaload, 1) := by decide +kernel
theorem dX2_hasOneNearest_12 : decode cX2_hasOneNearest 12 = .ok (.iload_n 1, 1) := by decide +kernel
theorem dX2_hasOneNearest_13 : decode cX2_hasOneNearest 13 = .ok (.ixor, 1) := by decide +kernel
theorem dX2_hasOneNearest_14 : decode cX2_hasOneNearest 14 = .ok (.invokestatic 21, 3) := by decide +kernel
theorem dX2_hasOneNearest_17 : decode cX2_hasOneNearest 17 = .ok (.istore_n 3, 1) := by decide +kernel
theorem dX2_hasOneNearest_18 : decode cX2_hasOneNearest 18 = .ok (.iload_n 2, 1) := by decide +kernel
theorem dX2_hasOneNearest_19 : decode cX2_hasOneNearest 19 = .ok (.iconst 1, 1) := by decide +kernel
theorem dX2_hasOneNearest_20 : decode cX2_hasOneNearest 20 = .ok (.iadd, 1) := by decide +kernel
theorem dX2_hasOneNearest_21 : decode cX2_hasOneNearest 21 = .ok (.istore 4, 2) := by decide +kernel
theorem dX2_hasOneNearest_23 : decode cX2_hasOneNearest 23 = .ok (.iload 4, 2) := by decide +kernel
theorem dX2_hasOneNearest_25 : decode cX2_hasOneNearest 25 = .ok (.aload_n 0, 1) := by decide +kernel
theorem dX2_hasOneNearest_26 : decode cX2_hasOneNearest 26 = .ok (.invokevirtual 17, 3) := by decide +kernel
theorem dX2_hasOneNearest_29 : decode cX2_hasOneNearest 29 = .ok (.if_icmp .ge 27, 3) := by decide +kernel
theorem dX2_hasOneNearest_32 : decode cX2_hasOneNearest 32 = .ok (.aload_n 0, 1) := by decide +kernel
theorem dX2_hasOneNearest_33 : decode cX2_hasOneNearest 33 = .ok (.getfield 13, 3) := by decide +kernel
theorem dX2_hasOneNearest_36 : decode cX2_hasOneNearest 36 = .ok (.iload 4, 2) := by decide +kernel
theorem dX2_hasOneNearest_38 : decode cX2_hasOneNearest 38 = .ok (.iaload, 1) := by decide +kernel
theorem dX2_hasOneNearest_39 : decode cX2_hasOneNearest 39 = .ok (.iload_n 1, 1) := by decide +kernel
theorem dX2_hasOneNearest_40 : decode cX2_hasOneNearest 40 = .ok (.ixor, 1) := by decide +kernel
theorem dX2_hasOneNearest_41 : decode cX2_hasOneNearest 41 = .ok (.invokestatic 21, 3) := by decide +kernel
theorem dX2_hasOneNearest_44 : decode cX2_hasOneNearest 44 = .ok (.iload_n 3, 1) := by decide +kernel
theorem dX2_hasOneNearest_45 : decode cX2_hasOneNearest 45 = .ok (.if_icmp .ne 5, 3) := by decide +kernel
theorem dX2_hasOneNearest_48 : decode cX2_hasOneNearest 48 = .ok (.iconst 0, 1) := by decide +kernel
theorem dX2_hasOneNearest_49 : decode cX2_hasOneNearest 49 = .ok (.ireturn, 1) := by decide +kernel
theorem dX2_hasOneNearest_50 : decode cX2_hasOneNearest 50 = .ok (.iinc 4 1, 3) := by decide +kernel
theorem dX2_hasOneNearest_53 : decode cX2_hasOneNearest 53 = .ok (.goto (-30), 3) := by decide +kernel
theorem dX2_hasOneNearest_56 : decode cX2_hasOneNearest 56 = .ok (.iconst 1, 1) := by decide +kernel
theorem dX2_hasOneNearest_57 : decode cX2_hasOneNearest 57 = .ok (.ireturn, 1) := by decide +kernel
theorem dX3_init_0 : decode cX3_init 0 = .ok (.aload_n 0, 1) := by decide +kernel
theorem dX3_init_1 : decode cX3_init 1 = .ok (.invokespecial 3, 3) := by decide +kernel
theorem dX3_init_4 : decode cX3_init 4 = .ok (.aload_n 0, 1) := by decide +kernel
theorem dX3_init_5 : decode cX3_init 5 = .ok (.bipush 14, 2) := by decide +kernel
theorem dX3_init_7 : decode cX3_init 7 = .ok (.newarray .int, 2) := by decide +kernel
theorem dX3_init_9 : decode cX3_init 9 = .ok (.putfield 11, 3) := by decide +kernel
theorem dX3_init_12 : decode cX3_init 12 = .ok (.aload_n 0, 1) := by decide +kernel
theorem dX3_init_13 : decode cX3_init 13 = .ok (.bipush 14, 2) := by decide +kernel
theorem dX3_init_15 : decode cX3_init 15 = .ok (.newarray .int, 2) := by decide +kernel
theorem dX3_init_17 : decode cX3_init 17 = .ok (.putfield 17, 3) := by decide +kernel
theorem dX3_init_20 : decode cX3_init 20 = .ok (.aload_n 0, 1) := by decide +kernel
theorem dX3_init_21 : decode cX3_init 21 = .ok (.aload_n 1, 1) := by decide +kernel
theorem dX3_init_22 : decode cX3_init 22 = .ok (.putfield 20, 3) := by decide +kernel
theorem dX3_init_25 : decode cX3_init 25 = .ok (.aload_n 0, 1) := by decide +kernel
theorem dX3_init_26 : decode cX3_init 26 = .ok (.aload_n 2, 1) := by decide +kernel
theorem dX3_init_27 : decode cX3_init 27 = .ok (.putfield 24, 3) := by decide +kernel
theorem dX3_init_30 : decode cX3_init 30 = .ok (.return_, 1) := by decide +kernel
theorem dX3_harmful_0 : decode cX3_harmful 0 = .ok (.aload_n 0, 1) := by decide +kernel
theorem dX3_harmful_1 : decode cX3_harmful 1 = .ok (.iload_n 2, 1) := by decide +kernel
theorem dX3_harmful_2 : decode cX3_harmful 2 = .ok (.invokevirtual 28, 3) := by decide +kernel
theorem dX3_harmful_5 : decode cX3_harmful 5 = .ok (.aload_n 0, 1) := by decide +kernel
theorem dX3_harmful_6 : decode cX3_harmful 6 = .ok (.getfield 24, 3) := by decide +kernel
theorem dX3_harmful_9 : decode cX3_harmful 9 = .ok (.iload_n 1, 1) := by decide +kernel
theorem dX3_harmful_10 : decode cX3_harmful 10 = .ok (.invokevirtual 32, 3) := by decide +kernel
theorem dX3_harmful_13 : decode cX3_harmful 13 = .ok (.ifCond .eq 15, 3) := by decide +kernel
theorem dX3_harmful_16 : decode cX3_harmful 16 = .ok (.aload_n 0, 1) := by decide +kernel
theorem dX3_harmful_17 : decode cX3_harmful 17 = .ok (.getfield 24, 3) := by decide +kernel
theorem dX3_harmful_20 : decode cX3_harmful 20 = .ok (.getfield 38, 3) := by decide +kernel
theorem dX3_harmful_23 : decode cX3_harmful 23 = .ok (.iload_n 1, 1) := by decide +kernel
theorem dX3_harmful_24 : decode cX3_harmful 24 = .ok (.iaload, 1) := by decide +kernel
theorem dX3_harmful_25 : decode cX3_harmful 25 = .ok (.goto 4, 3) := by decide +kernel
theorem dX3_harmful_28 : decode cX3_harmful 28 = .ok (.iconst 0, 1) := by decide +kernel
theorem dX3_harmful_29 : decode cX3_harmful 29 = .ok (.istore_n 3, 1) := by decide +kernel
theorem dX3_harmful_30 : decode cX3_harmful 30 = .ok (.aload_n 0, 1) := by decide +kernel
theorem dX3_harmful_31 : decode cX3_harmful 31 = .ok (.getfield 20, 3) := by decide +kernel
theorem dX3_harmful_34 : decode cX3_harmful 34 = .ok (.invokevirtual 41, 3) := by decide +kernel
theorem dX3_harmful_37 : decode cX3_harmful 37 = .ok (.aload_n 0, 1) := by decide +kernel
theorem dX3_harmful_38 : decode cX3_harmful 38 = .ok (.iload_n 1, 1) := by decide +kernel
theorem dX3_harmful_39 : decode cX3_harmful 39 = .ok (.iconst 0, 1) := by decide +kernel
theorem dX3_harmful_40 : decode cX3_harmful 40 = .ok (.iload_n 3, 1) := by decide +kernel
theorem dX3_harmful_41 : decode cX3_harmful 41 = .ok (.lconst 1, 1) := by decide +kernel
theorem dX3_harmful_42 : decode cX3_harmful 42 = .ok (.invokestatic 45, 3) := by decide +kernel
theorem dX3_harmful_45 : decode cX3_harmful 45 = .ok (.lsub, 1) := by decide +kernel
theorem dX3_harmful_46 : decode cX3_harmful 46 = .ok (.lreturn, 1) := by decide +kernel
theorem dX3_growTo_0 : decode cX3_growTo 0 = .ok (.iconst 0, 1) := by decide +kernel
theorem dX3_growTo_1 : decode cX3_growTo 1 = .ok (.istore_n 2, 1) := by decide +kernel
theorem dX3_growTo_2 : decode cX3_growTo 2 = .ok (.iload_n 2, 1) := by decide +kernel
theorem dX3_growTo_3 : decode cX3_growTo 3 = .ok (.aload_n 0, 1) := by decide +kernel
theorem dX3_growTo_4 : decode cX3_growTo 4 = .ok (.getfield 20, 3) := by decide +kernel
theorem dX3_growTo_7 : decode cX3_growTo 7 = .ok (.getfield 49, 3) := by decide +kernel
theorem dX3_growTo_10 : decode cX3_growTo 10 = .ok (.if_icmp .ge 64, 3) := by decide +kernel
theorem dX3_growTo_13 : decode cX3_growTo 13 = .ok (.aload_n 0, 1) := by decide +kernel
theorem dX3_growTo_14 : decode cX3_growTo 14 = .ok (.getfield 20, 3) := by decide +kernel
theorem dX3_growTo_17 : decode cX3_growTo 17 = .ok (.iload_n 2, 1) := by decide +kernel
theorem dX3_growTo_18 : decode cX3_growTo 18 = .ok (.invokevirtual 53, 3) := by decide +kernel
theorem dX3_growTo_21 : decode cX3_growTo 21 = .ok (.istore_n 3, 1) := by decide +kernel
theorem dX3_growTo_22 : decode cX3_growTo 22 = .ok (.aload_n 0, 1) := by decide +kernel
theorem dX3_growTo_23 : decode cX3_growTo 23 = .ok (.getfield 20, 3) := by decide +kernel
theorem dX3_growTo_26 : decode cX3_growTo 26 = .ok (.iload_n 2, 1) := by decide +kernel
theorem dX3_growTo_27 : decode cX3_growTo 27 = .ok (.iload_n 1, 1) := by decide +kernel
theorem dX3_growTo_28 : decode cX3_growTo 28 = .ok (.invokevirtual 56, 3) := by decide +kernel
theorem dX3_growTo_31 : decode cX3_growTo 31 = .ok (.istore 4, 2) := by decide +kernel
theorem dX3_growTo_33 : decode cX3_growTo 33 = .ok (.aload_n 0, 1) := by decide +kernel
theorem dX3_growTo_34 : decode cX3_growTo 34 = .ok (.getfield 11, 3) := by decide +kernel
theorem dX3_growTo_37 : decode cX3_growTo 37 = .ok (.iload_n 2, 1) := by decide +kernel
theorem dX3_growTo_38 : decode cX3_growTo 38 = .ok (.iload_n 3, 1) := by decide +kernel
theorem dX3_growTo_39 : decode cX3_growTo 39 = .ok (.ifCond .eq 7, 3) := by decide +kernel
theorem dX3_growTo_42 : decode cX3_growTo 42 = .ok (.iconst 0, 1) := by decide +kernel
theorem dX3_growTo_43 : decode cX3_growTo 43 = .ok (.goto 5, 3) := by decide +kernel
theorem dX3_growTo_46 : decode cX3_growTo 46 = .ok (.iload 4, 2) := by decide +kernel
theorem dX3_growTo_48 : decode cX3_growTo 48 = .ok (.iastore, 1) := by decide +kernel
theorem dX3_growTo_49 : decode cX3_growTo 49 = .ok (.aload_n 0, 1) := by decide +kernel
theorem dX3_growTo_50 : decode cX3_growTo 50 = .ok (.getfield 17, 3) := by decide +kernel
theorem dX3_growTo_53 : decode cX3_growTo 53 = .ok (.iload_n 2, 1) := by decide +kernel
theorem dX3_growTo_54 : decode cX3_growTo 54 = .ok (.iload_n 3, 1) := by decide +kernel
theorem dX3_growTo_55 : decode cX3_growTo 55 = .ok (.ifCond .eq 7, 3) := by decide +kernel
theorem dX3_growTo_58 : decode cX3_growTo 58 = .ok (.iconst 1, 1) := by decide +kernel
theorem dX3_growTo_59 : decode cX3_growTo 59 = .ok (.goto 8, 3) := by decide +kernel
theorem dX3_growTo_62 : decode cX3_growTo 62 = .ok (.bipush 8, 2) := by decide +kernel
theorem dX3_growTo_64 : decode cX3_growTo 64 = .ok (.iload 4, 2) := by decide +kernel
theorem dX3_growTo_66 : decode cX3_growTo 66 = .ok (.isub, 1) := by decide +kernel
theorem dX3_growTo_67 : decode cX3_growTo 67 = .ok (.iastore, 1) := by decide +kernel
theorem dX3_growTo_68 : decode cX3_growTo 68 = .ok (.iinc 2 1, 3) := by decide +kernel
theorem dX3_growTo_71 : decode cX3_growTo 71 = .ok (.goto (-69), 3) := by decide +kernel
theorem dX3_growTo_74 : decode cX3_growTo 74 = .ok (.return_, 1) := by decide +kernel
theorem dX3_harmless_0 : decode cX3_harmless 0 = .ok (.iload_n 2, 1) := by decide +kernel
theorem dX3_harmless_1 : decode cX3_harmless 1 = .ok (.aload_n 0, 1) := by decide +kernel
theorem dX3_harmless_2 : decode cX3_harmless 2 = .ok (.getfield 20, 3) := by decide +kernel
theorem dX3_harmless_5 : decode cX3_harmless 5 = .ok (.getfield 49, 3) := by decide +kernel
theorem dX3_harmless_8 : decode cX3_harmless 8 = .ok (.if_icmp .lt 6, 3) := by decide +kernel
theorem dX3_harmless_11 : decode cX3_harmless 11 = .ok (.lload 4, 2) := by decide +kernel
theorem dX3_harmless_13 : decode cX3_harmless 13 = .ok (.lreturn, 1) := by decide +kernel
theorem dX3_harmless_14 : decode cX3_harmless 14 = .ok (.aload_n 0, 1) := by decide +kernel
theorem dX3_harmless_15 : decode cX3_harmless 15 = .ok (.iload_n 1, 1) := by decide +kernel
theorem dX3_harmless_16 : decode cX3_harmless 16 = .ok (.iload_n 2, 1) := by decide +kernel
theorem dX3_harmless_17 : decode cX3_harmless 17 = .ok (.iconst 1, 1) := by decide +kernel
theorem dX3_harmless_18 : decode cX3_harmless 18 = .ok (.iadd, 1) := by decide +kernel
theorem dX3_harmless_19 : decode cX3_harmless 19 = .ok (.iload_n 3, 1) := by decide +kernel
theorem dX3_harmless_20 : decode cX3_harmless 20 = .ok (.lload 4, 2) := by decide +kernel
theorem dX3_harmless_22 : decode cX3_harmless 22 = .ok (.aload_n 0, 1) := by decide +kernel
theorem dX3_harmless_23 : decode cX3_harmless 23 = .ok (.getfield 17, 3) := by decide +kernel
theorem dX3_harmless_26 : decode cX3_harmless 26 = .ok (.iload_n 2, 1) := by decide +kernel
theorem dX3_harmless_27 : decode cX3_harmless 27 = .ok (.iaload, 1) := by decide +kernel
theorem dX3_harmless_28 : decode cX3_harmless 28 = .ok (.i2l, 1) := by decide +kernel
theorem dX3_harmless_29 : decode cX3_harmless 29 = .ok (.lmul, 1) := by decide +kernel
theorem dX3_harmless_30 : decode cX3_harmless 30 = .ok (.invokestatic 45, 3) := by decide +kernel
theorem dX3_harmless_33 : decode cX3_harmless 33 = .ok (.lstore 6, 2) := by decide +kernel
theorem dX3_harmless_35 : decode cX3_harmless 35 = .ok (.iload_n 3, 1) := by decide +kernel
theorem dX3_harmless_36 : decode cX3_harmless 36 = .ok (.iconst 1, 1) := by decide +kernel
theorem dX3_harmless_37 : decode cX3_harmless 37 = .ok (.iload_n 2, 1) := by decide +kernel
theorem dX3_harmless_38 : decode cX3_harmless 38 = .ok (.ishl, 1) := by decide +kernel
theorem dX3_harmless_39 : decode cX3_harmless 39 = .ok (.ixor, 1) := by decide +kernel
theorem dX3_harmless_40 : decode cX3_harmless 40 = .ok (.istore 8, 2) := by decide +kernel
theorem dX3_harmless_42 : decode cX3_harmless 42 = .ok (.aload_n 0, 1) := by decide +kernel
theorem dX3_harmless_43 : decode cX3_harmless 43 = .ok (.getfield 11, 3) := by decide +kernel
theorem dX3_harmless_46 : decode cX3_harmless 46 = .ok (.iload_n 2, 1) := by decide +kernel
theorem dX3_harmless_47 : decode cX3_harmless 47 = .ok (.iaload, 1) := by decide +kernel
theorem dX3_harmless_48 : decode cX3_harmless 48 = .ok (.ifCond .le 41, 3) := by decide +kernel
theorem dX3_harmless_51 : decode cX3_harmless 51 = .ok (.aload_n 0, 1) := by decide +kernel
theorem dX3_harmless_52 : decode cX3_harmless 52 = .ok (.getfield 24, 3) := by decide +kernel
theorem dX3_harmless_55 : decode cX3_harmless 55 = .ok (.iload 8, 2) := by decide +kernel
theorem dX3_harmless_57 : decode cX3_harmless 57 = .ok (.invokevirtual 60, 3) := by decide +kernel
theorem dX3_harmless_60 : decode cX3_harmless 60 = .ok (.iload_n 1, 1) := by decide +kernel
theorem dX3_harmless_61 : decode cX3_harmless 61 = .ok (.if_icmp .ne 28, 3) := by decide +kernel
theorem dX3_harmless_64 : decode cX3_harmless 64 = .ok (.lload 6, 2) := by decide +kernel
theorem dX3_harmless_66 : decode cX3_harmless 66 = .ok (.aload_n 0, 1) := by decide +kernel
theorem dX3_harmless_67 : decode cX3_harmless 67 = .ok (.iload_n 1, 1) := by decide +kernel
theorem dX3_harmless_68 : decode cX3_harmless 68 = .ok (.iload_n 2, 1) := by decide +kernel
theorem dX3_harmless_69 : decode cX3_harmless 69 = .ok (.iconst 1, 1) := by decide +kernel
theorem dX3_harmless_70 : decode cX3_harmless 70 = .ok (.iadd, 1) := by decide +kernel
theorem dX3_harmless_71 : decode cX3_harmless 71 = .ok (.iload 8, 2) := by decide +kernel
theorem dX3_harmless_73 : decode cX3_harmless 73 = .ok (.lload 4, 2) := by decide +kernel
theorem dX3_harmless_75 : decode cX3_harmless 75 = .ok (.aload_n 0, 1) := by decide +kernel
theorem dX3_harmless_76 : decode cX3_harmless 76 = .ok (.getfield 11, 3) := by decide +kernel
theorem dX3_harmless_79 : decode cX3_harmless 79 = .ok (.iload_n 2, 1) := by decide +kernel
theorem dX3_harmless_80 : decode cX3_harmless 80 = .ok (.iaload, 1) := by decide +kernel
theorem dX3_harmless_81 : decode cX3_harmless 81 = .ok (.i2l, 1) := by decide +kernel
theorem dX3_harmless_82 : decode cX3_harmless 82 = .ok (.lmul, 1) := by decide +kernel
theorem dX3_harmless_83 : decode cX3_harmless 83 = .ok (.invokestatic 45, 3) := by decide +kernel
theorem dX3_harmless_86 : decode cX3_harmless 86 = .ok (.ladd, 1) := by decide +kernel
theorem dX3_harmless_87 : decode cX3_harmless 87 = .ok (.lstore 6, 2) := by decide +kernel
theorem dX3_harmless_89 : decode cX3_harmless 89 = .ok (.lload 6, 2) := by decide +kernel
theorem dX3_harmless_91 : decode cX3_harmless 91 = .ok (.lreturn, 1) := by decide +kernel
theorem dX4_init_0 : decode cX4_init 0 = .ok (.aload_n 0, 1) := by decide +kernel
theorem dX4_init_1 : decode cX4_init 1 = .ok (.invokespecial 3, 3) := by decide +kernel
theorem dX4_init_4 : decode cX4_init 4 = .ok (.aload_n 0, 1) := by decide +kernel
theorem dX4_init_5 : decode cX4_init 5 = .ok (.iconst 0, 1) := by decide +kernel
theorem dX4_init_6 : decode cX4_init 6 = .ok (.putfield 9, 3) := by decide +kernel
theorem dX4_init_9 : decode cX4_init 9 = .ok (.aload_n 0, 1) := by decide +kernel
theorem dX4_init_10 : decode cX4_init 10 = .ok (.bipush 16, 2) := by decide +kernel
theorem dX4_init_12 : decode cX4_init 12 = .ok (.newarray .boolean, 2) := by decide +kernel
theorem dX4_init_14 : decode cX4_init 14 = .ok (.putfield 13, 3) := by decide +kernel
theorem dX4_init_17 : decode cX4_init 17 = .ok (.aload_n 0, 1) := by decide +kernel
theorem dX4_init_18 : decode cX4_init 18 = .ok (.bipush 16, 2) := by decide +kernel
theorem dX4_init_20 : decode cX4_init 20 = .ok (.newarray .int, 2) := by decide +kernel
theorem dX4_init_22 : decode cX4_init 22 = .ok (.putfield 17, 3) := by decide +kernel
theorem dX4_init_25 : decode cX4_init 25 = .ok (.aload_n 0, 1) := by decide +kernel
theorem dX4_init_26 : decode cX4_init 26 = .ok (.bipush 16, 2) := by decide +kernel
theorem dX4_init_28 : decode cX4_init 28 = .ok (.newarray .boolean, 2) := by decide +kernel
theorem dX4_init_30 : decode cX4_init 30 = .ok (.putfield 21, 3) := by decide +kernel
theorem dX4_init_33 : decode cX4_init 33 = .ok (.aload_n 0, 1) := by decide +kernel
theorem dX4_init_34 : decode cX4_init 34 = .ok (.iconst 0, 1) := by decide +kernel
theorem dX4_init_35 : decode cX4_init 35 = .ok (.putfield 24, 3) := by decide +kernel
theorem dX4_init_38 : decode cX4_init 38 = .ok (.aload_n 0, 1) := by decide +kernel
theorem dX4_init_39 : decode cX4_init 39 = .ok (.iconst 0, 1) := by decide +kernel
theorem dX4_init_40 : decode cX4_init 40 = .ok (.putfield 28, 3) := by decide +kernel
theorem dX4_init_43 : decode cX4_init 43 = .ok (.aload_n 0, 1) := by decide +kernel
theorem dX4_init_44 : decode cX4_init 44 = .ok (.iconst 5, 1) := by decide +kernel
theorem dX4_init_45 : decode cX4_init 45 = .ok (.newarray .int, 2) := by decide +kernel
theorem dX4_init_47 : decode cX4_init 47 = .ok (.putfield 31, 3) := by decide +kernel
theorem dX4_init_50 : decode cX4_init 50 = .ok (.aload_n 0, 1) := by decide +kernel
theorem dX4_init_51 : decode cX4_init 51 = .ok (.bipush 16, 2) := by decide +kernel
theorem dX4_init_53 : decode cX4_init 53 = .ok (.newarray .int, 2) := by decide +kernel
theorem dX4_init_55 : decode cX4_init 55 = .ok (.putfield 34, 3) := by decide +kernel
theorem dX4_init_58 : decode cX4_init 58 = .ok (.aload_n 0, 1) := by decide +kernel
theorem dX4_init_59 : decode cX4_init 59 = .ok (.iconst 4, 1) := by decide +kernel
theorem dX4_init_60 : decode cX4_init 60 = .ok (.newarray .int, 2) := by decide +kernel
theorem dX4_init_62 : decode cX4_init 62 = .ok (.putfield 37, 3) := by decide +kernel
theorem dX4_init_65 : decode cX4_init 65 = .ok (.aload_n 0, 1) := by decide +kernel
theorem dX4_init_66 : decode cX4_init 66 = .ok (.bipush 16, 2) := by decide +kernel
theorem dX4_init_68 : decode cX4_init 68 = .ok (.newarray .int, 2) := by decide +kernel
theorem dX4_init_70 : decode cX4_init 70 = .ok (.putfield 40, 3) := by decide +kernel
theorem dX4_init_73 : decode cX4_init 73 = .ok (.return_, 1) := by decide +kernel
theorem dX4_isQuestion_0 : decode cX4_isQuestion 0 = .ok (.iload_n 0, 1) := by decide +kernel
theorem dX4_isQuestion_1 : decode cX4_isQuestion 1 = .ok (.ifCond .lt 13, 3) := by decide +kernel
theorem dX4_isQuestion_4 : decode cX4_isQuestion 4 = .ok (.iload_n 0, 1) := by decide +kernel
theorem dX4_isQuestion_5 : decode cX4_isQuestion 5 = .ok (.bipush 16, 2) := by decide +kernel
theorem dX4_isQuestion_7 : decode cX4_isQuestion 7 = .ok (.if_icmp .ge 7, 3) := by decide +kernel
theorem dX4_isQuestion_10 : decode cX4_isQuestion 10 = .ok (.iconst 1, 1) := by decide +kernel
theorem dX4_isQuestion_11 : decode cX4_isQuestion 11 = .ok (.goto 4, 3) := by decide +kernel
theorem dX4_isQuestion_14 : decode cX4_isQuestion 14 = .ok (.iconst 0, 1) := by decide +kernel
theorem dX4_isQuestion_15 : decode cX4_isQuestion 15 = .ok (.ireturn, 1) := by decide +kernel
theorem dX4_isAnswer_0 : decode cX4_isAnswer 0 = .ok (.iload_n 0, 1) := by decide +kernel
theorem dX4_isAnswer_1 : decode cX4_isAnswer 1 = .ok (.ifCond .eq 8, 3) := by decide +kernel
theorem dX4_isAnswer_4 : decode cX4_isAnswer 4 = .ok (.iload_n 0, 1) := by decide +kernel
theorem dX4_isAnswer_5 : decode cX4_isAnswer 5 = .ok (.iconst 1, 1) := by decide +kernel
theorem dX4_isAnswer_6 : decode cX4_isAnswer 6 = .ok (.if_icmp .ne 7, 3) := by decide +kernel
theorem dX4_isAnswer_9 : decode cX4_isAnswer 9 = .ok (.iconst 1, 1) := by decide +kernel
theorem dX4_isAnswer_10 : decode cX4_isAnswer 10 = .ok (.goto 4, 3) := by decide +kernel
theorem dX4_isAnswer_13 : decode cX4_isAnswer 13 = .ok (.iconst 0, 1) := by decide +kernel
theorem dX4_isAnswer_14 : decode cX4_isAnswer 14 = .ok (.ireturn, 1) := by decide +kernel
theorem dX4_keep_0 : decode cX4_keep 0 = .ok (.aload_n 0, 1) := by decide +kernel
theorem dX4_keep_1 : decode cX4_keep 1 = .ok (.getfield 13, 3) := by decide +kernel
theorem dX4_keep_4 : decode cX4_keep 4 = .ok (.iload_n 1, 1) := by decide +kernel
theorem dX4_keep_5 : decode cX4_keep 5 = .ok (.baload, 1) := by decide +kernel
theorem dX4_keep_6 : decode cX4_keep 6 = .ok (.ifCond .ne 32, 3) := by decide +kernel
theorem dX4_keep_9 : decode cX4_keep 9 = .ok (.aload_n 0, 1) := by decide +kernel
theorem dX4_keep_10 : decode cX4_keep 10 = .ok (.getfield 13, 3) := by decide +kernel
theorem dX4_keep_13 : decode cX4_keep 13 = .ok (.iload_n 1, 1) := by decide +kernel
theorem dX4_keep_14 : decode cX4_keep 14 = .ok (.iconst 1, 1) := by decide +kernel
theorem dX4_keep_15 : decode cX4_keep 15 = .ok (.bastore, 1) := by decide +kernel
theorem dX4_keep_16 : decode cX4_keep 16 = .ok (.aload_n 0, 1) := by decide +kernel
theorem dX4_keep_17 : decode cX4_keep 17 = .ok (.getfield 17, 3) := by decide +kernel
theorem dX4_keep_20 : decode cX4_keep 20 = .ok (.iload_n 1, 1) := by decide +kernel
theorem dX4_keep_21 : decode cX4_keep 21 = .ok (.iload_n 2, 1) := by decide +kernel
theorem dX4_keep_22 : decode cX4_keep 22 = .ok (.iastore, 1) := by decide +kernel
theorem dX4_keep_23 : decode cX4_keep 23 = .ok (.aload_n 0, 1) := by decide +kernel
theorem dX4_keep_24 : decode cX4_keep 24 = .ok (.dup, 1) := by decide +kernel
theorem dX4_keep_25 : decode cX4_keep 25 = .ok (.getfield 9, 3) := by decide +kernel
theorem dX4_keep_28 : decode cX4_keep 28 = .ok (.iconst 1, 1) := by decide +kernel
theorem dX4_keep_29 : decode cX4_keep 29 = .ok (.iadd, 1) := by decide +kernel
theorem dX4_keep_30 : decode cX4_keep 30 = .ok (.putfield 9, 3) := by decide +kernel
theorem dX4_keep_33 : decode cX4_keep 33 = .ok (.aload_n 0, 1) := by decide +kernel
theorem dX4_keep_34 : decode cX4_keep 34 = .ok (.iconst 0, 1) := by decide +kernel
theorem dX4_keep_35 : decode cX4_keep 35 = .ok (.putfield 24, 3) := by decide +kernel
theorem dX4_keep_38 : decode cX4_keep 38 = .ok (.return_, 1) := by decide +kernel
theorem dX4_usedOnes_0 : decode cX4_usedOnes 0 = .ok (.iconst 0, 1) := by decide +kernel
theorem dX4_usedOnes_1 : decode cX4_usedOnes 1 = .ok (.istore_n 1, 1) := by decide +kernel
theorem dX4_usedOnes_2 : decode cX4_usedOnes 2 = .ok (.iconst 0, 1) := by decide +kernel
theorem dX4_usedOnes_3 : decode cX4_usedOnes 3 = .ok (.istore_n 2, 1) := by decide +kernel
theorem dX4_usedOnes_4 : decode cX4_usedOnes 4 = .ok (.iload_n 2, 1) := by decide +kernel
theorem dX4_usedOnes_5 : decode cX4_usedOnes 5 = .ok (.bipush 16, 2) := by decide +kernel
theorem dX4_usedOnes_7 : decode cX4_usedOnes 7 = .ok (.if_icmp .ge 26, 3) := by decide +kernel
theorem dX4_usedOnes_10 : decode cX4_usedOnes 10 = .ok (.iload_n 1, 1) := by decide +kernel
theorem dX4_usedOnes_11 : decode cX4_usedOnes 11 = .ok (.aload_n 0, 1) := by decide +kernel
theorem dX4_usedOnes_12 : decode cX4_usedOnes 12 = .ok (.getfield 21, 3) := by decide +kernel
theorem dX4_usedOnes_15 : decode cX4_usedOnes 15 = .ok (.iload_n 2, 1) := by decide +kernel
theorem dX4_usedOnes_16 : decode cX4_usedOnes 16 = .ok (.baload, 1) := by decide +kernel
theorem dX4_usedOnes_17 : decode cX4_usedOnes 17 = .ok (.ifCond .eq 7, 3) := by decide +kernel
theorem dX4_usedOnes_20 : decode cX4_usedOnes 20 = .ok (.iconst 1, 1) := by decide +kernel
theorem dX4_usedOnes_21 : decode cX4_usedOnes 21 = .ok (.goto 4, 3) := by decide +kernel
theorem dX4_usedOnes_24 : decode cX4_usedOnes 24 = .ok (.iconst 0, 1) := by decide +kernel
theorem dX4_usedOnes_25 : decode cX4_usedOnes 25 = .ok (.iadd, 1) := by decide +kernel
theorem dX4_usedOnes_26 : decode cX4_usedOnes 26 = .ok (.istore_n 1, 1) := by decide +kernel
theorem dX4_usedOnes_27 : decode cX4_usedOnes 27 = .ok (.iinc 2 1, 3) := by decide +kernel
theorem dX4_usedOnes_30 : decode cX4_usedOnes 30 = .ok (.goto (-26), 3) := by decide +kernel
theorem dX4_usedOnes_33 : decode cX4_usedOnes 33 = .ok (.iload_n 1, 1) := by decide +kernel
theorem dX4_usedOnes_34 : decode cX4_usedOnes 34 = .ok (.ireturn, 1) := by decide +kernel
theorem dX4_foretell_0 : decode cX4_foretell 0 = .ok (.aload_n 0, 1) := by decide +kernel
theorem dX4_foretell_1 : decode cX4_foretell 1 = .ok (.invokevirtual 43, 3) := by decide +kernel
theorem dX4_foretell_4 : decode cX4_foretell 4 = .ok (.aload_n 0, 1) := by decide +kernel
theorem dX4_foretell_5 : decode cX4_foretell 5 = .ok (.getfield 28, 3) := by decide +kernel
theorem dX4_foretell_8 : decode cX4_foretell 8 = .ok (.ifCond .ne 5, 3) := by decide +kernel
theorem dX4_foretell_11 : decode cX4_foretell 11 = .ok (.iconst 3, 1) := by decide +kernel
theorem dX4_foretell_12 : decode cX4_foretell 12 = .ok (.ireturn, 1) := by decide +kernel
theorem dX4_foretell_13 : decode cX4_foretell 13 = .ok (.aload_n 0, 1) := by decide +kernel
theorem dX4_foretell_14 : decode cX4_foretell 14 = .ok (.getfield 34, 3) := by decide +kernel
theorem dX4_foretell_17 : decode cX4_foretell 17 = .ok (.iload_n 1, 1) := by decide +kernel
theorem dX4_foretell_18 : decode cX4_foretell 18 = .ok (.iaload, 1) := by decide +kernel
theorem dX4_foretell_19 : decode cX4_foretell 19 = .ok (.aload_n 0, 1) := by decide +kernel
theorem dX4_foretell_20 : decode cX4_foretell 20 = .ok (.getfield 28, 3) := by decide +kernel
theorem dX4_foretell_23 : decode cX4_foretell 23 = .ok (.if_icmp .ne 5, 3) := by decide +kernel
theorem dX4_foretell_26 : decode cX4_foretell 26 = .ok (.iconst 1, 1) := by decide +kernel
theorem dX4_foretell_27 : decode cX4_foretell 27 = .ok (.ireturn, 1) := by decide +kernel
theorem dX4_foretell_28 : decode cX4_foretell 28 = .ok (.aload_n 0, 1) := by decide +kernel
theorem dX4_foretell_29 : decode cX4_foretell 29 = .ok (.getfield 34, 3) := by decide +kernel
theorem dX4_foretell_32 : decode cX4_foretell 32 = .ok (.iload_n 1, 1) := by decide +kernel
theorem dX4_foretell_33 : decode cX4_foretell 33 = .ok (.iaload, 1) := by decide +kernel
theorem dX4_foretell_34 : decode cX4_foretell 34 = .ok (.ifCond .ne 7, 3) := by decide +kernel
theorem dX4_foretell_37 : decode cX4_foretell 37 = .ok (.iconst 0, 1) := by decide +kernel
theorem dX4_foretell_38 : decode cX4_foretell 38 = .ok (.goto 4, 3) := by decide +kernel
theorem dX4_foretell_41 : decode cX4_foretell 41 = .ok (.iconst 2, 1) := by decide +kernel
theorem dX4_foretell_42 : decode cX4_foretell 42 = .ok (.ireturn, 1) := by decide +kernel
theorem dX4_halvingQuestion_0 : decode cX4_halvingQuestion 0 = .ok (.aload_n 0, 1) := by decide +kernel
theorem dX4_halvingQuestion_1 : decode cX4_halvingQuestion 1 = .ok (.invokevirtual 43, 3) := by decide +kernel
theorem dX4_halvingQuestion_4 : decode cX4_halvingQuestion 4 = .ok (.iconst (-1), 1) := by decide +kernel
theorem dX4_halvingQuestion_5 : decode cX4_halvingQuestion 5 = .ok (.istore_n 1, 1) := by decide +kernel
theorem dX4_halvingQuestion_6 : decode cX4_halvingQuestion 6 = .ok (.aload_n 0, 1) := by decide +kernel
theorem dX4_halvingQuestion_7 : decode cX4_halvingQuestion 7 = .ok (.getfield 28, 3) := by decide +kernel
theorem dX4_halvingQuestion_10 : decode cX4_halvingQuestion 10 = .ok (.istore_n 2, 1) := by decide +kernel
theorem dX4_halvingQuestion_11 : decode cX4_halvingQuestion 11 = .ok (.iconst 0, 1) := by decide +kernel
theorem dX4_halvingQuestion_12 : decode cX4_halvingQuestion 12 = .ok (.istore_n 3, 1) := by decide +kernel
theorem dX4_halvingQuestion_13 : decode cX4_halvingQuestion 13 = .ok (.iload_n 3, 1) := by decide +kernel
theorem dX4_halvingQuestion_14 : decode cX4_halvingQuestion 14 = .ok (.bipush 16, 2) := by decide +kernel
theorem dX4_halvingQuestion_16 : decode cX4_halvingQuestion 16 = .ok (.if_icmp .ge 62, 3) := by decide +kernel
theorem dX4_halvingQuestion_19 : decode cX4_halvingQuestion 19 = .ok (.aload_n 0, 1) := by decide +kernel
theorem dX4_halvingQuestion_20 : decode cX4_halvingQuestion 20 = .ok (.getfield 28, 3) := by decide +kernel
theorem dX4_halvingQuestion_23 : decode cX4_halvingQuestion 23 = .ok (.ifCond .le 55, 3) := by decide +kernel
theorem dX4_halvingQuestion_26 : decode cX4_halvingQuestion 26 = .ok (.aload_n 0, 1) := by decide +kernel
theorem dX4_halvingQuestion_27 : decode cX4_halvingQuestion 27 = .ok (.getfield 34, 3) := by decide +kernel
theorem dX4_halvingQuestion_30 : decode cX4_halvingQuestion 30 = .ok (.iload_n 3, 1) := by decide +kernel
theorem dX4_halvingQuestion_31 : decode cX4_halvingQuestion 31 = .ok (.iaload, 1) := by decide +kernel
theorem dX4_halvingQuestion_32 : decode cX4_halvingQuestion 32 = .ok (.aload_n 0, 1) := by decide +kernel
theorem dX4_halvingQuestion_33 : decode cX4_halvingQuestion 33 = .ok (.getfield 28, 3) := by decide +kernel
theorem dX4_halvingQuestion_36 : decode cX4_halvingQuestion 36 = .ok (.aload_n 0, 1) := by decide +kernel
theorem dX4_halvingQuestion_37 : decode cX4_halvingQuestion 37 = .ok (.getfield 34, 3) := by decide +kernel
theorem dX4_halvingQuestion_40 : decode cX4_halvingQuestion 40 = .ok (.iload_n 3, 1) := by decide +kernel
theorem dX4_halvingQuestion_41 : decode cX4_halvingQuestion 41 = .ok (.iaload, 1) := by decide +kernel
theorem dX4_halvingQuestion_42 : decode cX4_halvingQuestion 42 = .ok (.isub, 1) := by decide +kernel
theorem dX4_halvingQuestion_43 : decode cX4_halvingQuestion 43 = .ok (.invokestatic 46, 3) := by decide +kernel
theorem dX4_halvingQuestion_46 : decode cX4_halvingQuestion 46 = .ok (.istore 4, 2) := by decide +kernel
theorem dX4_halvingQuestion_48 : decode cX4_halvingQuestion 48 = .ok (.aload_n 0, 1) := by decide +kernel
theorem dX4_halvingQuestion_49 : decode cX4_halvingQuestion 49 = .ok (.getfield 13, 3) := by decide +kernel
theorem dX4_halvingQuestion_52 : decode cX4_halvingQuestion 52 = .ok (.iload_n 3, 1) := by decide +kernel
theorem dX4_halvingQuestion_53 : decode cX4_halvingQuestion 53 = .ok (.baload, 1) := by decide +kernel
theorem dX4_halvingQuestion_54 : decode cX4_halvingQuestion 54 = .ok (.ifCond .ne 18, 3) := by decide +kernel
theorem dX4_halvingQuestion_57 : decode cX4_halvingQuestion 57 = .ok (.iload_n 1, 1) := by decide +kernel
theorem dX4_halvingQuestion_58 : decode cX4_halvingQuestion 58 = .ok (.ifCond .lt 9, 3) := by decide +kernel
theorem dX4_halvingQuestion_61 : decode cX4_halvingQuestion 61 = .ok (.iload 4, 2) := by decide +kernel
theorem dX4_halvingQuestion_63 : decode cX4_halvingQuestion 63 = .ok (.iload_n 2, 1) := by decide +kernel
theorem dX4_halvingQuestion_64 : decode cX4_halvingQuestion 64 = .ok (.if_icmp .ge 8, 3) := by decide +kernel
theorem dX4_halvingQuestion_67 : decode cX4_halvingQuestion 67 = .ok (.iload 4, 2) := by decide +kernel
theorem dX4_halvingQuestion_69 : decode cX4_halvingQuestion 69 = .ok (.istore_n 2, 1) := by decide +kernel
theorem dX4_halvingQuestion_70 : decode cX4_halvingQuestion 70 = .ok (.iload_n 3, 1) := by decide +kernel
theorem dX4_halvingQuestion_71 : decode cX4_halvingQuestion 71 = .ok (.istore_n 1, 1) := by decide +kernel
theorem dX4_halvingQuestion_72 : decode cX4_halvingQuestion 72 = .ok (.iinc 3 1, 3) := by decide +kernel
theorem dX4_halvingQuestion_75 : decode cX4_halvingQuestion 75 = .ok (.goto (-62), 3) := by decide +kernel
theorem dX4_halvingQuestion_78 : decode cX4_halvingQuestion 78 = .ok (.iload_n 1, 1) := by decide +kernel
theorem dX4_halvingQuestion_79 : decode cX4_halvingQuestion 79 = .ok (.ireturn, 1) := by decide +kernel
theorem dX4_survey_0 : decode cX4_survey 0 = .ok (.aload_n 0, 1) := by decide +kernel
theorem dX4_survey_1 : decode cX4_survey 1 = .ok (.getfield 24, 3) := by decide +kernel
theorem dX4_survey_4 : decode cX4_survey 4 = .ok (.ifCond .eq 4, 3) := by decide +kernel
theorem dX4_survey_7 : decode cX4_survey 7 = .ok (.return_, 1) := by decide +kernel
theorem dX4_survey_8 : decode cX4_survey 8 = .ok (.aload_n 0, 1) := by decide +kernel
theorem dX4_survey_9 : decode cX4_survey 9 = .ok (.iconst 1, 1) := by decide +kernel
theorem dX4_survey_10 : decode cX4_survey 10 = .ok (.putfield 24, 3) := by decide +kernel
theorem dX4_survey_13 : decode cX4_survey 13 = .ok (.aload_n 0, 1) := by decide +kernel
theorem dX4_survey_14 : decode cX4_survey 14 = .ok (.iconst 0, 1) := by decide +kernel
theorem dX4_survey_15 : decode cX4_survey 15 = .ok (.putfield 28, 3) := by decide +kernel
theorem dX4_survey_18 : decode cX4_survey 18 = .ok (.iconst 0, 1) := by decide +kernel
theorem dX4_survey_19 : decode cX4_survey 19 = .ok (.istore_n 1, 1) := by decide +kernel
theorem dX4_survey_20 : decode cX4_survey 20 = .ok (.iload_n 1, 1) := by decide +kernel
theorem dX4_survey_21 : decode cX4_survey 21 = .ok (.bipush 16, 2) := by decide +kernel
theorem dX4_survey_23 : decode cX4_survey 23 = .ok (.if_icmp .ge 16, 3) := by decide +kernel
theorem dX4_survey_26 : decode cX4_survey 26 = .ok (.aload_n 0, 1) := by decide +kernel
theorem dX4_survey_27 : decode cX4_survey 27 = .ok (.getfield 34, 3) := by decide +kernel
theorem dX4_survey_30 : decode cX4_survey 30 = .ok (.iload_n 1, 1) := by decide +kernel
theorem dX4_survey_31 : decode cX4_survey 31 = .ok (.iconst 0, 1) := by decide +kernel
theorem dX4_survey_32 : decode cX4_survey 32 = .ok (.iastore, 1) := by decide +kernel
theorem dX4_survey_33 : decode cX4_survey 33 = .ok (.iinc 1 1, 3) := by decide +kernel
theorem dX4_survey_36 : decode cX4_survey 36 = .ok (.goto (-16), 3) := by decide +kernel
theorem dX4_survey_39 : decode cX4_survey 39 = .ok (.iconst 0, 1) := by decide +kernel
theorem dX4_survey_40 : decode cX4_survey 40 = .ok (.istore_n 1, 1) := by decide +kernel
theorem dX4_survey_41 : decode cX4_survey 41 = .ok (.iload_n 1, 1) := by decide +kernel
theorem dX4_survey_42 : decode cX4_survey 42 = .ok (.sipush 2401, 3) := by decide +kernel
theorem dX4_survey_45 : decode cX4_survey 45 = .ok (.if_icmp .ge 35, 3) := by decide +kernel
theorem dX4_survey_48 : decode cX4_survey 48 = .ok (.aload_n 0, 1) := by decide +kernel
theorem dX4_survey_49 : decode cX4_survey 49 = .ok (.iload_n 1, 1) := by decide +kernel
theorem dX4_survey_50 : decode cX4_survey 50 = .ok (.invokevirtual 52, 3) := by decide +kernel
theorem dX4_survey_53 : decode cX4_survey 53 = .ok (.aload_n 0, 1) := by decide +kernel
theorem dX4_survey_54 : decode cX4_survey 54 = .ok (.invokevirtual 56, 3) := by decide +kernel
theorem dX4_survey_57 : decode cX4_survey 57 = .ok (.istore_n 2, 1) := by decide +kernel
theorem dX4_survey_58 : decode cX4_survey 58 = .ok (.aload_n 0, 1) := by decide +kernel
theorem dX4_survey_59 : decode cX4_survey 59 = .ok (.invokevirtual 60, 3) := by decide +kernel
theorem dX4_survey_62 : decode cX4_survey 62 = .ok (.istore_n 3, 1) := by decide +kernel
theorem dX4_survey_63 : decode cX4_survey 63 = .ok (.iload_n 2, 1) := by decide +kernel
theorem dX4_survey_64 : decode cX4_survey 64 = .ok (.iload_n 3, 1) := by decide +kernel
theorem dX4_survey_65 : decode cX4_survey 65 = .ok (.if_icmp .gt 9, 3) := by decide +kernel
theorem dX4_survey_68 : decode cX4_survey 68 = .ok (.aload_n 0, 1) := by decide +kernel
theorem dX4_survey_69 : decode cX4_survey 69 = .ok (.iload_n 2, 1) := by decide +kernel
theorem dX4_survey_70 : decode cX4_survey 70 = .ok (.iload_n 3, 1) := by decide +kernel
theorem dX4_survey_71 : decode cX4_survey 71 = .ok (.invokevirtual 63, 3) := by decide +kernel
theorem dX4_survey_74 : decode cX4_survey 74 = .ok (.iinc 1 1, 3) := by decide +kernel
theorem dX4_survey_77 : decode cX4_survey 77 = .ok (.goto (-36), 3) := by decide +kernel
theorem dX4_survey_80 : decode cX4_survey 80 = .ok (.return_, 1) := by decide +kernel
theorem dX4_weigh_0 : decode cX4_weigh 0 = .ok (.iload_n 1, 1) := by decide +kernel
theorem dX4_weigh_1 : decode cX4_weigh 1 = .ok (.istore_n 2, 1) := by decide +kernel
theorem dX4_weigh_2 : decode cX4_weigh 2 = .ok (.iconst 0, 1) := by decide +kernel
theorem dX4_weigh_3 : decode cX4_weigh 3 = .ok (.istore_n 3, 1) := by decide +kernel
theorem dX4_weigh_4 : decode cX4_weigh 4 = .ok (.iconst 3, 1) := by decide +kernel
theorem dX4_weigh_5 : decode cX4_weigh 5 = .ok (.istore 4, 2) := by decide +kernel
theorem dX4_weigh_7 : decode cX4_weigh 7 = .ok (.iload 4, 2) := by decide +kernel
theorem dX4_weigh_9 : decode cX4_weigh 9 = .ok (.ifCond .lt 37, 3) := by decide +kernel
theorem dX4_weigh_12 : decode cX4_weigh 12 = .ok (.aload_n 0, 1) := by decide +kernel
theorem dX4_weigh_13 : decode cX4_weigh 13 = .ok (.getfield 37, 3) := by decide +kernel
theorem dX4_weigh_16 : decode cX4_weigh 16 = .ok (.iload 4, 2) := by decide +kernel
theorem dX4_weigh_18 : decode cX4_weigh 18 = .ok (.iload_n 2, 1) := by decide +kernel
theorem dX4_weigh_19 : decode cX4_weigh 19 = .ok (.bipush 7, 2) := by decide +kernel
theorem dX4_weigh_21 : decode cX4_weigh 21 = .ok (.irem, 1) := by decide +kernel
theorem dX4_weigh_22 : decode cX4_weigh 22 = .ok (.iconst 3, 1) := by decide +kernel
theorem dX4_weigh_23 : decode cX4_weigh 23 = .ok (.isub, 1) := by decide +kernel
theorem dX4_weigh_24 : decode cX4_weigh 24 = .ok (.iastore, 1) := by decide +kernel
theorem dX4_weigh_25 : decode cX4_weigh 25 = .ok (.iload_n 2, 1) := by decide +kernel
theorem dX4_weigh_26 : decode cX4_weigh 26 = .ok (.bipush 7, 2) := by decide +kernel
theorem dX4_weigh_28 : decode cX4_weigh 28 = .ok (.idiv, 1) := by decide +kernel
theorem dX4_weigh_29 : decode cX4_weigh 29 = .ok (.istore_n 2, 1) := by decide +kernel
theorem dX4_weigh_30 : decode cX4_weigh 30 = .ok (.iload_n 3, 1) := by decide +kernel
theorem dX4_weigh_31 : decode cX4_weigh 31 = .ok (.aload_n 0, 1) := by decide +kernel
theorem dX4_weigh_32 : decode cX4_weigh 32 = .ok (.getfield 37, 3) := by decide +kernel
theorem dX4_weigh_35 : decode cX4_weigh 35 = .ok (.iload 4, 2) := by decide +kernel
theorem dX4_weigh_37 : decode cX4_weigh 37 = .ok (.iaload, 1) := by decide +kernel
theorem dX4_weigh_38 : decode cX4_weigh 38 = .ok (.iadd, 1) := by decide +kernel
theorem dX4_weigh_39 : decode cX4_weigh 39 = .ok (.istore_n 3, 1) := by decide +kernel
theorem dX4_weigh_40 : decode cX4_weigh 40 = .ok (.iinc 4 (-1), 3) := by decide +kernel
theorem dX4_weigh_43 : decode cX4_weigh 43 = .ok (.goto (-36), 3) := by decide +kernel
theorem dX4_weigh_46 : decode cX4_weigh 46 = .ok (.aload_n 0, 1) := by decide +kernel
theorem dX4_weigh_47 : decode cX4_weigh 47 = .ok (.getfield 40, 3) := by decide +kernel
theorem dX4_weigh_50 : decode cX4_weigh 50 = .ok (.iconst 0, 1) := by decide +kernel
theorem dX4_weigh_51 : decode cX4_weigh 51 = .ok (.iload_n 3, 1) := by decide +kernel
theorem dX4_weigh_52 : decode cX4_weigh 52 = .ok (.ineg, 1) := by decide +kernel
theorem dX4_weigh_53 : decode cX4_weigh 53 = .ok (.iastore, 1) := by decide +kernel
theorem dX4_weigh_54 : decode cX4_weigh 54 = .ok (.iconst 0, 1) := by decide +kernel
theorem dX4_weigh_55 : decode cX4_weigh 55 = .ok (.istore 4, 2) := by decide +kernel
theorem dX4_weigh_57 : decode cX4_weigh 57 = .ok (.iload 4, 2) := by decide +kernel
theorem dX4_weigh_59 : decode cX4_weigh 59 = .ok (.iconst 4, 1) := by decide +kernel
theorem dX4_weigh_60 : decode cX4_weigh 60 = .ok (.if_icmp .ge 58, 3) := by decide +kernel
theorem dX4_weigh_63 : decode cX4_weigh 63 = .ok (.iconst 1, 1) := by decide +kernel
theorem dX4_weigh_64 : decode cX4_weigh 64 = .ok (.iload 4, 2) := by decide +kernel
theorem dX4_weigh_66 : decode cX4_weigh 66 = .ok (.ishl, 1) := by decide +kernel
theorem dX4_weigh_67 : decode cX4_weigh 67 = .ok (.istore 5, 2) := by decide +kernel
theorem dX4_weigh_69 : decode cX4_weigh 69 = .ok (.iconst 0, 1) := by decide +kernel
theorem dX4_weigh_70 : decode cX4_weigh 70 = .ok (.istore 6, 2) := by decide +kernel
theorem dX4_weigh_72 : decode cX4_weigh 72 = .ok (.iload 6, 2) := by decide +kernel
theorem dX4_weigh_74 : decode cX4_weigh 74 = .ok (.iload 5, 2) := by decide +kernel
theorem dX4_weigh_76 : decode cX4_weigh 76 = .ok (.if_icmp .ge 36, 3) := by decide +kernel
theorem dX4_weigh_79 : decode cX4_weigh 79 = .ok (.aload_n 0, 1) := by decide +kernel
theorem dX4_weigh_80 : decode cX4_weigh 80 = .ok (.getfield 40, 3) := by decide +kernel
theorem dX4_weigh_83 : decode cX4_weigh 83 = .ok (.iload 5, 2) := by decide +kernel
theorem dX4_weigh_85 : decode cX4_weigh 85 = .ok (.iload 6, 2) := by decide +kernel
theorem dX4_weigh_87 : decode cX4_weigh 87 = .ok (.iadd, 1) := by decide +kernel
theorem dX4_weigh_88 : decode cX4_weigh 88 = .ok (.aload_n 0, 1) := by decide +kernel
theorem dX4_weigh_89 : decode cX4_weigh 89 = .ok (.getfield 40, 3) := by decide +kernel
theorem dX4_weigh_92 : decode cX4_weigh 92 = .ok (.iload 6, 2) := by decide +kernel
theorem dX4_weigh_94 : decode cX4_weigh 94 = .ok (.iaload, 1) := by decide +kernel
theorem dX4_weigh_95 : decode cX4_weigh 95 = .ok (.iconst 2, 1) := by decide +kernel
theorem dX4_weigh_96 : decode cX4_weigh 96 = .ok (.aload_n 0, 1) := by decide +kernel
theorem dX4_weigh_97 : decode cX4_weigh 97 = .ok (.getfield 37, 3) := by decide +kernel
theorem dX4_weigh_100 : decode cX4_weigh 100 = .ok (.iload 4, 2) := by decide +kernel
theorem dX4_weigh_102 : decode cX4_weigh 102 = .ok (.iaload, 1) := by decide +kernel
theorem dX4_weigh_103 : decode cX4_weigh 103 = .ok (.imul, 1) := by decide +kernel
theorem dX4_weigh_104 : decode cX4_weigh 104 = .ok (.iadd, 1) := by decide +kernel
theorem dX4_weigh_105 : decode cX4_weigh 105 = .ok (.iastore, 1) := by decide +kernel
theorem dX4_weigh_106 : decode cX4_weigh 106 = .ok (.iinc 6 1, 3) := by decide +kernel
theorem dX4_weigh_109 : decode cX4_weigh 109 = .ok (.goto (-37), 3) := by decide +kernel
theorem dX4_weigh_112 : decode cX4_weigh 112 = .ok (.iinc 4 1, 3) := by decide +kernel
theorem dX4_weigh_115 : decode cX4_weigh 115 = .ok (.goto (-58), 3) := by decide +kernel
theorem dX4_weigh_118 : decode cX4_weigh 118 = .ok (.return_, 1) := by decide +kernel
theorem dX4_leastLimit_0 : decode cX4_leastLimit 0 = .ok (.bipush (-6), 2) := by decide +kernel
theorem dX4_leastLimit_2 : decode cX4_leastLimit 2 = .ok (.istore_n 1, 1) := by decide +kernel
theorem dX4_leastLimit_3 : decode cX4_leastLimit 3 = .ok (.iconst 0, 1) := by decide +kernel
theorem dX4_leastLimit_4 : decode cX4_leastLimit 4 = .ok (.istore_n 2, 1) := by decide +kernel
theorem dX4_leastLimit_5 : decode cX4_leastLimit 5 = .ok (.iload_n 2, 1) := by decide +kernel
theorem dX4_leastLimit_6 : decode cX4_leastLimit 6 = .ok (.bipush 16, 2) := by decide +kernel
theorem dX4_leastLimit_8 : decode cX4_leastLimit 8 = .ok (.if_icmp .ge 40, 3) := by decide +kernel
theorem dX4_leastLimit_11 : decode cX4_leastLimit 11 = .ok (.aload_n 0, 1) := by decide +kernel
theorem dX4_leastLimit_12 : decode cX4_leastLimit 12 = .ok (.getfield 13, 3) := by decide +kernel
theorem dX4_leastLimit_15 : decode cX4_leastLimit 15 = .ok (.iload_n 2, 1) := by decide +kernel
theorem dX4_leastLimit_16 : decode cX4_leastLimit 16 = .ok (.baload, 1) := by decide +kernel
theorem dX4_leastLimit_17 : decode cX4_leastLimit 17 = .ok (.ifCond .eq 25, 3) := by decide +kernel
theorem dX4_leastLimit_20 : decode cX4_leastLimit 20 = .ok (.aload_n 0, 1) := by decide +kernel
theorem dX4_leastLimit_21 : decode cX4_leastLimit 21 = .ok (.getfield 17, 3) := by decide +kernel
theorem dX4_leastLimit_24 : decode cX4_leastLimit 24 = .ok (.iload_n 2, 1) := by decide +kernel
theorem dX4_leastLimit_25 : decode cX4_leastLimit 25 = .ok (.iaload, 1) := by decide +kernel
theorem dX4_leastLimit_26 : decode cX4_leastLimit 26 = .ok (.ifCond .ne 16, 3) := by decide +kernel
theorem dX4_leastLimit_29 : decode cX4_leastLimit 29 = .ok (.iload_n 1, 1) := by decide +kernel
theorem dX4_leastLimit_30 : decode cX4_leastLimit 30 = .ok (.aload_n 0, 1) := by decide +kernel
theorem dX4_leastLimit_31 : decode cX4_leastLimit 31 = .ok (.getfield 40, 3) := by decide +kernel
theorem dX4_leastLimit_34 : decode cX4_leastLimit 34 = .ok (.iload_n 2, 1) := by decide +kernel
theorem dX4_leastLimit_35 : decode cX4_leastLimit 35 = .ok (.iaload, 1) := by decide +kernel
theorem dX4_leastLimit_36 : decode cX4_leastLimit 36 = .ok (.iconst 1, 1) := by decide +kernel
theorem dX4_leastLimit_37 : decode cX4_leastLimit 37 = .ok (.iadd, 1) := by decide +kernel
theorem dX4_leastLimit_38 : decode cX4_leastLimit 38 = .ok (.invokestatic 46, 3) := by decide +kernel
theorem dX4_leastLimit_41 : decode cX4_leastLimit 41 = .ok (.istore_n 1, 1) := by decide +kernel
theorem dX4_leastLimit_42 : decode cX4_leastLimit 42 = .ok (.iinc 2 1, 3) := by decide +kernel
theorem dX4_leastLimit_45 : decode cX4_leastLimit 45 = .ok (.goto (-40), 3) := by decide +kernel
theorem dX4_leastLimit_48 : decode cX4_leastLimit 48 = .ok (.iload_n 1, 1) := by decide +kernel
theorem dX4_leastLimit_49 : decode cX4_leastLimit 49 = .ok (.ireturn, 1) := by decide +kernel
theorem dX4_greatestLimit_0 : decode cX4_greatestLimit 0 = .ok (.bipush 6, 2) := by decide +kernel
theorem dX4_greatestLimit_2 : decode cX4_greatestLimit 2 = .ok (.istore_n 1, 1) := by decide +kernel
theorem dX4_greatestLimit_3 : decode cX4_greatestLimit 3 = .ok (.iconst 0, 1) := by decide +kernel
theorem dX4_greatestLimit_4 : decode cX4_greatestLimit 4 = .ok (.istore_n 2, 1) := by decide +kernel
theorem dX4_greatestLimit_5 : decode cX4_greatestLimit 5 = .ok (.iload_n 2, 1) := by decide +kernel
theorem dX4_greatestLimit_6 : decode cX4_greatestLimit 6 = .ok (.bipush 16, 2) := by decide +kernel
theorem dX4_greatestLimit_8 : decode cX4_greatestLimit 8 = .ok (.if_icmp .ge 39, 3) := by decide +kernel
theorem dX4_greatestLimit_11 : decode cX4_greatestLimit 11 = .ok (.aload_n 0, 1) := by decide +kernel
theorem dX4_greatestLimit_12 : decode cX4_greatestLimit 12 = .ok (.getfield 13, 3) := by decide +kernel
theorem dX4_greatestLimit_15 : decode cX4_greatestLimit 15 = .ok (.iload_n 2, 1) := by decide +kernel
theorem dX4_greatestLimit_16 : decode cX4_greatestLimit 16 = .ok (.baload, 1) := by decide +kernel
theorem dX4_greatestLimit_17 : decode cX4_greatestLimit 17 = .ok (.ifCond .eq 24, 3) := by decide +kernel
theorem dX4_greatestLimit_20 : decode cX4_greatestLimit 20 = .ok (.aload_n 0, 1) := by decide +kernel
theorem dX4_greatestLimit_21 : decode cX4_greatestLimit 21 = .ok (.getfield 17, 3) := by decide +kernel
theorem dX4_greatestLimit_24 : decode cX4_greatestLimit 24 = .ok (.iload_n 2, 1) := by decide +kernel
theorem dX4_greatestLimit_25 : decode cX4_greatestLimit 25 = .ok (.iaload, 1) := by decide +kernel
theorem dX4_greatestLimit_26 : decode cX4_greatestLimit 26 = .ok (.iconst 1, 1) := by decide +kernel
theorem dX4_greatestLimit_27 : decode cX4_greatestLimit 27 = .ok (.if_icmp .ne 14, 3) := by decide +kernel
theorem dX4_greatestLimit_30 : decode cX4_greatestLimit 30 = .ok (.iload_n 1, 1) := by decide +kernel
theorem dX4_greatestLimit_31 : decode cX4_greatestLimit 31 = .ok (.aload_n 0, 1) := by decide +kernel
theorem dX4_greatestLimit_32 : decode cX4_greatestLimit 32 = .ok (.getfield 40, 3) := by decide +kernel
theorem dX4_greatestLimit_35 : decode cX4_greatestLimit 35 = .ok (.iload_n 2, 1) := by decide +kernel
theorem dX4_greatestLimit_36 : decode cX4_greatestLimit 36 = .ok (.iaload, 1) := by decide +kernel
theorem dX4_greatestLimit_37 : decode cX4_greatestLimit 37 = .ok (.invokestatic 67, 3) := by decide +kernel
theorem dX4_greatestLimit_40 : decode cX4_greatestLimit 40 = .ok (.istore_n 1, 1) := by decide +kernel
theorem dX4_greatestLimit_41 : decode cX4_greatestLimit 41 = .ok (.iinc 2 1, 3) := by decide +kernel
theorem dX4_greatestLimit_44 : decode cX4_greatestLimit 44 = .ok (.goto (-39), 3) := by decide +kernel
theorem dX4_greatestLimit_47 : decode cX4_greatestLimit 47 = .ok (.iload_n 1, 1) := by decide +kernel
theorem dX4_greatestLimit_48 : decode cX4_greatestLimit 48 = .ok (.ireturn, 1) := by decide +kernel
theorem dX4_countPlanes_0 : decode cX4_countPlanes 0 = .ok (.aload_n 0, 1) := by decide +kernel
theorem dX4_countPlanes_1 : decode cX4_countPlanes 1 = .ok (.getfield 28, 3) := by decide +kernel
theorem dX4_countPlanes_4 : decode cX4_countPlanes 4 = .ok (.ifCond .ne 24, 3) := by decide +kernel
theorem dX4_countPlanes_7 : decode cX4_countPlanes 7 = .ok (.aload_n 0, 1) := by decide +kernel
theorem dX4_countPlanes_8 : decode cX4_countPlanes 8 = .ok (.getfield 37, 3) := by decide +kernel
theorem dX4_countPlanes_11 : decode cX4_countPlanes 11 = .ok (.iconst 0, 1) := by decide +kernel
theorem dX4_countPlanes_12 : decode cX4_countPlanes 12 = .ok (.aload_n 0, 1) := by decide +kernel
theorem dX4_countPlanes_13 : decode cX4_countPlanes 13 = .ok (.getfield 31, 3) := by decide +kernel
theorem dX4_countPlanes_16 : decode cX4_countPlanes 16 = .ok (.iconst 0, 1) := by decide +kernel
theorem dX4_countPlanes_17 : decode cX4_countPlanes 17 = .ok (.iconst 4, 1) := by decide +kernel
theorem dX4_countPlanes_18 : decode cX4_countPlanes 18 = .ok (.invokestatic 70, 3) := by decide +kernel
theorem dX4_countPlanes_21 : decode cX4_countPlanes 21 = .ok (.aload_n 0, 1) := by decide +kernel
theorem dX4_countPlanes_22 : decode cX4_countPlanes 22 = .ok (.getfield 31, 3) := by decide +kernel
theorem dX4_countPlanes_25 : decode cX4_countPlanes 25 = .ok (.iconst 4, 1) := by decide +kernel
theorem dX4_countPlanes_26 : decode cX4_countPlanes 26 = .ok (.iload_n 1, 1) := by decide +kernel
theorem dX4_countPlanes_27 : decode cX4_countPlanes 27 = .ok (.iastore, 1) := by decide +kernel
theorem dX4_countPlanes_28 : decode cX4_countPlanes 28 = .ok (.aload_n 0, 1) := by decide +kernel
theorem dX4_countPlanes_29 : decode cX4_countPlanes 29 = .ok (.dup, 1) := by decide +kernel
theorem dX4_countPlanes_30 : decode cX4_countPlanes 30 = .ok (.getfield 28, 3) := by decide +kernel
theorem dX4_countPlanes_33 : decode cX4_countPlanes 33 = .ok (.iload_n 2, 1) := by decide +kernel
theorem dX4_countPlanes_34 : decode cX4_countPlanes 34 = .ok (.iload_n 1, 1) := by decide +kernel
theorem dX4_countPlanes_35 : decode cX4_countPlanes 35 = .ok (.isub, 1) := by decide +kernel
theorem dX4_countPlanes_36 : decode cX4_countPlanes 36 = .ok (.iconst 1, 1) := by decide +kernel
theorem dX4_countPlanes_37 : decode cX4_countPlanes 37 = .ok (.iadd, 1) := by decide +kernel
theorem dX4_countPlanes_38 : decode cX4_countPlanes 38 = .ok (.iadd, 1) := by decide +kernel
theorem dX4_countPlanes_39 : decode cX4_countPlanes 39 = .ok (.putfield 28, 3) := by decide +kernel
theorem dX4_countPlanes_42 : decode cX4_countPlanes 42 = .ok (.iconst 0, 1) := by decide +kernel
theorem dX4_countPlanes_43 : decode cX4_countPlanes 43 = .ok (.istore_n 3, 1) := by decide +kernel
theorem dX4_countPlanes_44 : decode cX4_countPlanes 44 = .ok (.iload_n 3, 1) := by decide +kernel
theorem dX4_countPlanes_45 : decode cX4_countPlanes 45 = .ok (.bipush 16, 2) := by decide +kernel
theorem dX4_countPlanes_47 : decode cX4_countPlanes 47 = .ok (.if_icmp .ge 40, 3) := by decide +kernel
theorem dX4_countPlanes_50 : decode cX4_countPlanes 50 = .ok (.iload_n 2, 1) := by decide +kernel
theorem dX4_countPlanes_51 : decode cX4_countPlanes 51 = .ok (.aload_n 0, 1) := by decide +kernel
theorem dX4_countPlanes_52 : decode cX4_countPlanes 52 = .ok (.getfield 40, 3) := by decide +kernel
theorem dX4_countPlanes_55 : decode cX4_countPlanes 55 = .ok (.iload_n 3, 1) := by decide +kernel
theorem dX4_countPlanes_56 : decode cX4_countPlanes 56 = .ok (.iaload, 1) := by decide +kernel
theorem dX4_countPlanes_57 : decode cX4_countPlanes 57 = .ok (.invokestatic 67, 3) := by decide +kernel
theorem dX4_countPlanes_60 : decode cX4_countPlanes 60 = .ok (.istore 4, 2) := by decide +kernel
theorem dX4_countPlanes_62 : decode cX4_countPlanes 62 = .ok (.aload_n 0, 1) := by decide +kernel
theorem dX4_countPlanes_63 : decode cX4_countPlanes 63 = .ok (.getfield 34, 3) := by decide +kernel
theorem dX4_countPlanes_66 : decode cX4_countPlanes 66 = .ok (.iload_n 3, 1) := by decide +kernel
theorem dX4_countPlanes_67 : decode cX4_countPlanes 67 = .ok (.dup2, 1) := by decide +kernel
theorem dX4_countPlanes_68 : decode cX4_countPlanes 68 = .ok (.iaload, 1) := by decide +kernel
theorem dX4_countPlanes_69 : decode cX4_countPlanes 69 = .ok (.iconst 0, 1) := by decide +kernel
theorem dX4_countPlanes_70 : decode cX4_countPlanes 70 = .ok (.iload 4, 2) := by decide +kernel
theorem dX4_countPlanes_72 : decode cX4_countPlanes 72 = .ok (.iload_n 1, 1) := by decide +kernel
theorem dX4_countPlanes_73 : decode cX4_countPlanes 73 = .ok (.isub, 1) := by decide +kernel
theorem dX4_countPlanes_74 : decode cX4_countPlanes 74 = .ok (.iconst 1, 1) := by decide +kernel
theorem dX4_countPlanes_75 : decode cX4_countPlanes 75 = .ok (.iadd, 1) := by decide +kernel
theorem dX4_countPlanes_76 : decode cX4_countPlanes 76 = .ok (.invokestatic 46, 3) := by decide +kernel
theorem dX4_countPlanes_79 : decode cX4_countPlanes 79 = .ok (.iadd, 1) := by decide +kernel
theorem dX4_countPlanes_80 : decode cX4_countPlanes 80 = .ok (.iastore, 1) := by decide +kernel
theorem dX4_countPlanes_81 : decode cX4_countPlanes 81 = .ok (.iinc 3 1, 3) := by decide +kernel
theorem dX4_countPlanes_84 : decode cX4_countPlanes 84 = .ok (.goto (-40), 3) := by decide +kernel
theorem dX4_countPlanes_87 : decode cX4_countPlanes 87 = .ok (.return_, 1) := by decide +kernel
theorem dX5_init_0 : decode cX5_init 0 = .ok (.aload_n 0, 1) := by decide +kernel
theorem dX5_init_1 : decode cX5_init 1 = .ok (.invokespecial 1, 3) := by decide +kernel
theorem dX5_init_4 : decode cX5_init 4 = .ok (.aload_n 0, 1) := by decide +kernel
theorem dX5_init_5 : decode cX5_init 5 = .ok (.new 7, 3) := by decide +kernel
theorem dX5_init_8 : decode cX5_init 8 = .ok (.dup, 1) := by decide +kernel
theorem dX5_init_9 : decode cX5_init 9 = .ok (.invokespecial 9, 3) := by decide +kernel
theorem dX5_init_12 : decode cX5_init 12 = .ok (.putfield 10, 3) := by decide +kernel
theorem dX5_init_15 : decode cX5_init 15 = .ok (.aload_n 0, 1) := by decide +kernel
theorem dX5_init_16 : decode cX5_init 16 = .ok (.new 16, 3) := by decide +kernel
theorem dX5_init_19 : decode cX5_init 19 = .ok (.dup, 1) := by decide +kernel
theorem dX5_init_20 : decode cX5_init 20 = .ok (.invokespecial 18, 3) := by decide +kernel
theorem dX5_init_23 : decode cX5_init 23 = .ok (.putfield 19, 3) := by decide +kernel
theorem dX5_init_26 : decode cX5_init 26 = .ok (.aload_n 0, 1) := by decide +kernel
theorem dX5_init_27 : decode cX5_init 27 = .ok (.new 23, 3) := by decide +kernel
theorem dX5_init_30 : decode cX5_init 30 = .ok (.dup, 1) := by decide +kernel
theorem dX5_init_31 : decode cX5_init 31 = .ok (.invokespecial 25, 3) := by decide +kernel
theorem dX5_init_34 : decode cX5_init 34 = .ok (.putfield 26, 3) := by decide +kernel
theorem dX5_init_37 : decode cX5_init 37 = .ok (.aload_n 0, 1) := by decide +kernel
theorem dX5_init_38 : decode cX5_init 38 = .ok (.new 30, 3) := by decide +kernel
theorem dX5_init_41 : decode cX5_init 41 = .ok (.dup, 1) := by decide +kernel
theorem dX5_init_42 : decode cX5_init 42 = .ok (.invokespecial 32, 3) := by decide +kernel
theorem dX5_init_45 : decode cX5_init 45 = .ok (.putfield 33, 3) := by decide +kernel
theorem dX5_init_48 : decode cX5_init 48 = .ok (.aload_n 0, 1) := by decide +kernel
theorem dX5_init_49 : decode cX5_init 49 = .ok (.new 37, 3) := by decide +kernel
theorem dX5_init_52 : decode cX5_init 52 = .ok (.dup, 1) := by decide +kernel
theorem dX5_init_53 : decode cX5_init 53 = .ok (.aload_n 0, 1) := by decide +kernel
theorem dX5_init_54 : decode cX5_init 54 = .ok (.getfield 10, 3) := by decide +kernel
theorem dX5_init_57 : decode cX5_init 57 = .ok (.aload_n 0, 1) := by decide +kernel
theorem dX5_init_58 : decode cX5_init 58 = .ok (.getfield 19, 3) := by decide +kernel
theorem dX5_init_61 : decode cX5_init 61 = .ok (.invokespecial 39, 3) := by decide +kernel
theorem dX5_init_64 : decode cX5_init 64 = .ok (.putfield 42, 3) := by decide +kernel
theorem dX5_init_67 : decode cX5_init 67 = .ok (.aload_n 0, 1) := by decide +kernel
theorem dX5_init_68 : decode cX5_init 68 = .ok (.bipush 7, 2) := by decide +kernel
theorem dX5_init_70 : decode cX5_init 70 = .ok (.newarray .int, 2) := by decide +kernel
theorem dX5_init_72 : decode cX5_init 72 = .ok (.putfield 46, 3) := by decide +kernel
theorem dX5_init_75 : decode cX5_init 75 = .ok (.return_, 1) := by decide +kernel
theorem dX5_cells_0 : decode cX5_cells 0 = .ok (.iload_n 1, 1) := by decide +kernel
theorem dX5_cells_1 : decode cX5_cells 1 = .ok (.iconst 4, 1) := by decide +kernel
theorem dX5_cells_2 : decode cX5_cells 2 = .ok (.if_icmp .ge 10, 3) := by decide +kernel
theorem dX5_cells_5 : decode cX5_cells 5 = .ok (.aload_n 0, 1) := by decide +kernel
theorem dX5_cells_6 : decode cX5_cells 6 = .ok (.bipush (-4), 2) := by decide +kernel
theorem dX5_cells_8 : decode cX5_cells 8 = .ok (.invokevirtual 50, 3) := by decide +kernel
theorem dX5_cells_11 : decode cX5_cells 11 = .ok (.ireturn, 1) := by decide +kernel
theorem dX5_cells_12 : decode cX5_cells 12 = .ok (.iload_n 1, 1) := by decide +kernel
theorem dX5_cells_13 : decode cX5_cells 13 = .ok (.bipush 14, 2) := by decide +kernel
theorem dX5_cells_15 : decode cX5_cells 15 = .ok (.if_icmp .le 10, 3) := by decide +kernel
theorem dX5_cells_18 : decode cX5_cells 18 = .ok (.aload_n 0, 1) := by decide +kernel
theorem dX5_cells_19 : decode cX5_cells 19 = .ok (.bipush (-6), 2) := by decide +kernel
theorem dX5_cells_21 : decode cX5_cells 21 = .ok (.invokevirtual 50, 3) := by decide +kernel
theorem dX5_cells_24 : decode cX5_cells 24 = .ok (.ireturn, 1) := by decide +kernel
theorem dX5_cells_25 : decode cX5_cells 25 = .ok (.aload_n 0, 1) := by decide +kernel
theorem dX5_cells_26 : decode cX5_cells 26 = .ok (.getfield 10, 3) := by decide +kernel
theorem dX5_cells_29 : decode cX5_cells 29 = .ok (.getfield 54, 3) := by decide +kernel
theorem dX5_cells_32 : decode cX5_cells 32 = .ok (.istore_n 2, 1) := by decide +kernel
theorem dX5_cells_33 : decode cX5_cells 33 = .ok (.aload_n 0, 1) := by decide +kernel
theorem dX5_cells_34 : decode cX5_cells 34 = .ok (.getfield 10, 3) := by decide +kernel
theorem dX5_cells_37 : decode cX5_cells 37 = .ok (.iload_n 1, 1) := by decide +kernel
theorem dX5_cells_38 : decode cX5_cells 38 = .ok (.putfield 54, 3) := by decide +kernel
theorem dX5_cells_41 : decode cX5_cells 41 = .ok (.aload_n 0, 1) := by decide +kernel
theorem dX5_cells_42 : decode cX5_cells 42 = .ok (.getfield 10, 3) := by decide +kernel
theorem dX5_cells_45 : decode cX5_cells 45 = .ok (.iconst 0, 1) := by decide +kernel
theorem dX5_cells_46 : decode cX5_cells 46 = .ok (.putfield 58, 3) := by decide +kernel
theorem dX5_cells_49 : decode cX5_cells 49 = .ok (.aload_n 0, 1) := by decide +kernel
theorem dX5_cells_50 : decode cX5_cells 50 = .ok (.getfield 19, 3) := by decide +kernel
theorem dX5_cells_53 : decode cX5_cells 53 = .ok (.invokevirtual 61, 3) := by decide +kernel
theorem dX5_cells_56 : decode cX5_cells 56 = .ok (.aload_n 0, 1) := by decide +kernel
theorem dX5_cells_57 : decode cX5_cells 57 = .ok (.getfield 26, 3) := by decide +kernel
theorem dX5_cells_60 : decode cX5_cells 60 = .ok (.invokevirtual 64, 3) := by decide +kernel
theorem dX5_cells_63 : decode cX5_cells 63 = .ok (.iload_n 2, 1) := by decide +kernel
theorem dX5_cells_64 : decode cX5_cells 64 = .ok (.ireturn, 1) := by decide +kernel
theorem dX5_chip_0 : decode cX5_chip 0 = .ok (.aload_n 0, 1) := by decide +kernel
theorem dX5_chip_1 : decode cX5_chip 1 = .ok (.getfield 10, 3) := by decide +kernel
theorem dX5_chip_4 : decode cX5_chip 4 = .ok (.iload_n 1, 1) := by decide +kernel
theorem dX5_chip_5 : decode cX5_chip 5 = .ok (.invokevirtual 67, 3) := by decide +kernel
theorem dX5_chip_8 : decode cX5_chip 8 = .ok (.ifCond .ne 9, 3) := by decide +kernel
theorem dX5_chip_11 : decode cX5_chip 11 = .ok (.aload_n 0, 1) := by decide +kernel
theorem dX5_chip_12 : decode cX5_chip 12 = .ok (.iconst (-1), 1) := by decide +kernel
theorem dX5_chip_13 : decode cX5_chip 13 = .ok (.invokevirtual 50, 3) := by decide +kernel
theorem dX5_chip_16 : decode cX5_chip 16 = .ok (.ireturn, 1) := by decide +kernel
theorem dX5_chip_17 : decode cX5_chip 17 = .ok (.aload_n 0, 1) := by decide +kernel
theorem dX5_chip_18 : decode cX5_chip 18 = .ok (.getfield 26, 3) := by decide +kernel
theorem dX5_chip_21 : decode cX5_chip 21 = .ok (.getfield 71, 3) := by decide +kernel
theorem dX5_chip_24 : decode cX5_chip 24 = .ok (.bipush 8, 2) := by decide +kernel
theorem dX5_chip_26 : decode cX5_chip 26 = .ok (.if_icmp .lt 10, 3) := by decide +kernel
theorem dX5_chip_29 : decode cX5_chip 29 = .ok (.aload_n 0, 1) := by decide +kernel
theorem dX5_chip_30 : decode cX5_chip 30 = .ok (.bipush (-6), 2) := by decide +kernel
theorem dX5_chip_32 : decode cX5_chip 32 = .ok (.invokevirtual 50, 3) := by decide +kernel
theorem dX5_chip_35 : decode cX5_chip 35 = .ok (.ireturn, 1) := by decide +kernel
theorem dX5_chip_36 : decode cX5_chip 36 = .ok (.aload_n 0, 1) := by decide +kernel
theorem dX5_chip_37 : decode cX5_chip 37 = .ok (.getfield 26, 3) := by decide +kernel
theorem dX5_chip_40 : decode cX5_chip 40 = .ok (.iload_n 1, 1) := by decide +kernel
theorem dX5_chip_41 : decode cX5_chip 41 = .ok (.invokevirtual 74, 3) := by decide +kernel
theorem dX5_chip_44 : decode cX5_chip 44 = .ok (.ireturn, 1) := by decide +kernel
theorem dX5_set_0 : decode cX5_set 0 = .ok (.iload_n 1, 1) := by decide +kernel
theorem dX5_set_1 : decode cX5_set 1 = .ok (.ifCond .lt 9, 3) := by decide +kernel
theorem dX5_set_4 : decode cX5_set 4 = .ok (.iload_n 1, 1) := by decide +kernel
theorem dX5_set_5 : decode cX5_set 5 = .ok (.bipush 14, 2) := by decide +kernel
theorem dX5_set_7 : decode cX5_set 7 = .ok (.if_icmp .lt 9, 3) := by decide +kernel
theorem dX5_set_10 : decode cX5_set 10 = .ok (.aload_n 0, 1) := by decide +kernel
theorem dX5_set_11 : decode cX5_set 11 = .ok (.iconst (-1), 1) := by decide +kernel
theorem dX5_set_12 : decode cX5_set 12 = .ok (.invokevirtual 50, 3) := by decide +kernel
theorem dX5_set_15 : decode cX5_set 15 = .ok (.ireturn, 1) := by decide +kernel
theorem dX5_set_16 : decode cX5_set 16 = .ok (.iload_n 2, 1) := by decide +kernel
theorem dX5_set_17 : decode cX5_set 17 = .ok (.ifCond .lt 8, 3) := by decide +kernel
theorem dX5_set_20 : decode cX5_set 20 = .ok (.iload_n 2, 1) := by decide +kernel
theorem dX5_set_21 : decode cX5_set 21 = .ok (.iconst 2, 1) := by decide +kernel
theorem dX5_set_22 : decode cX5_set 22 = .ok (.if_icmp .le 10, 3) := by decide +kernel
theorem dX5_set_25 : decode cX5_set 25 = .ok (.aload_n 0, 1) := by decide +kernel
theorem dX5_set_26 : decode cX5_set 26 = .ok (.bipush (-2), 2) := by decide +kernel
theorem dX5_set_28 : decode cX5_set 28 = .ok (.invokevirtual 50, 3) := by decide +kernel
theorem dX5_set_31 : decode cX5_set 31 = .ok (.ireturn, 1) := by decide +kernel
theorem dX5_set_32 : decode cX5_set 32 = .ok (.iload_n 3, 1) := by decide +kernel
theorem dX5_set_33 : decode cX5_set 33 = .ok (.iload_n 2, 1) := by decide +kernel
theorem dX5_set_34 : decode cX5_set 34 = .ok (.invokestatic 77, 3) := by decide +kernel
theorem dX5_set_37 : decode cX5_set 37 = .ok (.if_icmp .ge 10, 3) := by decide +kernel
end
section
theorem dX5_set_40 : decode cX5_set 40 = .ok (.aload_n 0, 1) := by decide +kernel
theorem dX5_set_41 : decode cX5_set 41 = .ok (.bipush (-4), 2) := by decide +kernel
theorem dX5_set_43 : decode cX5_set 43 = .ok (.invokevirtual 50, 3) := by decide +kernel
theorem dX5_set_46 : decode cX5_set 46 = .ok (.ireturn, 1) := by decide +kernel
theorem dX5_set_47 : decode cX5_set 47 = .ok (.iload_n 3, 1) := by decide +kernel
theorem dX5_set_48 : decode cX5_set 48 = .ok (.iload_n 2, 1) := by decide +kernel
theorem dX5_set_49 : decode cX5_set 49 = .ok (.invokestatic 80, 3) := by decide +kernel
theorem dX5_set_52 : decode cX5_set 52 = .ok (.if_icmp .le 10, 3) := by decide +kernel
theorem dX5_set_55 : decode cX5_set 55 = .ok (.aload_n 0, 1) := by decide +kernel
theorem dX5_set_56 : decode cX5_set 56 = .ok (.bipush (-6), 2) := by decide +kernel
theorem dX5_set_58 : decode cX5_set 58 = .ok (.invokevirtual 50, 3) := by decide +kernel
theorem dX5_set_61 : decode cX5_set 61 = .ok (.ireturn, 1) := by decide +kernel
theorem dX5_set_62 : decode cX5_set 62 = .ok (.aload_n 0, 1) := by decide +kernel
theorem dX5_set_63 : decode cX5_set 63 = .ok (.getfield 10, 3) := by decide +kernel
theorem dX5_set_66 : decode cX5_set 66 = .ok (.iload_n 1, 1) := by decide +kernel
theorem dX5_set_67 : decode cX5_set 67 = .ok (.iload_n 2, 1) := by decide +kernel
theorem dX5_set_68 : decode cX5_set 68 = .ok (.iload_n 3, 1) := by decide +kernel
theorem dX5_set_69 : decode cX5_set 69 = .ok (.invokevirtual 83, 3) := by decide +kernel
theorem dX5_set_72 : decode cX5_set 72 = .ok (.ireturn, 1) := by decide +kernel
theorem dX5_chance_0 : decode cX5_chance 0 = .ok (.aload_n 0, 1) := by decide +kernel
theorem dX5_chance_1 : decode cX5_chance 1 = .ok (.getfield 10, 3) := by decide +kernel
theorem dX5_chance_4 : decode cX5_chance 4 = .ok (.iload_n 1, 1) := by decide +kernel
theorem dX5_chance_5 : decode cX5_chance 5 = .ok (.invokevirtual 87, 3) := by decide +kernel
theorem dX5_chance_8 : decode cX5_chance 8 = .ok (.ifCond .ne 9, 3) := by decide +kernel
theorem dX5_chance_11 : decode cX5_chance 11 = .ok (.aload_n 0, 1) := by decide +kernel
theorem dX5_chance_12 : decode cX5_chance 12 = .ok (.iconst (-1), 1) := by decide +kernel
theorem dX5_chance_13 : decode cX5_chance 13 = .ok (.invokevirtual 50, 3) := by decide +kernel
theorem dX5_chance_16 : decode cX5_chance 16 = .ok (.ireturn, 1) := by decide +kernel
theorem dX5_chance_17 : decode cX5_chance 17 = .ok (.iload_n 2, 1) := by decide +kernel
theorem dX5_chance_18 : decode cX5_chance 18 = .ok (.ifCond .ge 10, 3) := by decide +kernel
theorem dX5_chance_21 : decode cX5_chance 21 = .ok (.aload_n 0, 1) := by decide +kernel
theorem dX5_chance_22 : decode cX5_chance 22 = .ok (.bipush (-4), 2) := by decide +kernel
theorem dX5_chance_24 : decode cX5_chance 24 = .ok (.invokevirtual 50, 3) := by decide +kernel
theorem dX5_chance_27 : decode cX5_chance 27 = .ok (.ireturn, 1) := by decide +kernel
theorem dX5_chance_28 : decode cX5_chance 28 = .ok (.iload_n 2, 1) := by decide +kernel
theorem dX5_chance_29 : decode cX5_chance 29 = .ok (.bipush 40, 2) := by decide +kernel
theorem dX5_chance_31 : decode cX5_chance 31 = .ok (.if_icmp .le 10, 3) := by decide +kernel
theorem dX5_chance_34 : decode cX5_chance 34 = .ok (.aload_n 0, 1) := by decide +kernel
theorem dX5_chance_35 : decode cX5_chance 35 = .ok (.bipush (-6), 2) := by decide +kernel
theorem dX5_chance_37 : decode cX5_chance 37 = .ok (.invokevirtual 50, 3) := by decide +kernel
theorem dX5_chance_40 : decode cX5_chance 40 = .ok (.ireturn, 1) := by decide +kernel
theorem dX5_chance_41 : decode cX5_chance 41 = .ok (.aload_n 0, 1) := by decide +kernel
theorem dX5_chance_42 : decode cX5_chance 42 = .ok (.getfield 10, 3) := by decide +kernel
theorem dX5_chance_45 : decode cX5_chance 45 = .ok (.iload_n 1, 1) := by decide +kernel
theorem dX5_chance_46 : decode cX5_chance 46 = .ok (.invokevirtual 90, 3) := by decide +kernel
theorem dX5_chance_49 : decode cX5_chance 49 = .ok (.ifCond .eq 7, 3) := by decide +kernel
theorem dX5_chance_52 : decode cX5_chance 52 = .ok (.iconst 0, 1) := by decide +kernel
theorem dX5_chance_53 : decode cX5_chance 53 = .ok (.goto 12, 3) := by decide +kernel
theorem dX5_chance_56 : decode cX5_chance 56 = .ok (.aload_n 0, 1) := by decide +kernel
theorem dX5_chance_57 : decode cX5_chance 57 = .ok (.getfield 10, 3) := by decide +kernel
theorem dX5_chance_60 : decode cX5_chance 60 = .ok (.iload_n 1, 1) := by decide +kernel
theorem dX5_chance_61 : decode cX5_chance 61 = .ok (.iload_n 2, 1) := by decide +kernel
theorem dX5_chance_62 : decode cX5_chance 62 = .ok (.invokevirtual 93, 3) := by decide +kernel
theorem dX5_chance_65 : decode cX5_chance 65 = .ok (.ireturn, 1) := by decide +kernel
theorem dX5_mask_0 : decode cX5_mask 0 = .ok (.aload_n 0, 1) := by decide +kernel
theorem dX5_mask_1 : decode cX5_mask 1 = .ok (.getfield 10, 3) := by decide +kernel
theorem dX5_mask_4 : decode cX5_mask 4 = .ok (.iload_n 1, 1) := by decide +kernel
theorem dX5_mask_5 : decode cX5_mask 5 = .ok (.invokevirtual 67, 3) := by decide +kernel
theorem dX5_mask_8 : decode cX5_mask 8 = .ok (.ifCond .ne 9, 3) := by decide +kernel
theorem dX5_mask_11 : decode cX5_mask 11 = .ok (.aload_n 0, 1) := by decide +kernel
theorem dX5_mask_12 : decode cX5_mask 12 = .ok (.iconst (-1), 1) := by decide +kernel
theorem dX5_mask_13 : decode cX5_mask 13 = .ok (.invokevirtual 50, 3) := by decide +kernel
theorem dX5_mask_16 : decode cX5_mask 16 = .ok (.ireturn, 1) := by decide +kernel
theorem dX5_mask_17 : decode cX5_mask 17 = .ok (.aload_n 0, 1) := by decide +kernel
theorem dX5_mask_18 : decode cX5_mask 18 = .ok (.getfield 10, 3) := by decide +kernel
theorem dX5_mask_21 : decode cX5_mask 21 = .ok (.getfield 58, 3) := by decide +kernel
theorem dX5_mask_24 : decode cX5_mask 24 = .ok (.istore_n 2, 1) := by decide +kernel
theorem dX5_mask_25 : decode cX5_mask 25 = .ok (.aload_n 0, 1) := by decide +kernel
theorem dX5_mask_26 : decode cX5_mask 26 = .ok (.iload_n 1, 1) := by decide +kernel
theorem dX5_mask_27 : decode cX5_mask 27 = .ok (.invokevirtual 97, 3) := by decide +kernel
theorem dX5_mask_30 : decode cX5_mask 30 = .ok (.iload_n 2, 1) := by decide +kernel
theorem dX5_mask_31 : decode cX5_mask 31 = .ok (.ireturn, 1) := by decide +kernel
theorem dX5_maskBy_0 : decode cX5_maskBy 0 = .ok (.iload_n 1, 1) := by decide +kernel
theorem dX5_maskBy_1 : decode cX5_maskBy 1 = .ok (.ifCond .lt 7, 3) := by decide +kernel
theorem dX5_maskBy_4 : decode cX5_maskBy 4 = .ok (.iload_n 2, 1) := by decide +kernel
theorem dX5_maskBy_5 : decode cX5_maskBy 5 = .ok (.ifCond .ge 10, 3) := by decide +kernel
theorem dX5_maskBy_8 : decode cX5_maskBy 8 = .ok (.aload_n 0, 1) := by decide +kernel
theorem dX5_maskBy_9 : decode cX5_maskBy 9 = .ok (.bipush (-4), 2) := by decide +kernel
theorem dX5_maskBy_11 : decode cX5_maskBy 11 = .ok (.invokevirtual 50, 3) := by decide +kernel
theorem dX5_maskBy_14 : decode cX5_maskBy 14 = .ok (.ireturn, 1) := by decide +kernel
theorem dX5_maskBy_15 : decode cX5_maskBy 15 = .ok (.iload_n 1, 1) := by decide +kernel
theorem dX5_maskBy_16 : decode cX5_maskBy 16 = .ok (.bipush 40, 2) := by decide +kernel
theorem dX5_maskBy_18 : decode cX5_maskBy 18 = .ok (.if_icmp .gt 8, 3) := by decide +kernel
theorem dX5_maskBy_21 : decode cX5_maskBy 21 = .ok (.iload_n 2, 1) := by decide +kernel
theorem dX5_maskBy_22 : decode cX5_maskBy 22 = .ok (.iconst 4, 1) := by decide +kernel
theorem dX5_maskBy_23 : decode cX5_maskBy 23 = .ok (.if_icmp .le 10, 3) := by decide +kernel
theorem dX5_maskBy_26 : decode cX5_maskBy 26 = .ok (.aload_n 0, 1) := by decide +kernel
theorem dX5_maskBy_27 : decode cX5_maskBy 27 = .ok (.bipush (-6), 2) := by decide +kernel
theorem dX5_maskBy_29 : decode cX5_maskBy 29 = .ok (.invokevirtual 50, 3) := by decide +kernel
theorem dX5_maskBy_32 : decode cX5_maskBy 32 = .ok (.ireturn, 1) := by decide +kernel
theorem dX5_maskBy_33 : decode cX5_maskBy 33 = .ok (.aload_n 0, 1) := by decide +kernel
theorem dX5_maskBy_34 : decode cX5_maskBy 34 = .ok (.aload_n 0, 1) := by decide +kernel
theorem dX5_maskBy_35 : decode cX5_maskBy 35 = .ok (.getfield 10, 3) := by decide +kernel
theorem dX5_maskBy_38 : decode cX5_maskBy 38 = .ok (.iload_n 2, 1) := by decide +kernel
theorem dX5_maskBy_39 : decode cX5_maskBy 39 = .ok (.iload_n 1, 1) := by decide +kernel
theorem dX5_maskBy_40 : decode cX5_maskBy 40 = .ok (.invokevirtual 101, 3) := by decide +kernel
theorem dX5_maskBy_43 : decode cX5_maskBy 43 = .ok (.invokevirtual 97, 3) := by decide +kernel
theorem dX5_maskBy_46 : decode cX5_maskBy 46 = .ok (.aload_n 0, 1) := by decide +kernel
theorem dX5_maskBy_47 : decode cX5_maskBy 47 = .ok (.getfield 10, 3) := by decide +kernel
theorem dX5_maskBy_50 : decode cX5_maskBy 50 = .ok (.getfield 58, 3) := by decide +kernel
theorem dX5_maskBy_53 : decode cX5_maskBy 53 = .ok (.ireturn, 1) := by decide +kernel
theorem dX5_row_0 : decode cX5_row 0 = .ok (.aload_n 0, 1) := by decide +kernel
theorem dX5_row_1 : decode cX5_row 1 = .ok (.getfield 10, 3) := by decide +kernel
theorem dX5_row_4 : decode cX5_row 4 = .ok (.iload_n 1, 1) := by decide +kernel
theorem dX5_row_5 : decode cX5_row 5 = .ok (.invokevirtual 67, 3) := by decide +kernel
theorem dX5_row_8 : decode cX5_row 8 = .ok (.ifCond .ne 9, 3) := by decide +kernel
theorem dX5_row_11 : decode cX5_row 11 = .ok (.aload_n 0, 1) := by decide +kernel
theorem dX5_row_12 : decode cX5_row 12 = .ok (.iconst (-1), 1) := by decide +kernel
theorem dX5_row_13 : decode cX5_row 13 = .ok (.invokevirtual 50, 3) := by decide +kernel
theorem dX5_row_16 : decode cX5_row 16 = .ok (.ireturn, 1) := by decide +kernel
theorem dX5_row_17 : decode cX5_row 17 = .ok (.aload_n 0, 1) := by decide +kernel
theorem dX5_row_18 : decode cX5_row 18 = .ok (.getfield 10, 3) := by decide +kernel
theorem dX5_row_21 : decode cX5_row 21 = .ok (.iload_n 1, 1) := by decide +kernel
theorem dX5_row_22 : decode cX5_row 22 = .ok (.invokevirtual 104, 3) := by decide +kernel
theorem dX5_row_25 : decode cX5_row 25 = .ok (.istore_n 2, 1) := by decide +kernel
theorem dX5_row_26 : decode cX5_row 26 = .ok (.aload_n 0, 1) := by decide +kernel
theorem dX5_row_27 : decode cX5_row 27 = .ok (.getfield 19, 3) := by decide +kernel
theorem dX5_row_30 : decode cX5_row 30 = .ok (.iload_n 2, 1) := by decide +kernel
theorem dX5_row_31 : decode cX5_row 31 = .ok (.invokevirtual 107, 3) := by decide +kernel
theorem dX5_row_34 : decode cX5_row 34 = .ok (.ifCond .eq 10, 3) := by decide +kernel
theorem dX5_row_37 : decode cX5_row 37 = .ok (.aload_n 0, 1) := by decide +kernel
theorem dX5_row_38 : decode cX5_row 38 = .ok (.bipush (-3), 2) := by decide +kernel
theorem dX5_row_40 : decode cX5_row 40 = .ok (.invokevirtual 50, 3) := by decide +kernel
theorem dX5_row_43 : decode cX5_row 43 = .ok (.ireturn, 1) := by decide +kernel
theorem dX5_row_44 : decode cX5_row 44 = .ok (.aload_n 0, 1) := by decide +kernel
theorem dX5_row_45 : decode cX5_row 45 = .ok (.getfield 19, 3) := by decide +kernel
theorem dX5_row_48 : decode cX5_row 48 = .ok (.getfield 110, 3) := by decide +kernel
theorem dX5_row_51 : decode cX5_row 51 = .ok (.bipush 6, 2) := by decide +kernel
theorem dX5_row_53 : decode cX5_row 53 = .ok (.if_icmp .lt 10, 3) := by decide +kernel
theorem dX5_row_56 : decode cX5_row 56 = .ok (.aload_n 0, 1) := by decide +kernel
theorem dX5_row_57 : decode cX5_row 57 = .ok (.bipush (-6), 2) := by decide +kernel
theorem dX5_row_59 : decode cX5_row 59 = .ok (.invokevirtual 50, 3) := by decide +kernel
theorem dX5_row_62 : decode cX5_row 62 = .ok (.ireturn, 1) := by decide +kernel
theorem dX5_row_63 : decode cX5_row 63 = .ok (.aload_n 0, 1) := by decide +kernel
theorem dX5_row_64 : decode cX5_row 64 = .ok (.getfield 19, 3) := by decide +kernel
theorem dX5_row_67 : decode cX5_row 67 = .ok (.iload_n 2, 1) := by decide +kernel
theorem dX5_row_68 : decode cX5_row 68 = .ok (.invokevirtual 113, 3) := by decide +kernel
theorem dX5_row_71 : decode cX5_row 71 = .ok (.aload_n 0, 1) := by decide +kernel
theorem dX5_row_72 : decode cX5_row 72 = .ok (.getfield 26, 3) := by decide +kernel
theorem dX5_row_75 : decode cX5_row 75 = .ok (.invokevirtual 116, 3) := by decide +kernel
theorem dX5_row_78 : decode cX5_row 78 = .ok (.aload_n 0, 1) := by decide +kernel
theorem dX5_row_79 : decode cX5_row 79 = .ok (.getfield 19, 3) := by decide +kernel
theorem dX5_row_82 : decode cX5_row 82 = .ok (.getfield 110, 3) := by decide +kernel
theorem dX5_row_85 : decode cX5_row 85 = .ok (.ireturn, 1) := by decide +kernel
theorem dX5_distance_0 : decode cX5_distance 0 = .ok (.aload_n 0, 1) := by decide +kernel
theorem dX5_distance_1 : decode cX5_distance 1 = .ok (.getfield 19, 3) := by decide +kernel
theorem dX5_distance_4 : decode cX5_distance 4 = .ok (.invokevirtual 119, 3) := by decide +kernel
theorem dX5_distance_7 : decode cX5_distance 7 = .ok (.ireturn, 1) := by decide +kernel
theorem dX5_codeword_0 : decode cX5_codeword 0 = .ok (.aload_n 0, 1) := by decide +kernel
theorem dX5_codeword_1 : decode cX5_codeword 1 = .ok (.getfield 19, 3) := by decide +kernel
theorem dX5_codeword_4 : decode cX5_codeword 4 = .ok (.iload_n 1, 1) := by decide +kernel
theorem dX5_codeword_5 : decode cX5_codeword 5 = .ok (.invokevirtual 123, 3) := by decide +kernel
theorem dX5_codeword_8 : decode cX5_codeword 8 = .ok (.ifCond .eq 15, 3) := by decide +kernel
theorem dX5_codeword_11 : decode cX5_codeword 11 = .ok (.aload_n 0, 1) := by decide +kernel
theorem dX5_codeword_12 : decode cX5_codeword 12 = .ok (.getfield 19, 3) := by decide +kernel
theorem dX5_codeword_15 : decode cX5_codeword 15 = .ok (.getfield 126, 3) := by decide +kernel
theorem dX5_codeword_18 : decode cX5_codeword 18 = .ok (.iload_n 1, 1) := by decide +kernel
theorem dX5_codeword_19 : decode cX5_codeword 19 = .ok (.iaload, 1) := by decide +kernel
theorem dX5_codeword_20 : decode cX5_codeword 20 = .ok (.goto 8, 3) := by decide +kernel
theorem dX5_codeword_23 : decode cX5_codeword 23 = .ok (.aload_n 0, 1) := by decide +kernel
theorem dX5_codeword_24 : decode cX5_codeword 24 = .ok (.iconst (-1), 1) := by decide +kernel
theorem dX5_codeword_25 : decode cX5_codeword 25 = .ok (.invokevirtual 50, 3) := by decide +kernel
theorem dX5_codeword_28 : decode cX5_codeword 28 = .ok (.ireturn, 1) := by decide +kernel
theorem dX5_mended_0 : decode cX5_mended 0 = .ok (.aload_n 0, 1) := by decide +kernel
theorem dX5_mended_1 : decode cX5_mended 1 = .ok (.getfield 10, 3) := by decide +kernel
theorem dX5_mended_4 : decode cX5_mended 4 = .ok (.iload_n 1, 1) := by decide +kernel
theorem dX5_mended_5 : decode cX5_mended 5 = .ok (.invokevirtual 67, 3) := by decide +kernel
theorem dX5_mended_8 : decode cX5_mended 8 = .ok (.ifCond .eq 21, 3) := by decide +kernel
theorem dX5_mended_11 : decode cX5_mended 11 = .ok (.aload_n 0, 1) := by decide +kernel
theorem dX5_mended_12 : decode cX5_mended 12 = .ok (.getfield 19, 3) := by decide +kernel
theorem dX5_mended_15 : decode cX5_mended 15 = .ok (.aload_n 0, 1) := by decide +kernel
theorem dX5_mended_16 : decode cX5_mended 16 = .ok (.getfield 10, 3) := by decide +kernel
theorem dX5_mended_19 : decode cX5_mended 19 = .ok (.iload_n 1, 1) := by decide +kernel
theorem dX5_mended_20 : decode cX5_mended 20 = .ok (.invokevirtual 104, 3) := by decide +kernel
theorem dX5_mended_23 : decode cX5_mended 23 = .ok (.invokevirtual 129, 3) := by decide +kernel
theorem dX5_mended_26 : decode cX5_mended 26 = .ok (.goto 8, 3) := by decide +kernel
theorem dX5_mended_29 : decode cX5_mended 29 = .ok (.aload_n 0, 1) := by decide +kernel
theorem dX5_mended_30 : decode cX5_mended 30 = .ok (.iconst (-1), 1) := by decide +kernel
theorem dX5_mended_31 : decode cX5_mended 31 = .ok (.invokevirtual 50, 3) := by decide +kernel
theorem dX5_mended_34 : decode cX5_mended 34 = .ok (.ireturn, 1) := by decide +kernel
theorem dX5_clear_0 : decode cX5_clear 0 = .ok (.aload_n 0, 1) := by decide +kernel
theorem dX5_clear_1 : decode cX5_clear 1 = .ok (.getfield 10, 3) := by decide +kernel
theorem dX5_clear_4 : decode cX5_clear 4 = .ok (.iload_n 1, 1) := by decide +kernel
theorem dX5_clear_5 : decode cX5_clear 5 = .ok (.invokevirtual 67, 3) := by decide +kernel
theorem dX5_clear_8 : decode cX5_clear 8 = .ok (.ifCond .ne 9, 3) := by decide +kernel
theorem dX5_clear_11 : decode cX5_clear 11 = .ok (.aload_n 0, 1) := by decide +kernel
theorem dX5_clear_12 : decode cX5_clear 12 = .ok (.iconst (-1), 1) := by decide +kernel
theorem dX5_clear_13 : decode cX5_clear 13 = .ok (.invokevirtual 50, 3) := by decide +kernel
theorem dX5_clear_16 : decode cX5_clear 16 = .ok (.ireturn, 1) := by decide +kernel
theorem dX5_clear_17 : decode cX5_clear 17 = .ok (.aload_n 0, 1) := by decide +kernel
theorem dX5_clear_18 : decode cX5_clear 18 = .ok (.getfield 19, 3) := by decide +kernel
theorem dX5_clear_21 : decode cX5_clear 21 = .ok (.aload_n 0, 1) := by decide +kernel
theorem dX5_clear_22 : decode cX5_clear 22 = .ok (.getfield 10, 3) := by decide +kernel
theorem dX5_clear_25 : decode cX5_clear 25 = .ok (.iload_n 1, 1) := by decide +kernel
theorem dX5_clear_26 : decode cX5_clear 26 = .ok (.invokevirtual 104, 3) := by decide +kernel
theorem dX5_clear_29 : decode cX5_clear 29 = .ok (.invokevirtual 132, 3) := by decide +kernel
theorem dX5_clear_32 : decode cX5_clear 32 = .ok (.ifCond .eq 7, 3) := by decide +kernel
theorem dX5_clear_35 : decode cX5_clear 35 = .ok (.iconst 1, 1) := by decide +kernel
theorem dX5_clear_36 : decode cX5_clear 36 = .ok (.goto 4, 3) := by decide +kernel
theorem dX5_clear_39 : decode cX5_clear 39 = .ok (.iconst 0, 1) := by decide +kernel
theorem dX5_clear_40 : decode cX5_clear 40 = .ok (.ireturn, 1) := by decide +kernel
theorem dX5_enrol_0 : decode cX5_enrol 0 = .ok (.aload_n 0, 1) := by decide +kernel
theorem dX5_enrol_1 : decode cX5_enrol 1 = .ok (.getfield 26, 3) := by decide +kernel
theorem dX5_enrol_4 : decode cX5_enrol 4 = .ok (.iload_n 1, 1) := by decide +kernel
theorem dX5_enrol_5 : decode cX5_enrol 5 = .ok (.invokevirtual 135, 3) := by decide +kernel
theorem dX5_enrol_8 : decode cX5_enrol 8 = .ok (.ifCond .eq 14, 3) := by decide +kernel
theorem dX5_enrol_11 : decode cX5_enrol 11 = .ok (.aload_n 0, 1) := by decide +kernel
theorem dX5_enrol_12 : decode cX5_enrol 12 = .ok (.getfield 19, 3) := by decide +kernel
theorem dX5_enrol_15 : decode cX5_enrol 15 = .ok (.iload_n 2, 1) := by decide +kernel
theorem dX5_enrol_16 : decode cX5_enrol 16 = .ok (.invokevirtual 123, 3) := by decide +kernel
theorem dX5_enrol_19 : decode cX5_enrol 19 = .ok (.ifCond .ne 9, 3) := by decide +kernel
theorem dX5_enrol_22 : decode cX5_enrol 22 = .ok (.aload_n 0, 1) := by decide +kernel
theorem dX5_enrol_23 : decode cX5_enrol 23 = .ok (.iconst (-1), 1) := by decide +kernel
theorem dX5_enrol_24 : decode cX5_enrol 24 = .ok (.invokevirtual 50, 3) := by decide +kernel
theorem dX5_enrol_27 : decode cX5_enrol 27 = .ok (.ireturn, 1) := by decide +kernel
theorem dX5_enrol_28 : decode cX5_enrol 28 = .ok (.aload_n 0, 1) := by decide +kernel
theorem dX5_enrol_29 : decode cX5_enrol 29 = .ok (.getfield 10, 3) := by decide +kernel
theorem dX5_enrol_32 : decode cX5_enrol 32 = .ok (.aload_n 0, 1) := by decide +kernel
theorem dX5_enrol_33 : decode cX5_enrol 33 = .ok (.getfield 26, 3) := by decide +kernel
theorem dX5_enrol_36 : decode cX5_enrol 36 = .ok (.getfield 138, 3) := by decide +kernel
theorem dX5_enrol_39 : decode cX5_enrol 39 = .ok (.iload_n 1, 1) := by decide +kernel
theorem dX5_enrol_40 : decode cX5_enrol 40 = .ok (.iaload, 1) := by decide +kernel
theorem dX5_enrol_41 : decode cX5_enrol 41 = .ok (.invokevirtual 104, 3) := by decide +kernel
theorem dX5_enrol_44 : decode cX5_enrol 44 = .ok (.aload_n 0, 1) := by decide +kernel
theorem dX5_enrol_45 : decode cX5_enrol 45 = .ok (.getfield 19, 3) := by decide +kernel
theorem dX5_enrol_48 : decode cX5_enrol 48 = .ok (.getfield 126, 3) := by decide +kernel
theorem dX5_enrol_51 : decode cX5_enrol 51 = .ok (.iload_n 2, 1) := by decide +kernel
theorem dX5_enrol_52 : decode cX5_enrol 52 = .ok (.iaload, 1) := by decide +kernel
theorem dX5_enrol_53 : decode cX5_enrol 53 = .ok (.ixor, 1) := by decide +kernel
theorem dX5_enrol_54 : decode cX5_enrol 54 = .ok (.istore_n 3, 1) := by decide +kernel
theorem dX5_enrol_55 : decode cX5_enrol 55 = .ok (.aload_n 0, 1) := by decide +kernel
theorem dX5_enrol_56 : decode cX5_enrol 56 = .ok (.getfield 26, 3) := by decide +kernel
theorem dX5_enrol_59 : decode cX5_enrol 59 = .ok (.iload_n 1, 1) := by decide +kernel
theorem dX5_enrol_60 : decode cX5_enrol 60 = .ok (.iload_n 3, 1) := by decide +kernel
theorem dX5_enrol_61 : decode cX5_enrol 61 = .ok (.iload_n 2, 1) := by decide +kernel
theorem dX5_enrol_62 : decode cX5_enrol 62 = .ok (.invokevirtual 141, 3) := by decide +kernel
theorem dX5_enrol_65 : decode cX5_enrol 65 = .ok (.iload_n 3, 1) := by decide +kernel
theorem dX5_enrol_66 : decode cX5_enrol 66 = .ok (.ireturn, 1) := by decide +kernel
theorem dX5_reading_0 : decode cX5_reading 0 = .ok (.aload_n 0, 1) := by decide +kernel
theorem dX5_reading_1 : decode cX5_reading 1 = .ok (.getfield 26, 3) := by decide +kernel
theorem dX5_reading_4 : decode cX5_reading 4 = .ok (.iload_n 1, 1) := by decide +kernel
theorem dX5_reading_5 : decode cX5_reading 5 = .ok (.invokevirtual 135, 3) := by decide +kernel
theorem dX5_reading_8 : decode cX5_reading 8 = .ok (.ifCond .eq 14, 3) := by decide +kernel
theorem dX5_reading_11 : decode cX5_reading 11 = .ok (.aload_n 0, 1) := by decide +kernel
theorem dX5_reading_12 : decode cX5_reading 12 = .ok (.getfield 10, 3) := by decide +kernel
theorem dX5_reading_15 : decode cX5_reading 15 = .ok (.iload_n 2, 1) := by decide +kernel
theorem dX5_reading_16 : decode cX5_reading 16 = .ok (.invokevirtual 67, 3) := by decide +kernel
theorem dX5_reading_19 : decode cX5_reading 19 = .ok (.ifCond .ne 9, 3) := by decide +kernel
theorem dX5_reading_22 : decode cX5_reading 22 = .ok (.aload_n 0, 1) := by decide +kernel
theorem dX5_reading_23 : decode cX5_reading 23 = .ok (.iconst (-1), 1) := by decide +kernel
theorem dX5_reading_24 : decode cX5_reading 24 = .ok (.invokevirtual 50, 3) := by decide +kernel
theorem dX5_reading_27 : decode cX5_reading 27 = .ok (.ireturn, 1) := by decide +kernel
theorem dX5_reading_28 : decode cX5_reading 28 = .ok (.aload_n 0, 1) := by decide +kernel
theorem dX5_reading_29 : decode cX5_reading 29 = .ok (.getfield 26, 3) := by decide +kernel
theorem dX5_reading_32 : decode cX5_reading 32 = .ok (.getfield 145, 3) := by decide +kernel
theorem dX5_reading_35 : decode cX5_reading 35 = .ok (.iload_n 1, 1) := by decide +kernel
theorem dX5_reading_36 : decode cX5_reading 36 = .ok (.baload, 1) := by decide +kernel
theorem dX5_reading_37 : decode cX5_reading 37 = .ok (.ifCond .ne 10, 3) := by decide +kernel
theorem dX5_reading_40 : decode cX5_reading 40 = .ok (.aload_n 0, 1) := by decide +kernel
theorem dX5_reading_41 : decode cX5_reading 41 = .ok (.bipush (-3), 2) := by decide +kernel
theorem dX5_reading_43 : decode cX5_reading 43 = .ok (.invokevirtual 50, 3) := by decide +kernel
theorem dX5_reading_46 : decode cX5_reading 46 = .ok (.ireturn, 1) := by decide +kernel
theorem dX5_reading_47 : decode cX5_reading 47 = .ok (.aload_n 0, 1) := by decide +kernel
theorem dX5_reading_48 : decode cX5_reading 48 = .ok (.getfield 19, 3) := by decide +kernel
theorem dX5_reading_51 : decode cX5_reading 51 = .ok (.aload_n 0, 1) := by decide +kernel
theorem dX5_reading_52 : decode cX5_reading 52 = .ok (.getfield 10, 3) := by decide +kernel
theorem dX5_reading_55 : decode cX5_reading 55 = .ok (.iload_n 2, 1) := by decide +kernel
theorem dX5_reading_56 : decode cX5_reading 56 = .ok (.invokevirtual 104, 3) := by decide +kernel
theorem dX5_reading_59 : decode cX5_reading 59 = .ok (.aload_n 0, 1) := by decide +kernel
theorem dX5_reading_60 : decode cX5_reading 60 = .ok (.getfield 26, 3) := by decide +kernel
theorem dX5_reading_63 : decode cX5_reading 63 = .ok (.getfield 149, 3) := by decide +kernel
theorem dX5_reading_66 : decode cX5_reading 66 = .ok (.iload_n 1, 1) := by decide +kernel
theorem dX5_reading_67 : decode cX5_reading 67 = .ok (.iaload, 1) := by decide +kernel
theorem dX5_reading_68 : decode cX5_reading 68 = .ok (.ixor, 1) := by decide +kernel
theorem dX5_reading_69 : decode cX5_reading 69 = .ok (.invokevirtual 129, 3) := by decide +kernel
theorem dX5_reading_72 : decode cX5_reading 72 = .ok (.ireturn, 1) := by decide +kernel
theorem dX5_fail_0 : decode cX5_fail 0 = .ok (.aload_n 0, 1) := by decide +kernel
theorem dX5_fail_1 : decode cX5_fail 1 = .ok (.getfield 26, 3) := by decide +kernel
theorem dX5_fail_4 : decode cX5_fail 4 = .ok (.iload_n 1, 1) := by decide +kernel
theorem dX5_fail_5 : decode cX5_fail 5 = .ok (.invokevirtual 135, 3) := by decide +kernel
theorem dX5_fail_8 : decode cX5_fail 8 = .ok (.ifCond .eq 13, 3) := by decide +kernel
theorem dX5_fail_11 : decode cX5_fail 11 = .ok (.iload_n 2, 1) := by decide +kernel
theorem dX5_fail_12 : decode cX5_fail 12 = .ok (.ifCond .lt 9, 3) := by decide +kernel
theorem dX5_fail_15 : decode cX5_fail 15 = .ok (.iload_n 2, 1) := by decide +kernel
theorem dX5_fail_16 : decode cX5_fail 16 = .ok (.bipush 40, 2) := by decide +kernel
theorem dX5_fail_18 : decode cX5_fail 18 = .ok (.if_icmp .le 13, 3) := by decide +kernel
theorem dX5_fail_21 : decode cX5_fail 21 = .ok (.new 152, 3) := by decide +kernel
theorem dX5_fail_24 : decode cX5_fail 24 = .ok (.dup, 1) := by decide +kernel
theorem dX5_fail_25 : decode cX5_fail 25 = .ok (.ldc 154, 2) := by decide +kernel
theorem dX5_fail_27 : decode cX5_fail 27 = .ok (.invokespecial 156, 3) := by decide +kernel
theorem dX5_fail_30 : decode cX5_fail 30 = .ok (.athrow, 1) := by decide +kernel
theorem dX5_fail_31 : decode cX5_fail 31 = .ok (.aload_n 0, 1) := by decide +kernel
theorem dX5_fail_32 : decode cX5_fail 32 = .ok (.getfield 26, 3) := by decide +kernel
theorem dX5_fail_35 : decode cX5_fail 35 = .ok (.getfield 145, 3) := by decide +kernel
theorem dX5_fail_38 : decode cX5_fail 38 = .ok (.iload_n 1, 1) := by decide +kernel
theorem dX5_fail_39 : decode cX5_fail 39 = .ok (.baload, 1) := by decide +kernel
theorem dX5_fail_40 : decode cX5_fail 40 = .ok (.ifCond .ne 13, 3) := by decide +kernel
theorem dX5_fail_43 : decode cX5_fail 43 = .ok (.new 159, 3) := by decide +kernel
theorem dX5_fail_46 : decode cX5_fail 46 = .ok (.dup, 1) := by decide +kernel
theorem dX5_fail_47 : decode cX5_fail 47 = .ok (.ldc 161, 2) := by decide +kernel
theorem dX5_fail_49 : decode cX5_fail 49 = .ok (.invokespecial 163, 3) := by decide +kernel
theorem dX5_fail_52 : decode cX5_fail 52 = .ok (.athrow, 1) := by decide +kernel
theorem dX5_fail_53 : decode cX5_fail 53 = .ok (.aload_n 0, 1) := by decide +kernel
theorem dX5_fail_54 : decode cX5_fail 54 = .ok (.getfield 42, 3) := by decide +kernel
theorem dX5_fail_57 : decode cX5_fail 57 = .ok (.aload_n 0, 1) := by decide +kernel
theorem dX5_fail_58 : decode cX5_fail 58 = .ok (.getfield 26, 3) := by decide +kernel
theorem dX5_fail_61 : decode cX5_fail 61 = .ok (.getfield 164, 3) := by decide +kernel
theorem dX5_fail_64 : decode cX5_fail 64 = .ok (.iload_n 1, 1) := by decide +kernel
theorem dX5_fail_65 : decode cX5_fail 65 = .ok (.iaload, 1) := by decide +kernel
theorem dX5_fail_66 : decode cX5_fail 66 = .ok (.iload_n 2, 1) := by decide +kernel
theorem dX5_fail_67 : decode cX5_fail 67 = .ok (.invokevirtual 167, 3) := by decide +kernel
theorem dX5_fail_70 : decode cX5_fail 70 = .ok (.lreturn, 1) := by decide +kernel
theorem dX5_all_0 : decode cX5_all 0 = .ok (.aload_n 0, 1) := by decide +kernel
theorem dX5_all_1 : decode cX5_all 1 = .ok (.getfield 10, 3) := by decide +kernel
theorem dX5_all_4 : decode cX5_all 4 = .ok (.invokevirtual 171, 3) := by decide +kernel
theorem dX5_all_7 : decode cX5_all 7 = .ok (.lreturn, 1) := by decide +kernel
theorem dX5_lasts_0 : decode cX5_lasts 0 = .ok (.aload_n 0, 1) := by decide +kernel
theorem dX5_lasts_1 : decode cX5_lasts 1 = .ok (.getfield 26, 3) := by decide +kernel
theorem dX5_lasts_4 : decode cX5_lasts 4 = .ok (.iload_n 1, 1) := by decide +kernel
theorem dX5_lasts_5 : decode cX5_lasts 5 = .ok (.invokevirtual 135, 3) := by decide +kernel
theorem dX5_lasts_8 : decode cX5_lasts 8 = .ok (.ifCond .ne 9, 3) := by decide +kernel
theorem dX5_lasts_11 : decode cX5_lasts 11 = .ok (.aload_n 0, 1) := by decide +kernel
theorem dX5_lasts_12 : decode cX5_lasts 12 = .ok (.iconst (-1), 1) := by decide +kernel
theorem dX5_lasts_13 : decode cX5_lasts 13 = .ok (.invokevirtual 50, 3) := by decide +kernel
theorem dX5_lasts_16 : decode cX5_lasts 16 = .ok (.ireturn, 1) := by decide +kernel
theorem dX5_lasts_17 : decode cX5_lasts 17 = .ok (.aload_n 0, 1) := by decide +kernel
theorem dX5_lasts_18 : decode cX5_lasts 18 = .ok (.getfield 26, 3) := by decide +kernel
theorem dX5_lasts_21 : decode cX5_lasts 21 = .ok (.getfield 145, 3) := by decide +kernel
theorem dX5_lasts_24 : decode cX5_lasts 24 = .ok (.iload_n 1, 1) := by decide +kernel
theorem dX5_lasts_25 : decode cX5_lasts 25 = .ok (.baload, 1) := by decide +kernel
theorem dX5_lasts_26 : decode cX5_lasts 26 = .ok (.ifCond .ne 10, 3) := by decide +kernel
theorem dX5_lasts_29 : decode cX5_lasts 29 = .ok (.aload_n 0, 1) := by decide +kernel
theorem dX5_lasts_30 : decode cX5_lasts 30 = .ok (.bipush (-3), 2) := by decide +kernel
theorem dX5_lasts_32 : decode cX5_lasts 32 = .ok (.invokevirtual 50, 3) := by decide +kernel
theorem dX5_lasts_35 : decode cX5_lasts 35 = .ok (.ireturn, 1) := by decide +kernel
theorem dX5_lasts_36 : decode cX5_lasts 36 = .ok (.iload_n 2, 1) := by decide +kernel
theorem dX5_lasts_37 : decode cX5_lasts 37 = .ok (.ifCond .ge 10, 3) := by decide +kernel
theorem dX5_lasts_40 : decode cX5_lasts 40 = .ok (.aload_n 0, 1) := by decide +kernel
theorem dX5_lasts_41 : decode cX5_lasts 41 = .ok (.bipush (-4), 2) := by decide +kernel
theorem dX5_lasts_43 : decode cX5_lasts 43 = .ok (.invokevirtual 50, 3) := by decide +kernel
theorem dX5_lasts_46 : decode cX5_lasts 46 = .ok (.ireturn, 1) := by decide +kernel
theorem dX5_lasts_47 : decode cX5_lasts 47 = .ok (.iload_n 2, 1) := by decide +kernel
theorem dX5_lasts_48 : decode cX5_lasts 48 = .ok (.bipush 8, 2) := by decide +kernel
theorem dX5_lasts_50 : decode cX5_lasts 50 = .ok (.if_icmp .le 10, 3) := by decide +kernel
theorem dX5_lasts_53 : decode cX5_lasts 53 = .ok (.aload_n 0, 1) := by decide +kernel
theorem dX5_lasts_54 : decode cX5_lasts 54 = .ok (.bipush (-6), 2) := by decide +kernel
theorem dX5_lasts_56 : decode cX5_lasts 56 = .ok (.invokevirtual 50, 3) := by decide +kernel
theorem dX5_lasts_59 : decode cX5_lasts 59 = .ok (.ireturn, 1) := by decide +kernel
theorem dX5_lasts_60 : decode cX5_lasts 60 = .ok (.aload_n 0, 1) := by decide +kernel
theorem dX5_lasts_61 : decode cX5_lasts 61 = .ok (.iload_n 2, 1) := by decide +kernel
theorem dX5_lasts_62 : decode cX5_lasts 62 = .ok (.aload_n 0, 1) := by decide +kernel
theorem dX5_lasts_63 : decode cX5_lasts 63 = .ok (.getfield 26, 3) := by decide +kernel
theorem dX5_lasts_66 : decode cX5_lasts 66 = .ok (.getfield 164, 3) := by decide +kernel
theorem dX5_lasts_69 : decode cX5_lasts 69 = .ok (.iload_n 1, 1) := by decide +kernel
theorem dX5_lasts_70 : decode cX5_lasts 70 = .ok (.iaload, 1) := by decide +kernel
theorem dX5_lasts_71 : decode cX5_lasts 71 = .ok (.invokevirtual 175, 3) := by decide +kernel
theorem dX5_lasts_74 : decode cX5_lasts 74 = .ok (.ireturn, 1) := by decide +kernel
theorem dX5_guess_0 : decode cX5_guess 0 = .ok (.aload_n 0, 1) := by decide +kernel
theorem dX5_guess_1 : decode cX5_guess 1 = .ok (.getfield 10, 3) := by decide +kernel
theorem dX5_guess_4 : decode cX5_guess 4 = .ok (.iload_n 1, 1) := by decide +kernel
theorem dX5_guess_5 : decode cX5_guess 5 = .ok (.invokevirtual 67, 3) := by decide +kernel
theorem dX5_guess_8 : decode cX5_guess 8 = .ok (.ifCond .eq 11, 3) := by decide +kernel
theorem dX5_guess_11 : decode cX5_guess 11 = .ok (.aload_n 0, 1) := by decide +kernel
theorem dX5_guess_12 : decode cX5_guess 12 = .ok (.iload_n 1, 1) := by decide +kernel
theorem dX5_guess_13 : decode cX5_guess 13 = .ok (.invokevirtual 178, 3) := by decide +kernel
theorem dX5_guess_16 : decode cX5_guess 16 = .ok (.goto 8, 3) := by decide +kernel
theorem dX5_guess_19 : decode cX5_guess 19 = .ok (.aload_n 0, 1) := by decide +kernel
theorem dX5_guess_20 : decode cX5_guess 20 = .ok (.iconst (-1), 1) := by decide +kernel
theorem dX5_guess_21 : decode cX5_guess 21 = .ok (.invokevirtual 50, 3) := by decide +kernel
theorem dX5_guess_24 : decode cX5_guess 24 = .ok (.ireturn, 1) := by decide +kernel
theorem dX5_weight_0 : decode cX5_weight 0 = .ok (.aload_n 0, 1) := by decide +kernel
theorem dX5_weight_1 : decode cX5_weight 1 = .ok (.getfield 10, 3) := by decide +kernel
theorem dX5_weight_4 : decode cX5_weight 4 = .ok (.iload_n 1, 1) := by decide +kernel
theorem dX5_weight_5 : decode cX5_weight 5 = .ok (.invokevirtual 67, 3) := by decide +kernel
theorem dX5_weight_8 : decode cX5_weight 8 = .ok (.ifCond .ne 13, 3) := by decide +kernel
theorem dX5_weight_11 : decode cX5_weight 11 = .ok (.new 152, 3) := by decide +kernel
theorem dX5_weight_14 : decode cX5_weight 14 = .ok (.dup, 1) := by decide +kernel
theorem dX5_weight_15 : decode cX5_weight 15 = .ok (.ldc 181, 2) := by decide +kernel
theorem dX5_weight_17 : decode cX5_weight 17 = .ok (.invokespecial 156, 3) := by decide +kernel
theorem dX5_weight_20 : decode cX5_weight 20 = .ok (.athrow, 1) := by decide +kernel
theorem dX5_weight_21 : decode cX5_weight 21 = .ok (.iload_n 2, 1) := by decide +kernel
theorem dX5_weight_22 : decode cX5_weight 22 = .ok (.ifCond .eq 11, 3) := by decide +kernel
theorem dX5_weight_25 : decode cX5_weight 25 = .ok (.aload_n 0, 1) := by decide +kernel
theorem dX5_weight_26 : decode cX5_weight 26 = .ok (.iload_n 1, 1) := by decide +kernel
theorem dX5_weight_27 : decode cX5_weight 27 = .ok (.invokevirtual 183, 3) := by decide +kernel
theorem dX5_weight_30 : decode cX5_weight 30 = .ok (.goto 13, 3) := by decide +kernel
theorem dX5_weight_33 : decode cX5_weight 33 = .ok (.aload_n 0, 1) := by decide +kernel
theorem dX5_weight_34 : decode cX5_weight 34 = .ok (.aload_n 0, 1) := by decide +kernel
theorem dX5_weight_35 : decode cX5_weight 35 = .ok (.iload_n 1, 1) := by decide +kernel
theorem dX5_weight_36 : decode cX5_weight 36 = .ok (.invokevirtual 178, 3) := by decide +kernel
theorem dX5_weight_39 : decode cX5_weight 39 = .ok (.iload_n 1, 1) := by decide +kernel
theorem dX5_weight_40 : decode cX5_weight 40 = .ok (.invokevirtual 187, 3) := by decide +kernel
theorem dX5_weight_43 : decode cX5_weight 43 = .ok (.lreturn, 1) := by decide +kernel
theorem dX5_leak_0 : decode cX5_leak 0 = .ok (.aload_n 0, 1) := by decide +kernel
theorem dX5_leak_1 : decode cX5_leak 1 = .ok (.getfield 10, 3) := by decide +kernel
theorem dX5_leak_4 : decode cX5_leak 4 = .ok (.invokevirtual 190, 3) := by decide +kernel
theorem dX5_leak_7 : decode cX5_leak 7 = .ok (.aload_n 0, 1) := by decide +kernel
theorem dX5_leak_8 : decode cX5_leak 8 = .ok (.getfield 19, 3) := by decide +kernel
theorem dX5_leak_11 : decode cX5_leak 11 = .ok (.getfield 110, 3) := by decide +kernel
theorem dX5_leak_14 : decode cX5_leak 14 = .ok (.isub, 1) := by decide +kernel
theorem dX5_leak_15 : decode cX5_leak 15 = .ok (.ireturn, 1) := by decide +kernel
theorem dX5_even_0 : decode cX5_even 0 = .ok (.aload_n 0, 1) := by decide +kernel
theorem dX5_even_1 : decode cX5_even 1 = .ok (.getfield 10, 3) := by decide +kernel
theorem dX5_even_4 : decode cX5_even 4 = .ok (.iload_n 1, 1) := by decide +kernel
theorem dX5_even_5 : decode cX5_even 5 = .ok (.invokevirtual 67, 3) := by decide +kernel
theorem dX5_even_8 : decode cX5_even 8 = .ok (.ifCond .ne 9, 3) := by decide +kernel
theorem dX5_even_11 : decode cX5_even 11 = .ok (.aload_n 0, 1) := by decide +kernel
theorem dX5_even_12 : decode cX5_even 12 = .ok (.iconst (-1), 1) := by decide +kernel
theorem dX5_even_13 : decode cX5_even 13 = .ok (.invokevirtual 50, 3) := by decide +kernel
theorem dX5_even_16 : decode cX5_even 16 = .ok (.ireturn, 1) := by decide +kernel
theorem dX5_even_17 : decode cX5_even 17 = .ok (.iload_n 2, 1) := by decide +kernel
theorem dX5_even_18 : decode cX5_even 18 = .ok (.ifCond .eq 15, 3) := by decide +kernel
theorem dX5_even_21 : decode cX5_even 21 = .ok (.iload_n 2, 1) := by decide +kernel
theorem dX5_even_22 : decode cX5_even 22 = .ok (.iconst 1, 1) := by decide +kernel
theorem dX5_even_23 : decode cX5_even 23 = .ok (.if_icmp .eq 10, 3) := by decide +kernel
theorem dX5_even_26 : decode cX5_even 26 = .ok (.aload_n 0, 1) := by decide +kernel
theorem dX5_even_27 : decode cX5_even 27 = .ok (.bipush (-2), 2) := by decide +kernel
theorem dX5_even_29 : decode cX5_even 29 = .ok (.invokevirtual 50, 3) := by decide +kernel
theorem dX5_even_32 : decode cX5_even 32 = .ok (.ireturn, 1) := by decide +kernel
theorem dX5_even_33 : decode cX5_even 33 = .ok (.aload_n 0, 1) := by decide +kernel
theorem dX5_even_34 : decode cX5_even 34 = .ok (.getfield 10, 3) := by decide +kernel
theorem dX5_even_37 : decode cX5_even 37 = .ok (.iload_n 1, 1) := by decide +kernel
theorem dX5_even_38 : decode cX5_even 38 = .ok (.invokevirtual 193, 3) := by decide +kernel
theorem dX5_even_41 : decode cX5_even 41 = .ok (.istore_n 3, 1) := by decide +kernel
theorem dX5_even_42 : decode cX5_even 42 = .ok (.iload_n 3, 1) := by decide +kernel
theorem dX5_even_43 : decode cX5_even 43 = .ok (.invokestatic 196, 3) := by decide +kernel
theorem dX5_even_46 : decode cX5_even 46 = .ok (.istore 4, 2) := by decide +kernel
theorem dX5_even_48 : decode cX5_even 48 = .ok (.iload_n 2, 1) := by decide +kernel
theorem dX5_even_49 : decode cX5_even 49 = .ok (.ifCond .ne 11, 3) := by decide +kernel
theorem dX5_even_52 : decode cX5_even 52 = .ok (.iload 4, 2) := by decide +kernel
theorem dX5_even_54 : decode cX5_even 54 = .ok (.invokestatic 201, 3) := by decide +kernel
theorem dX5_even_57 : decode cX5_even 57 = .ok (.goto 7, 3) := by decide +kernel
theorem dX5_even_60 : decode cX5_even 60 = .ok (.iload_n 3, 1) := by decide +kernel
theorem dX5_even_61 : decode cX5_even 61 = .ok (.iload 4, 2) := by decide +kernel
theorem dX5_even_63 : decode cX5_even 63 = .ok (.isub, 1) := by decide +kernel
theorem dX5_even_64 : decode cX5_even 64 = .ok (.ireturn, 1) := by decide +kernel
theorem dX5_expected_0 : decode cX5_expected 0 = .ok (.aload_n 0, 1) := by decide +kernel
theorem dX5_expected_1 : decode cX5_expected 1 = .ok (.getfield 10, 3) := by decide +kernel
theorem dX5_expected_4 : decode cX5_expected 4 = .ok (.invokevirtual 204, 3) := by decide +kernel
theorem dX5_expected_7 : decode cX5_expected 7 = .ok (.ireturn, 1) := by decide +kernel
theorem dX5_pair_0 : decode cX5_pair 0 = .ok (.iload_n 1, 1) := by decide +kernel
theorem dX5_pair_1 : decode cX5_pair 1 = .ok (.invokestatic 207, 3) := by decide +kernel
theorem dX5_pair_4 : decode cX5_pair 4 = .ok (.ifCond .eq 10, 3) := by decide +kernel
theorem dX5_pair_7 : decode cX5_pair 7 = .ok (.iload_n 2, 1) := by decide +kernel
theorem dX5_pair_8 : decode cX5_pair 8 = .ok (.invokestatic 210, 3) := by decide +kernel
theorem dX5_pair_11 : decode cX5_pair 11 = .ok (.ifCond .ne 9, 3) := by decide +kernel
theorem dX5_pair_14 : decode cX5_pair 14 = .ok (.aload_n 0, 1) := by decide +kernel
theorem dX5_pair_15 : decode cX5_pair 15 = .ok (.iconst (-1), 1) := by decide +kernel
theorem dX5_pair_16 : decode cX5_pair 16 = .ok (.invokevirtual 50, 3) := by decide +kernel
theorem dX5_pair_19 : decode cX5_pair 19 = .ok (.ireturn, 1) := by decide +kernel
theorem dX5_pair_20 : decode cX5_pair 20 = .ok (.aload_n 0, 1) := by decide +kernel
theorem dX5_pair_21 : decode cX5_pair 21 = .ok (.getfield 33, 3) := by decide +kernel
theorem dX5_pair_24 : decode cX5_pair 24 = .ok (.getfield 213, 3) := by decide +kernel
theorem dX5_pair_27 : decode cX5_pair 27 = .ok (.iload_n 1, 1) := by decide +kernel
theorem dX5_pair_28 : decode cX5_pair 28 = .ok (.baload, 1) := by decide +kernel
theorem dX5_pair_29 : decode cX5_pair 29 = .ok (.ifCond .eq 23, 3) := by decide +kernel
theorem dX5_pair_32 : decode cX5_pair 32 = .ok (.aload_n 0, 1) := by decide +kernel
theorem dX5_pair_33 : decode cX5_pair 33 = .ok (.getfield 33, 3) := by decide +kernel
theorem dX5_pair_36 : decode cX5_pair 36 = .ok (.getfield 216, 3) := by decide +kernel
theorem dX5_pair_39 : decode cX5_pair 39 = .ok (.iload_n 1, 1) := by decide +kernel
theorem dX5_pair_40 : decode cX5_pair 40 = .ok (.iaload, 1) := by decide +kernel
theorem dX5_pair_41 : decode cX5_pair 41 = .ok (.iload_n 2, 1) := by decide +kernel
theorem dX5_pair_42 : decode cX5_pair 42 = .ok (.if_icmp .eq 10, 3) := by decide +kernel
theorem dX5_pair_45 : decode cX5_pair 45 = .ok (.aload_n 0, 1) := by decide +kernel
theorem dX5_pair_46 : decode cX5_pair 46 = .ok (.bipush (-3), 2) := by decide +kernel
theorem dX5_pair_48 : decode cX5_pair 48 = .ok (.invokevirtual 50, 3) := by decide +kernel
theorem dX5_pair_51 : decode cX5_pair 51 = .ok (.ireturn, 1) := by decide +kernel
theorem dX5_pair_52 : decode cX5_pair 52 = .ok (.aload_n 0, 1) := by decide +kernel
theorem dX5_pair_53 : decode cX5_pair 53 = .ok (.getfield 33, 3) := by decide +kernel
theorem dX5_pair_56 : decode cX5_pair 56 = .ok (.iload_n 1, 1) := by decide +kernel
theorem dX5_pair_57 : decode cX5_pair 57 = .ok (.iload_n 2, 1) := by decide +kernel
theorem dX5_pair_58 : decode cX5_pair 58 = .ok (.invokevirtual 219, 3) := by decide +kernel
theorem dX5_pair_61 : decode cX5_pair 61 = .ok (.aload_n 0, 1) := by decide +kernel
theorem dX5_pair_62 : decode cX5_pair 62 = .ok (.getfield 33, 3) := by decide +kernel
theorem dX5_pair_65 : decode cX5_pair 65 = .ok (.getfield 223, 3) := by decide +kernel
theorem dX5_pair_68 : decode cX5_pair 68 = .ok (.ireturn, 1) := by decide +kernel
theorem dX5_planes_0 : decode cX5_planes 0 = .ok (.aload_n 0, 1) := by decide +kernel
theorem dX5_planes_1 : decode cX5_planes 1 = .ok (.getfield 33, 3) := by decide +kernel
theorem dX5_planes_4 : decode cX5_planes 4 = .ok (.invokevirtual 224, 3) := by decide +kernel
theorem dX5_planes_7 : decode cX5_planes 7 = .ok (.aload_n 0, 1) := by decide +kernel
theorem dX5_planes_8 : decode cX5_planes 8 = .ok (.getfield 33, 3) := by decide +kernel
theorem dX5_planes_11 : decode cX5_planes 11 = .ok (.getfield 227, 3) := by decide +kernel
theorem dX5_planes_14 : decode cX5_planes 14 = .ok (.ireturn, 1) := by decide +kernel
theorem dX5_plane_0 : decode cX5_plane 0 = .ok (.iload_n 1, 1) := by decide +kernel
theorem dX5_plane_1 : decode cX5_plane 1 = .ok (.ifCond .lt 8, 3) := by decide +kernel
theorem dX5_plane_4 : decode cX5_plane 4 = .ok (.iload_n 1, 1) := by decide +kernel
theorem dX5_plane_5 : decode cX5_plane 5 = .ok (.iconst 5, 1) := by decide +kernel
theorem dX5_plane_6 : decode cX5_plane 6 = .ok (.if_icmp .lt 10, 3) := by decide +kernel
theorem dX5_plane_9 : decode cX5_plane 9 = .ok (.aload_n 0, 1) := by decide +kernel
theorem dX5_plane_10 : decode cX5_plane 10 = .ok (.bipush (-2), 2) := by decide +kernel
theorem dX5_plane_12 : decode cX5_plane 12 = .ok (.invokevirtual 50, 3) := by decide +kernel
theorem dX5_plane_15 : decode cX5_plane 15 = .ok (.ireturn, 1) := by decide +kernel
theorem dX5_plane_16 : decode cX5_plane 16 = .ok (.aload_n 0, 1) := by decide +kernel
theorem dX5_plane_17 : decode cX5_plane 17 = .ok (.getfield 33, 3) := by decide +kernel
theorem dX5_plane_20 : decode cX5_plane 20 = .ok (.invokevirtual 224, 3) := by decide +kernel
theorem dX5_plane_23 : decode cX5_plane 23 = .ok (.aload_n 0, 1) := by decide +kernel
theorem dX5_plane_24 : decode cX5_plane 24 = .ok (.getfield 33, 3) := by decide +kernel
theorem dX5_plane_27 : decode cX5_plane 27 = .ok (.getfield 227, 3) := by decide +kernel
theorem dX5_plane_30 : decode cX5_plane 30 = .ok (.ifCond .ne 8, 3) := by decide +kernel
theorem dX5_plane_33 : decode cX5_plane 33 = .ok (.bipush (-9), 2) := by decide +kernel
theorem dX5_plane_35 : decode cX5_plane 35 = .ok (.goto 15, 3) := by decide +kernel
theorem dX5_plane_38 : decode cX5_plane 38 = .ok (.aload_n 0, 1) := by decide +kernel
theorem dX5_plane_39 : decode cX5_plane 39 = .ok (.getfield 33, 3) := by decide +kernel
theorem dX5_plane_42 : decode cX5_plane 42 = .ok (.getfield 230, 3) := by decide +kernel
theorem dX5_plane_45 : decode cX5_plane 45 = .ok (.iload_n 1, 1) := by decide +kernel
theorem dX5_plane_46 : decode cX5_plane 46 = .ok (.iaload, 1) := by decide +kernel
theorem dX5_plane_47 : decode cX5_plane 47 = .ok (.bipush 10, 2) := by decide +kernel
theorem dX5_plane_49 : decode cX5_plane 49 = .ok (.iadd, 1) := by decide +kernel
theorem dX5_plane_50 : decode cX5_plane 50 = .ok (.ireturn, 1) := by decide +kernel
theorem dX5_foretold_0 : decode cX5_foretold 0 = .ok (.iload_n 1, 1) := by decide +kernel
theorem dX5_foretold_1 : decode cX5_foretold 1 = .ok (.invokestatic 207, 3) := by decide +kernel
theorem dX5_foretold_4 : decode cX5_foretold 4 = .ok (.ifCond .eq 14, 3) := by decide +kernel
theorem dX5_foretold_7 : decode cX5_foretold 7 = .ok (.aload_n 0, 1) := by decide +kernel
theorem dX5_foretold_8 : decode cX5_foretold 8 = .ok (.getfield 33, 3) := by decide +kernel
theorem dX5_foretold_11 : decode cX5_foretold 11 = .ok (.iload_n 1, 1) := by decide +kernel
theorem dX5_foretold_12 : decode cX5_foretold 12 = .ok (.invokevirtual 233, 3) := by decide +kernel
theorem dX5_foretold_15 : decode cX5_foretold 15 = .ok (.goto 8, 3) := by decide +kernel
theorem dX5_foretold_18 : decode cX5_foretold 18 = .ok (.aload_n 0, 1) := by decide +kernel
theorem dX5_foretold_19 : decode cX5_foretold 19 = .ok (.iconst (-1), 1) := by decide +kernel
theorem dX5_foretold_20 : decode cX5_foretold 20 = .ok (.invokevirtual 50, 3) := by decide +kernel
theorem dX5_foretold_23 : decode cX5_foretold 23 = .ok (.ireturn, 1) := by decide +kernel
theorem dX5_next_0 : decode cX5_next 0 = .ok (.aload_n 0, 1) := by decide +kernel
theorem dX5_next_1 : decode cX5_next 1 = .ok (.getfield 33, 3) := by decide +kernel
theorem dX5_next_4 : decode cX5_next 4 = .ok (.invokevirtual 236, 3) := by decide +kernel
theorem dX5_next_7 : decode cX5_next 7 = .ok (.istore_n 1, 1) := by decide +kernel
theorem dX5_next_8 : decode cX5_next 8 = .ok (.iload_n 1, 1) := by decide +kernel
theorem dX5_next_9 : decode cX5_next 9 = .ok (.ifCond .ge 8, 3) := by decide +kernel
theorem dX5_next_12 : decode cX5_next 12 = .ok (.bipush (-9), 2) := by decide +kernel
theorem dX5_next_14 : decode cX5_next 14 = .ok (.goto 4, 3) := by decide +kernel
theorem dX5_next_17 : decode cX5_next 17 = .ok (.iload_n 1, 1) := by decide +kernel
theorem dX5_next_18 : decode cX5_next 18 = .ok (.ireturn, 1) := by decide +kernel
theorem dX5_check_0 : decode cX5_check 0 = .ok (.iload_n 1, 1) := by decide +kernel
theorem dX5_check_1 : decode cX5_check 1 = .ok (.invokestatic 207, 3) := by decide +kernel
theorem dX5_check_4 : decode cX5_check 4 = .ok (.ifCond .eq 10, 3) := by decide +kernel
theorem dX5_check_7 : decode cX5_check 7 = .ok (.iload_n 2, 1) := by decide +kernel
theorem dX5_check_8 : decode cX5_check 8 = .ok (.invokestatic 210, 3) := by decide +kernel
theorem dX5_check_11 : decode cX5_check 11 = .ok (.ifCond .ne 9, 3) := by decide +kernel
theorem dX5_check_14 : decode cX5_check 14 = .ok (.aload_n 0, 1) := by decide +kernel
theorem dX5_check_15 : decode cX5_check 15 = .ok (.iconst (-1), 1) := by decide +kernel
theorem dX5_check_16 : decode cX5_check 16 = .ok (.invokevirtual 50, 3) := by decide +kernel
theorem dX5_check_19 : decode cX5_check 19 = .ok (.ireturn, 1) := by decide +kernel
theorem dX5_check_20 : decode cX5_check 20 = .ok (.aload_n 0, 1) := by decide +kernel
theorem dX5_check_21 : decode cX5_check 21 = .ok (.getfield 33, 3) := by decide +kernel
theorem dX5_check_24 : decode cX5_check 24 = .ok (.getfield 213, 3) := by decide +kernel
theorem dX5_check_27 : decode cX5_check 27 = .ok (.iload_n 1, 1) := by decide +kernel
theorem dX5_check_28 : decode cX5_check 28 = .ok (.baload, 1) := by decide +kernel
theorem dX5_check_29 : decode cX5_check 29 = .ok (.ifCond .eq 15, 3) := by decide +kernel
theorem dX5_check_32 : decode cX5_check 32 = .ok (.aload_n 0, 1) := by decide +kernel
theorem dX5_check_33 : decode cX5_check 33 = .ok (.getfield 33, 3) := by decide +kernel
theorem dX5_check_36 : decode cX5_check 36 = .ok (.getfield 239, 3) := by decide +kernel
theorem dX5_check_39 : decode cX5_check 39 = .ok (.iload_n 1, 1) := by decide +kernel
theorem dX5_check_40 : decode cX5_check 40 = .ok (.baload, 1) := by decide +kernel
theorem dX5_check_41 : decode cX5_check 41 = .ok (.ifCond .eq 10, 3) := by decide +kernel
theorem dX5_check_44 : decode cX5_check 44 = .ok (.aload_n 0, 1) := by decide +kernel
theorem dX5_check_45 : decode cX5_check 45 = .ok (.bipush (-3), 2) := by decide +kernel
theorem dX5_check_47 : decode cX5_check 47 = .ok (.invokevirtual 50, 3) := by decide +kernel
theorem dX5_check_50 : decode cX5_check 50 = .ok (.ireturn, 1) := by decide +kernel
theorem dX5_check_51 : decode cX5_check 51 = .ok (.aload_n 0, 1) := by decide +kernel
theorem dX5_check_52 : decode cX5_check 52 = .ok (.getfield 33, 3) := by decide +kernel
theorem dX5_check_55 : decode cX5_check 55 = .ok (.getfield 239, 3) := by decide +kernel
theorem dX5_check_58 : decode cX5_check 58 = .ok (.iload_n 1, 1) := by decide +kernel
theorem dX5_check_59 : decode cX5_check 59 = .ok (.iconst 1, 1) := by decide +kernel
theorem dX5_check_60 : decode cX5_check 60 = .ok (.bastore, 1) := by decide +kernel
theorem dX5_check_61 : decode cX5_check 61 = .ok (.aload_n 0, 1) := by decide +kernel
theorem dX5_check_62 : decode cX5_check 62 = .ok (.getfield 33, 3) := by decide +kernel
theorem dX5_check_65 : decode cX5_check 65 = .ok (.getfield 216, 3) := by decide +kernel
theorem dX5_check_68 : decode cX5_check 68 = .ok (.iload_n 1, 1) := by decide +kernel
theorem dX5_check_69 : decode cX5_check 69 = .ok (.iaload, 1) := by decide +kernel
theorem dX5_check_70 : decode cX5_check 70 = .ok (.iload_n 2, 1) := by decide +kernel
theorem dX5_check_71 : decode cX5_check 71 = .ok (.if_icmp .ne 7, 3) := by decide +kernel
theorem dX5_check_74 : decode cX5_check 74 = .ok (.iconst 1, 1) := by decide +kernel
theorem dX5_check_75 : decode cX5_check 75 = .ok (.goto 4, 3) := by decide +kernel
theorem dX5_check_78 : decode cX5_check 78 = .ok (.iconst 0, 1) := by decide +kernel
theorem dX5_check_79 : decode cX5_check 79 = .ok (.ireturn, 1) := by decide +kernel
theorem dX5_whose_0 : decode cX5_whose 0 = .ok (.aload_n 0, 1) := by decide +kernel
theorem dX5_whose_1 : decode cX5_whose 1 = .ok (.getfield 10, 3) := by decide +kernel
theorem dX5_whose_4 : decode cX5_whose 4 = .ok (.iload_n 1, 1) := by decide +kernel
theorem dX5_whose_5 : decode cX5_whose 5 = .ok (.invokevirtual 67, 3) := by decide +kernel
theorem dX5_whose_8 : decode cX5_whose 8 = .ok (.ifCond .ne 9, 3) := by decide +kernel
theorem dX5_whose_11 : decode cX5_whose 11 = .ok (.aload_n 0, 1) := by decide +kernel
theorem dX5_whose_12 : decode cX5_whose 12 = .ok (.iconst (-1), 1) := by decide +kernel
theorem dX5_whose_13 : decode cX5_whose 13 = .ok (.invokevirtual 50, 3) := by decide +kernel
theorem dX5_whose_16 : decode cX5_whose 16 = .ok (.ireturn, 1) := by decide +kernel
theorem dX5_whose_17 : decode cX5_whose 17 = .ok (.aload_n 0, 1) := by decide +kernel
theorem dX5_whose_18 : decode cX5_whose 18 = .ok (.getfield 26, 3) := by decide +kernel
theorem dX5_whose_21 : decode cX5_whose 21 = .ok (.iload_n 1, 1) := by decide +kernel
theorem dX5_whose_22 : decode cX5_whose 22 = .ok (.aload_n 0, 1) := by decide +kernel
theorem dX5_whose_23 : decode cX5_whose 23 = .ok (.getfield 10, 3) := by decide +kernel
theorem dX5_whose_26 : decode cX5_whose 26 = .ok (.invokevirtual 242, 3) := by decide +kernel
theorem dX5_whose_29 : decode cX5_whose 29 = .ok (.invokevirtual 245, 3) := by decide +kernel
theorem dX5_whose_32 : decode cX5_whose 32 = .ok (.istore_n 2, 1) := by decide +kernel
theorem dX5_whose_33 : decode cX5_whose 33 = .ok (.iload_n 2, 1) := by decide +kernel
theorem dX5_whose_34 : decode cX5_whose 34 = .ok (.ifCond .ge 8, 3) := by decide +kernel
theorem dX5_whose_37 : decode cX5_whose 37 = .ok (.bipush (-9), 2) := by decide +kernel
theorem dX5_whose_39 : decode cX5_whose 39 = .ok (.goto 4, 3) := by decide +kernel
theorem dX5_whose_42 : decode cX5_whose 42 = .ok (.iload_n 2, 1) := by decide +kernel
theorem dX5_whose_43 : decode cX5_whose 43 = .ok (.ireturn, 1) := by decide +kernel
theorem dX5_sure_0 : decode cX5_sure 0 = .ok (.aload_n 0, 1) := by decide +kernel
theorem dX5_sure_1 : decode cX5_sure 1 = .ok (.getfield 10, 3) := by decide +kernel
theorem dX5_sure_4 : decode cX5_sure 4 = .ok (.iload_n 1, 1) := by decide +kernel
theorem dX5_sure_5 : decode cX5_sure 5 = .ok (.invokevirtual 67, 3) := by decide +kernel
theorem dX5_sure_8 : decode cX5_sure 8 = .ok (.ifCond .ne 9, 3) := by decide +kernel
theorem dX5_sure_11 : decode cX5_sure 11 = .ok (.aload_n 0, 1) := by decide +kernel
theorem dX5_sure_12 : decode cX5_sure 12 = .ok (.iconst (-1), 1) := by decide +kernel
theorem dX5_sure_13 : decode cX5_sure 13 = .ok (.invokevirtual 50, 3) := by decide +kernel
theorem dX5_sure_16 : decode cX5_sure 16 = .ok (.ireturn, 1) := by decide +kernel
theorem dX5_sure_17 : decode cX5_sure 17 = .ok (.aload_n 0, 1) := by decide +kernel
theorem dX5_sure_18 : decode cX5_sure 18 = .ok (.getfield 26, 3) := by decide +kernel
theorem dX5_sure_21 : decode cX5_sure 21 = .ok (.iload_n 1, 1) := by decide +kernel
theorem dX5_sure_22 : decode cX5_sure 22 = .ok (.aload_n 0, 1) := by decide +kernel
theorem dX5_sure_23 : decode cX5_sure 23 = .ok (.getfield 10, 3) := by decide +kernel
theorem dX5_sure_26 : decode cX5_sure 26 = .ok (.invokevirtual 242, 3) := by decide +kernel
theorem dX5_sure_29 : decode cX5_sure 29 = .ok (.invokevirtual 248, 3) := by decide +kernel
theorem dX5_sure_32 : decode cX5_sure 32 = .ok (.ifCond .eq 7, 3) := by decide +kernel
theorem dX5_sure_35 : decode cX5_sure 35 = .ok (.iconst 1, 1) := by decide +kernel
theorem dX5_sure_36 : decode cX5_sure 36 = .ok (.goto 4, 3) := by decide +kernel
theorem dX5_sure_39 : decode cX5_sure 39 = .ok (.iconst 0, 1) := by decide +kernel
theorem dX5_sure_40 : decode cX5_sure 40 = .ok (.ireturn, 1) := by decide +kernel
theorem dX5_apart_0 : decode cX5_apart 0 = .ok (.aload_n 0, 1) := by decide +kernel
theorem dX5_apart_1 : decode cX5_apart 1 = .ok (.getfield 26, 3) := by decide +kernel
theorem dX5_apart_4 : decode cX5_apart 4 = .ok (.getfield 71, 3) := by decide +kernel
theorem dX5_apart_7 : decode cX5_apart 7 = .ok (.iconst 2, 1) := by decide +kernel
theorem dX5_apart_8 : decode cX5_apart 8 = .ok (.if_icmp .ge 8, 3) := by decide +kernel
theorem dX5_apart_11 : decode cX5_apart 11 = .ok (.bipush (-9), 2) := by decide +kernel
theorem dX5_apart_13 : decode cX5_apart 13 = .ok (.goto 17, 3) := by decide +kernel
theorem dX5_apart_16 : decode cX5_apart 16 = .ok (.aload_n 0, 1) := by decide +kernel
theorem dX5_apart_17 : decode cX5_apart 17 = .ok (.getfield 26, 3) := by decide +kernel
theorem dX5_apart_20 : decode cX5_apart 20 = .ok (.aload_n 0, 1) := by decide +kernel
theorem dX5_apart_21 : decode cX5_apart 21 = .ok (.getfield 10, 3) := by decide +kernel
theorem dX5_apart_24 : decode cX5_apart 24 = .ok (.invokevirtual 242, 3) := by decide +kernel
theorem dX5_apart_27 : decode cX5_apart 27 = .ok (.invokevirtual 252, 3) := by decide +kernel
theorem dX5_apart_30 : decode cX5_apart 30 = .ok (.ireturn, 1) := by decide +kernel
theorem dX5_odd_0 : decode cX5_odd 0 = .ok (.aload_n 0, 1) := by decide +kernel
theorem dX5_odd_1 : decode cX5_odd 1 = .ok (.getfield 10, 3) := by decide +kernel
theorem dX5_odd_4 : decode cX5_odd 4 = .ok (.iload_n 1, 1) := by decide +kernel
theorem dX5_odd_5 : decode cX5_odd 5 = .ok (.invokevirtual 87, 3) := by decide +kernel
theorem dX5_odd_8 : decode cX5_odd 8 = .ok (.ifCond .eq 14, 3) := by decide +kernel
theorem dX5_odd_11 : decode cX5_odd 11 = .ok (.aload_n 0, 1) := by decide +kernel
theorem dX5_odd_12 : decode cX5_odd 12 = .ok (.getfield 26, 3) := by decide +kernel
theorem dX5_odd_15 : decode cX5_odd 15 = .ok (.iload_n 1, 1) := by decide +kernel
theorem dX5_odd_16 : decode cX5_odd 16 = .ok (.invokevirtual 255, 3) := by decide +kernel
theorem dX5_odd_19 : decode cX5_odd 19 = .ok (.goto 8, 3) := by decide +kernel
theorem dX5_odd_22 : decode cX5_odd 22 = .ok (.aload_n 0, 1) := by decide +kernel
theorem dX5_odd_23 : decode cX5_odd 23 = .ok (.iconst (-1), 1) := by decide +kernel
theorem dX5_odd_24 : decode cX5_odd 24 = .ok (.invokevirtual 50, 3) := by decide +kernel
theorem dX5_odd_27 : decode cX5_odd 27 = .ok (.ireturn, 1) := by decide +kernel
theorem dX5_count_0 : decode cX5_count 0 = .ok (.iload_n 1, 1) := by decide +kernel
theorem dX5_count_1 : decode cX5_count 1 = .ok (.tableswitch 111 0 7 #[47, 55, 63, 71, 79, 87, 95, 103], 47) := by decide +kernel
theorem dX5_count_48 : decode cX5_count 48 = .ok (.aload_n 0, 1) := by decide +kernel
theorem dX5_count_49 : decode cX5_count 49 = .ok (.getfield 10, 3) := by decide +kernel
theorem dX5_count_52 : decode cX5_count 52 = .ok (.getfield 54, 3) := by decide +kernel
theorem dX5_count_55 : decode cX5_count 55 = .ok (.ireturn, 1) := by decide +kernel
theorem dX5_count_56 : decode cX5_count 56 = .ok (.aload_n 0, 1) := by decide +kernel
theorem dX5_count_57 : decode cX5_count 57 = .ok (.getfield 26, 3) := by decide +kernel
theorem dX5_count_60 : decode cX5_count 60 = .ok (.getfield 71, 3) := by decide +kernel
theorem dX5_count_63 : decode cX5_count 63 = .ok (.ireturn, 1) := by decide +kernel
theorem dX5_count_64 : decode cX5_count 64 = .ok (.aload_n 0, 1) := by decide +kernel
theorem dX5_count_65 : decode cX5_count 65 = .ok (.getfield 19, 3) := by decide +kernel
theorem dX5_count_68 : decode cX5_count 68 = .ok (.getfield 110, 3) := by decide +kernel
theorem dX5_count_71 : decode cX5_count 71 = .ok (.ireturn, 1) := by decide +kernel
theorem dX5_count_72 : decode cX5_count 72 = .ok (.aload_n 0, 1) := by decide +kernel
theorem dX5_count_73 : decode cX5_count 73 = .ok (.getfield 10, 3) := by decide +kernel
theorem dX5_count_76 : decode cX5_count 76 = .ok (.invokevirtual 190, 3) := by decide +kernel
theorem dX5_count_79 : decode cX5_count 79 = .ok (.ireturn, 1) := by decide +kernel
theorem dX5_count_80 : decode cX5_count 80 = .ok (.aload_n 0, 1) := by decide +kernel
theorem dX5_count_81 : decode cX5_count 81 = .ok (.getfield 10, 3) := by decide +kernel
theorem dX5_count_84 : decode cX5_count 84 = .ok (.getfield 58, 3) := by decide +kernel
theorem dX5_count_87 : decode cX5_count 87 = .ok (.ireturn, 1) := by decide +kernel
theorem dX5_count_88 : decode cX5_count 88 = .ok (.aload_n 0, 1) := by decide +kernel
theorem dX5_count_89 : decode cX5_count 89 = .ok (.getfield 26, 3) := by decide +kernel
theorem dX5_count_92 : decode cX5_count 92 = .ok (.invokevirtual 258, 3) := by decide +kernel
theorem dX5_count_95 : decode cX5_count 95 = .ok (.ireturn, 1) := by decide +kernel
theorem dX5_count_96 : decode cX5_count 96 = .ok (.aload_n 0, 1) := by decide +kernel
theorem dX5_count_97 : decode cX5_count 97 = .ok (.getfield 33, 3) := by decide +kernel
theorem dX5_count_100 : decode cX5_count 100 = .ok (.getfield 223, 3) := by decide +kernel
theorem dX5_count_103 : decode cX5_count 103 = .ok (.ireturn, 1) := by decide +kernel
theorem dX5_count_104 : decode cX5_count 104 = .ok (.aload_n 0, 1) := by decide +kernel
theorem dX5_count_105 : decode cX5_count 105 = .ok (.getfield 33, 3) := by decide +kernel
theorem dX5_count_108 : decode cX5_count 108 = .ok (.invokevirtual 261, 3) := by decide +kernel
theorem dX5_count_111 : decode cX5_count 111 = .ok (.ireturn, 1) := by decide +kernel
theorem dX5_count_112 : decode cX5_count 112 = .ok (.iload_n 1, 1) := by decide +kernel
theorem dX5_count_113 : decode cX5_count 113 = .ok (.bipush 10, 2) := by decide +kernel
theorem dX5_count_115 : decode cX5_count 115 = .ok (.if_icmp .le 27, 3) := by decide +kernel
theorem dX5_count_118 : decode cX5_count 118 = .ok (.iload_n 1, 1) := by decide +kernel
theorem dX5_count_119 : decode cX5_count 119 = .ok (.bipush 10, 2) := by decide +kernel
theorem dX5_count_121 : decode cX5_count 121 = .ok (.aload_n 0, 1) := by decide +kernel
theorem dX5_count_122 : decode cX5_count 122 = .ok (.getfield 46, 3) := by decide +kernel
theorem dX5_count_125 : decode cX5_count 125 = .ok (.arraylength, 1) := by decide +kernel
theorem dX5_count_126 : decode cX5_count 126 = .ok (.iadd, 1) := by decide +kernel
theorem dX5_count_127 : decode cX5_count 127 = .ok (.if_icmp .ge 15, 3) := by decide +kernel
theorem dX5_count_130 : decode cX5_count 130 = .ok (.aload_n 0, 1) := by decide +kernel
theorem dX5_count_131 : decode cX5_count 131 = .ok (.getfield 46, 3) := by decide +kernel
theorem dX5_count_134 : decode cX5_count 134 = .ok (.iload_n 1, 1) := by decide +kernel
theorem dX5_count_135 : decode cX5_count 135 = .ok (.bipush 10, 2) := by decide +kernel
theorem dX5_count_137 : decode cX5_count 137 = .ok (.isub, 1) := by decide +kernel
theorem dX5_count_138 : decode cX5_count 138 = .ok (.iaload, 1) := by decide +kernel
theorem dX5_count_139 : decode cX5_count 139 = .ok (.goto 5, 3) := by decide +kernel
theorem dX5_count_142 : decode cX5_count 142 = .ok (.bipush (-9), 2) := by decide +kernel
theorem dX5_count_144 : decode cX5_count 144 = .ok (.ireturn, 1) := by decide +kernel
theorem dX5_refuse_0 : decode cX5_refuse 0 = .ok (.iload_n 1, 1) := by decide +kernel
theorem dX5_refuse_1 : decode cX5_refuse 1 = .ok (.ifCond .ge 24, 3) := by decide +kernel
theorem dX5_refuse_4 : decode cX5_refuse 4 = .ok (.iload_n 1, 1) := by decide +kernel
theorem dX5_refuse_5 : decode cX5_refuse 5 = .ok (.aload_n 0, 1) := by decide +kernel
theorem dX5_refuse_6 : decode cX5_refuse 6 = .ok (.getfield 46, 3) := by decide +kernel
theorem dX5_refuse_9 : decode cX5_refuse 9 = .ok (.arraylength, 1) := by decide +kernel
theorem dX5_refuse_10 : decode cX5_refuse 10 = .ok (.ineg, 1) := by decide +kernel
theorem dX5_refuse_11 : decode cX5_refuse 11 = .ok (.if_icmp .le 14, 3) := by decide +kernel
theorem dX5_refuse_14 : decode cX5_refuse 14 = .ok (.aload_n 0, 1) := by decide +kernel
theorem dX5_refuse_15 : decode cX5_refuse 15 = .ok (.getfield 46, 3) := by decide +kernel
theorem dX5_refuse_18 : decode cX5_refuse 18 = .ok (.iload_n 1, 1) := by decide +kernel
theorem dX5_refuse_19 : decode cX5_refuse 19 = .ok (.ineg, 1) := by decide +kernel
theorem dX5_refuse_20 : decode cX5_refuse 20 = .ok (.dup2, 1) := by decide +kernel
theorem dX5_refuse_21 : decode cX5_refuse 21 = .ok (.iaload, 1) := by decide +kernel
theorem dX5_refuse_22 : decode cX5_refuse 22 = .ok (.iconst 1, 1) := by decide +kernel
theorem dX5_refuse_23 : decode cX5_refuse 23 = .ok (.iadd, 1) := by decide +kernel
theorem dX5_refuse_24 : decode cX5_refuse 24 = .ok (.iastore, 1) := by decide +kernel
theorem dX5_refuse_25 : decode cX5_refuse 25 = .ok (.iload_n 1, 1) := by decide +kernel
theorem dX5_refuse_26 : decode cX5_refuse 26 = .ok (.ireturn, 1) := by decide +kernel
theorem dX5_leaveOut_0 : decode cX5_leaveOut 0 = .ok (.iload_n 1, 1) := by decide +kernel
theorem dX5_leaveOut_1 : decode cX5_leaveOut 1 = .ok (.aload_n 0, 1) := by decide +kernel
theorem dX5_leaveOut_2 : decode cX5_leaveOut 2 = .ok (.getfield 10, 3) := by decide +kernel
theorem dX5_leaveOut_5 : decode cX5_leaveOut 5 = .ok (.getfield 58, 3) := by decide +kernel
theorem dX5_leaveOut_8 : decode cX5_leaveOut 8 = .ok (.if_icmp .eq 25, 3) := by decide +kernel
theorem dX5_leaveOut_11 : decode cX5_leaveOut 11 = .ok (.aload_n 0, 1) := by decide +kernel
theorem dX5_leaveOut_12 : decode cX5_leaveOut 12 = .ok (.getfield 10, 3) := by decide +kernel
theorem dX5_leaveOut_15 : decode cX5_leaveOut 15 = .ok (.iload_n 1, 1) := by decide +kernel
theorem dX5_leaveOut_16 : decode cX5_leaveOut 16 = .ok (.putfield 58, 3) := by decide +kernel
theorem dX5_leaveOut_19 : decode cX5_leaveOut 19 = .ok (.aload_n 0, 1) := by decide +kernel
theorem dX5_leaveOut_20 : decode cX5_leaveOut 20 = .ok (.getfield 19, 3) := by decide +kernel
theorem dX5_leaveOut_23 : decode cX5_leaveOut 23 = .ok (.invokevirtual 61, 3) := by decide +kernel
theorem dX5_leaveOut_26 : decode cX5_leaveOut 26 = .ok (.aload_n 0, 1) := by decide +kernel
theorem dX5_leaveOut_27 : decode cX5_leaveOut 27 = .ok (.getfield 26, 3) := by decide +kernel
theorem dX5_leaveOut_30 : decode cX5_leaveOut 30 = .ok (.invokevirtual 116, 3) := by decide +kernel
theorem dX5_leaveOut_33 : decode cX5_leaveOut 33 = .ok (.return_, 1) := by decide +kernel
theorem dX5_firstAgeAbove_0 : decode cX5_firstAgeAbove 0 = .ok (.aload_n 0, 1) := by decide +kernel
theorem dX5_firstAgeAbove_1 : decode cX5_firstAgeAbove 1 = .ok (.iload_n 1, 1) := by decide +kernel
theorem dX5_firstAgeAbove_2 : decode cX5_firstAgeAbove 2 = .ok (.iload_n 2, 1) := by decide +kernel
theorem dX5_firstAgeAbove_3 : decode cX5_firstAgeAbove 3 = .ok (.bipush 40, 2) := by decide +kernel
theorem dX5_firstAgeAbove_5 : decode cX5_firstAgeAbove 5 = .ok (.invokevirtual 264, 3) := by decide +kernel
theorem dX5_firstAgeAbove_8 : decode cX5_firstAgeAbove 8 = .ok (.ifCond .ne 6, 3) := by decide +kernel
theorem dX5_firstAgeAbove_11 : decode cX5_firstAgeAbove 11 = .ok (.bipush (-9), 2) := by decide +kernel
theorem dX5_firstAgeAbove_13 : decode cX5_firstAgeAbove 13 = .ok (.ireturn, 1) := by decide +kernel
theorem dX5_firstAgeAbove_14 : decode cX5_firstAgeAbove 14 = .ok (.iconst 0, 1) := by decide +kernel
theorem dX5_firstAgeAbove_15 : decode cX5_firstAgeAbove 15 = .ok (.istore_n 3, 1) := by decide +kernel
theorem dX5_firstAgeAbove_16 : decode cX5_firstAgeAbove 16 = .ok (.bipush 40, 2) := by decide +kernel
theorem dX5_firstAgeAbove_18 : decode cX5_firstAgeAbove 18 = .ok (.istore 4, 2) := by decide +kernel
theorem dX5_firstAgeAbove_20 : decode cX5_firstAgeAbove 20 = .ok (.iload_n 3, 1) := by decide +kernel
theorem dX5_firstAgeAbove_21 : decode cX5_firstAgeAbove 21 = .ok (.iload 4, 2) := by decide +kernel
theorem dX5_firstAgeAbove_23 : decode cX5_firstAgeAbove 23 = .ok (.if_icmp .ge 37, 3) := by decide +kernel
theorem dX5_firstAgeAbove_26 : decode cX5_firstAgeAbove 26 = .ok (.iload_n 3, 1) := by decide +kernel
theorem dX5_firstAgeAbove_27 : decode cX5_firstAgeAbove 27 = .ok (.iload 4, 2) := by decide +kernel
theorem dX5_firstAgeAbove_29 : decode cX5_firstAgeAbove 29 = .ok (.iadd, 1) := by decide +kernel
theorem dX5_firstAgeAbove_30 : decode cX5_firstAgeAbove 30 = .ok (.iconst 2, 1) := by decide +kernel
theorem dX5_firstAgeAbove_31 : decode cX5_firstAgeAbove 31 = .ok (.idiv, 1) := by decide +kernel
theorem dX5_firstAgeAbove_32 : decode cX5_firstAgeAbove 32 = .ok (.istore 5, 2) := by decide +kernel
theorem dX5_firstAgeAbove_34 : decode cX5_firstAgeAbove 34 = .ok (.aload_n 0, 1) := by decide +kernel
theorem dX5_firstAgeAbove_35 : decode cX5_firstAgeAbove 35 = .ok (.iload_n 1, 1) := by decide +kernel
theorem dX5_firstAgeAbove_36 : decode cX5_firstAgeAbove 36 = .ok (.iload_n 2, 1) := by decide +kernel
theorem dX5_firstAgeAbove_37 : decode cX5_firstAgeAbove 37 = .ok (.iload 5, 2) := by decide +kernel
theorem dX5_firstAgeAbove_39 : decode cX5_firstAgeAbove 39 = .ok (.invokevirtual 264, 3) := by decide +kernel
theorem dX5_firstAgeAbove_42 : decode cX5_firstAgeAbove 42 = .ok (.ifCond .eq 10, 3) := by decide +kernel
theorem dX5_firstAgeAbove_45 : decode cX5_firstAgeAbove 45 = .ok (.iload 5, 2) := by decide +kernel
theorem dX5_firstAgeAbove_47 : decode cX5_firstAgeAbove 47 = .ok (.istore 4, 2) := by decide +kernel
theorem dX5_firstAgeAbove_49 : decode cX5_firstAgeAbove 49 = .ok (.goto 8, 3) := by decide +kernel
theorem dX5_firstAgeAbove_52 : decode cX5_firstAgeAbove 52 = .ok (.iload 5, 2) := by decide +kernel
theorem dX5_firstAgeAbove_54 : decode cX5_firstAgeAbove 54 = .ok (.iconst 1, 1) := by decide +kernel
theorem dX5_firstAgeAbove_55 : decode cX5_firstAgeAbove 55 = .ok (.iadd, 1) := by decide +kernel
theorem dX5_firstAgeAbove_56 : decode cX5_firstAgeAbove 56 = .ok (.istore_n 3, 1) := by decide +kernel
theorem dX5_firstAgeAbove_57 : decode cX5_firstAgeAbove 57 = .ok (.goto (-37), 3) := by decide +kernel
theorem dX5_firstAgeAbove_60 : decode cX5_firstAgeAbove 60 = .ok (.iload_n 3, 1) := by decide +kernel
theorem dX5_firstAgeAbove_61 : decode cX5_firstAgeAbove 61 = .ok (.ireturn, 1) := by decide +kernel
theorem dX5_failsAbove_0 : decode cX5_failsAbove 0 = .ok (.aload_n 0, 1) := by decide +kernel
theorem dX5_failsAbove_1 : decode cX5_failsAbove 1 = .ok (.getfield 42, 3) := by decide +kernel
theorem dX5_failsAbove_4 : decode cX5_failsAbove 4 = .ok (.iload_n 2, 1) := by decide +kernel
theorem dX5_failsAbove_5 : decode cX5_failsAbove 5 = .ok (.iload_n 3, 1) := by decide +kernel
theorem dX5_failsAbove_6 : decode cX5_failsAbove 6 = .ok (.invokevirtual 167, 3) := by decide +kernel
theorem dX5_failsAbove_9 : decode cX5_failsAbove 9 = .ok (.ldc2_w 268, 3) := by decide +kernel
theorem dX5_failsAbove_12 : decode cX5_failsAbove 12 = .ok (.lmul, 1) := by decide +kernel
theorem dX5_failsAbove_13 : decode cX5_failsAbove 13 = .ok (.aload_n 0, 1) := by decide +kernel
theorem dX5_failsAbove_14 : decode cX5_failsAbove 14 = .ok (.getfield 10, 3) := by decide +kernel
theorem dX5_failsAbove_17 : decode cX5_failsAbove 17 = .ok (.invokevirtual 171, 3) := by decide +kernel
theorem dX5_failsAbove_20 : decode cX5_failsAbove 20 = .ok (.iload_n 1, 1) := by decide +kernel
theorem dX5_failsAbove_21 : decode cX5_failsAbove 21 = .ok (.i2l, 1) := by decide +kernel
theorem dX5_failsAbove_22 : decode cX5_failsAbove 22 = .ok (.lmul, 1) := by decide +kernel
theorem dX5_failsAbove_23 : decode cX5_failsAbove 23 = .ok (.lcmp, 1) := by decide +kernel
theorem dX5_failsAbove_24 : decode cX5_failsAbove 24 = .ok (.ifCond .le 7, 3) := by decide +kernel
theorem dX5_failsAbove_27 : decode cX5_failsAbove 27 = .ok (.iconst 1, 1) := by decide +kernel
theorem dX5_failsAbove_28 : decode cX5_failsAbove 28 = .ok (.goto 4, 3) := by decide +kernel
theorem dX5_failsAbove_31 : decode cX5_failsAbove 31 = .ok (.iconst 0, 1) := by decide +kernel
theorem dX5_failsAbove_32 : decode cX5_failsAbove 32 = .ok (.ireturn, 1) := by decide +kernel
theorem dX5_likeliestKey_0 : decode cX5_likeliestKey 0 = .ok (.iconst 0, 1) := by decide +kernel
theorem dX5_likeliestKey_1 : decode cX5_likeliestKey 1 = .ok (.istore_n 2, 1) := by decide +kernel
theorem dX5_likeliestKey_2 : decode cX5_likeliestKey 2 = .ok (.aload_n 0, 1) := by decide +kernel
theorem dX5_likeliestKey_3 : decode cX5_likeliestKey 3 = .ok (.iconst 0, 1) := by decide +kernel
theorem dX5_likeliestKey_4 : decode cX5_likeliestKey 4 = .ok (.iload_n 1, 1) := by decide +kernel
theorem dX5_likeliestKey_5 : decode cX5_likeliestKey 5 = .ok (.invokevirtual 187, 3) := by decide +kernel
theorem dX5_likeliestKey_8 : decode cX5_likeliestKey 8 = .ok (.lstore_n 3, 1) := by decide +kernel
theorem dX5_likeliestKey_9 : decode cX5_likeliestKey 9 = .ok (.iconst 1, 1) := by decide +kernel
theorem dX5_likeliestKey_10 : decode cX5_likeliestKey 10 = .ok (.istore 5, 2) := by decide +kernel
theorem dX5_likeliestKey_12 : decode cX5_likeliestKey 12 = .ok (.iload 5, 2) := by decide +kernel
theorem dX5_likeliestKey_14 : decode cX5_likeliestKey 14 = .ok (.aload_n 0, 1) := by decide +kernel
theorem dX5_likeliestKey_15 : decode cX5_likeliestKey 15 = .ok (.getfield 19, 3) := by decide +kernel
theorem dX5_likeliestKey_18 : decode cX5_likeliestKey 18 = .ok (.invokevirtual 270, 3) := by decide +kernel
theorem dX5_likeliestKey_21 : decode cX5_likeliestKey 21 = .ok (.if_icmp .ge 31, 3) := by decide +kernel
theorem dX5_likeliestKey_24 : decode cX5_likeliestKey 24 = .ok (.aload_n 0, 1) := by decide +kernel
theorem dX5_likeliestKey_25 : decode cX5_likeliestKey 25 = .ok (.iload 5, 2) := by decide +kernel
theorem dX5_likeliestKey_27 : decode cX5_likeliestKey 27 = .ok (.iload_n 1, 1) := by decide +kernel
theorem dX5_likeliestKey_28 : decode cX5_likeliestKey 28 = .ok (.invokevirtual 187, 3) := by decide +kernel
theorem dX5_likeliestKey_31 : decode cX5_likeliestKey 31 = .ok (.lstore 6, 2) := by decide +kernel
theorem dX5_likeliestKey_33 : decode cX5_likeliestKey 33 = .ok (.lload 6, 2) := by decide +kernel
theorem dX5_likeliestKey_35 : decode cX5_likeliestKey 35 = .ok (.lload_n 3, 1) := by decide +kernel
theorem dX5_likeliestKey_36 : decode cX5_likeliestKey 36 = .ok (.lcmp, 1) := by decide +kernel
theorem dX5_likeliestKey_37 : decode cX5_likeliestKey 37 = .ok (.ifCond .le 9, 3) := by decide +kernel
theorem dX5_likeliestKey_40 : decode cX5_likeliestKey 40 = .ok (.lload 6, 2) := by decide +kernel
theorem dX5_likeliestKey_42 : decode cX5_likeliestKey 42 = .ok (.lstore_n 3, 1) := by decide +kernel
theorem dX5_likeliestKey_43 : decode cX5_likeliestKey 43 = .ok (.iload 5, 2) := by decide +kernel
theorem dX5_likeliestKey_45 : decode cX5_likeliestKey 45 = .ok (.istore_n 2, 1) := by decide +kernel
theorem dX5_likeliestKey_46 : decode cX5_likeliestKey 46 = .ok (.iinc 5 1, 3) := by decide +kernel
theorem dX5_likeliestKey_49 : decode cX5_likeliestKey 49 = .ok (.goto (-37), 3) := by decide +kernel
theorem dX5_likeliestKey_52 : decode cX5_likeliestKey 52 = .ok (.iload_n 2, 1) := by decide +kernel
theorem dX5_likeliestKey_53 : decode cX5_likeliestKey 53 = .ok (.ireturn, 1) := by decide +kernel
theorem dX5_waysOfAllKeys_0 : decode cX5_waysOfAllKeys 0 = .ok (.lconst 0, 1) := by decide +kernel
theorem dX5_waysOfAllKeys_1 : decode cX5_waysOfAllKeys 1 = .ok (.lstore_n 2, 1) := by decide +kernel
theorem dX5_waysOfAllKeys_2 : decode cX5_waysOfAllKeys 2 = .ok (.iconst 0, 1) := by decide +kernel
theorem dX5_waysOfAllKeys_3 : decode cX5_waysOfAllKeys 3 = .ok (.istore 4, 2) := by decide +kernel
theorem dX5_waysOfAllKeys_5 : decode cX5_waysOfAllKeys 5 = .ok (.iload 4, 2) := by decide +kernel
theorem dX5_waysOfAllKeys_7 : decode cX5_waysOfAllKeys 7 = .ok (.aload_n 0, 1) := by decide +kernel
theorem dX5_waysOfAllKeys_8 : decode cX5_waysOfAllKeys 8 = .ok (.getfield 19, 3) := by decide +kernel
theorem dX5_waysOfAllKeys_11 : decode cX5_waysOfAllKeys 11 = .ok (.invokevirtual 270, 3) := by decide +kernel
theorem dX5_waysOfAllKeys_14 : decode cX5_waysOfAllKeys 14 = .ok (.if_icmp .ge 19, 3) := by decide +kernel
theorem dX5_waysOfAllKeys_17 : decode cX5_waysOfAllKeys 17 = .ok (.lload_n 2, 1) := by decide +kernel
theorem dX5_waysOfAllKeys_18 : decode cX5_waysOfAllKeys 18 = .ok (.aload_n 0, 1) := by decide +kernel
theorem dX5_waysOfAllKeys_19 : decode cX5_waysOfAllKeys 19 = .ok (.iload 4, 2) := by decide +kernel
theorem dX5_waysOfAllKeys_21 : decode cX5_waysOfAllKeys 21 = .ok (.iload_n 1, 1) := by decide +kernel
theorem dX5_waysOfAllKeys_22 : decode cX5_waysOfAllKeys 22 = .ok (.invokevirtual 187, 3) := by decide +kernel
theorem dX5_waysOfAllKeys_25 : decode cX5_waysOfAllKeys 25 = .ok (.ladd, 1) := by decide +kernel
theorem dX5_waysOfAllKeys_26 : decode cX5_waysOfAllKeys 26 = .ok (.lstore_n 2, 1) := by decide +kernel
theorem dX5_waysOfAllKeys_27 : decode cX5_waysOfAllKeys 27 = .ok (.iinc 4 1, 3) := by decide +kernel
theorem dX5_waysOfAllKeys_30 : decode cX5_waysOfAllKeys 30 = .ok (.goto (-25), 3) := by decide +kernel
theorem dX5_waysOfAllKeys_33 : decode cX5_waysOfAllKeys 33 = .ok (.lload_n 2, 1) := by decide +kernel
theorem dX5_waysOfAllKeys_34 : decode cX5_waysOfAllKeys 34 = .ok (.lreturn, 1) := by decide +kernel
theorem dX5_waysOfKey_0 : decode cX5_waysOfKey 0 = .ok (.aload_n 0, 1) := by decide +kernel
theorem dX5_waysOfKey_1 : decode cX5_waysOfKey 1 = .ok (.getfield 19, 3) := by decide +kernel
theorem dX5_waysOfKey_4 : decode cX5_waysOfKey 4 = .ok (.iload_n 1, 1) := by decide +kernel
theorem dX5_waysOfKey_5 : decode cX5_waysOfKey 5 = .ok (.invokevirtual 123, 3) := by decide +kernel
theorem dX5_waysOfKey_8 : decode cX5_waysOfKey 8 = .ok (.ifCond .eq 24, 3) := by decide +kernel
theorem dX5_waysOfKey_11 : decode cX5_waysOfKey 11 = .ok (.aload_n 0, 1) := by decide +kernel
theorem dX5_waysOfKey_12 : decode cX5_waysOfKey 12 = .ok (.getfield 10, 3) := by decide +kernel
theorem dX5_waysOfKey_15 : decode cX5_waysOfKey 15 = .ok (.iload_n 2, 1) := by decide +kernel
theorem dX5_waysOfKey_16 : decode cX5_waysOfKey 16 = .ok (.aload_n 0, 1) := by decide +kernel
theorem dX5_waysOfKey_17 : decode cX5_waysOfKey 17 = .ok (.getfield 19, 3) := by decide +kernel
theorem dX5_waysOfKey_20 : decode cX5_waysOfKey 20 = .ok (.getfield 126, 3) := by decide +kernel
theorem dX5_waysOfKey_23 : decode cX5_waysOfKey 23 = .ok (.iload_n 1, 1) := by decide +kernel
theorem dX5_waysOfKey_24 : decode cX5_waysOfKey 24 = .ok (.iaload, 1) := by decide +kernel
theorem dX5_waysOfKey_25 : decode cX5_waysOfKey 25 = .ok (.ixor, 1) := by decide +kernel
theorem dX5_waysOfKey_26 : decode cX5_waysOfKey 26 = .ok (.invokevirtual 273, 3) := by decide +kernel
theorem dX5_waysOfKey_29 : decode cX5_waysOfKey 29 = .ok (.goto 4, 3) := by decide +kernel
theorem dX5_waysOfKey_32 : decode cX5_waysOfKey 32 = .ok (.lconst 0, 1) := by decide +kernel
theorem dX5_waysOfKey_33 : decode cX5_waysOfKey 33 = .ok (.lreturn, 1) := by decide +kernel
theorem dX6_init_0 : decode cX6_init 0 = .ok (.aload_n 0, 1) := by decide +kernel
theorem dX6_init_1 : decode cX6_init 1 = .ok (.invokespecial 1, 3) := by decide +kernel
theorem dX6_init_4 : decode cX6_init 4 = .ok (.aload_n 0, 1) := by decide +kernel
theorem dX6_init_5 : decode cX6_init 5 = .ok (.bipush 7, 2) := by decide +kernel
theorem dX6_init_7 : decode cX6_init 7 = .ok (.newarray .int, 2) := by decide +kernel
theorem dX6_init_9 : decode cX6_init 9 = .ok (.putfield 7, 3) := by decide +kernel
theorem dX6_init_12 : decode cX6_init 12 = .ok (.aload_n 0, 1) := by decide +kernel
theorem dX6_init_13 : decode cX6_init 13 = .ok (.bipush 14, 2) := by decide +kernel
theorem dX6_init_15 : decode cX6_init 15 = .ok (.newarray .int, 2) := by decide +kernel
theorem dX6_init_17 : decode cX6_init 17 = .ok (.putfield 13, 3) := by decide +kernel
theorem dX6_init_20 : decode cX6_init 20 = .ok (.aload_n 0, 1) := by decide +kernel
theorem dX6_init_21 : decode cX6_init 21 = .ok (.bipush 14, 2) := by decide +kernel
theorem dX6_init_23 : decode cX6_init 23 = .ok (.newarray .int, 2) := by decide +kernel
theorem dX6_init_25 : decode cX6_init 25 = .ok (.putfield 16, 3) := by decide +kernel
theorem dX6_init_28 : decode cX6_init 28 = .ok (.aload_n 0, 1) := by decide +kernel
theorem dX6_init_29 : decode cX6_init 29 = .ok (.bipush 14, 2) := by decide +kernel
theorem dX6_init_31 : decode cX6_init 31 = .ok (.newarray .int, 2) := by decide +kernel
theorem dX6_init_33 : decode cX6_init 33 = .ok (.putfield 19, 3) := by decide +kernel
theorem dX6_init_36 : decode cX6_init 36 = .ok (.aload_n 0, 1) := by decide +kernel
theorem dX6_init_37 : decode cX6_init 37 = .ok (.bipush 8, 2) := by decide +kernel
theorem dX6_init_39 : decode cX6_init 39 = .ok (.newarray .int, 2) := by decide +kernel
theorem dX6_init_41 : decode cX6_init 41 = .ok (.putfield 22, 3) := by decide +kernel
theorem dX6_init_44 : decode cX6_init 44 = .ok (.aload_n 0, 1) := by decide +kernel
theorem dX6_init_45 : decode cX6_init 45 = .ok (.bipush 8, 2) := by decide +kernel
theorem dX6_init_47 : decode cX6_init 47 = .ok (.newarray .int, 2) := by decide +kernel
theorem dX6_init_49 : decode cX6_init 49 = .ok (.putfield 25, 3) := by decide +kernel
theorem dX6_init_52 : decode cX6_init 52 = .ok (.aload_n 0, 1) := by decide +kernel
theorem dX6_init_53 : decode cX6_init 53 = .ok (.bipush 8, 2) := by decide +kernel
theorem dX6_init_55 : decode cX6_init 55 = .ok (.newarray .int, 2) := by decide +kernel
theorem dX6_init_57 : decode cX6_init 57 = .ok (.putfield 28, 3) := by decide +kernel
theorem dX6_init_60 : decode cX6_init 60 = .ok (.aload_n 0, 1) := by decide +kernel
theorem dX6_init_61 : decode cX6_init 61 = .ok (.bipush 6, 2) := by decide +kernel
theorem dX6_init_63 : decode cX6_init 63 = .ok (.newarray .int, 2) := by decide +kernel
theorem dX6_init_65 : decode cX6_init 65 = .ok (.putfield 31, 3) := by decide +kernel
theorem dX6_init_68 : decode cX6_init 68 = .ok (.aload_n 0, 1) := by decide +kernel
theorem dX6_init_69 : decode cX6_init 69 = .ok (.bipush 16, 2) := by decide +kernel
theorem dX6_init_71 : decode cX6_init 71 = .ok (.newarray .int, 2) := by decide +kernel
theorem dX6_init_73 : decode cX6_init 73 = .ok (.putfield 34, 3) := by decide +kernel
theorem dX6_init_76 : decode cX6_init 76 = .ok (.aload_n 0, 1) := by decide +kernel
theorem dX6_init_77 : decode cX6_init 77 = .ok (.bipush 8, 2) := by decide +kernel
theorem dX6_init_79 : decode cX6_init 79 = .ok (.newarray .boolean, 2) := by decide +kernel
theorem dX6_init_81 : decode cX6_init 81 = .ok (.putfield 37, 3) := by decide +kernel
theorem dX6_init_84 : decode cX6_init 84 = .ok (.aload_n 0, 1) := by decide +kernel
theorem dX6_init_85 : decode cX6_init 85 = .ok (.bipush 16, 2) := by decide +kernel
theorem dX6_init_87 : decode cX6_init 87 = .ok (.newarray .boolean, 2) := by decide +kernel
theorem dX6_init_89 : decode cX6_init 89 = .ok (.putfield 41, 3) := by decide +kernel
theorem dX6_init_92 : decode cX6_init 92 = .ok (.aload_n 0, 1) := by decide +kernel
theorem dX6_init_93 : decode cX6_init 93 = .ok (.bipush 8, 2) := by decide +kernel
theorem dX6_init_95 : decode cX6_init 95 = .ok (.putfield 44, 3) := by decide +kernel
theorem dX6_init_98 : decode cX6_init 98 = .ok (.aload_n 0, 1) := by decide +kernel
theorem dX6_init_99 : decode cX6_init 99 = .ok (.sipush 16384, 3) := by decide +kernel
theorem dX6_init_102 : decode cX6_init 102 = .ok (.newarray .int, 2) := by decide +kernel
theorem dX6_init_104 : decode cX6_init 104 = .ok (.putfield 48, 3) := by decide +kernel
theorem dX6_init_107 : decode cX6_init 107 = .ok (.aload_n 0, 1) := by decide +kernel
theorem dX6_init_108 : decode cX6_init 108 = .ok (.bipush 64, 2) := by decide +kernel
theorem dX6_init_110 : decode cX6_init 110 = .ok (.newarray .int, 2) := by decide +kernel
theorem dX6_init_112 : decode cX6_init 112 = .ok (.putfield 51, 3) := by decide +kernel
theorem dX6_init_115 : decode cX6_init 115 = .ok (.aload_n 0, 1) := by decide +kernel
theorem dX6_init_116 : decode cX6_init 116 = .ok (.sipush 16384, 3) := by decide +kernel
theorem dX6_init_119 : decode cX6_init 119 = .ok (.newarray .boolean, 2) := by decide +kernel
theorem dX6_init_121 : decode cX6_init 121 = .ok (.putfield 54, 3) := by decide +kernel
theorem dX6_init_124 : decode cX6_init 124 = .ok (.aload_n 0, 1) := by decide +kernel
theorem dX6_init_125 : decode cX6_init 125 = .ok (.sipush 16384, 3) := by decide +kernel
theorem dX6_init_128 : decode cX6_init 128 = .ok (.newarray .long, 2) := by decide +kernel
theorem dX6_init_130 : decode cX6_init 130 = .ok (.putfield 57, 3) := by decide +kernel
theorem dX6_init_133 : decode cX6_init 133 = .ok (.aload_n 0, 1) := by decide +kernel
theorem dX6_init_134 : decode cX6_init 134 = .ok (.iconst 5, 1) := by decide +kernel
theorem dX6_init_135 : decode cX6_init 135 = .ok (.newarray .int, 2) := by decide +kernel
theorem dX6_init_137 : decode cX6_init 137 = .ok (.putfield 61, 3) := by decide +kernel
theorem dX6_init_140 : decode cX6_init 140 = .ok (.aload_n 0, 1) := by decide +kernel
theorem dX6_init_141 : decode cX6_init 141 = .ok (.bipush 16, 2) := by decide +kernel
theorem dX6_init_143 : decode cX6_init 143 = .ok (.newarray .int, 2) := by decide +kernel
theorem dX6_init_145 : decode cX6_init 145 = .ok (.putfield 64, 3) := by decide +kernel
theorem dX6_init_148 : decode cX6_init 148 = .ok (.aload_n 0, 1) := by decide +kernel
theorem dX6_init_149 : decode cX6_init 149 = .ok (.iconst 4, 1) := by decide +kernel
theorem dX6_init_150 : decode cX6_init 150 = .ok (.newarray .int, 2) := by decide +kernel
theorem dX6_init_152 : decode cX6_init 152 = .ok (.putfield 67, 3) := by decide +kernel
theorem dX6_init_155 : decode cX6_init 155 = .ok (.iconst 0, 1) := by decide +kernel
theorem dX6_init_156 : decode cX6_init 156 = .ok (.istore_n 1, 1) := by decide +kernel
theorem dX6_init_157 : decode cX6_init 157 = .ok (.iload_n 1, 1) := by decide +kernel
theorem dX6_init_158 : decode cX6_init 158 = .ok (.bipush 14, 2) := by decide +kernel
theorem dX6_init_160 : decode cX6_init 160 = .ok (.if_icmp .ge 23, 3) := by decide +kernel
theorem dX6_init_163 : decode cX6_init 163 = .ok (.aload_n 0, 1) := by decide +kernel
theorem dX6_init_164 : decode cX6_init 164 = .ok (.getfield 13, 3) := by decide +kernel
theorem dX6_init_167 : decode cX6_init 167 = .ok (.iload_n 1, 1) := by decide +kernel
theorem dX6_init_168 : decode cX6_init 168 = .ok (.iconst 1, 1) := by decide +kernel
theorem dX6_init_169 : decode cX6_init 169 = .ok (.iastore, 1) := by decide +kernel
theorem dX6_init_170 : decode cX6_init 170 = .ok (.aload_n 0, 1) := by decide +kernel
theorem dX6_init_171 : decode cX6_init 171 = .ok (.getfield 19, 3) := by decide +kernel
theorem dX6_init_174 : decode cX6_init 174 = .ok (.iload_n 1, 1) := by decide +kernel
theorem dX6_init_175 : decode cX6_init 175 = .ok (.iconst 4, 1) := by decide +kernel
theorem dX6_init_176 : decode cX6_init 176 = .ok (.iastore, 1) := by decide +kernel
theorem dX6_init_177 : decode cX6_init 177 = .ok (.iinc 1 1, 3) := by decide +kernel
theorem dX6_init_180 : decode cX6_init 180 = .ok (.goto (-23), 3) := by decide +kernel
theorem dX6_init_183 : decode cX6_init 183 = .ok (.iconst 0, 1) := by decide +kernel
theorem dX6_init_184 : decode cX6_init 184 = .ok (.istore_n 1, 1) := by decide +kernel
theorem dX6_init_185 : decode cX6_init 185 = .ok (.iload_n 1, 1) := by decide +kernel
theorem dX6_init_186 : decode cX6_init 186 = .ok (.bipush 16, 2) := by decide +kernel
theorem dX6_init_188 : decode cX6_init 188 = .ok (.if_icmp .ge 16, 3) := by decide +kernel
theorem dX6_init_191 : decode cX6_init 191 = .ok (.aload_n 0, 1) := by decide +kernel
theorem dX6_init_192 : decode cX6_init 192 = .ok (.getfield 34, 3) := by decide +kernel
theorem dX6_init_195 : decode cX6_init 195 = .ok (.iload_n 1, 1) := by decide +kernel
theorem dX6_init_196 : decode cX6_init 196 = .ok (.iconst (-1), 1) := by decide +kernel
theorem dX6_init_197 : decode cX6_init 197 = .ok (.iastore, 1) := by decide +kernel
theorem dX6_init_198 : decode cX6_init 198 = .ok (.iinc 1 1, 3) := by decide +kernel
theorem dX6_init_201 : decode cX6_init 201 = .ok (.goto (-16), 3) := by decide +kernel
theorem dX6_init_204 : decode cX6_init 204 = .ok (.return_, 1) := by decide +kernel
theorem dX6_thrown_0 : decode cX6_thrown 0 = .ok (.aload_n 0, 1) := by decide +kernel
theorem dX6_thrown_1 : decode cX6_thrown 1 = .ok (.getfield 70, 3) := by decide +kernel
theorem dX6_thrown_4 : decode cX6_thrown 4 = .ok (.ireturn, 1) := by decide +kernel
theorem dX6_raises_0 : decode cX6_raises 0 = .ok (.aload_n 0, 1) := by decide +kernel
theorem dX6_raises_1 : decode cX6_raises 1 = .ok (.iload_n 1, 1) := by decide +kernel
theorem dX6_raises_2 : decode cX6_raises 2 = .ok (.putfield 70, 3) := by decide +kernel
theorem dX6_raises_5 : decode cX6_raises 5 = .ok (.iconst 0, 1) := by decide +kernel
theorem dX6_raises_6 : decode cX6_raises 6 = .ok (.ireturn, 1) := by decide +kernel
theorem dX6_refuse_0 : decode cX6_refuse 0 = .ok (.aload_n 0, 1) := by decide +kernel
theorem dX6_refuse_1 : decode cX6_refuse 1 = .ok (.getfield 7, 3) := by decide +kernel
theorem dX6_refuse_4 : decode cX6_refuse 4 = .ok (.iload_n 1, 1) := by decide +kernel
theorem dX6_refuse_5 : decode cX6_refuse 5 = .ok (.ineg, 1) := by decide +kernel
theorem dX6_refuse_6 : decode cX6_refuse 6 = .ok (.dup2, 1) := by decide +kernel
theorem dX6_refuse_7 : decode cX6_refuse 7 = .ok (.iaload, 1) := by decide +kernel
theorem dX6_refuse_8 : decode cX6_refuse 8 = .ok (.iconst 1, 1) := by decide +kernel
theorem dX6_refuse_9 : decode cX6_refuse 9 = .ok (.iadd, 1) := by decide +kernel
theorem dX6_refuse_10 : decode cX6_refuse 10 = .ok (.iastore, 1) := by decide +kernel
theorem dX6_refuse_11 : decode cX6_refuse 11 = .ok (.iload_n 1, 1) := by decide +kernel
theorem dX6_refuse_12 : decode cX6_refuse 12 = .ok (.ireturn, 1) := by decide +kernel
theorem dX6_isIn_0 : decode cX6_isIn 0 = .ok (.iload_n 0, 1) := by decide +kernel
theorem dX6_isIn_1 : decode cX6_isIn 1 = .ok (.ifCond .lt 12, 3) := by decide +kernel
theorem dX6_isIn_4 : decode cX6_isIn 4 = .ok (.iload_n 0, 1) := by decide +kernel
theorem dX6_isIn_5 : decode cX6_isIn 5 = .ok (.iload_n 1, 1) := by decide +kernel
theorem dX6_isIn_6 : decode cX6_isIn 6 = .ok (.if_icmp .ge 7, 3) := by decide +kernel
theorem dX6_isIn_9 : decode cX6_isIn 9 = .ok (.iconst 1, 1) := by decide +kernel
theorem dX6_isIn_10 : decode cX6_isIn 10 = .ok (.goto 4, 3) := by decide +kernel
theorem dX6_isIn_13 : decode cX6_isIn 13 = .ok (.iconst 0, 1) := by decide +kernel
theorem dX6_isIn_14 : decode cX6_isIn 14 = .ok (.ireturn, 1) := by decide +kernel
theorem dX6_wrong_0 : decode cX6_wrong 0 = .ok (.iload_n 0, 1) := by decide +kernel
theorem dX6_wrong_1 : decode cX6_wrong 1 = .ok (.iload_n 1, 1) := by decide +kernel
theorem dX6_wrong_2 : decode cX6_wrong 2 = .ok (.if_icmp .ge 8, 3) := by decide +kernel
theorem dX6_wrong_5 : decode cX6_wrong 5 = .ok (.bipush (-4), 2) := by decide +kernel
theorem dX6_wrong_7 : decode cX6_wrong 7 = .ok (.goto 14, 3) := by decide +kernel
theorem dX6_wrong_10 : decode cX6_wrong 10 = .ok (.iload_n 0, 1) := by decide +kernel
theorem dX6_wrong_11 : decode cX6_wrong 11 = .ok (.iload_n 2, 1) := by decide +kernel
theorem dX6_wrong_12 : decode cX6_wrong 12 = .ok (.if_icmp .le 8, 3) := by decide +kernel
theorem dX6_wrong_15 : decode cX6_wrong 15 = .ok (.bipush (-6), 2) := by decide +kernel
theorem dX6_wrong_17 : decode cX6_wrong 17 = .ok (.goto 4, 3) := by decide +kernel
theorem dX6_wrong_20 : decode cX6_wrong 20 = .ok (.iconst 0, 1) := by decide +kernel
theorem dX6_wrong_21 : decode cX6_wrong 21 = .ok (.ireturn, 1) := by decide +kernel
theorem dX6_isWord_0 : decode cX6_isWord 0 = .ok (.iload_n 1, 1) := by decide +kernel
theorem dX6_isWord_1 : decode cX6_isWord 1 = .ok (.iconst 1, 1) := by decide +kernel
theorem dX6_isWord_2 : decode cX6_isWord 2 = .ok (.aload_n 0, 1) := by decide +kernel
theorem dX6_isWord_3 : decode cX6_isWord 3 = .ok (.getfield 44, 3) := by decide +kernel
theorem dX6_isWord_6 : decode cX6_isWord 6 = .ok (.ishl, 1) := by decide +kernel
theorem dX6_isWord_7 : decode cX6_isWord 7 = .ok (.invokestatic 73, 3) := by decide +kernel
theorem dX6_isWord_10 : decode cX6_isWord 10 = .ok (.ireturn, 1) := by decide +kernel
theorem dX6_bits_0 : decode cX6_bits 0 = .ok (.iconst 0, 1) := by decide +kernel
theorem dX6_bits_1 : decode cX6_bits 1 = .ok (.istore_n 1, 1) := by decide +kernel
theorem dX6_bits_2 : decode cX6_bits 2 = .ok (.iload_n 0, 1) := by decide +kernel
theorem dX6_bits_3 : decode cX6_bits 3 = .ok (.istore_n 2, 1) := by decide +kernel
theorem dX6_bits_4 : decode cX6_bits 4 = .ok (.iload_n 2, 1) := by decide +kernel
theorem dX6_bits_5 : decode cX6_bits 5 = .ok (.ifCond .eq 15, 3) := by decide +kernel
theorem dX6_bits_8 : decode cX6_bits 8 = .ok (.iinc 1 1, 3) := by decide +kernel
theorem dX6_bits_11 : decode cX6_bits 11 = .ok (.iload_n 2, 1) := by decide +kernel
theorem dX6_bits_12 : decode cX6_bits 12 = .ok (.iload_n 2, 1) := by decide +kernel
theorem dX6_bits_13 : decode cX6_bits 13 = .ok (.iconst 1, 1) := by decide +kernel
theorem dX6_bits_14 : decode cX6_bits 14 = .ok (.isub, 1) := by decide +kernel
theorem dX6_bits_15 : decode cX6_bits 15 = .ok (.iand, 1) := by decide +kernel
theorem dX6_bits_16 : decode cX6_bits 16 = .ok (.istore_n 2, 1) := by decide +kernel
theorem dX6_bits_17 : decode cX6_bits 17 = .ok (.goto (-13), 3) := by decide +kernel
theorem dX6_bits_20 : decode cX6_bits 20 = .ok (.iload_n 1, 1) := by decide +kernel
theorem dX6_bits_21 : decode cX6_bits 21 = .ok (.ireturn, 1) := by decide +kernel
theorem dX6_open_0 : decode cX6_open 0 = .ok (.iconst 1, 1) := by decide +kernel
theorem dX6_open_1 : decode cX6_open 1 = .ok (.aload_n 0, 1) := by decide +kernel
theorem dX6_open_2 : decode cX6_open 2 = .ok (.getfield 44, 3) := by decide +kernel
theorem dX6_open_5 : decode cX6_open 5 = .ok (.ishl, 1) := by decide +kernel
theorem dX6_open_6 : decode cX6_open 6 = .ok (.iconst 1, 1) := by decide +kernel
theorem dX6_open_7 : decode cX6_open 7 = .ok (.isub, 1) := by decide +kernel
theorem dX6_open_8 : decode cX6_open 8 = .ok (.aload_n 0, 1) := by decide +kernel
theorem dX6_open_9 : decode cX6_open 9 = .ok (.getfield 77, 3) := by decide +kernel
theorem dX6_open_12 : decode cX6_open 12 = .ok (.iconst (-1), 1) := by decide +kernel
theorem dX6_open_13 : decode cX6_open 13 = .ok (.ixor, 1) := by decide +kernel
theorem dX6_open_14 : decode cX6_open 14 = .ok (.iand, 1) := by decide +kernel
theorem dX6_open_15 : decode cX6_open 15 = .ok (.ireturn, 1) := by decide +kernel
theorem dX6_noRows_0 : decode cX6_noRows 0 = .ok (.aload_n 0, 1) := by decide +kernel
theorem dX6_noRows_1 : decode cX6_noRows 1 = .ok (.iconst 0, 1) := by decide +kernel
theorem dX6_noRows_2 : decode cX6_noRows 2 = .ok (.putfield 80, 3) := by decide +kernel
theorem dX6_noRows_5 : decode cX6_noRows 5 = .ok (.aload_n 0, 1) := by decide +kernel
theorem dX6_noRows_6 : decode cX6_noRows 6 = .ok (.invokevirtual 83, 3) := by decide +kernel
theorem dX6_noRows_9 : decode cX6_noRows 9 = .ok (.return_, 1) := by decide +kernel
theorem dX6_noHelp_0 : decode cX6_noHelp 0 = .ok (.aload_n 0, 1) := by decide +kernel
theorem dX6_noHelp_1 : decode cX6_noHelp 1 = .ok (.iconst 0, 1) := by decide +kernel
theorem dX6_noHelp_2 : decode cX6_noHelp 2 = .ok (.putfield 86, 3) := by decide +kernel
theorem dX6_noHelp_5 : decode cX6_noHelp 5 = .ok (.iconst 0, 1) := by decide +kernel
theorem dX6_noHelp_6 : decode cX6_noHelp 6 = .ok (.istore_n 1, 1) := by decide +kernel
theorem dX6_noHelp_7 : decode cX6_noHelp 7 = .ok (.iload_n 1, 1) := by decide +kernel
theorem dX6_noHelp_8 : decode cX6_noHelp 8 = .ok (.bipush 8, 2) := by decide +kernel
theorem dX6_noHelp_10 : decode cX6_noHelp 10 = .ok (.if_icmp .ge 16, 3) := by decide +kernel
theorem dX6_noHelp_13 : decode cX6_noHelp 13 = .ok (.aload_n 0, 1) := by decide +kernel
theorem dX6_noHelp_14 : decode cX6_noHelp 14 = .ok (.getfield 37, 3) := by decide +kernel
theorem dX6_noHelp_17 : decode cX6_noHelp 17 = .ok (.iload_n 1, 1) := by decide +kernel
theorem dX6_noHelp_18 : decode cX6_noHelp 18 = .ok (.iconst 0, 1) := by decide +kernel
theorem dX6_noHelp_19 : decode cX6_noHelp 19 = .ok (.bastore, 1) := by decide +kernel
theorem dX6_noHelp_20 : decode cX6_noHelp 20 = .ok (.iinc 1 1, 3) := by decide +kernel
theorem dX6_noHelp_23 : decode cX6_noHelp 23 = .ok (.goto (-16), 3) := by decide +kernel
theorem dX6_noHelp_26 : decode cX6_noHelp 26 = .ok (.return_, 1) := by decide +kernel
theorem dX6_cells_0 : decode cX6_cells 0 = .ok (.iload_n 1, 1) := by decide +kernel
theorem dX6_cells_1 : decode cX6_cells 1 = .ok (.iconst 4, 1) := by decide +kernel
theorem dX6_cells_2 : decode cX6_cells 2 = .ok (.bipush 14, 2) := by decide +kernel
theorem dX6_cells_4 : decode cX6_cells 4 = .ok (.invokestatic 90, 3) := by decide +kernel
theorem dX6_cells_7 : decode cX6_cells 7 = .ok (.istore_n 2, 1) := by decide +kernel
theorem dX6_cells_8 : decode cX6_cells 8 = .ok (.iload_n 2, 1) := by decide +kernel
theorem dX6_cells_9 : decode cX6_cells 9 = .ok (.ifCond .eq 9, 3) := by decide +kernel
theorem dX6_cells_12 : decode cX6_cells 12 = .ok (.aload_n 0, 1) := by decide +kernel
theorem dX6_cells_13 : decode cX6_cells 13 = .ok (.iload_n 2, 1) := by decide +kernel
theorem dX6_cells_14 : decode cX6_cells 14 = .ok (.invokevirtual 94, 3) := by decide +kernel
theorem dX6_cells_17 : decode cX6_cells 17 = .ok (.ireturn, 1) := by decide +kernel
theorem dX6_cells_18 : decode cX6_cells 18 = .ok (.aload_n 0, 1) := by decide +kernel
theorem dX6_cells_19 : decode cX6_cells 19 = .ok (.getfield 44, 3) := by decide +kernel
theorem dX6_cells_22 : decode cX6_cells 22 = .ok (.istore_n 3, 1) := by decide +kernel
theorem dX6_cells_23 : decode cX6_cells 23 = .ok (.aload_n 0, 1) := by decide +kernel
theorem dX6_cells_24 : decode cX6_cells 24 = .ok (.iload_n 1, 1) := by decide +kernel
theorem dX6_cells_25 : decode cX6_cells 25 = .ok (.putfield 44, 3) := by decide +kernel
theorem dX6_cells_28 : decode cX6_cells 28 = .ok (.aload_n 0, 1) := by decide +kernel
theorem dX6_cells_29 : decode cX6_cells 29 = .ok (.iconst 0, 1) := by decide +kernel
theorem dX6_cells_30 : decode cX6_cells 30 = .ok (.putfield 98, 3) := by decide +kernel
theorem dX6_cells_33 : decode cX6_cells 33 = .ok (.aload_n 0, 1) := by decide +kernel
theorem dX6_cells_34 : decode cX6_cells 34 = .ok (.iconst 0, 1) := by decide +kernel
theorem dX6_cells_35 : decode cX6_cells 35 = .ok (.putfield 77, 3) := by decide +kernel
theorem dX6_cells_38 : decode cX6_cells 38 = .ok (.aload_n 0, 1) := by decide +kernel
theorem dX6_cells_39 : decode cX6_cells 39 = .ok (.invokevirtual 101, 3) := by decide +kernel
theorem dX6_cells_42 : decode cX6_cells 42 = .ok (.iload_n 3, 1) := by decide +kernel
theorem dX6_cells_43 : decode cX6_cells 43 = .ok (.ireturn, 1) := by decide +kernel
theorem dX6_chip_0 : decode cX6_chip 0 = .ok (.aload_n 0, 1) := by decide +kernel
theorem dX6_chip_1 : decode cX6_chip 1 = .ok (.iload_n 1, 1) := by decide +kernel
theorem dX6_chip_2 : decode cX6_chip 2 = .ok (.invokevirtual 104, 3) := by decide +kernel
theorem dX6_chip_5 : decode cX6_chip 5 = .ok (.ifCond .ne 9, 3) := by decide +kernel
theorem dX6_chip_8 : decode cX6_chip 8 = .ok (.aload_n 0, 1) := by decide +kernel
theorem dX6_chip_9 : decode cX6_chip 9 = .ok (.iconst (-1), 1) := by decide +kernel
theorem dX6_chip_10 : decode cX6_chip 10 = .ok (.invokevirtual 94, 3) := by decide +kernel
theorem dX6_chip_13 : decode cX6_chip 13 = .ok (.ireturn, 1) := by decide +kernel
theorem dX6_chip_14 : decode cX6_chip 14 = .ok (.aload_n 0, 1) := by decide +kernel
theorem dX6_chip_15 : decode cX6_chip 15 = .ok (.getfield 98, 3) := by decide +kernel
theorem dX6_chip_18 : decode cX6_chip 18 = .ok (.bipush 8, 2) := by decide +kernel
theorem dX6_chip_20 : decode cX6_chip 20 = .ok (.if_icmp .ne 10, 3) := by decide +kernel
theorem dX6_chip_23 : decode cX6_chip 23 = .ok (.aload_n 0, 1) := by decide +kernel
theorem dX6_chip_24 : decode cX6_chip 24 = .ok (.bipush (-6), 2) := by decide +kernel
theorem dX6_chip_26 : decode cX6_chip 26 = .ok (.invokevirtual 94, 3) := by decide +kernel
theorem dX6_chip_29 : decode cX6_chip 29 = .ok (.ireturn, 1) := by decide +kernel
theorem dX6_chip_30 : decode cX6_chip 30 = .ok (.aload_n 0, 1) := by decide +kernel
theorem dX6_chip_31 : decode cX6_chip 31 = .ok (.getfield 22, 3) := by decide +kernel
theorem dX6_chip_34 : decode cX6_chip 34 = .ok (.aload_n 0, 1) := by decide +kernel
theorem dX6_chip_35 : decode cX6_chip 35 = .ok (.getfield 98, 3) := by decide +kernel
theorem dX6_chip_38 : decode cX6_chip 38 = .ok (.iload_n 1, 1) := by decide +kernel
theorem dX6_chip_39 : decode cX6_chip 39 = .ok (.iastore, 1) := by decide +kernel
theorem dX6_chip_40 : decode cX6_chip 40 = .ok (.aload_n 0, 1) := by decide +kernel
theorem dX6_chip_41 : decode cX6_chip 41 = .ok (.getfield 37, 3) := by decide +kernel
theorem dX6_chip_44 : decode cX6_chip 44 = .ok (.aload_n 0, 1) := by decide +kernel
theorem dX6_chip_45 : decode cX6_chip 45 = .ok (.getfield 98, 3) := by decide +kernel
theorem dX6_chip_48 : decode cX6_chip 48 = .ok (.iconst 0, 1) := by decide +kernel
theorem dX6_chip_49 : decode cX6_chip 49 = .ok (.bastore, 1) := by decide +kernel
theorem dX6_chip_50 : decode cX6_chip 50 = .ok (.aload_n 0, 1) := by decide +kernel
theorem dX6_chip_51 : decode cX6_chip 51 = .ok (.dup, 1) := by decide +kernel
theorem dX6_chip_52 : decode cX6_chip 52 = .ok (.getfield 98, 3) := by decide +kernel
theorem dX6_chip_55 : decode cX6_chip 55 = .ok (.iconst 1, 1) := by decide +kernel
theorem dX6_chip_56 : decode cX6_chip 56 = .ok (.iadd, 1) := by decide +kernel
theorem dX6_chip_57 : decode cX6_chip 57 = .ok (.putfield 98, 3) := by decide +kernel
theorem dX6_chip_60 : decode cX6_chip 60 = .ok (.aload_n 0, 1) := by decide +kernel
theorem dX6_chip_61 : decode cX6_chip 61 = .ok (.getfield 98, 3) := by decide +kernel
theorem dX6_chip_64 : decode cX6_chip 64 = .ok (.iconst 1, 1) := by decide +kernel
theorem dX6_chip_65 : decode cX6_chip 65 = .ok (.isub, 1) := by decide +kernel
theorem dX6_chip_66 : decode cX6_chip 66 = .ok (.ireturn, 1) := by decide +kernel
theorem dX6_set_0 : decode cX6_set 0 = .ok (.iload_n 1, 1) := by decide +kernel
theorem dX6_set_1 : decode cX6_set 1 = .ok (.bipush 14, 2) := by decide +kernel
theorem dX6_set_3 : decode cX6_set 3 = .ok (.invokestatic 73, 3) := by decide +kernel
theorem dX6_set_6 : decode cX6_set 6 = .ok (.ifCond .ne 7, 3) := by decide +kernel
theorem dX6_set_9 : decode cX6_set 9 = .ok (.iconst (-1), 1) := by decide +kernel
theorem dX6_set_10 : decode cX6_set 10 = .ok (.goto 41, 3) := by decide +kernel
theorem dX6_set_13 : decode cX6_set 13 = .ok (.iload_n 2, 1) := by decide +kernel
theorem dX6_set_14 : decode cX6_set 14 = .ok (.iconst 3, 1) := by decide +kernel
theorem dX6_set_15 : decode cX6_set 15 = .ok (.invokestatic 73, 3) := by decide +kernel
theorem dX6_set_18 : decode cX6_set 18 = .ok (.ifCond .ne 8, 3) := by decide +kernel
theorem dX6_set_21 : decode cX6_set 21 = .ok (.bipush (-2), 2) := by decide +kernel
theorem dX6_set_23 : decode cX6_set 23 = .ok (.goto 28, 3) := by decide +kernel
theorem dX6_set_26 : decode cX6_set 26 = .ok (.iload_n 3, 1) := by decide +kernel
theorem dX6_set_27 : decode cX6_set 27 = .ok (.iload_n 2, 1) := by decide +kernel
theorem dX6_set_28 : decode cX6_set 28 = .ok (.iconst 2, 1) := by decide +kernel
theorem dX6_set_29 : decode cX6_set 29 = .ok (.if_icmp .ne 7, 3) := by decide +kernel
theorem dX6_set_32 : decode cX6_set 32 = .ok (.iconst 1, 1) := by decide +kernel
theorem dX6_set_33 : decode cX6_set 33 = .ok (.goto 4, 3) := by decide +kernel
theorem dX6_set_36 : decode cX6_set 36 = .ok (.iconst 0, 1) := by decide +kernel
theorem dX6_set_37 : decode cX6_set 37 = .ok (.iload_n 2, 1) := by decide +kernel
theorem dX6_set_38 : decode cX6_set 38 = .ok (.iconst 2, 1) := by decide +kernel
theorem dX6_set_39 : decode cX6_set 39 = .ok (.if_icmp .ne 8, 3) := by decide +kernel
theorem dX6_set_42 : decode cX6_set 42 = .ok (.bipush 7, 2) := by decide +kernel
theorem dX6_set_44 : decode cX6_set 44 = .ok (.goto 4, 3) := by decide +kernel
theorem dX6_set_47 : decode cX6_set 47 = .ok (.iconst 4, 1) := by decide +kernel
theorem dX6_set_48 : decode cX6_set 48 = .ok (.invokestatic 90, 3) := by decide +kernel
theorem dX6_set_51 : decode cX6_set 51 = .ok (.istore 4, 2) := by decide +kernel
theorem dX6_set_53 : decode cX6_set 53 = .ok (.iload 4, 2) := by decide +kernel
theorem dX6_set_55 : decode cX6_set 55 = .ok (.ifCond .eq 10, 3) := by decide +kernel
theorem dX6_set_58 : decode cX6_set 58 = .ok (.aload_n 0, 1) := by decide +kernel
theorem dX6_set_59 : decode cX6_set 59 = .ok (.iload 4, 2) := by decide +kernel
theorem dX6_set_61 : decode cX6_set 61 = .ok (.invokevirtual 94, 3) := by decide +kernel
theorem dX6_set_64 : decode cX6_set 64 = .ok (.ireturn, 1) := by decide +kernel
theorem dX6_set_65 : decode cX6_set 65 = .ok (.iload_n 2, 1) := by decide +kernel
theorem dX6_set_66 : decode cX6_set 66 = .ok (.ifCond .ne 12, 3) := by decide +kernel
theorem dX6_set_69 : decode cX6_set 69 = .ok (.aload_n 0, 1) := by decide +kernel
theorem dX6_set_70 : decode cX6_set 70 = .ok (.getfield 13, 3) := by decide +kernel
theorem dX6_set_73 : decode cX6_set 73 = .ok (.iload_n 1, 1) := by decide +kernel
theorem dX6_set_74 : decode cX6_set 74 = .ok (.iaload, 1) := by decide +kernel
theorem dX6_set_75 : decode cX6_set 75 = .ok (.goto 23, 3) := by decide +kernel
theorem dX6_set_78 : decode cX6_set 78 = .ok (.iload_n 2, 1) := by decide +kernel
theorem dX6_set_79 : decode cX6_set 79 = .ok (.iconst 1, 1) := by decide +kernel
theorem dX6_set_80 : decode cX6_set 80 = .ok (.if_icmp .ne 12, 3) := by decide +kernel
theorem dX6_set_83 : decode cX6_set 83 = .ok (.aload_n 0, 1) := by decide +kernel
theorem dX6_set_84 : decode cX6_set 84 = .ok (.getfield 16, 3) := by decide +kernel
theorem dX6_set_87 : decode cX6_set 87 = .ok (.iload_n 1, 1) := by decide +kernel
theorem dX6_set_88 : decode cX6_set 88 = .ok (.iaload, 1) := by decide +kernel
theorem dX6_set_89 : decode cX6_set 89 = .ok (.goto 9, 3) := by decide +kernel
theorem dX6_set_92 : decode cX6_set 92 = .ok (.aload_n 0, 1) := by decide +kernel
theorem dX6_set_93 : decode cX6_set 93 = .ok (.getfield 19, 3) := by decide +kernel
theorem dX6_set_96 : decode cX6_set 96 = .ok (.iload_n 1, 1) := by decide +kernel
theorem dX6_set_97 : decode cX6_set 97 = .ok (.iaload, 1) := by decide +kernel
theorem dX6_set_98 : decode cX6_set 98 = .ok (.istore 5, 2) := by decide +kernel
theorem dX6_set_100 : decode cX6_set 100 = .ok (.iload_n 2, 1) := by decide +kernel
theorem dX6_set_101 : decode cX6_set 101 = .ok (.ifCond .ne 13, 3) := by decide +kernel
theorem dX6_set_104 : decode cX6_set 104 = .ok (.aload_n 0, 1) := by decide +kernel
theorem dX6_set_105 : decode cX6_set 105 = .ok (.getfield 13, 3) := by decide +kernel
theorem dX6_set_108 : decode cX6_set 108 = .ok (.iload_n 1, 1) := by decide +kernel
theorem dX6_set_109 : decode cX6_set 109 = .ok (.iload_n 3, 1) := by decide +kernel
theorem dX6_set_110 : decode cX6_set 110 = .ok (.iastore, 1) := by decide +kernel
theorem dX6_set_111 : decode cX6_set 111 = .ok (.goto 25, 3) := by decide +kernel
theorem dX6_set_114 : decode cX6_set 114 = .ok (.iload_n 2, 1) := by decide +kernel
theorem dX6_set_115 : decode cX6_set 115 = .ok (.iconst 1, 1) := by decide +kernel
theorem dX6_set_116 : decode cX6_set 116 = .ok (.if_icmp .ne 13, 3) := by decide +kernel
theorem dX6_set_119 : decode cX6_set 119 = .ok (.aload_n 0, 1) := by decide +kernel
theorem dX6_set_120 : decode cX6_set 120 = .ok (.getfield 16, 3) := by decide +kernel
theorem dX6_set_123 : decode cX6_set 123 = .ok (.iload_n 1, 1) := by decide +kernel
theorem dX6_set_124 : decode cX6_set 124 = .ok (.iload_n 3, 1) := by decide +kernel
theorem dX6_set_125 : decode cX6_set 125 = .ok (.iastore, 1) := by decide +kernel
theorem dX6_set_126 : decode cX6_set 126 = .ok (.goto 10, 3) := by decide +kernel
theorem dX6_set_129 : decode cX6_set 129 = .ok (.aload_n 0, 1) := by decide +kernel
theorem dX6_set_130 : decode cX6_set 130 = .ok (.getfield 19, 3) := by decide +kernel
theorem dX6_set_133 : decode cX6_set 133 = .ok (.iload_n 1, 1) := by decide +kernel
theorem dX6_set_134 : decode cX6_set 134 = .ok (.iload_n 3, 1) := by decide +kernel
theorem dX6_set_135 : decode cX6_set 135 = .ok (.iastore, 1) := by decide +kernel
theorem dX6_set_136 : decode cX6_set 136 = .ok (.iload 5, 2) := by decide +kernel
theorem dX6_set_138 : decode cX6_set 138 = .ok (.ireturn, 1) := by decide +kernel
theorem dX6_worn_0 : decode cX6_worn 0 = .ok (.iconst 4, 1) := by decide +kernel
theorem dX6_worn_1 : decode cX6_worn 1 = .ok (.aload_n 0, 1) := by decide +kernel
theorem dX6_worn_2 : decode cX6_worn 2 = .ok (.getfield 13, 3) := by decide +kernel
theorem dX6_worn_5 : decode cX6_worn 5 = .ok (.iload_n 1, 1) := by decide +kernel
theorem dX6_worn_6 : decode cX6_worn 6 = .ok (.iaload, 1) := by decide +kernel
theorem dX6_worn_7 : decode cX6_worn 7 = .ok (.aload_n 0, 1) := by decide +kernel
theorem dX6_worn_8 : decode cX6_worn 8 = .ok (.getfield 16, 3) := by decide +kernel
theorem dX6_worn_11 : decode cX6_worn 11 = .ok (.iload_n 1, 1) := by decide +kernel
theorem dX6_worn_12 : decode cX6_worn 12 = .ok (.iaload, 1) := by decide +kernel
theorem dX6_worn_13 : decode cX6_worn 13 = .ok (.iload_n 2, 1) := by decide +kernel
theorem dX6_worn_14 : decode cX6_worn 14 = .ok (.imul, 1) := by decide +kernel
theorem dX6_worn_15 : decode cX6_worn 15 = .ok (.bipush 10, 2) := by decide +kernel
theorem dX6_worn_17 : decode cX6_worn 17 = .ok (.idiv, 1) := by decide +kernel
theorem dX6_worn_18 : decode cX6_worn 18 = .ok (.iadd, 1) := by decide +kernel
theorem dX6_worn_19 : decode cX6_worn 19 = .ok (.invokestatic 108, 3) := by decide +kernel
theorem dX6_worn_22 : decode cX6_worn 22 = .ok (.ireturn, 1) := by decide +kernel
theorem dX6_chanceOf_0 : decode cX6_chanceOf 0 = .ok (.aload_n 0, 1) := by decide +kernel
theorem dX6_chanceOf_1 : decode cX6_chanceOf 1 = .ok (.getfield 77, 3) := by decide +kernel
theorem dX6_chanceOf_4 : decode cX6_chanceOf 4 = .ok (.iload_n 1, 1) := by decide +kernel
theorem dX6_chanceOf_5 : decode cX6_chanceOf 5 = .ok (.ishr, 1) := by decide +kernel
theorem dX6_chanceOf_6 : decode cX6_chanceOf 6 = .ok (.iconst 1, 1) := by decide +kernel
theorem dX6_chanceOf_7 : decode cX6_chanceOf 7 = .ok (.iand, 1) := by decide +kernel
theorem dX6_chanceOf_8 : decode cX6_chanceOf 8 = .ok (.iconst 1, 1) := by decide +kernel
theorem dX6_chanceOf_9 : decode cX6_chanceOf 9 = .ok (.if_icmp .ne 7, 3) := by decide +kernel
theorem dX6_chanceOf_12 : decode cX6_chanceOf 12 = .ok (.iconst 0, 1) := by decide +kernel
theorem dX6_chanceOf_13 : decode cX6_chanceOf 13 = .ok (.goto 9, 3) := by decide +kernel
theorem dX6_chanceOf_16 : decode cX6_chanceOf 16 = .ok (.aload_n 0, 1) := by decide +kernel
theorem dX6_chanceOf_17 : decode cX6_chanceOf 17 = .ok (.iload_n 1, 1) := by decide +kernel
theorem dX6_chanceOf_18 : decode cX6_chanceOf 18 = .ok (.iload_n 2, 1) := by decide +kernel
theorem dX6_chanceOf_19 : decode cX6_chanceOf 19 = .ok (.invokevirtual 114, 3) := by decide +kernel
theorem dX6_chanceOf_22 : decode cX6_chanceOf 22 = .ok (.ireturn, 1) := by decide +kernel
theorem dX6_chance_0 : decode cX6_chance 0 = .ok (.iload_n 1, 1) := by decide +kernel
theorem dX6_chance_1 : decode cX6_chance 1 = .ok (.aload_n 0, 1) := by decide +kernel
theorem dX6_chance_2 : decode cX6_chance 2 = .ok (.getfield 44, 3) := by decide +kernel
theorem dX6_chance_5 : decode cX6_chance 5 = .ok (.invokestatic 73, 3) := by decide +kernel
theorem dX6_chance_8 : decode cX6_chance 8 = .ok (.ifCond .eq 13, 3) := by decide +kernel
theorem dX6_chance_11 : decode cX6_chance 11 = .ok (.iload_n 2, 1) := by decide +kernel
theorem dX6_chance_12 : decode cX6_chance 12 = .ok (.iconst 0, 1) := by decide +kernel
theorem dX6_chance_13 : decode cX6_chance 13 = .ok (.bipush 40, 2) := by decide +kernel
theorem dX6_chance_15 : decode cX6_chance 15 = .ok (.invokestatic 90, 3) := by decide +kernel
theorem dX6_chance_18 : decode cX6_chance 18 = .ok (.goto 4, 3) := by decide +kernel
theorem dX6_chance_21 : decode cX6_chance 21 = .ok (.iconst (-1), 1) := by decide +kernel
theorem dX6_chance_22 : decode cX6_chance 22 = .ok (.istore_n 3, 1) := by decide +kernel
theorem dX6_chance_23 : decode cX6_chance 23 = .ok (.iload_n 3, 1) := by decide +kernel
theorem dX6_chance_24 : decode cX6_chance 24 = .ok (.ifCond .eq 11, 3) := by decide +kernel
theorem dX6_chance_27 : decode cX6_chance 27 = .ok (.aload_n 0, 1) := by decide +kernel
theorem dX6_chance_28 : decode cX6_chance 28 = .ok (.iload_n 3, 1) := by decide +kernel
theorem dX6_chance_29 : decode cX6_chance 29 = .ok (.invokevirtual 94, 3) := by decide +kernel
theorem dX6_chance_32 : decode cX6_chance 32 = .ok (.goto 9, 3) := by decide +kernel
theorem dX6_chance_35 : decode cX6_chance 35 = .ok (.aload_n 0, 1) := by decide +kernel
theorem dX6_chance_36 : decode cX6_chance 36 = .ok (.iload_n 1, 1) := by decide +kernel
theorem dX6_chance_37 : decode cX6_chance 37 = .ok (.iload_n 2, 1) := by decide +kernel
theorem dX6_chance_38 : decode cX6_chance 38 = .ok (.invokevirtual 117, 3) := by decide +kernel
theorem dX6_chance_41 : decode cX6_chance 41 = .ok (.ireturn, 1) := by decide +kernel
theorem dX6_masks_0 : decode cX6_masks 0 = .ok (.iload_n 1, 1) := by decide +kernel
theorem dX6_masks_1 : decode cX6_masks 1 = .ok (.aload_n 0, 1) := by decide +kernel
theorem dX6_masks_2 : decode cX6_masks 2 = .ok (.getfield 77, 3) := by decide +kernel
theorem dX6_masks_5 : decode cX6_masks 5 = .ok (.if_icmp .ne 4, 3) := by decide +kernel
theorem dX6_masks_8 : decode cX6_masks 8 = .ok (.return_, 1) := by decide +kernel
theorem dX6_masks_9 : decode cX6_masks 9 = .ok (.aload_n 0, 1) := by decide +kernel
theorem dX6_masks_10 : decode cX6_masks 10 = .ok (.iload_n 1, 1) := by decide +kernel
theorem dX6_masks_11 : decode cX6_masks 11 = .ok (.putfield 77, 3) := by decide +kernel
theorem dX6_masks_14 : decode cX6_masks 14 = .ok (.aload_n 0, 1) := by decide +kernel
theorem dX6_masks_15 : decode cX6_masks 15 = .ok (.invokevirtual 101, 3) := by decide +kernel
theorem dX6_masks_18 : decode cX6_masks 18 = .ok (.return_, 1) := by decide +kernel
theorem dX6_mask_0 : decode cX6_mask 0 = .ok (.aload_n 0, 1) := by decide +kernel
theorem dX6_mask_1 : decode cX6_mask 1 = .ok (.iload_n 1, 1) := by decide +kernel
theorem dX6_mask_2 : decode cX6_mask 2 = .ok (.invokevirtual 104, 3) := by decide +kernel
theorem dX6_mask_5 : decode cX6_mask 5 = .ok (.ifCond .ne 9, 3) := by decide +kernel
theorem dX6_mask_8 : decode cX6_mask 8 = .ok (.aload_n 0, 1) := by decide +kernel
theorem dX6_mask_9 : decode cX6_mask 9 = .ok (.iconst (-1), 1) := by decide +kernel
theorem dX6_mask_10 : decode cX6_mask 10 = .ok (.invokevirtual 94, 3) := by decide +kernel
theorem dX6_mask_13 : decode cX6_mask 13 = .ok (.ireturn, 1) := by decide +kernel
theorem dX6_mask_14 : decode cX6_mask 14 = .ok (.aload_n 0, 1) := by decide +kernel
theorem dX6_mask_15 : decode cX6_mask 15 = .ok (.getfield 77, 3) := by decide +kernel
theorem dX6_mask_18 : decode cX6_mask 18 = .ok (.istore_n 2, 1) := by decide +kernel
theorem dX6_mask_19 : decode cX6_mask 19 = .ok (.aload_n 0, 1) := by decide +kernel
theorem dX6_mask_20 : decode cX6_mask 20 = .ok (.iload_n 1, 1) := by decide +kernel
theorem dX6_mask_21 : decode cX6_mask 21 = .ok (.invokevirtual 120, 3) := by decide +kernel
theorem dX6_mask_24 : decode cX6_mask 24 = .ok (.iload_n 2, 1) := by decide +kernel
theorem dX6_mask_25 : decode cX6_mask 25 = .ok (.ireturn, 1) := by decide +kernel
theorem dX6_maskBy_0 : decode cX6_maskBy 0 = .ok (.iload_n 1, 1) := by decide +kernel
theorem dX6_maskBy_1 : decode cX6_maskBy 1 = .ok (.ifCond .lt 7, 3) := by decide +kernel
theorem dX6_maskBy_4 : decode cX6_maskBy 4 = .ok (.iload_n 2, 1) := by decide +kernel
theorem dX6_maskBy_5 : decode cX6_maskBy 5 = .ok (.ifCond .ge 10, 3) := by decide +kernel
theorem dX6_maskBy_8 : decode cX6_maskBy 8 = .ok (.aload_n 0, 1) := by decide +kernel
theorem dX6_maskBy_9 : decode cX6_maskBy 9 = .ok (.bipush (-4), 2) := by decide +kernel
theorem dX6_maskBy_11 : decode cX6_maskBy 11 = .ok (.invokevirtual 94, 3) := by decide +kernel
theorem dX6_maskBy_14 : decode cX6_maskBy 14 = .ok (.ireturn, 1) := by decide +kernel
theorem dX6_maskBy_15 : decode cX6_maskBy 15 = .ok (.iload_n 1, 1) := by decide +kernel
theorem dX6_maskBy_16 : decode cX6_maskBy 16 = .ok (.bipush 40, 2) := by decide +kernel
theorem dX6_maskBy_18 : decode cX6_maskBy 18 = .ok (.if_icmp .gt 8, 3) := by decide +kernel
theorem dX6_maskBy_21 : decode cX6_maskBy 21 = .ok (.iload_n 2, 1) := by decide +kernel
theorem dX6_maskBy_22 : decode cX6_maskBy 22 = .ok (.iconst 4, 1) := by decide +kernel
theorem dX6_maskBy_23 : decode cX6_maskBy 23 = .ok (.if_icmp .le 10, 3) := by decide +kernel
theorem dX6_maskBy_26 : decode cX6_maskBy 26 = .ok (.aload_n 0, 1) := by decide +kernel
theorem dX6_maskBy_27 : decode cX6_maskBy 27 = .ok (.bipush (-6), 2) := by decide +kernel
theorem dX6_maskBy_29 : decode cX6_maskBy 29 = .ok (.invokevirtual 94, 3) := by decide +kernel
theorem dX6_maskBy_32 : decode cX6_maskBy 32 = .ok (.ireturn, 1) := by decide +kernel
theorem dX6_maskBy_33 : decode cX6_maskBy 33 = .ok (.iconst 0, 1) := by decide +kernel
theorem dX6_maskBy_34 : decode cX6_maskBy 34 = .ok (.istore_n 3, 1) := by decide +kernel
theorem dX6_maskBy_35 : decode cX6_maskBy 35 = .ok (.iconst 0, 1) := by decide +kernel
theorem dX6_maskBy_36 : decode cX6_maskBy 36 = .ok (.istore 4, 2) := by decide +kernel
theorem dX6_maskBy_38 : decode cX6_maskBy 38 = .ok (.iload 4, 2) := by decide +kernel
theorem dX6_maskBy_40 : decode cX6_maskBy 40 = .ok (.aload_n 0, 1) := by decide +kernel
theorem dX6_maskBy_41 : decode cX6_maskBy 41 = .ok (.getfield 44, 3) := by decide +kernel
theorem dX6_maskBy_44 : decode cX6_maskBy 44 = .ok (.if_icmp .ge 27, 3) := by decide +kernel
theorem dX6_maskBy_47 : decode cX6_maskBy 47 = .ok (.aload_n 0, 1) := by decide +kernel
theorem dX6_maskBy_48 : decode cX6_maskBy 48 = .ok (.iload 4, 2) := by decide +kernel
theorem dX6_maskBy_50 : decode cX6_maskBy 50 = .ok (.iload_n 1, 1) := by decide +kernel
theorem dX6_maskBy_51 : decode cX6_maskBy 51 = .ok (.invokevirtual 114, 3) := by decide +kernel
theorem dX6_maskBy_54 : decode cX6_maskBy 54 = .ok (.iload_n 2, 1) := by decide +kernel
theorem dX6_maskBy_55 : decode cX6_maskBy 55 = .ok (.if_icmp .le 10, 3) := by decide +kernel
theorem dX6_maskBy_58 : decode cX6_maskBy 58 = .ok (.iload_n 3, 1) := by decide +kernel
theorem dX6_maskBy_59 : decode cX6_maskBy 59 = .ok (.iconst 1, 1) := by decide +kernel
theorem dX6_maskBy_60 : decode cX6_maskBy 60 = .ok (.iload 4, 2) := by decide +kernel
theorem dX6_maskBy_62 : decode cX6_maskBy 62 = .ok (.ishl, 1) := by decide +kernel
theorem dX6_maskBy_63 : decode cX6_maskBy 63 = .ok (.ior, 1) := by decide +kernel
theorem dX6_maskBy_64 : decode cX6_maskBy 64 = .ok (.istore_n 3, 1) := by decide +kernel
theorem dX6_maskBy_65 : decode cX6_maskBy 65 = .ok (.iinc 4 1, 3) := by decide +kernel
theorem dX6_maskBy_68 : decode cX6_maskBy 68 = .ok (.goto (-30), 3) := by decide +kernel
theorem dX6_maskBy_71 : decode cX6_maskBy 71 = .ok (.aload_n 0, 1) := by decide +kernel
theorem dX6_maskBy_72 : decode cX6_maskBy 72 = .ok (.iload_n 3, 1) := by decide +kernel
theorem dX6_maskBy_73 : decode cX6_maskBy 73 = .ok (.invokevirtual 120, 3) := by decide +kernel
theorem dX6_maskBy_76 : decode cX6_maskBy 76 = .ok (.iload_n 3, 1) := by decide +kernel
theorem dX6_maskBy_77 : decode cX6_maskBy 77 = .ok (.ireturn, 1) := by decide +kernel
theorem dX6_codewordOf_0 : decode cX6_codewordOf 0 = .ok (.iconst 0, 1) := by decide +kernel
theorem dX6_codewordOf_1 : decode cX6_codewordOf 1 = .ok (.istore_n 2, 1) := by decide +kernel
theorem dX6_codewordOf_2 : decode cX6_codewordOf 2 = .ok (.iconst 0, 1) := by decide +kernel
theorem dX6_codewordOf_3 : decode cX6_codewordOf 3 = .ok (.istore_n 3, 1) := by decide +kernel
theorem dX6_codewordOf_4 : decode cX6_codewordOf 4 = .ok (.iload_n 3, 1) := by decide +kernel
theorem dX6_codewordOf_5 : decode cX6_codewordOf 5 = .ok (.aload_n 0, 1) := by decide +kernel
theorem dX6_codewordOf_6 : decode cX6_codewordOf 6 = .ok (.getfield 80, 3) := by decide +kernel
theorem dX6_codewordOf_9 : decode cX6_codewordOf 9 = .ok (.if_icmp .ge 27, 3) := by decide +kernel
theorem dX6_codewordOf_12 : decode cX6_codewordOf 12 = .ok (.iload_n 1, 1) := by decide +kernel
theorem dX6_codewordOf_13 : decode cX6_codewordOf 13 = .ok (.iload_n 3, 1) := by decide +kernel
theorem dX6_codewordOf_14 : decode cX6_codewordOf 14 = .ok (.ishr, 1) := by decide +kernel
theorem dX6_codewordOf_15 : decode cX6_codewordOf 15 = .ok (.iconst 1, 1) := by decide +kernel
theorem dX6_codewordOf_16 : decode cX6_codewordOf 16 = .ok (.iand, 1) := by decide +kernel
theorem dX6_codewordOf_17 : decode cX6_codewordOf 17 = .ok (.iconst 1, 1) := by decide +kernel
theorem dX6_codewordOf_18 : decode cX6_codewordOf 18 = .ok (.if_icmp .ne 12, 3) := by decide +kernel
theorem dX6_codewordOf_21 : decode cX6_codewordOf 21 = .ok (.iload_n 2, 1) := by decide +kernel
theorem dX6_codewordOf_22 : decode cX6_codewordOf 22 = .ok (.aload_n 0, 1) := by decide +kernel
theorem dX6_codewordOf_23 : decode cX6_codewordOf 23 = .ok (.getfield 31, 3) := by decide +kernel
theorem dX6_codewordOf_26 : decode cX6_codewordOf 26 = .ok (.iload_n 3, 1) := by decide +kernel
theorem dX6_codewordOf_27 : decode cX6_codewordOf 27 = .ok (.iaload, 1) := by decide +kernel
theorem dX6_codewordOf_28 : decode cX6_codewordOf 28 = .ok (.ixor, 1) := by decide +kernel
theorem dX6_codewordOf_29 : decode cX6_codewordOf 29 = .ok (.istore_n 2, 1) := by decide +kernel
theorem dX6_codewordOf_30 : decode cX6_codewordOf 30 = .ok (.iinc 3 1, 3) := by decide +kernel
theorem dX6_codewordOf_33 : decode cX6_codewordOf 33 = .ok (.goto (-29), 3) := by decide +kernel
theorem dX6_codewordOf_36 : decode cX6_codewordOf 36 = .ok (.iload_n 2, 1) := by decide +kernel
theorem dX6_codewordOf_37 : decode cX6_codewordOf 37 = .ok (.ireturn, 1) := by decide +kernel
theorem dX6_row_0 : decode cX6_row 0 = .ok (.aload_n 0, 1) := by decide +kernel
theorem dX6_row_1 : decode cX6_row 1 = .ok (.iload_n 1, 1) := by decide +kernel
theorem dX6_row_2 : decode cX6_row 2 = .ok (.invokevirtual 104, 3) := by decide +kernel
theorem dX6_row_5 : decode cX6_row 5 = .ok (.ifCond .ne 9, 3) := by decide +kernel
theorem dX6_row_8 : decode cX6_row 8 = .ok (.aload_n 0, 1) := by decide +kernel
theorem dX6_row_9 : decode cX6_row 9 = .ok (.iconst (-1), 1) := by decide +kernel
theorem dX6_row_10 : decode cX6_row 10 = .ok (.invokevirtual 94, 3) := by decide +kernel
theorem dX6_row_13 : decode cX6_row 13 = .ok (.ireturn, 1) := by decide +kernel
theorem dX6_row_14 : decode cX6_row 14 = .ok (.iload_n 1, 1) := by decide +kernel
theorem dX6_row_15 : decode cX6_row 15 = .ok (.aload_n 0, 1) := by decide +kernel
theorem dX6_row_16 : decode cX6_row 16 = .ok (.invokevirtual 124, 3) := by decide +kernel
theorem dX6_row_19 : decode cX6_row 19 = .ok (.iand, 1) := by decide +kernel
theorem dX6_row_20 : decode cX6_row 20 = .ok (.istore_n 2, 1) := by decide +kernel
theorem dX6_row_21 : decode cX6_row 21 = .ok (.iconst 0, 1) := by decide +kernel
theorem dX6_row_22 : decode cX6_row 22 = .ok (.istore_n 3, 1) := by decide +kernel
theorem dX6_row_23 : decode cX6_row 23 = .ok (.iload_n 3, 1) := by decide +kernel
theorem dX6_row_24 : decode cX6_row 24 = .ok (.iconst 1, 1) := by decide +kernel
theorem dX6_row_25 : decode cX6_row 25 = .ok (.aload_n 0, 1) := by decide +kernel
theorem dX6_row_26 : decode cX6_row 26 = .ok (.getfield 80, 3) := by decide +kernel
theorem dX6_row_29 : decode cX6_row 29 = .ok (.ishl, 1) := by decide +kernel
theorem dX6_row_30 : decode cX6_row 30 = .ok (.if_icmp .ge 25, 3) := by decide +kernel
theorem dX6_row_33 : decode cX6_row 33 = .ok (.aload_n 0, 1) := by decide +kernel
theorem dX6_row_34 : decode cX6_row 34 = .ok (.iload_n 3, 1) := by decide +kernel
theorem dX6_row_35 : decode cX6_row 35 = .ok (.invokevirtual 128, 3) := by decide +kernel
theorem dX6_row_38 : decode cX6_row 38 = .ok (.iload_n 2, 1) := by decide +kernel
theorem dX6_row_39 : decode cX6_row 39 = .ok (.if_icmp .ne 10, 3) := by decide +kernel
theorem dX6_row_42 : decode cX6_row 42 = .ok (.aload_n 0, 1) := by decide +kernel
theorem dX6_row_43 : decode cX6_row 43 = .ok (.bipush (-3), 2) := by decide +kernel
theorem dX6_row_45 : decode cX6_row 45 = .ok (.invokevirtual 94, 3) := by decide +kernel
theorem dX6_row_48 : decode cX6_row 48 = .ok (.ireturn, 1) := by decide +kernel
theorem dX6_row_49 : decode cX6_row 49 = .ok (.iinc 3 1, 3) := by decide +kernel
theorem dX6_row_52 : decode cX6_row 52 = .ok (.goto (-29), 3) := by decide +kernel
theorem dX6_row_55 : decode cX6_row 55 = .ok (.aload_n 0, 1) := by decide +kernel
theorem dX6_row_56 : decode cX6_row 56 = .ok (.getfield 80, 3) := by decide +kernel
theorem dX6_row_59 : decode cX6_row 59 = .ok (.bipush 6, 2) := by decide +kernel
theorem dX6_row_61 : decode cX6_row 61 = .ok (.if_icmp .ne 10, 3) := by decide +kernel
theorem dX6_row_64 : decode cX6_row 64 = .ok (.aload_n 0, 1) := by decide +kernel
theorem dX6_row_65 : decode cX6_row 65 = .ok (.bipush (-6), 2) := by decide +kernel
theorem dX6_row_67 : decode cX6_row 67 = .ok (.invokevirtual 94, 3) := by decide +kernel
theorem dX6_row_70 : decode cX6_row 70 = .ok (.ireturn, 1) := by decide +kernel
theorem dX6_row_71 : decode cX6_row 71 = .ok (.aload_n 0, 1) := by decide +kernel
theorem dX6_row_72 : decode cX6_row 72 = .ok (.getfield 31, 3) := by decide +kernel
theorem dX6_row_75 : decode cX6_row 75 = .ok (.aload_n 0, 1) := by decide +kernel
theorem dX6_row_76 : decode cX6_row 76 = .ok (.getfield 80, 3) := by decide +kernel
theorem dX6_row_79 : decode cX6_row 79 = .ok (.iload_n 2, 1) := by decide +kernel
theorem dX6_row_80 : decode cX6_row 80 = .ok (.iastore, 1) := by decide +kernel
theorem dX6_row_81 : decode cX6_row 81 = .ok (.aload_n 0, 1) := by decide +kernel
theorem dX6_row_82 : decode cX6_row 82 = .ok (.dup, 1) := by decide +kernel
theorem dX6_row_83 : decode cX6_row 83 = .ok (.getfield 80, 3) := by decide +kernel
theorem dX6_row_86 : decode cX6_row 86 = .ok (.iconst 1, 1) := by decide +kernel
theorem dX6_row_87 : decode cX6_row 87 = .ok (.iadd, 1) := by decide +kernel
theorem dX6_row_88 : decode cX6_row 88 = .ok (.putfield 80, 3) := by decide +kernel
theorem dX6_row_91 : decode cX6_row 91 = .ok (.aload_n 0, 1) := by decide +kernel
theorem dX6_row_92 : decode cX6_row 92 = .ok (.invokevirtual 83, 3) := by decide +kernel
theorem dX6_row_95 : decode cX6_row 95 = .ok (.aload_n 0, 1) := by decide +kernel
theorem dX6_row_96 : decode cX6_row 96 = .ok (.getfield 80, 3) := by decide +kernel
theorem dX6_row_99 : decode cX6_row 99 = .ok (.ireturn, 1) := by decide +kernel
theorem dX6_distance_0 : decode cX6_distance 0 = .ok (.iconst 0, 1) := by decide +kernel
theorem dX6_distance_1 : decode cX6_distance 1 = .ok (.istore_n 1, 1) := by decide +kernel
theorem dX6_distance_2 : decode cX6_distance 2 = .ok (.iconst 1, 1) := by decide +kernel
theorem dX6_distance_3 : decode cX6_distance 3 = .ok (.istore_n 2, 1) := by decide +kernel
theorem dX6_distance_4 : decode cX6_distance 4 = .ok (.iload_n 2, 1) := by decide +kernel
theorem dX6_distance_5 : decode cX6_distance 5 = .ok (.iconst 1, 1) := by decide +kernel
theorem dX6_distance_6 : decode cX6_distance 6 = .ok (.aload_n 0, 1) := by decide +kernel
theorem dX6_distance_7 : decode cX6_distance 7 = .ok (.getfield 80, 3) := by decide +kernel
theorem dX6_distance_10 : decode cX6_distance 10 = .ok (.ishl, 1) := by decide +kernel
theorem dX6_distance_11 : decode cX6_distance 11 = .ok (.if_icmp .ge 29, 3) := by decide +kernel
theorem dX6_distance_14 : decode cX6_distance 14 = .ok (.aload_n 0, 1) := by decide +kernel
theorem dX6_distance_15 : decode cX6_distance 15 = .ok (.iload_n 2, 1) := by decide +kernel
theorem dX6_distance_16 : decode cX6_distance 16 = .ok (.invokevirtual 128, 3) := by decide +kernel
theorem dX6_distance_19 : decode cX6_distance 19 = .ok (.invokestatic 131, 3) := by decide +kernel
theorem dX6_distance_22 : decode cX6_distance 22 = .ok (.istore_n 3, 1) := by decide +kernel
theorem dX6_distance_23 : decode cX6_distance 23 = .ok (.iload_n 1, 1) := by decide +kernel
theorem dX6_distance_24 : decode cX6_distance 24 = .ok (.ifCond .eq 8, 3) := by decide +kernel
theorem dX6_distance_27 : decode cX6_distance 27 = .ok (.iload_n 3, 1) := by decide +kernel
theorem dX6_distance_28 : decode cX6_distance 28 = .ok (.iload_n 1, 1) := by decide +kernel
theorem dX6_distance_29 : decode cX6_distance 29 = .ok (.if_icmp .ge 5, 3) := by decide +kernel
theorem dX6_distance_32 : decode cX6_distance 32 = .ok (.iload_n 3, 1) := by decide +kernel
theorem dX6_distance_33 : decode cX6_distance 33 = .ok (.istore_n 1, 1) := by decide +kernel
theorem dX6_distance_34 : decode cX6_distance 34 = .ok (.iinc 2 1, 3) := by decide +kernel
theorem dX6_distance_37 : decode cX6_distance 37 = .ok (.goto (-33), 3) := by decide +kernel
theorem dX6_distance_40 : decode cX6_distance 40 = .ok (.iload_n 1, 1) := by decide +kernel
theorem dX6_distance_41 : decode cX6_distance 41 = .ok (.ireturn, 1) := by decide +kernel
theorem dX6_isKey_0 : decode cX6_isKey 0 = .ok (.iload_n 1, 1) := by decide +kernel
theorem dX6_isKey_1 : decode cX6_isKey 1 = .ok (.iconst 1, 1) := by decide +kernel
theorem dX6_isKey_2 : decode cX6_isKey 2 = .ok (.aload_n 0, 1) := by decide +kernel
theorem dX6_isKey_3 : decode cX6_isKey 3 = .ok (.getfield 80, 3) := by decide +kernel
theorem dX6_isKey_6 : decode cX6_isKey 6 = .ok (.ishl, 1) := by decide +kernel
theorem dX6_isKey_7 : decode cX6_isKey 7 = .ok (.invokestatic 73, 3) := by decide +kernel
theorem dX6_isKey_10 : decode cX6_isKey 10 = .ok (.ireturn, 1) := by decide +kernel
theorem dX6_codeword_0 : decode cX6_codeword 0 = .ok (.aload_n 0, 1) := by decide +kernel
theorem dX6_codeword_1 : decode cX6_codeword 1 = .ok (.iload_n 1, 1) := by decide +kernel
theorem dX6_codeword_2 : decode cX6_codeword 2 = .ok (.invokevirtual 134, 3) := by decide +kernel
theorem dX6_codeword_5 : decode cX6_codeword 5 = .ok (.ifCond .eq 11, 3) := by decide +kernel
theorem dX6_codeword_8 : decode cX6_codeword 8 = .ok (.aload_n 0, 1) := by decide +kernel
theorem dX6_codeword_9 : decode cX6_codeword 9 = .ok (.iload_n 1, 1) := by decide +kernel
theorem dX6_codeword_10 : decode cX6_codeword 10 = .ok (.invokevirtual 128, 3) := by decide +kernel
theorem dX6_codeword_13 : decode cX6_codeword 13 = .ok (.goto 8, 3) := by decide +kernel
theorem dX6_codeword_16 : decode cX6_codeword 16 = .ok (.aload_n 0, 1) := by decide +kernel
theorem dX6_codeword_17 : decode cX6_codeword 17 = .ok (.iconst (-1), 1) := by decide +kernel
theorem dX6_codeword_18 : decode cX6_codeword 18 = .ok (.invokevirtual 94, 3) := by decide +kernel
theorem dX6_codeword_21 : decode cX6_codeword 21 = .ok (.ireturn, 1) := by decide +kernel
theorem dX6_makes_0 : decode cX6_makes 0 = .ok (.aload_n 0, 1) := by decide +kernel
theorem dX6_makes_1 : decode cX6_makes 1 = .ok (.getfield 86, 3) := by decide +kernel
theorem dX6_makes_4 : decode cX6_makes 4 = .ok (.ifCond .eq 4, 3) := by decide +kernel
theorem dX6_makes_7 : decode cX6_makes 7 = .ok (.return_, 1) := by decide +kernel
theorem dX6_makes_8 : decode cX6_makes 8 = .ok (.aload_n 0, 1) := by decide +kernel
theorem dX6_makes_9 : decode cX6_makes 9 = .ok (.iconst 1, 1) := by decide +kernel
theorem dX6_makes_10 : decode cX6_makes 10 = .ok (.putfield 86, 3) := by decide +kernel
theorem dX6_makes_13 : decode cX6_makes 13 = .ok (.iconst 0, 1) := by decide +kernel
theorem dX6_makes_14 : decode cX6_makes 14 = .ok (.istore_n 1, 1) := by decide +kernel
theorem dX6_makes_15 : decode cX6_makes 15 = .ok (.iload_n 1, 1) := by decide +kernel
theorem dX6_makes_16 : decode cX6_makes 16 = .ok (.iconst 1, 1) := by decide +kernel
theorem dX6_makes_17 : decode cX6_makes 17 = .ok (.aload_n 0, 1) := by decide +kernel
theorem dX6_makes_18 : decode cX6_makes 18 = .ok (.getfield 80, 3) := by decide +kernel
theorem dX6_makes_21 : decode cX6_makes 21 = .ok (.ishl, 1) := by decide +kernel
theorem dX6_makes_22 : decode cX6_makes 22 = .ok (.if_icmp .ge 20, 3) := by decide +kernel
theorem dX6_makes_25 : decode cX6_makes 25 = .ok (.aload_n 0, 1) := by decide +kernel
theorem dX6_makes_26 : decode cX6_makes 26 = .ok (.getfield 51, 3) := by decide +kernel
theorem dX6_makes_29 : decode cX6_makes 29 = .ok (.iload_n 1, 1) := by decide +kernel
theorem dX6_makes_30 : decode cX6_makes 30 = .ok (.aload_n 0, 1) := by decide +kernel
theorem dX6_makes_31 : decode cX6_makes 31 = .ok (.iload_n 1, 1) := by decide +kernel
theorem dX6_makes_32 : decode cX6_makes 32 = .ok (.invokevirtual 128, 3) := by decide +kernel
theorem dX6_makes_35 : decode cX6_makes 35 = .ok (.iastore, 1) := by decide +kernel
end
section
theorem dX6_makes_36 : decode cX6_makes 36 = .ok (.iinc 1 1, 3) := by decide +kernel
theorem dX6_makes_39 : decode cX6_makes 39 = .ok (.goto (-24), 3) := by decide +kernel
theorem dX6_makes_42 : decode cX6_makes 42 = .ok (.iconst 0, 1) := by decide +kernel
theorem dX6_makes_43 : decode cX6_makes 43 = .ok (.istore_n 1, 1) := by decide +kernel
theorem dX6_makes_44 : decode cX6_makes 44 = .ok (.iload_n 1, 1) := by decide +kernel
theorem dX6_makes_45 : decode cX6_makes 45 = .ok (.iconst 1, 1) := by decide +kernel
theorem dX6_makes_46 : decode cX6_makes 46 = .ok (.aload_n 0, 1) := by decide +kernel
theorem dX6_makes_47 : decode cX6_makes 47 = .ok (.getfield 44, 3) := by decide +kernel
theorem dX6_makes_50 : decode cX6_makes 50 = .ok (.ishl, 1) := by decide +kernel
theorem dX6_makes_51 : decode cX6_makes 51 = .ok (.if_icmp .ge 87, 3) := by decide +kernel
theorem dX6_makes_54 : decode cX6_makes 54 = .ok (.bipush 15, 2) := by decide +kernel
theorem dX6_makes_56 : decode cX6_makes 56 = .ok (.istore_n 2, 1) := by decide +kernel
theorem dX6_makes_57 : decode cX6_makes 57 = .ok (.iconst 0, 1) := by decide +kernel
theorem dX6_makes_58 : decode cX6_makes 58 = .ok (.istore_n 3, 1) := by decide +kernel
theorem dX6_makes_59 : decode cX6_makes 59 = .ok (.iload_n 3, 1) := by decide +kernel
theorem dX6_makes_60 : decode cX6_makes 60 = .ok (.iconst 1, 1) := by decide +kernel
theorem dX6_makes_61 : decode cX6_makes 61 = .ok (.aload_n 0, 1) := by decide +kernel
theorem dX6_makes_62 : decode cX6_makes 62 = .ok (.getfield 80, 3) := by decide +kernel
theorem dX6_makes_65 : decode cX6_makes 65 = .ok (.ishl, 1) := by decide +kernel
theorem dX6_makes_66 : decode cX6_makes 66 = .ok (.if_icmp .ge 66, 3) := by decide +kernel
theorem dX6_makes_69 : decode cX6_makes 69 = .ok (.iload_n 1, 1) := by decide +kernel
theorem dX6_makes_70 : decode cX6_makes 70 = .ok (.aload_n 0, 1) := by decide +kernel
theorem dX6_makes_71 : decode cX6_makes 71 = .ok (.invokevirtual 124, 3) := by decide +kernel
theorem dX6_makes_74 : decode cX6_makes 74 = .ok (.iand, 1) := by decide +kernel
theorem dX6_makes_75 : decode cX6_makes 75 = .ok (.aload_n 0, 1) := by decide +kernel
theorem dX6_makes_76 : decode cX6_makes 76 = .ok (.getfield 51, 3) := by decide +kernel
theorem dX6_makes_79 : decode cX6_makes 79 = .ok (.iload_n 3, 1) := by decide +kernel
theorem dX6_makes_80 : decode cX6_makes 80 = .ok (.iaload, 1) := by decide +kernel
theorem dX6_makes_81 : decode cX6_makes 81 = .ok (.ixor, 1) := by decide +kernel
theorem dX6_makes_82 : decode cX6_makes 82 = .ok (.invokestatic 131, 3) := by decide +kernel
theorem dX6_makes_85 : decode cX6_makes 85 = .ok (.istore 4, 2) := by decide +kernel
theorem dX6_makes_87 : decode cX6_makes 87 = .ok (.iload 4, 2) := by decide +kernel
theorem dX6_makes_89 : decode cX6_makes 89 = .ok (.iload_n 2, 1) := by decide +kernel
theorem dX6_makes_90 : decode cX6_makes 90 = .ok (.if_icmp .ne 10, 3) := by decide +kernel
theorem dX6_makes_93 : decode cX6_makes 93 = .ok (.aload_n 0, 1) := by decide +kernel
theorem dX6_makes_94 : decode cX6_makes 94 = .ok (.getfield 54, 3) := by decide +kernel
theorem dX6_makes_97 : decode cX6_makes 97 = .ok (.iload_n 1, 1) := by decide +kernel
theorem dX6_makes_98 : decode cX6_makes 98 = .ok (.iconst 0, 1) := by decide +kernel
theorem dX6_makes_99 : decode cX6_makes 99 = .ok (.bastore, 1) := by decide +kernel
theorem dX6_makes_100 : decode cX6_makes 100 = .ok (.iload 4, 2) := by decide +kernel
theorem dX6_makes_102 : decode cX6_makes 102 = .ok (.iload_n 2, 1) := by decide +kernel
theorem dX6_makes_103 : decode cX6_makes 103 = .ok (.if_icmp .lt 6, 3) := by decide +kernel
theorem dX6_makes_106 : decode cX6_makes 106 = .ok (.goto 20, 3) := by decide +kernel
theorem dX6_makes_109 : decode cX6_makes 109 = .ok (.iload 4, 2) := by decide +kernel
theorem dX6_makes_111 : decode cX6_makes 111 = .ok (.istore_n 2, 1) := by decide +kernel
theorem dX6_makes_112 : decode cX6_makes 112 = .ok (.aload_n 0, 1) := by decide +kernel
theorem dX6_makes_113 : decode cX6_makes 113 = .ok (.getfield 48, 3) := by decide +kernel
theorem dX6_makes_116 : decode cX6_makes 116 = .ok (.iload_n 1, 1) := by decide +kernel
theorem dX6_makes_117 : decode cX6_makes 117 = .ok (.iload_n 3, 1) := by decide +kernel
theorem dX6_makes_118 : decode cX6_makes 118 = .ok (.iastore, 1) := by decide +kernel
theorem dX6_makes_119 : decode cX6_makes 119 = .ok (.aload_n 0, 1) := by decide +kernel
theorem dX6_makes_120 : decode cX6_makes 120 = .ok (.getfield 54, 3) := by decide +kernel
theorem dX6_makes_123 : decode cX6_makes 123 = .ok (.iload_n 1, 1) := by decide +kernel
theorem dX6_makes_124 : decode cX6_makes 124 = .ok (.iconst 1, 1) := by decide +kernel
theorem dX6_makes_125 : decode cX6_makes 125 = .ok (.bastore, 1) := by decide +kernel
theorem dX6_makes_126 : decode cX6_makes 126 = .ok (.iinc 3 1, 3) := by decide +kernel
theorem dX6_makes_129 : decode cX6_makes 129 = .ok (.goto (-70), 3) := by decide +kernel
theorem dX6_makes_132 : decode cX6_makes 132 = .ok (.iinc 1 1, 3) := by decide +kernel
theorem dX6_makes_135 : decode cX6_makes 135 = .ok (.goto (-91), 3) := by decide +kernel
theorem dX6_makes_138 : decode cX6_makes 138 = .ok (.return_, 1) := by decide +kernel
theorem dX6_mended_0 : decode cX6_mended 0 = .ok (.aload_n 0, 1) := by decide +kernel
theorem dX6_mended_1 : decode cX6_mended 1 = .ok (.iload_n 1, 1) := by decide +kernel
theorem dX6_mended_2 : decode cX6_mended 2 = .ok (.invokevirtual 104, 3) := by decide +kernel
theorem dX6_mended_5 : decode cX6_mended 5 = .ok (.ifCond .ne 9, 3) := by decide +kernel
theorem dX6_mended_8 : decode cX6_mended 8 = .ok (.aload_n 0, 1) := by decide +kernel
theorem dX6_mended_9 : decode cX6_mended 9 = .ok (.iconst (-1), 1) := by decide +kernel
theorem dX6_mended_10 : decode cX6_mended 10 = .ok (.invokevirtual 94, 3) := by decide +kernel
theorem dX6_mended_13 : decode cX6_mended 13 = .ok (.ireturn, 1) := by decide +kernel
theorem dX6_mended_14 : decode cX6_mended 14 = .ok (.aload_n 0, 1) := by decide +kernel
theorem dX6_mended_15 : decode cX6_mended 15 = .ok (.invokevirtual 137, 3) := by decide +kernel
theorem dX6_mended_18 : decode cX6_mended 18 = .ok (.aload_n 0, 1) := by decide +kernel
theorem dX6_mended_19 : decode cX6_mended 19 = .ok (.getfield 48, 3) := by decide +kernel
theorem dX6_mended_22 : decode cX6_mended 22 = .ok (.iload_n 1, 1) := by decide +kernel
theorem dX6_mended_23 : decode cX6_mended 23 = .ok (.iaload, 1) := by decide +kernel
theorem dX6_mended_24 : decode cX6_mended 24 = .ok (.ireturn, 1) := by decide +kernel
theorem dX6_clear_0 : decode cX6_clear 0 = .ok (.aload_n 0, 1) := by decide +kernel
theorem dX6_clear_1 : decode cX6_clear 1 = .ok (.iload_n 1, 1) := by decide +kernel
theorem dX6_clear_2 : decode cX6_clear 2 = .ok (.invokevirtual 104, 3) := by decide +kernel
theorem dX6_clear_5 : decode cX6_clear 5 = .ok (.ifCond .ne 9, 3) := by decide +kernel
theorem dX6_clear_8 : decode cX6_clear 8 = .ok (.aload_n 0, 1) := by decide +kernel
theorem dX6_clear_9 : decode cX6_clear 9 = .ok (.iconst (-1), 1) := by decide +kernel
theorem dX6_clear_10 : decode cX6_clear 10 = .ok (.invokevirtual 94, 3) := by decide +kernel
theorem dX6_clear_13 : decode cX6_clear 13 = .ok (.ireturn, 1) := by decide +kernel
theorem dX6_clear_14 : decode cX6_clear 14 = .ok (.aload_n 0, 1) := by decide +kernel
theorem dX6_clear_15 : decode cX6_clear 15 = .ok (.invokevirtual 137, 3) := by decide +kernel
theorem dX6_clear_18 : decode cX6_clear 18 = .ok (.aload_n 0, 1) := by decide +kernel
theorem dX6_clear_19 : decode cX6_clear 19 = .ok (.getfield 54, 3) := by decide +kernel
theorem dX6_clear_22 : decode cX6_clear 22 = .ok (.iload_n 1, 1) := by decide +kernel
theorem dX6_clear_23 : decode cX6_clear 23 = .ok (.baload, 1) := by decide +kernel
theorem dX6_clear_24 : decode cX6_clear 24 = .ok (.ifCond .eq 7, 3) := by decide +kernel
theorem dX6_clear_27 : decode cX6_clear 27 = .ok (.iconst 1, 1) := by decide +kernel
theorem dX6_clear_28 : decode cX6_clear 28 = .ok (.goto 4, 3) := by decide +kernel
theorem dX6_clear_31 : decode cX6_clear 31 = .ok (.iconst 0, 1) := by decide +kernel
theorem dX6_clear_32 : decode cX6_clear 32 = .ok (.ireturn, 1) := by decide +kernel
theorem dX6_isChip_0 : decode cX6_isChip 0 = .ok (.iload_n 1, 1) := by decide +kernel
theorem dX6_isChip_1 : decode cX6_isChip 1 = .ok (.aload_n 0, 1) := by decide +kernel
theorem dX6_isChip_2 : decode cX6_isChip 2 = .ok (.getfield 98, 3) := by decide +kernel
theorem dX6_isChip_5 : decode cX6_isChip 5 = .ok (.invokestatic 73, 3) := by decide +kernel
theorem dX6_isChip_8 : decode cX6_isChip 8 = .ok (.ireturn, 1) := by decide +kernel
theorem dX6_enrol_0 : decode cX6_enrol 0 = .ok (.aload_n 0, 1) := by decide +kernel
theorem dX6_enrol_1 : decode cX6_enrol 1 = .ok (.iload_n 1, 1) := by decide +kernel
theorem dX6_enrol_2 : decode cX6_enrol 2 = .ok (.invokevirtual 140, 3) := by decide +kernel
theorem dX6_enrol_5 : decode cX6_enrol 5 = .ok (.ifCond .eq 11, 3) := by decide +kernel
theorem dX6_enrol_8 : decode cX6_enrol 8 = .ok (.aload_n 0, 1) := by decide +kernel
theorem dX6_enrol_9 : decode cX6_enrol 9 = .ok (.iload_n 2, 1) := by decide +kernel
theorem dX6_enrol_10 : decode cX6_enrol 10 = .ok (.invokevirtual 134, 3) := by decide +kernel
theorem dX6_enrol_13 : decode cX6_enrol 13 = .ok (.ifCond .ne 9, 3) := by decide +kernel
theorem dX6_enrol_16 : decode cX6_enrol 16 = .ok (.aload_n 0, 1) := by decide +kernel
theorem dX6_enrol_17 : decode cX6_enrol 17 = .ok (.iconst (-1), 1) := by decide +kernel
theorem dX6_enrol_18 : decode cX6_enrol 18 = .ok (.invokevirtual 94, 3) := by decide +kernel
theorem dX6_enrol_21 : decode cX6_enrol 21 = .ok (.ireturn, 1) := by decide +kernel
theorem dX6_enrol_22 : decode cX6_enrol 22 = .ok (.aload_n 0, 1) := by decide +kernel
theorem dX6_enrol_23 : decode cX6_enrol 23 = .ok (.getfield 25, 3) := by decide +kernel
theorem dX6_enrol_26 : decode cX6_enrol 26 = .ok (.iload_n 1, 1) := by decide +kernel
theorem dX6_enrol_27 : decode cX6_enrol 27 = .ok (.aload_n 0, 1) := by decide +kernel
theorem dX6_enrol_28 : decode cX6_enrol 28 = .ok (.getfield 22, 3) := by decide +kernel
theorem dX6_enrol_31 : decode cX6_enrol 31 = .ok (.iload_n 1, 1) := by decide +kernel
theorem dX6_enrol_32 : decode cX6_enrol 32 = .ok (.iaload, 1) := by decide +kernel
theorem dX6_enrol_33 : decode cX6_enrol 33 = .ok (.aload_n 0, 1) := by decide +kernel
theorem dX6_enrol_34 : decode cX6_enrol 34 = .ok (.invokevirtual 124, 3) := by decide +kernel
theorem dX6_enrol_37 : decode cX6_enrol 37 = .ok (.iand, 1) := by decide +kernel
theorem dX6_enrol_38 : decode cX6_enrol 38 = .ok (.aload_n 0, 1) := by decide +kernel
theorem dX6_enrol_39 : decode cX6_enrol 39 = .ok (.iload_n 2, 1) := by decide +kernel
theorem dX6_enrol_40 : decode cX6_enrol 40 = .ok (.invokevirtual 128, 3) := by decide +kernel
theorem dX6_enrol_43 : decode cX6_enrol 43 = .ok (.ixor, 1) := by decide +kernel
theorem dX6_enrol_44 : decode cX6_enrol 44 = .ok (.iastore, 1) := by decide +kernel
theorem dX6_enrol_45 : decode cX6_enrol 45 = .ok (.aload_n 0, 1) := by decide +kernel
theorem dX6_enrol_46 : decode cX6_enrol 46 = .ok (.getfield 28, 3) := by decide +kernel
theorem dX6_enrol_49 : decode cX6_enrol 49 = .ok (.iload_n 1, 1) := by decide +kernel
theorem dX6_enrol_50 : decode cX6_enrol 50 = .ok (.iload_n 2, 1) := by decide +kernel
theorem dX6_enrol_51 : decode cX6_enrol 51 = .ok (.iastore, 1) := by decide +kernel
theorem dX6_enrol_52 : decode cX6_enrol 52 = .ok (.aload_n 0, 1) := by decide +kernel
theorem dX6_enrol_53 : decode cX6_enrol 53 = .ok (.getfield 37, 3) := by decide +kernel
theorem dX6_enrol_56 : decode cX6_enrol 56 = .ok (.iload_n 1, 1) := by decide +kernel
theorem dX6_enrol_57 : decode cX6_enrol 57 = .ok (.iconst 1, 1) := by decide +kernel
theorem dX6_enrol_58 : decode cX6_enrol 58 = .ok (.bastore, 1) := by decide +kernel
theorem dX6_enrol_59 : decode cX6_enrol 59 = .ok (.aload_n 0, 1) := by decide +kernel
theorem dX6_enrol_60 : decode cX6_enrol 60 = .ok (.getfield 25, 3) := by decide +kernel
theorem dX6_enrol_63 : decode cX6_enrol 63 = .ok (.iload_n 1, 1) := by decide +kernel
theorem dX6_enrol_64 : decode cX6_enrol 64 = .ok (.iaload, 1) := by decide +kernel
theorem dX6_enrol_65 : decode cX6_enrol 65 = .ok (.ireturn, 1) := by decide +kernel
theorem dX6_reading_0 : decode cX6_reading 0 = .ok (.aload_n 0, 1) := by decide +kernel
theorem dX6_reading_1 : decode cX6_reading 1 = .ok (.iload_n 1, 1) := by decide +kernel
theorem dX6_reading_2 : decode cX6_reading 2 = .ok (.invokevirtual 140, 3) := by decide +kernel
theorem dX6_reading_5 : decode cX6_reading 5 = .ok (.ifCond .eq 11, 3) := by decide +kernel
theorem dX6_reading_8 : decode cX6_reading 8 = .ok (.aload_n 0, 1) := by decide +kernel
theorem dX6_reading_9 : decode cX6_reading 9 = .ok (.iload_n 2, 1) := by decide +kernel
theorem dX6_reading_10 : decode cX6_reading 10 = .ok (.invokevirtual 104, 3) := by decide +kernel
theorem dX6_reading_13 : decode cX6_reading 13 = .ok (.ifCond .ne 9, 3) := by decide +kernel
theorem dX6_reading_16 : decode cX6_reading 16 = .ok (.aload_n 0, 1) := by decide +kernel
theorem dX6_reading_17 : decode cX6_reading 17 = .ok (.iconst (-1), 1) := by decide +kernel
theorem dX6_reading_18 : decode cX6_reading 18 = .ok (.invokevirtual 94, 3) := by decide +kernel
theorem dX6_reading_21 : decode cX6_reading 21 = .ok (.ireturn, 1) := by decide +kernel
theorem dX6_reading_22 : decode cX6_reading 22 = .ok (.aload_n 0, 1) := by decide +kernel
theorem dX6_reading_23 : decode cX6_reading 23 = .ok (.getfield 37, 3) := by decide +kernel
theorem dX6_reading_26 : decode cX6_reading 26 = .ok (.iload_n 1, 1) := by decide +kernel
theorem dX6_reading_27 : decode cX6_reading 27 = .ok (.baload, 1) := by decide +kernel
theorem dX6_reading_28 : decode cX6_reading 28 = .ok (.ifCond .ne 10, 3) := by decide +kernel
theorem dX6_reading_31 : decode cX6_reading 31 = .ok (.aload_n 0, 1) := by decide +kernel
theorem dX6_reading_32 : decode cX6_reading 32 = .ok (.bipush (-3), 2) := by decide +kernel
theorem dX6_reading_34 : decode cX6_reading 34 = .ok (.invokevirtual 94, 3) := by decide +kernel
theorem dX6_reading_37 : decode cX6_reading 37 = .ok (.ireturn, 1) := by decide +kernel
theorem dX6_reading_38 : decode cX6_reading 38 = .ok (.aload_n 0, 1) := by decide +kernel
theorem dX6_reading_39 : decode cX6_reading 39 = .ok (.invokevirtual 137, 3) := by decide +kernel
theorem dX6_reading_42 : decode cX6_reading 42 = .ok (.aload_n 0, 1) := by decide +kernel
theorem dX6_reading_43 : decode cX6_reading 43 = .ok (.getfield 48, 3) := by decide +kernel
theorem dX6_reading_46 : decode cX6_reading 46 = .ok (.iload_n 2, 1) := by decide +kernel
theorem dX6_reading_47 : decode cX6_reading 47 = .ok (.aload_n 0, 1) := by decide +kernel
theorem dX6_reading_48 : decode cX6_reading 48 = .ok (.getfield 25, 3) := by decide +kernel
theorem dX6_reading_51 : decode cX6_reading 51 = .ok (.iload_n 1, 1) := by decide +kernel
theorem dX6_reading_52 : decode cX6_reading 52 = .ok (.iaload, 1) := by decide +kernel
theorem dX6_reading_53 : decode cX6_reading 53 = .ok (.ixor, 1) := by decide +kernel
theorem dX6_reading_54 : decode cX6_reading 54 = .ok (.iaload, 1) := by decide +kernel
theorem dX6_reading_55 : decode cX6_reading 55 = .ok (.ireturn, 1) := by decide +kernel
theorem dX6_failOf_0 : decode cX6_failOf 0 = .ok (.aload_n 0, 1) := by decide +kernel
theorem dX6_failOf_1 : decode cX6_failOf 1 = .ok (.invokevirtual 137, 3) := by decide +kernel
theorem dX6_failOf_4 : decode cX6_failOf 4 = .ok (.aload_n 0, 1) := by decide +kernel
theorem dX6_failOf_5 : decode cX6_failOf 5 = .ok (.getfield 57, 3) := by decide +kernel
theorem dX6_failOf_8 : decode cX6_failOf 8 = .ok (.iconst 0, 1) := by decide +kernel
theorem dX6_failOf_9 : decode cX6_failOf 9 = .ok (.lconst 1, 1) := by decide +kernel
theorem dX6_failOf_10 : decode cX6_failOf 10 = .ok (.lastore, 1) := by decide +kernel
theorem dX6_failOf_11 : decode cX6_failOf 11 = .ok (.iconst 1, 1) := by decide +kernel
theorem dX6_failOf_12 : decode cX6_failOf 12 = .ok (.istore_n 3, 1) := by decide +kernel
theorem dX6_failOf_13 : decode cX6_failOf 13 = .ok (.iconst 0, 1) := by decide +kernel
theorem dX6_failOf_14 : decode cX6_failOf 14 = .ok (.istore 4, 2) := by decide +kernel
theorem dX6_failOf_16 : decode cX6_failOf 16 = .ok (.iload 4, 2) := by decide +kernel
theorem dX6_failOf_18 : decode cX6_failOf 18 = .ok (.aload_n 0, 1) := by decide +kernel
theorem dX6_failOf_19 : decode cX6_failOf 19 = .ok (.getfield 44, 3) := by decide +kernel
theorem dX6_failOf_22 : decode cX6_failOf 22 = .ok (.if_icmp .ge 107, 3) := by decide +kernel
theorem dX6_failOf_25 : decode cX6_failOf 25 = .ok (.aload_n 0, 1) := by decide +kernel
theorem dX6_failOf_26 : decode cX6_failOf 26 = .ok (.iload 4, 2) := by decide +kernel
theorem dX6_failOf_28 : decode cX6_failOf 28 = .ok (.iload_n 2, 1) := by decide +kernel
theorem dX6_failOf_29 : decode cX6_failOf 29 = .ok (.invokevirtual 117, 3) := by decide +kernel
theorem dX6_failOf_32 : decode cX6_failOf 32 = .ok (.istore 5, 2) := by decide +kernel
theorem dX6_failOf_34 : decode cX6_failOf 34 = .ok (.aload_n 0, 1) := by decide +kernel
theorem dX6_failOf_35 : decode cX6_failOf 35 = .ok (.getfield 77, 3) := by decide +kernel
theorem dX6_failOf_38 : decode cX6_failOf 38 = .ok (.iload 4, 2) := by decide +kernel
theorem dX6_failOf_40 : decode cX6_failOf 40 = .ok (.ishr, 1) := by decide +kernel
theorem dX6_failOf_41 : decode cX6_failOf 41 = .ok (.iconst 1, 1) := by decide +kernel
theorem dX6_failOf_42 : decode cX6_failOf 42 = .ok (.iand, 1) := by decide +kernel
theorem dX6_failOf_43 : decode cX6_failOf 43 = .ok (.iconst 1, 1) := by decide +kernel
theorem dX6_failOf_44 : decode cX6_failOf 44 = .ok (.if_icmp .ne 7, 3) := by decide +kernel
theorem dX6_failOf_47 : decode cX6_failOf 47 = .ok (.iconst 1, 1) := by decide +kernel
theorem dX6_failOf_48 : decode cX6_failOf 48 = .ok (.goto 4, 3) := by decide +kernel
theorem dX6_failOf_51 : decode cX6_failOf 51 = .ok (.iconst 0, 1) := by decide +kernel
theorem dX6_failOf_52 : decode cX6_failOf 52 = .ok (.istore 6, 2) := by decide +kernel
theorem dX6_failOf_54 : decode cX6_failOf 54 = .ok (.iconst 0, 1) := by decide +kernel
theorem dX6_failOf_55 : decode cX6_failOf 55 = .ok (.istore 7, 2) := by decide +kernel
theorem dX6_failOf_57 : decode cX6_failOf 57 = .ok (.iload 7, 2) := by decide +kernel
theorem dX6_failOf_59 : decode cX6_failOf 59 = .ok (.iload_n 3, 1) := by decide +kernel
theorem dX6_failOf_60 : decode cX6_failOf 60 = .ok (.if_icmp .ge 59, 3) := by decide +kernel
theorem dX6_failOf_63 : decode cX6_failOf 63 = .ok (.aload_n 0, 1) := by decide +kernel
theorem dX6_failOf_64 : decode cX6_failOf 64 = .ok (.getfield 57, 3) := by decide +kernel
theorem dX6_failOf_67 : decode cX6_failOf 67 = .ok (.iload 7, 2) := by decide +kernel
theorem dX6_failOf_69 : decode cX6_failOf 69 = .ok (.iload_n 3, 1) := by decide +kernel
theorem dX6_failOf_70 : decode cX6_failOf 70 = .ok (.iadd, 1) := by decide +kernel
theorem dX6_failOf_71 : decode cX6_failOf 71 = .ok (.iload 6, 2) := by decide +kernel
theorem dX6_failOf_73 : decode cX6_failOf 73 = .ok (.ifCond .eq 7, 3) := by decide +kernel
theorem dX6_failOf_76 : decode cX6_failOf 76 = .ok (.lconst 0, 1) := by decide +kernel
theorem dX6_failOf_77 : decode cX6_failOf 77 = .ok (.goto 14, 3) := by decide +kernel
theorem dX6_failOf_80 : decode cX6_failOf 80 = .ok (.aload_n 0, 1) := by decide +kernel
theorem dX6_failOf_81 : decode cX6_failOf 81 = .ok (.getfield 57, 3) := by decide +kernel
theorem dX6_failOf_84 : decode cX6_failOf 84 = .ok (.iload 7, 2) := by decide +kernel
theorem dX6_failOf_86 : decode cX6_failOf 86 = .ok (.laload, 1) := by decide +kernel
theorem dX6_failOf_87 : decode cX6_failOf 87 = .ok (.iload 5, 2) := by decide +kernel
theorem dX6_failOf_89 : decode cX6_failOf 89 = .ok (.i2l, 1) := by decide +kernel
theorem dX6_failOf_90 : decode cX6_failOf 90 = .ok (.lmul, 1) := by decide +kernel
theorem dX6_failOf_91 : decode cX6_failOf 91 = .ok (.lastore, 1) := by decide +kernel
theorem dX6_failOf_92 : decode cX6_failOf 92 = .ok (.iload 6, 2) := by decide +kernel
theorem dX6_failOf_94 : decode cX6_failOf 94 = .ok (.ifCond .ne 19, 3) := by decide +kernel
theorem dX6_failOf_97 : decode cX6_failOf 97 = .ok (.aload_n 0, 1) := by decide +kernel
theorem dX6_failOf_98 : decode cX6_failOf 98 = .ok (.getfield 57, 3) := by decide +kernel
theorem dX6_failOf_101 : decode cX6_failOf 101 = .ok (.iload 7, 2) := by decide +kernel
theorem dX6_failOf_103 : decode cX6_failOf 103 = .ok (.dup2, 1) := by decide +kernel
theorem dX6_failOf_104 : decode cX6_failOf 104 = .ok (.laload, 1) := by decide +kernel
theorem dX6_failOf_105 : decode cX6_failOf 105 = .ok (.bipush 8, 2) := by decide +kernel
theorem dX6_failOf_107 : decode cX6_failOf 107 = .ok (.iload 5, 2) := by decide +kernel
theorem dX6_failOf_109 : decode cX6_failOf 109 = .ok (.isub, 1) := by decide +kernel
theorem dX6_failOf_110 : decode cX6_failOf 110 = .ok (.i2l, 1) := by decide +kernel
theorem dX6_failOf_111 : decode cX6_failOf 111 = .ok (.lmul, 1) := by decide +kernel
theorem dX6_failOf_112 : decode cX6_failOf 112 = .ok (.lastore, 1) := by decide +kernel
theorem dX6_failOf_113 : decode cX6_failOf 113 = .ok (.iinc 7 1, 3) := by decide +kernel
theorem dX6_failOf_116 : decode cX6_failOf 116 = .ok (.goto (-59), 3) := by decide +kernel
theorem dX6_failOf_119 : decode cX6_failOf 119 = .ok (.iload_n 3, 1) := by decide +kernel
theorem dX6_failOf_120 : decode cX6_failOf 120 = .ok (.iconst 2, 1) := by decide +kernel
theorem dX6_failOf_121 : decode cX6_failOf 121 = .ok (.imul, 1) := by decide +kernel
theorem dX6_failOf_122 : decode cX6_failOf 122 = .ok (.istore_n 3, 1) := by decide +kernel
theorem dX6_failOf_123 : decode cX6_failOf 123 = .ok (.iinc 4 1, 3) := by decide +kernel
theorem dX6_failOf_126 : decode cX6_failOf 126 = .ok (.goto (-110), 3) := by decide +kernel
theorem dX6_failOf_129 : decode cX6_failOf 129 = .ok (.aload_n 0, 1) := by decide +kernel
theorem dX6_failOf_130 : decode cX6_failOf 130 = .ok (.getfield 51, 3) := by decide +kernel
theorem dX6_failOf_133 : decode cX6_failOf 133 = .ok (.aload_n 0, 1) := by decide +kernel
theorem dX6_failOf_134 : decode cX6_failOf 134 = .ok (.getfield 28, 3) := by decide +kernel
theorem dX6_failOf_137 : decode cX6_failOf 137 = .ok (.iload_n 1, 1) := by decide +kernel
theorem dX6_failOf_138 : decode cX6_failOf 138 = .ok (.iaload, 1) := by decide +kernel
theorem dX6_failOf_139 : decode cX6_failOf 139 = .ok (.iaload, 1) := by decide +kernel
theorem dX6_failOf_140 : decode cX6_failOf 140 = .ok (.istore 4, 2) := by decide +kernel
theorem dX6_failOf_142 : decode cX6_failOf 142 = .ok (.lconst 0, 1) := by decide +kernel
theorem dX6_failOf_143 : decode cX6_failOf 143 = .ok (.lstore 5, 2) := by decide +kernel
theorem dX6_failOf_145 : decode cX6_failOf 145 = .ok (.iconst 0, 1) := by decide +kernel
theorem dX6_failOf_146 : decode cX6_failOf 146 = .ok (.istore 7, 2) := by decide +kernel
theorem dX6_failOf_148 : decode cX6_failOf 148 = .ok (.iload 7, 2) := by decide +kernel
theorem dX6_failOf_150 : decode cX6_failOf 150 = .ok (.iload_n 3, 1) := by decide +kernel
theorem dX6_failOf_151 : decode cX6_failOf 151 = .ok (.if_icmp .ge 40, 3) := by decide +kernel
theorem dX6_failOf_154 : decode cX6_failOf 154 = .ok (.aload_n 0, 1) := by decide +kernel
theorem dX6_failOf_155 : decode cX6_failOf 155 = .ok (.getfield 48, 3) := by decide +kernel
theorem dX6_failOf_158 : decode cX6_failOf 158 = .ok (.iload 4, 2) := by decide +kernel
theorem dX6_failOf_160 : decode cX6_failOf 160 = .ok (.iload 7, 2) := by decide +kernel
theorem dX6_failOf_162 : decode cX6_failOf 162 = .ok (.ixor, 1) := by decide +kernel
theorem dX6_failOf_163 : decode cX6_failOf 163 = .ok (.iaload, 1) := by decide +kernel
theorem dX6_failOf_164 : decode cX6_failOf 164 = .ok (.aload_n 0, 1) := by decide +kernel
theorem dX6_failOf_165 : decode cX6_failOf 165 = .ok (.getfield 28, 3) := by decide +kernel
theorem dX6_failOf_168 : decode cX6_failOf 168 = .ok (.iload_n 1, 1) := by decide +kernel
theorem dX6_failOf_169 : decode cX6_failOf 169 = .ok (.iaload, 1) := by decide +kernel
theorem dX6_failOf_170 : decode cX6_failOf 170 = .ok (.if_icmp .eq 15, 3) := by decide +kernel
theorem dX6_failOf_173 : decode cX6_failOf 173 = .ok (.lload 5, 2) := by decide +kernel
theorem dX6_failOf_175 : decode cX6_failOf 175 = .ok (.aload_n 0, 1) := by decide +kernel
theorem dX6_failOf_176 : decode cX6_failOf 176 = .ok (.getfield 57, 3) := by decide +kernel
theorem dX6_failOf_179 : decode cX6_failOf 179 = .ok (.iload 7, 2) := by decide +kernel
theorem dX6_failOf_181 : decode cX6_failOf 181 = .ok (.laload, 1) := by decide +kernel
theorem dX6_failOf_182 : decode cX6_failOf 182 = .ok (.ladd, 1) := by decide +kernel
theorem dX6_failOf_183 : decode cX6_failOf 183 = .ok (.lstore 5, 2) := by decide +kernel
theorem dX6_failOf_185 : decode cX6_failOf 185 = .ok (.iinc 7 1, 3) := by decide +kernel
theorem dX6_failOf_188 : decode cX6_failOf 188 = .ok (.goto (-40), 3) := by decide +kernel
theorem dX6_failOf_191 : decode cX6_failOf 191 = .ok (.lload 5, 2) := by decide +kernel
theorem dX6_failOf_193 : decode cX6_failOf 193 = .ok (.lreturn, 1) := by decide +kernel
theorem dX6_allOf_0 : decode cX6_allOf 0 = .ok (.lconst 1, 1) := by decide +kernel
theorem dX6_allOf_1 : decode cX6_allOf 1 = .ok (.iconst 3, 1) := by decide +kernel
theorem dX6_allOf_2 : decode cX6_allOf 2 = .ok (.aload_n 0, 1) := by decide +kernel
theorem dX6_allOf_3 : decode cX6_allOf 3 = .ok (.invokevirtual 124, 3) := by decide +kernel
theorem dX6_allOf_6 : decode cX6_allOf 6 = .ok (.invokestatic 131, 3) := by decide +kernel
theorem dX6_allOf_9 : decode cX6_allOf 9 = .ok (.imul, 1) := by decide +kernel
theorem dX6_allOf_10 : decode cX6_allOf 10 = .ok (.lshl, 1) := by decide +kernel
theorem dX6_allOf_11 : decode cX6_allOf 11 = .ok (.lreturn, 1) := by decide +kernel
theorem dX6_fail_0 : decode cX6_fail 0 = .ok (.aload_n 0, 1) := by decide +kernel
theorem dX6_fail_1 : decode cX6_fail 1 = .ok (.iconst 0, 1) := by decide +kernel
theorem dX6_fail_2 : decode cX6_fail 2 = .ok (.putfield 70, 3) := by decide +kernel
theorem dX6_fail_5 : decode cX6_fail 5 = .ok (.aload_n 0, 1) := by decide +kernel
theorem dX6_fail_6 : decode cX6_fail 6 = .ok (.iload_n 1, 1) := by decide +kernel
theorem dX6_fail_7 : decode cX6_fail 7 = .ok (.invokevirtual 140, 3) := by decide +kernel
theorem dX6_fail_10 : decode cX6_fail 10 = .ok (.ifCond .eq 12, 3) := by decide +kernel
theorem dX6_fail_13 : decode cX6_fail 13 = .ok (.iload_n 2, 1) := by decide +kernel
theorem dX6_fail_14 : decode cX6_fail 14 = .ok (.bipush 41, 2) := by decide +kernel
theorem dX6_fail_16 : decode cX6_fail 16 = .ok (.invokestatic 73, 3) := by decide +kernel
theorem dX6_fail_19 : decode cX6_fail 19 = .ok (.ifCond .ne 10, 3) := by decide +kernel
theorem dX6_fail_22 : decode cX6_fail 22 = .ok (.aload_n 0, 1) := by decide +kernel
theorem dX6_fail_23 : decode cX6_fail 23 = .ok (.iconst 1, 1) := by decide +kernel
theorem dX6_fail_24 : decode cX6_fail 24 = .ok (.invokevirtual 143, 3) := by decide +kernel
theorem dX6_fail_27 : decode cX6_fail 27 = .ok (.i2l, 1) := by decide +kernel
theorem dX6_fail_28 : decode cX6_fail 28 = .ok (.lreturn, 1) := by decide +kernel
theorem dX6_fail_29 : decode cX6_fail 29 = .ok (.aload_n 0, 1) := by decide +kernel
theorem dX6_fail_30 : decode cX6_fail 30 = .ok (.getfield 37, 3) := by decide +kernel
theorem dX6_fail_33 : decode cX6_fail 33 = .ok (.iload_n 1, 1) := by decide +kernel
theorem dX6_fail_34 : decode cX6_fail 34 = .ok (.baload, 1) := by decide +kernel
theorem dX6_fail_35 : decode cX6_fail 35 = .ok (.ifCond .ne 10, 3) := by decide +kernel
theorem dX6_fail_38 : decode cX6_fail 38 = .ok (.aload_n 0, 1) := by decide +kernel
theorem dX6_fail_39 : decode cX6_fail 39 = .ok (.iconst 2, 1) := by decide +kernel
theorem dX6_fail_40 : decode cX6_fail 40 = .ok (.invokevirtual 143, 3) := by decide +kernel
theorem dX6_fail_43 : decode cX6_fail 43 = .ok (.i2l, 1) := by decide +kernel
theorem dX6_fail_44 : decode cX6_fail 44 = .ok (.lreturn, 1) := by decide +kernel
theorem dX6_fail_45 : decode cX6_fail 45 = .ok (.aload_n 0, 1) := by decide +kernel
theorem dX6_fail_46 : decode cX6_fail 46 = .ok (.iload_n 1, 1) := by decide +kernel
theorem dX6_fail_47 : decode cX6_fail 47 = .ok (.iload_n 2, 1) := by decide +kernel
theorem dX6_fail_48 : decode cX6_fail 48 = .ok (.invokevirtual 146, 3) := by decide +kernel
theorem dX6_fail_51 : decode cX6_fail 51 = .ok (.lreturn, 1) := by decide +kernel
theorem dX6_all_0 : decode cX6_all 0 = .ok (.aload_n 0, 1) := by decide +kernel
theorem dX6_all_1 : decode cX6_all 1 = .ok (.invokevirtual 150, 3) := by decide +kernel
theorem dX6_all_4 : decode cX6_all 4 = .ok (.lreturn, 1) := by decide +kernel
theorem dX6_lasts_0 : decode cX6_lasts 0 = .ok (.aload_n 0, 1) := by decide +kernel
theorem dX6_lasts_1 : decode cX6_lasts 1 = .ok (.iload_n 1, 1) := by decide +kernel
theorem dX6_lasts_2 : decode cX6_lasts 2 = .ok (.invokevirtual 140, 3) := by decide +kernel
theorem dX6_lasts_5 : decode cX6_lasts 5 = .ok (.ifCond .ne 7, 3) := by decide +kernel
theorem dX6_lasts_8 : decode cX6_lasts 8 = .ok (.iconst (-1), 1) := by decide +kernel
theorem dX6_lasts_9 : decode cX6_lasts 9 = .ok (.goto 24, 3) := by decide +kernel
theorem dX6_lasts_12 : decode cX6_lasts 12 = .ok (.aload_n 0, 1) := by decide +kernel
theorem dX6_lasts_13 : decode cX6_lasts 13 = .ok (.getfield 37, 3) := by decide +kernel
theorem dX6_lasts_16 : decode cX6_lasts 16 = .ok (.iload_n 1, 1) := by decide +kernel
theorem dX6_lasts_17 : decode cX6_lasts 17 = .ok (.baload, 1) := by decide +kernel
theorem dX6_lasts_18 : decode cX6_lasts 18 = .ok (.ifCond .ne 8, 3) := by decide +kernel
theorem dX6_lasts_21 : decode cX6_lasts 21 = .ok (.bipush (-3), 2) := by decide +kernel
theorem dX6_lasts_23 : decode cX6_lasts 23 = .ok (.goto 10, 3) := by decide +kernel
theorem dX6_lasts_26 : decode cX6_lasts 26 = .ok (.iload_n 2, 1) := by decide +kernel
theorem dX6_lasts_27 : decode cX6_lasts 27 = .ok (.iconst 0, 1) := by decide +kernel
theorem dX6_lasts_28 : decode cX6_lasts 28 = .ok (.bipush 8, 2) := by decide +kernel
theorem dX6_lasts_30 : decode cX6_lasts 30 = .ok (.invokestatic 90, 3) := by decide +kernel
theorem dX6_lasts_33 : decode cX6_lasts 33 = .ok (.istore_n 3, 1) := by decide +kernel
theorem dX6_lasts_34 : decode cX6_lasts 34 = .ok (.iload_n 3, 1) := by decide +kernel
theorem dX6_lasts_35 : decode cX6_lasts 35 = .ok (.ifCond .eq 9, 3) := by decide +kernel
theorem dX6_lasts_38 : decode cX6_lasts 38 = .ok (.aload_n 0, 1) := by decide +kernel
theorem dX6_lasts_39 : decode cX6_lasts 39 = .ok (.iload_n 3, 1) := by decide +kernel
theorem dX6_lasts_40 : decode cX6_lasts 40 = .ok (.invokevirtual 94, 3) := by decide +kernel
theorem dX6_lasts_43 : decode cX6_lasts 43 = .ok (.ireturn, 1) := by decide +kernel
theorem dX6_lasts_44 : decode cX6_lasts 44 = .ok (.iconst 0, 1) := by decide +kernel
theorem dX6_lasts_45 : decode cX6_lasts 45 = .ok (.istore 4, 2) := by decide +kernel
theorem dX6_lasts_47 : decode cX6_lasts 47 = .ok (.iload 4, 2) := by decide +kernel
theorem dX6_lasts_49 : decode cX6_lasts 49 = .ok (.bipush 40, 2) := by decide +kernel
theorem dX6_lasts_51 : decode cX6_lasts 51 = .ok (.if_icmp .gt 34, 3) := by decide +kernel
theorem dX6_lasts_54 : decode cX6_lasts 54 = .ok (.ldc2_w 154, 3) := by decide +kernel
theorem dX6_lasts_57 : decode cX6_lasts 57 = .ok (.aload_n 0, 1) := by decide +kernel
theorem dX6_lasts_58 : decode cX6_lasts 58 = .ok (.iload_n 1, 1) := by decide +kernel
theorem dX6_lasts_59 : decode cX6_lasts 59 = .ok (.iload 4, 2) := by decide +kernel
theorem dX6_lasts_61 : decode cX6_lasts 61 = .ok (.invokevirtual 146, 3) := by decide +kernel
theorem dX6_lasts_64 : decode cX6_lasts 64 = .ok (.lmul, 1) := by decide +kernel
theorem dX6_lasts_65 : decode cX6_lasts 65 = .ok (.iload_n 2, 1) := by decide +kernel
theorem dX6_lasts_66 : decode cX6_lasts 66 = .ok (.i2l, 1) := by decide +kernel
theorem dX6_lasts_67 : decode cX6_lasts 67 = .ok (.aload_n 0, 1) := by decide +kernel
theorem dX6_lasts_68 : decode cX6_lasts 68 = .ok (.invokevirtual 150, 3) := by decide +kernel
theorem dX6_lasts_71 : decode cX6_lasts 71 = .ok (.lmul, 1) := by decide +kernel
theorem dX6_lasts_72 : decode cX6_lasts 72 = .ok (.lcmp, 1) := by decide +kernel
theorem dX6_lasts_73 : decode cX6_lasts 73 = .ok (.ifCond .le 6, 3) := by decide +kernel
theorem dX6_lasts_76 : decode cX6_lasts 76 = .ok (.iload 4, 2) := by decide +kernel
theorem dX6_lasts_78 : decode cX6_lasts 78 = .ok (.ireturn, 1) := by decide +kernel
theorem dX6_lasts_79 : decode cX6_lasts 79 = .ok (.iinc 4 1, 3) := by decide +kernel
theorem dX6_lasts_82 : decode cX6_lasts 82 = .ok (.goto (-35), 3) := by decide +kernel
theorem dX6_lasts_85 : decode cX6_lasts 85 = .ok (.bipush (-9), 2) := by decide +kernel
theorem dX6_lasts_87 : decode cX6_lasts 87 = .ok (.ireturn, 1) := by decide +kernel
theorem dX6_weightOf_0 : decode cX6_weightOf 0 = .ok (.lconst 1, 1) := by decide +kernel
theorem dX6_weightOf_1 : decode cX6_weightOf 1 = .ok (.lstore_n 2, 1) := by decide +kernel
theorem dX6_weightOf_2 : decode cX6_weightOf 2 = .ok (.iconst 0, 1) := by decide +kernel
theorem dX6_weightOf_3 : decode cX6_weightOf 3 = .ok (.istore 4, 2) := by decide +kernel
theorem dX6_weightOf_5 : decode cX6_weightOf 5 = .ok (.iload 4, 2) := by decide +kernel
theorem dX6_weightOf_7 : decode cX6_weightOf 7 = .ok (.aload_n 0, 1) := by decide +kernel
theorem dX6_weightOf_8 : decode cX6_weightOf 8 = .ok (.getfield 44, 3) := by decide +kernel
theorem dX6_weightOf_11 : decode cX6_weightOf 11 = .ok (.if_icmp .ge 56, 3) := by decide +kernel
theorem dX6_weightOf_14 : decode cX6_weightOf 14 = .ok (.aload_n 0, 1) := by decide +kernel
theorem dX6_weightOf_15 : decode cX6_weightOf 15 = .ok (.getfield 77, 3) := by decide +kernel
theorem dX6_weightOf_18 : decode cX6_weightOf 18 = .ok (.iload 4, 2) := by decide +kernel
theorem dX6_weightOf_20 : decode cX6_weightOf 20 = .ok (.ishr, 1) := by decide +kernel
theorem dX6_weightOf_21 : decode cX6_weightOf 21 = .ok (.iconst 1, 1) := by decide +kernel
theorem dX6_weightOf_22 : decode cX6_weightOf 22 = .ok (.iand, 1) := by decide +kernel
theorem dX6_weightOf_23 : decode cX6_weightOf 23 = .ok (.ifCond .ne 38, 3) := by decide +kernel
theorem dX6_weightOf_26 : decode cX6_weightOf 26 = .ok (.lload_n 2, 1) := by decide +kernel
theorem dX6_weightOf_27 : decode cX6_weightOf 27 = .ok (.iload_n 1, 1) := by decide +kernel
theorem dX6_weightOf_28 : decode cX6_weightOf 28 = .ok (.iload 4, 2) := by decide +kernel
theorem dX6_weightOf_30 : decode cX6_weightOf 30 = .ok (.ishr, 1) := by decide +kernel
theorem dX6_weightOf_31 : decode cX6_weightOf 31 = .ok (.iconst 1, 1) := by decide +kernel
theorem dX6_weightOf_32 : decode cX6_weightOf 32 = .ok (.iand, 1) := by decide +kernel
theorem dX6_weightOf_33 : decode cX6_weightOf 33 = .ok (.iconst 1, 1) := by decide +kernel
theorem dX6_weightOf_34 : decode cX6_weightOf 34 = .ok (.if_icmp .ne 14, 3) := by decide +kernel
theorem dX6_weightOf_37 : decode cX6_weightOf 37 = .ok (.aload_n 0, 1) := by decide +kernel
theorem dX6_weightOf_38 : decode cX6_weightOf 38 = .ok (.getfield 19, 3) := by decide +kernel
theorem dX6_weightOf_41 : decode cX6_weightOf 41 = .ok (.iload 4, 2) := by decide +kernel
theorem dX6_weightOf_43 : decode cX6_weightOf 43 = .ok (.iaload, 1) := by decide +kernel
theorem dX6_weightOf_44 : decode cX6_weightOf 44 = .ok (.i2l, 1) := by decide +kernel
theorem dX6_weightOf_45 : decode cX6_weightOf 45 = .ok (.goto 14, 3) := by decide +kernel
theorem dX6_weightOf_48 : decode cX6_weightOf 48 = .ok (.bipush 8, 2) := by decide +kernel
theorem dX6_weightOf_50 : decode cX6_weightOf 50 = .ok (.aload_n 0, 1) := by decide +kernel
theorem dX6_weightOf_51 : decode cX6_weightOf 51 = .ok (.getfield 19, 3) := by decide +kernel
theorem dX6_weightOf_54 : decode cX6_weightOf 54 = .ok (.iload 4, 2) := by decide +kernel
theorem dX6_weightOf_56 : decode cX6_weightOf 56 = .ok (.iaload, 1) := by decide +kernel
theorem dX6_weightOf_57 : decode cX6_weightOf 57 = .ok (.isub, 1) := by decide +kernel
theorem dX6_weightOf_58 : decode cX6_weightOf 58 = .ok (.i2l, 1) := by decide +kernel
theorem dX6_weightOf_59 : decode cX6_weightOf 59 = .ok (.lmul, 1) := by decide +kernel
theorem dX6_weightOf_60 : decode cX6_weightOf 60 = .ok (.lstore_n 2, 1) := by decide +kernel
theorem dX6_weightOf_61 : decode cX6_weightOf 61 = .ok (.iinc 4 1, 3) := by decide +kernel
theorem dX6_weightOf_64 : decode cX6_weightOf 64 = .ok (.goto (-59), 3) := by decide +kernel
theorem dX6_weightOf_67 : decode cX6_weightOf 67 = .ok (.lload_n 2, 1) := by decide +kernel
theorem dX6_weightOf_68 : decode cX6_weightOf 68 = .ok (.lreturn, 1) := by decide +kernel
theorem dX6_bestGuess_0 : decode cX6_bestGuess 0 = .ok (.iconst 0, 1) := by decide +kernel
theorem dX6_bestGuess_1 : decode cX6_bestGuess 1 = .ok (.istore_n 2, 1) := by decide +kernel
theorem dX6_bestGuess_2 : decode cX6_bestGuess 2 = .ok (.iconst 1, 1) := by decide +kernel
theorem dX6_bestGuess_3 : decode cX6_bestGuess 3 = .ok (.istore_n 3, 1) := by decide +kernel
theorem dX6_bestGuess_4 : decode cX6_bestGuess 4 = .ok (.iload_n 3, 1) := by decide +kernel
theorem dX6_bestGuess_5 : decode cX6_bestGuess 5 = .ok (.iconst 1, 1) := by decide +kernel
theorem dX6_bestGuess_6 : decode cX6_bestGuess 6 = .ok (.aload_n 0, 1) := by decide +kernel
theorem dX6_bestGuess_7 : decode cX6_bestGuess 7 = .ok (.getfield 80, 3) := by decide +kernel
theorem dX6_bestGuess_10 : decode cX6_bestGuess 10 = .ok (.ishl, 1) := by decide +kernel
theorem dX6_bestGuess_11 : decode cX6_bestGuess 11 = .ok (.if_icmp .ge 37, 3) := by decide +kernel
theorem dX6_bestGuess_14 : decode cX6_bestGuess 14 = .ok (.aload_n 0, 1) := by decide +kernel
theorem dX6_bestGuess_15 : decode cX6_bestGuess 15 = .ok (.iload_n 1, 1) := by decide +kernel
theorem dX6_bestGuess_16 : decode cX6_bestGuess 16 = .ok (.aload_n 0, 1) := by decide +kernel
theorem dX6_bestGuess_17 : decode cX6_bestGuess 17 = .ok (.iload_n 3, 1) := by decide +kernel
theorem dX6_bestGuess_18 : decode cX6_bestGuess 18 = .ok (.invokevirtual 128, 3) := by decide +kernel
theorem dX6_bestGuess_21 : decode cX6_bestGuess 21 = .ok (.ixor, 1) := by decide +kernel
theorem dX6_bestGuess_22 : decode cX6_bestGuess 22 = .ok (.invokevirtual 156, 3) := by decide +kernel
theorem dX6_bestGuess_25 : decode cX6_bestGuess 25 = .ok (.aload_n 0, 1) := by decide +kernel
theorem dX6_bestGuess_26 : decode cX6_bestGuess 26 = .ok (.iload_n 1, 1) := by decide +kernel
theorem dX6_bestGuess_27 : decode cX6_bestGuess 27 = .ok (.aload_n 0, 1) := by decide +kernel
theorem dX6_bestGuess_28 : decode cX6_bestGuess 28 = .ok (.iload_n 2, 1) := by decide +kernel
theorem dX6_bestGuess_29 : decode cX6_bestGuess 29 = .ok (.invokevirtual 128, 3) := by decide +kernel
theorem dX6_bestGuess_32 : decode cX6_bestGuess 32 = .ok (.ixor, 1) := by decide +kernel
theorem dX6_bestGuess_33 : decode cX6_bestGuess 33 = .ok (.invokevirtual 156, 3) := by decide +kernel
theorem dX6_bestGuess_36 : decode cX6_bestGuess 36 = .ok (.lcmp, 1) := by decide +kernel
theorem dX6_bestGuess_37 : decode cX6_bestGuess 37 = .ok (.ifCond .le 5, 3) := by decide +kernel
theorem dX6_bestGuess_40 : decode cX6_bestGuess 40 = .ok (.iload_n 3, 1) := by decide +kernel
theorem dX6_bestGuess_41 : decode cX6_bestGuess 41 = .ok (.istore_n 2, 1) := by decide +kernel
theorem dX6_bestGuess_42 : decode cX6_bestGuess 42 = .ok (.iinc 3 1, 3) := by decide +kernel
theorem dX6_bestGuess_45 : decode cX6_bestGuess 45 = .ok (.goto (-41), 3) := by decide +kernel
theorem dX6_bestGuess_48 : decode cX6_bestGuess 48 = .ok (.iload_n 2, 1) := by decide +kernel
theorem dX6_bestGuess_49 : decode cX6_bestGuess 49 = .ok (.ireturn, 1) := by decide +kernel
theorem dX6_guess_0 : decode cX6_guess 0 = .ok (.aload_n 0, 1) := by decide +kernel
theorem dX6_guess_1 : decode cX6_guess 1 = .ok (.iload_n 1, 1) := by decide +kernel
theorem dX6_guess_2 : decode cX6_guess 2 = .ok (.invokevirtual 104, 3) := by decide +kernel
theorem dX6_guess_5 : decode cX6_guess 5 = .ok (.ifCond .eq 11, 3) := by decide +kernel
theorem dX6_guess_8 : decode cX6_guess 8 = .ok (.aload_n 0, 1) := by decide +kernel
theorem dX6_guess_9 : decode cX6_guess 9 = .ok (.iload_n 1, 1) := by decide +kernel
theorem dX6_guess_10 : decode cX6_guess 10 = .ok (.invokevirtual 160, 3) := by decide +kernel
theorem dX6_guess_13 : decode cX6_guess 13 = .ok (.goto 8, 3) := by decide +kernel
theorem dX6_guess_16 : decode cX6_guess 16 = .ok (.aload_n 0, 1) := by decide +kernel
theorem dX6_guess_17 : decode cX6_guess 17 = .ok (.iconst (-1), 1) := by decide +kernel
theorem dX6_guess_18 : decode cX6_guess 18 = .ok (.invokevirtual 94, 3) := by decide +kernel
theorem dX6_guess_21 : decode cX6_guess 21 = .ok (.ireturn, 1) := by decide +kernel
theorem dX6_weight_0 : decode cX6_weight 0 = .ok (.aload_n 0, 1) := by decide +kernel
theorem dX6_weight_1 : decode cX6_weight 1 = .ok (.iconst 0, 1) := by decide +kernel
theorem dX6_weight_2 : decode cX6_weight 2 = .ok (.putfield 70, 3) := by decide +kernel
theorem dX6_weight_5 : decode cX6_weight 5 = .ok (.aload_n 0, 1) := by decide +kernel
theorem dX6_weight_6 : decode cX6_weight 6 = .ok (.iload_n 1, 1) := by decide +kernel
theorem dX6_weight_7 : decode cX6_weight 7 = .ok (.invokevirtual 104, 3) := by decide +kernel
theorem dX6_weight_10 : decode cX6_weight 10 = .ok (.ifCond .ne 10, 3) := by decide +kernel
theorem dX6_weight_13 : decode cX6_weight 13 = .ok (.aload_n 0, 1) := by decide +kernel
theorem dX6_weight_14 : decode cX6_weight 14 = .ok (.iconst 1, 1) := by decide +kernel
theorem dX6_weight_15 : decode cX6_weight 15 = .ok (.invokevirtual 143, 3) := by decide +kernel
theorem dX6_weight_18 : decode cX6_weight 18 = .ok (.i2l, 1) := by decide +kernel
theorem dX6_weight_19 : decode cX6_weight 19 = .ok (.lreturn, 1) := by decide +kernel
theorem dX6_weight_20 : decode cX6_weight 20 = .ok (.iload_n 2, 1) := by decide +kernel
theorem dX6_weight_21 : decode cX6_weight 21 = .ok (.ifCond .ne 19, 3) := by decide +kernel
theorem dX6_weight_24 : decode cX6_weight 24 = .ok (.aload_n 0, 1) := by decide +kernel
theorem dX6_weight_25 : decode cX6_weight 25 = .ok (.iload_n 1, 1) := by decide +kernel
theorem dX6_weight_26 : decode cX6_weight 26 = .ok (.aload_n 0, 1) := by decide +kernel
theorem dX6_weight_27 : decode cX6_weight 27 = .ok (.aload_n 0, 1) := by decide +kernel
theorem dX6_weight_28 : decode cX6_weight 28 = .ok (.iload_n 1, 1) := by decide +kernel
theorem dX6_weight_29 : decode cX6_weight 29 = .ok (.invokevirtual 160, 3) := by decide +kernel
theorem dX6_weight_32 : decode cX6_weight 32 = .ok (.invokevirtual 128, 3) := by decide +kernel
theorem dX6_weight_35 : decode cX6_weight 35 = .ok (.ixor, 1) := by decide +kernel
theorem dX6_weight_36 : decode cX6_weight 36 = .ok (.invokevirtual 156, 3) := by decide +kernel
theorem dX6_weight_39 : decode cX6_weight 39 = .ok (.lreturn, 1) := by decide +kernel
theorem dX6_weight_40 : decode cX6_weight 40 = .ok (.lconst 0, 1) := by decide +kernel
theorem dX6_weight_41 : decode cX6_weight 41 = .ok (.lstore_n 3, 1) := by decide +kernel
theorem dX6_weight_42 : decode cX6_weight 42 = .ok (.iconst 0, 1) := by decide +kernel
theorem dX6_weight_43 : decode cX6_weight 43 = .ok (.istore 5, 2) := by decide +kernel
theorem dX6_weight_45 : decode cX6_weight 45 = .ok (.iload 5, 2) := by decide +kernel
theorem dX6_weight_47 : decode cX6_weight 47 = .ok (.iconst 1, 1) := by decide +kernel
theorem dX6_weight_48 : decode cX6_weight 48 = .ok (.aload_n 0, 1) := by decide +kernel
theorem dX6_weight_49 : decode cX6_weight 49 = .ok (.getfield 80, 3) := by decide +kernel
theorem dX6_weight_52 : decode cX6_weight 52 = .ok (.ishl, 1) := by decide +kernel
theorem dX6_weight_53 : decode cX6_weight 53 = .ok (.if_icmp .ge 24, 3) := by decide +kernel
theorem dX6_weight_56 : decode cX6_weight 56 = .ok (.lload_n 3, 1) := by decide +kernel
theorem dX6_weight_57 : decode cX6_weight 57 = .ok (.aload_n 0, 1) := by decide +kernel
theorem dX6_weight_58 : decode cX6_weight 58 = .ok (.iload_n 1, 1) := by decide +kernel
theorem dX6_weight_59 : decode cX6_weight 59 = .ok (.aload_n 0, 1) := by decide +kernel
theorem dX6_weight_60 : decode cX6_weight 60 = .ok (.iload 5, 2) := by decide +kernel
theorem dX6_weight_62 : decode cX6_weight 62 = .ok (.invokevirtual 128, 3) := by decide +kernel
theorem dX6_weight_65 : decode cX6_weight 65 = .ok (.ixor, 1) := by decide +kernel
theorem dX6_weight_66 : decode cX6_weight 66 = .ok (.invokevirtual 156, 3) := by decide +kernel
theorem dX6_weight_69 : decode cX6_weight 69 = .ok (.ladd, 1) := by decide +kernel
theorem dX6_weight_70 : decode cX6_weight 70 = .ok (.lstore_n 3, 1) := by decide +kernel
theorem dX6_weight_71 : decode cX6_weight 71 = .ok (.iinc 5 1, 3) := by decide +kernel
theorem dX6_weight_74 : decode cX6_weight 74 = .ok (.goto (-29), 3) := by decide +kernel
theorem dX6_weight_77 : decode cX6_weight 77 = .ok (.lload_n 3, 1) := by decide +kernel
theorem dX6_weight_78 : decode cX6_weight 78 = .ok (.lreturn, 1) := by decide +kernel
theorem dX6_leak_0 : decode cX6_leak 0 = .ok (.aload_n 0, 1) := by decide +kernel
theorem dX6_leak_1 : decode cX6_leak 1 = .ok (.invokevirtual 124, 3) := by decide +kernel
theorem dX6_leak_4 : decode cX6_leak 4 = .ok (.invokestatic 131, 3) := by decide +kernel
theorem dX6_leak_7 : decode cX6_leak 7 = .ok (.aload_n 0, 1) := by decide +kernel
theorem dX6_leak_8 : decode cX6_leak 8 = .ok (.getfield 80, 3) := by decide +kernel
theorem dX6_leak_11 : decode cX6_leak 11 = .ok (.isub, 1) := by decide +kernel
theorem dX6_leak_12 : decode cX6_leak 12 = .ok (.ireturn, 1) := by decide +kernel
theorem dX6_openAt_0 : decode cX6_openAt 0 = .ok (.iload_n 1, 1) := by decide +kernel
theorem dX6_openAt_1 : decode cX6_openAt 1 = .ok (.istore_n 2, 1) := by decide +kernel
theorem dX6_openAt_2 : decode cX6_openAt 2 = .ok (.iconst 0, 1) := by decide +kernel
theorem dX6_openAt_3 : decode cX6_openAt 3 = .ok (.istore_n 3, 1) := by decide +kernel
theorem dX6_openAt_4 : decode cX6_openAt 4 = .ok (.iload_n 3, 1) := by decide +kernel
theorem dX6_openAt_5 : decode cX6_openAt 5 = .ok (.aload_n 0, 1) := by decide +kernel
theorem dX6_openAt_6 : decode cX6_openAt 6 = .ok (.getfield 44, 3) := by decide +kernel
theorem dX6_openAt_9 : decode cX6_openAt 9 = .ok (.if_icmp .ge 33, 3) := by decide +kernel
theorem dX6_openAt_12 : decode cX6_openAt 12 = .ok (.aload_n 0, 1) := by decide +kernel
theorem dX6_openAt_13 : decode cX6_openAt 13 = .ok (.getfield 77, 3) := by decide +kernel
theorem dX6_openAt_16 : decode cX6_openAt 16 = .ok (.iload_n 3, 1) := by decide +kernel
theorem dX6_openAt_17 : decode cX6_openAt 17 = .ok (.ishr, 1) := by decide +kernel
theorem dX6_openAt_18 : decode cX6_openAt 18 = .ok (.iconst 1, 1) := by decide +kernel
theorem dX6_openAt_19 : decode cX6_openAt 19 = .ok (.iand, 1) := by decide +kernel
theorem dX6_openAt_20 : decode cX6_openAt 20 = .ok (.iconst 1, 1) := by decide +kernel
theorem dX6_openAt_21 : decode cX6_openAt 21 = .ok (.if_icmp .ne 6, 3) := by decide +kernel
theorem dX6_openAt_24 : decode cX6_openAt 24 = .ok (.goto 12, 3) := by decide +kernel
theorem dX6_openAt_27 : decode cX6_openAt 27 = .ok (.iload_n 2, 1) := by decide +kernel
theorem dX6_openAt_28 : decode cX6_openAt 28 = .ok (.ifCond .ne 5, 3) := by decide +kernel
theorem dX6_openAt_31 : decode cX6_openAt 31 = .ok (.iload_n 3, 1) := by decide +kernel
theorem dX6_openAt_32 : decode cX6_openAt 32 = .ok (.ireturn, 1) := by decide +kernel
theorem dX6_openAt_33 : decode cX6_openAt 33 = .ok (.iinc 2 (-1), 3) := by decide +kernel
theorem dX6_openAt_36 : decode cX6_openAt 36 = .ok (.iinc 3 1, 3) := by decide +kernel
theorem dX6_openAt_39 : decode cX6_openAt 39 = .ok (.goto (-35), 3) := by decide +kernel
theorem dX6_openAt_42 : decode cX6_openAt 42 = .ok (.iconst (-1), 1) := by decide +kernel
theorem dX6_openAt_43 : decode cX6_openAt 43 = .ok (.ireturn, 1) := by decide +kernel
theorem dX6_even_0 : decode cX6_even 0 = .ok (.aload_n 0, 1) := by decide +kernel
theorem dX6_even_1 : decode cX6_even 1 = .ok (.iload_n 1, 1) := by decide +kernel
theorem dX6_even_2 : decode cX6_even 2 = .ok (.invokevirtual 104, 3) := by decide +kernel
theorem dX6_even_5 : decode cX6_even 5 = .ok (.ifCond .ne 9, 3) := by decide +kernel
theorem dX6_even_8 : decode cX6_even 8 = .ok (.aload_n 0, 1) := by decide +kernel
theorem dX6_even_9 : decode cX6_even 9 = .ok (.iconst (-1), 1) := by decide +kernel
theorem dX6_even_10 : decode cX6_even 10 = .ok (.invokevirtual 94, 3) := by decide +kernel
theorem dX6_even_13 : decode cX6_even 13 = .ok (.ireturn, 1) := by decide +kernel
theorem dX6_even_14 : decode cX6_even 14 = .ok (.iload_n 2, 1) := by decide +kernel
theorem dX6_even_15 : decode cX6_even 15 = .ok (.iconst 2, 1) := by decide +kernel
theorem dX6_even_16 : decode cX6_even 16 = .ok (.invokestatic 73, 3) := by decide +kernel
theorem dX6_even_19 : decode cX6_even 19 = .ok (.ifCond .ne 10, 3) := by decide +kernel
theorem dX6_even_22 : decode cX6_even 22 = .ok (.aload_n 0, 1) := by decide +kernel
theorem dX6_even_23 : decode cX6_even 23 = .ok (.bipush (-2), 2) := by decide +kernel
theorem dX6_even_25 : decode cX6_even 25 = .ok (.invokevirtual 94, 3) := by decide +kernel
theorem dX6_even_28 : decode cX6_even 28 = .ok (.ireturn, 1) := by decide +kernel
theorem dX6_even_29 : decode cX6_even 29 = .ok (.iconst 0, 1) := by decide +kernel
theorem dX6_even_30 : decode cX6_even 30 = .ok (.istore_n 3, 1) := by decide +kernel
theorem dX6_even_31 : decode cX6_even 31 = .ok (.iconst 0, 1) := by decide +kernel
theorem dX6_even_32 : decode cX6_even 32 = .ok (.istore 4, 2) := by decide +kernel
theorem dX6_even_34 : decode cX6_even 34 = .ok (.iconst 0, 1) := by decide +kernel
theorem dX6_even_35 : decode cX6_even 35 = .ok (.istore 5, 2) := by decide +kernel
theorem dX6_even_37 : decode cX6_even 37 = .ok (.aload_n 0, 1) := by decide +kernel
theorem dX6_even_38 : decode cX6_even 38 = .ok (.iload 5, 2) := by decide +kernel
theorem dX6_even_40 : decode cX6_even 40 = .ok (.iconst 1, 1) := by decide +kernel
theorem dX6_even_41 : decode cX6_even 41 = .ok (.iadd, 1) := by decide +kernel
theorem dX6_even_42 : decode cX6_even 42 = .ok (.invokevirtual 163, 3) := by decide +kernel
theorem dX6_even_45 : decode cX6_even 45 = .ok (.ifCond .lt 57, 3) := by decide +kernel
theorem dX6_even_48 : decode cX6_even 48 = .ok (.iload_n 1, 1) := by decide +kernel
theorem dX6_even_49 : decode cX6_even 49 = .ok (.aload_n 0, 1) := by decide +kernel
theorem dX6_even_50 : decode cX6_even 50 = .ok (.iload 5, 2) := by decide +kernel
theorem dX6_even_52 : decode cX6_even 52 = .ok (.invokevirtual 163, 3) := by decide +kernel
theorem dX6_even_55 : decode cX6_even 55 = .ok (.ishr, 1) := by decide +kernel
theorem dX6_even_56 : decode cX6_even 56 = .ok (.iconst 1, 1) := by decide +kernel
theorem dX6_even_57 : decode cX6_even 57 = .ok (.iand, 1) := by decide +kernel
theorem dX6_even_58 : decode cX6_even 58 = .ok (.istore 6, 2) := by decide +kernel
theorem dX6_even_60 : decode cX6_even 60 = .ok (.iload_n 1, 1) := by decide +kernel
theorem dX6_even_61 : decode cX6_even 61 = .ok (.aload_n 0, 1) := by decide +kernel
theorem dX6_even_62 : decode cX6_even 62 = .ok (.iload 5, 2) := by decide +kernel
theorem dX6_even_64 : decode cX6_even 64 = .ok (.iconst 1, 1) := by decide +kernel
theorem dX6_even_65 : decode cX6_even 65 = .ok (.iadd, 1) := by decide +kernel
theorem dX6_even_66 : decode cX6_even 66 = .ok (.invokevirtual 163, 3) := by decide +kernel
theorem dX6_even_69 : decode cX6_even 69 = .ok (.ishr, 1) := by decide +kernel
theorem dX6_even_70 : decode cX6_even 70 = .ok (.iconst 1, 1) := by decide +kernel
theorem dX6_even_71 : decode cX6_even 71 = .ok (.iand, 1) := by decide +kernel
theorem dX6_even_72 : decode cX6_even 72 = .ok (.istore 7, 2) := by decide +kernel
theorem dX6_even_74 : decode cX6_even 74 = .ok (.iload 6, 2) := by decide +kernel
theorem dX6_even_76 : decode cX6_even 76 = .ok (.iload 7, 2) := by decide +kernel
theorem dX6_even_78 : decode cX6_even 78 = .ok (.if_icmp .ne 6, 3) := by decide +kernel
theorem dX6_even_81 : decode cX6_even 81 = .ok (.goto 15, 3) := by decide +kernel
theorem dX6_even_84 : decode cX6_even 84 = .ok (.iinc 3 1, 3) := by decide +kernel
theorem dX6_even_87 : decode cX6_even 87 = .ok (.iconst 2, 1) := by decide +kernel
theorem dX6_even_88 : decode cX6_even 88 = .ok (.iload 4, 2) := by decide +kernel
theorem dX6_even_90 : decode cX6_even 90 = .ok (.imul, 1) := by decide +kernel
theorem dX6_even_91 : decode cX6_even 91 = .ok (.iload 6, 2) := by decide +kernel
theorem dX6_even_93 : decode cX6_even 93 = .ok (.iadd, 1) := by decide +kernel
theorem dX6_even_94 : decode cX6_even 94 = .ok (.istore 4, 2) := by decide +kernel
theorem dX6_even_96 : decode cX6_even 96 = .ok (.iinc 5 2, 3) := by decide +kernel
theorem dX6_even_99 : decode cX6_even 99 = .ok (.goto (-62), 3) := by decide +kernel
theorem dX6_even_102 : decode cX6_even 102 = .ok (.iload_n 2, 1) := by decide +kernel
theorem dX6_even_103 : decode cX6_even 103 = .ok (.ifCond .ne 7, 3) := by decide +kernel
theorem dX6_even_106 : decode cX6_even 106 = .ok (.iload_n 3, 1) := by decide +kernel
theorem dX6_even_107 : decode cX6_even 107 = .ok (.goto 5, 3) := by decide +kernel
theorem dX6_even_110 : decode cX6_even 110 = .ok (.iload 4, 2) := by decide +kernel
theorem dX6_even_112 : decode cX6_even 112 = .ok (.ireturn, 1) := by decide +kernel
theorem dX6_expected_0 : decode cX6_expected 0 = .ok (.iconst 0, 1) := by decide +kernel
theorem dX6_expected_1 : decode cX6_expected 1 = .ok (.istore_n 1, 1) := by decide +kernel
theorem dX6_expected_2 : decode cX6_expected 2 = .ok (.iconst 0, 1) := by decide +kernel
theorem dX6_expected_3 : decode cX6_expected 3 = .ok (.istore_n 2, 1) := by decide +kernel
theorem dX6_expected_4 : decode cX6_expected 4 = .ok (.aload_n 0, 1) := by decide +kernel
theorem dX6_expected_5 : decode cX6_expected 5 = .ok (.iload_n 2, 1) := by decide +kernel
theorem dX6_expected_6 : decode cX6_expected 6 = .ok (.iconst 1, 1) := by decide +kernel
theorem dX6_expected_7 : decode cX6_expected 7 = .ok (.iadd, 1) := by decide +kernel
theorem dX6_expected_8 : decode cX6_expected 8 = .ok (.invokevirtual 163, 3) := by decide +kernel
theorem dX6_expected_11 : decode cX6_expected 11 = .ok (.ifCond .lt 52, 3) := by decide +kernel
theorem dX6_expected_14 : decode cX6_expected 14 = .ok (.aload_n 0, 1) := by decide +kernel
theorem dX6_expected_15 : decode cX6_expected 15 = .ok (.getfield 19, 3) := by decide +kernel
theorem dX6_expected_18 : decode cX6_expected 18 = .ok (.aload_n 0, 1) := by decide +kernel
theorem dX6_expected_19 : decode cX6_expected 19 = .ok (.iload_n 2, 1) := by decide +kernel
theorem dX6_expected_20 : decode cX6_expected 20 = .ok (.invokevirtual 163, 3) := by decide +kernel
theorem dX6_expected_23 : decode cX6_expected 23 = .ok (.iaload, 1) := by decide +kernel
theorem dX6_expected_24 : decode cX6_expected 24 = .ok (.istore_n 3, 1) := by decide +kernel
theorem dX6_expected_25 : decode cX6_expected 25 = .ok (.aload_n 0, 1) := by decide +kernel
theorem dX6_expected_26 : decode cX6_expected 26 = .ok (.getfield 19, 3) := by decide +kernel
theorem dX6_expected_29 : decode cX6_expected 29 = .ok (.aload_n 0, 1) := by decide +kernel
theorem dX6_expected_30 : decode cX6_expected 30 = .ok (.iload_n 2, 1) := by decide +kernel
theorem dX6_expected_31 : decode cX6_expected 31 = .ok (.iconst 1, 1) := by decide +kernel
theorem dX6_expected_32 : decode cX6_expected 32 = .ok (.iadd, 1) := by decide +kernel
theorem dX6_expected_33 : decode cX6_expected 33 = .ok (.invokevirtual 163, 3) := by decide +kernel
theorem dX6_expected_36 : decode cX6_expected 36 = .ok (.iaload, 1) := by decide +kernel
theorem dX6_expected_37 : decode cX6_expected 37 = .ok (.istore 4, 2) := by decide +kernel
theorem dX6_expected_39 : decode cX6_expected 39 = .ok (.iload_n 1, 1) := by decide +kernel
theorem dX6_expected_40 : decode cX6_expected 40 = .ok (.iload_n 3, 1) := by decide +kernel
theorem dX6_expected_41 : decode cX6_expected 41 = .ok (.bipush 8, 2) := by decide +kernel
theorem dX6_expected_43 : decode cX6_expected 43 = .ok (.iload 4, 2) := by decide +kernel
theorem dX6_expected_45 : decode cX6_expected 45 = .ok (.isub, 1) := by decide +kernel
theorem dX6_expected_46 : decode cX6_expected 46 = .ok (.imul, 1) := by decide +kernel
theorem dX6_expected_47 : decode cX6_expected 47 = .ok (.bipush 8, 2) := by decide +kernel
theorem dX6_expected_49 : decode cX6_expected 49 = .ok (.iload_n 3, 1) := by decide +kernel
theorem dX6_expected_50 : decode cX6_expected 50 = .ok (.isub, 1) := by decide +kernel
theorem dX6_expected_51 : decode cX6_expected 51 = .ok (.iload 4, 2) := by decide +kernel
theorem dX6_expected_53 : decode cX6_expected 53 = .ok (.imul, 1) := by decide +kernel
theorem dX6_expected_54 : decode cX6_expected 54 = .ok (.iadd, 1) := by decide +kernel
theorem dX6_expected_55 : decode cX6_expected 55 = .ok (.iadd, 1) := by decide +kernel
theorem dX6_expected_56 : decode cX6_expected 56 = .ok (.istore_n 1, 1) := by decide +kernel
theorem dX6_expected_57 : decode cX6_expected 57 = .ok (.iinc 2 2, 3) := by decide +kernel
theorem dX6_expected_60 : decode cX6_expected 60 = .ok (.goto (-56), 3) := by decide +kernel
theorem dX6_expected_63 : decode cX6_expected 63 = .ok (.iload_n 1, 1) := by decide +kernel
theorem dX6_expected_64 : decode cX6_expected 64 = .ok (.ireturn, 1) := by decide +kernel
theorem dX6_findPlanes_0 : decode cX6_findPlanes 0 = .ok (.aload_n 0, 1) := by decide +kernel
theorem dX6_findPlanes_1 : decode cX6_findPlanes 1 = .ok (.iconst 0, 1) := by decide +kernel
theorem dX6_findPlanes_2 : decode cX6_findPlanes 2 = .ok (.putfield 166, 3) := by decide +kernel
theorem dX6_findPlanes_5 : decode cX6_findPlanes 5 = .ok (.iconst 0, 1) := by decide +kernel
theorem dX6_findPlanes_6 : decode cX6_findPlanes 6 = .ok (.istore_n 1, 1) := by decide +kernel
theorem dX6_findPlanes_7 : decode cX6_findPlanes 7 = .ok (.iload_n 1, 1) := by decide +kernel
theorem dX6_findPlanes_8 : decode cX6_findPlanes 8 = .ok (.bipush 16, 2) := by decide +kernel
theorem dX6_findPlanes_10 : decode cX6_findPlanes 10 = .ok (.if_icmp .ge 16, 3) := by decide +kernel
theorem dX6_findPlanes_13 : decode cX6_findPlanes 13 = .ok (.aload_n 0, 1) := by decide +kernel
theorem dX6_findPlanes_14 : decode cX6_findPlanes 14 = .ok (.getfield 64, 3) := by decide +kernel
theorem dX6_findPlanes_17 : decode cX6_findPlanes 17 = .ok (.iload_n 1, 1) := by decide +kernel
theorem dX6_findPlanes_18 : decode cX6_findPlanes 18 = .ok (.iconst 0, 1) := by decide +kernel
theorem dX6_findPlanes_19 : decode cX6_findPlanes 19 = .ok (.iastore, 1) := by decide +kernel
theorem dX6_findPlanes_20 : decode cX6_findPlanes 20 = .ok (.iinc 1 1, 3) := by decide +kernel
theorem dX6_findPlanes_23 : decode cX6_findPlanes 23 = .ok (.goto (-16), 3) := by decide +kernel
theorem dX6_findPlanes_26 : decode cX6_findPlanes 26 = .ok (.iconst 0, 1) := by decide +kernel
theorem dX6_findPlanes_27 : decode cX6_findPlanes 27 = .ok (.istore_n 1, 1) := by decide +kernel
theorem dX6_findPlanes_28 : decode cX6_findPlanes 28 = .ok (.iload_n 1, 1) := by decide +kernel
theorem dX6_findPlanes_29 : decode cX6_findPlanes 29 = .ok (.sipush 2401, 3) := by decide +kernel
theorem dX6_findPlanes_32 : decode cX6_findPlanes 32 = .ok (.if_icmp .ge 92, 3) := by decide +kernel
theorem dX6_findPlanes_35 : decode cX6_findPlanes 35 = .ok (.aload_n 0, 1) := by decide +kernel
theorem dX6_findPlanes_36 : decode cX6_findPlanes 36 = .ok (.getfield 67, 3) := by decide +kernel
theorem dX6_findPlanes_39 : decode cX6_findPlanes 39 = .ok (.iconst 0, 1) := by decide +kernel
theorem dX6_findPlanes_40 : decode cX6_findPlanes 40 = .ok (.iload_n 1, 1) := by decide +kernel
theorem dX6_findPlanes_41 : decode cX6_findPlanes 41 = .ok (.sipush 343, 3) := by decide +kernel
theorem dX6_findPlanes_44 : decode cX6_findPlanes 44 = .ok (.idiv, 1) := by decide +kernel
theorem dX6_findPlanes_45 : decode cX6_findPlanes 45 = .ok (.iconst 3, 1) := by decide +kernel
theorem dX6_findPlanes_46 : decode cX6_findPlanes 46 = .ok (.isub, 1) := by decide +kernel
theorem dX6_findPlanes_47 : decode cX6_findPlanes 47 = .ok (.iastore, 1) := by decide +kernel
theorem dX6_findPlanes_48 : decode cX6_findPlanes 48 = .ok (.aload_n 0, 1) := by decide +kernel
theorem dX6_findPlanes_49 : decode cX6_findPlanes 49 = .ok (.getfield 67, 3) := by decide +kernel
theorem dX6_findPlanes_52 : decode cX6_findPlanes 52 = .ok (.iconst 1, 1) := by decide +kernel
theorem dX6_findPlanes_53 : decode cX6_findPlanes 53 = .ok (.iload_n 1, 1) := by decide +kernel
theorem dX6_findPlanes_54 : decode cX6_findPlanes 54 = .ok (.bipush 49, 2) := by decide +kernel
theorem dX6_findPlanes_56 : decode cX6_findPlanes 56 = .ok (.idiv, 1) := by decide +kernel
theorem dX6_findPlanes_57 : decode cX6_findPlanes 57 = .ok (.bipush 7, 2) := by decide +kernel
theorem dX6_findPlanes_59 : decode cX6_findPlanes 59 = .ok (.irem, 1) := by decide +kernel
theorem dX6_findPlanes_60 : decode cX6_findPlanes 60 = .ok (.iconst 3, 1) := by decide +kernel
theorem dX6_findPlanes_61 : decode cX6_findPlanes 61 = .ok (.isub, 1) := by decide +kernel
theorem dX6_findPlanes_62 : decode cX6_findPlanes 62 = .ok (.iastore, 1) := by decide +kernel
theorem dX6_findPlanes_63 : decode cX6_findPlanes 63 = .ok (.aload_n 0, 1) := by decide +kernel
theorem dX6_findPlanes_64 : decode cX6_findPlanes 64 = .ok (.getfield 67, 3) := by decide +kernel
theorem dX6_findPlanes_67 : decode cX6_findPlanes 67 = .ok (.iconst 2, 1) := by decide +kernel
theorem dX6_findPlanes_68 : decode cX6_findPlanes 68 = .ok (.iload_n 1, 1) := by decide +kernel
theorem dX6_findPlanes_69 : decode cX6_findPlanes 69 = .ok (.bipush 7, 2) := by decide +kernel
theorem dX6_findPlanes_71 : decode cX6_findPlanes 71 = .ok (.idiv, 1) := by decide +kernel
theorem dX6_findPlanes_72 : decode cX6_findPlanes 72 = .ok (.bipush 7, 2) := by decide +kernel
theorem dX6_findPlanes_74 : decode cX6_findPlanes 74 = .ok (.irem, 1) := by decide +kernel
theorem dX6_findPlanes_75 : decode cX6_findPlanes 75 = .ok (.iconst 3, 1) := by decide +kernel
theorem dX6_findPlanes_76 : decode cX6_findPlanes 76 = .ok (.isub, 1) := by decide +kernel
theorem dX6_findPlanes_77 : decode cX6_findPlanes 77 = .ok (.iastore, 1) := by decide +kernel
theorem dX6_findPlanes_78 : decode cX6_findPlanes 78 = .ok (.aload_n 0, 1) := by decide +kernel
theorem dX6_findPlanes_79 : decode cX6_findPlanes 79 = .ok (.getfield 67, 3) := by decide +kernel
theorem dX6_findPlanes_82 : decode cX6_findPlanes 82 = .ok (.iconst 3, 1) := by decide +kernel
theorem dX6_findPlanes_83 : decode cX6_findPlanes 83 = .ok (.iload_n 1, 1) := by decide +kernel
theorem dX6_findPlanes_84 : decode cX6_findPlanes 84 = .ok (.bipush 7, 2) := by decide +kernel
theorem dX6_findPlanes_86 : decode cX6_findPlanes 86 = .ok (.irem, 1) := by decide +kernel
theorem dX6_findPlanes_87 : decode cX6_findPlanes 87 = .ok (.iconst 3, 1) := by decide +kernel
theorem dX6_findPlanes_88 : decode cX6_findPlanes 88 = .ok (.isub, 1) := by decide +kernel
theorem dX6_findPlanes_89 : decode cX6_findPlanes 89 = .ok (.iastore, 1) := by decide +kernel
theorem dX6_findPlanes_90 : decode cX6_findPlanes 90 = .ok (.bipush (-6), 2) := by decide +kernel
theorem dX6_findPlanes_92 : decode cX6_findPlanes 92 = .ok (.istore_n 2, 1) := by decide +kernel
theorem dX6_findPlanes_93 : decode cX6_findPlanes 93 = .ok (.iload_n 2, 1) := by decide +kernel
theorem dX6_findPlanes_94 : decode cX6_findPlanes 94 = .ok (.bipush 6, 2) := by decide +kernel
theorem dX6_findPlanes_96 : decode cX6_findPlanes 96 = .ok (.if_icmp .gt 22, 3) := by decide +kernel
theorem dX6_findPlanes_99 : decode cX6_findPlanes 99 = .ok (.aload_n 0, 1) := by decide +kernel
theorem dX6_findPlanes_100 : decode cX6_findPlanes 100 = .ok (.iload_n 2, 1) := by decide +kernel
theorem dX6_findPlanes_101 : decode cX6_findPlanes 101 = .ok (.invokevirtual 169, 3) := by decide +kernel
theorem dX6_findPlanes_104 : decode cX6_findPlanes 104 = .ok (.ifCond .eq 8, 3) := by decide +kernel
theorem dX6_findPlanes_107 : decode cX6_findPlanes 107 = .ok (.aload_n 0, 1) := by decide +kernel
theorem dX6_findPlanes_108 : decode cX6_findPlanes 108 = .ok (.iload_n 2, 1) := by decide +kernel
theorem dX6_findPlanes_109 : decode cX6_findPlanes 109 = .ok (.invokevirtual 172, 3) := by decide +kernel
theorem dX6_findPlanes_112 : decode cX6_findPlanes 112 = .ok (.iinc 2 1, 3) := by decide +kernel
theorem dX6_findPlanes_115 : decode cX6_findPlanes 115 = .ok (.goto (-22), 3) := by decide +kernel
theorem dX6_findPlanes_118 : decode cX6_findPlanes 118 = .ok (.iinc 1 1, 3) := by decide +kernel
theorem dX6_findPlanes_121 : decode cX6_findPlanes 121 = .ok (.goto (-93), 3) := by decide +kernel
theorem dX6_findPlanes_124 : decode cX6_findPlanes 124 = .ok (.return_, 1) := by decide +kernel
theorem dX6_says_0 : decode cX6_says 0 = .ok (.iconst 0, 1) := by decide +kernel
theorem dX6_says_1 : decode cX6_says 1 = .ok (.istore_n 3, 1) := by decide +kernel
theorem dX6_says_2 : decode cX6_says 2 = .ok (.iconst 0, 1) := by decide +kernel
theorem dX6_says_3 : decode cX6_says 3 = .ok (.istore 4, 2) := by decide +kernel
theorem dX6_says_5 : decode cX6_says 5 = .ok (.iload 4, 2) := by decide +kernel
theorem dX6_says_7 : decode cX6_says 7 = .ok (.iconst 4, 1) := by decide +kernel
theorem dX6_says_8 : decode cX6_says 8 = .ok (.if_icmp .ge 40, 3) := by decide +kernel
theorem dX6_says_11 : decode cX6_says 11 = .ok (.iload_n 3, 1) := by decide +kernel
theorem dX6_says_12 : decode cX6_says 12 = .ok (.iload_n 1, 1) := by decide +kernel
theorem dX6_says_13 : decode cX6_says 13 = .ok (.iload 4, 2) := by decide +kernel
theorem dX6_says_15 : decode cX6_says 15 = .ok (.ishr, 1) := by decide +kernel
theorem dX6_says_16 : decode cX6_says 16 = .ok (.iconst 1, 1) := by decide +kernel
theorem dX6_says_17 : decode cX6_says 17 = .ok (.iand, 1) := by decide +kernel
theorem dX6_says_18 : decode cX6_says 18 = .ok (.iconst 1, 1) := by decide +kernel
theorem dX6_says_19 : decode cX6_says 19 = .ok (.if_icmp .ne 13, 3) := by decide +kernel
theorem dX6_says_22 : decode cX6_says 22 = .ok (.aload_n 0, 1) := by decide +kernel
theorem dX6_says_23 : decode cX6_says 23 = .ok (.getfield 67, 3) := by decide +kernel
theorem dX6_says_26 : decode cX6_says 26 = .ok (.iload 4, 2) := by decide +kernel
theorem dX6_says_28 : decode cX6_says 28 = .ok (.iaload, 1) := by decide +kernel
theorem dX6_says_29 : decode cX6_says 29 = .ok (.goto 11, 3) := by decide +kernel
theorem dX6_says_32 : decode cX6_says 32 = .ok (.aload_n 0, 1) := by decide +kernel
theorem dX6_says_33 : decode cX6_says 33 = .ok (.getfield 67, 3) := by decide +kernel
theorem dX6_says_36 : decode cX6_says 36 = .ok (.iload 4, 2) := by decide +kernel
theorem dX6_says_38 : decode cX6_says 38 = .ok (.iaload, 1) := by decide +kernel
theorem dX6_says_39 : decode cX6_says 39 = .ok (.ineg, 1) := by decide +kernel
theorem dX6_says_40 : decode cX6_says 40 = .ok (.iadd, 1) := by decide +kernel
theorem dX6_says_41 : decode cX6_says 41 = .ok (.istore_n 3, 1) := by decide +kernel
theorem dX6_says_42 : decode cX6_says 42 = .ok (.iinc 4 1, 3) := by decide +kernel
theorem dX6_says_45 : decode cX6_says 45 = .ok (.goto (-40), 3) := by decide +kernel
theorem dX6_says_48 : decode cX6_says 48 = .ok (.iload_n 3, 1) := by decide +kernel
theorem dX6_says_49 : decode cX6_says 49 = .ok (.iload_n 2, 1) := by decide +kernel
theorem dX6_says_50 : decode cX6_says 50 = .ok (.if_icmp .lt 7, 3) := by decide +kernel
theorem dX6_says_53 : decode cX6_says 53 = .ok (.iconst 1, 1) := by decide +kernel
theorem dX6_says_54 : decode cX6_says 54 = .ok (.goto 4, 3) := by decide +kernel
theorem dX6_says_57 : decode cX6_says 57 = .ok (.iconst 0, 1) := by decide +kernel
theorem dX6_says_58 : decode cX6_says 58 = .ok (.ireturn, 1) := by decide +kernel
theorem dX6_isPlane_0 : decode cX6_isPlane 0 = .ok (.iconst 1, 1) := by decide +kernel
theorem dX6_isPlane_1 : decode cX6_isPlane 1 = .ok (.istore_n 2, 1) := by decide +kernel
theorem dX6_isPlane_2 : decode cX6_isPlane 2 = .ok (.iconst 0, 1) := by decide +kernel
theorem dX6_isPlane_3 : decode cX6_isPlane 3 = .ok (.istore_n 3, 1) := by decide +kernel
theorem dX6_isPlane_4 : decode cX6_isPlane 4 = .ok (.iload_n 3, 1) := by decide +kernel
theorem dX6_isPlane_5 : decode cX6_isPlane 5 = .ok (.bipush 16, 2) := by decide +kernel
theorem dX6_isPlane_7 : decode cX6_isPlane 7 = .ok (.if_icmp .ge 43, 3) := by decide +kernel
theorem dX6_isPlane_10 : decode cX6_isPlane 10 = .ok (.iload_n 2, 1) := by decide +kernel
theorem dX6_isPlane_11 : decode cX6_isPlane 11 = .ok (.ifCond .eq 39, 3) := by decide +kernel
theorem dX6_isPlane_14 : decode cX6_isPlane 14 = .ok (.aload_n 0, 1) := by decide +kernel
theorem dX6_isPlane_15 : decode cX6_isPlane 15 = .ok (.getfield 34, 3) := by decide +kernel
theorem dX6_isPlane_18 : decode cX6_isPlane 18 = .ok (.iload_n 3, 1) := by decide +kernel
theorem dX6_isPlane_19 : decode cX6_isPlane 19 = .ok (.iaload, 1) := by decide +kernel
theorem dX6_isPlane_20 : decode cX6_isPlane 20 = .ok (.ifCond .lt 18, 3) := by decide +kernel
theorem dX6_isPlane_23 : decode cX6_isPlane 23 = .ok (.aload_n 0, 1) := by decide +kernel
theorem dX6_isPlane_24 : decode cX6_isPlane 24 = .ok (.iload_n 3, 1) := by decide +kernel
theorem dX6_isPlane_25 : decode cX6_isPlane 25 = .ok (.iload_n 1, 1) := by decide +kernel
theorem dX6_isPlane_26 : decode cX6_isPlane 26 = .ok (.invokevirtual 175, 3) := by decide +kernel
theorem dX6_isPlane_29 : decode cX6_isPlane 29 = .ok (.aload_n 0, 1) := by decide +kernel
theorem dX6_isPlane_30 : decode cX6_isPlane 30 = .ok (.getfield 34, 3) := by decide +kernel
theorem dX6_isPlane_33 : decode cX6_isPlane 33 = .ok (.iload_n 3, 1) := by decide +kernel
theorem dX6_isPlane_34 : decode cX6_isPlane 34 = .ok (.iaload, 1) := by decide +kernel
theorem dX6_isPlane_35 : decode cX6_isPlane 35 = .ok (.if_icmp .ne 7, 3) := by decide +kernel
theorem dX6_isPlane_38 : decode cX6_isPlane 38 = .ok (.iconst 1, 1) := by decide +kernel
theorem dX6_isPlane_39 : decode cX6_isPlane 39 = .ok (.goto 4, 3) := by decide +kernel
theorem dX6_isPlane_42 : decode cX6_isPlane 42 = .ok (.iconst 0, 1) := by decide +kernel
theorem dX6_isPlane_43 : decode cX6_isPlane 43 = .ok (.istore_n 2, 1) := by decide +kernel
theorem dX6_isPlane_44 : decode cX6_isPlane 44 = .ok (.iinc 3 1, 3) := by decide +kernel
theorem dX6_isPlane_47 : decode cX6_isPlane 47 = .ok (.goto (-43), 3) := by decide +kernel
theorem dX6_isPlane_50 : decode cX6_isPlane 50 = .ok (.iload_n 2, 1) := by decide +kernel
theorem dX6_isPlane_51 : decode cX6_isPlane 51 = .ok (.ireturn, 1) := by decide +kernel
theorem dX6_adds_0 : decode cX6_adds 0 = .ok (.aload_n 0, 1) := by decide +kernel
theorem dX6_adds_1 : decode cX6_adds 1 = .ok (.getfield 166, 3) := by decide +kernel
theorem dX6_adds_4 : decode cX6_adds 4 = .ok (.ifCond .ne 35, 3) := by decide +kernel
theorem dX6_adds_7 : decode cX6_adds 7 = .ok (.iconst 0, 1) := by decide +kernel
theorem dX6_adds_8 : decode cX6_adds 8 = .ok (.istore_n 2, 1) := by decide +kernel
theorem dX6_adds_9 : decode cX6_adds 9 = .ok (.iload_n 2, 1) := by decide +kernel
theorem dX6_adds_10 : decode cX6_adds 10 = .ok (.iconst 4, 1) := by decide +kernel
theorem dX6_adds_11 : decode cX6_adds 11 = .ok (.if_icmp .ge 21, 3) := by decide +kernel
theorem dX6_adds_14 : decode cX6_adds 14 = .ok (.aload_n 0, 1) := by decide +kernel
theorem dX6_adds_15 : decode cX6_adds 15 = .ok (.getfield 61, 3) := by decide +kernel
theorem dX6_adds_18 : decode cX6_adds 18 = .ok (.iload_n 2, 1) := by decide +kernel
theorem dX6_adds_19 : decode cX6_adds 19 = .ok (.aload_n 0, 1) := by decide +kernel
theorem dX6_adds_20 : decode cX6_adds 20 = .ok (.getfield 67, 3) := by decide +kernel
theorem dX6_adds_23 : decode cX6_adds 23 = .ok (.iload_n 2, 1) := by decide +kernel
theorem dX6_adds_24 : decode cX6_adds 24 = .ok (.iaload, 1) := by decide +kernel
theorem dX6_adds_25 : decode cX6_adds 25 = .ok (.iastore, 1) := by decide +kernel
theorem dX6_adds_26 : decode cX6_adds 26 = .ok (.iinc 2 1, 3) := by decide +kernel
theorem dX6_adds_29 : decode cX6_adds 29 = .ok (.goto (-20), 3) := by decide +kernel
theorem dX6_adds_32 : decode cX6_adds 32 = .ok (.aload_n 0, 1) := by decide +kernel
theorem dX6_adds_33 : decode cX6_adds 33 = .ok (.getfield 61, 3) := by decide +kernel
theorem dX6_adds_36 : decode cX6_adds 36 = .ok (.iconst 4, 1) := by decide +kernel
theorem dX6_adds_37 : decode cX6_adds 37 = .ok (.iload_n 1, 1) := by decide +kernel
theorem dX6_adds_38 : decode cX6_adds 38 = .ok (.iastore, 1) := by decide +kernel
theorem dX6_adds_39 : decode cX6_adds 39 = .ok (.aload_n 0, 1) := by decide +kernel
theorem dX6_adds_40 : decode cX6_adds 40 = .ok (.dup, 1) := by decide +kernel
theorem dX6_adds_41 : decode cX6_adds 41 = .ok (.getfield 166, 3) := by decide +kernel
theorem dX6_adds_44 : decode cX6_adds 44 = .ok (.iconst 1, 1) := by decide +kernel
theorem dX6_adds_45 : decode cX6_adds 45 = .ok (.iadd, 1) := by decide +kernel
theorem dX6_adds_46 : decode cX6_adds 46 = .ok (.putfield 166, 3) := by decide +kernel
theorem dX6_adds_49 : decode cX6_adds 49 = .ok (.iconst 0, 1) := by decide +kernel
theorem dX6_adds_50 : decode cX6_adds 50 = .ok (.istore_n 2, 1) := by decide +kernel
theorem dX6_adds_51 : decode cX6_adds 51 = .ok (.iload_n 2, 1) := by decide +kernel
theorem dX6_adds_52 : decode cX6_adds 52 = .ok (.bipush 16, 2) := by decide +kernel
theorem dX6_adds_54 : decode cX6_adds 54 = .ok (.if_icmp .ge 24, 3) := by decide +kernel
theorem dX6_adds_57 : decode cX6_adds 57 = .ok (.aload_n 0, 1) := by decide +kernel
theorem dX6_adds_58 : decode cX6_adds 58 = .ok (.getfield 64, 3) := by decide +kernel
theorem dX6_adds_61 : decode cX6_adds 61 = .ok (.iload_n 2, 1) := by decide +kernel
theorem dX6_adds_62 : decode cX6_adds 62 = .ok (.dup2, 1) := by decide +kernel
theorem dX6_adds_63 : decode cX6_adds 63 = .ok (.iaload, 1) := by decide +kernel
theorem dX6_adds_64 : decode cX6_adds 64 = .ok (.aload_n 0, 1) := by decide +kernel
theorem dX6_adds_65 : decode cX6_adds 65 = .ok (.iload_n 2, 1) := by decide +kernel
theorem dX6_adds_66 : decode cX6_adds 66 = .ok (.iload_n 1, 1) := by decide +kernel
theorem dX6_adds_67 : decode cX6_adds 67 = .ok (.invokevirtual 175, 3) := by decide +kernel
theorem dX6_adds_70 : decode cX6_adds 70 = .ok (.iadd, 1) := by decide +kernel
theorem dX6_adds_71 : decode cX6_adds 71 = .ok (.iastore, 1) := by decide +kernel
theorem dX6_adds_72 : decode cX6_adds 72 = .ok (.iinc 2 1, 3) := by decide +kernel
theorem dX6_adds_75 : decode cX6_adds 75 = .ok (.goto (-24), 3) := by decide +kernel
theorem dX6_adds_78 : decode cX6_adds 78 = .ok (.return_, 1) := by decide +kernel
theorem dX6_pairs_0 : decode cX6_pairs 0 = .ok (.iconst 0, 1) := by decide +kernel
theorem dX6_pairs_1 : decode cX6_pairs 1 = .ok (.istore_n 1, 1) := by decide +kernel
theorem dX6_pairs_2 : decode cX6_pairs 2 = .ok (.iconst 0, 1) := by decide +kernel
theorem dX6_pairs_3 : decode cX6_pairs 3 = .ok (.istore_n 2, 1) := by decide +kernel
theorem dX6_pairs_4 : decode cX6_pairs 4 = .ok (.iload_n 2, 1) := by decide +kernel
theorem dX6_pairs_5 : decode cX6_pairs 5 = .ok (.bipush 16, 2) := by decide +kernel
theorem dX6_pairs_7 : decode cX6_pairs 7 = .ok (.if_icmp .ge 26, 3) := by decide +kernel
theorem dX6_pairs_10 : decode cX6_pairs 10 = .ok (.iload_n 1, 1) := by decide +kernel
theorem dX6_pairs_11 : decode cX6_pairs 11 = .ok (.aload_n 0, 1) := by decide +kernel
theorem dX6_pairs_12 : decode cX6_pairs 12 = .ok (.getfield 34, 3) := by decide +kernel
theorem dX6_pairs_15 : decode cX6_pairs 15 = .ok (.iload_n 2, 1) := by decide +kernel
theorem dX6_pairs_16 : decode cX6_pairs 16 = .ok (.iaload, 1) := by decide +kernel
theorem dX6_pairs_17 : decode cX6_pairs 17 = .ok (.ifCond .lt 7, 3) := by decide +kernel
theorem dX6_pairs_20 : decode cX6_pairs 20 = .ok (.iconst 1, 1) := by decide +kernel
theorem dX6_pairs_21 : decode cX6_pairs 21 = .ok (.goto 4, 3) := by decide +kernel
theorem dX6_pairs_24 : decode cX6_pairs 24 = .ok (.iconst 0, 1) := by decide +kernel
theorem dX6_pairs_25 : decode cX6_pairs 25 = .ok (.iadd, 1) := by decide +kernel
theorem dX6_pairs_26 : decode cX6_pairs 26 = .ok (.istore_n 1, 1) := by decide +kernel
theorem dX6_pairs_27 : decode cX6_pairs 27 = .ok (.iinc 2 1, 3) := by decide +kernel
theorem dX6_pairs_30 : decode cX6_pairs 30 = .ok (.goto (-26), 3) := by decide +kernel
theorem dX6_pairs_33 : decode cX6_pairs 33 = .ok (.iload_n 1, 1) := by decide +kernel
theorem dX6_pairs_34 : decode cX6_pairs 34 = .ok (.ireturn, 1) := by decide +kernel
theorem dX6_pair_0 : decode cX6_pair 0 = .ok (.iload_n 1, 1) := by decide +kernel
theorem dX6_pair_1 : decode cX6_pair 1 = .ok (.bipush 16, 2) := by decide +kernel
theorem dX6_pair_3 : decode cX6_pair 3 = .ok (.invokestatic 73, 3) := by decide +kernel
theorem dX6_pair_6 : decode cX6_pair 6 = .ok (.ifCond .eq 11, 3) := by decide +kernel
theorem dX6_pair_9 : decode cX6_pair 9 = .ok (.iload_n 2, 1) := by decide +kernel
theorem dX6_pair_10 : decode cX6_pair 10 = .ok (.iconst 2, 1) := by decide +kernel
theorem dX6_pair_11 : decode cX6_pair 11 = .ok (.invokestatic 73, 3) := by decide +kernel
theorem dX6_pair_14 : decode cX6_pair 14 = .ok (.ifCond .ne 9, 3) := by decide +kernel
theorem dX6_pair_17 : decode cX6_pair 17 = .ok (.aload_n 0, 1) := by decide +kernel
theorem dX6_pair_18 : decode cX6_pair 18 = .ok (.iconst (-1), 1) := by decide +kernel
theorem dX6_pair_19 : decode cX6_pair 19 = .ok (.invokevirtual 94, 3) := by decide +kernel
theorem dX6_pair_22 : decode cX6_pair 22 = .ok (.ireturn, 1) := by decide +kernel
theorem dX6_pair_23 : decode cX6_pair 23 = .ok (.aload_n 0, 1) := by decide +kernel
theorem dX6_pair_24 : decode cX6_pair 24 = .ok (.getfield 34, 3) := by decide +kernel
theorem dX6_pair_27 : decode cX6_pair 27 = .ok (.iload_n 1, 1) := by decide +kernel
theorem dX6_pair_28 : decode cX6_pair 28 = .ok (.iaload, 1) := by decide +kernel
theorem dX6_pair_29 : decode cX6_pair 29 = .ok (.iconst 1, 1) := by decide +kernel
theorem dX6_pair_30 : decode cX6_pair 30 = .ok (.iload_n 2, 1) := by decide +kernel
theorem dX6_pair_31 : decode cX6_pair 31 = .ok (.isub, 1) := by decide +kernel
theorem dX6_pair_32 : decode cX6_pair 32 = .ok (.if_icmp .ne 10, 3) := by decide +kernel
theorem dX6_pair_35 : decode cX6_pair 35 = .ok (.aload_n 0, 1) := by decide +kernel
theorem dX6_pair_36 : decode cX6_pair 36 = .ok (.bipush (-3), 2) := by decide +kernel
theorem dX6_pair_38 : decode cX6_pair 38 = .ok (.invokevirtual 94, 3) := by decide +kernel
theorem dX6_pair_41 : decode cX6_pair 41 = .ok (.ireturn, 1) := by decide +kernel
theorem dX6_pair_42 : decode cX6_pair 42 = .ok (.aload_n 0, 1) := by decide +kernel
theorem dX6_pair_43 : decode cX6_pair 43 = .ok (.getfield 34, 3) := by decide +kernel
theorem dX6_pair_46 : decode cX6_pair 46 = .ok (.iload_n 1, 1) := by decide +kernel
theorem dX6_pair_47 : decode cX6_pair 47 = .ok (.iload_n 2, 1) := by decide +kernel
theorem dX6_pair_48 : decode cX6_pair 48 = .ok (.iastore, 1) := by decide +kernel
theorem dX6_pair_49 : decode cX6_pair 49 = .ok (.aload_n 0, 1) := by decide +kernel
theorem dX6_pair_50 : decode cX6_pair 50 = .ok (.invokevirtual 178, 3) := by decide +kernel
theorem dX6_pair_53 : decode cX6_pair 53 = .ok (.ireturn, 1) := by decide +kernel
theorem dX6_planes_0 : decode cX6_planes 0 = .ok (.aload_n 0, 1) := by decide +kernel
theorem dX6_planes_1 : decode cX6_planes 1 = .ok (.invokevirtual 181, 3) := by decide +kernel
theorem dX6_planes_4 : decode cX6_planes 4 = .ok (.aload_n 0, 1) := by decide +kernel
theorem dX6_planes_5 : decode cX6_planes 5 = .ok (.getfield 166, 3) := by decide +kernel
theorem dX6_planes_8 : decode cX6_planes 8 = .ok (.ireturn, 1) := by decide +kernel
theorem dX6_plane_0 : decode cX6_plane 0 = .ok (.iload_n 1, 1) := by decide +kernel
theorem dX6_plane_1 : decode cX6_plane 1 = .ok (.iconst 5, 1) := by decide +kernel
theorem dX6_plane_2 : decode cX6_plane 2 = .ok (.invokestatic 73, 3) := by decide +kernel
theorem dX6_plane_5 : decode cX6_plane 5 = .ok (.ifCond .ne 10, 3) := by decide +kernel
theorem dX6_plane_8 : decode cX6_plane 8 = .ok (.aload_n 0, 1) := by decide +kernel
theorem dX6_plane_9 : decode cX6_plane 9 = .ok (.bipush (-2), 2) := by decide +kernel
theorem dX6_plane_11 : decode cX6_plane 11 = .ok (.invokevirtual 94, 3) := by decide +kernel
theorem dX6_plane_14 : decode cX6_plane 14 = .ok (.ireturn, 1) := by decide +kernel
theorem dX6_plane_15 : decode cX6_plane 15 = .ok (.aload_n 0, 1) := by decide +kernel
theorem dX6_plane_16 : decode cX6_plane 16 = .ok (.invokevirtual 181, 3) := by decide +kernel
theorem dX6_plane_19 : decode cX6_plane 19 = .ok (.aload_n 0, 1) := by decide +kernel
theorem dX6_plane_20 : decode cX6_plane 20 = .ok (.getfield 166, 3) := by decide +kernel
theorem dX6_plane_23 : decode cX6_plane 23 = .ok (.ifCond .ne 8, 3) := by decide +kernel
theorem dX6_plane_26 : decode cX6_plane 26 = .ok (.bipush (-9), 2) := by decide +kernel
theorem dX6_plane_28 : decode cX6_plane 28 = .ok (.goto 12, 3) := by decide +kernel
theorem dX6_plane_31 : decode cX6_plane 31 = .ok (.aload_n 0, 1) := by decide +kernel
theorem dX6_plane_32 : decode cX6_plane 32 = .ok (.getfield 61, 3) := by decide +kernel
theorem dX6_plane_35 : decode cX6_plane 35 = .ok (.iload_n 1, 1) := by decide +kernel
theorem dX6_plane_36 : decode cX6_plane 36 = .ok (.iaload, 1) := by decide +kernel
theorem dX6_plane_37 : decode cX6_plane 37 = .ok (.bipush 10, 2) := by decide +kernel
theorem dX6_plane_39 : decode cX6_plane 39 = .ok (.iadd, 1) := by decide +kernel
theorem dX6_plane_40 : decode cX6_plane 40 = .ok (.ireturn, 1) := by decide +kernel
theorem dX6_foretold_0 : decode cX6_foretold 0 = .ok (.iload_n 1, 1) := by decide +kernel
theorem dX6_foretold_1 : decode cX6_foretold 1 = .ok (.bipush 16, 2) := by decide +kernel
theorem dX6_foretold_3 : decode cX6_foretold 3 = .ok (.invokestatic 73, 3) := by decide +kernel
theorem dX6_foretold_6 : decode cX6_foretold 6 = .ok (.ifCond .ne 9, 3) := by decide +kernel
theorem dX6_foretold_9 : decode cX6_foretold 9 = .ok (.aload_n 0, 1) := by decide +kernel
theorem dX6_foretold_10 : decode cX6_foretold 10 = .ok (.iconst (-1), 1) := by decide +kernel
theorem dX6_foretold_11 : decode cX6_foretold 11 = .ok (.invokevirtual 94, 3) := by decide +kernel
theorem dX6_foretold_14 : decode cX6_foretold 14 = .ok (.ireturn, 1) := by decide +kernel
theorem dX6_foretold_15 : decode cX6_foretold 15 = .ok (.aload_n 0, 1) := by decide +kernel
theorem dX6_foretold_16 : decode cX6_foretold 16 = .ok (.invokevirtual 181, 3) := by decide +kernel
theorem dX6_foretold_19 : decode cX6_foretold 19 = .ok (.aload_n 0, 1) := by decide +kernel
theorem dX6_foretold_20 : decode cX6_foretold 20 = .ok (.getfield 166, 3) := by decide +kernel
theorem dX6_foretold_23 : decode cX6_foretold 23 = .ok (.ifCond .ne 7, 3) := by decide +kernel
theorem dX6_foretold_26 : decode cX6_foretold 26 = .ok (.iconst 3, 1) := by decide +kernel
theorem dX6_foretold_27 : decode cX6_foretold 27 = .ok (.goto 34, 3) := by decide +kernel
theorem dX6_foretold_30 : decode cX6_foretold 30 = .ok (.aload_n 0, 1) := by decide +kernel
theorem dX6_foretold_31 : decode cX6_foretold 31 = .ok (.getfield 64, 3) := by decide +kernel
theorem dX6_foretold_34 : decode cX6_foretold 34 = .ok (.iload_n 1, 1) := by decide +kernel
theorem dX6_foretold_35 : decode cX6_foretold 35 = .ok (.iaload, 1) := by decide +kernel
theorem dX6_foretold_36 : decode cX6_foretold 36 = .ok (.aload_n 0, 1) := by decide +kernel
theorem dX6_foretold_37 : decode cX6_foretold 37 = .ok (.getfield 166, 3) := by decide +kernel
theorem dX6_foretold_40 : decode cX6_foretold 40 = .ok (.if_icmp .ne 7, 3) := by decide +kernel
theorem dX6_foretold_43 : decode cX6_foretold 43 = .ok (.iconst 1, 1) := by decide +kernel
theorem dX6_foretold_44 : decode cX6_foretold 44 = .ok (.goto 17, 3) := by decide +kernel
theorem dX6_foretold_47 : decode cX6_foretold 47 = .ok (.aload_n 0, 1) := by decide +kernel
theorem dX6_foretold_48 : decode cX6_foretold 48 = .ok (.getfield 64, 3) := by decide +kernel
theorem dX6_foretold_51 : decode cX6_foretold 51 = .ok (.iload_n 1, 1) := by decide +kernel
theorem dX6_foretold_52 : decode cX6_foretold 52 = .ok (.iaload, 1) := by decide +kernel
theorem dX6_foretold_53 : decode cX6_foretold 53 = .ok (.ifCond .ne 7, 3) := by decide +kernel
theorem dX6_foretold_56 : decode cX6_foretold 56 = .ok (.iconst 0, 1) := by decide +kernel
theorem dX6_foretold_57 : decode cX6_foretold 57 = .ok (.goto 4, 3) := by decide +kernel
theorem dX6_foretold_60 : decode cX6_foretold 60 = .ok (.iconst 2, 1) := by decide +kernel
theorem dX6_foretold_61 : decode cX6_foretold 61 = .ok (.ireturn, 1) := by decide +kernel
theorem dX6_next_0 : decode cX6_next 0 = .ok (.aload_n 0, 1) := by decide +kernel
theorem dX6_next_1 : decode cX6_next 1 = .ok (.invokevirtual 181, 3) := by decide +kernel
theorem dX6_next_4 : decode cX6_next 4 = .ok (.bipush (-9), 2) := by decide +kernel
theorem dX6_next_6 : decode cX6_next 6 = .ok (.istore_n 1, 1) := by decide +kernel
theorem dX6_next_7 : decode cX6_next 7 = .ok (.iconst 0, 1) := by decide +kernel
theorem dX6_next_8 : decode cX6_next 8 = .ok (.istore_n 2, 1) := by decide +kernel
theorem dX6_next_9 : decode cX6_next 9 = .ok (.iconst 0, 1) := by decide +kernel
theorem dX6_next_10 : decode cX6_next 10 = .ok (.istore_n 3, 1) := by decide +kernel
theorem dX6_next_11 : decode cX6_next 11 = .ok (.iload_n 3, 1) := by decide +kernel
theorem dX6_next_12 : decode cX6_next 12 = .ok (.bipush 16, 2) := by decide +kernel
theorem dX6_next_14 : decode cX6_next 14 = .ok (.if_icmp .ge 65, 3) := by decide +kernel
theorem dX6_next_17 : decode cX6_next 17 = .ok (.aload_n 0, 1) := by decide +kernel
theorem dX6_next_18 : decode cX6_next 18 = .ok (.getfield 166, 3) := by decide +kernel
theorem dX6_next_21 : decode cX6_next 21 = .ok (.ifCond .le 58, 3) := by decide +kernel
theorem dX6_next_24 : decode cX6_next 24 = .ok (.aload_n 0, 1) := by decide +kernel
theorem dX6_next_25 : decode cX6_next 25 = .ok (.getfield 64, 3) := by decide +kernel
theorem dX6_next_28 : decode cX6_next 28 = .ok (.iload_n 3, 1) := by decide +kernel
theorem dX6_next_29 : decode cX6_next 29 = .ok (.iaload, 1) := by decide +kernel
theorem dX6_next_30 : decode cX6_next 30 = .ok (.aload_n 0, 1) := by decide +kernel
theorem dX6_next_31 : decode cX6_next 31 = .ok (.getfield 166, 3) := by decide +kernel
theorem dX6_next_34 : decode cX6_next 34 = .ok (.aload_n 0, 1) := by decide +kernel
theorem dX6_next_35 : decode cX6_next 35 = .ok (.getfield 64, 3) := by decide +kernel
theorem dX6_next_38 : decode cX6_next 38 = .ok (.iload_n 3, 1) := by decide +kernel
theorem dX6_next_39 : decode cX6_next 39 = .ok (.iaload, 1) := by decide +kernel
theorem dX6_next_40 : decode cX6_next 40 = .ok (.isub, 1) := by decide +kernel
theorem dX6_next_41 : decode cX6_next 41 = .ok (.invokestatic 184, 3) := by decide +kernel
theorem dX6_next_44 : decode cX6_next 44 = .ok (.istore 4, 2) := by decide +kernel
theorem dX6_next_46 : decode cX6_next 46 = .ok (.aload_n 0, 1) := by decide +kernel
theorem dX6_next_47 : decode cX6_next 47 = .ok (.getfield 34, 3) := by decide +kernel
theorem dX6_next_50 : decode cX6_next 50 = .ok (.iload_n 3, 1) := by decide +kernel
theorem dX6_next_51 : decode cX6_next 51 = .ok (.iaload, 1) := by decide +kernel
theorem dX6_next_52 : decode cX6_next 52 = .ok (.ifCond .ge 21, 3) := by decide +kernel
theorem dX6_next_55 : decode cX6_next 55 = .ok (.iload_n 1, 1) := by decide +kernel
theorem dX6_next_56 : decode cX6_next 56 = .ok (.ifCond .lt 12, 3) := by decide +kernel
theorem dX6_next_59 : decode cX6_next 59 = .ok (.iload 4, 2) := by decide +kernel
theorem dX6_next_61 : decode cX6_next 61 = .ok (.iload_n 2, 1) := by decide +kernel
theorem dX6_next_62 : decode cX6_next 62 = .ok (.if_icmp .lt 6, 3) := by decide +kernel
theorem dX6_next_65 : decode cX6_next 65 = .ok (.goto 8, 3) := by decide +kernel
theorem dX6_next_68 : decode cX6_next 68 = .ok (.iload_n 3, 1) := by decide +kernel
theorem dX6_next_69 : decode cX6_next 69 = .ok (.istore_n 1, 1) := by decide +kernel
theorem dX6_next_70 : decode cX6_next 70 = .ok (.iload 4, 2) := by decide +kernel
theorem dX6_next_72 : decode cX6_next 72 = .ok (.istore_n 2, 1) := by decide +kernel
theorem dX6_next_73 : decode cX6_next 73 = .ok (.iinc 3 1, 3) := by decide +kernel
theorem dX6_next_76 : decode cX6_next 76 = .ok (.goto (-65), 3) := by decide +kernel
theorem dX6_next_79 : decode cX6_next 79 = .ok (.iload_n 1, 1) := by decide +kernel
theorem dX6_next_80 : decode cX6_next 80 = .ok (.ireturn, 1) := by decide +kernel
theorem dX6_check_0 : decode cX6_check 0 = .ok (.iload_n 1, 1) := by decide +kernel
theorem dX6_check_1 : decode cX6_check 1 = .ok (.bipush 16, 2) := by decide +kernel
theorem dX6_check_3 : decode cX6_check 3 = .ok (.invokestatic 73, 3) := by decide +kernel
theorem dX6_check_6 : decode cX6_check 6 = .ok (.ifCond .eq 11, 3) := by decide +kernel
theorem dX6_check_9 : decode cX6_check 9 = .ok (.iload_n 2, 1) := by decide +kernel
theorem dX6_check_10 : decode cX6_check 10 = .ok (.iconst 2, 1) := by decide +kernel
theorem dX6_check_11 : decode cX6_check 11 = .ok (.invokestatic 73, 3) := by decide +kernel
theorem dX6_check_14 : decode cX6_check 14 = .ok (.ifCond .ne 9, 3) := by decide +kernel
theorem dX6_check_17 : decode cX6_check 17 = .ok (.aload_n 0, 1) := by decide +kernel
theorem dX6_check_18 : decode cX6_check 18 = .ok (.iconst (-1), 1) := by decide +kernel
theorem dX6_check_19 : decode cX6_check 19 = .ok (.invokevirtual 94, 3) := by decide +kernel
theorem dX6_check_22 : decode cX6_check 22 = .ok (.ireturn, 1) := by decide +kernel
theorem dX6_check_23 : decode cX6_check 23 = .ok (.aload_n 0, 1) := by decide +kernel
theorem dX6_check_24 : decode cX6_check 24 = .ok (.getfield 34, 3) := by decide +kernel
theorem dX6_check_27 : decode cX6_check 27 = .ok (.iload_n 1, 1) := by decide +kernel
theorem dX6_check_28 : decode cX6_check 28 = .ok (.iaload, 1) := by decide +kernel
theorem dX6_check_29 : decode cX6_check 29 = .ok (.ifCond .lt 12, 3) := by decide +kernel
theorem dX6_check_32 : decode cX6_check 32 = .ok (.aload_n 0, 1) := by decide +kernel
theorem dX6_check_33 : decode cX6_check 33 = .ok (.getfield 41, 3) := by decide +kernel
theorem dX6_check_36 : decode cX6_check 36 = .ok (.iload_n 1, 1) := by decide +kernel
theorem dX6_check_37 : decode cX6_check 37 = .ok (.baload, 1) := by decide +kernel
theorem dX6_check_38 : decode cX6_check 38 = .ok (.ifCond .eq 10, 3) := by decide +kernel
theorem dX6_check_41 : decode cX6_check 41 = .ok (.aload_n 0, 1) := by decide +kernel
theorem dX6_check_42 : decode cX6_check 42 = .ok (.bipush (-3), 2) := by decide +kernel
theorem dX6_check_44 : decode cX6_check 44 = .ok (.invokevirtual 94, 3) := by decide +kernel
theorem dX6_check_47 : decode cX6_check 47 = .ok (.ireturn, 1) := by decide +kernel
theorem dX6_check_48 : decode cX6_check 48 = .ok (.aload_n 0, 1) := by decide +kernel
theorem dX6_check_49 : decode cX6_check 49 = .ok (.getfield 41, 3) := by decide +kernel
theorem dX6_check_52 : decode cX6_check 52 = .ok (.iload_n 1, 1) := by decide +kernel
theorem dX6_check_53 : decode cX6_check 53 = .ok (.iconst 1, 1) := by decide +kernel
theorem dX6_check_54 : decode cX6_check 54 = .ok (.bastore, 1) := by decide +kernel
theorem dX6_check_55 : decode cX6_check 55 = .ok (.aload_n 0, 1) := by decide +kernel
theorem dX6_check_56 : decode cX6_check 56 = .ok (.getfield 34, 3) := by decide +kernel
theorem dX6_check_59 : decode cX6_check 59 = .ok (.iload_n 1, 1) := by decide +kernel
theorem dX6_check_60 : decode cX6_check 60 = .ok (.iaload, 1) := by decide +kernel
theorem dX6_check_61 : decode cX6_check 61 = .ok (.iload_n 2, 1) := by decide +kernel
theorem dX6_check_62 : decode cX6_check 62 = .ok (.if_icmp .ne 7, 3) := by decide +kernel
theorem dX6_check_65 : decode cX6_check 65 = .ok (.iconst 1, 1) := by decide +kernel
theorem dX6_check_66 : decode cX6_check 66 = .ok (.goto 4, 3) := by decide +kernel
theorem dX6_check_69 : decode cX6_check 69 = .ok (.iconst 0, 1) := by decide +kernel
theorem dX6_check_70 : decode cX6_check 70 = .ok (.ireturn, 1) := by decide +kernel
theorem dX6_far_0 : decode cX6_far 0 = .ok (.iload_n 1, 1) := by decide +kernel
theorem dX6_far_1 : decode cX6_far 1 = .ok (.iload_n 2, 1) := by decide +kernel
theorem dX6_far_2 : decode cX6_far 2 = .ok (.ixor, 1) := by decide +kernel
theorem dX6_far_3 : decode cX6_far 3 = .ok (.aload_n 0, 1) := by decide +kernel
theorem dX6_far_4 : decode cX6_far 4 = .ok (.invokevirtual 124, 3) := by decide +kernel
theorem dX6_far_7 : decode cX6_far 7 = .ok (.iand, 1) := by decide +kernel
theorem dX6_far_8 : decode cX6_far 8 = .ok (.invokestatic 131, 3) := by decide +kernel
theorem dX6_far_11 : decode cX6_far 11 = .ok (.ireturn, 1) := by decide +kernel
theorem dX6_whoseOf_0 : decode cX6_whoseOf 0 = .ok (.bipush (-9), 2) := by decide +kernel
theorem dX6_whoseOf_2 : decode cX6_whoseOf 2 = .ok (.istore_n 2, 1) := by decide +kernel
theorem dX6_whoseOf_3 : decode cX6_whoseOf 3 = .ok (.iconst 0, 1) := by decide +kernel
theorem dX6_whoseOf_4 : decode cX6_whoseOf 4 = .ok (.istore_n 3, 1) := by decide +kernel
theorem dX6_whoseOf_5 : decode cX6_whoseOf 5 = .ok (.iload_n 3, 1) := by decide +kernel
theorem dX6_whoseOf_6 : decode cX6_whoseOf 6 = .ok (.aload_n 0, 1) := by decide +kernel
theorem dX6_whoseOf_7 : decode cX6_whoseOf 7 = .ok (.getfield 98, 3) := by decide +kernel
theorem dX6_whoseOf_10 : decode cX6_whoseOf 10 = .ok (.if_icmp .ge 40, 3) := by decide +kernel
theorem dX6_whoseOf_13 : decode cX6_whoseOf 13 = .ok (.iload_n 2, 1) := by decide +kernel
theorem dX6_whoseOf_14 : decode cX6_whoseOf 14 = .ok (.ifCond .lt 28, 3) := by decide +kernel
theorem dX6_whoseOf_17 : decode cX6_whoseOf 17 = .ok (.aload_n 0, 1) := by decide +kernel
theorem dX6_whoseOf_18 : decode cX6_whoseOf 18 = .ok (.iload_n 1, 1) := by decide +kernel
theorem dX6_whoseOf_19 : decode cX6_whoseOf 19 = .ok (.aload_n 0, 1) := by decide +kernel
theorem dX6_whoseOf_20 : decode cX6_whoseOf 20 = .ok (.getfield 22, 3) := by decide +kernel
theorem dX6_whoseOf_23 : decode cX6_whoseOf 23 = .ok (.iload_n 3, 1) := by decide +kernel
theorem dX6_whoseOf_24 : decode cX6_whoseOf 24 = .ok (.iaload, 1) := by decide +kernel
theorem dX6_whoseOf_25 : decode cX6_whoseOf 25 = .ok (.invokevirtual 187, 3) := by decide +kernel
theorem dX6_whoseOf_28 : decode cX6_whoseOf 28 = .ok (.aload_n 0, 1) := by decide +kernel
theorem dX6_whoseOf_29 : decode cX6_whoseOf 29 = .ok (.iload_n 1, 1) := by decide +kernel
theorem dX6_whoseOf_30 : decode cX6_whoseOf 30 = .ok (.aload_n 0, 1) := by decide +kernel
theorem dX6_whoseOf_31 : decode cX6_whoseOf 31 = .ok (.getfield 22, 3) := by decide +kernel
theorem dX6_whoseOf_34 : decode cX6_whoseOf 34 = .ok (.iload_n 2, 1) := by decide +kernel
theorem dX6_whoseOf_35 : decode cX6_whoseOf 35 = .ok (.iaload, 1) := by decide +kernel
theorem dX6_whoseOf_36 : decode cX6_whoseOf 36 = .ok (.invokevirtual 187, 3) := by decide +kernel
theorem dX6_whoseOf_39 : decode cX6_whoseOf 39 = .ok (.if_icmp .ge 5, 3) := by decide +kernel
theorem dX6_whoseOf_42 : decode cX6_whoseOf 42 = .ok (.iload_n 3, 1) := by decide +kernel
theorem dX6_whoseOf_43 : decode cX6_whoseOf 43 = .ok (.istore_n 2, 1) := by decide +kernel
theorem dX6_whoseOf_44 : decode cX6_whoseOf 44 = .ok (.iinc 3 1, 3) := by decide +kernel
theorem dX6_whoseOf_47 : decode cX6_whoseOf 47 = .ok (.goto (-42), 3) := by decide +kernel
theorem dX6_whoseOf_50 : decode cX6_whoseOf 50 = .ok (.iload_n 2, 1) := by decide +kernel
theorem dX6_whoseOf_51 : decode cX6_whoseOf 51 = .ok (.ireturn, 1) := by decide +kernel
theorem dX6_whose_0 : decode cX6_whose 0 = .ok (.aload_n 0, 1) := by decide +kernel
theorem dX6_whose_1 : decode cX6_whose 1 = .ok (.iload_n 1, 1) := by decide +kernel
theorem dX6_whose_2 : decode cX6_whose 2 = .ok (.invokevirtual 104, 3) := by decide +kernel
theorem dX6_whose_5 : decode cX6_whose 5 = .ok (.ifCond .eq 11, 3) := by decide +kernel
theorem dX6_whose_8 : decode cX6_whose 8 = .ok (.aload_n 0, 1) := by decide +kernel
theorem dX6_whose_9 : decode cX6_whose 9 = .ok (.iload_n 1, 1) := by decide +kernel
theorem dX6_whose_10 : decode cX6_whose 10 = .ok (.invokevirtual 190, 3) := by decide +kernel
theorem dX6_whose_13 : decode cX6_whose 13 = .ok (.goto 8, 3) := by decide +kernel
theorem dX6_whose_16 : decode cX6_whose 16 = .ok (.aload_n 0, 1) := by decide +kernel
theorem dX6_whose_17 : decode cX6_whose 17 = .ok (.iconst (-1), 1) := by decide +kernel
theorem dX6_whose_18 : decode cX6_whose 18 = .ok (.invokevirtual 94, 3) := by decide +kernel
theorem dX6_whose_21 : decode cX6_whose 21 = .ok (.ireturn, 1) := by decide +kernel
theorem dX6_sure_0 : decode cX6_sure 0 = .ok (.aload_n 0, 1) := by decide +kernel
theorem dX6_sure_1 : decode cX6_sure 1 = .ok (.iload_n 1, 1) := by decide +kernel
theorem dX6_sure_2 : decode cX6_sure 2 = .ok (.invokevirtual 104, 3) := by decide +kernel
theorem dX6_sure_5 : decode cX6_sure 5 = .ok (.ifCond .ne 9, 3) := by decide +kernel
theorem dX6_sure_8 : decode cX6_sure 8 = .ok (.aload_n 0, 1) := by decide +kernel
theorem dX6_sure_9 : decode cX6_sure 9 = .ok (.iconst (-1), 1) := by decide +kernel
theorem dX6_sure_10 : decode cX6_sure 10 = .ok (.invokevirtual 94, 3) := by decide +kernel
theorem dX6_sure_13 : decode cX6_sure 13 = .ok (.ireturn, 1) := by decide +kernel
theorem dX6_sure_14 : decode cX6_sure 14 = .ok (.aload_n 0, 1) := by decide +kernel
theorem dX6_sure_15 : decode cX6_sure 15 = .ok (.iload_n 1, 1) := by decide +kernel
theorem dX6_sure_16 : decode cX6_sure 16 = .ok (.invokevirtual 190, 3) := by decide +kernel
theorem dX6_sure_19 : decode cX6_sure 19 = .ok (.istore_n 2, 1) := by decide +kernel
theorem dX6_sure_20 : decode cX6_sure 20 = .ok (.iload_n 2, 1) := by decide +kernel
theorem dX6_sure_21 : decode cX6_sure 21 = .ok (.ifCond .lt 7, 3) := by decide +kernel
theorem dX6_sure_24 : decode cX6_sure 24 = .ok (.iconst 1, 1) := by decide +kernel
theorem dX6_sure_25 : decode cX6_sure 25 = .ok (.goto 4, 3) := by decide +kernel
theorem dX6_sure_28 : decode cX6_sure 28 = .ok (.iconst 0, 1) := by decide +kernel
theorem dX6_sure_29 : decode cX6_sure 29 = .ok (.istore_n 3, 1) := by decide +kernel
theorem dX6_sure_30 : decode cX6_sure 30 = .ok (.iconst 0, 1) := by decide +kernel
theorem dX6_sure_31 : decode cX6_sure 31 = .ok (.istore 4, 2) := by decide +kernel
theorem dX6_sure_33 : decode cX6_sure 33 = .ok (.iload 4, 2) := by decide +kernel
theorem dX6_sure_35 : decode cX6_sure 35 = .ok (.aload_n 0, 1) := by decide +kernel
theorem dX6_sure_36 : decode cX6_sure 36 = .ok (.getfield 98, 3) := by decide +kernel
theorem dX6_sure_39 : decode cX6_sure 39 = .ok (.if_icmp .ge 53, 3) := by decide +kernel
theorem dX6_sure_42 : decode cX6_sure 42 = .ok (.iload_n 3, 1) := by decide +kernel
theorem dX6_sure_43 : decode cX6_sure 43 = .ok (.ifCond .eq 41, 3) := by decide +kernel
theorem dX6_sure_46 : decode cX6_sure 46 = .ok (.iload 4, 2) := by decide +kernel
theorem dX6_sure_48 : decode cX6_sure 48 = .ok (.iload_n 2, 1) := by decide +kernel
theorem dX6_sure_49 : decode cX6_sure 49 = .ok (.if_icmp .eq 31, 3) := by decide +kernel
theorem dX6_sure_52 : decode cX6_sure 52 = .ok (.aload_n 0, 1) := by decide +kernel
theorem dX6_sure_53 : decode cX6_sure 53 = .ok (.iload_n 1, 1) := by decide +kernel
theorem dX6_sure_54 : decode cX6_sure 54 = .ok (.aload_n 0, 1) := by decide +kernel
theorem dX6_sure_55 : decode cX6_sure 55 = .ok (.getfield 22, 3) := by decide +kernel
theorem dX6_sure_58 : decode cX6_sure 58 = .ok (.iload 4, 2) := by decide +kernel
theorem dX6_sure_60 : decode cX6_sure 60 = .ok (.iaload, 1) := by decide +kernel
theorem dX6_sure_61 : decode cX6_sure 61 = .ok (.invokevirtual 187, 3) := by decide +kernel
theorem dX6_sure_64 : decode cX6_sure 64 = .ok (.aload_n 0, 1) := by decide +kernel
theorem dX6_sure_65 : decode cX6_sure 65 = .ok (.iload_n 1, 1) := by decide +kernel
theorem dX6_sure_66 : decode cX6_sure 66 = .ok (.aload_n 0, 1) := by decide +kernel
theorem dX6_sure_67 : decode cX6_sure 67 = .ok (.getfield 22, 3) := by decide +kernel
theorem dX6_sure_70 : decode cX6_sure 70 = .ok (.iload_n 2, 1) := by decide +kernel
theorem dX6_sure_71 : decode cX6_sure 71 = .ok (.iaload, 1) := by decide +kernel
theorem dX6_sure_72 : decode cX6_sure 72 = .ok (.invokevirtual 187, 3) := by decide +kernel
theorem dX6_sure_75 : decode cX6_sure 75 = .ok (.iconst 2, 1) := by decide +kernel
theorem dX6_sure_76 : decode cX6_sure 76 = .ok (.iadd, 1) := by decide +kernel
theorem dX6_sure_77 : decode cX6_sure 77 = .ok (.if_icmp .le 7, 3) := by decide +kernel
theorem dX6_sure_80 : decode cX6_sure 80 = .ok (.iconst 1, 1) := by decide +kernel
theorem dX6_sure_81 : decode cX6_sure 81 = .ok (.goto 4, 3) := by decide +kernel
theorem dX6_sure_84 : decode cX6_sure 84 = .ok (.iconst 0, 1) := by decide +kernel
theorem dX6_sure_85 : decode cX6_sure 85 = .ok (.istore_n 3, 1) := by decide +kernel
theorem dX6_sure_86 : decode cX6_sure 86 = .ok (.iinc 4 1, 3) := by decide +kernel
theorem dX6_sure_89 : decode cX6_sure 89 = .ok (.goto (-56), 3) := by decide +kernel
theorem dX6_sure_92 : decode cX6_sure 92 = .ok (.iload_n 3, 1) := by decide +kernel
theorem dX6_sure_93 : decode cX6_sure 93 = .ok (.ifCond .eq 7, 3) := by decide +kernel
theorem dX6_sure_96 : decode cX6_sure 96 = .ok (.iconst 1, 1) := by decide +kernel
theorem dX6_sure_97 : decode cX6_sure 97 = .ok (.goto 4, 3) := by decide +kernel
theorem dX6_sure_100 : decode cX6_sure 100 = .ok (.iconst 0, 1) := by decide +kernel
theorem dX6_sure_101 : decode cX6_sure 101 = .ok (.ireturn, 1) := by decide +kernel
theorem dX6_apart_0 : decode cX6_apart 0 = .ok (.bipush (-9), 2) := by decide +kernel
theorem dX6_apart_2 : decode cX6_apart 2 = .ok (.istore_n 1, 1) := by decide +kernel
theorem dX6_apart_3 : decode cX6_apart 3 = .ok (.iconst 0, 1) := by decide +kernel
theorem dX6_apart_4 : decode cX6_apart 4 = .ok (.istore_n 2, 1) := by decide +kernel
theorem dX6_apart_5 : decode cX6_apart 5 = .ok (.iload_n 2, 1) := by decide +kernel
theorem dX6_apart_6 : decode cX6_apart 6 = .ok (.aload_n 0, 1) := by decide +kernel
theorem dX6_apart_7 : decode cX6_apart 7 = .ok (.getfield 98, 3) := by decide +kernel
theorem dX6_apart_10 : decode cX6_apart 10 = .ok (.if_icmp .ge 63, 3) := by decide +kernel
theorem dX6_apart_13 : decode cX6_apart 13 = .ok (.iconst 0, 1) := by decide +kernel
theorem dX6_apart_14 : decode cX6_apart 14 = .ok (.istore_n 3, 1) := by decide +kernel
theorem dX6_apart_15 : decode cX6_apart 15 = .ok (.iload_n 3, 1) := by decide +kernel
theorem dX6_apart_16 : decode cX6_apart 16 = .ok (.iload_n 2, 1) := by decide +kernel
theorem dX6_apart_17 : decode cX6_apart 17 = .ok (.if_icmp .ge 50, 3) := by decide +kernel
theorem dX6_apart_20 : decode cX6_apart 20 = .ok (.iload_n 1, 1) := by decide +kernel
theorem dX6_apart_21 : decode cX6_apart 21 = .ok (.ifCond .lt 23, 3) := by decide +kernel
theorem dX6_apart_24 : decode cX6_apart 24 = .ok (.aload_n 0, 1) := by decide +kernel
theorem dX6_apart_25 : decode cX6_apart 25 = .ok (.aload_n 0, 1) := by decide +kernel
theorem dX6_apart_26 : decode cX6_apart 26 = .ok (.getfield 22, 3) := by decide +kernel
theorem dX6_apart_29 : decode cX6_apart 29 = .ok (.iload_n 2, 1) := by decide +kernel
theorem dX6_apart_30 : decode cX6_apart 30 = .ok (.iaload, 1) := by decide +kernel
theorem dX6_apart_31 : decode cX6_apart 31 = .ok (.aload_n 0, 1) := by decide +kernel
theorem dX6_apart_32 : decode cX6_apart 32 = .ok (.getfield 22, 3) := by decide +kernel
theorem dX6_apart_35 : decode cX6_apart 35 = .ok (.iload_n 3, 1) := by decide +kernel
theorem dX6_apart_36 : decode cX6_apart 36 = .ok (.iaload, 1) := by decide +kernel
theorem dX6_apart_37 : decode cX6_apart 37 = .ok (.invokevirtual 187, 3) := by decide +kernel
theorem dX6_apart_40 : decode cX6_apart 40 = .ok (.iload_n 1, 1) := by decide +kernel
theorem dX6_apart_41 : decode cX6_apart 41 = .ok (.if_icmp .ge 20, 3) := by decide +kernel
theorem dX6_apart_44 : decode cX6_apart 44 = .ok (.aload_n 0, 1) := by decide +kernel
theorem dX6_apart_45 : decode cX6_apart 45 = .ok (.aload_n 0, 1) := by decide +kernel
theorem dX6_apart_46 : decode cX6_apart 46 = .ok (.getfield 22, 3) := by decide +kernel
theorem dX6_apart_49 : decode cX6_apart 49 = .ok (.iload_n 2, 1) := by decide +kernel
theorem dX6_apart_50 : decode cX6_apart 50 = .ok (.iaload, 1) := by decide +kernel
theorem dX6_apart_51 : decode cX6_apart 51 = .ok (.aload_n 0, 1) := by decide +kernel
theorem dX6_apart_52 : decode cX6_apart 52 = .ok (.getfield 22, 3) := by decide +kernel
theorem dX6_apart_55 : decode cX6_apart 55 = .ok (.iload_n 3, 1) := by decide +kernel
theorem dX6_apart_56 : decode cX6_apart 56 = .ok (.iaload, 1) := by decide +kernel
theorem dX6_apart_57 : decode cX6_apart 57 = .ok (.invokevirtual 187, 3) := by decide +kernel
theorem dX6_apart_60 : decode cX6_apart 60 = .ok (.istore_n 1, 1) := by decide +kernel
theorem dX6_apart_61 : decode cX6_apart 61 = .ok (.iinc 3 1, 3) := by decide +kernel
theorem dX6_apart_64 : decode cX6_apart 64 = .ok (.goto (-49), 3) := by decide +kernel
theorem dX6_apart_67 : decode cX6_apart 67 = .ok (.iinc 2 1, 3) := by decide +kernel
theorem dX6_apart_70 : decode cX6_apart 70 = .ok (.goto (-65), 3) := by decide +kernel
theorem dX6_apart_73 : decode cX6_apart 73 = .ok (.iload_n 1, 1) := by decide +kernel
theorem dX6_apart_74 : decode cX6_apart 74 = .ok (.ireturn, 1) := by decide +kernel
theorem dX6_odd_0 : decode cX6_odd 0 = .ok (.iload_n 1, 1) := by decide +kernel
theorem dX6_odd_1 : decode cX6_odd 1 = .ok (.aload_n 0, 1) := by decide +kernel
theorem dX6_odd_2 : decode cX6_odd 2 = .ok (.getfield 44, 3) := by decide +kernel
theorem dX6_odd_5 : decode cX6_odd 5 = .ok (.invokestatic 73, 3) := by decide +kernel
theorem dX6_odd_8 : decode cX6_odd 8 = .ok (.ifCond .ne 9, 3) := by decide +kernel
theorem dX6_odd_11 : decode cX6_odd 11 = .ok (.aload_n 0, 1) := by decide +kernel
theorem dX6_odd_12 : decode cX6_odd 12 = .ok (.iconst (-1), 1) := by decide +kernel
theorem dX6_odd_13 : decode cX6_odd 13 = .ok (.invokevirtual 94, 3) := by decide +kernel
theorem dX6_odd_16 : decode cX6_odd 16 = .ok (.ireturn, 1) := by decide +kernel
theorem dX6_odd_17 : decode cX6_odd 17 = .ok (.iconst 0, 1) := by decide +kernel
theorem dX6_odd_18 : decode cX6_odd 18 = .ok (.istore_n 2, 1) := by decide +kernel
theorem dX6_odd_19 : decode cX6_odd 19 = .ok (.iconst 0, 1) := by decide +kernel
theorem dX6_odd_20 : decode cX6_odd 20 = .ok (.istore_n 3, 1) := by decide +kernel
theorem dX6_odd_21 : decode cX6_odd 21 = .ok (.iload_n 3, 1) := by decide +kernel
theorem dX6_odd_22 : decode cX6_odd 22 = .ok (.aload_n 0, 1) := by decide +kernel
theorem dX6_odd_23 : decode cX6_odd 23 = .ok (.getfield 98, 3) := by decide +kernel
theorem dX6_odd_26 : decode cX6_odd 26 = .ok (.if_icmp .ge 22, 3) := by decide +kernel
theorem dX6_odd_29 : decode cX6_odd 29 = .ok (.iload_n 2, 1) := by decide +kernel
theorem dX6_odd_30 : decode cX6_odd 30 = .ok (.aload_n 0, 1) := by decide +kernel
theorem dX6_odd_31 : decode cX6_odd 31 = .ok (.getfield 22, 3) := by decide +kernel
theorem dX6_odd_34 : decode cX6_odd 34 = .ok (.iload_n 3, 1) := by decide +kernel
theorem dX6_odd_35 : decode cX6_odd 35 = .ok (.iaload, 1) := by decide +kernel
theorem dX6_odd_36 : decode cX6_odd 36 = .ok (.iload_n 1, 1) := by decide +kernel
theorem dX6_odd_37 : decode cX6_odd 37 = .ok (.ishr, 1) := by decide +kernel
theorem dX6_odd_38 : decode cX6_odd 38 = .ok (.iconst 1, 1) := by decide +kernel
theorem dX6_odd_39 : decode cX6_odd 39 = .ok (.iand, 1) := by decide +kernel
theorem dX6_odd_40 : decode cX6_odd 40 = .ok (.iadd, 1) := by decide +kernel
theorem dX6_odd_41 : decode cX6_odd 41 = .ok (.istore_n 2, 1) := by decide +kernel
theorem dX6_odd_42 : decode cX6_odd 42 = .ok (.iinc 3 1, 3) := by decide +kernel
theorem dX6_odd_45 : decode cX6_odd 45 = .ok (.goto (-24), 3) := by decide +kernel
theorem dX6_odd_48 : decode cX6_odd 48 = .ok (.iload_n 2, 1) := by decide +kernel
theorem dX6_odd_49 : decode cX6_odd 49 = .ok (.ireturn, 1) := by decide +kernel
theorem dX6_count_0 : decode cX6_count 0 = .ok (.iload_n 1, 1) := by decide +kernel
theorem dX6_count_1 : decode cX6_count 1 = .ok (.bipush 10, 2) := by decide +kernel
theorem dX6_count_3 : decode cX6_count 3 = .ok (.if_icmp .le 19, 3) := by decide +kernel
theorem dX6_count_6 : decode cX6_count 6 = .ok (.iload_n 1, 1) := by decide +kernel
theorem dX6_count_7 : decode cX6_count 7 = .ok (.bipush 17, 2) := by decide +kernel
theorem dX6_count_9 : decode cX6_count 9 = .ok (.if_icmp .ge 13, 3) := by decide +kernel
theorem dX6_count_12 : decode cX6_count 12 = .ok (.aload_n 0, 1) := by decide +kernel
theorem dX6_count_13 : decode cX6_count 13 = .ok (.getfield 7, 3) := by decide +kernel
theorem dX6_count_16 : decode cX6_count 16 = .ok (.iload_n 1, 1) := by decide +kernel
theorem dX6_count_17 : decode cX6_count 17 = .ok (.bipush 10, 2) := by decide +kernel
theorem dX6_count_19 : decode cX6_count 19 = .ok (.isub, 1) := by decide +kernel
theorem dX6_count_20 : decode cX6_count 20 = .ok (.iaload, 1) := by decide +kernel
theorem dX6_count_21 : decode cX6_count 21 = .ok (.ireturn, 1) := by decide +kernel
theorem dX6_count_22 : decode cX6_count 22 = .ok (.iconst 0, 1) := by decide +kernel
theorem dX6_count_23 : decode cX6_count 23 = .ok (.istore_n 2, 1) := by decide +kernel
theorem dX6_count_24 : decode cX6_count 24 = .ok (.iload_n 1, 1) := by decide +kernel
theorem dX6_count_25 : decode cX6_count 25 = .ok (.tableswitch 148 0 7 #[47, 52, 57, 62, 70, 75, 110, 115], 47) := by decide +kernel
theorem dX6_count_72 : decode cX6_count 72 = .ok (.aload_n 0, 1) := by decide +kernel
theorem dX6_count_73 : decode cX6_count 73 = .ok (.getfield 44, 3) := by decide +kernel
theorem dX6_count_76 : decode cX6_count 76 = .ok (.ireturn, 1) := by decide +kernel
theorem dX6_count_77 : decode cX6_count 77 = .ok (.aload_n 0, 1) := by decide +kernel
theorem dX6_count_78 : decode cX6_count 78 = .ok (.getfield 98, 3) := by decide +kernel
theorem dX6_count_81 : decode cX6_count 81 = .ok (.ireturn, 1) := by decide +kernel
theorem dX6_count_82 : decode cX6_count 82 = .ok (.aload_n 0, 1) := by decide +kernel
theorem dX6_count_83 : decode cX6_count 83 = .ok (.getfield 80, 3) := by decide +kernel
theorem dX6_count_86 : decode cX6_count 86 = .ok (.ireturn, 1) := by decide +kernel
theorem dX6_count_87 : decode cX6_count 87 = .ok (.aload_n 0, 1) := by decide +kernel
theorem dX6_count_88 : decode cX6_count 88 = .ok (.invokevirtual 124, 3) := by decide +kernel
theorem dX6_count_91 : decode cX6_count 91 = .ok (.invokestatic 131, 3) := by decide +kernel
theorem dX6_count_94 : decode cX6_count 94 = .ok (.ireturn, 1) := by decide +kernel
theorem dX6_count_95 : decode cX6_count 95 = .ok (.aload_n 0, 1) := by decide +kernel
theorem dX6_count_96 : decode cX6_count 96 = .ok (.getfield 77, 3) := by decide +kernel
theorem dX6_count_99 : decode cX6_count 99 = .ok (.ireturn, 1) := by decide +kernel
theorem dX6_count_100 : decode cX6_count 100 = .ok (.iconst 0, 1) := by decide +kernel
theorem dX6_count_101 : decode cX6_count 101 = .ok (.istore_n 3, 1) := by decide +kernel
theorem dX6_count_102 : decode cX6_count 102 = .ok (.iload_n 3, 1) := by decide +kernel
theorem dX6_count_103 : decode cX6_count 103 = .ok (.aload_n 0, 1) := by decide +kernel
theorem dX6_count_104 : decode cX6_count 104 = .ok (.getfield 98, 3) := by decide +kernel
theorem dX6_count_107 : decode cX6_count 107 = .ok (.if_icmp .ge 26, 3) := by decide +kernel
theorem dX6_count_110 : decode cX6_count 110 = .ok (.iload_n 2, 1) := by decide +kernel
theorem dX6_count_111 : decode cX6_count 111 = .ok (.aload_n 0, 1) := by decide +kernel
theorem dX6_count_112 : decode cX6_count 112 = .ok (.getfield 37, 3) := by decide +kernel
theorem dX6_count_115 : decode cX6_count 115 = .ok (.iload_n 3, 1) := by decide +kernel
theorem dX6_count_116 : decode cX6_count 116 = .ok (.baload, 1) := by decide +kernel
theorem dX6_count_117 : decode cX6_count 117 = .ok (.ifCond .eq 7, 3) := by decide +kernel
theorem dX6_count_120 : decode cX6_count 120 = .ok (.iconst 1, 1) := by decide +kernel
theorem dX6_count_121 : decode cX6_count 121 = .ok (.goto 4, 3) := by decide +kernel
theorem dX6_count_124 : decode cX6_count 124 = .ok (.iconst 0, 1) := by decide +kernel
theorem dX6_count_125 : decode cX6_count 125 = .ok (.iadd, 1) := by decide +kernel
theorem dX6_count_126 : decode cX6_count 126 = .ok (.istore_n 2, 1) := by decide +kernel
theorem dX6_count_127 : decode cX6_count 127 = .ok (.iinc 3 1, 3) := by decide +kernel
theorem dX6_count_130 : decode cX6_count 130 = .ok (.goto (-28), 3) := by decide +kernel
theorem dX6_count_133 : decode cX6_count 133 = .ok (.iload_n 2, 1) := by decide +kernel
theorem dX6_count_134 : decode cX6_count 134 = .ok (.ireturn, 1) := by decide +kernel
theorem dX6_count_135 : decode cX6_count 135 = .ok (.aload_n 0, 1) := by decide +kernel
theorem dX6_count_136 : decode cX6_count 136 = .ok (.invokevirtual 178, 3) := by decide +kernel
theorem dX6_count_139 : decode cX6_count 139 = .ok (.ireturn, 1) := by decide +kernel
theorem dX6_count_140 : decode cX6_count 140 = .ok (.iconst 0, 1) := by decide +kernel
theorem dX6_count_141 : decode cX6_count 141 = .ok (.istore_n 3, 1) := by decide +kernel
theorem dX6_count_142 : decode cX6_count 142 = .ok (.iload_n 3, 1) := by decide +kernel
theorem dX6_count_143 : decode cX6_count 143 = .ok (.bipush 16, 2) := by decide +kernel
theorem dX6_count_145 : decode cX6_count 145 = .ok (.if_icmp .ge 26, 3) := by decide +kernel
theorem dX6_count_148 : decode cX6_count 148 = .ok (.iload_n 2, 1) := by decide +kernel
theorem dX6_count_149 : decode cX6_count 149 = .ok (.aload_n 0, 1) := by decide +kernel
theorem dX6_count_150 : decode cX6_count 150 = .ok (.getfield 41, 3) := by decide +kernel
theorem dX6_count_153 : decode cX6_count 153 = .ok (.iload_n 3, 1) := by decide +kernel
theorem dX6_count_154 : decode cX6_count 154 = .ok (.baload, 1) := by decide +kernel
theorem dX6_count_155 : decode cX6_count 155 = .ok (.ifCond .eq 7, 3) := by decide +kernel
theorem dX6_count_158 : decode cX6_count 158 = .ok (.iconst 1, 1) := by decide +kernel
theorem dX6_count_159 : decode cX6_count 159 = .ok (.goto 4, 3) := by decide +kernel
theorem dX6_count_162 : decode cX6_count 162 = .ok (.iconst 0, 1) := by decide +kernel
theorem dX6_count_163 : decode cX6_count 163 = .ok (.iadd, 1) := by decide +kernel
theorem dX6_count_164 : decode cX6_count 164 = .ok (.istore_n 2, 1) := by decide +kernel
theorem dX6_count_165 : decode cX6_count 165 = .ok (.iinc 3 1, 3) := by decide +kernel
theorem dX6_count_168 : decode cX6_count 168 = .ok (.goto (-26), 3) := by decide +kernel
theorem dX6_count_171 : decode cX6_count 171 = .ok (.iload_n 2, 1) := by decide +kernel
theorem dX6_count_172 : decode cX6_count 172 = .ok (.ireturn, 1) := by decide +kernel
theorem dX6_count_173 : decode cX6_count 173 = .ok (.bipush (-9), 2) := by decide +kernel
theorem dX6_count_175 : decode cX6_count 175 = .ok (.ireturn, 1) := by decide +kernel
theorem dJ6_highestOneBit_0f7a4_0 : decode cJ6_highestOneBit_0f7a4 0 = .ok (.iload_n 0, 1) := by decide +kernel
theorem dJ6_highestOneBit_0f7a4_1 : decode cJ6_highestOneBit_0f7a4 1 = .ok (.ldc 127, 2) := by decide +kernel
theorem dJ6_highestOneBit_0f7a4_3 : decode cJ6_highestOneBit_0f7a4 3 = .ok (.iload_n 0, 1) := by decide +kernel
theorem dJ6_highestOneBit_0f7a4_4 : decode cJ6_highestOneBit_0f7a4 4 = .ok (.invokestatic 51, 3) := by decide +kernel
theorem dJ6_highestOneBit_0f7a4_7 : decode cJ6_highestOneBit_0f7a4 7 = .ok (.iushr, 1) := by decide +kernel
theorem dJ6_highestOneBit_0f7a4_8 : decode cJ6_highestOneBit_0f7a4 8 = .ok (.iand, 1) := by decide +kernel
theorem dJ6_highestOneBit_0f7a4_9 : decode cJ6_highestOneBit_0f7a4 9 = .ok (.ireturn, 1) := by decide +kernel
theorem dJ6_numberOfLeadingZeros_0f7a4_0 : decode cJ6_numberOfLeadingZeros_0f7a4 0 = .ok (.iload_n 0, 1) := by decide +kernel
theorem dJ6_numberOfLeadingZeros_0f7a4_1 : decode cJ6_numberOfLeadingZeros_0f7a4 1 = .ok (.ifCond .gt 14, 3) := by decide +kernel
theorem dJ6_numberOfLeadingZeros_0f7a4_4 : decode cJ6_numberOfLeadingZeros_0f7a4 4 = .ok (.iload_n 0, 1) := by decide +kernel
theorem dJ6_numberOfLeadingZeros_0f7a4_5 : decode cJ6_numberOfLeadingZeros_0f7a4 5 = .ok (.ifCond .ne 8, 3) := by decide +kernel
theorem dJ6_numberOfLeadingZeros_0f7a4_8 : decode cJ6_numberOfLeadingZeros_0f7a4 8 = .ok (.bipush 32, 2) := by decide +kernel
theorem dJ6_numberOfLeadingZeros_0f7a4_10 : decode cJ6_numberOfLeadingZeros_0f7a4 10 = .ok (.goto 4, 3) := by decide +kernel
theorem dJ6_numberOfLeadingZeros_0f7a4_13 : decode cJ6_numberOfLeadingZeros_0f7a4 13 = .ok (.iconst 0, 1) := by decide +kernel
theorem dJ6_numberOfLeadingZeros_0f7a4_14 : decode cJ6_numberOfLeadingZeros_0f7a4 14 = .ok (.ireturn, 1) := by decide +kernel
theorem dJ6_numberOfLeadingZeros_0f7a4_15 : decode cJ6_numberOfLeadingZeros_0f7a4 15 = .ok (.bipush 31, 2) := by decide +kernel
theorem dJ6_numberOfLeadingZeros_0f7a4_17 : decode cJ6_numberOfLeadingZeros_0f7a4 17 = .ok (.istore_n 1, 1) := by decide +kernel
theorem dJ6_numberOfLeadingZeros_0f7a4_18 : decode cJ6_numberOfLeadingZeros_0f7a4 18 = .ok (.iload_n 0, 1) := by decide +kernel
theorem dJ6_numberOfLeadingZeros_0f7a4_19 : decode cJ6_numberOfLeadingZeros_0f7a4 19 = .ok (.ldc_w 264, 3) := by decide +kernel
theorem dJ6_numberOfLeadingZeros_0f7a4_22 : decode cJ6_numberOfLeadingZeros_0f7a4 22 = .ok (.if_icmp .lt 11, 3) := by decide +kernel
theorem dJ6_numberOfLeadingZeros_0f7a4_25 : decode cJ6_numberOfLeadingZeros_0f7a4 25 = .ok (.iinc 1 (-16), 3) := by decide +kernel
theorem dJ6_numberOfLeadingZeros_0f7a4_28 : decode cJ6_numberOfLeadingZeros_0f7a4 28 = .ok (.iload_n 0, 1) := by decide +kernel
theorem dJ6_numberOfLeadingZeros_0f7a4_29 : decode cJ6_numberOfLeadingZeros_0f7a4 29 = .ok (.bipush 16, 2) := by decide +kernel
theorem dJ6_numberOfLeadingZeros_0f7a4_31 : decode cJ6_numberOfLeadingZeros_0f7a4 31 = .ok (.iushr, 1) := by decide +kernel
theorem dJ6_numberOfLeadingZeros_0f7a4_32 : decode cJ6_numberOfLeadingZeros_0f7a4 32 = .ok (.istore_n 0, 1) := by decide +kernel
theorem dJ6_numberOfLeadingZeros_0f7a4_33 : decode cJ6_numberOfLeadingZeros_0f7a4 33 = .ok (.iload_n 0, 1) := by decide +kernel
theorem dJ6_numberOfLeadingZeros_0f7a4_34 : decode cJ6_numberOfLeadingZeros_0f7a4 34 = .ok (.sipush 256, 3) := by decide +kernel
theorem dJ6_numberOfLeadingZeros_0f7a4_37 : decode cJ6_numberOfLeadingZeros_0f7a4 37 = .ok (.if_icmp .lt 11, 3) := by decide +kernel
theorem dJ6_numberOfLeadingZeros_0f7a4_40 : decode cJ6_numberOfLeadingZeros_0f7a4 40 = .ok (.iinc 1 (-8), 3) := by decide +kernel
theorem dJ6_numberOfLeadingZeros_0f7a4_43 : decode cJ6_numberOfLeadingZeros_0f7a4 43 = .ok (.iload_n 0, 1) := by decide +kernel
theorem dJ6_numberOfLeadingZeros_0f7a4_44 : decode cJ6_numberOfLeadingZeros_0f7a4 44 = .ok (.bipush 8, 2) := by decide +kernel
theorem dJ6_numberOfLeadingZeros_0f7a4_46 : decode cJ6_numberOfLeadingZeros_0f7a4 46 = .ok (.iushr, 1) := by decide +kernel
theorem dJ6_numberOfLeadingZeros_0f7a4_47 : decode cJ6_numberOfLeadingZeros_0f7a4 47 = .ok (.istore_n 0, 1) := by decide +kernel
theorem dJ6_numberOfLeadingZeros_0f7a4_48 : decode cJ6_numberOfLeadingZeros_0f7a4 48 = .ok (.iload_n 0, 1) := by decide +kernel
theorem dJ6_numberOfLeadingZeros_0f7a4_49 : decode cJ6_numberOfLeadingZeros_0f7a4 49 = .ok (.bipush 16, 2) := by decide +kernel
theorem dJ6_numberOfLeadingZeros_0f7a4_51 : decode cJ6_numberOfLeadingZeros_0f7a4 51 = .ok (.if_icmp .lt 10, 3) := by decide +kernel
theorem dJ6_numberOfLeadingZeros_0f7a4_54 : decode cJ6_numberOfLeadingZeros_0f7a4 54 = .ok (.iinc 1 (-4), 3) := by decide +kernel
theorem dJ6_numberOfLeadingZeros_0f7a4_57 : decode cJ6_numberOfLeadingZeros_0f7a4 57 = .ok (.iload_n 0, 1) := by decide +kernel
theorem dJ6_numberOfLeadingZeros_0f7a4_58 : decode cJ6_numberOfLeadingZeros_0f7a4 58 = .ok (.iconst 4, 1) := by decide +kernel
theorem dJ6_numberOfLeadingZeros_0f7a4_59 : decode cJ6_numberOfLeadingZeros_0f7a4 59 = .ok (.iushr, 1) := by decide +kernel
theorem dJ6_numberOfLeadingZeros_0f7a4_60 : decode cJ6_numberOfLeadingZeros_0f7a4 60 = .ok (.istore_n 0, 1) := by decide +kernel
theorem dJ6_numberOfLeadingZeros_0f7a4_61 : decode cJ6_numberOfLeadingZeros_0f7a4 61 = .ok (.iload_n 0, 1) := by decide +kernel
theorem dJ6_numberOfLeadingZeros_0f7a4_62 : decode cJ6_numberOfLeadingZeros_0f7a4 62 = .ok (.iconst 4, 1) := by decide +kernel
theorem dJ6_numberOfLeadingZeros_0f7a4_63 : decode cJ6_numberOfLeadingZeros_0f7a4 63 = .ok (.if_icmp .lt 10, 3) := by decide +kernel
theorem dJ6_numberOfLeadingZeros_0f7a4_66 : decode cJ6_numberOfLeadingZeros_0f7a4 66 = .ok (.iinc 1 (-2), 3) := by decide +kernel
theorem dJ6_numberOfLeadingZeros_0f7a4_69 : decode cJ6_numberOfLeadingZeros_0f7a4 69 = .ok (.iload_n 0, 1) := by decide +kernel
theorem dJ6_numberOfLeadingZeros_0f7a4_70 : decode cJ6_numberOfLeadingZeros_0f7a4 70 = .ok (.iconst 2, 1) := by decide +kernel
theorem dJ6_numberOfLeadingZeros_0f7a4_71 : decode cJ6_numberOfLeadingZeros_0f7a4 71 = .ok (.iushr, 1) := by decide +kernel
theorem dJ6_numberOfLeadingZeros_0f7a4_72 : decode cJ6_numberOfLeadingZeros_0f7a4 72 = .ok (.istore_n 0, 1) := by decide +kernel
theorem dJ6_numberOfLeadingZeros_0f7a4_73 : decode cJ6_numberOfLeadingZeros_0f7a4 73 = .ok (.iload_n 1, 1) := by decide +kernel
theorem dJ6_numberOfLeadingZeros_0f7a4_74 : decode cJ6_numberOfLeadingZeros_0f7a4 74 = .ok (.iload_n 0, 1) := by decide +kernel
theorem dJ6_numberOfLeadingZeros_0f7a4_75 : decode cJ6_numberOfLeadingZeros_0f7a4 75 = .ok (.iconst 1, 1) := by decide +kernel
theorem dJ6_numberOfLeadingZeros_0f7a4_76 : decode cJ6_numberOfLeadingZeros_0f7a4 76 = .ok (.iushr, 1) := by decide +kernel
theorem dJ6_numberOfLeadingZeros_0f7a4_77 : decode cJ6_numberOfLeadingZeros_0f7a4 77 = .ok (.isub, 1) := by decide +kernel
theorem dJ6_numberOfLeadingZeros_0f7a4_78 : decode cJ6_numberOfLeadingZeros_0f7a4 78 = .ok (.ireturn, 1) := by decide +kernel
theorem dJ6_numberOfTrailingZeros_0f7a4_0 : decode cJ6_numberOfTrailingZeros_0f7a4 0 = .ok (.iload_n 0, 1) := by decide +kernel
theorem dJ6_numberOfTrailingZeros_0f7a4_1 : decode cJ6_numberOfTrailingZeros_0f7a4 1 = .ok (.iconst (-1), 1) := by decide +kernel
theorem dJ6_numberOfTrailingZeros_0f7a4_2 : decode cJ6_numberOfTrailingZeros_0f7a4 2 = .ok (.ixor, 1) := by decide +kernel
theorem dJ6_numberOfTrailingZeros_0f7a4_3 : decode cJ6_numberOfTrailingZeros_0f7a4 3 = .ok (.iload_n 0, 1) := by decide +kernel
theorem dJ6_numberOfTrailingZeros_0f7a4_4 : decode cJ6_numberOfTrailingZeros_0f7a4 4 = .ok (.iconst 1, 1) := by decide +kernel
theorem dJ6_numberOfTrailingZeros_0f7a4_5 : decode cJ6_numberOfTrailingZeros_0f7a4 5 = .ok (.isub, 1) := by decide +kernel
theorem dJ6_numberOfTrailingZeros_0f7a4_6 : decode cJ6_numberOfTrailingZeros_0f7a4 6 = .ok (.iand, 1) := by decide +kernel
theorem dJ6_numberOfTrailingZeros_0f7a4_7 : decode cJ6_numberOfTrailingZeros_0f7a4 7 = .ok (.istore_n 0, 1) := by decide +kernel
theorem dJ6_numberOfTrailingZeros_0f7a4_8 : decode cJ6_numberOfTrailingZeros_0f7a4 8 = .ok (.iload_n 0, 1) := by decide +kernel
theorem dJ6_numberOfTrailingZeros_0f7a4_9 : decode cJ6_numberOfTrailingZeros_0f7a4 9 = .ok (.ifCond .gt 8, 3) := by decide +kernel
theorem dJ6_numberOfTrailingZeros_0f7a4_12 : decode cJ6_numberOfTrailingZeros_0f7a4 12 = .ok (.iload_n 0, 1) := by decide +kernel
theorem dJ6_numberOfTrailingZeros_0f7a4_13 : decode cJ6_numberOfTrailingZeros_0f7a4 13 = .ok (.bipush 32, 2) := by decide +kernel
theorem dJ6_numberOfTrailingZeros_0f7a4_15 : decode cJ6_numberOfTrailingZeros_0f7a4 15 = .ok (.iand, 1) := by decide +kernel
theorem dJ6_numberOfTrailingZeros_0f7a4_16 : decode cJ6_numberOfTrailingZeros_0f7a4 16 = .ok (.ireturn, 1) := by decide +kernel
theorem dJ6_numberOfTrailingZeros_0f7a4_17 : decode cJ6_numberOfTrailingZeros_0f7a4 17 = .ok (.iconst 1, 1) := by decide +kernel
theorem dJ6_numberOfTrailingZeros_0f7a4_18 : decode cJ6_numberOfTrailingZeros_0f7a4 18 = .ok (.istore_n 1, 1) := by decide +kernel
theorem dJ6_numberOfTrailingZeros_0f7a4_19 : decode cJ6_numberOfTrailingZeros_0f7a4 19 = .ok (.iload_n 0, 1) := by decide +kernel
theorem dJ6_numberOfTrailingZeros_0f7a4_20 : decode cJ6_numberOfTrailingZeros_0f7a4 20 = .ok (.ldc_w 264, 3) := by decide +kernel
theorem dJ6_numberOfTrailingZeros_0f7a4_23 : decode cJ6_numberOfTrailingZeros_0f7a4 23 = .ok (.if_icmp .le 11, 3) := by decide +kernel
theorem dJ6_numberOfTrailingZeros_0f7a4_26 : decode cJ6_numberOfTrailingZeros_0f7a4 26 = .ok (.iinc 1 16, 3) := by decide +kernel
theorem dJ6_numberOfTrailingZeros_0f7a4_29 : decode cJ6_numberOfTrailingZeros_0f7a4 29 = .ok (.iload_n 0, 1) := by decide +kernel
theorem dJ6_numberOfTrailingZeros_0f7a4_30 : decode cJ6_numberOfTrailingZeros_0f7a4 30 = .ok (.bipush 16, 2) := by decide +kernel
theorem dJ6_numberOfTrailingZeros_0f7a4_32 : decode cJ6_numberOfTrailingZeros_0f7a4 32 = .ok (.iushr, 1) := by decide +kernel
theorem dJ6_numberOfTrailingZeros_0f7a4_33 : decode cJ6_numberOfTrailingZeros_0f7a4 33 = .ok (.istore_n 0, 1) := by decide +kernel
theorem dJ6_numberOfTrailingZeros_0f7a4_34 : decode cJ6_numberOfTrailingZeros_0f7a4 34 = .ok (.iload_n 0, 1) := by decide +kernel
theorem dJ6_numberOfTrailingZeros_0f7a4_35 : decode cJ6_numberOfTrailingZeros_0f7a4 35 = .ok (.sipush 256, 3) := by decide +kernel
theorem dJ6_numberOfTrailingZeros_0f7a4_38 : decode cJ6_numberOfTrailingZeros_0f7a4 38 = .ok (.if_icmp .le 11, 3) := by decide +kernel
theorem dJ6_numberOfTrailingZeros_0f7a4_41 : decode cJ6_numberOfTrailingZeros_0f7a4 41 = .ok (.iinc 1 8, 3) := by decide +kernel
theorem dJ6_numberOfTrailingZeros_0f7a4_44 : decode cJ6_numberOfTrailingZeros_0f7a4 44 = .ok (.iload_n 0, 1) := by decide +kernel
theorem dJ6_numberOfTrailingZeros_0f7a4_45 : decode cJ6_numberOfTrailingZeros_0f7a4 45 = .ok (.bipush 8, 2) := by decide +kernel
theorem dJ6_numberOfTrailingZeros_0f7a4_47 : decode cJ6_numberOfTrailingZeros_0f7a4 47 = .ok (.iushr, 1) := by decide +kernel
theorem dJ6_numberOfTrailingZeros_0f7a4_48 : decode cJ6_numberOfTrailingZeros_0f7a4 48 = .ok (.istore_n 0, 1) := by decide +kernel
theorem dJ6_numberOfTrailingZeros_0f7a4_49 : decode cJ6_numberOfTrailingZeros_0f7a4 49 = .ok (.iload_n 0, 1) := by decide +kernel
theorem dJ6_numberOfTrailingZeros_0f7a4_50 : decode cJ6_numberOfTrailingZeros_0f7a4 50 = .ok (.bipush 16, 2) := by decide +kernel
theorem dJ6_numberOfTrailingZeros_0f7a4_52 : decode cJ6_numberOfTrailingZeros_0f7a4 52 = .ok (.if_icmp .le 10, 3) := by decide +kernel
theorem dJ6_numberOfTrailingZeros_0f7a4_55 : decode cJ6_numberOfTrailingZeros_0f7a4 55 = .ok (.iinc 1 4, 3) := by decide +kernel
theorem dJ6_numberOfTrailingZeros_0f7a4_58 : decode cJ6_numberOfTrailingZeros_0f7a4 58 = .ok (.iload_n 0, 1) := by decide +kernel
theorem dJ6_numberOfTrailingZeros_0f7a4_59 : decode cJ6_numberOfTrailingZeros_0f7a4 59 = .ok (.iconst 4, 1) := by decide +kernel
theorem dJ6_numberOfTrailingZeros_0f7a4_60 : decode cJ6_numberOfTrailingZeros_0f7a4 60 = .ok (.iushr, 1) := by decide +kernel
theorem dJ6_numberOfTrailingZeros_0f7a4_61 : decode cJ6_numberOfTrailingZeros_0f7a4 61 = .ok (.istore_n 0, 1) := by decide +kernel
theorem dJ6_numberOfTrailingZeros_0f7a4_62 : decode cJ6_numberOfTrailingZeros_0f7a4 62 = .ok (.iload_n 0, 1) := by decide +kernel
theorem dJ6_numberOfTrailingZeros_0f7a4_63 : decode cJ6_numberOfTrailingZeros_0f7a4 63 = .ok (.iconst 4, 1) := by decide +kernel
theorem dJ6_numberOfTrailingZeros_0f7a4_64 : decode cJ6_numberOfTrailingZeros_0f7a4 64 = .ok (.if_icmp .le 10, 3) := by decide +kernel
theorem dJ6_numberOfTrailingZeros_0f7a4_67 : decode cJ6_numberOfTrailingZeros_0f7a4 67 = .ok (.iinc 1 2, 3) := by decide +kernel
theorem dJ6_numberOfTrailingZeros_0f7a4_70 : decode cJ6_numberOfTrailingZeros_0f7a4 70 = .ok (.iload_n 0, 1) := by decide +kernel
theorem dJ6_numberOfTrailingZeros_0f7a4_71 : decode cJ6_numberOfTrailingZeros_0f7a4 71 = .ok (.iconst 2, 1) := by decide +kernel
theorem dJ6_numberOfTrailingZeros_0f7a4_72 : decode cJ6_numberOfTrailingZeros_0f7a4 72 = .ok (.iushr, 1) := by decide +kernel
theorem dJ6_numberOfTrailingZeros_0f7a4_73 : decode cJ6_numberOfTrailingZeros_0f7a4 73 = .ok (.istore_n 0, 1) := by decide +kernel
theorem dJ6_numberOfTrailingZeros_0f7a4_74 : decode cJ6_numberOfTrailingZeros_0f7a4 74 = .ok (.iload_n 1, 1) := by decide +kernel
theorem dJ6_numberOfTrailingZeros_0f7a4_75 : decode cJ6_numberOfTrailingZeros_0f7a4 75 = .ok (.iload_n 0, 1) := by decide +kernel
theorem dJ6_numberOfTrailingZeros_0f7a4_76 : decode cJ6_numberOfTrailingZeros_0f7a4 76 = .ok (.iconst 1, 1) := by decide +kernel
theorem dJ6_numberOfTrailingZeros_0f7a4_77 : decode cJ6_numberOfTrailingZeros_0f7a4 77 = .ok (.iushr, 1) := by decide +kernel
theorem dJ6_numberOfTrailingZeros_0f7a4_78 : decode cJ6_numberOfTrailingZeros_0f7a4 78 = .ok (.iadd, 1) := by decide +kernel
theorem dJ6_numberOfTrailingZeros_0f7a4_79 : decode cJ6_numberOfTrailingZeros_0f7a4 79 = .ok (.ireturn, 1) := by decide +kernel
theorem dJ6_bitCount_0f7a4_0 : decode cJ6_bitCount_0f7a4 0 = .ok (.iload_n 0, 1) := by decide +kernel
theorem dJ6_bitCount_0f7a4_1 : decode cJ6_bitCount_0f7a4 1 = .ok (.iload_n 0, 1) := by decide +kernel
theorem dJ6_bitCount_0f7a4_2 : decode cJ6_bitCount_0f7a4 2 = .ok (.iconst 1, 1) := by decide +kernel
theorem dJ6_bitCount_0f7a4_3 : decode cJ6_bitCount_0f7a4 3 = .ok (.iushr, 1) := by decide +kernel
theorem dJ6_bitCount_0f7a4_4 : decode cJ6_bitCount_0f7a4 4 = .ok (.ldc_w 265, 3) := by decide +kernel
theorem dJ6_bitCount_0f7a4_7 : decode cJ6_bitCount_0f7a4 7 = .ok (.iand, 1) := by decide +kernel
theorem dJ6_bitCount_0f7a4_8 : decode cJ6_bitCount_0f7a4 8 = .ok (.isub, 1) := by decide +kernel
theorem dJ6_bitCount_0f7a4_9 : decode cJ6_bitCount_0f7a4 9 = .ok (.istore_n 0, 1) := by decide +kernel
theorem dJ6_bitCount_0f7a4_10 : decode cJ6_bitCount_0f7a4 10 = .ok (.iload_n 0, 1) := by decide +kernel
theorem dJ6_bitCount_0f7a4_11 : decode cJ6_bitCount_0f7a4 11 = .ok (.ldc_w 266, 3) := by decide +kernel
theorem dJ6_bitCount_0f7a4_14 : decode cJ6_bitCount_0f7a4 14 = .ok (.iand, 1) := by decide +kernel
theorem dJ6_bitCount_0f7a4_15 : decode cJ6_bitCount_0f7a4 15 = .ok (.iload_n 0, 1) := by decide +kernel
theorem dJ6_bitCount_0f7a4_16 : decode cJ6_bitCount_0f7a4 16 = .ok (.iconst 2, 1) := by decide +kernel
theorem dJ6_bitCount_0f7a4_17 : decode cJ6_bitCount_0f7a4 17 = .ok (.iushr, 1) := by decide +kernel
theorem dJ6_bitCount_0f7a4_18 : decode cJ6_bitCount_0f7a4 18 = .ok (.ldc_w 266, 3) := by decide +kernel
theorem dJ6_bitCount_0f7a4_21 : decode cJ6_bitCount_0f7a4 21 = .ok (.iand, 1) := by decide +kernel
end
section
theorem dJ6_bitCount_0f7a4_22 : decode cJ6_bitCount_0f7a4 22 = .ok (.iadd, 1) := by decide +kernel
theorem dJ6_bitCount_0f7a4_23 : decode cJ6_bitCount_0f7a4 23 = .ok (.istore_n 0, 1) := by decide +kernel
theorem dJ6_bitCount_0f7a4_24 : decode cJ6_bitCount_0f7a4 24 = .ok (.iload_n 0, 1) := by decide +kernel
theorem dJ6_bitCount_0f7a4_25 : decode cJ6_bitCount_0f7a4 25 = .ok (.iload_n 0, 1) := by decide +kernel
theorem dJ6_bitCount_0f7a4_26 : decode cJ6_bitCount_0f7a4 26 = .ok (.iconst 4, 1) := by decide +kernel
theorem dJ6_bitCount_0f7a4_27 : decode cJ6_bitCount_0f7a4 27 = .ok (.iushr, 1) := by decide +kernel
theorem dJ6_bitCount_0f7a4_28 : decode cJ6_bitCount_0f7a4 28 = .ok (.iadd, 1) := by decide +kernel
theorem dJ6_bitCount_0f7a4_29 : decode cJ6_bitCount_0f7a4 29 = .ok (.ldc_w 267, 3) := by decide +kernel
theorem dJ6_bitCount_0f7a4_32 : decode cJ6_bitCount_0f7a4 32 = .ok (.iand, 1) := by decide +kernel
theorem dJ6_bitCount_0f7a4_33 : decode cJ6_bitCount_0f7a4 33 = .ok (.istore_n 0, 1) := by decide +kernel
theorem dJ6_bitCount_0f7a4_34 : decode cJ6_bitCount_0f7a4 34 = .ok (.iload_n 0, 1) := by decide +kernel
theorem dJ6_bitCount_0f7a4_35 : decode cJ6_bitCount_0f7a4 35 = .ok (.iload_n 0, 1) := by decide +kernel
theorem dJ6_bitCount_0f7a4_36 : decode cJ6_bitCount_0f7a4 36 = .ok (.bipush 8, 2) := by decide +kernel
theorem dJ6_bitCount_0f7a4_38 : decode cJ6_bitCount_0f7a4 38 = .ok (.iushr, 1) := by decide +kernel
theorem dJ6_bitCount_0f7a4_39 : decode cJ6_bitCount_0f7a4 39 = .ok (.iadd, 1) := by decide +kernel
theorem dJ6_bitCount_0f7a4_40 : decode cJ6_bitCount_0f7a4 40 = .ok (.istore_n 0, 1) := by decide +kernel
theorem dJ6_bitCount_0f7a4_41 : decode cJ6_bitCount_0f7a4 41 = .ok (.iload_n 0, 1) := by decide +kernel
theorem dJ6_bitCount_0f7a4_42 : decode cJ6_bitCount_0f7a4 42 = .ok (.iload_n 0, 1) := by decide +kernel
theorem dJ6_bitCount_0f7a4_43 : decode cJ6_bitCount_0f7a4 43 = .ok (.bipush 16, 2) := by decide +kernel
theorem dJ6_bitCount_0f7a4_45 : decode cJ6_bitCount_0f7a4 45 = .ok (.iushr, 1) := by decide +kernel
theorem dJ6_bitCount_0f7a4_46 : decode cJ6_bitCount_0f7a4 46 = .ok (.iadd, 1) := by decide +kernel
theorem dJ6_bitCount_0f7a4_47 : decode cJ6_bitCount_0f7a4 47 = .ok (.istore_n 0, 1) := by decide +kernel
theorem dJ6_bitCount_0f7a4_48 : decode cJ6_bitCount_0f7a4 48 = .ok (.iload_n 0, 1) := by decide +kernel
theorem dJ6_bitCount_0f7a4_49 : decode cJ6_bitCount_0f7a4 49 = .ok (.bipush 63, 2) := by decide +kernel
theorem dJ6_bitCount_0f7a4_51 : decode cJ6_bitCount_0f7a4 51 = .ok (.iand, 1) := by decide +kernel
theorem dJ6_bitCount_0f7a4_52 : decode cJ6_bitCount_0f7a4 52 = .ok (.ireturn, 1) := by decide +kernel
theorem dJ9_max_7cf53_0 : decode cJ9_max_7cf53 0 = .ok (.iload_n 0, 1) := by decide +kernel
theorem dJ9_max_7cf53_1 : decode cJ9_max_7cf53 1 = .ok (.iload_n 1, 1) := by decide +kernel
theorem dJ9_max_7cf53_2 : decode cJ9_max_7cf53 2 = .ok (.if_icmp .lt 7, 3) := by decide +kernel
theorem dJ9_max_7cf53_5 : decode cJ9_max_7cf53 5 = .ok (.iload_n 0, 1) := by decide +kernel
theorem dJ9_max_7cf53_6 : decode cJ9_max_7cf53 6 = .ok (.goto 4, 3) := by decide +kernel
theorem dJ9_max_7cf53_9 : decode cJ9_max_7cf53 9 = .ok (.iload_n 1, 1) := by decide +kernel
theorem dJ9_max_7cf53_10 : decode cJ9_max_7cf53 10 = .ok (.ireturn, 1) := by decide +kernel
theorem dJ9_min_7cf53_0 : decode cJ9_min_7cf53 0 = .ok (.iload_n 0, 1) := by decide +kernel
theorem dJ9_min_7cf53_1 : decode cJ9_min_7cf53 1 = .ok (.iload_n 1, 1) := by decide +kernel
theorem dJ9_min_7cf53_2 : decode cJ9_min_7cf53 2 = .ok (.if_icmp .gt 7, 3) := by decide +kernel
theorem dJ9_min_7cf53_5 : decode cJ9_min_7cf53 5 = .ok (.iload_n 0, 1) := by decide +kernel
theorem dJ9_min_7cf53_6 : decode cJ9_min_7cf53 6 = .ok (.goto 4, 3) := by decide +kernel
theorem dJ9_min_7cf53_9 : decode cJ9_min_7cf53 9 = .ok (.iload_n 1, 1) := by decide +kernel
theorem dJ9_min_7cf53_10 : decode cJ9_min_7cf53 10 = .ok (.ireturn, 1) := by decide +kernel
theorem dL_fail_0 : decode cL_fail 0 = .ok (.aload_n 3, 1) := by decide +kernel
theorem dL_fail_1 : decode cL_fail 1 = .ok (.iconst 0, 1) := by decide +kernel
theorem dL_fail_2 : decode cL_fail 2 = .ok (.aload_n 0, 1) := by decide +kernel
theorem dL_fail_3 : decode cL_fail 3 = .ok (.iload_n 1, 1) := by decide +kernel
theorem dL_fail_4 : decode cL_fail 4 = .ok (.iload_n 2, 1) := by decide +kernel
theorem dL_fail_5 : decode cL_fail 5 = .ok (.invokevirtual 7, 3) := by decide +kernel
theorem dL_fail_8 : decode cL_fail 8 = .ok (.lastore, 1) := by decide +kernel
theorem dL_fail_9 : decode cL_fail 9 = .ok (.goto 11, 3) := by decide +kernel
theorem dL_fail_12 : decode cL_fail 12 = .ok (.astore 4, 2) := by decide +kernel
theorem dL_fail_14 : decode cL_fail 14 = .ok (.iconst 1, 1) := by decide +kernel
theorem dL_fail_15 : decode cL_fail 15 = .ok (.ireturn, 1) := by decide +kernel
theorem dL_fail_16 : decode cL_fail 16 = .ok (.astore 4, 2) := by decide +kernel
theorem dL_fail_18 : decode cL_fail 18 = .ok (.iconst 2, 1) := by decide +kernel
theorem dL_fail_19 : decode cL_fail 19 = .ok (.ireturn, 1) := by decide +kernel
theorem dL_fail_20 : decode cL_fail 20 = .ok (.iconst 0, 1) := by decide +kernel
theorem dL_fail_21 : decode cL_fail 21 = .ok (.ireturn, 1) := by decide +kernel
theorem dL_weight_0 : decode cL_weight 0 = .ok (.aload_n 3, 1) := by decide +kernel
theorem dL_weight_1 : decode cL_weight 1 = .ok (.iconst 0, 1) := by decide +kernel
theorem dL_weight_2 : decode cL_weight 2 = .ok (.aload_n 0, 1) := by decide +kernel
theorem dL_weight_3 : decode cL_weight 3 = .ok (.iload_n 1, 1) := by decide +kernel
theorem dL_weight_4 : decode cL_weight 4 = .ok (.iload_n 2, 1) := by decide +kernel
theorem dL_weight_5 : decode cL_weight 5 = .ok (.invokevirtual 17, 3) := by decide +kernel
theorem dL_weight_8 : decode cL_weight 8 = .ok (.lastore, 1) := by decide +kernel
theorem dL_weight_9 : decode cL_weight 9 = .ok (.goto 7, 3) := by decide +kernel
theorem dL_weight_12 : decode cL_weight 12 = .ok (.astore 4, 2) := by decide +kernel
theorem dL_weight_14 : decode cL_weight 14 = .ok (.iconst 1, 1) := by decide +kernel
theorem dL_weight_15 : decode cL_weight 15 = .ok (.ireturn, 1) := by decide +kernel
theorem dL_weight_16 : decode cL_weight 16 = .ok (.iconst 0, 1) := by decide +kernel
theorem dL_weight_17 : decode cL_weight 17 = .ok (.ireturn, 1) := by decide +kernel
theorem dL_law_0 : decode cL_law 0 = .ok (.new 8, 3) := by decide +kernel
theorem dL_law_3 : decode cL_law 3 = .ok (.dup, 1) := by decide +kernel
theorem dL_law_4 : decode cL_law 4 = .ok (.invokespecial 21, 3) := by decide +kernel
theorem dL_law_7 : decode cL_law 7 = .ok (.astore_n 1, 1) := by decide +kernel
theorem dL_law_8 : decode cL_law 8 = .ok (.new 22, 3) := by decide +kernel
theorem dL_law_11 : decode cL_law 11 = .ok (.dup, 1) := by decide +kernel
theorem dL_law_12 : decode cL_law 12 = .ok (.invokespecial 24, 3) := by decide +kernel
theorem dL_law_15 : decode cL_law 15 = .ok (.astore_n 2, 1) := by decide +kernel
theorem dL_law_16 : decode cL_law 16 = .ok (.iconst 1, 1) := by decide +kernel
theorem dL_law_17 : decode cL_law 17 = .ok (.newarray .long, 2) := by decide +kernel
theorem dL_law_19 : decode cL_law 19 = .ok (.astore_n 3, 1) := by decide +kernel
theorem dL_law_20 : decode cL_law 20 = .ok (.iconst 0, 1) := by decide +kernel
theorem dL_law_21 : decode cL_law 21 = .ok (.istore 4, 2) := by decide +kernel
theorem dL_law_23 : decode cL_law 23 = .ok (.iload 4, 2) := by decide +kernel
theorem dL_law_25 : decode cL_law 25 = .ok (.aload_n 0, 1) := by decide +kernel
theorem dL_law_26 : decode cL_law 26 = .ok (.arraylength, 1) := by decide +kernel
theorem dL_law_27 : decode cL_law 27 = .ok (.iconst 4, 1) := by decide +kernel
theorem dL_law_28 : decode cL_law 28 = .ok (.isub, 1) := by decide +kernel
theorem dL_law_29 : decode cL_law 29 = .ok (.if_icmp .gt 1094, 3) := by decide +kernel
theorem dL_law_32 : decode cL_law 32 = .ok (.aload_n 0, 1) := by decide +kernel
theorem dL_law_33 : decode cL_law 33 = .ok (.iload 4, 2) := by decide +kernel
theorem dL_law_35 : decode cL_law 35 = .ok (.iaload, 1) := by decide +kernel
theorem dL_law_36 : decode cL_law 36 = .ok (.bipush 31, 2) := by decide +kernel
theorem dL_law_38 : decode cL_law 38 = .ok (.iand, 1) := by decide +kernel
theorem dL_law_39 : decode cL_law 39 = .ok (.tableswitch 1078 0 31 #[141, 166, 191, 240, 277, 302, 339, 364, 377, 402, 427, 452, 489, 526, 593, 607, 644, 669, 752, 765, 802, 815, 852, 865, 890, 915, 928, 965, 990, 1015, 1028, 1053], 141) := by decide +kernel
theorem dL_law_180 : decode cL_law 180 = .ok (.aload_n 1, 1) := by decide +kernel
theorem dL_law_181 : decode cL_law 181 = .ok (.aload_n 0, 1) := by decide +kernel
theorem dL_law_182 : decode cL_law 182 = .ok (.iload 4, 2) := by decide +kernel
theorem dL_law_184 : decode cL_law 184 = .ok (.iconst 1, 1) := by decide +kernel
theorem dL_law_185 : decode cL_law 185 = .ok (.iadd, 1) := by decide +kernel
theorem dL_law_186 : decode cL_law 186 = .ok (.iaload, 1) := by decide +kernel
theorem dL_law_187 : decode cL_law 187 = .ok (.invokevirtual 25, 3) := by decide +kernel
theorem dL_law_190 : decode cL_law 190 = .ok (.aload_n 2, 1) := by decide +kernel
theorem dL_law_191 : decode cL_law 191 = .ok (.aload_n 0, 1) := by decide +kernel
theorem dL_law_192 : decode cL_law 192 = .ok (.iload 4, 2) := by decide +kernel
theorem dL_law_194 : decode cL_law 194 = .ok (.iconst 1, 1) := by decide +kernel
theorem dL_law_195 : decode cL_law 195 = .ok (.iadd, 1) := by decide +kernel
theorem dL_law_196 : decode cL_law 196 = .ok (.iaload, 1) := by decide +kernel
theorem dL_law_197 : decode cL_law 197 = .ok (.invokevirtual 29, 3) := by decide +kernel
theorem dL_law_200 : decode cL_law 200 = .ok (.if_icmp .eq 917, 3) := by decide +kernel
theorem dL_law_203 : decode cL_law 203 = .ok (.iconst 0, 1) := by decide +kernel
theorem dL_law_204 : decode cL_law 204 = .ok (.ireturn, 1) := by decide +kernel
theorem dL_law_205 : decode cL_law 205 = .ok (.aload_n 1, 1) := by decide +kernel
theorem dL_law_206 : decode cL_law 206 = .ok (.aload_n 0, 1) := by decide +kernel
theorem dL_law_207 : decode cL_law 207 = .ok (.iload 4, 2) := by decide +kernel
theorem dL_law_209 : decode cL_law 209 = .ok (.iconst 1, 1) := by decide +kernel
theorem dL_law_210 : decode cL_law 210 = .ok (.iadd, 1) := by decide +kernel
theorem dL_law_211 : decode cL_law 211 = .ok (.iaload, 1) := by decide +kernel
theorem dL_law_212 : decode cL_law 212 = .ok (.invokevirtual 30, 3) := by decide +kernel
theorem dL_law_215 : decode cL_law 215 = .ok (.aload_n 2, 1) := by decide +kernel
theorem dL_law_216 : decode cL_law 216 = .ok (.aload_n 0, 1) := by decide +kernel
theorem dL_law_217 : decode cL_law 217 = .ok (.iload 4, 2) := by decide +kernel
theorem dL_law_219 : decode cL_law 219 = .ok (.iconst 1, 1) := by decide +kernel
theorem dL_law_220 : decode cL_law 220 = .ok (.iadd, 1) := by decide +kernel
theorem dL_law_221 : decode cL_law 221 = .ok (.iaload, 1) := by decide +kernel
theorem dL_law_222 : decode cL_law 222 = .ok (.invokevirtual 33, 3) := by decide +kernel
theorem dL_law_225 : decode cL_law 225 = .ok (.if_icmp .eq 892, 3) := by decide +kernel
theorem dL_law_228 : decode cL_law 228 = .ok (.iconst 0, 1) := by decide +kernel
theorem dL_law_229 : decode cL_law 229 = .ok (.ireturn, 1) := by decide +kernel
theorem dL_law_230 : decode cL_law 230 = .ok (.aload_n 1, 1) := by decide +kernel
theorem dL_law_231 : decode cL_law 231 = .ok (.aload_n 0, 1) := by decide +kernel
theorem dL_law_232 : decode cL_law 232 = .ok (.iload 4, 2) := by decide +kernel
theorem dL_law_234 : decode cL_law 234 = .ok (.iconst 1, 1) := by decide +kernel
theorem dL_law_235 : decode cL_law 235 = .ok (.iadd, 1) := by decide +kernel
theorem dL_law_236 : decode cL_law 236 = .ok (.iaload, 1) := by decide +kernel
theorem dL_law_237 : decode cL_law 237 = .ok (.aload_n 0, 1) := by decide +kernel
theorem dL_law_238 : decode cL_law 238 = .ok (.iload 4, 2) := by decide +kernel
theorem dL_law_240 : decode cL_law 240 = .ok (.iconst 2, 1) := by decide +kernel
theorem dL_law_241 : decode cL_law 241 = .ok (.iadd, 1) := by decide +kernel
theorem dL_law_242 : decode cL_law 242 = .ok (.iaload, 1) := by decide +kernel
theorem dL_law_243 : decode cL_law 243 = .ok (.aload_n 0, 1) := by decide +kernel
theorem dL_law_244 : decode cL_law 244 = .ok (.iload 4, 2) := by decide +kernel
theorem dL_law_246 : decode cL_law 246 = .ok (.iconst 3, 1) := by decide +kernel
theorem dL_law_247 : decode cL_law 247 = .ok (.iadd, 1) := by decide +kernel
theorem dL_law_248 : decode cL_law 248 = .ok (.iaload, 1) := by decide +kernel
theorem dL_law_249 : decode cL_law 249 = .ok (.invokevirtual 34, 3) := by decide +kernel
theorem dL_law_252 : decode cL_law 252 = .ok (.aload_n 2, 1) := by decide +kernel
theorem dL_law_253 : decode cL_law 253 = .ok (.aload_n 0, 1) := by decide +kernel
theorem dL_law_254 : decode cL_law 254 = .ok (.iload 4, 2) := by decide +kernel
theorem dL_law_256 : decode cL_law 256 = .ok (.iconst 1, 1) := by decide +kernel
theorem dL_law_257 : decode cL_law 257 = .ok (.iadd, 1) := by decide +kernel
theorem dL_law_258 : decode cL_law 258 = .ok (.iaload, 1) := by decide +kernel
theorem dL_law_259 : decode cL_law 259 = .ok (.aload_n 0, 1) := by decide +kernel
theorem dL_law_260 : decode cL_law 260 = .ok (.iload 4, 2) := by decide +kernel
theorem dL_law_262 : decode cL_law 262 = .ok (.iconst 2, 1) := by decide +kernel
theorem dL_law_263 : decode cL_law 263 = .ok (.iadd, 1) := by decide +kernel
theorem dL_law_264 : decode cL_law 264 = .ok (.iaload, 1) := by decide +kernel
theorem dL_law_265 : decode cL_law 265 = .ok (.aload_n 0, 1) := by decide +kernel
theorem dL_law_266 : decode cL_law 266 = .ok (.iload 4, 2) := by decide +kernel
theorem dL_law_268 : decode cL_law 268 = .ok (.iconst 3, 1) := by decide +kernel
theorem dL_law_269 : decode cL_law 269 = .ok (.iadd, 1) := by decide +kernel
theorem dL_law_270 : decode cL_law 270 = .ok (.iaload, 1) := by decide +kernel
theorem dL_law_271 : decode cL_law 271 = .ok (.invokevirtual 38, 3) := by decide +kernel
theorem dL_law_274 : decode cL_law 274 = .ok (.if_icmp .eq 843, 3) := by decide +kernel
theorem dL_law_277 : decode cL_law 277 = .ok (.iconst 0, 1) := by decide +kernel
theorem dL_law_278 : decode cL_law 278 = .ok (.ireturn, 1) := by decide +kernel
theorem dL_law_279 : decode cL_law 279 = .ok (.aload_n 1, 1) := by decide +kernel
theorem dL_law_280 : decode cL_law 280 = .ok (.aload_n 0, 1) := by decide +kernel
theorem dL_law_281 : decode cL_law 281 = .ok (.iload 4, 2) := by decide +kernel
theorem dL_law_283 : decode cL_law 283 = .ok (.iconst 1, 1) := by decide +kernel
theorem dL_law_284 : decode cL_law 284 = .ok (.iadd, 1) := by decide +kernel
theorem dL_law_285 : decode cL_law 285 = .ok (.iaload, 1) := by decide +kernel
theorem dL_law_286 : decode cL_law 286 = .ok (.aload_n 0, 1) := by decide +kernel
theorem dL_law_287 : decode cL_law 287 = .ok (.iload 4, 2) := by decide +kernel
theorem dL_law_289 : decode cL_law 289 = .ok (.iconst 2, 1) := by decide +kernel
theorem dL_law_290 : decode cL_law 290 = .ok (.iadd, 1) := by decide +kernel
theorem dL_law_291 : decode cL_law 291 = .ok (.iaload, 1) := by decide +kernel
theorem dL_law_292 : decode cL_law 292 = .ok (.invokevirtual 39, 3) := by decide +kernel
theorem dL_law_295 : decode cL_law 295 = .ok (.aload_n 2, 1) := by decide +kernel
theorem dL_law_296 : decode cL_law 296 = .ok (.aload_n 0, 1) := by decide +kernel
theorem dL_law_297 : decode cL_law 297 = .ok (.iload 4, 2) := by decide +kernel
theorem dL_law_299 : decode cL_law 299 = .ok (.iconst 1, 1) := by decide +kernel
theorem dL_law_300 : decode cL_law 300 = .ok (.iadd, 1) := by decide +kernel
theorem dL_law_301 : decode cL_law 301 = .ok (.iaload, 1) := by decide +kernel
theorem dL_law_302 : decode cL_law 302 = .ok (.aload_n 0, 1) := by decide +kernel
theorem dL_law_303 : decode cL_law 303 = .ok (.iload 4, 2) := by decide +kernel
theorem dL_law_305 : decode cL_law 305 = .ok (.iconst 2, 1) := by decide +kernel
theorem dL_law_306 : decode cL_law 306 = .ok (.iadd, 1) := by decide +kernel
theorem dL_law_307 : decode cL_law 307 = .ok (.iaload, 1) := by decide +kernel
theorem dL_law_308 : decode cL_law 308 = .ok (.invokevirtual 43, 3) := by decide +kernel
theorem dL_law_311 : decode cL_law 311 = .ok (.if_icmp .eq 806, 3) := by decide +kernel
theorem dL_law_314 : decode cL_law 314 = .ok (.iconst 0, 1) := by decide +kernel
theorem dL_law_315 : decode cL_law 315 = .ok (.ireturn, 1) := by decide +kernel
theorem dL_law_316 : decode cL_law 316 = .ok (.aload_n 1, 1) := by decide +kernel
theorem dL_law_317 : decode cL_law 317 = .ok (.aload_n 0, 1) := by decide +kernel
theorem dL_law_318 : decode cL_law 318 = .ok (.iload 4, 2) := by decide +kernel
theorem dL_law_320 : decode cL_law 320 = .ok (.iconst 1, 1) := by decide +kernel
theorem dL_law_321 : decode cL_law 321 = .ok (.iadd, 1) := by decide +kernel
theorem dL_law_322 : decode cL_law 322 = .ok (.iaload, 1) := by decide +kernel
theorem dL_law_323 : decode cL_law 323 = .ok (.invokevirtual 44, 3) := by decide +kernel
theorem dL_law_326 : decode cL_law 326 = .ok (.aload_n 2, 1) := by decide +kernel
theorem dL_law_327 : decode cL_law 327 = .ok (.aload_n 0, 1) := by decide +kernel
theorem dL_law_328 : decode cL_law 328 = .ok (.iload 4, 2) := by decide +kernel
theorem dL_law_330 : decode cL_law 330 = .ok (.iconst 1, 1) := by decide +kernel
theorem dL_law_331 : decode cL_law 331 = .ok (.iadd, 1) := by decide +kernel
theorem dL_law_332 : decode cL_law 332 = .ok (.iaload, 1) := by decide +kernel
theorem dL_law_333 : decode cL_law 333 = .ok (.invokevirtual 47, 3) := by decide +kernel
theorem dL_law_336 : decode cL_law 336 = .ok (.if_icmp .eq 781, 3) := by decide +kernel
theorem dL_law_339 : decode cL_law 339 = .ok (.iconst 0, 1) := by decide +kernel
theorem dL_law_340 : decode cL_law 340 = .ok (.ireturn, 1) := by decide +kernel
theorem dL_law_341 : decode cL_law 341 = .ok (.aload_n 1, 1) := by decide +kernel
theorem dL_law_342 : decode cL_law 342 = .ok (.aload_n 0, 1) := by decide +kernel
theorem dL_law_343 : decode cL_law 343 = .ok (.iload 4, 2) := by decide +kernel
theorem dL_law_345 : decode cL_law 345 = .ok (.iconst 1, 1) := by decide +kernel
theorem dL_law_346 : decode cL_law 346 = .ok (.iadd, 1) := by decide +kernel
theorem dL_law_347 : decode cL_law 347 = .ok (.iaload, 1) := by decide +kernel
theorem dL_law_348 : decode cL_law 348 = .ok (.aload_n 0, 1) := by decide +kernel
theorem dL_law_349 : decode cL_law 349 = .ok (.iload 4, 2) := by decide +kernel
theorem dL_law_351 : decode cL_law 351 = .ok (.iconst 2, 1) := by decide +kernel
theorem dL_law_352 : decode cL_law 352 = .ok (.iadd, 1) := by decide +kernel
theorem dL_law_353 : decode cL_law 353 = .ok (.iaload, 1) := by decide +kernel
theorem dL_law_354 : decode cL_law 354 = .ok (.invokevirtual 48, 3) := by decide +kernel
theorem dL_law_357 : decode cL_law 357 = .ok (.aload_n 2, 1) := by decide +kernel
theorem dL_law_358 : decode cL_law 358 = .ok (.aload_n 0, 1) := by decide +kernel
theorem dL_law_359 : decode cL_law 359 = .ok (.iload 4, 2) := by decide +kernel
theorem dL_law_361 : decode cL_law 361 = .ok (.iconst 1, 1) := by decide +kernel
theorem dL_law_362 : decode cL_law 362 = .ok (.iadd, 1) := by decide +kernel
theorem dL_law_363 : decode cL_law 363 = .ok (.iaload, 1) := by decide +kernel
theorem dL_law_364 : decode cL_law 364 = .ok (.aload_n 0, 1) := by decide +kernel
theorem dL_law_365 : decode cL_law 365 = .ok (.iload 4, 2) := by decide +kernel
theorem dL_law_367 : decode cL_law 367 = .ok (.iconst 2, 1) := by decide +kernel
theorem dL_law_368 : decode cL_law 368 = .ok (.iadd, 1) := by decide +kernel
theorem dL_law_369 : decode cL_law 369 = .ok (.iaload, 1) := by decide +kernel
theorem dL_law_370 : decode cL_law 370 = .ok (.invokevirtual 51, 3) := by decide +kernel
theorem dL_law_373 : decode cL_law 373 = .ok (.if_icmp .eq 744, 3) := by decide +kernel
theorem dL_law_376 : decode cL_law 376 = .ok (.iconst 0, 1) := by decide +kernel
theorem dL_law_377 : decode cL_law 377 = .ok (.ireturn, 1) := by decide +kernel
theorem dL_law_378 : decode cL_law 378 = .ok (.aload_n 1, 1) := by decide +kernel
theorem dL_law_379 : decode cL_law 379 = .ok (.aload_n 0, 1) := by decide +kernel
theorem dL_law_380 : decode cL_law 380 = .ok (.iload 4, 2) := by decide +kernel
theorem dL_law_382 : decode cL_law 382 = .ok (.iconst 1, 1) := by decide +kernel
theorem dL_law_383 : decode cL_law 383 = .ok (.iadd, 1) := by decide +kernel
theorem dL_law_384 : decode cL_law 384 = .ok (.iaload, 1) := by decide +kernel
theorem dL_law_385 : decode cL_law 385 = .ok (.invokevirtual 52, 3) := by decide +kernel
theorem dL_law_388 : decode cL_law 388 = .ok (.aload_n 2, 1) := by decide +kernel
theorem dL_law_389 : decode cL_law 389 = .ok (.aload_n 0, 1) := by decide +kernel
theorem dL_law_390 : decode cL_law 390 = .ok (.iload 4, 2) := by decide +kernel
theorem dL_law_392 : decode cL_law 392 = .ok (.iconst 1, 1) := by decide +kernel
theorem dL_law_393 : decode cL_law 393 = .ok (.iadd, 1) := by decide +kernel
theorem dL_law_394 : decode cL_law 394 = .ok (.iaload, 1) := by decide +kernel
theorem dL_law_395 : decode cL_law 395 = .ok (.invokevirtual 55, 3) := by decide +kernel
theorem dL_law_398 : decode cL_law 398 = .ok (.if_icmp .eq 719, 3) := by decide +kernel
theorem dL_law_401 : decode cL_law 401 = .ok (.iconst 0, 1) := by decide +kernel
theorem dL_law_402 : decode cL_law 402 = .ok (.ireturn, 1) := by decide +kernel
theorem dL_law_403 : decode cL_law 403 = .ok (.aload_n 1, 1) := by decide +kernel
theorem dL_law_404 : decode cL_law 404 = .ok (.invokevirtual 56, 3) := by decide +kernel
theorem dL_law_407 : decode cL_law 407 = .ok (.aload_n 2, 1) := by decide +kernel
theorem dL_law_408 : decode cL_law 408 = .ok (.invokevirtual 60, 3) := by decide +kernel
theorem dL_law_411 : decode cL_law 411 = .ok (.if_icmp .eq 706, 3) := by decide +kernel
theorem dL_law_414 : decode cL_law 414 = .ok (.iconst 0, 1) := by decide +kernel
theorem dL_law_415 : decode cL_law 415 = .ok (.ireturn, 1) := by decide +kernel
theorem dL_law_416 : decode cL_law 416 = .ok (.aload_n 1, 1) := by decide +kernel
theorem dL_law_417 : decode cL_law 417 = .ok (.aload_n 0, 1) := by decide +kernel
theorem dL_law_418 : decode cL_law 418 = .ok (.iload 4, 2) := by decide +kernel
theorem dL_law_420 : decode cL_law 420 = .ok (.iconst 1, 1) := by decide +kernel
theorem dL_law_421 : decode cL_law 421 = .ok (.iadd, 1) := by decide +kernel
theorem dL_law_422 : decode cL_law 422 = .ok (.iaload, 1) := by decide +kernel
theorem dL_law_423 : decode cL_law 423 = .ok (.invokevirtual 61, 3) := by decide +kernel
theorem dL_law_426 : decode cL_law 426 = .ok (.aload_n 2, 1) := by decide +kernel
theorem dL_law_427 : decode cL_law 427 = .ok (.aload_n 0, 1) := by decide +kernel
theorem dL_law_428 : decode cL_law 428 = .ok (.iload 4, 2) := by decide +kernel
theorem dL_law_430 : decode cL_law 430 = .ok (.iconst 1, 1) := by decide +kernel
theorem dL_law_431 : decode cL_law 431 = .ok (.iadd, 1) := by decide +kernel
theorem dL_law_432 : decode cL_law 432 = .ok (.iaload, 1) := by decide +kernel
theorem dL_law_433 : decode cL_law 433 = .ok (.invokevirtual 64, 3) := by decide +kernel
theorem dL_law_436 : decode cL_law 436 = .ok (.if_icmp .eq 681, 3) := by decide +kernel
theorem dL_law_439 : decode cL_law 439 = .ok (.iconst 0, 1) := by decide +kernel
theorem dL_law_440 : decode cL_law 440 = .ok (.ireturn, 1) := by decide +kernel
theorem dL_law_441 : decode cL_law 441 = .ok (.aload_n 1, 1) := by decide +kernel
theorem dL_law_442 : decode cL_law 442 = .ok (.aload_n 0, 1) := by decide +kernel
theorem dL_law_443 : decode cL_law 443 = .ok (.iload 4, 2) := by decide +kernel
theorem dL_law_445 : decode cL_law 445 = .ok (.iconst 1, 1) := by decide +kernel
theorem dL_law_446 : decode cL_law 446 = .ok (.iadd, 1) := by decide +kernel
theorem dL_law_447 : decode cL_law 447 = .ok (.iaload, 1) := by decide +kernel
theorem dL_law_448 : decode cL_law 448 = .ok (.invokevirtual 65, 3) := by decide +kernel
theorem dL_law_451 : decode cL_law 451 = .ok (.aload_n 2, 1) := by decide +kernel
theorem dL_law_452 : decode cL_law 452 = .ok (.aload_n 0, 1) := by decide +kernel
theorem dL_law_453 : decode cL_law 453 = .ok (.iload 4, 2) := by decide +kernel
theorem dL_law_455 : decode cL_law 455 = .ok (.iconst 1, 1) := by decide +kernel
theorem dL_law_456 : decode cL_law 456 = .ok (.iadd, 1) := by decide +kernel
theorem dL_law_457 : decode cL_law 457 = .ok (.iaload, 1) := by decide +kernel
theorem dL_law_458 : decode cL_law 458 = .ok (.invokevirtual 68, 3) := by decide +kernel
theorem dL_law_461 : decode cL_law 461 = .ok (.if_icmp .eq 656, 3) := by decide +kernel
theorem dL_law_464 : decode cL_law 464 = .ok (.iconst 0, 1) := by decide +kernel
theorem dL_law_465 : decode cL_law 465 = .ok (.ireturn, 1) := by decide +kernel
theorem dL_law_466 : decode cL_law 466 = .ok (.aload_n 1, 1) := by decide +kernel
theorem dL_law_467 : decode cL_law 467 = .ok (.aload_n 0, 1) := by decide +kernel
theorem dL_law_468 : decode cL_law 468 = .ok (.iload 4, 2) := by decide +kernel
theorem dL_law_470 : decode cL_law 470 = .ok (.iconst 1, 1) := by decide +kernel
theorem dL_law_471 : decode cL_law 471 = .ok (.iadd, 1) := by decide +kernel
theorem dL_law_472 : decode cL_law 472 = .ok (.iaload, 1) := by decide +kernel
theorem dL_law_473 : decode cL_law 473 = .ok (.invokevirtual 69, 3) := by decide +kernel
theorem dL_law_476 : decode cL_law 476 = .ok (.aload_n 2, 1) := by decide +kernel
theorem dL_law_477 : decode cL_law 477 = .ok (.aload_n 0, 1) := by decide +kernel
theorem dL_law_478 : decode cL_law 478 = .ok (.iload 4, 2) := by decide +kernel
theorem dL_law_480 : decode cL_law 480 = .ok (.iconst 1, 1) := by decide +kernel
theorem dL_law_481 : decode cL_law 481 = .ok (.iadd, 1) := by decide +kernel
theorem dL_law_482 : decode cL_law 482 = .ok (.iaload, 1) := by decide +kernel
theorem dL_law_483 : decode cL_law 483 = .ok (.invokevirtual 72, 3) := by decide +kernel
theorem dL_law_486 : decode cL_law 486 = .ok (.if_icmp .eq 631, 3) := by decide +kernel
theorem dL_law_489 : decode cL_law 489 = .ok (.iconst 0, 1) := by decide +kernel
theorem dL_law_490 : decode cL_law 490 = .ok (.ireturn, 1) := by decide +kernel
theorem dL_law_491 : decode cL_law 491 = .ok (.aload_n 1, 1) := by decide +kernel
theorem dL_law_492 : decode cL_law 492 = .ok (.aload_n 0, 1) := by decide +kernel
theorem dL_law_493 : decode cL_law 493 = .ok (.iload 4, 2) := by decide +kernel
theorem dL_law_495 : decode cL_law 495 = .ok (.iconst 1, 1) := by decide +kernel
theorem dL_law_496 : decode cL_law 496 = .ok (.iadd, 1) := by decide +kernel
theorem dL_law_497 : decode cL_law 497 = .ok (.iaload, 1) := by decide +kernel
theorem dL_law_498 : decode cL_law 498 = .ok (.aload_n 0, 1) := by decide +kernel
theorem dL_law_499 : decode cL_law 499 = .ok (.iload 4, 2) := by decide +kernel
theorem dL_law_501 : decode cL_law 501 = .ok (.iconst 2, 1) := by decide +kernel
theorem dL_law_502 : decode cL_law 502 = .ok (.iadd, 1) := by decide +kernel
theorem dL_law_503 : decode cL_law 503 = .ok (.iaload, 1) := by decide +kernel
theorem dL_law_504 : decode cL_law 504 = .ok (.invokevirtual 73, 3) := by decide +kernel
theorem dL_law_507 : decode cL_law 507 = .ok (.aload_n 2, 1) := by decide +kernel
theorem dL_law_508 : decode cL_law 508 = .ok (.aload_n 0, 1) := by decide +kernel
theorem dL_law_509 : decode cL_law 509 = .ok (.iload 4, 2) := by decide +kernel
theorem dL_law_511 : decode cL_law 511 = .ok (.iconst 1, 1) := by decide +kernel
theorem dL_law_512 : decode cL_law 512 = .ok (.iadd, 1) := by decide +kernel
theorem dL_law_513 : decode cL_law 513 = .ok (.iaload, 1) := by decide +kernel
theorem dL_law_514 : decode cL_law 514 = .ok (.aload_n 0, 1) := by decide +kernel
theorem dL_law_515 : decode cL_law 515 = .ok (.iload 4, 2) := by decide +kernel
theorem dL_law_517 : decode cL_law 517 = .ok (.iconst 2, 1) := by decide +kernel
theorem dL_law_518 : decode cL_law 518 = .ok (.iadd, 1) := by decide +kernel
theorem dL_law_519 : decode cL_law 519 = .ok (.iaload, 1) := by decide +kernel
theorem dL_law_520 : decode cL_law 520 = .ok (.invokevirtual 76, 3) := by decide +kernel
theorem dL_law_523 : decode cL_law 523 = .ok (.if_icmp .eq 594, 3) := by decide +kernel
theorem dL_law_526 : decode cL_law 526 = .ok (.iconst 0, 1) := by decide +kernel
theorem dL_law_527 : decode cL_law 527 = .ok (.ireturn, 1) := by decide +kernel
theorem dL_law_528 : decode cL_law 528 = .ok (.aload_n 1, 1) := by decide +kernel
theorem dL_law_529 : decode cL_law 529 = .ok (.aload_n 0, 1) := by decide +kernel
theorem dL_law_530 : decode cL_law 530 = .ok (.iload 4, 2) := by decide +kernel
theorem dL_law_532 : decode cL_law 532 = .ok (.iconst 1, 1) := by decide +kernel
theorem dL_law_533 : decode cL_law 533 = .ok (.iadd, 1) := by decide +kernel
theorem dL_law_534 : decode cL_law 534 = .ok (.iaload, 1) := by decide +kernel
theorem dL_law_535 : decode cL_law 535 = .ok (.aload_n 0, 1) := by decide +kernel
theorem dL_law_536 : decode cL_law 536 = .ok (.iload 4, 2) := by decide +kernel
theorem dL_law_538 : decode cL_law 538 = .ok (.iconst 2, 1) := by decide +kernel
theorem dL_law_539 : decode cL_law 539 = .ok (.iadd, 1) := by decide +kernel
theorem dL_law_540 : decode cL_law 540 = .ok (.iaload, 1) := by decide +kernel
theorem dL_law_541 : decode cL_law 541 = .ok (.invokevirtual 77, 3) := by decide +kernel
theorem dL_law_544 : decode cL_law 544 = .ok (.aload_n 2, 1) := by decide +kernel
theorem dL_law_545 : decode cL_law 545 = .ok (.aload_n 0, 1) := by decide +kernel
theorem dL_law_546 : decode cL_law 546 = .ok (.iload 4, 2) := by decide +kernel
theorem dL_law_548 : decode cL_law 548 = .ok (.iconst 1, 1) := by decide +kernel
theorem dL_law_549 : decode cL_law 549 = .ok (.iadd, 1) := by decide +kernel
theorem dL_law_550 : decode cL_law 550 = .ok (.iaload, 1) := by decide +kernel
theorem dL_law_551 : decode cL_law 551 = .ok (.aload_n 0, 1) := by decide +kernel
theorem dL_law_552 : decode cL_law 552 = .ok (.iload 4, 2) := by decide +kernel
theorem dL_law_554 : decode cL_law 554 = .ok (.iconst 2, 1) := by decide +kernel
theorem dL_law_555 : decode cL_law 555 = .ok (.iadd, 1) := by decide +kernel
theorem dL_law_556 : decode cL_law 556 = .ok (.iaload, 1) := by decide +kernel
theorem dL_law_557 : decode cL_law 557 = .ok (.invokevirtual 80, 3) := by decide +kernel
theorem dL_law_560 : decode cL_law 560 = .ok (.if_icmp .eq 557, 3) := by decide +kernel
theorem dL_law_563 : decode cL_law 563 = .ok (.iconst 0, 1) := by decide +kernel
theorem dL_law_564 : decode cL_law 564 = .ok (.ireturn, 1) := by decide +kernel
theorem dL_law_565 : decode cL_law 565 = .ok (.aload_n 1, 1) := by decide +kernel
theorem dL_law_566 : decode cL_law 566 = .ok (.aload_n 0, 1) := by decide +kernel
theorem dL_law_567 : decode cL_law 567 = .ok (.iload 4, 2) := by decide +kernel
theorem dL_law_569 : decode cL_law 569 = .ok (.iconst 1, 1) := by decide +kernel
theorem dL_law_570 : decode cL_law 570 = .ok (.iadd, 1) := by decide +kernel
theorem dL_law_571 : decode cL_law 571 = .ok (.iaload, 1) := by decide +kernel
theorem dL_law_572 : decode cL_law 572 = .ok (.aload_n 0, 1) := by decide +kernel
theorem dL_law_573 : decode cL_law 573 = .ok (.iload 4, 2) := by decide +kernel
theorem dL_law_575 : decode cL_law 575 = .ok (.iconst 2, 1) := by decide +kernel
theorem dL_law_576 : decode cL_law 576 = .ok (.iadd, 1) := by decide +kernel
theorem dL_law_577 : decode cL_law 577 = .ok (.iaload, 1) := by decide +kernel
theorem dL_law_578 : decode cL_law 578 = .ok (.aload_n 3, 1) := by decide +kernel
theorem dL_law_579 : decode cL_law 579 = .ok (.invokestatic 81, 3) := by decide +kernel
theorem dL_law_582 : decode cL_law 582 = .ok (.istore 5, 2) := by decide +kernel
theorem dL_law_584 : decode cL_law 584 = .ok (.aload_n 2, 1) := by decide +kernel
theorem dL_law_585 : decode cL_law 585 = .ok (.aload_n 0, 1) := by decide +kernel
theorem dL_law_586 : decode cL_law 586 = .ok (.iload 4, 2) := by decide +kernel
theorem dL_law_588 : decode cL_law 588 = .ok (.iconst 1, 1) := by decide +kernel
theorem dL_law_589 : decode cL_law 589 = .ok (.iadd, 1) := by decide +kernel
theorem dL_law_590 : decode cL_law 590 = .ok (.iaload, 1) := by decide +kernel
theorem dL_law_591 : decode cL_law 591 = .ok (.aload_n 0, 1) := by decide +kernel
theorem dL_law_592 : decode cL_law 592 = .ok (.iload 4, 2) := by decide +kernel
theorem dL_law_594 : decode cL_law 594 = .ok (.iconst 2, 1) := by decide +kernel
theorem dL_law_595 : decode cL_law 595 = .ok (.iadd, 1) := by decide +kernel
theorem dL_law_596 : decode cL_law 596 = .ok (.iaload, 1) := by decide +kernel
theorem dL_law_597 : decode cL_law 597 = .ok (.invokevirtual 86, 3) := by decide +kernel
theorem dL_law_600 : decode cL_law 600 = .ok (.lstore 6, 2) := by decide +kernel
theorem dL_law_602 : decode cL_law 602 = .ok (.aload_n 2, 1) := by decide +kernel
theorem dL_law_603 : decode cL_law 603 = .ok (.invokevirtual 87, 3) := by decide +kernel
theorem dL_law_606 : decode cL_law 606 = .ok (.iload 5, 2) := by decide +kernel
theorem dL_law_608 : decode cL_law 608 = .ok (.if_icmp .eq 5, 3) := by decide +kernel
theorem dL_law_611 : decode cL_law 611 = .ok (.iconst 0, 1) := by decide +kernel
theorem dL_law_612 : decode cL_law 612 = .ok (.ireturn, 1) := by decide +kernel
theorem dL_law_613 : decode cL_law 613 = .ok (.iload 5, 2) := by decide +kernel
theorem dL_law_615 : decode cL_law 615 = .ok (.ifCond .ne 14, 3) := by decide +kernel
theorem dL_law_618 : decode cL_law 618 = .ok (.aload_n 3, 1) := by decide +kernel
theorem dL_law_619 : decode cL_law 619 = .ok (.iconst 0, 1) := by decide +kernel
theorem dL_law_620 : decode cL_law 620 = .ok (.laload, 1) := by decide +kernel
theorem dL_law_621 : decode cL_law 621 = .ok (.lload 6, 2) := by decide +kernel
theorem dL_law_623 : decode cL_law 623 = .ok (.lcmp, 1) := by decide +kernel
theorem dL_law_624 : decode cL_law 624 = .ok (.ifCond .eq 5, 3) := by decide +kernel
theorem dL_law_627 : decode cL_law 627 = .ok (.iconst 0, 1) := by decide +kernel
theorem dL_law_628 : decode cL_law 628 = .ok (.ireturn, 1) := by decide +kernel
theorem dL_law_629 : decode cL_law 629 = .ok (.goto 488, 3) := by decide +kernel
theorem dL_law_632 : decode cL_law 632 = .ok (.aload_n 1, 1) := by decide +kernel
theorem dL_law_633 : decode cL_law 633 = .ok (.invokevirtual 90, 3) := by decide +kernel
theorem dL_law_636 : decode cL_law 636 = .ok (.aload_n 2, 1) := by decide +kernel
theorem dL_law_637 : decode cL_law 637 = .ok (.invokevirtual 94, 3) := by decide +kernel
theorem dL_law_640 : decode cL_law 640 = .ok (.lcmp, 1) := by decide +kernel
theorem dL_law_641 : decode cL_law 641 = .ok (.ifCond .eq 476, 3) := by decide +kernel
theorem dL_law_644 : decode cL_law 644 = .ok (.iconst 0, 1) := by decide +kernel
theorem dL_law_645 : decode cL_law 645 = .ok (.ireturn, 1) := by decide +kernel
theorem dL_law_646 : decode cL_law 646 = .ok (.aload_n 1, 1) := by decide +kernel
theorem dL_law_647 : decode cL_law 647 = .ok (.aload_n 0, 1) := by decide +kernel
theorem dL_law_648 : decode cL_law 648 = .ok (.iload 4, 2) := by decide +kernel
theorem dL_law_650 : decode cL_law 650 = .ok (.iconst 1, 1) := by decide +kernel
theorem dL_law_651 : decode cL_law 651 = .ok (.iadd, 1) := by decide +kernel
theorem dL_law_652 : decode cL_law 652 = .ok (.iaload, 1) := by decide +kernel
theorem dL_law_653 : decode cL_law 653 = .ok (.aload_n 0, 1) := by decide +kernel
theorem dL_law_654 : decode cL_law 654 = .ok (.iload 4, 2) := by decide +kernel
theorem dL_law_656 : decode cL_law 656 = .ok (.iconst 2, 1) := by decide +kernel
theorem dL_law_657 : decode cL_law 657 = .ok (.iadd, 1) := by decide +kernel
theorem dL_law_658 : decode cL_law 658 = .ok (.iaload, 1) := by decide +kernel
theorem dL_law_659 : decode cL_law 659 = .ok (.invokevirtual 95, 3) := by decide +kernel
theorem dL_law_662 : decode cL_law 662 = .ok (.aload_n 2, 1) := by decide +kernel
theorem dL_law_663 : decode cL_law 663 = .ok (.aload_n 0, 1) := by decide +kernel
theorem dL_law_664 : decode cL_law 664 = .ok (.iload 4, 2) := by decide +kernel
theorem dL_law_666 : decode cL_law 666 = .ok (.iconst 1, 1) := by decide +kernel
theorem dL_law_667 : decode cL_law 667 = .ok (.iadd, 1) := by decide +kernel
theorem dL_law_668 : decode cL_law 668 = .ok (.iaload, 1) := by decide +kernel
theorem dL_law_669 : decode cL_law 669 = .ok (.aload_n 0, 1) := by decide +kernel
theorem dL_law_670 : decode cL_law 670 = .ok (.iload 4, 2) := by decide +kernel
theorem dL_law_672 : decode cL_law 672 = .ok (.iconst 2, 1) := by decide +kernel
theorem dL_law_673 : decode cL_law 673 = .ok (.iadd, 1) := by decide +kernel
theorem dL_law_674 : decode cL_law 674 = .ok (.iaload, 1) := by decide +kernel
theorem dL_law_675 : decode cL_law 675 = .ok (.invokevirtual 98, 3) := by decide +kernel
theorem dL_law_678 : decode cL_law 678 = .ok (.if_icmp .eq 439, 3) := by decide +kernel
theorem dL_law_681 : decode cL_law 681 = .ok (.iconst 0, 1) := by decide +kernel
theorem dL_law_682 : decode cL_law 682 = .ok (.ireturn, 1) := by decide +kernel
theorem dL_law_683 : decode cL_law 683 = .ok (.aload_n 1, 1) := by decide +kernel
theorem dL_law_684 : decode cL_law 684 = .ok (.aload_n 0, 1) := by decide +kernel
theorem dL_law_685 : decode cL_law 685 = .ok (.iload 4, 2) := by decide +kernel
theorem dL_law_687 : decode cL_law 687 = .ok (.iconst 1, 1) := by decide +kernel
theorem dL_law_688 : decode cL_law 688 = .ok (.iadd, 1) := by decide +kernel
theorem dL_law_689 : decode cL_law 689 = .ok (.iaload, 1) := by decide +kernel
theorem dL_law_690 : decode cL_law 690 = .ok (.invokevirtual 99, 3) := by decide +kernel
theorem dL_law_693 : decode cL_law 693 = .ok (.aload_n 2, 1) := by decide +kernel
theorem dL_law_694 : decode cL_law 694 = .ok (.aload_n 0, 1) := by decide +kernel
theorem dL_law_695 : decode cL_law 695 = .ok (.iload 4, 2) := by decide +kernel
theorem dL_law_697 : decode cL_law 697 = .ok (.iconst 1, 1) := by decide +kernel
theorem dL_law_698 : decode cL_law 698 = .ok (.iadd, 1) := by decide +kernel
theorem dL_law_699 : decode cL_law 699 = .ok (.iaload, 1) := by decide +kernel
theorem dL_law_700 : decode cL_law 700 = .ok (.invokevirtual 102, 3) := by decide +kernel
theorem dL_law_703 : decode cL_law 703 = .ok (.if_icmp .eq 414, 3) := by decide +kernel
theorem dL_law_706 : decode cL_law 706 = .ok (.iconst 0, 1) := by decide +kernel
theorem dL_law_707 : decode cL_law 707 = .ok (.ireturn, 1) := by decide +kernel
theorem dL_law_708 : decode cL_law 708 = .ok (.aload_n 1, 1) := by decide +kernel
theorem dL_law_709 : decode cL_law 709 = .ok (.aload_n 0, 1) := by decide +kernel
theorem dL_law_710 : decode cL_law 710 = .ok (.iload 4, 2) := by decide +kernel
theorem dL_law_712 : decode cL_law 712 = .ok (.iconst 1, 1) := by decide +kernel
theorem dL_law_713 : decode cL_law 713 = .ok (.iadd, 1) := by decide +kernel
theorem dL_law_714 : decode cL_law 714 = .ok (.iaload, 1) := by decide +kernel
theorem dL_law_715 : decode cL_law 715 = .ok (.aload_n 0, 1) := by decide +kernel
theorem dL_law_716 : decode cL_law 716 = .ok (.iload 4, 2) := by decide +kernel
theorem dL_law_718 : decode cL_law 718 = .ok (.iconst 2, 1) := by decide +kernel
theorem dL_law_719 : decode cL_law 719 = .ok (.iadd, 1) := by decide +kernel
theorem dL_law_720 : decode cL_law 720 = .ok (.iaload, 1) := by decide +kernel
theorem dL_law_721 : decode cL_law 721 = .ok (.ifCond .eq 7, 3) := by decide +kernel
theorem dL_law_724 : decode cL_law 724 = .ok (.iconst 1, 1) := by decide +kernel
theorem dL_law_725 : decode cL_law 725 = .ok (.goto 4, 3) := by decide +kernel
theorem dL_law_728 : decode cL_law 728 = .ok (.iconst 0, 1) := by decide +kernel
theorem dL_law_729 : decode cL_law 729 = .ok (.aload_n 3, 1) := by decide +kernel
theorem dL_law_730 : decode cL_law 730 = .ok (.invokestatic 103, 3) := by decide +kernel
theorem dL_law_733 : decode cL_law 733 = .ok (.istore 5, 2) := by decide +kernel
theorem dL_law_735 : decode cL_law 735 = .ok (.aload_n 2, 1) := by decide +kernel
theorem dL_law_736 : decode cL_law 736 = .ok (.aload_n 0, 1) := by decide +kernel
theorem dL_law_737 : decode cL_law 737 = .ok (.iload 4, 2) := by decide +kernel
theorem dL_law_739 : decode cL_law 739 = .ok (.iconst 1, 1) := by decide +kernel
theorem dL_law_740 : decode cL_law 740 = .ok (.iadd, 1) := by decide +kernel
theorem dL_law_741 : decode cL_law 741 = .ok (.iaload, 1) := by decide +kernel
theorem dL_law_742 : decode cL_law 742 = .ok (.aload_n 0, 1) := by decide +kernel
theorem dL_law_743 : decode cL_law 743 = .ok (.iload 4, 2) := by decide +kernel
theorem dL_law_745 : decode cL_law 745 = .ok (.iconst 2, 1) := by decide +kernel
theorem dL_law_746 : decode cL_law 746 = .ok (.iadd, 1) := by decide +kernel
theorem dL_law_747 : decode cL_law 747 = .ok (.iaload, 1) := by decide +kernel
theorem dL_law_748 : decode cL_law 748 = .ok (.ifCond .eq 7, 3) := by decide +kernel
theorem dL_law_751 : decode cL_law 751 = .ok (.iconst 1, 1) := by decide +kernel
theorem dL_law_752 : decode cL_law 752 = .ok (.goto 4, 3) := by decide +kernel
theorem dL_law_755 : decode cL_law 755 = .ok (.iconst 0, 1) := by decide +kernel
theorem dL_law_756 : decode cL_law 756 = .ok (.invokevirtual 106, 3) := by decide +kernel
theorem dL_law_759 : decode cL_law 759 = .ok (.lstore 6, 2) := by decide +kernel
theorem dL_law_761 : decode cL_law 761 = .ok (.aload_n 2, 1) := by decide +kernel
theorem dL_law_762 : decode cL_law 762 = .ok (.invokevirtual 87, 3) := by decide +kernel
theorem dL_law_765 : decode cL_law 765 = .ok (.iload 5, 2) := by decide +kernel
theorem dL_law_767 : decode cL_law 767 = .ok (.if_icmp .eq 5, 3) := by decide +kernel
theorem dL_law_770 : decode cL_law 770 = .ok (.iconst 0, 1) := by decide +kernel
theorem dL_law_771 : decode cL_law 771 = .ok (.ireturn, 1) := by decide +kernel
theorem dL_law_772 : decode cL_law 772 = .ok (.iload 5, 2) := by decide +kernel
theorem dL_law_774 : decode cL_law 774 = .ok (.ifCond .ne 14, 3) := by decide +kernel
theorem dL_law_777 : decode cL_law 777 = .ok (.aload_n 3, 1) := by decide +kernel
theorem dL_law_778 : decode cL_law 778 = .ok (.iconst 0, 1) := by decide +kernel
theorem dL_law_779 : decode cL_law 779 = .ok (.laload, 1) := by decide +kernel
theorem dL_law_780 : decode cL_law 780 = .ok (.lload 6, 2) := by decide +kernel
theorem dL_law_782 : decode cL_law 782 = .ok (.lcmp, 1) := by decide +kernel
theorem dL_law_783 : decode cL_law 783 = .ok (.ifCond .eq 5, 3) := by decide +kernel
theorem dL_law_786 : decode cL_law 786 = .ok (.iconst 0, 1) := by decide +kernel
theorem dL_law_787 : decode cL_law 787 = .ok (.ireturn, 1) := by decide +kernel
theorem dL_law_788 : decode cL_law 788 = .ok (.goto 329, 3) := by decide +kernel
theorem dL_law_791 : decode cL_law 791 = .ok (.aload_n 1, 1) := by decide +kernel
theorem dL_law_792 : decode cL_law 792 = .ok (.invokevirtual 107, 3) := by decide +kernel
theorem dL_law_795 : decode cL_law 795 = .ok (.aload_n 2, 1) := by decide +kernel
theorem dL_law_796 : decode cL_law 796 = .ok (.invokevirtual 110, 3) := by decide +kernel
theorem dL_law_799 : decode cL_law 799 = .ok (.if_icmp .eq 318, 3) := by decide +kernel
theorem dL_law_802 : decode cL_law 802 = .ok (.iconst 0, 1) := by decide +kernel
theorem dL_law_803 : decode cL_law 803 = .ok (.ireturn, 1) := by decide +kernel
theorem dL_law_804 : decode cL_law 804 = .ok (.aload_n 1, 1) := by decide +kernel
theorem dL_law_805 : decode cL_law 805 = .ok (.aload_n 0, 1) := by decide +kernel
theorem dL_law_806 : decode cL_law 806 = .ok (.iload 4, 2) := by decide +kernel
theorem dL_law_808 : decode cL_law 808 = .ok (.iconst 1, 1) := by decide +kernel
theorem dL_law_809 : decode cL_law 809 = .ok (.iadd, 1) := by decide +kernel
theorem dL_law_810 : decode cL_law 810 = .ok (.iaload, 1) := by decide +kernel
theorem dL_law_811 : decode cL_law 811 = .ok (.aload_n 0, 1) := by decide +kernel
theorem dL_law_812 : decode cL_law 812 = .ok (.iload 4, 2) := by decide +kernel
theorem dL_law_814 : decode cL_law 814 = .ok (.iconst 2, 1) := by decide +kernel
theorem dL_law_815 : decode cL_law 815 = .ok (.iadd, 1) := by decide +kernel
theorem dL_law_816 : decode cL_law 816 = .ok (.iaload, 1) := by decide +kernel
theorem dL_law_817 : decode cL_law 817 = .ok (.invokevirtual 111, 3) := by decide +kernel
theorem dL_law_820 : decode cL_law 820 = .ok (.aload_n 2, 1) := by decide +kernel
theorem dL_law_821 : decode cL_law 821 = .ok (.aload_n 0, 1) := by decide +kernel
theorem dL_law_822 : decode cL_law 822 = .ok (.iload 4, 2) := by decide +kernel
theorem dL_law_824 : decode cL_law 824 = .ok (.iconst 1, 1) := by decide +kernel
theorem dL_law_825 : decode cL_law 825 = .ok (.iadd, 1) := by decide +kernel
theorem dL_law_826 : decode cL_law 826 = .ok (.iaload, 1) := by decide +kernel
theorem dL_law_827 : decode cL_law 827 = .ok (.aload_n 0, 1) := by decide +kernel
theorem dL_law_828 : decode cL_law 828 = .ok (.iload 4, 2) := by decide +kernel
theorem dL_law_830 : decode cL_law 830 = .ok (.iconst 2, 1) := by decide +kernel
theorem dL_law_831 : decode cL_law 831 = .ok (.iadd, 1) := by decide +kernel
theorem dL_law_832 : decode cL_law 832 = .ok (.iaload, 1) := by decide +kernel
theorem dL_law_833 : decode cL_law 833 = .ok (.invokevirtual 114, 3) := by decide +kernel
theorem dL_law_836 : decode cL_law 836 = .ok (.if_icmp .eq 281, 3) := by decide +kernel
theorem dL_law_839 : decode cL_law 839 = .ok (.iconst 0, 1) := by decide +kernel
theorem dL_law_840 : decode cL_law 840 = .ok (.ireturn, 1) := by decide +kernel
theorem dL_law_841 : decode cL_law 841 = .ok (.aload_n 1, 1) := by decide +kernel
theorem dL_law_842 : decode cL_law 842 = .ok (.invokevirtual 115, 3) := by decide +kernel
theorem dL_law_845 : decode cL_law 845 = .ok (.aload_n 2, 1) := by decide +kernel
theorem dL_law_846 : decode cL_law 846 = .ok (.invokevirtual 118, 3) := by decide +kernel
theorem dL_law_849 : decode cL_law 849 = .ok (.if_icmp .eq 268, 3) := by decide +kernel
theorem dL_law_852 : decode cL_law 852 = .ok (.iconst 0, 1) := by decide +kernel
theorem dL_law_853 : decode cL_law 853 = .ok (.ireturn, 1) := by decide +kernel
theorem dL_law_854 : decode cL_law 854 = .ok (.aload_n 1, 1) := by decide +kernel
theorem dL_law_855 : decode cL_law 855 = .ok (.aload_n 0, 1) := by decide +kernel
theorem dL_law_856 : decode cL_law 856 = .ok (.iload 4, 2) := by decide +kernel
theorem dL_law_858 : decode cL_law 858 = .ok (.iconst 1, 1) := by decide +kernel
theorem dL_law_859 : decode cL_law 859 = .ok (.iadd, 1) := by decide +kernel
theorem dL_law_860 : decode cL_law 860 = .ok (.iaload, 1) := by decide +kernel
theorem dL_law_861 : decode cL_law 861 = .ok (.aload_n 0, 1) := by decide +kernel
theorem dL_law_862 : decode cL_law 862 = .ok (.iload 4, 2) := by decide +kernel
theorem dL_law_864 : decode cL_law 864 = .ok (.iconst 2, 1) := by decide +kernel
theorem dL_law_865 : decode cL_law 865 = .ok (.iadd, 1) := by decide +kernel
theorem dL_law_866 : decode cL_law 866 = .ok (.iaload, 1) := by decide +kernel
theorem dL_law_867 : decode cL_law 867 = .ok (.invokevirtual 119, 3) := by decide +kernel
theorem dL_law_870 : decode cL_law 870 = .ok (.aload_n 2, 1) := by decide +kernel
theorem dL_law_871 : decode cL_law 871 = .ok (.aload_n 0, 1) := by decide +kernel
theorem dL_law_872 : decode cL_law 872 = .ok (.iload 4, 2) := by decide +kernel
theorem dL_law_874 : decode cL_law 874 = .ok (.iconst 1, 1) := by decide +kernel
theorem dL_law_875 : decode cL_law 875 = .ok (.iadd, 1) := by decide +kernel
theorem dL_law_876 : decode cL_law 876 = .ok (.iaload, 1) := by decide +kernel
theorem dL_law_877 : decode cL_law 877 = .ok (.aload_n 0, 1) := by decide +kernel
theorem dL_law_878 : decode cL_law 878 = .ok (.iload 4, 2) := by decide +kernel
theorem dL_law_880 : decode cL_law 880 = .ok (.iconst 2, 1) := by decide +kernel
theorem dL_law_881 : decode cL_law 881 = .ok (.iadd, 1) := by decide +kernel
theorem dL_law_882 : decode cL_law 882 = .ok (.iaload, 1) := by decide +kernel
theorem dL_law_883 : decode cL_law 883 = .ok (.invokevirtual 122, 3) := by decide +kernel
theorem dL_law_886 : decode cL_law 886 = .ok (.if_icmp .eq 231, 3) := by decide +kernel
theorem dL_law_889 : decode cL_law 889 = .ok (.iconst 0, 1) := by decide +kernel
theorem dL_law_890 : decode cL_law 890 = .ok (.ireturn, 1) := by decide +kernel
theorem dL_law_891 : decode cL_law 891 = .ok (.aload_n 1, 1) := by decide +kernel
theorem dL_law_892 : decode cL_law 892 = .ok (.invokevirtual 123, 3) := by decide +kernel
theorem dL_law_895 : decode cL_law 895 = .ok (.aload_n 2, 1) := by decide +kernel
theorem dL_law_896 : decode cL_law 896 = .ok (.invokevirtual 126, 3) := by decide +kernel
theorem dL_law_899 : decode cL_law 899 = .ok (.if_icmp .eq 218, 3) := by decide +kernel
theorem dL_law_902 : decode cL_law 902 = .ok (.iconst 0, 1) := by decide +kernel
theorem dL_law_903 : decode cL_law 903 = .ok (.ireturn, 1) := by decide +kernel
theorem dL_law_904 : decode cL_law 904 = .ok (.aload_n 1, 1) := by decide +kernel
theorem dL_law_905 : decode cL_law 905 = .ok (.aload_n 0, 1) := by decide +kernel
theorem dL_law_906 : decode cL_law 906 = .ok (.iload 4, 2) := by decide +kernel
theorem dL_law_908 : decode cL_law 908 = .ok (.iconst 1, 1) := by decide +kernel
theorem dL_law_909 : decode cL_law 909 = .ok (.iadd, 1) := by decide +kernel
theorem dL_law_910 : decode cL_law 910 = .ok (.iaload, 1) := by decide +kernel
theorem dL_law_911 : decode cL_law 911 = .ok (.invokevirtual 127, 3) := by decide +kernel
theorem dL_law_914 : decode cL_law 914 = .ok (.aload_n 2, 1) := by decide +kernel
theorem dL_law_915 : decode cL_law 915 = .ok (.aload_n 0, 1) := by decide +kernel
theorem dL_law_916 : decode cL_law 916 = .ok (.iload 4, 2) := by decide +kernel
theorem dL_law_918 : decode cL_law 918 = .ok (.iconst 1, 1) := by decide +kernel
theorem dL_law_919 : decode cL_law 919 = .ok (.iadd, 1) := by decide +kernel
theorem dL_law_920 : decode cL_law 920 = .ok (.iaload, 1) := by decide +kernel
theorem dL_law_921 : decode cL_law 921 = .ok (.invokevirtual 130, 3) := by decide +kernel
theorem dL_law_924 : decode cL_law 924 = .ok (.if_icmp .eq 193, 3) := by decide +kernel
theorem dL_law_927 : decode cL_law 927 = .ok (.iconst 0, 1) := by decide +kernel
theorem dL_law_928 : decode cL_law 928 = .ok (.ireturn, 1) := by decide +kernel
theorem dL_law_929 : decode cL_law 929 = .ok (.aload_n 1, 1) := by decide +kernel
theorem dL_law_930 : decode cL_law 930 = .ok (.aload_n 0, 1) := by decide +kernel
theorem dL_law_931 : decode cL_law 931 = .ok (.iload 4, 2) := by decide +kernel
theorem dL_law_933 : decode cL_law 933 = .ok (.iconst 1, 1) := by decide +kernel
theorem dL_law_934 : decode cL_law 934 = .ok (.iadd, 1) := by decide +kernel
theorem dL_law_935 : decode cL_law 935 = .ok (.iaload, 1) := by decide +kernel
theorem dL_law_936 : decode cL_law 936 = .ok (.invokevirtual 131, 3) := by decide +kernel
theorem dL_law_939 : decode cL_law 939 = .ok (.aload_n 2, 1) := by decide +kernel
theorem dL_law_940 : decode cL_law 940 = .ok (.aload_n 0, 1) := by decide +kernel
theorem dL_law_941 : decode cL_law 941 = .ok (.iload 4, 2) := by decide +kernel
theorem dL_law_943 : decode cL_law 943 = .ok (.iconst 1, 1) := by decide +kernel
theorem dL_law_944 : decode cL_law 944 = .ok (.iadd, 1) := by decide +kernel
theorem dL_law_945 : decode cL_law 945 = .ok (.iaload, 1) := by decide +kernel
theorem dL_law_946 : decode cL_law 946 = .ok (.invokevirtual 134, 3) := by decide +kernel
theorem dL_law_949 : decode cL_law 949 = .ok (.if_icmp .eq 168, 3) := by decide +kernel
theorem dL_law_952 : decode cL_law 952 = .ok (.iconst 0, 1) := by decide +kernel
theorem dL_law_953 : decode cL_law 953 = .ok (.ireturn, 1) := by decide +kernel
theorem dL_law_954 : decode cL_law 954 = .ok (.aload_n 1, 1) := by decide +kernel
theorem dL_law_955 : decode cL_law 955 = .ok (.invokevirtual 135, 3) := by decide +kernel
theorem dL_law_958 : decode cL_law 958 = .ok (.aload_n 2, 1) := by decide +kernel
theorem dL_law_959 : decode cL_law 959 = .ok (.invokevirtual 138, 3) := by decide +kernel
theorem dL_law_962 : decode cL_law 962 = .ok (.if_icmp .eq 155, 3) := by decide +kernel
theorem dL_law_965 : decode cL_law 965 = .ok (.iconst 0, 1) := by decide +kernel
theorem dL_law_966 : decode cL_law 966 = .ok (.ireturn, 1) := by decide +kernel
theorem dL_law_967 : decode cL_law 967 = .ok (.aload_n 1, 1) := by decide +kernel
theorem dL_law_968 : decode cL_law 968 = .ok (.aload_n 0, 1) := by decide +kernel
theorem dL_law_969 : decode cL_law 969 = .ok (.iload 4, 2) := by decide +kernel
theorem dL_law_971 : decode cL_law 971 = .ok (.iconst 1, 1) := by decide +kernel
theorem dL_law_972 : decode cL_law 972 = .ok (.iadd, 1) := by decide +kernel
theorem dL_law_973 : decode cL_law 973 = .ok (.iaload, 1) := by decide +kernel
theorem dL_law_974 : decode cL_law 974 = .ok (.aload_n 0, 1) := by decide +kernel
theorem dL_law_975 : decode cL_law 975 = .ok (.iload 4, 2) := by decide +kernel
theorem dL_law_977 : decode cL_law 977 = .ok (.iconst 2, 1) := by decide +kernel
theorem dL_law_978 : decode cL_law 978 = .ok (.iadd, 1) := by decide +kernel
theorem dL_law_979 : decode cL_law 979 = .ok (.iaload, 1) := by decide +kernel
theorem dL_law_980 : decode cL_law 980 = .ok (.invokevirtual 139, 3) := by decide +kernel
theorem dL_law_983 : decode cL_law 983 = .ok (.aload_n 2, 1) := by decide +kernel
theorem dL_law_984 : decode cL_law 984 = .ok (.aload_n 0, 1) := by decide +kernel
theorem dL_law_985 : decode cL_law 985 = .ok (.iload 4, 2) := by decide +kernel
theorem dL_law_987 : decode cL_law 987 = .ok (.iconst 1, 1) := by decide +kernel
theorem dL_law_988 : decode cL_law 988 = .ok (.iadd, 1) := by decide +kernel
theorem dL_law_989 : decode cL_law 989 = .ok (.iaload, 1) := by decide +kernel
theorem dL_law_990 : decode cL_law 990 = .ok (.aload_n 0, 1) := by decide +kernel
theorem dL_law_991 : decode cL_law 991 = .ok (.iload 4, 2) := by decide +kernel
theorem dL_law_993 : decode cL_law 993 = .ok (.iconst 2, 1) := by decide +kernel
theorem dL_law_994 : decode cL_law 994 = .ok (.iadd, 1) := by decide +kernel
theorem dL_law_995 : decode cL_law 995 = .ok (.iaload, 1) := by decide +kernel
theorem dL_law_996 : decode cL_law 996 = .ok (.invokevirtual 142, 3) := by decide +kernel
theorem dL_law_999 : decode cL_law 999 = .ok (.if_icmp .eq 118, 3) := by decide +kernel
theorem dL_law_1002 : decode cL_law 1002 = .ok (.iconst 0, 1) := by decide +kernel
theorem dL_law_1003 : decode cL_law 1003 = .ok (.ireturn, 1) := by decide +kernel
theorem dL_law_1004 : decode cL_law 1004 = .ok (.aload_n 1, 1) := by decide +kernel
theorem dL_law_1005 : decode cL_law 1005 = .ok (.aload_n 0, 1) := by decide +kernel
theorem dL_law_1006 : decode cL_law 1006 = .ok (.iload 4, 2) := by decide +kernel
theorem dL_law_1008 : decode cL_law 1008 = .ok (.iconst 1, 1) := by decide +kernel
theorem dL_law_1009 : decode cL_law 1009 = .ok (.iadd, 1) := by decide +kernel
theorem dL_law_1010 : decode cL_law 1010 = .ok (.iaload, 1) := by decide +kernel
theorem dL_law_1011 : decode cL_law 1011 = .ok (.invokevirtual 143, 3) := by decide +kernel
theorem dL_law_1014 : decode cL_law 1014 = .ok (.aload_n 2, 1) := by decide +kernel
theorem dL_law_1015 : decode cL_law 1015 = .ok (.aload_n 0, 1) := by decide +kernel
theorem dL_law_1016 : decode cL_law 1016 = .ok (.iload 4, 2) := by decide +kernel
theorem dL_law_1018 : decode cL_law 1018 = .ok (.iconst 1, 1) := by decide +kernel
theorem dL_law_1019 : decode cL_law 1019 = .ok (.iadd, 1) := by decide +kernel
theorem dL_law_1020 : decode cL_law 1020 = .ok (.iaload, 1) := by decide +kernel
theorem dL_law_1021 : decode cL_law 1021 = .ok (.invokevirtual 146, 3) := by decide +kernel
theorem dL_law_1024 : decode cL_law 1024 = .ok (.if_icmp .eq 93, 3) := by decide +kernel
theorem dL_law_1027 : decode cL_law 1027 = .ok (.iconst 0, 1) := by decide +kernel
theorem dL_law_1028 : decode cL_law 1028 = .ok (.ireturn, 1) := by decide +kernel
theorem dL_law_1029 : decode cL_law 1029 = .ok (.aload_n 1, 1) := by decide +kernel
theorem dL_law_1030 : decode cL_law 1030 = .ok (.aload_n 0, 1) := by decide +kernel
theorem dL_law_1031 : decode cL_law 1031 = .ok (.iload 4, 2) := by decide +kernel
theorem dL_law_1033 : decode cL_law 1033 = .ok (.iconst 1, 1) := by decide +kernel
theorem dL_law_1034 : decode cL_law 1034 = .ok (.iadd, 1) := by decide +kernel
theorem dL_law_1035 : decode cL_law 1035 = .ok (.iaload, 1) := by decide +kernel
theorem dL_law_1036 : decode cL_law 1036 = .ok (.invokevirtual 147, 3) := by decide +kernel
theorem dL_law_1039 : decode cL_law 1039 = .ok (.aload_n 2, 1) := by decide +kernel
theorem dL_law_1040 : decode cL_law 1040 = .ok (.aload_n 0, 1) := by decide +kernel
theorem dL_law_1041 : decode cL_law 1041 = .ok (.iload 4, 2) := by decide +kernel
theorem dL_law_1043 : decode cL_law 1043 = .ok (.iconst 1, 1) := by decide +kernel
theorem dL_law_1044 : decode cL_law 1044 = .ok (.iadd, 1) := by decide +kernel
theorem dL_law_1045 : decode cL_law 1045 = .ok (.iaload, 1) := by decide +kernel
theorem dL_law_1046 : decode cL_law 1046 = .ok (.invokevirtual 150, 3) := by decide +kernel
theorem dL_law_1049 : decode cL_law 1049 = .ok (.if_icmp .eq 68, 3) := by decide +kernel
theorem dL_law_1052 : decode cL_law 1052 = .ok (.iconst 0, 1) := by decide +kernel
theorem dL_law_1053 : decode cL_law 1053 = .ok (.ireturn, 1) := by decide +kernel
theorem dL_law_1054 : decode cL_law 1054 = .ok (.aload_n 1, 1) := by decide +kernel
theorem dL_law_1055 : decode cL_law 1055 = .ok (.invokevirtual 151, 3) := by decide +kernel
theorem dL_law_1058 : decode cL_law 1058 = .ok (.aload_n 2, 1) := by decide +kernel
theorem dL_law_1059 : decode cL_law 1059 = .ok (.invokevirtual 154, 3) := by decide +kernel
theorem dL_law_1062 : decode cL_law 1062 = .ok (.if_icmp .eq 55, 3) := by decide +kernel
theorem dL_law_1065 : decode cL_law 1065 = .ok (.iconst 0, 1) := by decide +kernel
theorem dL_law_1066 : decode cL_law 1066 = .ok (.ireturn, 1) := by decide +kernel
theorem dL_law_1067 : decode cL_law 1067 = .ok (.aload_n 1, 1) := by decide +kernel
theorem dL_law_1068 : decode cL_law 1068 = .ok (.aload_n 0, 1) := by decide +kernel
theorem dL_law_1069 : decode cL_law 1069 = .ok (.iload 4, 2) := by decide +kernel
theorem dL_law_1071 : decode cL_law 1071 = .ok (.iconst 1, 1) := by decide +kernel
theorem dL_law_1072 : decode cL_law 1072 = .ok (.iadd, 1) := by decide +kernel
theorem dL_law_1073 : decode cL_law 1073 = .ok (.iaload, 1) := by decide +kernel
theorem dL_law_1074 : decode cL_law 1074 = .ok (.invokevirtual 155, 3) := by decide +kernel
theorem dL_law_1077 : decode cL_law 1077 = .ok (.aload_n 2, 1) := by decide +kernel
theorem dL_law_1078 : decode cL_law 1078 = .ok (.aload_n 0, 1) := by decide +kernel
theorem dL_law_1079 : decode cL_law 1079 = .ok (.iload 4, 2) := by decide +kernel
theorem dL_law_1081 : decode cL_law 1081 = .ok (.iconst 1, 1) := by decide +kernel
theorem dL_law_1082 : decode cL_law 1082 = .ok (.iadd, 1) := by decide +kernel
theorem dL_law_1083 : decode cL_law 1083 = .ok (.iaload, 1) := by decide +kernel
theorem dL_law_1084 : decode cL_law 1084 = .ok (.invokevirtual 158, 3) := by decide +kernel
theorem dL_law_1087 : decode cL_law 1087 = .ok (.if_icmp .eq 30, 3) := by decide +kernel
theorem dL_law_1090 : decode cL_law 1090 = .ok (.iconst 0, 1) := by decide +kernel
theorem dL_law_1091 : decode cL_law 1091 = .ok (.ireturn, 1) := by decide +kernel
theorem dL_law_1092 : decode cL_law 1092 = .ok (.aload_n 1, 1) := by decide +kernel
theorem dL_law_1093 : decode cL_law 1093 = .ok (.aload_n 0, 1) := by decide +kernel
theorem dL_law_1094 : decode cL_law 1094 = .ok (.iload 4, 2) := by decide +kernel
theorem dL_law_1096 : decode cL_law 1096 = .ok (.iconst 1, 1) := by decide +kernel
theorem dL_law_1097 : decode cL_law 1097 = .ok (.iadd, 1) := by decide +kernel
theorem dL_law_1098 : decode cL_law 1098 = .ok (.iaload, 1) := by decide +kernel
theorem dL_law_1099 : decode cL_law 1099 = .ok (.invokevirtual 159, 3) := by decide +kernel
theorem dL_law_1102 : decode cL_law 1102 = .ok (.aload_n 2, 1) := by decide +kernel
theorem dL_law_1103 : decode cL_law 1103 = .ok (.aload_n 0, 1) := by decide +kernel
theorem dL_law_1104 : decode cL_law 1104 = .ok (.iload 4, 2) := by decide +kernel
theorem dL_law_1106 : decode cL_law 1106 = .ok (.iconst 1, 1) := by decide +kernel
theorem dL_law_1107 : decode cL_law 1107 = .ok (.iadd, 1) := by decide +kernel
theorem dL_law_1108 : decode cL_law 1108 = .ok (.iaload, 1) := by decide +kernel
theorem dL_law_1109 : decode cL_law 1109 = .ok (.invokevirtual 162, 3) := by decide +kernel
theorem dL_law_1112 : decode cL_law 1112 = .ok (.if_icmp .eq 5, 3) := by decide +kernel
theorem dL_law_1115 : decode cL_law 1115 = .ok (.iconst 0, 1) := by decide +kernel
theorem dL_law_1116 : decode cL_law 1116 = .ok (.ireturn, 1) := by decide +kernel
theorem dL_law_1117 : decode cL_law 1117 = .ok (.iinc 4 4, 3) := by decide +kernel
theorem dL_law_1120 : decode cL_law 1120 = .ok (.goto (-1097), 3) := by decide +kernel
theorem dL_law_1123 : decode cL_law 1123 = .ok (.iconst 1, 1) := by decide +kernel
theorem dL_law_1124 : decode cL_law 1124 = .ok (.ireturn, 1) := by decide +kernel
end
section
/-! all words of the tables that stay, in one list -/
def UU : List Cond := lw_tbl.filter goodWord
theorem uu_of {w : Cond} (h : w ∈ lw_tbl) (g : goodWord w = true) : w ∈ UU := List.mem_filter.mpr ⟨h, g⟩
theorem uu_good : GoodIn UU UU := fun w h => ⟨h, good_of_word (List.mem_filter.mp h).2⟩
theorem uu_lw {w : Cond} (h : w ∈ UU) : w ∈ lw_tbl := (List.mem_filter.mp h).1
theorem uu_0 {w : Cond} {i : Nat} (h : (k2_sels lw_privs)[i]? = some w) (g : goodWord w = true) : w ∈ UU := uu_of (List.mem_append_left _ (List.mem_of_getElem? h)) g
theorem uu_t {w : Cond} (h : w ∈ tables_1) (g : goodWord w = true) : w ∈ UU := uu_of (List.mem_append_right _ h) g
theorem uu_1 {w : Cond} {i : Nat} (h : tables_1_1[i]? = some w) (g : goodWord w = true) : w ∈ UU := uu_t (List.mem_append_left _ (List.mem_of_getElem? h)) g
theorem uu_2 {w : Cond} {i : Nat} (h : tables_1_2[i]? = some w) (g : goodWord w = true) : w ∈ UU := uu_t (List.mem_append_right _ (List.mem_append_left _ (List.mem_of_getElem? h))) g
theorem uu_3 {w : Cond} {i : Nat} (h : tables_1_3[i]? = some w) (g : goodWord w = true) : w ∈ UU := uu_t (List.mem_append_right _ (List.mem_append_right _ (List.mem_append_left _ (List.mem_of_getElem? h)))) g
theorem uu_4 {w : Cond} {i : Nat} (h : tables_1_4[i]? = some w) (g : goodWord w = true) : w ∈ UU := uu_t (List.mem_append_right _ (List.mem_append_right _ (List.mem_append_right _ (List.mem_append_left _ (List.mem_of_getElem? h))))) g
theorem uu_5 {w : Cond} {i : Nat} (h : tables_1_5[i]? = some w) (g : goodWord w = true) : w ∈ UU := uu_t (List.mem_append_right _ (List.mem_append_right _ (List.mem_append_right _ (List.mem_append_right _ (List.mem_of_getElem? h))))) g
/-! a frame's fixed things, in one name: p l e R s m args below meth c Q A D nL -/
abbrev FX : Type := Program × Launch × Env × Room × State × MethodId × Array Value × List Frame × Method × Code × (State → Prop) × (Nat → Prop) × va_G × Nat
abbrev fx_p (F : FX) : Program := F.1
abbrev fx_l (F : FX) : Launch := F.2.1
abbrev fx_e (F : FX) : Env := F.2.2.1
abbrev fx_R (F : FX) : Room := F.2.2.2.1
abbrev fx_s (F : FX) : State := F.2.2.2.2.1
abbrev fx_m (F : FX) : MethodId := F.2.2.2.2.2.1
abbrev fx_a (F : FX) : Array Value := F.2.2.2.2.2.2.1
abbrev fx_b (F : FX) : List Frame := F.2.2.2.2.2.2.2.1
abbrev fx_M (F : FX) : Method := F.2.2.2.2.2.2.2.2.1
abbrev fx_c (F : FX) : Code := F.2.2.2.2.2.2.2.2.2.1
abbrev fx_Q (F : FX) : State → Prop := F.2.2.2.2.2.2.2.2.2.2.1
abbrev fx_A (F : FX) : Nat → Prop := F.2.2.2.2.2.2.2.2.2.2.2.1
abbrev fx_D (F : FX) : va_G := F.2.2.2.2.2.2.2.2.2.2.2.2.1
abbrev fx_n (F : FX) : Nat := F.2.2.2.2.2.2.2.2.2.2.2.2.2
/-- the machine at pc, with locals lv and stack st, over a heap that holds the world wd, comes to the frame's end -/
def XW (F : FX) (k n : Nat) (wd : va_W) (lv : List (Nat × Value)) (pc : Nat) (st : List Value) : Prop :=
  ∀ (H : Heap) (locs : List Loc) (ls : Array Slot), va_P (fx_D F) vwCl wd H → va_D (fx_A F) wd → va_S (fx_A F) (fx_s F).heap H locs → lv_has ls (fx_n F) lv →
    W (fx_p F) (fx_l F) (fx_e F) (fx_R F) (fx_s F) (fx_m F) (fx_a F) (fx_b F) (fx_M F) (fx_c F) H locs k n (fx_Q F) (F0 (fx_m F) pc ls st)
/-- what is known of a frame -/
def FC (F : FX) (cc : ByteArray) (own : String) (tys : List (ClassId × FieldType)) : Prop :=
  (fx_p F).tables.exec = Jvm.exec ∧ (fx_c F).code = cc ∧ (fx_c F).maxLocals = fx_n F ∧ (fx_s F).vm.findClass own = some (fx_m F).cls ∧ (∀ w ∈ UU, w.before (fx_a F) (fx_s F) = true) ∧ va_K (fx_D F) vwCl tys (fx_s F) ∧ (∀ q : Nat, (fx_s F).heap.size ≤ q → fx_A F q) ∧ (fx_M F).locks = false
/-- the room of a method that calls k deep -/
def rmL (k : Nat) : Room := { frames := k, cells := 0, slots := 0, locals := 40 * k }
def bz (b : Bool) : Int32 := if b then 1 else 0
def zI (z : Int) : Int32 := Int32.ofInt z
theorem bz_true : bz true = 1 := rfl
theorem bz_false : bz false = 0 := rfl
theorem bz_eq0 {b : Bool} : bz b = 0 ↔ b = false := by cases b <;> decide
theorem bz_eq1 {b : Bool} : bz b = 1 ↔ b = true := by cases b <;> decide
theorem bz_n (b : Bool) : narrow .boolean (.int (bz b)) = .int (bz b) := by cases b <;> rfl
theorem bz_f (b : Bool) : fits .boolean (.int (bz b)) = true := by cases b <;> rfl
theorem bz_v (b : Bool) : vp_nar .boolean (bz b) = bz b := by cases b <;> rfl
section Rules
variable {F : FX} {cc : ByteArray} {own : String} {tys : List (ClassId × FieldType)} {k n : Nat} {wd : va_W} {lv : List (Nat × Value)} {pc : Nat} {st : List Value}
theorem x_lv (ks : List Nat) {lv' : List (Nat × Value)} (h : lv_pick lv ks = lv') (g : XW F k n wd lv' pc st) : XW F k n wd lv pc st := fun H L ls hP hD hS hl => g H L ls hP hD hS (lv_sub hl ks h)
theorem x_wd {wd' : va_W} (h : wd = wd') (g : XW F k n wd' lv pc st) : XW F k n wd lv pc st := h ▸ g
theorem x_st {st' : List Value} (h : st = st') (g : XW F k n wd lv pc st') : XW F k n wd lv pc st := h ▸ g
theorem x_le {lv' : List (Nat × Value)} (h : lv = lv') (g : XW F k n wd lv' pc st) : XW F k n wd lv pc st := h ▸ g
theorem x_top {x y : Int32} (h : x = y) (g : XW F k n wd lv pc (.int y :: st)) : XW F k n wd lv pc (.int x :: st) := h ▸ g
theorem x_topl {x y : Int64} (h : x = y) (g : XW F k n wd lv pc (.long y :: st)) : XW F k n wd lv pc (.long x :: st) := h ▸ g
theorem x_widen {k' n' : Nat} (h1 : k ≤ k') (h2 : n ≤ n') (g : XW F k' n' wd lv pc st) : XW F k n wd lv pc st := fun H L ls hP hD hS hl => W.widen h1 h2 (g H L ls hP hD hS hl)
theorem x_iconst (h : FC F cc own tys) {z : Int} {v : Int32} (d : decode cc pc = .ok (.iconst z, 1)) (hv : Int32.ofInt z = v) (g : XW F k n wd lv (pc + 1) (.int v :: st)) : XW F k n wd lv pc st := fun H L ls hP hD hS hl => lv_iconst h.1 h.2.1 d hv (g H L ls hP hD hS hl)
theorem x_bipush (h : FC F cc own tys) {z : Int} {v : Int32} (d : decode cc pc = .ok (.bipush z, 2)) (hv : (Int8.ofInt z).toInt32 = v) (g : XW F k n wd lv (pc + 2) (.int v :: st)) : XW F k n wd lv pc st := fun H L ls hP hD hS hl => lv_bipush h.1 h.2.1 d hv (g H L ls hP hD hS hl)
theorem x_sipush (h : FC F cc own tys) {z : Int} {v : Int32} (d : decode cc pc = .ok (.sipush z, 3)) (hv : (Int16.ofInt z).toInt32 = v) (g : XW F k n wd lv (pc + 3) (.int v :: st)) : XW F k n wd lv pc st := fun H L ls hP hD hS hl => lv_sipush h.1 h.2.1 d hv (g H L ls hP hD hS hl)
theorem x_lconst (h : FC F cc own tys) {z : Fin 2} {v : Int64} (d : decode cc pc = .ok (.lconst z, 1)) (hv : Int64.ofNat (z : Nat) = v) (g : XW F k n wd lv (pc + 1) (.long v :: st)) : XW F k n wd lv pc st := fun H L ls hP hD hS hl => lv_lconst h.1 h.2.1 d hv (g H L ls hP hD hS hl)
theorem x_ldc (h : FC F cc own tys) {i : Nat} {v : Int32} (hc : Cond.constant own i v ∈ UU) (d : decode cc pc = .ok (.ldc i, 2)) (g : XW F k n wd lv (pc + 2) (.int v :: st)) : XW F k n wd lv pc st := fun H L ls hP hD hS hl => lv_ldc h.1 h.2.1 h.2.2.2.1 (h.2.2.2.2.1 _ hc) d (g H L ls hP hD hS hl)
theorem x_ldcw (h : FC F cc own tys) {i : Nat} {v : Int32} (hc : Cond.constant own i v ∈ UU) (d : decode cc pc = .ok (.ldc_w i, 3)) (g : XW F k n wd lv (pc + 3) (.int v :: st)) : XW F k n wd lv pc st := fun H L ls hP hD hS hl => lv_ldcw h.1 h.2.1 h.2.2.2.1 (h.2.2.2.2.1 _ hc) d (g H L ls hP hD hS hl)
theorem x_ldc2 (h : FC F cc own tys) {i : Nat} {v : Int64} (hc : Cond.constantLong own i v ∈ UU) (d : decode cc pc = .ok (.ldc2_w i, 3)) (g : XW F k n wd lv (pc + 3) (.long v :: st)) : XW F k n wd lv pc st := fun H L ls hP hD hS hl => lv_ldc2 h.1 h.2.1 h.2.2.2.1 (h.2.2.2.2.1 _ hc) d (g H L ls hP hD hS hl)
theorem x_iload (h : FC F cc own tys) {i : Nat} (q : Nat) {x : Int32} (hq : lv[q]? = some (i, .int x)) (d : decode cc pc = .ok (.iload i, 2)) (g : XW F k n wd lv (pc + 2) (.int x :: st)) : XW F k n wd lv pc st := fun H L ls hP hD hS hl => lv_iload h.1 h.2.1 d (lv_at hl q hq) (g H L ls hP hD hS hl)
theorem x_iload_n (h : FC F cc own tys) {i : Fin 4} (q : Nat) {x : Int32} (hq : lv[q]? = some (i.val, .int x)) (d : decode cc pc = .ok (.iload_n i, 1)) (g : XW F k n wd lv (pc + 1) (.int x :: st)) : XW F k n wd lv pc st := fun H L ls hP hD hS hl => lv_iload_n h.1 h.2.1 d rfl (lv_at hl q hq) (g H L ls hP hD hS hl)
theorem x_lload (h : FC F cc own tys) {i : Nat} (q : Nat) {x : Int64} (hq : lv[q]? = some (i, .long x)) (d : decode cc pc = .ok (.lload i, 2)) (g : XW F k n wd lv (pc + 2) (.long x :: st)) : XW F k n wd lv pc st := fun H L ls hP hD hS hl => lv_lload h.1 h.2.1 d (lv_at hl q hq) (g H L ls hP hD hS hl)
theorem x_lload_n (h : FC F cc own tys) {i : Fin 4} (q : Nat) {x : Int64} (hq : lv[q]? = some (i.val, .long x)) (d : decode cc pc = .ok (.lload_n i, 1)) (g : XW F k n wd lv (pc + 1) (.long x :: st)) : XW F k n wd lv pc st := fun H L ls hP hD hS hl => lv_lload_n h.1 h.2.1 d rfl (lv_at hl q hq) (g H L ls hP hD hS hl)
theorem x_aload (h : FC F cc own tys) {i : Nat} (q : Nat) {x : Nat} (hq : lv[q]? = some (i, .ref x)) (d : decode cc pc = .ok (.aload i, 2)) (g : XW F k n wd lv (pc + 2) (.ref x :: st)) : XW F k n wd lv pc st := fun H L ls hP hD hS hl => lv_aload h.1 h.2.1 d (lv_at hl q hq) (g H L ls hP hD hS hl)
theorem x_aload_n (h : FC F cc own tys) {i : Fin 4} (q : Nat) {x : Nat} (hq : lv[q]? = some (i.val, .ref x)) (d : decode cc pc = .ok (.aload_n i, 1)) (g : XW F k n wd lv (pc + 1) (.ref x :: st)) : XW F k n wd lv pc st := fun H L ls hP hD hS hl => lv_aload_n h.1 h.2.1 d rfl (lv_at hl q hq) (g H L ls hP hD hS hl)
theorem x_istore (h : FC F cc own tys) {i : Nat} {x : Int32} (lv' : List (Nat × Value)) (hl' : (i, Value.int x) :: lv.filter (fun q => !(q.1 == i) && !(q.1 + 1 == i && q.2.category == 2)) = lv') (hi : i < fx_n F) (d : decode cc pc = .ok (.istore i, 2)) (g : XW F k n wd lv' (pc + 2) st) : XW F k n wd lv pc (.int x :: st) := fun H L ls hP hD hS hl => lv_istore h.1 h.2.1 d hl hi hl' (fun ls' hl2 => g H L ls' hP hD hS hl2)
theorem x_istore_n (h : FC F cc own tys) {i : Fin 4} {x : Int32} (lv' : List (Nat × Value)) (hl' : (i.val, Value.int x) :: lv.filter (fun q => !(q.1 == i.val) && !(q.1 + 1 == i.val && q.2.category == 2)) = lv') (hi : i.val < fx_n F) (d : decode cc pc = .ok (.istore_n i, 1)) (g : XW F k n wd lv' (pc + 1) st) : XW F k n wd lv pc (.int x :: st) := fun H L ls hP hD hS hl => lv_istore_n h.1 h.2.1 d rfl hl hi hl' (fun ls' hl2 => g H L ls' hP hD hS hl2)
theorem x_lstore (h : FC F cc own tys) {i : Nat} {x : Int64} (lv' : List (Nat × Value)) (hl' : (i, Value.long x) :: lv.filter (fun q => !(q.1 == i) && (!(q.1 == i + 1) && !(q.1 + 1 == i && q.2.category == 2))) = lv') (hi : i + 1 < fx_n F) (d : decode cc pc = .ok (.lstore i, 2)) (g : XW F k n wd lv' (pc + 2) st) : XW F k n wd lv pc (.long x :: st) := fun H L ls hP hD hS hl => lv_lstore h.1 h.2.1 d hl hi hl' (fun ls' hl2 => g H L ls' hP hD hS hl2)
theorem x_lstore_n (h : FC F cc own tys) {i : Fin 4} {x : Int64} (lv' : List (Nat × Value)) (hl' : (i.val, Value.long x) :: lv.filter (fun q => !(q.1 == i.val) && (!(q.1 == i.val + 1) && !(q.1 + 1 == i.val && q.2.category == 2))) = lv') (hi : i.val + 1 < fx_n F) (d : decode cc pc = .ok (.lstore_n i, 1)) (g : XW F k n wd lv' (pc + 1) st) : XW F k n wd lv pc (.long x :: st) := fun H L ls hP hD hS hl => lv_lstore_n h.1 h.2.1 d rfl hl hi hl' (fun ls' hl2 => g H L ls' hP hD hS hl2)
theorem x_astore (h : FC F cc own tys) {i : Nat} {x : Nat} (lv' : List (Nat × Value)) (hl' : (i, Value.ref x) :: lv.filter (fun q => !(q.1 == i) && !(q.1 + 1 == i && q.2.category == 2)) = lv') (hi : i < fx_n F) (d : decode cc pc = .ok (.astore i, 2)) (g : XW F k n wd lv' (pc + 2) st) : XW F k n wd lv pc (.ref x :: st) := fun H L ls hP hD hS hl => lv_astore h.1 h.2.1 d hl hi hl' (fun ls' hl2 => g H L ls' hP hD hS hl2)
theorem x_astore_n (h : FC F cc own tys) {i : Fin 4} {x : Nat} (lv' : List (Nat × Value)) (hl' : (i.val, Value.ref x) :: lv.filter (fun q => !(q.1 == i.val) && !(q.1 + 1 == i.val && q.2.category == 2)) = lv') (hi : i.val < fx_n F) (d : decode cc pc = .ok (.astore_n i, 1)) (g : XW F k n wd lv' (pc + 1) st) : XW F k n wd lv pc (.ref x :: st) := fun H L ls hP hD hS hl => lv_astore_n h.1 h.2.1 d rfl hl hi hl' (fun ls' hl2 => g H L ls' hP hD hS hl2)
theorem x_iinc (h : FC F cc own tys) {i : Nat} {z : Int} {x v : Int32} (q : Nat) (hq : lv[q]? = some (i, .int x)) (hv : x + Int32.ofInt z = v) (lv' : List (Nat × Value)) (hl' : (i, Value.int v) :: lv.filter (fun q => !(q.1 == i) && !(q.1 + 1 == i && q.2.category == 2)) = lv') (hi : i < fx_n F) (d : decode cc pc = .ok (.iinc i z, 3)) (g : XW F k n wd lv' (pc + 3) st) : XW F k n wd lv pc st := fun H L ls hP hD hS hl => lv_iinc h.1 h.2.1 d hl hq hv hi hl' (fun ls' hl2 => g H L ls' hP hD hS hl2)
theorem x_iadd (h : FC F cc own tys) {x y : Int32} (d : decode cc pc = .ok (.iadd, 1)) (g : XW F k n wd lv (pc + 1) (.int (x + y) :: st)) : XW F k n wd lv pc (.int y :: .int x :: st) := fun H L ls hP hD hS hl => lv_iadd h.1 h.2.1 d (g H L ls hP hD hS hl)
theorem x_iaddE (h : FC F cc own tys) {x y z : Int32} (e : x + y = z) (d : decode cc pc = .ok (.iadd, 1)) (g : XW F k n wd lv (pc + 1) (.int z :: st)) : XW F k n wd lv pc (.int y :: .int x :: st) := x_iadd h d (e ▸ g)
theorem x_isub (h : FC F cc own tys) {x y : Int32} (d : decode cc pc = .ok (.isub, 1)) (g : XW F k n wd lv (pc + 1) (.int (x - y) :: st)) : XW F k n wd lv pc (.int y :: .int x :: st) := fun H L ls hP hD hS hl => lv_isub h.1 h.2.1 d (g H L ls hP hD hS hl)
theorem x_isubE (h : FC F cc own tys) {x y z : Int32} (e : x - y = z) (d : decode cc pc = .ok (.isub, 1)) (g : XW F k n wd lv (pc + 1) (.int z :: st)) : XW F k n wd lv pc (.int y :: .int x :: st) := x_isub h d (e ▸ g)
theorem x_imul (h : FC F cc own tys) {x y : Int32} (d : decode cc pc = .ok (.imul, 1)) (g : XW F k n wd lv (pc + 1) (.int (x * y) :: st)) : XW F k n wd lv pc (.int y :: .int x :: st) := fun H L ls hP hD hS hl => lv_imul h.1 h.2.1 d (g H L ls hP hD hS hl)
theorem x_imulE (h : FC F cc own tys) {x y z : Int32} (e : x * y = z) (d : decode cc pc = .ok (.imul, 1)) (g : XW F k n wd lv (pc + 1) (.int z :: st)) : XW F k n wd lv pc (.int y :: .int x :: st) := x_imul h d (e ▸ g)
theorem x_iand (h : FC F cc own tys) {x y : Int32} (d : decode cc pc = .ok (.iand, 1)) (g : XW F k n wd lv (pc + 1) (.int (x &&& y) :: st)) : XW F k n wd lv pc (.int y :: .int x :: st) := fun H L ls hP hD hS hl => lv_iand h.1 h.2.1 d (g H L ls hP hD hS hl)
theorem x_iandE (h : FC F cc own tys) {x y z : Int32} (e : x &&& y = z) (d : decode cc pc = .ok (.iand, 1)) (g : XW F k n wd lv (pc + 1) (.int z :: st)) : XW F k n wd lv pc (.int y :: .int x :: st) := x_iand h d (e ▸ g)
theorem x_ior (h : FC F cc own tys) {x y : Int32} (d : decode cc pc = .ok (.ior, 1)) (g : XW F k n wd lv (pc + 1) (.int (x ||| y) :: st)) : XW F k n wd lv pc (.int y :: .int x :: st) := fun H L ls hP hD hS hl => lv_ior h.1 h.2.1 d (g H L ls hP hD hS hl)
theorem x_iorE (h : FC F cc own tys) {x y z : Int32} (e : x ||| y = z) (d : decode cc pc = .ok (.ior, 1)) (g : XW F k n wd lv (pc + 1) (.int z :: st)) : XW F k n wd lv pc (.int y :: .int x :: st) := x_ior h d (e ▸ g)
theorem x_ixor (h : FC F cc own tys) {x y : Int32} (d : decode cc pc = .ok (.ixor, 1)) (g : XW F k n wd lv (pc + 1) (.int (x ^^^ y) :: st)) : XW F k n wd lv pc (.int y :: .int x :: st) := fun H L ls hP hD hS hl => lv_ixor h.1 h.2.1 d (g H L ls hP hD hS hl)
theorem x_ixorE (h : FC F cc own tys) {x y z : Int32} (e : x ^^^ y = z) (d : decode cc pc = .ok (.ixor, 1)) (g : XW F k n wd lv (pc + 1) (.int z :: st)) : XW F k n wd lv pc (.int y :: .int x :: st) := x_ixor h d (e ▸ g)
theorem x_ishl (h : FC F cc own tys) {x y : Int32} (d : decode cc pc = .ok (.ishl, 1)) (g : XW F k n wd lv (pc + 1) (.int (x <<< (y &&& 31)) :: st)) : XW F k n wd lv pc (.int y :: .int x :: st) := fun H L ls hP hD hS hl => lv_ishl h.1 h.2.1 d (g H L ls hP hD hS hl)
theorem x_ishlE (h : FC F cc own tys) {x y z : Int32} (e : x <<< (y &&& 31) = z) (d : decode cc pc = .ok (.ishl, 1)) (g : XW F k n wd lv (pc + 1) (.int z :: st)) : XW F k n wd lv pc (.int y :: .int x :: st) := x_ishl h d (e ▸ g)
theorem x_ishr (h : FC F cc own tys) {x y : Int32} (d : decode cc pc = .ok (.ishr, 1)) (g : XW F k n wd lv (pc + 1) (.int (x >>> (y &&& 31)) :: st)) : XW F k n wd lv pc (.int y :: .int x :: st) := fun H L ls hP hD hS hl => lv_ishr h.1 h.2.1 d (g H L ls hP hD hS hl)
theorem x_ishrE (h : FC F cc own tys) {x y z : Int32} (e : x >>> (y &&& 31) = z) (d : decode cc pc = .ok (.ishr, 1)) (g : XW F k n wd lv (pc + 1) (.int z :: st)) : XW F k n wd lv pc (.int y :: .int x :: st) := x_ishr h d (e ▸ g)
theorem x_iushr (h : FC F cc own tys) {x y v : Int32} (hv : (x.toUInt32 >>> (y.toUInt32 &&& Int32.toUInt32 31)).toInt32 = v) (d : decode cc pc = .ok (.iushr, 1)) (g : XW F k n wd lv (pc + 1) (.int v :: st)) : XW F k n wd lv pc (.int y :: .int x :: st) := fun H L ls hP hD hS hl => lv_iushr h.1 h.2.1 d hv (g H L ls hP hD hS hl)
theorem x_idivE (h : FC F cc own tys) {x y z : Int32} (hne : ¬ y = 0) (e : x / y = z) (d : decode cc pc = .ok (.idiv, 1)) (g : XW F k n wd lv (pc + 1) (.int z :: st)) : XW F k n wd lv pc (.int y :: .int x :: st) := fun H L ls hP hD hS hl => lv_idiv h.1 h.2.1 d hne ((e ▸ g : XW F k n wd lv (pc + 1) (.int (x / y) :: st)) H L ls hP hD hS hl)
theorem x_iremE (h : FC F cc own tys) {x y z : Int32} (hne : ¬ y = 0) (e : x - x / y * y = z) (d : decode cc pc = .ok (.irem, 1)) (g : XW F k n wd lv (pc + 1) (.int z :: st)) : XW F k n wd lv pc (.int y :: .int x :: st) := fun H L ls hP hD hS hl => lv_irem h.1 h.2.1 d hne ((e ▸ g : XW F k n wd lv (pc + 1) (.int (x - x / y * y) :: st)) H L ls hP hD hS hl)
theorem x_ineg (h : FC F cc own tys) {x : Int32} (d : decode cc pc = .ok (.ineg, 1)) (g : XW F k n wd lv (pc + 1) (.int (-x) :: st)) : XW F k n wd lv pc (.int x :: st) := fun H L ls hP hD hS hl => lv_ineg h.1 h.2.1 d (g H L ls hP hD hS hl)
theorem x_inegE (h : FC F cc own tys) {x z : Int32} (e : -x = z) (d : decode cc pc = .ok (.ineg, 1)) (g : XW F k n wd lv (pc + 1) (.int z :: st)) : XW F k n wd lv pc (.int x :: st) := x_ineg h d (e ▸ g)
theorem x_ladd (h : FC F cc own tys) {x y : Int64} (d : decode cc pc = .ok (.ladd, 1)) (g : XW F k n wd lv (pc + 1) (.long (x + y) :: st)) : XW F k n wd lv pc (.long y :: .long x :: st) := fun H L ls hP hD hS hl => lv_ladd h.1 h.2.1 d (g H L ls hP hD hS hl)
theorem x_laddE (h : FC F cc own tys) {x y z : Int64} (e : x + y = z) (d : decode cc pc = .ok (.ladd, 1)) (g : XW F k n wd lv (pc + 1) (.long z :: st)) : XW F k n wd lv pc (.long y :: .long x :: st) := x_ladd h d (e ▸ g)
theorem x_lsub (h : FC F cc own tys) {x y : Int64} (d : decode cc pc = .ok (.lsub, 1)) (g : XW F k n wd lv (pc + 1) (.long (x - y) :: st)) : XW F k n wd lv pc (.long y :: .long x :: st) := fun H L ls hP hD hS hl => lv_lsub h.1 h.2.1 d (g H L ls hP hD hS hl)
theorem x_lsubE (h : FC F cc own tys) {x y z : Int64} (e : x - y = z) (d : decode cc pc = .ok (.lsub, 1)) (g : XW F k n wd lv (pc + 1) (.long z :: st)) : XW F k n wd lv pc (.long y :: .long x :: st) := x_lsub h d (e ▸ g)
theorem x_lmul (h : FC F cc own tys) {x y : Int64} (d : decode cc pc = .ok (.lmul, 1)) (g : XW F k n wd lv (pc + 1) (.long (x * y) :: st)) : XW F k n wd lv pc (.long y :: .long x :: st) := fun H L ls hP hD hS hl => lv_lmul h.1 h.2.1 d (g H L ls hP hD hS hl)
theorem x_lmulE (h : FC F cc own tys) {x y z : Int64} (e : x * y = z) (d : decode cc pc = .ok (.lmul, 1)) (g : XW F k n wd lv (pc + 1) (.long z :: st)) : XW F k n wd lv pc (.long y :: .long x :: st) := x_lmul h d (e ▸ g)
theorem x_lshl (h : FC F cc own tys) {x v : Int64} {y : Int32} (hv : x <<< (y.toInt64 &&& 63) = v) (d : decode cc pc = .ok (.lshl, 1)) (g : XW F k n wd lv (pc + 1) (.long v :: st)) : XW F k n wd lv pc (.int y :: .long x :: st) := fun H L ls hP hD hS hl => lv_lshl h.1 h.2.1 d hv (g H L ls hP hD hS hl)
theorem x_lcmp (h : FC F cc own tys) {x y : Int64} (d : decode cc pc = .ok (.lcmp, 1)) (g : XW F k n wd lv (pc + 1) (.int (lg_cmp x y) :: st)) : XW F k n wd lv pc (.long y :: .long x :: st) := fun H L ls hP hD hS hl => W.lcmp h.1 h.2.1 d (g H L ls hP hD hS hl)
theorem x_i2l (h : FC F cc own tys) {x : Int32} {v : Int64} (hv : x.toInt64 = v) (d : decode cc pc = .ok (.i2l, 1)) (g : XW F k n wd lv (pc + 1) (.long v :: st)) : XW F k n wd lv pc (.int x :: st) := fun H L ls hP hD hS hl => lv_i2l h.1 h.2.1 d hv (g H L ls hP hD hS hl)
theorem x_dup (h : FC F cc own tys) {v : Value} (hv : v.category = 1) (d : decode cc pc = .ok (.dup, 1)) (g : XW F k n wd lv (pc + 1) (v :: v :: st)) : XW F k n wd lv pc (v :: st) := fun H L ls hP hD hS hl => lv_dup h.1 h.2.1 d hv (g H L ls hP hD hS hl)
theorem x_pop (h : FC F cc own tys) {v : Value} (hv : v.category = 1) (d : decode cc pc = .ok (.pop, 1)) (g : XW F k n wd lv (pc + 1) st) : XW F k n wd lv pc (v :: st) := fun H L ls hP hD hS hl => lv_pop h.1 h.2.1 d hv (g H L ls hP hD hS hl)
theorem x_dup2 (h : FC F cc own tys) {v u : Value} (hv : v.category = 1) (hu : u.category = 1) (d : decode cc pc = .ok (.dup2, 1)) (g : XW F k n wd lv (pc + 1) (v :: u :: v :: u :: st)) : XW F k n wd lv pc (v :: u :: st) := fun H L ls hP hD hS hl => lv_dup2_11 h.1 h.2.1 d hv hu (g H L ls hP hD hS hl)
theorem x_dup_x1 (h : FC F cc own tys) {v u : Value} (hv : v.category = 1) (hu : u.category = 1) (d : decode cc pc = .ok (.dup_x1, 1)) (g : XW F k n wd lv (pc + 1) (v :: u :: v :: st)) : XW F k n wd lv pc (v :: u :: st) := fun H L ls hP hD hS hl => lv_dup_x1 h.1 h.2.1 d hv hu (g H L ls hP hD hS hl)
theorem x_goto (h : FC F cc own tys) {off : Int} (t : Nat) (d : decode cc pc = .ok (.goto off, 3)) (ht : (pc : Int) + off = (t : Int)) (g : XW F k n wd lv t st) : XW F k n wd lv pc st := fun H L ls hP hD hS hl => lv_goto h.1 h.2.1 d ht (g H L ls hP hD hS hl)
theorem x_if_eq (h : FC F cc own tys) {x : Int32} {off : Int} (t : Nat) (d : decode cc pc = .ok (.ifCond .eq off, 3)) (ht : (pc : Int) + off = (t : Int)) (kt : x = 0 → XW F k n wd lv t st) (kf : ¬ x = 0 → XW F k n wd lv (pc + 3) st) : XW F k n wd lv pc (.int x :: st) := fun H L ls hP hD hS hl => lv_if_eq h.1 h.2.1 d ht (fun q => kt q H L ls hP hD hS hl) (fun q => kf q H L ls hP hD hS hl)
theorem x_if_eq_T (h : FC F cc own tys) {x : Int32} {off : Int} (t : Nat) (d : decode cc pc = .ok (.ifCond .eq off, 3)) (ht : (pc : Int) + off = (t : Int)) (q : x = 0) (kt : XW F k n wd lv t st) : XW F k n wd lv pc (.int x :: st) := x_if_eq h t d ht (fun _ => kt) (fun q2 => absurd q q2)
theorem x_if_eq_F (h : FC F cc own tys) {x : Int32} {off : Int} (t : Nat) (d : decode cc pc = .ok (.ifCond .eq off, 3)) (ht : (pc : Int) + off = (t : Int)) (q : ¬ x = 0) (kf : XW F k n wd lv (pc + 3) st) : XW F k n wd lv pc (.int x :: st) := x_if_eq h t d ht (fun q2 => absurd q2 q) (fun _ => kf)
theorem x_icmp_eq (h : FC F cc own tys) {x y : Int32} {off : Int} (t : Nat) (d : decode cc pc = .ok (.if_icmp .eq off, 3)) (ht : (pc : Int) + off = (t : Int)) (kt : x = y → XW F k n wd lv t st) (kf : ¬ x = y → XW F k n wd lv (pc + 3) st) : XW F k n wd lv pc (.int y :: .int x :: st) := fun H L ls hP hD hS hl => lv_icmp_eq h.1 h.2.1 d ht (fun q => kt q H L ls hP hD hS hl) (fun q => kf q H L ls hP hD hS hl)
theorem x_icmp_eq_T (h : FC F cc own tys) {x y : Int32} {off : Int} (t : Nat) (d : decode cc pc = .ok (.if_icmp .eq off, 3)) (ht : (pc : Int) + off = (t : Int)) (q : x = y) (kt : XW F k n wd lv t st) : XW F k n wd lv pc (.int y :: .int x :: st) := x_icmp_eq h t d ht (fun _ => kt) (fun q2 => absurd q q2)
theorem x_icmp_eq_F (h : FC F cc own tys) {x y : Int32} {off : Int} (t : Nat) (d : decode cc pc = .ok (.if_icmp .eq off, 3)) (ht : (pc : Int) + off = (t : Int)) (q : ¬ x = y) (kf : XW F k n wd lv (pc + 3) st) : XW F k n wd lv pc (.int y :: .int x :: st) := x_icmp_eq h t d ht (fun q2 => absurd q2 q) (fun _ => kf)
theorem x_if_ne (h : FC F cc own tys) {x : Int32} {off : Int} (t : Nat) (d : decode cc pc = .ok (.ifCond .ne off, 3)) (ht : (pc : Int) + off = (t : Int)) (kt : ¬ x = 0 → XW F k n wd lv t st) (kf : x = 0 → XW F k n wd lv (pc + 3) st) : XW F k n wd lv pc (.int x :: st) := fun H L ls hP hD hS hl => lv_if_ne h.1 h.2.1 d ht (fun q => kt q H L ls hP hD hS hl) (fun q => kf q H L ls hP hD hS hl)
theorem x_if_ne_T (h : FC F cc own tys) {x : Int32} {off : Int} (t : Nat) (d : decode cc pc = .ok (.ifCond .ne off, 3)) (ht : (pc : Int) + off = (t : Int)) (q : ¬ x = 0) (kt : XW F k n wd lv t st) : XW F k n wd lv pc (.int x :: st) := x_if_ne h t d ht (fun _ => kt) (fun q2 => absurd q (fun q3 => q3 q2))
theorem x_if_ne_F (h : FC F cc own tys) {x : Int32} {off : Int} (t : Nat) (d : decode cc pc = .ok (.ifCond .ne off, 3)) (ht : (pc : Int) + off = (t : Int)) (q : x = 0) (kf : XW F k n wd lv (pc + 3) st) : XW F k n wd lv pc (.int x :: st) := x_if_ne h t d ht (fun q2 => absurd q q2) (fun _ => kf)
theorem x_icmp_ne (h : FC F cc own tys) {x y : Int32} {off : Int} (t : Nat) (d : decode cc pc = .ok (.if_icmp .ne off, 3)) (ht : (pc : Int) + off = (t : Int)) (kt : ¬ x = y → XW F k n wd lv t st) (kf : x = y → XW F k n wd lv (pc + 3) st) : XW F k n wd lv pc (.int y :: .int x :: st) := fun H L ls hP hD hS hl => lv_icmp_ne h.1 h.2.1 d ht (fun q => kt q H L ls hP hD hS hl) (fun q => kf q H L ls hP hD hS hl)
theorem x_icmp_ne_T (h : FC F cc own tys) {x y : Int32} {off : Int} (t : Nat) (d : decode cc pc = .ok (.if_icmp .ne off, 3)) (ht : (pc : Int) + off = (t : Int)) (q : ¬ x = y) (kt : XW F k n wd lv t st) : XW F k n wd lv pc (.int y :: .int x :: st) := x_icmp_ne h t d ht (fun _ => kt) (fun q2 => absurd q (fun q3 => q3 q2))
theorem x_icmp_ne_F (h : FC F cc own tys) {x y : Int32} {off : Int} (t : Nat) (d : decode cc pc = .ok (.if_icmp .ne off, 3)) (ht : (pc : Int) + off = (t : Int)) (q : x = y) (kf : XW F k n wd lv (pc + 3) st) : XW F k n wd lv pc (.int y :: .int x :: st) := x_icmp_ne h t d ht (fun q2 => absurd q q2) (fun _ => kf)
theorem x_if_lt (h : FC F cc own tys) {x : Int32} {off : Int} (t : Nat) (d : decode cc pc = .ok (.ifCond .lt off, 3)) (ht : (pc : Int) + off = (t : Int)) (kt : x < 0 → XW F k n wd lv t st) (kf : ¬ x < 0 → XW F k n wd lv (pc + 3) st) : XW F k n wd lv pc (.int x :: st) := fun H L ls hP hD hS hl => lv_if_lt h.1 h.2.1 d ht (fun q => kt q H L ls hP hD hS hl) (fun q => kf q H L ls hP hD hS hl)
theorem x_if_lt_T (h : FC F cc own tys) {x : Int32} {off : Int} (t : Nat) (d : decode cc pc = .ok (.ifCond .lt off, 3)) (ht : (pc : Int) + off = (t : Int)) (q : x < 0) (kt : XW F k n wd lv t st) : XW F k n wd lv pc (.int x :: st) := x_if_lt h t d ht (fun _ => kt) (fun q2 => absurd q q2)
theorem x_if_lt_F (h : FC F cc own tys) {x : Int32} {off : Int} (t : Nat) (d : decode cc pc = .ok (.ifCond .lt off, 3)) (ht : (pc : Int) + off = (t : Int)) (q : ¬ x < 0) (kf : XW F k n wd lv (pc + 3) st) : XW F k n wd lv pc (.int x :: st) := x_if_lt h t d ht (fun q2 => absurd q2 q) (fun _ => kf)
theorem x_icmp_lt (h : FC F cc own tys) {x y : Int32} {off : Int} (t : Nat) (d : decode cc pc = .ok (.if_icmp .lt off, 3)) (ht : (pc : Int) + off = (t : Int)) (kt : x < y → XW F k n wd lv t st) (kf : ¬ x < y → XW F k n wd lv (pc + 3) st) : XW F k n wd lv pc (.int y :: .int x :: st) := fun H L ls hP hD hS hl => lv_icmp_lt h.1 h.2.1 d ht (fun q => kt q H L ls hP hD hS hl) (fun q => kf q H L ls hP hD hS hl)
theorem x_icmp_lt_T (h : FC F cc own tys) {x y : Int32} {off : Int} (t : Nat) (d : decode cc pc = .ok (.if_icmp .lt off, 3)) (ht : (pc : Int) + off = (t : Int)) (q : x < y) (kt : XW F k n wd lv t st) : XW F k n wd lv pc (.int y :: .int x :: st) := x_icmp_lt h t d ht (fun _ => kt) (fun q2 => absurd q q2)
theorem x_icmp_lt_F (h : FC F cc own tys) {x y : Int32} {off : Int} (t : Nat) (d : decode cc pc = .ok (.if_icmp .lt off, 3)) (ht : (pc : Int) + off = (t : Int)) (q : ¬ x < y) (kf : XW F k n wd lv (pc + 3) st) : XW F k n wd lv pc (.int y :: .int x :: st) := x_icmp_lt h t d ht (fun q2 => absurd q2 q) (fun _ => kf)
theorem x_if_ge (h : FC F cc own tys) {x : Int32} {off : Int} (t : Nat) (d : decode cc pc = .ok (.ifCond .ge off, 3)) (ht : (pc : Int) + off = (t : Int)) (kt : 0 ≤ x → XW F k n wd lv t st) (kf : ¬ 0 ≤ x → XW F k n wd lv (pc + 3) st) : XW F k n wd lv pc (.int x :: st) := fun H L ls hP hD hS hl => lv_if_ge h.1 h.2.1 d ht (fun q => kt q H L ls hP hD hS hl) (fun q => kf q H L ls hP hD hS hl)
theorem x_if_ge_T (h : FC F cc own tys) {x : Int32} {off : Int} (t : Nat) (d : decode cc pc = .ok (.ifCond .ge off, 3)) (ht : (pc : Int) + off = (t : Int)) (q : 0 ≤ x) (kt : XW F k n wd lv t st) : XW F k n wd lv pc (.int x :: st) := x_if_ge h t d ht (fun _ => kt) (fun q2 => absurd q q2)
theorem x_if_ge_F (h : FC F cc own tys) {x : Int32} {off : Int} (t : Nat) (d : decode cc pc = .ok (.ifCond .ge off, 3)) (ht : (pc : Int) + off = (t : Int)) (q : ¬ 0 ≤ x) (kf : XW F k n wd lv (pc + 3) st) : XW F k n wd lv pc (.int x :: st) := x_if_ge h t d ht (fun q2 => absurd q2 q) (fun _ => kf)
theorem x_icmp_ge (h : FC F cc own tys) {x y : Int32} {off : Int} (t : Nat) (d : decode cc pc = .ok (.if_icmp .ge off, 3)) (ht : (pc : Int) + off = (t : Int)) (kt : y ≤ x → XW F k n wd lv t st) (kf : ¬ y ≤ x → XW F k n wd lv (pc + 3) st) : XW F k n wd lv pc (.int y :: .int x :: st) := fun H L ls hP hD hS hl => lv_icmp_ge h.1 h.2.1 d ht (fun q => kt q H L ls hP hD hS hl) (fun q => kf q H L ls hP hD hS hl)
theorem x_icmp_ge_T (h : FC F cc own tys) {x y : Int32} {off : Int} (t : Nat) (d : decode cc pc = .ok (.if_icmp .ge off, 3)) (ht : (pc : Int) + off = (t : Int)) (q : y ≤ x) (kt : XW F k n wd lv t st) : XW F k n wd lv pc (.int y :: .int x :: st) := x_icmp_ge h t d ht (fun _ => kt) (fun q2 => absurd q q2)
theorem x_icmp_ge_F (h : FC F cc own tys) {x y : Int32} {off : Int} (t : Nat) (d : decode cc pc = .ok (.if_icmp .ge off, 3)) (ht : (pc : Int) + off = (t : Int)) (q : ¬ y ≤ x) (kf : XW F k n wd lv (pc + 3) st) : XW F k n wd lv pc (.int y :: .int x :: st) := x_icmp_ge h t d ht (fun q2 => absurd q2 q) (fun _ => kf)
theorem x_if_gt (h : FC F cc own tys) {x : Int32} {off : Int} (t : Nat) (d : decode cc pc = .ok (.ifCond .gt off, 3)) (ht : (pc : Int) + off = (t : Int)) (kt : 0 < x → XW F k n wd lv t st) (kf : ¬ 0 < x → XW F k n wd lv (pc + 3) st) : XW F k n wd lv pc (.int x :: st) := fun H L ls hP hD hS hl => lv_if_gt h.1 h.2.1 d ht (fun q => kt q H L ls hP hD hS hl) (fun q => kf q H L ls hP hD hS hl)
theorem x_if_gt_T (h : FC F cc own tys) {x : Int32} {off : Int} (t : Nat) (d : decode cc pc = .ok (.ifCond .gt off, 3)) (ht : (pc : Int) + off = (t : Int)) (q : 0 < x) (kt : XW F k n wd lv t st) : XW F k n wd lv pc (.int x :: st) := x_if_gt h t d ht (fun _ => kt) (fun q2 => absurd q q2)
theorem x_if_gt_F (h : FC F cc own tys) {x : Int32} {off : Int} (t : Nat) (d : decode cc pc = .ok (.ifCond .gt off, 3)) (ht : (pc : Int) + off = (t : Int)) (q : ¬ 0 < x) (kf : XW F k n wd lv (pc + 3) st) : XW F k n wd lv pc (.int x :: st) := x_if_gt h t d ht (fun q2 => absurd q2 q) (fun _ => kf)
theorem x_icmp_gt (h : FC F cc own tys) {x y : Int32} {off : Int} (t : Nat) (d : decode cc pc = .ok (.if_icmp .gt off, 3)) (ht : (pc : Int) + off = (t : Int)) (kt : y < x → XW F k n wd lv t st) (kf : ¬ y < x → XW F k n wd lv (pc + 3) st) : XW F k n wd lv pc (.int y :: .int x :: st) := fun H L ls hP hD hS hl => lv_icmp_gt h.1 h.2.1 d ht (fun q => kt q H L ls hP hD hS hl) (fun q => kf q H L ls hP hD hS hl)
theorem x_icmp_gt_T (h : FC F cc own tys) {x y : Int32} {off : Int} (t : Nat) (d : decode cc pc = .ok (.if_icmp .gt off, 3)) (ht : (pc : Int) + off = (t : Int)) (q : y < x) (kt : XW F k n wd lv t st) : XW F k n wd lv pc (.int y :: .int x :: st) := x_icmp_gt h t d ht (fun _ => kt) (fun q2 => absurd q q2)
theorem x_icmp_gt_F (h : FC F cc own tys) {x y : Int32} {off : Int} (t : Nat) (d : decode cc pc = .ok (.if_icmp .gt off, 3)) (ht : (pc : Int) + off = (t : Int)) (q : ¬ y < x) (kf : XW F k n wd lv (pc + 3) st) : XW F k n wd lv pc (.int y :: .int x :: st) := x_icmp_gt h t d ht (fun q2 => absurd q2 q) (fun _ => kf)
theorem x_if_le (h : FC F cc own tys) {x : Int32} {off : Int} (t : Nat) (d : decode cc pc = .ok (.ifCond .le off, 3)) (ht : (pc : Int) + off = (t : Int)) (kt : x ≤ 0 → XW F k n wd lv t st) (kf : ¬ x ≤ 0 → XW F k n wd lv (pc + 3) st) : XW F k n wd lv pc (.int x :: st) := fun H L ls hP hD hS hl => lv_if_le h.1 h.2.1 d ht (fun q => kt q H L ls hP hD hS hl) (fun q => kf q H L ls hP hD hS hl)
theorem x_if_le_T (h : FC F cc own tys) {x : Int32} {off : Int} (t : Nat) (d : decode cc pc = .ok (.ifCond .le off, 3)) (ht : (pc : Int) + off = (t : Int)) (q : x ≤ 0) (kt : XW F k n wd lv t st) : XW F k n wd lv pc (.int x :: st) := x_if_le h t d ht (fun _ => kt) (fun q2 => absurd q q2)
theorem x_if_le_F (h : FC F cc own tys) {x : Int32} {off : Int} (t : Nat) (d : decode cc pc = .ok (.ifCond .le off, 3)) (ht : (pc : Int) + off = (t : Int)) (q : ¬ x ≤ 0) (kf : XW F k n wd lv (pc + 3) st) : XW F k n wd lv pc (.int x :: st) := x_if_le h t d ht (fun q2 => absurd q2 q) (fun _ => kf)
theorem x_icmp_le (h : FC F cc own tys) {x y : Int32} {off : Int} (t : Nat) (d : decode cc pc = .ok (.if_icmp .le off, 3)) (ht : (pc : Int) + off = (t : Int)) (kt : x ≤ y → XW F k n wd lv t st) (kf : ¬ x ≤ y → XW F k n wd lv (pc + 3) st) : XW F k n wd lv pc (.int y :: .int x :: st) := fun H L ls hP hD hS hl => lv_icmp_le h.1 h.2.1 d ht (fun q => kt q H L ls hP hD hS hl) (fun q => kf q H L ls hP hD hS hl)
theorem x_icmp_le_T (h : FC F cc own tys) {x y : Int32} {off : Int} (t : Nat) (d : decode cc pc = .ok (.if_icmp .le off, 3)) (ht : (pc : Int) + off = (t : Int)) (q : x ≤ y) (kt : XW F k n wd lv t st) : XW F k n wd lv pc (.int y :: .int x :: st) := x_icmp_le h t d ht (fun _ => kt) (fun q2 => absurd q q2)
theorem x_icmp_le_F (h : FC F cc own tys) {x y : Int32} {off : Int} (t : Nat) (d : decode cc pc = .ok (.if_icmp .le off, 3)) (ht : (pc : Int) + off = (t : Int)) (q : ¬ x ≤ y) (kf : XW F k n wd lv (pc + 3) st) : XW F k n wd lv pc (.int y :: .int x :: st) := x_icmp_le h t d ht (fun q2 => absurd q2 q) (fun _ => kf)
theorem x_icmp_eqN (h : FC F cc own tys) {a b : Nat} {off : Int} (t : Nat) (d : decode cc pc = .ok (.if_icmp .eq off, 3)) (ht : (pc : Int) + off = (t : Int)) (ha : a < 2 ^ 31) (hb : b < 2 ^ 31) (kt : a = b → XW F k n wd lv t st) (kf : ¬ a = b → XW F k n wd lv (pc + 3) st) : XW F k n wd lv pc (.int (nI b) :: .int (nI a) :: st) := x_icmp_eq h t d ht (fun q => kt ((nI_eq ha hb).mp q)) (fun q => kf (fun e => q ((nI_eq ha hb).mpr e)))
theorem x_if_eqN (h : FC F cc own tys) {a : Nat} {off : Int} (t : Nat) (d : decode cc pc = .ok (.ifCond .eq off, 3)) (ht : (pc : Int) + off = (t : Int)) (ha : a < 2 ^ 31) (kt : a = 0 → XW F k n wd lv t st) (kf : ¬ a = 0 → XW F k n wd lv (pc + 3) st) : XW F k n wd lv pc (.int (nI a) :: st) := have hb : 0 < 2 ^ 31 := by decide
  x_if_eq h t d ht (fun q => kt (by have q := q; rw [← nI_0] at q; exact (nI_eq ha hb).mp q)) (fun q => kf (by have q := q; rw [← nI_0] at q; exact fun e => q ((nI_eq ha hb).mpr e)))
theorem x_icmp_neN (h : FC F cc own tys) {a b : Nat} {off : Int} (t : Nat) (d : decode cc pc = .ok (.if_icmp .ne off, 3)) (ht : (pc : Int) + off = (t : Int)) (ha : a < 2 ^ 31) (hb : b < 2 ^ 31) (kt : ¬ a = b → XW F k n wd lv t st) (kf : a = b → XW F k n wd lv (pc + 3) st) : XW F k n wd lv pc (.int (nI b) :: .int (nI a) :: st) := x_icmp_ne h t d ht (fun q => kt (fun e => q ((nI_eq ha hb).mpr e))) (fun q => kf ((nI_eq ha hb).mp q))
theorem x_if_neN (h : FC F cc own tys) {a : Nat} {off : Int} (t : Nat) (d : decode cc pc = .ok (.ifCond .ne off, 3)) (ht : (pc : Int) + off = (t : Int)) (ha : a < 2 ^ 31) (kt : ¬ a = 0 → XW F k n wd lv t st) (kf : a = 0 → XW F k n wd lv (pc + 3) st) : XW F k n wd lv pc (.int (nI a) :: st) := have hb : 0 < 2 ^ 31 := by decide
  x_if_ne h t d ht (fun q => kt (by have q := q; rw [← nI_0] at q; exact fun e => q ((nI_eq ha hb).mpr e))) (fun q => kf (by have q := q; rw [← nI_0] at q; exact (nI_eq ha hb).mp q))
theorem x_icmp_ltN (h : FC F cc own tys) {a b : Nat} {off : Int} (t : Nat) (d : decode cc pc = .ok (.if_icmp .lt off, 3)) (ht : (pc : Int) + off = (t : Int)) (ha : a < 2 ^ 31) (hb : b < 2 ^ 31) (kt : a < b → XW F k n wd lv t st) (kf : b ≤ a → XW F k n wd lv (pc + 3) st) : XW F k n wd lv pc (.int (nI b) :: .int (nI a) :: st) := x_icmp_lt h t d ht (fun q => kt ((nI_ltI ha hb).mp q)) (fun q => kf (Nat.not_lt.mp (fun e => q ((nI_ltI ha hb).mpr e))))
theorem x_if_ltN (h : FC F cc own tys) {a : Nat} {off : Int} (t : Nat) (d : decode cc pc = .ok (.ifCond .lt off, 3)) (ht : (pc : Int) + off = (t : Int)) (ha : a < 2 ^ 31) (kt : a < 0 → XW F k n wd lv t st) (kf : 0 ≤ a → XW F k n wd lv (pc + 3) st) : XW F k n wd lv pc (.int (nI a) :: st) := have hb : 0 < 2 ^ 31 := by decide
  x_if_lt h t d ht (fun q => kt (by have q := q; rw [← nI_0] at q; exact (nI_ltI ha hb).mp q)) (fun q => kf (by have q := q; rw [← nI_0] at q; exact Nat.not_lt.mp (fun e => q ((nI_ltI ha hb).mpr e))))
theorem x_icmp_geN (h : FC F cc own tys) {a b : Nat} {off : Int} (t : Nat) (d : decode cc pc = .ok (.if_icmp .ge off, 3)) (ht : (pc : Int) + off = (t : Int)) (ha : a < 2 ^ 31) (hb : b < 2 ^ 31) (kt : b ≤ a → XW F k n wd lv t st) (kf : a < b → XW F k n wd lv (pc + 3) st) : XW F k n wd lv pc (.int (nI b) :: .int (nI a) :: st) := x_icmp_ge h t d ht (fun q => kt ((nI_leI hb ha).mp q)) (fun q => kf (Nat.not_le.mp (fun e => q ((nI_leI hb ha).mpr e))))
theorem x_if_geN (h : FC F cc own tys) {a : Nat} {off : Int} (t : Nat) (d : decode cc pc = .ok (.ifCond .ge off, 3)) (ht : (pc : Int) + off = (t : Int)) (ha : a < 2 ^ 31) (kt : 0 ≤ a → XW F k n wd lv t st) (kf : a < 0 → XW F k n wd lv (pc + 3) st) : XW F k n wd lv pc (.int (nI a) :: st) := have hb : 0 < 2 ^ 31 := by decide
  x_if_ge h t d ht (fun q => kt (by have q := q; rw [← nI_0] at q; exact (nI_leI hb ha).mp q)) (fun q => kf (by have q := q; rw [← nI_0] at q; exact Nat.not_le.mp (fun e => q ((nI_leI hb ha).mpr e))))
theorem x_icmp_gtN (h : FC F cc own tys) {a b : Nat} {off : Int} (t : Nat) (d : decode cc pc = .ok (.if_icmp .gt off, 3)) (ht : (pc : Int) + off = (t : Int)) (ha : a < 2 ^ 31) (hb : b < 2 ^ 31) (kt : b < a → XW F k n wd lv t st) (kf : a ≤ b → XW F k n wd lv (pc + 3) st) : XW F k n wd lv pc (.int (nI b) :: .int (nI a) :: st) := x_icmp_gt h t d ht (fun q => kt ((nI_ltI hb ha).mp q)) (fun q => kf (Nat.not_lt.mp (fun e => q ((nI_ltI hb ha).mpr e))))
theorem x_if_gtN (h : FC F cc own tys) {a : Nat} {off : Int} (t : Nat) (d : decode cc pc = .ok (.ifCond .gt off, 3)) (ht : (pc : Int) + off = (t : Int)) (ha : a < 2 ^ 31) (kt : 0 < a → XW F k n wd lv t st) (kf : a ≤ 0 → XW F k n wd lv (pc + 3) st) : XW F k n wd lv pc (.int (nI a) :: st) := have hb : 0 < 2 ^ 31 := by decide
  x_if_gt h t d ht (fun q => kt (by have q := q; rw [← nI_0] at q; exact (nI_ltI hb ha).mp q)) (fun q => kf (by have q := q; rw [← nI_0] at q; exact Nat.not_lt.mp (fun e => q ((nI_ltI hb ha).mpr e))))
theorem x_icmp_leN (h : FC F cc own tys) {a b : Nat} {off : Int} (t : Nat) (d : decode cc pc = .ok (.if_icmp .le off, 3)) (ht : (pc : Int) + off = (t : Int)) (ha : a < 2 ^ 31) (hb : b < 2 ^ 31) (kt : a ≤ b → XW F k n wd lv t st) (kf : b < a → XW F k n wd lv (pc + 3) st) : XW F k n wd lv pc (.int (nI b) :: .int (nI a) :: st) := x_icmp_le h t d ht (fun q => kt ((nI_leI ha hb).mp q)) (fun q => kf (Nat.not_le.mp (fun e => q ((nI_leI ha hb).mpr e))))
theorem x_if_leN (h : FC F cc own tys) {a : Nat} {off : Int} (t : Nat) (d : decode cc pc = .ok (.ifCond .le off, 3)) (ht : (pc : Int) + off = (t : Int)) (ha : a < 2 ^ 31) (kt : a ≤ 0 → XW F k n wd lv t st) (kf : 0 < a → XW F k n wd lv (pc + 3) st) : XW F k n wd lv pc (.int (nI a) :: st) := have hb : 0 < 2 ^ 31 := by decide
  x_if_le h t d ht (fun q => kt (by have q := q; rw [← nI_0] at q; exact (nI_leI ha hb).mp q)) (fun q => kf (by have q := q; rw [← nI_0] at q; exact Nat.not_le.mp (fun e => q ((nI_leI ha hb).mpr e))))
end Rules
theorem zI_toInt {z : Int} (h1 : -2147483648 ≤ z) (h2 : z < 2147483648) : (zI z).toInt = z := Int32.toInt_ofInt_of_le h1 h2
theorem zI_eq {a b : Int} (ha : -2147483648 ≤ a ∧ a < 2147483648) (hb : -2147483648 ≤ b ∧ b < 2147483648) : zI a = zI b ↔ a = b := by
  rw [← Int32.toInt_inj, zI_toInt ha.1 ha.2, zI_toInt hb.1 hb.2]
theorem zI_lt {a b : Int} (ha : -2147483648 ≤ a ∧ a < 2147483648) (hb : -2147483648 ≤ b ∧ b < 2147483648) : zI a < zI b ↔ a < b := by
  rw [Int32.lt_iff_toInt_lt, zI_toInt ha.1 ha.2, zI_toInt hb.1 hb.2]
theorem zI_le {a b : Int} (ha : -2147483648 ≤ a ∧ a < 2147483648) (hb : -2147483648 ≤ b ∧ b < 2147483648) : zI a ≤ zI b ↔ a ≤ b := by
  rw [Int32.le_iff_toInt_le, zI_toInt ha.1 ha.2, zI_toInt hb.1 hb.2]
theorem zI_add (a b : Int) : zI a + zI b = zI (a + b) := (Int32.ofInt_add a b).symm
theorem zI_sub (a b : Int) : zI a - zI b = zI (a - b) := (Int32.ofInt_sub a b).symm
theorem zI_mul (a b : Int) : zI a * zI b = zI (a * b) := (Int32.ofInt_mul a b).symm
theorem zI_neg (a : Int) : -zI a = zI (-a) := (Int32.ofInt_neg a).symm
theorem zI_nI (a : Nat) : nI a = zI (a : Int) := rfl
theorem zI_0 : zI 0 = 0 := rfl
theorem zI_toInt_self (x : Int32) : zI x.toInt = x := Int32.ofInt_toInt x
section Rules2
variable {F : FX} {cc : ByteArray} {own : String} {tys : List (ClassId × FieldType)} {k n : Nat} {wd : va_W} {lv : List (Nat × Value)} {pc : Nat} {st : List Value}
theorem x_icmp_eqZ (h : FC F cc own tys) {a b : Int} {off : Int} (t : Nat) (d : decode cc pc = .ok (.if_icmp .eq off, 3)) (ht : (pc : Int) + off = (t : Int)) (ha : -2147483648 ≤ a ∧ a < 2147483648) (hb : -2147483648 ≤ b ∧ b < 2147483648) (kt : a = b → XW F k n wd lv t st) (kf : ¬ a = b → XW F k n wd lv (pc + 3) st) : XW F k n wd lv pc (.int (zI b) :: .int (zI a) :: st) := x_icmp_eq h t d ht (fun q => kt ((zI_eq ha hb).mp q)) (fun q => kf (fun e => q ((zI_eq ha hb).mpr e)))
theorem x_if_eqZ (h : FC F cc own tys) {a : Int} {off : Int} (t : Nat) (d : decode cc pc = .ok (.ifCond .eq off, 3)) (ht : (pc : Int) + off = (t : Int)) (ha : -2147483648 ≤ a ∧ a < 2147483648) (kt : a = 0 → XW F k n wd lv t st) (kf : ¬ a = 0 → XW F k n wd lv (pc + 3) st) : XW F k n wd lv pc (.int (zI a) :: st) := have hb : -2147483648 ≤ (0 : Int) ∧ (0 : Int) < 2147483648 := by decide
  x_if_eq h t d ht (fun q => kt (by have q := q; rw [← zI_0] at q; exact (zI_eq ha hb).mp q)) (fun q => kf (by have q := q; rw [← zI_0] at q; exact fun e => q ((zI_eq ha hb).mpr e)))
theorem x_icmp_neZ (h : FC F cc own tys) {a b : Int} {off : Int} (t : Nat) (d : decode cc pc = .ok (.if_icmp .ne off, 3)) (ht : (pc : Int) + off = (t : Int)) (ha : -2147483648 ≤ a ∧ a < 2147483648) (hb : -2147483648 ≤ b ∧ b < 2147483648) (kt : ¬ a = b → XW F k n wd lv t st) (kf : a = b → XW F k n wd lv (pc + 3) st) : XW F k n wd lv pc (.int (zI b) :: .int (zI a) :: st) := x_icmp_ne h t d ht (fun q => kt (fun e => q ((zI_eq ha hb).mpr e))) (fun q => kf ((zI_eq ha hb).mp q))
theorem x_if_neZ (h : FC F cc own tys) {a : Int} {off : Int} (t : Nat) (d : decode cc pc = .ok (.ifCond .ne off, 3)) (ht : (pc : Int) + off = (t : Int)) (ha : -2147483648 ≤ a ∧ a < 2147483648) (kt : ¬ a = 0 → XW F k n wd lv t st) (kf : a = 0 → XW F k n wd lv (pc + 3) st) : XW F k n wd lv pc (.int (zI a) :: st) := have hb : -2147483648 ≤ (0 : Int) ∧ (0 : Int) < 2147483648 := by decide
  x_if_ne h t d ht (fun q => kt (by have q := q; rw [← zI_0] at q; exact fun e => q ((zI_eq ha hb).mpr e))) (fun q => kf (by have q := q; rw [← zI_0] at q; exact (zI_eq ha hb).mp q))
theorem x_icmp_ltZ (h : FC F cc own tys) {a b : Int} {off : Int} (t : Nat) (d : decode cc pc = .ok (.if_icmp .lt off, 3)) (ht : (pc : Int) + off = (t : Int)) (ha : -2147483648 ≤ a ∧ a < 2147483648) (hb : -2147483648 ≤ b ∧ b < 2147483648) (kt : a < b → XW F k n wd lv t st) (kf : b ≤ a → XW F k n wd lv (pc + 3) st) : XW F k n wd lv pc (.int (zI b) :: .int (zI a) :: st) := x_icmp_lt h t d ht (fun q => kt ((zI_lt ha hb).mp q)) (fun q => kf (Int.not_lt.mp (fun e => q ((zI_lt ha hb).mpr e))))
theorem x_if_ltZ (h : FC F cc own tys) {a : Int} {off : Int} (t : Nat) (d : decode cc pc = .ok (.ifCond .lt off, 3)) (ht : (pc : Int) + off = (t : Int)) (ha : -2147483648 ≤ a ∧ a < 2147483648) (kt : a < 0 → XW F k n wd lv t st) (kf : 0 ≤ a → XW F k n wd lv (pc + 3) st) : XW F k n wd lv pc (.int (zI a) :: st) := have hb : -2147483648 ≤ (0 : Int) ∧ (0 : Int) < 2147483648 := by decide
  x_if_lt h t d ht (fun q => kt (by have q := q; rw [← zI_0] at q; exact (zI_lt ha hb).mp q)) (fun q => kf (by have q := q; rw [← zI_0] at q; exact Int.not_lt.mp (fun e => q ((zI_lt ha hb).mpr e))))
theorem x_icmp_geZ (h : FC F cc own tys) {a b : Int} {off : Int} (t : Nat) (d : decode cc pc = .ok (.if_icmp .ge off, 3)) (ht : (pc : Int) + off = (t : Int)) (ha : -2147483648 ≤ a ∧ a < 2147483648) (hb : -2147483648 ≤ b ∧ b < 2147483648) (kt : b ≤ a → XW F k n wd lv t st) (kf : a < b → XW F k n wd lv (pc + 3) st) : XW F k n wd lv pc (.int (zI b) :: .int (zI a) :: st) := x_icmp_ge h t d ht (fun q => kt ((zI_le hb ha).mp q)) (fun q => kf (Int.not_le.mp (fun e => q ((zI_le hb ha).mpr e))))
theorem x_if_geZ (h : FC F cc own tys) {a : Int} {off : Int} (t : Nat) (d : decode cc pc = .ok (.ifCond .ge off, 3)) (ht : (pc : Int) + off = (t : Int)) (ha : -2147483648 ≤ a ∧ a < 2147483648) (kt : 0 ≤ a → XW F k n wd lv t st) (kf : a < 0 → XW F k n wd lv (pc + 3) st) : XW F k n wd lv pc (.int (zI a) :: st) := have hb : -2147483648 ≤ (0 : Int) ∧ (0 : Int) < 2147483648 := by decide
  x_if_ge h t d ht (fun q => kt (by have q := q; rw [← zI_0] at q; exact (zI_le hb ha).mp q)) (fun q => kf (by have q := q; rw [← zI_0] at q; exact Int.not_le.mp (fun e => q ((zI_le hb ha).mpr e))))
theorem x_icmp_gtZ (h : FC F cc own tys) {a b : Int} {off : Int} (t : Nat) (d : decode cc pc = .ok (.if_icmp .gt off, 3)) (ht : (pc : Int) + off = (t : Int)) (ha : -2147483648 ≤ a ∧ a < 2147483648) (hb : -2147483648 ≤ b ∧ b < 2147483648) (kt : b < a → XW F k n wd lv t st) (kf : a ≤ b → XW F k n wd lv (pc + 3) st) : XW F k n wd lv pc (.int (zI b) :: .int (zI a) :: st) := x_icmp_gt h t d ht (fun q => kt ((zI_lt hb ha).mp q)) (fun q => kf (Int.not_lt.mp (fun e => q ((zI_lt hb ha).mpr e))))
theorem x_if_gtZ (h : FC F cc own tys) {a : Int} {off : Int} (t : Nat) (d : decode cc pc = .ok (.ifCond .gt off, 3)) (ht : (pc : Int) + off = (t : Int)) (ha : -2147483648 ≤ a ∧ a < 2147483648) (kt : 0 < a → XW F k n wd lv t st) (kf : a ≤ 0 → XW F k n wd lv (pc + 3) st) : XW F k n wd lv pc (.int (zI a) :: st) := have hb : -2147483648 ≤ (0 : Int) ∧ (0 : Int) < 2147483648 := by decide
  x_if_gt h t d ht (fun q => kt (by have q := q; rw [← zI_0] at q; exact (zI_lt hb ha).mp q)) (fun q => kf (by have q := q; rw [← zI_0] at q; exact Int.not_lt.mp (fun e => q ((zI_lt hb ha).mpr e))))
theorem x_icmp_leZ (h : FC F cc own tys) {a b : Int} {off : Int} (t : Nat) (d : decode cc pc = .ok (.if_icmp .le off, 3)) (ht : (pc : Int) + off = (t : Int)) (ha : -2147483648 ≤ a ∧ a < 2147483648) (hb : -2147483648 ≤ b ∧ b < 2147483648) (kt : a ≤ b → XW F k n wd lv t st) (kf : b < a → XW F k n wd lv (pc + 3) st) : XW F k n wd lv pc (.int (zI b) :: .int (zI a) :: st) := x_icmp_le h t d ht (fun q => kt ((zI_le ha hb).mp q)) (fun q => kf (Int.not_le.mp (fun e => q ((zI_le ha hb).mpr e))))
theorem x_if_leZ (h : FC F cc own tys) {a : Int} {off : Int} (t : Nat) (d : decode cc pc = .ok (.ifCond .le off, 3)) (ht : (pc : Int) + off = (t : Int)) (ha : -2147483648 ≤ a ∧ a < 2147483648) (kt : a ≤ 0 → XW F k n wd lv t st) (kf : 0 < a → XW F k n wd lv (pc + 3) st) : XW F k n wd lv pc (.int (zI a) :: st) := have hb : -2147483648 ≤ (0 : Int) ∧ (0 : Int) < 2147483648 := by decide
  x_if_le h t d ht (fun q => kt (by have q := q; rw [← zI_0] at q; exact (zI_le ha hb).mp q)) (fun q => kf (by have q := q; rw [← zI_0] at q; exact Int.not_le.mp (fun e => q ((zI_le ha hb).mpr e))))
theorem x_if_neB (h : FC F cc own tys) {b : Bool} {off : Int} (t : Nat) (d : decode cc pc = .ok (.ifCond .ne off, 3)) (ht : (pc : Int) + off = (t : Int)) (kt : b = true → XW F k n wd lv t st) (kf : b = false → XW F k n wd lv (pc + 3) st) : XW F k n wd lv pc (.int (bz b) :: st) := x_if_ne h t d ht (fun q => kt (by cases b with | true => rfl | false => exact absurd rfl q)) (fun q => kf (bz_eq0.mp q))
theorem x_if_eqB (h : FC F cc own tys) {b : Bool} {off : Int} (t : Nat) (d : decode cc pc = .ok (.ifCond .eq off, 3)) (ht : (pc : Int) + off = (t : Int)) (kt : b = false → XW F k n wd lv t st) (kf : b = true → XW F k n wd lv (pc + 3) st) : XW F k n wd lv pc (.int (bz b) :: st) := x_if_eq h t d ht (fun q => kt (bz_eq0.mp q)) (fun q => kf (by cases b with | true => rfl | false => exact absurd rfl q))
/-! fields -/
def FLk (own : String) (i ci k : Nat) : Prop := ∃ (C : String) (T : u_T) (N : Nat), vwCl[ci]? = some (C, T, N) ∧ k < N ∧ (∀ w ∈ u_ws C T N, w ∈ UU) ∧ Cond.fieldLink own i (T k).1 (T k).2.1 (T k).2.2.1 ∈ UU
theorem x_get (h : FC F cc own tys) {i ci f : Nat} (fl : FLk own i ci f) (d : decode cc pc = .ok (.getfield i, 3)) (q0 : Nat) {a : Nat} {fs : List Value} (he : wd[q0]? = some (a, .inr (ci, fs))) {v : Value} (hv : fs[f]? = some v) (g : XW F k n wd lv (pc + 3) (v :: st)) : XW F k n wd lv pc (.ref a :: st) := by
  obtain ⟨C, T, N, h1, h2, h3, h4⟩ := fl
  exact fun H L ls hP hD hS hl => va_get h.1 h.2.1 h.2.2.2.2.1 h3 h.2.2.2.1 h.2.2.2.2.2.1 hP q0 he h1 f h2 (h.2.2.2.2.1 _ h4) (fun _ q => q) hv d (g H L ls hP hD hS hl)
def FPk (own : String) (i ci k : Nat) (ty : FieldType) : Prop := ∃ (C : String) (T : u_T) (N : Nat) (ty0 : Nat → FieldType), vwCl[ci]? = some (C, T, N) ∧ k < N ∧ (∀ w ∈ u_ws C T N, w ∈ UU) ∧ Cond.fieldLink own i (T k).1 (T k).2.1 (T k).2.2.1 ∈ UU ∧ (∀ k, k < N → parseFieldDescriptor (T k).2.2.1 = some (ty0 k)) ∧ (∀ a, a < N → ∀ b, b < N → a ≠ b → (T a).2.1 ≠ (T b).2.1) ∧ (T k).2.2.2 = false ∧ parseFieldDescriptor (T k).2.2.1 = some ty
theorem x_put (h : FC F cc own tys) {i ci f : Nat} {ty : FieldType} (fp : FPk own i ci f ty) (d : decode cc pc = .ok (.putfield i, 3)) (q0 : Nat) {a : Nat} {fs : List Value} (he : wd[q0]? = some (a, .inr (ci, fs))) {v : Value} (hn : narrow ty v = v) (hf : fits ty v = true) (hl9 : f < fs.length) (wd' : va_W) (hw : wd.set q0 (a, .inr (ci, fs.set f v)) = wd') (g : XW F k n wd' lv (pc + 3) st) : XW F k n wd lv pc (v :: .ref a :: st) := by
  obtain ⟨C, T, N, ty0, h1, h2, h3, h4, h5, h6, h7, h8⟩ := fp
  subst hw
  exact fun H L ls hP hD hS hl => va_put h.1 h.2.1 h.2.2.2.2.1 h3 ty0 h5 h6 h.2.2.2.1 h.2.2.2.2.2.1 hP hD hS q0 he h1 f h2 (h.2.2.2.2.1 _ h4) (fun _ q => q) h7 h8 hn hf hl9 d (fun H1 L1 hP1 hD1 hS1 => g H1 L1 ls hP1 hD1 hS1 hl)
/-! arrays -/
theorem nI_in' {i : Int32} {j N : Nat} (hi : i = nI j) (hj : j < N) (hN : N < 2 ^ 31) : vp_in i N := by rw [hi]; exact vp_in_nI hj hN
theorem x_iald (h : FC F cc own tys) (q0 t0 : Nat) {cA : ClassId} {N : Nat} {f : Nat → Int32} {a : Nat} (ha : wd[q0]? = some (a, .inl (cA, N, .inl f))) (ht : tys[t0]? = some (cA, .int)) {j : Nat} {y : Int32} (hj : j < N) (hN : N < 2 ^ 31) (hy : f j = y) (d : decode cc pc = .ok (.iaload, 1)) (g : XW F k n wd lv (pc + 1) (.int y :: st)) : XW F k n wd lv pc (.int (nI j) :: .ref a :: st) := fun H L ls hP hD hS hl => va_iald h.1 h.2.1 h.2.2.2.2.2.1 hP q0 t0 ha ht (vp_in_nI hj hN) d (by rw [nI_clamp (Nat.lt_trans hj hN), hy]; exact g H L ls hP hD hS hl)
theorem x_zald (h : FC F cc own tys) (q0 t0 : Nat) {cA : ClassId} {N : Nat} {f : Nat → Int32} {a : Nat} (ha : wd[q0]? = some (a, .inl (cA, N, .inl f))) (ht : tys[t0]? = some (cA, .boolean)) {j : Nat} {y : Int32} (hj : j < N) (hN : N < 2 ^ 31) (hy : f j = y) (d : decode cc pc = .ok (.baload, 1)) (g : XW F k n wd lv (pc + 1) (.int y :: st)) : XW F k n wd lv pc (.int (nI j) :: .ref a :: st) := fun H L ls hP hD hS hl => va_zald h.1 h.2.1 h.2.2.2.2.2.1 hP q0 t0 ha ht (vp_in_nI hj hN) d (by rw [nI_clamp (Nat.lt_trans hj hN), hy]; exact g H L ls hP hD hS hl)
theorem x_lald (h : FC F cc own tys) (q0 t0 : Nat) {cA : ClassId} {N : Nat} {f : Nat → Int64} {a : Nat} (ha : wd[q0]? = some (a, .inl (cA, N, .inr (.inl f)))) (ht : tys[t0]? = some (cA, .long)) {j : Nat} {y : Int64} (hj : j < N) (hN : N < 2 ^ 31) (hy : f j = y) (d : decode cc pc = .ok (.laload, 1)) (g : XW F k n wd lv (pc + 1) (.long y :: st)) : XW F k n wd lv pc (.int (nI j) :: .ref a :: st) := fun H L ls hP hD hS hl => va_lald h.1 h.2.1 h.2.2.2.2.2.1 hP q0 t0 ha ht (vp_in_nI hj hN) d (by rw [nI_clamp (Nat.lt_trans hj hN), hy]; exact g H L ls hP hD hS hl)
theorem x_aald (h : FC F cc own tys) (q0 t0 : Nat) {cA : ClassId} {N : Nat} {f : Nat → Option Nat} {a : Nat} (ha : wd[q0]? = some (a, .inl (cA, N, .inr (.inr (.inr (.inr f)))))) (ht : tys[t0]? = some (cA, .array .int)) {j y : Nat} (hj : j < N) (hN : N < 2 ^ 31) (hy : f j = some y) (d : decode cc pc = .ok (.aaload, 1)) (g : XW F k n wd lv (pc + 1) (.ref y :: st)) : XW F k n wd lv pc (.int (nI j) :: .ref a :: st) := fun H L ls hP hD hS hl => by
  have hin : vp_in (nI j) N := vp_in_nI hj hN
  have hlt : (nI j).toNatClampNeg < N := Nat.not_le.mp fun q => hin (Or.inr q)
  refine W.aald (v := va_rf (f (nI j).toNatClampNeg)) (ty := .array .int) h.1 h.2.1 (hP q0 _ ha) ((h.2.2.2.2.2.1.2 t0 _ ht).1 N (fun j => va_rf (f j))) rfl (fun q => by cases q) (by show ¬ (nI j < 0 ∨ (arrV _ _ _).slots.size ≤ _); rw [arrV_size]; exact hin) (by show (arrV _ _ _).slots[_]? = _; rw [arrV_read _ _ hlt]) rfl rfl d ?_
  rw [nI_clamp (Nat.lt_trans hj hN), hy]
  exact g H L ls hP hD hS hl
theorem x_iast (h : FC F cc own tys) (q0 t0 : Nat) {cA : ClassId} {N : Nat} {f : Nat → Int32} {a : Nat} (ha : wd[q0]? = some (a, .inl (cA, N, .inl f))) (ht : tys[t0]? = some (cA, .int)) {j : Nat} {y : Int32} (hj : j < N) (hN : N < 2 ^ 31) (wd' : va_W) (hw : wd.set q0 (a, .inl (cA, N, .inl (upd f j y))) = wd') (d : decode cc pc = .ok (.iastore, 1)) (g : XW F k n wd' lv (pc + 1) st) : XW F k n wd lv pc (.int y :: .int (nI j) :: .ref a :: st) := fun H L ls hP hD hS hl => va_iast h.1 h.2.1 h.2.2.2.2.2.1 hP hD hS q0 t0 ha ht (vp_in_nI hj hN) d (fun H1 L1 hP1 hD1 hS1 => by rw [nI_clamp (Nat.lt_trans hj hN), hw] at hP1 hD1; exact g H1 L1 ls hP1 hD1 hS1 hl)
theorem x_zast (h : FC F cc own tys) (q0 t0 : Nat) {cA : ClassId} {N : Nat} {f : Nat → Int32} {a : Nat} (ha : wd[q0]? = some (a, .inl (cA, N, .inl f))) (ht : tys[t0]? = some (cA, .boolean)) {j : Nat} {y : Int32} (hj : j < N) (hN : N < 2 ^ 31) (hy : vp_nar .boolean y = y) (wd' : va_W) (hw : wd.set q0 (a, .inl (cA, N, .inl (upd f j y))) = wd') (d : decode cc pc = .ok (.bastore, 1)) (g : XW F k n wd' lv (pc + 1) st) : XW F k n wd lv pc (.int y :: .int (nI j) :: .ref a :: st) := fun H L ls hP hD hS hl => va_zast h.1 h.2.1 h.2.2.2.2.2.1 hP hD hS q0 t0 ha ht (vp_in_nI hj hN) d (fun H1 L1 hP1 hD1 hS1 => by rw [nI_clamp (Nat.lt_trans hj hN), hy, hw] at hP1 hD1; exact g H1 L1 ls hP1 hD1 hS1 hl)
theorem x_last (h : FC F cc own tys) (q0 t0 : Nat) {cA : ClassId} {N : Nat} {f : Nat → Int64} {a : Nat} (ha : wd[q0]? = some (a, .inl (cA, N, .inr (.inl f)))) (ht : tys[t0]? = some (cA, .long)) {j : Nat} {y : Int64} (hj : j < N) (hN : N < 2 ^ 31) (wd' : va_W) (hw : wd.set q0 (a, .inl (cA, N, .inr (.inl (vp_updL f j y)))) = wd') (d : decode cc pc = .ok (.lastore, 1)) (g : XW F k n wd' lv (pc + 1) st) : XW F k n wd lv pc (.long y :: .int (nI j) :: .ref a :: st) := fun H L ls hP hD hS hl => va_last h.1 h.2.1 h.2.2.2.2.2.1 hP hD hS q0 t0 ha ht (vp_in_nI hj hN) d (fun H1 L1 hP1 hD1 hS1 => by rw [nI_clamp (Nat.lt_trans hj hN), hw] at hP1 hD1; exact g H1 L1 ls hP1 hD1 hS1 hl)
theorem x_alen (h : FC F cc own tys) (q0 t0 : Nat) {cA : ClassId} {x : vp_A} {a : Nat} (ha : wd[q0]? = some (a, .inl (cA, x))) {ty : FieldType} (ht : tys[t0]? = some (cA, ty)) (d : decode cc pc = .ok (.arraylength, 1)) (g : XW F k n wd lv (pc + 1) (.int (nI x.1) :: st)) : XW F k n wd lv pc (.ref a :: st) := fun H L ls hP hD hS hl => va_alen h.1 h.2.1 h.2.2.2.2.2.1 hP q0 t0 ha ht rfl d (g H L ls hP hD hS hl)
end Rules2
end
section
/-! contracts: the world w m0 at the start, w m at the end -/
def KPre (D : va_G) (tys : List (ClassId × FieldType)) (wd : va_W) (av : List Value) (sz : Nat) : Array Value → State → Prop := va_Pc av (fun U => U.heap.size = sz ∧ va_P D vwCl wd U.heap ∧ va_K D vwCl tys U ∧ va_D (fun _ => True) wd)
def KB (D : va_G) (tys : List (ClassId × FieldType)) {M : Type} (w : M → va_W) (A : Nat → Prop) (m : M) (t : State) : Prop := va_P D vwCl (w m) t.heap ∧ va_K D vwCl tys t ∧ va_D A (w m)
def KI (l : Launch) (D : va_G) (tys : List (ClassId × FieldType)) {M : Type} (w : M → va_W) (y : MethodName) (cc : ByteArray) (nL : Nat) (ty : FieldType) (rm : Room) (av : List Value) (m0 : M) (post : Int32 → M → Prop) : Prop :=
  ∀ sz : Nat, Met l y (Cond.code y cc nL (some ty) :: UU) rm (KPre D tys (w m0) av sz) (va_Qi post (KB D tys w (va_A (w m0) sz)) (va_A (w m0) sz)) 0 0 (va_A (w m0) sz)
def KL (l : Launch) (D : va_G) (tys : List (ClassId × FieldType)) {M : Type} (w : M → va_W) (y : MethodName) (cc : ByteArray) (nL : Nat) (rm : Room) (av : List Value) (m0 : M) (post : Int64 → M → Prop) : Prop :=
  ∀ sz : Nat, Met l y (Cond.code y cc nL (some .long) :: UU) rm (KPre D tys (w m0) av sz) (va_Ql post (KB D tys w (va_A (w m0) sz)) (va_A (w m0) sz)) 0 0 (va_A (w m0) sz)
def KV (l : Launch) (D : va_G) (tys : List (ClassId × FieldType)) {M : Type} (w : M → va_W) (y : MethodName) (cc : ByteArray) (nL : Nat) (rm : Room) (av : List Value) (m0 : M) (post : M → Prop) : Prop :=
  ∀ sz : Nat, Met l y (Cond.code y cc nL none :: UU) rm (KPre D tys (w m0) av sz) (va_Qv post (KB D tys w (va_A (w m0) sz)) (va_A (w m0) sz)) 0 0 (va_A (w m0) sz)
/-- the frame's end is that of a contract -/
def RI (F : FX) (tys : List (ClassId × FieldType)) {M : Type} (w : M → va_W) (ty : FieldType) (post : Int32 → M → Prop) : Prop := (fx_M F).sig.returnType = some ty ∧ fx_Q F = MQ (fx_b F) (va_Qi post (KB (fx_D F) tys w (fx_A F)) (fx_A F)) (fx_a F) (fx_s F) 0 0 (fx_A F)
def RL9 (F : FX) (tys : List (ClassId × FieldType)) {M : Type} (w : M → va_W) (post : Int64 → M → Prop) : Prop := (fx_M F).sig.returnType = some .long ∧ fx_Q F = MQ (fx_b F) (va_Ql post (KB (fx_D F) tys w (fx_A F)) (fx_A F)) (fx_a F) (fx_s F) 0 0 (fx_A F)
def RV (F : FX) (tys : List (ClassId × FieldType)) {M : Type} (w : M → va_W) (post : M → Prop) : Prop := (fx_M F).sig.returnType = none ∧ fx_Q F = MQ (fx_b F) (va_Qv post (KB (fx_D F) tys w (fx_A F)) (fx_A F)) (fx_a F) (fx_s F) 0 0 (fx_A F)
section Ends9
variable {F : FX} {cc : ByteArray} {own : String} {tys : List (ClassId × FieldType)} {M : Type} {w : M → va_W} {lv : List (Nat × Value)} {pc : Nat}
theorem x_iret (h : FC F cc own tys) {post : Int32 → M → Prop} (hR : RI F tys w .int post) (d : decode cc pc = .ok (.ireturn, 1)) {r : Int32} {m : M} (hp : post r m) : XW F 0 0 (w m) lv pc [.int r] := by
  intro H L ls hP hD hS hl
  obtain ⟨h1, h2⟩ := hR
  rw [h2]
  exact W.iret h.1 h.2.1 h1 (fun t ht hW => ⟨⟨r, m, rfl, hp, by rw [ht]; exact hP, va_K.moved hW.alike h.2.2.2.2.2.1, hD⟩, hS.F ht⟩) hS.2.2 d h.2.2.2.2.2.2.2
theorem x_zret (h : FC F cc own tys) {post : Int32 → M → Prop} (hR : RI F tys w .boolean post) (d : decode cc pc = .ok (.ireturn, 1)) {r : Int32} {m : M} (hn : narrow .boolean (.int r) = .int r) (hp : post r m) : XW F 0 0 (w m) lv pc [.int r] := by
  intro H L ls hP hD hS hl
  obtain ⟨h1, h2⟩ := hR
  rw [h2]
  exact W.zret h.1 h.2.1 h1 hn (fun t ht hW => ⟨⟨r, m, rfl, hp, by rw [ht]; exact hP, va_K.moved hW.alike h.2.2.2.2.2.1, hD⟩, hS.F ht⟩) hS.2.2 d h.2.2.2.2.2.2.2
theorem x_lret (h : FC F cc own tys) {post : Int64 → M → Prop} (hR : RL9 F tys w post) (d : decode cc pc = .ok (.lreturn, 1)) {r : Int64} {m : M} (hp : post r m) : XW F 0 0 (w m) lv pc [.long r] := by
  intro H L ls hP hD hS hl
  obtain ⟨h1, h2⟩ := hR
  rw [h2]
  exact W.lret h.1 h.2.1 h1 (fun t ht hW => ⟨⟨r, m, rfl, hp, by rw [ht]; exact hP, va_K.moved hW.alike h.2.2.2.2.2.1, hD⟩, hS.F ht⟩) hS.2.2 d h.2.2.2.2.2.2.2
theorem x_vret (h : FC F cc own tys) {post : M → Prop} (hR : RV F tys w post) (d : decode cc pc = .ok (.return_, 1)) {m : M} (hp : post m) : XW F 0 0 (w m) lv pc [] := by
  intro H L ls hP hD hS hl
  obtain ⟨h1, h2⟩ := hR
  rw [h2]
  exact W.vret h.1 h.2.1 h1 (fun t ht hW => ⟨⟨m, rfl, hp, by rw [ht]; exact hP, va_K.moved hW.alike h.2.2.2.2.2.1, hD⟩, hS.F ht⟩) hS.2.2 d h.2.2.2.2.2.2.2
end Ends9
section Enters
variable {l : Launch} {D : va_G} {tys : List (ClassId × FieldType)} {M : Type} {w : M → va_W} {y : MethodName} {cc : ByteArray} {nL : Nat} {rm : Room} {av : List Value} {m0 : M}
theorem x_enterI {ty : FieldType} {post : Int32 → M → Prop} (hy : plainName y.cls = true) (hlen : (lg_sl av).length ≤ nL) (h : ∀ F : FX, fx_l F = l → fx_D F = D → fx_n F = nL → fx_R F = rm → FC F cc y.cls tys → RI F tys w ty post → XW F 0 0 (w m0) (lv_args 0 av) 0 []) : KI l D tys w y cc nL ty rm av m0 post := by
  intro sz
  refine Met.ofW (cc := cc) (maxL := nL) (ret := some ty) hy rfl ?_
  intro p e s m args below meth c s₁ B hml hv
  obtain ⟨rfl, hsz, hP, hK, hD0⟩ := hv
  have hts := atoms_spec (ws := Cond.code y cc nL (some ty) :: UU) B.pre
  subst hsz
  have hD := hD0.self (sz := s.heap.size)
  have hl := lv_entry av (n := nL) hlen
  rw [lg_entry_eq]
  have g := h (p, l, e, rm, s, m, av.toArray, below, meth, c, MQ below (va_Qi post (KB D tys w (va_A (w m0) s.heap.size)) (va_A (w m0) s.heap.size)) av.toArray s 0 0 (va_A (w m0) s.heap.size), va_A (w m0) s.heap.size, D, nL) rfl rfl rfl rfl
    ⟨B.exec, B.bytes, hml, findClass_of_methodNamed B.named, fun w hw => hts w (List.mem_cons_of_mem _ hw), hK, fun q hq => Or.inr hq, B.notSynchronized⟩ ⟨B.returns, rfl⟩
  exact g s.heap [] _ hP hD va_S.rf hl
theorem x_enterL {post : Int64 → M → Prop} (hy : plainName y.cls = true) (hlen : (lg_sl av).length ≤ nL) (h : ∀ F : FX, fx_l F = l → fx_D F = D → fx_n F = nL → fx_R F = rm → FC F cc y.cls tys → RL9 F tys w post → XW F 0 0 (w m0) (lv_args 0 av) 0 []) : KL l D tys w y cc nL rm av m0 post := by
  intro sz
  refine Met.ofW (cc := cc) (maxL := nL) (ret := some .long) hy rfl ?_
  intro p e s m args below meth c s₁ B hml hv
  obtain ⟨rfl, hsz, hP, hK, hD0⟩ := hv
  have hts := atoms_spec (ws := Cond.code y cc nL (some .long) :: UU) B.pre
  subst hsz
  have hD := hD0.self (sz := s.heap.size)
  have hl := lv_entry av (n := nL) hlen
  rw [lg_entry_eq]
  have g := h (p, l, e, rm, s, m, av.toArray, below, meth, c, MQ below (va_Ql post (KB D tys w (va_A (w m0) s.heap.size)) (va_A (w m0) s.heap.size)) av.toArray s 0 0 (va_A (w m0) s.heap.size), va_A (w m0) s.heap.size, D, nL) rfl rfl rfl rfl
    ⟨B.exec, B.bytes, hml, findClass_of_methodNamed B.named, fun w hw => hts w (List.mem_cons_of_mem _ hw), hK, fun q hq => Or.inr hq, B.notSynchronized⟩ ⟨B.returns, rfl⟩
  exact g s.heap [] _ hP hD va_S.rf hl
theorem x_enterV {post : M → Prop} (hy : plainName y.cls = true) (hlen : (lg_sl av).length ≤ nL) (h : ∀ F : FX, fx_l F = l → fx_D F = D → fx_n F = nL → fx_R F = rm → FC F cc y.cls tys → RV F tys w post → XW F 0 0 (w m0) (lv_args 0 av) 0 []) : KV l D tys w y cc nL rm av m0 post := by
  intro sz
  refine Met.ofW (cc := cc) (maxL := nL) (ret := none) hy rfl ?_
  intro p e s m args below meth c s₁ B hml hv
  obtain ⟨rfl, hsz, hP, hK, hD0⟩ := hv
  have hts := atoms_spec (ws := Cond.code y cc nL (none) :: UU) B.pre
  subst hsz
  have hD := hD0.self (sz := s.heap.size)
  have hl := lv_entry av (n := nL) hlen
  rw [lg_entry_eq]
  have g := h (p, l, e, rm, s, m, av.toArray, below, meth, c, MQ below (va_Qv post (KB D tys w (va_A (w m0) s.heap.size)) (va_A (w m0) s.heap.size)) av.toArray s 0 0 (va_A (w m0) s.heap.size), va_A (w m0) s.heap.size, D, nL) rfl rfl rfl rfl
    ⟨B.exec, B.bytes, hml, findClass_of_methodNamed B.named, fun w hw => hts w (List.mem_cons_of_mem _ hw), hK, fun q hq => Or.inr hq, B.notSynchronized⟩ ⟨B.returns, rfl⟩
  exact g s.heap [] _ hP hD va_S.rf hl
end Enters
/-! calls -/
theorem fb_pre {D : va_G} {tys : List (ClassId × FieldType)} {wd : va_W} {av : List Value} {sz : Nat} : FrameBlind (KPre D tys wd av sz) := fun a U g mk q => by
  obtain ⟨q0, q1, qP, qK, qD⟩ := q
  exact ⟨q0, q1, qP, va_K.moved (u := U) (U := U.calling g mk a) (Vm.Alike.refl U.vm) qK, qD⟩
def CWV (own : String) (i : Nat) (C : String) (y : MethodName) (cy : ByteArray) (nL : Nat) (ret : Option FieldType) (na : Nat) : Prop := Cond.methodLink own i y ∈ UU ∧ Cond.instanceMethod y ∈ UU ∧ Cond.selects C y y ∈ UU ∧ Cond.initialized C ∈ UU ∧ Cond.code y cy nL ret ∈ UU ∧ (y.cls = C ∧ y.cls ≠ "java/lang/invoke/MethodHandle" ∧ y.cls ≠ "java/lang/invoke/VarHandle" ∧ (parseMethodDescriptor y.desc).map (fun d => d.parameters.length) = some na)
def CWS (own : String) (i : Nat) (y : MethodName) (cy : ByteArray) (nL : Nat) (ret : Option FieldType) (na : Nat) : Prop := Cond.methodLink own i y ∈ UU ∧ Cond.static y ∈ UU ∧ Cond.initialized y.cls ∈ UU ∧ Cond.code y cy nL ret ∈ UU ∧ (y.cls ≠ "java/lang/invoke/MethodHandle" ∧ y.cls ≠ "java/lang/invoke/VarHandle" ∧ (parseMethodDescriptor y.desc).map (fun d => d.parameters.length) = some na)
theorem good_all {own : String} {i : Nat} {C : String} {y : MethodName} {cy : ByteArray} {nL : Nat} {ret : Option FieldType} {na : Nat} (h : CWV own i C y cy nL ret na) : GoodIn UU (wsV own i C y (Cond.code y cy nL ret :: UU)) := by
  obtain ⟨h1, h2, h3, h4, h5, -⟩ := h
  intro w hw
  have hu : w ∈ UU := by
    rcases List.mem_append.mp hw with hw | hw
    · rcases List.mem_cons.mp hw with rfl | hw
      · exact h1
      rcases List.mem_cons.mp hw with rfl | hw
      · exact h2
      rcases List.mem_cons.mp hw with rfl | hw
      · exact h3
      rcases List.mem_cons.mp hw with rfl | hw
      · exact h4
      cases hw
    · rcases List.mem_cons.mp hw with rfl | hw
      · exact h5
      · exact hw
  exact uu_good w hu
theorem good_allS {own : String} {i : Nat} {y : MethodName} {cy : ByteArray} {nL : Nat} {ret : Option FieldType} {na : Nat} (h : CWS own i y cy nL ret na) : GoodIn UU (va_wsS own i y (Cond.code y cy nL ret :: UU)) := by
  obtain ⟨h1, h2, h3, h4, -⟩ := h
  intro w hw
  have hu : w ∈ UU := by
    rcases List.mem_append.mp hw with hw | hw
    · rcases List.mem_cons.mp hw with rfl | hw
      · exact h1
      rcases List.mem_cons.mp hw with rfl | hw
      · exact h2
      rcases List.mem_cons.mp hw with rfl | hw
      · exact h3
      cases hw
    · rcases List.mem_cons.mp hw with rfl | hw
      · exact h4
      · exact hw
  exact uu_good w hu
/-- a callee's room fits into this frame's -/
def RmOk (rm : Room) (nL k n : Nat) (R : Room) : Prop := (rm.cells = 0 ∧ rm.slots = 0) ∧ (rm.frames + 1 ≤ R.frames ∧ 8 + (nL + 11) + rm.locals ≤ R.locals) ∧ (k + 0 ≤ R.cells ∧ n + 0 ≤ R.slots)
theorem rm_ok {a b nL : Nat} {R : Room} (hR : R = rmL b) (h : a < b) (hn : nL ≤ 21) : RmOk (rmL a) nL 0 0 R := by
  subst hR
  refine ⟨⟨rfl, rfl⟩, ⟨?_, ?_⟩, ⟨Nat.le_refl _, Nat.le_refl _⟩⟩
  · show a + 1 ≤ b; omega
  · show 8 + (nL + 11) + 40 * a ≤ 40 * b; omega
section Calls9
variable {F : FX} {cc : ByteArray} {own : String} {tys : List (ClassId × FieldType)} {M : Type} {w : M → va_W} {lv : List (Nat × Value)} {pc k n : Nat} {i : Nat} {C : String} {y : MethodName} {cy : ByteArray} {nL : Nat} {na : Nat} {rm : Room} {m0 : M} {b : Nat} {As st0 : List Value}
theorem x_freeF {H0 H : Heap} {locs : List Loc} {A : Nat → Prop} {wd : va_W} (hD : va_D A wd) (hS : va_S A H0 H locs) (hA : ∀ q, H0.size ≤ q → A q) : ∀ q, va_A wd H.size q → A q := by
  intro q hq
  rcases hq with ⟨k, e, hk⟩ | hq
  · exact hD.2 k (q, e) hk
  · exact hA q (Nat.le_trans hS.1 hq)
theorem x_callVI (h : FC F cc own tys) {ty : FieldType} {post : Int32 → M → Prop} (cw : CWV own i C y cy nL (some ty) na) (hM : KI (fx_l F) (fx_D F) tys w y cy nL ty rm (.ref b :: As) m0 post) (d : decode cc pc = .ok (.invokevirtual i, 3)) (rest : List Value) (hst : st0 = As.reverse ++ .ref b :: rest) (hrs : (rest.map fun v => v.category).sum ≤ 8) (hna : As.length = na) (hrm : RmOk rm nL k n (fx_R F)) (ci q0 : Nat) {T : u_T} {N : Nat} (hc : vwCl[ci]? = some (C, T, N)) {fs : List Value} (he : (w m0)[q0]? = some (b, .inr (ci, fs)))
    (kk : ∀ (r : Int32) (m : M), post r m → XW F k n (w m) lv (pc + 3) (.int r :: rest)) : XW F k n (w m0) lv pc st0 := by
  intro H L ls hP hD hS hl
  have hFc := x_freeF hD hS h.2.2.2.2.2.2.1
  refine va_calli (va_runV (As := As) (rest := rest) ⟨h.1, h.2.1, h.2.2.1, h.2.2.2.1, h.2.2.2.2.1⟩ (hM H.size) (cwV na h.2.2.2.2.1 (good_all cw) rfl hrm.1.1 hrm.1.2 cw.2.2.2.2.2 hrm.2.1) ⟨fb_pre, va_recv h.2.2.2.2.2.1 hP hc he, fun U hU hW => ⟨rfl, by rw [hU], by rw [hU]; exact hP, va_K.moved hW.alike h.2.2.2.2.2.1, hD.weaken (fun _ _ _ _ => trivial)⟩⟩ rfl hna hl.1 hst (lv_room hrs) d hrm.2.2) hS (fun q _ hq => hFc q hq) hFc (fun r m t H1 locs ht hvm hw hB hz1 hk1 hS => ?_)
  obtain ⟨hP1, hK1, hD1⟩ := hB
  rw [ht] at hP1
  exact kk r m hw H1 locs ls hP1 (hD1.weaken (fun _ q _ hq => hFc _ hq)) hS hl
theorem x_callSI (h : FC F cc own tys) {ty : FieldType} {post : Int32 → M → Prop} (cw : CWS own i y cy nL (some ty) na) (hM : KI (fx_l F) (fx_D F) tys w y cy nL ty rm As m0 post) (d : decode cc pc = .ok (.invokestatic i, 3)) (rest : List Value) (hst : st0 = As.reverse ++ rest) (hrs : (rest.map fun v => v.category).sum ≤ 8) (hna : As.length = na) (hrm : RmOk rm nL k n (fx_R F))
    (kk : ∀ (r : Int32) (m : M), post r m → XW F k n (w m) lv (pc + 3) (.int r :: rest)) : XW F k n (w m0) lv pc st0 := by
  intro H L ls hP hD hS hl
  have hFc := x_freeF hD hS h.2.2.2.2.2.2.1
  refine va_calli (va_runS (As := As) (rest := rest) ⟨h.1, h.2.1, h.2.2.1, h.2.2.2.1, h.2.2.2.2.1⟩ (hM H.size) (va_cwS na h.2.2.2.2.1 (good_allS cw) rfl hrm.1.1 hrm.1.2 cw.2.2.2.2 hrm.2.1) ⟨fb_pre, fun U hU hW => ⟨rfl, by rw [hU], by rw [hU]; exact hP, va_K.moved hW.alike h.2.2.2.2.2.1, hD.weaken (fun _ _ _ _ => trivial)⟩⟩ rfl hna hl.1 hst (lv_room hrs) d hrm.2.2) hS (fun q _ hq => hFc q hq) hFc (fun r m t H1 locs ht hvm hw hB hz1 hk1 hS => ?_)
  obtain ⟨hP1, hK1, hD1⟩ := hB
  rw [ht] at hP1
  exact kk r m hw H1 locs ls hP1 (hD1.weaken (fun _ q _ hq => hFc _ hq)) hS hl
theorem x_callVL (h : FC F cc own tys) {post : Int64 → M → Prop} (cw : CWV own i C y cy nL (some .long) na) (hM : KL (fx_l F) (fx_D F) tys w y cy nL rm (.ref b :: As) m0 post) (d : decode cc pc = .ok (.invokevirtual i, 3)) (rest : List Value) (hst : st0 = As.reverse ++ .ref b :: rest) (hrs : (rest.map fun v => v.category).sum ≤ 8) (hna : As.length = na) (hrm : RmOk rm nL k n (fx_R F)) (ci q0 : Nat) {T : u_T} {N : Nat} (hc : vwCl[ci]? = some (C, T, N)) {fs : List Value} (he : (w m0)[q0]? = some (b, .inr (ci, fs)))
    (kk : ∀ (r : Int64) (m : M), post r m → XW F k n (w m) lv (pc + 3) (.long r :: rest)) : XW F k n (w m0) lv pc st0 := by
  intro H L ls hP hD hS hl
  have hFc := x_freeF hD hS h.2.2.2.2.2.2.1
  refine va_calll (va_runV (As := As) (rest := rest) ⟨h.1, h.2.1, h.2.2.1, h.2.2.2.1, h.2.2.2.2.1⟩ (hM H.size) (cwV na h.2.2.2.2.1 (good_all cw) rfl hrm.1.1 hrm.1.2 cw.2.2.2.2.2 hrm.2.1) ⟨fb_pre, va_recv h.2.2.2.2.2.1 hP hc he, fun U hU hW => ⟨rfl, by rw [hU], by rw [hU]; exact hP, va_K.moved hW.alike h.2.2.2.2.2.1, hD.weaken (fun _ _ _ _ => trivial)⟩⟩ rfl hna hl.1 hst (lv_room hrs) d hrm.2.2) hS (fun q _ hq => hFc q hq) hFc (fun r m t H1 locs ht hvm hw hB hz1 hk1 hS => ?_)
  obtain ⟨hP1, hK1, hD1⟩ := hB
  rw [ht] at hP1
  exact kk r m hw H1 locs ls hP1 (hD1.weaken (fun _ q _ hq => hFc _ hq)) hS hl
theorem x_callSL (h : FC F cc own tys) {post : Int64 → M → Prop} (cw : CWS own i y cy nL (some .long) na) (hM : KL (fx_l F) (fx_D F) tys w y cy nL rm As m0 post) (d : decode cc pc = .ok (.invokestatic i, 3)) (rest : List Value) (hst : st0 = As.reverse ++ rest) (hrs : (rest.map fun v => v.category).sum ≤ 8) (hna : As.length = na) (hrm : RmOk rm nL k n (fx_R F))
    (kk : ∀ (r : Int64) (m : M), post r m → XW F k n (w m) lv (pc + 3) (.long r :: rest)) : XW F k n (w m0) lv pc st0 := by
  intro H L ls hP hD hS hl
  have hFc := x_freeF hD hS h.2.2.2.2.2.2.1
  refine va_calll (va_runS (As := As) (rest := rest) ⟨h.1, h.2.1, h.2.2.1, h.2.2.2.1, h.2.2.2.2.1⟩ (hM H.size) (va_cwS na h.2.2.2.2.1 (good_allS cw) rfl hrm.1.1 hrm.1.2 cw.2.2.2.2 hrm.2.1) ⟨fb_pre, fun U hU hW => ⟨rfl, by rw [hU], by rw [hU]; exact hP, va_K.moved hW.alike h.2.2.2.2.2.1, hD.weaken (fun _ _ _ _ => trivial)⟩⟩ rfl hna hl.1 hst (lv_room hrs) d hrm.2.2) hS (fun q _ hq => hFc q hq) hFc (fun r m t H1 locs ht hvm hw hB hz1 hk1 hS => ?_)
  obtain ⟨hP1, hK1, hD1⟩ := hB
  rw [ht] at hP1
  exact kk r m hw H1 locs ls hP1 (hD1.weaken (fun _ q _ hq => hFc _ hq)) hS hl
theorem x_callVV (h : FC F cc own tys) {post : M → Prop} (cw : CWV own i C y cy nL (none) na) (hM : KV (fx_l F) (fx_D F) tys w y cy nL rm (.ref b :: As) m0 post) (d : decode cc pc = .ok (.invokevirtual i, 3)) (rest : List Value) (hst : st0 = As.reverse ++ .ref b :: rest) (hrs : (rest.map fun v => v.category).sum ≤ 8) (hna : As.length = na) (hrm : RmOk rm nL k n (fx_R F)) (ci q0 : Nat) {T : u_T} {N : Nat} (hc : vwCl[ci]? = some (C, T, N)) {fs : List Value} (he : (w m0)[q0]? = some (b, .inr (ci, fs)))
    (kk : ∀ (m : M), post m → XW F k n (w m) lv (pc + 3) rest) : XW F k n (w m0) lv pc st0 := by
  intro H L ls hP hD hS hl
  have hFc := x_freeF hD hS h.2.2.2.2.2.2.1
  refine va_callv (va_runV (As := As) (rest := rest) ⟨h.1, h.2.1, h.2.2.1, h.2.2.2.1, h.2.2.2.2.1⟩ (hM H.size) (cwV na h.2.2.2.2.1 (good_all cw) rfl hrm.1.1 hrm.1.2 cw.2.2.2.2.2 hrm.2.1) ⟨fb_pre, va_recv h.2.2.2.2.2.1 hP hc he, fun U hU hW => ⟨rfl, by rw [hU], by rw [hU]; exact hP, va_K.moved hW.alike h.2.2.2.2.2.1, hD.weaken (fun _ _ _ _ => trivial)⟩⟩ rfl hna hl.1 hst (lv_room hrs) d hrm.2.2) hS (fun q _ hq => hFc q hq) hFc (fun m t H1 locs ht hvm hw hB hz1 hk1 hS => ?_)
  obtain ⟨hP1, hK1, hD1⟩ := hB
  rw [ht] at hP1
  exact kk m hw H1 locs ls hP1 (hD1.weaken (fun _ q _ hq => hFc _ hq)) hS hl
theorem x_callSV (h : FC F cc own tys) {post : M → Prop} (cw : CWS own i y cy nL (none) na) (hM : KV (fx_l F) (fx_D F) tys w y cy nL rm As m0 post) (d : decode cc pc = .ok (.invokestatic i, 3)) (rest : List Value) (hst : st0 = As.reverse ++ rest) (hrs : (rest.map fun v => v.category).sum ≤ 8) (hna : As.length = na) (hrm : RmOk rm nL k n (fx_R F))
    (kk : ∀ (m : M), post m → XW F k n (w m) lv (pc + 3) rest) : XW F k n (w m0) lv pc st0 := by
  intro H L ls hP hD hS hl
  have hFc := x_freeF hD hS h.2.2.2.2.2.2.1
  refine va_callv (va_runS (As := As) (rest := rest) ⟨h.1, h.2.1, h.2.2.1, h.2.2.2.1, h.2.2.2.2.1⟩ (hM H.size) (va_cwS na h.2.2.2.2.1 (good_allS cw) rfl hrm.1.1 hrm.1.2 cw.2.2.2.2 hrm.2.1) ⟨fb_pre, fun U hU hW => ⟨rfl, by rw [hU], by rw [hU]; exact hP, va_K.moved hW.alike h.2.2.2.2.2.1, hD.weaken (fun _ _ _ _ => trivial)⟩⟩ rfl hna hl.1 hst (lv_room hrs) d hrm.2.2) hS (fun q _ hq => hFc q hq) hFc (fun m t H1 locs ht hvm hw hB hz1 hk1 hS => ?_)
  obtain ⟨hP1, hK1, hD1⟩ := hB
  rw [ht] at hP1
  exact kk m hw H1 locs ls hP1 (hD1.weaken (fun _ q _ hq => hFc _ hq)) hS hl
end Calls9
/-! static methods of numbers alone: an empty world -/
def w0 (_ : Unit) : va_W := []
section CallsN
variable {F : FX} {cc : ByteArray} {own : String} {tys : List (ClassId × FieldType)} {wd : va_W} {lv : List (Nat × Value)} {pc k n : Nat} {i : Nat} {y : MethodName} {cy : ByteArray} {nL : Nat} {na : Nat} {rm : Room} {As st0 : List Value}
theorem x_callN (h : FC F cc own tys) {r : Int32} {ty : FieldType} (cw : CWS own i y cy nL (some ty) na) (hM : KI (fx_l F) (fx_D F) tys w0 y cy nL ty rm As () (fun x u => x = r ∧ u = ())) (d : decode cc pc = .ok (.invokestatic i, 3)) (rest : List Value) (hst : st0 = As.reverse ++ rest) (hrs : (rest.map fun v => v.category).sum ≤ 8) (hna : As.length = na) (hrm : RmOk rm nL k n (fx_R F)) (kk : XW F k n wd lv (pc + 3) (.int r :: rest)) : XW F k n wd lv pc st0 := by
  intro H L ls hP hD hS hl
  have hA0 : ∀ q, va_A (w0 ()) H.size q → H.size ≤ q := by
    intro q hq
    rcases hq with ⟨k, e, hk⟩ | hq
    · cases hk
    · exact hq
  have hFc : ∀ q, va_A (w0 ()) H.size q → fx_A F q := fun q hq => h.2.2.2.2.2.2.1 q (Nat.le_trans hS.1 (hA0 q hq))
  refine va_calli (va_runS (As := As) (rest := rest) ⟨h.1, h.2.1, h.2.2.1, h.2.2.2.1, h.2.2.2.2.1⟩ (hM H.size) (va_cwS na h.2.2.2.2.1 (good_allS cw) rfl hrm.1.1 hrm.1.2 cw.2.2.2.2 hrm.2.1) ⟨fb_pre, fun U hU hW => ⟨rfl, by rw [hU], (fun k q hq => by cases hq), va_K.moved hW.alike h.2.2.2.2.2.1, ⟨(fun i j p q hi => by cases hi), (fun k q hq => by cases hq)⟩⟩⟩ rfl hna hl.1 hst (lv_room hrs) d hrm.2.2) hS (fun q _ hq => hFc q hq) hFc (fun r1 m t H1 locs ht hvm hw hB hz1 hk1 hS => ?_)
  obtain ⟨rfl, -⟩ := hw
  refine kk H1 locs ls (hP.kept (fun k q hq => hk1 q.1 (hP k q hq).lt (fun z => Nat.not_lt.mpr (hA0 _ z) (hP k q hq).lt))) hD hS hl
def CMm (own : String) (i : Nat) (y : MethodName) (cy : ByteArray) : Prop := Cond.methodLink own i y ∈ UU ∧ Cond.static y ∈ UU ∧ Cond.initialized "java/lang/Math" ∈ UU ∧ Cond.code y cy 2 (some .int) ∈ UU
theorem x_min (h : FC F cc own tys) (cw : CMm own i Lib.Math.min.name Lib.Math.min.code) (d : decode cc pc = .ok (.invokestatic i, 3)) {x z v : Int32} {rest : List Value} (hv : (if z < x then z else x) = v) (h1 : 1 ≤ (fx_R F).frames) (h2 : (rest.map fun v => v.category).sum + 13 ≤ (fx_R F).locals) (h3 : k ≤ (fx_R F).cells) (h4 : n ≤ (fx_R F).slots) (kk : XW F k n wd lv (pc + 3) (.int v :: rest)) : XW F k n wd lv pc (.int z :: .int x :: rest) := by
  intro H L ls hP hD hS hl
  subst hv
  exact va_mmin h.1 h.2.1 (by rw [h.2.2.1]; exact hl.1.symm) h.2.2.2.1 (h.2.2.2.2.1 _ cw.1) (h.2.2.2.2.1 _ cw.2.1) (h.2.2.2.2.1 _ cw.2.2.1) (h.2.2.2.2.1 _ cw.2.2.2) h1 h2 h3 h4 d (kk H L ls hP hD hS hl)
theorem x_max (h : FC F cc own tys) (cw : CMm own i Lib.Math.max.name Lib.Math.max.code) (d : decode cc pc = .ok (.invokestatic i, 3)) {x z v : Int32} {rest : List Value} (hv : (if x < z then z else x) = v) (h1 : 1 ≤ (fx_R F).frames) (h2 : (rest.map fun v => v.category).sum + 13 ≤ (fx_R F).locals) (h3 : k ≤ (fx_R F).cells) (h4 : n ≤ (fx_R F).slots) (kk : XW F k n wd lv (pc + 3) (.int v :: rest)) : XW F k n wd lv pc (.int z :: .int x :: rest) := by
  intro H L ls hP hD hS hl
  subst hv
  exact va_mmax h.1 h.2.1 (by rw [h.2.2.1]; exact hl.1.symm) h.2.2.2.1 (h.2.2.2.2.1 _ cw.1) (h.2.2.2.2.1 _ cw.2.1) (h.2.2.2.2.1 _ cw.2.2.1) (h.2.2.2.2.1 _ cw.2.2.2) h1 h2 h3 h4 d (kk H L ls hP hD hS hl)
end CallsN
end
section
theorem ufX0 : ∀ w ∈ u_ws RX0 TX0 3, w ∈ UU := by
  intro w hw
  obtain ⟨k, hk, rfl⟩ := List.mem_map.mp hw
  have hk := List.mem_range.mp hk
  match k, hk with
  | 0, _ => exact uu_1 (i := 38) rfl rfl
  | 1, _ => exact uu_1 (i := 40) rfl rfl
  | 2, _ => exact uu_1 (i := 42) rfl rfl
  | k + 3, h => exact absurd h (by omega)
theorem ufX1 : ∀ w ∈ u_ws RX1 TX1 5, w ∈ UU := by
  intro w hw
  obtain ⟨k, hk, rfl⟩ := List.mem_map.mp hw
  have hk := List.mem_range.mp hk
  match k, hk with
  | 0, _ => exact uu_1 (i := 78) rfl rfl
  | 1, _ => exact uu_1 (i := 80) rfl rfl
  | 2, _ => exact uu_1 (i := 82) rfl rfl
  | 3, _ => exact uu_1 (i := 84) rfl rfl
  | 4, _ => exact uu_1 (i := 86) rfl rfl
  | k + 5, h => exact absurd h (by omega)
theorem ufX2 : ∀ w ∈ u_ws RX2 TX2 2, w ∈ UU := by
  intro w hw
  obtain ⟨k, hk, rfl⟩ := List.mem_map.mp hw
  have hk := List.mem_range.mp hk
  match k, hk with
  | 0, _ => exact uu_1 (i := 57) rfl rfl
  | 1, _ => exact uu_1 (i := 59) rfl rfl
  | k + 2, h => exact absurd h (by omega)
theorem ufX3 : ∀ w ∈ u_ws RX3 TX3 4, w ∈ UU := by
  intro w hw
  obtain ⟨k, hk, rfl⟩ := List.mem_map.mp hw
  have hk := List.mem_range.mp hk
  match k, hk with
  | 0, _ => exact uu_1 (i := 143) rfl rfl
  | 1, _ => exact uu_1 (i := 145) rfl rfl
  | 2, _ => exact uu_1 (i := 147) rfl rfl
  | 3, _ => exact uu_1 (i := 149) rfl rfl
  | k + 4, h => exact absurd h (by omega)
theorem ufX4 : ∀ w ∈ u_ws RX4 TX4 10, w ∈ UU := by
  intro w hw
  obtain ⟨k, hk, rfl⟩ := List.mem_map.mp hw
  have hk := List.mem_range.mp hk
  match k, hk with
  | 0, _ => exact uu_1 (i := 112) rfl rfl
  | 1, _ => exact uu_1 (i := 114) rfl rfl
  | 2, _ => exact uu_1 (i := 116) rfl rfl
  | 3, _ => exact uu_1 (i := 118) rfl rfl
  | 4, _ => exact uu_1 (i := 120) rfl rfl
  | 5, _ => exact uu_1 (i := 122) rfl rfl
  | 6, _ => exact uu_1 (i := 124) rfl rfl
  | 7, _ => exact uu_1 (i := 126) rfl rfl
  | 8, _ => exact uu_1 (i := 128) rfl rfl
  | 9, _ => exact uu_1 (i := 130) rfl rfl
  | k + 10, h => exact absurd h (by omega)
theorem ufX5 : ∀ w ∈ u_ws RX5 TX5 6, w ∈ UU := by
  intro w hw
  obtain ⟨k, hk, rfl⟩ := List.mem_map.mp hw
  have hk := List.mem_range.mp hk
  match k, hk with
  | 0, _ => exact uu_1 (i := 158) rfl rfl
  | 1, _ => exact uu_1 (i := 160) rfl rfl
  | 2, _ => exact uu_1 (i := 162) rfl rfl
  | 3, _ => exact uu_1 (i := 164) rfl rfl
  | 4, _ => exact uu_1 (i := 166) rfl rfl
  | 5, _ => exact uu_1 (i := 168) rfl rfl
  | k + 6, h => exact absurd h (by omega)
theorem ufX6 : ∀ w ∈ u_ws RX6 TX6 25, w ∈ UU := by
  intro w hw
  obtain ⟨k, hk, rfl⟩ := List.mem_map.mp hw
  have hk := List.mem_range.mp hk
  match k, hk with
  | 0, _ => exact uu_3 (i := 206) rfl rfl
  | 1, _ => exact uu_3 (i := 208) rfl rfl
  | 2, _ => exact uu_3 (i := 210) rfl rfl
  | 3, _ => exact uu_3 (i := 212) rfl rfl
  | 4, _ => exact uu_3 (i := 214) rfl rfl
  | 5, _ => exact uu_3 (i := 216) rfl rfl
  | 6, _ => exact uu_3 (i := 218) rfl rfl
  | 7, _ => exact uu_3 (i := 220) rfl rfl
  | 8, _ => exact uu_3 (i := 222) rfl rfl
  | 9, _ => exact uu_3 (i := 224) rfl rfl
  | 10, _ => exact uu_3 (i := 226) rfl rfl
  | 11, _ => exact uu_3 (i := 228) rfl rfl
  | 12, _ => exact uu_3 (i := 230) rfl rfl
  | 13, _ => exact uu_3 (i := 232) rfl rfl
  | 14, _ => exact uu_3 (i := 234) rfl rfl
  | 15, _ => exact uu_3 (i := 236) rfl rfl
  | 16, _ => exact uu_3 (i := 238) rfl rfl
  | 17, _ => exact uu_4 (i := 0) rfl rfl
  | 18, _ => exact uu_4 (i := 2) rfl rfl
  | 19, _ => exact uu_4 (i := 4) rfl rfl
  | 20, _ => exact uu_4 (i := 6) rfl rfl
  | 21, _ => exact uu_4 (i := 8) rfl rfl
  | 22, _ => exact uu_4 (i := 10) rfl rfl
  | 23, _ => exact uu_4 (i := 12) rfl rfl
  | 24, _ => exact uu_4 (i := 14) rfl rfl
  | k + 25, h => exact absurd h (by omega)
theorem fl_X0_9 : FLk RX0 9 0 0 := ⟨RX0, TX0, 3, rfl, by decide, ufX0, uu_1 (i := 32) rfl rfl⟩
theorem fp_X0_9 : FPk RX0 9 0 0 .int := ⟨RX0, TX0, 3, tyX0, rfl, by decide, ufX0, uu_1 (i := 32) rfl rfl, tyX0_ok, nmX0, rfl, by decide +kernel⟩
theorem fl_X0_15 : FLk RX0 15 0 1 := ⟨RX0, TX0, 3, rfl, by decide, ufX0, uu_1 (i := 35) rfl rfl⟩
theorem fp_X0_15 : FPk RX0 15 0 1 .int := ⟨RX0, TX0, 3, tyX0, rfl, by decide, ufX0, uu_1 (i := 35) rfl rfl, tyX0_ok, nmX0, rfl, by decide +kernel⟩
theorem fl_X0_20 : FLk RX0 20 0 2 := ⟨RX0, TX0, 3, rfl, by decide, ufX0, uu_1 (i := 37) rfl rfl⟩
theorem cw_X0_23 : CWV RX0 23 RX0 yX0_open cX0_open 2 (some .int) 1 := ⟨uu_2 (i := 104) rfl rfl, uu_2 (i := 18) rfl rfl, uu_2 (i := 19) rfl rfl, uu_1 (i := 2) rfl rfl, uu_2 (i := 20) rfl rfl, by decide +kernel⟩
theorem cw_X0_27 : CWV RX0 27 RX0 yX0_openSet cX0_openSet 1 (some .int) 0 := ⟨uu_2 (i := 100) rfl rfl, uu_2 (i := 101) rfl rfl, uu_2 (i := 102) rfl rfl, uu_1 (i := 2) rfl rfl, uu_2 (i := 103) rfl rfl, by decide +kernel⟩
theorem cs_X0_31 : CWS RX0 31 yJ6_bitCount_0f7a4 cJ6_bitCount_0f7a4 1 (some .int) 1 := ⟨uu_2 (i := 105) rfl rfl, uu_2 (i := 42) rfl rfl, uu_1 (i := 9) rfl rfl, uu_2 (i := 43) rfl rfl, by decide +kernel⟩
theorem cw_X0_36 : CWV RX0 36 RX0 yX0_openCells cX0_openCells 1 (some .int) 0 := ⟨uu_2 (i := 96) rfl rfl, uu_2 (i := 97) rfl rfl, uu_2 (i := 98) rfl rfl, uu_1 (i := 2) rfl rfl, uu_2 (i := 99) rfl rfl, by decide +kernel⟩
theorem cm_X0_39 : CMm RX0 39 Lib.Math.min.name Lib.Math.min.code := ⟨uu_1 (i := 229) rfl rfl, uu_1 (i := 230) rfl rfl, uu_1 (i := 8) rfl rfl, uu_1 (i := 231) rfl rfl⟩
theorem cw_X0_45 : CWV RX0 45 RX0 yX0_agedChance cX0_agedChance 3 (some .int) 2 := ⟨uu_2 (i := 12) rfl rfl, uu_1 (i := 226) rfl rfl, uu_1 (i := 227) rfl rfl, uu_1 (i := 2) rfl rfl, uu_1 (i := 228) rfl rfl, by decide +kernel⟩
theorem cw_X0_48 : CWV RX0 48 RX0 yX0_isMasked cX0_isMasked 2 (some .boolean) 1 := ⟨uu_2 (i := 151) rfl rfl, uu_1 (i := 222) rfl rfl, uu_1 (i := 223) rfl rfl, uu_1 (i := 2) rfl rfl, uu_1 (i := 224) rfl rfl, by decide +kernel⟩
theorem cw_X0_52 : CWV RX0 52 RX0 yX0_mateOf cX0_mateOf 4 (some .int) 1 := ⟨uu_2 (i := 166) rfl rfl, uu_2 (i := 168) rfl rfl, uu_0 (i := 7) rfl rfl, uu_1 (i := 2) rfl rfl, uu_2 (i := 169) rfl rfl, by decide +kernel⟩
theorem cs_X0_55 : CWS RX0 55 yX0_expectedOfTwo cX0_expectedOfTwo 2 (some .int) 2 := ⟨uu_2 (i := 190) rfl rfl, uu_2 (i := 191) rfl rfl, uu_1 (i := 2) rfl rfl, uu_2 (i := 192) rfl rfl, by decide +kernel⟩
theorem cs_X0_58 : CWS RX0 58 yJ6_numberOfLeadingZeros_0f7a4 cJ6_numberOfLeadingZeros_0f7a4 2 (some .int) 1 := ⟨uu_2 (i := 170) rfl rfl, uu_2 (i := 171) rfl rfl, uu_1 (i := 9) rfl rfl, uu_2 (i := 172) rfl rfl, by decide +kernel⟩
theorem fl_X1_7 : FLk RX1 7 1 0 := ⟨RX1, TX1, 5, rfl, by decide, ufX1, uu_1 (i := 68) rfl rfl⟩
theorem fp_X1_7 : FPk RX1 7 1 0 .int := ⟨RX1, TX1, 5, tyX1, rfl, by decide, ufX1, uu_1 (i := 68) rfl rfl, tyX1_ok, nmX1, rfl, by decide +kernel⟩
theorem fl_X1_13 : FLk RX1 13 1 1 := ⟨RX1, TX1, 5, rfl, by decide, ufX1, uu_1 (i := 70) rfl rfl⟩
theorem fl_X1_17 : FLk RX1 17 1 2 := ⟨RX1, TX1, 5, rfl, by decide, ufX1, uu_1 (i := 72) rfl rfl⟩
theorem fl_X1_21 : FLk RX1 21 1 3 := ⟨RX1, TX1, 5, rfl, by decide, ufX1, uu_1 (i := 74) rfl rfl⟩
theorem fl_X1_24 : FLk RX1 24 1 4 := ⟨RX1, TX1, 5, rfl, by decide, ufX1, uu_1 (i := 76) rfl rfl⟩
theorem cs_X1_27 : CWS RX1 27 yJ6_bitCount_0f7a4 cJ6_bitCount_0f7a4 1 (some .int) 1 := ⟨uu_3 (i := 32) rfl rfl, uu_2 (i := 42) rfl rfl, uu_1 (i := 9) rfl rfl, uu_2 (i := 43) rfl rfl, by decide +kernel⟩
theorem cw_X1_33 : CWV RX1 33 RX1 yX1_nearest cX1_nearest 7 (some .int) 2 := ⟨uu_3 (i := 41) rfl rfl, uu_3 (i := 29) rfl rfl, uu_3 (i := 30) rfl rfl, uu_1 (i := 4) rfl rfl, uu_3 (i := 31) rfl rfl, by decide +kernel⟩
theorem cm_X1_39 : CMm RX1 39 Lib.Math.min.name Lib.Math.min.code := ⟨uu_3 (i := 50) rfl rfl, uu_1 (i := 230) rfl rfl, uu_1 (i := 8) rfl rfl, uu_1 (i := 231) rfl rfl⟩
theorem fl_X2_7 : FLk RX2 7 2 0 := ⟨RX2, TX2, 2, rfl, by decide, ufX2, uu_1 (i := 52) rfl rfl⟩
theorem fp_X2_7 : FPk RX2 7 2 0 .int := ⟨RX2, TX2, 2, tyX2, rfl, by decide, ufX2, uu_1 (i := 52) rfl rfl, tyX2_ok, nmX2, rfl, by decide +kernel⟩
theorem fl_X2_13 : FLk RX2 13 2 1 := ⟨RX2, TX2, 2, rfl, by decide, ufX2, uu_1 (i := 54) rfl rfl⟩
theorem cw_X2_17 : CWV RX2 17 RX2 yX2_keys cX2_keys 1 (some .int) 0 := ⟨uu_2 (i := 25) rfl rfl, uu_2 (i := 26) rfl rfl, uu_2 (i := 27) rfl rfl, uu_1 (i := 3) rfl rfl, uu_2 (i := 28) rfl rfl, by decide +kernel⟩
theorem cs_X2_21 : CWS RX2 21 yJ6_bitCount_0f7a4 cJ6_bitCount_0f7a4 1 (some .int) 1 := ⟨uu_2 (i := 41) rfl rfl, uu_2 (i := 42) rfl rfl, uu_1 (i := 9) rfl rfl, uu_2 (i := 43) rfl rfl, by decide +kernel⟩
theorem cw_X2_27 : CWV RX2 27 RX2 yX2_nearestKey cX2_nearestKey 7 (some .int) 1 := ⟨uu_2 (i := 71) rfl rfl, uu_2 (i := 60) rfl rfl, uu_2 (i := 61) rfl rfl, uu_1 (i := 3) rfl rfl, uu_2 (i := 62) rfl rfl, by decide +kernel⟩
theorem fl_X3_11 : FLk RX3 11 3 2 := ⟨RX3, TX3, 4, rfl, by decide, ufX3, uu_1 (i := 141) rfl rfl⟩
theorem fl_X3_17 : FLk RX3 17 3 3 := ⟨RX3, TX3, 4, rfl, by decide, ufX3, uu_1 (i := 142) rfl rfl⟩
theorem fl_X3_20 : FLk RX3 20 3 0 := ⟨RX3, TX3, 4, rfl, by decide, ufX3, uu_1 (i := 139) rfl rfl⟩
theorem fl_X3_24 : FLk RX3 24 3 1 := ⟨RX3, TX3, 4, rfl, by decide, ufX3, uu_1 (i := 140) rfl rfl⟩
theorem cw_X3_28 : CWV RX3 28 RX3 yX3_growTo cX3_growTo 5 (none) 1 := ⟨uu_2 (i := 122) rfl rfl, uu_2 (i := 124) rfl rfl, uu_0 (i := 4) rfl rfl, uu_1 (i := 6) rfl rfl, uu_2 (i := 125) rfl rfl, by decide +kernel⟩
theorem cw_X3_32 : CWV RX3 32 RX2 yX2_isKey cX2_isKey 2 (some .boolean) 1 := ⟨uu_2 (i := 128) rfl rfl, uu_2 (i := 52) rfl rfl, uu_2 (i := 53) rfl rfl, uu_1 (i := 3) rfl rfl, uu_2 (i := 54) rfl rfl, by decide +kernel⟩
theorem fl_X3_38 : FLk RX3 38 2 1 := ⟨RX2, TX2, 2, rfl, by decide, ufX2, uu_1 (i := 55) rfl rfl⟩
theorem cw_X3_41 : CWV RX3 41 RX0 yX0_allWays cX0_allWays 1 (some .long) 0 := ⟨uu_2 (i := 129) rfl rfl, uu_2 (i := 93) rfl rfl, uu_2 (i := 94) rfl rfl, uu_1 (i := 2) rfl rfl, uu_2 (i := 95) rfl rfl, by decide +kernel⟩
theorem cs_X3_45 : CWS RX3 45 yX3_harmless cX3_harmless 9 (some .long) 5 := ⟨uu_2 (i := 130) rfl rfl, uu_2 (i := 131) rfl rfl, uu_1 (i := 6) rfl rfl, uu_2 (i := 132) rfl rfl, by decide +kernel⟩
theorem fl_X3_49 : FLk RX3 49 0 0 := ⟨RX0, TX0, 3, rfl, by decide, ufX0, uu_1 (i := 34) rfl rfl⟩
theorem cw_X3_53 : CWV RX3 53 RX0 yX0_isMasked cX0_isMasked 2 (some .boolean) 1 := ⟨uu_2 (i := 126) rfl rfl, uu_1 (i := 222) rfl rfl, uu_1 (i := 223) rfl rfl, uu_1 (i := 2) rfl rfl, uu_1 (i := 224) rfl rfl, by decide +kernel⟩
theorem cw_X3_56 : CWV RX3 56 RX0 yX0_agedChance cX0_agedChance 3 (some .int) 2 := ⟨uu_2 (i := 127) rfl rfl, uu_1 (i := 226) rfl rfl, uu_1 (i := 227) rfl rfl, uu_1 (i := 2) rfl rfl, uu_1 (i := 228) rfl rfl, by decide +kernel⟩
theorem cw_X3_60 : CWV RX3 60 RX2 yX2_nearestKey cX2_nearestKey 7 (some .int) 1 := ⟨uu_2 (i := 133) rfl rfl, uu_2 (i := 60) rfl rfl, uu_2 (i := 61) rfl rfl, uu_1 (i := 3) rfl rfl, uu_2 (i := 62) rfl rfl, by decide +kernel⟩
theorem fl_X4_9 : FLk RX4 9 4 0 := ⟨RX4, TX4, 10, rfl, by decide, ufX4, uu_1 (i := 96) rfl rfl⟩
theorem fp_X4_9 : FPk RX4 9 4 0 .int := ⟨RX4, TX4, 10, tyX4, rfl, by decide, ufX4, uu_1 (i := 96) rfl rfl, tyX4_ok, nmX4, rfl, by decide +kernel⟩
theorem fl_X4_13 : FLk RX4 13 4 1 := ⟨RX4, TX4, 10, rfl, by decide, ufX4, uu_1 (i := 98) rfl rfl⟩
theorem fl_X4_17 : FLk RX4 17 4 2 := ⟨RX4, TX4, 10, rfl, by decide, ufX4, uu_1 (i := 100) rfl rfl⟩
theorem fl_X4_21 : FLk RX4 21 4 3 := ⟨RX4, TX4, 10, rfl, by decide, ufX4, uu_1 (i := 102) rfl rfl⟩
theorem fl_X4_24 : FLk RX4 24 4 4 := ⟨RX4, TX4, 10, rfl, by decide, ufX4, uu_1 (i := 104) rfl rfl⟩
theorem fp_X4_24 : FPk RX4 24 4 4 .boolean := ⟨RX4, TX4, 10, tyX4, rfl, by decide, ufX4, uu_1 (i := 104) rfl rfl, tyX4_ok, nmX4, rfl, by decide +kernel⟩
theorem fl_X4_28 : FLk RX4 28 4 5 := ⟨RX4, TX4, 10, rfl, by decide, ufX4, uu_1 (i := 105) rfl rfl⟩
theorem fp_X4_28 : FPk RX4 28 4 5 .int := ⟨RX4, TX4, 10, tyX4, rfl, by decide, ufX4, uu_1 (i := 105) rfl rfl, tyX4_ok, nmX4, rfl, by decide +kernel⟩
theorem fl_X4_31 : FLk RX4 31 4 6 := ⟨RX4, TX4, 10, rfl, by decide, ufX4, uu_1 (i := 107) rfl rfl⟩
theorem fl_X4_34 : FLk RX4 34 4 7 := ⟨RX4, TX4, 10, rfl, by decide, ufX4, uu_1 (i := 109) rfl rfl⟩
theorem fl_X4_37 : FLk RX4 37 4 8 := ⟨RX4, TX4, 10, rfl, by decide, ufX4, uu_1 (i := 110) rfl rfl⟩
theorem fl_X4_40 : FLk RX4 40 4 9 := ⟨RX4, TX4, 10, rfl, by decide, ufX4, uu_1 (i := 111) rfl rfl⟩
theorem cw_X4_43 : CWV RX4 43 RX4 yX4_survey cX4_survey 4 (none) 0 := ⟨uu_3 (i := 10) rfl rfl, uu_2 (i := 212) rfl rfl, uu_2 (i := 213) rfl rfl, uu_1 (i := 5) rfl rfl, uu_2 (i := 214) rfl rfl, by decide +kernel⟩
theorem cm_X4_46 : CMm RX4 46 Lib.Math.max.name Lib.Math.max.code := ⟨uu_2 (i := 223) rfl rfl, uu_2 (i := 224) rfl rfl, uu_1 (i := 8) rfl rfl, uu_2 (i := 225) rfl rfl⟩
theorem cw_X4_52 : CWV RX4 52 RX4 yX4_weigh cX4_weigh 7 (none) 1 := ⟨uu_2 (i := 215) rfl rfl, uu_2 (i := 217) rfl rfl, uu_0 (i := 8) rfl rfl, uu_1 (i := 5) rfl rfl, uu_2 (i := 218) rfl rfl, by decide +kernel⟩
theorem cw_X4_56 : CWV RX4 56 RX4 yX4_leastLimit cX4_leastLimit 3 (some .int) 0 := ⟨uu_2 (i := 219) rfl rfl, uu_2 (i := 221) rfl rfl, uu_0 (i := 9) rfl rfl, uu_1 (i := 5) rfl rfl, uu_2 (i := 222) rfl rfl, by decide +kernel⟩
theorem cw_X4_60 : CWV RX4 60 RX4 yX4_greatestLimit cX4_greatestLimit 3 (some .int) 0 := ⟨uu_2 (i := 226) rfl rfl, uu_2 (i := 228) rfl rfl, uu_0 (i := 10) rfl rfl, uu_1 (i := 5) rfl rfl, uu_2 (i := 229) rfl rfl, by decide +kernel⟩
theorem cw_X4_63 : CWV RX4 63 RX4 yX4_countPlanes cX4_countPlanes 5 (none) 2 := ⟨uu_2 (i := 231) rfl rfl, uu_2 (i := 233) rfl rfl, uu_0 (i := 11) rfl rfl, uu_1 (i := 5) rfl rfl, uu_2 (i := 234) rfl rfl, by decide +kernel⟩
theorem cm_X4_67 : CMm RX4 67 Lib.Math.min.name Lib.Math.min.code := ⟨uu_2 (i := 230) rfl rfl, uu_1 (i := 230) rfl rfl, uu_1 (i := 8) rfl rfl, uu_1 (i := 231) rfl rfl⟩
theorem fl_X5_10 : FLk RX5 10 5 0 := ⟨RX5, TX5, 6, rfl, by decide, ufX5, uu_1 (i := 152) rfl rfl⟩
theorem fl_X5_19 : FLk RX5 19 5 1 := ⟨RX5, TX5, 6, rfl, by decide, ufX5, uu_1 (i := 153) rfl rfl⟩
theorem fl_X5_26 : FLk RX5 26 5 2 := ⟨RX5, TX5, 6, rfl, by decide, ufX5, uu_1 (i := 154) rfl rfl⟩
theorem fl_X5_33 : FLk RX5 33 5 3 := ⟨RX5, TX5, 6, rfl, by decide, ufX5, uu_1 (i := 155) rfl rfl⟩
theorem fl_X5_42 : FLk RX5 42 5 4 := ⟨RX5, TX5, 6, rfl, by decide, ufX5, uu_1 (i := 156) rfl rfl⟩
theorem fl_X5_46 : FLk RX5 46 5 5 := ⟨RX5, TX5, 6, rfl, by decide, ufX5, uu_1 (i := 157) rfl rfl⟩
theorem cw_X5_50 : CWV RX5 50 RX5 yX5_refuse cX5_refuse 2 (some .int) 1 := ⟨uu_1 (i := 175) rfl rfl, uu_1 (i := 177) rfl rfl, uu_0 (i := 0) rfl rfl, uu_1 (i := 1) rfl rfl, uu_1 (i := 178) rfl rfl, by decide +kernel⟩
theorem fl_X5_54 : FLk RX5 54 0 0 := ⟨RX0, TX0, 3, rfl, by decide, ufX0, uu_1 (i := 33) rfl rfl⟩
theorem fp_X5_54 : FPk RX5 54 0 0 .int := ⟨RX0, TX0, 3, tyX0, rfl, by decide, ufX0, uu_1 (i := 33) rfl rfl, tyX0_ok, nmX0, rfl, by decide +kernel⟩
theorem fl_X5_58 : FLk RX5 58 0 1 := ⟨RX0, TX0, 3, rfl, by decide, ufX0, uu_1 (i := 36) rfl rfl⟩
theorem fp_X5_58 : FPk RX5 58 0 1 .int := ⟨RX0, TX0, 3, tyX0, rfl, by decide, ufX0, uu_1 (i := 36) rfl rfl, tyX0_ok, nmX0, rfl, by decide +kernel⟩
theorem cw_X5_61 : CWV RX5 61 RX2 yX2_dropRows cX2_dropRows 1 (none) 0 := ⟨uu_1 (i := 179) rfl rfl, uu_1 (i := 180) rfl rfl, uu_1 (i := 181) rfl rfl, uu_1 (i := 3) rfl rfl, uu_1 (i := 182) rfl rfl, by decide +kernel⟩
theorem cw_X5_64 : CWV RX5 64 RX1 yX1_dropAll cX1_dropAll 1 (none) 0 := ⟨uu_1 (i := 183) rfl rfl, uu_1 (i := 184) rfl rfl, uu_1 (i := 185) rfl rfl, uu_1 (i := 4) rfl rfl, uu_1 (i := 186) rfl rfl, by decide +kernel⟩
theorem cw_X5_67 : CWV RX5 67 RX0 yX0_isWord cX0_isWord 2 (some .boolean) 1 := ⟨uu_1 (i := 191) rfl rfl, uu_1 (i := 192) rfl rfl, uu_1 (i := 193) rfl rfl, uu_1 (i := 2) rfl rfl, uu_1 (i := 194) rfl rfl, by decide +kernel⟩
theorem fl_X5_71 : FLk RX5 71 1 0 := ⟨RX1, TX1, 5, rfl, by decide, ufX1, uu_1 (i := 69) rfl rfl⟩
theorem cw_X5_74 : CWV RX5 74 RX1 yX1_add cX1_add 3 (some .int) 1 := ⟨uu_1 (i := 195) rfl rfl, uu_1 (i := 196) rfl rfl, uu_1 (i := 197) rfl rfl, uu_1 (i := 4) rfl rfl, uu_1 (i := 198) rfl rfl, by decide +kernel⟩
theorem cs_X5_77 : CWS RX5 77 yX0_leastOf cX0_leastOf 1 (some .int) 1 := ⟨uu_1 (i := 203) rfl rfl, uu_1 (i := 204) rfl rfl, uu_1 (i := 2) rfl rfl, uu_1 (i := 205) rfl rfl, by decide +kernel⟩
theorem cs_X5_80 : CWS RX5 80 yX0_greatestOf cX0_greatestOf 1 (some .int) 1 := ⟨uu_1 (i := 206) rfl rfl, uu_1 (i := 207) rfl rfl, uu_1 (i := 2) rfl rfl, uu_1 (i := 208) rfl rfl, by decide +kernel⟩
theorem cw_X5_83 : CWV RX5 83 RX0 yX0_change cX0_change 5 (some .int) 3 := ⟨uu_1 (i := 209) rfl rfl, uu_1 (i := 210) rfl rfl, uu_1 (i := 211) rfl rfl, uu_1 (i := 2) rfl rfl, uu_1 (i := 212) rfl rfl, by decide +kernel⟩
theorem cw_X5_87 : CWV RX5 87 RX0 yX0_isCell cX0_isCell 2 (some .boolean) 1 := ⟨uu_1 (i := 217) rfl rfl, uu_1 (i := 218) rfl rfl, uu_1 (i := 219) rfl rfl, uu_1 (i := 2) rfl rfl, uu_1 (i := 220) rfl rfl, by decide +kernel⟩
theorem cw_X5_90 : CWV RX5 90 RX0 yX0_isMasked cX0_isMasked 2 (some .boolean) 1 := ⟨uu_1 (i := 221) rfl rfl, uu_1 (i := 222) rfl rfl, uu_1 (i := 223) rfl rfl, uu_1 (i := 2) rfl rfl, uu_1 (i := 224) rfl rfl, by decide +kernel⟩
theorem cw_X5_93 : CWV RX5 93 RX0 yX0_agedChance cX0_agedChance 3 (some .int) 2 := ⟨uu_1 (i := 225) rfl rfl, uu_1 (i := 226) rfl rfl, uu_1 (i := 227) rfl rfl, uu_1 (i := 2) rfl rfl, uu_1 (i := 228) rfl rfl, by decide +kernel⟩
theorem cw_X5_97 : CWV RX5 97 RX5 yX5_leaveOut cX5_leaveOut 2 (none) 1 := ⟨uu_1 (i := 236) rfl rfl, uu_1 (i := 238) rfl rfl, uu_0 (i := 1) rfl rfl, uu_1 (i := 1) rfl rfl, uu_1 (i := 239) rfl rfl, by decide +kernel⟩
theorem cw_X5_101 : CWV RX5 101 RX0 yX0_likelierThan cX0_likelierThan 5 (some .int) 2 := ⟨uu_2 (i := 8) rfl rfl, uu_2 (i := 9) rfl rfl, uu_2 (i := 10) rfl rfl, uu_1 (i := 2) rfl rfl, uu_2 (i := 11) rfl rfl, by decide +kernel⟩
theorem cw_X5_104 : CWV RX5 104 RX0 yX0_open cX0_open 2 (some .int) 1 := ⟨uu_2 (i := 17) rfl rfl, uu_2 (i := 18) rfl rfl, uu_2 (i := 19) rfl rfl, uu_1 (i := 2) rfl rfl, uu_2 (i := 20) rfl rfl, by decide +kernel⟩
theorem cw_X5_107 : CWV RX5 107 RX2 yX2_holds cX2_holds 3 (some .boolean) 1 := ⟨uu_2 (i := 21) rfl rfl, uu_2 (i := 22) rfl rfl, uu_2 (i := 23) rfl rfl, uu_1 (i := 3) rfl rfl, uu_2 (i := 24) rfl rfl, by decide +kernel⟩
theorem fl_X5_110 : FLk RX5 110 2 0 := ⟨RX2, TX2, 2, rfl, by decide, ufX2, uu_1 (i := 53) rfl rfl⟩
theorem cw_X5_113 : CWV RX5 113 RX2 yX2_addRow cX2_addRow 4 (none) 1 := ⟨uu_2 (i := 29) rfl rfl, uu_2 (i := 30) rfl rfl, uu_2 (i := 31) rfl rfl, uu_1 (i := 3) rfl rfl, uu_2 (i := 32) rfl rfl, by decide +kernel⟩
theorem cw_X5_116 : CWV RX5 116 RX1 yX1_dropHelp cX1_dropHelp 2 (none) 0 := ⟨uu_2 (i := 0) rfl rfl, uu_2 (i := 1) rfl rfl, uu_2 (i := 2) rfl rfl, uu_1 (i := 4) rfl rfl, uu_2 (i := 3) rfl rfl, by decide +kernel⟩
theorem cw_X5_119 : CWV RX5 119 RX2 yX2_fewestBits cX2_fewestBits 4 (some .int) 0 := ⟨uu_2 (i := 37) rfl rfl, uu_2 (i := 38) rfl rfl, uu_2 (i := 39) rfl rfl, uu_1 (i := 3) rfl rfl, uu_2 (i := 40) rfl rfl, by decide +kernel⟩
theorem cw_X5_123 : CWV RX5 123 RX2 yX2_isKey cX2_isKey 2 (some .boolean) 1 := ⟨uu_2 (i := 51) rfl rfl, uu_2 (i := 52) rfl rfl, uu_2 (i := 53) rfl rfl, uu_1 (i := 3) rfl rfl, uu_2 (i := 54) rfl rfl, by decide +kernel⟩
theorem fl_X5_126 : FLk RX5 126 2 1 := ⟨RX2, TX2, 2, rfl, by decide, ufX2, uu_1 (i := 56) rfl rfl⟩
theorem cw_X5_129 : CWV RX5 129 RX2 yX2_nearestKey cX2_nearestKey 7 (some .int) 1 := ⟨uu_2 (i := 59) rfl rfl, uu_2 (i := 60) rfl rfl, uu_2 (i := 61) rfl rfl, uu_1 (i := 3) rfl rfl, uu_2 (i := 62) rfl rfl, by decide +kernel⟩
theorem cw_X5_132 : CWV RX5 132 RX2 yX2_hasOneNearest cX2_hasOneNearest 5 (some .boolean) 1 := ⟨uu_2 (i := 67) rfl rfl, uu_2 (i := 68) rfl rfl, uu_2 (i := 69) rfl rfl, uu_1 (i := 3) rfl rfl, uu_2 (i := 70) rfl rfl, by decide +kernel⟩
theorem cw_X5_135 : CWV RX5 135 RX1 yX1_isChip cX1_isChip 2 (some .boolean) 1 := ⟨uu_2 (i := 76) rfl rfl, uu_2 (i := 77) rfl rfl, uu_2 (i := 78) rfl rfl, uu_1 (i := 4) rfl rfl, uu_2 (i := 79) rfl rfl, by decide +kernel⟩
theorem fl_X5_138 : FLk RX5 138 1 1 := ⟨RX1, TX1, 5, rfl, by decide, ufX1, uu_1 (i := 71) rfl rfl⟩
theorem cw_X5_141 : CWV RX5 141 RX1 yX1_giveHelp cX1_giveHelp 4 (none) 3 := ⟨uu_2 (i := 80) rfl rfl, uu_2 (i := 81) rfl rfl, uu_2 (i := 82) rfl rfl, uu_1 (i := 4) rfl rfl, uu_2 (i := 83) rfl rfl, by decide +kernel⟩
theorem fl_X5_145 : FLk RX5 145 1 2 := ⟨RX1, TX1, 5, rfl, by decide, ufX1, uu_1 (i := 73) rfl rfl⟩
theorem fl_X5_149 : FLk RX5 149 1 3 := ⟨RX1, TX1, 5, rfl, by decide, ufX1, uu_1 (i := 75) rfl rfl⟩
theorem fl_X5_164 : FLk RX5 164 1 4 := ⟨RX1, TX1, 5, rfl, by decide, ufX1, uu_1 (i := 77) rfl rfl⟩
theorem cw_X5_167 : CWV RX5 167 RX3 yX3_harmful cX3_harmful 4 (some .long) 2 := ⟨uu_2 (i := 118) rfl rfl, uu_2 (i := 119) rfl rfl, uu_2 (i := 120) rfl rfl, uu_1 (i := 6) rfl rfl, uu_2 (i := 121) rfl rfl, by decide +kernel⟩
theorem cw_X5_171 : CWV RX5 171 RX0 yX0_allWays cX0_allWays 1 (some .long) 0 := ⟨uu_2 (i := 92) rfl rfl, uu_2 (i := 93) rfl rfl, uu_2 (i := 94) rfl rfl, uu_1 (i := 2) rfl rfl, uu_2 (i := 95) rfl rfl, by decide +kernel⟩
theorem cw_X5_175 : CWV RX5 175 RX5 yX5_firstAgeAbove cX5_firstAgeAbove 6 (some .int) 2 := ⟨uu_2 (i := 110) rfl rfl, uu_2 (i := 112) rfl rfl, uu_0 (i := 2) rfl rfl, uu_1 (i := 1) rfl rfl, uu_2 (i := 113) rfl rfl, by decide +kernel⟩
theorem cw_X5_178 : CWV RX5 178 RX5 yX5_likeliestKey cX5_likeliestKey 8 (some .int) 1 := ⟨uu_2 (i := 139) rfl rfl, uu_2 (i := 141) rfl rfl, uu_0 (i := 5) rfl rfl, uu_1 (i := 1) rfl rfl, uu_2 (i := 142) rfl rfl, by decide +kernel⟩
theorem cw_X5_183 : CWV RX5 183 RX5 yX5_waysOfAllKeys cX5_waysOfAllKeys 5 (some .long) 1 := ⟨uu_3 (i := 171) rfl rfl, uu_3 (i := 173) rfl rfl, uu_0 (i := 13) rfl rfl, uu_1 (i := 1) rfl rfl, uu_3 (i := 174) rfl rfl, by decide +kernel⟩
theorem cw_X5_187 : CWV RX5 187 RX5 yX5_waysOfKey cX5_waysOfKey 3 (some .long) 2 := ⟨uu_2 (i := 143) rfl rfl, uu_2 (i := 145) rfl rfl, uu_0 (i := 6) rfl rfl, uu_1 (i := 1) rfl rfl, uu_2 (i := 146) rfl rfl, by decide +kernel⟩
theorem cw_X5_190 : CWV RX5 190 RX0 yX0_openCells cX0_openCells 1 (some .int) 0 := ⟨uu_2 (i := 157) rfl rfl, uu_2 (i := 97) rfl rfl, uu_2 (i := 98) rfl rfl, uu_1 (i := 2) rfl rfl, uu_2 (i := 99) rfl rfl, by decide +kernel⟩
theorem cw_X5_193 : CWV RX5 193 RX0 yX0_evenBitsLedByOne cX0_evenBitsLedByOne 5 (some .int) 1 := ⟨uu_2 (i := 162) rfl rfl, uu_2 (i := 163) rfl rfl, uu_2 (i := 164) rfl rfl, uu_1 (i := 2) rfl rfl, uu_2 (i := 165) rfl rfl, by decide +kernel⟩
theorem cs_X5_196 : CWS RX5 196 yJ6_highestOneBit_0f7a4 cJ6_highestOneBit_0f7a4 1 (some .int) 1 := ⟨uu_2 (i := 174) rfl rfl, uu_2 (i := 175) rfl rfl, uu_1 (i := 9) rfl rfl, uu_2 (i := 176) rfl rfl, by decide +kernel⟩
theorem cs_X5_201 : CWS RX5 201 yJ6_numberOfTrailingZeros_0f7a4 cJ6_numberOfTrailingZeros_0f7a4 2 (some .int) 1 := ⟨uu_2 (i := 179) rfl rfl, uu_2 (i := 180) rfl rfl, uu_1 (i := 9) rfl rfl, uu_2 (i := 181) rfl rfl, by decide +kernel⟩
theorem cw_X5_204 : CWV RX5 204 RX0 yX0_expectedEvenBits cX0_expectedEvenBits 4 (some .int) 0 := ⟨uu_2 (i := 186) rfl rfl, uu_2 (i := 187) rfl rfl, uu_2 (i := 188) rfl rfl, uu_1 (i := 2) rfl rfl, uu_2 (i := 189) rfl rfl, by decide +kernel⟩
theorem cs_X5_207 : CWS RX5 207 yX4_isQuestion cX4_isQuestion 1 (some .boolean) 1 := ⟨uu_2 (i := 197) rfl rfl, uu_2 (i := 198) rfl rfl, uu_1 (i := 5) rfl rfl, uu_2 (i := 199) rfl rfl, by decide +kernel⟩
theorem cs_X5_210 : CWS RX5 210 yX4_isAnswer cX4_isAnswer 1 (some .boolean) 1 := ⟨uu_2 (i := 200) rfl rfl, uu_2 (i := 201) rfl rfl, uu_1 (i := 5) rfl rfl, uu_2 (i := 202) rfl rfl, by decide +kernel⟩
theorem fl_X5_213 : FLk RX5 213 4 1 := ⟨RX4, TX4, 10, rfl, by decide, ufX4, uu_1 (i := 99) rfl rfl⟩
theorem fl_X5_216 : FLk RX5 216 4 2 := ⟨RX4, TX4, 10, rfl, by decide, ufX4, uu_1 (i := 101) rfl rfl⟩
theorem cw_X5_219 : CWV RX5 219 RX4 yX4_keep cX4_keep 3 (none) 2 := ⟨uu_2 (i := 203) rfl rfl, uu_2 (i := 204) rfl rfl, uu_2 (i := 205) rfl rfl, uu_1 (i := 5) rfl rfl, uu_2 (i := 206) rfl rfl, by decide +kernel⟩
theorem fl_X5_223 : FLk RX5 223 4 0 := ⟨RX4, TX4, 10, rfl, by decide, ufX4, uu_1 (i := 97) rfl rfl⟩
theorem cw_X5_224 : CWV RX5 224 RX4 yX4_survey cX4_survey 4 (none) 0 := ⟨uu_2 (i := 211) rfl rfl, uu_2 (i := 212) rfl rfl, uu_2 (i := 213) rfl rfl, uu_1 (i := 5) rfl rfl, uu_2 (i := 214) rfl rfl, by decide +kernel⟩
theorem fl_X5_227 : FLk RX5 227 4 5 := ⟨RX4, TX4, 10, rfl, by decide, ufX4, uu_1 (i := 106) rfl rfl⟩
theorem fl_X5_230 : FLk RX5 230 4 6 := ⟨RX4, TX4, 10, rfl, by decide, ufX4, uu_1 (i := 108) rfl rfl⟩
theorem cw_X5_233 : CWV RX5 233 RX4 yX4_foretell cX4_foretell 2 (some .int) 1 := ⟨uu_3 (i := 6) rfl rfl, uu_3 (i := 7) rfl rfl, uu_3 (i := 8) rfl rfl, uu_1 (i := 5) rfl rfl, uu_3 (i := 9) rfl rfl, by decide +kernel⟩
theorem cw_X5_236 : CWV RX5 236 RX4 yX4_halvingQuestion cX4_halvingQuestion 5 (some .int) 0 := ⟨uu_3 (i := 15) rfl rfl, uu_3 (i := 16) rfl rfl, uu_3 (i := 17) rfl rfl, uu_1 (i := 5) rfl rfl, uu_3 (i := 18) rfl rfl, by decide +kernel⟩
theorem fl_X5_239 : FLk RX5 239 4 3 := ⟨RX4, TX4, 10, rfl, by decide, ufX4, uu_1 (i := 103) rfl rfl⟩
theorem cw_X5_242 : CWV RX5 242 RX0 yX0_openSet cX0_openSet 1 (some .int) 0 := ⟨uu_3 (i := 27) rfl rfl, uu_2 (i := 101) rfl rfl, uu_2 (i := 102) rfl rfl, uu_1 (i := 2) rfl rfl, uu_2 (i := 103) rfl rfl, by decide +kernel⟩
theorem cw_X5_245 : CWV RX5 245 RX1 yX1_nearest cX1_nearest 7 (some .int) 2 := ⟨uu_3 (i := 28) rfl rfl, uu_3 (i := 29) rfl rfl, uu_3 (i := 30) rfl rfl, uu_1 (i := 4) rfl rfl, uu_3 (i := 31) rfl rfl, by decide +kernel⟩
theorem cw_X5_248 : CWV RX5 248 RX1 yX1_hasLoneNearest cX1_hasLoneNearest 6 (some .boolean) 2 := ⟨uu_3 (i := 37) rfl rfl, uu_3 (i := 38) rfl rfl, uu_3 (i := 39) rfl rfl, uu_1 (i := 4) rfl rfl, uu_3 (i := 40) rfl rfl, by decide +kernel⟩
theorem cw_X5_252 : CWV RX5 252 RX1 yX1_fewestApart cX1_fewestApart 5 (some .int) 1 := ⟨uu_3 (i := 46) rfl rfl, uu_3 (i := 47) rfl rfl, uu_3 (i := 48) rfl rfl, uu_1 (i := 4) rfl rfl, uu_3 (i := 49) rfl rfl, by decide +kernel⟩
theorem cw_X5_255 : CWV RX5 255 RX1 yX1_onesAt cX1_onesAt 4 (some .int) 1 := ⟨uu_3 (i := 55) rfl rfl, uu_3 (i := 56) rfl rfl, uu_3 (i := 57) rfl rfl, uu_1 (i := 4) rfl rfl, uu_3 (i := 58) rfl rfl, by decide +kernel⟩
theorem cw_X5_258 : CWV RX5 258 RX1 yX1_withHelp cX1_withHelp 3 (some .int) 0 := ⟨uu_3 (i := 63) rfl rfl, uu_3 (i := 64) rfl rfl, uu_3 (i := 65) rfl rfl, uu_1 (i := 4) rfl rfl, uu_3 (i := 66) rfl rfl, by decide +kernel⟩
theorem cw_X5_261 : CWV RX5 261 RX4 yX4_usedOnes cX4_usedOnes 3 (some .int) 0 := ⟨uu_3 (i := 67) rfl rfl, uu_3 (i := 68) rfl rfl, uu_3 (i := 69) rfl rfl, uu_1 (i := 5) rfl rfl, uu_3 (i := 70) rfl rfl, by decide +kernel⟩
theorem cw_X5_264 : CWV RX5 264 RX5 yX5_failsAbove cX5_failsAbove 4 (some .boolean) 3 := ⟨uu_2 (i := 114) rfl rfl, uu_2 (i := 116) rfl rfl, uu_0 (i := 3) rfl rfl, uu_1 (i := 1) rfl rfl, uu_2 (i := 117) rfl rfl, by decide +kernel⟩
theorem cn_X5_268 : Cond.constantLong RX5 268 (8) ∈ UU := uu_2 (i := 134) rfl rfl
theorem cw_X5_270 : CWV RX5 270 RX2 yX2_keys cX2_keys 1 (some .int) 0 := ⟨uu_2 (i := 152) rfl rfl, uu_2 (i := 26) rfl rfl, uu_2 (i := 27) rfl rfl, uu_1 (i := 3) rfl rfl, uu_2 (i := 28) rfl rfl, by decide +kernel⟩
theorem cw_X5_273 : CWV RX5 273 RX0 yX0_waysToBe cX0_waysToBe 6 (some .long) 1 := ⟨uu_2 (i := 147) rfl rfl, uu_2 (i := 148) rfl rfl, uu_2 (i := 149) rfl rfl, uu_1 (i := 2) rfl rfl, uu_2 (i := 150) rfl rfl, by decide +kernel⟩
theorem fl_X6_7 : FLk RX6 7 6 0 := ⟨RX6, TX6, 25, rfl, by decide, ufX6, uu_3 (i := 181) rfl rfl⟩
theorem fl_X6_13 : FLk RX6 13 6 1 := ⟨RX6, TX6, 25, rfl, by decide, ufX6, uu_3 (i := 182) rfl rfl⟩
theorem fl_X6_16 : FLk RX6 16 6 2 := ⟨RX6, TX6, 25, rfl, by decide, ufX6, uu_3 (i := 183) rfl rfl⟩
theorem fl_X6_19 : FLk RX6 19 6 3 := ⟨RX6, TX6, 25, rfl, by decide, ufX6, uu_3 (i := 184) rfl rfl⟩
theorem fl_X6_22 : FLk RX6 22 6 4 := ⟨RX6, TX6, 25, rfl, by decide, ufX6, uu_3 (i := 185) rfl rfl⟩
theorem fl_X6_25 : FLk RX6 25 6 5 := ⟨RX6, TX6, 25, rfl, by decide, ufX6, uu_3 (i := 186) rfl rfl⟩
theorem fl_X6_28 : FLk RX6 28 6 6 := ⟨RX6, TX6, 25, rfl, by decide, ufX6, uu_3 (i := 187) rfl rfl⟩
theorem fl_X6_31 : FLk RX6 31 6 7 := ⟨RX6, TX6, 25, rfl, by decide, ufX6, uu_3 (i := 188) rfl rfl⟩
theorem fl_X6_34 : FLk RX6 34 6 8 := ⟨RX6, TX6, 25, rfl, by decide, ufX6, uu_3 (i := 189) rfl rfl⟩
theorem fl_X6_37 : FLk RX6 37 6 9 := ⟨RX6, TX6, 25, rfl, by decide, ufX6, uu_3 (i := 190) rfl rfl⟩
theorem fl_X6_41 : FLk RX6 41 6 10 := ⟨RX6, TX6, 25, rfl, by decide, ufX6, uu_3 (i := 191) rfl rfl⟩
theorem fl_X6_44 : FLk RX6 44 6 11 := ⟨RX6, TX6, 25, rfl, by decide, ufX6, uu_3 (i := 192) rfl rfl⟩
theorem fp_X6_44 : FPk RX6 44 6 11 .int := ⟨RX6, TX6, 25, tyX6, rfl, by decide, ufX6, uu_3 (i := 192) rfl rfl, tyX6_ok, nmX6, rfl, by decide +kernel⟩
theorem fl_X6_48 : FLk RX6 48 6 16 := ⟨RX6, TX6, 25, rfl, by decide, ufX6, uu_3 (i := 197) rfl rfl⟩
theorem fl_X6_51 : FLk RX6 51 6 17 := ⟨RX6, TX6, 25, rfl, by decide, ufX6, uu_3 (i := 198) rfl rfl⟩
theorem fl_X6_54 : FLk RX6 54 6 18 := ⟨RX6, TX6, 25, rfl, by decide, ufX6, uu_3 (i := 199) rfl rfl⟩
theorem fl_X6_57 : FLk RX6 57 6 20 := ⟨RX6, TX6, 25, rfl, by decide, ufX6, uu_3 (i := 201) rfl rfl⟩
theorem fl_X6_61 : FLk RX6 61 6 22 := ⟨RX6, TX6, 25, rfl, by decide, ufX6, uu_3 (i := 203) rfl rfl⟩
theorem fl_X6_64 : FLk RX6 64 6 23 := ⟨RX6, TX6, 25, rfl, by decide, ufX6, uu_3 (i := 204) rfl rfl⟩
theorem fl_X6_67 : FLk RX6 67 6 24 := ⟨RX6, TX6, 25, rfl, by decide, ufX6, uu_3 (i := 205) rfl rfl⟩
theorem fl_X6_70 : FLk RX6 70 6 15 := ⟨RX6, TX6, 25, rfl, by decide, ufX6, uu_3 (i := 196) rfl rfl⟩
theorem fp_X6_70 : FPk RX6 70 6 15 .int := ⟨RX6, TX6, 25, tyX6, rfl, by decide, ufX6, uu_3 (i := 196) rfl rfl, tyX6_ok, nmX6, rfl, by decide +kernel⟩
theorem cs_X6_73 : CWS RX6 73 yX6_isIn cX6_isIn 2 (some .boolean) 2 := ⟨uu_4 (i := 49) rfl rfl, uu_4 (i := 50) rfl rfl, uu_1 (i := 7) rfl rfl, uu_4 (i := 51) rfl rfl, by decide +kernel⟩
theorem fl_X6_77 : FLk RX6 77 6 13 := ⟨RX6, TX6, 25, rfl, by decide, ufX6, uu_3 (i := 194) rfl rfl⟩
theorem fl_X6_80 : FLk RX6 80 6 14 := ⟨RX6, TX6, 25, rfl, by decide, ufX6, uu_3 (i := 195) rfl rfl⟩
theorem fp_X6_80 : FPk RX6 80 6 14 .int := ⟨RX6, TX6, 25, tyX6, rfl, by decide, ufX6, uu_3 (i := 195) rfl rfl, tyX6_ok, nmX6, rfl, by decide +kernel⟩
theorem cw_X6_83 : CWV RX6 83 RX6 yX6_noHelp cX6_noHelp 2 (none) 0 := ⟨uu_4 (i := 37) rfl rfl, uu_4 (i := 39) rfl rfl, uu_0 (i := 16) rfl rfl, uu_1 (i := 7) rfl rfl, uu_4 (i := 40) rfl rfl, by decide +kernel⟩
theorem fl_X6_86 : FLk RX6 86 6 19 := ⟨RX6, TX6, 25, rfl, by decide, ufX6, uu_3 (i := 200) rfl rfl⟩
theorem fp_X6_86 : FPk RX6 86 6 19 .boolean := ⟨RX6, TX6, 25, tyX6, rfl, by decide, ufX6, uu_3 (i := 200) rfl rfl, tyX6_ok, nmX6, rfl, by decide +kernel⟩
theorem cs_X6_90 : CWS RX6 90 yX6_wrong cX6_wrong 3 (some .int) 3 := ⟨uu_4 (i := 26) rfl rfl, uu_4 (i := 27) rfl rfl, uu_1 (i := 7) rfl rfl, uu_4 (i := 28) rfl rfl, by decide +kernel⟩
theorem cw_X6_94 : CWV RX6 94 RX6 yX6_refuse cX6_refuse 2 (some .int) 1 := ⟨uu_4 (i := 29) rfl rfl, uu_4 (i := 31) rfl rfl, uu_0 (i := 14) rfl rfl, uu_1 (i := 7) rfl rfl, uu_4 (i := 32) rfl rfl, by decide +kernel⟩
theorem fl_X6_98 : FLk RX6 98 6 12 := ⟨RX6, TX6, 25, rfl, by decide, ufX6, uu_3 (i := 193) rfl rfl⟩
theorem fp_X6_98 : FPk RX6 98 6 12 .int := ⟨RX6, TX6, 25, tyX6, rfl, by decide, ufX6, uu_3 (i := 193) rfl rfl, tyX6_ok, nmX6, rfl, by decide +kernel⟩
theorem fp_X6_77 : FPk RX6 77 6 13 .int := ⟨RX6, TX6, 25, tyX6, rfl, by decide, ufX6, uu_3 (i := 194) rfl rfl, tyX6_ok, nmX6, rfl, by decide +kernel⟩
theorem cw_X6_101 : CWV RX6 101 RX6 yX6_noRows cX6_noRows 1 (none) 0 := ⟨uu_4 (i := 33) rfl rfl, uu_4 (i := 35) rfl rfl, uu_0 (i := 15) rfl rfl, uu_1 (i := 7) rfl rfl, uu_4 (i := 36) rfl rfl, by decide +kernel⟩
theorem cw_X6_104 : CWV RX6 104 RX6 yX6_isWord cX6_isWord 2 (some .boolean) 1 := ⟨uu_4 (i := 45) rfl rfl, uu_4 (i := 47) rfl rfl, uu_0 (i := 17) rfl rfl, uu_1 (i := 7) rfl rfl, uu_4 (i := 48) rfl rfl, by decide +kernel⟩
theorem cm_X6_108 : CMm RX6 108 Lib.Math.min.name Lib.Math.min.code := ⟨uu_4 (i := 68) rfl rfl, uu_1 (i := 230) rfl rfl, uu_1 (i := 8) rfl rfl, uu_1 (i := 231) rfl rfl⟩
theorem cw_X6_114 : CWV RX6 114 RX6 yX6_worn cX6_worn 3 (some .int) 2 := ⟨uu_4 (i := 64) rfl rfl, uu_4 (i := 66) rfl rfl, uu_0 (i := 19) rfl rfl, uu_1 (i := 7) rfl rfl, uu_4 (i := 67) rfl rfl, by decide +kernel⟩
theorem cw_X6_117 : CWV RX6 117 RX6 yX6_chanceOf cX6_chanceOf 3 (some .int) 2 := ⟨uu_4 (i := 60) rfl rfl, uu_4 (i := 62) rfl rfl, uu_0 (i := 18) rfl rfl, uu_1 (i := 7) rfl rfl, uu_4 (i := 63) rfl rfl, by decide +kernel⟩
theorem cw_X6_120 : CWV RX6 120 RX6 yX6_masks cX6_masks 2 (none) 1 := ⟨uu_4 (i := 73) rfl rfl, uu_4 (i := 75) rfl rfl, uu_0 (i := 20) rfl rfl, uu_1 (i := 7) rfl rfl, uu_4 (i := 76) rfl rfl, by decide +kernel⟩
theorem cw_X6_124 : CWV RX6 124 RX6 yX6_open cX6_open 1 (some .int) 0 := ⟨uu_4 (i := 85) rfl rfl, uu_4 (i := 87) rfl rfl, uu_0 (i := 21) rfl rfl, uu_1 (i := 7) rfl rfl, uu_4 (i := 88) rfl rfl, by decide +kernel⟩
theorem cw_X6_128 : CWV RX6 128 RX6 yX6_codewordOf cX6_codewordOf 4 (some .int) 1 := ⟨uu_4 (i := 89) rfl rfl, uu_4 (i := 91) rfl rfl, uu_0 (i := 22) rfl rfl, uu_1 (i := 7) rfl rfl, uu_4 (i := 92) rfl rfl, by decide +kernel⟩
theorem cs_X6_131 : CWS RX6 131 yX6_bits cX6_bits 3 (some .int) 1 := ⟨uu_4 (i := 97) rfl rfl, uu_4 (i := 98) rfl rfl, uu_1 (i := 7) rfl rfl, uu_4 (i := 99) rfl rfl, by decide +kernel⟩
theorem cw_X6_134 : CWV RX6 134 RX6 yX6_isKey cX6_isKey 2 (some .boolean) 1 := ⟨uu_4 (i := 104) rfl rfl, uu_4 (i := 106) rfl rfl, uu_0 (i := 23) rfl rfl, uu_1 (i := 7) rfl rfl, uu_4 (i := 107) rfl rfl, by decide +kernel⟩
theorem cw_X6_137 : CWV RX6 137 RX6 yX6_makes cX6_makes 5 (none) 0 := ⟨uu_4 (i := 112) rfl rfl, uu_4 (i := 114) rfl rfl, uu_0 (i := 24) rfl rfl, uu_1 (i := 7) rfl rfl, uu_4 (i := 115) rfl rfl, by decide +kernel⟩
theorem cw_X6_140 : CWV RX6 140 RX6 yX6_isChip cX6_isChip 2 (some .boolean) 1 := ⟨uu_4 (i := 124) rfl rfl, uu_4 (i := 126) rfl rfl, uu_0 (i := 25) rfl rfl, uu_1 (i := 7) rfl rfl, uu_4 (i := 127) rfl rfl, by decide +kernel⟩
theorem cw_X6_143 : CWV RX6 143 RX6 yX6_raises cX6_raises 2 (some .int) 1 := ⟨uu_4 (i := 136) rfl rfl, uu_4 (i := 138) rfl rfl, uu_0 (i := 26) rfl rfl, uu_1 (i := 7) rfl rfl, uu_4 (i := 139) rfl rfl, by decide +kernel⟩
theorem cw_X6_146 : CWV RX6 146 RX6 yX6_failOf cX6_failOf 8 (some .long) 2 := ⟨uu_4 (i := 140) rfl rfl, uu_4 (i := 142) rfl rfl, uu_0 (i := 27) rfl rfl, uu_1 (i := 7) rfl rfl, uu_4 (i := 143) rfl rfl, by decide +kernel⟩
theorem cw_X6_150 : CWV RX6 150 RX6 yX6_allOf cX6_allOf 1 (some .long) 0 := ⟨uu_4 (i := 148) rfl rfl, uu_4 (i := 150) rfl rfl, uu_0 (i := 28) rfl rfl, uu_1 (i := 7) rfl rfl, uu_4 (i := 151) rfl rfl, by decide +kernel⟩
theorem cn_X6_154 : Cond.constantLong RX6 154 (8) ∈ UU := uu_4 (i := 156) rfl rfl
theorem cw_X6_156 : CWV RX6 156 RX6 yX6_weightOf cX6_weightOf 5 (some .long) 1 := ⟨uu_4 (i := 165) rfl rfl, uu_4 (i := 167) rfl rfl, uu_0 (i := 30) rfl rfl, uu_1 (i := 7) rfl rfl, uu_4 (i := 168) rfl rfl, by decide +kernel⟩
theorem cw_X6_160 : CWV RX6 160 RX6 yX6_bestGuess cX6_bestGuess 4 (some .int) 1 := ⟨uu_4 (i := 161) rfl rfl, uu_4 (i := 163) rfl rfl, uu_0 (i := 29) rfl rfl, uu_1 (i := 7) rfl rfl, uu_4 (i := 164) rfl rfl, by decide +kernel⟩
theorem cw_X6_163 : CWV RX6 163 RX6 yX6_openAt cX6_openAt 4 (some .int) 1 := ⟨uu_4 (i := 181) rfl rfl, uu_4 (i := 183) rfl rfl, uu_0 (i := 31) rfl rfl, uu_1 (i := 7) rfl rfl, uu_4 (i := 184) rfl rfl, by decide +kernel⟩
theorem fl_X6_166 : FLk RX6 166 6 21 := ⟨RX6, TX6, 25, rfl, by decide, ufX6, uu_3 (i := 202) rfl rfl⟩
theorem fp_X6_166 : FPk RX6 166 6 21 .int := ⟨RX6, TX6, 25, tyX6, rfl, by decide, ufX6, uu_3 (i := 202) rfl rfl, tyX6_ok, nmX6, rfl, by decide +kernel⟩
theorem cw_X6_169 : CWV RX6 169 RX6 yX6_isPlane cX6_isPlane 4 (some .boolean) 1 := ⟨uu_4 (i := 205) rfl rfl, uu_4 (i := 207) rfl rfl, uu_0 (i := 34) rfl rfl, uu_1 (i := 7) rfl rfl, uu_4 (i := 208) rfl rfl, by decide +kernel⟩
theorem cw_X6_172 : CWV RX6 172 RX6 yX6_adds cX6_adds 3 (none) 1 := ⟨uu_4 (i := 213) rfl rfl, uu_4 (i := 215) rfl rfl, uu_0 (i := 36) rfl rfl, uu_1 (i := 7) rfl rfl, uu_4 (i := 216) rfl rfl, by decide +kernel⟩
theorem cw_X6_175 : CWV RX6 175 RX6 yX6_says cX6_says 5 (some .int) 2 := ⟨uu_4 (i := 209) rfl rfl, uu_4 (i := 211) rfl rfl, uu_0 (i := 35) rfl rfl, uu_1 (i := 7) rfl rfl, uu_4 (i := 212) rfl rfl, by decide +kernel⟩
theorem cw_X6_178 : CWV RX6 178 RX6 yX6_pairs cX6_pairs 3 (some .int) 0 := ⟨uu_4 (i := 193) rfl rfl, uu_4 (i := 195) rfl rfl, uu_0 (i := 32) rfl rfl, uu_1 (i := 7) rfl rfl, uu_4 (i := 196) rfl rfl, by decide +kernel⟩
theorem cw_X6_181 : CWV RX6 181 RX6 yX6_findPlanes cX6_findPlanes 3 (none) 0 := ⟨uu_4 (i := 201) rfl rfl, uu_4 (i := 203) rfl rfl, uu_0 (i := 33) rfl rfl, uu_1 (i := 7) rfl rfl, uu_4 (i := 204) rfl rfl, by decide +kernel⟩
theorem cm_X6_184 : CMm RX6 184 Lib.Math.max.name Lib.Math.max.code := ⟨uu_4 (i := 229) rfl rfl, uu_2 (i := 224) rfl rfl, uu_1 (i := 8) rfl rfl, uu_2 (i := 225) rfl rfl⟩
theorem cw_X6_187 : CWV RX6 187 RX6 yX6_far cX6_far 3 (some .int) 2 := ⟨uu_5 (i := 2) rfl rfl, uu_5 (i := 4) rfl rfl, uu_0 (i := 38) rfl rfl, uu_1 (i := 7) rfl rfl, uu_5 (i := 5) rfl rfl, by decide +kernel⟩
theorem cw_X6_190 : CWV RX6 190 RX6 yX6_whoseOf cX6_whoseOf 4 (some .int) 1 := ⟨uu_4 (i := 238) rfl rfl, uu_5 (i := 0) rfl rfl, uu_0 (i := 37) rfl rfl, uu_1 (i := 7) rfl rfl, uu_5 (i := 1) rfl rfl, by decide +kernel⟩
theorem cn_J6_127 : Cond.constant RJ6 127 (-2147483648) ∈ UU := uu_2 (i := 177) rfl rfl
theorem cs_J6_51 : CWS RJ6 51 yJ6_numberOfLeadingZeros_0f7a4 cJ6_numberOfLeadingZeros_0f7a4 2 (some .int) 1 := ⟨uu_2 (i := 178) rfl rfl, uu_2 (i := 171) rfl rfl, uu_1 (i := 9) rfl rfl, uu_2 (i := 172) rfl rfl, by decide +kernel⟩
theorem cn_J6_264 : Cond.constant RJ6 264 (65536) ∈ UU := uu_2 (i := 173) rfl rfl
theorem cn_J6_265 : Cond.constant RJ6 265 (1431655765) ∈ UU := uu_2 (i := 44) rfl rfl
theorem cn_J6_266 : Cond.constant RJ6 266 (858993459) ∈ UU := uu_2 (i := 45) rfl rfl
theorem cn_J6_267 : Cond.constant RJ6 267 (252645135) ∈ UU := uu_2 (i := 46) rfl rfl
theorem cw_L_7 : CWV RL 7 RX5 yX5_fail cX5_fail 3 (some .long) 2 := ⟨uu_3 (i := 76) rfl rfl, uu_3 (i := 77) rfl rfl, uu_3 (i := 78) rfl rfl, uu_1 (i := 1) rfl rfl, uu_3 (i := 79) rfl rfl, by decide +kernel⟩
theorem cw_L_17 : CWV RL 17 RX5 yX5_weight cX5_weight 3 (some .long) 2 := ⟨uu_3 (i := 166) rfl rfl, uu_3 (i := 167) rfl rfl, uu_3 (i := 168) rfl rfl, uu_1 (i := 1) rfl rfl, uu_3 (i := 169) rfl rfl, by decide +kernel⟩
theorem cw_L_25 : CWV RL 25 RX5 yX5_cells cX5_cells 3 (some .int) 1 := ⟨uu_1 (i := 171) rfl rfl, uu_1 (i := 172) rfl rfl, uu_1 (i := 173) rfl rfl, uu_1 (i := 1) rfl rfl, uu_1 (i := 174) rfl rfl, by decide +kernel⟩
theorem cw_L_29 : CWV RL 29 RX6 yX6_cells cX6_cells 4 (some .int) 1 := ⟨uu_4 (i := 22) rfl rfl, uu_4 (i := 23) rfl rfl, uu_4 (i := 24) rfl rfl, uu_1 (i := 7) rfl rfl, uu_4 (i := 25) rfl rfl, by decide +kernel⟩
theorem cw_L_30 : CWV RL 30 RX5 yX5_chip cX5_chip 2 (some .int) 1 := ⟨uu_1 (i := 187) rfl rfl, uu_1 (i := 188) rfl rfl, uu_1 (i := 189) rfl rfl, uu_1 (i := 1) rfl rfl, uu_1 (i := 190) rfl rfl, by decide +kernel⟩
theorem cw_L_33 : CWV RL 33 RX6 yX6_chip cX6_chip 2 (some .int) 1 := ⟨uu_4 (i := 41) rfl rfl, uu_4 (i := 42) rfl rfl, uu_4 (i := 43) rfl rfl, uu_1 (i := 7) rfl rfl, uu_4 (i := 44) rfl rfl, by decide +kernel⟩
theorem cw_L_34 : CWV RL 34 RX5 yX5_set cX5_set 4 (some .int) 3 := ⟨uu_1 (i := 199) rfl rfl, uu_1 (i := 200) rfl rfl, uu_1 (i := 201) rfl rfl, uu_1 (i := 1) rfl rfl, uu_1 (i := 202) rfl rfl, by decide +kernel⟩
theorem cw_L_38 : CWV RL 38 RX6 yX6_set cX6_set 6 (some .int) 3 := ⟨uu_4 (i := 52) rfl rfl, uu_4 (i := 53) rfl rfl, uu_4 (i := 54) rfl rfl, uu_1 (i := 7) rfl rfl, uu_4 (i := 55) rfl rfl, by decide +kernel⟩
theorem cw_L_39 : CWV RL 39 RX5 yX5_chance cX5_chance 3 (some .int) 2 := ⟨uu_1 (i := 213) rfl rfl, uu_1 (i := 214) rfl rfl, uu_1 (i := 215) rfl rfl, uu_1 (i := 1) rfl rfl, uu_1 (i := 216) rfl rfl, by decide +kernel⟩
theorem cw_L_43 : CWV RL 43 RX6 yX6_chance cX6_chance 4 (some .int) 2 := ⟨uu_4 (i := 56) rfl rfl, uu_4 (i := 57) rfl rfl, uu_4 (i := 58) rfl rfl, uu_1 (i := 7) rfl rfl, uu_4 (i := 59) rfl rfl, by decide +kernel⟩
theorem cw_L_44 : CWV RL 44 RX5 yX5_mask cX5_mask 3 (some .int) 1 := ⟨uu_1 (i := 232) rfl rfl, uu_1 (i := 233) rfl rfl, uu_1 (i := 234) rfl rfl, uu_1 (i := 1) rfl rfl, uu_1 (i := 235) rfl rfl, by decide +kernel⟩
theorem cw_L_47 : CWV RL 47 RX6 yX6_mask cX6_mask 3 (some .int) 1 := ⟨uu_4 (i := 69) rfl rfl, uu_4 (i := 70) rfl rfl, uu_4 (i := 71) rfl rfl, uu_1 (i := 7) rfl rfl, uu_4 (i := 72) rfl rfl, by decide +kernel⟩
theorem cw_L_48 : CWV RL 48 RX5 yX5_maskBy cX5_maskBy 3 (some .int) 2 := ⟨uu_2 (i := 4) rfl rfl, uu_2 (i := 5) rfl rfl, uu_2 (i := 6) rfl rfl, uu_1 (i := 1) rfl rfl, uu_2 (i := 7) rfl rfl, by decide +kernel⟩
theorem cw_L_51 : CWV RL 51 RX6 yX6_maskBy cX6_maskBy 5 (some .int) 2 := ⟨uu_4 (i := 77) rfl rfl, uu_4 (i := 78) rfl rfl, uu_4 (i := 79) rfl rfl, uu_1 (i := 7) rfl rfl, uu_4 (i := 80) rfl rfl, by decide +kernel⟩
theorem cw_L_52 : CWV RL 52 RX5 yX5_row cX5_row 3 (some .int) 1 := ⟨uu_2 (i := 13) rfl rfl, uu_2 (i := 14) rfl rfl, uu_2 (i := 15) rfl rfl, uu_1 (i := 1) rfl rfl, uu_2 (i := 16) rfl rfl, by decide +kernel⟩
theorem cw_L_55 : CWV RL 55 RX6 yX6_row cX6_row 4 (some .int) 1 := ⟨uu_4 (i := 81) rfl rfl, uu_4 (i := 82) rfl rfl, uu_4 (i := 83) rfl rfl, uu_1 (i := 7) rfl rfl, uu_4 (i := 84) rfl rfl, by decide +kernel⟩
theorem cw_L_56 : CWV RL 56 RX5 yX5_distance cX5_distance 1 (some .int) 0 := ⟨uu_2 (i := 33) rfl rfl, uu_2 (i := 34) rfl rfl, uu_2 (i := 35) rfl rfl, uu_1 (i := 1) rfl rfl, uu_2 (i := 36) rfl rfl, by decide +kernel⟩
theorem cw_L_60 : CWV RL 60 RX6 yX6_distance cX6_distance 4 (some .int) 0 := ⟨uu_4 (i := 93) rfl rfl, uu_4 (i := 94) rfl rfl, uu_4 (i := 95) rfl rfl, uu_1 (i := 7) rfl rfl, uu_4 (i := 96) rfl rfl, by decide +kernel⟩
theorem cw_L_61 : CWV RL 61 RX5 yX5_codeword cX5_codeword 2 (some .int) 1 := ⟨uu_2 (i := 47) rfl rfl, uu_2 (i := 48) rfl rfl, uu_2 (i := 49) rfl rfl, uu_1 (i := 1) rfl rfl, uu_2 (i := 50) rfl rfl, by decide +kernel⟩
theorem cw_L_64 : CWV RL 64 RX6 yX6_codeword cX6_codeword 2 (some .int) 1 := ⟨uu_4 (i := 100) rfl rfl, uu_4 (i := 101) rfl rfl, uu_4 (i := 102) rfl rfl, uu_1 (i := 7) rfl rfl, uu_4 (i := 103) rfl rfl, by decide +kernel⟩
theorem cw_L_65 : CWV RL 65 RX5 yX5_mended cX5_mended 2 (some .int) 1 := ⟨uu_2 (i := 55) rfl rfl, uu_2 (i := 56) rfl rfl, uu_2 (i := 57) rfl rfl, uu_1 (i := 1) rfl rfl, uu_2 (i := 58) rfl rfl, by decide +kernel⟩
theorem cw_L_68 : CWV RL 68 RX6 yX6_mended cX6_mended 2 (some .int) 1 := ⟨uu_4 (i := 108) rfl rfl, uu_4 (i := 109) rfl rfl, uu_4 (i := 110) rfl rfl, uu_1 (i := 7) rfl rfl, uu_4 (i := 111) rfl rfl, by decide +kernel⟩
theorem cw_L_69 : CWV RL 69 RX5 yX5_clear cX5_clear 2 (some .int) 1 := ⟨uu_2 (i := 63) rfl rfl, uu_2 (i := 64) rfl rfl, uu_2 (i := 65) rfl rfl, uu_1 (i := 1) rfl rfl, uu_2 (i := 66) rfl rfl, by decide +kernel⟩
theorem cw_L_72 : CWV RL 72 RX6 yX6_clear cX6_clear 2 (some .int) 1 := ⟨uu_4 (i := 116) rfl rfl, uu_4 (i := 117) rfl rfl, uu_4 (i := 118) rfl rfl, uu_1 (i := 7) rfl rfl, uu_4 (i := 119) rfl rfl, by decide +kernel⟩
theorem cw_L_73 : CWV RL 73 RX5 yX5_enrol cX5_enrol 4 (some .int) 2 := ⟨uu_2 (i := 72) rfl rfl, uu_2 (i := 73) rfl rfl, uu_2 (i := 74) rfl rfl, uu_1 (i := 1) rfl rfl, uu_2 (i := 75) rfl rfl, by decide +kernel⟩
theorem cw_L_76 : CWV RL 76 RX6 yX6_enrol cX6_enrol 3 (some .int) 2 := ⟨uu_4 (i := 120) rfl rfl, uu_4 (i := 121) rfl rfl, uu_4 (i := 122) rfl rfl, uu_1 (i := 7) rfl rfl, uu_4 (i := 123) rfl rfl, by decide +kernel⟩
theorem cw_L_77 : CWV RL 77 RX5 yX5_reading cX5_reading 3 (some .int) 2 := ⟨uu_2 (i := 84) rfl rfl, uu_2 (i := 85) rfl rfl, uu_2 (i := 86) rfl rfl, uu_1 (i := 1) rfl rfl, uu_2 (i := 87) rfl rfl, by decide +kernel⟩
theorem cw_L_80 : CWV RL 80 RX6 yX6_reading cX6_reading 3 (some .int) 2 := ⟨uu_4 (i := 128) rfl rfl, uu_4 (i := 129) rfl rfl, uu_4 (i := 130) rfl rfl, uu_1 (i := 7) rfl rfl, uu_4 (i := 131) rfl rfl, by decide +kernel⟩
theorem cw_L_86 : CWV RL 86 RX6 yX6_fail cX6_fail 3 (some .long) 2 := ⟨uu_4 (i := 132) rfl rfl, uu_4 (i := 133) rfl rfl, uu_4 (i := 134) rfl rfl, uu_1 (i := 7) rfl rfl, uu_4 (i := 135) rfl rfl, by decide +kernel⟩
theorem cw_L_87 : CWV RL 87 RX6 yX6_thrown cX6_thrown 1 (some .int) 0 := ⟨uu_4 (i := 18) rfl rfl, uu_4 (i := 19) rfl rfl, uu_4 (i := 20) rfl rfl, uu_1 (i := 7) rfl rfl, uu_4 (i := 21) rfl rfl, by decide +kernel⟩
theorem cw_L_90 : CWV RL 90 RX5 yX5_all cX5_all 1 (some .long) 0 := ⟨uu_2 (i := 88) rfl rfl, uu_2 (i := 89) rfl rfl, uu_2 (i := 90) rfl rfl, uu_1 (i := 1) rfl rfl, uu_2 (i := 91) rfl rfl, by decide +kernel⟩
theorem cw_L_94 : CWV RL 94 RX6 yX6_all cX6_all 1 (some .long) 0 := ⟨uu_4 (i := 144) rfl rfl, uu_4 (i := 145) rfl rfl, uu_4 (i := 146) rfl rfl, uu_1 (i := 7) rfl rfl, uu_4 (i := 147) rfl rfl, by decide +kernel⟩
theorem cw_L_95 : CWV RL 95 RX5 yX5_lasts cX5_lasts 3 (some .int) 2 := ⟨uu_2 (i := 106) rfl rfl, uu_2 (i := 107) rfl rfl, uu_2 (i := 108) rfl rfl, uu_1 (i := 1) rfl rfl, uu_2 (i := 109) rfl rfl, by decide +kernel⟩
theorem cw_L_98 : CWV RL 98 RX6 yX6_lasts cX6_lasts 5 (some .int) 2 := ⟨uu_4 (i := 152) rfl rfl, uu_4 (i := 153) rfl rfl, uu_4 (i := 154) rfl rfl, uu_1 (i := 7) rfl rfl, uu_4 (i := 155) rfl rfl, by decide +kernel⟩
theorem cw_L_99 : CWV RL 99 RX5 yX5_guess cX5_guess 2 (some .int) 1 := ⟨uu_2 (i := 135) rfl rfl, uu_2 (i := 136) rfl rfl, uu_2 (i := 137) rfl rfl, uu_1 (i := 1) rfl rfl, uu_2 (i := 138) rfl rfl, by decide +kernel⟩
theorem cw_L_102 : CWV RL 102 RX6 yX6_guess cX6_guess 2 (some .int) 1 := ⟨uu_4 (i := 157) rfl rfl, uu_4 (i := 158) rfl rfl, uu_4 (i := 159) rfl rfl, uu_1 (i := 7) rfl rfl, uu_4 (i := 160) rfl rfl, by decide +kernel⟩
theorem cw_L_106 : CWV RL 106 RX6 yX6_weight cX6_weight 6 (some .long) 2 := ⟨uu_4 (i := 169) rfl rfl, uu_4 (i := 170) rfl rfl, uu_4 (i := 171) rfl rfl, uu_1 (i := 7) rfl rfl, uu_4 (i := 172) rfl rfl, by decide +kernel⟩
theorem cw_L_107 : CWV RL 107 RX5 yX5_leak cX5_leak 1 (some .int) 0 := ⟨uu_2 (i := 153) rfl rfl, uu_2 (i := 154) rfl rfl, uu_2 (i := 155) rfl rfl, uu_1 (i := 1) rfl rfl, uu_2 (i := 156) rfl rfl, by decide +kernel⟩
theorem cw_L_110 : CWV RL 110 RX6 yX6_leak cX6_leak 1 (some .int) 0 := ⟨uu_4 (i := 173) rfl rfl, uu_4 (i := 174) rfl rfl, uu_4 (i := 175) rfl rfl, uu_1 (i := 7) rfl rfl, uu_4 (i := 176) rfl rfl, by decide +kernel⟩
theorem cw_L_111 : CWV RL 111 RX5 yX5_even cX5_even 5 (some .int) 2 := ⟨uu_2 (i := 158) rfl rfl, uu_2 (i := 159) rfl rfl, uu_2 (i := 160) rfl rfl, uu_1 (i := 1) rfl rfl, uu_2 (i := 161) rfl rfl, by decide +kernel⟩
theorem cw_L_114 : CWV RL 114 RX6 yX6_even cX6_even 8 (some .int) 2 := ⟨uu_4 (i := 177) rfl rfl, uu_4 (i := 178) rfl rfl, uu_4 (i := 179) rfl rfl, uu_1 (i := 7) rfl rfl, uu_4 (i := 180) rfl rfl, by decide +kernel⟩
theorem cw_L_115 : CWV RL 115 RX5 yX5_expected cX5_expected 1 (some .int) 0 := ⟨uu_2 (i := 182) rfl rfl, uu_2 (i := 183) rfl rfl, uu_2 (i := 184) rfl rfl, uu_1 (i := 1) rfl rfl, uu_2 (i := 185) rfl rfl, by decide +kernel⟩
theorem cw_L_118 : CWV RL 118 RX6 yX6_expected cX6_expected 5 (some .int) 0 := ⟨uu_4 (i := 185) rfl rfl, uu_4 (i := 186) rfl rfl, uu_4 (i := 187) rfl rfl, uu_1 (i := 7) rfl rfl, uu_4 (i := 188) rfl rfl, by decide +kernel⟩
theorem cw_L_119 : CWV RL 119 RX5 yX5_pair cX5_pair 3 (some .int) 2 := ⟨uu_2 (i := 193) rfl rfl, uu_2 (i := 194) rfl rfl, uu_2 (i := 195) rfl rfl, uu_1 (i := 1) rfl rfl, uu_2 (i := 196) rfl rfl, by decide +kernel⟩
theorem cw_L_122 : CWV RL 122 RX6 yX6_pair cX6_pair 3 (some .int) 2 := ⟨uu_4 (i := 189) rfl rfl, uu_4 (i := 190) rfl rfl, uu_4 (i := 191) rfl rfl, uu_1 (i := 7) rfl rfl, uu_4 (i := 192) rfl rfl, by decide +kernel⟩
theorem cw_L_123 : CWV RL 123 RX5 yX5_planes cX5_planes 1 (some .int) 0 := ⟨uu_2 (i := 207) rfl rfl, uu_2 (i := 208) rfl rfl, uu_2 (i := 209) rfl rfl, uu_1 (i := 1) rfl rfl, uu_2 (i := 210) rfl rfl, by decide +kernel⟩
theorem cw_L_126 : CWV RL 126 RX6 yX6_planes cX6_planes 1 (some .int) 0 := ⟨uu_4 (i := 197) rfl rfl, uu_4 (i := 198) rfl rfl, uu_4 (i := 199) rfl rfl, uu_1 (i := 7) rfl rfl, uu_4 (i := 200) rfl rfl, by decide +kernel⟩
theorem cw_L_127 : CWV RL 127 RX5 yX5_plane cX5_plane 2 (some .int) 1 := ⟨uu_2 (i := 238) rfl rfl, uu_2 (i := 239) rfl rfl, uu_3 (i := 0) rfl rfl, uu_1 (i := 1) rfl rfl, uu_3 (i := 1) rfl rfl, by decide +kernel⟩
theorem cw_L_130 : CWV RL 130 RX6 yX6_plane cX6_plane 2 (some .int) 1 := ⟨uu_4 (i := 217) rfl rfl, uu_4 (i := 218) rfl rfl, uu_4 (i := 219) rfl rfl, uu_1 (i := 7) rfl rfl, uu_4 (i := 220) rfl rfl, by decide +kernel⟩
theorem cw_L_131 : CWV RL 131 RX5 yX5_foretold cX5_foretold 2 (some .int) 1 := ⟨uu_3 (i := 2) rfl rfl, uu_3 (i := 3) rfl rfl, uu_3 (i := 4) rfl rfl, uu_1 (i := 1) rfl rfl, uu_3 (i := 5) rfl rfl, by decide +kernel⟩
theorem cw_L_134 : CWV RL 134 RX6 yX6_foretold cX6_foretold 2 (some .int) 1 := ⟨uu_4 (i := 221) rfl rfl, uu_4 (i := 222) rfl rfl, uu_4 (i := 223) rfl rfl, uu_1 (i := 7) rfl rfl, uu_4 (i := 224) rfl rfl, by decide +kernel⟩
theorem cw_L_135 : CWV RL 135 RX5 yX5_next cX5_next 2 (some .int) 0 := ⟨uu_3 (i := 11) rfl rfl, uu_3 (i := 12) rfl rfl, uu_3 (i := 13) rfl rfl, uu_1 (i := 1) rfl rfl, uu_3 (i := 14) rfl rfl, by decide +kernel⟩
theorem cw_L_138 : CWV RL 138 RX6 yX6_next cX6_next 5 (some .int) 0 := ⟨uu_4 (i := 225) rfl rfl, uu_4 (i := 226) rfl rfl, uu_4 (i := 227) rfl rfl, uu_1 (i := 7) rfl rfl, uu_4 (i := 228) rfl rfl, by decide +kernel⟩
theorem cw_L_139 : CWV RL 139 RX5 yX5_check cX5_check 3 (some .int) 2 := ⟨uu_3 (i := 19) rfl rfl, uu_3 (i := 20) rfl rfl, uu_3 (i := 21) rfl rfl, uu_1 (i := 1) rfl rfl, uu_3 (i := 22) rfl rfl, by decide +kernel⟩
theorem cw_L_142 : CWV RL 142 RX6 yX6_check cX6_check 3 (some .int) 2 := ⟨uu_4 (i := 230) rfl rfl, uu_4 (i := 231) rfl rfl, uu_4 (i := 232) rfl rfl, uu_1 (i := 7) rfl rfl, uu_4 (i := 233) rfl rfl, by decide +kernel⟩
theorem cw_L_143 : CWV RL 143 RX5 yX5_whose cX5_whose 3 (some .int) 1 := ⟨uu_3 (i := 23) rfl rfl, uu_3 (i := 24) rfl rfl, uu_3 (i := 25) rfl rfl, uu_1 (i := 1) rfl rfl, uu_3 (i := 26) rfl rfl, by decide +kernel⟩
theorem cw_L_146 : CWV RL 146 RX6 yX6_whose cX6_whose 2 (some .int) 1 := ⟨uu_4 (i := 234) rfl rfl, uu_4 (i := 235) rfl rfl, uu_4 (i := 236) rfl rfl, uu_1 (i := 7) rfl rfl, uu_4 (i := 237) rfl rfl, by decide +kernel⟩
theorem cw_L_147 : CWV RL 147 RX5 yX5_sure cX5_sure 2 (some .int) 1 := ⟨uu_3 (i := 33) rfl rfl, uu_3 (i := 34) rfl rfl, uu_3 (i := 35) rfl rfl, uu_1 (i := 1) rfl rfl, uu_3 (i := 36) rfl rfl, by decide +kernel⟩
theorem cw_L_150 : CWV RL 150 RX6 yX6_sure cX6_sure 5 (some .int) 1 := ⟨uu_5 (i := 6) rfl rfl, uu_5 (i := 7) rfl rfl, uu_5 (i := 8) rfl rfl, uu_1 (i := 7) rfl rfl, uu_5 (i := 9) rfl rfl, by decide +kernel⟩
theorem cw_L_151 : CWV RL 151 RX5 yX5_apart cX5_apart 1 (some .int) 0 := ⟨uu_3 (i := 42) rfl rfl, uu_3 (i := 43) rfl rfl, uu_3 (i := 44) rfl rfl, uu_1 (i := 1) rfl rfl, uu_3 (i := 45) rfl rfl, by decide +kernel⟩
theorem cw_L_154 : CWV RL 154 RX6 yX6_apart cX6_apart 4 (some .int) 0 := ⟨uu_5 (i := 10) rfl rfl, uu_5 (i := 11) rfl rfl, uu_5 (i := 12) rfl rfl, uu_1 (i := 7) rfl rfl, uu_5 (i := 13) rfl rfl, by decide +kernel⟩
theorem cw_L_155 : CWV RL 155 RX5 yX5_odd cX5_odd 2 (some .int) 1 := ⟨uu_3 (i := 51) rfl rfl, uu_3 (i := 52) rfl rfl, uu_3 (i := 53) rfl rfl, uu_1 (i := 1) rfl rfl, uu_3 (i := 54) rfl rfl, by decide +kernel⟩
theorem cw_L_158 : CWV RL 158 RX6 yX6_odd cX6_odd 4 (some .int) 1 := ⟨uu_5 (i := 14) rfl rfl, uu_5 (i := 15) rfl rfl, uu_5 (i := 16) rfl rfl, uu_1 (i := 7) rfl rfl, uu_5 (i := 17) rfl rfl, by decide +kernel⟩
theorem cw_L_159 : CWV RL 159 RX5 yX5_count cX5_count 2 (some .int) 1 := ⟨uu_3 (i := 59) rfl rfl, uu_3 (i := 60) rfl rfl, uu_3 (i := 61) rfl rfl, uu_1 (i := 1) rfl rfl, uu_3 (i := 62) rfl rfl, by decide +kernel⟩
theorem cw_L_162 : CWV RL 162 RX6 yX6_count cX6_count 4 (some .int) 1 := ⟨uu_5 (i := 18) rfl rfl, uu_5 (i := 19) rfl rfl, uu_5 (i := 20) rfl rfl, uu_1 (i := 7) rfl rfl, uu_5 (i := 21) rfl rfl, by decide +kernel⟩
end
section
/-! memories: cell, place -> number -/
abbrev Me : Type := Nat → Nat → Int32
def up (μ : Me) (c j : Nat) (x : Int32) : Me := fun c' => if c' = c then upd (μ c) j x else μ c'
theorem up_s (μ : Me) (c j : Nat) (x : Int32) : up μ c j x c j = x := by simp [up, upd]
theorem up_c {μ : Me} {c j c' i : Nat} {x : Int32} (h : c' ≠ c) : up μ c j x c' i = μ c' i := by simp [up, h]
theorem up_j {μ : Me} {c j i : Nat} {x : Int32} (h : i ≠ j) : up μ c j x c i = μ c i := by simp [up, upd, h]
theorem up_at (μ : Me) (c j i : Nat) (x : Int32) : up μ c j x c i = if i = j then x else μ c i := by simp [up, upd]
/-- class ids of arrays: 0 int, 1 boolean, 2 long, 3 int[] -/
def tyE (c : Nat → ClassId) : List (ClassId × FieldType) := [(c 0, .int), (c 1, .boolean), (c 2, .long), (c 3, .array .int)]
/-- the class's cells: NoiseKeys, Cells, Code, Chips, Pairs, Flips; then arrays -/
def xw (c : Nat → ClassId) (a : Nat → Nat) (μ : Me) : va_W := [
  (a 0, .inr (5, [.ref (a 1), .ref (a 2), .ref (a 3), .ref (a 4), .ref (a 5), .ref (a 6)])),
  (a 1, .inr (0, [.int (μ 0 0), .int (μ 0 1), .ref (a 7)])),
  (a 2, .inr (2, [.int (μ 0 2), .ref (a 11)])),
  (a 3, .inr (1, [.int (μ 0 3), .ref (a 12), .ref (a 13), .ref (a 14), .ref (a 15)])),
  (a 4, .inr (4, [.int (μ 0 4), .ref (a 16), .ref (a 17), .ref (a 18), .int (μ 0 5), .int (μ 0 6), .ref (a 19), .ref (a 20), .ref (a 21), .ref (a 22)])),
  (a 5, .inr (3, [.ref (a 1), .ref (a 2), .ref (a 23), .ref (a 24)])),
  (a 6, .inl (c 0, 7, .inl (μ 6))),
  (a 7, .inl (c 3, 3, .inr (.inr (.inr (.inr (fun j => if j = 0 then some (a 8) else if j = 1 then some (a 9) else some (a 10))))))),
  (a 8, .inl (c 0, 14, .inl (μ 8))),
  (a 9, .inl (c 0, 14, .inl (μ 9))),
  (a 10, .inl (c 0, 14, .inl (μ 10))),
  (a 11, .inl (c 0, 64, .inl (μ 11))),
  (a 12, .inl (c 0, 8, .inl (μ 12))),
  (a 13, .inl (c 1, 8, .inl (μ 13))),
  (a 14, .inl (c 0, 8, .inl (μ 14))),
  (a 15, .inl (c 0, 8, .inl (μ 15))),
  (a 16, .inl (c 1, 16, .inl (μ 16))),
  (a 17, .inl (c 0, 16, .inl (μ 17))),
  (a 18, .inl (c 1, 16, .inl (μ 18))),
  (a 19, .inl (c 0, 5, .inl (μ 19))),
  (a 20, .inl (c 0, 16, .inl (μ 20))),
  (a 21, .inl (c 0, 4, .inl (μ 21))),
  (a 22, .inl (c 0, 16, .inl (μ 22))),
  (a 23, .inl (c 0, 14, .inl (μ 23))),
  (a 24, .inl (c 0, 14, .inl (μ 24)))]
/-- the model's memory: ints, and the row of longs -/
abbrev MM : Type := Me × (Nat → Int64)
def mup (τ : MM) (c j : Nat) (x : Int32) : MM := (up τ.1 c j x, τ.2)
def mupL (τ : MM) (j : Nat) (x : Int64) : MM := (τ.1, vp_updL τ.2 j x)
def mw (c : Nat → ClassId) (b : Nat → Nat) (τ : MM) : va_W := [
  (b 0, .inr (6, [.ref (b 1), .ref (b 2), .ref (b 3), .ref (b 4), .ref (b 5), .ref (b 6), .ref (b 7), .ref (b 8), .ref (b 9), .ref (b 10), .ref (b 11), .int (τ.1 0 0), .int (τ.1 0 1), .int (τ.1 0 2), .int (τ.1 0 3), .int (τ.1 0 4), .ref (b 12), .ref (b 13), .ref (b 14), .int (τ.1 0 5), .ref (b 15), .int (τ.1 0 6), .ref (b 16), .ref (b 17), .ref (b 18)])),
  (b 1, .inl (c 0, 7, .inl (τ.1 1))),
  (b 2, .inl (c 0, 14, .inl (τ.1 2))),
  (b 3, .inl (c 0, 14, .inl (τ.1 3))),
  (b 4, .inl (c 0, 14, .inl (τ.1 4))),
  (b 5, .inl (c 0, 8, .inl (τ.1 5))),
  (b 6, .inl (c 0, 8, .inl (τ.1 6))),
  (b 7, .inl (c 0, 8, .inl (τ.1 7))),
  (b 8, .inl (c 0, 6, .inl (τ.1 8))),
  (b 9, .inl (c 0, 16, .inl (τ.1 9))),
  (b 10, .inl (c 1, 8, .inl (τ.1 10))),
  (b 11, .inl (c 1, 16, .inl (τ.1 11))),
  (b 12, .inl (c 0, 16384, .inl (τ.1 12))),
  (b 13, .inl (c 0, 64, .inl (τ.1 13))),
  (b 14, .inl (c 1, 16384, .inl (τ.1 14))),
  (b 15, .inl (c 2, 16384, .inr (.inl τ.2))),
  (b 16, .inl (c 0, 5, .inl (τ.1 16))),
  (b 17, .inl (c 0, 16, .inl (τ.1 17))),
  (b 18, .inl (c 0, 4, .inl (τ.1 18)))]
theorem lt_n {F : FX} {m i : Nat} (hn : fx_n F = m) (h : Nat.blt i m = true) : i < fx_n F := by rw [hn]; exact Nat.le_of_ble_eq_true h
theorem xv {x y : Int32} (h : x = y) : some (Value.int x) = some (Value.int y) := congrArg (fun z => some (Value.int z)) h
theorem lt31 {a b : Nat} (h : a < b) (hb : Nat.ble b 2147483648 = true) : a < 2 ^ 31 := Nat.lt_of_lt_of_le h (Nat.le_of_ble_eq_true hb)
/-! numbers -/
/-- a without the bits of m -/
def nd (a m : Nat) : Nat := a ^^^ (a &&& m)
/-- bit k of a -/
def bt (a k : Nat) : Nat := a / 2 ^ k % 2
theorem nI_bv (n : Nat) : (nI n).toBitVec = BitVec.ofNat 32 n := rfl
theorem i32_ext {x y : Int32} (h : x.toBitVec = y.toBitVec) : x = y := Int32.toBitVec_inj.mp h
theorem nI_and (a b : Nat) : nI a &&& nI b = nI (a &&& b) := i32_ext (by
  rw [Int32.toBitVec_and, nI_bv, nI_bv, nI_bv]
  exact BitVec.eq_of_getLsbD_eq (fun i hi => by simp [hi]))
theorem nI_or (a b : Nat) : nI a ||| nI b = nI (a ||| b) := i32_ext (by
  rw [Int32.toBitVec_or, nI_bv, nI_bv, nI_bv]
  exact BitVec.eq_of_getLsbD_eq (fun i hi => by simp [hi]))
theorem nI_xor (a b : Nat) : nI a ^^^ nI b = nI (a ^^^ b) := i32_ext (by
  rw [Int32.toBitVec_xor, nI_bv, nI_bv, nI_bv]
  exact BitVec.eq_of_getLsbD_eq (fun i hi => by simp [hi]))
theorem nd_bit (a m i : Nat) : (nd a m).testBit i = (a.testBit i && !m.testBit i) := by
  unfold nd
  rw [Nat.testBit_xor, Nat.testBit_and]
  cases a.testBit i <;> cases m.testBit i <;> rfl
theorem nI_andc (a m : Nat) : nI a &&& (nI m ^^^ (-1)) = nI (nd a m) := i32_ext (by
  rw [Int32.toBitVec_and, Int32.toBitVec_xor, nI_bv, nI_bv, nI_bv]
  refine BitVec.eq_of_getLsbD_eq (fun i hi => ?_)
  have h1 : (Int32.toBitVec (-1)) = BitVec.allOnes 32 := by decide
  rw [h1]
  simp only [BitVec.getLsbD_and, BitVec.getLsbD_xor, BitVec.getLsbD_ofNat, BitVec.getLsbD_allOnes, nd_bit, hi, decide_true, Bool.true_and, Bool.xor_true])
theorem nI_sh (k : Nat) (h : k < 32) : ((nI k &&& 31).toBitVec.smod 32).toNat = k := by
  have : ∀ k : Fin 32, ((nI k.val &&& 31).toBitVec.smod 32).toNat = k.val := by decide
  exact this ⟨k, h⟩
theorem nI_shl (a : Nat) {k : Nat} (h : k < 32) : nI a <<< (nI k &&& 31) = nI (a * 2 ^ k) := i32_ext (by
  apply BitVec.eq_of_toNat_eq
  rw [pk_shl _ _ k (nI_sh k h), nI_bv, nI_bv]
  simp [Nat.mod_mul_mod])
theorem nI_shl1 {k : Nat} (h : k < 32) : nI 1 <<< (nI k &&& 31) = nI (2 ^ k) := by rw [nI_shl 1 h, Nat.one_mul]
theorem nI_shr {a k : Nat} (ha : a < 2 ^ 31) (h : k < 32) : nI a >>> (nI k &&& 31) = nI (a / 2 ^ k) := pk_shrN ha _ k (nI_sh k h)
theorem nI_and1 (a : Nat) : nI a &&& nI 1 = nI (a % 2) := by rw [nI_and, Nat.and_one_is_mod]
theorem nI_ushr {a k : Nat} (ha : a < 2 ^ 32) (h : k < 32) : ((nI a).toUInt32 >>> ((nI k).toUInt32 &&& Int32.toUInt32 31)).toInt32 = nI (a / 2 ^ k) := by
  have hk : (((nI k).toUInt32 &&& Int32.toUInt32 31).toBitVec % 32).toNat = k := by
    have : ∀ k : Fin 32, (((nI k.val).toUInt32 &&& Int32.toUInt32 31).toBitVec % 32).toNat = k.val := by decide
    exact this ⟨k, h⟩
  exact pk_ushrN ha _ k hk
theorem lN_mulN (a b : Nat) : lN a * lN b = lN (a * b) := lN_mul a b
theorem ic_m1 : Int32.ofInt (-1) = -1 := by decide
theorem zI_m1 : zI (-1) = -1 := by decide
theorem bt_lt (a k : Nat) : bt a k < 2 := Nat.mod_lt _ (by decide)
theorem bt_testBit (a k : Nat) : a.testBit k = decide (bt a k = 1) := Nat.testBit_eq_decide_div_mod_eq
end
section
/-! what the system is, in numbers -/
/-- x is one of 0 .. n - 1 -/
def isI (n : Nat) (x : Int32) : Bool := decide (0 ≤ x.toInt) && decide (x.toInt < n)
def tn (x : Int32) : Nat := x.toInt.toNat
theorem isI_T {n : Nat} {x : Int32} (h : isI n x = true) : ∃ v : Nat, v < n ∧ x = nI v := by
  simp only [isI, Bool.and_eq_true, decide_eq_true_eq] at h
  refine ⟨tn x, by unfold tn; omega, ?_⟩
  have h2 : ((tn x : Nat) : Int) = x.toInt := by unfold tn; omega
  rw [zI_nI, h2, zI_toInt_self]
theorem nI_toI {v : Nat} (h : v < 2147483648) : (nI v).toInt = (v : Int) := nI_toInt h
theorem tn_nI {v : Nat} (h : v < 2147483648) : tn (nI v) = v := by unfold tn; rw [nI_toI h]; rfl
theorem isI_nI {n v : Nat} (hv : v < 2147483648) : isI n (nI v) = decide (v < n) := by
  simp only [isI, nI_toI hv]
  have : (0 : Int) ≤ (v : Int) := Int.natCast_nonneg v
  simp [this]
theorem isI_in {n v : Nat} (hn : n ≤ 2147483648) (hv : v < n) : isI n (nI v) = true := by rw [isI_nI (by omega)]; simpa using hv
theorem i32_lt {x y : Int32} : x < y ↔ x.toInt < y.toInt := Int32.lt_iff_toInt_lt
theorem i32_le {x y : Int32} : x ≤ y ↔ x.toInt ≤ y.toInt := Int32.le_iff_toInt_le
theorem i32_0 : (0 : Int32).toInt = 0 := by decide
theorem isI_neg {n : Nat} {x : Int32} (h : x < 0) : isI n x = false := by
  rw [i32_lt, i32_0] at h
  simp only [isI, Bool.and_eq_false_iff, decide_eq_false_iff_not]
  omega
theorem isI_big {n : Nat} {x : Int32} (hn : n < 2147483648) (h : nI n ≤ x) : isI n x = false := by
  rw [i32_le, nI_toI hn] at h
  simp only [isI, Bool.and_eq_false_iff, decide_eq_false_iff_not]
  omega
theorem isI_ok {n : Nat} {x : Int32} (hn : n < 2147483648) (h1 : ¬ x < 0) (h2 : ¬ nI n ≤ x) : isI n x = true := by
  rw [i32_lt, i32_0] at h1
  rw [i32_le, nI_toI hn] at h2
  simp only [isI, Bool.and_eq_true, decide_eq_true_eq]
  omega
theorem isI_f0 {n : Nat} {x : Int32} (h : x < 0) : nI 0 = bz (isI n x) := by rw [isI_neg h]; rfl
theorem isI_f1 {n : Nat} {x : Int32} (hn : n < 2147483648) (h : nI n ≤ x) : nI 0 = bz (isI n x) := by rw [isI_big hn h]; rfl
theorem isI_t1 {n : Nat} {x : Int32} (hn : n < 2147483648) (h1 : ¬ x < 0) (h2 : ¬ nI n ≤ x) : nI 1 = bz (isI n x) := by rw [isI_ok hn h1 h2]; rfl
/-- below lo, above hi, or between -/
def wr3 (x : Int32) (lo hi : Nat) : Int32 := if x < nI lo then (-4) else if nI hi < x then (-6) else 0
theorem wr3_cases (x : Int32) (lo hi : Nat) (h0 : lo < 2147483648) (h1 : hi < 2147483648) : (x < nI lo ∧ wr3 x lo hi = zI (-4)) ∨ (¬ x < nI lo ∧ nI hi < x ∧ wr3 x lo hi = zI (-6)) ∨ (¬ x < nI lo ∧ ¬ nI hi < x ∧ wr3 x lo hi = nI 0 ∧ ∃ v : Nat, lo ≤ v ∧ v ≤ hi ∧ x = nI v) := by
  by_cases h2 : x < nI lo
  · exact Or.inl ⟨h2, by simp only [wr3, if_pos h2]; rfl⟩
  · by_cases h3 : nI hi < x
    · exact Or.inr (Or.inl ⟨h2, h3, by simp only [wr3, if_neg h2, if_pos h3]; rfl⟩)
    · refine Or.inr (Or.inr ⟨h2, h3, by simp only [wr3, if_neg h2, if_neg h3]; rfl, ?_⟩)
      rw [i32_lt, nI_toI h0] at h2
      rw [i32_lt, nI_toI h1] at h3
      have e : ((tn x : Nat) : Int) = x.toInt := by unfold tn; omega
      exact ⟨tn x, by omega, by omega, by rw [zI_nI, e, zI_toInt_self]⟩
theorem i32_nlt {x y : Int32} (h : y ≤ x) : ¬ x < y := by rw [i32_lt]; rw [i32_le] at h; omega
theorem i32_nlt' {x y : Int32} (h : ¬ y ≤ x) : x < y := by rw [i32_lt]; rw [i32_le] at h; omega
theorem i32_nle {x y : Int32} (h : ¬ x ≤ y) : y < x := by rw [i32_lt]; rw [i32_le] at h; omega
/-- a memory with one row changed -/
def setc (μ : Me) (c : Nat) (f : Nat → Int32) : Me := fun c' => if c' = c then f else μ c'
theorem setc_s (μ : Me) (c : Nat) (f : Nat → Int32) : setc μ c f c = f := by simp [setc]
theorem setc_n {μ : Me} {c c' : Nat} {f : Nat → Int32} (h : c' ≠ c) : setc μ c f c' = μ c' := by simp [setc, h]
theorem setc_id (μ : Me) (c : Nat) : setc μ c (μ c) = μ := by funext c'; by_cases h : c' = c <;> simp [setc, h]
theorem upd_s (f : Nat → Int32) (j : Nat) (x : Int32) : upd f j x j = x := by simp [upd]
theorem upd_n {f : Nat → Int32} {j i : Nat} {x : Int32} (h : i ≠ j) : upd f j x i = f i := by simp [upd, h]
/-! states -/
/-- 0: n, mask, k, chips; 1 refusals; 2 chances; 3 wears; 4 leans; 5 nominal; 6 hasHelp; 7 help; 8 keys; 9 rows; 10 answers (0 none, 1, 2); 11 used -/
abbrev SS : Type := Nat → Nat → Nat
def srow (S : SS) (c : Nat) (f : Nat → Nat) : SS := fun c' => if c' = c then f else S c'
def sup (S : SS) (c j v : Nat) : SS := srow S c (fun i => if i = j then v else S c i)
def sref (S : SS) (j : Nat) : SS := sup S 1 j (S 1 j + 1)
/-- how many bits among the lowest k -/
def pcs : Nat → Nat → Nat
  | 0, _ => 0
  | k + 1, w => w % 2 + pcs k (w / 2)
def pc (w : Nat) : Nat := pcs 14 w
/-- the sum of rows by a key's bits -/
def cwx (rows : Nat → Nat) (key : Nat) : Nat → Nat
  | 0 => 0
  | i + 1 => if bt key i = 1 then cwx rows key i ^^^ rows i else cwx rows key i
def cw (S : SS) (key : Nat) : Nat := cwx (S 9) key (S 0 2)
/-- the first of the least, among 0 .. m - 1 -/
def amin (d : Nat → Nat) : Nat → Nat
  | 0 => 0
  | m + 1 => if d m < d (amin d m) then m else amin d m
/-- the least one is there but once -/
def uq (d : Nat → Nat) : Nat → Bool
  | 0 => true
  | 1 => true
  | m + 2 => if d (m + 1) < d (amin d (m + 1)) then true else if d (m + 1) = d (amin d (m + 1)) then false else uq d (m + 1)
/-- the first of the greatest -/
def amax (d : Nat → Nat) : Nat → Nat
  | 0 => 0
  | m + 1 => if d (amax d m) < d m then m else amax d m
def sumN (f : Nat → Nat) : Nat → Nat
  | 0 => 0
  | m + 1 => sumN f m + f m
/-- how far a word is from a key's codeword -/
def dk (S : SS) (w key : Nat) : Nat := pc (w ^^^ cw S key)
def mend (S : SS) (w : Nat) : Nat := amin (dk S (nd w (S 0 1))) (2 ^ S 0 2)
def clr (S : SS) (w : Nat) : Bool := uq (dk S (nd w (S 0 1))) (2 ^ S 0 2)
/-- what is always so -/
def SV (S : SS) : Prop :=
  (4 ≤ S 0 0 ∧ S 0 0 ≤ 14) ∧ S 0 1 < 2 ^ S 0 0 ∧ S 0 2 ≤ 6 ∧ S 0 3 ≤ 8 ∧ (∀ j, j < 14 → S 2 j ≤ 4 ∧ S 3 j ≤ 4 ∧ 1 ≤ S 4 j ∧ S 4 j ≤ 7) ∧
  (∀ j, j < S 0 3 → S 5 j < 2 ^ S 0 0 ∧ S 6 j ≤ 1 ∧ (S 6 j = 1 → S 7 j < 2 ^ S 0 0 ∧ S 7 j &&& S 0 1 = 0 ∧ S 8 j < 2 ^ S 0 2)) ∧
  (∀ j, j < S 0 2 → S 9 j < 2 ^ S 0 0 ∧ S 9 j &&& S 0 1 = 0) ∧ (∀ key, 0 < key → key < 2 ^ S 0 2 → cw S key ≠ 0) ∧ (∀ q, q < 16 → S 10 q ≤ 2 ∧ S 11 q ≤ 1)
def allN (p : Nat → Bool) : Nat → Bool
  | 0 => true
  | m + 1 => allN p m && p m
theorem allN_iff {p : Nat → Bool} : ∀ {m : Nat}, allN p m = true ↔ ∀ i, i < m → p i = true
  | 0 => by simp [allN]
  | m + 1 => by
    simp only [allN, Bool.and_eq_true, allN_iff (m := m)]
    constructor
    · intro h i hi
      rcases Nat.lt_succ_iff_lt_or_eq.mp hi with h1 | h1
      · exact h.1 i h1
      · rw [h1]; exact h.2
    · intro h
      exact ⟨fun i hi => h i (by omega), h m (by omega)⟩
/-! planes -/
def wv (t i : Nat) : Int := match i with
  | 0 => ((t / 343 : Nat) : Int) - 3
  | 1 => ((t / 49 % 7 : Nat) : Int) - 3
  | 2 => ((t / 7 % 7 : Nat) : Int) - 3
  | _ => ((t % 7 : Nat) : Int) - 3
def smx (w : Nat → Int) (q : Nat) : Nat → Int
  | 0 => 0
  | i + 1 => smx w q i + (if bt q i = 1 then w i else - w i)
def sm (t q : Nat) : Int := smx (wv t) q 4
/-- the plane t, c answers as was seen -/
def okp (A : Nat → Nat) (t : Nat) (c : Int) : Bool := allN (fun q => decide (A q = 0 ∨ A q = (if c ≤ sm t q then 2 else 1))) 16
def ce (e : Nat) : Int := (e : Int) - 6
def plc (A : Nat → Nat) : Nat := sumN (fun t => sumN (fun e => if okp A t (ce e) then 1 else 0) 13) 2401
def plo (A : Nat → Nat) (q : Nat) : Nat := sumN (fun t => sumN (fun e => if okp A t (ce e) && decide (ce e ≤ sm t q) then 1 else 0) 13) 2401
/-- the first below m of which p holds; m if there is none -/
def ff (p : Nat → Bool) : Nat → Nat
  | 0 => 0
  | m + 1 => if ff p m < m then ff p m else if p m then m else m + 1
def plx (A : Nat → Nat) : Nat := ff (fun x => okp A (x / 13) (ce (x % 13))) 31213
def plf (A : Nat → Nat) (i : Nat) : Int := if i < 4 then wv (plx A / 13) i else ce (plx A % 13)
/-- how many questions were seen -/
def pcnt (A : Nat → Nat) : Nat := sumN (fun q => if A q ≠ 0 then 1 else 0) 16
/-! the class's memory holds S -/
def XI (μ : Me) (S : SS) : Prop :=
  μ 0 0 = nI (S 0 0) ∧ μ 0 1 = nI (S 0 1) ∧ μ 0 2 = nI (S 0 2) ∧ μ 0 3 = nI (S 0 3) ∧ μ 0 4 = nI (pcnt (S 10)) ∧ (∀ j, j < 7 → μ 6 j = nI (S 1 j)) ∧
  (∀ j, j < 14 → μ 8 j = nI (S 2 j)) ∧ (∀ j, j < 14 → μ 9 j = nI (S 3 j)) ∧ (∀ j, j < 14 → μ 10 j = nI (S 4 j)) ∧ (∀ key, key < 2 ^ S 0 2 → μ 11 key = nI (cw S key)) ∧
  (∀ j, j < S 0 3 → μ 12 j = nI (S 5 j) ∧ μ 13 j = bz (decide (S 6 j = 1)) ∧ (S 6 j = 1 → μ 14 j = nI (S 7 j) ∧ μ 15 j = nI (S 8 j))) ∧
  (∀ q, q < 16 → μ 16 q = bz (decide (S 10 q ≠ 0)) ∧ (S 10 q ≠ 0 → μ 17 q = nI (S 10 q - 1)) ∧ μ 18 q = bz (decide (S 11 q = 1))) ∧
  (∃ b : Bool, μ 0 5 = bz b ∧ (b = true → μ 0 6 = nI (plc (S 10)) ∧ (∀ q, q < 16 → μ 20 q = nI (plo (S 10) q)) ∧ (0 < plc (S 10) → ∀ i, i < 5 → μ 19 i = zI (plf (S 10) i))))
theorem XI.n {μ : Me} {S : SS} (h : XI μ S) : μ 0 0 = nI (S 0 0) := h.1
theorem XI.mask {μ : Me} {S : SS} (h : XI μ S) : μ 0 1 = nI (S 0 1) := h.2.1
theorem XI.k {μ : Me} {S : SS} (h : XI μ S) : μ 0 2 = nI (S 0 2) := h.2.2.1
theorem XI.chips {μ : Me} {S : SS} (h : XI μ S) : μ 0 3 = nI (S 0 3) := h.2.2.2.1
theorem XI.pm {μ : Me} {S : SS} (h : XI μ S) : μ 0 4 = nI (pcnt (S 10)) := h.2.2.2.2.1
theorem XI.ref {μ : Me} {S : SS} (h : XI μ S) : ∀ j, j < 7 → μ 6 j = nI (S 1 j) := h.2.2.2.2.2.1
theorem XI.ch {μ : Me} {S : SS} (h : XI μ S) : ∀ j, j < 14 → μ 8 j = nI (S 2 j) := h.2.2.2.2.2.2.1
theorem XI.we {μ : Me} {S : SS} (h : XI μ S) : ∀ j, j < 14 → μ 9 j = nI (S 3 j) := h.2.2.2.2.2.2.2.1
theorem XI.le {μ : Me} {S : SS} (h : XI μ S) : ∀ j, j < 14 → μ 10 j = nI (S 4 j) := h.2.2.2.2.2.2.2.2.1
theorem XI.words {μ : Me} {S : SS} (h : XI μ S) : ∀ key, key < 2 ^ S 0 2 → μ 11 key = nI (cw S key) := h.2.2.2.2.2.2.2.2.2.1
theorem XI.chip {μ : Me} {S : SS} (h : XI μ S) : ∀ j, j < S 0 3 → μ 12 j = nI (S 5 j) ∧ μ 13 j = bz (decide (S 6 j = 1)) ∧ (S 6 j = 1 → μ 14 j = nI (S 7 j) ∧ μ 15 j = nI (S 8 j)) := h.2.2.2.2.2.2.2.2.2.2.1
theorem XI.pair {μ : Me} {S : SS} (h : XI μ S) : ∀ q, q < 16 → μ 16 q = bz (decide (S 10 q ≠ 0)) ∧ (S 10 q ≠ 0 → μ 17 q = nI (S 10 q - 1)) ∧ μ 18 q = bz (decide (S 11 q = 1)) := h.2.2.2.2.2.2.2.2.2.2.2.1
theorem XI.sv {μ : Me} {S : SS} (h : XI μ S) : ∃ b : Bool, μ 0 5 = bz b ∧ (b = true → μ 0 6 = nI (plc (S 10)) ∧ (∀ q, q < 16 → μ 20 q = nI (plo (S 10) q)) ∧ (0 < plc (S 10) → ∀ i, i < 5 → μ 19 i = zI (plf (S 10) i))) := h.2.2.2.2.2.2.2.2.2.2.2.2
/-! the model's memory holds S -/
def MI (τ : MM) (S : SS) : Prop :=
  τ.1 0 0 = nI (S 0 0) ∧ τ.1 0 2 = nI (S 0 1) ∧ τ.1 0 3 = nI (S 0 2) ∧ τ.1 0 1 = nI (S 0 3) ∧ (∀ j, j < 7 → τ.1 1 j = nI (S 1 j)) ∧
  (∀ j, j < 14 → τ.1 2 j = nI (S 2 j)) ∧ (∀ j, j < 14 → τ.1 3 j = nI (S 3 j)) ∧ (∀ j, j < 14 → τ.1 4 j = nI (S 4 j)) ∧ (∀ j, j < S 0 2 → τ.1 8 j = nI (S 9 j)) ∧
  (∀ j, j < S 0 3 → τ.1 5 j = nI (S 5 j) ∧ τ.1 10 j = bz (decide (S 6 j = 1)) ∧ (S 6 j = 1 → τ.1 6 j = nI (S 7 j) ∧ τ.1 7 j = nI (S 8 j))) ∧
  (∀ q, q < 16 → τ.1 9 q = zI ((S 10 q : Int) - 1) ∧ τ.1 11 q = bz (decide (S 11 q = 1))) ∧
  (∃ b : Bool, τ.1 0 5 = bz b ∧ (b = true → (∀ w, w < 2 ^ S 0 0 → τ.1 12 w = nI (mend S w) ∧ τ.1 14 w = bz (clr S w)) ∧ ∀ key, key < 2 ^ S 0 2 → τ.1 13 key = nI (cw S key)))
theorem MI.n {τ : MM} {S : SS} (h : MI τ S) : τ.1 0 0 = nI (S 0 0) := h.1
theorem MI.mask {τ : MM} {S : SS} (h : MI τ S) : τ.1 0 2 = nI (S 0 1) := h.2.1
theorem MI.k {τ : MM} {S : SS} (h : MI τ S) : τ.1 0 3 = nI (S 0 2) := h.2.2.1
theorem MI.chips {τ : MM} {S : SS} (h : MI τ S) : τ.1 0 1 = nI (S 0 3) := h.2.2.2.1
theorem MI.ref {τ : MM} {S : SS} (h : MI τ S) : ∀ j, j < 7 → τ.1 1 j = nI (S 1 j) := h.2.2.2.2.1
theorem MI.ch {τ : MM} {S : SS} (h : MI τ S) : ∀ j, j < 14 → τ.1 2 j = nI (S 2 j) := h.2.2.2.2.2.1
theorem MI.we {τ : MM} {S : SS} (h : MI τ S) : ∀ j, j < 14 → τ.1 3 j = nI (S 3 j) := h.2.2.2.2.2.2.1
theorem MI.le {τ : MM} {S : SS} (h : MI τ S) : ∀ j, j < 14 → τ.1 4 j = nI (S 4 j) := h.2.2.2.2.2.2.2.1
theorem MI.rows {τ : MM} {S : SS} (h : MI τ S) : ∀ j, j < S 0 2 → τ.1 8 j = nI (S 9 j) := h.2.2.2.2.2.2.2.2.1
theorem MI.chip {τ : MM} {S : SS} (h : MI τ S) : ∀ j, j < S 0 3 → τ.1 5 j = nI (S 5 j) ∧ τ.1 10 j = bz (decide (S 6 j = 1)) ∧ (S 6 j = 1 → τ.1 6 j = nI (S 7 j) ∧ τ.1 7 j = nI (S 8 j)) := h.2.2.2.2.2.2.2.2.2.1
theorem MI.pair {τ : MM} {S : SS} (h : MI τ S) : ∀ q, q < 16 → τ.1 9 q = zI ((S 10 q : Int) - 1) ∧ τ.1 11 q = bz (decide (S 11 q = 1)) := h.2.2.2.2.2.2.2.2.2.2.1
theorem MI.made {τ : MM} {S : SS} (h : MI τ S) : ∃ b : Bool, τ.1 0 5 = bz b ∧ (b = true → (∀ w, w < 2 ^ S 0 0 → τ.1 12 w = nI (mend S w) ∧ τ.1 14 w = bz (clr S w)) ∧ ∀ key, key < 2 ^ S 0 2 → τ.1 13 key = nI (cw S key)) := h.2.2.2.2.2.2.2.2.2.2.2
theorem SV.n1 {S : SS} (h : SV S) : 4 ≤ S 0 0 := h.1.1
theorem SV.n2 {S : SS} (h : SV S) : S 0 0 ≤ 14 := h.1.2
theorem SV.mask {S : SS} (h : SV S) : S 0 1 < 2 ^ S 0 0 := h.2.1
theorem SV.k {S : SS} (h : SV S) : S 0 2 ≤ 6 := h.2.2.1
theorem SV.chips {S : SS} (h : SV S) : S 0 3 ≤ 8 := h.2.2.2.1
theorem SV.told {S : SS} (h : SV S) : ∀ j, j < 14 → S 2 j ≤ 4 ∧ S 3 j ≤ 4 ∧ 1 ≤ S 4 j ∧ S 4 j ≤ 7 := h.2.2.2.2.1
theorem SV.chip {S : SS} (h : SV S) : ∀ j, j < S 0 3 → S 5 j < 2 ^ S 0 0 ∧ S 6 j ≤ 1 ∧ (S 6 j = 1 → S 7 j < 2 ^ S 0 0 ∧ S 7 j &&& S 0 1 = 0 ∧ S 8 j < 2 ^ S 0 2) := h.2.2.2.2.2.1
theorem SV.rows {S : SS} (h : SV S) : ∀ j, j < S 0 2 → S 9 j < 2 ^ S 0 0 ∧ S 9 j &&& S 0 1 = 0 := h.2.2.2.2.2.2.1
theorem SV.ind {S : SS} (h : SV S) : ∀ key, 0 < key → key < 2 ^ S 0 2 → cw S key ≠ 0 := h.2.2.2.2.2.2.2.1
theorem SV.pair {S : SS} (h : SV S) : ∀ q, q < 16 → S 10 q ≤ 2 ∧ S 11 q ≤ 1 := h.2.2.2.2.2.2.2.2
theorem SV.pn {S : SS} (h : SV S) : 2 ^ S 0 0 ≤ 16384 := Nat.pow_le_pow_right (by decide) h.n2
theorem SV.pk {S : SS} (h : SV S) : 2 ^ S 0 2 ≤ 64 := Nat.pow_le_pow_right (by decide) h.k
theorem SV.pk1 (S : SS) : 1 ≤ 2 ^ S 0 2 := Nat.one_le_two_pow
end
section
/-! bits -/
theorem pcs_0 : ∀ k : Nat, pcs k 0 = 0
  | 0 => rfl
  | k + 1 => by show 0 % 2 + pcs k (0 / 2) = 0; rw [Nat.zero_div, pcs_0 k]
theorem pcs_le : ∀ (k w : Nat), pcs k w ≤ k
  | 0, _ => Nat.le_refl _
  | k + 1, w => by
    show w % 2 + pcs k (w / 2) ≤ k + 1
    have := pcs_le k (w / 2)
    omega
theorem pc_le (w : Nat) : pc w ≤ 14 := pcs_le 14 w
theorem pc_0 : pc 0 = 0 := pcs_0 14
theorem pcs_kern : ∀ (k v : Nat), v ≠ 0 → v < 2 ^ k → pcs k (v &&& (v - 1)) + 1 = pcs k v
  | 0, v, h0, h => by simp at h; omega
  | k + 1, v, h0, h => by
    show (v &&& (v - 1)) % 2 + pcs k ((v &&& (v - 1)) / 2) + 1 = v % 2 + pcs k (v / 2)
    rw [Nat.and_div_two]
    have hp : 2 ^ (k + 1) = 2 * 2 ^ k := by rw [Nat.pow_succ, Nat.mul_comm]
    rcases Nat.mod_two_eq_zero_or_one v with hv | hv
    · have h1 : (v &&& (v - 1)) % 2 = 0 := by
        rcases Nat.mod_two_eq_zero_or_one (v &&& (v - 1)) with q | q
        · exact q
        · have := (Nat.and_mod_two_eq_one.mp q).1
          omega
      have h2 : (v - 1) / 2 = v / 2 - 1 := by omega
      have h3 := pcs_kern k (v / 2) (by omega) (by omega)
      rw [h1, h2, hv]
      omega
    · have h1 : (v &&& (v - 1)) % 2 = 0 := by
        rcases Nat.mod_two_eq_zero_or_one (v &&& (v - 1)) with q | q
        · exact q
        · have := (Nat.and_mod_two_eq_one.mp q).2
          omega
      have h2 : (v - 1) / 2 = v / 2 := by omega
      rw [h1, h2, hv, Nat.and_self]
      omega
theorem pc_kern {v : Nat} (h0 : v ≠ 0) (h : v < 16384) : pc (v &&& (v - 1)) + 1 = pc v := pcs_kern 14 v h0 h
theorem nd_le (a m : Nat) : nd a m ≤ a := by
  apply Nat.le_of_testBit
  intro i h
  rw [nd_bit] at h
  cases hh : a.testBit i
  · rw [hh] at h; simp at h
  · rfl
theorem nd_lt {a m n : Nat} (h : a < 2 ^ n) : nd a m < 2 ^ n := Nat.lt_of_le_of_lt (nd_le a m) h
theorem nd_and (a m : Nat) : nd a m &&& m = 0 := by
  apply Nat.eq_of_testBit_eq
  intro i
  rw [Nat.testBit_and, nd_bit, Nat.zero_testBit]
  cases a.testBit i <;> cases m.testBit i <;> rfl
theorem nd_self {a m : Nat} (h : a &&& m = 0) : nd a m = a := by unfold nd; rw [h, Nat.xor_zero]
theorem nd_nd (a m : Nat) : nd (nd a m) m = nd a m := nd_self (nd_and a m)
theorem nd_xor (a b m : Nat) : nd (a ^^^ b) m = nd a m ^^^ nd b m := by
  apply Nat.eq_of_testBit_eq
  intro i
  simp only [nd_bit, Nat.testBit_xor]
  cases a.testBit i <;> cases b.testBit i <;> cases m.testBit i <;> rfl
theorem and_open {w n m : Nat} (h : w < 2 ^ n) : w &&& nd (2 ^ n - 1) m = nd w m := by
  apply Nat.eq_of_testBit_eq
  intro i
  rw [Nat.testBit_and, nd_bit, nd_bit, Nat.testBit_two_pow_sub_one]
  by_cases hi : i < n
  · simp [hi]
  · have : w.testBit i = false := Nat.testBit_lt_two_pow (Nat.lt_of_lt_of_le h (Nat.pow_le_pow_right (by decide) (by omega)))
    simp [this]
theorem bt_and (a b i : Nat) : bt (a &&& b) i = bt a i * bt b i := by
  have h := Nat.testBit_and a b i
  rw [bt_testBit, bt_testBit, bt_testBit] at h
  have h1 := bt_lt a i
  have h2 := bt_lt b i
  have h3 := bt_lt (a &&& b) i
  rcases (show bt a i = 0 ∨ bt a i = 1 by omega) with q1 | q1 <;> rcases (show bt b i = 0 ∨ bt b i = 1 by omega) with q2 | q2 <;> rcases (show bt (a &&& b) i = 0 ∨ bt (a &&& b) i = 1 by omega) with q3 | q3 <;> rw [q1, q2, q3] at h <;> rw [q1, q2, q3] <;> simp at h <;> rfl
/-- the JDK's way to count -/
def bcf (w : Nat) : Nat :=
  let x1 := w - (w / 2 ^ 1 &&& 1431655765)
  let x2 := (x1 &&& 858993459) + (x1 / 2 ^ 2 &&& 858993459)
  let x3 := x2 + x2 / 2 ^ 4 &&& 252645135
  let x4 := x3 + x3 / 2 ^ 8
  let x5 := x4 + x4 / 2 ^ 16
  x5 &&& 63
def pcf (w : Nat) : Nat := w % 2 + (w / 2 % 2 + (w / 4 % 2 + (w / 8 % 2 + (w / 16 % 2 + (w / 32 % 2 + (w / 64 % 2 + (w / 128 % 2 + (w / 256 % 2 + (w / 512 % 2 + (w / 1024 % 2 + (w / 2048 % 2 + (w / 4096 % 2 + (w / 8192 % 2)))))))))))))
theorem pc_pcf (w : Nat) : pc w = pcf w := by
  simp only [pc, pcs, pcf, Nat.div_div_eq_div_mul, Nat.add_zero]
theorem bcf_all : allN (fun a => allN (fun b => bcf (a * 128 + b) == pcf (a * 128 + b)) 128) 128 = true := by decide +kernel
theorem bcf_pc {w : Nat} (h : w < 16384) : bcf w = pc w := by
  have h1 := allN_iff.mp (allN_iff.mp bcf_all (w / 128) (by omega)) (w % 128) (by omega)
  have h2 : w / 128 * 128 + w % 128 = w := by omega
  rw [h2] at h1
  rw [pc_pcf]
  exact eq_of_beq h1
/-! sums, least ones -/
theorem sumN_congr {f g : Nat → Nat} : ∀ {m : Nat}, (∀ i, i < m → f i = g i) → sumN f m = sumN g m
  | 0, _ => rfl
  | m + 1, h => by
    show sumN f m + f m = sumN g m + g m
    rw [sumN_congr (fun i hi => h i (by omega)), h m (by omega)]
theorem amin_1 (d : Nat → Nat) : amin d 1 = 0 := by simp [amin]
theorem amin_lt (d : Nat → Nat) : ∀ {m : Nat}, 0 < m → amin d m < m
  | 1, _ => by rw [amin_1]; decide
  | m + 2, _ => by
    have h := amin_lt d (m := m + 1) (by omega)
    show (if d (m + 1) < d (amin d (m + 1)) then m + 1 else amin d (m + 1)) < m + 2
    split <;> omega
theorem amin_le (d : Nat → Nat) : ∀ {m i : Nat}, i < m → d (amin d m) ≤ d i
  | m + 1, i, h => by
    show d (if d m < d (amin d m) then m else amin d m) ≤ d i
    by_cases hi : i = m
    · subst hi
      split <;> omega
    · have h1 := amin_le d (m := m) (i := i) (by omega)
      split <;> omega
theorem amin_first (d : Nat → Nat) : ∀ {m i : Nat}, i < amin d m → d (amin d m) < d i
  | 0, i, h => by simp [amin] at h
  | m + 1, i, h => by
    show d (if d m < d (amin d m) then m else amin d m) < d i
    by_cases q : d m < d (amin d m)
    · rw [if_pos q]
      have h' : i < m := by
        have e : amin d (m + 1) = m := by show (if d m < d (amin d m) then m else amin d m) = m; rw [if_pos q]
        omega
      have := amin_le d (m := m) (i := i) h'
      omega
    · rw [if_neg q]
      have e : amin d (m + 1) = amin d m := by show (if d m < d (amin d m) then m else amin d m) = _; rw [if_neg q]
      rw [e] at h
      exact amin_first d h
theorem amin_eq {d : Nat → Nat} {m b : Nat} (hb : b < m) (h1 : ∀ i, i < m → d b ≤ d i) (h2 : ∀ i, i < b → d b < d i) : amin d m = b := by
  have h3 := amin_le d (m := m) hb
  have h4 := amin_lt d (m := m) (by omega)
  have h5 := h1 _ h4
  rcases Nat.lt_trichotomy (amin d m) b with q | q | q
  · have := h2 _ q; omega
  · exact q
  · have := amin_first d q; omega
theorem amin_congr {d e : Nat → Nat} : ∀ {m : Nat}, (∀ i, i < m → d i = e i) → amin d m = amin e m
  | 0, _ => rfl
  | m + 1, h => by
    have h1 := amin_congr (m := m) (fun i hi => h i (by omega))
    show (if d m < d (amin d m) then m else amin d m) = if e m < e (amin e m) then m else amin e m
    by_cases hm : m = 0
    · subst hm
      simp [amin]
    · rw [h1, h m (by omega), h _ (by have := amin_lt e (m := m) (by omega); omega)]
theorem amin_S (d : Nat → Nat) (m : Nat) : amin d (m + 1) = if d m < d (amin d m) then m else amin d m := rfl
theorem uq_iff (d : Nat → Nat) : ∀ {m : Nat}, 0 < m → (uq d m = true ↔ ∀ i, i < m → i ≠ amin d m → d (amin d m) < d i)
  | 1, _ => by
    rw [amin_1]
    simp only [uq, true_iff]
    intro i h1 h2
    omega
  | m + 2, _ => by
    have ih := uq_iff d (m := m + 1) (by omega)
    have hl := amin_lt d (m := m + 1) (by omega)
    rw [amin_S]
    show (if d (m + 1) < d (amin d (m + 1)) then true else if d (m + 1) = d (amin d (m + 1)) then false else uq d (m + 1)) = true ↔ _
    by_cases h1 : d (m + 1) < d (amin d (m + 1))
    · simp only [if_pos h1, true_iff]
      intro i hi hne
      have := amin_le d (m := m + 1) (i := i) (by omega)
      omega
    · by_cases h2 : d (m + 1) = d (amin d (m + 1))
      · simp only [if_neg h1, if_pos h2]
        constructor
        · intro h; cases h
        · intro h
          have := h (m + 1) (by omega) (by omega)
          omega
      · simp only [if_neg h1, if_neg h2]
        rw [ih]
        constructor
        · intro h i hi hne
          by_cases q : i = m + 1
          · subst q; omega
          · exact h i (by omega) hne
        · intro h i hi hne
          exact h i (by omega) hne
theorem uq_S (d : Nat → Nat) {m : Nat} (h : 0 < m) : uq d (m + 1) = if d m < d (amin d m) then true else if d m = d (amin d m) then false else uq d m := by
  cases m with
  | zero => omega
  | succ m => rfl
end
section
theorem i32_gt0 {v : Nat} (h0 : 0 < v) (hv : v < 2147483648) : (0 : Int32) < nI v := by rw [i32_lt, i32_0, nI_toI hv]; omega
def nlzf (v : Nat) : Nat :=
  let a0 := 31
  let a1 := if 256 ≤ v then a0 - 8 else a0
  let v1 := if 256 ≤ v then v / 2 ^ 8 else v
  let a2 := if 16 ≤ v1 then a1 - 4 else a1
  let v2 := if 16 ≤ v1 then v1 / 2 ^ 4 else v1
  let a3 := if 4 ≤ v2 then a2 - 2 else a2
  let v3 := if 4 ≤ v2 then v2 / 2 ^ 2 else v2
  a3 - v3 / 2 ^ 1
theorem nlz_all : allN (fun a => allN (fun b => (a * 128 + b == 0) || nlzf (a * 128 + b) == 31 - Nat.log2 (a * 128 + b)) 128) 128 = true := by decide +kernel
theorem nlz_ok {v : Nat} (h0 : 0 < v) (h : v < 16384) : nlzf v = 31 - Nat.log2 v := by
  have h1 := allN_iff.mp (allN_iff.mp nlz_all (v / 128) (by omega)) (v % 128) (by omega)
  have h2 : v / 128 * 128 + v % 128 = v := by omega
  rw [h2] at h1
  rcases Bool.or_eq_true _ _ ▸ h1 with q | q
  · have := eq_of_beq q; omega
  · exact eq_of_beq q
theorem nI_dec {a b : Nat} (h : b ≤ a) : nI a + Int32.ofInt (-(b : Int)) = nI (a - b) := by
  show zI (a : Int) + zI (-(b : Int)) = zI ((a - b : Nat) : Int)
  rw [zI_add]
  congr 1
  omega
theorem log2_lt {v k : Nat} (h0 : 0 < v) (h : v < 2 ^ k) : Nat.log2 v < k := (Nat.log2_lt (by omega)).mpr h
theorem hob_sh {v : Nat} (h0 : 0 < v) (hv : v < 16384) : ((nI 2147483648).toUInt32 >>> ((nI (31 - Nat.log2 v)).toUInt32 &&& Int32.toUInt32 31)).toInt32 = nI (2 ^ Nat.log2 v) := by
  have h1 : Nat.log2 v < 14 := log2_lt h0 hv
  rw [nI_ushr (by decide) (by omega)]
  have h2 : 2147483648 = 2 ^ Nat.log2 v * 2 ^ (31 - Nat.log2 v) := by rw [← Nat.pow_add, show Nat.log2 v + (31 - Nat.log2 v) = 31 by omega]
  rw [h2, Nat.mul_div_cancel _ (Nat.two_pow_pos _)]
theorem hob_and {v : Nat} (h0 : 0 < v) : v &&& 2 ^ Nat.log2 v = 2 ^ Nat.log2 v := by
  apply Nat.eq_of_testBit_eq
  intro i
  rw [Nat.testBit_and, Nat.testBit_two_pow]
  by_cases h : Nat.log2 v = i
  · subst h
    simp [Nat.testBit_log2 (show v ≠ 0 by omega)]
  · simp [h]
theorem nI_andc2 (a m : Nat) : (nI m ^^^ (-1)) &&& nI a = nI (nd a m) := by rw [Int32.and_comm]; exact nI_andc a m

set_option maxHeartbeats 4000000 in
set_option maxRecDepth 100000 in
theorem c_J6_bitCount_0f7a4 {l : Launch} {D : va_G} {c : Nat → ClassId} {w : Nat} (hw : w < 16384) : KI l D (tyE c) w0 yJ6_bitCount_0f7a4 cJ6_bitCount_0f7a4 1 .int (rmL 1) [.int (nI w)] () (fun r u => r = nI (pc w) ∧ u = ()) := by
  refine x_enterI (by decide) (Nat.le_of_ble_eq_true rfl) (fun F hl hD hn hRm hC hR => ?_)
  subst hl hD
  change XW F 0 0 (w0 ()) [(0, .int (nI w))] 0 []
  change FC F cJ6_bitCount_0f7a4 RJ6 (tyE c) at hC
  refine x_iload_n hC 0 rfl dJ6_bitCount_0f7a4_0 ?_
  refine x_iload_n hC 0 rfl dJ6_bitCount_0f7a4_1 ?_
  refine x_iconst hC (v := (nI 1)) dJ6_bitCount_0f7a4_2 rfl ?_
  refine x_iushr hC (v := (nI (w / 2 ^ 1))) (nI_ushr (by omega) (by decide)) dJ6_bitCount_0f7a4_3 ?_
  refine x_ldcw hC cn_J6_265 dJ6_bitCount_0f7a4_4 ?_
  refine x_top (show (1431655765 : Int32) = (nI 1431655765) from rfl) ?_
  refine x_iandE hC (z := (nI ((w / 2 ^ 1) &&& 1431655765))) (nI_and _ _) dJ6_bitCount_0f7a4_7 ?_
  refine x_isubE hC (z := (nI (w - ((w / 2 ^ 1) &&& 1431655765)))) (pk_sub (Nat.le_trans Nat.and_le_left (Nat.div_le_self _ _))) dJ6_bitCount_0f7a4_8 ?_
  obtain ⟨x1, e_x1⟩ : ∃ z : Nat, z = (w - ((w / 2 ^ 1) &&& 1431655765)) := ⟨_, rfl⟩
  refine x_top (show (nI (w - ((w / 2 ^ 1) &&& 1431655765))) = nI x1 by rw [e_x1]) ?_
  have b1 : x1 ≤ w := by rw [e_x1]; exact Nat.sub_le _ _
  refine x_istore_n hC [(0, .int (nI x1))] rfl (lt_n hn rfl) dJ6_bitCount_0f7a4_9 ?_
  refine x_iload_n hC 0 rfl dJ6_bitCount_0f7a4_10 ?_
  refine x_ldcw hC cn_J6_266 dJ6_bitCount_0f7a4_11 ?_
  refine x_top (show (858993459 : Int32) = (nI 858993459) from rfl) ?_
  refine x_iandE hC (z := (nI (x1 &&& 858993459))) (nI_and _ _) dJ6_bitCount_0f7a4_14 ?_
  refine x_iload_n hC 0 rfl dJ6_bitCount_0f7a4_15 ?_
  refine x_iconst hC (v := (nI 2)) dJ6_bitCount_0f7a4_16 rfl ?_
  refine x_iushr hC (v := (nI (x1 / 2 ^ 2))) (nI_ushr (by omega) (by decide)) dJ6_bitCount_0f7a4_17 ?_
  refine x_ldcw hC cn_J6_266 dJ6_bitCount_0f7a4_18 ?_
  refine x_top (show (858993459 : Int32) = (nI 858993459) from rfl) ?_
  refine x_iandE hC (z := (nI ((x1 / 2 ^ 2) &&& 858993459))) (nI_and _ _) dJ6_bitCount_0f7a4_21 ?_
  refine x_iaddE hC (z := (nI ((x1 &&& 858993459) + ((x1 / 2 ^ 2) &&& 858993459)))) (nI_add _ _) dJ6_bitCount_0f7a4_22 ?_
  obtain ⟨x2, e_x2⟩ : ∃ z : Nat, z = ((x1 &&& 858993459) + ((x1 / 2 ^ 2) &&& 858993459)) := ⟨_, rfl⟩
  refine x_top (show (nI ((x1 &&& 858993459) + ((x1 / 2 ^ 2) &&& 858993459))) = nI x2 by rw [e_x2]) ?_
  have b2 : x2 ≤ 2 * w := by
    have q1 := Nat.and_le_left (n := x1) (m := 858993459)
    have q2 := Nat.and_le_left (n := x1 / 2 ^ 2) (m := 858993459)
    rw [e_x2]; omega
  refine x_istore_n hC [(0, .int (nI x2))] rfl (lt_n hn rfl) dJ6_bitCount_0f7a4_23 ?_
  refine x_iload_n hC 0 rfl dJ6_bitCount_0f7a4_24 ?_
  refine x_iload_n hC 0 rfl dJ6_bitCount_0f7a4_25 ?_
  refine x_iconst hC (v := (nI 4)) dJ6_bitCount_0f7a4_26 rfl ?_
  refine x_iushr hC (v := (nI (x2 / 2 ^ 4))) (nI_ushr (by omega) (by decide)) dJ6_bitCount_0f7a4_27 ?_
  refine x_iaddE hC (z := (nI (x2 + (x2 / 2 ^ 4)))) (nI_add _ _) dJ6_bitCount_0f7a4_28 ?_
  refine x_ldcw hC cn_J6_267 dJ6_bitCount_0f7a4_29 ?_
  refine x_top (show (252645135 : Int32) = (nI 252645135) from rfl) ?_
  refine x_iandE hC (z := (nI ((x2 + (x2 / 2 ^ 4)) &&& 252645135))) (nI_and _ _) dJ6_bitCount_0f7a4_32 ?_
  obtain ⟨x3, e_x3⟩ : ∃ z : Nat, z = ((x2 + (x2 / 2 ^ 4)) &&& 252645135) := ⟨_, rfl⟩
  refine x_top (show (nI ((x2 + (x2 / 2 ^ 4)) &&& 252645135)) = nI x3 by rw [e_x3]) ?_
  have b3 : x3 ≤ 4 * w := by
    have q1 := Nat.and_le_left (n := x2 + x2 / 2 ^ 4) (m := 252645135)
    rw [e_x3]; omega
  refine x_istore_n hC [(0, .int (nI x3))] rfl (lt_n hn rfl) dJ6_bitCount_0f7a4_33 ?_
  refine x_iload_n hC 0 rfl dJ6_bitCount_0f7a4_34 ?_
  refine x_iload_n hC 0 rfl dJ6_bitCount_0f7a4_35 ?_
  refine x_bipush hC (v := (nI 8)) dJ6_bitCount_0f7a4_36 rfl ?_
  refine x_iushr hC (v := (nI (x3 / 2 ^ 8))) (nI_ushr (by omega) (by decide)) dJ6_bitCount_0f7a4_38 ?_
  refine x_iaddE hC (z := (nI (x3 + (x3 / 2 ^ 8)))) (nI_add _ _) dJ6_bitCount_0f7a4_39 ?_
  obtain ⟨x4, e_x4⟩ : ∃ z : Nat, z = (x3 + (x3 / 2 ^ 8)) := ⟨_, rfl⟩
  refine x_top (show (nI (x3 + (x3 / 2 ^ 8))) = nI x4 by rw [e_x4]) ?_
  have b4 : x4 ≤ 8 * w := by rw [e_x4]; omega
  refine x_istore_n hC [(0, .int (nI x4))] rfl (lt_n hn rfl) dJ6_bitCount_0f7a4_40 ?_
  refine x_iload_n hC 0 rfl dJ6_bitCount_0f7a4_41 ?_
  refine x_iload_n hC 0 rfl dJ6_bitCount_0f7a4_42 ?_
  refine x_bipush hC (v := (nI 16)) dJ6_bitCount_0f7a4_43 rfl ?_
  refine x_iushr hC (v := (nI (x4 / 2 ^ 16))) (nI_ushr (by omega) (by decide)) dJ6_bitCount_0f7a4_45 ?_
  refine x_iaddE hC (z := (nI (x4 + (x4 / 2 ^ 16)))) (nI_add _ _) dJ6_bitCount_0f7a4_46 ?_
  obtain ⟨x5, e_x5⟩ : ∃ z : Nat, z = (x4 + (x4 / 2 ^ 16)) := ⟨_, rfl⟩
  refine x_top (show (nI (x4 + (x4 / 2 ^ 16))) = nI x5 by rw [e_x5]) ?_
  refine x_istore_n hC [(0, .int (nI x5))] rfl (lt_n hn rfl) dJ6_bitCount_0f7a4_47 ?_
  refine x_iload_n hC 0 rfl dJ6_bitCount_0f7a4_48 ?_
  refine x_bipush hC (v := (nI 63)) dJ6_bitCount_0f7a4_49 rfl ?_
  refine x_iandE hC (z := (nI (x5 &&& 63))) (nI_and _ _) dJ6_bitCount_0f7a4_51 ?_
  exact x_iret hC hR dJ6_bitCount_0f7a4_52 (⟨by rw [← bcf_pc hw, e_x5, e_x4, e_x3, e_x2, e_x1]; rfl, rfl⟩)
set_option maxHeartbeats 4000000 in
set_option maxRecDepth 100000 in
theorem c_J6_numberOfLeadingZeros_0f7a4 {l : Launch} {D : va_G} {c : Nat → ClassId} {v : Nat} (h0 : 0 < v) (hv : v < 16384) : KI l D (tyE c) w0 yJ6_numberOfLeadingZeros_0f7a4 cJ6_numberOfLeadingZeros_0f7a4 2 .int (rmL 1) [.int (nI v)] () (fun r u => r = nI (31 - Nat.log2 v) ∧ u = ()) := by
  refine x_enterI (by decide) (Nat.le_of_ble_eq_true rfl) (fun F hl hD hn hRm hC hR => ?_)
  subst hl hD
  change XW F 0 0 (w0 ()) [(0, .int (nI v))] 0 []
  change FC F cJ6_numberOfLeadingZeros_0f7a4 RJ6 (tyE c) at hC
  refine x_iload_n hC 0 rfl dJ6_numberOfLeadingZeros_0f7a4_0 ?_
  refine x_if_gtN hC 15 dJ6_numberOfLeadingZeros_0f7a4_1 rfl (by omega) (fun h1 => ?_) (fun h1 => ?_)
  · -- 1 T
    refine x_bipush hC (v := (nI 31)) dJ6_numberOfLeadingZeros_0f7a4_15 rfl ?_
    refine x_istore_n hC [(1, .int (nI 31)), (0, .int (nI v))] rfl (lt_n hn rfl) dJ6_numberOfLeadingZeros_0f7a4_17 ?_
    refine x_iload_n hC 1 rfl dJ6_numberOfLeadingZeros_0f7a4_18 ?_
    refine x_ldcw hC cn_J6_264 dJ6_numberOfLeadingZeros_0f7a4_19 ?_
    refine x_top (show (65536 : Int32) = (nI 65536) from rfl) ?_
    refine x_icmp_ltN hC 33 dJ6_numberOfLeadingZeros_0f7a4_22 rfl (by omega) (by decide) (fun h22 => ?_) (fun h22 => ?_)
    · -- 22 T
      refine x_iload_n hC 1 rfl dJ6_numberOfLeadingZeros_0f7a4_33 ?_
      refine x_sipush hC (v := (nI 256)) dJ6_numberOfLeadingZeros_0f7a4_34 rfl ?_
      refine x_icmp_ltN hC 48 dJ6_numberOfLeadingZeros_0f7a4_37 rfl (by omega) (by decide) (fun h37 => ?_) (fun h37 => ?_)
      · -- 37 T
        refine x_iload_n hC 1 rfl dJ6_numberOfLeadingZeros_0f7a4_48 ?_
        refine x_bipush hC (v := (nI 16)) dJ6_numberOfLeadingZeros_0f7a4_49 rfl ?_
        refine x_icmp_ltN hC 61 dJ6_numberOfLeadingZeros_0f7a4_51 rfl (by omega) (by decide) (fun h51 => ?_) (fun h51 => ?_)
        · -- 51 T
          refine x_iload_n hC 1 rfl dJ6_numberOfLeadingZeros_0f7a4_61 ?_
          refine x_iconst hC (v := (nI 4)) dJ6_numberOfLeadingZeros_0f7a4_62 rfl ?_
          refine x_icmp_ltN hC 73 dJ6_numberOfLeadingZeros_0f7a4_63 rfl (by omega) (by decide) (fun h63 => ?_) (fun h63 => ?_)
          · -- 63 T
            refine x_iload_n hC 0 rfl dJ6_numberOfLeadingZeros_0f7a4_73 ?_
            refine x_iload_n hC 1 rfl dJ6_numberOfLeadingZeros_0f7a4_74 ?_
            refine x_iconst hC (v := (nI 1)) dJ6_numberOfLeadingZeros_0f7a4_75 rfl ?_
            refine x_iushr hC (v := (nI (v / 2 ^ 1))) (nI_ushr (by omega) (by decide)) dJ6_numberOfLeadingZeros_0f7a4_76 ?_
            refine x_isubE hC (z := (nI (31 - (v / 2 ^ 1)))) (pk_sub (by omega)) dJ6_numberOfLeadingZeros_0f7a4_77 ?_
            exact x_iret hC hR dJ6_numberOfLeadingZeros_0f7a4_78 (⟨congrArg nI (by rw [← nlz_ok h0 hv]; unfold nlzf; dsimp only; (repeat' split) <;> omega), rfl⟩)
          · -- 63 F
            refine x_iinc hC (z := -2) (v := (nI 29)) 0 rfl (by decide) [(1, .int (nI 29)), (0, .int (nI v))] rfl (lt_n hn rfl) dJ6_numberOfLeadingZeros_0f7a4_66 ?_
            refine x_iload_n hC 1 rfl dJ6_numberOfLeadingZeros_0f7a4_69 ?_
            refine x_iconst hC (v := (nI 2)) dJ6_numberOfLeadingZeros_0f7a4_70 rfl ?_
            refine x_iushr hC (v := (nI (v / 2 ^ 2))) (nI_ushr (by omega) (by decide)) dJ6_numberOfLeadingZeros_0f7a4_71 ?_
            refine x_istore_n hC [(0, .int (nI (v / 2 ^ 2))), (1, .int (nI 29))] rfl (lt_n hn rfl) dJ6_numberOfLeadingZeros_0f7a4_72 ?_
            refine x_iload_n hC 1 rfl dJ6_numberOfLeadingZeros_0f7a4_73 ?_
            refine x_iload_n hC 0 rfl dJ6_numberOfLeadingZeros_0f7a4_74 ?_
            refine x_iconst hC (v := (nI 1)) dJ6_numberOfLeadingZeros_0f7a4_75 rfl ?_
            refine x_iushr hC (v := (nI ((v / 2 ^ 2) / 2 ^ 1))) (nI_ushr (by omega) (by decide)) dJ6_numberOfLeadingZeros_0f7a4_76 ?_
            refine x_isubE hC (z := (nI (29 - ((v / 2 ^ 2) / 2 ^ 1)))) (pk_sub (by omega)) dJ6_numberOfLeadingZeros_0f7a4_77 ?_
            exact x_iret hC hR dJ6_numberOfLeadingZeros_0f7a4_78 (⟨congrArg nI (by rw [← nlz_ok h0 hv]; unfold nlzf; dsimp only; (repeat' split) <;> omega), rfl⟩)
        · -- 51 F
          refine x_iinc hC (z := -4) (v := (nI 27)) 0 rfl (by decide) [(1, .int (nI 27)), (0, .int (nI v))] rfl (lt_n hn rfl) dJ6_numberOfLeadingZeros_0f7a4_54 ?_
          refine x_iload_n hC 1 rfl dJ6_numberOfLeadingZeros_0f7a4_57 ?_
          refine x_iconst hC (v := (nI 4)) dJ6_numberOfLeadingZeros_0f7a4_58 rfl ?_
          refine x_iushr hC (v := (nI (v / 2 ^ 4))) (nI_ushr (by omega) (by decide)) dJ6_numberOfLeadingZeros_0f7a4_59 ?_
          refine x_istore_n hC [(0, .int (nI (v / 2 ^ 4))), (1, .int (nI 27))] rfl (lt_n hn rfl) dJ6_numberOfLeadingZeros_0f7a4_60 ?_
          refine x_iload_n hC 0 rfl dJ6_numberOfLeadingZeros_0f7a4_61 ?_
          refine x_iconst hC (v := (nI 4)) dJ6_numberOfLeadingZeros_0f7a4_62 rfl ?_
          refine x_icmp_ltN hC 73 dJ6_numberOfLeadingZeros_0f7a4_63 rfl (by omega) (by decide) (fun h63 => ?_) (fun h63 => ?_)
          · -- 63 T
            refine x_iload_n hC 1 rfl dJ6_numberOfLeadingZeros_0f7a4_73 ?_
            refine x_iload_n hC 0 rfl dJ6_numberOfLeadingZeros_0f7a4_74 ?_
            refine x_iconst hC (v := (nI 1)) dJ6_numberOfLeadingZeros_0f7a4_75 rfl ?_
            refine x_iushr hC (v := (nI ((v / 2 ^ 4) / 2 ^ 1))) (nI_ushr (by omega) (by decide)) dJ6_numberOfLeadingZeros_0f7a4_76 ?_
            refine x_isubE hC (z := (nI (27 - ((v / 2 ^ 4) / 2 ^ 1)))) (pk_sub (by omega)) dJ6_numberOfLeadingZeros_0f7a4_77 ?_
            exact x_iret hC hR dJ6_numberOfLeadingZeros_0f7a4_78 (⟨congrArg nI (by rw [← nlz_ok h0 hv]; unfold nlzf; dsimp only; (repeat' split) <;> omega), rfl⟩)
          · -- 63 F
            refine x_iinc hC (z := -2) (v := (nI 25)) 1 rfl (by decide) [(1, .int (nI 25)), (0, .int (nI (v / 2 ^ 4)))] rfl (lt_n hn rfl) dJ6_numberOfLeadingZeros_0f7a4_66 ?_
            refine x_iload_n hC 1 rfl dJ6_numberOfLeadingZeros_0f7a4_69 ?_
            refine x_iconst hC (v := (nI 2)) dJ6_numberOfLeadingZeros_0f7a4_70 rfl ?_
            refine x_iushr hC (v := (nI ((v / 2 ^ 4) / 2 ^ 2))) (nI_ushr (by omega) (by decide)) dJ6_numberOfLeadingZeros_0f7a4_71 ?_
            refine x_istore_n hC [(0, .int (nI ((v / 2 ^ 4) / 2 ^ 2))), (1, .int (nI 25))] rfl (lt_n hn rfl) dJ6_numberOfLeadingZeros_0f7a4_72 ?_
            refine x_iload_n hC 1 rfl dJ6_numberOfLeadingZeros_0f7a4_73 ?_
            refine x_iload_n hC 0 rfl dJ6_numberOfLeadingZeros_0f7a4_74 ?_
            refine x_iconst hC (v := (nI 1)) dJ6_numberOfLeadingZeros_0f7a4_75 rfl ?_
            refine x_iushr hC (v := (nI (((v / 2 ^ 4) / 2 ^ 2) / 2 ^ 1))) (nI_ushr (by omega) (by decide)) dJ6_numberOfLeadingZeros_0f7a4_76 ?_
            refine x_isubE hC (z := (nI (25 - (((v / 2 ^ 4) / 2 ^ 2) / 2 ^ 1)))) (pk_sub (by omega)) dJ6_numberOfLeadingZeros_0f7a4_77 ?_
            exact x_iret hC hR dJ6_numberOfLeadingZeros_0f7a4_78 (⟨congrArg nI (by rw [← nlz_ok h0 hv]; unfold nlzf; dsimp only; (repeat' split) <;> omega), rfl⟩)
      · -- 37 F
        refine x_iinc hC (z := -8) (v := (nI 23)) 0 rfl (by decide) [(1, .int (nI 23)), (0, .int (nI v))] rfl (lt_n hn rfl) dJ6_numberOfLeadingZeros_0f7a4_40 ?_
        refine x_iload_n hC 1 rfl dJ6_numberOfLeadingZeros_0f7a4_43 ?_
        refine x_bipush hC (v := (nI 8)) dJ6_numberOfLeadingZeros_0f7a4_44 rfl ?_
        refine x_iushr hC (v := (nI (v / 2 ^ 8))) (nI_ushr (by omega) (by decide)) dJ6_numberOfLeadingZeros_0f7a4_46 ?_
        refine x_istore_n hC [(0, .int (nI (v / 2 ^ 8))), (1, .int (nI 23))] rfl (lt_n hn rfl) dJ6_numberOfLeadingZeros_0f7a4_47 ?_
        refine x_iload_n hC 0 rfl dJ6_numberOfLeadingZeros_0f7a4_48 ?_
        refine x_bipush hC (v := (nI 16)) dJ6_numberOfLeadingZeros_0f7a4_49 rfl ?_
        refine x_icmp_ltN hC 61 dJ6_numberOfLeadingZeros_0f7a4_51 rfl (by omega) (by decide) (fun h51 => ?_) (fun h51 => ?_)
        · -- 51 T
          refine x_iload_n hC 0 rfl dJ6_numberOfLeadingZeros_0f7a4_61 ?_
          refine x_iconst hC (v := (nI 4)) dJ6_numberOfLeadingZeros_0f7a4_62 rfl ?_
          refine x_icmp_ltN hC 73 dJ6_numberOfLeadingZeros_0f7a4_63 rfl (by omega) (by decide) (fun h63 => ?_) (fun h63 => ?_)
          · -- 63 T
            refine x_iload_n hC 1 rfl dJ6_numberOfLeadingZeros_0f7a4_73 ?_
            refine x_iload_n hC 0 rfl dJ6_numberOfLeadingZeros_0f7a4_74 ?_
            refine x_iconst hC (v := (nI 1)) dJ6_numberOfLeadingZeros_0f7a4_75 rfl ?_
            refine x_iushr hC (v := (nI ((v / 2 ^ 8) / 2 ^ 1))) (nI_ushr (by omega) (by decide)) dJ6_numberOfLeadingZeros_0f7a4_76 ?_
            refine x_isubE hC (z := (nI (23 - ((v / 2 ^ 8) / 2 ^ 1)))) (pk_sub (by omega)) dJ6_numberOfLeadingZeros_0f7a4_77 ?_
            exact x_iret hC hR dJ6_numberOfLeadingZeros_0f7a4_78 (⟨congrArg nI (by rw [← nlz_ok h0 hv]; unfold nlzf; dsimp only; (repeat' split) <;> omega), rfl⟩)
          · -- 63 F
            refine x_iinc hC (z := -2) (v := (nI 21)) 1 rfl (by decide) [(1, .int (nI 21)), (0, .int (nI (v / 2 ^ 8)))] rfl (lt_n hn rfl) dJ6_numberOfLeadingZeros_0f7a4_66 ?_
            refine x_iload_n hC 1 rfl dJ6_numberOfLeadingZeros_0f7a4_69 ?_
            refine x_iconst hC (v := (nI 2)) dJ6_numberOfLeadingZeros_0f7a4_70 rfl ?_
            refine x_iushr hC (v := (nI ((v / 2 ^ 8) / 2 ^ 2))) (nI_ushr (by omega) (by decide)) dJ6_numberOfLeadingZeros_0f7a4_71 ?_
            refine x_istore_n hC [(0, .int (nI ((v / 2 ^ 8) / 2 ^ 2))), (1, .int (nI 21))] rfl (lt_n hn rfl) dJ6_numberOfLeadingZeros_0f7a4_72 ?_
            refine x_iload_n hC 1 rfl dJ6_numberOfLeadingZeros_0f7a4_73 ?_
            refine x_iload_n hC 0 rfl dJ6_numberOfLeadingZeros_0f7a4_74 ?_
            refine x_iconst hC (v := (nI 1)) dJ6_numberOfLeadingZeros_0f7a4_75 rfl ?_
            refine x_iushr hC (v := (nI (((v / 2 ^ 8) / 2 ^ 2) / 2 ^ 1))) (nI_ushr (by omega) (by decide)) dJ6_numberOfLeadingZeros_0f7a4_76 ?_
            refine x_isubE hC (z := (nI (21 - (((v / 2 ^ 8) / 2 ^ 2) / 2 ^ 1)))) (pk_sub (by omega)) dJ6_numberOfLeadingZeros_0f7a4_77 ?_
            exact x_iret hC hR dJ6_numberOfLeadingZeros_0f7a4_78 (⟨congrArg nI (by rw [← nlz_ok h0 hv]; unfold nlzf; dsimp only; (repeat' split) <;> omega), rfl⟩)
        · -- 51 F
          refine x_iinc hC (z := -4) (v := (nI 19)) 1 rfl (by decide) [(1, .int (nI 19)), (0, .int (nI (v / 2 ^ 8)))] rfl (lt_n hn rfl) dJ6_numberOfLeadingZeros_0f7a4_54 ?_
          refine x_iload_n hC 1 rfl dJ6_numberOfLeadingZeros_0f7a4_57 ?_
          refine x_iconst hC (v := (nI 4)) dJ6_numberOfLeadingZeros_0f7a4_58 rfl ?_
          refine x_iushr hC (v := (nI ((v / 2 ^ 8) / 2 ^ 4))) (nI_ushr (by omega) (by decide)) dJ6_numberOfLeadingZeros_0f7a4_59 ?_
          refine x_istore_n hC [(0, .int (nI ((v / 2 ^ 8) / 2 ^ 4))), (1, .int (nI 19))] rfl (lt_n hn rfl) dJ6_numberOfLeadingZeros_0f7a4_60 ?_
          refine x_iload_n hC 0 rfl dJ6_numberOfLeadingZeros_0f7a4_61 ?_
          refine x_iconst hC (v := (nI 4)) dJ6_numberOfLeadingZeros_0f7a4_62 rfl ?_
          refine x_icmp_ltN hC 73 dJ6_numberOfLeadingZeros_0f7a4_63 rfl (by omega) (by decide) (fun h63 => ?_) (fun h63 => ?_)
          · -- 63 T
            refine x_iload_n hC 1 rfl dJ6_numberOfLeadingZeros_0f7a4_73 ?_
            refine x_iload_n hC 0 rfl dJ6_numberOfLeadingZeros_0f7a4_74 ?_
            refine x_iconst hC (v := (nI 1)) dJ6_numberOfLeadingZeros_0f7a4_75 rfl ?_
            refine x_iushr hC (v := (nI (((v / 2 ^ 8) / 2 ^ 4) / 2 ^ 1))) (nI_ushr (by omega) (by decide)) dJ6_numberOfLeadingZeros_0f7a4_76 ?_
            refine x_isubE hC (z := (nI (19 - (((v / 2 ^ 8) / 2 ^ 4) / 2 ^ 1)))) (pk_sub (by omega)) dJ6_numberOfLeadingZeros_0f7a4_77 ?_
            exact x_iret hC hR dJ6_numberOfLeadingZeros_0f7a4_78 (⟨congrArg nI (by rw [← nlz_ok h0 hv]; unfold nlzf; dsimp only; (repeat' split) <;> omega), rfl⟩)
          · -- 63 F
            refine x_iinc hC (z := -2) (v := (nI 17)) 1 rfl (by decide) [(1, .int (nI 17)), (0, .int (nI ((v / 2 ^ 8) / 2 ^ 4)))] rfl (lt_n hn rfl) dJ6_numberOfLeadingZeros_0f7a4_66 ?_
            refine x_iload_n hC 1 rfl dJ6_numberOfLeadingZeros_0f7a4_69 ?_
            refine x_iconst hC (v := (nI 2)) dJ6_numberOfLeadingZeros_0f7a4_70 rfl ?_
            refine x_iushr hC (v := (nI (((v / 2 ^ 8) / 2 ^ 4) / 2 ^ 2))) (nI_ushr (by omega) (by decide)) dJ6_numberOfLeadingZeros_0f7a4_71 ?_
            refine x_istore_n hC [(0, .int (nI (((v / 2 ^ 8) / 2 ^ 4) / 2 ^ 2))), (1, .int (nI 17))] rfl (lt_n hn rfl) dJ6_numberOfLeadingZeros_0f7a4_72 ?_
            refine x_iload_n hC 1 rfl dJ6_numberOfLeadingZeros_0f7a4_73 ?_
            refine x_iload_n hC 0 rfl dJ6_numberOfLeadingZeros_0f7a4_74 ?_
            refine x_iconst hC (v := (nI 1)) dJ6_numberOfLeadingZeros_0f7a4_75 rfl ?_
            refine x_iushr hC (v := (nI ((((v / 2 ^ 8) / 2 ^ 4) / 2 ^ 2) / 2 ^ 1))) (nI_ushr (by omega) (by decide)) dJ6_numberOfLeadingZeros_0f7a4_76 ?_
            refine x_isubE hC (z := (nI (17 - ((((v / 2 ^ 8) / 2 ^ 4) / 2 ^ 2) / 2 ^ 1)))) (pk_sub (by omega)) dJ6_numberOfLeadingZeros_0f7a4_77 ?_
            exact x_iret hC hR dJ6_numberOfLeadingZeros_0f7a4_78 (⟨congrArg nI (by rw [← nlz_ok h0 hv]; unfold nlzf; dsimp only; (repeat' split) <;> omega), rfl⟩)
    · -- 22 F
      exact absurd h22 (by omega)
  · -- 1 F
    exact absurd h1 (by omega)
set_option maxHeartbeats 4000000 in
set_option maxRecDepth 100000 in
theorem c_J6_highestOneBit_0f7a4 {l : Launch} {D : va_G} {c : Nat → ClassId} {v : Nat} (h0 : 0 < v) (hv : v < 16384) : KI l D (tyE c) w0 yJ6_highestOneBit_0f7a4 cJ6_highestOneBit_0f7a4 1 .int (rmL 2) [.int (nI v)] () (fun r u => r = nI (2 ^ Nat.log2 v) ∧ u = ()) := by
  refine x_enterI (by decide) (Nat.le_of_ble_eq_true rfl) (fun F hl hD hn hRm hC hR => ?_)
  subst hl hD
  change XW F 0 0 (w0 ()) [(0, .int (nI v))] 0 []
  change FC F cJ6_highestOneBit_0f7a4 RJ6 (tyE c) at hC
  refine x_iload_n hC 0 rfl dJ6_highestOneBit_0f7a4_0 ?_
  refine x_ldc hC cn_J6_127 dJ6_highestOneBit_0f7a4_1 ?_
  refine x_top (show ((-2147483648) : Int32) = (zI (-2147483648)) from rfl) ?_
  refine x_top (x := (zI (-2147483648))) (y := (nI 2147483648)) (by decide) ?_
  refine x_iload_n hC 0 rfl dJ6_highestOneBit_0f7a4_3 ?_
  refine x_callN hC cs_J6_51 (c_J6_numberOfLeadingZeros_0f7a4 (v := v)  (by first | assumption | omega) (by first | assumption | omega)) dJ6_highestOneBit_0f7a4_4 [.int (nI 2147483648), .int (nI v)] rfl (Nat.le_of_ble_eq_true rfl) rfl (rm_ok hRm (by decide) (by decide)) ?_
  refine x_iushr hC (v := (nI (2 ^ Nat.log2 v))) (hob_sh h0 hv) dJ6_highestOneBit_0f7a4_7 ?_
  refine x_iandE hC (z := (nI (v &&& (2 ^ Nat.log2 v)))) (nI_and _ _) dJ6_highestOneBit_0f7a4_8 ?_
  exact x_iret hC hR dJ6_highestOneBit_0f7a4_9 (⟨congrArg nI (hob_and h0), rfl⟩)
set_option maxHeartbeats 4000000 in
set_option maxRecDepth 100000 in
theorem c_J6_numberOfTrailingZeros_0f7a4 {l : Launch} {D : va_G} {c : Nat → ClassId} {w k : Nat} (hw : w = 2 ^ k) (hk : k < 8) : KI l D (tyE c) w0 yJ6_numberOfTrailingZeros_0f7a4 cJ6_numberOfTrailingZeros_0f7a4 2 .int (rmL 1) [.int (nI w)] () (fun r u => r = nI k ∧ u = ()) := by
  refine x_enterI (by decide) (Nat.le_of_ble_eq_true rfl) (fun F hl hD hn hRm hC hR => ?_)
  subst hl hD
  change XW F 0 0 (w0 ()) [(0, .int (nI w))] 0 []
  change FC F cJ6_numberOfTrailingZeros_0f7a4 RJ6 (tyE c) at hC
  subst hw
  obtain rfl | rfl | rfl | rfl | rfl | rfl | rfl | rfl : k = 0 ∨ k = 1 ∨ k = 2 ∨ k = 3 ∨ k = 4 ∨ k = 5 ∨ k = 6 ∨ k = 7 := by omega
  · skip
    change XW F 0 0 (w0 ()) [(0, .int (nI 1))] 0 []
    refine x_iload_n hC 0 rfl dJ6_numberOfTrailingZeros_0f7a4_0 ?_
    refine x_iconst hC (v := (zI (-1))) dJ6_numberOfTrailingZeros_0f7a4_1 rfl ?_
    refine x_ixorE hC (z := (nI 1 ^^^ (-1))) (rfl) dJ6_numberOfTrailingZeros_0f7a4_2 ?_
    refine x_iload_n hC 0 rfl dJ6_numberOfTrailingZeros_0f7a4_3 ?_
    refine x_iconst hC (v := (nI 1)) dJ6_numberOfTrailingZeros_0f7a4_4 rfl ?_
    refine x_isubE hC (z := (nI 0)) (by decide) dJ6_numberOfTrailingZeros_0f7a4_5 ?_
    refine x_iandE hC (z := (nI 0)) (by decide) dJ6_numberOfTrailingZeros_0f7a4_6 ?_
    refine x_istore_n hC [(0, .int (nI 0))] rfl (lt_n hn rfl) dJ6_numberOfTrailingZeros_0f7a4_7 ?_
    refine x_iload_n hC 0 rfl dJ6_numberOfTrailingZeros_0f7a4_8 ?_
    refine x_if_gt_F hC 17 dJ6_numberOfTrailingZeros_0f7a4_9 rfl (by decide) ?_
    refine x_iload_n hC 0 rfl dJ6_numberOfTrailingZeros_0f7a4_12 ?_
    refine x_bipush hC (v := (nI 32)) dJ6_numberOfTrailingZeros_0f7a4_13 rfl ?_
    refine x_iandE hC (z := (nI 0)) (by decide) dJ6_numberOfTrailingZeros_0f7a4_15 ?_
    exact x_iret hC hR dJ6_numberOfTrailingZeros_0f7a4_16 (⟨rfl, rfl⟩)
  · skip
    change XW F 0 0 (w0 ()) [(0, .int (nI 2))] 0 []
    refine x_iload_n hC 0 rfl dJ6_numberOfTrailingZeros_0f7a4_0 ?_
    refine x_iconst hC (v := (zI (-1))) dJ6_numberOfTrailingZeros_0f7a4_1 rfl ?_
    refine x_ixorE hC (z := (nI 2 ^^^ (-1))) (rfl) dJ6_numberOfTrailingZeros_0f7a4_2 ?_
    refine x_iload_n hC 0 rfl dJ6_numberOfTrailingZeros_0f7a4_3 ?_
    refine x_iconst hC (v := (nI 1)) dJ6_numberOfTrailingZeros_0f7a4_4 rfl ?_
    refine x_isubE hC (z := (nI 1)) (by decide) dJ6_numberOfTrailingZeros_0f7a4_5 ?_
    refine x_iandE hC (z := (nI 1)) (by decide) dJ6_numberOfTrailingZeros_0f7a4_6 ?_
    refine x_istore_n hC [(0, .int (nI 1))] rfl (lt_n hn rfl) dJ6_numberOfTrailingZeros_0f7a4_7 ?_
    refine x_iload_n hC 0 rfl dJ6_numberOfTrailingZeros_0f7a4_8 ?_
    refine x_if_gt_T hC 17 dJ6_numberOfTrailingZeros_0f7a4_9 rfl (by decide) ?_
    refine x_iconst hC (v := (nI 1)) dJ6_numberOfTrailingZeros_0f7a4_17 rfl ?_
    refine x_istore_n hC [(1, .int (nI 1)), (0, .int (nI 1))] rfl (lt_n hn rfl) dJ6_numberOfTrailingZeros_0f7a4_18 ?_
    refine x_iload_n hC 1 rfl dJ6_numberOfTrailingZeros_0f7a4_19 ?_
    refine x_ldcw hC cn_J6_264 dJ6_numberOfTrailingZeros_0f7a4_20 ?_
    refine x_top (show (65536 : Int32) = (nI 65536) from rfl) ?_
    refine x_icmp_le_T hC 34 dJ6_numberOfTrailingZeros_0f7a4_23 rfl (by decide) ?_
    refine x_iload_n hC 1 rfl dJ6_numberOfTrailingZeros_0f7a4_34 ?_
    refine x_sipush hC (v := (nI 256)) dJ6_numberOfTrailingZeros_0f7a4_35 rfl ?_
    refine x_icmp_le_T hC 49 dJ6_numberOfTrailingZeros_0f7a4_38 rfl (by decide) ?_
    refine x_iload_n hC 1 rfl dJ6_numberOfTrailingZeros_0f7a4_49 ?_
    refine x_bipush hC (v := (nI 16)) dJ6_numberOfTrailingZeros_0f7a4_50 rfl ?_
    refine x_icmp_le_T hC 62 dJ6_numberOfTrailingZeros_0f7a4_52 rfl (by decide) ?_
    refine x_iload_n hC 1 rfl dJ6_numberOfTrailingZeros_0f7a4_62 ?_
    refine x_iconst hC (v := (nI 4)) dJ6_numberOfTrailingZeros_0f7a4_63 rfl ?_
    refine x_icmp_le_T hC 74 dJ6_numberOfTrailingZeros_0f7a4_64 rfl (by decide) ?_
    refine x_iload_n hC 0 rfl dJ6_numberOfTrailingZeros_0f7a4_74 ?_
    refine x_iload_n hC 1 rfl dJ6_numberOfTrailingZeros_0f7a4_75 ?_
    refine x_iconst hC (v := (nI 1)) dJ6_numberOfTrailingZeros_0f7a4_76 rfl ?_
    refine x_iushr hC (v := (nI 0)) (by decide) dJ6_numberOfTrailingZeros_0f7a4_77 ?_
    refine x_iaddE hC (z := (nI 1)) (by decide) dJ6_numberOfTrailingZeros_0f7a4_78 ?_
    exact x_iret hC hR dJ6_numberOfTrailingZeros_0f7a4_79 (⟨rfl, rfl⟩)
  · skip
    change XW F 0 0 (w0 ()) [(0, .int (nI 4))] 0 []
    refine x_iload_n hC 0 rfl dJ6_numberOfTrailingZeros_0f7a4_0 ?_
    refine x_iconst hC (v := (zI (-1))) dJ6_numberOfTrailingZeros_0f7a4_1 rfl ?_
    refine x_ixorE hC (z := (nI 4 ^^^ (-1))) (rfl) dJ6_numberOfTrailingZeros_0f7a4_2 ?_
    refine x_iload_n hC 0 rfl dJ6_numberOfTrailingZeros_0f7a4_3 ?_
    refine x_iconst hC (v := (nI 1)) dJ6_numberOfTrailingZeros_0f7a4_4 rfl ?_
    refine x_isubE hC (z := (nI 3)) (by decide) dJ6_numberOfTrailingZeros_0f7a4_5 ?_
    refine x_iandE hC (z := (nI 3)) (by decide) dJ6_numberOfTrailingZeros_0f7a4_6 ?_
    refine x_istore_n hC [(0, .int (nI 3))] rfl (lt_n hn rfl) dJ6_numberOfTrailingZeros_0f7a4_7 ?_
    refine x_iload_n hC 0 rfl dJ6_numberOfTrailingZeros_0f7a4_8 ?_
    refine x_if_gt_T hC 17 dJ6_numberOfTrailingZeros_0f7a4_9 rfl (by decide) ?_
    refine x_iconst hC (v := (nI 1)) dJ6_numberOfTrailingZeros_0f7a4_17 rfl ?_
    refine x_istore_n hC [(1, .int (nI 1)), (0, .int (nI 3))] rfl (lt_n hn rfl) dJ6_numberOfTrailingZeros_0f7a4_18 ?_
    refine x_iload_n hC 1 rfl dJ6_numberOfTrailingZeros_0f7a4_19 ?_
    refine x_ldcw hC cn_J6_264 dJ6_numberOfTrailingZeros_0f7a4_20 ?_
    refine x_top (show (65536 : Int32) = (nI 65536) from rfl) ?_
    refine x_icmp_le_T hC 34 dJ6_numberOfTrailingZeros_0f7a4_23 rfl (by decide) ?_
    refine x_iload_n hC 1 rfl dJ6_numberOfTrailingZeros_0f7a4_34 ?_
    refine x_sipush hC (v := (nI 256)) dJ6_numberOfTrailingZeros_0f7a4_35 rfl ?_
    refine x_icmp_le_T hC 49 dJ6_numberOfTrailingZeros_0f7a4_38 rfl (by decide) ?_
    refine x_iload_n hC 1 rfl dJ6_numberOfTrailingZeros_0f7a4_49 ?_
    refine x_bipush hC (v := (nI 16)) dJ6_numberOfTrailingZeros_0f7a4_50 rfl ?_
    refine x_icmp_le_T hC 62 dJ6_numberOfTrailingZeros_0f7a4_52 rfl (by decide) ?_
    refine x_iload_n hC 1 rfl dJ6_numberOfTrailingZeros_0f7a4_62 ?_
    refine x_iconst hC (v := (nI 4)) dJ6_numberOfTrailingZeros_0f7a4_63 rfl ?_
    refine x_icmp_le_T hC 74 dJ6_numberOfTrailingZeros_0f7a4_64 rfl (by decide) ?_
    refine x_iload_n hC 0 rfl dJ6_numberOfTrailingZeros_0f7a4_74 ?_
    refine x_iload_n hC 1 rfl dJ6_numberOfTrailingZeros_0f7a4_75 ?_
    refine x_iconst hC (v := (nI 1)) dJ6_numberOfTrailingZeros_0f7a4_76 rfl ?_
    refine x_iushr hC (v := (nI 1)) (by decide) dJ6_numberOfTrailingZeros_0f7a4_77 ?_
    refine x_iaddE hC (z := (nI 2)) (by decide) dJ6_numberOfTrailingZeros_0f7a4_78 ?_
    exact x_iret hC hR dJ6_numberOfTrailingZeros_0f7a4_79 (⟨rfl, rfl⟩)
  · skip
    change XW F 0 0 (w0 ()) [(0, .int (nI 8))] 0 []
    refine x_iload_n hC 0 rfl dJ6_numberOfTrailingZeros_0f7a4_0 ?_
    refine x_iconst hC (v := (zI (-1))) dJ6_numberOfTrailingZeros_0f7a4_1 rfl ?_
    refine x_ixorE hC (z := (nI 8 ^^^ (-1))) (rfl) dJ6_numberOfTrailingZeros_0f7a4_2 ?_
    refine x_iload_n hC 0 rfl dJ6_numberOfTrailingZeros_0f7a4_3 ?_
    refine x_iconst hC (v := (nI 1)) dJ6_numberOfTrailingZeros_0f7a4_4 rfl ?_
    refine x_isubE hC (z := (nI 7)) (by decide) dJ6_numberOfTrailingZeros_0f7a4_5 ?_
    refine x_iandE hC (z := (nI 7)) (by decide) dJ6_numberOfTrailingZeros_0f7a4_6 ?_
    refine x_istore_n hC [(0, .int (nI 7))] rfl (lt_n hn rfl) dJ6_numberOfTrailingZeros_0f7a4_7 ?_
    refine x_iload_n hC 0 rfl dJ6_numberOfTrailingZeros_0f7a4_8 ?_
    refine x_if_gt_T hC 17 dJ6_numberOfTrailingZeros_0f7a4_9 rfl (by decide) ?_
    refine x_iconst hC (v := (nI 1)) dJ6_numberOfTrailingZeros_0f7a4_17 rfl ?_
    refine x_istore_n hC [(1, .int (nI 1)), (0, .int (nI 7))] rfl (lt_n hn rfl) dJ6_numberOfTrailingZeros_0f7a4_18 ?_
    refine x_iload_n hC 1 rfl dJ6_numberOfTrailingZeros_0f7a4_19 ?_
    refine x_ldcw hC cn_J6_264 dJ6_numberOfTrailingZeros_0f7a4_20 ?_
    refine x_top (show (65536 : Int32) = (nI 65536) from rfl) ?_
    refine x_icmp_le_T hC 34 dJ6_numberOfTrailingZeros_0f7a4_23 rfl (by decide) ?_
    refine x_iload_n hC 1 rfl dJ6_numberOfTrailingZeros_0f7a4_34 ?_
    refine x_sipush hC (v := (nI 256)) dJ6_numberOfTrailingZeros_0f7a4_35 rfl ?_
    refine x_icmp_le_T hC 49 dJ6_numberOfTrailingZeros_0f7a4_38 rfl (by decide) ?_
    refine x_iload_n hC 1 rfl dJ6_numberOfTrailingZeros_0f7a4_49 ?_
    refine x_bipush hC (v := (nI 16)) dJ6_numberOfTrailingZeros_0f7a4_50 rfl ?_
    refine x_icmp_le_T hC 62 dJ6_numberOfTrailingZeros_0f7a4_52 rfl (by decide) ?_
    refine x_iload_n hC 1 rfl dJ6_numberOfTrailingZeros_0f7a4_62 ?_
    refine x_iconst hC (v := (nI 4)) dJ6_numberOfTrailingZeros_0f7a4_63 rfl ?_
    refine x_icmp_le_F hC 74 dJ6_numberOfTrailingZeros_0f7a4_64 rfl (by decide) ?_
    refine x_iinc hC (z := 2) (v := (nI 3)) 0 rfl (rfl) [(1, .int (nI 3)), (0, .int (nI 7))] rfl (lt_n hn rfl) dJ6_numberOfTrailingZeros_0f7a4_67 ?_
    refine x_iload_n hC 1 rfl dJ6_numberOfTrailingZeros_0f7a4_70 ?_
    refine x_iconst hC (v := (nI 2)) dJ6_numberOfTrailingZeros_0f7a4_71 rfl ?_
    refine x_iushr hC (v := (nI 1)) (by decide) dJ6_numberOfTrailingZeros_0f7a4_72 ?_
    refine x_istore_n hC [(0, .int (nI 1)), (1, .int (nI 3))] rfl (lt_n hn rfl) dJ6_numberOfTrailingZeros_0f7a4_73 ?_
    refine x_iload_n hC 1 rfl dJ6_numberOfTrailingZeros_0f7a4_74 ?_
    refine x_iload_n hC 0 rfl dJ6_numberOfTrailingZeros_0f7a4_75 ?_
    refine x_iconst hC (v := (nI 1)) dJ6_numberOfTrailingZeros_0f7a4_76 rfl ?_
    refine x_iushr hC (v := (nI 0)) (by decide) dJ6_numberOfTrailingZeros_0f7a4_77 ?_
    refine x_iaddE hC (z := (nI 3)) (by decide) dJ6_numberOfTrailingZeros_0f7a4_78 ?_
    exact x_iret hC hR dJ6_numberOfTrailingZeros_0f7a4_79 (⟨rfl, rfl⟩)
  · skip
    change XW F 0 0 (w0 ()) [(0, .int (nI 16))] 0 []
    refine x_iload_n hC 0 rfl dJ6_numberOfTrailingZeros_0f7a4_0 ?_
    refine x_iconst hC (v := (zI (-1))) dJ6_numberOfTrailingZeros_0f7a4_1 rfl ?_
    refine x_ixorE hC (z := (nI 16 ^^^ (-1))) (rfl) dJ6_numberOfTrailingZeros_0f7a4_2 ?_
    refine x_iload_n hC 0 rfl dJ6_numberOfTrailingZeros_0f7a4_3 ?_
    refine x_iconst hC (v := (nI 1)) dJ6_numberOfTrailingZeros_0f7a4_4 rfl ?_
    refine x_isubE hC (z := (nI 15)) (by decide) dJ6_numberOfTrailingZeros_0f7a4_5 ?_
    refine x_iandE hC (z := (nI 15)) (by decide) dJ6_numberOfTrailingZeros_0f7a4_6 ?_
    refine x_istore_n hC [(0, .int (nI 15))] rfl (lt_n hn rfl) dJ6_numberOfTrailingZeros_0f7a4_7 ?_
    refine x_iload_n hC 0 rfl dJ6_numberOfTrailingZeros_0f7a4_8 ?_
    refine x_if_gt_T hC 17 dJ6_numberOfTrailingZeros_0f7a4_9 rfl (by decide) ?_
    refine x_iconst hC (v := (nI 1)) dJ6_numberOfTrailingZeros_0f7a4_17 rfl ?_
    refine x_istore_n hC [(1, .int (nI 1)), (0, .int (nI 15))] rfl (lt_n hn rfl) dJ6_numberOfTrailingZeros_0f7a4_18 ?_
    refine x_iload_n hC 1 rfl dJ6_numberOfTrailingZeros_0f7a4_19 ?_
    refine x_ldcw hC cn_J6_264 dJ6_numberOfTrailingZeros_0f7a4_20 ?_
    refine x_top (show (65536 : Int32) = (nI 65536) from rfl) ?_
    refine x_icmp_le_T hC 34 dJ6_numberOfTrailingZeros_0f7a4_23 rfl (by decide) ?_
    refine x_iload_n hC 1 rfl dJ6_numberOfTrailingZeros_0f7a4_34 ?_
    refine x_sipush hC (v := (nI 256)) dJ6_numberOfTrailingZeros_0f7a4_35 rfl ?_
    refine x_icmp_le_T hC 49 dJ6_numberOfTrailingZeros_0f7a4_38 rfl (by decide) ?_
    refine x_iload_n hC 1 rfl dJ6_numberOfTrailingZeros_0f7a4_49 ?_
    refine x_bipush hC (v := (nI 16)) dJ6_numberOfTrailingZeros_0f7a4_50 rfl ?_
    refine x_icmp_le_T hC 62 dJ6_numberOfTrailingZeros_0f7a4_52 rfl (by decide) ?_
    refine x_iload_n hC 1 rfl dJ6_numberOfTrailingZeros_0f7a4_62 ?_
    refine x_iconst hC (v := (nI 4)) dJ6_numberOfTrailingZeros_0f7a4_63 rfl ?_
    refine x_icmp_le_F hC 74 dJ6_numberOfTrailingZeros_0f7a4_64 rfl (by decide) ?_
    refine x_iinc hC (z := 2) (v := (nI 3)) 0 rfl (rfl) [(1, .int (nI 3)), (0, .int (nI 15))] rfl (lt_n hn rfl) dJ6_numberOfTrailingZeros_0f7a4_67 ?_
    refine x_iload_n hC 1 rfl dJ6_numberOfTrailingZeros_0f7a4_70 ?_
    refine x_iconst hC (v := (nI 2)) dJ6_numberOfTrailingZeros_0f7a4_71 rfl ?_
    refine x_iushr hC (v := (nI 3)) (by decide) dJ6_numberOfTrailingZeros_0f7a4_72 ?_
    refine x_istore_n hC [(0, .int (nI 3)), (1, .int (nI 3))] rfl (lt_n hn rfl) dJ6_numberOfTrailingZeros_0f7a4_73 ?_
    refine x_iload_n hC 1 rfl dJ6_numberOfTrailingZeros_0f7a4_74 ?_
    refine x_iload_n hC 0 rfl dJ6_numberOfTrailingZeros_0f7a4_75 ?_
    refine x_iconst hC (v := (nI 1)) dJ6_numberOfTrailingZeros_0f7a4_76 rfl ?_
    refine x_iushr hC (v := (nI 1)) (by decide) dJ6_numberOfTrailingZeros_0f7a4_77 ?_
    refine x_iaddE hC (z := (nI 4)) (by decide) dJ6_numberOfTrailingZeros_0f7a4_78 ?_
    exact x_iret hC hR dJ6_numberOfTrailingZeros_0f7a4_79 (⟨rfl, rfl⟩)
  · skip
    change XW F 0 0 (w0 ()) [(0, .int (nI 32))] 0 []
    refine x_iload_n hC 0 rfl dJ6_numberOfTrailingZeros_0f7a4_0 ?_
    refine x_iconst hC (v := (zI (-1))) dJ6_numberOfTrailingZeros_0f7a4_1 rfl ?_
    refine x_ixorE hC (z := (nI 32 ^^^ (-1))) (rfl) dJ6_numberOfTrailingZeros_0f7a4_2 ?_
    refine x_iload_n hC 0 rfl dJ6_numberOfTrailingZeros_0f7a4_3 ?_
    refine x_iconst hC (v := (nI 1)) dJ6_numberOfTrailingZeros_0f7a4_4 rfl ?_
    refine x_isubE hC (z := (nI 31)) (by decide) dJ6_numberOfTrailingZeros_0f7a4_5 ?_
    refine x_iandE hC (z := (nI 31)) (by decide) dJ6_numberOfTrailingZeros_0f7a4_6 ?_
    refine x_istore_n hC [(0, .int (nI 31))] rfl (lt_n hn rfl) dJ6_numberOfTrailingZeros_0f7a4_7 ?_
    refine x_iload_n hC 0 rfl dJ6_numberOfTrailingZeros_0f7a4_8 ?_
    refine x_if_gt_T hC 17 dJ6_numberOfTrailingZeros_0f7a4_9 rfl (by decide) ?_
    refine x_iconst hC (v := (nI 1)) dJ6_numberOfTrailingZeros_0f7a4_17 rfl ?_
    refine x_istore_n hC [(1, .int (nI 1)), (0, .int (nI 31))] rfl (lt_n hn rfl) dJ6_numberOfTrailingZeros_0f7a4_18 ?_
    refine x_iload_n hC 1 rfl dJ6_numberOfTrailingZeros_0f7a4_19 ?_
    refine x_ldcw hC cn_J6_264 dJ6_numberOfTrailingZeros_0f7a4_20 ?_
    refine x_top (show (65536 : Int32) = (nI 65536) from rfl) ?_
    refine x_icmp_le_T hC 34 dJ6_numberOfTrailingZeros_0f7a4_23 rfl (by decide) ?_
    refine x_iload_n hC 1 rfl dJ6_numberOfTrailingZeros_0f7a4_34 ?_
    refine x_sipush hC (v := (nI 256)) dJ6_numberOfTrailingZeros_0f7a4_35 rfl ?_
    refine x_icmp_le_T hC 49 dJ6_numberOfTrailingZeros_0f7a4_38 rfl (by decide) ?_
    refine x_iload_n hC 1 rfl dJ6_numberOfTrailingZeros_0f7a4_49 ?_
    refine x_bipush hC (v := (nI 16)) dJ6_numberOfTrailingZeros_0f7a4_50 rfl ?_
    refine x_icmp_le_F hC 62 dJ6_numberOfTrailingZeros_0f7a4_52 rfl (by decide) ?_
    refine x_iinc hC (z := 4) (v := (nI 5)) 0 rfl (rfl) [(1, .int (nI 5)), (0, .int (nI 31))] rfl (lt_n hn rfl) dJ6_numberOfTrailingZeros_0f7a4_55 ?_
    refine x_iload_n hC 1 rfl dJ6_numberOfTrailingZeros_0f7a4_58 ?_
    refine x_iconst hC (v := (nI 4)) dJ6_numberOfTrailingZeros_0f7a4_59 rfl ?_
    refine x_iushr hC (v := (nI 1)) (by decide) dJ6_numberOfTrailingZeros_0f7a4_60 ?_
    refine x_istore_n hC [(0, .int (nI 1)), (1, .int (nI 5))] rfl (lt_n hn rfl) dJ6_numberOfTrailingZeros_0f7a4_61 ?_
    refine x_iload_n hC 0 rfl dJ6_numberOfTrailingZeros_0f7a4_62 ?_
    refine x_iconst hC (v := (nI 4)) dJ6_numberOfTrailingZeros_0f7a4_63 rfl ?_
    refine x_icmp_le_T hC 74 dJ6_numberOfTrailingZeros_0f7a4_64 rfl (by decide) ?_
    refine x_iload_n hC 1 rfl dJ6_numberOfTrailingZeros_0f7a4_74 ?_
    refine x_iload_n hC 0 rfl dJ6_numberOfTrailingZeros_0f7a4_75 ?_
    refine x_iconst hC (v := (nI 1)) dJ6_numberOfTrailingZeros_0f7a4_76 rfl ?_
    refine x_iushr hC (v := (nI 0)) (by decide) dJ6_numberOfTrailingZeros_0f7a4_77 ?_
    refine x_iaddE hC (z := (nI 5)) (by decide) dJ6_numberOfTrailingZeros_0f7a4_78 ?_
    exact x_iret hC hR dJ6_numberOfTrailingZeros_0f7a4_79 (⟨rfl, rfl⟩)
  · skip
    change XW F 0 0 (w0 ()) [(0, .int (nI 64))] 0 []
    refine x_iload_n hC 0 rfl dJ6_numberOfTrailingZeros_0f7a4_0 ?_
    refine x_iconst hC (v := (zI (-1))) dJ6_numberOfTrailingZeros_0f7a4_1 rfl ?_
    refine x_ixorE hC (z := (nI 64 ^^^ (-1))) (rfl) dJ6_numberOfTrailingZeros_0f7a4_2 ?_
    refine x_iload_n hC 0 rfl dJ6_numberOfTrailingZeros_0f7a4_3 ?_
    refine x_iconst hC (v := (nI 1)) dJ6_numberOfTrailingZeros_0f7a4_4 rfl ?_
    refine x_isubE hC (z := (nI 63)) (by decide) dJ6_numberOfTrailingZeros_0f7a4_5 ?_
    refine x_iandE hC (z := (nI 63)) (by decide) dJ6_numberOfTrailingZeros_0f7a4_6 ?_
    refine x_istore_n hC [(0, .int (nI 63))] rfl (lt_n hn rfl) dJ6_numberOfTrailingZeros_0f7a4_7 ?_
    refine x_iload_n hC 0 rfl dJ6_numberOfTrailingZeros_0f7a4_8 ?_
    refine x_if_gt_T hC 17 dJ6_numberOfTrailingZeros_0f7a4_9 rfl (by decide) ?_
    refine x_iconst hC (v := (nI 1)) dJ6_numberOfTrailingZeros_0f7a4_17 rfl ?_
    refine x_istore_n hC [(1, .int (nI 1)), (0, .int (nI 63))] rfl (lt_n hn rfl) dJ6_numberOfTrailingZeros_0f7a4_18 ?_
    refine x_iload_n hC 1 rfl dJ6_numberOfTrailingZeros_0f7a4_19 ?_
    refine x_ldcw hC cn_J6_264 dJ6_numberOfTrailingZeros_0f7a4_20 ?_
    refine x_top (show (65536 : Int32) = (nI 65536) from rfl) ?_
    refine x_icmp_le_T hC 34 dJ6_numberOfTrailingZeros_0f7a4_23 rfl (by decide) ?_
    refine x_iload_n hC 1 rfl dJ6_numberOfTrailingZeros_0f7a4_34 ?_
    refine x_sipush hC (v := (nI 256)) dJ6_numberOfTrailingZeros_0f7a4_35 rfl ?_
    refine x_icmp_le_T hC 49 dJ6_numberOfTrailingZeros_0f7a4_38 rfl (by decide) ?_
    refine x_iload_n hC 1 rfl dJ6_numberOfTrailingZeros_0f7a4_49 ?_
    refine x_bipush hC (v := (nI 16)) dJ6_numberOfTrailingZeros_0f7a4_50 rfl ?_
    refine x_icmp_le_F hC 62 dJ6_numberOfTrailingZeros_0f7a4_52 rfl (by decide) ?_
    refine x_iinc hC (z := 4) (v := (nI 5)) 0 rfl (rfl) [(1, .int (nI 5)), (0, .int (nI 63))] rfl (lt_n hn rfl) dJ6_numberOfTrailingZeros_0f7a4_55 ?_
    refine x_iload_n hC 1 rfl dJ6_numberOfTrailingZeros_0f7a4_58 ?_
    refine x_iconst hC (v := (nI 4)) dJ6_numberOfTrailingZeros_0f7a4_59 rfl ?_
    refine x_iushr hC (v := (nI 3)) (by decide) dJ6_numberOfTrailingZeros_0f7a4_60 ?_
    refine x_istore_n hC [(0, .int (nI 3)), (1, .int (nI 5))] rfl (lt_n hn rfl) dJ6_numberOfTrailingZeros_0f7a4_61 ?_
    refine x_iload_n hC 0 rfl dJ6_numberOfTrailingZeros_0f7a4_62 ?_
    refine x_iconst hC (v := (nI 4)) dJ6_numberOfTrailingZeros_0f7a4_63 rfl ?_
    refine x_icmp_le_T hC 74 dJ6_numberOfTrailingZeros_0f7a4_64 rfl (by decide) ?_
    refine x_iload_n hC 1 rfl dJ6_numberOfTrailingZeros_0f7a4_74 ?_
    refine x_iload_n hC 0 rfl dJ6_numberOfTrailingZeros_0f7a4_75 ?_
    refine x_iconst hC (v := (nI 1)) dJ6_numberOfTrailingZeros_0f7a4_76 rfl ?_
    refine x_iushr hC (v := (nI 1)) (by decide) dJ6_numberOfTrailingZeros_0f7a4_77 ?_
    refine x_iaddE hC (z := (nI 6)) (by decide) dJ6_numberOfTrailingZeros_0f7a4_78 ?_
    exact x_iret hC hR dJ6_numberOfTrailingZeros_0f7a4_79 (⟨rfl, rfl⟩)
  · skip
    change XW F 0 0 (w0 ()) [(0, .int (nI 128))] 0 []
    refine x_iload_n hC 0 rfl dJ6_numberOfTrailingZeros_0f7a4_0 ?_
    refine x_iconst hC (v := (zI (-1))) dJ6_numberOfTrailingZeros_0f7a4_1 rfl ?_
    refine x_ixorE hC (z := (nI 128 ^^^ (-1))) (rfl) dJ6_numberOfTrailingZeros_0f7a4_2 ?_
    refine x_iload_n hC 0 rfl dJ6_numberOfTrailingZeros_0f7a4_3 ?_
    refine x_iconst hC (v := (nI 1)) dJ6_numberOfTrailingZeros_0f7a4_4 rfl ?_
    refine x_isubE hC (z := (nI 127)) (by decide) dJ6_numberOfTrailingZeros_0f7a4_5 ?_
    refine x_iandE hC (z := (nI 127)) (by decide) dJ6_numberOfTrailingZeros_0f7a4_6 ?_
    refine x_istore_n hC [(0, .int (nI 127))] rfl (lt_n hn rfl) dJ6_numberOfTrailingZeros_0f7a4_7 ?_
    refine x_iload_n hC 0 rfl dJ6_numberOfTrailingZeros_0f7a4_8 ?_
    refine x_if_gt_T hC 17 dJ6_numberOfTrailingZeros_0f7a4_9 rfl (by decide) ?_
    refine x_iconst hC (v := (nI 1)) dJ6_numberOfTrailingZeros_0f7a4_17 rfl ?_
    refine x_istore_n hC [(1, .int (nI 1)), (0, .int (nI 127))] rfl (lt_n hn rfl) dJ6_numberOfTrailingZeros_0f7a4_18 ?_
    refine x_iload_n hC 1 rfl dJ6_numberOfTrailingZeros_0f7a4_19 ?_
    refine x_ldcw hC cn_J6_264 dJ6_numberOfTrailingZeros_0f7a4_20 ?_
    refine x_top (show (65536 : Int32) = (nI 65536) from rfl) ?_
    refine x_icmp_le_T hC 34 dJ6_numberOfTrailingZeros_0f7a4_23 rfl (by decide) ?_
    refine x_iload_n hC 1 rfl dJ6_numberOfTrailingZeros_0f7a4_34 ?_
    refine x_sipush hC (v := (nI 256)) dJ6_numberOfTrailingZeros_0f7a4_35 rfl ?_
    refine x_icmp_le_T hC 49 dJ6_numberOfTrailingZeros_0f7a4_38 rfl (by decide) ?_
    refine x_iload_n hC 1 rfl dJ6_numberOfTrailingZeros_0f7a4_49 ?_
    refine x_bipush hC (v := (nI 16)) dJ6_numberOfTrailingZeros_0f7a4_50 rfl ?_
    refine x_icmp_le_F hC 62 dJ6_numberOfTrailingZeros_0f7a4_52 rfl (by decide) ?_
    refine x_iinc hC (z := 4) (v := (nI 5)) 0 rfl (rfl) [(1, .int (nI 5)), (0, .int (nI 127))] rfl (lt_n hn rfl) dJ6_numberOfTrailingZeros_0f7a4_55 ?_
    refine x_iload_n hC 1 rfl dJ6_numberOfTrailingZeros_0f7a4_58 ?_
    refine x_iconst hC (v := (nI 4)) dJ6_numberOfTrailingZeros_0f7a4_59 rfl ?_
    refine x_iushr hC (v := (nI 7)) (by decide) dJ6_numberOfTrailingZeros_0f7a4_60 ?_
    refine x_istore_n hC [(0, .int (nI 7)), (1, .int (nI 5))] rfl (lt_n hn rfl) dJ6_numberOfTrailingZeros_0f7a4_61 ?_
    refine x_iload_n hC 0 rfl dJ6_numberOfTrailingZeros_0f7a4_62 ?_
    refine x_iconst hC (v := (nI 4)) dJ6_numberOfTrailingZeros_0f7a4_63 rfl ?_
    refine x_icmp_le_F hC 74 dJ6_numberOfTrailingZeros_0f7a4_64 rfl (by decide) ?_
    refine x_iinc hC (z := 2) (v := (nI 7)) 1 rfl (rfl) [(1, .int (nI 7)), (0, .int (nI 7))] rfl (lt_n hn rfl) dJ6_numberOfTrailingZeros_0f7a4_67 ?_
    refine x_iload_n hC 1 rfl dJ6_numberOfTrailingZeros_0f7a4_70 ?_
    refine x_iconst hC (v := (nI 2)) dJ6_numberOfTrailingZeros_0f7a4_71 rfl ?_
    refine x_iushr hC (v := (nI 1)) (by decide) dJ6_numberOfTrailingZeros_0f7a4_72 ?_
    refine x_istore_n hC [(0, .int (nI 1)), (1, .int (nI 7))] rfl (lt_n hn rfl) dJ6_numberOfTrailingZeros_0f7a4_73 ?_
    refine x_iload_n hC 1 rfl dJ6_numberOfTrailingZeros_0f7a4_74 ?_
    refine x_iload_n hC 0 rfl dJ6_numberOfTrailingZeros_0f7a4_75 ?_
    refine x_iconst hC (v := (nI 1)) dJ6_numberOfTrailingZeros_0f7a4_76 rfl ?_
    refine x_iushr hC (v := (nI 0)) (by decide) dJ6_numberOfTrailingZeros_0f7a4_77 ?_
    refine x_iaddE hC (z := (nI 7)) (by decide) dJ6_numberOfTrailingZeros_0f7a4_78 ?_
    exact x_iret hC hR dJ6_numberOfTrailingZeros_0f7a4_79 (⟨rfl, rfl⟩)
end
section
/-! Cells: what each method answers -/
def lo2 (t : Nat) : Nat := if t = 2 then 1 else 0
def hi2 (t : Nat) : Nat := if t = 2 then 7 else 4
def ag (p q age : Nat) : Nat := min 4 (p + q * age / 10)
theorem nI_min {a b : Nat} (ha : a < 2147483648) (hb : b < 2147483648) : (if nI b < nI a then nI b else nI a) = nI (min a b) := by
  by_cases h : b < a
  · rw [if_pos ((nI_ltI hb ha).mpr h), Nat.min_eq_right (Nat.le_of_lt h)]
  · rw [if_neg (fun q => h ((nI_ltI hb ha).mp q)), Nat.min_eq_left (by omega)]
theorem nI_max {a b : Nat} (ha : a < 2147483648) (hb : b < 2147483648) : (if nI a < nI b then nI b else nI a) = nI (max a b) := by
  by_cases h : a < b
  · rw [if_pos ((nI_ltI ha hb).mpr h), Nat.max_eq_right (Nat.le_of_lt h)]
  · rw [if_neg (fun q => h ((nI_ltI ha hb).mp q)), Nat.max_eq_left (by omega)]
def lkx (p : Nat → Nat) (most : Nat) : Nat → Nat
  | 0 => 0
  | c + 1 => if most < p c then lkx p most c ||| 2 ^ c else lkx p most c
def wyx (m : Nat) (le : Nat → Nat) (w : Nat) : Nat → Nat
  | 0 => 1
  | i + 1 => if bt m i = 1 then wyx m le w i else wyx m le w i * (if bt w i = 1 then le i else 8 - le i)
def mt (m c : Nat) : Nat := Nat.log2 (nd (2 ^ c - 1) m)
def sec (m c : Nat) : Prop := bt m c ≠ 1 ∧ pc (nd (2 ^ c - 1) m) % 2 = 1
def evx (m w : Nat) : Nat → Nat
  | 0 => 1
  | c + 1 => if bt m c ≠ 1 ∧ pc (nd (2 ^ c - 1) m) % 2 = 1 ∧ bt w (mt m c) ≠ bt w c then evx m w c * 2 ^ 1 ||| bt w (mt m c) else evx m w c
def exx (m : Nat) (le : Nat → Nat) : Nat → Nat
  | 0 => 0
  | c + 1 => if bt m c ≠ 1 ∧ pc (nd (2 ^ c - 1) m) % 2 = 1 then exx m le c + (le (mt m c) * (8 - le c) + (8 - le (mt m c)) * le c) else exx m le c
theorem evx_n {m w i : Nat} (h : ¬ (bt m i ≠ 1 ∧ pc (nd (2 ^ i - 1) m) % 2 = 1)) : evx m w i = evx m w (i + 1) := by
  show _ = if bt m i ≠ 1 ∧ pc (nd (2 ^ i - 1) m) % 2 = 1 ∧ bt w (mt m i) ≠ bt w i then _ else _
  rw [if_neg (fun q => h ⟨q.1, q.2.1⟩)]
theorem isW_T {n : Nat} {x : Int32} (hn : n < 31) (h : x >>> (nI n &&& 31) = 0) : isI (2 ^ n) x = true := by
  have h1 := pk_shr x (nI n &&& 31) n (nI_sh n (by omega))
  rw [h, Int.shiftRight_eq_div_pow] at h1
  have hp : (0 : Int) < 2 ^ n := Int.pow_pos (by decide)
  have h2 : x.toInt / 2 ^ n = 0 := by have q : ((2 ^ n : Nat) : Int) = 2 ^ n := by simp
                                      rw [← q, ← h1]; decide
  have h3 := Int.emod_add_mul_ediv x.toInt (2 ^ n)
  rw [h2] at h3
  have h4 := Int.emod_nonneg x.toInt (show (2 : Int) ^ n ≠ 0 by omega)
  have h5 := Int.emod_lt_of_pos x.toInt hp
  simp only [isI, Bool.and_eq_true, decide_eq_true_eq]
  have h6 : ((2 ^ n : Nat) : Int) = 2 ^ n := by simp
  rw [h6]
  omega
theorem isW_F {n : Nat} {x : Int32} (hn : n < 31) (h : ¬ x >>> (nI n &&& 31) = 0) : isI (2 ^ n) x = false := by
  cases hq : isI (2 ^ n) x with
  | false => rfl
  | true =>
    exfalso
    obtain ⟨v, hv, rfl⟩ := isI_T hq
    apply h
    have hv2 : v < 2 ^ 31 := Nat.lt_of_lt_of_le hv (Nat.pow_le_pow_right (by decide) (by omega))
    rw [nI_shr hv2 (by omega), Nat.div_eq_of_lt hv]
    rfl
theorem pow_lt31 {c : Nat} (h : c ≤ 14) : 2 ^ c ≤ 16384 := Nat.pow_le_pow_right (by decide) h
theorem ah_lt {m c : Nat} (h : c ≤ 14) : nd (2 ^ c - 1) m < 16384 := by
  have := nd_le (2 ^ c - 1) m
  have := pow_lt31 h
  have := Nat.one_le_two_pow (n := c)
  omega
theorem ah_pos {m c : Nat} (h : pc (nd (2 ^ c - 1) m) % 2 = 1) : 0 < nd (2 ^ c - 1) m := by
  rcases Nat.eq_zero_or_pos (nd (2 ^ c - 1) m) with q | q
  · rw [q, pc_0] at h; cases h
  · exact q
theorem mt_lt {m c : Nat} (h : pc (nd (2 ^ c - 1) m) % 2 = 1) : mt m c < c := by
  have h1 := ah_pos h
  have h2 := nd_le (2 ^ c - 1) m
  exact log2_lt h1 (by have := Nat.one_le_two_pow (n := c); omega)
theorem lN_shl1 {k : Nat} (h : k < 64) : lN 1 <<< ((nI k).toInt64 &&& 63) = lN (2 ^ k) := by
  have : ∀ k : Fin 64, lN 1 <<< ((nI k.val).toInt64 &&& 63) = lN (2 ^ k.val) := by decide +kernel
  exact this ⟨k, h⟩

set_option maxHeartbeats 4000000 in
set_option maxRecDepth 100000 in
theorem c_X0_leastOf {l : Launch} {D : va_G} {c : Nat → ClassId} {t : Nat} (ht : t < 3) : KI l D (tyE c) w0 yX0_leastOf cX0_leastOf 1 .int (rmL 1) [.int (nI t)] () (fun r u => r = nI (lo2 t) ∧ u = ()) := by
  refine x_enterI (by decide) (Nat.le_of_ble_eq_true rfl) (fun F hl hD hn hRm hC hR => ?_)
  subst hl hD
  change XW F 0 0 (w0 ()) [(0, .int (nI t))] 0 []
  change FC F cX0_leastOf RX0 (tyE c) at hC
  refine x_iload_n hC 0 rfl dX0_leastOf_0 ?_
  refine x_iconst hC (v := (nI 2)) dX0_leastOf_1 rfl ?_
  refine x_icmp_neN hC 9 dX0_leastOf_2 rfl (by omega) (by decide) (fun h2 => ?_) (fun h2 => ?_)
  · -- 2 T
    refine x_iconst hC (v := (nI 0)) dX0_leastOf_9 rfl ?_
    exact x_iret hC hR dX0_leastOf_10 (⟨by simp [lo2, *], rfl⟩)
  · -- 2 F
    refine x_iconst hC (v := (nI 1)) dX0_leastOf_5 rfl ?_
    refine x_goto hC 10 dX0_leastOf_6 rfl ?_
    exact x_iret hC hR dX0_leastOf_10 (⟨by simp [lo2, *], rfl⟩)
set_option maxHeartbeats 4000000 in
set_option maxRecDepth 100000 in
theorem c_X0_greatestOf {l : Launch} {D : va_G} {c : Nat → ClassId} {t : Nat} (ht : t < 3) : KI l D (tyE c) w0 yX0_greatestOf cX0_greatestOf 1 .int (rmL 1) [.int (nI t)] () (fun r u => r = nI (hi2 t) ∧ u = ()) := by
  refine x_enterI (by decide) (Nat.le_of_ble_eq_true rfl) (fun F hl hD hn hRm hC hR => ?_)
  subst hl hD
  change XW F 0 0 (w0 ()) [(0, .int (nI t))] 0 []
  change FC F cX0_greatestOf RX0 (tyE c) at hC
  refine x_iload_n hC 0 rfl dX0_greatestOf_0 ?_
  refine x_iconst hC (v := (nI 2)) dX0_greatestOf_1 rfl ?_
  refine x_icmp_neN hC 10 dX0_greatestOf_2 rfl (by omega) (by decide) (fun h2 => ?_) (fun h2 => ?_)
  · -- 2 T
    refine x_iconst hC (v := (nI 4)) dX0_greatestOf_10 rfl ?_
    exact x_iret hC hR dX0_greatestOf_11 (⟨by simp [hi2, *], rfl⟩)
  · -- 2 F
    refine x_bipush hC (v := (nI 7)) dX0_greatestOf_5 rfl ?_
    refine x_goto hC 11 dX0_greatestOf_7 rfl ?_
    exact x_iret hC hR dX0_greatestOf_11 (⟨by simp [hi2, *], rfl⟩)
set_option maxHeartbeats 4000000 in
set_option maxRecDepth 100000 in
theorem c_X0_expectedOfTwo {l : Launch} {D : va_G} {c : Nat → ClassId} {p q : Nat} (hp : p ≤ 8) (hq : q ≤ 8) : KI l D (tyE c) w0 yX0_expectedOfTwo cX0_expectedOfTwo 2 .int (rmL 1) [.int (nI p), .int (nI q)] () (fun r u => r = nI (p * (8 - q) + (8 - p) * q) ∧ u = ()) := by
  refine x_enterI (by decide) (Nat.le_of_ble_eq_true rfl) (fun F hl hD hn hRm hC hR => ?_)
  subst hl hD
  change XW F 0 0 (w0 ()) [(0, .int (nI p)), (1, .int (nI q))] 0 []
  change FC F cX0_expectedOfTwo RX0 (tyE c) at hC
  refine x_iload_n hC 0 rfl dX0_expectedOfTwo_0 ?_
  refine x_bipush hC (v := (nI 8)) dX0_expectedOfTwo_1 rfl ?_
  refine x_iload_n hC 1 rfl dX0_expectedOfTwo_3 ?_
  refine x_isubE hC (z := (nI (8 - q))) (pk_sub (by omega)) dX0_expectedOfTwo_4 ?_
  refine x_imulE hC (z := (nI (p * (8 - q)))) (pk_mul _ _) dX0_expectedOfTwo_5 ?_
  refine x_bipush hC (v := (nI 8)) dX0_expectedOfTwo_6 rfl ?_
  refine x_iload_n hC 0 rfl dX0_expectedOfTwo_8 ?_
  refine x_isubE hC (z := (nI (8 - p))) (pk_sub (by omega)) dX0_expectedOfTwo_9 ?_
  refine x_iload_n hC 1 rfl dX0_expectedOfTwo_10 ?_
  refine x_imulE hC (z := (nI ((8 - p) * q))) (pk_mul _ _) dX0_expectedOfTwo_11 ?_
  refine x_iaddE hC (z := (nI ((p * (8 - q)) + ((8 - p) * q)))) (nI_add _ _) dX0_expectedOfTwo_12 ?_
  exact x_iret hC hR dX0_expectedOfTwo_13 (⟨rfl, rfl⟩)
set_option maxHeartbeats 4000000 in
set_option maxRecDepth 100000 in
theorem c_X0_open {l : Launch} {D : va_G} {c : Nat → ClassId} {a : Nat → Nat} {μ : Me} {w m : Nat} (hm : μ 0 1 = nI m) : KI l D (tyE c) (xw c a) yX0_open cX0_open 2 .int (rmL 1) [.ref (a 1), .int (nI w)] μ (fun r u => r = nI (nd w m) ∧ μ = u) := by
  refine x_enterI (by decide) (Nat.le_of_ble_eq_true rfl) (fun F hl hD hn hRm hC hR => ?_)
  subst hl hD
  change XW F 0 0 (xw c a μ) [(0, .ref (a 1)), (1, .int (nI w))] 0 []
  change FC F cX0_open RX0 (tyE c) at hC
  refine x_iload_n hC 1 rfl dX0_open_0 ?_
  refine x_aload_n hC 0 rfl dX0_open_1 ?_
  refine x_get hC fl_X0_15 dX0_open_2 1 rfl (v := .int (nI m)) (xv hm) ?_
  refine x_iconst hC (v := (zI (-1))) dX0_open_5 rfl ?_
  refine x_ixorE hC (z := (nI m ^^^ (-1))) (rfl) dX0_open_6 ?_
  refine x_iandE hC (z := (nI (nd w m))) (nI_andc _ _) dX0_open_7 ?_
  exact x_iret hC hR dX0_open_8 (⟨rfl, rfl⟩)
set_option maxHeartbeats 4000000 in
set_option maxRecDepth 100000 in
theorem c_X0_isCell {l : Launch} {D : va_G} {c : Nat → ClassId} {a : Nat → Nat} {μ : Me} {x : Int32} {n : Nat} (hn0 : μ 0 0 = nI n) (hb : n ≤ 14) : KI l D (tyE c) (xw c a) yX0_isCell cX0_isCell 2 .boolean (rmL 1) [.ref (a 1), .int x] μ (fun r u => r = bz (isI n x) ∧ μ = u) := by
  refine x_enterI (by decide) (Nat.le_of_ble_eq_true rfl) (fun F hl hD hn hRm hC hR => ?_)
  subst hl hD
  change XW F 0 0 (xw c a μ) [(0, .ref (a 1)), (1, .int x)] 0 []
  change FC F cX0_isCell RX0 (tyE c) at hC
  refine x_iload_n hC 1 rfl dX0_isCell_0 ?_
  refine x_if_lt hC 16 dX0_isCell_1 rfl (fun h1 => ?_) (fun h1 => ?_)
  · -- 1 T
    refine x_iconst hC (v := (nI 0)) dX0_isCell_16 rfl ?_
    exact x_zret hC hR dX0_isCell_17 rfl (⟨by first | exact isI_f0 h1 | exact isI_f1 (by omega) h9 | exact isI_t1 (by omega) h1 h9, rfl⟩)
  · -- 1 F
    refine x_iload_n hC 1 rfl dX0_isCell_4 ?_
    refine x_aload_n hC 0 rfl dX0_isCell_5 ?_
    refine x_get hC fl_X0_9 dX0_isCell_6 1 rfl (v := .int (nI n)) (xv hn0) ?_
    refine x_icmp_ge hC 16 dX0_isCell_9 rfl (fun h9 => ?_) (fun h9 => ?_)
    · -- 9 T
      refine x_iconst hC (v := (nI 0)) dX0_isCell_16 rfl ?_
      exact x_zret hC hR dX0_isCell_17 rfl (⟨by first | exact isI_f0 h1 | exact isI_f1 (by omega) h9 | exact isI_t1 (by omega) h1 h9, rfl⟩)
    · -- 9 F
      refine x_iconst hC (v := (nI 1)) dX0_isCell_12 rfl ?_
      refine x_goto hC 17 dX0_isCell_13 rfl ?_
      exact x_zret hC hR dX0_isCell_17 rfl (⟨by first | exact isI_f0 h1 | exact isI_f1 (by omega) h9 | exact isI_t1 (by omega) h1 h9, rfl⟩)
set_option maxHeartbeats 4000000 in
set_option maxRecDepth 100000 in
theorem c_X0_isWord {l : Launch} {D : va_G} {c : Nat → ClassId} {a : Nat → Nat} {μ : Me} {x : Int32} {n : Nat} (hn0 : μ 0 0 = nI n) (hb : n ≤ 14) : KI l D (tyE c) (xw c a) yX0_isWord cX0_isWord 2 .boolean (rmL 1) [.ref (a 1), .int x] μ (fun r u => r = bz (isI (2 ^ n) x) ∧ μ = u) := by
  refine x_enterI (by decide) (Nat.le_of_ble_eq_true rfl) (fun F hl hD hn hRm hC hR => ?_)
  subst hl hD
  change XW F 0 0 (xw c a μ) [(0, .ref (a 1)), (1, .int x)] 0 []
  change FC F cX0_isWord RX0 (tyE c) at hC
  refine x_iload_n hC 1 rfl dX0_isWord_0 ?_
  refine x_aload_n hC 0 rfl dX0_isWord_1 ?_
  refine x_get hC fl_X0_9 dX0_isWord_2 1 rfl (v := .int (nI n)) (xv hn0) ?_
  refine x_ishr hC dX0_isWord_5 ?_
  refine x_if_ne hC 13 dX0_isWord_6 rfl (fun h6 => ?_) (fun h6 => ?_)
  · -- 6 T
    refine x_iconst hC (v := (nI 0)) dX0_isWord_13 rfl ?_
    exact x_zret hC hR dX0_isWord_14 rfl (⟨by first | (rw [isW_F (by omega) h6]; rfl) | (rw [isW_T (by omega) h6]; rfl), rfl⟩)
  · -- 6 F
    refine x_iconst hC (v := (nI 1)) dX0_isWord_9 rfl ?_
    refine x_goto hC 14 dX0_isWord_10 rfl ?_
    exact x_zret hC hR dX0_isWord_14 rfl (⟨by first | (rw [isW_F (by omega) h6]; rfl) | (rw [isW_T (by omega) h6]; rfl), rfl⟩)
set_option maxHeartbeats 4000000 in
set_option maxRecDepth 100000 in
theorem c_X0_isMasked {l : Launch} {D : va_G} {c : Nat → ClassId} {a : Nat → Nat} {μ : Me} {i m : Nat} (hm : μ 0 1 = nI m) (hmb : m < 2 ^ 31) (hi : i < 32) : KI l D (tyE c) (xw c a) yX0_isMasked cX0_isMasked 2 .boolean (rmL 1) [.ref (a 1), .int (nI i)] μ (fun r u => r = bz (decide (bt m i = 1)) ∧ μ = u) := by
  refine x_enterI (by decide) (Nat.le_of_ble_eq_true rfl) (fun F hl hD hn hRm hC hR => ?_)
  subst hl hD
  change XW F 0 0 (xw c a μ) [(0, .ref (a 1)), (1, .int (nI i))] 0 []
  change FC F cX0_isMasked RX0 (tyE c) at hC
  refine x_aload_n hC 0 rfl dX0_isMasked_0 ?_
  refine x_get hC fl_X0_15 dX0_isMasked_1 1 rfl (v := .int (nI m)) (xv hm) ?_
  refine x_iload_n hC 1 rfl dX0_isMasked_4 ?_
  refine x_ishrE hC (z := (nI (m / 2 ^ i))) (nI_shr (by omega) (by omega)) dX0_isMasked_5 ?_
  refine x_iconst hC (v := (nI 1)) dX0_isMasked_6 rfl ?_
  refine x_iandE hC (z := (nI (bt m i))) (nI_and1 _) dX0_isMasked_7 ?_
  refine x_iconst hC (v := (nI 1)) dX0_isMasked_8 rfl ?_
  refine x_icmp_neN hC 16 dX0_isMasked_9 rfl (by have := bt_lt m i; omega) (by decide) (fun h9 => ?_) (fun h9 => ?_)
  · -- 9 T
    refine x_iconst hC (v := (nI 0)) dX0_isMasked_16 rfl ?_
    exact x_zret hC hR dX0_isMasked_17 rfl (⟨by simp [h9, bz]; rfl, rfl⟩)
  · -- 9 F
    refine x_iconst hC (v := (nI 1)) dX0_isMasked_12 rfl ?_
    refine x_goto hC 17 dX0_isMasked_13 rfl ?_
    exact x_zret hC hR dX0_isMasked_17 rfl (⟨by simp [h9, bz]; rfl, rfl⟩)
set_option maxHeartbeats 4000000 in
set_option maxRecDepth 100000 in
theorem c_X0_openSet {l : Launch} {D : va_G} {c : Nat → ClassId} {a : Nat → Nat} {μ : Me} {n m : Nat} (hn0 : μ 0 0 = nI n) (hm : μ 0 1 = nI m) (hb : n ≤ 14) : KI l D (tyE c) (xw c a) yX0_openSet cX0_openSet 1 .int (rmL 2) [.ref (a 1)] μ (fun r u => r = nI (nd (2 ^ n - 1) m) ∧ μ = u) := by
  refine x_enterI (by decide) (Nat.le_of_ble_eq_true rfl) (fun F hl hD hn hRm hC hR => ?_)
  subst hl hD
  change XW F 0 0 (xw c a μ) [(0, .ref (a 1))] 0 []
  change FC F cX0_openSet RX0 (tyE c) at hC
  refine x_aload_n hC 0 rfl dX0_openSet_0 ?_
  refine x_iconst hC (v := (nI 1)) dX0_openSet_1 rfl ?_
  refine x_aload_n hC 0 rfl dX0_openSet_2 ?_
  refine x_get hC fl_X0_9 dX0_openSet_3 1 rfl (v := .int (nI n)) (xv hn0) ?_
  refine x_ishlE hC (z := (nI (2 ^ n))) (nI_shl1 (by omega)) dX0_openSet_6 ?_
  refine x_iconst hC (v := (nI 1)) dX0_openSet_7 rfl ?_
  refine x_isubE hC (z := (nI ((2 ^ n) - 1))) (pk_sub (Nat.one_le_two_pow)) dX0_openSet_8 ?_
  refine x_callVI hC cw_X0_23 (c_X0_open (w := ((2 ^ n) - 1)) (m := m) (by first | assumption | omega)) dX0_openSet_9 [] rfl (Nat.le_of_ble_eq_true rfl) rfl (rm_ok hRm (by decide) (by decide)) 0 1 rfl rfl (fun r9 m9 hp9 => ?_)
  obtain ⟨rfl, rfl⟩ := hp9
  exact x_iret hC hR dX0_openSet_12 (⟨rfl, rfl⟩)
set_option maxHeartbeats 4000000 in
set_option maxRecDepth 100000 in
theorem c_X0_openCells {l : Launch} {D : va_G} {c : Nat → ClassId} {a : Nat → Nat} {μ : Me} {n m : Nat} (hn0 : μ 0 0 = nI n) (hm : μ 0 1 = nI m) (hb : n ≤ 14) : KI l D (tyE c) (xw c a) yX0_openCells cX0_openCells 1 .int (rmL 3) [.ref (a 1)] μ (fun r u => r = nI (pc (nd (2 ^ n - 1) m)) ∧ μ = u) := by
  refine x_enterI (by decide) (Nat.le_of_ble_eq_true rfl) (fun F hl hD hn hRm hC hR => ?_)
  subst hl hD
  change XW F 0 0 (xw c a μ) [(0, .ref (a 1))] 0 []
  change FC F cX0_openCells RX0 (tyE c) at hC
  refine x_aload_n hC 0 rfl dX0_openCells_0 ?_
  refine x_callVI hC cw_X0_27 (c_X0_openSet  (n := n) (m := m) (by first | assumption | omega) (by first | assumption | omega) (by first | assumption | omega)) dX0_openCells_1 [] rfl (Nat.le_of_ble_eq_true rfl) rfl (rm_ok hRm (by decide) (by decide)) 0 1 rfl rfl (fun r1 m1 hp1 => ?_)
  obtain ⟨rfl, rfl⟩ := hp1
  refine x_callN hC cs_X0_31 (c_J6_bitCount_0f7a4 (w := (nd (2 ^ n - 1) m))  (ah_lt hb)) dX0_openCells_4 [] rfl (Nat.le_of_ble_eq_true rfl) rfl (rm_ok hRm (by decide) (by decide)) ?_
  exact x_iret hC hR dX0_openCells_7 (⟨rfl, rfl⟩)
set_option maxHeartbeats 4000000 in
set_option maxRecDepth 100000 in
theorem c_X0_allWays {l : Launch} {D : va_G} {c : Nat → ClassId} {a : Nat → Nat} {μ : Me} {n m : Nat} (hn0 : μ 0 0 = nI n) (hm : μ 0 1 = nI m) (hb : n ≤ 14) : KL l D (tyE c) (xw c a) yX0_allWays cX0_allWays 1 (rmL 4) [.ref (a 1)] μ (fun r u => r = lN (2 ^ (3 * pc (nd (2 ^ n - 1) m))) ∧ μ = u) := by
  refine x_enterL (by decide) (Nat.le_of_ble_eq_true rfl) (fun F hl hD hn hRm hC hR => ?_)
  subst hl hD
  change XW F 0 0 (xw c a μ) [(0, .ref (a 1))] 0 []
  change FC F cX0_allWays RX0 (tyE c) at hC
  refine x_lconst hC (v := lN 1) dX0_allWays_0 rfl ?_
  refine x_iconst hC (v := (nI 3)) dX0_allWays_1 rfl ?_
  refine x_aload_n hC 0 rfl dX0_allWays_2 ?_
  refine x_callVI hC cw_X0_36 (c_X0_openCells  (n := n) (m := m) (by first | assumption | omega) (by first | assumption | omega) (by first | assumption | omega)) dX0_allWays_3 [.int (nI 3), .long (lN 1)] rfl (Nat.le_of_ble_eq_true rfl) rfl (rm_ok hRm (by decide) (by decide)) 0 1 rfl rfl (fun r3 m3 hp3 => ?_)
  obtain ⟨rfl, rfl⟩ := hp3
  refine x_imulE hC (z := (nI (3 * (pc (nd (2 ^ n - 1) m))))) (pk_mul _ _) dX0_allWays_6 ?_
  refine x_lshl hC (v := (lN (2 ^ (3 * pc (nd (2 ^ n - 1) m))))) (lN_shl1 (by have := pc_le (nd (2 ^ n - 1) m); omega)) dX0_allWays_7 ?_
  exact x_lret hC hR dX0_allWays_8 (⟨rfl, rfl⟩)
set_option maxHeartbeats 4000000 in
set_option maxRecDepth 100000 in
theorem c_X0_agedChance {l : Launch} {D : va_G} {c : Nat → ClassId} {a : Nat → Nat} {μ : Me} {i age p q : Nat} (h8 : μ 8 i = nI p) (h9 : μ 9 i = nI q) (hi : i < 14) (hp : p ≤ 4) (hq : q ≤ 4) (ha : age ≤ 40) : KI l D (tyE c) (xw c a) yX0_agedChance cX0_agedChance 3 .int (rmL 2) [.ref (a 1), .int (nI i), .int (nI age)] μ (fun r u => r = nI (ag p q age) ∧ μ = u) := by
  refine x_enterI (by decide) (Nat.le_of_ble_eq_true rfl) (fun F hl hD hn hRm hC hR => ?_)
  subst hl hD
  change XW F 0 0 (xw c a μ) [(0, .ref (a 1)), (1, .int (nI i)), (2, .int (nI age))] 0 []
  change FC F cX0_agedChance RX0 (tyE c) at hC
  refine x_iconst hC (v := (nI 4)) dX0_agedChance_0 rfl ?_
  refine x_aload_n hC 0 rfl dX0_agedChance_1 ?_
  refine x_get hC fl_X0_20 dX0_agedChance_2 1 rfl rfl ?_
  refine x_iconst hC (v := (nI 0)) dX0_agedChance_5 rfl ?_
  refine x_aald hC 7 3 rfl rfl (y := a 8) (by decide) (by decide) (by rfl) dX0_agedChance_6 ?_
  refine x_iload_n hC 1 rfl dX0_agedChance_7 ?_
  refine x_iald hC 8 0 rfl rfl (y := (nI p)) (by omega) (by decide) (h8) dX0_agedChance_8 ?_
  refine x_aload_n hC 0 rfl dX0_agedChance_9 ?_
  refine x_get hC fl_X0_20 dX0_agedChance_10 1 rfl rfl ?_
  refine x_iconst hC (v := (nI 1)) dX0_agedChance_13 rfl ?_
  refine x_aald hC 7 3 rfl rfl (y := a 9) (by decide) (by decide) (by rfl) dX0_agedChance_14 ?_
  refine x_iload_n hC 1 rfl dX0_agedChance_15 ?_
  refine x_iald hC 9 0 rfl rfl (y := (nI q)) (by omega) (by decide) (h9) dX0_agedChance_16 ?_
  refine x_iload_n hC 2 rfl dX0_agedChance_17 ?_
  have hqa : q * age ≤ 4 * 40 := Nat.mul_le_mul hq ha
  refine x_imulE hC (z := (nI (q * age))) (pk_mul _ _) dX0_agedChance_18 ?_
  refine x_bipush hC (v := (nI 10)) dX0_agedChance_19 rfl ?_
  refine x_idivE hC (z := (nI ((q * age) / 10))) (by decide) (pk_div (by omega) (by decide) (by decide)) dX0_agedChance_21 ?_
  refine x_iaddE hC (z := (nI (p + ((q * age) / 10)))) (nI_add _ _) dX0_agedChance_22 ?_
  refine x_min hC cm_X0_39 dX0_agedChance_23 (v := (nI (ag p q age))) (nI_min (by decide) (by omega)) (by rw [hRm]; decide) (by rw [hRm]; exact Nat.le_of_ble_eq_true rfl) (by rw [hRm]; decide) (by rw [hRm]; decide) ?_
  exact x_iret hC hR dX0_agedChance_26 (⟨rfl, rfl⟩)
set_option maxHeartbeats 4000000 in
set_option maxRecDepth 100000 in
theorem c_X0_likelierThan {l : Launch} {D : va_G} {c : Nat → ClassId} {a : Nat → Nat} {μ : Me} {most age n : Nat} {ch we : Nat → Nat} (hn0 : μ 0 0 = nI n) (hb : n ≤ 14) (h8 : ∀ j, j < 14 → μ 8 j = nI (ch j)) (h9 : ∀ j, j < 14 → μ 9 j = nI (we j)) (hcb : ∀ j, j < 14 → ch j ≤ 4 ∧ we j ≤ 4) (ha : age ≤ 40) (hm : most < 2 ^ 31) : KI l D (tyE c) (xw c a) yX0_likelierThan cX0_likelierThan 5 .int (rmL 3) [.ref (a 1), .int (nI most), .int (nI age)] μ (fun r u => r = nI (lkx (fun j => ag (ch j) (we j) age) most n) ∧ μ = u) := by
  refine x_enterI (by decide) (Nat.le_of_ble_eq_true rfl) (fun F hl hD hn hRm hC hR => ?_)
  subst hl hD
  change XW F 0 0 (xw c a μ) [(0, .ref (a 1)), (1, .int (nI most)), (2, .int (nI age))] 0 []
  change FC F cX0_likelierThan RX0 (tyE c) at hC
  refine x_iconst hC (v := (nI 0)) dX0_likelierThan_0 rfl ?_
  refine x_istore_n hC [(3, .int (nI 0)), (0, .ref (a 1)), (1, .int (nI most)), (2, .int (nI age))] rfl (lt_n hn rfl) dX0_likelierThan_1 ?_
  refine x_iconst hC (v := (nI 0)) dX0_likelierThan_2 rfl ?_
  refine x_istore hC [(4, .int (nI 0)), (3, .int (nI 0)), (0, .ref (a 1)), (1, .int (nI most)), (2, .int (nI age))] rfl (lt_n hn rfl) dX0_likelierThan_3 ?_
  refine x_lv [2, 3, 4, 1, 0] rfl ?_
  have L5 : ∀ (N5 : Nat) (s : Nat) (i : Nat), n - i < N5 → (s = lkx (fun j => ag (ch j) (we j) age) most i) → (i ≤ n) → XW F 0 0 (xw c a μ) [(0, .ref (a 1)), (1, .int (nI most)), (2, .int (nI age)), (3, .int (nI s)), (4, .int (nI i))] 5 [] := by
    intro N5
    induction N5 with
    | zero => intro s i hN5 hs hi; exact absurd hN5 (by omega)
    | succ N5 ih5 =>
      intro s i hN5 hs hi
      refine x_iload hC 4 rfl dX0_likelierThan_5 ?_
      refine x_aload_n hC 0 rfl dX0_likelierThan_7 ?_
      refine x_get hC fl_X0_9 dX0_likelierThan_8 1 rfl (v := .int (nI n)) (xv hn0) ?_
      refine x_icmp_geN hC 38 dX0_likelierThan_11 rfl (by omega) (by omega) (fun h11 => ?_) (fun h11 => ?_)
      · -- 11 T
        refine x_iload_n hC 3 rfl dX0_likelierThan_38 ?_
        exact x_iret hC hR dX0_likelierThan_39 (⟨by rw [hs, show i = n by omega], rfl⟩)
      · -- 11 F
        refine x_aload_n hC 0 rfl dX0_likelierThan_14 ?_
        refine x_iload hC 4 rfl dX0_likelierThan_15 ?_
        refine x_iload_n hC 2 rfl dX0_likelierThan_17 ?_
        refine x_callVI hC cw_X0_45 (c_X0_agedChance (i := i) (age := age) (p := (ch i)) (q := (we i)) (h8 i (by omega)) (h9 i (by omega)) (by omega) (hcb i (by omega)).1 (hcb i (by omega)).2 ha) dX0_likelierThan_18 [] rfl (Nat.le_of_ble_eq_true rfl) rfl (rm_ok hRm (by decide) (by decide)) 0 1 rfl rfl (fun r18 m18 hp18 => ?_)
        obtain ⟨rfl, rfl⟩ := hp18
        refine x_iload_n hC 1 rfl dX0_likelierThan_21 ?_
        refine x_icmp_leN hC 32 dX0_likelierThan_22 rfl (by unfold ag; omega) hm (fun h22 => ?_) (fun h22 => ?_)
        · -- 22 T
          refine x_iinc hC (z := 1) (v := (nI (i + 1))) 4 rfl (nI_add i 1) [(4, .int (nI (i + 1))), (0, .ref (a 1)), (1, .int (nI most)), (2, .int (nI age)), (3, .int (nI s))] rfl (lt_n hn rfl) dX0_likelierThan_32 ?_
          refine x_goto hC 5 dX0_likelierThan_35 rfl ?_
          refine x_lv [1, 2, 3, 4, 0] rfl ?_
          exact ih5 s (i + 1) (by omega) (by rw [hs]; first | exact (if_pos h22).symm | exact (if_neg (Nat.not_lt.mpr h22)).symm) (by omega)
        · -- 22 F
          refine x_iload_n hC 3 rfl dX0_likelierThan_25 ?_
          refine x_iconst hC (v := (nI 1)) dX0_likelierThan_26 rfl ?_
          refine x_iload hC 4 rfl dX0_likelierThan_27 ?_
          refine x_ishlE hC (z := (nI (2 ^ i))) (nI_shl1 (by omega)) dX0_likelierThan_29 ?_
          refine x_iorE hC (z := (nI (s ||| (2 ^ i)))) (nI_or _ _) dX0_likelierThan_30 ?_
          refine x_istore_n hC [(3, .int (nI (s ||| (2 ^ i)))), (0, .ref (a 1)), (1, .int (nI most)), (2, .int (nI age)), (4, .int (nI i))] rfl (lt_n hn rfl) dX0_likelierThan_31 ?_
          refine x_iinc hC (z := 1) (v := (nI (i + 1))) 4 rfl (nI_add i 1) [(4, .int (nI (i + 1))), (3, .int (nI (s ||| (2 ^ i)))), (0, .ref (a 1)), (1, .int (nI most)), (2, .int (nI age))] rfl (lt_n hn rfl) dX0_likelierThan_32 ?_
          refine x_goto hC 5 dX0_likelierThan_35 rfl ?_
          refine x_lv [2, 3, 4, 1, 0] rfl ?_
          exact ih5 (s ||| (2 ^ i)) (i + 1) (by omega) (by rw [hs]; first | exact (if_pos h22).symm | exact (if_neg (Nat.not_lt.mpr h22)).symm) (by omega)
  exact L5 _ 0 0 (Nat.lt_succ_self _) rfl (by omega)
set_option maxHeartbeats 4000000 in
set_option maxRecDepth 100000 in
theorem c_X0_waysToBe {l : Launch} {D : va_G} {c : Nat → ClassId} {a : Nat → Nat} {μ : Me} {w n m : Nat} {le : Nat → Nat} (hn0 : μ 0 0 = nI n) (hm : μ 0 1 = nI m) (hb : n ≤ 14) (hmb : m < 2 ^ 31) (h10 : ∀ j, j < 14 → μ 10 j = nI (le j)) (hl : ∀ j, j < 14 → le j ≤ 8) (hw : w < 2 ^ 31) : KL l D (tyE c) (xw c a) yX0_waysToBe cX0_waysToBe 6 (rmL 2) [.ref (a 1), .int (nI w)] μ (fun r u => r = lN (wyx m le w n) ∧ μ = u) := by
  refine x_enterL (by decide) (Nat.le_of_ble_eq_true rfl) (fun F hl hD hn hRm hC hR => ?_)
  subst hl hD
  change XW F 0 0 (xw c a μ) [(0, .ref (a 1)), (1, .int (nI w))] 0 []
  change FC F cX0_waysToBe RX0 (tyE c) at hC
  refine x_lconst hC (v := lN 1) dX0_waysToBe_0 rfl ?_
  refine x_lstore_n hC [(2, .long (lN 1)), (0, .ref (a 1)), (1, .int (nI w))] rfl (lt_n hn rfl) dX0_waysToBe_1 ?_
  refine x_iconst hC (v := (nI 0)) dX0_waysToBe_2 rfl ?_
  refine x_istore hC [(4, .int (nI 0)), (2, .long (lN 1)), (0, .ref (a 1)), (1, .int (nI w))] rfl (lt_n hn rfl) dX0_waysToBe_3 ?_
  refine x_lv [2, 3, 1, 0] rfl ?_
  have L5 : ∀ (N5 : Nat) (s : Nat) (i : Nat), n - i < N5 → (s = wyx m le w i) → (i ≤ n) → XW F 0 0 (xw c a μ) [(0, .ref (a 1)), (1, .int (nI w)), (2, .long (lN s)), (4, .int (nI i))] 5 [] := by
    intro N5
    induction N5 with
    | zero => intro s i hN5 hs hi; exact absurd hN5 (by omega)
    | succ N5 ih5 =>
      intro s i hN5 hs hi
      refine x_iload hC 3 rfl dX0_waysToBe_5 ?_
      refine x_aload_n hC 0 rfl dX0_waysToBe_7 ?_
      refine x_get hC fl_X0_9 dX0_waysToBe_8 1 rfl (v := .int (nI n)) (xv hn0) ?_
      refine x_icmp_geN hC 65 dX0_waysToBe_11 rfl (by omega) (by omega) (fun h11 => ?_) (fun h11 => ?_)
      · -- 11 T
        refine x_lload_n hC 2 rfl dX0_waysToBe_65 ?_
        exact x_lret hC hR dX0_waysToBe_66 (⟨by rw [hs, show i = n by omega], rfl⟩)
      · -- 11 F
        refine x_aload_n hC 0 rfl dX0_waysToBe_14 ?_
        refine x_iload hC 3 rfl dX0_waysToBe_15 ?_
        refine x_callVI hC cw_X0_48 (c_X0_isMasked (i := i) (m := m) (by first | assumption | omega) (by first | assumption | omega) (by first | assumption | omega)) dX0_waysToBe_17 [] rfl (Nat.le_of_ble_eq_true rfl) rfl (rm_ok hRm (by decide) (by decide)) 0 1 rfl rfl (fun r17 m17 hp17 => ?_)
        obtain ⟨rfl, rfl⟩ := hp17
        refine x_if_neB hC 59 dX0_waysToBe_20 rfl (fun h20 => ?_) (fun h20 => ?_)
        · -- 20 T
          refine x_iinc hC (z := 1) (v := (nI (i + 1))) 3 rfl (nI_add i 1) [(4, .int (nI (i + 1))), (0, .ref (a 1)), (1, .int (nI w)), (2, .long (lN s))] rfl (lt_n hn rfl) dX0_waysToBe_59 ?_
          refine x_goto hC 5 dX0_waysToBe_62 rfl ?_
          refine x_lv [1, 2, 3, 0] rfl ?_
          exact ih5 s (i + 1) (by omega) (by rw [hs]; simp_all [wyx]) (by omega)
        · -- 20 F
          refine x_aload_n hC 0 rfl dX0_waysToBe_23 ?_
          refine x_get hC fl_X0_20 dX0_waysToBe_24 1 rfl rfl ?_
          refine x_iconst hC (v := (nI 2)) dX0_waysToBe_27 rfl ?_
          refine x_aald hC 7 3 rfl rfl (y := a 10) (by decide) (by decide) (by rfl) dX0_waysToBe_28 ?_
          refine x_iload hC 3 rfl dX0_waysToBe_29 ?_
          refine x_iald hC 10 0 rfl rfl (y := (nI (le i))) (by omega) (by decide) (h10 i (by omega)) dX0_waysToBe_31 ?_
          refine x_istore hC [(5, .int (nI (le i))), (0, .ref (a 1)), (1, .int (nI w)), (2, .long (lN s)), (4, .int (nI i))] rfl (lt_n hn rfl) dX0_waysToBe_32 ?_
          have hli := hl i (by omega)
          refine x_lload_n hC 3 rfl dX0_waysToBe_34 ?_
          refine x_iload_n hC 2 rfl dX0_waysToBe_35 ?_
          refine x_iload hC 4 rfl dX0_waysToBe_36 ?_
          refine x_ishrE hC (z := (nI (w / 2 ^ i))) (nI_shr (by omega) (by omega)) dX0_waysToBe_38 ?_
          refine x_iconst hC (v := (nI 1)) dX0_waysToBe_39 rfl ?_
          refine x_iandE hC (z := (nI (bt w i))) (nI_and1 _) dX0_waysToBe_40 ?_
          refine x_iconst hC (v := (nI 1)) dX0_waysToBe_41 rfl ?_
          refine x_icmp_neN hC 51 dX0_waysToBe_42 rfl (by have := bt_lt w i; omega) (by decide) (fun h42 => ?_) (fun h42 => ?_)
          · -- 42 T
            refine x_bipush hC (v := (nI 8)) dX0_waysToBe_51 rfl ?_
            refine x_iload hC 0 rfl dX0_waysToBe_53 ?_
            refine x_isubE hC (z := (nI (8 - (le i)))) (pk_sub (by omega)) dX0_waysToBe_55 ?_
            refine x_i2l hC (v := (lN (8 - (le i)))) (nI_l (by omega)) dX0_waysToBe_56 ?_
            refine x_lmulE hC (z := (lN (s * (8 - (le i))))) (lN_mul _ _) dX0_waysToBe_57 ?_
            refine x_lstore_n hC [(2, .long (lN (s * (8 - (le i))))), (5, .int (nI (le i))), (0, .ref (a 1)), (1, .int (nI w)), (4, .int (nI i))] rfl (lt_n hn rfl) dX0_waysToBe_58 ?_
            refine x_iinc hC (z := 1) (v := (nI (i + 1))) 4 rfl (nI_add i 1) [(4, .int (nI (i + 1))), (2, .long (lN (s * (8 - (le i))))), (5, .int (nI (le i))), (0, .ref (a 1)), (1, .int (nI w))] rfl (lt_n hn rfl) dX0_waysToBe_59 ?_
            refine x_goto hC 5 dX0_waysToBe_62 rfl ?_
            refine x_lv [3, 4, 1, 0] rfl ?_
            exact ih5 (s * (8 - (le i))) (i + 1) (by omega) (by rw [hs]; simp_all [wyx]) (by omega)
          · -- 42 F
            refine x_iload hC 0 rfl dX0_waysToBe_45 ?_
            refine x_i2l hC (v := (lN (le i))) (nI_l (by omega)) dX0_waysToBe_47 ?_
            refine x_goto hC 57 dX0_waysToBe_48 rfl ?_
            refine x_lmulE hC (z := (lN (s * (le i)))) (lN_mul _ _) dX0_waysToBe_57 ?_
            refine x_lstore_n hC [(2, .long (lN (s * (le i)))), (5, .int (nI (le i))), (0, .ref (a 1)), (1, .int (nI w)), (4, .int (nI i))] rfl (lt_n hn rfl) dX0_waysToBe_58 ?_
            refine x_iinc hC (z := 1) (v := (nI (i + 1))) 4 rfl (nI_add i 1) [(4, .int (nI (i + 1))), (2, .long (lN (s * (le i)))), (5, .int (nI (le i))), (0, .ref (a 1)), (1, .int (nI w))] rfl (lt_n hn rfl) dX0_waysToBe_59 ?_
            refine x_goto hC 5 dX0_waysToBe_62 rfl ?_
            refine x_lv [3, 4, 1, 0] rfl ?_
            exact ih5 (s * (le i)) (i + 1) (by omega) (by rw [hs]; simp_all [wyx]) (by omega)
  exact L5 _ 1 0 (Nat.lt_succ_self _) rfl (by omega)
set_option maxHeartbeats 4000000 in
set_option maxRecDepth 100000 in
theorem c_X0_mateOf {l : Launch} {D : va_G} {c : Nat → ClassId} {a : Nat → Nat} {μ : Me} {i m : Nat} (hm : μ 0 1 = nI m) (hmb : m < 2 ^ 31) (hi : i ≤ 14) : KI l D (tyE c) (xw c a) yX0_mateOf cX0_mateOf 4 .int (rmL 2) [.ref (a 1), .int (nI i)] μ (fun r u => ((bt m i ≠ 1 ∧ pc (nd (2 ^ i - 1) m) % 2 = 1 ∧ r = nI (mt m i)) ∨ (¬ (bt m i ≠ 1 ∧ pc (nd (2 ^ i - 1) m) % 2 = 1) ∧ r = zI (-1))) ∧ μ = u) := by
  refine x_enterI (by decide) (Nat.le_of_ble_eq_true rfl) (fun F hl hD hn hRm hC hR => ?_)
  subst hl hD
  change XW F 0 0 (xw c a μ) [(0, .ref (a 1)), (1, .int (nI i))] 0 []
  change FC F cX0_mateOf RX0 (tyE c) at hC
  refine x_aload_n hC 0 rfl dX0_mateOf_0 ?_
  refine x_iconst hC (v := (nI 1)) dX0_mateOf_1 rfl ?_
  refine x_iload_n hC 1 rfl dX0_mateOf_2 ?_
  refine x_ishlE hC (z := (nI (2 ^ i))) (nI_shl1 (by omega)) dX0_mateOf_3 ?_
  refine x_iconst hC (v := (nI 1)) dX0_mateOf_4 rfl ?_
  refine x_isubE hC (z := (nI ((2 ^ i) - 1))) (pk_sub (Nat.one_le_two_pow)) dX0_mateOf_5 ?_
  refine x_callVI hC cw_X0_23 (c_X0_open (w := ((2 ^ i) - 1)) (m := m) (by first | assumption | omega)) dX0_mateOf_6 [] rfl (Nat.le_of_ble_eq_true rfl) rfl (rm_ok hRm (by decide) (by decide)) 0 1 rfl rfl (fun r6 m6 hp6 => ?_)
  obtain ⟨rfl, rfl⟩ := hp6
  refine x_istore_n hC [(2, .int (nI (nd ((2 ^ i) - 1) m))), (0, .ref (a 1)), (1, .int (nI i))] rfl (lt_n hn rfl) dX0_mateOf_9 ?_
  refine x_aload_n hC 1 rfl dX0_mateOf_10 ?_
  refine x_iload_n hC 2 rfl dX0_mateOf_11 ?_
  refine x_callVI hC cw_X0_48 (c_X0_isMasked (i := i) (m := m) (by first | assumption | omega) (by first | assumption | omega) (by first | assumption | omega)) dX0_mateOf_12 [] rfl (Nat.le_of_ble_eq_true rfl) rfl (rm_ok hRm (by decide) (by decide)) 0 1 rfl rfl (fun r12 m12 hp12 => ?_)
  obtain ⟨rfl, rfl⟩ := hp12
  refine x_if_neB hC 32 dX0_mateOf_15 rfl (fun h15 => ?_) (fun h15 => ?_)
  · -- 15 T
    replace h15 := of_decide_eq_true h15
    refine x_iconst hC (v := (nI 0)) dX0_mateOf_32 rfl ?_
    refine x_istore_n hC [(3, .int (nI 0)), (2, .int (nI (nd ((2 ^ i) - 1) m))), (0, .ref (a 1)), (1, .int (nI i))] rfl (lt_n hn rfl) dX0_mateOf_33 ?_
    refine x_iload_n hC 0 rfl dX0_mateOf_34 ?_
    refine x_if_eq_T hC 48 dX0_mateOf_35 rfl (by decide) ?_
    refine x_iconst hC (v := (zI (-1))) dX0_mateOf_48 rfl ?_
    exact x_iret hC hR dX0_mateOf_49 (⟨by first | exact Or.inl ⟨h15, h25, rfl⟩ | exact Or.inr ⟨fun q => q.1 h15, rfl⟩ | exact Or.inr ⟨fun q => h25 q.2, rfl⟩, rfl⟩)
  · -- 15 F
    replace h15 := of_decide_eq_false h15
    refine x_iload_n hC 0 rfl dX0_mateOf_18 ?_
    refine x_callN hC cs_X0_31 (c_J6_bitCount_0f7a4 (w := (nd ((2 ^ i) - 1) m))  (ah_lt hi)) dX0_mateOf_19 [] rfl (Nat.le_of_ble_eq_true rfl) rfl (rm_ok hRm (by decide) (by decide)) ?_
    refine x_iconst hC (v := (nI 2)) dX0_mateOf_22 rfl ?_
    refine x_iremE hC (z := (nI ((pc (nd ((2 ^ i) - 1) m)) % 2))) (by decide) (pk_rem (by have := pc_le (nd (2 ^ i - 1) m); omega) (by decide) (by decide)) dX0_mateOf_23 ?_
    refine x_iconst hC (v := (nI 1)) dX0_mateOf_24 rfl ?_
    refine x_icmp_neN hC 32 dX0_mateOf_25 rfl (by omega) (by decide) (fun h25 => ?_) (fun h25 => ?_)
    · -- 25 T
      refine x_iconst hC (v := (nI 0)) dX0_mateOf_32 rfl ?_
      refine x_istore_n hC [(3, .int (nI 0)), (2, .int (nI (nd ((2 ^ i) - 1) m))), (0, .ref (a 1)), (1, .int (nI i))] rfl (lt_n hn rfl) dX0_mateOf_33 ?_
      refine x_iload_n hC 0 rfl dX0_mateOf_34 ?_
      refine x_if_eq_T hC 48 dX0_mateOf_35 rfl (by decide) ?_
      refine x_iconst hC (v := (zI (-1))) dX0_mateOf_48 rfl ?_
      exact x_iret hC hR dX0_mateOf_49 (⟨by first | exact Or.inl ⟨h15, h25, rfl⟩ | exact Or.inr ⟨fun q => q.1 h15, rfl⟩ | exact Or.inr ⟨fun q => h25 q.2, rfl⟩, rfl⟩)
    · -- 25 F
      refine x_iconst hC (v := (nI 1)) dX0_mateOf_28 rfl ?_
      refine x_goto hC 33 dX0_mateOf_29 rfl ?_
      refine x_istore_n hC [(3, .int (nI 1)), (2, .int (nI (nd ((2 ^ i) - 1) m))), (0, .ref (a 1)), (1, .int (nI i))] rfl (lt_n hn rfl) dX0_mateOf_33 ?_
      refine x_iload_n hC 0 rfl dX0_mateOf_34 ?_
      refine x_if_eq_F hC 48 dX0_mateOf_35 rfl (by decide) ?_
      refine x_bipush hC (v := (nI 31)) dX0_mateOf_38 rfl ?_
      refine x_iload_n hC 1 rfl dX0_mateOf_40 ?_
      refine x_callN hC cs_X0_58 (c_J6_numberOfLeadingZeros_0f7a4 (v := (nd ((2 ^ i) - 1) m))  (ah_pos h25) (ah_lt hi)) dX0_mateOf_41 [.int (nI 31)] rfl (Nat.le_of_ble_eq_true rfl) rfl (rm_ok hRm (by decide) (by decide)) ?_
      refine x_isubE hC (z := (nI (mt m i))) ((pk_sub (by omega)).trans (congrArg nI (show 31 - (31 - Nat.log2 (nd (2 ^ i - 1) m)) = mt m i by have := mt_lt h25; unfold mt at this ⊢; omega))) dX0_mateOf_44 ?_
      refine x_goto hC 49 dX0_mateOf_45 rfl ?_
      exact x_iret hC hR dX0_mateOf_49 (⟨by first | exact Or.inl ⟨h15, h25, rfl⟩ | exact Or.inr ⟨fun q => q.1 h15, rfl⟩ | exact Or.inr ⟨fun q => h25 q.2, rfl⟩, rfl⟩)
set_option maxHeartbeats 4000000 in
set_option maxRecDepth 100000 in
theorem c_X0_evenBitsLedByOne {l : Launch} {D : va_G} {c : Nat → ClassId} {a : Nat → Nat} {μ : Me} {w n m : Nat} (hn0 : μ 0 0 = nI n) (hm : μ 0 1 = nI m) (hmb : m < 2 ^ 31) (hb : n ≤ 14) (hw : w < 2 ^ 31) : KI l D (tyE c) (xw c a) yX0_evenBitsLedByOne cX0_evenBitsLedByOne 5 .int (rmL 3) [.ref (a 1), .int (nI w)] μ (fun r u => r = nI (evx m w n) ∧ μ = u) := by
  refine x_enterI (by decide) (Nat.le_of_ble_eq_true rfl) (fun F hl hD hn hRm hC hR => ?_)
  subst hl hD
  change XW F 0 0 (xw c a μ) [(0, .ref (a 1)), (1, .int (nI w))] 0 []
  change FC F cX0_evenBitsLedByOne RX0 (tyE c) at hC
  refine x_iconst hC (v := (nI 1)) dX0_evenBitsLedByOne_0 rfl ?_
  refine x_istore_n hC [(2, .int (nI 1)), (0, .ref (a 1)), (1, .int (nI w))] rfl (lt_n hn rfl) dX0_evenBitsLedByOne_1 ?_
  refine x_iconst hC (v := (nI 0)) dX0_evenBitsLedByOne_2 rfl ?_
  refine x_istore_n hC [(3, .int (nI 0)), (2, .int (nI 1)), (0, .ref (a 1)), (1, .int (nI w))] rfl (lt_n hn rfl) dX0_evenBitsLedByOne_3 ?_
  refine x_lv [2, 3, 1, 0] rfl ?_
  have L4 : ∀ (N4 : Nat) (s : Nat) (i : Nat), n - i < N4 → (s = evx m w i) → (i ≤ n) → XW F 0 0 (xw c a μ) [(0, .ref (a 1)), (1, .int (nI w)), (2, .int (nI s)), (3, .int (nI i))] 4 [] := by
    intro N4
    induction N4 with
    | zero => intro s i hN4 hs hi; exact absurd hN4 (by omega)
    | succ N4 ih4 =>
      intro s i hN4 hs hi
      refine x_iload_n hC 3 rfl dX0_evenBitsLedByOne_4 ?_
      refine x_aload_n hC 0 rfl dX0_evenBitsLedByOne_5 ?_
      refine x_get hC fl_X0_9 dX0_evenBitsLedByOne_6 1 rfl (v := .int (nI n)) (xv hn0) ?_
      refine x_icmp_geN hC 55 dX0_evenBitsLedByOne_9 rfl (by omega) (by omega) (fun h9 => ?_) (fun h9 => ?_)
      · -- 9 T
        refine x_iload_n hC 2 rfl dX0_evenBitsLedByOne_55 ?_
        exact x_iret hC hR dX0_evenBitsLedByOne_56 (⟨by rw [hs, show i = n by omega], rfl⟩)
      · -- 9 F
        refine x_aload_n hC 0 rfl dX0_evenBitsLedByOne_12 ?_
        refine x_iload_n hC 3 rfl dX0_evenBitsLedByOne_13 ?_
        refine x_callVI hC cw_X0_52 (c_X0_mateOf (i := i) (m := m) (by first | assumption | omega) (by first | assumption | omega) (by first | assumption | omega)) dX0_evenBitsLedByOne_14 [] rfl (Nat.le_of_ble_eq_true rfl) rfl (rm_ok hRm (by decide) (by decide)) 0 1 rfl rfl (fun r14 m14 hp14 => ?_)
        obtain ⟨hqhp14, rfl⟩ := hp14
        rcases hqhp14 with ⟨hma, hmb2, rfl⟩ | ⟨hma, rfl⟩
        · skip
          refine x_istore hC [(4, .int (nI (mt m i))), (0, .ref (a 1)), (1, .int (nI w)), (2, .int (nI s)), (3, .int (nI i))] rfl (lt_n hn rfl) dX0_evenBitsLedByOne_17 ?_
          refine x_iload hC 0 rfl dX0_evenBitsLedByOne_19 ?_
          refine x_if_lt_F hC 49 dX0_evenBitsLedByOne_21 rfl (by have := mt_lt hmb2; rw [i32_lt, i32_0, nI_toI (by omega)]; omega) ?_
          have hmt := mt_lt hmb2
          refine x_iload_n hC 2 rfl dX0_evenBitsLedByOne_24 ?_
          refine x_iload hC 0 rfl dX0_evenBitsLedByOne_25 ?_
          refine x_ishrE hC (z := (nI (w / 2 ^ (mt m i)))) (nI_shr (by omega) (by omega)) dX0_evenBitsLedByOne_27 ?_
          refine x_iconst hC (v := (nI 1)) dX0_evenBitsLedByOne_28 rfl ?_
          refine x_iandE hC (z := (nI (bt w (mt m i)))) (nI_and1 _) dX0_evenBitsLedByOne_29 ?_
          refine x_iload_n hC 2 rfl dX0_evenBitsLedByOne_30 ?_
          refine x_iload_n hC 4 rfl dX0_evenBitsLedByOne_31 ?_
          refine x_ishrE hC (z := (nI (w / 2 ^ i))) (nI_shr (by omega) (by omega)) dX0_evenBitsLedByOne_32 ?_
          refine x_iconst hC (v := (nI 1)) dX0_evenBitsLedByOne_33 rfl ?_
          refine x_iandE hC (z := (nI (bt w i))) (nI_and1 _) dX0_evenBitsLedByOne_34 ?_
          refine x_icmp_eqN hC 49 dX0_evenBitsLedByOne_35 rfl (by have := bt_lt w (mt m i); omega) (by have := bt_lt w i; omega) (fun h35 => ?_) (fun h35 => ?_)
          · -- 35 T
            refine x_iinc hC (z := 1) (v := (nI (i + 1))) 4 rfl (nI_add i 1) [(3, .int (nI (i + 1))), (4, .int (nI (mt m i))), (0, .ref (a 1)), (1, .int (nI w)), (2, .int (nI s))] rfl (lt_n hn rfl) dX0_evenBitsLedByOne_49 ?_
            refine x_goto hC 4 dX0_evenBitsLedByOne_52 rfl ?_
            refine x_lv [2, 3, 4, 0] rfl ?_
            exact ih4 s (i + 1) (by omega) (by rw [hs]; first | exact (if_pos ⟨hma, hmb2, h35⟩).symm | exact (if_neg (fun q => q.2.2 h35)).symm) (by omega)
          · -- 35 F
            refine x_iload_n hC 3 rfl dX0_evenBitsLedByOne_38 ?_
            refine x_iconst hC (v := (nI 1)) dX0_evenBitsLedByOne_39 rfl ?_
            refine x_ishlE hC (z := (nI (s * 2 ^ 1))) (nI_shl _ (by omega)) dX0_evenBitsLedByOne_40 ?_
            refine x_iload_n hC 2 rfl dX0_evenBitsLedByOne_41 ?_
            refine x_iload hC 0 rfl dX0_evenBitsLedByOne_42 ?_
            refine x_ishrE hC (z := (nI (w / 2 ^ (mt m i)))) (nI_shr (by omega) (by omega)) dX0_evenBitsLedByOne_44 ?_
            refine x_iconst hC (v := (nI 1)) dX0_evenBitsLedByOne_45 rfl ?_
            refine x_iandE hC (z := (nI (bt w (mt m i)))) (nI_and1 _) dX0_evenBitsLedByOne_46 ?_
            refine x_iorE hC (z := (nI ((s * 2 ^ 1) ||| (bt w (mt m i))))) (nI_or _ _) dX0_evenBitsLedByOne_47 ?_
            refine x_istore_n hC [(2, .int (nI ((s * 2 ^ 1) ||| (bt w (mt m i))))), (4, .int (nI (mt m i))), (0, .ref (a 1)), (1, .int (nI w)), (3, .int (nI i))] rfl (lt_n hn rfl) dX0_evenBitsLedByOne_48 ?_
            refine x_iinc hC (z := 1) (v := (nI (i + 1))) 4 rfl (nI_add i 1) [(3, .int (nI (i + 1))), (2, .int (nI ((s * 2 ^ 1) ||| (bt w (mt m i))))), (4, .int (nI (mt m i))), (0, .ref (a 1)), (1, .int (nI w))] rfl (lt_n hn rfl) dX0_evenBitsLedByOne_49 ?_
            refine x_goto hC 4 dX0_evenBitsLedByOne_52 rfl ?_
            refine x_lv [3, 4, 1, 0] rfl ?_
            exact ih4 ((s * 2 ^ 1) ||| (bt w (mt m i))) (i + 1) (by omega) (by rw [hs]; first | exact (if_pos ⟨hma, hmb2, h35⟩).symm | exact (if_neg (fun q => q.2.2 h35)).symm) (by omega)
        · skip
          refine x_istore hC [(4, .int (zI (-1))), (0, .ref (a 1)), (1, .int (nI w)), (2, .int (nI s)), (3, .int (nI i))] rfl (lt_n hn rfl) dX0_evenBitsLedByOne_17 ?_
          refine x_iload hC 0 rfl dX0_evenBitsLedByOne_19 ?_
          refine x_if_lt_T hC 49 dX0_evenBitsLedByOne_21 rfl (by decide) ?_
          refine x_iinc hC (z := 1) (v := (nI (i + 1))) 4 rfl (nI_add i 1) [(3, .int (nI (i + 1))), (4, .int (zI (-1))), (0, .ref (a 1)), (1, .int (nI w)), (2, .int (nI s))] rfl (lt_n hn rfl) dX0_evenBitsLedByOne_49 ?_
          refine x_goto hC 4 dX0_evenBitsLedByOne_52 rfl ?_
          refine x_lv [2, 3, 4, 0] rfl ?_
          exact ih4 s (i + 1) (by omega) (by rw [hs]; exact evx_n hma) (by omega)
  exact L4 _ 1 0 (Nat.lt_succ_self _) rfl (by omega)
set_option maxHeartbeats 4000000 in
set_option maxRecDepth 100000 in
theorem c_X0_expectedEvenBits {l : Launch} {D : va_G} {c : Nat → ClassId} {a : Nat → Nat} {μ : Me} {n m : Nat} {le : Nat → Nat} (hn0 : μ 0 0 = nI n) (hm : μ 0 1 = nI m) (hmb : m < 2 ^ 31) (hb : n ≤ 14) (h10 : ∀ j, j < 14 → μ 10 j = nI (le j)) (hl : ∀ j, j < 14 → le j ≤ 8) : KI l D (tyE c) (xw c a) yX0_expectedEvenBits cX0_expectedEvenBits 4 .int (rmL 3) [.ref (a 1)] μ (fun r u => r = nI (exx m le n) ∧ μ = u) := by
  refine x_enterI (by decide) (Nat.le_of_ble_eq_true rfl) (fun F hl hD hn hRm hC hR => ?_)
  subst hl hD
  change XW F 0 0 (xw c a μ) [(0, .ref (a 1))] 0 []
  change FC F cX0_expectedEvenBits RX0 (tyE c) at hC
  refine x_iconst hC (v := (nI 0)) dX0_expectedEvenBits_0 rfl ?_
  refine x_istore_n hC [(1, .int (nI 0)), (0, .ref (a 1))] rfl (lt_n hn rfl) dX0_expectedEvenBits_1 ?_
  refine x_iconst hC (v := (nI 0)) dX0_expectedEvenBits_2 rfl ?_
  refine x_istore_n hC [(2, .int (nI 0)), (1, .int (nI 0)), (0, .ref (a 1))] rfl (lt_n hn rfl) dX0_expectedEvenBits_3 ?_
  refine x_lv [2, 1, 0] rfl ?_
  have L4 : ∀ (N4 : Nat) (s : Nat) (i : Nat), n - i < N4 → (s = exx m le i) → (i ≤ n) → XW F 0 0 (xw c a μ) [(0, .ref (a 1)), (1, .int (nI s)), (2, .int (nI i))] 4 [] := by
    intro N4
    induction N4 with
    | zero => intro s i hN4 hs hi; exact absurd hN4 (by omega)
    | succ N4 ih4 =>
      intro s i hN4 hs hi
      refine x_iload_n hC 2 rfl dX0_expectedEvenBits_4 ?_
      refine x_aload_n hC 0 rfl dX0_expectedEvenBits_5 ?_
      refine x_get hC fl_X0_9 dX0_expectedEvenBits_6 1 rfl (v := .int (nI n)) (xv hn0) ?_
      refine x_icmp_geN hC 50 dX0_expectedEvenBits_9 rfl (by omega) (by omega) (fun h9 => ?_) (fun h9 => ?_)
      · -- 9 T
        refine x_iload_n hC 1 rfl dX0_expectedEvenBits_50 ?_
        exact x_iret hC hR dX0_expectedEvenBits_51 (⟨by rw [hs, show i = n by omega], rfl⟩)
      · -- 9 F
        refine x_aload_n hC 0 rfl dX0_expectedEvenBits_12 ?_
        refine x_iload_n hC 2 rfl dX0_expectedEvenBits_13 ?_
        refine x_callVI hC cw_X0_52 (c_X0_mateOf (i := i) (m := m) (by first | assumption | omega) (by first | assumption | omega) (by first | assumption | omega)) dX0_expectedEvenBits_14 [] rfl (Nat.le_of_ble_eq_true rfl) rfl (rm_ok hRm (by decide) (by decide)) 0 1 rfl rfl (fun r14 m14 hp14 => ?_)
        obtain ⟨hqhp14, rfl⟩ := hp14
        rcases hqhp14 with ⟨hma, hmb2, rfl⟩ | ⟨hma, rfl⟩
        · skip
          refine x_istore_n hC [(3, .int (nI (mt m i))), (0, .ref (a 1)), (1, .int (nI s)), (2, .int (nI i))] rfl (lt_n hn rfl) dX0_expectedEvenBits_17 ?_
          refine x_iload_n hC 0 rfl dX0_expectedEvenBits_18 ?_
          refine x_if_lt_F hC 44 dX0_expectedEvenBits_19 rfl (by have := mt_lt hmb2; rw [i32_lt, i32_0, nI_toI (by omega)]; omega) ?_
          have hmt := mt_lt hmb2
          refine x_iload_n hC 2 rfl dX0_expectedEvenBits_22 ?_
          refine x_aload_n hC 1 rfl dX0_expectedEvenBits_23 ?_
          refine x_get hC fl_X0_20 dX0_expectedEvenBits_24 1 rfl rfl ?_
          refine x_iconst hC (v := (nI 2)) dX0_expectedEvenBits_27 rfl ?_
          refine x_aald hC 7 3 rfl rfl (y := a 10) (by decide) (by decide) (by rfl) dX0_expectedEvenBits_28 ?_
          refine x_iload_n hC 0 rfl dX0_expectedEvenBits_29 ?_
          refine x_iald hC 10 0 rfl rfl (y := (nI (le (mt m i)))) (by omega) (by decide) (h10 (mt m i) (by omega)) dX0_expectedEvenBits_30 ?_
          refine x_aload_n hC 1 rfl dX0_expectedEvenBits_31 ?_
          refine x_get hC fl_X0_20 dX0_expectedEvenBits_32 1 rfl rfl ?_
          refine x_iconst hC (v := (nI 2)) dX0_expectedEvenBits_35 rfl ?_
          refine x_aald hC 7 3 rfl rfl (y := a 10) (by decide) (by decide) (by rfl) dX0_expectedEvenBits_36 ?_
          refine x_iload_n hC 3 rfl dX0_expectedEvenBits_37 ?_
          refine x_iald hC 10 0 rfl rfl (y := (nI (le i))) (by omega) (by decide) (h10 i (by omega)) dX0_expectedEvenBits_38 ?_
          refine x_callN hC cs_X0_55 (c_X0_expectedOfTwo (p := (le (mt m i))) (q := (le i))  (hl _ (by omega)) (hl _ (by omega))) dX0_expectedEvenBits_39 [.int (nI s)] rfl (Nat.le_of_ble_eq_true rfl) rfl (rm_ok hRm (by decide) (by decide)) ?_
          refine x_iaddE hC (z := (nI (s + ((le (mt m i)) * (8 - (le i)) + (8 - (le (mt m i))) * (le i))))) (nI_add _ _) dX0_expectedEvenBits_42 ?_
          refine x_istore_n hC [(1, .int (nI (s + ((le (mt m i)) * (8 - (le i)) + (8 - (le (mt m i))) * (le i))))), (3, .int (nI (mt m i))), (0, .ref (a 1)), (2, .int (nI i))] rfl (lt_n hn rfl) dX0_expectedEvenBits_43 ?_
          refine x_iinc hC (z := 1) (v := (nI (i + 1))) 3 rfl (nI_add i 1) [(2, .int (nI (i + 1))), (1, .int (nI (s + ((le (mt m i)) * (8 - (le i)) + (8 - (le (mt m i))) * (le i))))), (3, .int (nI (mt m i))), (0, .ref (a 1))] rfl (lt_n hn rfl) dX0_expectedEvenBits_44 ?_
          refine x_goto hC 4 dX0_expectedEvenBits_47 rfl ?_
          refine x_lv [3, 1, 0] rfl ?_
          exact ih4 (s + ((le (mt m i)) * (8 - (le i)) + (8 - (le (mt m i))) * (le i))) (i + 1) (by omega) (by rw [hs]; first | exact (if_pos ⟨hma, hmb2⟩).symm | exact (if_neg hma).symm) (by omega)
        · skip
          refine x_istore_n hC [(3, .int (zI (-1))), (0, .ref (a 1)), (1, .int (nI s)), (2, .int (nI i))] rfl (lt_n hn rfl) dX0_expectedEvenBits_17 ?_
          refine x_iload_n hC 0 rfl dX0_expectedEvenBits_18 ?_
          refine x_if_lt_T hC 44 dX0_expectedEvenBits_19 rfl (by decide) ?_
          refine x_iinc hC (z := 1) (v := (nI (i + 1))) 3 rfl (nI_add i 1) [(2, .int (nI (i + 1))), (3, .int (zI (-1))), (0, .ref (a 1)), (1, .int (nI s))] rfl (lt_n hn rfl) dX0_expectedEvenBits_44 ?_
          refine x_goto hC 4 dX0_expectedEvenBits_47 rfl ?_
          refine x_lv [2, 3, 0] rfl ?_
          exact ih4 s (i + 1) (by omega) (by rw [hs]; first | exact (if_pos ⟨hma, hmb2⟩).symm | exact (if_neg hma).symm) (by omega)
  exact L4 _ 0 0 (Nat.lt_succ_self _) rfl (by omega)
set_option maxHeartbeats 4000000 in
set_option maxRecDepth 100000 in
theorem c_X0_change {l : Launch} {D : va_G} {c : Nat → ClassId} {a : Nat → Nat} {μ : Me} {i t v : Nat} (hi : i < 14) (ht : t < 3) : KI l D (tyE c) (xw c a) yX0_change cX0_change 5 .int (rmL 1) [.ref (a 1), .int (nI i), .int (nI t), .int (nI v)] μ (fun r u => r = μ (8 + t) i ∧ u = up μ (8 + t) i (nI v)) := by
  refine x_enterI (by decide) (Nat.le_of_ble_eq_true rfl) (fun F hl hD hn hRm hC hR => ?_)
  subst hl hD
  change XW F 0 0 (xw c a μ) [(0, .ref (a 1)), (1, .int (nI i)), (2, .int (nI t)), (3, .int (nI v))] 0 []
  change FC F cX0_change RX0 (tyE c) at hC
  obtain rfl | rfl | rfl : t = 0 ∨ t = 1 ∨ t = 2 := by omega
  · skip
    refine x_aload_n hC 0 rfl dX0_change_0 ?_
    refine x_get hC fl_X0_20 dX0_change_1 1 rfl rfl ?_
    refine x_iload_n hC 2 rfl dX0_change_4 ?_
    refine x_aald hC 7 3 rfl rfl (y := a 8) (by decide) (by decide) (by rfl) dX0_change_5 ?_
    refine x_iload_n hC 1 rfl dX0_change_6 ?_
    refine x_iald hC 8 0 rfl rfl (y := (μ 8 i)) (by omega) (by decide) (rfl) dX0_change_7 ?_
    refine x_istore hC [(4, .int (μ 8 i)), (0, .ref (a 1)), (1, .int (nI i)), (2, .int (nI 0)), (3, .int (nI v))] rfl (lt_n hn rfl) dX0_change_8 ?_
    refine x_aload_n hC 1 rfl dX0_change_10 ?_
    refine x_get hC fl_X0_20 dX0_change_11 1 rfl rfl ?_
    refine x_iload_n hC 3 rfl dX0_change_14 ?_
    refine x_aald hC 7 3 rfl rfl (y := a 8) (by decide) (by decide) (by rfl) dX0_change_15 ?_
    refine x_iload_n hC 2 rfl dX0_change_16 ?_
    refine x_iload_n hC 4 rfl dX0_change_17 ?_
    refine x_iast hC 8 0 rfl rfl (by omega) (by decide) (xw c a (up μ 8 i (nI v))) rfl dX0_change_18 ?_
    refine x_iload hC 0 rfl dX0_change_19 ?_
    exact x_iret hC hR dX0_change_21 (⟨rfl, rfl⟩)
  · skip
    refine x_aload_n hC 0 rfl dX0_change_0 ?_
    refine x_get hC fl_X0_20 dX0_change_1 1 rfl rfl ?_
    refine x_iload_n hC 2 rfl dX0_change_4 ?_
    refine x_aald hC 7 3 rfl rfl (y := a 9) (by decide) (by decide) (by rfl) dX0_change_5 ?_
    refine x_iload_n hC 1 rfl dX0_change_6 ?_
    refine x_iald hC 9 0 rfl rfl (y := (μ 9 i)) (by omega) (by decide) (rfl) dX0_change_7 ?_
    refine x_istore hC [(4, .int (μ 9 i)), (0, .ref (a 1)), (1, .int (nI i)), (2, .int (nI 1)), (3, .int (nI v))] rfl (lt_n hn rfl) dX0_change_8 ?_
    refine x_aload_n hC 1 rfl dX0_change_10 ?_
    refine x_get hC fl_X0_20 dX0_change_11 1 rfl rfl ?_
    refine x_iload_n hC 3 rfl dX0_change_14 ?_
    refine x_aald hC 7 3 rfl rfl (y := a 9) (by decide) (by decide) (by rfl) dX0_change_15 ?_
    refine x_iload_n hC 2 rfl dX0_change_16 ?_
    refine x_iload_n hC 4 rfl dX0_change_17 ?_
    refine x_iast hC 9 0 rfl rfl (by omega) (by decide) (xw c a (up μ 9 i (nI v))) rfl dX0_change_18 ?_
    refine x_iload hC 0 rfl dX0_change_19 ?_
    exact x_iret hC hR dX0_change_21 (⟨rfl, rfl⟩)
  · skip
    refine x_aload_n hC 0 rfl dX0_change_0 ?_
    refine x_get hC fl_X0_20 dX0_change_1 1 rfl rfl ?_
    refine x_iload_n hC 2 rfl dX0_change_4 ?_
    refine x_aald hC 7 3 rfl rfl (y := a 10) (by decide) (by decide) (by rfl) dX0_change_5 ?_
    refine x_iload_n hC 1 rfl dX0_change_6 ?_
    refine x_iald hC 10 0 rfl rfl (y := (μ 10 i)) (by omega) (by decide) (rfl) dX0_change_7 ?_
    refine x_istore hC [(4, .int (μ 10 i)), (0, .ref (a 1)), (1, .int (nI i)), (2, .int (nI 2)), (3, .int (nI v))] rfl (lt_n hn rfl) dX0_change_8 ?_
    refine x_aload_n hC 1 rfl dX0_change_10 ?_
    refine x_get hC fl_X0_20 dX0_change_11 1 rfl rfl ?_
    refine x_iload_n hC 3 rfl dX0_change_14 ?_
    refine x_aald hC 7 3 rfl rfl (y := a 10) (by decide) (by decide) (by rfl) dX0_change_15 ?_
    refine x_iload_n hC 2 rfl dX0_change_16 ?_
    refine x_iload_n hC 4 rfl dX0_change_17 ?_
    refine x_iast hC 10 0 rfl rfl (by omega) (by decide) (xw c a (up μ 10 i (nI v))) rfl dX0_change_18 ?_
    refine x_iload hC 0 rfl dX0_change_19 ?_
    exact x_iret hC hR dX0_change_21 (⟨rfl, rfl⟩)
end
section
/-! Chips -/
def mrow (f : Nat → Nat) (x : Nat) : Nat → Nat
  | 0 => x
  | b + 1 => min (mrow f x b) (f b)
def mall (d : Nat → Nat → Nat) (x : Nat) : Nat → Nat
  | 0 => x
  | a + 1 => mrow (d a) (mall d x a) a
/-- the least one is by 3 below every other -/
def lone (d : Nat → Nat) (m : Nat) : Bool := decide (0 < m) && allN (fun j => decide (j = amin d m ∨ d (amin d m) + 3 ≤ d j)) m
theorem allN_F {p : Nat → Bool} {m i : Nat} (hi : i < m) (h : p i = false) : allN p m = false := by
  cases hq : allN p m with
  | false => rfl
  | true => rw [allN_iff.mp hq i hi] at h; cases h
theorem mrow_le (f : Nat → Nat) (x : Nat) : ∀ j, mrow f x j ≤ x
  | 0 => Nat.le_refl _
  | j + 1 => Nat.le_trans (Nat.min_le_left _ _) (mrow_le f x j)
theorem mall_le (d : Nat → Nat → Nat) (x : Nat) : ∀ j, mall d x j ≤ x
  | 0 => Nat.le_refl _
  | j + 1 => Nat.le_trans (mrow_le _ _ _) (mall_le d x j)
theorem and_lt14 {a b : Nat} (h : b < 16384) : a &&& b < 16384 := Nat.and_lt_two_pow a (n := 14) h

set_option maxHeartbeats 4000000 in
set_option maxRecDepth 100000 in
theorem c_X1_isChip {l : Launch} {D : va_G} {c : Nat → ClassId} {a : Nat → Nat} {μ : Me} {x : Int32} {m : Nat} (h3 : μ 0 3 = nI m) (hm : m ≤ 8) : KI l D (tyE c) (xw c a) yX1_isChip cX1_isChip 2 .boolean (rmL 1) [.ref (a 3), .int x] μ (fun r u => r = bz (isI m x) ∧ μ = u) := by
  refine x_enterI (by decide) (Nat.le_of_ble_eq_true rfl) (fun F hl hD hn hRm hC hR => ?_)
  subst hl hD
  change XW F 0 0 (xw c a μ) [(0, .ref (a 3)), (1, .int x)] 0 []
  change FC F cX1_isChip RX1 (tyE c) at hC
  refine x_iload_n hC 1 rfl dX1_isChip_0 ?_
  refine x_if_lt hC 16 dX1_isChip_1 rfl (fun h1 => ?_) (fun h1 => ?_)
  · -- 1 T
    refine x_iconst hC (v := (nI 0)) dX1_isChip_16 rfl ?_
    exact x_zret hC hR dX1_isChip_17 rfl (⟨by first | exact isI_f0 h1 | exact isI_f1 (by omega) h9 | exact isI_t1 (by omega) h1 h9, rfl⟩)
  · -- 1 F
    refine x_iload_n hC 1 rfl dX1_isChip_4 ?_
    refine x_aload_n hC 0 rfl dX1_isChip_5 ?_
    refine x_get hC fl_X1_7 dX1_isChip_6 3 rfl (v := .int (nI m)) (xv h3) ?_
    refine x_icmp_ge hC 16 dX1_isChip_9 rfl (fun h9 => ?_) (fun h9 => ?_)
    · -- 9 T
      refine x_iconst hC (v := (nI 0)) dX1_isChip_16 rfl ?_
      exact x_zret hC hR dX1_isChip_17 rfl (⟨by first | exact isI_f0 h1 | exact isI_f1 (by omega) h9 | exact isI_t1 (by omega) h1 h9, rfl⟩)
    · -- 9 F
      refine x_iconst hC (v := (nI 1)) dX1_isChip_12 rfl ?_
      refine x_goto hC 17 dX1_isChip_13 rfl ?_
      exact x_zret hC hR dX1_isChip_17 rfl (⟨by first | exact isI_f0 h1 | exact isI_f1 (by omega) h9 | exact isI_t1 (by omega) h1 h9, rfl⟩)
set_option maxHeartbeats 4000000 in
set_option maxRecDepth 100000 in
theorem c_X1_add {l : Launch} {D : va_G} {c : Nat → ClassId} {a : Nat → Nat} {μ : Me} {w m : Nat} (h3 : μ 0 3 = nI m) (hm : m < 8) : KI l D (tyE c) (xw c a) yX1_add cX1_add 3 .int (rmL 1) [.ref (a 3), .int (nI w)] μ (fun r u => r = nI m ∧ u = up (up (up μ 12 m (nI w)) 13 m (nI 0)) 0 3 (nI (m + 1))) := by
  refine x_enterI (by decide) (Nat.le_of_ble_eq_true rfl) (fun F hl hD hn hRm hC hR => ?_)
  subst hl hD
  change XW F 0 0 (xw c a μ) [(0, .ref (a 3)), (1, .int (nI w))] 0 []
  change FC F cX1_add RX1 (tyE c) at hC
  refine x_aload_n hC 0 rfl dX1_add_0 ?_
  refine x_get hC fl_X1_7 dX1_add_1 3 rfl (v := .int (nI m)) (xv h3) ?_
  refine x_istore_n hC [(2, .int (nI m)), (0, .ref (a 3)), (1, .int (nI w))] rfl (lt_n hn rfl) dX1_add_4 ?_
  refine x_iload_n hC 0 rfl dX1_add_5 ?_
  refine x_bipush hC (v := (nI 8)) dX1_add_6 rfl ?_
  refine x_icmp_geN hC 35 dX1_add_8 rfl (by omega) (by decide) (fun h8 => ?_) (fun h8 => ?_)
  · -- 8 T
    exact absurd h8 (by omega)
  · -- 8 F
    refine x_aload_n hC 1 rfl dX1_add_11 ?_
    refine x_get hC fl_X1_13 dX1_add_12 3 rfl rfl ?_
    refine x_iload_n hC 0 rfl dX1_add_15 ?_
    refine x_iload_n hC 2 rfl dX1_add_16 ?_
    refine x_iast hC 12 0 rfl rfl (by omega) (by decide) (xw c a (up μ 12 m (nI w))) rfl dX1_add_17 ?_
    refine x_aload_n hC 1 rfl dX1_add_18 ?_
    refine x_get hC fl_X1_17 dX1_add_19 3 rfl rfl ?_
    refine x_iload_n hC 0 rfl dX1_add_22 ?_
    refine x_iconst hC (v := (nI 0)) dX1_add_23 rfl ?_
    refine x_zast hC 13 1 rfl rfl (by omega) (by decide) rfl (xw c a (up (up μ 12 m (nI w)) 13 m (nI 0))) rfl dX1_add_24 ?_
    refine x_aload_n hC 1 rfl dX1_add_25 ?_
    refine x_dup hC rfl dX1_add_26 ?_
    refine x_get hC fl_X1_7 dX1_add_27 3 rfl (v := .int (nI m)) (xv h3) ?_
    refine x_iconst hC (v := (nI 1)) dX1_add_30 rfl ?_
    refine x_iaddE hC (z := (nI (m + 1))) (nI_add _ _) dX1_add_31 ?_
    refine x_put hC fp_X1_7 dX1_add_32 3 rfl rfl rfl (Nat.le_of_ble_eq_true rfl) (xw c a (up (up (up μ 12 m (nI w)) 13 m (nI 0)) 0 3 (nI (m + 1)))) rfl ?_
    refine x_iload_n hC 0 rfl dX1_add_35 ?_
    exact x_iret hC hR dX1_add_36 (⟨rfl, rfl⟩)
set_option maxHeartbeats 4000000 in
set_option maxRecDepth 100000 in
theorem c_X1_dropAll {l : Launch} {D : va_G} {c : Nat → ClassId} {a : Nat → Nat} {μ : Me}  : KV l D (tyE c) (xw c a) yX1_dropAll cX1_dropAll 1 (rmL 1) [.ref (a 3)] μ (fun u => u = up μ 0 3 (nI 0)) := by
  refine x_enterV (by decide) (Nat.le_of_ble_eq_true rfl) (fun F hl hD hn hRm hC hR => ?_)
  subst hl hD
  change XW F 0 0 (xw c a μ) [(0, .ref (a 3))] 0 []
  change FC F cX1_dropAll RX1 (tyE c) at hC
  refine x_aload_n hC 0 rfl dX1_dropAll_0 ?_
  refine x_iconst hC (v := (nI 0)) dX1_dropAll_1 rfl ?_
  refine x_put hC fp_X1_7 dX1_dropAll_2 3 rfl rfl rfl (Nat.le_of_ble_eq_true rfl) (xw c a (up μ 0 3 (nI 0))) rfl ?_
  exact x_vret hC hR dX1_dropAll_5 (rfl)
set_option maxHeartbeats 4000000 in
set_option maxRecDepth 100000 in
theorem c_X1_giveHelp {l : Launch} {D : va_G} {c : Nat → ClassId} {a : Nat → Nat} {μ : Me} {i w k : Nat} (hi : i < 8) : KV l D (tyE c) (xw c a) yX1_giveHelp cX1_giveHelp 4 (rmL 1) [.ref (a 3), .int (nI i), .int (nI w), .int (nI k)] μ (fun u => u = up (up (up μ 13 i (nI 1)) 14 i (nI w)) 15 i (nI k)) := by
  refine x_enterV (by decide) (Nat.le_of_ble_eq_true rfl) (fun F hl hD hn hRm hC hR => ?_)
  subst hl hD
  change XW F 0 0 (xw c a μ) [(0, .ref (a 3)), (1, .int (nI i)), (2, .int (nI w)), (3, .int (nI k))] 0 []
  change FC F cX1_giveHelp RX1 (tyE c) at hC
  refine x_aload_n hC 0 rfl dX1_giveHelp_0 ?_
  refine x_get hC fl_X1_17 dX1_giveHelp_1 3 rfl rfl ?_
  refine x_iload_n hC 1 rfl dX1_giveHelp_4 ?_
  refine x_iconst hC (v := (nI 1)) dX1_giveHelp_5 rfl ?_
  refine x_zast hC 13 1 rfl rfl (by omega) (by decide) rfl (xw c a (up μ 13 i (nI 1))) rfl dX1_giveHelp_6 ?_
  refine x_aload_n hC 0 rfl dX1_giveHelp_7 ?_
  refine x_get hC fl_X1_21 dX1_giveHelp_8 3 rfl rfl ?_
  refine x_iload_n hC 1 rfl dX1_giveHelp_11 ?_
  refine x_iload_n hC 2 rfl dX1_giveHelp_12 ?_
  refine x_iast hC 14 0 rfl rfl (by omega) (by decide) (xw c a (up (up μ 13 i (nI 1)) 14 i (nI w))) rfl dX1_giveHelp_13 ?_
  refine x_aload_n hC 0 rfl dX1_giveHelp_14 ?_
  refine x_get hC fl_X1_24 dX1_giveHelp_15 3 rfl rfl ?_
  refine x_iload_n hC 1 rfl dX1_giveHelp_18 ?_
  refine x_iload_n hC 3 rfl dX1_giveHelp_19 ?_
  refine x_iast hC 15 0 rfl rfl (by omega) (by decide) (xw c a (up (up (up μ 13 i (nI 1)) 14 i (nI w)) 15 i (nI k))) rfl dX1_giveHelp_20 ?_
  exact x_vret hC hR dX1_giveHelp_21 (rfl)
set_option maxHeartbeats 4000000 in
set_option maxRecDepth 100000 in
theorem c_X1_dropHelp {l : Launch} {D : va_G} {c : Nat → ClassId} {a : Nat → Nat} {μ : Me} {m : Nat} (h3 : μ 0 3 = nI m) (hm : m ≤ 8) : KV l D (tyE c) (xw c a) yX1_dropHelp cX1_dropHelp 2 (rmL 1) [.ref (a 3)] μ (fun u => ∃ f, u = setc μ 13 f ∧ ∀ j, j < m → f j = nI 0) := by
  refine x_enterV (by decide) (Nat.le_of_ble_eq_true rfl) (fun F hl hD hn hRm hC hR => ?_)
  subst hl hD
  change XW F 0 0 (xw c a μ) [(0, .ref (a 3))] 0 []
  change FC F cX1_dropHelp RX1 (tyE c) at hC
  refine x_iconst hC (v := (nI 0)) dX1_dropHelp_0 rfl ?_
  refine x_istore_n hC [(1, .int (nI 0)), (0, .ref (a 3))] rfl (lt_n hn rfl) dX1_dropHelp_1 ?_
  refine x_lv [1, 0] rfl ?_
  have L2 : ∀ (N2 : Nat) (f : Nat → Int32) (i : Nat), m - i < N2 → (i ≤ m) → (∀ j, j < i → f j = nI 0) → XW F 0 0 (xw c a (setc μ 13 f)) [(0, .ref (a 3)), (1, .int (nI i))] 2 [] := by
    intro N2
    induction N2 with
    | zero => intro f i hN2 hi hf; exact absurd hN2 (by omega)
    | succ N2 ih2 =>
      intro f i hN2 hi hf
      refine x_iload_n hC 1 rfl dX1_dropHelp_2 ?_
      refine x_aload_n hC 0 rfl dX1_dropHelp_3 ?_
      refine x_get hC fl_X1_7 dX1_dropHelp_4 3 rfl (v := .int (nI m)) (xv h3) ?_
      refine x_icmp_geN hC 23 dX1_dropHelp_7 rfl (by omega) (by omega) (fun h7 => ?_) (fun h7 => ?_)
      · -- 7 T
        exact x_vret hC hR dX1_dropHelp_23 (⟨f, rfl, fun j h => hf j (by omega)⟩)
      · -- 7 F
        refine x_aload_n hC 0 rfl dX1_dropHelp_10 ?_
        refine x_get hC fl_X1_17 dX1_dropHelp_11 3 rfl rfl ?_
        refine x_iload_n hC 1 rfl dX1_dropHelp_14 ?_
        refine x_iconst hC (v := (nI 0)) dX1_dropHelp_15 rfl ?_
        refine x_zast hC 13 1 rfl rfl (by omega) (by decide) rfl (xw c a (setc μ 13 (upd f i (nI 0)))) rfl dX1_dropHelp_16 ?_
        refine x_iinc hC (z := 1) (v := (nI (i + 1))) 1 rfl (nI_add i 1) [(1, .int (nI (i + 1))), (0, .ref (a 3))] rfl (lt_n hn rfl) dX1_dropHelp_17 ?_
        refine x_goto hC 2 dX1_dropHelp_20 rfl ?_
        refine x_lv [1, 0] rfl ?_
        exact ih2 (upd f i (nI 0)) (i + 1) (by omega) (by omega) (fun j h => by by_cases q : j = i <;> simp [upd, q, hf j] <;> exact hf j (by omega))
  exact L2 _ (μ 13) 0 (Nat.lt_succ_self _) (by omega) (fun j h => absurd h (by omega))
set_option maxHeartbeats 4000000 in
set_option maxRecDepth 100000 in
theorem c_X1_withHelp {l : Launch} {D : va_G} {c : Nat → ClassId} {a : Nat → Nat} {μ : Me} {m : Nat} {hp : Nat → Bool} (h3 : μ 0 3 = nI m) (hm : m ≤ 8) (h13 : ∀ j, j < m → μ 13 j = bz (hp j)) : KI l D (tyE c) (xw c a) yX1_withHelp cX1_withHelp 3 .int (rmL 1) [.ref (a 3)] μ (fun r u => r = nI (sumN (fun j => if hp j then 1 else 0) m) ∧ μ = u) := by
  refine x_enterI (by decide) (Nat.le_of_ble_eq_true rfl) (fun F hl hD hn hRm hC hR => ?_)
  subst hl hD
  change XW F 0 0 (xw c a μ) [(0, .ref (a 3))] 0 []
  change FC F cX1_withHelp RX1 (tyE c) at hC
  refine x_iconst hC (v := (nI 0)) dX1_withHelp_0 rfl ?_
  refine x_istore_n hC [(1, .int (nI 0)), (0, .ref (a 3))] rfl (lt_n hn rfl) dX1_withHelp_1 ?_
  refine x_iconst hC (v := (nI 0)) dX1_withHelp_2 rfl ?_
  refine x_istore_n hC [(2, .int (nI 0)), (1, .int (nI 0)), (0, .ref (a 3))] rfl (lt_n hn rfl) dX1_withHelp_3 ?_
  refine x_lv [2, 1, 0] rfl ?_
  have L4 : ∀ (N4 : Nat) (s : Nat) (i : Nat), m - i < N4 → (s = sumN (fun j => if hp j then 1 else 0) i) → (i ≤ m) → XW F 0 0 (xw c a μ) [(0, .ref (a 3)), (1, .int (nI s)), (2, .int (nI i))] 4 [] := by
    intro N4
    induction N4 with
    | zero => intro s i hN4 hs hi; exact absurd hN4 (by omega)
    | succ N4 ih4 =>
      intro s i hN4 hs hi
      refine x_iload_n hC 2 rfl dX1_withHelp_4 ?_
      refine x_aload_n hC 0 rfl dX1_withHelp_5 ?_
      refine x_get hC fl_X1_7 dX1_withHelp_6 3 rfl (v := .int (nI m)) (xv h3) ?_
      refine x_icmp_geN hC 35 dX1_withHelp_9 rfl (by omega) (by omega) (fun h9 => ?_) (fun h9 => ?_)
      · -- 9 T
        refine x_iload_n hC 1 rfl dX1_withHelp_35 ?_
        exact x_iret hC hR dX1_withHelp_36 (⟨by rw [hs, show i = m by omega], rfl⟩)
      · -- 9 F
        refine x_iload_n hC 1 rfl dX1_withHelp_12 ?_
        refine x_aload_n hC 0 rfl dX1_withHelp_13 ?_
        refine x_get hC fl_X1_17 dX1_withHelp_14 3 rfl rfl ?_
        refine x_iload_n hC 2 rfl dX1_withHelp_17 ?_
        refine x_zald hC 13 1 rfl rfl (y := (bz (hp i))) (by omega) (by decide) (h13 i (by omega)) dX1_withHelp_18 ?_
        refine x_if_eqB hC 26 dX1_withHelp_19 rfl (fun h19 => ?_) (fun h19 => ?_)
        · -- 19 T
          refine x_iconst hC (v := (nI 0)) dX1_withHelp_26 rfl ?_
          refine x_iaddE hC (z := (nI (s + 0))) (nI_add _ _) dX1_withHelp_27 ?_
          refine x_istore_n hC [(1, .int (nI (s + 0))), (0, .ref (a 3)), (2, .int (nI i))] rfl (lt_n hn rfl) dX1_withHelp_28 ?_
          refine x_iinc hC (z := 1) (v := (nI (i + 1))) 2 rfl (nI_add i 1) [(2, .int (nI (i + 1))), (1, .int (nI (s + 0))), (0, .ref (a 3))] rfl (lt_n hn rfl) dX1_withHelp_29 ?_
          refine x_goto hC 4 dX1_withHelp_32 rfl ?_
          refine x_lv [2, 1, 0] rfl ?_
          exact ih4 (s + 0) (i + 1) (by omega) (by rw [hs]; simp [sumN, h19]) (by omega)
        · -- 19 F
          refine x_iconst hC (v := (nI 1)) dX1_withHelp_22 rfl ?_
          refine x_goto hC 27 dX1_withHelp_23 rfl ?_
          refine x_iaddE hC (z := (nI (s + 1))) (nI_add _ _) dX1_withHelp_27 ?_
          refine x_istore_n hC [(1, .int (nI (s + 1))), (0, .ref (a 3)), (2, .int (nI i))] rfl (lt_n hn rfl) dX1_withHelp_28 ?_
          refine x_iinc hC (z := 1) (v := (nI (i + 1))) 2 rfl (nI_add i 1) [(2, .int (nI (i + 1))), (1, .int (nI (s + 1))), (0, .ref (a 3))] rfl (lt_n hn rfl) dX1_withHelp_29 ?_
          refine x_goto hC 4 dX1_withHelp_32 rfl ?_
          refine x_lv [2, 1, 0] rfl ?_
          exact ih4 (s + 1) (i + 1) (by omega) (by rw [hs]; simp [sumN, h19]) (by omega)
  exact L4 _ 0 0 (Nat.lt_succ_self _) rfl (by omega)
set_option maxHeartbeats 4000000 in
set_option maxRecDepth 100000 in
theorem c_X1_nearest {l : Launch} {D : va_G} {c : Nat → ClassId} {a : Nat → Nat} {μ : Me} {w op m : Nat} {nm : Nat → Nat} (h3 : μ 0 3 = nI m) (hm : m ≤ 8) (h12 : ∀ j, j < m → μ 12 j = nI (nm j)) (hw : w < 16384) (ho : op < 16384) : KI l D (tyE c) (xw c a) yX1_nearest cX1_nearest 7 .int (rmL 2) [.ref (a 3), .int (nI w), .int (nI op)] μ (fun r u => ((m = 0 ∧ r = zI (-1)) ∨ (0 < m ∧ r = nI (amin (fun j => pc ((nm j ^^^ w) &&& op)) m))) ∧ μ = u) := by
  refine x_enterI (by decide) (Nat.le_of_ble_eq_true rfl) (fun F hl hD hn hRm hC hR => ?_)
  subst hl hD
  change XW F 0 0 (xw c a μ) [(0, .ref (a 3)), (1, .int (nI w)), (2, .int (nI op))] 0 []
  change FC F cX1_nearest RX1 (tyE c) at hC
  refine x_iconst hC (v := (zI (-1))) dX1_nearest_0 rfl ?_
  refine x_istore_n hC [(3, .int (zI (-1))), (0, .ref (a 3)), (1, .int (nI w)), (2, .int (nI op))] rfl (lt_n hn rfl) dX1_nearest_1 ?_
  refine x_iconst hC (v := (nI 0)) dX1_nearest_2 rfl ?_
  refine x_istore hC [(4, .int (nI 0)), (3, .int (zI (-1))), (0, .ref (a 3)), (1, .int (nI w)), (2, .int (nI op))] rfl (lt_n hn rfl) dX1_nearest_3 ?_
  refine x_iconst hC (v := (nI 0)) dX1_nearest_5 rfl ?_
  refine x_istore hC [(5, .int (nI 0)), (4, .int (nI 0)), (3, .int (zI (-1))), (0, .ref (a 3)), (1, .int (nI w)), (2, .int (nI op))] rfl (lt_n hn rfl) dX1_nearest_6 ?_
  refine x_lv [3, 4, 5, 2, 1, 0] rfl ?_
  have L8 : ∀ (N8 : Nat) (b : Int) (fw : Nat) (i : Nat), m - i < N8 → (i ≤ m) → ((i = 0 ∧ b = -1 ∧ fw = 0) ∨ (0 < i ∧ b = (amin (fun j => pc ((nm j ^^^ w) &&& op)) i : Int) ∧ fw = pc ((nm (amin (fun j => pc ((nm j ^^^ w) &&& op)) i) ^^^ w) &&& op))) → XW F 0 0 (xw c a μ) [(0, .ref (a 3)), (1, .int (nI w)), (2, .int (nI op)), (3, .int (zI b)), (4, .int (nI fw)), (5, .int (nI i))] 8 [] := by
    intro N8
    induction N8 with
    | zero => intro b fw i hN8 hi hb; exact absurd hN8 (by omega)
    | succ N8 ih8 =>
      intro b fw i hN8 hi hb
      have hdl : ∀ j, pc ((nm j ^^^ w) &&& op) ≤ 14 := fun j => pc_le _
      rcases hb with ⟨rfl, rfl, rfl⟩ | ⟨hi0, rfl, rfl⟩
      · skip
        change XW F 0 0 (xw c a μ) [(0, .ref (a 3)), (1, .int (nI w)), (2, .int (nI op)), (3, .int (zI (-1))), (4, .int (nI 0)), (5, .int (nI 0))] 8 []
        refine x_iload hC 5 rfl dX1_nearest_8 ?_
        refine x_aload_n hC 0 rfl dX1_nearest_10 ?_
        refine x_get hC fl_X1_7 dX1_nearest_11 3 rfl (v := .int (nI m)) (xv h3) ?_
        refine x_icmp_geN hC 57 dX1_nearest_14 rfl (by decide) (by omega) (fun h14 => ?_) (fun h14 => ?_)
        · -- 14 T
          refine x_iload_n hC 3 rfl dX1_nearest_57 ?_
          exact x_iret hC hR dX1_nearest_58 (⟨Or.inl ⟨by omega, rfl⟩, rfl⟩)
        · -- 14 F
          refine x_aload_n hC 0 rfl dX1_nearest_17 ?_
          refine x_get hC fl_X1_13 dX1_nearest_18 3 rfl rfl ?_
          refine x_iload hC 5 rfl dX1_nearest_21 ?_
          refine x_iald hC 12 0 rfl rfl (y := (nI (nm 0))) (by decide) (by decide) (h12 0 (by omega)) dX1_nearest_23 ?_
          refine x_iload_n hC 1 rfl dX1_nearest_24 ?_
          refine x_ixorE hC (z := (nI ((nm 0) ^^^ w))) (nI_xor _ _) dX1_nearest_25 ?_
          refine x_iload_n hC 2 rfl dX1_nearest_26 ?_
          refine x_iandE hC (z := (nI (((nm 0) ^^^ w) &&& op))) (nI_and _ _) dX1_nearest_27 ?_
          refine x_callN hC cs_X1_27 (c_J6_bitCount_0f7a4 (w := (((nm 0) ^^^ w) &&& op))  (and_lt14 ho)) dX1_nearest_28 [] rfl (Nat.le_of_ble_eq_true rfl) rfl (rm_ok hRm (by decide) (by decide)) ?_
          refine x_istore hC [(6, .int (nI (pc (((nm 0) ^^^ w) &&& op)))), (0, .ref (a 3)), (1, .int (nI w)), (2, .int (nI op)), (3, .int (zI (-1))), (4, .int (nI 0)), (5, .int (nI 0))] rfl (lt_n hn rfl) dX1_nearest_31 ?_
          refine x_iload_n hC 4 rfl dX1_nearest_33 ?_
          refine x_if_lt_T hC 44 dX1_nearest_34 rfl (by decide) ?_
          refine x_iload hC 0 rfl dX1_nearest_44 ?_
          refine x_istore hC [(4, .int (nI (pc (((nm 0) ^^^ w) &&& op)))), (6, .int (nI (pc (((nm 0) ^^^ w) &&& op)))), (0, .ref (a 3)), (1, .int (nI w)), (2, .int (nI op)), (3, .int (zI (-1))), (5, .int (nI 0))] rfl (lt_n hn rfl) dX1_nearest_46 ?_
          refine x_iload hC 6 rfl dX1_nearest_48 ?_
          refine x_istore_n hC [(3, .int (nI 0)), (4, .int (nI (pc (((nm 0) ^^^ w) &&& op)))), (6, .int (nI (pc (((nm 0) ^^^ w) &&& op)))), (0, .ref (a 3)), (1, .int (nI w)), (2, .int (nI op)), (5, .int (nI 0))] rfl (lt_n hn rfl) dX1_nearest_50 ?_
          refine x_iinc hC (z := 1) (v := (nI 1)) 6 rfl (rfl) [(5, .int (nI 1)), (3, .int (nI 0)), (4, .int (nI (pc (((nm 0) ^^^ w) &&& op)))), (6, .int (nI (pc (((nm 0) ^^^ w) &&& op)))), (0, .ref (a 3)), (1, .int (nI w)), (2, .int (nI op))] rfl (lt_n hn rfl) dX1_nearest_51 ?_
          refine x_goto hC 8 dX1_nearest_54 rfl ?_
          refine x_lv [4, 5, 6, 1, 2, 0] rfl ?_
          exact ih8 0 (pc (((nm 0) ^^^ w) &&& op)) 1 (by omega) (by omega) (Or.inr ⟨by omega, by rw [amin_1]; rfl, by rw [amin_1]⟩)
      · skip
        change XW F 0 0 (xw c a μ) [(0, .ref (a 3)), (1, .int (nI w)), (2, .int (nI op)), (3, .int (nI (amin (fun j => pc ((nm j ^^^ w) &&& op)) i))), (4, .int (nI (pc ((nm (amin (fun j => pc ((nm j ^^^ w) &&& op)) i) ^^^ w) &&& op)))), (5, .int (nI i))] 8 []
        refine x_iload hC 5 rfl dX1_nearest_8 ?_
        refine x_aload_n hC 0 rfl dX1_nearest_10 ?_
        refine x_get hC fl_X1_7 dX1_nearest_11 3 rfl (v := .int (nI m)) (xv h3) ?_
        refine x_icmp_geN hC 57 dX1_nearest_14 rfl (by omega) (by omega) (fun h14 => ?_) (fun h14 => ?_)
        · -- 14 T
          refine x_iload_n hC 3 rfl dX1_nearest_57 ?_
          exact x_iret hC hR dX1_nearest_58 (⟨Or.inr ⟨by omega, by rw [show i = m by omega]⟩, rfl⟩)
        · -- 14 F
          refine x_aload_n hC 0 rfl dX1_nearest_17 ?_
          refine x_get hC fl_X1_13 dX1_nearest_18 3 rfl rfl ?_
          refine x_iload hC 5 rfl dX1_nearest_21 ?_
          refine x_iald hC 12 0 rfl rfl (y := (nI (nm i))) (by omega) (by decide) (h12 i (by omega)) dX1_nearest_23 ?_
          refine x_iload_n hC 1 rfl dX1_nearest_24 ?_
          refine x_ixorE hC (z := (nI ((nm i) ^^^ w))) (nI_xor _ _) dX1_nearest_25 ?_
          refine x_iload_n hC 2 rfl dX1_nearest_26 ?_
          refine x_iandE hC (z := (nI (((nm i) ^^^ w) &&& op))) (nI_and _ _) dX1_nearest_27 ?_
          refine x_callN hC cs_X1_27 (c_J6_bitCount_0f7a4 (w := (((nm i) ^^^ w) &&& op))  (and_lt14 ho)) dX1_nearest_28 [] rfl (Nat.le_of_ble_eq_true rfl) rfl (rm_ok hRm (by decide) (by decide)) ?_
          refine x_istore hC [(6, .int (nI (pc (((nm i) ^^^ w) &&& op)))), (0, .ref (a 3)), (1, .int (nI w)), (2, .int (nI op)), (3, .int (nI (amin (fun j => pc ((nm j ^^^ w) &&& op)) i))), (4, .int (nI (pc ((nm (amin (fun j => pc ((nm j ^^^ w) &&& op)) i) ^^^ w) &&& op)))), (5, .int (nI i))] rfl (lt_n hn rfl) dX1_nearest_31 ?_
          refine x_iload_n hC 4 rfl dX1_nearest_33 ?_
          refine x_if_lt_F hC 44 dX1_nearest_34 rfl (by rw [i32_lt, i32_0, nI_toI (by have := amin_lt (fun j => pc ((nm j ^^^ w) &&& op)) hi0; omega)]; omega) ?_
          refine x_iload hC 0 rfl dX1_nearest_37 ?_
          refine x_iload hC 5 rfl dX1_nearest_39 ?_
          refine x_icmp_geN hC 51 dX1_nearest_41 rfl (by have := pc_le ((nm i ^^^ w) &&& op); omega) (by have := hdl (amin (fun j => pc ((nm j ^^^ w) &&& op)) i); omega) (fun h41 => ?_) (fun h41 => ?_)
          · -- 41 T
            refine x_iinc hC (z := 1) (v := (nI (i + 1))) 6 rfl (nI_add i 1) [(5, .int (nI (i + 1))), (6, .int (nI (pc (((nm i) ^^^ w) &&& op)))), (0, .ref (a 3)), (1, .int (nI w)), (2, .int (nI op)), (3, .int (nI (amin (fun j => pc ((nm j ^^^ w) &&& op)) i))), (4, .int (nI (pc ((nm (amin (fun j => pc ((nm j ^^^ w) &&& op)) i) ^^^ w) &&& op))))] rfl (lt_n hn rfl) dX1_nearest_51 ?_
            refine x_goto hC 8 dX1_nearest_54 rfl ?_
            refine x_lv [2, 3, 4, 5, 6, 0] rfl ?_
            exact ih8 ((amin (fun j => pc ((nm j ^^^ w) &&& op)) i) : Int) (pc ((nm (amin (fun j => pc ((nm j ^^^ w) &&& op)) i) ^^^ w) &&& op)) (i + 1) (by omega) (by omega) (Or.inr ⟨by omega, by rw [amin_S, if_neg (Nat.not_lt.mpr h41)], by rw [amin_S, if_neg (Nat.not_lt.mpr h41)]⟩)
          · -- 41 F
            refine x_iload hC 0 rfl dX1_nearest_44 ?_
            refine x_istore hC [(4, .int (nI (pc (((nm i) ^^^ w) &&& op)))), (6, .int (nI (pc (((nm i) ^^^ w) &&& op)))), (0, .ref (a 3)), (1, .int (nI w)), (2, .int (nI op)), (3, .int (nI (amin (fun j => pc ((nm j ^^^ w) &&& op)) i))), (5, .int (nI i))] rfl (lt_n hn rfl) dX1_nearest_46 ?_
            refine x_iload hC 6 rfl dX1_nearest_48 ?_
            refine x_istore_n hC [(3, .int (nI i)), (4, .int (nI (pc (((nm i) ^^^ w) &&& op)))), (6, .int (nI (pc (((nm i) ^^^ w) &&& op)))), (0, .ref (a 3)), (1, .int (nI w)), (2, .int (nI op)), (5, .int (nI i))] rfl (lt_n hn rfl) dX1_nearest_50 ?_
            refine x_iinc hC (z := 1) (v := (nI (i + 1))) 6 rfl (nI_add i 1) [(5, .int (nI (i + 1))), (3, .int (nI i)), (4, .int (nI (pc (((nm i) ^^^ w) &&& op)))), (6, .int (nI (pc (((nm i) ^^^ w) &&& op)))), (0, .ref (a 3)), (1, .int (nI w)), (2, .int (nI op))] rfl (lt_n hn rfl) dX1_nearest_51 ?_
            refine x_goto hC 8 dX1_nearest_54 rfl ?_
            refine x_lv [4, 5, 6, 1, 2, 0] rfl ?_
            exact ih8 (i : Int) (pc (((nm i) ^^^ w) &&& op)) (i + 1) (by omega) (by omega) (Or.inr ⟨by omega, by rw [amin_S, if_pos h41], by rw [amin_S, if_pos h41]⟩)
  exact L8 _ (-1) 0 0 (Nat.lt_succ_self _) (by omega) (Or.inl ⟨rfl, rfl, rfl⟩)
set_option maxHeartbeats 4000000 in
set_option maxRecDepth 100000 in
theorem c_X1_hasLoneNearest {l : Launch} {D : va_G} {c : Nat → ClassId} {a : Nat → Nat} {μ : Me} {w op m : Nat} {nm : Nat → Nat} (h3 : μ 0 3 = nI m) (hm : m ≤ 8) (h12 : ∀ j, j < m → μ 12 j = nI (nm j)) (hw : w < 16384) (ho : op < 16384) : KI l D (tyE c) (xw c a) yX1_hasLoneNearest cX1_hasLoneNearest 6 .boolean (rmL 3) [.ref (a 3), .int (nI w), .int (nI op)] μ (fun r u => r = bz (lone (fun j => pc ((nm j ^^^ w) &&& op)) m) ∧ μ = u) := by
  refine x_enterI (by decide) (Nat.le_of_ble_eq_true rfl) (fun F hl hD hn hRm hC hR => ?_)
  subst hl hD
  change XW F 0 0 (xw c a μ) [(0, .ref (a 3)), (1, .int (nI w)), (2, .int (nI op))] 0 []
  change FC F cX1_hasLoneNearest RX1 (tyE c) at hC
  refine x_aload_n hC 0 rfl dX1_hasLoneNearest_0 ?_
  refine x_iload_n hC 1 rfl dX1_hasLoneNearest_1 ?_
  refine x_iload_n hC 2 rfl dX1_hasLoneNearest_2 ?_
  refine x_callVI hC cw_X1_33 (c_X1_nearest (w := w) (op := op) (m := m) (nm := nm) (by first | assumption | omega) (by first | assumption | omega) (by first | assumption | omega) (by first | assumption | omega) (by first | assumption | omega)) dX1_hasLoneNearest_3 [] rfl (Nat.le_of_ble_eq_true rfl) rfl (rm_ok hRm (by decide) (by decide)) 1 3 rfl rfl (fun r3 m3 hp3 => ?_)
  obtain ⟨hqhp3, rfl⟩ := hp3
  rcases hqhp3 with ⟨hm0, rfl⟩ | ⟨hm0, rfl⟩
  · skip
    refine x_istore_n hC [(3, .int (zI (-1))), (0, .ref (a 3)), (1, .int (nI w)), (2, .int (nI op))] rfl (lt_n hn rfl) dX1_hasLoneNearest_6 ?_
    refine x_iload_n hC 0 rfl dX1_hasLoneNearest_7 ?_
    refine x_if_ge_F hC 13 dX1_hasLoneNearest_8 rfl (by decide) ?_
    refine x_iconst hC (v := (nI 0)) dX1_hasLoneNearest_11 rfl ?_
    exact x_zret hC hR dX1_hasLoneNearest_12 rfl (⟨by rw [lone, hm0]; rfl, rfl⟩)
  · skip
    refine x_istore_n hC [(3, .int (nI (amin (fun j => pc ((nm j ^^^ w) &&& op)) m))), (0, .ref (a 3)), (1, .int (nI w)), (2, .int (nI op))] rfl (lt_n hn rfl) dX1_hasLoneNearest_6 ?_
    refine x_iload_n hC 0 rfl dX1_hasLoneNearest_7 ?_
    refine x_if_ge_T hC 13 dX1_hasLoneNearest_8 rfl (by rw [i32_le, i32_0, nI_toI (by have := amin_lt (fun j => pc ((nm j ^^^ w) &&& op)) hm0; omega)]; omega) ?_
    have hal := amin_lt (fun j => pc ((nm j ^^^ w) &&& op)) hm0
    have hdl : ∀ j, pc ((nm j ^^^ w) &&& op) ≤ 14 := fun j => pc_le _
    refine x_aload_n hC 1 rfl dX1_hasLoneNearest_13 ?_
    refine x_get hC fl_X1_13 dX1_hasLoneNearest_14 3 rfl rfl ?_
    refine x_iload_n hC 0 rfl dX1_hasLoneNearest_17 ?_
    refine x_iald hC 12 0 rfl rfl (y := (nI (nm (amin (fun j => pc ((nm j ^^^ w) &&& op)) m)))) (by omega) (by decide) (h12 (amin (fun j => pc ((nm j ^^^ w) &&& op)) m) (by omega)) dX1_hasLoneNearest_18 ?_
    refine x_iload_n hC 2 rfl dX1_hasLoneNearest_19 ?_
    refine x_ixorE hC (z := (nI ((nm (amin (fun j => pc ((nm j ^^^ w) &&& op)) m)) ^^^ w))) (nI_xor _ _) dX1_hasLoneNearest_20 ?_
    refine x_iload_n hC 3 rfl dX1_hasLoneNearest_21 ?_
    refine x_iandE hC (z := (nI (((nm (amin (fun j => pc ((nm j ^^^ w) &&& op)) m)) ^^^ w) &&& op))) (nI_and _ _) dX1_hasLoneNearest_22 ?_
    refine x_callN hC cs_X1_27 (c_J6_bitCount_0f7a4 (w := (((nm (amin (fun j => pc ((nm j ^^^ w) &&& op)) m)) ^^^ w) &&& op))  (and_lt14 ho)) dX1_hasLoneNearest_23 [] rfl (Nat.le_of_ble_eq_true rfl) rfl (rm_ok hRm (by decide) (by decide)) ?_
    refine x_iconst hC (v := (nI 3)) dX1_hasLoneNearest_26 rfl ?_
    refine x_iaddE hC (z := (nI ((pc (((nm (amin (fun j => pc ((nm j ^^^ w) &&& op)) m)) ^^^ w) &&& op)) + 3))) (nI_add _ _) dX1_hasLoneNearest_27 ?_
    refine x_istore hC [(4, .int (nI ((pc (((nm (amin (fun j => pc ((nm j ^^^ w) &&& op)) m)) ^^^ w) &&& op)) + 3))), (3, .int (nI (amin (fun j => pc ((nm j ^^^ w) &&& op)) m))), (0, .ref (a 3)), (1, .int (nI w)), (2, .int (nI op))] rfl (lt_n hn rfl) dX1_hasLoneNearest_28 ?_
    refine x_iconst hC (v := (nI 0)) dX1_hasLoneNearest_30 rfl ?_
    refine x_istore hC [(5, .int (nI 0)), (4, .int (nI ((pc (((nm (amin (fun j => pc ((nm j ^^^ w) &&& op)) m)) ^^^ w) &&& op)) + 3))), (3, .int (nI (amin (fun j => pc ((nm j ^^^ w) &&& op)) m))), (0, .ref (a 3)), (1, .int (nI w)), (2, .int (nI op))] rfl (lt_n hn rfl) dX1_hasLoneNearest_31 ?_
    refine x_lv [3, 4, 5, 2, 1, 0] rfl ?_
    have L33 : ∀ (N33 : Nat) (i : Nat), m - i < N33 → (i ≤ m) → (allN (fun j => decide (j = amin (fun j => pc ((nm j ^^^ w) &&& op)) m ∨ (fun j => pc ((nm j ^^^ w) &&& op)) (amin (fun j => pc ((nm j ^^^ w) &&& op)) m) + 3 ≤ (fun j => pc ((nm j ^^^ w) &&& op)) j)) i = true) → XW F 0 0 (xw c a μ) [(0, .ref (a 3)), (1, .int (nI w)), (2, .int (nI op)), (3, .int (nI (amin (fun j => pc ((nm j ^^^ w) &&& op)) m))), (4, .int (nI (pc ((nm (amin (fun j => pc ((nm j ^^^ w) &&& op)) m) ^^^ w) &&& op) + 3))), (5, .int (nI i))] 33 [] := by
      intro N33
      induction N33 with
      | zero => intro i hN33 hi ha; exact absurd hN33 (by omega)
      | succ N33 ih33 =>
        intro i hN33 hi ha
        refine x_iload hC 5 rfl dX1_hasLoneNearest_33 ?_
        refine x_aload_n hC 0 rfl dX1_hasLoneNearest_35 ?_
        refine x_get hC fl_X1_7 dX1_hasLoneNearest_36 3 rfl (v := .int (nI m)) (xv h3) ?_
        refine x_icmp_geN hC 75 dX1_hasLoneNearest_39 rfl (by omega) (by omega) (fun h39 => ?_) (fun h39 => ?_)
        · -- 39 T
          refine x_iconst hC (v := (nI 1)) dX1_hasLoneNearest_75 rfl ?_
          exact x_zret hC hR dX1_hasLoneNearest_76 rfl (⟨by have hq := ha; rw [show i = m by omega] at hq; rw [lone, hq]; simp [hm0]; rfl, rfl⟩)
        · -- 39 F
          refine x_iload hC 5 rfl dX1_hasLoneNearest_42 ?_
          refine x_iload_n hC 3 rfl dX1_hasLoneNearest_44 ?_
          refine x_icmp_eqN hC 69 dX1_hasLoneNearest_45 rfl (by omega) (by omega) (fun h45 => ?_) (fun h45 => ?_)
          · -- 45 T
            refine x_iinc hC (z := 1) (v := (nI (i + 1))) 5 rfl (nI_add i 1) [(5, .int (nI (i + 1))), (0, .ref (a 3)), (1, .int (nI w)), (2, .int (nI op)), (3, .int (nI (amin (fun j => pc ((nm j ^^^ w) &&& op)) m))), (4, .int (nI (pc ((nm (amin (fun j => pc ((nm j ^^^ w) &&& op)) m) ^^^ w) &&& op) + 3)))] rfl (lt_n hn rfl) dX1_hasLoneNearest_69 ?_
            refine x_goto hC 33 dX1_hasLoneNearest_72 rfl ?_
            refine x_lv [1, 2, 3, 4, 5, 0] rfl ?_
            exact ih33 (i + 1) (by omega) (by omega) (by simp only [allN, ha, Bool.true_and, decide_eq_true_eq]; first | exact Or.inl h45 | exact Or.inr h64)
          · -- 45 F
            refine x_aload_n hC 0 rfl dX1_hasLoneNearest_48 ?_
            refine x_get hC fl_X1_13 dX1_hasLoneNearest_49 3 rfl rfl ?_
            refine x_iload hC 5 rfl dX1_hasLoneNearest_52 ?_
            refine x_iald hC 12 0 rfl rfl (y := (nI (nm i))) (by omega) (by decide) (h12 i (by omega)) dX1_hasLoneNearest_54 ?_
            refine x_iload_n hC 1 rfl dX1_hasLoneNearest_55 ?_
            refine x_ixorE hC (z := (nI ((nm i) ^^^ w))) (nI_xor _ _) dX1_hasLoneNearest_56 ?_
            refine x_iload_n hC 2 rfl dX1_hasLoneNearest_57 ?_
            refine x_iandE hC (z := (nI (((nm i) ^^^ w) &&& op))) (nI_and _ _) dX1_hasLoneNearest_58 ?_
            refine x_callN hC cs_X1_27 (c_J6_bitCount_0f7a4 (w := (((nm i) ^^^ w) &&& op))  (and_lt14 ho)) dX1_hasLoneNearest_59 [] rfl (Nat.le_of_ble_eq_true rfl) rfl (rm_ok hRm (by decide) (by decide)) ?_
            refine x_iload hC 4 rfl dX1_hasLoneNearest_62 ?_
            refine x_icmp_geN hC 69 dX1_hasLoneNearest_64 rfl (by have := hdl i; omega) (by have := hdl (amin (fun j => pc ((nm j ^^^ w) &&& op)) m); omega) (fun h64 => ?_) (fun h64 => ?_)
            · -- 64 T
              refine x_iinc hC (z := 1) (v := (nI (i + 1))) 5 rfl (nI_add i 1) [(5, .int (nI (i + 1))), (0, .ref (a 3)), (1, .int (nI w)), (2, .int (nI op)), (3, .int (nI (amin (fun j => pc ((nm j ^^^ w) &&& op)) m))), (4, .int (nI (pc ((nm (amin (fun j => pc ((nm j ^^^ w) &&& op)) m) ^^^ w) &&& op) + 3)))] rfl (lt_n hn rfl) dX1_hasLoneNearest_69 ?_
              refine x_goto hC 33 dX1_hasLoneNearest_72 rfl ?_
              refine x_lv [1, 2, 3, 4, 5, 0] rfl ?_
              exact ih33 (i + 1) (by omega) (by omega) (by simp only [allN, ha, Bool.true_and, decide_eq_true_eq]; first | exact Or.inl h45 | exact Or.inr h64)
            · -- 64 F
              refine x_iconst hC (v := (nI 0)) dX1_hasLoneNearest_67 rfl ?_
              exact x_zret hC hR dX1_hasLoneNearest_68 rfl (⟨by rw [lone, allN_F (i := i) (by omega) (by simp only [decide_eq_false_iff_not]; omega), Bool.and_false]; rfl, rfl⟩)
    exact L33 _ 0 (Nat.lt_succ_self _) (by omega) rfl
set_option maxHeartbeats 4000000 in
set_option maxRecDepth 100000 in
theorem c_X1_fewestApart {l : Launch} {D : va_G} {c : Nat → ClassId} {a : Nat → Nat} {μ : Me} {op m : Nat} {nm : Nat → Nat} (h3 : μ 0 3 = nI m) (hm : m ≤ 8) (h12 : ∀ j, j < m → μ 12 j = nI (nm j)) (ho : op < 16384) : KI l D (tyE c) (xw c a) yX1_fewestApart cX1_fewestApart 5 .int (rmL 2) [.ref (a 3), .int (nI op)] μ (fun r u => r = nI (mall (fun x y => pc ((nm x ^^^ nm y) &&& op)) 14 m) ∧ μ = u) := by
  refine x_enterI (by decide) (Nat.le_of_ble_eq_true rfl) (fun F hl hD hn hRm hC hR => ?_)
  subst hl hD
  change XW F 0 0 (xw c a μ) [(0, .ref (a 3)), (1, .int (nI op))] 0 []
  change FC F cX1_fewestApart RX1 (tyE c) at hC
  refine x_bipush hC (v := (nI 14)) dX1_fewestApart_0 rfl ?_
  refine x_istore_n hC [(2, .int (nI 14)), (0, .ref (a 3)), (1, .int (nI op))] rfl (lt_n hn rfl) dX1_fewestApart_2 ?_
  refine x_iconst hC (v := (nI 0)) dX1_fewestApart_3 rfl ?_
  refine x_istore_n hC [(3, .int (nI 0)), (2, .int (nI 14)), (0, .ref (a 3)), (1, .int (nI op))] rfl (lt_n hn rfl) dX1_fewestApart_4 ?_
  refine x_lv [2, 3, 1, 0] rfl ?_
  have L5 : ∀ (N5 : Nat) (fw : Nat) (i : Nat), m - i < N5 → (fw = mall (fun x y => pc ((nm x ^^^ nm y) &&& op)) 14 i) → (i ≤ m) → XW F 0 0 (xw c a μ) [(0, .ref (a 3)), (1, .int (nI op)), (2, .int (nI fw)), (3, .int (nI i))] 5 [] := by
    intro N5
    induction N5 with
    | zero => intro fw i hN5 hs hi; exact absurd hN5 (by omega)
    | succ N5 ih5 =>
      intro fw i hN5 hs hi
      refine x_iload_n hC 3 rfl dX1_fewestApart_5 ?_
      refine x_aload_n hC 0 rfl dX1_fewestApart_6 ?_
      refine x_get hC fl_X1_7 dX1_fewestApart_7 3 rfl (v := .int (nI m)) (xv h3) ?_
      refine x_icmp_geN hC 58 dX1_fewestApart_10 rfl (by omega) (by omega) (fun h10 => ?_) (fun h10 => ?_)
      · -- 10 T
        refine x_iload_n hC 2 rfl dX1_fewestApart_58 ?_
        exact x_iret hC hR dX1_fewestApart_59 (⟨by rw [hs, show i = m by omega], rfl⟩)
      · -- 10 F
        refine x_iconst hC (v := (nI 0)) dX1_fewestApart_13 rfl ?_
        refine x_istore hC [(4, .int (nI 0)), (0, .ref (a 3)), (1, .int (nI op)), (2, .int (nI fw)), (3, .int (nI i))] rfl (lt_n hn rfl) dX1_fewestApart_14 ?_
        refine x_lv [1, 2, 3, 4, 0] rfl ?_
        have L16 : ∀ (N16 : Nat) (fv : Nat) (j : Nat), i - j < N16 → (fv = mrow ((fun x y => pc ((nm x ^^^ nm y) &&& op)) i) fw j) → (j ≤ i) → (fv ≤ 14) → XW F 0 0 (xw c a μ) [(0, .ref (a 3)), (1, .int (nI op)), (2, .int (nI fv)), (3, .int (nI i)), (4, .int (nI j))] 16 [] := by
          intro N16
          induction N16 with
          | zero => intro fv j hN16 hv hj hfb; exact absurd hN16 (by omega)
          | succ N16 ih16 =>
            intro fv j hN16 hv hj hfb
            refine x_iload hC 4 rfl dX1_fewestApart_16 ?_
            refine x_iload_n hC 3 rfl dX1_fewestApart_18 ?_
            refine x_icmp_geN hC 52 dX1_fewestApart_19 rfl (by omega) (by omega) (fun h19 => ?_) (fun h19 => ?_)
            · -- 19 T
              refine x_iinc hC (z := 1) (v := (nI (i + 1))) 3 rfl (nI_add i 1) [(3, .int (nI (i + 1))), (0, .ref (a 3)), (1, .int (nI op)), (2, .int (nI fv)), (4, .int (nI j))] rfl (lt_n hn rfl) dX1_fewestApart_52 ?_
              refine x_goto hC 5 dX1_fewestApart_55 rfl ?_
              refine x_lv [1, 2, 3, 0] rfl ?_
              exact ih5 fv (i + 1) (by omega) (by rw [hv, show j = i by omega, hs]; rfl) (by omega)
            · -- 19 F
              refine x_iload_n hC 2 rfl dX1_fewestApart_22 ?_
              refine x_aload_n hC 0 rfl dX1_fewestApart_23 ?_
              refine x_get hC fl_X1_13 dX1_fewestApart_24 3 rfl rfl ?_
              refine x_iload_n hC 3 rfl dX1_fewestApart_27 ?_
              refine x_iald hC 12 0 rfl rfl (y := (nI (nm i))) (by omega) (by decide) (h12 i (by omega)) dX1_fewestApart_28 ?_
              refine x_aload_n hC 0 rfl dX1_fewestApart_29 ?_
              refine x_get hC fl_X1_13 dX1_fewestApart_30 3 rfl rfl ?_
              refine x_iload hC 4 rfl dX1_fewestApart_33 ?_
              refine x_iald hC 12 0 rfl rfl (y := (nI (nm j))) (by omega) (by decide) (h12 j (by omega)) dX1_fewestApart_35 ?_
              refine x_ixorE hC (z := (nI ((nm i) ^^^ (nm j)))) (nI_xor _ _) dX1_fewestApart_36 ?_
              refine x_iload_n hC 1 rfl dX1_fewestApart_37 ?_
              refine x_iandE hC (z := (nI (((nm i) ^^^ (nm j)) &&& op))) (nI_and _ _) dX1_fewestApart_38 ?_
              refine x_callN hC cs_X1_27 (c_J6_bitCount_0f7a4 (w := (((nm i) ^^^ (nm j)) &&& op))  (and_lt14 ho)) dX1_fewestApart_39 [.int (nI fv)] rfl (Nat.le_of_ble_eq_true rfl) rfl (rm_ok hRm (by decide) (by decide)) ?_
              refine x_min hC cm_X1_39 dX1_fewestApart_42 (v := (nI (min fv (pc ((nm i ^^^ nm j) &&& op))))) (nI_min (by omega) (by have := pc_le ((nm i ^^^ nm j) &&& op); omega)) (by rw [hRm]; decide) (by rw [hRm]; exact Nat.le_of_ble_eq_true rfl) (by rw [hRm]; decide) (by rw [hRm]; decide) ?_
              refine x_istore_n hC [(2, .int (nI (min fv (pc ((nm i ^^^ nm j) &&& op))))), (0, .ref (a 3)), (1, .int (nI op)), (3, .int (nI i)), (4, .int (nI j))] rfl (lt_n hn rfl) dX1_fewestApart_45 ?_
              refine x_iinc hC (z := 1) (v := (nI (j + 1))) 4 rfl (nI_add j 1) [(4, .int (nI (j + 1))), (2, .int (nI (min fv (pc ((nm i ^^^ nm j) &&& op))))), (0, .ref (a 3)), (1, .int (nI op)), (3, .int (nI i))] rfl (lt_n hn rfl) dX1_fewestApart_46 ?_
              refine x_goto hC 16 dX1_fewestApart_49 rfl ?_
              refine x_lv [2, 3, 1, 4, 0] rfl ?_
              exact ih16 (min fv (pc ((nm i ^^^ nm j) &&& op))) (j + 1) (by omega) (by rw [hv]; rfl) (by omega) (by omega)
        exact L16 _ fw 0 (Nat.lt_succ_self _) rfl (by omega) (by rw [hs]; exact mall_le _ _ _)
  exact L5 _ 14 0 (Nat.lt_succ_self _) rfl (by omega)
set_option maxHeartbeats 4000000 in
set_option maxRecDepth 100000 in
theorem c_X1_onesAt {l : Launch} {D : va_G} {c : Nat → ClassId} {a : Nat → Nat} {μ : Me} {t m : Nat} {nm : Nat → Nat} (h3 : μ 0 3 = nI m) (hm : m ≤ 8) (h12 : ∀ j, j < m → μ 12 j = nI (nm j)) (hnb : ∀ j, j < m → nm j < 2 ^ 31) (ht : t < 32) : KI l D (tyE c) (xw c a) yX1_onesAt cX1_onesAt 4 .int (rmL 1) [.ref (a 3), .int (nI t)] μ (fun r u => r = nI (sumN (fun j => bt (nm j) t) m) ∧ μ = u) := by
  refine x_enterI (by decide) (Nat.le_of_ble_eq_true rfl) (fun F hl hD hn hRm hC hR => ?_)
  subst hl hD
  change XW F 0 0 (xw c a μ) [(0, .ref (a 3)), (1, .int (nI t))] 0 []
  change FC F cX1_onesAt RX1 (tyE c) at hC
  refine x_iconst hC (v := (nI 0)) dX1_onesAt_0 rfl ?_
  refine x_istore_n hC [(2, .int (nI 0)), (0, .ref (a 3)), (1, .int (nI t))] rfl (lt_n hn rfl) dX1_onesAt_1 ?_
  refine x_iconst hC (v := (nI 0)) dX1_onesAt_2 rfl ?_
  refine x_istore_n hC [(3, .int (nI 0)), (2, .int (nI 0)), (0, .ref (a 3)), (1, .int (nI t))] rfl (lt_n hn rfl) dX1_onesAt_3 ?_
  refine x_lv [2, 3, 1, 0] rfl ?_
  have L4 : ∀ (N4 : Nat) (s : Nat) (i : Nat), m - i < N4 → (s = sumN (fun j => bt (nm j) t) i) → (i ≤ m) → XW F 0 0 (xw c a μ) [(0, .ref (a 3)), (1, .int (nI t)), (2, .int (nI s)), (3, .int (nI i))] 4 [] := by
    intro N4
    induction N4 with
    | zero => intro s i hN4 hs hi; exact absurd hN4 (by omega)
    | succ N4 ih4 =>
      intro s i hN4 hs hi
      refine x_iload_n hC 3 rfl dX1_onesAt_4 ?_
      refine x_aload_n hC 0 rfl dX1_onesAt_5 ?_
      refine x_get hC fl_X1_7 dX1_onesAt_6 3 rfl (v := .int (nI m)) (xv h3) ?_
      refine x_icmp_geN hC 31 dX1_onesAt_9 rfl (by omega) (by omega) (fun h9 => ?_) (fun h9 => ?_)
      · -- 9 T
        refine x_iload_n hC 2 rfl dX1_onesAt_31 ?_
        exact x_iret hC hR dX1_onesAt_32 (⟨by rw [hs, show i = m by omega], rfl⟩)
      · -- 9 F
        refine x_iload_n hC 2 rfl dX1_onesAt_12 ?_
        refine x_aload_n hC 0 rfl dX1_onesAt_13 ?_
        refine x_get hC fl_X1_13 dX1_onesAt_14 3 rfl rfl ?_
        refine x_iload_n hC 3 rfl dX1_onesAt_17 ?_
        refine x_iald hC 12 0 rfl rfl (y := (nI (nm i))) (by omega) (by decide) (h12 i (by omega)) dX1_onesAt_18 ?_
        refine x_iload_n hC 1 rfl dX1_onesAt_19 ?_
        refine x_ishrE hC (z := (nI ((nm i) / 2 ^ t))) (nI_shr (hnb i (by omega)) (by omega)) dX1_onesAt_20 ?_
        refine x_iconst hC (v := (nI 1)) dX1_onesAt_21 rfl ?_
        refine x_iandE hC (z := (nI (bt (nm i) t))) (nI_and1 _) dX1_onesAt_22 ?_
        refine x_iaddE hC (z := (nI (s + (bt (nm i) t)))) (nI_add _ _) dX1_onesAt_23 ?_
        refine x_istore_n hC [(2, .int (nI (s + (bt (nm i) t)))), (0, .ref (a 3)), (1, .int (nI t)), (3, .int (nI i))] rfl (lt_n hn rfl) dX1_onesAt_24 ?_
        refine x_iinc hC (z := 1) (v := (nI (i + 1))) 3 rfl (nI_add i 1) [(3, .int (nI (i + 1))), (2, .int (nI (s + (bt (nm i) t)))), (0, .ref (a 3)), (1, .int (nI t))] rfl (lt_n hn rfl) dX1_onesAt_25 ?_
        refine x_goto hC 4 dX1_onesAt_28 rfl ?_
        refine x_lv [2, 3, 1, 0] rfl ?_
        exact ih4 (s + (bt (nm i) t)) (i + 1) (by omega) (by rw [hs]; rfl) (by omega)
  exact L4 _ 0 0 (Nat.lt_succ_self _) rfl (by omega)
end
section
/-! Code -/
theorem pow_le64 {k : Nat} (h : k ≤ 6) : 2 ^ k ≤ 64 := Nat.pow_le_pow_right (by decide) h
/-- w is one of the words 0 .. m - 1 -/
def hol (W : Nat → Nat) (m w : Nat) : Bool := !(allN (fun j => decide (W j ≠ w)) m)
def fbx (d : Nat → Nat) : Nat → Nat
  | 0 => 0
  | i + 1 => if i = 0 then 0 else if i = 1 ∨ d i < fbx d i then d i else fbx d i
theorem fbx_le {d : Nat → Nat} {x : Nat} (h : ∀ i, d i ≤ x) : ∀ i, fbx d i ≤ x
  | 0 => Nat.zero_le _
  | i + 1 => by
    show (if i = 0 then 0 else if i = 1 ∨ d i < fbx d i then d i else fbx d i) ≤ x
    have h1 := fbx_le h i
    have h2 := h i
    split
    · omega
    · split <;> omega
theorem xor_lt14 {a b : Nat} (ha : a < 16384) (hb : b < 16384) : a ^^^ b < 16384 := Nat.xor_lt_two_pow (n := 14) ha hb
theorem pow_lt14 {c : Nat} (h : c < 14) : 2 ^ c < 16384 := show 2 ^ c < 2 ^ 14 from Nat.pow_lt_pow_right (by decide) h
theorem upd_all {f : Nat → Int32} {i : Nat} {x : Int32} {Q : Nat → Int32 → Prop} (h : ∀ j, j < i → Q j (f j)) (hx : Q i x) : ∀ j, j < i + 1 → Q j (upd f i x j) := fun j hj => by
  by_cases q : j = i
  · subst q; rw [upd_s]; exact hx
  · rw [upd_n q]; exact h j (by omega)
theorem upd_sh {f : Nat → Int32} {b i : Nat} {x : Int32} {Q : Nat → Int32 → Prop} (h : ∀ j, j < i → Q j (f (b + j))) (hx : Q i x) : ∀ j, j < i + 1 → Q j (upd f (b + i) x (b + j)) := fun j hj => by
  by_cases q : j = i
  · subst q; rw [upd_s]; exact hx
  · rw [upd_n (by omega)]; exact h j (by omega)
theorem upd_two {f g : Nat → Int32} {i : Nat} {x y : Int32} {Q : Nat → Int32 → Int32 → Prop} (h : ∀ j, j < i → Q j (f j) (g j)) (hx : Q i x y) : ∀ j, j < i + 1 → Q j (upd f i x j) (upd g i y j) := fun j hj => by
  by_cases q : j = i
  · subst q; rw [upd_s, upd_s]; exact hx
  · rw [upd_n q, upd_n q]; exact h j (by omega)
/-! Flips -/
def flp (m : Nat) (p : Nat → Nat) (j : Nat) : Nat := if bt m j = 1 then 0 else p j
def sty (m : Nat) (p : Nat → Nat) (j : Nat) : Nat := if bt m j = 1 then 1 else 8 - p j
/-- harmless ways of the last d of n cells -/
def hlx (fl sy nk : Nat → Nat) (key n : Nat) : Nat → Nat → Nat
  | 0, _ => 1
  | d + 1, w => sy (n - (d + 1)) * hlx fl sy nk key n d w + (if 0 < fl (n - (d + 1)) ∧ nk (w ^^^ 2 ^ (n - (d + 1))) = key then fl (n - (d + 1)) * hlx fl sy nk key n d (w ^^^ 2 ^ (n - (d + 1))) else 0)

set_option maxHeartbeats 4000000 in
set_option maxRecDepth 100000 in
theorem c_X2_keys {l : Launch} {D : va_G} {c : Nat → ClassId} {a : Nat → Nat} {μ : Me} {k : Nat} (h2 : μ 0 2 = nI k) (hk : k ≤ 6) : KI l D (tyE c) (xw c a) yX2_keys cX2_keys 1 .int (rmL 1) [.ref (a 2)] μ (fun r u => r = nI (2 ^ k) ∧ μ = u) := by
  refine x_enterI (by decide) (Nat.le_of_ble_eq_true rfl) (fun F hl hD hn hRm hC hR => ?_)
  subst hl hD
  change XW F 0 0 (xw c a μ) [(0, .ref (a 2))] 0 []
  change FC F cX2_keys RX2 (tyE c) at hC
  refine x_iconst hC (v := (nI 1)) dX2_keys_0 rfl ?_
  refine x_aload_n hC 0 rfl dX2_keys_1 ?_
  refine x_get hC fl_X2_7 dX2_keys_2 2 rfl (v := .int (nI k)) (xv h2) ?_
  refine x_ishlE hC (z := (nI (2 ^ k))) (nI_shl1 (by omega)) dX2_keys_5 ?_
  exact x_iret hC hR dX2_keys_6 (⟨rfl, rfl⟩)
set_option maxHeartbeats 4000000 in
set_option maxRecDepth 100000 in
theorem c_X2_isKey {l : Launch} {D : va_G} {c : Nat → ClassId} {a : Nat → Nat} {μ : Me} {x : Int32} {k : Nat} (h2 : μ 0 2 = nI k) (hk : k ≤ 6) : KI l D (tyE c) (xw c a) yX2_isKey cX2_isKey 2 .boolean (rmL 2) [.ref (a 2), .int x] μ (fun r u => r = bz (isI (2 ^ k) x) ∧ μ = u) := by
  refine x_enterI (by decide) (Nat.le_of_ble_eq_true rfl) (fun F hl hD hn hRm hC hR => ?_)
  subst hl hD
  change XW F 0 0 (xw c a μ) [(0, .ref (a 2)), (1, .int x)] 0 []
  change FC F cX2_isKey RX2 (tyE c) at hC
  have hp := pow_le64 hk
  have hp1 : 1 ≤ 2 ^ k := Nat.one_le_two_pow
  refine x_iload_n hC 1 rfl dX2_isKey_0 ?_
  refine x_if_lt hC 16 dX2_isKey_1 rfl (fun h1 => ?_) (fun h1 => ?_)
  · -- 1 T
    refine x_iconst hC (v := (nI 0)) dX2_isKey_16 rfl ?_
    exact x_zret hC hR dX2_isKey_17 rfl (⟨by first | exact isI_f0 h1 | exact isI_f1 (by omega) h9 | exact isI_t1 (by omega) h1 h9, rfl⟩)
  · -- 1 F
    refine x_iload_n hC 1 rfl dX2_isKey_4 ?_
    refine x_aload_n hC 0 rfl dX2_isKey_5 ?_
    refine x_callVI hC cw_X2_17 (c_X2_keys  (k := k) (by first | assumption | omega) (by first | assumption | omega)) dX2_isKey_6 [.int x] rfl (Nat.le_of_ble_eq_true rfl) rfl (rm_ok hRm (by decide) (by decide)) 2 2 rfl rfl (fun r6 m6 hp6 => ?_)
    obtain ⟨rfl, rfl⟩ := hp6
    refine x_icmp_ge hC 16 dX2_isKey_9 rfl (fun h9 => ?_) (fun h9 => ?_)
    · -- 9 T
      refine x_iconst hC (v := (nI 0)) dX2_isKey_16 rfl ?_
      exact x_zret hC hR dX2_isKey_17 rfl (⟨by first | exact isI_f0 h1 | exact isI_f1 (by omega) h9 | exact isI_t1 (by omega) h1 h9, rfl⟩)
    · -- 9 F
      refine x_iconst hC (v := (nI 1)) dX2_isKey_12 rfl ?_
      refine x_goto hC 17 dX2_isKey_13 rfl ?_
      exact x_zret hC hR dX2_isKey_17 rfl (⟨by first | exact isI_f0 h1 | exact isI_f1 (by omega) h9 | exact isI_t1 (by omega) h1 h9, rfl⟩)
set_option maxHeartbeats 4000000 in
set_option maxRecDepth 100000 in
theorem c_X2_nearestKey {l : Launch} {D : va_G} {c : Nat → ClassId} {a : Nat → Nat} {μ : Me} {w k : Nat} {W : Nat → Nat} (h2 : μ 0 2 = nI k) (hk : k ≤ 6) (h11 : ∀ j, j < 2 ^ k → μ 11 j = nI (W j)) (hWb : ∀ j, j < 2 ^ k → W j < 16384) (hw : w < 16384) : KI l D (tyE c) (xw c a) yX2_nearestKey cX2_nearestKey 7 .int (rmL 2) [.ref (a 2), .int (nI w)] μ (fun r u => r = nI (amin (fun j => pc (W j ^^^ w)) (2 ^ k)) ∧ μ = u) := by
  refine x_enterI (by decide) (Nat.le_of_ble_eq_true rfl) (fun F hl hD hn hRm hC hR => ?_)
  subst hl hD
  change XW F 0 0 (xw c a μ) [(0, .ref (a 2)), (1, .int (nI w))] 0 []
  change FC F cX2_nearestKey RX2 (tyE c) at hC
  have hp := pow_le64 hk
  have hp1 : 1 ≤ 2 ^ k := Nat.one_le_two_pow
  refine x_iconst hC (v := (nI 0)) dX2_nearestKey_0 rfl ?_
  refine x_istore_n hC [(2, .int (nI 0)), (0, .ref (a 2)), (1, .int (nI w))] rfl (lt_n hn rfl) dX2_nearestKey_1 ?_
  refine x_aload_n hC 1 rfl dX2_nearestKey_2 ?_
  refine x_get hC fl_X2_13 dX2_nearestKey_3 2 rfl rfl ?_
  refine x_iconst hC (v := (nI 0)) dX2_nearestKey_6 rfl ?_
  refine x_iald hC 11 0 rfl rfl (y := (nI (W 0))) (by decide) (by decide) (h11 0 (by omega)) dX2_nearestKey_7 ?_
  refine x_iload_n hC 2 rfl dX2_nearestKey_8 ?_
  refine x_ixorE hC (z := (nI ((W 0) ^^^ w))) (nI_xor _ _) dX2_nearestKey_9 ?_
  refine x_callN hC cs_X2_21 (c_J6_bitCount_0f7a4 (w := ((W 0) ^^^ w))  (xor_lt14 (hWb 0 (by omega)) hw)) dX2_nearestKey_10 [] rfl (Nat.le_of_ble_eq_true rfl) rfl (rm_ok hRm (by decide) (by decide)) ?_
  refine x_istore_n hC [(3, .int (nI (pc ((W 0) ^^^ w)))), (2, .int (nI 0)), (0, .ref (a 2)), (1, .int (nI w))] rfl (lt_n hn rfl) dX2_nearestKey_13 ?_
  refine x_aload_n hC 2 rfl dX2_nearestKey_14 ?_
  refine x_callVI hC cw_X2_17 (c_X2_keys  (k := k) (by first | assumption | omega) (by first | assumption | omega)) dX2_nearestKey_15 [] rfl (Nat.le_of_ble_eq_true rfl) rfl (rm_ok hRm (by decide) (by decide)) 2 2 rfl rfl (fun r15 m15 hp15 => ?_)
  obtain ⟨rfl, rfl⟩ := hp15
  refine x_istore hC [(4, .int (nI (2 ^ k))), (3, .int (nI (pc ((W 0) ^^^ w)))), (2, .int (nI 0)), (0, .ref (a 2)), (1, .int (nI w))] rfl (lt_n hn rfl) dX2_nearestKey_18 ?_
  refine x_iconst hC (v := (nI 1)) dX2_nearestKey_20 rfl ?_
  refine x_istore hC [(5, .int (nI 1)), (4, .int (nI (2 ^ k))), (3, .int (nI (pc ((W 0) ^^^ w)))), (2, .int (nI 0)), (0, .ref (a 2)), (1, .int (nI w))] rfl (lt_n hn rfl) dX2_nearestKey_21 ?_
  refine x_lv [4, 5, 3, 2, 1, 0] rfl ?_
  have L23 : ∀ (N23 : Nat) (b : Nat) (fw : Nat) (i : Nat), 2 ^ k - i < N23 → (1 ≤ i ∧ i ≤ 2 ^ k) → (b = amin (fun j => pc (W j ^^^ w)) i) → (fw = pc (W b ^^^ w)) → XW F 0 0 (xw c a μ) [(0, .ref (a 2)), (1, .int (nI w)), (2, .int (nI b)), (3, .int (nI fw)), (4, .int (nI (2 ^ k))), (5, .int (nI i))] 23 [] := by
    intro N23
    induction N23 with
    | zero => intro b fw i hN23 hi hb hf; exact absurd hN23 (by omega)
    | succ N23 ih23 =>
      intro b fw i hN23 hi hb hf
      refine x_iload hC 5 rfl dX2_nearestKey_23 ?_
      refine x_iload hC 4 rfl dX2_nearestKey_25 ?_
      refine x_icmp_geN hC 62 dX2_nearestKey_27 rfl (by omega) (by omega) (fun h27 => ?_) (fun h27 => ?_)
      · -- 27 T
        refine x_iload_n hC 2 rfl dX2_nearestKey_62 ?_
        exact x_iret hC hR dX2_nearestKey_63 (⟨by rw [hb, show i = 2 ^ k by omega], rfl⟩)
      · -- 27 F
        refine x_aload_n hC 0 rfl dX2_nearestKey_30 ?_
        refine x_get hC fl_X2_13 dX2_nearestKey_31 2 rfl rfl ?_
        refine x_iload hC 5 rfl dX2_nearestKey_34 ?_
        refine x_iald hC 11 0 rfl rfl (y := (nI (W i))) (by omega) (by decide) (h11 i (by omega)) dX2_nearestKey_36 ?_
        refine x_iload_n hC 1 rfl dX2_nearestKey_37 ?_
        refine x_ixorE hC (z := (nI ((W i) ^^^ w))) (nI_xor _ _) dX2_nearestKey_38 ?_
        refine x_callN hC cs_X2_21 (c_J6_bitCount_0f7a4 (w := ((W i) ^^^ w))  (xor_lt14 (hWb i (by omega)) hw)) dX2_nearestKey_39 [] rfl (Nat.le_of_ble_eq_true rfl) rfl (rm_ok hRm (by decide) (by decide)) ?_
        refine x_istore hC [(6, .int (nI (pc ((W i) ^^^ w)))), (0, .ref (a 2)), (1, .int (nI w)), (2, .int (nI b)), (3, .int (nI fw)), (4, .int (nI (2 ^ k))), (5, .int (nI i))] rfl (lt_n hn rfl) dX2_nearestKey_42 ?_
        refine x_iload hC 0 rfl dX2_nearestKey_44 ?_
        refine x_iload_n hC 4 rfl dX2_nearestKey_46 ?_
        refine x_icmp_geN hC 56 dX2_nearestKey_47 rfl (by have := pc_le (W i ^^^ w); omega) (by have := pc_le (W b ^^^ w); omega) (fun h47 => ?_) (fun h47 => ?_)
        · -- 47 T
          refine x_iinc hC (z := 1) (v := (nI (i + 1))) 6 rfl (nI_add i 1) [(5, .int (nI (i + 1))), (6, .int (nI (pc ((W i) ^^^ w)))), (0, .ref (a 2)), (1, .int (nI w)), (2, .int (nI b)), (3, .int (nI fw)), (4, .int (nI (2 ^ k)))] rfl (lt_n hn rfl) dX2_nearestKey_56 ?_
          refine x_goto hC 23 dX2_nearestKey_59 rfl ?_
          refine x_lv [2, 3, 4, 5, 6, 0] rfl ?_
          exact ih23 b fw (i + 1) (by omega) (by omega) (by rw [amin_S, if_neg (by rw [← hb]; omega)]; exact hb) hf
        · -- 47 F
          refine x_iload hC 0 rfl dX2_nearestKey_50 ?_
          refine x_istore_n hC [(3, .int (nI (pc ((W i) ^^^ w)))), (6, .int (nI (pc ((W i) ^^^ w)))), (0, .ref (a 2)), (1, .int (nI w)), (2, .int (nI b)), (4, .int (nI (2 ^ k))), (5, .int (nI i))] rfl (lt_n hn rfl) dX2_nearestKey_52 ?_
          refine x_iload hC 6 rfl dX2_nearestKey_53 ?_
          refine x_istore_n hC [(2, .int (nI i)), (3, .int (nI (pc ((W i) ^^^ w)))), (6, .int (nI (pc ((W i) ^^^ w)))), (0, .ref (a 2)), (1, .int (nI w)), (4, .int (nI (2 ^ k))), (5, .int (nI i))] rfl (lt_n hn rfl) dX2_nearestKey_55 ?_
          refine x_iinc hC (z := 1) (v := (nI (i + 1))) 6 rfl (nI_add i 1) [(5, .int (nI (i + 1))), (2, .int (nI i)), (3, .int (nI (pc ((W i) ^^^ w)))), (6, .int (nI (pc ((W i) ^^^ w)))), (0, .ref (a 2)), (1, .int (nI w)), (4, .int (nI (2 ^ k)))] rfl (lt_n hn rfl) dX2_nearestKey_56 ?_
          refine x_goto hC 23 dX2_nearestKey_59 rfl ?_
          refine x_lv [4, 5, 1, 2, 6, 0] rfl ?_
          exact ih23 i (pc ((W i) ^^^ w)) (i + 1) (by omega) (by omega) (by rw [amin_S, if_pos (by rw [← hb]; omega)]) rfl
  exact L23 _ 0 (pc ((W 0) ^^^ w)) 1 (Nat.lt_succ_self _) (by omega) (by rw [amin_1]) rfl
set_option maxHeartbeats 4000000 in
set_option maxRecDepth 100000 in
theorem c_X3_growTo {l : Launch} {D : va_G} {c : Nat → ClassId} {a : Nat → Nat} {μ : Me} {age n m : Nat} {ch we : Nat → Nat} (hn0 : μ 0 0 = nI n) (hm0 : μ 0 1 = nI m) (hb : n ≤ 14) (hmb : m < 2 ^ 31) (h8 : ∀ j, j < 14 → μ 8 j = nI (ch j)) (h9 : ∀ j, j < 14 → μ 9 j = nI (we j)) (hcb : ∀ j, j < 14 → ch j ≤ 4 ∧ we j ≤ 4) (ha : age ≤ 40) : KV l D (tyE c) (xw c a) yX3_growTo cX3_growTo 5 (rmL 3) [.ref (a 5), .int (nI age)] μ (fun u => ∃ f g, u = setc (setc μ 23 f) 24 g ∧ ∀ j, j < n → f j = nI (flp m (fun j => ag (ch j) (we j) age) j) ∧ g j = nI (sty m (fun j => ag (ch j) (we j) age) j)) := by
  refine x_enterV (by decide) (Nat.le_of_ble_eq_true rfl) (fun F hl hD hn hRm hC hR => ?_)
  subst hl hD
  change XW F 0 0 (xw c a μ) [(0, .ref (a 5)), (1, .int (nI age))] 0 []
  change FC F cX3_growTo RX3 (tyE c) at hC
  refine x_iconst hC (v := (nI 0)) dX3_growTo_0 rfl ?_
  refine x_istore_n hC [(2, .int (nI 0)), (0, .ref (a 5)), (1, .int (nI age))] rfl (lt_n hn rfl) dX3_growTo_1 ?_
  refine x_lv [1, 2, 0] rfl ?_
  have L2 : ∀ (N2 : Nat) (f : Nat → Int32) (g : Nat → Int32) (i : Nat), n - i < N2 → (i ≤ n) → (∀ j, j < i → f j = nI (flp m (fun j => ag (ch j) (we j) age) j) ∧ g j = nI (sty m (fun j => ag (ch j) (we j) age) j)) → XW F 0 0 (xw c a (setc (setc μ 23 f) 24 g)) [(0, .ref (a 5)), (1, .int (nI age)), (2, .int (nI i))] 2 [] := by
    intro N2
    induction N2 with
    | zero => intro f g i hN2 hi hf; exact absurd hN2 (by omega)
    | succ N2 ih2 =>
      intro f g i hN2 hi hf
      refine x_iload_n hC 2 rfl dX3_growTo_2 ?_
      refine x_aload_n hC 0 rfl dX3_growTo_3 ?_
      refine x_get hC fl_X3_20 dX3_growTo_4 5 rfl rfl ?_
      refine x_get hC fl_X3_49 dX3_growTo_7 1 rfl (v := .int (nI n)) (xv hn0) ?_
      refine x_icmp_geN hC 74 dX3_growTo_10 rfl (by omega) (by omega) (fun h10 => ?_) (fun h10 => ?_)
      · -- 10 T
        exact x_vret hC hR dX3_growTo_74 (⟨f, g, rfl, fun j h => hf j (by omega)⟩)
      · -- 10 F
        refine x_aload_n hC 0 rfl dX3_growTo_13 ?_
        refine x_get hC fl_X3_20 dX3_growTo_14 5 rfl rfl ?_
        refine x_iload_n hC 2 rfl dX3_growTo_17 ?_
        refine x_callVI hC cw_X3_53 (c_X0_isMasked (i := i) (m := m) hm0 hmb (by omega)) dX3_growTo_18 [] rfl (Nat.le_of_ble_eq_true rfl) rfl (rm_ok hRm (by decide) (by decide)) 0 1 rfl rfl (fun r18 m18 hp18 => ?_)
        obtain ⟨rfl, rfl⟩ := hp18
        refine x_istore_n hC [(3, .int (bz (decide (bt m i = 1)))), (0, .ref (a 5)), (1, .int (nI age)), (2, .int (nI i))] rfl (lt_n hn rfl) dX3_growTo_21 ?_
        refine x_aload_n hC 1 rfl dX3_growTo_22 ?_
        refine x_get hC fl_X3_20 dX3_growTo_23 5 rfl rfl ?_
        refine x_iload_n hC 3 rfl dX3_growTo_26 ?_
        refine x_iload_n hC 2 rfl dX3_growTo_27 ?_
        refine x_callVI hC cw_X3_56 (c_X0_agedChance (i := i) (age := age) (p := (ch i)) (q := (we i)) (h8 i (by omega)) (h9 i (by omega)) (by omega) (hcb i (by omega)).1 (hcb i (by omega)).2 ha) dX3_growTo_28 [] rfl (Nat.le_of_ble_eq_true rfl) rfl (rm_ok hRm (by decide) (by decide)) 0 1 rfl rfl (fun r28 m28 hp28 => ?_)
        obtain ⟨rfl, rfl⟩ := hp28
        refine x_istore hC [(4, .int (nI (ag (ch i) (we i) age))), (3, .int (bz (decide (bt m i = 1)))), (0, .ref (a 5)), (1, .int (nI age)), (2, .int (nI i))] rfl (lt_n hn rfl) dX3_growTo_31 ?_
        refine x_aload_n hC 2 rfl dX3_growTo_33 ?_
        refine x_get hC fl_X3_11 dX3_growTo_34 5 rfl rfl ?_
        refine x_iload_n hC 4 rfl dX3_growTo_37 ?_
        refine x_iload_n hC 1 rfl dX3_growTo_38 ?_
        refine x_if_eqB hC 46 dX3_growTo_39 rfl (fun h39 => ?_) (fun h39 => ?_)
        · -- 39 T
          replace h39 := of_decide_eq_false h39
          refine x_iload hC 0 rfl dX3_growTo_46 ?_
          refine x_iast hC 23 0 rfl rfl (by omega) (by decide) (xw c a (setc (setc μ 23 (upd f i (nI (ag (ch i) (we i) age)))) 24 g)) rfl dX3_growTo_48 ?_
          refine x_aload_n hC 2 rfl dX3_growTo_49 ?_
          refine x_get hC fl_X3_17 dX3_growTo_50 5 rfl rfl ?_
          refine x_iload_n hC 4 rfl dX3_growTo_53 ?_
          refine x_iload_n hC 1 rfl dX3_growTo_54 ?_
          refine x_if_eq_T hC 62 dX3_growTo_55 rfl (by simp [bz, h39]) ?_
          refine x_bipush hC (v := (nI 8)) dX3_growTo_62 rfl ?_
          refine x_iload hC 0 rfl dX3_growTo_64 ?_
          refine x_isubE hC (z := (nI (8 - (ag (ch i) (we i) age)))) (pk_sub (by unfold ag; omega)) dX3_growTo_66 ?_
          refine x_iast hC 24 0 rfl rfl (by omega) (by decide) (xw c a (setc (setc μ 23 (upd f i (nI (ag (ch i) (we i) age)))) 24 (upd g i (nI (8 - (ag (ch i) (we i) age)))))) rfl dX3_growTo_67 ?_
          refine x_iinc hC (z := 1) (v := (nI (i + 1))) 4 rfl (nI_add i 1) [(2, .int (nI (i + 1))), (4, .int (nI (ag (ch i) (we i) age))), (3, .int (bz (decide (bt m i = 1)))), (0, .ref (a 5)), (1, .int (nI age))] rfl (lt_n hn rfl) dX3_growTo_68 ?_
          refine x_goto hC 2 dX3_growTo_71 rfl ?_
          refine x_lv [3, 4, 0] rfl ?_
          exact ih2 (upd f i (nI (ag (ch i) (we i) age))) (upd g i (nI (8 - (ag (ch i) (we i) age)))) (i + 1) (by omega) (by omega) (upd_two (Q := fun j x y => x = nI (flp m (fun j => ag (ch j) (we j) age) j) ∧ y = nI (sty m (fun j => ag (ch j) (we j) age) j)) hf (by simp [flp, sty, h39]))
        · -- 39 F
          replace h39 := of_decide_eq_true h39
          refine x_iconst hC (v := (nI 0)) dX3_growTo_42 rfl ?_
          refine x_goto hC 48 dX3_growTo_43 rfl ?_
          refine x_iast hC 23 0 rfl rfl (by omega) (by decide) (xw c a (setc (setc μ 23 (upd f i (nI 0))) 24 g)) rfl dX3_growTo_48 ?_
          refine x_aload_n hC 2 rfl dX3_growTo_49 ?_
          refine x_get hC fl_X3_17 dX3_growTo_50 5 rfl rfl ?_
          refine x_iload_n hC 4 rfl dX3_growTo_53 ?_
          refine x_iload_n hC 1 rfl dX3_growTo_54 ?_
          refine x_if_eq_F hC 62 dX3_growTo_55 rfl (by simp [bz, h39]) ?_
          refine x_iconst hC (v := (nI 1)) dX3_growTo_58 rfl ?_
          refine x_goto hC 67 dX3_growTo_59 rfl ?_
          refine x_iast hC 24 0 rfl rfl (by omega) (by decide) (xw c a (setc (setc μ 23 (upd f i (nI 0))) 24 (upd g i (nI 1)))) rfl dX3_growTo_67 ?_
          refine x_iinc hC (z := 1) (v := (nI (i + 1))) 4 rfl (nI_add i 1) [(2, .int (nI (i + 1))), (4, .int (nI (ag (ch i) (we i) age))), (3, .int (bz (decide (bt m i = 1)))), (0, .ref (a 5)), (1, .int (nI age))] rfl (lt_n hn rfl) dX3_growTo_68 ?_
          refine x_goto hC 2 dX3_growTo_71 rfl ?_
          refine x_lv [3, 4, 0] rfl ?_
          exact ih2 (upd f i (nI 0)) (upd g i (nI 1)) (i + 1) (by omega) (by omega) (upd_two (Q := fun j x y => x = nI (flp m (fun j => ag (ch j) (we j) age) j) ∧ y = nI (sty m (fun j => ag (ch j) (we j) age) j)) hf (by simp [flp, sty, h39]))
  exact L2 _ (μ 23) (μ 24) 0 (Nat.lt_succ_self _) (by omega) (fun j h => absurd h (by omega))
set_option maxHeartbeats 4000000 in
set_option maxRecDepth 100000 in
theorem c_X3_harmless {l : Launch} {D : va_G} {c : Nat → ClassId} {a : Nat → Nat} {μ : Me} {n k key : Nat} {W fl sy : Nat → Nat} (hn0 : μ 0 0 = nI n) (hb : n ≤ 14) (h2 : μ 0 2 = nI k) (hk : k ≤ 6) (h11 : ∀ j, j < 2 ^ k → μ 11 j = nI (W j)) (hWb : ∀ j, j < 2 ^ k → W j < 16384) (h23 : ∀ j, j < n → μ 23 j = nI (fl j)) (h24 : ∀ j, j < n → μ 24 j = nI (sy j)) (hfb : ∀ j, j < n → fl j ≤ 8 ∧ sy j ≤ 8) (hkey : key < 2 ^ k) : ∀ (d cell w ways : Nat), cell + d = n → w < 16384 → KL l D (tyE c) (xw c a) yX3_harmless cX3_harmless 9 (rmL (3 + d)) [.ref (a 5), .int (nI key), .int (nI cell), .int (nI w), .long (lN ways)] μ (fun r u => r = lN (ways * hlx fl sy (fun v => amin (fun j => pc (W j ^^^ v)) (2 ^ k)) key n d w) ∧ μ = u) := by
  intro d
  induction d with
  | zero =>
    intro cell w ways hcd hw
    refine x_enterL (by decide) (Nat.le_of_ble_eq_true rfl) (fun F hl hD hn hRm hC hR => ?_)
    subst hl hD
    change XW F 0 0 (xw c a μ) [(0, .ref (a 5)), (1, .int (nI key)), (2, .int (nI cell)), (3, .int (nI w)), (4, .long (lN ways))] 0 []
    change FC F cX3_harmless RX3 (tyE c) at hC
    refine x_iload_n hC 2 rfl dX3_harmless_0 ?_
    refine x_aload_n hC 0 rfl dX3_harmless_1 ?_
    refine x_get hC fl_X3_20 dX3_harmless_2 5 rfl rfl ?_
    refine x_get hC fl_X3_49 dX3_harmless_5 1 rfl (v := .int (nI n)) (xv hn0) ?_
    refine x_icmp_ltN hC 14 dX3_harmless_8 rfl (by omega) (by omega) (fun h8 => ?_) (fun h8 => ?_)
    · -- 8 T
      exact absurd h8 (by omega)
    · -- 8 F
      refine x_lload hC 4 rfl dX3_harmless_11 ?_
      exact x_lret hC hR dX3_harmless_13 (⟨by rw [hlx, Nat.mul_one], rfl⟩)
  | succ d ih =>
    intro cell w ways hcd hw
    refine x_enterL (by decide) (Nat.le_of_ble_eq_true rfl) (fun F hl hD hn hRm hC hR => ?_)
    subst hl hD
    change XW F 0 0 (xw c a μ) [(0, .ref (a 5)), (1, .int (nI key)), (2, .int (nI cell)), (3, .int (nI w)), (4, .long (lN ways))] 0 []
    change FC F cX3_harmless RX3 (tyE c) at hC
    refine x_iload_n hC 2 rfl dX3_harmless_0 ?_
    refine x_aload_n hC 0 rfl dX3_harmless_1 ?_
    refine x_get hC fl_X3_20 dX3_harmless_2 5 rfl rfl ?_
    refine x_get hC fl_X3_49 dX3_harmless_5 1 rfl (v := .int (nI n)) (xv hn0) ?_
    refine x_icmp_ltN hC 14 dX3_harmless_8 rfl (by omega) (by omega) (fun h8 => ?_) (fun h8 => ?_)
    · -- 8 T
      have hfc := hfb cell (by omega)
      have hp := pow_le64 hk
      have hp1 : 1 ≤ 2 ^ k := Nat.one_le_two_pow
      have hnk := amin_lt (fun j => pc (W j ^^^ (w ^^^ 2 ^ cell))) (m := 2 ^ k) (by omega)
      refine x_aload_n hC 0 rfl dX3_harmless_14 ?_
      refine x_iload_n hC 1 rfl dX3_harmless_15 ?_
      refine x_iload_n hC 2 rfl dX3_harmless_16 ?_
      refine x_iconst hC (v := (nI 1)) dX3_harmless_17 rfl ?_
      refine x_iaddE hC (z := (nI (cell + 1))) (nI_add _ _) dX3_harmless_18 ?_
      refine x_iload_n hC 3 rfl dX3_harmless_19 ?_
      refine x_lload hC 4 rfl dX3_harmless_20 ?_
      refine x_aload_n hC 0 rfl dX3_harmless_22 ?_
      refine x_get hC fl_X3_17 dX3_harmless_23 5 rfl rfl ?_
      refine x_iload_n hC 2 rfl dX3_harmless_26 ?_
      refine x_iald hC 24 0 rfl rfl (y := (nI (sy cell))) (by omega) (by decide) (h24 cell (by omega)) dX3_harmless_27 ?_
      refine x_i2l hC (v := (lN (sy cell))) (nI_l (by omega)) dX3_harmless_28 ?_
      refine x_lmulE hC (z := (lN (ways * (sy cell)))) (lN_mul _ _) dX3_harmless_29 ?_
      refine x_callSL hC cs_X3_45 (w := xw c a) (m0 := μ) (ih (cell + 1) w (ways * sy cell) (by omega) hw) dX3_harmless_30 [] rfl (Nat.le_of_ble_eq_true rfl) rfl (rm_ok hRm (by omega) (by decide)) (fun r30 m30 hp30 => ?_)
      obtain ⟨rfl, rfl⟩ := hp30
      refine x_lstore hC [(6, .long (lN (ways * sy cell * hlx fl sy (fun v => amin (fun j => pc (W j ^^^ v)) (2 ^ k)) key n d w))), (0, .ref (a 5)), (1, .int (nI key)), (2, .int (nI cell)), (3, .int (nI w)), (4, .long (lN ways))] rfl (lt_n hn rfl) dX3_harmless_33 ?_
      have hw2 : w ^^^ 2 ^ cell < 16384 := xor_lt14 hw (pow_lt14 (by omega))
      refine x_iload_n hC 4 rfl dX3_harmless_35 ?_
      refine x_iconst hC (v := (nI 1)) dX3_harmless_36 rfl ?_
      refine x_iload_n hC 3 rfl dX3_harmless_37 ?_
      refine x_ishlE hC (z := (nI (2 ^ cell))) (nI_shl1 (by omega)) dX3_harmless_38 ?_
      refine x_ixorE hC (z := (nI (w ^^^ (2 ^ cell)))) (nI_xor _ _) dX3_harmless_39 ?_
      refine x_istore hC [(8, .int (nI (w ^^^ (2 ^ cell)))), (6, .long (lN (ways * sy cell * hlx fl sy (fun v => amin (fun j => pc (W j ^^^ v)) (2 ^ k)) key n d w))), (0, .ref (a 5)), (1, .int (nI key)), (2, .int (nI cell)), (3, .int (nI w)), (4, .long (lN ways))] rfl (lt_n hn rfl) dX3_harmless_40 ?_
      refine x_aload_n hC 2 rfl dX3_harmless_42 ?_
      refine x_get hC fl_X3_11 dX3_harmless_43 5 rfl rfl ?_
      refine x_iload_n hC 4 rfl dX3_harmless_46 ?_
      refine x_iald hC 23 0 rfl rfl (y := (nI (fl cell))) (by omega) (by decide) (h23 cell (by omega)) dX3_harmless_47 ?_
      refine x_if_leN hC 89 dX3_harmless_48 rfl (by omega) (fun h48 => ?_) (fun h48 => ?_)
      · -- 48 T
        refine x_lload hC 1 rfl dX3_harmless_89 ?_
        exact x_lret hC hR dX3_harmless_91 (⟨congrArg lN (by rw [hlx, show n - (d + 1) = cell by omega, if_neg (by omega)]; simp only [Nat.mul_add, Nat.mul_assoc, Nat.add_zero]), rfl⟩)
      · -- 48 F
        refine x_aload_n hC 2 rfl dX3_harmless_51 ?_
        refine x_get hC fl_X3_24 dX3_harmless_52 5 rfl rfl ?_
        refine x_iload hC 0 rfl dX3_harmless_55 ?_
        refine x_callVI hC cw_X3_60 (c_X2_nearestKey (w := (w ^^^ (2 ^ cell))) (k := k) (W := W) h2 hk h11 hWb hw2) dX3_harmless_57 [] rfl (Nat.le_of_ble_eq_true rfl) rfl (rm_ok hRm (by omega) (by decide)) 2 2 rfl rfl (fun r57 m57 hp57 => ?_)
        obtain ⟨rfl, rfl⟩ := hp57
        refine x_iload_n hC 3 rfl dX3_harmless_60 ?_
        refine x_icmp_neN hC 89 dX3_harmless_61 rfl (by omega) (by omega) (fun h61 => ?_) (fun h61 => ?_)
        · -- 61 T
          refine x_lload hC 1 rfl dX3_harmless_89 ?_
          exact x_lret hC hR dX3_harmless_91 (⟨congrArg lN (by rw [hlx, show n - (d + 1) = cell by omega, if_neg (fun q => h61 q.2)]; simp only [Nat.mul_add, Nat.mul_assoc, Nat.add_zero]), rfl⟩)
        · -- 61 F
          refine x_lload hC 1 rfl dX3_harmless_64 ?_
          refine x_aload_n hC 2 rfl dX3_harmless_66 ?_
          refine x_iload_n hC 3 rfl dX3_harmless_67 ?_
          refine x_iload_n hC 4 rfl dX3_harmless_68 ?_
          refine x_iconst hC (v := (nI 1)) dX3_harmless_69 rfl ?_
          refine x_iaddE hC (z := (nI (cell + 1))) (nI_add _ _) dX3_harmless_70 ?_
          refine x_iload hC 0 rfl dX3_harmless_71 ?_
          refine x_lload hC 6 rfl dX3_harmless_73 ?_
          refine x_aload_n hC 2 rfl dX3_harmless_75 ?_
          refine x_get hC fl_X3_11 dX3_harmless_76 5 rfl rfl ?_
          refine x_iload_n hC 4 rfl dX3_harmless_79 ?_
          refine x_iald hC 23 0 rfl rfl (y := (nI (fl cell))) (by omega) (by decide) (h23 cell (by omega)) dX3_harmless_80 ?_
          refine x_i2l hC (v := (lN (fl cell))) (nI_l (by omega)) dX3_harmless_81 ?_
          refine x_lmulE hC (z := (lN (ways * (fl cell)))) (lN_mul _ _) dX3_harmless_82 ?_
          refine x_callSL hC cs_X3_45 (w := xw c a) (m0 := μ) (ih (cell + 1) (w ^^^ 2 ^ cell) (ways * fl cell) (by omega) hw2) dX3_harmless_83 [.long (lN (ways * sy cell * hlx fl sy (fun v => amin (fun j => pc (W j ^^^ v)) (2 ^ k)) key n d w))] rfl (Nat.le_of_ble_eq_true rfl) rfl (rm_ok hRm (by omega) (by decide)) (fun r83 m83 hp83 => ?_)
          obtain ⟨rfl, rfl⟩ := hp83
          refine x_laddE hC (z := (lN ((ways * sy cell * hlx fl sy (fun v => amin (fun j => pc (W j ^^^ v)) (2 ^ k)) key n d w) + (ways * fl cell * hlx fl sy (fun v => amin (fun j => pc (W j ^^^ v)) (2 ^ k)) key n d (w ^^^ 2 ^ cell))))) (lN_add _ _) dX3_harmless_86 ?_
          refine x_lstore hC [(6, .long (lN ((ways * sy cell * hlx fl sy (fun v => amin (fun j => pc (W j ^^^ v)) (2 ^ k)) key n d w) + (ways * fl cell * hlx fl sy (fun v => amin (fun j => pc (W j ^^^ v)) (2 ^ k)) key n d (w ^^^ 2 ^ cell))))), (8, .int (nI (w ^^^ (2 ^ cell)))), (0, .ref (a 5)), (1, .int (nI key)), (2, .int (nI cell)), (3, .int (nI w)), (4, .long (lN ways))] rfl (lt_n hn rfl) dX3_harmless_87 ?_
          refine x_lload hC 0 rfl dX3_harmless_89 ?_
          exact x_lret hC hR dX3_harmless_91 (⟨congrArg lN (by rw [hlx, show n - (d + 1) = cell by omega, if_pos ⟨h48, h61⟩]; simp only [Nat.mul_add, Nat.mul_assoc, Nat.add_zero]), rfl⟩)
    · -- 8 F
      exact absurd h8 (by omega)
set_option maxHeartbeats 4000000 in
set_option maxRecDepth 100000 in
theorem c_X3_harmful {l : Launch} {D : va_G} {c : Nat → ClassId} {a : Nat → Nat} {μ : Me} {key age n m k : Nat} {ch we W : Nat → Nat} (hn0 : μ 0 0 = nI n) (hm0 : μ 0 1 = nI m) (hb : n ≤ 14) (hmb : m < 2 ^ 31) (h8 : ∀ j, j < 14 → μ 8 j = nI (ch j)) (h9 : ∀ j, j < 14 → μ 9 j = nI (we j)) (hcb : ∀ j, j < 14 → ch j ≤ 4 ∧ we j ≤ 4) (ha : age ≤ 40) (h2 : μ 0 2 = nI k) (hk : k ≤ 6) (h11 : ∀ j, j < 2 ^ k → μ 11 j = nI (W j)) (hWb : ∀ j, j < 2 ^ k → W j < 16384) (hkey : key < 2 ^ k) : KL l D (tyE c) (xw c a) yX3_harmful cX3_harmful 4 (rmL 41) [.ref (a 5), .int (nI key), .int (nI age)] μ (fun r u => r = lN (2 ^ (3 * pc (nd (2 ^ n - 1) m))) - lN (1 * hlx (flp m (fun j => ag (ch j) (we j) age)) (sty m (fun j => ag (ch j) (we j) age)) (fun v => amin (fun j => pc (W j ^^^ v)) (2 ^ k)) key n n (W key)) ∧ ∃ f g, u = setc (setc μ 23 f) 24 g) := by
  refine x_enterL (by decide) (Nat.le_of_ble_eq_true rfl) (fun F hl hD hn hRm hC hR => ?_)
  subst hl hD
  change XW F 0 0 (xw c a μ) [(0, .ref (a 5)), (1, .int (nI key)), (2, .int (nI age))] 0 []
  change FC F cX3_harmful RX3 (tyE c) at hC
  have hp := pow_le64 hk
  refine x_aload_n hC 0 rfl dX3_harmful_0 ?_
  refine x_iload_n hC 2 rfl dX3_harmful_1 ?_
  refine x_callVV hC cw_X3_28 (c_X3_growTo (age := age) (n := n) (m := m) (ch := ch) (we := we) (by first | assumption | omega) (by first | assumption | omega) (by first | assumption | omega) (by first | assumption | omega) (by first | assumption | omega) (by first | assumption | omega) (by first | assumption | omega) (by first | assumption | omega)) dX3_harmful_2 [] rfl (Nat.le_of_ble_eq_true rfl) rfl (rm_ok hRm (by decide) (by decide)) 3 5 rfl rfl (fun m2 hp2 => ?_)
  obtain ⟨f, g, rfl, hfg⟩ := hp2
  refine x_aload_n hC 0 rfl dX3_harmful_5 ?_
  refine x_get hC fl_X3_24 dX3_harmful_6 5 rfl rfl ?_
  refine x_iload_n hC 1 rfl dX3_harmful_9 ?_
  refine x_callVI hC cw_X3_32 (c_X2_isKey (x := (nI key)) (k := k) (by first | assumption | omega) (by first | assumption | omega)) dX3_harmful_10 [] rfl (Nat.le_of_ble_eq_true rfl) rfl (rm_ok hRm (by decide) (by decide)) 2 2 rfl rfl (fun r10 m10 hp10 => ?_)
  obtain ⟨rfl, rfl⟩ := hp10
  refine x_if_eq_F hC 28 dX3_harmful_13 rfl (by rw [isI_in (by omega) hkey]; decide) ?_
  refine x_aload_n hC 0 rfl dX3_harmful_16 ?_
  refine x_get hC fl_X3_24 dX3_harmful_17 5 rfl rfl ?_
  refine x_get hC fl_X3_38 dX3_harmful_20 2 rfl rfl ?_
  refine x_iload_n hC 1 rfl dX3_harmful_23 ?_
  refine x_iald hC 11 0 rfl rfl (y := (nI (W key))) (by omega) (by decide) (h11 key (by omega)) dX3_harmful_24 ?_
  refine x_goto hC 29 dX3_harmful_25 rfl ?_
  refine x_istore_n hC [(3, .int (nI (W key))), (0, .ref (a 5)), (1, .int (nI key)), (2, .int (nI age))] rfl (lt_n hn rfl) dX3_harmful_29 ?_
  refine x_aload_n hC 1 rfl dX3_harmful_30 ?_
  refine x_get hC fl_X3_20 dX3_harmful_31 5 rfl rfl ?_
  refine x_callVL hC cw_X3_41 (c_X0_allWays  (n := n) (m := m) (by first | assumption | omega) (by first | assumption | omega) (by first | assumption | omega)) dX3_harmful_34 [] rfl (Nat.le_of_ble_eq_true rfl) rfl (rm_ok hRm (by decide) (by decide)) 0 1 rfl rfl (fun r34 m34 hp34 => ?_)
  obtain ⟨rfl, rfl⟩ := hp34
  refine x_aload_n hC 1 rfl dX3_harmful_37 ?_
  refine x_iload_n hC 2 rfl dX3_harmful_38 ?_
  refine x_iconst hC (v := (nI 0)) dX3_harmful_39 rfl ?_
  refine x_iload_n hC 0 rfl dX3_harmful_40 ?_
  refine x_lconst hC (v := lN 1) dX3_harmful_41 rfl ?_
  refine x_callSL hC cs_X3_45 (w := xw c a) (m0 := (setc (setc μ 23 f) 24 g)) (c_X3_harmless (μ := (setc (setc μ 23 f) 24 g)) (W := W) (fl := (flp m (fun j => ag (ch j) (we j) age))) (sy := (sty m (fun j => ag (ch j) (we j) age))) hn0 hb h2 hk h11 hWb (fun j h => (hfg j h).1) (fun j h => (hfg j h).2) (fun j h => by simp only [flp, sty, ag]; split <;> omega) hkey n 0 (W key) 1 (by omega) (hWb key hkey)) dX3_harmful_42 [.long (lN (2 ^ (3 * pc (nd (2 ^ n - 1) m))))] rfl (Nat.le_of_ble_eq_true rfl) rfl (rm_ok hRm (by omega) (by decide)) (fun r42 m42 hp42 => ?_)
  obtain ⟨rfl, rfl⟩ := hp42
  refine x_lsubE hC (z := ((lN (2 ^ (3 * pc (nd (2 ^ n - 1) m)))) - (lN (1 * hlx (flp m (fun j => ag (ch j) (we j) age)) (sty m (fun j => ag (ch j) (we j) age)) (fun v => amin (fun j => pc (W j ^^^ v)) (2 ^ k)) key n n (W key))))) (rfl) dX3_harmful_45 ?_
  exact x_lret hC hR dX3_harmful_46 (⟨rfl, f, g, rfl⟩)
end
