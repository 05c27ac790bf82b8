section
-- ===== PART A: goes FIRST, ahead of the names: the tables' words, and 'selects' of the private methods out of them =====
/-- a private method of a class that the tables say can be made, by its rows of tables_1 -/
def lw_okq (q : MethodName × Nat) : Prop := (q.1.cls ≠ "java/lang/invoke/MethodHandle" ∧ q.1.cls ≠ "java/lang/invoke/VarHandle") ∧ Cond.instantiable q.1.cls q.2 ∈ tables_1 ∧ Cond.privateMethod q.1 ∈ tables_1 ∧ Cond.instanceMethod q.1 ∈ tables_1
theorem lw_p0 : lw_okq (⟨"GalaHeatsModel", "changes", "()V"⟩, 15) := ⟨⟨by decide +kernel, by decide +kernel⟩, List.mem_of_getElem? (i := 710) (by decide +kernel), List.mem_of_getElem? (i := 772) (by decide +kernel), List.mem_of_getElem? (i := 773) (by decide +kernel)⟩
theorem lw_p1 : lw_okq (⟨"GalaHeatsModel", "lay", "(III)V"⟩, 15) := ⟨⟨by decide +kernel, by decide +kernel⟩, List.mem_of_getElem? (i := 710) (by decide +kernel), List.mem_of_getElem? (i := 776) (by decide +kernel), List.mem_of_getElem? (i := 777) (by decide +kernel)⟩
theorem lw_p2 : lw_okq (⟨"GalaHeatsModel", "isSwimmer", "(I)Z"⟩, 15) := ⟨⟨by decide +kernel, by decide +kernel⟩, List.mem_of_getElem? (i := 710) (by decide +kernel), List.mem_of_getElem? (i := 784) (by decide +kernel), List.mem_of_getElem? (i := 785) (by decide +kernel)⟩
theorem lw_p3 : lw_okq (⟨"GalaHeatsModel", "isGone", "(I)Z"⟩, 15) := ⟨⟨by decide +kernel, by decide +kernel⟩, List.mem_of_getElem? (i := 710) (by decide +kernel), List.mem_of_getElem? (i := 788) (by decide +kernel), List.mem_of_getElem? (i := 789) (by decide +kernel)⟩
theorem lw_p4 : lw_okq (⟨"GalaHeatsModel", "of", "(II)I"⟩, 15) := ⟨⟨by decide +kernel, by decide +kernel⟩, List.mem_of_getElem? (i := 710) (by decide +kernel), List.mem_of_getElem? (i := 792) (by decide +kernel), List.mem_of_getElem? (i := 793) (by decide +kernel)⟩
theorem lw_p5 : lw_okq (⟨"GalaHeatsModel", "calls", "(I)I"⟩, 15) := ⟨⟨by decide +kernel, by decide +kernel⟩, List.mem_of_getElem? (i := 710) (by decide +kernel), List.mem_of_getElem? (i := 796) (by decide +kernel), List.mem_of_getElem? (i := 797) (by decide +kernel)⟩
theorem lw_p6 : lw_okq (⟨"GalaHeatsModel", "firstReserve", "()I"⟩, 15) := ⟨⟨by decide +kernel, by decide +kernel⟩, List.mem_of_getElem? (i := 710) (by decide +kernel), List.mem_of_getElem? (i := 800) (by decide +kernel), List.mem_of_getElem? (i := 801) (by decide +kernel)⟩
theorem lw_p7 : lw_okq (⟨"GalaHeatsModel", "present", "()I"⟩, 15) := ⟨⟨by decide +kernel, by decide +kernel⟩, List.mem_of_getElem? (i := 710) (by decide +kernel), List.mem_of_getElem? (i := 813) (by decide +kernel), List.mem_of_getElem? (i := 814) (by decide +kernel)⟩
theorem lw_p8 : lw_okq (⟨"GalaHeatsModel", "plans", "()I"⟩, 15) := ⟨⟨by decide +kernel, by decide +kernel⟩, List.mem_of_getElem? (i := 710) (by decide +kernel), List.mem_of_getElem? (i := 817) (by decide +kernel), List.mem_of_getElem? (i := 818) (by decide +kernel)⟩
theorem lw_p9 : lw_okq (⟨"GalaHeatsModel", "lanes", "()I"⟩, 15) := ⟨⟨by decide +kernel, by decide +kernel⟩, List.mem_of_getElem? (i := 710) (by decide +kernel), List.mem_of_getElem? (i := 821) (by decide +kernel), List.mem_of_getElem? (i := 822) (by decide +kernel)⟩
theorem lw_p10 : lw_okq (⟨"GalaHeatsModel", "heatFor", "(II)I"⟩, 15) := ⟨⟨by decide +kernel, by decide +kernel⟩, List.mem_of_getElem? (i := 710) (by decide +kernel), List.mem_of_getElem? (i := 825) (by decide +kernel), List.mem_of_getElem? (i := 826) (by decide +kernel)⟩
theorem lw_p11 : lw_okq (⟨"GalaHeatsModel", "sizeOf", "(II)I"⟩, 15) := ⟨⟨by decide +kernel, by decide +kernel⟩, List.mem_of_getElem? (i := 710) (by decide +kernel), List.mem_of_getElem? (i := 829) (by decide +kernel), List.mem_of_getElem? (i := 830) (by decide +kernel)⟩
theorem lw_p12 : lw_okq (⟨"GalaHeatsModel", "entryRank", "(I)I"⟩, 15) := ⟨⟨by decide +kernel, by decide +kernel⟩, List.mem_of_getElem? (i := 710) (by decide +kernel), List.mem_of_getElem? (i := 833) (by decide +kernel), List.mem_of_getElem? (i := 834) (by decide +kernel)⟩
theorem lw_p13 : lw_okq (⟨"GalaHeatsModel", "entryKey", "(I)I"⟩, 15) := ⟨⟨by decide +kernel, by decide +kernel⟩, List.mem_of_getElem? (i := 710) (by decide +kernel), List.mem_of_getElem? (i := 837) (by decide +kernel), List.mem_of_getElem? (i := 838) (by decide +kernel)⟩
theorem lw_p14 : lw_okq (⟨"GalaHeatsModel", "laneIn", "(I)I"⟩, 15) := ⟨⟨by decide +kernel, by decide +kernel⟩, List.mem_of_getElem? (i := 710) (by decide +kernel), List.mem_of_getElem? (i := 841) (by decide +kernel), List.mem_of_getElem? (i := 842) (by decide +kernel)⟩
theorem lw_p15 : lw_okq (⟨"GalaHeatsModel", "laneOf", "(I)I"⟩, 15) := ⟨⟨by decide +kernel, by decide +kernel⟩, List.mem_of_getElem? (i := 710) (by decide +kernel), List.mem_of_getElem? (i := 845) (by decide +kernel), List.mem_of_getElem? (i := 846) (by decide +kernel)⟩
def lw_privs_1 : List (MethodName × Nat) := [(⟨"GalaHeatsModel", "changes", "()V"⟩, 15), (⟨"GalaHeatsModel", "lay", "(III)V"⟩, 15), (⟨"GalaHeatsModel", "isSwimmer", "(I)Z"⟩, 15), (⟨"GalaHeatsModel", "isGone", "(I)Z"⟩, 15), (⟨"GalaHeatsModel", "of", "(II)I"⟩, 15), (⟨"GalaHeatsModel", "calls", "(I)I"⟩, 15), (⟨"GalaHeatsModel", "firstReserve", "()I"⟩, 15), (⟨"GalaHeatsModel", "present", "()I"⟩, 15), (⟨"GalaHeatsModel", "plans", "()I"⟩, 15), (⟨"GalaHeatsModel", "lanes", "()I"⟩, 15), (⟨"GalaHeatsModel", "heatFor", "(II)I"⟩, 15), (⟨"GalaHeatsModel", "sizeOf", "(II)I"⟩, 15), (⟨"GalaHeatsModel", "entryRank", "(I)I"⟩, 15), (⟨"GalaHeatsModel", "entryKey", "(I)I"⟩, 15), (⟨"GalaHeatsModel", "laneIn", "(I)I"⟩, 15), (⟨"GalaHeatsModel", "laneOf", "(I)I"⟩, 15)]
theorem lw_r1 : ∀ q ∈ lw_privs_1, lw_okq q := List.forall_mem_cons.mpr ⟨lw_p0, List.forall_mem_cons.mpr ⟨lw_p1, List.forall_mem_cons.mpr ⟨lw_p2, List.forall_mem_cons.mpr ⟨lw_p3, List.forall_mem_cons.mpr ⟨lw_p4, List.forall_mem_cons.mpr ⟨lw_p5, List.forall_mem_cons.mpr ⟨lw_p6, List.forall_mem_cons.mpr ⟨lw_p7, List.forall_mem_cons.mpr ⟨lw_p8, List.forall_mem_cons.mpr ⟨lw_p9, List.forall_mem_cons.mpr ⟨lw_p10, List.forall_mem_cons.mpr ⟨lw_p11, List.forall_mem_cons.mpr ⟨lw_p12, List.forall_mem_cons.mpr ⟨lw_p13, List.forall_mem_cons.mpr ⟨lw_p14, List.forall_mem_cons.mpr ⟨lw_p15, fun _ h => absurd h List.not_mem_nil⟩⟩⟩⟩⟩⟩⟩⟩⟩⟩⟩⟩⟩⟩⟩⟩
theorem lw_p16 : lw_okq (⟨"GalaHeatsModel", "isAsked", "(I)Z"⟩, 15) := ⟨⟨by decide +kernel, by decide +kernel⟩, List.mem_of_getElem? (i := 710) (by decide +kernel), List.mem_of_getElem? (i := 853) (by decide +kernel), List.mem_of_getElem? (i := 854) (by decide +kernel)⟩
theorem lw_p17 : lw_okq (⟨"GalaHeatsModel", "timeNow", "()I"⟩, 15) := ⟨⟨by decide +kernel, by decide +kernel⟩, List.mem_of_getElem? (i := 710) (by decide +kernel), List.mem_of_getElem? (i := 857) (by decide +kernel), List.mem_of_getElem? (i := 858) (by decide +kernel)⟩
theorem lw_p18 : lw_okq (⟨"GalaHeatsModel", "missingOnes", "()I"⟩, 15) := ⟨⟨by decide +kernel, by decide +kernel⟩, List.mem_of_getElem? (i := 710) (by decide +kernel), List.mem_of_getElem? (i := 865) (by decide +kernel), List.mem_of_getElem? (i := 866) (by decide +kernel)⟩
theorem lw_p19 : lw_okq (⟨"GalaHeatsModel", "timed", "()I"⟩, 15) := ⟨⟨by decide +kernel, by decide +kernel⟩, List.mem_of_getElem? (i := 710) (by decide +kernel), List.mem_of_getElem? (i := 869) (by decide +kernel), List.mem_of_getElem? (i := 870) (by decide +kernel)⟩
theorem lw_p20 : lw_okq (⟨"GalaHeatsModel", "hasTime", "(I)Z"⟩, 15) := ⟨⟨by decide +kernel, by decide +kernel⟩, List.mem_of_getElem? (i := 710) (by decide +kernel), List.mem_of_getElem? (i := 873) (by decide +kernel), List.mem_of_getElem? (i := 874) (by decide +kernel)⟩
theorem lw_p21 : lw_okq (⟨"GalaHeatsModel", "timeRank", "(I)I"⟩, 15) := ⟨⟨by decide +kernel, by decide +kernel⟩, List.mem_of_getElem? (i := 710) (by decide +kernel), List.mem_of_getElem? (i := 882) (by decide +kernel), List.mem_of_getElem? (i := 883) (by decide +kernel)⟩
theorem lw_p22 : lw_okq (⟨"GalaHeatsModel", "isFaster", "(II)Z"⟩, 15) := ⟨⟨by decide +kernel, by decide +kernel⟩, List.mem_of_getElem? (i := 710) (by decide +kernel), List.mem_of_getElem? (i := 886) (by decide +kernel), List.mem_of_getElem? (i := 887) (by decide +kernel)⟩
theorem lw_p23 : lw_okq (⟨"GalaHeatsModel", "inFinal", "()I"⟩, 15) := ⟨⟨by decide +kernel, by decide +kernel⟩, List.mem_of_getElem? (i := 710) (by decide +kernel), List.mem_of_getElem? (i := 890) (by decide +kernel), List.mem_of_getElem? (i := 891) (by decide +kernel)⟩
theorem lw_p24 : lw_okq (⟨"GalaHeatsModel", "finishers", "(II)I"⟩, 15) := ⟨⟨by decide +kernel, by decide +kernel⟩, List.mem_of_getElem? (i := 710) (by decide +kernel), List.mem_of_getElem? (i := 898) (by decide +kernel), List.mem_of_getElem? (i := 899) (by decide +kernel)⟩
theorem lw_p25 : lw_okq (⟨"GalaHeatsModel", "worth", "(I)I"⟩, 15) := ⟨⟨by decide +kernel, by decide +kernel⟩, List.mem_of_getElem? (i := 710) (by decide +kernel), List.mem_of_getElem? (i := 902) (by decide +kernel), List.mem_of_getElem? (i := 903) (by decide +kernel)⟩
theorem lw_p26 : lw_okq (⟨"GalaHeatsModel", "isHeat", "(I)Z"⟩, 15) := ⟨⟨by decide +kernel, by decide +kernel⟩, List.mem_of_getElem? (i := 710) (by decide +kernel), List.mem_of_getElem? (i := 927) (by decide +kernel), List.mem_of_getElem? (i := 928) (by decide +kernel)⟩
theorem lw_p27 : lw_okq (⟨"GalaHeatsModel", "isIn", "(II)Z"⟩, 15) := ⟨⟨by decide +kernel, by decide +kernel⟩, List.mem_of_getElem? (i := 710) (by decide +kernel), List.mem_of_getElem? (i := 931) (by decide +kernel), List.mem_of_getElem? (i := 932) (by decide +kernel)⟩
theorem lw_p28 : lw_okq (⟨"GalaHeatsModel", "counts", "(III)I"⟩, 15) := ⟨⟨by decide +kernel, by decide +kernel⟩, List.mem_of_getElem? (i := 710) (by decide +kernel), List.mem_of_getElem? (i := 939) (by decide +kernel), List.mem_of_getElem? (i := 940) (by decide +kernel)⟩
theorem lw_p29 : lw_okq (⟨"GalaHeatsModel", "rankOf", "(I)I"⟩, 15) := ⟨⟨by decide +kernel, by decide +kernel⟩, List.mem_of_getElem? (i := 710) (by decide +kernel), List.mem_of_getElem? (i := 959) (by decide +kernel), List.mem_of_getElem? (i := 960) (by decide +kernel)⟩
theorem lw_p30 : lw_okq (⟨"GalaHeatsModel", "goneOnes", "()I"⟩, 15) := ⟨⟨by decide +kernel, by decide +kernel⟩, List.mem_of_getElem? (i := 710) (by decide +kernel), List.mem_of_getElem? (i := 989) (by decide +kernel), List.mem_of_getElem? (i := 990) (by decide +kernel)⟩
theorem lw_p31 : lw_okq (⟨"GalaHeatsModel", "reserves", "()I"⟩, 15) := ⟨⟨by decide +kernel, by decide +kernel⟩, List.mem_of_getElem? (i := 710) (by decide +kernel), List.mem_of_getElem? (i := 993) (by decide +kernel), List.mem_of_getElem? (i := 994) (by decide +kernel)⟩
def lw_privs_2 : List (MethodName × Nat) := [(⟨"GalaHeatsModel", "isAsked", "(I)Z"⟩, 15), (⟨"GalaHeatsModel", "timeNow", "()I"⟩, 15), (⟨"GalaHeatsModel", "missingOnes", "()I"⟩, 15), (⟨"GalaHeatsModel", "timed", "()I"⟩, 15), (⟨"GalaHeatsModel", "hasTime", "(I)Z"⟩, 15), (⟨"GalaHeatsModel", "timeRank", "(I)I"⟩, 15), (⟨"GalaHeatsModel", "isFaster", "(II)Z"⟩, 15), (⟨"GalaHeatsModel", "inFinal", "()I"⟩, 15), (⟨"GalaHeatsModel", "finishers", "(II)I"⟩, 15), (⟨"GalaHeatsModel", "worth", "(I)I"⟩, 15), (⟨"GalaHeatsModel", "isHeat", "(I)Z"⟩, 15), (⟨"GalaHeatsModel", "isIn", "(II)Z"⟩, 15), (⟨"GalaHeatsModel", "counts", "(III)I"⟩, 15), (⟨"GalaHeatsModel", "rankOf", "(I)I"⟩, 15), (⟨"GalaHeatsModel", "goneOnes", "()I"⟩, 15), (⟨"GalaHeatsModel", "reserves", "()I"⟩, 15)]
theorem lw_r2 : ∀ q ∈ lw_privs_2, lw_okq q := List.forall_mem_cons.mpr ⟨lw_p16, List.forall_mem_cons.mpr ⟨lw_p17, List.forall_mem_cons.mpr ⟨lw_p18, List.forall_mem_cons.mpr ⟨lw_p19, List.forall_mem_cons.mpr ⟨lw_p20, List.forall_mem_cons.mpr ⟨lw_p21, List.forall_mem_cons.mpr ⟨lw_p22, List.forall_mem_cons.mpr ⟨lw_p23, List.forall_mem_cons.mpr ⟨lw_p24, List.forall_mem_cons.mpr ⟨lw_p25, List.forall_mem_cons.mpr ⟨lw_p26, List.forall_mem_cons.mpr ⟨lw_p27, List.forall_mem_cons.mpr ⟨lw_p28, List.forall_mem_cons.mpr ⟨lw_p29, List.forall_mem_cons.mpr ⟨lw_p30, List.forall_mem_cons.mpr ⟨lw_p31, fun _ h => absurd h List.not_mem_nil⟩⟩⟩⟩⟩⟩⟩⟩⟩⟩⟩⟩⟩⟩⟩⟩
theorem lw_p32 : lw_okq (⟨"GalaHeatsModel", "timesNow", "()I"⟩, 15) := ⟨⟨by decide +kernel, by decide +kernel⟩, List.mem_of_getElem? (i := 710) (by decide +kernel), List.mem_of_getElem? (i := 998) (by decide +kernel), List.mem_of_getElem? (i := 999) (by decide +kernel)⟩
theorem lw_p33 : lw_okq (⟨"GalaHeatsModel", "allPoints", "()I"⟩, 15) := ⟨⟨by decide +kernel, by decide +kernel⟩, List.mem_of_getElem? (i := 710) (by decide +kernel), List.mem_of_getElem? (i := 1002) (by decide +kernel), List.mem_of_getElem? (i := 1003) (by decide +kernel)⟩
theorem lw_p34 : lw_okq (⟨"GalaHeatsModel", "plays", "()Z"⟩, 15) := ⟨⟨by decide +kernel, by decide +kernel⟩, List.mem_of_getElem? (i := 710) (by decide +kernel), List.mem_of_getElem? (i := 1025) (by decide +kernel), List.mem_of_getElem? (i := 1026) (by decide +kernel)⟩
theorem lw_p35 : lw_okq (⟨"GalaHeatsModel", "reads", "()Z"⟩, 15) := ⟨⟨by decide +kernel, by decide +kernel⟩, List.mem_of_getElem? (i := 710) (by decide +kernel), List.mem_of_getElem? (i := 1029) (by decide +kernel), List.mem_of_getElem? (i := 1030) (by decide +kernel)⟩
theorem lw_p36 : lw_okq (⟨"GalaHeatsModel", "isAt", "(II)Z"⟩, 15) := ⟨⟨by decide +kernel, by decide +kernel⟩, List.mem_of_getElem? (i := 710) (by decide +kernel), List.mem_of_getElem? (i := 1033) (by decide +kernel), List.mem_of_getElem? (i := 1034) (by decide +kernel)⟩
theorem lw_p37 : lw_okq (⟨"GalaHeatsModel", "numbered", "(I)Z"⟩, 15) := ⟨⟨by decide +kernel, by decide +kernel⟩, List.mem_of_getElem? (i := 710) (by decide +kernel), List.mem_of_getElem? (i := 1040) (by decide +kernel), List.mem_of_getElem? (i := 1041) (by decide +kernel)⟩
theorem lw_p38 : lw_okq (⟨"GalaHeatsModel", "sign", "(I)Z"⟩, 15) := ⟨⟨by decide +kernel, by decide +kernel⟩, List.mem_of_getElem? (i := 710) (by decide +kernel), List.mem_of_getElem? (i := 1044) (by decide +kernel), List.mem_of_getElem? (i := 1045) (by decide +kernel)⟩
theorem lw_p39 : lw_okq (⟨"GalaHeatsModel", "does", "()I"⟩, 15) := ⟨⟨by decide +kernel, by decide +kernel⟩, List.mem_of_getElem? (i := 710) (by decide +kernel), List.mem_of_getElem? (i := 1048) (by decide +kernel), List.mem_of_getElem? (i := 1049) (by decide +kernel)⟩
def lw_privs_3 : List (MethodName × Nat) := [(⟨"GalaHeatsModel", "timesNow", "()I"⟩, 15), (⟨"GalaHeatsModel", "allPoints", "()I"⟩, 15), (⟨"GalaHeatsModel", "plays", "()Z"⟩, 15), (⟨"GalaHeatsModel", "reads", "()Z"⟩, 15), (⟨"GalaHeatsModel", "isAt", "(II)Z"⟩, 15), (⟨"GalaHeatsModel", "numbered", "(I)Z"⟩, 15), (⟨"GalaHeatsModel", "sign", "(I)Z"⟩, 15), (⟨"GalaHeatsModel", "does", "()I"⟩, 15)]
theorem lw_r3 : ∀ q ∈ lw_privs_3, lw_okq q := List.forall_mem_cons.mpr ⟨lw_p32, List.forall_mem_cons.mpr ⟨lw_p33, List.forall_mem_cons.mpr ⟨lw_p34, List.forall_mem_cons.mpr ⟨lw_p35, List.forall_mem_cons.mpr ⟨lw_p36, List.forall_mem_cons.mpr ⟨lw_p37, List.forall_mem_cons.mpr ⟨lw_p38, List.forall_mem_cons.mpr ⟨lw_p39, fun _ h => absurd h List.not_mem_nil⟩⟩⟩⟩⟩⟩⟩⟩
def lw_privs : List (MethodName × Nat) := lw_privs_1 ++ (lw_privs_2 ++ (lw_privs_3))
def lw_tbl : List Cond := k2_sels lw_privs ++ tables_1
theorem lw_privs_ok : ∀ q ∈ lw_privs, lw_okq q := by
  show ∀ q ∈ lw_privs_1 ++ (lw_privs_2 ++ (lw_privs_3)), lw_okq q
  exact List.forall_mem_append.mpr ⟨lw_r1, List.forall_mem_append.mpr ⟨lw_r2, lw_r3⟩⟩
/-- the streams that the claim lets the run draw from -/
abbrev lw_cs : List Choice := [Jvm.Choice.named "NaN.bits"]
theorem lw_bits : nanBits ∈ lw_cs := by first | decide | exact List.mem_cons_self | simp [lw_cs, nanBits]
end
section
/-! ===== BEGIN words of one list among another's, by their places ===== -/
theorem goodIn_r {big : List Cond} (ws : List Cond) (ps : List Nat) (hp : ws = ps.filterMap (fun i => big[i]?)) (h : ws.all goodWord = true) : GoodIn big ws := by
  intro w hw
  have h1 := List.all_eq_true.mp h w hw
  rw [hp] at hw
  obtain ⟨i, -, hi⟩ := List.mem_filterMap.mp hw
  have hm : w ∈ big := by first | exact List.mem_of_getElem? hi | exact List.getElem?_mem hi
  exact ⟨hm, good_of_word h1⟩
theorem goodIn_app {big a b : List Cond} (ha : GoodIn big a) (hb : GoodIn big b) : GoodIn big (a ++ b) := fun w h => (List.mem_append.mp h).elim (ha w) (hb w)
theorem goodIn_ca {big a b : List Cond} {c : Cond} (ha : GoodIn big (c :: a)) (hb : GoodIn big b) : GoodIn big (c :: (a ++ b)) := fun w h => (List.mem_cons.mp h).elim (fun e => ha w (List.mem_cons.mpr (Or.inl e))) (fun h => (List.mem_append.mp h).elim (fun h => ha w (List.mem_cons.mpr (Or.inr h))) (hb w))
theorem goodIn_sub {big ws : List Cond} (hm : ∀ w ∈ ws, w ∈ big) (h : ws.all goodWord = true) : GoodIn big ws := fun w hw => ⟨hm w hw, good_of_word (List.all_eq_true.mp h w hw)⟩
/-! ===== END ===== -/

/-! ===== BEGIN printed: names, fields, word lists, decode rows ===== -/
def RX0 : String := "GalaHeats$Answers"
def TX0 : u_T := fun k => match k with
  | _ => ("", "", "", false)
def tyX0 : Nat → FieldType := fun k => match k with
  | _ => .int
abbrev wsX00 : List Cond := u_ws RX0 TX0 0
theorem nmX0 : ∀ a, a < 0 → ∀ b, b < 0 → a ≠ b → (TX0 a).2.1 ≠ (TX0 b).2.1 := by decide +kernel
theorem tyX0_ok : ∀ k, k < 0 → parseFieldDescriptor (TX0 k).2.2.1 = some (tyX0 k) := by decide +kernel
abbrev cX0_ofSwimmer : ByteArray := prog_2_method_2_code
def yX0_ofSwimmer : MethodName := ⟨RX0, "ofSwimmer", "(LGalaHeats$Meet;LGalaHeats$Swimmer;I)I"⟩
abbrev cX0_aboveZero : ByteArray := prog_2_method_3_code
def yX0_aboveZero : MethodName := ⟨RX0, "aboveZero", "(I)I"⟩
abbrev cX0_inLane : ByteArray := prog_2_method_4_code
def yX0_inLane : MethodName := ⟨RX0, "inLane", "(LGalaHeats$Meet;II)I"⟩
abbrev cX0_ofHeat : ByteArray := prog_2_method_5_code
def yX0_ofHeat : MethodName := ⟨RX0, "ofHeat", "(LGalaHeats$Meet;II)I"⟩
abbrev cX0_countIn : ByteArray := prog_2_method_6_code
def yX0_countIn : MethodName := ⟨RX0, "countIn", "(LGalaHeats$Meet;IZ)I"⟩
abbrev cX0_leastIn : ByteArray := prog_2_method_7_code
def yX0_leastIn : MethodName := ⟨RX0, "leastIn", "(LGalaHeats$Meet;IZ)I"⟩
abbrev cX0_greatestEntryIn : ByteArray := prog_2_method_8_code
def yX0_greatestEntryIn : MethodName := ⟨RX0, "greatestEntryIn", "(LGalaHeats$Meet;I)I"⟩
abbrev cX0_meanBits : ByteArray := prog_2_method_9_code
def yX0_meanBits : MethodName := ⟨RX0, "meanBits", "(LGalaHeats$Meet;)I"⟩
abbrev cX0_bitsOf : ByteArray := prog_2_method_10_code
def yX0_bitsOf : MethodName := ⟨RX0, "bitsOf", "(F)I"⟩
abbrev cX0_ofMeet : ByteArray := prog_2_method_11_code
def yX0_ofMeet : MethodName := ⟨RX0, "ofMeet", "(LGalaHeats$Meet;I)I"⟩
abbrev cX0_scratchedSet : ByteArray := prog_2_method_12_code
def yX0_scratchedSet : MethodName := ⟨RX0, "scratchedSet", "(LGalaHeats$Meet;)I"⟩
abbrev cX0_freeReserves : ByteArray := prog_2_method_13_code
def yX0_freeReserves : MethodName := ⟨RX0, "freeReserves", "(LGalaHeats$Meet;)I"⟩
abbrev cX0_timesOfEvent : ByteArray := prog_2_method_14_code
def yX0_timesOfEvent : MethodName := ⟨RX0, "timesOfEvent", "(LGalaHeats$Meet;)I"⟩
def RX1 : String := "GalaHeats$Changes"
def TX1 : u_T := fun k => match k with
  | _ => ("", "", "", false)
def tyX1 : Nat → FieldType := fun k => match k with
  | _ => .int
abbrev wsX10 : List Cond := u_ws RX1 TX1 0
theorem nmX1 : ∀ a, a < 0 → ∀ b, b < 0 → a ≠ b → (TX1 a).2.1 ≠ (TX1 b).2.1 := by decide +kernel
theorem tyX1_ok : ∀ k, k < 0 → parseFieldDescriptor (TX1 k).2.2.1 = some (tyX1 k) := by decide +kernel
abbrev cX1_addSwimmer : ByteArray := prog_3_method_2_code
def yX1_addSwimmer : MethodName := ⟨RX1, "addSwimmer", "(LGalaHeats$Meet;II)I"⟩
abbrev cX1_isTimeOrZero : ByteArray := prog_3_method_3_code
def yX1_isTimeOrZero : MethodName := ⟨RX1, "isTimeOrZero", "(I)Z"⟩
abbrev cX1_withdraw : ByteArray := prog_3_method_4_code
def yX1_withdraw : MethodName := ⟨RX1, "withdraw", "(LGalaHeats$Meet;I)I"⟩
abbrev cX1_callReserve : ByteArray := prog_3_method_5_code
def yX1_callReserve : MethodName := ⟨RX1, "callReserve", "(LGalaHeats$Meet;LGalaHeats$Swimmer;)I"⟩
abbrev cX1_changeSetting : ByteArray := prog_3_method_6_code
def yX1_changeSetting : MethodName := ⟨RX1, "changeSetting", "(LGalaHeats$Meet;II)I"⟩
abbrev cX1_drawHeats : ByteArray := prog_3_method_7_code
def yX1_drawHeats : MethodName := ⟨RX1, "drawHeats", "(LGalaHeats$Meet;)I"⟩
abbrev cX1_giveTime : ByteArray := prog_3_method_8_code
def yX1_giveTime : MethodName := ⟨RX1, "giveTime", "(LGalaHeats$Meet;II)I"⟩
abbrev cX1_noteRecord : ByteArray := prog_3_method_9_code
def yX1_noteRecord : MethodName := ⟨RX1, "noteRecord", "(LGalaHeats$Meet;II)V"⟩
abbrev cX1_drawFinal : ByteArray := prog_3_method_10_code
def yX1_drawFinal : MethodName := ⟨RX1, "drawFinal", "(LGalaHeats$Meet;)I"⟩
abbrev cX1_seatByTime : ByteArray := prog_3_method_11_code
def yX1_seatByTime : MethodName := ⟨RX1, "seatByTime", "(LGalaHeats$Meet;LGalaHeats$Swimmer;)V"⟩
abbrev cX1_endEvent : ByteArray := prog_3_method_12_code
def yX1_endEvent : MethodName := ⟨RX1, "endEvent", "(LGalaHeats$Meet;)I"⟩
abbrev cX1_beginNextEvent : ByteArray := prog_3_method_13_code
def yX1_beginNextEvent : MethodName := ⟨RX1, "beginNextEvent", "(LGalaHeats$Meet;)I"⟩
def RX2 : String := "GalaHeats$HeatDraw"
def TX2 : u_T := fun k => match k with
  | _ => ("", "", "", false)
def tyX2 : Nat → FieldType := fun k => match k with
  | _ => .int
abbrev wsX20 : List Cond := u_ws RX2 TX2 0
theorem nmX2 : ∀ a, a < 0 → ∀ b, b < 0 → a ≠ b → (TX2 a).2.1 ≠ (TX2 b).2.1 := by decide +kernel
theorem tyX2_ok : ∀ k, k < 0 → parseFieldDescriptor (TX2 k).2.2.1 = some (tyX2 k) := by decide +kernel
abbrev cX2_heatsFor : ByteArray := prog_4_method_2_code
def yX2_heatsFor : MethodName := ⟨RX2, "heatsFor", "(II)I"⟩
abbrev cX2_spread : ByteArray := prog_4_method_3_code
def yX2_spread : MethodName := ⟨RX2, "spread", "(LGalaHeats$Meet;)V"⟩
abbrev cX2_heatOfRank : ByteArray := prog_4_method_4_code
def yX2_heatOfRank : MethodName := ⟨RX2, "heatOfRank", "(III)I"⟩
abbrev cX2_fillFirstHeat : ByteArray := prog_4_method_5_code
def yX2_fillFirstHeat : MethodName := ⟨RX2, "fillFirstHeat", "(LGalaHeats$Meet;)V"⟩
abbrev cX2_sizeOf : ByteArray := prog_4_method_6_code
def yX2_sizeOf : MethodName := ⟨RX2, "sizeOf", "(LGalaHeats$Meet;I)I"⟩
abbrev cX2_lastOf : ByteArray := prog_4_method_7_code
def yX2_lastOf : MethodName := ⟨RX2, "lastOf", "(LGalaHeats$Meet;I)I"⟩
abbrev cX2_giveLanes : ByteArray := prog_4_method_8_code
def yX2_giveLanes : MethodName := ⟨RX2, "giveLanes", "(LGalaHeats$Meet;)V"⟩
abbrev cX2_rankInHeat : ByteArray := prog_4_method_9_code
def yX2_rankInHeat : MethodName := ⟨RX2, "rankInHeat", "(LGalaHeats$Meet;LGalaHeats$Swimmer;)I"⟩
def RX3 : String := "GalaHeats$History"
def TX3 : u_T := fun k => match k with
  | 0 => ("GalaHeats$History", "rows", "[LGalaHeats$Meet;", true)
  | _ => ("GalaHeats$History", "kept", "I", false)
def tyX3 : Nat → FieldType := fun k => match k with
  | 0 => .array (.object "GalaHeats$Meet")
  | _ => .int
abbrev wsX30 : List Cond := u_ws RX3 TX3 2
theorem nmX3 : ∀ a, a < 2 → ∀ b, b < 2 → a ≠ b → (TX3 a).2.1 ≠ (TX3 b).2.1 := by decide +kernel
theorem tyX3_ok : ∀ k, k < 2 → parseFieldDescriptor (TX3 k).2.2.1 = some (tyX3 k) := by decide +kernel
abbrev cX3_init : ByteArray := prog_5_method_1_code
def yX3_init : MethodName := ⟨RX3, "<init>", "()V"⟩
abbrev cX3_prepare : ByteArray := prog_5_method_2_code
def yX3_prepare : MethodName := ⟨RX3, "prepare", "(LGalaHeats$Meet;)V"⟩
abbrev cX3_keepUnlessError : ByteArray := prog_5_method_3_code
def yX3_keepUnlessError : MethodName := ⟨RX3, "keepUnlessError", "(I)I"⟩
abbrev cX3_dropOldest : ByteArray := prog_5_method_4_code
def yX3_dropOldest : MethodName := ⟨RX3, "dropOldest", "()V"⟩
abbrev cX3_restoreInto : ByteArray := prog_5_method_5_code
def yX3_restoreInto : MethodName := ⟨RX3, "restoreInto", "(LGalaHeats$Meet;)I"⟩
def RX4 : String := "GalaHeats$Lanes"
def TX4 : u_T := fun k => match k with
  | _ => ("", "", "", false)
def tyX4 : Nat → FieldType := fun k => match k with
  | _ => .int
abbrev wsX40 : List Cond := u_ws RX4 TX4 0
theorem nmX4 : ∀ a, a < 0 → ∀ b, b < 0 → a ≠ b → (TX4 a).2.1 ≠ (TX4 b).2.1 := by decide +kernel
theorem tyX4_ok : ∀ k, k < 0 → parseFieldDescriptor (TX4 k).2.2.1 = some (tyX4 k) := by decide +kernel
abbrev cX4_ofRank : ByteArray := prog_6_method_2_code
def yX4_ofRank : MethodName := ⟨RX4, "ofRank", "(II)I"⟩
abbrev cX4_rankOf : ByteArray := prog_6_method_3_code
def yX4_rankOf : MethodName := ⟨RX4, "rankOf", "(II)I"⟩
def RX5 : String := "GalaHeats$Meet"
def TX5 : u_T := fun k => match k with
  | 0 => ("GalaHeats$Meet", "settings", "[I", true)
  | 1 => ("GalaHeats$Meet", "all", "[LGalaHeats$Swimmer;", true)
  | 2 => ("GalaHeats$Meet", "reserves", "[I", true)
  | 3 => ("GalaHeats$Meet", "size", "I", false)
  | 4 => ("GalaHeats$Meet", "stage", "I", false)
  | 5 => ("GalaHeats$Meet", "heats", "I", false)
  | 6 => ("GalaHeats$Meet", "reservesDrawn", "I", false)
  | 7 => ("GalaHeats$Meet", "reservesCalled", "I", false)
  | 8 => ("GalaHeats$Meet", "eventsEnded", "I", false)
  | 9 => ("GalaHeats$Meet", "record", "I", false)
  | _ => ("GalaHeats$Meet", "recordSwimmer", "I", false)
def tyX5 : Nat → FieldType := fun k => match k with
  | 0 => .array .int
  | 1 => .array (.object "GalaHeats$Swimmer")
  | 2 => .array .int
  | 3 => .int
  | 4 => .int
  | 5 => .int
  | 6 => .int
  | 7 => .int
  | 8 => .int
  | 9 => .int
  | _ => .int
abbrev wsX50 : List Cond := u_ws RX5 TX5 11
theorem nmX5 : ∀ a, a < 11 → ∀ b, b < 11 → a ≠ b → (TX5 a).2.1 ≠ (TX5 b).2.1 := by decide +kernel
theorem tyX5_ok : ∀ k, k < 11 → parseFieldDescriptor (TX5 k).2.2.1 = some (tyX5 k) := by decide +kernel
abbrev cX5_init : ByteArray := prog_7_method_1_code
def yX5_init : MethodName := ⟨RX5, "<init>", "()V"⟩
abbrev cX5_copyFrom : ByteArray := prog_7_method_2_code
def yX5_copyFrom : MethodName := ⟨RX5, "copyFrom", "(LGalaHeats$Meet;)V"⟩
abbrev cX5_lanes : ByteArray := prog_7_method_3_code
def yX5_lanes : MethodName := ⟨RX5, "lanes", "()I"⟩
abbrev cX5_has : ByteArray := prog_7_method_4_code
def yX5_has : MethodName := ⟨RX5, "has", "(I)Z"⟩
abbrev cX5_hasHeat : ByteArray := prog_7_method_5_code
def yX5_hasHeat : MethodName := ⟨RX5, "hasHeat", "(I)Z"⟩
abbrev cX5_notScratched : ByteArray := prog_7_method_6_code
def yX5_notScratched : MethodName := ⟨RX5, "notScratched", "()I"⟩
abbrev cX5_rankByEntry : ByteArray := prog_7_method_7_code
def yX5_rankByEntry : MethodName := ⟨RX5, "rankByEntry", "(LGalaHeats$Swimmer;)I"⟩
abbrev cX5_rankByHeatTime : ByteArray := prog_7_method_8_code
def yX5_rankByHeatTime : MethodName := ⟨RX5, "rankByHeatTime", "(LGalaHeats$Swimmer;)I"⟩
abbrev cX5_swimsNow : ByteArray := prog_7_method_9_code
def yX5_swimsNow : MethodName := ⟨RX5, "swimsNow", "(LGalaHeats$Swimmer;)Z"⟩
abbrev cX5_stageTime : ByteArray := prog_7_method_10_code
def yX5_stageTime : MethodName := ⟨RX5, "stageTime", "(LGalaHeats$Swimmer;)I"⟩
abbrev cX5_fasterThan : ByteArray := prog_7_method_11_code
def yX5_fasterThan : MethodName := ⟨RX5, "fasterThan", "(I)I"⟩
abbrev cX5_timesAboveZero : ByteArray := prog_7_method_12_code
def yX5_timesAboveZero : MethodName := ⟨RX5, "timesAboveZero", "()I"⟩
abbrev cX5_stillToSwim : ByteArray := prog_7_method_13_code
def yX5_stillToSwim : MethodName := ⟨RX5, "stillToSwim", "(I)I"⟩
abbrev cX5_reasonToWait : ByteArray := prog_7_method_14_code
def yX5_reasonToWait : MethodName := ⟨RX5, "reasonToWait", "()I"⟩
abbrev cX5_canBeCalled : ByteArray := prog_7_method_15_code
def yX5_canBeCalled : MethodName := ⟨RX5, "canBeCalled", "(I)Z"⟩
abbrev cX5_freeReserve : ByteArray := prog_7_method_16_code
def yX5_freeReserve : MethodName := ⟨RX5, "freeReserve", "(I)I"⟩
abbrev cX5_finalSet : ByteArray := prog_7_method_17_code
def yX5_finalSet : MethodName := ⟨RX5, "finalSet", "()I"⟩
def RX6 : String := "GalaHeats$OrderText"
def TX6 : u_T := fun k => match k with
  | 0 => ("GalaHeats$OrderText", "signs", "[I", true)
  | 1 => ("GalaHeats$OrderText", "length", "I", false)
  | 2 => ("GalaHeats$OrderText", "start", "I", false)
  | 3 => ("GalaHeats$OrderText", "position", "I", false)
  | 4 => ("GalaHeats$OrderText", "kind", "I", false)
  | 5 => ("GalaHeats$OrderText", "first", "I", false)
  | 6 => ("GalaHeats$OrderText", "second", "I", false)
  | _ => ("GalaHeats$OrderText", "number", "I", false)
def tyX6 : Nat → FieldType := fun k => match k with
  | 0 => .array .int
  | 1 => .int
  | 2 => .int
  | 3 => .int
  | 4 => .int
  | 5 => .int
  | 6 => .int
  | _ => .int
abbrev wsX60 : List Cond := u_ws RX6 TX6 8
theorem nmX6 : ∀ a, a < 8 → ∀ b, b < 8 → a ≠ b → (TX6 a).2.1 ≠ (TX6 b).2.1 := by decide +kernel
theorem tyX6_ok : ∀ k, k < 8 → parseFieldDescriptor (TX6 k).2.2.1 = some (tyX6 k) := by decide +kernel
abbrev cX6_init : ByteArray := prog_8_method_1_code
def yX6_init : MethodName := ⟨RX6, "<init>", "()V"⟩
abbrev cX6_append : ByteArray := prog_8_method_2_code
def yX6_append : MethodName := ⟨RX6, "append", "(I)I"⟩
abbrev cX6_empty : ByteArray := prog_8_method_3_code
def yX6_empty : MethodName := ⟨RX6, "empty", "()I"⟩
abbrev cX6_rewind : ByteArray := prog_8_method_4_code
def yX6_rewind : MethodName := ⟨RX6, "rewind", "()V"⟩
abbrev cX6_hasMore : ByteArray := prog_8_method_5_code
def yX6_hasMore : MethodName := ⟨RX6, "hasMore", "()Z"⟩
abbrev cX6_readOrder : ByteArray := prog_8_method_6_code
def yX6_readOrder : MethodName := ⟨RX6, "readOrder", "()Z"⟩
abbrev cX6_numbersOf : ByteArray := prog_8_method_7_code
def yX6_numbersOf : MethodName := ⟨RX6, "numbersOf", "(I)I"⟩
abbrev cX6_signHere : ByteArray := prog_8_method_8_code
def yX6_signHere : MethodName := ⟨RX6, "signHere", "()I"⟩
abbrev cX6_readSign : ByteArray := prog_8_method_9_code
def yX6_readSign : MethodName := ⟨RX6, "readSign", "(I)Z"⟩
abbrev cX6_readNumber : ByteArray := prog_8_method_10_code
def yX6_readNumber : MethodName := ⟨RX6, "readNumber", "()Z"⟩
def RX7 : String := "GalaHeats$Rehearsal"
def TX7 : u_T := fun k => match k with
  | 0 => ("GalaHeats$Rehearsal", "orders", "I", false)
  | 1 => ("GalaHeats$Rehearsal", "position", "I", false)
  | 2 => ("GalaHeats$Rehearsal", "reason", "I", false)
  | _ => ("GalaHeats$Rehearsal", "cause", "I", false)
def tyX7 : Nat → FieldType := fun k => match k with
  | 0 => .int
  | 1 => .int
  | 2 => .int
  | _ => .int
abbrev wsX70 : List Cond := u_ws RX7 TX7 4
theorem nmX7 : ∀ a, a < 4 → ∀ b, b < 4 → a ≠ b → (TX7 a).2.1 ≠ (TX7 b).2.1 := by decide +kernel
theorem tyX7_ok : ∀ k, k < 4 → parseFieldDescriptor (TX7 k).2.2.1 = some (tyX7 k) := by decide +kernel
abbrev cX7_init : ByteArray := prog_9_method_1_code
def yX7_init : MethodName := ⟨RX7, "<init>", "()V"⟩
abbrev cX7_tryOrders : ByteArray := prog_9_method_2_code
def yX7_tryOrders : MethodName := ⟨RX7, "tryOrders", "(LGalaHeats$OrderText;LGalaHeats$Meet;LGalaHeats$Meet;)V"⟩
abbrev cX7_obey : ByteArray := prog_9_method_3_code
def yX7_obey : MethodName := ⟨RX7, "obey", "(LGalaHeats$OrderText;LGalaHeats$Meet;)I"⟩
def RX8 : String := "GalaHeats$Scores"
def TX8 : u_T := fun k => match k with
  | _ => ("", "", "", false)
def tyX8 : Nat → FieldType := fun k => match k with
  | _ => .int
abbrev wsX80 : List Cond := u_ws RX8 TX8 0
theorem nmX8 : ∀ a, a < 0 → ∀ b, b < 0 → a ≠ b → (TX8 a).2.1 ≠ (TX8 b).2.1 := by decide +kernel
theorem tyX8_ok : ∀ k, k < 0 → parseFieldDescriptor (TX8 k).2.2.1 = some (tyX8 k) := by decide +kernel
abbrev cX8_place : ByteArray := prog_10_method_2_code
def yX8_place : MethodName := ⟨RX8, "place", "(LGalaHeats$Meet;LGalaHeats$Swimmer;)V"⟩
abbrev cX8_shared : ByteArray := prog_10_method_3_code
def yX8_shared : MethodName := ⟨RX8, "shared", "(III)I"⟩
abbrev cX8_ofClub : ByteArray := prog_10_method_4_code
def yX8_ofClub : MethodName := ⟨RX8, "ofClub", "(LGalaHeats$Meet;I)I"⟩
abbrev cX8_ofAllClubs : ByteArray := prog_10_method_5_code
def yX8_ofAllClubs : MethodName := ⟨RX8, "ofAllClubs", "(LGalaHeats$Meet;)I"⟩
abbrev cX8_clubAtRank : ByteArray := prog_10_method_6_code
def yX8_clubAtRank : MethodName := ⟨RX8, "clubAtRank", "(LGalaHeats$Meet;I)I"⟩
abbrev cX8_clubsAhead : ByteArray := prog_10_method_7_code
def yX8_clubsAhead : MethodName := ⟨RX8, "clubsAhead", "(LGalaHeats$Meet;I)I"⟩
def RX9 : String := "GalaHeats$Settings"
def TX9 : u_T := fun k => match k with
  | _ => ("", "", "", false)
def tyX9 : Nat → FieldType := fun k => match k with
  | _ => .int
abbrev wsX90 : List Cond := u_ws RX9 TX9 0
theorem nmX9 : ∀ a, a < 0 → ∀ b, b < 0 → a ≠ b → (TX9 a).2.1 ≠ (TX9 b).2.1 := by decide +kernel
theorem tyX9_ok : ∀ k, k < 0 → parseFieldDescriptor (TX9 k).2.2.1 = some (tyX9 k) := by decide +kernel
abbrev cX9_allow : ByteArray := prog_11_method_2_code
def yX9_allow : MethodName := ⟨RX9, "allow", "(II)Z"⟩
def RX10 : String := "GalaHeats$Swimmer"
def TX10 : u_T := fun k => match k with
  | 0 => ("GalaHeats$Swimmer", "number", "I", true)
  | 1 => ("GalaHeats$Swimmer", "club", "I", false)
  | 2 => ("GalaHeats$Swimmer", "entry", "I", false)
  | 3 => ("GalaHeats$Swimmer", "scratched", "Z", false)
  | 4 => ("GalaHeats$Swimmer", "heat", "I", false)
  | 5 => ("GalaHeats$Swimmer", "heatLane", "I", false)
  | 6 => ("GalaHeats$Swimmer", "heatTime", "I", false)
  | 7 => ("GalaHeats$Swimmer", "finalLane", "I", false)
  | 8 => ("GalaHeats$Swimmer", "finalTime", "I", false)
  | 9 => ("GalaHeats$Swimmer", "place", "I", false)
  | _ => ("GalaHeats$Swimmer", "brought", "I", false)
def tyX10 : Nat → FieldType := fun k => match k with
  | 0 => .int
  | 1 => .int
  | 2 => .int
  | 3 => .boolean
  | 4 => .int
  | 5 => .int
  | 6 => .int
  | 7 => .int
  | 8 => .int
  | 9 => .int
  | _ => .int
abbrev wsX100 : List Cond := u_ws RX10 TX10 11
theorem nmX10 : ∀ a, a < 11 → ∀ b, b < 11 → a ≠ b → (TX10 a).2.1 ≠ (TX10 b).2.1 := by decide +kernel
theorem tyX10_ok : ∀ k, k < 11 → parseFieldDescriptor (TX10 k).2.2.1 = some (tyX10 k) := by decide +kernel
abbrev cX10_init : ByteArray := prog_12_method_1_code
def yX10_init : MethodName := ⟨RX10, "<init>", "(I)V"⟩
abbrev cX10_join : ByteArray := prog_12_method_2_code
def yX10_join : MethodName := ⟨RX10, "join", "(II)V"⟩
abbrev cX10_forgetEvent : ByteArray := prog_12_method_3_code
def yX10_forgetEvent : MethodName := ⟨RX10, "forgetEvent", "()V"⟩
abbrev cX10_leaveHeat : ByteArray := prog_12_method_4_code
def yX10_leaveHeat : MethodName := ⟨RX10, "leaveHeat", "()V"⟩
abbrev cX10_leaveFinal : ByteArray := prog_12_method_5_code
def yX10_leaveFinal : MethodName := ⟨RX10, "leaveFinal", "()V"⟩
abbrev cX10_isIn : ByteArray := prog_12_method_6_code
def yX10_isIn : MethodName := ⟨RX10, "isIn", "(I)Z"⟩
abbrev cX10_laneOf : ByteArray := prog_12_method_7_code
def yX10_laneOf : MethodName := ⟨RX10, "laneOf", "(I)I"⟩
abbrev cX10_timeOf : ByteArray := prog_12_method_8_code
def yX10_timeOf : MethodName := ⟨RX10, "timeOf", "(I)I"⟩
abbrev cX10_aheadByEntry : ByteArray := prog_12_method_9_code
def yX10_aheadByEntry : MethodName := ⟨RX10, "aheadByEntry", "(LGalaHeats$Swimmer;)Z"⟩
abbrev cX10_aheadByHeatTime : ByteArray := prog_12_method_10_code
def yX10_aheadByHeatTime : MethodName := ⟨RX10, "aheadByHeatTime", "(LGalaHeats$Swimmer;)Z"⟩
abbrev cX10_bestTime : ByteArray := prog_12_method_11_code
def yX10_bestTime : MethodName := ⟨RX10, "bestTime", "()I"⟩
abbrev cX10_copyFrom : ByteArray := prog_12_method_12_code
def yX10_copyFrom : MethodName := ⟨RX10, "copyFrom", "(LGalaHeats$Swimmer;)V"⟩
def RX11 : String := "GalaHeats"
def TX11 : u_T := fun k => match k with
  | 0 => ("GalaHeats", "meet", "LGalaHeats$Meet;", true)
  | 1 => ("GalaHeats", "trial", "LGalaHeats$Meet;", true)
  | 2 => ("GalaHeats", "history", "LGalaHeats$History;", true)
  | 3 => ("GalaHeats", "text", "LGalaHeats$OrderText;", true)
  | _ => ("GalaHeats", "rehearsal", "LGalaHeats$Rehearsal;", true)
def tyX11 : Nat → FieldType := fun k => match k with
  | 0 => .object "GalaHeats$Meet"
  | 1 => .object "GalaHeats$Meet"
  | 2 => .object "GalaHeats$History"
  | 3 => .object "GalaHeats$OrderText"
  | _ => .object "GalaHeats$Rehearsal"
abbrev wsX110 : List Cond := u_ws RX11 TX11 5
theorem nmX11 : ∀ a, a < 5 → ∀ b, b < 5 → a ≠ b → (TX11 a).2.1 ≠ (TX11 b).2.1 := by decide +kernel
theorem tyX11_ok : ∀ k, k < 5 → parseFieldDescriptor (TX11 k).2.2.1 = some (tyX11 k) := by decide +kernel
abbrev cX11_init : ByteArray := prog_1_method_1_code
def yX11_init : MethodName := ⟨RX11, "<init>", "()V"⟩
abbrev cX11_enter : ByteArray := prog_1_method_2_code
def yX11_enter : MethodName := ⟨RX11, "enter", "(II)I"⟩
abbrev cX11_scratch : ByteArray := prog_1_method_3_code
def yX11_scratch : MethodName := ⟨RX11, "scratch", "(I)I"⟩
abbrev cX11_set : ByteArray := prog_1_method_4_code
def yX11_set : MethodName := ⟨RX11, "set", "(II)I"⟩
abbrev cX11_draw : ByteArray := prog_1_method_5_code
def yX11_draw : MethodName := ⟨RX11, "draw", "()I"⟩
abbrev cX11_swim : ByteArray := prog_1_method_6_code
def yX11_swim : MethodName := ⟨RX11, "swim", "(II)I"⟩
abbrev cX11_finals : ByteArray := prog_1_method_7_code
def yX11_finals : MethodName := ⟨RX11, "finals", "()I"⟩
abbrev cX11_end : ByteArray := prog_1_method_8_code
def yX11_end : MethodName := ⟨RX11, "end", "()I"⟩
abbrev cX11_next : ByteArray := prog_1_method_9_code
def yX11_next : MethodName := ⟨RX11, "next", "()I"⟩
abbrev cX11_swimmer : ByteArray := prog_1_method_10_code
def yX11_swimmer : MethodName := ⟨RX11, "swimmer", "(II)I"⟩
abbrev cX11_at : ByteArray := prog_1_method_11_code
def yX11_at : MethodName := ⟨RX11, "at", "(II)I"⟩
abbrev cX11_heat : ByteArray := prog_1_method_12_code
def yX11_heat : MethodName := ⟨RX11, "heat", "(II)I"⟩
abbrev cX11_reserve : ByteArray := prog_1_method_13_code
def yX11_reserve : MethodName := ⟨RX11, "reserve", "(I)I"⟩
abbrev cX11_points : ByteArray := prog_1_method_14_code
def yX11_points : MethodName := ⟨RX11, "points", "(I)I"⟩
abbrev cX11_ifDrawn : ByteArray := prog_1_method_15_code
def yX11_ifDrawn : MethodName := ⟨RX11, "ifDrawn", "(II)I"⟩
abbrev cX11_lane : ByteArray := prog_1_method_16_code
def yX11_lane : MethodName := ⟨RX11, "lane", "(II)I"⟩
abbrev cX11_why : ByteArray := prog_1_method_17_code
def yX11_why : MethodName := ⟨RX11, "why", "()I"⟩
abbrev cX11_missing : ByteArray := prog_1_method_18_code
def yX11_missing : MethodName := ⟨RX11, "missing", "(I)I"⟩
abbrev cX11_leader : ByteArray := prog_1_method_19_code
def yX11_leader : MethodName := ⟨RX11, "leader", "(I)I"⟩
abbrev cX11_mean : ByteArray := prog_1_method_20_code
def yX11_mean : MethodName := ⟨RX11, "mean", "()I"⟩
abbrev cX11_count : ByteArray := prog_1_method_21_code
def yX11_count : MethodName := ⟨RX11, "count", "(I)I"⟩
abbrev cX11_undo : ByteArray := prog_1_method_22_code
def yX11_undo : MethodName := ⟨RX11, "undo", "()I"⟩
abbrev cX11_type : ByteArray := prog_1_method_23_code
def yX11_type : MethodName := ⟨RX11, "type", "(I)I"⟩
abbrev cX11_clearText : ByteArray := prog_1_method_24_code
def yX11_clearText : MethodName := ⟨RX11, "clearText", "()I"⟩
abbrev cX11_fault : ByteArray := prog_1_method_25_code
def yX11_fault : MethodName := ⟨RX11, "fault", "(I)I"⟩
abbrev cX11_play : ByteArray := prog_1_method_26_code
def yX11_play : MethodName := ⟨RX11, "play", "()I"⟩
def RX12 : String := "GalaHeatsModel"
def TX12 : u_T := fun k => match k with
  | 0 => ("GalaHeatsModel", "s", "[I", true)
  | 1 => ("GalaHeatsModel", "past", "[I", true)
  | 2 => ("GalaHeatsModel", "held", "[I", true)
  | 3 => ("GalaHeatsModel", "pasts", "I", false)
  | 4 => ("GalaHeatsModel", "runs", "Z", false)
  | 5 => ("GalaHeatsModel", "text", "[I", true)
  | 6 => ("GalaHeatsModel", "typed", "I", false)
  | 7 => ("GalaHeatsModel", "drawn", "[I", true)
  | 8 => ("GalaHeatsModel", "spot", "I", false)
  | 9 => ("GalaHeatsModel", "from", "I", false)
  | 10 => ("GalaHeatsModel", "reason", "I", false)
  | 11 => ("GalaHeatsModel", "cause", "I", false)
  | 12 => ("GalaHeatsModel", "orders", "I", false)
  | 13 => ("GalaHeatsModel", "order", "I", false)
  | _ => ("GalaHeatsModel", "numbers", "[I", true)
def tyX12 : Nat → FieldType := fun k => match k with
  | 0 => .array .int
  | 1 => .array .int
  | 2 => .array .int
  | 3 => .int
  | 4 => .boolean
  | 5 => .array .int
  | 6 => .int
  | 7 => .array .int
  | 8 => .int
  | 9 => .int
  | 10 => .int
  | 11 => .int
  | 12 => .int
  | 13 => .int
  | _ => .array .int
abbrev wsX120 : List Cond := u_ws RX12 TX12 15
theorem nmX12 : ∀ a, a < 15 → ∀ b, b < 15 → a ≠ b → (TX12 a).2.1 ≠ (TX12 b).2.1 := by decide +kernel
theorem tyX12_ok : ∀ k, k < 15 → parseFieldDescriptor (TX12 k).2.2.1 = some (tyX12 k) := by decide +kernel
abbrev cX12_init : ByteArray := prog_14_method_1_code
def yX12_init : MethodName := ⟨RX12, "<init>", "()V"⟩
abbrev cX12_in : ByteArray := prog_14_method_3_code
def yX12_in : MethodName := ⟨RX12, "in", "(III)Z"⟩
abbrev cX12_copies : ByteArray := prog_14_method_4_code
def yX12_copies : MethodName := ⟨RX12, "copies", "([I[I)V"⟩
abbrev cX12_changes : ByteArray := prog_14_method_5_code
def yX12_changes : MethodName := ⟨RX12, "changes", "()V"⟩
abbrev cX12_of : ByteArray := prog_14_method_6_code
def yX12_of : MethodName := ⟨RX12, "of", "(II)I"⟩
abbrev cX12_lay : ByteArray := prog_14_method_7_code
def yX12_lay : MethodName := ⟨RX12, "lay", "(III)V"⟩
abbrev cX12_isSwimmer : ByteArray := prog_14_method_8_code
def yX12_isSwimmer : MethodName := ⟨RX12, "isSwimmer", "(I)Z"⟩
abbrev cX12_isGone : ByteArray := prog_14_method_9_code
def yX12_isGone : MethodName := ⟨RX12, "isGone", "(I)Z"⟩
abbrev cX12_lanes : ByteArray := prog_14_method_10_code
def yX12_lanes : MethodName := ⟨RX12, "lanes", "()I"⟩
abbrev cX12_entryKey : ByteArray := prog_14_method_11_code
def yX12_entryKey : MethodName := ⟨RX12, "entryKey", "(I)I"⟩
abbrev cX12_entryRank : ByteArray := prog_14_method_12_code
def yX12_entryRank : MethodName := ⟨RX12, "entryRank", "(I)I"⟩
abbrev cX12_hasTime : ByteArray := prog_14_method_13_code
def yX12_hasTime : MethodName := ⟨RX12, "hasTime", "(I)Z"⟩
abbrev cX12_isFaster : ByteArray := prog_14_method_14_code
def yX12_isFaster : MethodName := ⟨RX12, "isFaster", "(II)Z"⟩
abbrev cX12_timeRank : ByteArray := prog_14_method_15_code
def yX12_timeRank : MethodName := ⟨RX12, "timeRank", "(I)I"⟩
abbrev cX12_laneOf : ByteArray := prog_14_method_16_code
def yX12_laneOf : MethodName := ⟨RX12, "laneOf", "(I)I"⟩
abbrev cX12_rankOf : ByteArray := prog_14_method_17_code
def yX12_rankOf : MethodName := ⟨RX12, "rankOf", "(I)I"⟩
abbrev cX12_present : ByteArray := prog_14_method_18_code
def yX12_present : MethodName := ⟨RX12, "present", "()I"⟩
abbrev cX12_sizeOf : ByteArray := prog_14_method_19_code
def yX12_sizeOf : MethodName := ⟨RX12, "sizeOf", "(II)I"⟩
abbrev cX12_heatFor : ByteArray := prog_14_method_20_code
def yX12_heatFor : MethodName := ⟨RX12, "heatFor", "(II)I"⟩
abbrev cX12_plans : ByteArray := prog_14_method_21_code
def yX12_plans : MethodName := ⟨RX12, "plans", "()I"⟩
abbrev cX12_laneIn : ByteArray := prog_14_method_22_code
def yX12_laneIn : MethodName := ⟨RX12, "laneIn", "(I)I"⟩
abbrev cX12_enter : ByteArray := prog_14_method_23_code
def yX12_enter : MethodName := ⟨RX12, "enter", "(II)I"⟩
abbrev cX12_firstReserve : ByteArray := prog_14_method_24_code
def yX12_firstReserve : MethodName := ⟨RX12, "firstReserve", "()I"⟩
abbrev cX12_calls : ByteArray := prog_14_method_25_code
def yX12_calls : MethodName := ⟨RX12, "calls", "(I)I"⟩
abbrev cX12_scratch : ByteArray := prog_14_method_26_code
def yX12_scratch : MethodName := ⟨RX12, "scratch", "(I)I"⟩
abbrev cX12_set : ByteArray := prog_14_method_27_code
def yX12_set : MethodName := ⟨RX12, "set", "(II)I"⟩
abbrev cX12_draw : ByteArray := prog_14_method_28_code
def yX12_draw : MethodName := ⟨RX12, "draw", "()I"⟩
abbrev cX12_timeNow : ByteArray := prog_14_method_29_code
def yX12_timeNow : MethodName := ⟨RX12, "timeNow", "()I"⟩
abbrev cX12_isAsked : ByteArray := prog_14_method_30_code
def yX12_isAsked : MethodName := ⟨RX12, "isAsked", "(I)Z"⟩
abbrev cX12_swim : ByteArray := prog_14_method_31_code
def yX12_swim : MethodName := ⟨RX12, "swim", "(II)I"⟩
abbrev cX12_missingOnes : ByteArray := prog_14_method_32_code
def yX12_missingOnes : MethodName := ⟨RX12, "missingOnes", "()I"⟩
abbrev cX12_timed : ByteArray := prog_14_method_33_code
def yX12_timed : MethodName := ⟨RX12, "timed", "()I"⟩
abbrev cX12_why : ByteArray := prog_14_method_34_code
def yX12_why : MethodName := ⟨RX12, "why", "()I"⟩
abbrev cX12_inFinal : ByteArray := prog_14_method_35_code
def yX12_inFinal : MethodName := ⟨RX12, "inFinal", "()I"⟩
abbrev cX12_finals : ByteArray := prog_14_method_36_code
def yX12_finals : MethodName := ⟨RX12, "finals", "()I"⟩
abbrev cX12_finishers : ByteArray := prog_14_method_37_code
def yX12_finishers : MethodName := ⟨RX12, "finishers", "(II)I"⟩
abbrev cX12_worth : ByteArray := prog_14_method_38_code
def yX12_worth : MethodName := ⟨RX12, "worth", "(I)I"⟩
abbrev cX12_end : ByteArray := prog_14_method_39_code
def yX12_end : MethodName := ⟨RX12, "end", "()I"⟩
abbrev cX12_better : ByteArray := prog_14_method_40_code
def yX12_better : MethodName := ⟨RX12, "better", "(II)I"⟩
abbrev cX12_next : ByteArray := prog_14_method_41_code
def yX12_next : MethodName := ⟨RX12, "next", "()I"⟩
abbrev cX12_orNone : ByteArray := prog_14_method_42_code
def yX12_orNone : MethodName := ⟨RX12, "orNone", "(I)I"⟩
abbrev cX12_lessOne : ByteArray := prog_14_method_43_code
def yX12_lessOne : MethodName := ⟨RX12, "lessOne", "(I)I"⟩
abbrev cX12_swimmer : ByteArray := prog_14_method_44_code
def yX12_swimmer : MethodName := ⟨RX12, "swimmer", "(II)I"⟩
abbrev cX12_isHeat : ByteArray := prog_14_method_45_code
def yX12_isHeat : MethodName := ⟨RX12, "isHeat", "(I)Z"⟩
abbrev cX12_isIn : ByteArray := prog_14_method_46_code
def yX12_isIn : MethodName := ⟨RX12, "isIn", "(II)Z"⟩
abbrev cX12_at : ByteArray := prog_14_method_47_code
def yX12_at : MethodName := ⟨RX12, "at", "(II)I"⟩
abbrev cX12_counts : ByteArray := prog_14_method_48_code
def yX12_counts : MethodName := ⟨RX12, "counts", "(III)I"⟩
abbrev cX12_heat : ByteArray := prog_14_method_49_code
def yX12_heat : MethodName := ⟨RX12, "heat", "(II)I"⟩
abbrev cX12_reserve : ByteArray := prog_14_method_50_code
def yX12_reserve : MethodName := ⟨RX12, "reserve", "(I)I"⟩
abbrev cX12_reserves : ByteArray := prog_14_method_51_code
def yX12_reserves : MethodName := ⟨RX12, "reserves", "()I"⟩
abbrev cX12_points : ByteArray := prog_14_method_52_code
def yX12_points : MethodName := ⟨RX12, "points", "(I)I"⟩
abbrev cX12_ifDrawn : ByteArray := prog_14_method_53_code
def yX12_ifDrawn : MethodName := ⟨RX12, "ifDrawn", "(II)I"⟩
abbrev cX12_lane : ByteArray := prog_14_method_54_code
def yX12_lane : MethodName := ⟨RX12, "lane", "(II)I"⟩
abbrev cX12_missing : ByteArray := prog_14_method_55_code
def yX12_missing : MethodName := ⟨RX12, "missing", "(I)I"⟩
abbrev cX12_leader : ByteArray := prog_14_method_56_code
def yX12_leader : MethodName := ⟨RX12, "leader", "(I)I"⟩
abbrev cX12_mean : ByteArray := prog_14_method_57_code
def yX12_mean : MethodName := ⟨RX12, "mean", "()I"⟩
abbrev cX12_goneOnes : ByteArray := prog_14_method_58_code
def yX12_goneOnes : MethodName := ⟨RX12, "goneOnes", "()I"⟩
abbrev cX12_timesNow : ByteArray := prog_14_method_59_code
def yX12_timesNow : MethodName := ⟨RX12, "timesNow", "()I"⟩
abbrev cX12_allPoints : ByteArray := prog_14_method_60_code
def yX12_allPoints : MethodName := ⟨RX12, "allPoints", "()I"⟩
abbrev cX12_count : ByteArray := prog_14_method_61_code
def yX12_count : MethodName := ⟨RX12, "count", "(I)I"⟩
abbrev cX12_undo : ByteArray := prog_14_method_62_code
def yX12_undo : MethodName := ⟨RX12, "undo", "()I"⟩
abbrev cX12_type : ByteArray := prog_14_method_63_code
def yX12_type : MethodName := ⟨RX12, "type", "(I)I"⟩
abbrev cX12_clearText : ByteArray := prog_14_method_64_code
def yX12_clearText : MethodName := ⟨RX12, "clearText", "()I"⟩
abbrev cX12_isAt : ByteArray := prog_14_method_65_code
def yX12_isAt : MethodName := ⟨RX12, "isAt", "(II)Z"⟩
abbrev cX12_sign : ByteArray := prog_14_method_66_code
def yX12_sign : MethodName := ⟨RX12, "sign", "(I)Z"⟩
abbrev cX12_numbered : ByteArray := prog_14_method_67_code
def yX12_numbered : MethodName := ⟨RX12, "numbered", "(I)Z"⟩
abbrev cX12_numbersOf : ByteArray := prog_14_method_68_code
def yX12_numbersOf : MethodName := ⟨RX12, "numbersOf", "(I)I"⟩
abbrev cX12_reads : ByteArray := prog_14_method_69_code
def yX12_reads : MethodName := ⟨RX12, "reads", "()Z"⟩
abbrev cX12_does : ByteArray := prog_14_method_70_code
def yX12_does : MethodName := ⟨RX12, "does", "()I"⟩
abbrev cX12_plays : ByteArray := prog_14_method_71_code
def yX12_plays : MethodName := ⟨RX12, "plays", "()Z"⟩
abbrev cX12_fault : ByteArray := prog_14_method_72_code
def yX12_fault : MethodName := ⟨RX12, "fault", "(I)I"⟩
abbrev cX12_play : ByteArray := prog_14_method_73_code
def yX12_play : MethodName := ⟨RX12, "play", "()I"⟩
def RJxf58ca : String := "java/lang/Float"
def TJxf58ca : u_T := fun k => match k with
  | _ => ("", "", "", false)
def tyJxf58ca : Nat → FieldType := fun k => match k with
  | _ => .int
abbrev wsJxf58ca0 : List Cond := u_ws RJxf58ca TJxf58ca 0
theorem nmJxf58ca : ∀ a, a < 0 → ∀ b, b < 0 → a ≠ b → (TJxf58ca a).2.1 ≠ (TJxf58ca b).2.1 := by decide +kernel
theorem tyJxf58ca_ok : ∀ k, k < 0 → parseFieldDescriptor (TJxf58ca k).2.2.1 = some (tyJxf58ca k) := by decide +kernel
abbrev cJxf58ca_isNaN_12338 : ByteArray := prog_15_method_6_code
def yJxf58ca_isNaN_12338 : MethodName := ⟨RJxf58ca, "isNaN", "(F)Z"⟩
abbrev cJxf58ca_floatToIntBits_5c35a : ByteArray := prog_15_method_24_code
def yJxf58ca_floatToIntBits_5c35a : MethodName := ⟨RJxf58ca, "floatToIntBits", "(F)I"⟩
def RL : String := "GalaHeatsLaw"
abbrev cL_law : ByteArray := code
def yL_law : MethodName := ⟨RL, "law", "([I)Z"⟩
abbrev vwCl : List vw_C := [(RX3, TX3, 2), (RX5, TX5, 11), (RX6, TX6, 8), (RX7, TX7, 4), (RX10, TX10, 11), (RX11, TX11, 5), (RX12, TX12, 15)]
end
section
theorem dX0_ofSwimmer_0 : decode cX0_ofSwimmer 0 = .ok (.iload_n 2, 1) := by decide +kernel
theorem dX0_ofSwimmer_1 : decode cX0_ofSwimmer 1 = .ok (.tableswitch 196 0 10 #[59, 64, 69, 87, 105, 113, 131, 149, 157, 175, 183], 59) := by decide +kernel
theorem dX0_ofSwimmer_60 : decode cX0_ofSwimmer 60 = .ok (.aload_n 1, 1) := by decide +kernel
theorem dX0_ofSwimmer_61 : decode cX0_ofSwimmer 61 = .ok (.getfield 9, 3) := by decide +kernel
theorem dX0_ofSwimmer_64 : decode cX0_ofSwimmer 64 = .ok (.ireturn, 1) := by decide +kernel
theorem dX0_ofSwimmer_65 : decode cX0_ofSwimmer 65 = .ok (.aload_n 1, 1) := by decide +kernel
theorem dX0_ofSwimmer_66 : decode cX0_ofSwimmer 66 = .ok (.getfield 15, 3) := by decide +kernel
theorem dX0_ofSwimmer_69 : decode cX0_ofSwimmer 69 = .ok (.ireturn, 1) := by decide +kernel
theorem dX0_ofSwimmer_70 : decode cX0_ofSwimmer 70 = .ok (.aload_n 1, 1) := by decide +kernel
theorem dX0_ofSwimmer_71 : decode cX0_ofSwimmer 71 = .ok (.getfield 18, 3) := by decide +kernel
theorem dX0_ofSwimmer_74 : decode cX0_ofSwimmer 74 = .ok (.ifCond .eq 8, 3) := by decide +kernel
theorem dX0_ofSwimmer_77 : decode cX0_ofSwimmer 77 = .ok (.ldc 22, 2) := by decide +kernel
theorem dX0_ofSwimmer_79 : decode cX0_ofSwimmer 79 = .ok (.goto 8, 3) := by decide +kernel
theorem dX0_ofSwimmer_82 : decode cX0_ofSwimmer 82 = .ok (.aload_n 0, 1) := by decide +kernel
theorem dX0_ofSwimmer_83 : decode cX0_ofSwimmer 83 = .ok (.aload_n 1, 1) := by decide +kernel
theorem dX0_ofSwimmer_84 : decode cX0_ofSwimmer 84 = .ok (.invokevirtual 23, 3) := by decide +kernel
theorem dX0_ofSwimmer_87 : decode cX0_ofSwimmer 87 = .ok (.ireturn, 1) := by decide +kernel
theorem dX0_ofSwimmer_88 : decode cX0_ofSwimmer 88 = .ok (.aload_n 1, 1) := by decide +kernel
theorem dX0_ofSwimmer_89 : decode cX0_ofSwimmer 89 = .ok (.getfield 29, 3) := by decide +kernel
theorem dX0_ofSwimmer_92 : decode cX0_ofSwimmer 92 = .ok (.iconst (-1), 1) := by decide +kernel
theorem dX0_ofSwimmer_93 : decode cX0_ofSwimmer 93 = .ok (.if_icmp .ne 8, 3) := by decide +kernel
theorem dX0_ofSwimmer_96 : decode cX0_ofSwimmer 96 = .ok (.ldc 22, 2) := by decide +kernel
theorem dX0_ofSwimmer_98 : decode cX0_ofSwimmer 98 = .ok (.goto 7, 3) := by decide +kernel
theorem dX0_ofSwimmer_101 : decode cX0_ofSwimmer 101 = .ok (.aload_n 1, 1) := by decide +kernel
theorem dX0_ofSwimmer_102 : decode cX0_ofSwimmer 102 = .ok (.getfield 29, 3) := by decide +kernel
theorem dX0_ofSwimmer_105 : decode cX0_ofSwimmer 105 = .ok (.ireturn, 1) := by decide +kernel
theorem dX0_ofSwimmer_106 : decode cX0_ofSwimmer 106 = .ok (.aload_n 1, 1) := by decide +kernel
theorem dX0_ofSwimmer_107 : decode cX0_ofSwimmer 107 = .ok (.getfield 32, 3) := by decide +kernel
theorem dX0_ofSwimmer_110 : decode cX0_ofSwimmer 110 = .ok (.invokestatic 35, 3) := by decide +kernel
theorem dX0_ofSwimmer_113 : decode cX0_ofSwimmer 113 = .ok (.ireturn, 1) := by decide +kernel
theorem dX0_ofSwimmer_114 : decode cX0_ofSwimmer 114 = .ok (.aload_n 1, 1) := by decide +kernel
theorem dX0_ofSwimmer_115 : decode cX0_ofSwimmer 115 = .ok (.getfield 41, 3) := by decide +kernel
theorem dX0_ofSwimmer_118 : decode cX0_ofSwimmer 118 = .ok (.iconst (-1), 1) := by decide +kernel
theorem dX0_ofSwimmer_119 : decode cX0_ofSwimmer 119 = .ok (.if_icmp .ne 8, 3) := by decide +kernel
theorem dX0_ofSwimmer_122 : decode cX0_ofSwimmer 122 = .ok (.ldc 22, 2) := by decide +kernel
theorem dX0_ofSwimmer_124 : decode cX0_ofSwimmer 124 = .ok (.goto 7, 3) := by decide +kernel
theorem dX0_ofSwimmer_127 : decode cX0_ofSwimmer 127 = .ok (.aload_n 1, 1) := by decide +kernel
theorem dX0_ofSwimmer_128 : decode cX0_ofSwimmer 128 = .ok (.getfield 41, 3) := by decide +kernel
theorem dX0_ofSwimmer_131 : decode cX0_ofSwimmer 131 = .ok (.ireturn, 1) := by decide +kernel
theorem dX0_ofSwimmer_132 : decode cX0_ofSwimmer 132 = .ok (.aload_n 1, 1) := by decide +kernel
theorem dX0_ofSwimmer_133 : decode cX0_ofSwimmer 133 = .ok (.getfield 41, 3) := by decide +kernel
theorem dX0_ofSwimmer_136 : decode cX0_ofSwimmer 136 = .ok (.ifCond .le 11, 3) := by decide +kernel
theorem dX0_ofSwimmer_139 : decode cX0_ofSwimmer 139 = .ok (.aload_n 0, 1) := by decide +kernel
theorem dX0_ofSwimmer_140 : decode cX0_ofSwimmer 140 = .ok (.aload_n 1, 1) := by decide +kernel
theorem dX0_ofSwimmer_141 : decode cX0_ofSwimmer 141 = .ok (.invokevirtual 44, 3) := by decide +kernel
theorem dX0_ofSwimmer_144 : decode cX0_ofSwimmer 144 = .ok (.goto 5, 3) := by decide +kernel
theorem dX0_ofSwimmer_147 : decode cX0_ofSwimmer 147 = .ok (.ldc 22, 2) := by decide +kernel
theorem dX0_ofSwimmer_149 : decode cX0_ofSwimmer 149 = .ok (.ireturn, 1) := by decide +kernel
theorem dX0_ofSwimmer_150 : decode cX0_ofSwimmer 150 = .ok (.aload_n 1, 1) := by decide +kernel
theorem dX0_ofSwimmer_151 : decode cX0_ofSwimmer 151 = .ok (.getfield 47, 3) := by decide +kernel
theorem dX0_ofSwimmer_154 : decode cX0_ofSwimmer 154 = .ok (.invokestatic 35, 3) := by decide +kernel
theorem dX0_ofSwimmer_157 : decode cX0_ofSwimmer 157 = .ok (.ireturn, 1) := by decide +kernel
theorem dX0_ofSwimmer_158 : decode cX0_ofSwimmer 158 = .ok (.aload_n 1, 1) := by decide +kernel
theorem dX0_ofSwimmer_159 : decode cX0_ofSwimmer 159 = .ok (.getfield 50, 3) := by decide +kernel
theorem dX0_ofSwimmer_162 : decode cX0_ofSwimmer 162 = .ok (.iconst (-1), 1) := by decide +kernel
theorem dX0_ofSwimmer_163 : decode cX0_ofSwimmer 163 = .ok (.if_icmp .ne 8, 3) := by decide +kernel
theorem dX0_ofSwimmer_166 : decode cX0_ofSwimmer 166 = .ok (.ldc 22, 2) := by decide +kernel
theorem dX0_ofSwimmer_168 : decode cX0_ofSwimmer 168 = .ok (.goto 7, 3) := by decide +kernel
theorem dX0_ofSwimmer_171 : decode cX0_ofSwimmer 171 = .ok (.aload_n 1, 1) := by decide +kernel
theorem dX0_ofSwimmer_172 : decode cX0_ofSwimmer 172 = .ok (.getfield 50, 3) := by decide +kernel
theorem dX0_ofSwimmer_175 : decode cX0_ofSwimmer 175 = .ok (.ireturn, 1) := by decide +kernel
theorem dX0_ofSwimmer_176 : decode cX0_ofSwimmer 176 = .ok (.aload_n 1, 1) := by decide +kernel
theorem dX0_ofSwimmer_177 : decode cX0_ofSwimmer 177 = .ok (.getfield 53, 3) := by decide +kernel
theorem dX0_ofSwimmer_180 : decode cX0_ofSwimmer 180 = .ok (.invokestatic 35, 3) := by decide +kernel
theorem dX0_ofSwimmer_183 : decode cX0_ofSwimmer 183 = .ok (.ireturn, 1) := by decide +kernel
theorem dX0_ofSwimmer_184 : decode cX0_ofSwimmer 184 = .ok (.aload_n 1, 1) := by decide +kernel
theorem dX0_ofSwimmer_185 : decode cX0_ofSwimmer 185 = .ok (.getfield 18, 3) := by decide +kernel
theorem dX0_ofSwimmer_188 : decode cX0_ofSwimmer 188 = .ok (.ifCond .eq 7, 3) := by decide +kernel
theorem dX0_ofSwimmer_191 : decode cX0_ofSwimmer 191 = .ok (.iconst 1, 1) := by decide +kernel
theorem dX0_ofSwimmer_192 : decode cX0_ofSwimmer 192 = .ok (.goto 4, 3) := by decide +kernel
theorem dX0_ofSwimmer_195 : decode cX0_ofSwimmer 195 = .ok (.iconst 0, 1) := by decide +kernel
theorem dX0_ofSwimmer_196 : decode cX0_ofSwimmer 196 = .ok (.ireturn, 1) := by decide +kernel
theorem dX0_ofSwimmer_197 : decode cX0_ofSwimmer 197 = .ok (.aload_n 1, 1) := by decide +kernel
theorem dX0_ofSwimmer_198 : decode cX0_ofSwimmer 198 = .ok (.getfield 56, 3) := by decide +kernel
theorem dX0_ofSwimmer_201 : decode cX0_ofSwimmer 201 = .ok (.ireturn, 1) := by decide +kernel
theorem dX0_aboveZero_0 : decode cX0_aboveZero 0 = .ok (.iload_n 0, 1) := by decide +kernel
theorem dX0_aboveZero_1 : decode cX0_aboveZero 1 = .ok (.ifCond .le 7, 3) := by decide +kernel
theorem dX0_aboveZero_4 : decode cX0_aboveZero 4 = .ok (.iload_n 0, 1) := by decide +kernel
theorem dX0_aboveZero_5 : decode cX0_aboveZero 5 = .ok (.goto 5, 3) := by decide +kernel
theorem dX0_aboveZero_8 : decode cX0_aboveZero 8 = .ok (.ldc 22, 2) := by decide +kernel
theorem dX0_aboveZero_10 : decode cX0_aboveZero 10 = .ok (.ireturn, 1) := by decide +kernel
theorem dX0_inLane_0 : decode cX0_inLane 0 = .ok (.iconst 0, 1) := by decide +kernel
theorem dX0_inLane_1 : decode cX0_inLane 1 = .ok (.istore_n 3, 1) := by decide +kernel
theorem dX0_inLane_2 : decode cX0_inLane 2 = .ok (.iload_n 3, 1) := by decide +kernel
theorem dX0_inLane_3 : decode cX0_inLane 3 = .ok (.aload_n 0, 1) := by decide +kernel
theorem dX0_inLane_4 : decode cX0_inLane 4 = .ok (.getfield 59, 3) := by decide +kernel
theorem dX0_inLane_7 : decode cX0_inLane 7 = .ok (.if_icmp .ge 38, 3) := by decide +kernel
theorem dX0_inLane_10 : decode cX0_inLane 10 = .ok (.aload_n 0, 1) := by decide +kernel
theorem dX0_inLane_11 : decode cX0_inLane 11 = .ok (.getfield 62, 3) := by decide +kernel
theorem dX0_inLane_14 : decode cX0_inLane 14 = .ok (.iload_n 3, 1) := by decide +kernel
theorem dX0_inLane_15 : decode cX0_inLane 15 = .ok (.aaload, 1) := by decide +kernel
theorem dX0_inLane_16 : decode cX0_inLane 16 = .ok (.astore 4, 2) := by decide +kernel
theorem dX0_inLane_18 : decode cX0_inLane 18 = .ok (.aload 4, 2) := by decide +kernel
theorem dX0_inLane_20 : decode cX0_inLane 20 = .ok (.iload_n 1, 1) := by decide +kernel
theorem dX0_inLane_21 : decode cX0_inLane 21 = .ok (.invokevirtual 66, 3) := by decide +kernel
theorem dX0_inLane_24 : decode cX0_inLane 24 = .ok (.ifCond .eq 15, 3) := by decide +kernel
theorem dX0_inLane_27 : decode cX0_inLane 27 = .ok (.aload 4, 2) := by decide +kernel
theorem dX0_inLane_29 : decode cX0_inLane 29 = .ok (.iload_n 1, 1) := by decide +kernel
theorem dX0_inLane_30 : decode cX0_inLane 30 = .ok (.invokevirtual 70, 3) := by decide +kernel
theorem dX0_inLane_33 : decode cX0_inLane 33 = .ok (.iload_n 2, 1) := by decide +kernel
theorem dX0_inLane_34 : decode cX0_inLane 34 = .ok (.if_icmp .ne 5, 3) := by decide +kernel
theorem dX0_inLane_37 : decode cX0_inLane 37 = .ok (.iload_n 3, 1) := by decide +kernel
theorem dX0_inLane_38 : decode cX0_inLane 38 = .ok (.ireturn, 1) := by decide +kernel
theorem dX0_inLane_39 : decode cX0_inLane 39 = .ok (.iinc 3 1, 3) := by decide +kernel
theorem dX0_inLane_42 : decode cX0_inLane 42 = .ok (.goto (-40), 3) := by decide +kernel
theorem dX0_inLane_45 : decode cX0_inLane 45 = .ok (.ldc 22, 2) := by decide +kernel
theorem dX0_inLane_47 : decode cX0_inLane 47 = .ok (.ireturn, 1) := by decide +kernel
theorem dX0_ofHeat_0 : decode cX0_ofHeat 0 = .ok (.iload_n 2, 1) := by decide +kernel
theorem dX0_ofHeat_1 : decode cX0_ofHeat 1 = .ok (.tableswitch 58 0 3 #[31, 38, 45, 52], 31) := by decide +kernel
theorem dX0_ofHeat_32 : decode cX0_ofHeat 32 = .ok (.aload_n 0, 1) := by decide +kernel
theorem dX0_ofHeat_33 : decode cX0_ofHeat 33 = .ok (.iload_n 1, 1) := by decide +kernel
theorem dX0_ofHeat_34 : decode cX0_ofHeat 34 = .ok (.iconst 0, 1) := by decide +kernel
theorem dX0_ofHeat_35 : decode cX0_ofHeat 35 = .ok (.invokestatic 73, 3) := by decide +kernel
theorem dX0_ofHeat_38 : decode cX0_ofHeat 38 = .ok (.ireturn, 1) := by decide +kernel
theorem dX0_ofHeat_39 : decode cX0_ofHeat 39 = .ok (.aload_n 0, 1) := by decide +kernel
theorem dX0_ofHeat_40 : decode cX0_ofHeat 40 = .ok (.iload_n 1, 1) := by decide +kernel
theorem dX0_ofHeat_41 : decode cX0_ofHeat 41 = .ok (.iconst 1, 1) := by decide +kernel
theorem dX0_ofHeat_42 : decode cX0_ofHeat 42 = .ok (.invokestatic 73, 3) := by decide +kernel
theorem dX0_ofHeat_45 : decode cX0_ofHeat 45 = .ok (.ireturn, 1) := by decide +kernel
theorem dX0_ofHeat_46 : decode cX0_ofHeat 46 = .ok (.aload_n 0, 1) := by decide +kernel
theorem dX0_ofHeat_47 : decode cX0_ofHeat 47 = .ok (.iload_n 1, 1) := by decide +kernel
theorem dX0_ofHeat_48 : decode cX0_ofHeat 48 = .ok (.iconst 0, 1) := by decide +kernel
theorem dX0_ofHeat_49 : decode cX0_ofHeat 49 = .ok (.invokestatic 77, 3) := by decide +kernel
theorem dX0_ofHeat_52 : decode cX0_ofHeat 52 = .ok (.ireturn, 1) := by decide +kernel
theorem dX0_ofHeat_53 : decode cX0_ofHeat 53 = .ok (.aload_n 0, 1) := by decide +kernel
theorem dX0_ofHeat_54 : decode cX0_ofHeat 54 = .ok (.iload_n 1, 1) := by decide +kernel
theorem dX0_ofHeat_55 : decode cX0_ofHeat 55 = .ok (.invokestatic 80, 3) := by decide +kernel
theorem dX0_ofHeat_58 : decode cX0_ofHeat 58 = .ok (.ireturn, 1) := by decide +kernel
theorem dX0_ofHeat_59 : decode cX0_ofHeat 59 = .ok (.aload_n 0, 1) := by decide +kernel
theorem dX0_ofHeat_60 : decode cX0_ofHeat 60 = .ok (.iload_n 1, 1) := by decide +kernel
theorem dX0_ofHeat_61 : decode cX0_ofHeat 61 = .ok (.iconst 1, 1) := by decide +kernel
theorem dX0_ofHeat_62 : decode cX0_ofHeat 62 = .ok (.invokestatic 77, 3) := by decide +kernel
theorem dX0_ofHeat_65 : decode cX0_ofHeat 65 = .ok (.ireturn, 1) := by decide +kernel
theorem dX0_countIn_0 : decode cX0_countIn 0 = .ok (.iconst 0, 1) := by decide +kernel
theorem dX0_countIn_1 : decode cX0_countIn 1 = .ok (.istore_n 3, 1) := by decide +kernel
theorem dX0_countIn_2 : decode cX0_countIn 2 = .ok (.iconst 0, 1) := by decide +kernel
theorem dX0_countIn_3 : decode cX0_countIn 3 = .ok (.istore 4, 2) := by decide +kernel
theorem dX0_countIn_5 : decode cX0_countIn 5 = .ok (.iload 4, 2) := by decide +kernel
theorem dX0_countIn_7 : decode cX0_countIn 7 = .ok (.aload_n 0, 1) := by decide +kernel
theorem dX0_countIn_8 : decode cX0_countIn 8 = .ok (.getfield 59, 3) := by decide +kernel
theorem dX0_countIn_11 : decode cX0_countIn 11 = .ok (.if_icmp .ge 44, 3) := by decide +kernel
theorem dX0_countIn_14 : decode cX0_countIn 14 = .ok (.aload_n 0, 1) := by decide +kernel
theorem dX0_countIn_15 : decode cX0_countIn 15 = .ok (.getfield 62, 3) := by decide +kernel
theorem dX0_countIn_18 : decode cX0_countIn 18 = .ok (.iload 4, 2) := by decide +kernel
theorem dX0_countIn_20 : decode cX0_countIn 20 = .ok (.aaload, 1) := by decide +kernel
theorem dX0_countIn_21 : decode cX0_countIn 21 = .ok (.astore 5, 2) := by decide +kernel
theorem dX0_countIn_23 : decode cX0_countIn 23 = .ok (.aload 5, 2) := by decide +kernel
theorem dX0_countIn_25 : decode cX0_countIn 25 = .ok (.iload_n 1, 1) := by decide +kernel
theorem dX0_countIn_26 : decode cX0_countIn 26 = .ok (.invokevirtual 66, 3) := by decide +kernel
theorem dX0_countIn_29 : decode cX0_countIn 29 = .ok (.ifCond .eq 20, 3) := by decide +kernel
theorem dX0_countIn_32 : decode cX0_countIn 32 = .ok (.iload_n 2, 1) := by decide +kernel
theorem dX0_countIn_33 : decode cX0_countIn 33 = .ok (.ifCond .eq 13, 3) := by decide +kernel
theorem dX0_countIn_36 : decode cX0_countIn 36 = .ok (.aload 5, 2) := by decide +kernel
theorem dX0_countIn_38 : decode cX0_countIn 38 = .ok (.iload_n 1, 1) := by decide +kernel
theorem dX0_countIn_39 : decode cX0_countIn 39 = .ok (.invokevirtual 84, 3) := by decide +kernel
theorem dX0_countIn_42 : decode cX0_countIn 42 = .ok (.iconst (-1), 1) := by decide +kernel
theorem dX0_countIn_43 : decode cX0_countIn 43 = .ok (.if_icmp .eq 6, 3) := by decide +kernel
theorem dX0_countIn_46 : decode cX0_countIn 46 = .ok (.iinc 3 1, 3) := by decide +kernel
theorem dX0_countIn_49 : decode cX0_countIn 49 = .ok (.iinc 4 1, 3) := by decide +kernel
theorem dX0_countIn_52 : decode cX0_countIn 52 = .ok (.goto (-47), 3) := by decide +kernel
theorem dX0_countIn_55 : decode cX0_countIn 55 = .ok (.iload_n 3, 1) := by decide +kernel
theorem dX0_countIn_56 : decode cX0_countIn 56 = .ok (.ireturn, 1) := by decide +kernel
theorem dX0_leastIn_0 : decode cX0_leastIn 0 = .ok (.iconst 0, 1) := by decide +kernel
theorem dX0_leastIn_1 : decode cX0_leastIn 1 = .ok (.istore_n 3, 1) := by decide +kernel
theorem dX0_leastIn_2 : decode cX0_leastIn 2 = .ok (.iconst 0, 1) := by decide +kernel
theorem dX0_leastIn_3 : decode cX0_leastIn 3 = .ok (.istore 4, 2) := by decide +kernel
theorem dX0_leastIn_5 : decode cX0_leastIn 5 = .ok (.iload 4, 2) := by decide +kernel
theorem dX0_leastIn_7 : decode cX0_leastIn 7 = .ok (.aload_n 0, 1) := by decide +kernel
theorem dX0_leastIn_8 : decode cX0_leastIn 8 = .ok (.getfield 59, 3) := by decide +kernel
theorem dX0_leastIn_11 : decode cX0_leastIn 11 = .ok (.if_icmp .ge 65, 3) := by decide +kernel
theorem dX0_leastIn_14 : decode cX0_leastIn 14 = .ok (.aload_n 0, 1) := by decide +kernel
theorem dX0_leastIn_15 : decode cX0_leastIn 15 = .ok (.getfield 62, 3) := by decide +kernel
theorem dX0_leastIn_18 : decode cX0_leastIn 18 = .ok (.iload 4, 2) := by decide +kernel
theorem dX0_leastIn_20 : decode cX0_leastIn 20 = .ok (.aaload, 1) := by decide +kernel
theorem dX0_leastIn_21 : decode cX0_leastIn 21 = .ok (.astore 5, 2) := by decide +kernel
theorem dX0_leastIn_23 : decode cX0_leastIn 23 = .ok (.iload_n 2, 1) := by decide +kernel
theorem dX0_leastIn_24 : decode cX0_leastIn 24 = .ok (.ifCond .eq 12, 3) := by decide +kernel
theorem dX0_leastIn_27 : decode cX0_leastIn 27 = .ok (.aload 5, 2) := by decide +kernel
theorem dX0_leastIn_29 : decode cX0_leastIn 29 = .ok (.iload_n 1, 1) := by decide +kernel
theorem dX0_leastIn_30 : decode cX0_leastIn 30 = .ok (.invokevirtual 84, 3) := by decide +kernel
theorem dX0_leastIn_33 : decode cX0_leastIn 33 = .ok (.goto 8, 3) := by decide +kernel
theorem dX0_leastIn_36 : decode cX0_leastIn 36 = .ok (.aload 5, 2) := by decide +kernel
theorem dX0_leastIn_38 : decode cX0_leastIn 38 = .ok (.getfield 15, 3) := by decide +kernel
theorem dX0_leastIn_41 : decode cX0_leastIn 41 = .ok (.istore 6, 2) := by decide +kernel
theorem dX0_leastIn_43 : decode cX0_leastIn 43 = .ok (.aload 5, 2) := by decide +kernel
theorem dX0_leastIn_45 : decode cX0_leastIn 45 = .ok (.iload_n 1, 1) := by decide +kernel
theorem dX0_leastIn_46 : decode cX0_leastIn 46 = .ok (.invokevirtual 66, 3) := by decide +kernel
theorem dX0_leastIn_49 : decode cX0_leastIn 49 = .ok (.ifCond .eq 21, 3) := by decide +kernel
theorem dX0_leastIn_52 : decode cX0_leastIn 52 = .ok (.iload 6, 2) := by decide +kernel
theorem dX0_leastIn_54 : decode cX0_leastIn 54 = .ok (.ifCond .le 16, 3) := by decide +kernel
theorem dX0_leastIn_57 : decode cX0_leastIn 57 = .ok (.iload_n 3, 1) := by decide +kernel
theorem dX0_leastIn_58 : decode cX0_leastIn 58 = .ok (.ifCond .eq 9, 3) := by decide +kernel
theorem dX0_leastIn_61 : decode cX0_leastIn 61 = .ok (.iload 6, 2) := by decide +kernel
theorem dX0_leastIn_63 : decode cX0_leastIn 63 = .ok (.iload_n 3, 1) := by decide +kernel
theorem dX0_leastIn_64 : decode cX0_leastIn 64 = .ok (.if_icmp .ge 6, 3) := by decide +kernel
theorem dX0_leastIn_67 : decode cX0_leastIn 67 = .ok (.iload 6, 2) := by decide +kernel
theorem dX0_leastIn_69 : decode cX0_leastIn 69 = .ok (.istore_n 3, 1) := by decide +kernel
theorem dX0_leastIn_70 : decode cX0_leastIn 70 = .ok (.iinc 4 1, 3) := by decide +kernel
theorem dX0_leastIn_73 : decode cX0_leastIn 73 = .ok (.goto (-68), 3) := by decide +kernel
theorem dX0_leastIn_76 : decode cX0_leastIn 76 = .ok (.iload_n 3, 1) := by decide +kernel
theorem dX0_leastIn_77 : decode cX0_leastIn 77 = .ok (.invokestatic 35, 3) := by decide +kernel
theorem dX0_leastIn_80 : decode cX0_leastIn 80 = .ok (.ireturn, 1) := by decide +kernel
theorem dX0_greatestEntryIn_0 : decode cX0_greatestEntryIn 0 = .ok (.iconst 0, 1) := by decide +kernel
theorem dX0_greatestEntryIn_1 : decode cX0_greatestEntryIn 1 = .ok (.istore_n 2, 1) := by decide +kernel
theorem dX0_greatestEntryIn_2 : decode cX0_greatestEntryIn 2 = .ok (.iconst 0, 1) := by decide +kernel
theorem dX0_greatestEntryIn_3 : decode cX0_greatestEntryIn 3 = .ok (.istore_n 3, 1) := by decide +kernel
theorem dX0_greatestEntryIn_4 : decode cX0_greatestEntryIn 4 = .ok (.iload_n 3, 1) := by decide +kernel
theorem dX0_greatestEntryIn_5 : decode cX0_greatestEntryIn 5 = .ok (.aload_n 0, 1) := by decide +kernel
theorem dX0_greatestEntryIn_6 : decode cX0_greatestEntryIn 6 = .ok (.getfield 59, 3) := by decide +kernel
theorem dX0_greatestEntryIn_9 : decode cX0_greatestEntryIn 9 = .ok (.if_icmp .ge 45, 3) := by decide +kernel
theorem dX0_greatestEntryIn_12 : decode cX0_greatestEntryIn 12 = .ok (.aload_n 0, 1) := by decide +kernel
theorem dX0_greatestEntryIn_13 : decode cX0_greatestEntryIn 13 = .ok (.getfield 62, 3) := by decide +kernel
theorem dX0_greatestEntryIn_16 : decode cX0_greatestEntryIn 16 = .ok (.iload_n 3, 1) := by decide +kernel
theorem dX0_greatestEntryIn_17 : decode cX0_greatestEntryIn 17 = .ok (.aaload, 1) := by decide +kernel
theorem dX0_greatestEntryIn_18 : decode cX0_greatestEntryIn 18 = .ok (.iload_n 1, 1) := by decide +kernel
theorem dX0_greatestEntryIn_19 : decode cX0_greatestEntryIn 19 = .ok (.invokevirtual 66, 3) := by decide +kernel
theorem dX0_greatestEntryIn_22 : decode cX0_greatestEntryIn 22 = .ok (.ifCond .eq 26, 3) := by decide +kernel
theorem dX0_greatestEntryIn_25 : decode cX0_greatestEntryIn 25 = .ok (.aload_n 0, 1) := by decide +kernel
theorem dX0_greatestEntryIn_26 : decode cX0_greatestEntryIn 26 = .ok (.getfield 62, 3) := by decide +kernel
theorem dX0_greatestEntryIn_29 : decode cX0_greatestEntryIn 29 = .ok (.iload_n 3, 1) := by decide +kernel
theorem dX0_greatestEntryIn_30 : decode cX0_greatestEntryIn 30 = .ok (.aaload, 1) := by decide +kernel
theorem dX0_greatestEntryIn_31 : decode cX0_greatestEntryIn 31 = .ok (.getfield 15, 3) := by decide +kernel
theorem dX0_greatestEntryIn_34 : decode cX0_greatestEntryIn 34 = .ok (.iload_n 2, 1) := by decide +kernel
theorem dX0_greatestEntryIn_35 : decode cX0_greatestEntryIn 35 = .ok (.if_icmp .le 13, 3) := by decide +kernel
theorem dX0_greatestEntryIn_38 : decode cX0_greatestEntryIn 38 = .ok (.aload_n 0, 1) := by decide +kernel
theorem dX0_greatestEntryIn_39 : decode cX0_greatestEntryIn 39 = .ok (.getfield 62, 3) := by decide +kernel
theorem dX0_greatestEntryIn_42 : decode cX0_greatestEntryIn 42 = .ok (.iload_n 3, 1) := by decide +kernel
theorem dX0_greatestEntryIn_43 : decode cX0_greatestEntryIn 43 = .ok (.aaload, 1) := by decide +kernel
theorem dX0_greatestEntryIn_44 : decode cX0_greatestEntryIn 44 = .ok (.getfield 15, 3) := by decide +kernel
theorem dX0_greatestEntryIn_47 : decode cX0_greatestEntryIn 47 = .ok (.istore_n 2, 1) := by decide +kernel
theorem dX0_greatestEntryIn_48 : decode cX0_greatestEntryIn 48 = .ok (.iinc 3 1, 3) := by decide +kernel
theorem dX0_greatestEntryIn_51 : decode cX0_greatestEntryIn 51 = .ok (.goto (-47), 3) := by decide +kernel
theorem dX0_greatestEntryIn_54 : decode cX0_greatestEntryIn 54 = .ok (.iload_n 2, 1) := by decide +kernel
theorem dX0_greatestEntryIn_55 : decode cX0_greatestEntryIn 55 = .ok (.invokestatic 35, 3) := by decide +kernel
theorem dX0_greatestEntryIn_58 : decode cX0_greatestEntryIn 58 = .ok (.ireturn, 1) := by decide +kernel
theorem dX0_meanBits_0 : decode cX0_meanBits 0 = .ok (.aload_n 0, 1) := by decide +kernel
theorem dX0_meanBits_1 : decode cX0_meanBits 1 = .ok (.invokevirtual 87, 3) := by decide +kernel
theorem dX0_meanBits_4 : decode cX0_meanBits 4 = .ok (.istore_n 1, 1) := by decide +kernel
theorem dX0_meanBits_5 : decode cX0_meanBits 5 = .ok (.iload_n 1, 1) := by decide +kernel
theorem dX0_meanBits_6 : decode cX0_meanBits 6 = .ok (.ifCond .ne 6, 3) := by decide +kernel
theorem dX0_meanBits_9 : decode cX0_meanBits 9 = .ok (.ldc 22, 2) := by decide +kernel
theorem dX0_meanBits_11 : decode cX0_meanBits 11 = .ok (.ireturn, 1) := by decide +kernel
theorem dX0_meanBits_12 : decode cX0_meanBits 12 = .ok (.iconst 0, 1) := by decide +kernel
theorem dX0_meanBits_13 : decode cX0_meanBits 13 = .ok (.istore_n 2, 1) := by decide +kernel
theorem dX0_meanBits_14 : decode cX0_meanBits 14 = .ok (.iconst 0, 1) := by decide +kernel
theorem dX0_meanBits_15 : decode cX0_meanBits 15 = .ok (.istore_n 3, 1) := by decide +kernel
theorem dX0_meanBits_16 : decode cX0_meanBits 16 = .ok (.iload_n 3, 1) := by decide +kernel
theorem dX0_meanBits_17 : decode cX0_meanBits 17 = .ok (.aload_n 0, 1) := by decide +kernel
theorem dX0_meanBits_18 : decode cX0_meanBits 18 = .ok (.getfield 59, 3) := by decide +kernel
theorem dX0_meanBits_21 : decode cX0_meanBits 21 = .ok (.if_icmp .ge 31, 3) := by decide +kernel
theorem dX0_meanBits_24 : decode cX0_meanBits 24 = .ok (.aload_n 0, 1) := by decide +kernel
theorem dX0_meanBits_25 : decode cX0_meanBits 25 = .ok (.aload_n 0, 1) := by decide +kernel
theorem dX0_meanBits_26 : decode cX0_meanBits 26 = .ok (.getfield 62, 3) := by decide +kernel
theorem dX0_meanBits_29 : decode cX0_meanBits 29 = .ok (.iload_n 3, 1) := by decide +kernel
theorem dX0_meanBits_30 : decode cX0_meanBits 30 = .ok (.aaload, 1) := by decide +kernel
theorem dX0_meanBits_31 : decode cX0_meanBits 31 = .ok (.invokevirtual 91, 3) := by decide +kernel
theorem dX0_meanBits_34 : decode cX0_meanBits 34 = .ok (.istore 4, 2) := by decide +kernel
theorem dX0_meanBits_36 : decode cX0_meanBits 36 = .ok (.iload 4, 2) := by decide +kernel
theorem dX0_meanBits_38 : decode cX0_meanBits 38 = .ok (.ifCond .le 8, 3) := by decide +kernel
theorem dX0_meanBits_41 : decode cX0_meanBits 41 = .ok (.iload_n 2, 1) := by decide +kernel
theorem dX0_meanBits_42 : decode cX0_meanBits 42 = .ok (.iload 4, 2) := by decide +kernel
theorem dX0_meanBits_44 : decode cX0_meanBits 44 = .ok (.iadd, 1) := by decide +kernel
theorem dX0_meanBits_45 : decode cX0_meanBits 45 = .ok (.istore_n 2, 1) := by decide +kernel
theorem dX0_meanBits_46 : decode cX0_meanBits 46 = .ok (.iinc 3 1, 3) := by decide +kernel
theorem dX0_meanBits_49 : decode cX0_meanBits 49 = .ok (.goto (-33), 3) := by decide +kernel
theorem dX0_meanBits_52 : decode cX0_meanBits 52 = .ok (.iload_n 2, 1) := by decide +kernel
theorem dX0_meanBits_53 : decode cX0_meanBits 53 = .ok (.i2f, 1) := by decide +kernel
theorem dX0_meanBits_54 : decode cX0_meanBits 54 = .ok (.iload_n 1, 1) := by decide +kernel
theorem dX0_meanBits_55 : decode cX0_meanBits 55 = .ok (.i2f, 1) := by decide +kernel
theorem dX0_meanBits_56 : decode cX0_meanBits 56 = .ok (.fdiv, 1) := by decide +kernel
theorem dX0_meanBits_57 : decode cX0_meanBits 57 = .ok (.invokestatic 94, 3) := by decide +kernel
theorem dX0_meanBits_60 : decode cX0_meanBits 60 = .ok (.ireturn, 1) := by decide +kernel
theorem dX0_bitsOf_0 : decode cX0_bitsOf 0 = .ok (.fload_n 0, 1) := by decide +kernel
theorem dX0_bitsOf_1 : decode cX0_bitsOf 1 = .ok (.fstore_n 1, 1) := by decide +kernel
theorem dX0_bitsOf_2 : decode cX0_bitsOf 2 = .ok (.iconst 0, 1) := by decide +kernel
theorem dX0_bitsOf_3 : decode cX0_bitsOf 3 = .ok (.istore_n 2, 1) := by decide +kernel
theorem dX0_bitsOf_4 : decode cX0_bitsOf 4 = .ok (.fload_n 1, 1) := by decide +kernel
theorem dX0_bitsOf_5 : decode cX0_bitsOf 5 = .ok (.fconst 2, 1) := by decide +kernel
theorem dX0_bitsOf_6 : decode cX0_bitsOf 6 = .ok (.fcmp .l, 1) := by decide +kernel
theorem dX0_bitsOf_7 : decode cX0_bitsOf 7 = .ok (.ifCond .lt 19, 3) := by decide +kernel
theorem dX0_bitsOf_10 : decode cX0_bitsOf 10 = .ok (.iload_n 2, 1) := by decide +kernel
theorem dX0_bitsOf_11 : decode cX0_bitsOf 11 = .ok (.bipush 30, 2) := by decide +kernel
theorem dX0_bitsOf_13 : decode cX0_bitsOf 13 = .ok (.if_icmp .ge 13, 3) := by decide +kernel
theorem dX0_bitsOf_16 : decode cX0_bitsOf 16 = .ok (.fload_n 1, 1) := by decide +kernel
theorem dX0_bitsOf_17 : decode cX0_bitsOf 17 = .ok (.fconst 2, 1) := by decide +kernel
theorem dX0_bitsOf_18 : decode cX0_bitsOf 18 = .ok (.fdiv, 1) := by decide +kernel
theorem dX0_bitsOf_19 : decode cX0_bitsOf 19 = .ok (.fstore_n 1, 1) := by decide +kernel
theorem dX0_bitsOf_20 : decode cX0_bitsOf 20 = .ok (.iinc 2 1, 3) := by decide +kernel
theorem dX0_bitsOf_23 : decode cX0_bitsOf 23 = .ok (.goto (-19), 3) := by decide +kernel
theorem dX0_bitsOf_26 : decode cX0_bitsOf 26 = .ok (.iload_n 2, 1) := by decide +kernel
theorem dX0_bitsOf_27 : decode cX0_bitsOf 27 = .ok (.bipush 127, 2) := by decide +kernel
theorem dX0_bitsOf_29 : decode cX0_bitsOf 29 = .ok (.iadd, 1) := by decide +kernel
theorem dX0_bitsOf_30 : decode cX0_bitsOf 30 = .ok (.bipush 23, 2) := by decide +kernel
theorem dX0_bitsOf_32 : decode cX0_bitsOf 32 = .ok (.ishl, 1) := by decide +kernel
theorem dX0_bitsOf_33 : decode cX0_bitsOf 33 = .ok (.fload_n 1, 1) := by decide +kernel
theorem dX0_bitsOf_34 : decode cX0_bitsOf 34 = .ok (.fconst 1, 1) := by decide +kernel
theorem dX0_bitsOf_35 : decode cX0_bitsOf 35 = .ok (.fsub, 1) := by decide +kernel
theorem dX0_bitsOf_36 : decode cX0_bitsOf 36 = .ok (.ldc 98, 2) := by decide +kernel
theorem dX0_bitsOf_38 : decode cX0_bitsOf 38 = .ok (.fmul, 1) := by decide +kernel
theorem dX0_bitsOf_39 : decode cX0_bitsOf 39 = .ok (.f2i, 1) := by decide +kernel
theorem dX0_bitsOf_40 : decode cX0_bitsOf 40 = .ok (.ior, 1) := by decide +kernel
theorem dX0_bitsOf_41 : decode cX0_bitsOf 41 = .ok (.ireturn, 1) := by decide +kernel
theorem dX0_ofMeet_0 : decode cX0_ofMeet 0 = .ok (.iload_n 1, 1) := by decide +kernel
theorem dX0_ofMeet_1 : decode cX0_ofMeet 1 = .ok (.tableswitch 138 0 11 #[63, 68, 73, 78, 83, 88, 93, 98, 103, 111, 128, 133], 63) := by decide +kernel
theorem dX0_ofMeet_64 : decode cX0_ofMeet 64 = .ok (.aload_n 0, 1) := by decide +kernel
theorem dX0_ofMeet_65 : decode cX0_ofMeet 65 = .ok (.getfield 99, 3) := by decide +kernel
theorem dX0_ofMeet_68 : decode cX0_ofMeet 68 = .ok (.ireturn, 1) := by decide +kernel
theorem dX0_ofMeet_69 : decode cX0_ofMeet 69 = .ok (.aload_n 0, 1) := by decide +kernel
theorem dX0_ofMeet_70 : decode cX0_ofMeet 70 = .ok (.getfield 59, 3) := by decide +kernel
theorem dX0_ofMeet_73 : decode cX0_ofMeet 73 = .ok (.ireturn, 1) := by decide +kernel
theorem dX0_ofMeet_74 : decode cX0_ofMeet 74 = .ok (.aload_n 0, 1) := by decide +kernel
theorem dX0_ofMeet_75 : decode cX0_ofMeet 75 = .ok (.invokestatic 102, 3) := by decide +kernel
theorem dX0_ofMeet_78 : decode cX0_ofMeet 78 = .ok (.ireturn, 1) := by decide +kernel
theorem dX0_ofMeet_79 : decode cX0_ofMeet 79 = .ok (.aload_n 0, 1) := by decide +kernel
theorem dX0_ofMeet_80 : decode cX0_ofMeet 80 = .ok (.getfield 106, 3) := by decide +kernel
theorem dX0_ofMeet_83 : decode cX0_ofMeet 83 = .ok (.ireturn, 1) := by decide +kernel
theorem dX0_ofMeet_84 : decode cX0_ofMeet 84 = .ok (.aload_n 0, 1) := by decide +kernel
theorem dX0_ofMeet_85 : decode cX0_ofMeet 85 = .ok (.invokevirtual 109, 3) := by decide +kernel
theorem dX0_ofMeet_88 : decode cX0_ofMeet 88 = .ok (.ireturn, 1) := by decide +kernel
theorem dX0_ofMeet_89 : decode cX0_ofMeet 89 = .ok (.aload_n 0, 1) := by decide +kernel
theorem dX0_ofMeet_90 : decode cX0_ofMeet 90 = .ok (.invokestatic 112, 3) := by decide +kernel
theorem dX0_ofMeet_93 : decode cX0_ofMeet 93 = .ok (.ireturn, 1) := by decide +kernel
theorem dX0_ofMeet_94 : decode cX0_ofMeet 94 = .ok (.aload_n 0, 1) := by decide +kernel
theorem dX0_ofMeet_95 : decode cX0_ofMeet 95 = .ok (.invokestatic 115, 3) := by decide +kernel
theorem dX0_ofMeet_98 : decode cX0_ofMeet 98 = .ok (.ireturn, 1) := by decide +kernel
theorem dX0_ofMeet_99 : decode cX0_ofMeet 99 = .ok (.aload_n 0, 1) := by decide +kernel
theorem dX0_ofMeet_100 : decode cX0_ofMeet 100 = .ok (.getfield 118, 3) := by decide +kernel
theorem dX0_ofMeet_103 : decode cX0_ofMeet 103 = .ok (.ireturn, 1) := by decide +kernel
theorem dX0_ofMeet_104 : decode cX0_ofMeet 104 = .ok (.aload_n 0, 1) := by decide +kernel
theorem dX0_ofMeet_105 : decode cX0_ofMeet 105 = .ok (.getfield 121, 3) := by decide +kernel
theorem dX0_ofMeet_108 : decode cX0_ofMeet 108 = .ok (.invokestatic 35, 3) := by decide +kernel
theorem dX0_ofMeet_111 : decode cX0_ofMeet 111 = .ok (.ireturn, 1) := by decide +kernel
theorem dX0_ofMeet_112 : decode cX0_ofMeet 112 = .ok (.aload_n 0, 1) := by decide +kernel
theorem dX0_ofMeet_113 : decode cX0_ofMeet 113 = .ok (.getfield 121, 3) := by decide +kernel
theorem dX0_ofMeet_116 : decode cX0_ofMeet 116 = .ok (.ifCond .le 10, 3) := by decide +kernel
theorem dX0_ofMeet_119 : decode cX0_ofMeet 119 = .ok (.aload_n 0, 1) := by decide +kernel
theorem dX0_ofMeet_120 : decode cX0_ofMeet 120 = .ok (.getfield 124, 3) := by decide +kernel
theorem dX0_ofMeet_123 : decode cX0_ofMeet 123 = .ok (.goto 5, 3) := by decide +kernel
theorem dX0_ofMeet_126 : decode cX0_ofMeet 126 = .ok (.ldc 22, 2) := by decide +kernel
theorem dX0_ofMeet_128 : decode cX0_ofMeet 128 = .ok (.ireturn, 1) := by decide +kernel
theorem dX0_ofMeet_129 : decode cX0_ofMeet 129 = .ok (.aload_n 0, 1) := by decide +kernel
theorem dX0_ofMeet_130 : decode cX0_ofMeet 130 = .ok (.getfield 127, 3) := by decide +kernel
theorem dX0_ofMeet_133 : decode cX0_ofMeet 133 = .ok (.ireturn, 1) := by decide +kernel
theorem dX0_ofMeet_134 : decode cX0_ofMeet 134 = .ok (.aload_n 0, 1) := by decide +kernel
theorem dX0_ofMeet_135 : decode cX0_ofMeet 135 = .ok (.invokestatic 130, 3) := by decide +kernel
theorem dX0_ofMeet_138 : decode cX0_ofMeet 138 = .ok (.ireturn, 1) := by decide +kernel
theorem dX0_ofMeet_139 : decode cX0_ofMeet 139 = .ok (.ldc 135, 2) := by decide +kernel
theorem dX0_ofMeet_141 : decode cX0_ofMeet 141 = .ok (.ireturn, 1) := by decide +kernel
theorem dX0_scratchedSet_0 : decode cX0_scratchedSet 0 = .ok (.iconst 0, 1) := by decide +kernel
theorem dX0_scratchedSet_1 : decode cX0_scratchedSet 1 = .ok (.istore_n 1, 1) := by decide +kernel
theorem dX0_scratchedSet_2 : decode cX0_scratchedSet 2 = .ok (.iconst 0, 1) := by decide +kernel
theorem dX0_scratchedSet_3 : decode cX0_scratchedSet 3 = .ok (.istore_n 2, 1) := by decide +kernel
theorem dX0_scratchedSet_4 : decode cX0_scratchedSet 4 = .ok (.iload_n 2, 1) := by decide +kernel
theorem dX0_scratchedSet_5 : decode cX0_scratchedSet 5 = .ok (.aload_n 0, 1) := by decide +kernel
theorem dX0_scratchedSet_6 : decode cX0_scratchedSet 6 = .ok (.getfield 59, 3) := by decide +kernel
theorem dX0_scratchedSet_9 : decode cX0_scratchedSet 9 = .ok (.if_icmp .ge 27, 3) := by decide +kernel
theorem dX0_scratchedSet_12 : decode cX0_scratchedSet 12 = .ok (.aload_n 0, 1) := by decide +kernel
theorem dX0_scratchedSet_13 : decode cX0_scratchedSet 13 = .ok (.getfield 62, 3) := by decide +kernel
theorem dX0_scratchedSet_16 : decode cX0_scratchedSet 16 = .ok (.iload_n 2, 1) := by decide +kernel
theorem dX0_scratchedSet_17 : decode cX0_scratchedSet 17 = .ok (.aaload, 1) := by decide +kernel
theorem dX0_scratchedSet_18 : decode cX0_scratchedSet 18 = .ok (.getfield 18, 3) := by decide +kernel
theorem dX0_scratchedSet_21 : decode cX0_scratchedSet 21 = .ok (.ifCond .eq 9, 3) := by decide +kernel
theorem dX0_scratchedSet_24 : decode cX0_scratchedSet 24 = .ok (.iload_n 1, 1) := by decide +kernel
theorem dX0_scratchedSet_25 : decode cX0_scratchedSet 25 = .ok (.iconst 1, 1) := by decide +kernel
theorem dX0_scratchedSet_26 : decode cX0_scratchedSet 26 = .ok (.iload_n 2, 1) := by decide +kernel
theorem dX0_scratchedSet_27 : decode cX0_scratchedSet 27 = .ok (.ishl, 1) := by decide +kernel
theorem dX0_scratchedSet_28 : decode cX0_scratchedSet 28 = .ok (.ior, 1) := by decide +kernel
theorem dX0_scratchedSet_29 : decode cX0_scratchedSet 29 = .ok (.istore_n 1, 1) := by decide +kernel
theorem dX0_scratchedSet_30 : decode cX0_scratchedSet 30 = .ok (.iinc 2 1, 3) := by decide +kernel
theorem dX0_scratchedSet_33 : decode cX0_scratchedSet 33 = .ok (.goto (-29), 3) := by decide +kernel
theorem dX0_scratchedSet_36 : decode cX0_scratchedSet 36 = .ok (.iload_n 1, 1) := by decide +kernel
theorem dX0_scratchedSet_37 : decode cX0_scratchedSet 37 = .ok (.ireturn, 1) := by decide +kernel
theorem dX0_freeReserves_0 : decode cX0_freeReserves 0 = .ok (.iconst 0, 1) := by decide +kernel
theorem dX0_freeReserves_1 : decode cX0_freeReserves 1 = .ok (.istore_n 1, 1) := by decide +kernel
theorem dX0_freeReserves_2 : decode cX0_freeReserves 2 = .ok (.iload_n 1, 1) := by decide +kernel
theorem dX0_freeReserves_3 : decode cX0_freeReserves 3 = .ok (.iconst 4, 1) := by decide +kernel
theorem dX0_freeReserves_4 : decode cX0_freeReserves 4 = .ok (.if_icmp .ge 19, 3) := by decide +kernel
theorem dX0_freeReserves_7 : decode cX0_freeReserves 7 = .ok (.aload_n 0, 1) := by decide +kernel
theorem dX0_freeReserves_8 : decode cX0_freeReserves 8 = .ok (.iload_n 1, 1) := by decide +kernel
theorem dX0_freeReserves_9 : decode cX0_freeReserves 9 = .ok (.invokevirtual 136, 3) := by decide +kernel
theorem dX0_freeReserves_12 : decode cX0_freeReserves 12 = .ok (.ldc 22, 2) := by decide +kernel
theorem dX0_freeReserves_14 : decode cX0_freeReserves 14 = .ok (.if_icmp .eq 9, 3) := by decide +kernel
theorem dX0_freeReserves_17 : decode cX0_freeReserves 17 = .ok (.iinc 1 1, 3) := by decide +kernel
theorem dX0_freeReserves_20 : decode cX0_freeReserves 20 = .ok (.goto (-18), 3) := by decide +kernel
theorem dX0_freeReserves_23 : decode cX0_freeReserves 23 = .ok (.iload_n 1, 1) := by decide +kernel
theorem dX0_freeReserves_24 : decode cX0_freeReserves 24 = .ok (.ireturn, 1) := by decide +kernel
theorem dX0_timesOfEvent_0 : decode cX0_timesOfEvent 0 = .ok (.iconst 0, 1) := by decide +kernel
theorem dX0_timesOfEvent_1 : decode cX0_timesOfEvent 1 = .ok (.istore_n 1, 1) := by decide +kernel
theorem dX0_timesOfEvent_2 : decode cX0_timesOfEvent 2 = .ok (.iconst 0, 1) := by decide +kernel
theorem dX0_timesOfEvent_3 : decode cX0_timesOfEvent 3 = .ok (.istore_n 2, 1) := by decide +kernel
theorem dX0_timesOfEvent_4 : decode cX0_timesOfEvent 4 = .ok (.iload_n 2, 1) := by decide +kernel
theorem dX0_timesOfEvent_5 : decode cX0_timesOfEvent 5 = .ok (.aload_n 0, 1) := by decide +kernel
theorem dX0_timesOfEvent_6 : decode cX0_timesOfEvent 6 = .ok (.getfield 59, 3) := by decide +kernel
theorem dX0_timesOfEvent_9 : decode cX0_timesOfEvent 9 = .ok (.if_icmp .ge 41, 3) := by decide +kernel
theorem dX0_timesOfEvent_12 : decode cX0_timesOfEvent 12 = .ok (.aload_n 0, 1) := by decide +kernel
theorem dX0_timesOfEvent_13 : decode cX0_timesOfEvent 13 = .ok (.getfield 62, 3) := by decide +kernel
theorem dX0_timesOfEvent_16 : decode cX0_timesOfEvent 16 = .ok (.iload_n 2, 1) := by decide +kernel
theorem dX0_timesOfEvent_17 : decode cX0_timesOfEvent 17 = .ok (.aaload, 1) := by decide +kernel
theorem dX0_timesOfEvent_18 : decode cX0_timesOfEvent 18 = .ok (.getfield 41, 3) := by decide +kernel
theorem dX0_timesOfEvent_21 : decode cX0_timesOfEvent 21 = .ok (.iconst (-1), 1) := by decide +kernel
theorem dX0_timesOfEvent_22 : decode cX0_timesOfEvent 22 = .ok (.if_icmp .eq 6, 3) := by decide +kernel
theorem dX0_timesOfEvent_25 : decode cX0_timesOfEvent 25 = .ok (.iinc 1 1, 3) := by decide +kernel
theorem dX0_timesOfEvent_28 : decode cX0_timesOfEvent 28 = .ok (.aload_n 0, 1) := by decide +kernel
theorem dX0_timesOfEvent_29 : decode cX0_timesOfEvent 29 = .ok (.getfield 62, 3) := by decide +kernel
theorem dX0_timesOfEvent_32 : decode cX0_timesOfEvent 32 = .ok (.iload_n 2, 1) := by decide +kernel
theorem dX0_timesOfEvent_33 : decode cX0_timesOfEvent 33 = .ok (.aaload, 1) := by decide +kernel
theorem dX0_timesOfEvent_34 : decode cX0_timesOfEvent 34 = .ok (.getfield 50, 3) := by decide +kernel
theorem dX0_timesOfEvent_37 : decode cX0_timesOfEvent 37 = .ok (.iconst (-1), 1) := by decide +kernel
theorem dX0_timesOfEvent_38 : decode cX0_timesOfEvent 38 = .ok (.if_icmp .eq 6, 3) := by decide +kernel
theorem dX0_timesOfEvent_41 : decode cX0_timesOfEvent 41 = .ok (.iinc 1 1, 3) := by decide +kernel
theorem dX0_timesOfEvent_44 : decode cX0_timesOfEvent 44 = .ok (.iinc 2 1, 3) := by decide +kernel
theorem dX0_timesOfEvent_47 : decode cX0_timesOfEvent 47 = .ok (.goto (-43), 3) := by decide +kernel
theorem dX0_timesOfEvent_50 : decode cX0_timesOfEvent 50 = .ok (.iload_n 1, 1) := by decide +kernel
theorem dX0_timesOfEvent_51 : decode cX0_timesOfEvent 51 = .ok (.ireturn, 1) := by decide +kernel
theorem dX1_addSwimmer_0 : decode cX1_addSwimmer 0 = .ok (.iload_n 1, 1) := by decide +kernel
theorem dX1_addSwimmer_1 : decode cX1_addSwimmer 1 = .ok (.ifCond .lt 16, 3) := by decide +kernel
theorem dX1_addSwimmer_4 : decode cX1_addSwimmer 4 = .ok (.iload_n 1, 1) := by decide +kernel
theorem dX1_addSwimmer_5 : decode cX1_addSwimmer 5 = .ok (.bipush 6, 2) := by decide +kernel
theorem dX1_addSwimmer_7 : decode cX1_addSwimmer 7 = .ok (.if_icmp .ge 10, 3) := by decide +kernel
theorem dX1_addSwimmer_10 : decode cX1_addSwimmer 10 = .ok (.iload_n 2, 1) := by decide +kernel
theorem dX1_addSwimmer_11 : decode cX1_addSwimmer 11 = .ok (.invokestatic 9, 3) := by decide +kernel
theorem dX1_addSwimmer_14 : decode cX1_addSwimmer 14 = .ok (.ifCond .ne 6, 3) := by decide +kernel
theorem dX1_addSwimmer_17 : decode cX1_addSwimmer 17 = .ok (.ldc 15, 2) := by decide +kernel
theorem dX1_addSwimmer_19 : decode cX1_addSwimmer 19 = .ok (.ireturn, 1) := by decide +kernel
theorem dX1_addSwimmer_20 : decode cX1_addSwimmer 20 = .ok (.aload_n 0, 1) := by decide +kernel
theorem dX1_addSwimmer_21 : decode cX1_addSwimmer 21 = .ok (.getfield 16, 3) := by decide +kernel
theorem dX1_addSwimmer_24 : decode cX1_addSwimmer 24 = .ok (.ifCond .eq 6, 3) := by decide +kernel
theorem dX1_addSwimmer_27 : decode cX1_addSwimmer 27 = .ok (.ldc 22, 2) := by decide +kernel
theorem dX1_addSwimmer_29 : decode cX1_addSwimmer 29 = .ok (.ireturn, 1) := by decide +kernel
theorem dX1_addSwimmer_30 : decode cX1_addSwimmer 30 = .ok (.aload_n 0, 1) := by decide +kernel
theorem dX1_addSwimmer_31 : decode cX1_addSwimmer 31 = .ok (.getfield 23, 3) := by decide +kernel
theorem dX1_addSwimmer_34 : decode cX1_addSwimmer 34 = .ok (.bipush 30, 2) := by decide +kernel
theorem dX1_addSwimmer_36 : decode cX1_addSwimmer 36 = .ok (.if_icmp .lt 6, 3) := by decide +kernel
theorem dX1_addSwimmer_39 : decode cX1_addSwimmer 39 = .ok (.ldc 26, 2) := by decide +kernel
theorem dX1_addSwimmer_41 : decode cX1_addSwimmer 41 = .ok (.ireturn, 1) := by decide +kernel
theorem dX1_addSwimmer_42 : decode cX1_addSwimmer 42 = .ok (.aload_n 0, 1) := by decide +kernel
theorem dX1_addSwimmer_43 : decode cX1_addSwimmer 43 = .ok (.getfield 27, 3) := by decide +kernel
theorem dX1_addSwimmer_46 : decode cX1_addSwimmer 46 = .ok (.aload_n 0, 1) := by decide +kernel
theorem dX1_addSwimmer_47 : decode cX1_addSwimmer 47 = .ok (.getfield 23, 3) := by decide +kernel
theorem dX1_addSwimmer_50 : decode cX1_addSwimmer 50 = .ok (.aaload, 1) := by decide +kernel
theorem dX1_addSwimmer_51 : decode cX1_addSwimmer 51 = .ok (.iload_n 1, 1) := by decide +kernel
theorem dX1_addSwimmer_52 : decode cX1_addSwimmer 52 = .ok (.iload_n 2, 1) := by decide +kernel
theorem dX1_addSwimmer_53 : decode cX1_addSwimmer 53 = .ok (.invokevirtual 31, 3) := by decide +kernel
theorem dX1_addSwimmer_56 : decode cX1_addSwimmer 56 = .ok (.aload_n 0, 1) := by decide +kernel
theorem dX1_addSwimmer_57 : decode cX1_addSwimmer 57 = .ok (.dup, 1) := by decide +kernel
theorem dX1_addSwimmer_58 : decode cX1_addSwimmer 58 = .ok (.getfield 23, 3) := by decide +kernel
theorem dX1_addSwimmer_61 : decode cX1_addSwimmer 61 = .ok (.dup_x1, 1) := by decide +kernel
theorem dX1_addSwimmer_62 : decode cX1_addSwimmer 62 = .ok (.iconst 1, 1) := by decide +kernel
theorem dX1_addSwimmer_63 : decode cX1_addSwimmer 63 = .ok (.iadd, 1) := by decide +kernel
theorem dX1_addSwimmer_64 : decode cX1_addSwimmer 64 = .ok (.putfield 23, 3) := by decide +kernel
theorem dX1_addSwimmer_67 : decode cX1_addSwimmer 67 = .ok (.ireturn, 1) := by decide +kernel
theorem dX1_isTimeOrZero_0 : decode cX1_isTimeOrZero 0 = .ok (.iload_n 0, 1) := by decide +kernel
theorem dX1_isTimeOrZero_1 : decode cX1_isTimeOrZero 1 = .ok (.ifCond .eq 16, 3) := by decide +kernel
theorem dX1_isTimeOrZero_4 : decode cX1_isTimeOrZero 4 = .ok (.iload_n 0, 1) := by decide +kernel
theorem dX1_isTimeOrZero_5 : decode cX1_isTimeOrZero 5 = .ok (.bipush 100, 2) := by decide +kernel
theorem dX1_isTimeOrZero_7 : decode cX1_isTimeOrZero 7 = .ok (.if_icmp .lt 14, 3) := by decide +kernel
theorem dX1_isTimeOrZero_10 : decode cX1_isTimeOrZero 10 = .ok (.iload_n 0, 1) := by decide +kernel
theorem dX1_isTimeOrZero_11 : decode cX1_isTimeOrZero 11 = .ok (.sipush 999, 3) := by decide +kernel
theorem dX1_isTimeOrZero_14 : decode cX1_isTimeOrZero 14 = .ok (.if_icmp .gt 7, 3) := by decide +kernel
theorem dX1_isTimeOrZero_17 : decode cX1_isTimeOrZero 17 = .ok (.iconst 1, 1) := by decide +kernel
theorem dX1_isTimeOrZero_18 : decode cX1_isTimeOrZero 18 = .ok (.goto 4, 3) := by decide +kernel
theorem dX1_isTimeOrZero_21 : decode cX1_isTimeOrZero 21 = .ok (.iconst 0, 1) := by decide +kernel
theorem dX1_isTimeOrZero_22 : decode cX1_isTimeOrZero 22 = .ok (.ireturn, 1) := by decide +kernel
theorem dX1_withdraw_0 : decode cX1_withdraw 0 = .ok (.aload_n 0, 1) := by decide +kernel
theorem dX1_withdraw_1 : decode cX1_withdraw 1 = .ok (.iload_n 1, 1) := by decide +kernel
theorem dX1_withdraw_2 : decode cX1_withdraw 2 = .ok (.invokevirtual 37, 3) := by decide +kernel
theorem dX1_withdraw_5 : decode cX1_withdraw 5 = .ok (.ifCond .ne 6, 3) := by decide +kernel
theorem dX1_withdraw_8 : decode cX1_withdraw 8 = .ok (.ldc 15, 2) := by decide +kernel
theorem dX1_withdraw_10 : decode cX1_withdraw 10 = .ok (.ireturn, 1) := by decide +kernel
theorem dX1_withdraw_11 : decode cX1_withdraw 11 = .ok (.aload_n 0, 1) := by decide +kernel
theorem dX1_withdraw_12 : decode cX1_withdraw 12 = .ok (.getfield 27, 3) := by decide +kernel
theorem dX1_withdraw_15 : decode cX1_withdraw 15 = .ok (.iload_n 1, 1) := by decide +kernel
theorem dX1_withdraw_16 : decode cX1_withdraw 16 = .ok (.aaload, 1) := by decide +kernel
theorem dX1_withdraw_17 : decode cX1_withdraw 17 = .ok (.astore_n 2, 1) := by decide +kernel
theorem dX1_withdraw_18 : decode cX1_withdraw 18 = .ok (.aload_n 2, 1) := by decide +kernel
theorem dX1_withdraw_19 : decode cX1_withdraw 19 = .ok (.getfield 40, 3) := by decide +kernel
theorem dX1_withdraw_22 : decode cX1_withdraw 22 = .ok (.ifCond .ne 11, 3) := by decide +kernel
theorem dX1_withdraw_25 : decode cX1_withdraw 25 = .ok (.aload_n 0, 1) := by decide +kernel
theorem dX1_withdraw_26 : decode cX1_withdraw 26 = .ok (.getfield 16, 3) := by decide +kernel
theorem dX1_withdraw_29 : decode cX1_withdraw 29 = .ok (.iconst 3, 1) := by decide +kernel
theorem dX1_withdraw_30 : decode cX1_withdraw 30 = .ok (.if_icmp .ne 6, 3) := by decide +kernel
theorem dX1_withdraw_33 : decode cX1_withdraw 33 = .ok (.ldc 22, 2) := by decide +kernel
theorem dX1_withdraw_35 : decode cX1_withdraw 35 = .ok (.ireturn, 1) := by decide +kernel
theorem dX1_withdraw_36 : decode cX1_withdraw 36 = .ok (.aload_n 2, 1) := by decide +kernel
theorem dX1_withdraw_37 : decode cX1_withdraw 37 = .ok (.iconst 1, 1) := by decide +kernel
theorem dX1_withdraw_38 : decode cX1_withdraw 38 = .ok (.putfield 40, 3) := by decide +kernel
theorem dX1_withdraw_41 : decode cX1_withdraw 41 = .ok (.aload_n 0, 1) := by decide +kernel
theorem dX1_withdraw_42 : decode cX1_withdraw 42 = .ok (.getfield 16, 3) := by decide +kernel
theorem dX1_withdraw_45 : decode cX1_withdraw 45 = .ok (.iconst 1, 1) := by decide +kernel
theorem dX1_withdraw_46 : decode cX1_withdraw 46 = .ok (.if_icmp .ne 7, 3) := by decide +kernel
theorem dX1_withdraw_49 : decode cX1_withdraw 49 = .ok (.aload_n 2, 1) := by decide +kernel
theorem dX1_withdraw_50 : decode cX1_withdraw 50 = .ok (.invokevirtual 44, 3) := by decide +kernel
theorem dX1_withdraw_53 : decode cX1_withdraw 53 = .ok (.aload_n 0, 1) := by decide +kernel
theorem dX1_withdraw_54 : decode cX1_withdraw 54 = .ok (.getfield 16, 3) := by decide +kernel
theorem dX1_withdraw_57 : decode cX1_withdraw 57 = .ok (.iconst 2, 1) := by decide +kernel
theorem dX1_withdraw_58 : decode cX1_withdraw 58 = .ok (.if_icmp .ne 16, 3) := by decide +kernel
theorem dX1_withdraw_61 : decode cX1_withdraw 61 = .ok (.aload_n 2, 1) := by decide +kernel
theorem dX1_withdraw_62 : decode cX1_withdraw 62 = .ok (.getfield 47, 3) := by decide +kernel
theorem dX1_withdraw_65 : decode cX1_withdraw 65 = .ok (.ifCond .eq 9, 3) := by decide +kernel
theorem dX1_withdraw_68 : decode cX1_withdraw 68 = .ok (.aload_n 0, 1) := by decide +kernel
theorem dX1_withdraw_69 : decode cX1_withdraw 69 = .ok (.aload_n 2, 1) := by decide +kernel
theorem dX1_withdraw_70 : decode cX1_withdraw 70 = .ok (.invokestatic 50, 3) := by decide +kernel
theorem dX1_withdraw_73 : decode cX1_withdraw 73 = .ok (.ireturn, 1) := by decide +kernel
theorem dX1_withdraw_74 : decode cX1_withdraw 74 = .ok (.bipush 100, 2) := by decide +kernel
theorem dX1_withdraw_76 : decode cX1_withdraw 76 = .ok (.ireturn, 1) := by decide +kernel
theorem dX1_callReserve_0 : decode cX1_callReserve 0 = .ok (.aload_n 1, 1) := by decide +kernel
theorem dX1_callReserve_1 : decode cX1_callReserve 1 = .ok (.getfield 47, 3) := by decide +kernel
theorem dX1_callReserve_4 : decode cX1_callReserve 4 = .ok (.istore_n 2, 1) := by decide +kernel
theorem dX1_callReserve_5 : decode cX1_callReserve 5 = .ok (.aload_n 1, 1) := by decide +kernel
theorem dX1_callReserve_6 : decode cX1_callReserve 6 = .ok (.invokevirtual 54, 3) := by decide +kernel
theorem dX1_callReserve_9 : decode cX1_callReserve 9 = .ok (.aload_n 0, 1) := by decide +kernel
theorem dX1_callReserve_10 : decode cX1_callReserve 10 = .ok (.iconst 0, 1) := by decide +kernel
theorem dX1_callReserve_11 : decode cX1_callReserve 11 = .ok (.invokevirtual 57, 3) := by decide +kernel
theorem dX1_callReserve_14 : decode cX1_callReserve 14 = .ok (.istore_n 3, 1) := by decide +kernel
theorem dX1_callReserve_15 : decode cX1_callReserve 15 = .ok (.aload_n 0, 1) := by decide +kernel
theorem dX1_callReserve_16 : decode cX1_callReserve 16 = .ok (.iload_n 3, 1) := by decide +kernel
theorem dX1_callReserve_17 : decode cX1_callReserve 17 = .ok (.invokevirtual 37, 3) := by decide +kernel
theorem dX1_callReserve_20 : decode cX1_callReserve 20 = .ok (.ifCond .ne 6, 3) := by decide +kernel
theorem dX1_callReserve_23 : decode cX1_callReserve 23 = .ok (.bipush 100, 2) := by decide +kernel
theorem dX1_callReserve_25 : decode cX1_callReserve 25 = .ok (.ireturn, 1) := by decide +kernel
theorem dX1_callReserve_26 : decode cX1_callReserve 26 = .ok (.aload_n 0, 1) := by decide +kernel
theorem dX1_callReserve_27 : decode cX1_callReserve 27 = .ok (.getfield 27, 3) := by decide +kernel
theorem dX1_callReserve_30 : decode cX1_callReserve 30 = .ok (.iload_n 3, 1) := by decide +kernel
theorem dX1_callReserve_31 : decode cX1_callReserve 31 = .ok (.aaload, 1) := by decide +kernel
theorem dX1_callReserve_32 : decode cX1_callReserve 32 = .ok (.iload_n 2, 1) := by decide +kernel
theorem dX1_callReserve_33 : decode cX1_callReserve 33 = .ok (.putfield 47, 3) := by decide +kernel
theorem dX1_callReserve_36 : decode cX1_callReserve 36 = .ok (.aload_n 0, 1) := by decide +kernel
theorem dX1_callReserve_37 : decode cX1_callReserve 37 = .ok (.dup, 1) := by decide +kernel
theorem dX1_callReserve_38 : decode cX1_callReserve 38 = .ok (.getfield 61, 3) := by decide +kernel
theorem dX1_callReserve_41 : decode cX1_callReserve 41 = .ok (.iconst 1, 1) := by decide +kernel
theorem dX1_callReserve_42 : decode cX1_callReserve 42 = .ok (.iadd, 1) := by decide +kernel
theorem dX1_callReserve_43 : decode cX1_callReserve 43 = .ok (.putfield 61, 3) := by decide +kernel
theorem dX1_callReserve_46 : decode cX1_callReserve 46 = .ok (.iload_n 3, 1) := by decide +kernel
theorem dX1_callReserve_47 : decode cX1_callReserve 47 = .ok (.ireturn, 1) := by decide +kernel
theorem dX1_changeSetting_0 : decode cX1_changeSetting 0 = .ok (.iload_n 1, 1) := by decide +kernel
theorem dX1_changeSetting_1 : decode cX1_changeSetting 1 = .ok (.iload_n 2, 1) := by decide +kernel
theorem dX1_changeSetting_2 : decode cX1_changeSetting 2 = .ok (.invokestatic 64, 3) := by decide +kernel
theorem dX1_changeSetting_5 : decode cX1_changeSetting 5 = .ok (.ifCond .ne 6, 3) := by decide +kernel
theorem dX1_changeSetting_8 : decode cX1_changeSetting 8 = .ok (.ldc 15, 2) := by decide +kernel
theorem dX1_changeSetting_10 : decode cX1_changeSetting 10 = .ok (.ireturn, 1) := by decide +kernel
theorem dX1_changeSetting_11 : decode cX1_changeSetting 11 = .ok (.aload_n 0, 1) := by decide +kernel
theorem dX1_changeSetting_12 : decode cX1_changeSetting 12 = .ok (.getfield 16, 3) := by decide +kernel
theorem dX1_changeSetting_15 : decode cX1_changeSetting 15 = .ok (.ifCond .eq 6, 3) := by decide +kernel
theorem dX1_changeSetting_18 : decode cX1_changeSetting 18 = .ok (.ldc 22, 2) := by decide +kernel
theorem dX1_changeSetting_20 : decode cX1_changeSetting 20 = .ok (.ireturn, 1) := by decide +kernel
theorem dX1_changeSetting_21 : decode cX1_changeSetting 21 = .ok (.aload_n 0, 1) := by decide +kernel
theorem dX1_changeSetting_22 : decode cX1_changeSetting 22 = .ok (.getfield 70, 3) := by decide +kernel
theorem dX1_changeSetting_25 : decode cX1_changeSetting 25 = .ok (.iload_n 1, 1) := by decide +kernel
theorem dX1_changeSetting_26 : decode cX1_changeSetting 26 = .ok (.iaload, 1) := by decide +kernel
theorem dX1_changeSetting_27 : decode cX1_changeSetting 27 = .ok (.istore_n 3, 1) := by decide +kernel
theorem dX1_changeSetting_28 : decode cX1_changeSetting 28 = .ok (.aload_n 0, 1) := by decide +kernel
theorem dX1_changeSetting_29 : decode cX1_changeSetting 29 = .ok (.getfield 70, 3) := by decide +kernel
theorem dX1_changeSetting_32 : decode cX1_changeSetting 32 = .ok (.iload_n 1, 1) := by decide +kernel
theorem dX1_changeSetting_33 : decode cX1_changeSetting 33 = .ok (.iload_n 2, 1) := by decide +kernel
theorem dX1_changeSetting_34 : decode cX1_changeSetting 34 = .ok (.iastore, 1) := by decide +kernel
theorem dX1_changeSetting_35 : decode cX1_changeSetting 35 = .ok (.iload_n 3, 1) := by decide +kernel
theorem dX1_changeSetting_36 : decode cX1_changeSetting 36 = .ok (.ireturn, 1) := by decide +kernel
theorem dX1_drawHeats_0 : decode cX1_drawHeats 0 = .ok (.aload_n 0, 1) := by decide +kernel
theorem dX1_drawHeats_1 : decode cX1_drawHeats 1 = .ok (.invokevirtual 74, 3) := by decide +kernel
theorem dX1_drawHeats_4 : decode cX1_drawHeats 4 = .ok (.istore_n 1, 1) := by decide +kernel
theorem dX1_drawHeats_5 : decode cX1_drawHeats 5 = .ok (.aload_n 0, 1) := by decide +kernel
theorem dX1_drawHeats_6 : decode cX1_drawHeats 6 = .ok (.getfield 16, 3) := by decide +kernel
theorem dX1_drawHeats_9 : decode cX1_drawHeats 9 = .ok (.ifCond .ne 7, 3) := by decide +kernel
theorem dX1_drawHeats_12 : decode cX1_drawHeats 12 = .ok (.iload_n 1, 1) := by decide +kernel
theorem dX1_drawHeats_13 : decode cX1_drawHeats 13 = .ok (.ifCond .ne 6, 3) := by decide +kernel
theorem dX1_drawHeats_16 : decode cX1_drawHeats 16 = .ok (.ldc 22, 2) := by decide +kernel
theorem dX1_drawHeats_18 : decode cX1_drawHeats 18 = .ok (.ireturn, 1) := by decide +kernel
theorem dX1_drawHeats_19 : decode cX1_drawHeats 19 = .ok (.aload_n 0, 1) := by decide +kernel
theorem dX1_drawHeats_20 : decode cX1_drawHeats 20 = .ok (.iload_n 1, 1) := by decide +kernel
theorem dX1_drawHeats_21 : decode cX1_drawHeats 21 = .ok (.aload_n 0, 1) := by decide +kernel
theorem dX1_drawHeats_22 : decode cX1_drawHeats 22 = .ok (.invokevirtual 78, 3) := by decide +kernel
theorem dX1_drawHeats_25 : decode cX1_drawHeats 25 = .ok (.invokestatic 81, 3) := by decide +kernel
theorem dX1_drawHeats_28 : decode cX1_drawHeats 28 = .ok (.putfield 87, 3) := by decide +kernel
theorem dX1_drawHeats_31 : decode cX1_drawHeats 31 = .ok (.aload_n 0, 1) := by decide +kernel
theorem dX1_drawHeats_32 : decode cX1_drawHeats 32 = .ok (.invokestatic 90, 3) := by decide +kernel
theorem dX1_drawHeats_35 : decode cX1_drawHeats 35 = .ok (.aload_n 0, 1) := by decide +kernel
theorem dX1_drawHeats_36 : decode cX1_drawHeats 36 = .ok (.invokestatic 94, 3) := by decide +kernel
theorem dX1_drawHeats_39 : decode cX1_drawHeats 39 = .ok (.aload_n 0, 1) := by decide +kernel
theorem dX1_drawHeats_40 : decode cX1_drawHeats 40 = .ok (.invokestatic 97, 3) := by decide +kernel
theorem dX1_drawHeats_43 : decode cX1_drawHeats 43 = .ok (.aload_n 0, 1) := by decide +kernel
theorem dX1_drawHeats_44 : decode cX1_drawHeats 44 = .ok (.iconst 1, 1) := by decide +kernel
theorem dX1_drawHeats_45 : decode cX1_drawHeats 45 = .ok (.putfield 16, 3) := by decide +kernel
theorem dX1_drawHeats_48 : decode cX1_drawHeats 48 = .ok (.aload_n 0, 1) := by decide +kernel
theorem dX1_drawHeats_49 : decode cX1_drawHeats 49 = .ok (.getfield 87, 3) := by decide +kernel
theorem dX1_drawHeats_52 : decode cX1_drawHeats 52 = .ok (.ireturn, 1) := by decide +kernel
theorem dX1_giveTime_0 : decode cX1_giveTime 0 = .ok (.aload_n 0, 1) := by decide +kernel
theorem dX1_giveTime_1 : decode cX1_giveTime 1 = .ok (.iload_n 1, 1) := by decide +kernel
theorem dX1_giveTime_2 : decode cX1_giveTime 2 = .ok (.invokevirtual 37, 3) := by decide +kernel
theorem dX1_giveTime_5 : decode cX1_giveTime 5 = .ok (.ifCond .eq 10, 3) := by decide +kernel
theorem dX1_giveTime_8 : decode cX1_giveTime 8 = .ok (.iload_n 2, 1) := by decide +kernel
theorem dX1_giveTime_9 : decode cX1_giveTime 9 = .ok (.invokestatic 9, 3) := by decide +kernel
theorem dX1_giveTime_12 : decode cX1_giveTime 12 = .ok (.ifCond .ne 6, 3) := by decide +kernel
theorem dX1_giveTime_15 : decode cX1_giveTime 15 = .ok (.ldc 15, 2) := by decide +kernel
theorem dX1_giveTime_17 : decode cX1_giveTime 17 = .ok (.ireturn, 1) := by decide +kernel
theorem dX1_giveTime_18 : decode cX1_giveTime 18 = .ok (.aload_n 0, 1) := by decide +kernel
theorem dX1_giveTime_19 : decode cX1_giveTime 19 = .ok (.getfield 27, 3) := by decide +kernel
theorem dX1_giveTime_22 : decode cX1_giveTime 22 = .ok (.iload_n 1, 1) := by decide +kernel
theorem dX1_giveTime_23 : decode cX1_giveTime 23 = .ok (.aaload, 1) := by decide +kernel
theorem dX1_giveTime_24 : decode cX1_giveTime 24 = .ok (.astore_n 3, 1) := by decide +kernel
theorem dX1_giveTime_25 : decode cX1_giveTime 25 = .ok (.aload_n 3, 1) := by decide +kernel
theorem dX1_giveTime_26 : decode cX1_giveTime 26 = .ok (.getfield 40, 3) := by decide +kernel
theorem dX1_giveTime_29 : decode cX1_giveTime 29 = .ok (.ifCond .ne 11, 3) := by decide +kernel
theorem dX1_giveTime_32 : decode cX1_giveTime 32 = .ok (.aload_n 0, 1) := by decide +kernel
theorem dX1_giveTime_33 : decode cX1_giveTime 33 = .ok (.aload_n 3, 1) := by decide +kernel
theorem dX1_giveTime_34 : decode cX1_giveTime 34 = .ok (.invokevirtual 100, 3) := by decide +kernel
theorem dX1_giveTime_37 : decode cX1_giveTime 37 = .ok (.ifCond .ne 6, 3) := by decide +kernel
theorem dX1_giveTime_40 : decode cX1_giveTime 40 = .ok (.ldc 22, 2) := by decide +kernel
theorem dX1_giveTime_42 : decode cX1_giveTime 42 = .ok (.ireturn, 1) := by decide +kernel
theorem dX1_giveTime_43 : decode cX1_giveTime 43 = .ok (.aload_n 0, 1) := by decide +kernel
theorem dX1_giveTime_44 : decode cX1_giveTime 44 = .ok (.getfield 16, 3) := by decide +kernel
theorem dX1_giveTime_47 : decode cX1_giveTime 47 = .ok (.iconst 1, 1) := by decide +kernel
theorem dX1_giveTime_48 : decode cX1_giveTime 48 = .ok (.if_icmp .ne 11, 3) := by decide +kernel
theorem dX1_giveTime_51 : decode cX1_giveTime 51 = .ok (.aload_n 3, 1) := by decide +kernel
theorem dX1_giveTime_52 : decode cX1_giveTime 52 = .ok (.iload_n 2, 1) := by decide +kernel
theorem dX1_giveTime_53 : decode cX1_giveTime 53 = .ok (.putfield 104, 3) := by decide +kernel
theorem dX1_giveTime_56 : decode cX1_giveTime 56 = .ok (.goto 8, 3) := by decide +kernel
theorem dX1_giveTime_59 : decode cX1_giveTime 59 = .ok (.aload_n 3, 1) := by decide +kernel
theorem dX1_giveTime_60 : decode cX1_giveTime 60 = .ok (.iload_n 2, 1) := by decide +kernel
theorem dX1_giveTime_61 : decode cX1_giveTime 61 = .ok (.putfield 107, 3) := by decide +kernel
theorem dX1_giveTime_64 : decode cX1_giveTime 64 = .ok (.iload_n 2, 1) := by decide +kernel
theorem dX1_giveTime_65 : decode cX1_giveTime 65 = .ok (.ifCond .ne 6, 3) := by decide +kernel
theorem dX1_giveTime_68 : decode cX1_giveTime 68 = .ok (.bipush 100, 2) := by decide +kernel
theorem dX1_giveTime_70 : decode cX1_giveTime 70 = .ok (.ireturn, 1) := by decide +kernel
theorem dX1_giveTime_71 : decode cX1_giveTime 71 = .ok (.aload_n 0, 1) := by decide +kernel
theorem dX1_giveTime_72 : decode cX1_giveTime 72 = .ok (.iload_n 1, 1) := by decide +kernel
theorem dX1_giveTime_73 : decode cX1_giveTime 73 = .ok (.iload_n 2, 1) := by decide +kernel
theorem dX1_giveTime_74 : decode cX1_giveTime 74 = .ok (.invokestatic 110, 3) := by decide +kernel
theorem dX1_giveTime_77 : decode cX1_giveTime 77 = .ok (.aload_n 0, 1) := by decide +kernel
theorem dX1_giveTime_78 : decode cX1_giveTime 78 = .ok (.iload_n 2, 1) := by decide +kernel
theorem dX1_giveTime_79 : decode cX1_giveTime 79 = .ok (.invokevirtual 114, 3) := by decide +kernel
theorem dX1_giveTime_82 : decode cX1_giveTime 82 = .ok (.ireturn, 1) := by decide +kernel
theorem dX1_noteRecord_0 : decode cX1_noteRecord 0 = .ok (.aload_n 0, 1) := by decide +kernel
theorem dX1_noteRecord_1 : decode cX1_noteRecord 1 = .ok (.getfield 117, 3) := by decide +kernel
theorem dX1_noteRecord_4 : decode cX1_noteRecord 4 = .ok (.ifCond .eq 11, 3) := by decide +kernel
theorem dX1_noteRecord_7 : decode cX1_noteRecord 7 = .ok (.iload_n 2, 1) := by decide +kernel
theorem dX1_noteRecord_8 : decode cX1_noteRecord 8 = .ok (.aload_n 0, 1) := by decide +kernel
theorem dX1_noteRecord_9 : decode cX1_noteRecord 9 = .ok (.getfield 117, 3) := by decide +kernel
theorem dX1_noteRecord_12 : decode cX1_noteRecord 12 = .ok (.if_icmp .ge 13, 3) := by decide +kernel
theorem dX1_noteRecord_15 : decode cX1_noteRecord 15 = .ok (.aload_n 0, 1) := by decide +kernel
theorem dX1_noteRecord_16 : decode cX1_noteRecord 16 = .ok (.iload_n 2, 1) := by decide +kernel
theorem dX1_noteRecord_17 : decode cX1_noteRecord 17 = .ok (.putfield 117, 3) := by decide +kernel
theorem dX1_noteRecord_20 : decode cX1_noteRecord 20 = .ok (.aload_n 0, 1) := by decide +kernel
theorem dX1_noteRecord_21 : decode cX1_noteRecord 21 = .ok (.iload_n 1, 1) := by decide +kernel
theorem dX1_noteRecord_22 : decode cX1_noteRecord 22 = .ok (.putfield 120, 3) := by decide +kernel
theorem dX1_noteRecord_25 : decode cX1_noteRecord 25 = .ok (.return_, 1) := by decide +kernel
theorem dX1_drawFinal_0 : decode cX1_drawFinal 0 = .ok (.aload_n 0, 1) := by decide +kernel
theorem dX1_drawFinal_1 : decode cX1_drawFinal 1 = .ok (.getfield 16, 3) := by decide +kernel
theorem dX1_drawFinal_4 : decode cX1_drawFinal 4 = .ok (.iconst 1, 1) := by decide +kernel
theorem dX1_drawFinal_5 : decode cX1_drawFinal 5 = .ok (.if_icmp .ne 10, 3) := by decide +kernel
theorem dX1_drawFinal_8 : decode cX1_drawFinal 8 = .ok (.aload_n 0, 1) := by decide +kernel
theorem dX1_drawFinal_9 : decode cX1_drawFinal 9 = .ok (.invokevirtual 123, 3) := by decide +kernel
theorem dX1_drawFinal_12 : decode cX1_drawFinal 12 = .ok (.ifCond .eq 6, 3) := by decide +kernel
theorem dX1_drawFinal_15 : decode cX1_drawFinal 15 = .ok (.ldc 22, 2) := by decide +kernel
theorem dX1_drawFinal_17 : decode cX1_drawFinal 17 = .ok (.ireturn, 1) := by decide +kernel
theorem dX1_drawFinal_18 : decode cX1_drawFinal 18 = .ok (.iconst 0, 1) := by decide +kernel
theorem dX1_drawFinal_19 : decode cX1_drawFinal 19 = .ok (.istore_n 1, 1) := by decide +kernel
theorem dX1_drawFinal_20 : decode cX1_drawFinal 20 = .ok (.iload_n 1, 1) := by decide +kernel
theorem dX1_drawFinal_21 : decode cX1_drawFinal 21 = .ok (.aload_n 0, 1) := by decide +kernel
theorem dX1_drawFinal_22 : decode cX1_drawFinal 22 = .ok (.getfield 23, 3) := by decide +kernel
theorem dX1_drawFinal_25 : decode cX1_drawFinal 25 = .ok (.if_icmp .ge 31, 3) := by decide +kernel
theorem dX1_drawFinal_28 : decode cX1_drawFinal 28 = .ok (.aload_n 0, 1) := by decide +kernel
theorem dX1_drawFinal_29 : decode cX1_drawFinal 29 = .ok (.getfield 27, 3) := by decide +kernel
theorem dX1_drawFinal_32 : decode cX1_drawFinal 32 = .ok (.iload_n 1, 1) := by decide +kernel
theorem dX1_drawFinal_33 : decode cX1_drawFinal 33 = .ok (.aaload, 1) := by decide +kernel
theorem dX1_drawFinal_34 : decode cX1_drawFinal 34 = .ok (.getfield 104, 3) := by decide +kernel
theorem dX1_drawFinal_37 : decode cX1_drawFinal 37 = .ok (.ifCond .le 13, 3) := by decide +kernel
theorem dX1_drawFinal_40 : decode cX1_drawFinal 40 = .ok (.aload_n 0, 1) := by decide +kernel
theorem dX1_drawFinal_41 : decode cX1_drawFinal 41 = .ok (.aload_n 0, 1) := by decide +kernel
theorem dX1_drawFinal_42 : decode cX1_drawFinal 42 = .ok (.getfield 27, 3) := by decide +kernel
theorem dX1_drawFinal_45 : decode cX1_drawFinal 45 = .ok (.iload_n 1, 1) := by decide +kernel
theorem dX1_drawFinal_46 : decode cX1_drawFinal 46 = .ok (.aaload, 1) := by decide +kernel
theorem dX1_drawFinal_47 : decode cX1_drawFinal 47 = .ok (.invokestatic 126, 3) := by decide +kernel
theorem dX1_drawFinal_50 : decode cX1_drawFinal 50 = .ok (.iinc 1 1, 3) := by decide +kernel
theorem dX1_drawFinal_53 : decode cX1_drawFinal 53 = .ok (.goto (-33), 3) := by decide +kernel
theorem dX1_drawFinal_56 : decode cX1_drawFinal 56 = .ok (.aload_n 0, 1) := by decide +kernel
theorem dX1_drawFinal_57 : decode cX1_drawFinal 57 = .ok (.iconst 2, 1) := by decide +kernel
theorem dX1_drawFinal_58 : decode cX1_drawFinal 58 = .ok (.putfield 16, 3) := by decide +kernel
theorem dX1_drawFinal_61 : decode cX1_drawFinal 61 = .ok (.aload_n 0, 1) := by decide +kernel
theorem dX1_drawFinal_62 : decode cX1_drawFinal 62 = .ok (.invokevirtual 130, 3) := by decide +kernel
theorem dX1_drawFinal_65 : decode cX1_drawFinal 65 = .ok (.ireturn, 1) := by decide +kernel
theorem dX1_seatByTime_0 : decode cX1_seatByTime 0 = .ok (.aload_n 0, 1) := by decide +kernel
theorem dX1_seatByTime_1 : decode cX1_seatByTime 1 = .ok (.aload_n 1, 1) := by decide +kernel
theorem dX1_seatByTime_2 : decode cX1_seatByTime 2 = .ok (.invokevirtual 133, 3) := by decide +kernel
theorem dX1_seatByTime_5 : decode cX1_seatByTime 5 = .ok (.istore_n 2, 1) := by decide +kernel
theorem dX1_seatByTime_6 : decode cX1_seatByTime 6 = .ok (.iload_n 2, 1) := by decide +kernel
theorem dX1_seatByTime_7 : decode cX1_seatByTime 7 = .ok (.aload_n 0, 1) := by decide +kernel
theorem dX1_seatByTime_8 : decode cX1_seatByTime 8 = .ok (.invokevirtual 78, 3) := by decide +kernel
theorem dX1_seatByTime_11 : decode cX1_seatByTime 11 = .ok (.if_icmp .ge 16, 3) := by decide +kernel
theorem dX1_seatByTime_14 : decode cX1_seatByTime 14 = .ok (.aload_n 1, 1) := by decide +kernel
theorem dX1_seatByTime_15 : decode cX1_seatByTime 15 = .ok (.iload_n 2, 1) := by decide +kernel
theorem dX1_seatByTime_16 : decode cX1_seatByTime 16 = .ok (.aload_n 0, 1) := by decide +kernel
theorem dX1_seatByTime_17 : decode cX1_seatByTime 17 = .ok (.invokevirtual 78, 3) := by decide +kernel
theorem dX1_seatByTime_20 : decode cX1_seatByTime 20 = .ok (.invokestatic 137, 3) := by decide +kernel
theorem dX1_seatByTime_23 : decode cX1_seatByTime 23 = .ok (.putfield 47, 3) := by decide +kernel
theorem dX1_seatByTime_26 : decode cX1_seatByTime 26 = .ok (.return_, 1) := by decide +kernel
theorem dX1_seatByTime_27 : decode cX1_seatByTime 27 = .ok (.iload_n 2, 1) := by decide +kernel
theorem dX1_seatByTime_28 : decode cX1_seatByTime 28 = .ok (.aload_n 0, 1) := by decide +kernel
theorem dX1_seatByTime_29 : decode cX1_seatByTime 29 = .ok (.invokevirtual 78, 3) := by decide +kernel
theorem dX1_seatByTime_32 : decode cX1_seatByTime 32 = .ok (.isub, 1) := by decide +kernel
theorem dX1_seatByTime_33 : decode cX1_seatByTime 33 = .ok (.istore_n 3, 1) := by decide +kernel
theorem dX1_seatByTime_34 : decode cX1_seatByTime 34 = .ok (.iload_n 3, 1) := by decide +kernel
theorem dX1_seatByTime_35 : decode cX1_seatByTime 35 = .ok (.aload_n 0, 1) := by decide +kernel
theorem dX1_seatByTime_36 : decode cX1_seatByTime 36 = .ok (.getfield 70, 3) := by decide +kernel
theorem dX1_seatByTime_39 : decode cX1_seatByTime 39 = .ok (.iconst 2, 1) := by decide +kernel
theorem dX1_seatByTime_40 : decode cX1_seatByTime 40 = .ok (.iaload, 1) := by decide +kernel
theorem dX1_seatByTime_41 : decode cX1_seatByTime 41 = .ok (.if_icmp .ge 28, 3) := by decide +kernel
theorem dX1_seatByTime_44 : decode cX1_seatByTime 44 = .ok (.iload_n 3, 1) := by decide +kernel
theorem dX1_seatByTime_45 : decode cX1_seatByTime 45 = .ok (.iconst 4, 1) := by decide +kernel
theorem dX1_seatByTime_46 : decode cX1_seatByTime 46 = .ok (.if_icmp .ge 23, 3) := by decide +kernel
theorem dX1_seatByTime_49 : decode cX1_seatByTime 49 = .ok (.aload_n 0, 1) := by decide +kernel
theorem dX1_seatByTime_50 : decode cX1_seatByTime 50 = .ok (.getfield 142, 3) := by decide +kernel
theorem dX1_seatByTime_53 : decode cX1_seatByTime 53 = .ok (.iload_n 3, 1) := by decide +kernel
theorem dX1_seatByTime_54 : decode cX1_seatByTime 54 = .ok (.aload_n 1, 1) := by decide +kernel
theorem dX1_seatByTime_55 : decode cX1_seatByTime 55 = .ok (.getfield 145, 3) := by decide +kernel
theorem dX1_seatByTime_58 : decode cX1_seatByTime 58 = .ok (.iastore, 1) := by decide +kernel
theorem dX1_seatByTime_59 : decode cX1_seatByTime 59 = .ok (.aload_n 0, 1) := by decide +kernel
theorem dX1_seatByTime_60 : decode cX1_seatByTime 60 = .ok (.dup, 1) := by decide +kernel
theorem dX1_seatByTime_61 : decode cX1_seatByTime 61 = .ok (.getfield 148, 3) := by decide +kernel
theorem dX1_seatByTime_64 : decode cX1_seatByTime 64 = .ok (.iconst 1, 1) := by decide +kernel
theorem dX1_seatByTime_65 : decode cX1_seatByTime 65 = .ok (.iadd, 1) := by decide +kernel
theorem dX1_seatByTime_66 : decode cX1_seatByTime 66 = .ok (.putfield 148, 3) := by decide +kernel
theorem dX1_seatByTime_69 : decode cX1_seatByTime 69 = .ok (.return_, 1) := by decide +kernel
theorem dX1_endEvent_0 : decode cX1_endEvent 0 = .ok (.aload_n 0, 1) := by decide +kernel
theorem dX1_endEvent_1 : decode cX1_endEvent 1 = .ok (.getfield 16, 3) := by decide +kernel
theorem dX1_endEvent_4 : decode cX1_endEvent 4 = .ok (.iconst 2, 1) := by decide +kernel
theorem dX1_endEvent_5 : decode cX1_endEvent 5 = .ok (.if_icmp .ne 10, 3) := by decide +kernel
theorem dX1_endEvent_8 : decode cX1_endEvent 8 = .ok (.aload_n 0, 1) := by decide +kernel
theorem dX1_endEvent_9 : decode cX1_endEvent 9 = .ok (.invokevirtual 123, 3) := by decide +kernel
theorem dX1_endEvent_12 : decode cX1_endEvent 12 = .ok (.ifCond .eq 6, 3) := by decide +kernel
theorem dX1_endEvent_15 : decode cX1_endEvent 15 = .ok (.ldc 22, 2) := by decide +kernel
theorem dX1_endEvent_17 : decode cX1_endEvent 17 = .ok (.ireturn, 1) := by decide +kernel
theorem dX1_endEvent_18 : decode cX1_endEvent 18 = .ok (.iconst 0, 1) := by decide +kernel
theorem dX1_endEvent_19 : decode cX1_endEvent 19 = .ok (.istore_n 1, 1) := by decide +kernel
theorem dX1_endEvent_20 : decode cX1_endEvent 20 = .ok (.iconst 0, 1) := by decide +kernel
theorem dX1_endEvent_21 : decode cX1_endEvent 21 = .ok (.istore_n 2, 1) := by decide +kernel
theorem dX1_endEvent_22 : decode cX1_endEvent 22 = .ok (.iload_n 2, 1) := by decide +kernel
theorem dX1_endEvent_23 : decode cX1_endEvent 23 = .ok (.aload_n 0, 1) := by decide +kernel
theorem dX1_endEvent_24 : decode cX1_endEvent 24 = .ok (.getfield 23, 3) := by decide +kernel
theorem dX1_endEvent_27 : decode cX1_endEvent 27 = .ok (.if_icmp .ge 38, 3) := by decide +kernel
theorem dX1_endEvent_30 : decode cX1_endEvent 30 = .ok (.aload_n 0, 1) := by decide +kernel
theorem dX1_endEvent_31 : decode cX1_endEvent 31 = .ok (.aload_n 0, 1) := by decide +kernel
theorem dX1_endEvent_32 : decode cX1_endEvent 32 = .ok (.getfield 27, 3) := by decide +kernel
theorem dX1_endEvent_35 : decode cX1_endEvent 35 = .ok (.iload_n 2, 1) := by decide +kernel
theorem dX1_endEvent_36 : decode cX1_endEvent 36 = .ok (.aaload, 1) := by decide +kernel
theorem dX1_endEvent_37 : decode cX1_endEvent 37 = .ok (.invokestatic 151, 3) := by decide +kernel
theorem dX1_endEvent_40 : decode cX1_endEvent 40 = .ok (.aload_n 0, 1) := by decide +kernel
theorem dX1_endEvent_41 : decode cX1_endEvent 41 = .ok (.getfield 27, 3) := by decide +kernel
theorem dX1_endEvent_44 : decode cX1_endEvent 44 = .ok (.iload_n 2, 1) := by decide +kernel
theorem dX1_endEvent_45 : decode cX1_endEvent 45 = .ok (.aaload, 1) := by decide +kernel
theorem dX1_endEvent_46 : decode cX1_endEvent 46 = .ok (.getfield 156, 3) := by decide +kernel
theorem dX1_endEvent_49 : decode cX1_endEvent 49 = .ok (.iconst 1, 1) := by decide +kernel
theorem dX1_endEvent_50 : decode cX1_endEvent 50 = .ok (.if_icmp .ne 9, 3) := by decide +kernel
theorem dX1_endEvent_53 : decode cX1_endEvent 53 = .ok (.iload_n 1, 1) := by decide +kernel
theorem dX1_endEvent_54 : decode cX1_endEvent 54 = .ok (.iconst 1, 1) := by decide +kernel
theorem dX1_endEvent_55 : decode cX1_endEvent 55 = .ok (.iload_n 2, 1) := by decide +kernel
theorem dX1_endEvent_56 : decode cX1_endEvent 56 = .ok (.ishl, 1) := by decide +kernel
theorem dX1_endEvent_57 : decode cX1_endEvent 57 = .ok (.ior, 1) := by decide +kernel
theorem dX1_endEvent_58 : decode cX1_endEvent 58 = .ok (.istore_n 1, 1) := by decide +kernel
theorem dX1_endEvent_59 : decode cX1_endEvent 59 = .ok (.iinc 2 1, 3) := by decide +kernel
theorem dX1_endEvent_62 : decode cX1_endEvent 62 = .ok (.goto (-40), 3) := by decide +kernel
theorem dX1_endEvent_65 : decode cX1_endEvent 65 = .ok (.aload_n 0, 1) := by decide +kernel
theorem dX1_endEvent_66 : decode cX1_endEvent 66 = .ok (.iconst 3, 1) := by decide +kernel
theorem dX1_endEvent_67 : decode cX1_endEvent 67 = .ok (.putfield 16, 3) := by decide +kernel
theorem dX1_endEvent_70 : decode cX1_endEvent 70 = .ok (.aload_n 0, 1) := by decide +kernel
theorem dX1_endEvent_71 : decode cX1_endEvent 71 = .ok (.dup, 1) := by decide +kernel
theorem dX1_endEvent_72 : decode cX1_endEvent 72 = .ok (.getfield 158, 3) := by decide +kernel
theorem dX1_endEvent_75 : decode cX1_endEvent 75 = .ok (.iconst 1, 1) := by decide +kernel
theorem dX1_endEvent_76 : decode cX1_endEvent 76 = .ok (.iadd, 1) := by decide +kernel
theorem dX1_endEvent_77 : decode cX1_endEvent 77 = .ok (.putfield 158, 3) := by decide +kernel
theorem dX1_endEvent_80 : decode cX1_endEvent 80 = .ok (.iload_n 1, 1) := by decide +kernel
theorem dX1_endEvent_81 : decode cX1_endEvent 81 = .ok (.ireturn, 1) := by decide +kernel
theorem dX1_beginNextEvent_0 : decode cX1_beginNextEvent 0 = .ok (.aload_n 0, 1) := by decide +kernel
theorem dX1_beginNextEvent_1 : decode cX1_beginNextEvent 1 = .ok (.getfield 16, 3) := by decide +kernel
theorem dX1_beginNextEvent_4 : decode cX1_beginNextEvent 4 = .ok (.iconst 3, 1) := by decide +kernel
theorem dX1_beginNextEvent_5 : decode cX1_beginNextEvent 5 = .ok (.if_icmp .eq 6, 3) := by decide +kernel
theorem dX1_beginNextEvent_8 : decode cX1_beginNextEvent 8 = .ok (.ldc 22, 2) := by decide +kernel
theorem dX1_beginNextEvent_10 : decode cX1_beginNextEvent 10 = .ok (.ireturn, 1) := by decide +kernel
theorem dX1_beginNextEvent_11 : decode cX1_beginNextEvent 11 = .ok (.iconst 0, 1) := by decide +kernel
theorem dX1_beginNextEvent_12 : decode cX1_beginNextEvent 12 = .ok (.istore_n 1, 1) := by decide +kernel
theorem dX1_beginNextEvent_13 : decode cX1_beginNextEvent 13 = .ok (.iconst 0, 1) := by decide +kernel
theorem dX1_beginNextEvent_14 : decode cX1_beginNextEvent 14 = .ok (.istore_n 2, 1) := by decide +kernel
theorem dX1_beginNextEvent_15 : decode cX1_beginNextEvent 15 = .ok (.iload_n 2, 1) := by decide +kernel
theorem dX1_beginNextEvent_16 : decode cX1_beginNextEvent 16 = .ok (.aload_n 0, 1) := by decide +kernel
theorem dX1_beginNextEvent_17 : decode cX1_beginNextEvent 17 = .ok (.getfield 23, 3) := by decide +kernel
theorem dX1_beginNextEvent_20 : decode cX1_beginNextEvent 20 = .ok (.if_icmp .ge 44, 3) := by decide +kernel
theorem dX1_beginNextEvent_23 : decode cX1_beginNextEvent 23 = .ok (.aload_n 0, 1) := by decide +kernel
theorem dX1_beginNextEvent_24 : decode cX1_beginNextEvent 24 = .ok (.getfield 27, 3) := by decide +kernel
theorem dX1_beginNextEvent_27 : decode cX1_beginNextEvent 27 = .ok (.iload_n 2, 1) := by decide +kernel
theorem dX1_beginNextEvent_28 : decode cX1_beginNextEvent 28 = .ok (.aaload, 1) := by decide +kernel
theorem dX1_beginNextEvent_29 : decode cX1_beginNextEvent 29 = .ok (.astore_n 3, 1) := by decide +kernel
theorem dX1_beginNextEvent_30 : decode cX1_beginNextEvent 30 = .ok (.aload_n 3, 1) := by decide +kernel
theorem dX1_beginNextEvent_31 : decode cX1_beginNextEvent 31 = .ok (.invokevirtual 161, 3) := by decide +kernel
theorem dX1_beginNextEvent_34 : decode cX1_beginNextEvent 34 = .ok (.istore 4, 2) := by decide +kernel
theorem dX1_beginNextEvent_36 : decode cX1_beginNextEvent 36 = .ok (.iload 4, 2) := by decide +kernel
theorem dX1_beginNextEvent_38 : decode cX1_beginNextEvent 38 = .ok (.aload_n 3, 1) := by decide +kernel
theorem dX1_beginNextEvent_39 : decode cX1_beginNextEvent 39 = .ok (.getfield 164, 3) := by decide +kernel
theorem dX1_beginNextEvent_42 : decode cX1_beginNextEvent 42 = .ok (.if_icmp .eq 12, 3) := by decide +kernel
theorem dX1_beginNextEvent_45 : decode cX1_beginNextEvent 45 = .ok (.aload_n 3, 1) := by decide +kernel
theorem dX1_beginNextEvent_46 : decode cX1_beginNextEvent 46 = .ok (.iload 4, 2) := by decide +kernel
theorem dX1_beginNextEvent_48 : decode cX1_beginNextEvent 48 = .ok (.putfield 164, 3) := by decide +kernel
theorem dX1_beginNextEvent_51 : decode cX1_beginNextEvent 51 = .ok (.iinc 1 1, 3) := by decide +kernel
theorem dX1_beginNextEvent_54 : decode cX1_beginNextEvent 54 = .ok (.aload_n 3, 1) := by decide +kernel
theorem dX1_beginNextEvent_55 : decode cX1_beginNextEvent 55 = .ok (.invokevirtual 167, 3) := by decide +kernel
theorem dX1_beginNextEvent_58 : decode cX1_beginNextEvent 58 = .ok (.iinc 2 1, 3) := by decide +kernel
theorem dX1_beginNextEvent_61 : decode cX1_beginNextEvent 61 = .ok (.goto (-46), 3) := by decide +kernel
theorem dX1_beginNextEvent_64 : decode cX1_beginNextEvent 64 = .ok (.aload_n 0, 1) := by decide +kernel
theorem dX1_beginNextEvent_65 : decode cX1_beginNextEvent 65 = .ok (.iconst 0, 1) := by decide +kernel
theorem dX1_beginNextEvent_66 : decode cX1_beginNextEvent 66 = .ok (.putfield 87, 3) := by decide +kernel
theorem dX1_beginNextEvent_69 : decode cX1_beginNextEvent 69 = .ok (.aload_n 0, 1) := by decide +kernel
theorem dX1_beginNextEvent_70 : decode cX1_beginNextEvent 70 = .ok (.iconst 0, 1) := by decide +kernel
theorem dX1_beginNextEvent_71 : decode cX1_beginNextEvent 71 = .ok (.putfield 148, 3) := by decide +kernel
theorem dX1_beginNextEvent_74 : decode cX1_beginNextEvent 74 = .ok (.aload_n 0, 1) := by decide +kernel
theorem dX1_beginNextEvent_75 : decode cX1_beginNextEvent 75 = .ok (.iconst 0, 1) := by decide +kernel
theorem dX1_beginNextEvent_76 : decode cX1_beginNextEvent 76 = .ok (.putfield 16, 3) := by decide +kernel
theorem dX1_beginNextEvent_79 : decode cX1_beginNextEvent 79 = .ok (.iload_n 1, 1) := by decide +kernel
theorem dX1_beginNextEvent_80 : decode cX1_beginNextEvent 80 = .ok (.ireturn, 1) := by decide +kernel
theorem dX2_heatsFor_0 : decode cX2_heatsFor 0 = .ok (.iload_n 1, 1) := by decide +kernel
theorem dX2_heatsFor_1 : decode cX2_heatsFor 1 = .ok (.iconst 1, 1) := by decide +kernel
theorem dX2_heatsFor_2 : decode cX2_heatsFor 2 = .ok (.if_icmp .ge 7, 3) := by decide +kernel
theorem dX2_heatsFor_5 : decode cX2_heatsFor 5 = .ok (.iconst 0, 1) := by decide +kernel
theorem dX2_heatsFor_6 : decode cX2_heatsFor 6 = .ok (.goto 10, 3) := by decide +kernel
theorem dX2_heatsFor_9 : decode cX2_heatsFor 9 = .ok (.iload_n 0, 1) := by decide +kernel
theorem dX2_heatsFor_10 : decode cX2_heatsFor 10 = .ok (.iload_n 1, 1) := by decide +kernel
theorem dX2_heatsFor_11 : decode cX2_heatsFor 11 = .ok (.iadd, 1) := by decide +kernel
theorem dX2_heatsFor_12 : decode cX2_heatsFor 12 = .ok (.iconst 1, 1) := by decide +kernel
theorem dX2_heatsFor_13 : decode cX2_heatsFor 13 = .ok (.isub, 1) := by decide +kernel
theorem dX2_heatsFor_14 : decode cX2_heatsFor 14 = .ok (.iload_n 1, 1) := by decide +kernel
theorem dX2_heatsFor_15 : decode cX2_heatsFor 15 = .ok (.idiv, 1) := by decide +kernel
theorem dX2_heatsFor_16 : decode cX2_heatsFor 16 = .ok (.ireturn, 1) := by decide +kernel
theorem dX2_spread_0 : decode cX2_spread 0 = .ok (.iconst 0, 1) := by decide +kernel
theorem dX2_spread_1 : decode cX2_spread 1 = .ok (.istore_n 1, 1) := by decide +kernel
theorem dX2_spread_2 : decode cX2_spread 2 = .ok (.iload_n 1, 1) := by decide +kernel
theorem dX2_spread_3 : decode cX2_spread 3 = .ok (.aload_n 0, 1) := by decide +kernel
theorem dX2_spread_4 : decode cX2_spread 4 = .ok (.getfield 9, 3) := by decide +kernel
theorem dX2_spread_7 : decode cX2_spread 7 = .ok (.if_icmp .ge 43, 3) := by decide +kernel
theorem dX2_spread_10 : decode cX2_spread 10 = .ok (.aload_n 0, 1) := by decide +kernel
theorem dX2_spread_11 : decode cX2_spread 11 = .ok (.getfield 15, 3) := by decide +kernel
theorem dX2_spread_14 : decode cX2_spread 14 = .ok (.iload_n 1, 1) := by decide +kernel
theorem dX2_spread_15 : decode cX2_spread 15 = .ok (.aaload, 1) := by decide +kernel
theorem dX2_spread_16 : decode cX2_spread 16 = .ok (.astore_n 2, 1) := by decide +kernel
theorem dX2_spread_17 : decode cX2_spread 17 = .ok (.aload_n 2, 1) := by decide +kernel
theorem dX2_spread_18 : decode cX2_spread 18 = .ok (.getfield 19, 3) := by decide +kernel
theorem dX2_spread_21 : decode cX2_spread 21 = .ok (.ifCond .ne 23, 3) := by decide +kernel
theorem dX2_spread_24 : decode cX2_spread 24 = .ok (.aload_n 2, 1) := by decide +kernel
theorem dX2_spread_25 : decode cX2_spread 25 = .ok (.aload_n 0, 1) := by decide +kernel
theorem dX2_spread_26 : decode cX2_spread 26 = .ok (.aload_n 2, 1) := by decide +kernel
theorem dX2_spread_27 : decode cX2_spread 27 = .ok (.invokevirtual 25, 3) := by decide +kernel
theorem dX2_spread_30 : decode cX2_spread 30 = .ok (.aload_n 0, 1) := by decide +kernel
theorem dX2_spread_31 : decode cX2_spread 31 = .ok (.getfield 29, 3) := by decide +kernel
theorem dX2_spread_34 : decode cX2_spread 34 = .ok (.aload_n 0, 1) := by decide +kernel
theorem dX2_spread_35 : decode cX2_spread 35 = .ok (.invokevirtual 32, 3) := by decide +kernel
theorem dX2_spread_38 : decode cX2_spread 38 = .ok (.invokestatic 36, 3) := by decide +kernel
theorem dX2_spread_41 : decode cX2_spread 41 = .ok (.putfield 42, 3) := by decide +kernel
theorem dX2_spread_44 : decode cX2_spread 44 = .ok (.iinc 1 1, 3) := by decide +kernel
theorem dX2_spread_47 : decode cX2_spread 47 = .ok (.goto (-45), 3) := by decide +kernel
theorem dX2_spread_50 : decode cX2_spread 50 = .ok (.return_, 1) := by decide +kernel
theorem dX2_heatOfRank_0 : decode cX2_heatOfRank 0 = .ok (.iload_n 1, 1) := by decide +kernel
theorem dX2_heatOfRank_1 : decode cX2_heatOfRank 1 = .ok (.iconst 3, 1) := by decide +kernel
theorem dX2_heatOfRank_2 : decode cX2_heatOfRank 2 = .ok (.if_icmp .ge 20, 3) := by decide +kernel
theorem dX2_heatOfRank_5 : decode cX2_heatOfRank 5 = .ok (.iload_n 1, 1) := by decide +kernel
theorem dX2_heatOfRank_6 : decode cX2_heatOfRank 6 = .ok (.iconst 2, 1) := by decide +kernel
theorem dX2_heatOfRank_7 : decode cX2_heatOfRank 7 = .ok (.if_icmp .ne 13, 3) := by decide +kernel
theorem dX2_heatOfRank_10 : decode cX2_heatOfRank 10 = .ok (.iload_n 0, 1) := by decide +kernel
theorem dX2_heatOfRank_11 : decode cX2_heatOfRank 11 = .ok (.iconst 2, 1) := by decide +kernel
theorem dX2_heatOfRank_12 : decode cX2_heatOfRank 12 = .ok (.irem, 1) := by decide +kernel
theorem dX2_heatOfRank_13 : decode cX2_heatOfRank 13 = .ok (.ifCond .ne 7, 3) := by decide +kernel
theorem dX2_heatOfRank_16 : decode cX2_heatOfRank 16 = .ok (.iconst 1, 1) := by decide +kernel
theorem dX2_heatOfRank_17 : decode cX2_heatOfRank 17 = .ok (.goto 4, 3) := by decide +kernel
theorem dX2_heatOfRank_20 : decode cX2_heatOfRank 20 = .ok (.iconst 0, 1) := by decide +kernel
theorem dX2_heatOfRank_21 : decode cX2_heatOfRank 21 = .ok (.ireturn, 1) := by decide +kernel
theorem dX2_heatOfRank_22 : decode cX2_heatOfRank 22 = .ok (.iload_n 0, 1) := by decide +kernel
theorem dX2_heatOfRank_23 : decode cX2_heatOfRank 23 = .ok (.iconst 3, 1) := by decide +kernel
theorem dX2_heatOfRank_24 : decode cX2_heatOfRank 24 = .ok (.iload_n 2, 1) := by decide +kernel
theorem dX2_heatOfRank_25 : decode cX2_heatOfRank 25 = .ok (.imul, 1) := by decide +kernel
theorem dX2_heatOfRank_26 : decode cX2_heatOfRank 26 = .ok (.if_icmp .ge 11, 3) := by decide +kernel
theorem dX2_heatOfRank_29 : decode cX2_heatOfRank 29 = .ok (.iload_n 1, 1) := by decide +kernel
theorem dX2_heatOfRank_30 : decode cX2_heatOfRank 30 = .ok (.iconst 1, 1) := by decide +kernel
theorem dX2_heatOfRank_31 : decode cX2_heatOfRank 31 = .ok (.isub, 1) := by decide +kernel
theorem dX2_heatOfRank_32 : decode cX2_heatOfRank 32 = .ok (.iload_n 0, 1) := by decide +kernel
theorem dX2_heatOfRank_33 : decode cX2_heatOfRank 33 = .ok (.iconst 3, 1) := by decide +kernel
theorem dX2_heatOfRank_34 : decode cX2_heatOfRank 34 = .ok (.irem, 1) := by decide +kernel
theorem dX2_heatOfRank_35 : decode cX2_heatOfRank 35 = .ok (.isub, 1) := by decide +kernel
theorem dX2_heatOfRank_36 : decode cX2_heatOfRank 36 = .ok (.ireturn, 1) := by decide +kernel
theorem dX2_heatOfRank_37 : decode cX2_heatOfRank 37 = .ok (.iload_n 2, 1) := by decide +kernel
theorem dX2_heatOfRank_38 : decode cX2_heatOfRank 38 = .ok (.iconst 1, 1) := by decide +kernel
theorem dX2_heatOfRank_39 : decode cX2_heatOfRank 39 = .ok (.if_icmp .ge 7, 3) := by decide +kernel
theorem dX2_heatOfRank_42 : decode cX2_heatOfRank 42 = .ok (.iconst 0, 1) := by decide +kernel
theorem dX2_heatOfRank_43 : decode cX2_heatOfRank 43 = .ok (.goto 10, 3) := by decide +kernel
theorem dX2_heatOfRank_46 : decode cX2_heatOfRank 46 = .ok (.iload_n 1, 1) := by decide +kernel
theorem dX2_heatOfRank_47 : decode cX2_heatOfRank 47 = .ok (.iconst 1, 1) := by decide +kernel
theorem dX2_heatOfRank_48 : decode cX2_heatOfRank 48 = .ok (.isub, 1) := by decide +kernel
theorem dX2_heatOfRank_49 : decode cX2_heatOfRank 49 = .ok (.iload_n 0, 1) := by decide +kernel
theorem dX2_heatOfRank_50 : decode cX2_heatOfRank 50 = .ok (.iload_n 2, 1) := by decide +kernel
theorem dX2_heatOfRank_51 : decode cX2_heatOfRank 51 = .ok (.idiv, 1) := by decide +kernel
theorem dX2_heatOfRank_52 : decode cX2_heatOfRank 52 = .ok (.isub, 1) := by decide +kernel
theorem dX2_heatOfRank_53 : decode cX2_heatOfRank 53 = .ok (.ireturn, 1) := by decide +kernel
theorem dX2_fillFirstHeat_0 : decode cX2_fillFirstHeat 0 = .ok (.aload_n 0, 1) := by decide +kernel
theorem dX2_fillFirstHeat_1 : decode cX2_fillFirstHeat 1 = .ok (.getfield 29, 3) := by decide +kernel
theorem dX2_fillFirstHeat_4 : decode cX2_fillFirstHeat 4 = .ok (.iconst 4, 1) := by decide +kernel
theorem dX2_fillFirstHeat_5 : decode cX2_fillFirstHeat 5 = .ok (.if_icmp .ge 4, 3) := by decide +kernel
theorem dX2_fillFirstHeat_8 : decode cX2_fillFirstHeat 8 = .ok (.return_, 1) := by decide +kernel
theorem dX2_fillFirstHeat_9 : decode cX2_fillFirstHeat 9 = .ok (.aload_n 0, 1) := by decide +kernel
theorem dX2_fillFirstHeat_10 : decode cX2_fillFirstHeat 10 = .ok (.getfield 45, 3) := by decide +kernel
theorem dX2_fillFirstHeat_13 : decode cX2_fillFirstHeat 13 = .ok (.iconst 1, 1) := by decide +kernel
theorem dX2_fillFirstHeat_14 : decode cX2_fillFirstHeat 14 = .ok (.iaload, 1) := by decide +kernel
theorem dX2_fillFirstHeat_15 : decode cX2_fillFirstHeat 15 = .ok (.aload_n 0, 1) := by decide +kernel
theorem dX2_fillFirstHeat_16 : decode cX2_fillFirstHeat 16 = .ok (.iconst 0, 1) := by decide +kernel
theorem dX2_fillFirstHeat_17 : decode cX2_fillFirstHeat 17 = .ok (.invokestatic 49, 3) := by decide +kernel
theorem dX2_fillFirstHeat_20 : decode cX2_fillFirstHeat 20 = .ok (.isub, 1) := by decide +kernel
theorem dX2_fillFirstHeat_21 : decode cX2_fillFirstHeat 21 = .ok (.istore_n 1, 1) := by decide +kernel
theorem dX2_fillFirstHeat_22 : decode cX2_fillFirstHeat 22 = .ok (.iconst 0, 1) := by decide +kernel
theorem dX2_fillFirstHeat_23 : decode cX2_fillFirstHeat 23 = .ok (.istore_n 2, 1) := by decide +kernel
theorem dX2_fillFirstHeat_24 : decode cX2_fillFirstHeat 24 = .ok (.iload_n 2, 1) := by decide +kernel
theorem dX2_fillFirstHeat_25 : decode cX2_fillFirstHeat 25 = .ok (.iload_n 1, 1) := by decide +kernel
theorem dX2_fillFirstHeat_26 : decode cX2_fillFirstHeat 26 = .ok (.if_icmp .ge 33, 3) := by decide +kernel
theorem dX2_fillFirstHeat_29 : decode cX2_fillFirstHeat 29 = .ok (.aload_n 0, 1) := by decide +kernel
theorem dX2_fillFirstHeat_30 : decode cX2_fillFirstHeat 30 = .ok (.iconst 1, 1) := by decide +kernel
theorem dX2_fillFirstHeat_31 : decode cX2_fillFirstHeat 31 = .ok (.invokestatic 53, 3) := by decide +kernel
theorem dX2_fillFirstHeat_34 : decode cX2_fillFirstHeat 34 = .ok (.istore_n 3, 1) := by decide +kernel
theorem dX2_fillFirstHeat_35 : decode cX2_fillFirstHeat 35 = .ok (.aload_n 0, 1) := by decide +kernel
theorem dX2_fillFirstHeat_36 : decode cX2_fillFirstHeat 36 = .ok (.iload_n 3, 1) := by decide +kernel
theorem dX2_fillFirstHeat_37 : decode cX2_fillFirstHeat 37 = .ok (.invokevirtual 56, 3) := by decide +kernel
theorem dX2_fillFirstHeat_40 : decode cX2_fillFirstHeat 40 = .ok (.ifCond .eq 13, 3) := by decide +kernel
theorem dX2_fillFirstHeat_43 : decode cX2_fillFirstHeat 43 = .ok (.aload_n 0, 1) := by decide +kernel
theorem dX2_fillFirstHeat_44 : decode cX2_fillFirstHeat 44 = .ok (.getfield 15, 3) := by decide +kernel
theorem dX2_fillFirstHeat_47 : decode cX2_fillFirstHeat 47 = .ok (.iload_n 3, 1) := by decide +kernel
theorem dX2_fillFirstHeat_48 : decode cX2_fillFirstHeat 48 = .ok (.aaload, 1) := by decide +kernel
theorem dX2_fillFirstHeat_49 : decode cX2_fillFirstHeat 49 = .ok (.iconst 0, 1) := by decide +kernel
theorem dX2_fillFirstHeat_50 : decode cX2_fillFirstHeat 50 = .ok (.putfield 42, 3) := by decide +kernel
theorem dX2_fillFirstHeat_53 : decode cX2_fillFirstHeat 53 = .ok (.iinc 2 1, 3) := by decide +kernel
theorem dX2_fillFirstHeat_56 : decode cX2_fillFirstHeat 56 = .ok (.goto (-32), 3) := by decide +kernel
theorem dX2_fillFirstHeat_59 : decode cX2_fillFirstHeat 59 = .ok (.return_, 1) := by decide +kernel
theorem dX2_sizeOf_0 : decode cX2_sizeOf 0 = .ok (.iconst 0, 1) := by decide +kernel
theorem dX2_sizeOf_1 : decode cX2_sizeOf 1 = .ok (.istore_n 2, 1) := by decide +kernel
theorem dX2_sizeOf_2 : decode cX2_sizeOf 2 = .ok (.iconst 0, 1) := by decide +kernel
theorem dX2_sizeOf_3 : decode cX2_sizeOf 3 = .ok (.istore_n 3, 1) := by decide +kernel
theorem dX2_sizeOf_4 : decode cX2_sizeOf 4 = .ok (.iload_n 3, 1) := by decide +kernel
theorem dX2_sizeOf_5 : decode cX2_sizeOf 5 = .ok (.aload_n 0, 1) := by decide +kernel
theorem dX2_sizeOf_6 : decode cX2_sizeOf 6 = .ok (.getfield 9, 3) := by decide +kernel
theorem dX2_sizeOf_9 : decode cX2_sizeOf 9 = .ok (.if_icmp .ge 25, 3) := by decide +kernel
theorem dX2_sizeOf_12 : decode cX2_sizeOf 12 = .ok (.aload_n 0, 1) := by decide +kernel
theorem dX2_sizeOf_13 : decode cX2_sizeOf 13 = .ok (.getfield 15, 3) := by decide +kernel
theorem dX2_sizeOf_16 : decode cX2_sizeOf 16 = .ok (.iload_n 3, 1) := by decide +kernel
theorem dX2_sizeOf_17 : decode cX2_sizeOf 17 = .ok (.aaload, 1) := by decide +kernel
theorem dX2_sizeOf_18 : decode cX2_sizeOf 18 = .ok (.getfield 42, 3) := by decide +kernel
theorem dX2_sizeOf_21 : decode cX2_sizeOf 21 = .ok (.iload_n 1, 1) := by decide +kernel
theorem dX2_sizeOf_22 : decode cX2_sizeOf 22 = .ok (.if_icmp .ne 6, 3) := by decide +kernel
theorem dX2_sizeOf_25 : decode cX2_sizeOf 25 = .ok (.iinc 2 1, 3) := by decide +kernel
theorem dX2_sizeOf_28 : decode cX2_sizeOf 28 = .ok (.iinc 3 1, 3) := by decide +kernel
theorem dX2_sizeOf_31 : decode cX2_sizeOf 31 = .ok (.goto (-27), 3) := by decide +kernel
theorem dX2_sizeOf_34 : decode cX2_sizeOf 34 = .ok (.iload_n 2, 1) := by decide +kernel
theorem dX2_sizeOf_35 : decode cX2_sizeOf 35 = .ok (.ireturn, 1) := by decide +kernel
theorem dX2_lastOf_0 : decode cX2_lastOf 0 = .ok (.ldc 60, 2) := by decide +kernel
theorem dX2_lastOf_2 : decode cX2_lastOf 2 = .ok (.istore_n 2, 1) := by decide +kernel
theorem dX2_lastOf_3 : decode cX2_lastOf 3 = .ok (.iconst 0, 1) := by decide +kernel
theorem dX2_lastOf_4 : decode cX2_lastOf 4 = .ok (.istore_n 3, 1) := by decide +kernel
theorem dX2_lastOf_5 : decode cX2_lastOf 5 = .ok (.iload_n 3, 1) := by decide +kernel
theorem dX2_lastOf_6 : decode cX2_lastOf 6 = .ok (.aload_n 0, 1) := by decide +kernel
theorem dX2_lastOf_7 : decode cX2_lastOf 7 = .ok (.getfield 9, 3) := by decide +kernel
theorem dX2_lastOf_10 : decode cX2_lastOf 10 = .ok (.if_icmp .ge 50, 3) := by decide +kernel
theorem dX2_lastOf_13 : decode cX2_lastOf 13 = .ok (.aload_n 0, 1) := by decide +kernel
theorem dX2_lastOf_14 : decode cX2_lastOf 14 = .ok (.getfield 15, 3) := by decide +kernel
theorem dX2_lastOf_17 : decode cX2_lastOf 17 = .ok (.iload_n 3, 1) := by decide +kernel
theorem dX2_lastOf_18 : decode cX2_lastOf 18 = .ok (.aaload, 1) := by decide +kernel
theorem dX2_lastOf_19 : decode cX2_lastOf 19 = .ok (.getfield 42, 3) := by decide +kernel
theorem dX2_lastOf_22 : decode cX2_lastOf 22 = .ok (.iload_n 1, 1) := by decide +kernel
theorem dX2_lastOf_23 : decode cX2_lastOf 23 = .ok (.if_icmp .ne 31, 3) := by decide +kernel
theorem dX2_lastOf_26 : decode cX2_lastOf 26 = .ok (.aload_n 0, 1) := by decide +kernel
theorem dX2_lastOf_27 : decode cX2_lastOf 27 = .ok (.iload_n 2, 1) := by decide +kernel
theorem dX2_lastOf_28 : decode cX2_lastOf 28 = .ok (.invokevirtual 56, 3) := by decide +kernel
theorem dX2_lastOf_31 : decode cX2_lastOf 31 = .ok (.ifCond .eq 21, 3) := by decide +kernel
theorem dX2_lastOf_34 : decode cX2_lastOf 34 = .ok (.aload_n 0, 1) := by decide +kernel
theorem dX2_lastOf_35 : decode cX2_lastOf 35 = .ok (.getfield 15, 3) := by decide +kernel
theorem dX2_lastOf_38 : decode cX2_lastOf 38 = .ok (.iload_n 2, 1) := by decide +kernel
theorem dX2_lastOf_39 : decode cX2_lastOf 39 = .ok (.aaload, 1) := by decide +kernel
theorem dX2_lastOf_40 : decode cX2_lastOf 40 = .ok (.aload_n 0, 1) := by decide +kernel
theorem dX2_lastOf_41 : decode cX2_lastOf 41 = .ok (.getfield 15, 3) := by decide +kernel
theorem dX2_lastOf_44 : decode cX2_lastOf 44 = .ok (.iload_n 3, 1) := by decide +kernel
theorem dX2_lastOf_45 : decode cX2_lastOf 45 = .ok (.aaload, 1) := by decide +kernel
theorem dX2_lastOf_46 : decode cX2_lastOf 46 = .ok (.invokevirtual 61, 3) := by decide +kernel
theorem dX2_lastOf_49 : decode cX2_lastOf 49 = .ok (.ifCond .eq 5, 3) := by decide +kernel
theorem dX2_lastOf_52 : decode cX2_lastOf 52 = .ok (.iload_n 3, 1) := by decide +kernel
theorem dX2_lastOf_53 : decode cX2_lastOf 53 = .ok (.istore_n 2, 1) := by decide +kernel
theorem dX2_lastOf_54 : decode cX2_lastOf 54 = .ok (.iinc 3 1, 3) := by decide +kernel
theorem dX2_lastOf_57 : decode cX2_lastOf 57 = .ok (.goto (-52), 3) := by decide +kernel
theorem dX2_lastOf_60 : decode cX2_lastOf 60 = .ok (.iload_n 2, 1) := by decide +kernel
theorem dX2_lastOf_61 : decode cX2_lastOf 61 = .ok (.ireturn, 1) := by decide +kernel
theorem dX2_giveLanes_0 : decode cX2_giveLanes 0 = .ok (.iconst 0, 1) := by decide +kernel
theorem dX2_giveLanes_1 : decode cX2_giveLanes 1 = .ok (.istore_n 1, 1) := by decide +kernel
theorem dX2_giveLanes_2 : decode cX2_giveLanes 2 = .ok (.iload_n 1, 1) := by decide +kernel
theorem dX2_giveLanes_3 : decode cX2_giveLanes 3 = .ok (.aload_n 0, 1) := by decide +kernel
theorem dX2_giveLanes_4 : decode cX2_giveLanes 4 = .ok (.getfield 9, 3) := by decide +kernel
theorem dX2_giveLanes_7 : decode cX2_giveLanes 7 = .ok (.if_icmp .ge 39, 3) := by decide +kernel
theorem dX2_giveLanes_10 : decode cX2_giveLanes 10 = .ok (.aload_n 0, 1) := by decide +kernel
theorem dX2_giveLanes_11 : decode cX2_giveLanes 11 = .ok (.getfield 15, 3) := by decide +kernel
theorem dX2_giveLanes_14 : decode cX2_giveLanes 14 = .ok (.iload_n 1, 1) := by decide +kernel
theorem dX2_giveLanes_15 : decode cX2_giveLanes 15 = .ok (.aaload, 1) := by decide +kernel
theorem dX2_giveLanes_16 : decode cX2_giveLanes 16 = .ok (.astore_n 2, 1) := by decide +kernel
theorem dX2_giveLanes_17 : decode cX2_giveLanes 17 = .ok (.aload_n 2, 1) := by decide +kernel
theorem dX2_giveLanes_18 : decode cX2_giveLanes 18 = .ok (.getfield 19, 3) := by decide +kernel
theorem dX2_giveLanes_21 : decode cX2_giveLanes 21 = .ok (.ifCond .ne 19, 3) := by decide +kernel
theorem dX2_giveLanes_24 : decode cX2_giveLanes 24 = .ok (.aload_n 2, 1) := by decide +kernel
theorem dX2_giveLanes_25 : decode cX2_giveLanes 25 = .ok (.aload_n 0, 1) := by decide +kernel
theorem dX2_giveLanes_26 : decode cX2_giveLanes 26 = .ok (.aload_n 2, 1) := by decide +kernel
theorem dX2_giveLanes_27 : decode cX2_giveLanes 27 = .ok (.invokestatic 65, 3) := by decide +kernel
theorem dX2_giveLanes_30 : decode cX2_giveLanes 30 = .ok (.aload_n 0, 1) := by decide +kernel
theorem dX2_giveLanes_31 : decode cX2_giveLanes 31 = .ok (.invokevirtual 32, 3) := by decide +kernel
theorem dX2_giveLanes_34 : decode cX2_giveLanes 34 = .ok (.invokestatic 69, 3) := by decide +kernel
theorem dX2_giveLanes_37 : decode cX2_giveLanes 37 = .ok (.putfield 75, 3) := by decide +kernel
theorem dX2_giveLanes_40 : decode cX2_giveLanes 40 = .ok (.iinc 1 1, 3) := by decide +kernel
theorem dX2_giveLanes_43 : decode cX2_giveLanes 43 = .ok (.goto (-41), 3) := by decide +kernel
theorem dX2_giveLanes_46 : decode cX2_giveLanes 46 = .ok (.return_, 1) := by decide +kernel
theorem dX2_rankInHeat_0 : decode cX2_rankInHeat 0 = .ok (.iconst 0, 1) := by decide +kernel
theorem dX2_rankInHeat_1 : decode cX2_rankInHeat 1 = .ok (.istore_n 2, 1) := by decide +kernel
theorem dX2_rankInHeat_2 : decode cX2_rankInHeat 2 = .ok (.iconst 0, 1) := by decide +kernel
theorem dX2_rankInHeat_3 : decode cX2_rankInHeat 3 = .ok (.istore_n 3, 1) := by decide +kernel
theorem dX2_rankInHeat_4 : decode cX2_rankInHeat 4 = .ok (.iload_n 3, 1) := by decide +kernel
theorem dX2_rankInHeat_5 : decode cX2_rankInHeat 5 = .ok (.aload_n 0, 1) := by decide +kernel
theorem dX2_rankInHeat_6 : decode cX2_rankInHeat 6 = .ok (.getfield 9, 3) := by decide +kernel
theorem dX2_rankInHeat_9 : decode cX2_rankInHeat 9 = .ok (.if_icmp .ge 41, 3) := by decide +kernel
theorem dX2_rankInHeat_12 : decode cX2_rankInHeat 12 = .ok (.aload_n 0, 1) := by decide +kernel
theorem dX2_rankInHeat_13 : decode cX2_rankInHeat 13 = .ok (.getfield 15, 3) := by decide +kernel
theorem dX2_rankInHeat_16 : decode cX2_rankInHeat 16 = .ok (.iload_n 3, 1) := by decide +kernel
theorem dX2_rankInHeat_17 : decode cX2_rankInHeat 17 = .ok (.aaload, 1) := by decide +kernel
theorem dX2_rankInHeat_18 : decode cX2_rankInHeat 18 = .ok (.getfield 42, 3) := by decide +kernel
theorem dX2_rankInHeat_21 : decode cX2_rankInHeat 21 = .ok (.aload_n 1, 1) := by decide +kernel
theorem dX2_rankInHeat_22 : decode cX2_rankInHeat 22 = .ok (.getfield 42, 3) := by decide +kernel
theorem dX2_rankInHeat_25 : decode cX2_rankInHeat 25 = .ok (.if_icmp .ne 19, 3) := by decide +kernel
theorem dX2_rankInHeat_28 : decode cX2_rankInHeat 28 = .ok (.aload_n 0, 1) := by decide +kernel
theorem dX2_rankInHeat_29 : decode cX2_rankInHeat 29 = .ok (.getfield 15, 3) := by decide +kernel
theorem dX2_rankInHeat_32 : decode cX2_rankInHeat 32 = .ok (.iload_n 3, 1) := by decide +kernel
theorem dX2_rankInHeat_33 : decode cX2_rankInHeat 33 = .ok (.aaload, 1) := by decide +kernel
theorem dX2_rankInHeat_34 : decode cX2_rankInHeat 34 = .ok (.aload_n 1, 1) := by decide +kernel
theorem dX2_rankInHeat_35 : decode cX2_rankInHeat 35 = .ok (.invokevirtual 61, 3) := by decide +kernel
theorem dX2_rankInHeat_38 : decode cX2_rankInHeat 38 = .ok (.ifCond .eq 6, 3) := by decide +kernel
theorem dX2_rankInHeat_41 : decode cX2_rankInHeat 41 = .ok (.iinc 2 1, 3) := by decide +kernel
theorem dX2_rankInHeat_44 : decode cX2_rankInHeat 44 = .ok (.iinc 3 1, 3) := by decide +kernel
theorem dX2_rankInHeat_47 : decode cX2_rankInHeat 47 = .ok (.goto (-43), 3) := by decide +kernel
theorem dX2_rankInHeat_50 : decode cX2_rankInHeat 50 = .ok (.iload_n 2, 1) := by decide +kernel
theorem dX2_rankInHeat_51 : decode cX2_rankInHeat 51 = .ok (.ireturn, 1) := by decide +kernel
theorem dX3_init_0 : decode cX3_init 0 = .ok (.aload_n 0, 1) := by decide +kernel
theorem dX3_init_1 : decode cX3_init 1 = .ok (.invokespecial 3, 3) := by decide +kernel
theorem dX3_init_4 : decode cX3_init 4 = .ok (.aload_n 0, 1) := by decide +kernel
theorem dX3_init_5 : decode cX3_init 5 = .ok (.iconst 5, 1) := by decide +kernel
theorem dX3_init_6 : decode cX3_init 6 = .ok (.anewarray 9, 3) := by decide +kernel
theorem dX3_init_9 : decode cX3_init 9 = .ok (.putfield 11, 3) := by decide +kernel
theorem dX3_init_12 : decode cX3_init 12 = .ok (.iconst 0, 1) := by decide +kernel
theorem dX3_init_13 : decode cX3_init 13 = .ok (.istore_n 1, 1) := by decide +kernel
theorem dX3_init_14 : decode cX3_init 14 = .ok (.iload_n 1, 1) := by decide +kernel
theorem dX3_init_15 : decode cX3_init 15 = .ok (.iconst 4, 1) := by decide +kernel
theorem dX3_init_16 : decode cX3_init 16 = .ok (.if_icmp .gt 22, 3) := by decide +kernel
theorem dX3_init_19 : decode cX3_init 19 = .ok (.aload_n 0, 1) := by decide +kernel
theorem dX3_init_20 : decode cX3_init 20 = .ok (.getfield 11, 3) := by decide +kernel
theorem dX3_init_23 : decode cX3_init 23 = .ok (.iload_n 1, 1) := by decide +kernel
theorem dX3_init_24 : decode cX3_init 24 = .ok (.new 9, 3) := by decide +kernel
theorem dX3_init_27 : decode cX3_init 27 = .ok (.dup, 1) := by decide +kernel
theorem dX3_init_28 : decode cX3_init 28 = .ok (.invokespecial 17, 3) := by decide +kernel
theorem dX3_init_31 : decode cX3_init 31 = .ok (.aastore, 1) := by decide +kernel
theorem dX3_init_32 : decode cX3_init 32 = .ok (.iinc 1 1, 3) := by decide +kernel
theorem dX3_init_35 : decode cX3_init 35 = .ok (.goto (-21), 3) := by decide +kernel
theorem dX3_init_38 : decode cX3_init 38 = .ok (.return_, 1) := by decide +kernel
theorem dX3_prepare_0 : decode cX3_prepare 0 = .ok (.aload_n 0, 1) := by decide +kernel
theorem dX3_prepare_1 : decode cX3_prepare 1 = .ok (.getfield 18, 3) := by decide +kernel
theorem dX3_prepare_4 : decode cX3_prepare 4 = .ok (.ifCond .lt 24, 3) := by decide +kernel
theorem dX3_prepare_7 : decode cX3_prepare 7 = .ok (.aload_n 0, 1) := by decide +kernel
theorem dX3_prepare_8 : decode cX3_prepare 8 = .ok (.getfield 18, 3) := by decide +kernel
theorem dX3_prepare_11 : decode cX3_prepare 11 = .ok (.iconst 4, 1) := by decide +kernel
theorem dX3_prepare_12 : decode cX3_prepare 12 = .ok (.if_icmp .gt 16, 3) := by decide +kernel
theorem dX3_prepare_15 : decode cX3_prepare 15 = .ok (.aload_n 0, 1) := by decide +kernel
theorem dX3_prepare_16 : decode cX3_prepare 16 = .ok (.getfield 11, 3) := by decide +kernel
theorem dX3_prepare_19 : decode cX3_prepare 19 = .ok (.aload_n 0, 1) := by decide +kernel
theorem dX3_prepare_20 : decode cX3_prepare 20 = .ok (.getfield 18, 3) := by decide +kernel
theorem dX3_prepare_23 : decode cX3_prepare 23 = .ok (.aaload, 1) := by decide +kernel
theorem dX3_prepare_24 : decode cX3_prepare 24 = .ok (.aload_n 1, 1) := by decide +kernel
theorem dX3_prepare_25 : decode cX3_prepare 25 = .ok (.invokevirtual 22, 3) := by decide +kernel
theorem dX3_prepare_28 : decode cX3_prepare 28 = .ok (.return_, 1) := by decide +kernel
theorem dX3_keepUnlessError_0 : decode cX3_keepUnlessError 0 = .ok (.iload_n 1, 1) := by decide +kernel
theorem dX3_keepUnlessError_1 : decode cX3_keepUnlessError 1 = .ok (.ifCond .lt 25, 3) := by decide +kernel
theorem dX3_keepUnlessError_4 : decode cX3_keepUnlessError 4 = .ok (.aload_n 0, 1) := by decide +kernel
theorem dX3_keepUnlessError_5 : decode cX3_keepUnlessError 5 = .ok (.dup, 1) := by decide +kernel
theorem dX3_keepUnlessError_6 : decode cX3_keepUnlessError 6 = .ok (.getfield 18, 3) := by decide +kernel
theorem dX3_keepUnlessError_9 : decode cX3_keepUnlessError 9 = .ok (.iconst 1, 1) := by decide +kernel
theorem dX3_keepUnlessError_10 : decode cX3_keepUnlessError 10 = .ok (.iadd, 1) := by decide +kernel
theorem dX3_keepUnlessError_11 : decode cX3_keepUnlessError 11 = .ok (.putfield 18, 3) := by decide +kernel
theorem dX3_keepUnlessError_14 : decode cX3_keepUnlessError 14 = .ok (.aload_n 0, 1) := by decide +kernel
theorem dX3_keepUnlessError_15 : decode cX3_keepUnlessError 15 = .ok (.getfield 18, 3) := by decide +kernel
theorem dX3_keepUnlessError_18 : decode cX3_keepUnlessError 18 = .ok (.iconst 4, 1) := by decide +kernel
theorem dX3_keepUnlessError_19 : decode cX3_keepUnlessError 19 = .ok (.if_icmp .le 7, 3) := by decide +kernel
theorem dX3_keepUnlessError_22 : decode cX3_keepUnlessError 22 = .ok (.aload_n 0, 1) := by decide +kernel
theorem dX3_keepUnlessError_23 : decode cX3_keepUnlessError 23 = .ok (.invokevirtual 26, 3) := by decide +kernel
theorem dX3_keepUnlessError_26 : decode cX3_keepUnlessError 26 = .ok (.iload_n 1, 1) := by decide +kernel
theorem dX3_keepUnlessError_27 : decode cX3_keepUnlessError 27 = .ok (.ireturn, 1) := by decide +kernel
theorem dX3_dropOldest_0 : decode cX3_dropOldest 0 = .ok (.aload_n 0, 1) := by decide +kernel
theorem dX3_dropOldest_1 : decode cX3_dropOldest 1 = .ok (.getfield 11, 3) := by decide +kernel
theorem dX3_dropOldest_4 : decode cX3_dropOldest 4 = .ok (.iconst 0, 1) := by decide +kernel
theorem dX3_dropOldest_5 : decode cX3_dropOldest 5 = .ok (.aaload, 1) := by decide +kernel
theorem dX3_dropOldest_6 : decode cX3_dropOldest 6 = .ok (.astore_n 1, 1) := by decide +kernel
theorem dX3_dropOldest_7 : decode cX3_dropOldest 7 = .ok (.iconst 0, 1) := by decide +kernel
theorem dX3_dropOldest_8 : decode cX3_dropOldest 8 = .ok (.istore_n 2, 1) := by decide +kernel
theorem dX3_dropOldest_9 : decode cX3_dropOldest 9 = .ok (.iload_n 2, 1) := by decide +kernel
theorem dX3_dropOldest_10 : decode cX3_dropOldest 10 = .ok (.iconst 4, 1) := by decide +kernel
theorem dX3_dropOldest_11 : decode cX3_dropOldest 11 = .ok (.if_icmp .ge 23, 3) := by decide +kernel
theorem dX3_dropOldest_14 : decode cX3_dropOldest 14 = .ok (.aload_n 0, 1) := by decide +kernel
theorem dX3_dropOldest_15 : decode cX3_dropOldest 15 = .ok (.getfield 11, 3) := by decide +kernel
theorem dX3_dropOldest_18 : decode cX3_dropOldest 18 = .ok (.iload_n 2, 1) := by decide +kernel
theorem dX3_dropOldest_19 : decode cX3_dropOldest 19 = .ok (.aload_n 0, 1) := by decide +kernel
theorem dX3_dropOldest_20 : decode cX3_dropOldest 20 = .ok (.getfield 11, 3) := by decide +kernel
theorem dX3_dropOldest_23 : decode cX3_dropOldest 23 = .ok (.iload_n 2, 1) := by decide +kernel
theorem dX3_dropOldest_24 : decode cX3_dropOldest 24 = .ok (.iconst 1, 1) := by decide +kernel
theorem dX3_dropOldest_25 : decode cX3_dropOldest 25 = .ok (.iadd, 1) := by decide +kernel
theorem dX3_dropOldest_26 : decode cX3_dropOldest 26 = .ok (.aaload, 1) := by decide +kernel
theorem dX3_dropOldest_27 : decode cX3_dropOldest 27 = .ok (.aastore, 1) := by decide +kernel
theorem dX3_dropOldest_28 : decode cX3_dropOldest 28 = .ok (.iinc 2 1, 3) := by decide +kernel
theorem dX3_dropOldest_31 : decode cX3_dropOldest 31 = .ok (.goto (-22), 3) := by decide +kernel
theorem dX3_dropOldest_34 : decode cX3_dropOldest 34 = .ok (.aload_n 0, 1) := by decide +kernel
theorem dX3_dropOldest_35 : decode cX3_dropOldest 35 = .ok (.getfield 11, 3) := by decide +kernel
theorem dX3_dropOldest_38 : decode cX3_dropOldest 38 = .ok (.iconst 4, 1) := by decide +kernel
theorem dX3_dropOldest_39 : decode cX3_dropOldest 39 = .ok (.aload_n 1, 1) := by decide +kernel
theorem dX3_dropOldest_40 : decode cX3_dropOldest 40 = .ok (.aastore, 1) := by decide +kernel
theorem dX3_dropOldest_41 : decode cX3_dropOldest 41 = .ok (.aload_n 0, 1) := by decide +kernel
theorem dX3_dropOldest_42 : decode cX3_dropOldest 42 = .ok (.iconst 4, 1) := by decide +kernel
theorem dX3_dropOldest_43 : decode cX3_dropOldest 43 = .ok (.putfield 18, 3) := by decide +kernel
theorem dX3_dropOldest_46 : decode cX3_dropOldest 46 = .ok (.return_, 1) := by decide +kernel
theorem dX3_restoreInto_0 : decode cX3_restoreInto 0 = .ok (.aload_n 0, 1) := by decide +kernel
theorem dX3_restoreInto_1 : decode cX3_restoreInto 1 = .ok (.getfield 18, 3) := by decide +kernel
theorem dX3_restoreInto_4 : decode cX3_restoreInto 4 = .ok (.iconst 1, 1) := by decide +kernel
theorem dX3_restoreInto_5 : decode cX3_restoreInto 5 = .ok (.if_icmp .lt 11, 3) := by decide +kernel
theorem dX3_restoreInto_8 : decode cX3_restoreInto 8 = .ok (.aload_n 0, 1) := by decide +kernel
theorem dX3_restoreInto_9 : decode cX3_restoreInto 9 = .ok (.getfield 18, 3) := by decide +kernel
theorem dX3_restoreInto_12 : decode cX3_restoreInto 12 = .ok (.iconst 4, 1) := by decide +kernel
theorem dX3_restoreInto_13 : decode cX3_restoreInto 13 = .ok (.if_icmp .le 6, 3) := by decide +kernel
theorem dX3_restoreInto_16 : decode cX3_restoreInto 16 = .ok (.ldc 29, 2) := by decide +kernel
theorem dX3_restoreInto_18 : decode cX3_restoreInto 18 = .ok (.ireturn, 1) := by decide +kernel
theorem dX3_restoreInto_19 : decode cX3_restoreInto 19 = .ok (.aload_n 0, 1) := by decide +kernel
theorem dX3_restoreInto_20 : decode cX3_restoreInto 20 = .ok (.dup, 1) := by decide +kernel
theorem dX3_restoreInto_21 : decode cX3_restoreInto 21 = .ok (.getfield 18, 3) := by decide +kernel
theorem dX3_restoreInto_24 : decode cX3_restoreInto 24 = .ok (.iconst 1, 1) := by decide +kernel
theorem dX3_restoreInto_25 : decode cX3_restoreInto 25 = .ok (.isub, 1) := by decide +kernel
theorem dX3_restoreInto_26 : decode cX3_restoreInto 26 = .ok (.putfield 18, 3) := by decide +kernel
theorem dX3_restoreInto_29 : decode cX3_restoreInto 29 = .ok (.aload_n 1, 1) := by decide +kernel
theorem dX3_restoreInto_30 : decode cX3_restoreInto 30 = .ok (.aload_n 0, 1) := by decide +kernel
theorem dX3_restoreInto_31 : decode cX3_restoreInto 31 = .ok (.getfield 11, 3) := by decide +kernel
theorem dX3_restoreInto_34 : decode cX3_restoreInto 34 = .ok (.aload_n 0, 1) := by decide +kernel
theorem dX3_restoreInto_35 : decode cX3_restoreInto 35 = .ok (.getfield 18, 3) := by decide +kernel
theorem dX3_restoreInto_38 : decode cX3_restoreInto 38 = .ok (.aaload, 1) := by decide +kernel
theorem dX3_restoreInto_39 : decode cX3_restoreInto 39 = .ok (.invokevirtual 22, 3) := by decide +kernel
theorem dX3_restoreInto_42 : decode cX3_restoreInto 42 = .ok (.aload_n 0, 1) := by decide +kernel
theorem dX3_restoreInto_43 : decode cX3_restoreInto 43 = .ok (.getfield 18, 3) := by decide +kernel
theorem dX3_restoreInto_46 : decode cX3_restoreInto 46 = .ok (.ireturn, 1) := by decide +kernel
theorem dX4_ofRank_0 : decode cX4_ofRank 0 = .ok (.iload_n 1, 1) := by decide +kernel
theorem dX4_ofRank_1 : decode cX4_ofRank 1 = .ok (.iconst 1, 1) := by decide +kernel
theorem dX4_ofRank_2 : decode cX4_ofRank 2 = .ok (.iadd, 1) := by decide +kernel
theorem dX4_ofRank_3 : decode cX4_ofRank 3 = .ok (.iconst 2, 1) := by decide +kernel
theorem dX4_ofRank_4 : decode cX4_ofRank 4 = .ok (.idiv, 1) := by decide +kernel
theorem dX4_ofRank_5 : decode cX4_ofRank 5 = .ok (.istore_n 2, 1) := by decide +kernel
theorem dX4_ofRank_6 : decode cX4_ofRank 6 = .ok (.iload_n 0, 1) := by decide +kernel
theorem dX4_ofRank_7 : decode cX4_ofRank 7 = .ok (.iconst 2, 1) := by decide +kernel
theorem dX4_ofRank_8 : decode cX4_ofRank 8 = .ok (.irem, 1) := by decide +kernel
theorem dX4_ofRank_9 : decode cX4_ofRank 9 = .ok (.iconst 1, 1) := by decide +kernel
theorem dX4_ofRank_10 : decode cX4_ofRank 10 = .ok (.if_icmp .ne 13, 3) := by decide +kernel
theorem dX4_ofRank_13 : decode cX4_ofRank 13 = .ok (.iload_n 2, 1) := by decide +kernel
theorem dX4_ofRank_14 : decode cX4_ofRank 14 = .ok (.iload_n 0, 1) := by decide +kernel
theorem dX4_ofRank_15 : decode cX4_ofRank 15 = .ok (.iconst 1, 1) := by decide +kernel
theorem dX4_ofRank_16 : decode cX4_ofRank 16 = .ok (.iadd, 1) := by decide +kernel
theorem dX4_ofRank_17 : decode cX4_ofRank 17 = .ok (.iconst 2, 1) := by decide +kernel
theorem dX4_ofRank_18 : decode cX4_ofRank 18 = .ok (.idiv, 1) := by decide +kernel
theorem dX4_ofRank_19 : decode cX4_ofRank 19 = .ok (.iadd, 1) := by decide +kernel
theorem dX4_ofRank_20 : decode cX4_ofRank 20 = .ok (.goto 8, 3) := by decide +kernel
theorem dX4_ofRank_23 : decode cX4_ofRank 23 = .ok (.iload_n 2, 1) := by decide +kernel
theorem dX4_ofRank_24 : decode cX4_ofRank 24 = .ok (.iload_n 0, 1) := by decide +kernel
theorem dX4_ofRank_25 : decode cX4_ofRank 25 = .ok (.iconst 2, 1) := by decide +kernel
theorem dX4_ofRank_26 : decode cX4_ofRank 26 = .ok (.idiv, 1) := by decide +kernel
theorem dX4_ofRank_27 : decode cX4_ofRank 27 = .ok (.isub, 1) := by decide +kernel
theorem dX4_ofRank_28 : decode cX4_ofRank 28 = .ok (.ireturn, 1) := by decide +kernel
theorem dX4_rankOf_0 : decode cX4_rankOf 0 = .ok (.iload_n 1, 1) := by decide +kernel
theorem dX4_rankOf_1 : decode cX4_rankOf 1 = .ok (.iconst 1, 1) := by decide +kernel
theorem dX4_rankOf_2 : decode cX4_rankOf 2 = .ok (.iadd, 1) := by decide +kernel
theorem dX4_rankOf_3 : decode cX4_rankOf 3 = .ok (.iconst 2, 1) := by decide +kernel
theorem dX4_rankOf_4 : decode cX4_rankOf 4 = .ok (.idiv, 1) := by decide +kernel
theorem dX4_rankOf_5 : decode cX4_rankOf 5 = .ok (.istore_n 2, 1) := by decide +kernel
theorem dX4_rankOf_6 : decode cX4_rankOf 6 = .ok (.iload_n 0, 1) := by decide +kernel
theorem dX4_rankOf_7 : decode cX4_rankOf 7 = .ok (.iload_n 2, 1) := by decide +kernel
theorem dX4_rankOf_8 : decode cX4_rankOf 8 = .ok (.if_icmp .le 13, 3) := by decide +kernel
theorem dX4_rankOf_11 : decode cX4_rankOf 11 = .ok (.iconst 2, 1) := by decide +kernel
theorem dX4_rankOf_12 : decode cX4_rankOf 12 = .ok (.iload_n 0, 1) := by decide +kernel
theorem dX4_rankOf_13 : decode cX4_rankOf 13 = .ok (.iload_n 2, 1) := by decide +kernel
theorem dX4_rankOf_14 : decode cX4_rankOf 14 = .ok (.isub, 1) := by decide +kernel
theorem dX4_rankOf_15 : decode cX4_rankOf 15 = .ok (.imul, 1) := by decide +kernel
theorem dX4_rankOf_16 : decode cX4_rankOf 16 = .ok (.iconst 1, 1) := by decide +kernel
theorem dX4_rankOf_17 : decode cX4_rankOf 17 = .ok (.isub, 1) := by decide +kernel
theorem dX4_rankOf_18 : decode cX4_rankOf 18 = .ok (.goto 8, 3) := by decide +kernel
theorem dX4_rankOf_21 : decode cX4_rankOf 21 = .ok (.iconst 2, 1) := by decide +kernel
theorem dX4_rankOf_22 : decode cX4_rankOf 22 = .ok (.iload_n 2, 1) := by decide +kernel
theorem dX4_rankOf_23 : decode cX4_rankOf 23 = .ok (.iload_n 0, 1) := by decide +kernel
theorem dX4_rankOf_24 : decode cX4_rankOf 24 = .ok (.isub, 1) := by decide +kernel
theorem dX4_rankOf_25 : decode cX4_rankOf 25 = .ok (.imul, 1) := by decide +kernel
theorem dX4_rankOf_26 : decode cX4_rankOf 26 = .ok (.ireturn, 1) := by decide +kernel
theorem dX5_init_0 : decode cX5_init 0 = .ok (.aload_n 0, 1) := by decide +kernel
theorem dX5_init_1 : decode cX5_init 1 = .ok (.invokespecial 3, 3) := by decide +kernel
theorem dX5_init_4 : decode cX5_init 4 = .ok (.aload_n 0, 1) := by decide +kernel
theorem dX5_init_5 : decode cX5_init 5 = .ok (.iconst 3, 1) := by decide +kernel
theorem dX5_init_6 : decode cX5_init 6 = .ok (.newarray .int, 2) := by decide +kernel
theorem dX5_init_8 : decode cX5_init 8 = .ok (.putfield 9, 3) := by decide +kernel
theorem dX5_init_11 : decode cX5_init 11 = .ok (.aload_n 0, 1) := by decide +kernel
theorem dX5_init_12 : decode cX5_init 12 = .ok (.bipush 30, 2) := by decide +kernel
theorem dX5_init_14 : decode cX5_init 14 = .ok (.anewarray 15, 3) := by decide +kernel
theorem dX5_init_17 : decode cX5_init 17 = .ok (.putfield 17, 3) := by decide +kernel
theorem dX5_init_20 : decode cX5_init 20 = .ok (.aload_n 0, 1) := by decide +kernel
theorem dX5_init_21 : decode cX5_init 21 = .ok (.iconst 4, 1) := by decide +kernel
theorem dX5_init_22 : decode cX5_init 22 = .ok (.newarray .int, 2) := by decide +kernel
theorem dX5_init_24 : decode cX5_init 24 = .ok (.putfield 21, 3) := by decide +kernel
theorem dX5_init_27 : decode cX5_init 27 = .ok (.iconst 0, 1) := by decide +kernel
theorem dX5_init_28 : decode cX5_init 28 = .ok (.istore_n 1, 1) := by decide +kernel
theorem dX5_init_29 : decode cX5_init 29 = .ok (.iload_n 1, 1) := by decide +kernel
theorem dX5_init_30 : decode cX5_init 30 = .ok (.iconst 3, 1) := by decide +kernel
theorem dX5_init_31 : decode cX5_init 31 = .ok (.if_icmp .ge 20, 3) := by decide +kernel
theorem dX5_init_34 : decode cX5_init 34 = .ok (.aload_n 0, 1) := by decide +kernel
theorem dX5_init_35 : decode cX5_init 35 = .ok (.getfield 9, 3) := by decide +kernel
theorem dX5_init_38 : decode cX5_init 38 = .ok (.iload_n 1, 1) := by decide +kernel
theorem dX5_init_39 : decode cX5_init 39 = .ok (.getstatic 24, 3) := by decide +kernel
theorem dX5_init_42 : decode cX5_init 42 = .ok (.iload_n 1, 1) := by decide +kernel
theorem dX5_init_43 : decode cX5_init 43 = .ok (.iaload, 1) := by decide +kernel
theorem dX5_init_44 : decode cX5_init 44 = .ok (.iastore, 1) := by decide +kernel
theorem dX5_init_45 : decode cX5_init 45 = .ok (.iinc 1 1, 3) := by decide +kernel
theorem dX5_init_48 : decode cX5_init 48 = .ok (.goto (-19), 3) := by decide +kernel
theorem dX5_init_51 : decode cX5_init 51 = .ok (.iconst 0, 1) := by decide +kernel
theorem dX5_init_52 : decode cX5_init 52 = .ok (.istore_n 1, 1) := by decide +kernel
theorem dX5_init_53 : decode cX5_init 53 = .ok (.iload_n 1, 1) := by decide +kernel
theorem dX5_init_54 : decode cX5_init 54 = .ok (.bipush 30, 2) := by decide +kernel
theorem dX5_init_56 : decode cX5_init 56 = .ok (.if_icmp .ge 23, 3) := by decide +kernel
theorem dX5_init_59 : decode cX5_init 59 = .ok (.aload_n 0, 1) := by decide +kernel
theorem dX5_init_60 : decode cX5_init 60 = .ok (.getfield 17, 3) := by decide +kernel
theorem dX5_init_63 : decode cX5_init 63 = .ok (.iload_n 1, 1) := by decide +kernel
theorem dX5_init_64 : decode cX5_init 64 = .ok (.new 15, 3) := by decide +kernel
theorem dX5_init_67 : decode cX5_init 67 = .ok (.dup, 1) := by decide +kernel
theorem dX5_init_68 : decode cX5_init 68 = .ok (.iload_n 1, 1) := by decide +kernel
theorem dX5_init_69 : decode cX5_init 69 = .ok (.invokespecial 29, 3) := by decide +kernel
theorem dX5_init_72 : decode cX5_init 72 = .ok (.aastore, 1) := by decide +kernel
theorem dX5_init_73 : decode cX5_init 73 = .ok (.iinc 1 1, 3) := by decide +kernel
theorem dX5_init_76 : decode cX5_init 76 = .ok (.goto (-23), 3) := by decide +kernel
theorem dX5_init_79 : decode cX5_init 79 = .ok (.return_, 1) := by decide +kernel
theorem dX5_copyFrom_0 : decode cX5_copyFrom 0 = .ok (.aload_n 0, 1) := by decide +kernel
theorem dX5_copyFrom_1 : decode cX5_copyFrom 1 = .ok (.aload_n 1, 1) := by decide +kernel
theorem dX5_copyFrom_2 : decode cX5_copyFrom 2 = .ok (.getfield 32, 3) := by decide +kernel
theorem dX5_copyFrom_5 : decode cX5_copyFrom 5 = .ok (.putfield 32, 3) := by decide +kernel
theorem dX5_copyFrom_8 : decode cX5_copyFrom 8 = .ok (.aload_n 0, 1) := by decide +kernel
theorem dX5_copyFrom_9 : decode cX5_copyFrom 9 = .ok (.aload_n 1, 1) := by decide +kernel
theorem dX5_copyFrom_10 : decode cX5_copyFrom 10 = .ok (.getfield 36, 3) := by decide +kernel
theorem dX5_copyFrom_13 : decode cX5_copyFrom 13 = .ok (.putfield 36, 3) := by decide +kernel
theorem dX5_copyFrom_16 : decode cX5_copyFrom 16 = .ok (.aload_n 0, 1) := by decide +kernel
theorem dX5_copyFrom_17 : decode cX5_copyFrom 17 = .ok (.aload_n 1, 1) := by decide +kernel
theorem dX5_copyFrom_18 : decode cX5_copyFrom 18 = .ok (.getfield 39, 3) := by decide +kernel
theorem dX5_copyFrom_21 : decode cX5_copyFrom 21 = .ok (.putfield 39, 3) := by decide +kernel
theorem dX5_copyFrom_24 : decode cX5_copyFrom 24 = .ok (.aload_n 0, 1) := by decide +kernel
theorem dX5_copyFrom_25 : decode cX5_copyFrom 25 = .ok (.aload_n 1, 1) := by decide +kernel
theorem dX5_copyFrom_26 : decode cX5_copyFrom 26 = .ok (.getfield 42, 3) := by decide +kernel
theorem dX5_copyFrom_29 : decode cX5_copyFrom 29 = .ok (.putfield 42, 3) := by decide +kernel
theorem dX5_copyFrom_32 : decode cX5_copyFrom 32 = .ok (.aload_n 0, 1) := by decide +kernel
theorem dX5_copyFrom_33 : decode cX5_copyFrom 33 = .ok (.aload_n 1, 1) := by decide +kernel
theorem dX5_copyFrom_34 : decode cX5_copyFrom 34 = .ok (.getfield 45, 3) := by decide +kernel
theorem dX5_copyFrom_37 : decode cX5_copyFrom 37 = .ok (.putfield 45, 3) := by decide +kernel
theorem dX5_copyFrom_40 : decode cX5_copyFrom 40 = .ok (.aload_n 0, 1) := by decide +kernel
theorem dX5_copyFrom_41 : decode cX5_copyFrom 41 = .ok (.aload_n 1, 1) := by decide +kernel
theorem dX5_copyFrom_42 : decode cX5_copyFrom 42 = .ok (.getfield 48, 3) := by decide +kernel
theorem dX5_copyFrom_45 : decode cX5_copyFrom 45 = .ok (.putfield 48, 3) := by decide +kernel
theorem dX5_copyFrom_48 : decode cX5_copyFrom 48 = .ok (.aload_n 0, 1) := by decide +kernel
theorem dX5_copyFrom_49 : decode cX5_copyFrom 49 = .ok (.aload_n 1, 1) := by decide +kernel
theorem dX5_copyFrom_50 : decode cX5_copyFrom 50 = .ok (.getfield 51, 3) := by decide +kernel
theorem dX5_copyFrom_53 : decode cX5_copyFrom 53 = .ok (.putfield 51, 3) := by decide +kernel
theorem dX5_copyFrom_56 : decode cX5_copyFrom 56 = .ok (.aload_n 0, 1) := by decide +kernel
theorem dX5_copyFrom_57 : decode cX5_copyFrom 57 = .ok (.aload_n 1, 1) := by decide +kernel
theorem dX5_copyFrom_58 : decode cX5_copyFrom 58 = .ok (.getfield 54, 3) := by decide +kernel
theorem dX5_copyFrom_61 : decode cX5_copyFrom 61 = .ok (.putfield 54, 3) := by decide +kernel
theorem dX5_copyFrom_64 : decode cX5_copyFrom 64 = .ok (.iconst 0, 1) := by decide +kernel
theorem dX5_copyFrom_65 : decode cX5_copyFrom 65 = .ok (.istore_n 2, 1) := by decide +kernel
theorem dX5_copyFrom_66 : decode cX5_copyFrom 66 = .ok (.iload_n 2, 1) := by decide +kernel
theorem dX5_copyFrom_67 : decode cX5_copyFrom 67 = .ok (.iconst 3, 1) := by decide +kernel
theorem dX5_copyFrom_68 : decode cX5_copyFrom 68 = .ok (.if_icmp .ge 21, 3) := by decide +kernel
theorem dX5_copyFrom_71 : decode cX5_copyFrom 71 = .ok (.aload_n 0, 1) := by decide +kernel
theorem dX5_copyFrom_72 : decode cX5_copyFrom 72 = .ok (.getfield 9, 3) := by decide +kernel
theorem dX5_copyFrom_75 : decode cX5_copyFrom 75 = .ok (.iload_n 2, 1) := by decide +kernel
theorem dX5_copyFrom_76 : decode cX5_copyFrom 76 = .ok (.aload_n 1, 1) := by decide +kernel
theorem dX5_copyFrom_77 : decode cX5_copyFrom 77 = .ok (.getfield 9, 3) := by decide +kernel
theorem dX5_copyFrom_80 : decode cX5_copyFrom 80 = .ok (.iload_n 2, 1) := by decide +kernel
theorem dX5_copyFrom_81 : decode cX5_copyFrom 81 = .ok (.iaload, 1) := by decide +kernel
theorem dX5_copyFrom_82 : decode cX5_copyFrom 82 = .ok (.iastore, 1) := by decide +kernel
theorem dX5_copyFrom_83 : decode cX5_copyFrom 83 = .ok (.iinc 2 1, 3) := by decide +kernel
theorem dX5_copyFrom_86 : decode cX5_copyFrom 86 = .ok (.goto (-20), 3) := by decide +kernel
theorem dX5_copyFrom_89 : decode cX5_copyFrom 89 = .ok (.iconst 0, 1) := by decide +kernel
theorem dX5_copyFrom_90 : decode cX5_copyFrom 90 = .ok (.istore_n 2, 1) := by decide +kernel
theorem dX5_copyFrom_91 : decode cX5_copyFrom 91 = .ok (.iload_n 2, 1) := by decide +kernel
theorem dX5_copyFrom_92 : decode cX5_copyFrom 92 = .ok (.iconst 4, 1) := by decide +kernel
theorem dX5_copyFrom_93 : decode cX5_copyFrom 93 = .ok (.if_icmp .ge 21, 3) := by decide +kernel
theorem dX5_copyFrom_96 : decode cX5_copyFrom 96 = .ok (.aload_n 0, 1) := by decide +kernel
theorem dX5_copyFrom_97 : decode cX5_copyFrom 97 = .ok (.getfield 21, 3) := by decide +kernel
theorem dX5_copyFrom_100 : decode cX5_copyFrom 100 = .ok (.iload_n 2, 1) := by decide +kernel
theorem dX5_copyFrom_101 : decode cX5_copyFrom 101 = .ok (.aload_n 1, 1) := by decide +kernel
theorem dX5_copyFrom_102 : decode cX5_copyFrom 102 = .ok (.getfield 21, 3) := by decide +kernel
theorem dX5_copyFrom_105 : decode cX5_copyFrom 105 = .ok (.iload_n 2, 1) := by decide +kernel
theorem dX5_copyFrom_106 : decode cX5_copyFrom 106 = .ok (.iaload, 1) := by decide +kernel
theorem dX5_copyFrom_107 : decode cX5_copyFrom 107 = .ok (.iastore, 1) := by decide +kernel
theorem dX5_copyFrom_108 : decode cX5_copyFrom 108 = .ok (.iinc 2 1, 3) := by decide +kernel
theorem dX5_copyFrom_111 : decode cX5_copyFrom 111 = .ok (.goto (-20), 3) := by decide +kernel
theorem dX5_copyFrom_114 : decode cX5_copyFrom 114 = .ok (.iconst 0, 1) := by decide +kernel
theorem dX5_copyFrom_115 : decode cX5_copyFrom 115 = .ok (.istore_n 2, 1) := by decide +kernel
theorem dX5_copyFrom_116 : decode cX5_copyFrom 116 = .ok (.iload_n 2, 1) := by decide +kernel
theorem dX5_copyFrom_117 : decode cX5_copyFrom 117 = .ok (.aload_n 0, 1) := by decide +kernel
theorem dX5_copyFrom_118 : decode cX5_copyFrom 118 = .ok (.getfield 32, 3) := by decide +kernel
theorem dX5_copyFrom_121 : decode cX5_copyFrom 121 = .ok (.if_icmp .ge 24, 3) := by decide +kernel
theorem dX5_copyFrom_124 : decode cX5_copyFrom 124 = .ok (.aload_n 0, 1) := by decide +kernel
theorem dX5_copyFrom_125 : decode cX5_copyFrom 125 = .ok (.getfield 17, 3) := by decide +kernel
theorem dX5_copyFrom_128 : decode cX5_copyFrom 128 = .ok (.iload_n 2, 1) := by decide +kernel
theorem dX5_copyFrom_129 : decode cX5_copyFrom 129 = .ok (.aaload, 1) := by decide +kernel
theorem dX5_copyFrom_130 : decode cX5_copyFrom 130 = .ok (.aload_n 1, 1) := by decide +kernel
theorem dX5_copyFrom_131 : decode cX5_copyFrom 131 = .ok (.getfield 17, 3) := by decide +kernel
theorem dX5_copyFrom_134 : decode cX5_copyFrom 134 = .ok (.iload_n 2, 1) := by decide +kernel
theorem dX5_copyFrom_135 : decode cX5_copyFrom 135 = .ok (.aaload, 1) := by decide +kernel
theorem dX5_copyFrom_136 : decode cX5_copyFrom 136 = .ok (.invokevirtual 57, 3) := by decide +kernel
theorem dX5_copyFrom_139 : decode cX5_copyFrom 139 = .ok (.iinc 2 1, 3) := by decide +kernel
theorem dX5_copyFrom_142 : decode cX5_copyFrom 142 = .ok (.goto (-26), 3) := by decide +kernel
theorem dX5_copyFrom_145 : decode cX5_copyFrom 145 = .ok (.return_, 1) := by decide +kernel
theorem dX5_lanes_0 : decode cX5_lanes 0 = .ok (.aload_n 0, 1) := by decide +kernel
theorem dX5_lanes_1 : decode cX5_lanes 1 = .ok (.getfield 9, 3) := by decide +kernel
theorem dX5_lanes_4 : decode cX5_lanes 4 = .ok (.iconst 0, 1) := by decide +kernel
theorem dX5_lanes_5 : decode cX5_lanes 5 = .ok (.iaload, 1) := by decide +kernel
theorem dX5_lanes_6 : decode cX5_lanes 6 = .ok (.ireturn, 1) := by decide +kernel
theorem dX5_has_0 : decode cX5_has 0 = .ok (.iload_n 1, 1) := by decide +kernel
theorem dX5_has_1 : decode cX5_has 1 = .ok (.ifCond .lt 15, 3) := by decide +kernel
theorem dX5_has_4 : decode cX5_has 4 = .ok (.iload_n 1, 1) := by decide +kernel
theorem dX5_has_5 : decode cX5_has 5 = .ok (.aload_n 0, 1) := by decide +kernel
theorem dX5_has_6 : decode cX5_has 6 = .ok (.getfield 32, 3) := by decide +kernel
theorem dX5_has_9 : decode cX5_has 9 = .ok (.if_icmp .ge 7, 3) := by decide +kernel
theorem dX5_has_12 : decode cX5_has 12 = .ok (.iconst 1, 1) := by decide +kernel
theorem dX5_has_13 : decode cX5_has 13 = .ok (.goto 4, 3) := by decide +kernel
theorem dX5_has_16 : decode cX5_has 16 = .ok (.iconst 0, 1) := by decide +kernel
theorem dX5_has_17 : decode cX5_has 17 = .ok (.ireturn, 1) := by decide +kernel
theorem dX5_hasHeat_0 : decode cX5_hasHeat 0 = .ok (.iload_n 1, 1) := by decide +kernel
theorem dX5_hasHeat_1 : decode cX5_hasHeat 1 = .ok (.iconst (-1), 1) := by decide +kernel
theorem dX5_hasHeat_2 : decode cX5_hasHeat 2 = .ok (.if_icmp .ne 19, 3) := by decide +kernel
theorem dX5_hasHeat_5 : decode cX5_hasHeat 5 = .ok (.aload_n 0, 1) := by decide +kernel
theorem dX5_hasHeat_6 : decode cX5_hasHeat 6 = .ok (.getfield 36, 3) := by decide +kernel
theorem dX5_hasHeat_9 : decode cX5_hasHeat 9 = .ok (.iconst 2, 1) := by decide +kernel
theorem dX5_hasHeat_10 : decode cX5_hasHeat 10 = .ok (.if_icmp .lt 7, 3) := by decide +kernel
theorem dX5_hasHeat_13 : decode cX5_hasHeat 13 = .ok (.iconst 1, 1) := by decide +kernel
theorem dX5_hasHeat_14 : decode cX5_hasHeat 14 = .ok (.goto 24, 3) := by decide +kernel
theorem dX5_hasHeat_17 : decode cX5_hasHeat 17 = .ok (.iconst 0, 1) := by decide +kernel
theorem dX5_hasHeat_18 : decode cX5_hasHeat 18 = .ok (.goto 20, 3) := by decide +kernel
theorem dX5_hasHeat_21 : decode cX5_hasHeat 21 = .ok (.iload_n 1, 1) := by decide +kernel
theorem dX5_hasHeat_22 : decode cX5_hasHeat 22 = .ok (.ifCond .lt 15, 3) := by decide +kernel
theorem dX5_hasHeat_25 : decode cX5_hasHeat 25 = .ok (.iload_n 1, 1) := by decide +kernel
theorem dX5_hasHeat_26 : decode cX5_hasHeat 26 = .ok (.aload_n 0, 1) := by decide +kernel
theorem dX5_hasHeat_27 : decode cX5_hasHeat 27 = .ok (.getfield 39, 3) := by decide +kernel
theorem dX5_hasHeat_30 : decode cX5_hasHeat 30 = .ok (.if_icmp .ge 7, 3) := by decide +kernel
theorem dX5_hasHeat_33 : decode cX5_hasHeat 33 = .ok (.iconst 1, 1) := by decide +kernel
theorem dX5_hasHeat_34 : decode cX5_hasHeat 34 = .ok (.goto 4, 3) := by decide +kernel
theorem dX5_hasHeat_37 : decode cX5_hasHeat 37 = .ok (.iconst 0, 1) := by decide +kernel
theorem dX5_hasHeat_38 : decode cX5_hasHeat 38 = .ok (.ireturn, 1) := by decide +kernel
theorem dX5_notScratched_0 : decode cX5_notScratched 0 = .ok (.iconst 0, 1) := by decide +kernel
theorem dX5_notScratched_1 : decode cX5_notScratched 1 = .ok (.istore_n 1, 1) := by decide +kernel
theorem dX5_notScratched_2 : decode cX5_notScratched 2 = .ok (.iconst 0, 1) := by decide +kernel
theorem dX5_notScratched_3 : decode cX5_notScratched 3 = .ok (.istore_n 2, 1) := by decide +kernel
theorem dX5_notScratched_4 : decode cX5_notScratched 4 = .ok (.iload_n 2, 1) := by decide +kernel
theorem dX5_notScratched_5 : decode cX5_notScratched 5 = .ok (.aload_n 0, 1) := by decide +kernel
theorem dX5_notScratched_6 : decode cX5_notScratched 6 = .ok (.getfield 32, 3) := by decide +kernel
theorem dX5_notScratched_9 : decode cX5_notScratched 9 = .ok (.if_icmp .ge 24, 3) := by decide +kernel
theorem dX5_notScratched_12 : decode cX5_notScratched 12 = .ok (.aload_n 0, 1) := by decide +kernel
theorem dX5_notScratched_13 : decode cX5_notScratched 13 = .ok (.getfield 17, 3) := by decide +kernel
theorem dX5_notScratched_16 : decode cX5_notScratched 16 = .ok (.iload_n 2, 1) := by decide +kernel
theorem dX5_notScratched_17 : decode cX5_notScratched 17 = .ok (.aaload, 1) := by decide +kernel
theorem dX5_notScratched_18 : decode cX5_notScratched 18 = .ok (.getfield 61, 3) := by decide +kernel
theorem dX5_notScratched_21 : decode cX5_notScratched 21 = .ok (.ifCond .ne 6, 3) := by decide +kernel
theorem dX5_notScratched_24 : decode cX5_notScratched 24 = .ok (.iinc 1 1, 3) := by decide +kernel
theorem dX5_notScratched_27 : decode cX5_notScratched 27 = .ok (.iinc 2 1, 3) := by decide +kernel
theorem dX5_notScratched_30 : decode cX5_notScratched 30 = .ok (.goto (-26), 3) := by decide +kernel
theorem dX5_notScratched_33 : decode cX5_notScratched 33 = .ok (.iload_n 1, 1) := by decide +kernel
theorem dX5_notScratched_34 : decode cX5_notScratched 34 = .ok (.ireturn, 1) := by decide +kernel
theorem dX5_rankByEntry_0 : decode cX5_rankByEntry 0 = .ok (.iconst 0, 1) := by decide +kernel
theorem dX5_rankByEntry_1 : decode cX5_rankByEntry 1 = .ok (.istore_n 2, 1) := by decide +kernel
theorem dX5_rankByEntry_2 : decode cX5_rankByEntry 2 = .ok (.iconst 0, 1) := by decide +kernel
theorem dX5_rankByEntry_3 : decode cX5_rankByEntry 3 = .ok (.istore_n 3, 1) := by decide +kernel
theorem dX5_rankByEntry_4 : decode cX5_rankByEntry 4 = .ok (.iload_n 3, 1) := by decide +kernel
theorem dX5_rankByEntry_5 : decode cX5_rankByEntry 5 = .ok (.aload_n 0, 1) := by decide +kernel
theorem dX5_rankByEntry_6 : decode cX5_rankByEntry 6 = .ok (.getfield 32, 3) := by decide +kernel
theorem dX5_rankByEntry_9 : decode cX5_rankByEntry 9 = .ok (.if_icmp .ge 37, 3) := by decide +kernel
theorem dX5_rankByEntry_12 : decode cX5_rankByEntry 12 = .ok (.aload_n 0, 1) := by decide +kernel
theorem dX5_rankByEntry_13 : decode cX5_rankByEntry 13 = .ok (.getfield 17, 3) := by decide +kernel
theorem dX5_rankByEntry_16 : decode cX5_rankByEntry 16 = .ok (.iload_n 3, 1) := by decide +kernel
theorem dX5_rankByEntry_17 : decode cX5_rankByEntry 17 = .ok (.aaload, 1) := by decide +kernel
theorem dX5_rankByEntry_18 : decode cX5_rankByEntry 18 = .ok (.getfield 61, 3) := by decide +kernel
theorem dX5_rankByEntry_21 : decode cX5_rankByEntry 21 = .ok (.ifCond .ne 19, 3) := by decide +kernel
theorem dX5_rankByEntry_24 : decode cX5_rankByEntry 24 = .ok (.aload_n 0, 1) := by decide +kernel
theorem dX5_rankByEntry_25 : decode cX5_rankByEntry 25 = .ok (.getfield 17, 3) := by decide +kernel
theorem dX5_rankByEntry_28 : decode cX5_rankByEntry 28 = .ok (.iload_n 3, 1) := by decide +kernel
theorem dX5_rankByEntry_29 : decode cX5_rankByEntry 29 = .ok (.aaload, 1) := by decide +kernel
theorem dX5_rankByEntry_30 : decode cX5_rankByEntry 30 = .ok (.aload_n 1, 1) := by decide +kernel
theorem dX5_rankByEntry_31 : decode cX5_rankByEntry 31 = .ok (.invokevirtual 65, 3) := by decide +kernel
theorem dX5_rankByEntry_34 : decode cX5_rankByEntry 34 = .ok (.ifCond .eq 6, 3) := by decide +kernel
theorem dX5_rankByEntry_37 : decode cX5_rankByEntry 37 = .ok (.iinc 2 1, 3) := by decide +kernel
theorem dX5_rankByEntry_40 : decode cX5_rankByEntry 40 = .ok (.iinc 3 1, 3) := by decide +kernel
theorem dX5_rankByEntry_43 : decode cX5_rankByEntry 43 = .ok (.goto (-39), 3) := by decide +kernel
theorem dX5_rankByEntry_46 : decode cX5_rankByEntry 46 = .ok (.iload_n 2, 1) := by decide +kernel
theorem dX5_rankByEntry_47 : decode cX5_rankByEntry 47 = .ok (.ireturn, 1) := by decide +kernel
theorem dX5_rankByHeatTime_0 : decode cX5_rankByHeatTime 0 = .ok (.iconst 0, 1) := by decide +kernel
theorem dX5_rankByHeatTime_1 : decode cX5_rankByHeatTime 1 = .ok (.istore_n 2, 1) := by decide +kernel
theorem dX5_rankByHeatTime_2 : decode cX5_rankByHeatTime 2 = .ok (.iconst 0, 1) := by decide +kernel
theorem dX5_rankByHeatTime_3 : decode cX5_rankByHeatTime 3 = .ok (.istore_n 3, 1) := by decide +kernel
theorem dX5_rankByHeatTime_4 : decode cX5_rankByHeatTime 4 = .ok (.iload_n 3, 1) := by decide +kernel
theorem dX5_rankByHeatTime_5 : decode cX5_rankByHeatTime 5 = .ok (.aload_n 0, 1) := by decide +kernel
theorem dX5_rankByHeatTime_6 : decode cX5_rankByHeatTime 6 = .ok (.getfield 32, 3) := by decide +kernel
theorem dX5_rankByHeatTime_9 : decode cX5_rankByHeatTime 9 = .ok (.if_icmp .ge 37, 3) := by decide +kernel
theorem dX5_rankByHeatTime_12 : decode cX5_rankByHeatTime 12 = .ok (.aload_n 0, 1) := by decide +kernel
theorem dX5_rankByHeatTime_13 : decode cX5_rankByHeatTime 13 = .ok (.getfield 17, 3) := by decide +kernel
theorem dX5_rankByHeatTime_16 : decode cX5_rankByHeatTime 16 = .ok (.iload_n 3, 1) := by decide +kernel
theorem dX5_rankByHeatTime_17 : decode cX5_rankByHeatTime 17 = .ok (.aaload, 1) := by decide +kernel
theorem dX5_rankByHeatTime_18 : decode cX5_rankByHeatTime 18 = .ok (.getfield 69, 3) := by decide +kernel
theorem dX5_rankByHeatTime_21 : decode cX5_rankByHeatTime 21 = .ok (.ifCond .le 19, 3) := by decide +kernel
theorem dX5_rankByHeatTime_24 : decode cX5_rankByHeatTime 24 = .ok (.aload_n 0, 1) := by decide +kernel
theorem dX5_rankByHeatTime_25 : decode cX5_rankByHeatTime 25 = .ok (.getfield 17, 3) := by decide +kernel
theorem dX5_rankByHeatTime_28 : decode cX5_rankByHeatTime 28 = .ok (.iload_n 3, 1) := by decide +kernel
theorem dX5_rankByHeatTime_29 : decode cX5_rankByHeatTime 29 = .ok (.aaload, 1) := by decide +kernel
theorem dX5_rankByHeatTime_30 : decode cX5_rankByHeatTime 30 = .ok (.aload_n 1, 1) := by decide +kernel
theorem dX5_rankByHeatTime_31 : decode cX5_rankByHeatTime 31 = .ok (.invokevirtual 72, 3) := by decide +kernel
theorem dX5_rankByHeatTime_34 : decode cX5_rankByHeatTime 34 = .ok (.ifCond .eq 6, 3) := by decide +kernel
theorem dX5_rankByHeatTime_37 : decode cX5_rankByHeatTime 37 = .ok (.iinc 2 1, 3) := by decide +kernel
theorem dX5_rankByHeatTime_40 : decode cX5_rankByHeatTime 40 = .ok (.iinc 3 1, 3) := by decide +kernel
theorem dX5_rankByHeatTime_43 : decode cX5_rankByHeatTime 43 = .ok (.goto (-39), 3) := by decide +kernel
theorem dX5_rankByHeatTime_46 : decode cX5_rankByHeatTime 46 = .ok (.iload_n 2, 1) := by decide +kernel
theorem dX5_rankByHeatTime_47 : decode cX5_rankByHeatTime 47 = .ok (.ireturn, 1) := by decide +kernel
theorem dX5_swimsNow_0 : decode cX5_swimsNow 0 = .ok (.aload_n 0, 1) := by decide +kernel
theorem dX5_swimsNow_1 : decode cX5_swimsNow 1 = .ok (.getfield 36, 3) := by decide +kernel
theorem dX5_swimsNow_4 : decode cX5_swimsNow 4 = .ok (.iconst 1, 1) := by decide +kernel
theorem dX5_swimsNow_5 : decode cX5_swimsNow 5 = .ok (.if_icmp .ne 17, 3) := by decide +kernel
theorem dX5_swimsNow_8 : decode cX5_swimsNow 8 = .ok (.aload_n 1, 1) := by decide +kernel
theorem dX5_swimsNow_9 : decode cX5_swimsNow 9 = .ok (.getfield 75, 3) := by decide +kernel
theorem dX5_swimsNow_12 : decode cX5_swimsNow 12 = .ok (.iconst (-1), 1) := by decide +kernel
theorem dX5_swimsNow_13 : decode cX5_swimsNow 13 = .ok (.if_icmp .eq 7, 3) := by decide +kernel
theorem dX5_swimsNow_16 : decode cX5_swimsNow 16 = .ok (.iconst 1, 1) := by decide +kernel
theorem dX5_swimsNow_17 : decode cX5_swimsNow 17 = .ok (.goto 4, 3) := by decide +kernel
theorem dX5_swimsNow_20 : decode cX5_swimsNow 20 = .ok (.iconst 0, 1) := by decide +kernel
theorem dX5_swimsNow_21 : decode cX5_swimsNow 21 = .ok (.ireturn, 1) := by decide +kernel
theorem dX5_swimsNow_22 : decode cX5_swimsNow 22 = .ok (.aload_n 0, 1) := by decide +kernel
theorem dX5_swimsNow_23 : decode cX5_swimsNow 23 = .ok (.getfield 36, 3) := by decide +kernel
theorem dX5_swimsNow_26 : decode cX5_swimsNow 26 = .ok (.iconst 2, 1) := by decide +kernel
theorem dX5_swimsNow_27 : decode cX5_swimsNow 27 = .ok (.if_icmp .ne 14, 3) := by decide +kernel
theorem dX5_swimsNow_30 : decode cX5_swimsNow 30 = .ok (.aload_n 1, 1) := by decide +kernel
theorem dX5_swimsNow_31 : decode cX5_swimsNow 31 = .ok (.getfield 78, 3) := by decide +kernel
theorem dX5_swimsNow_34 : decode cX5_swimsNow 34 = .ok (.ifCond .eq 7, 3) := by decide +kernel
theorem dX5_swimsNow_37 : decode cX5_swimsNow 37 = .ok (.iconst 1, 1) := by decide +kernel
theorem dX5_swimsNow_38 : decode cX5_swimsNow 38 = .ok (.goto 4, 3) := by decide +kernel
theorem dX5_swimsNow_41 : decode cX5_swimsNow 41 = .ok (.iconst 0, 1) := by decide +kernel
theorem dX5_swimsNow_42 : decode cX5_swimsNow 42 = .ok (.ireturn, 1) := by decide +kernel
theorem dX5_stageTime_0 : decode cX5_stageTime 0 = .ok (.aload_n 0, 1) := by decide +kernel
theorem dX5_stageTime_1 : decode cX5_stageTime 1 = .ok (.getfield 36, 3) := by decide +kernel
theorem dX5_stageTime_4 : decode cX5_stageTime 4 = .ok (.iconst 1, 1) := by decide +kernel
theorem dX5_stageTime_5 : decode cX5_stageTime 5 = .ok (.if_icmp .ne 10, 3) := by decide +kernel
theorem dX5_stageTime_8 : decode cX5_stageTime 8 = .ok (.aload_n 1, 1) := by decide +kernel
theorem dX5_stageTime_9 : decode cX5_stageTime 9 = .ok (.getfield 69, 3) := by decide +kernel
theorem dX5_stageTime_12 : decode cX5_stageTime 12 = .ok (.goto 7, 3) := by decide +kernel
theorem dX5_stageTime_15 : decode cX5_stageTime 15 = .ok (.aload_n 1, 1) := by decide +kernel
theorem dX5_stageTime_16 : decode cX5_stageTime 16 = .ok (.getfield 81, 3) := by decide +kernel
theorem dX5_stageTime_19 : decode cX5_stageTime 19 = .ok (.ireturn, 1) := by decide +kernel
theorem dX5_fasterThan_0 : decode cX5_fasterThan 0 = .ok (.iconst 0, 1) := by decide +kernel
theorem dX5_fasterThan_1 : decode cX5_fasterThan 1 = .ok (.istore_n 2, 1) := by decide +kernel
theorem dX5_fasterThan_2 : decode cX5_fasterThan 2 = .ok (.iconst 0, 1) := by decide +kernel
theorem dX5_fasterThan_3 : decode cX5_fasterThan 3 = .ok (.istore_n 3, 1) := by decide +kernel
theorem dX5_fasterThan_4 : decode cX5_fasterThan 4 = .ok (.iload_n 3, 1) := by decide +kernel
theorem dX5_fasterThan_5 : decode cX5_fasterThan 5 = .ok (.aload_n 0, 1) := by decide +kernel
theorem dX5_fasterThan_6 : decode cX5_fasterThan 6 = .ok (.getfield 32, 3) := by decide +kernel
theorem dX5_fasterThan_9 : decode cX5_fasterThan 9 = .ok (.if_icmp .ge 35, 3) := by decide +kernel
theorem dX5_fasterThan_12 : decode cX5_fasterThan 12 = .ok (.aload_n 0, 1) := by decide +kernel
theorem dX5_fasterThan_13 : decode cX5_fasterThan 13 = .ok (.aload_n 0, 1) := by decide +kernel
theorem dX5_fasterThan_14 : decode cX5_fasterThan 14 = .ok (.getfield 17, 3) := by decide +kernel
theorem dX5_fasterThan_17 : decode cX5_fasterThan 17 = .ok (.iload_n 3, 1) := by decide +kernel
theorem dX5_fasterThan_18 : decode cX5_fasterThan 18 = .ok (.aaload, 1) := by decide +kernel
theorem dX5_fasterThan_19 : decode cX5_fasterThan 19 = .ok (.invokevirtual 84, 3) := by decide +kernel
theorem dX5_fasterThan_22 : decode cX5_fasterThan 22 = .ok (.istore 4, 2) := by decide +kernel
theorem dX5_fasterThan_24 : decode cX5_fasterThan 24 = .ok (.iload 4, 2) := by decide +kernel
theorem dX5_fasterThan_26 : decode cX5_fasterThan 26 = .ok (.ifCond .le 12, 3) := by decide +kernel
theorem dX5_fasterThan_29 : decode cX5_fasterThan 29 = .ok (.iload 4, 2) := by decide +kernel
theorem dX5_fasterThan_31 : decode cX5_fasterThan 31 = .ok (.iload_n 1, 1) := by decide +kernel
theorem dX5_fasterThan_32 : decode cX5_fasterThan 32 = .ok (.if_icmp .ge 6, 3) := by decide +kernel
theorem dX5_fasterThan_35 : decode cX5_fasterThan 35 = .ok (.iinc 2 1, 3) := by decide +kernel
theorem dX5_fasterThan_38 : decode cX5_fasterThan 38 = .ok (.iinc 3 1, 3) := by decide +kernel
theorem dX5_fasterThan_41 : decode cX5_fasterThan 41 = .ok (.goto (-37), 3) := by decide +kernel
theorem dX5_fasterThan_44 : decode cX5_fasterThan 44 = .ok (.iload_n 2, 1) := by decide +kernel
theorem dX5_fasterThan_45 : decode cX5_fasterThan 45 = .ok (.ireturn, 1) := by decide +kernel
theorem dX5_timesAboveZero_0 : decode cX5_timesAboveZero 0 = .ok (.aload_n 0, 1) := by decide +kernel
theorem dX5_timesAboveZero_1 : decode cX5_timesAboveZero 1 = .ok (.sipush 1000, 3) := by decide +kernel
theorem dX5_timesAboveZero_4 : decode cX5_timesAboveZero 4 = .ok (.invokevirtual 88, 3) := by decide +kernel
theorem dX5_timesAboveZero_7 : decode cX5_timesAboveZero 7 = .ok (.ireturn, 1) := by decide +kernel
theorem dX5_stillToSwim_0 : decode cX5_stillToSwim 0 = .ok (.iconst 0, 1) := by decide +kernel
theorem dX5_stillToSwim_1 : decode cX5_stillToSwim 1 = .ok (.istore_n 2, 1) := by decide +kernel
theorem dX5_stillToSwim_2 : decode cX5_stillToSwim 2 = .ok (.iconst 0, 1) := by decide +kernel
theorem dX5_stillToSwim_3 : decode cX5_stillToSwim 3 = .ok (.istore_n 3, 1) := by decide +kernel
theorem dX5_stillToSwim_4 : decode cX5_stillToSwim 4 = .ok (.iload_n 3, 1) := by decide +kernel
theorem dX5_stillToSwim_5 : decode cX5_stillToSwim 5 = .ok (.aload_n 0, 1) := by decide +kernel
theorem dX5_stillToSwim_6 : decode cX5_stillToSwim 6 = .ok (.getfield 32, 3) := by decide +kernel
theorem dX5_stillToSwim_9 : decode cX5_stillToSwim 9 = .ok (.if_icmp .ge 46, 3) := by decide +kernel
theorem dX5_stillToSwim_12 : decode cX5_stillToSwim 12 = .ok (.aload_n 0, 1) := by decide +kernel
theorem dX5_stillToSwim_13 : decode cX5_stillToSwim 13 = .ok (.aload_n 0, 1) := by decide +kernel
theorem dX5_stillToSwim_14 : decode cX5_stillToSwim 14 = .ok (.getfield 17, 3) := by decide +kernel
theorem dX5_stillToSwim_17 : decode cX5_stillToSwim 17 = .ok (.iload_n 3, 1) := by decide +kernel
theorem dX5_stillToSwim_18 : decode cX5_stillToSwim 18 = .ok (.aaload, 1) := by decide +kernel
theorem dX5_stillToSwim_19 : decode cX5_stillToSwim 19 = .ok (.invokevirtual 92, 3) := by decide +kernel
theorem dX5_stillToSwim_22 : decode cX5_stillToSwim 22 = .ok (.ifCond .eq 27, 3) := by decide +kernel
theorem dX5_stillToSwim_25 : decode cX5_stillToSwim 25 = .ok (.aload_n 0, 1) := by decide +kernel
theorem dX5_stillToSwim_26 : decode cX5_stillToSwim 26 = .ok (.aload_n 0, 1) := by decide +kernel
theorem dX5_stillToSwim_27 : decode cX5_stillToSwim 27 = .ok (.getfield 17, 3) := by decide +kernel
theorem dX5_stillToSwim_30 : decode cX5_stillToSwim 30 = .ok (.iload_n 3, 1) := by decide +kernel
theorem dX5_stillToSwim_31 : decode cX5_stillToSwim 31 = .ok (.aaload, 1) := by decide +kernel
theorem dX5_stillToSwim_32 : decode cX5_stillToSwim 32 = .ok (.invokevirtual 84, 3) := by decide +kernel
theorem dX5_stillToSwim_35 : decode cX5_stillToSwim 35 = .ok (.iconst (-1), 1) := by decide +kernel
theorem dX5_stillToSwim_36 : decode cX5_stillToSwim 36 = .ok (.if_icmp .ne 13, 3) := by decide +kernel
theorem dX5_stillToSwim_39 : decode cX5_stillToSwim 39 = .ok (.iload_n 2, 1) := by decide +kernel
theorem dX5_stillToSwim_40 : decode cX5_stillToSwim 40 = .ok (.iload_n 1, 1) := by decide +kernel
theorem dX5_stillToSwim_41 : decode cX5_stillToSwim 41 = .ok (.if_icmp .ne 5, 3) := by decide +kernel
theorem dX5_stillToSwim_44 : decode cX5_stillToSwim 44 = .ok (.iload_n 3, 1) := by decide +kernel
theorem dX5_stillToSwim_45 : decode cX5_stillToSwim 45 = .ok (.ireturn, 1) := by decide +kernel
theorem dX5_stillToSwim_46 : decode cX5_stillToSwim 46 = .ok (.iinc 2 1, 3) := by decide +kernel
theorem dX5_stillToSwim_49 : decode cX5_stillToSwim 49 = .ok (.iinc 3 1, 3) := by decide +kernel
theorem dX5_stillToSwim_52 : decode cX5_stillToSwim 52 = .ok (.goto (-48), 3) := by decide +kernel
theorem dX5_stillToSwim_55 : decode cX5_stillToSwim 55 = .ok (.ldc 95, 2) := by decide +kernel
theorem dX5_stillToSwim_57 : decode cX5_stillToSwim 57 = .ok (.ireturn, 1) := by decide +kernel
theorem dX5_reasonToWait_0 : decode cX5_reasonToWait 0 = .ok (.aload_n 0, 1) := by decide +kernel
theorem dX5_reasonToWait_1 : decode cX5_reasonToWait 1 = .ok (.getfield 36, 3) := by decide +kernel
theorem dX5_reasonToWait_4 : decode cX5_reasonToWait 4 = .ok (.ifCond .ne 16, 3) := by decide +kernel
theorem dX5_reasonToWait_7 : decode cX5_reasonToWait 7 = .ok (.aload_n 0, 1) := by decide +kernel
theorem dX5_reasonToWait_8 : decode cX5_reasonToWait 8 = .ok (.invokevirtual 96, 3) := by decide +kernel
theorem dX5_reasonToWait_11 : decode cX5_reasonToWait 11 = .ok (.ifCond .ne 7, 3) := by decide +kernel
theorem dX5_reasonToWait_14 : decode cX5_reasonToWait 14 = .ok (.iconst 1, 1) := by decide +kernel
theorem dX5_reasonToWait_15 : decode cX5_reasonToWait 15 = .ok (.goto 4, 3) := by decide +kernel
theorem dX5_reasonToWait_18 : decode cX5_reasonToWait 18 = .ok (.iconst 0, 1) := by decide +kernel
theorem dX5_reasonToWait_19 : decode cX5_reasonToWait 19 = .ok (.ireturn, 1) := by decide +kernel
theorem dX5_reasonToWait_20 : decode cX5_reasonToWait 20 = .ok (.aload_n 0, 1) := by decide +kernel
theorem dX5_reasonToWait_21 : decode cX5_reasonToWait 21 = .ok (.iconst 0, 1) := by decide +kernel
theorem dX5_reasonToWait_22 : decode cX5_reasonToWait 22 = .ok (.invokevirtual 100, 3) := by decide +kernel
theorem dX5_reasonToWait_25 : decode cX5_reasonToWait 25 = .ok (.ldc 95, 2) := by decide +kernel
theorem dX5_reasonToWait_27 : decode cX5_reasonToWait 27 = .ok (.if_icmp .eq 5, 3) := by decide +kernel
theorem dX5_reasonToWait_30 : decode cX5_reasonToWait 30 = .ok (.iconst 2, 1) := by decide +kernel
theorem dX5_reasonToWait_31 : decode cX5_reasonToWait 31 = .ok (.ireturn, 1) := by decide +kernel
theorem dX5_reasonToWait_32 : decode cX5_reasonToWait 32 = .ok (.aload_n 0, 1) := by decide +kernel
theorem dX5_reasonToWait_33 : decode cX5_reasonToWait 33 = .ok (.getfield 36, 3) := by decide +kernel
theorem dX5_reasonToWait_36 : decode cX5_reasonToWait 36 = .ok (.iconst 1, 1) := by decide +kernel
theorem dX5_reasonToWait_37 : decode cX5_reasonToWait 37 = .ok (.if_icmp .ne 14, 3) := by decide +kernel
theorem dX5_reasonToWait_40 : decode cX5_reasonToWait 40 = .ok (.aload_n 0, 1) := by decide +kernel
theorem dX5_reasonToWait_41 : decode cX5_reasonToWait 41 = .ok (.invokevirtual 103, 3) := by decide +kernel
theorem dX5_reasonToWait_44 : decode cX5_reasonToWait 44 = .ok (.ifCond .ne 7, 3) := by decide +kernel
theorem dX5_reasonToWait_47 : decode cX5_reasonToWait 47 = .ok (.iconst 1, 1) := by decide +kernel
theorem dX5_reasonToWait_48 : decode cX5_reasonToWait 48 = .ok (.goto 4, 3) := by decide +kernel
theorem dX5_reasonToWait_51 : decode cX5_reasonToWait 51 = .ok (.iconst 0, 1) := by decide +kernel
theorem dX5_reasonToWait_52 : decode cX5_reasonToWait 52 = .ok (.ireturn, 1) := by decide +kernel
theorem dX5_canBeCalled_0 : decode cX5_canBeCalled 0 = .ok (.aload_n 0, 1) := by decide +kernel
theorem dX5_canBeCalled_1 : decode cX5_canBeCalled 1 = .ok (.iload_n 1, 1) := by decide +kernel
theorem dX5_canBeCalled_2 : decode cX5_canBeCalled 2 = .ok (.invokevirtual 106, 3) := by decide +kernel
theorem dX5_canBeCalled_5 : decode cX5_canBeCalled 5 = .ok (.ifCond .eq 31, 3) := by decide +kernel
theorem dX5_canBeCalled_8 : decode cX5_canBeCalled 8 = .ok (.aload_n 0, 1) := by decide +kernel
theorem dX5_canBeCalled_9 : decode cX5_canBeCalled 9 = .ok (.getfield 17, 3) := by decide +kernel
theorem dX5_canBeCalled_12 : decode cX5_canBeCalled 12 = .ok (.iload_n 1, 1) := by decide +kernel
theorem dX5_canBeCalled_13 : decode cX5_canBeCalled 13 = .ok (.aaload, 1) := by decide +kernel
theorem dX5_canBeCalled_14 : decode cX5_canBeCalled 14 = .ok (.getfield 61, 3) := by decide +kernel
theorem dX5_canBeCalled_17 : decode cX5_canBeCalled 17 = .ok (.ifCond .ne 19, 3) := by decide +kernel
theorem dX5_canBeCalled_20 : decode cX5_canBeCalled 20 = .ok (.aload_n 0, 1) := by decide +kernel
theorem dX5_canBeCalled_21 : decode cX5_canBeCalled 21 = .ok (.getfield 17, 3) := by decide +kernel
theorem dX5_canBeCalled_24 : decode cX5_canBeCalled 24 = .ok (.iload_n 1, 1) := by decide +kernel
theorem dX5_canBeCalled_25 : decode cX5_canBeCalled 25 = .ok (.aaload, 1) := by decide +kernel
theorem dX5_canBeCalled_26 : decode cX5_canBeCalled 26 = .ok (.getfield 78, 3) := by decide +kernel
theorem dX5_canBeCalled_29 : decode cX5_canBeCalled 29 = .ok (.ifCond .ne 7, 3) := by decide +kernel
theorem dX5_canBeCalled_32 : decode cX5_canBeCalled 32 = .ok (.iconst 1, 1) := by decide +kernel
theorem dX5_canBeCalled_33 : decode cX5_canBeCalled 33 = .ok (.goto 4, 3) := by decide +kernel
theorem dX5_canBeCalled_36 : decode cX5_canBeCalled 36 = .ok (.iconst 0, 1) := by decide +kernel
theorem dX5_canBeCalled_37 : decode cX5_canBeCalled 37 = .ok (.ireturn, 1) := by decide +kernel
theorem dX5_freeReserve_0 : decode cX5_freeReserve 0 = .ok (.iconst 0, 1) := by decide +kernel
theorem dX5_freeReserve_1 : decode cX5_freeReserve 1 = .ok (.istore_n 2, 1) := by decide +kernel
theorem dX5_freeReserve_2 : decode cX5_freeReserve 2 = .ok (.iconst 0, 1) := by decide +kernel
theorem dX5_freeReserve_3 : decode cX5_freeReserve 3 = .ok (.istore_n 3, 1) := by decide +kernel
theorem dX5_freeReserve_4 : decode cX5_freeReserve 4 = .ok (.iload_n 3, 1) := by decide +kernel
theorem dX5_freeReserve_5 : decode cX5_freeReserve 5 = .ok (.aload_n 0, 1) := by decide +kernel
theorem dX5_freeReserve_6 : decode cX5_freeReserve 6 = .ok (.getfield 42, 3) := by decide +kernel
theorem dX5_freeReserve_9 : decode cX5_freeReserve 9 = .ok (.if_icmp .ge 42, 3) := by decide +kernel
theorem dX5_freeReserve_12 : decode cX5_freeReserve 12 = .ok (.iload_n 3, 1) := by decide +kernel
theorem dX5_freeReserve_13 : decode cX5_freeReserve 13 = .ok (.iconst 4, 1) := by decide +kernel
theorem dX5_freeReserve_14 : decode cX5_freeReserve 14 = .ok (.if_icmp .ge 37, 3) := by decide +kernel
theorem dX5_freeReserve_17 : decode cX5_freeReserve 17 = .ok (.aload_n 0, 1) := by decide +kernel
theorem dX5_freeReserve_18 : decode cX5_freeReserve 18 = .ok (.aload_n 0, 1) := by decide +kernel
theorem dX5_freeReserve_19 : decode cX5_freeReserve 19 = .ok (.getfield 21, 3) := by decide +kernel
theorem dX5_freeReserve_22 : decode cX5_freeReserve 22 = .ok (.iload_n 3, 1) := by decide +kernel
theorem dX5_freeReserve_23 : decode cX5_freeReserve 23 = .ok (.iaload, 1) := by decide +kernel
theorem dX5_freeReserve_24 : decode cX5_freeReserve 24 = .ok (.invokevirtual 110, 3) := by decide +kernel
theorem dX5_freeReserve_27 : decode cX5_freeReserve 27 = .ok (.ifCond .eq 18, 3) := by decide +kernel
theorem dX5_freeReserve_30 : decode cX5_freeReserve 30 = .ok (.iload_n 2, 1) := by decide +kernel
theorem dX5_freeReserve_31 : decode cX5_freeReserve 31 = .ok (.iload_n 1, 1) := by decide +kernel
theorem dX5_freeReserve_32 : decode cX5_freeReserve 32 = .ok (.if_icmp .ne 10, 3) := by decide +kernel
theorem dX5_freeReserve_35 : decode cX5_freeReserve 35 = .ok (.aload_n 0, 1) := by decide +kernel
theorem dX5_freeReserve_36 : decode cX5_freeReserve 36 = .ok (.getfield 21, 3) := by decide +kernel
theorem dX5_freeReserve_39 : decode cX5_freeReserve 39 = .ok (.iload_n 3, 1) := by decide +kernel
theorem dX5_freeReserve_40 : decode cX5_freeReserve 40 = .ok (.iaload, 1) := by decide +kernel
theorem dX5_freeReserve_41 : decode cX5_freeReserve 41 = .ok (.ireturn, 1) := by decide +kernel
theorem dX5_freeReserve_42 : decode cX5_freeReserve 42 = .ok (.iinc 2 1, 3) := by decide +kernel
theorem dX5_freeReserve_45 : decode cX5_freeReserve 45 = .ok (.iinc 3 1, 3) := by decide +kernel
theorem dX5_freeReserve_48 : decode cX5_freeReserve 48 = .ok (.goto (-44), 3) := by decide +kernel
theorem dX5_freeReserve_51 : decode cX5_freeReserve 51 = .ok (.ldc 95, 2) := by decide +kernel
theorem dX5_freeReserve_53 : decode cX5_freeReserve 53 = .ok (.ireturn, 1) := by decide +kernel
theorem dX5_finalSet_0 : decode cX5_finalSet 0 = .ok (.iconst 0, 1) := by decide +kernel
theorem dX5_finalSet_1 : decode cX5_finalSet 1 = .ok (.istore_n 1, 1) := by decide +kernel
theorem dX5_finalSet_2 : decode cX5_finalSet 2 = .ok (.iconst 0, 1) := by decide +kernel
theorem dX5_finalSet_3 : decode cX5_finalSet 3 = .ok (.istore_n 2, 1) := by decide +kernel
theorem dX5_finalSet_4 : decode cX5_finalSet 4 = .ok (.iload_n 2, 1) := by decide +kernel
theorem dX5_finalSet_5 : decode cX5_finalSet 5 = .ok (.aload_n 0, 1) := by decide +kernel
theorem dX5_finalSet_6 : decode cX5_finalSet 6 = .ok (.getfield 32, 3) := by decide +kernel
theorem dX5_finalSet_9 : decode cX5_finalSet 9 = .ok (.if_icmp .ge 27, 3) := by decide +kernel
theorem dX5_finalSet_12 : decode cX5_finalSet 12 = .ok (.aload_n 0, 1) := by decide +kernel
theorem dX5_finalSet_13 : decode cX5_finalSet 13 = .ok (.getfield 17, 3) := by decide +kernel
theorem dX5_finalSet_16 : decode cX5_finalSet 16 = .ok (.iload_n 2, 1) := by decide +kernel
theorem dX5_finalSet_17 : decode cX5_finalSet 17 = .ok (.aaload, 1) := by decide +kernel
theorem dX5_finalSet_18 : decode cX5_finalSet 18 = .ok (.getfield 78, 3) := by decide +kernel
theorem dX5_finalSet_21 : decode cX5_finalSet 21 = .ok (.ifCond .eq 9, 3) := by decide +kernel
theorem dX5_finalSet_24 : decode cX5_finalSet 24 = .ok (.iload_n 1, 1) := by decide +kernel
theorem dX5_finalSet_25 : decode cX5_finalSet 25 = .ok (.iconst 1, 1) := by decide +kernel
theorem dX5_finalSet_26 : decode cX5_finalSet 26 = .ok (.iload_n 2, 1) := by decide +kernel
theorem dX5_finalSet_27 : decode cX5_finalSet 27 = .ok (.ishl, 1) := by decide +kernel
theorem dX5_finalSet_28 : decode cX5_finalSet 28 = .ok (.ior, 1) := by decide +kernel
theorem dX5_finalSet_29 : decode cX5_finalSet 29 = .ok (.istore_n 1, 1) := by decide +kernel
theorem dX5_finalSet_30 : decode cX5_finalSet 30 = .ok (.iinc 2 1, 3) := by decide +kernel
theorem dX5_finalSet_33 : decode cX5_finalSet 33 = .ok (.goto (-29), 3) := by decide +kernel
theorem dX5_finalSet_36 : decode cX5_finalSet 36 = .ok (.iload_n 1, 1) := by decide +kernel
theorem dX5_finalSet_37 : decode cX5_finalSet 37 = .ok (.ireturn, 1) := by decide +kernel
theorem dX6_init_0 : decode cX6_init 0 = .ok (.aload_n 0, 1) := by decide +kernel
theorem dX6_init_1 : decode cX6_init 1 = .ok (.invokespecial 3, 3) := by decide +kernel
theorem dX6_init_4 : decode cX6_init 4 = .ok (.aload_n 0, 1) := by decide +kernel
theorem dX6_init_5 : decode cX6_init 5 = .ok (.bipush 60, 2) := by decide +kernel
theorem dX6_init_7 : decode cX6_init 7 = .ok (.newarray .int, 2) := by decide +kernel
theorem dX6_init_9 : decode cX6_init 9 = .ok (.putfield 9, 3) := by decide +kernel
theorem dX6_init_12 : decode cX6_init 12 = .ok (.return_, 1) := by decide +kernel
theorem dX6_append_0 : decode cX6_append 0 = .ok (.aload_n 0, 1) := by decide +kernel
theorem dX6_append_1 : decode cX6_append 1 = .ok (.getfield 15, 3) := by decide +kernel
theorem dX6_append_4 : decode cX6_append 4 = .ok (.bipush 60, 2) := by decide +kernel
theorem dX6_append_6 : decode cX6_append 6 = .ok (.if_icmp .lt 6, 3) := by decide +kernel
theorem dX6_append_9 : decode cX6_append 9 = .ok (.ldc 19, 2) := by decide +kernel
theorem dX6_append_11 : decode cX6_append 11 = .ok (.ireturn, 1) := by decide +kernel
theorem dX6_append_12 : decode cX6_append 12 = .ok (.aload_n 0, 1) := by decide +kernel
theorem dX6_append_13 : decode cX6_append 13 = .ok (.getfield 9, 3) := by decide +kernel
theorem dX6_append_16 : decode cX6_append 16 = .ok (.aload_n 0, 1) := by decide +kernel
theorem dX6_append_17 : decode cX6_append 17 = .ok (.getfield 15, 3) := by decide +kernel
theorem dX6_append_20 : decode cX6_append 20 = .ok (.iload_n 1, 1) := by decide +kernel
theorem dX6_append_21 : decode cX6_append 21 = .ok (.iastore, 1) := by decide +kernel
theorem dX6_append_22 : decode cX6_append 22 = .ok (.aload_n 0, 1) := by decide +kernel
theorem dX6_append_23 : decode cX6_append 23 = .ok (.dup, 1) := by decide +kernel
theorem dX6_append_24 : decode cX6_append 24 = .ok (.getfield 15, 3) := by decide +kernel
theorem dX6_append_27 : decode cX6_append 27 = .ok (.iconst 1, 1) := by decide +kernel
theorem dX6_append_28 : decode cX6_append 28 = .ok (.iadd, 1) := by decide +kernel
theorem dX6_append_29 : decode cX6_append 29 = .ok (.putfield 15, 3) := by decide +kernel
theorem dX6_append_32 : decode cX6_append 32 = .ok (.aload_n 0, 1) := by decide +kernel
theorem dX6_append_33 : decode cX6_append 33 = .ok (.getfield 15, 3) := by decide +kernel
theorem dX6_append_36 : decode cX6_append 36 = .ok (.ireturn, 1) := by decide +kernel
theorem dX6_empty_0 : decode cX6_empty 0 = .ok (.aload_n 0, 1) := by decide +kernel
theorem dX6_empty_1 : decode cX6_empty 1 = .ok (.getfield 15, 3) := by decide +kernel
theorem dX6_empty_4 : decode cX6_empty 4 = .ok (.istore_n 1, 1) := by decide +kernel
theorem dX6_empty_5 : decode cX6_empty 5 = .ok (.aload_n 0, 1) := by decide +kernel
theorem dX6_empty_6 : decode cX6_empty 6 = .ok (.iconst 0, 1) := by decide +kernel
theorem dX6_empty_7 : decode cX6_empty 7 = .ok (.putfield 15, 3) := by decide +kernel
theorem dX6_empty_10 : decode cX6_empty 10 = .ok (.iload_n 1, 1) := by decide +kernel
theorem dX6_empty_11 : decode cX6_empty 11 = .ok (.ireturn, 1) := by decide +kernel
theorem dX6_rewind_0 : decode cX6_rewind 0 = .ok (.aload_n 0, 1) := by decide +kernel
theorem dX6_rewind_1 : decode cX6_rewind 1 = .ok (.iconst 0, 1) := by decide +kernel
theorem dX6_rewind_2 : decode cX6_rewind 2 = .ok (.putfield 20, 3) := by decide +kernel
theorem dX6_rewind_5 : decode cX6_rewind 5 = .ok (.return_, 1) := by decide +kernel
theorem dX6_hasMore_0 : decode cX6_hasMore 0 = .ok (.aload_n 0, 1) := by decide +kernel
theorem dX6_hasMore_1 : decode cX6_hasMore 1 = .ok (.getfield 20, 3) := by decide +kernel
theorem dX6_hasMore_4 : decode cX6_hasMore 4 = .ok (.aload_n 0, 1) := by decide +kernel
theorem dX6_hasMore_5 : decode cX6_hasMore 5 = .ok (.getfield 15, 3) := by decide +kernel
theorem dX6_hasMore_8 : decode cX6_hasMore 8 = .ok (.if_icmp .ge 7, 3) := by decide +kernel
theorem dX6_hasMore_11 : decode cX6_hasMore 11 = .ok (.iconst 1, 1) := by decide +kernel
theorem dX6_hasMore_12 : decode cX6_hasMore 12 = .ok (.goto 4, 3) := by decide +kernel
theorem dX6_hasMore_15 : decode cX6_hasMore 15 = .ok (.iconst 0, 1) := by decide +kernel
theorem dX6_hasMore_16 : decode cX6_hasMore 16 = .ok (.ireturn, 1) := by decide +kernel
theorem dX6_readOrder_0 : decode cX6_readOrder 0 = .ok (.aload_n 0, 1) := by decide +kernel
theorem dX6_readOrder_1 : decode cX6_readOrder 1 = .ok (.aload_n 0, 1) := by decide +kernel
theorem dX6_readOrder_2 : decode cX6_readOrder 2 = .ok (.getfield 20, 3) := by decide +kernel
theorem dX6_readOrder_5 : decode cX6_readOrder 5 = .ok (.putfield 23, 3) := by decide +kernel
theorem dX6_readOrder_8 : decode cX6_readOrder 8 = .ok (.aload_n 0, 1) := by decide +kernel
theorem dX6_readOrder_9 : decode cX6_readOrder 9 = .ok (.aload_n 0, 1) := by decide +kernel
theorem dX6_readOrder_10 : decode cX6_readOrder 10 = .ok (.invokevirtual 26, 3) := by decide +kernel
theorem dX6_readOrder_13 : decode cX6_readOrder 13 = .ok (.putfield 30, 3) := by decide +kernel
theorem dX6_readOrder_16 : decode cX6_readOrder 16 = .ok (.aload_n 0, 1) := by decide +kernel
theorem dX6_readOrder_17 : decode cX6_readOrder 17 = .ok (.aload_n 0, 1) := by decide +kernel
theorem dX6_readOrder_18 : decode cX6_readOrder 18 = .ok (.getfield 30, 3) := by decide +kernel
theorem dX6_readOrder_21 : decode cX6_readOrder 21 = .ok (.invokevirtual 33, 3) := by decide +kernel
theorem dX6_readOrder_24 : decode cX6_readOrder 24 = .ok (.istore_n 1, 1) := by decide +kernel
theorem dX6_readOrder_25 : decode cX6_readOrder 25 = .ok (.iload_n 1, 1) := by decide +kernel
theorem dX6_readOrder_26 : decode cX6_readOrder 26 = .ok (.ifCond .ge 5, 3) := by decide +kernel
theorem dX6_readOrder_29 : decode cX6_readOrder 29 = .ok (.iconst 0, 1) := by decide +kernel
theorem dX6_readOrder_30 : decode cX6_readOrder 30 = .ok (.ireturn, 1) := by decide +kernel
theorem dX6_readOrder_31 : decode cX6_readOrder 31 = .ok (.aload_n 0, 1) := by decide +kernel
theorem dX6_readOrder_32 : decode cX6_readOrder 32 = .ok (.dup, 1) := by decide +kernel
theorem dX6_readOrder_33 : decode cX6_readOrder 33 = .ok (.getfield 20, 3) := by decide +kernel
theorem dX6_readOrder_36 : decode cX6_readOrder 36 = .ok (.iconst 1, 1) := by decide +kernel
theorem dX6_readOrder_37 : decode cX6_readOrder 37 = .ok (.iadd, 1) := by decide +kernel
theorem dX6_readOrder_38 : decode cX6_readOrder 38 = .ok (.putfield 20, 3) := by decide +kernel
theorem dX6_readOrder_41 : decode cX6_readOrder 41 = .ok (.iload_n 1, 1) := by decide +kernel
theorem dX6_readOrder_42 : decode cX6_readOrder 42 = .ok (.ifCond .le 12, 3) := by decide +kernel
theorem dX6_readOrder_45 : decode cX6_readOrder 45 = .ok (.aload_n 0, 1) := by decide +kernel
theorem dX6_readOrder_46 : decode cX6_readOrder 46 = .ok (.invokevirtual 37, 3) := by decide +kernel
theorem dX6_readOrder_49 : decode cX6_readOrder 49 = .ok (.ifCond .ne 5, 3) := by decide +kernel
theorem dX6_readOrder_52 : decode cX6_readOrder 52 = .ok (.iconst 0, 1) := by decide +kernel
theorem dX6_readOrder_53 : decode cX6_readOrder 53 = .ok (.ireturn, 1) := by decide +kernel
theorem dX6_readOrder_54 : decode cX6_readOrder 54 = .ok (.aload_n 0, 1) := by decide +kernel
theorem dX6_readOrder_55 : decode cX6_readOrder 55 = .ok (.aload_n 0, 1) := by decide +kernel
theorem dX6_readOrder_56 : decode cX6_readOrder 56 = .ok (.getfield 41, 3) := by decide +kernel
theorem dX6_readOrder_59 : decode cX6_readOrder 59 = .ok (.putfield 44, 3) := by decide +kernel
theorem dX6_readOrder_62 : decode cX6_readOrder 62 = .ok (.iload_n 1, 1) := by decide +kernel
theorem dX6_readOrder_63 : decode cX6_readOrder 63 = .ok (.iconst 1, 1) := by decide +kernel
theorem dX6_readOrder_64 : decode cX6_readOrder 64 = .ok (.if_icmp .le 21, 3) := by decide +kernel
theorem dX6_readOrder_67 : decode cX6_readOrder 67 = .ok (.aload_n 0, 1) := by decide +kernel
theorem dX6_readOrder_68 : decode cX6_readOrder 68 = .ok (.bipush 44, 2) := by decide +kernel
theorem dX6_readOrder_70 : decode cX6_readOrder 70 = .ok (.invokevirtual 47, 3) := by decide +kernel
theorem dX6_readOrder_73 : decode cX6_readOrder 73 = .ok (.ifCond .eq 10, 3) := by decide +kernel
theorem dX6_readOrder_76 : decode cX6_readOrder 76 = .ok (.aload_n 0, 1) := by decide +kernel
theorem dX6_readOrder_77 : decode cX6_readOrder 77 = .ok (.invokevirtual 37, 3) := by decide +kernel
theorem dX6_readOrder_80 : decode cX6_readOrder 80 = .ok (.ifCond .ne 5, 3) := by decide +kernel
theorem dX6_readOrder_83 : decode cX6_readOrder 83 = .ok (.iconst 0, 1) := by decide +kernel
theorem dX6_readOrder_84 : decode cX6_readOrder 84 = .ok (.ireturn, 1) := by decide +kernel
theorem dX6_readOrder_85 : decode cX6_readOrder 85 = .ok (.aload_n 0, 1) := by decide +kernel
theorem dX6_readOrder_86 : decode cX6_readOrder 86 = .ok (.aload_n 0, 1) := by decide +kernel
theorem dX6_readOrder_87 : decode cX6_readOrder 87 = .ok (.getfield 41, 3) := by decide +kernel
theorem dX6_readOrder_90 : decode cX6_readOrder 90 = .ok (.putfield 51, 3) := by decide +kernel
theorem dX6_readOrder_93 : decode cX6_readOrder 93 = .ok (.aload_n 0, 1) := by decide +kernel
theorem dX6_readOrder_94 : decode cX6_readOrder 94 = .ok (.bipush 59, 2) := by decide +kernel
theorem dX6_readOrder_96 : decode cX6_readOrder 96 = .ok (.invokevirtual 47, 3) := by decide +kernel
theorem dX6_readOrder_99 : decode cX6_readOrder 99 = .ok (.ireturn, 1) := by decide +kernel
theorem dX6_numbersOf_0 : decode cX6_numbersOf 0 = .ok (.iload_n 1, 1) := by decide +kernel
theorem dX6_numbersOf_1 : decode cX6_numbersOf 1 = .ok (.tableswitch 105 100 120 #[103, 99, 103, 105, 105, 105, 105, 105, 105, 105, 103, 103, 105, 105, 105, 99, 105, 105, 105, 105, 101], 99) := by decide +kernel
theorem dX6_numbersOf_100 : decode cX6_numbersOf 100 = .ok (.iconst 2, 1) := by decide +kernel
theorem dX6_numbersOf_101 : decode cX6_numbersOf 101 = .ok (.ireturn, 1) := by decide +kernel
theorem dX6_numbersOf_102 : decode cX6_numbersOf 102 = .ok (.iconst 1, 1) := by decide +kernel
theorem dX6_numbersOf_103 : decode cX6_numbersOf 103 = .ok (.ireturn, 1) := by decide +kernel
theorem dX6_numbersOf_104 : decode cX6_numbersOf 104 = .ok (.iconst 0, 1) := by decide +kernel
theorem dX6_numbersOf_105 : decode cX6_numbersOf 105 = .ok (.ireturn, 1) := by decide +kernel
theorem dX6_numbersOf_106 : decode cX6_numbersOf 106 = .ok (.iconst (-1), 1) := by decide +kernel
theorem dX6_numbersOf_107 : decode cX6_numbersOf 107 = .ok (.ireturn, 1) := by decide +kernel
theorem dX6_signHere_0 : decode cX6_signHere 0 = .ok (.aload_n 0, 1) := by decide +kernel
theorem dX6_signHere_1 : decode cX6_signHere 1 = .ok (.getfield 20, 3) := by decide +kernel
theorem dX6_signHere_4 : decode cX6_signHere 4 = .ok (.ifCond .lt 35, 3) := by decide +kernel
theorem dX6_signHere_7 : decode cX6_signHere 7 = .ok (.aload_n 0, 1) := by decide +kernel
theorem dX6_signHere_8 : decode cX6_signHere 8 = .ok (.getfield 20, 3) := by decide +kernel
theorem dX6_signHere_11 : decode cX6_signHere 11 = .ok (.aload_n 0, 1) := by decide +kernel
theorem dX6_signHere_12 : decode cX6_signHere 12 = .ok (.getfield 15, 3) := by decide +kernel
theorem dX6_signHere_15 : decode cX6_signHere 15 = .ok (.if_icmp .ge 24, 3) := by decide +kernel
theorem dX6_signHere_18 : decode cX6_signHere 18 = .ok (.aload_n 0, 1) := by decide +kernel
theorem dX6_signHere_19 : decode cX6_signHere 19 = .ok (.getfield 20, 3) := by decide +kernel
theorem dX6_signHere_22 : decode cX6_signHere 22 = .ok (.bipush 60, 2) := by decide +kernel
theorem dX6_signHere_24 : decode cX6_signHere 24 = .ok (.if_icmp .ge 15, 3) := by decide +kernel
theorem dX6_signHere_27 : decode cX6_signHere 27 = .ok (.aload_n 0, 1) := by decide +kernel
theorem dX6_signHere_28 : decode cX6_signHere 28 = .ok (.getfield 9, 3) := by decide +kernel
theorem dX6_signHere_31 : decode cX6_signHere 31 = .ok (.aload_n 0, 1) := by decide +kernel
theorem dX6_signHere_32 : decode cX6_signHere 32 = .ok (.getfield 20, 3) := by decide +kernel
theorem dX6_signHere_35 : decode cX6_signHere 35 = .ok (.iaload, 1) := by decide +kernel
theorem dX6_signHere_36 : decode cX6_signHere 36 = .ok (.goto 4, 3) := by decide +kernel
theorem dX6_signHere_39 : decode cX6_signHere 39 = .ok (.iconst 0, 1) := by decide +kernel
theorem dX6_signHere_40 : decode cX6_signHere 40 = .ok (.ireturn, 1) := by decide +kernel
theorem dX6_readSign_0 : decode cX6_readSign 0 = .ok (.aload_n 0, 1) := by decide +kernel
theorem dX6_readSign_1 : decode cX6_readSign 1 = .ok (.invokevirtual 26, 3) := by decide +kernel
theorem dX6_readSign_4 : decode cX6_readSign 4 = .ok (.iload_n 1, 1) := by decide +kernel
theorem dX6_readSign_5 : decode cX6_readSign 5 = .ok (.if_icmp .eq 5, 3) := by decide +kernel
theorem dX6_readSign_8 : decode cX6_readSign 8 = .ok (.iconst 0, 1) := by decide +kernel
theorem dX6_readSign_9 : decode cX6_readSign 9 = .ok (.ireturn, 1) := by decide +kernel
theorem dX6_readSign_10 : decode cX6_readSign 10 = .ok (.aload_n 0, 1) := by decide +kernel
theorem dX6_readSign_11 : decode cX6_readSign 11 = .ok (.dup, 1) := by decide +kernel
theorem dX6_readSign_12 : decode cX6_readSign 12 = .ok (.getfield 20, 3) := by decide +kernel
theorem dX6_readSign_15 : decode cX6_readSign 15 = .ok (.iconst 1, 1) := by decide +kernel
theorem dX6_readSign_16 : decode cX6_readSign 16 = .ok (.iadd, 1) := by decide +kernel
theorem dX6_readSign_17 : decode cX6_readSign 17 = .ok (.putfield 20, 3) := by decide +kernel
theorem dX6_readSign_20 : decode cX6_readSign 20 = .ok (.iconst 1, 1) := by decide +kernel
theorem dX6_readSign_21 : decode cX6_readSign 21 = .ok (.ireturn, 1) := by decide +kernel
theorem dX6_readNumber_0 : decode cX6_readNumber 0 = .ok (.aload_n 0, 1) := by decide +kernel
theorem dX6_readNumber_1 : decode cX6_readNumber 1 = .ok (.iconst 0, 1) := by decide +kernel
theorem dX6_readNumber_2 : decode cX6_readNumber 2 = .ok (.putfield 41, 3) := by decide +kernel
theorem dX6_readNumber_5 : decode cX6_readNumber 5 = .ok (.iconst 0, 1) := by decide +kernel
theorem dX6_readNumber_6 : decode cX6_readNumber 6 = .ok (.istore_n 1, 1) := by decide +kernel
theorem dX6_readNumber_7 : decode cX6_readNumber 7 = .ok (.iload_n 1, 1) := by decide +kernel
theorem dX6_readNumber_8 : decode cX6_readNumber 8 = .ok (.iconst 3, 1) := by decide +kernel
theorem dX6_readNumber_9 : decode cX6_readNumber 9 = .ok (.if_icmp .ge 56, 3) := by decide +kernel
theorem dX6_readNumber_12 : decode cX6_readNumber 12 = .ok (.aload_n 0, 1) := by decide +kernel
theorem dX6_readNumber_13 : decode cX6_readNumber 13 = .ok (.invokevirtual 26, 3) := by decide +kernel
theorem dX6_readNumber_16 : decode cX6_readNumber 16 = .ok (.bipush 48, 2) := by decide +kernel
theorem dX6_readNumber_18 : decode cX6_readNumber 18 = .ok (.if_icmp .lt 47, 3) := by decide +kernel
theorem dX6_readNumber_21 : decode cX6_readNumber 21 = .ok (.aload_n 0, 1) := by decide +kernel
theorem dX6_readNumber_22 : decode cX6_readNumber 22 = .ok (.invokevirtual 26, 3) := by decide +kernel
theorem dX6_readNumber_25 : decode cX6_readNumber 25 = .ok (.bipush 57, 2) := by decide +kernel
theorem dX6_readNumber_27 : decode cX6_readNumber 27 = .ok (.if_icmp .gt 38, 3) := by decide +kernel
theorem dX6_readNumber_30 : decode cX6_readNumber 30 = .ok (.aload_n 0, 1) := by decide +kernel
theorem dX6_readNumber_31 : decode cX6_readNumber 31 = .ok (.aload_n 0, 1) := by decide +kernel
theorem dX6_readNumber_32 : decode cX6_readNumber 32 = .ok (.getfield 41, 3) := by decide +kernel
theorem dX6_readNumber_35 : decode cX6_readNumber 35 = .ok (.bipush 10, 2) := by decide +kernel
theorem dX6_readNumber_37 : decode cX6_readNumber 37 = .ok (.imul, 1) := by decide +kernel
theorem dX6_readNumber_38 : decode cX6_readNumber 38 = .ok (.aload_n 0, 1) := by decide +kernel
theorem dX6_readNumber_39 : decode cX6_readNumber 39 = .ok (.invokevirtual 26, 3) := by decide +kernel
theorem dX6_readNumber_42 : decode cX6_readNumber 42 = .ok (.iadd, 1) := by decide +kernel
theorem dX6_readNumber_43 : decode cX6_readNumber 43 = .ok (.bipush 48, 2) := by decide +kernel
theorem dX6_readNumber_45 : decode cX6_readNumber 45 = .ok (.isub, 1) := by decide +kernel
theorem dX6_readNumber_46 : decode cX6_readNumber 46 = .ok (.putfield 41, 3) := by decide +kernel
theorem dX6_readNumber_49 : decode cX6_readNumber 49 = .ok (.aload_n 0, 1) := by decide +kernel
theorem dX6_readNumber_50 : decode cX6_readNumber 50 = .ok (.dup, 1) := by decide +kernel
theorem dX6_readNumber_51 : decode cX6_readNumber 51 = .ok (.getfield 20, 3) := by decide +kernel
theorem dX6_readNumber_54 : decode cX6_readNumber 54 = .ok (.iconst 1, 1) := by decide +kernel
theorem dX6_readNumber_55 : decode cX6_readNumber 55 = .ok (.iadd, 1) := by decide +kernel
theorem dX6_readNumber_56 : decode cX6_readNumber 56 = .ok (.putfield 20, 3) := by decide +kernel
theorem dX6_readNumber_59 : decode cX6_readNumber 59 = .ok (.iinc 1 1, 3) := by decide +kernel
theorem dX6_readNumber_62 : decode cX6_readNumber 62 = .ok (.goto (-55), 3) := by decide +kernel
theorem dX6_readNumber_65 : decode cX6_readNumber 65 = .ok (.iload_n 1, 1) := by decide +kernel
theorem dX6_readNumber_66 : decode cX6_readNumber 66 = .ok (.ifCond .le 7, 3) := by decide +kernel
theorem dX6_readNumber_69 : decode cX6_readNumber 69 = .ok (.iconst 1, 1) := by decide +kernel
theorem dX6_readNumber_70 : decode cX6_readNumber 70 = .ok (.goto 4, 3) := by decide +kernel
theorem dX6_readNumber_73 : decode cX6_readNumber 73 = .ok (.iconst 0, 1) := by decide +kernel
theorem dX6_readNumber_74 : decode cX6_readNumber 74 = .ok (.ireturn, 1) := by decide +kernel
theorem dX7_init_0 : decode cX7_init 0 = .ok (.aload_n 0, 1) := by decide +kernel
theorem dX7_init_1 : decode cX7_init 1 = .ok (.invokespecial 3, 3) := by decide +kernel
theorem dX7_init_4 : decode cX7_init 4 = .ok (.return_, 1) := by decide +kernel
theorem dX7_tryOrders_0 : decode cX7_tryOrders 0 = .ok (.aload_n 3, 1) := by decide +kernel
theorem dX7_tryOrders_1 : decode cX7_tryOrders 1 = .ok (.aload_n 2, 1) := by decide +kernel
theorem dX7_tryOrders_2 : decode cX7_tryOrders 2 = .ok (.invokevirtual 9, 3) := by decide +kernel
theorem dX7_tryOrders_5 : decode cX7_tryOrders 5 = .ok (.aload_n 0, 1) := by decide +kernel
theorem dX7_tryOrders_6 : decode cX7_tryOrders 6 = .ok (.iconst 0, 1) := by decide +kernel
theorem dX7_tryOrders_7 : decode cX7_tryOrders 7 = .ok (.putfield 15, 3) := by decide +kernel
theorem dX7_tryOrders_10 : decode cX7_tryOrders 10 = .ok (.aload_n 0, 1) := by decide +kernel
theorem dX7_tryOrders_11 : decode cX7_tryOrders 11 = .ok (.iconst 0, 1) := by decide +kernel
theorem dX7_tryOrders_12 : decode cX7_tryOrders 12 = .ok (.putfield 21, 3) := by decide +kernel
theorem dX7_tryOrders_15 : decode cX7_tryOrders 15 = .ok (.aload_n 1, 1) := by decide +kernel
theorem dX7_tryOrders_16 : decode cX7_tryOrders 16 = .ok (.invokevirtual 24, 3) := by decide +kernel
theorem dX7_tryOrders_19 : decode cX7_tryOrders 19 = .ok (.iconst 0, 1) := by decide +kernel
theorem dX7_tryOrders_20 : decode cX7_tryOrders 20 = .ok (.istore 4, 2) := by decide +kernel
theorem dX7_tryOrders_22 : decode cX7_tryOrders 22 = .ok (.iload 4, 2) := by decide +kernel
theorem dX7_tryOrders_24 : decode cX7_tryOrders 24 = .ok (.bipush 60, 2) := by decide +kernel
theorem dX7_tryOrders_26 : decode cX7_tryOrders 26 = .ok (.if_icmp .ge 105, 3) := by decide +kernel
theorem dX7_tryOrders_29 : decode cX7_tryOrders 29 = .ok (.aload_n 0, 1) := by decide +kernel
theorem dX7_tryOrders_30 : decode cX7_tryOrders 30 = .ok (.getfield 21, 3) := by decide +kernel
theorem dX7_tryOrders_33 : decode cX7_tryOrders 33 = .ok (.ifCond .ne 98, 3) := by decide +kernel
theorem dX7_tryOrders_36 : decode cX7_tryOrders 36 = .ok (.aload_n 1, 1) := by decide +kernel
theorem dX7_tryOrders_37 : decode cX7_tryOrders 37 = .ok (.invokevirtual 29, 3) := by decide +kernel
theorem dX7_tryOrders_40 : decode cX7_tryOrders 40 = .ok (.ifCond .eq 91, 3) := by decide +kernel
theorem dX7_tryOrders_43 : decode cX7_tryOrders 43 = .ok (.aload_n 1, 1) := by decide +kernel
theorem dX7_tryOrders_44 : decode cX7_tryOrders 44 = .ok (.invokevirtual 33, 3) := by decide +kernel
theorem dX7_tryOrders_47 : decode cX7_tryOrders 47 = .ok (.istore 5, 2) := by decide +kernel
theorem dX7_tryOrders_49 : decode cX7_tryOrders 49 = .ok (.iload 5, 2) := by decide +kernel
theorem dX7_tryOrders_51 : decode cX7_tryOrders 51 = .ok (.ifCond .eq 12, 3) := by decide +kernel
theorem dX7_tryOrders_54 : decode cX7_tryOrders 54 = .ok (.aload_n 0, 1) := by decide +kernel
theorem dX7_tryOrders_55 : decode cX7_tryOrders 55 = .ok (.aload_n 1, 1) := by decide +kernel
theorem dX7_tryOrders_56 : decode cX7_tryOrders 56 = .ok (.aload_n 3, 1) := by decide +kernel
theorem dX7_tryOrders_57 : decode cX7_tryOrders 57 = .ok (.invokevirtual 36, 3) := by decide +kernel
theorem dX7_tryOrders_60 : decode cX7_tryOrders 60 = .ok (.goto 12, 3) := by decide +kernel
theorem dX7_tryOrders_63 : decode cX7_tryOrders 63 = .ok (.aload_n 1, 1) := by decide +kernel
theorem dX7_tryOrders_64 : decode cX7_tryOrders 64 = .ok (.getfield 40, 3) := by decide +kernel
theorem dX7_tryOrders_67 : decode cX7_tryOrders 67 = .ok (.aload_n 1, 1) := by decide +kernel
theorem dX7_tryOrders_68 : decode cX7_tryOrders 68 = .ok (.getfield 43, 3) := by decide +kernel
theorem dX7_tryOrders_71 : decode cX7_tryOrders 71 = .ok (.isub, 1) := by decide +kernel
theorem dX7_tryOrders_72 : decode cX7_tryOrders 72 = .ok (.istore 6, 2) := by decide +kernel
theorem dX7_tryOrders_74 : decode cX7_tryOrders 74 = .ok (.iload 5, 2) := by decide +kernel
theorem dX7_tryOrders_76 : decode cX7_tryOrders 76 = .ok (.ifCond .eq 21, 3) := by decide +kernel
theorem dX7_tryOrders_79 : decode cX7_tryOrders 79 = .ok (.iload 6, 2) := by decide +kernel
theorem dX7_tryOrders_81 : decode cX7_tryOrders 81 = .ok (.ifCond .lt 16, 3) := by decide +kernel
theorem dX7_tryOrders_84 : decode cX7_tryOrders 84 = .ok (.aload_n 0, 1) := by decide +kernel
theorem dX7_tryOrders_85 : decode cX7_tryOrders 85 = .ok (.dup, 1) := by decide +kernel
theorem dX7_tryOrders_86 : decode cX7_tryOrders 86 = .ok (.getfield 15, 3) := by decide +kernel
theorem dX7_tryOrders_89 : decode cX7_tryOrders 89 = .ok (.iconst 1, 1) := by decide +kernel
theorem dX7_tryOrders_90 : decode cX7_tryOrders 90 = .ok (.iadd, 1) := by decide +kernel
theorem dX7_tryOrders_91 : decode cX7_tryOrders 91 = .ok (.putfield 15, 3) := by decide +kernel
theorem dX7_tryOrders_94 : decode cX7_tryOrders 94 = .ok (.goto 31, 3) := by decide +kernel
theorem dX7_tryOrders_97 : decode cX7_tryOrders 97 = .ok (.aload_n 0, 1) := by decide +kernel
theorem dX7_tryOrders_98 : decode cX7_tryOrders 98 = .ok (.aload_n 1, 1) := by decide +kernel
theorem dX7_tryOrders_99 : decode cX7_tryOrders 99 = .ok (.getfield 43, 3) := by decide +kernel
theorem dX7_tryOrders_102 : decode cX7_tryOrders 102 = .ok (.putfield 46, 3) := by decide +kernel
theorem dX7_tryOrders_105 : decode cX7_tryOrders 105 = .ok (.aload_n 0, 1) := by decide +kernel
theorem dX7_tryOrders_106 : decode cX7_tryOrders 106 = .ok (.iload 5, 2) := by decide +kernel
theorem dX7_tryOrders_108 : decode cX7_tryOrders 108 = .ok (.ifCond .eq 7, 3) := by decide +kernel
theorem dX7_tryOrders_111 : decode cX7_tryOrders 111 = .ok (.iconst 2, 1) := by decide +kernel
theorem dX7_tryOrders_112 : decode cX7_tryOrders 112 = .ok (.goto 4, 3) := by decide +kernel
theorem dX7_tryOrders_115 : decode cX7_tryOrders 115 = .ok (.iconst 1, 1) := by decide +kernel
theorem dX7_tryOrders_116 : decode cX7_tryOrders 116 = .ok (.putfield 21, 3) := by decide +kernel
theorem dX7_tryOrders_119 : decode cX7_tryOrders 119 = .ok (.aload_n 0, 1) := by decide +kernel
theorem dX7_tryOrders_120 : decode cX7_tryOrders 120 = .ok (.iload 6, 2) := by decide +kernel
theorem dX7_tryOrders_122 : decode cX7_tryOrders 122 = .ok (.putfield 47, 3) := by decide +kernel
theorem dX7_tryOrders_125 : decode cX7_tryOrders 125 = .ok (.iinc 4 1, 3) := by decide +kernel
theorem dX7_tryOrders_128 : decode cX7_tryOrders 128 = .ok (.goto (-106), 3) := by decide +kernel
theorem dX7_tryOrders_131 : decode cX7_tryOrders 131 = .ok (.return_, 1) := by decide +kernel
theorem dX7_obey_0 : decode cX7_obey 0 = .ok (.aload_n 1, 1) := by decide +kernel
theorem dX7_obey_1 : decode cX7_obey 1 = .ok (.getfield 50, 3) := by decide +kernel
theorem dX7_obey_4 : decode cX7_obey 4 = .ok (.tableswitch 155 100 120 #[135, 100, 140, 155, 155, 155, 155, 155, 155, 155, 150, 145, 155, 155, 155, 113, 155, 155, 155, 155, 126], 100) := by decide +kernel
theorem dX7_obey_104 : decode cX7_obey 104 = .ok (.aload_n 2, 1) := by decide +kernel
theorem dX7_obey_105 : decode cX7_obey 105 = .ok (.aload_n 1, 1) := by decide +kernel
theorem dX7_obey_106 : decode cX7_obey 106 = .ok (.getfield 53, 3) := by decide +kernel
theorem dX7_obey_109 : decode cX7_obey 109 = .ok (.aload_n 1, 1) := by decide +kernel
theorem dX7_obey_110 : decode cX7_obey 110 = .ok (.getfield 56, 3) := by decide +kernel
theorem dX7_obey_113 : decode cX7_obey 113 = .ok (.invokestatic 59, 3) := by decide +kernel
theorem dX7_obey_116 : decode cX7_obey 116 = .ok (.ireturn, 1) := by decide +kernel
theorem dX7_obey_117 : decode cX7_obey 117 = .ok (.aload_n 2, 1) := by decide +kernel
theorem dX7_obey_118 : decode cX7_obey 118 = .ok (.aload_n 1, 1) := by decide +kernel
theorem dX7_obey_119 : decode cX7_obey 119 = .ok (.getfield 53, 3) := by decide +kernel
theorem dX7_obey_122 : decode cX7_obey 122 = .ok (.aload_n 1, 1) := by decide +kernel
theorem dX7_obey_123 : decode cX7_obey 123 = .ok (.getfield 56, 3) := by decide +kernel
theorem dX7_obey_126 : decode cX7_obey 126 = .ok (.invokestatic 65, 3) := by decide +kernel
theorem dX7_obey_129 : decode cX7_obey 129 = .ok (.ireturn, 1) := by decide +kernel
theorem dX7_obey_130 : decode cX7_obey 130 = .ok (.aload_n 2, 1) := by decide +kernel
theorem dX7_obey_131 : decode cX7_obey 131 = .ok (.aload_n 1, 1) := by decide +kernel
theorem dX7_obey_132 : decode cX7_obey 132 = .ok (.getfield 53, 3) := by decide +kernel
theorem dX7_obey_135 : decode cX7_obey 135 = .ok (.invokestatic 68, 3) := by decide +kernel
theorem dX7_obey_138 : decode cX7_obey 138 = .ok (.ireturn, 1) := by decide +kernel
theorem dX7_obey_139 : decode cX7_obey 139 = .ok (.aload_n 2, 1) := by decide +kernel
theorem dX7_obey_140 : decode cX7_obey 140 = .ok (.invokestatic 72, 3) := by decide +kernel
theorem dX7_obey_143 : decode cX7_obey 143 = .ok (.ireturn, 1) := by decide +kernel
theorem dX7_obey_144 : decode cX7_obey 144 = .ok (.aload_n 2, 1) := by decide +kernel
theorem dX7_obey_145 : decode cX7_obey 145 = .ok (.invokestatic 76, 3) := by decide +kernel
theorem dX7_obey_148 : decode cX7_obey 148 = .ok (.ireturn, 1) := by decide +kernel
theorem dX7_obey_149 : decode cX7_obey 149 = .ok (.aload_n 2, 1) := by decide +kernel
theorem dX7_obey_150 : decode cX7_obey 150 = .ok (.invokestatic 79, 3) := by decide +kernel
theorem dX7_obey_153 : decode cX7_obey 153 = .ok (.ireturn, 1) := by decide +kernel
theorem dX7_obey_154 : decode cX7_obey 154 = .ok (.aload_n 2, 1) := by decide +kernel
theorem dX7_obey_155 : decode cX7_obey 155 = .ok (.invokestatic 82, 3) := by decide +kernel
theorem dX7_obey_158 : decode cX7_obey 158 = .ok (.ireturn, 1) := by decide +kernel
theorem dX7_obey_159 : decode cX7_obey 159 = .ok (.ldc 85, 2) := by decide +kernel
theorem dX7_obey_161 : decode cX7_obey 161 = .ok (.ireturn, 1) := by decide +kernel
theorem dX8_place_0 : decode cX8_place 0 = .ok (.aload_n 1, 1) := by decide +kernel
theorem dX8_place_1 : decode cX8_place 1 = .ok (.getfield 9, 3) := by decide +kernel
theorem dX8_place_4 : decode cX8_place 4 = .ok (.ifCond .gt 4, 3) := by decide +kernel
theorem dX8_place_7 : decode cX8_place 7 = .ok (.return_, 1) := by decide +kernel
theorem dX8_place_8 : decode cX8_place 8 = .ok (.aload_n 1, 1) := by decide +kernel
theorem dX8_place_9 : decode cX8_place 9 = .ok (.aload_n 0, 1) := by decide +kernel
theorem dX8_place_10 : decode cX8_place 10 = .ok (.aload_n 1, 1) := by decide +kernel
theorem dX8_place_11 : decode cX8_place 11 = .ok (.getfield 9, 3) := by decide +kernel
theorem dX8_place_14 : decode cX8_place 14 = .ok (.invokevirtual 15, 3) := by decide +kernel
theorem dX8_place_17 : decode cX8_place 17 = .ok (.iconst 1, 1) := by decide +kernel
theorem dX8_place_18 : decode cX8_place 18 = .ok (.iadd, 1) := by decide +kernel
theorem dX8_place_19 : decode cX8_place 19 = .ok (.putfield 21, 3) := by decide +kernel
theorem dX8_place_22 : decode cX8_place 22 = .ok (.aload_n 0, 1) := by decide +kernel
theorem dX8_place_23 : decode cX8_place 23 = .ok (.aload_n 1, 1) := by decide +kernel
theorem dX8_place_24 : decode cX8_place 24 = .ok (.getfield 9, 3) := by decide +kernel
theorem dX8_place_27 : decode cX8_place 27 = .ok (.iconst 1, 1) := by decide +kernel
theorem dX8_place_28 : decode cX8_place 28 = .ok (.iadd, 1) := by decide +kernel
theorem dX8_place_29 : decode cX8_place 29 = .ok (.invokevirtual 15, 3) := by decide +kernel
theorem dX8_place_32 : decode cX8_place 32 = .ok (.aload_n 0, 1) := by decide +kernel
theorem dX8_place_33 : decode cX8_place 33 = .ok (.aload_n 1, 1) := by decide +kernel
theorem dX8_place_34 : decode cX8_place 34 = .ok (.getfield 9, 3) := by decide +kernel
theorem dX8_place_37 : decode cX8_place 37 = .ok (.invokevirtual 15, 3) := by decide +kernel
theorem dX8_place_40 : decode cX8_place 40 = .ok (.isub, 1) := by decide +kernel
theorem dX8_place_41 : decode cX8_place 41 = .ok (.istore_n 2, 1) := by decide +kernel
theorem dX8_place_42 : decode cX8_place 42 = .ok (.aload_n 1, 1) := by decide +kernel
theorem dX8_place_43 : decode cX8_place 43 = .ok (.dup, 1) := by decide +kernel
theorem dX8_place_44 : decode cX8_place 44 = .ok (.getfield 24, 3) := by decide +kernel
theorem dX8_place_47 : decode cX8_place 47 = .ok (.aload_n 1, 1) := by decide +kernel
theorem dX8_place_48 : decode cX8_place 48 = .ok (.getfield 21, 3) := by decide +kernel
theorem dX8_place_51 : decode cX8_place 51 = .ok (.iload_n 2, 1) := by decide +kernel
theorem dX8_place_52 : decode cX8_place 52 = .ok (.aload_n 0, 1) := by decide +kernel
theorem dX8_place_53 : decode cX8_place 53 = .ok (.invokevirtual 27, 3) := by decide +kernel
theorem dX8_place_56 : decode cX8_place 56 = .ok (.invokestatic 31, 3) := by decide +kernel
theorem dX8_place_59 : decode cX8_place 59 = .ok (.iadd, 1) := by decide +kernel
theorem dX8_place_60 : decode cX8_place 60 = .ok (.putfield 24, 3) := by decide +kernel
theorem dX8_place_63 : decode cX8_place 63 = .ok (.return_, 1) := by decide +kernel
theorem dX8_shared_0 : decode cX8_shared 0 = .ok (.iconst 0, 1) := by decide +kernel
theorem dX8_shared_1 : decode cX8_shared 1 = .ok (.istore_n 3, 1) := by decide +kernel
theorem dX8_shared_2 : decode cX8_shared 2 = .ok (.iload_n 0, 1) := by decide +kernel
theorem dX8_shared_3 : decode cX8_shared 3 = .ok (.istore 4, 2) := by decide +kernel
theorem dX8_shared_5 : decode cX8_shared 5 = .ok (.iload 4, 2) := by decide +kernel
theorem dX8_shared_7 : decode cX8_shared 7 = .ok (.iload_n 0, 1) := by decide +kernel
theorem dX8_shared_8 : decode cX8_shared 8 = .ok (.iload_n 1, 1) := by decide +kernel
theorem dX8_shared_9 : decode cX8_shared 9 = .ok (.iadd, 1) := by decide +kernel
theorem dX8_shared_10 : decode cX8_shared 10 = .ok (.if_icmp .ge 30, 3) := by decide +kernel
theorem dX8_shared_13 : decode cX8_shared 13 = .ok (.iload_n 3, 1) := by decide +kernel
theorem dX8_shared_14 : decode cX8_shared 14 = .ok (.iload_n 2, 1) := by decide +kernel
theorem dX8_shared_15 : decode cX8_shared 15 = .ok (.iload 4, 2) := by decide +kernel
theorem dX8_shared_17 : decode cX8_shared 17 = .ok (.isub, 1) := by decide +kernel
theorem dX8_shared_18 : decode cX8_shared 18 = .ok (.iconst 1, 1) := by decide +kernel
theorem dX8_shared_19 : decode cX8_shared 19 = .ok (.iadd, 1) := by decide +kernel
theorem dX8_shared_20 : decode cX8_shared 20 = .ok (.iload 4, 2) := by decide +kernel
theorem dX8_shared_22 : decode cX8_shared 22 = .ok (.iconst 1, 1) := by decide +kernel
theorem dX8_shared_23 : decode cX8_shared 23 = .ok (.if_icmp .ne 7, 3) := by decide +kernel
theorem dX8_shared_26 : decode cX8_shared 26 = .ok (.iconst 1, 1) := by decide +kernel
theorem dX8_shared_27 : decode cX8_shared 27 = .ok (.goto 4, 3) := by decide +kernel
theorem dX8_shared_30 : decode cX8_shared 30 = .ok (.iconst 0, 1) := by decide +kernel
theorem dX8_shared_31 : decode cX8_shared 31 = .ok (.iadd, 1) := by decide +kernel
theorem dX8_shared_32 : decode cX8_shared 32 = .ok (.iadd, 1) := by decide +kernel
theorem dX8_shared_33 : decode cX8_shared 33 = .ok (.istore_n 3, 1) := by decide +kernel
theorem dX8_shared_34 : decode cX8_shared 34 = .ok (.iinc 4 1, 3) := by decide +kernel
theorem dX8_shared_37 : decode cX8_shared 37 = .ok (.goto (-32), 3) := by decide +kernel
theorem dX8_shared_40 : decode cX8_shared 40 = .ok (.iload_n 1, 1) := by decide +kernel
theorem dX8_shared_41 : decode cX8_shared 41 = .ok (.iconst 1, 1) := by decide +kernel
theorem dX8_shared_42 : decode cX8_shared 42 = .ok (.if_icmp .ge 7, 3) := by decide +kernel
theorem dX8_shared_45 : decode cX8_shared 45 = .ok (.iconst 0, 1) := by decide +kernel
theorem dX8_shared_46 : decode cX8_shared 46 = .ok (.goto 8, 3) := by decide +kernel
theorem dX8_shared_49 : decode cX8_shared 49 = .ok (.iconst 2, 1) := by decide +kernel
theorem dX8_shared_50 : decode cX8_shared 50 = .ok (.iload_n 3, 1) := by decide +kernel
theorem dX8_shared_51 : decode cX8_shared 51 = .ok (.imul, 1) := by decide +kernel
theorem dX8_shared_52 : decode cX8_shared 52 = .ok (.iload_n 1, 1) := by decide +kernel
theorem dX8_shared_53 : decode cX8_shared 53 = .ok (.idiv, 1) := by decide +kernel
theorem dX8_shared_54 : decode cX8_shared 54 = .ok (.ireturn, 1) := by decide +kernel
theorem dX8_ofClub_0 : decode cX8_ofClub 0 = .ok (.iconst 0, 1) := by decide +kernel
theorem dX8_ofClub_1 : decode cX8_ofClub 1 = .ok (.istore_n 2, 1) := by decide +kernel
theorem dX8_ofClub_2 : decode cX8_ofClub 2 = .ok (.iconst 0, 1) := by decide +kernel
theorem dX8_ofClub_3 : decode cX8_ofClub 3 = .ok (.istore_n 3, 1) := by decide +kernel
theorem dX8_ofClub_4 : decode cX8_ofClub 4 = .ok (.iload_n 3, 1) := by decide +kernel
theorem dX8_ofClub_5 : decode cX8_ofClub 5 = .ok (.aload_n 0, 1) := by decide +kernel
theorem dX8_ofClub_6 : decode cX8_ofClub 6 = .ok (.getfield 37, 3) := by decide +kernel
theorem dX8_ofClub_9 : decode cX8_ofClub 9 = .ok (.if_icmp .ge 34, 3) := by decide +kernel
theorem dX8_ofClub_12 : decode cX8_ofClub 12 = .ok (.aload_n 0, 1) := by decide +kernel
theorem dX8_ofClub_13 : decode cX8_ofClub 13 = .ok (.getfield 40, 3) := by decide +kernel
theorem dX8_ofClub_16 : decode cX8_ofClub 16 = .ok (.iload_n 3, 1) := by decide +kernel
theorem dX8_ofClub_17 : decode cX8_ofClub 17 = .ok (.aaload, 1) := by decide +kernel
theorem dX8_ofClub_18 : decode cX8_ofClub 18 = .ok (.getfield 44, 3) := by decide +kernel
theorem dX8_ofClub_21 : decode cX8_ofClub 21 = .ok (.iload_n 1, 1) := by decide +kernel
theorem dX8_ofClub_22 : decode cX8_ofClub 22 = .ok (.if_icmp .ne 15, 3) := by decide +kernel
theorem dX8_ofClub_25 : decode cX8_ofClub 25 = .ok (.iload_n 2, 1) := by decide +kernel
theorem dX8_ofClub_26 : decode cX8_ofClub 26 = .ok (.aload_n 0, 1) := by decide +kernel
theorem dX8_ofClub_27 : decode cX8_ofClub 27 = .ok (.getfield 40, 3) := by decide +kernel
theorem dX8_ofClub_30 : decode cX8_ofClub 30 = .ok (.iload_n 3, 1) := by decide +kernel
theorem dX8_ofClub_31 : decode cX8_ofClub 31 = .ok (.aaload, 1) := by decide +kernel
theorem dX8_ofClub_32 : decode cX8_ofClub 32 = .ok (.getfield 24, 3) := by decide +kernel
theorem dX8_ofClub_35 : decode cX8_ofClub 35 = .ok (.iadd, 1) := by decide +kernel
theorem dX8_ofClub_36 : decode cX8_ofClub 36 = .ok (.istore_n 2, 1) := by decide +kernel
theorem dX8_ofClub_37 : decode cX8_ofClub 37 = .ok (.iinc 3 1, 3) := by decide +kernel
theorem dX8_ofClub_40 : decode cX8_ofClub 40 = .ok (.goto (-36), 3) := by decide +kernel
theorem dX8_ofClub_43 : decode cX8_ofClub 43 = .ok (.iload_n 2, 1) := by decide +kernel
theorem dX8_ofClub_44 : decode cX8_ofClub 44 = .ok (.ireturn, 1) := by decide +kernel
theorem dX8_ofAllClubs_0 : decode cX8_ofAllClubs 0 = .ok (.iconst 0, 1) := by decide +kernel
theorem dX8_ofAllClubs_1 : decode cX8_ofAllClubs 1 = .ok (.istore_n 1, 1) := by decide +kernel
theorem dX8_ofAllClubs_2 : decode cX8_ofAllClubs 2 = .ok (.iconst 0, 1) := by decide +kernel
theorem dX8_ofAllClubs_3 : decode cX8_ofAllClubs 3 = .ok (.istore_n 2, 1) := by decide +kernel
theorem dX8_ofAllClubs_4 : decode cX8_ofAllClubs 4 = .ok (.iload_n 2, 1) := by decide +kernel
theorem dX8_ofAllClubs_5 : decode cX8_ofAllClubs 5 = .ok (.aload_n 0, 1) := by decide +kernel
theorem dX8_ofAllClubs_6 : decode cX8_ofAllClubs 6 = .ok (.getfield 37, 3) := by decide +kernel
theorem dX8_ofAllClubs_9 : decode cX8_ofAllClubs 9 = .ok (.if_icmp .ge 21, 3) := by decide +kernel
theorem dX8_ofAllClubs_12 : decode cX8_ofAllClubs 12 = .ok (.iload_n 1, 1) := by decide +kernel
theorem dX8_ofAllClubs_13 : decode cX8_ofAllClubs 13 = .ok (.aload_n 0, 1) := by decide +kernel
theorem dX8_ofAllClubs_14 : decode cX8_ofAllClubs 14 = .ok (.getfield 40, 3) := by decide +kernel
theorem dX8_ofAllClubs_17 : decode cX8_ofAllClubs 17 = .ok (.iload_n 2, 1) := by decide +kernel
theorem dX8_ofAllClubs_18 : decode cX8_ofAllClubs 18 = .ok (.aaload, 1) := by decide +kernel
theorem dX8_ofAllClubs_19 : decode cX8_ofAllClubs 19 = .ok (.getfield 24, 3) := by decide +kernel
theorem dX8_ofAllClubs_22 : decode cX8_ofAllClubs 22 = .ok (.iadd, 1) := by decide +kernel
theorem dX8_ofAllClubs_23 : decode cX8_ofAllClubs 23 = .ok (.istore_n 1, 1) := by decide +kernel
theorem dX8_ofAllClubs_24 : decode cX8_ofAllClubs 24 = .ok (.iinc 2 1, 3) := by decide +kernel
theorem dX8_ofAllClubs_27 : decode cX8_ofAllClubs 27 = .ok (.goto (-23), 3) := by decide +kernel
theorem dX8_ofAllClubs_30 : decode cX8_ofAllClubs 30 = .ok (.iload_n 1, 1) := by decide +kernel
theorem dX8_ofAllClubs_31 : decode cX8_ofAllClubs 31 = .ok (.ireturn, 1) := by decide +kernel
theorem dX8_clubAtRank_0 : decode cX8_clubAtRank 0 = .ok (.iconst 0, 1) := by decide +kernel
theorem dX8_clubAtRank_1 : decode cX8_clubAtRank 1 = .ok (.istore_n 2, 1) := by decide +kernel
theorem dX8_clubAtRank_2 : decode cX8_clubAtRank 2 = .ok (.iload_n 2, 1) := by decide +kernel
theorem dX8_clubAtRank_3 : decode cX8_clubAtRank 3 = .ok (.bipush 6, 2) := by decide +kernel
theorem dX8_clubAtRank_5 : decode cX8_clubAtRank 5 = .ok (.if_icmp .ge 20, 3) := by decide +kernel
theorem dX8_clubAtRank_8 : decode cX8_clubAtRank 8 = .ok (.aload_n 0, 1) := by decide +kernel
theorem dX8_clubAtRank_9 : decode cX8_clubAtRank 9 = .ok (.iload_n 2, 1) := by decide +kernel
theorem dX8_clubAtRank_10 : decode cX8_clubAtRank 10 = .ok (.invokestatic 47, 3) := by decide +kernel
theorem dX8_clubAtRank_13 : decode cX8_clubAtRank 13 = .ok (.iload_n 1, 1) := by decide +kernel
theorem dX8_clubAtRank_14 : decode cX8_clubAtRank 14 = .ok (.if_icmp .ne 5, 3) := by decide +kernel
theorem dX8_clubAtRank_17 : decode cX8_clubAtRank 17 = .ok (.iload_n 2, 1) := by decide +kernel
theorem dX8_clubAtRank_18 : decode cX8_clubAtRank 18 = .ok (.ireturn, 1) := by decide +kernel
theorem dX8_clubAtRank_19 : decode cX8_clubAtRank 19 = .ok (.iinc 2 1, 3) := by decide +kernel
theorem dX8_clubAtRank_22 : decode cX8_clubAtRank 22 = .ok (.goto (-20), 3) := by decide +kernel
theorem dX8_clubAtRank_25 : decode cX8_clubAtRank 25 = .ok (.ldc 51, 2) := by decide +kernel
theorem dX8_clubAtRank_27 : decode cX8_clubAtRank 27 = .ok (.ireturn, 1) := by decide +kernel
theorem dX8_clubsAhead_0 : decode cX8_clubsAhead 0 = .ok (.aload_n 0, 1) := by decide +kernel
theorem dX8_clubsAhead_1 : decode cX8_clubsAhead 1 = .ok (.iload_n 1, 1) := by decide +kernel
theorem dX8_clubsAhead_2 : decode cX8_clubsAhead 2 = .ok (.invokestatic 52, 3) := by decide +kernel
theorem dX8_clubsAhead_5 : decode cX8_clubsAhead 5 = .ok (.istore_n 2, 1) := by decide +kernel
theorem dX8_clubsAhead_6 : decode cX8_clubsAhead 6 = .ok (.iconst 0, 1) := by decide +kernel
theorem dX8_clubsAhead_7 : decode cX8_clubsAhead 7 = .ok (.istore_n 3, 1) := by decide +kernel
theorem dX8_clubsAhead_8 : decode cX8_clubsAhead 8 = .ok (.iconst 0, 1) := by decide +kernel
theorem dX8_clubsAhead_9 : decode cX8_clubsAhead 9 = .ok (.istore 4, 2) := by decide +kernel
theorem dX8_clubsAhead_11 : decode cX8_clubsAhead 11 = .ok (.iload 4, 2) := by decide +kernel
theorem dX8_clubsAhead_13 : decode cX8_clubsAhead 13 = .ok (.bipush 6, 2) := by decide +kernel
theorem dX8_clubsAhead_15 : decode cX8_clubsAhead 15 = .ok (.if_icmp .ge 38, 3) := by decide +kernel
theorem dX8_clubsAhead_18 : decode cX8_clubsAhead 18 = .ok (.aload_n 0, 1) := by decide +kernel
theorem dX8_clubsAhead_19 : decode cX8_clubsAhead 19 = .ok (.iload 4, 2) := by decide +kernel
theorem dX8_clubsAhead_21 : decode cX8_clubsAhead 21 = .ok (.invokestatic 52, 3) := by decide +kernel
theorem dX8_clubsAhead_24 : decode cX8_clubsAhead 24 = .ok (.istore 5, 2) := by decide +kernel
theorem dX8_clubsAhead_26 : decode cX8_clubsAhead 26 = .ok (.iload 5, 2) := by decide +kernel
theorem dX8_clubsAhead_28 : decode cX8_clubsAhead 28 = .ok (.iload_n 2, 1) := by decide +kernel
theorem dX8_clubsAhead_29 : decode cX8_clubsAhead 29 = .ok (.if_icmp .gt 15, 3) := by decide +kernel
theorem dX8_clubsAhead_32 : decode cX8_clubsAhead 32 = .ok (.iload 5, 2) := by decide +kernel
theorem dX8_clubsAhead_34 : decode cX8_clubsAhead 34 = .ok (.iload_n 2, 1) := by decide +kernel
theorem dX8_clubsAhead_35 : decode cX8_clubsAhead 35 = .ok (.if_icmp .ne 12, 3) := by decide +kernel
theorem dX8_clubsAhead_38 : decode cX8_clubsAhead 38 = .ok (.iload 4, 2) := by decide +kernel
theorem dX8_clubsAhead_40 : decode cX8_clubsAhead 40 = .ok (.iload_n 1, 1) := by decide +kernel
theorem dX8_clubsAhead_41 : decode cX8_clubsAhead 41 = .ok (.if_icmp .ge 6, 3) := by decide +kernel
theorem dX8_clubsAhead_44 : decode cX8_clubsAhead 44 = .ok (.iinc 3 1, 3) := by decide +kernel
theorem dX8_clubsAhead_47 : decode cX8_clubsAhead 47 = .ok (.iinc 4 1, 3) := by decide +kernel
theorem dX8_clubsAhead_50 : decode cX8_clubsAhead 50 = .ok (.goto (-39), 3) := by decide +kernel
theorem dX8_clubsAhead_53 : decode cX8_clubsAhead 53 = .ok (.iload_n 3, 1) := by decide +kernel
theorem dX8_clubsAhead_54 : decode cX8_clubsAhead 54 = .ok (.ireturn, 1) := by decide +kernel
theorem dX9_allow_0 : decode cX9_allow 0 = .ok (.iload_n 0, 1) := by decide +kernel
theorem dX9_allow_1 : decode cX9_allow 1 = .ok (.ifCond .lt 30, 3) := by decide +kernel
theorem dX9_allow_4 : decode cX9_allow 4 = .ok (.iload_n 0, 1) := by decide +kernel
theorem dX9_allow_5 : decode cX9_allow 5 = .ok (.iconst 3, 1) := by decide +kernel
theorem dX9_allow_6 : decode cX9_allow 6 = .ok (.if_icmp .ge 25, 3) := by decide +kernel
theorem dX9_allow_9 : decode cX9_allow 9 = .ok (.iload_n 1, 1) := by decide +kernel
theorem dX9_allow_10 : decode cX9_allow 10 = .ok (.getstatic 9, 3) := by decide +kernel
theorem dX9_allow_13 : decode cX9_allow 13 = .ok (.iload_n 0, 1) := by decide +kernel
theorem dX9_allow_14 : decode cX9_allow 14 = .ok (.iaload, 1) := by decide +kernel
theorem dX9_allow_15 : decode cX9_allow 15 = .ok (.if_icmp .lt 16, 3) := by decide +kernel
theorem dX9_allow_18 : decode cX9_allow 18 = .ok (.iload_n 1, 1) := by decide +kernel
theorem dX9_allow_19 : decode cX9_allow 19 = .ok (.getstatic 15, 3) := by decide +kernel
theorem dX9_allow_22 : decode cX9_allow 22 = .ok (.iload_n 0, 1) := by decide +kernel
theorem dX9_allow_23 : decode cX9_allow 23 = .ok (.iaload, 1) := by decide +kernel
theorem dX9_allow_24 : decode cX9_allow 24 = .ok (.if_icmp .gt 7, 3) := by decide +kernel
theorem dX9_allow_27 : decode cX9_allow 27 = .ok (.iconst 1, 1) := by decide +kernel
theorem dX9_allow_28 : decode cX9_allow 28 = .ok (.goto 4, 3) := by decide +kernel
theorem dX9_allow_31 : decode cX9_allow 31 = .ok (.iconst 0, 1) := by decide +kernel
theorem dX9_allow_32 : decode cX9_allow 32 = .ok (.ireturn, 1) := by decide +kernel
theorem dX10_init_0 : decode cX10_init 0 = .ok (.aload_n 0, 1) := by decide +kernel
theorem dX10_init_1 : decode cX10_init 1 = .ok (.invokespecial 3, 3) := by decide +kernel
theorem dX10_init_4 : decode cX10_init 4 = .ok (.aload_n 0, 1) := by decide +kernel
theorem dX10_init_5 : decode cX10_init 5 = .ok (.iload_n 1, 1) := by decide +kernel
theorem dX10_init_6 : decode cX10_init 6 = .ok (.putfield 9, 3) := by decide +kernel
theorem dX10_init_9 : decode cX10_init 9 = .ok (.return_, 1) := by decide +kernel
theorem dX10_join_0 : decode cX10_join 0 = .ok (.aload_n 0, 1) := by decide +kernel
theorem dX10_join_1 : decode cX10_join 1 = .ok (.iload_n 1, 1) := by decide +kernel
theorem dX10_join_2 : decode cX10_join 2 = .ok (.putfield 15, 3) := by decide +kernel
theorem dX10_join_5 : decode cX10_join 5 = .ok (.aload_n 0, 1) := by decide +kernel
theorem dX10_join_6 : decode cX10_join 6 = .ok (.iload_n 2, 1) := by decide +kernel
theorem dX10_join_7 : decode cX10_join 7 = .ok (.putfield 18, 3) := by decide +kernel
theorem dX10_join_10 : decode cX10_join 10 = .ok (.aload_n 0, 1) := by decide +kernel
theorem dX10_join_11 : decode cX10_join 11 = .ok (.iconst 0, 1) := by decide +kernel
theorem dX10_join_12 : decode cX10_join 12 = .ok (.putfield 21, 3) := by decide +kernel
theorem dX10_join_15 : decode cX10_join 15 = .ok (.aload_n 0, 1) := by decide +kernel
theorem dX10_join_16 : decode cX10_join 16 = .ok (.invokevirtual 24, 3) := by decide +kernel
theorem dX10_join_19 : decode cX10_join 19 = .ok (.return_, 1) := by decide +kernel
theorem dX10_forgetEvent_0 : decode cX10_forgetEvent 0 = .ok (.aload_n 0, 1) := by decide +kernel
theorem dX10_forgetEvent_1 : decode cX10_forgetEvent 1 = .ok (.iconst 0, 1) := by decide +kernel
theorem dX10_forgetEvent_2 : decode cX10_forgetEvent 2 = .ok (.putfield 27, 3) := by decide +kernel
theorem dX10_forgetEvent_5 : decode cX10_forgetEvent 5 = .ok (.aload_n 0, 1) := by decide +kernel
theorem dX10_forgetEvent_6 : decode cX10_forgetEvent 6 = .ok (.iconst 0, 1) := by decide +kernel
theorem dX10_forgetEvent_7 : decode cX10_forgetEvent 7 = .ok (.putfield 31, 3) := by decide +kernel
theorem dX10_forgetEvent_10 : decode cX10_forgetEvent 10 = .ok (.aload_n 0, 1) := by decide +kernel
theorem dX10_forgetEvent_11 : decode cX10_forgetEvent 11 = .ok (.invokevirtual 34, 3) := by decide +kernel
theorem dX10_forgetEvent_14 : decode cX10_forgetEvent 14 = .ok (.aload_n 0, 1) := by decide +kernel
theorem dX10_forgetEvent_15 : decode cX10_forgetEvent 15 = .ok (.invokevirtual 37, 3) := by decide +kernel
theorem dX10_forgetEvent_18 : decode cX10_forgetEvent 18 = .ok (.return_, 1) := by decide +kernel
theorem dX10_leaveHeat_0 : decode cX10_leaveHeat 0 = .ok (.aload_n 0, 1) := by decide +kernel
theorem dX10_leaveHeat_1 : decode cX10_leaveHeat 1 = .ok (.iconst (-1), 1) := by decide +kernel
theorem dX10_leaveHeat_2 : decode cX10_leaveHeat 2 = .ok (.putfield 40, 3) := by decide +kernel
theorem dX10_leaveHeat_5 : decode cX10_leaveHeat 5 = .ok (.aload_n 0, 1) := by decide +kernel
theorem dX10_leaveHeat_6 : decode cX10_leaveHeat 6 = .ok (.iconst 0, 1) := by decide +kernel
theorem dX10_leaveHeat_7 : decode cX10_leaveHeat 7 = .ok (.putfield 43, 3) := by decide +kernel
theorem dX10_leaveHeat_10 : decode cX10_leaveHeat 10 = .ok (.aload_n 0, 1) := by decide +kernel
theorem dX10_leaveHeat_11 : decode cX10_leaveHeat 11 = .ok (.iconst (-1), 1) := by decide +kernel
theorem dX10_leaveHeat_12 : decode cX10_leaveHeat 12 = .ok (.putfield 46, 3) := by decide +kernel
theorem dX10_leaveHeat_15 : decode cX10_leaveHeat 15 = .ok (.return_, 1) := by decide +kernel
theorem dX10_leaveFinal_0 : decode cX10_leaveFinal 0 = .ok (.aload_n 0, 1) := by decide +kernel
theorem dX10_leaveFinal_1 : decode cX10_leaveFinal 1 = .ok (.iconst 0, 1) := by decide +kernel
theorem dX10_leaveFinal_2 : decode cX10_leaveFinal 2 = .ok (.putfield 49, 3) := by decide +kernel
theorem dX10_leaveFinal_5 : decode cX10_leaveFinal 5 = .ok (.aload_n 0, 1) := by decide +kernel
theorem dX10_leaveFinal_6 : decode cX10_leaveFinal 6 = .ok (.iconst (-1), 1) := by decide +kernel
theorem dX10_leaveFinal_7 : decode cX10_leaveFinal 7 = .ok (.putfield 52, 3) := by decide +kernel
theorem dX10_leaveFinal_10 : decode cX10_leaveFinal 10 = .ok (.return_, 1) := by decide +kernel
theorem dX10_isIn_0 : decode cX10_isIn 0 = .ok (.iload_n 1, 1) := by decide +kernel
theorem dX10_isIn_1 : decode cX10_isIn 1 = .ok (.iconst (-1), 1) := by decide +kernel
theorem dX10_isIn_2 : decode cX10_isIn 2 = .ok (.if_icmp .ne 18, 3) := by decide +kernel
theorem dX10_isIn_5 : decode cX10_isIn 5 = .ok (.aload_n 0, 1) := by decide +kernel
theorem dX10_isIn_6 : decode cX10_isIn 6 = .ok (.getfield 49, 3) := by decide +kernel
theorem dX10_isIn_9 : decode cX10_isIn 9 = .ok (.ifCond .eq 7, 3) := by decide +kernel
theorem dX10_isIn_12 : decode cX10_isIn 12 = .ok (.iconst 1, 1) := by decide +kernel
theorem dX10_isIn_13 : decode cX10_isIn 13 = .ok (.goto 20, 3) := by decide +kernel
theorem dX10_isIn_16 : decode cX10_isIn 16 = .ok (.iconst 0, 1) := by decide +kernel
theorem dX10_isIn_17 : decode cX10_isIn 17 = .ok (.goto 16, 3) := by decide +kernel
theorem dX10_isIn_20 : decode cX10_isIn 20 = .ok (.aload_n 0, 1) := by decide +kernel
theorem dX10_isIn_21 : decode cX10_isIn 21 = .ok (.getfield 40, 3) := by decide +kernel
theorem dX10_isIn_24 : decode cX10_isIn 24 = .ok (.iload_n 1, 1) := by decide +kernel
theorem dX10_isIn_25 : decode cX10_isIn 25 = .ok (.if_icmp .ne 7, 3) := by decide +kernel
theorem dX10_isIn_28 : decode cX10_isIn 28 = .ok (.iconst 1, 1) := by decide +kernel
theorem dX10_isIn_29 : decode cX10_isIn 29 = .ok (.goto 4, 3) := by decide +kernel
theorem dX10_isIn_32 : decode cX10_isIn 32 = .ok (.iconst 0, 1) := by decide +kernel
theorem dX10_isIn_33 : decode cX10_isIn 33 = .ok (.ireturn, 1) := by decide +kernel
theorem dX10_laneOf_0 : decode cX10_laneOf 0 = .ok (.iload_n 1, 1) := by decide +kernel
theorem dX10_laneOf_1 : decode cX10_laneOf 1 = .ok (.iconst (-1), 1) := by decide +kernel
theorem dX10_laneOf_2 : decode cX10_laneOf 2 = .ok (.if_icmp .ne 10, 3) := by decide +kernel
theorem dX10_laneOf_5 : decode cX10_laneOf 5 = .ok (.aload_n 0, 1) := by decide +kernel
theorem dX10_laneOf_6 : decode cX10_laneOf 6 = .ok (.getfield 49, 3) := by decide +kernel
theorem dX10_laneOf_9 : decode cX10_laneOf 9 = .ok (.goto 7, 3) := by decide +kernel
theorem dX10_laneOf_12 : decode cX10_laneOf 12 = .ok (.aload_n 0, 1) := by decide +kernel
theorem dX10_laneOf_13 : decode cX10_laneOf 13 = .ok (.getfield 43, 3) := by decide +kernel
theorem dX10_laneOf_16 : decode cX10_laneOf 16 = .ok (.ireturn, 1) := by decide +kernel
theorem dX10_timeOf_0 : decode cX10_timeOf 0 = .ok (.iload_n 1, 1) := by decide +kernel
theorem dX10_timeOf_1 : decode cX10_timeOf 1 = .ok (.iconst (-1), 1) := by decide +kernel
theorem dX10_timeOf_2 : decode cX10_timeOf 2 = .ok (.if_icmp .ne 10, 3) := by decide +kernel
theorem dX10_timeOf_5 : decode cX10_timeOf 5 = .ok (.aload_n 0, 1) := by decide +kernel
theorem dX10_timeOf_6 : decode cX10_timeOf 6 = .ok (.getfield 52, 3) := by decide +kernel
theorem dX10_timeOf_9 : decode cX10_timeOf 9 = .ok (.goto 7, 3) := by decide +kernel
theorem dX10_timeOf_12 : decode cX10_timeOf 12 = .ok (.aload_n 0, 1) := by decide +kernel
theorem dX10_timeOf_13 : decode cX10_timeOf 13 = .ok (.getfield 46, 3) := by decide +kernel
theorem dX10_timeOf_16 : decode cX10_timeOf 16 = .ok (.ireturn, 1) := by decide +kernel
theorem dX10_aheadByEntry_0 : decode cX10_aheadByEntry 0 = .ok (.aload_n 0, 1) := by decide +kernel
theorem dX10_aheadByEntry_1 : decode cX10_aheadByEntry 1 = .ok (.getfield 18, 3) := by decide +kernel
theorem dX10_aheadByEntry_4 : decode cX10_aheadByEntry 4 = .ok (.aload_n 1, 1) := by decide +kernel
theorem dX10_aheadByEntry_5 : decode cX10_aheadByEntry 5 = .ok (.getfield 18, 3) := by decide +kernel
theorem dX10_aheadByEntry_8 : decode cX10_aheadByEntry 8 = .ok (.if_icmp .eq 34, 3) := by decide +kernel
theorem dX10_aheadByEntry_11 : decode cX10_aheadByEntry 11 = .ok (.aload_n 1, 1) := by decide +kernel
theorem dX10_aheadByEntry_12 : decode cX10_aheadByEntry 12 = .ok (.getfield 18, 3) := by decide +kernel
theorem dX10_aheadByEntry_15 : decode cX10_aheadByEntry 15 = .ok (.ifCond .eq 21, 3) := by decide +kernel
theorem dX10_aheadByEntry_18 : decode cX10_aheadByEntry 18 = .ok (.aload_n 0, 1) := by decide +kernel
theorem dX10_aheadByEntry_19 : decode cX10_aheadByEntry 19 = .ok (.getfield 18, 3) := by decide +kernel
theorem dX10_aheadByEntry_22 : decode cX10_aheadByEntry 22 = .ok (.ifCond .eq 18, 3) := by decide +kernel
theorem dX10_aheadByEntry_25 : decode cX10_aheadByEntry 25 = .ok (.aload_n 0, 1) := by decide +kernel
theorem dX10_aheadByEntry_26 : decode cX10_aheadByEntry 26 = .ok (.getfield 18, 3) := by decide +kernel
theorem dX10_aheadByEntry_29 : decode cX10_aheadByEntry 29 = .ok (.aload_n 1, 1) := by decide +kernel
theorem dX10_aheadByEntry_30 : decode cX10_aheadByEntry 30 = .ok (.getfield 18, 3) := by decide +kernel
theorem dX10_aheadByEntry_33 : decode cX10_aheadByEntry 33 = .ok (.if_icmp .ge 7, 3) := by decide +kernel
theorem dX10_aheadByEntry_36 : decode cX10_aheadByEntry 36 = .ok (.iconst 1, 1) := by decide +kernel
theorem dX10_aheadByEntry_37 : decode cX10_aheadByEntry 37 = .ok (.goto 4, 3) := by decide +kernel
theorem dX10_aheadByEntry_40 : decode cX10_aheadByEntry 40 = .ok (.iconst 0, 1) := by decide +kernel
theorem dX10_aheadByEntry_41 : decode cX10_aheadByEntry 41 = .ok (.ireturn, 1) := by decide +kernel
theorem dX10_aheadByEntry_42 : decode cX10_aheadByEntry 42 = .ok (.aload_n 0, 1) := by decide +kernel
theorem dX10_aheadByEntry_43 : decode cX10_aheadByEntry 43 = .ok (.getfield 9, 3) := by decide +kernel
theorem dX10_aheadByEntry_46 : decode cX10_aheadByEntry 46 = .ok (.aload_n 1, 1) := by decide +kernel
theorem dX10_aheadByEntry_47 : decode cX10_aheadByEntry 47 = .ok (.getfield 9, 3) := by decide +kernel
theorem dX10_aheadByEntry_50 : decode cX10_aheadByEntry 50 = .ok (.if_icmp .ge 7, 3) := by decide +kernel
theorem dX10_aheadByEntry_53 : decode cX10_aheadByEntry 53 = .ok (.iconst 1, 1) := by decide +kernel
theorem dX10_aheadByEntry_54 : decode cX10_aheadByEntry 54 = .ok (.goto 4, 3) := by decide +kernel
theorem dX10_aheadByEntry_57 : decode cX10_aheadByEntry 57 = .ok (.iconst 0, 1) := by decide +kernel
theorem dX10_aheadByEntry_58 : decode cX10_aheadByEntry 58 = .ok (.ireturn, 1) := by decide +kernel
theorem dX10_aheadByHeatTime_0 : decode cX10_aheadByHeatTime 0 = .ok (.aload_n 0, 1) := by decide +kernel
theorem dX10_aheadByHeatTime_1 : decode cX10_aheadByHeatTime 1 = .ok (.getfield 46, 3) := by decide +kernel
theorem dX10_aheadByHeatTime_4 : decode cX10_aheadByHeatTime 4 = .ok (.aload_n 1, 1) := by decide +kernel
theorem dX10_aheadByHeatTime_5 : decode cX10_aheadByHeatTime 5 = .ok (.getfield 46, 3) := by decide +kernel
theorem dX10_aheadByHeatTime_8 : decode cX10_aheadByHeatTime 8 = .ok (.if_icmp .eq 22, 3) := by decide +kernel
theorem dX10_aheadByHeatTime_11 : decode cX10_aheadByHeatTime 11 = .ok (.aload_n 0, 1) := by decide +kernel
theorem dX10_aheadByHeatTime_12 : decode cX10_aheadByHeatTime 12 = .ok (.getfield 46, 3) := by decide +kernel
theorem dX10_aheadByHeatTime_15 : decode cX10_aheadByHeatTime 15 = .ok (.aload_n 1, 1) := by decide +kernel
theorem dX10_aheadByHeatTime_16 : decode cX10_aheadByHeatTime 16 = .ok (.getfield 46, 3) := by decide +kernel
theorem dX10_aheadByHeatTime_19 : decode cX10_aheadByHeatTime 19 = .ok (.if_icmp .ge 7, 3) := by decide +kernel
theorem dX10_aheadByHeatTime_22 : decode cX10_aheadByHeatTime 22 = .ok (.iconst 1, 1) := by decide +kernel
theorem dX10_aheadByHeatTime_23 : decode cX10_aheadByHeatTime 23 = .ok (.goto 12, 3) := by decide +kernel
theorem dX10_aheadByHeatTime_26 : decode cX10_aheadByHeatTime 26 = .ok (.iconst 0, 1) := by decide +kernel
theorem dX10_aheadByHeatTime_27 : decode cX10_aheadByHeatTime 27 = .ok (.goto 8, 3) := by decide +kernel
theorem dX10_aheadByHeatTime_30 : decode cX10_aheadByHeatTime 30 = .ok (.aload_n 0, 1) := by decide +kernel
theorem dX10_aheadByHeatTime_31 : decode cX10_aheadByHeatTime 31 = .ok (.aload_n 1, 1) := by decide +kernel
theorem dX10_aheadByHeatTime_32 : decode cX10_aheadByHeatTime 32 = .ok (.invokevirtual 55, 3) := by decide +kernel
theorem dX10_aheadByHeatTime_35 : decode cX10_aheadByHeatTime 35 = .ok (.ireturn, 1) := by decide +kernel
theorem dX10_bestTime_0 : decode cX10_bestTime 0 = .ok (.aload_n 0, 1) := by decide +kernel
theorem dX10_bestTime_1 : decode cX10_bestTime 1 = .ok (.getfield 18, 3) := by decide +kernel
theorem dX10_bestTime_4 : decode cX10_bestTime 4 = .ok (.istore_n 1, 1) := by decide +kernel
theorem dX10_bestTime_5 : decode cX10_bestTime 5 = .ok (.aload_n 0, 1) := by decide +kernel
theorem dX10_bestTime_6 : decode cX10_bestTime 6 = .ok (.getfield 46, 3) := by decide +kernel
theorem dX10_bestTime_9 : decode cX10_bestTime 9 = .ok (.ifCond .le 20, 3) := by decide +kernel
theorem dX10_bestTime_12 : decode cX10_bestTime 12 = .ok (.iload_n 1, 1) := by decide +kernel
theorem dX10_bestTime_13 : decode cX10_bestTime 13 = .ok (.ifCond .eq 11, 3) := by decide +kernel
theorem dX10_bestTime_16 : decode cX10_bestTime 16 = .ok (.aload_n 0, 1) := by decide +kernel
theorem dX10_bestTime_17 : decode cX10_bestTime 17 = .ok (.getfield 46, 3) := by decide +kernel
theorem dX10_bestTime_20 : decode cX10_bestTime 20 = .ok (.iload_n 1, 1) := by decide +kernel
theorem dX10_bestTime_21 : decode cX10_bestTime 21 = .ok (.if_icmp .ge 8, 3) := by decide +kernel
theorem dX10_bestTime_24 : decode cX10_bestTime 24 = .ok (.aload_n 0, 1) := by decide +kernel
theorem dX10_bestTime_25 : decode cX10_bestTime 25 = .ok (.getfield 46, 3) := by decide +kernel
theorem dX10_bestTime_28 : decode cX10_bestTime 28 = .ok (.istore_n 1, 1) := by decide +kernel
theorem dX10_bestTime_29 : decode cX10_bestTime 29 = .ok (.aload_n 0, 1) := by decide +kernel
theorem dX10_bestTime_30 : decode cX10_bestTime 30 = .ok (.getfield 52, 3) := by decide +kernel
theorem dX10_bestTime_33 : decode cX10_bestTime 33 = .ok (.ifCond .le 20, 3) := by decide +kernel
theorem dX10_bestTime_36 : decode cX10_bestTime 36 = .ok (.iload_n 1, 1) := by decide +kernel
theorem dX10_bestTime_37 : decode cX10_bestTime 37 = .ok (.ifCond .eq 11, 3) := by decide +kernel
theorem dX10_bestTime_40 : decode cX10_bestTime 40 = .ok (.aload_n 0, 1) := by decide +kernel
theorem dX10_bestTime_41 : decode cX10_bestTime 41 = .ok (.getfield 52, 3) := by decide +kernel
theorem dX10_bestTime_44 : decode cX10_bestTime 44 = .ok (.iload_n 1, 1) := by decide +kernel
theorem dX10_bestTime_45 : decode cX10_bestTime 45 = .ok (.if_icmp .ge 8, 3) := by decide +kernel
theorem dX10_bestTime_48 : decode cX10_bestTime 48 = .ok (.aload_n 0, 1) := by decide +kernel
theorem dX10_bestTime_49 : decode cX10_bestTime 49 = .ok (.getfield 52, 3) := by decide +kernel
theorem dX10_bestTime_52 : decode cX10_bestTime 52 = .ok (.istore_n 1, 1) := by decide +kernel
theorem dX10_bestTime_53 : decode cX10_bestTime 53 = .ok (.iload_n 1, 1) := by decide +kernel
theorem dX10_bestTime_54 : decode cX10_bestTime 54 = .ok (.ireturn, 1) := by decide +kernel
theorem dX10_copyFrom_0 : decode cX10_copyFrom 0 = .ok (.aload_n 0, 1) := by decide +kernel
theorem dX10_copyFrom_1 : decode cX10_copyFrom 1 = .ok (.aload_n 1, 1) := by decide +kernel
theorem dX10_copyFrom_2 : decode cX10_copyFrom 2 = .ok (.getfield 15, 3) := by decide +kernel
theorem dX10_copyFrom_5 : decode cX10_copyFrom 5 = .ok (.putfield 15, 3) := by decide +kernel
theorem dX10_copyFrom_8 : decode cX10_copyFrom 8 = .ok (.aload_n 0, 1) := by decide +kernel
theorem dX10_copyFrom_9 : decode cX10_copyFrom 9 = .ok (.aload_n 1, 1) := by decide +kernel
theorem dX10_copyFrom_10 : decode cX10_copyFrom 10 = .ok (.getfield 18, 3) := by decide +kernel
theorem dX10_copyFrom_13 : decode cX10_copyFrom 13 = .ok (.putfield 18, 3) := by decide +kernel
theorem dX10_copyFrom_16 : decode cX10_copyFrom 16 = .ok (.aload_n 0, 1) := by decide +kernel
theorem dX10_copyFrom_17 : decode cX10_copyFrom 17 = .ok (.aload_n 1, 1) := by decide +kernel
theorem dX10_copyFrom_18 : decode cX10_copyFrom 18 = .ok (.getfield 27, 3) := by decide +kernel
theorem dX10_copyFrom_21 : decode cX10_copyFrom 21 = .ok (.putfield 27, 3) := by decide +kernel
theorem dX10_copyFrom_24 : decode cX10_copyFrom 24 = .ok (.aload_n 0, 1) := by decide +kernel
theorem dX10_copyFrom_25 : decode cX10_copyFrom 25 = .ok (.aload_n 1, 1) := by decide +kernel
theorem dX10_copyFrom_26 : decode cX10_copyFrom 26 = .ok (.getfield 40, 3) := by decide +kernel
theorem dX10_copyFrom_29 : decode cX10_copyFrom 29 = .ok (.putfield 40, 3) := by decide +kernel
theorem dX10_copyFrom_32 : decode cX10_copyFrom 32 = .ok (.aload_n 0, 1) := by decide +kernel
theorem dX10_copyFrom_33 : decode cX10_copyFrom 33 = .ok (.aload_n 1, 1) := by decide +kernel
theorem dX10_copyFrom_34 : decode cX10_copyFrom 34 = .ok (.getfield 43, 3) := by decide +kernel
theorem dX10_copyFrom_37 : decode cX10_copyFrom 37 = .ok (.putfield 43, 3) := by decide +kernel
theorem dX10_copyFrom_40 : decode cX10_copyFrom 40 = .ok (.aload_n 0, 1) := by decide +kernel
theorem dX10_copyFrom_41 : decode cX10_copyFrom 41 = .ok (.aload_n 1, 1) := by decide +kernel
theorem dX10_copyFrom_42 : decode cX10_copyFrom 42 = .ok (.getfield 46, 3) := by decide +kernel
theorem dX10_copyFrom_45 : decode cX10_copyFrom 45 = .ok (.putfield 46, 3) := by decide +kernel
theorem dX10_copyFrom_48 : decode cX10_copyFrom 48 = .ok (.aload_n 0, 1) := by decide +kernel
theorem dX10_copyFrom_49 : decode cX10_copyFrom 49 = .ok (.aload_n 1, 1) := by decide +kernel
theorem dX10_copyFrom_50 : decode cX10_copyFrom 50 = .ok (.getfield 49, 3) := by decide +kernel
theorem dX10_copyFrom_53 : decode cX10_copyFrom 53 = .ok (.putfield 49, 3) := by decide +kernel
theorem dX10_copyFrom_56 : decode cX10_copyFrom 56 = .ok (.aload_n 0, 1) := by decide +kernel
theorem dX10_copyFrom_57 : decode cX10_copyFrom 57 = .ok (.aload_n 1, 1) := by decide +kernel
theorem dX10_copyFrom_58 : decode cX10_copyFrom 58 = .ok (.getfield 52, 3) := by decide +kernel
theorem dX10_copyFrom_61 : decode cX10_copyFrom 61 = .ok (.putfield 52, 3) := by decide +kernel
theorem dX10_copyFrom_64 : decode cX10_copyFrom 64 = .ok (.aload_n 0, 1) := by decide +kernel
theorem dX10_copyFrom_65 : decode cX10_copyFrom 65 = .ok (.aload_n 1, 1) := by decide +kernel
theorem dX10_copyFrom_66 : decode cX10_copyFrom 66 = .ok (.getfield 31, 3) := by decide +kernel
theorem dX10_copyFrom_69 : decode cX10_copyFrom 69 = .ok (.putfield 31, 3) := by decide +kernel
theorem dX10_copyFrom_72 : decode cX10_copyFrom 72 = .ok (.aload_n 0, 1) := by decide +kernel
theorem dX10_copyFrom_73 : decode cX10_copyFrom 73 = .ok (.aload_n 1, 1) := by decide +kernel
theorem dX10_copyFrom_74 : decode cX10_copyFrom 74 = .ok (.getfield 21, 3) := by decide +kernel
theorem dX10_copyFrom_77 : decode cX10_copyFrom 77 = .ok (.putfield 21, 3) := by decide +kernel
theorem dX10_copyFrom_80 : decode cX10_copyFrom 80 = .ok (.return_, 1) := by decide +kernel
theorem dX11_init_0 : decode cX11_init 0 = .ok (.aload_n 0, 1) := by decide +kernel
theorem dX11_init_1 : decode cX11_init 1 = .ok (.invokespecial 1, 3) := by decide +kernel
theorem dX11_init_4 : decode cX11_init 4 = .ok (.aload_n 0, 1) := by decide +kernel
theorem dX11_init_5 : decode cX11_init 5 = .ok (.new 7, 3) := by decide +kernel
theorem dX11_init_8 : decode cX11_init 8 = .ok (.dup, 1) := by decide +kernel
theorem dX11_init_9 : decode cX11_init 9 = .ok (.invokespecial 9, 3) := by decide +kernel
theorem dX11_init_12 : decode cX11_init 12 = .ok (.putfield 10, 3) := by decide +kernel
theorem dX11_init_15 : decode cX11_init 15 = .ok (.aload_n 0, 1) := by decide +kernel
theorem dX11_init_16 : decode cX11_init 16 = .ok (.new 7, 3) := by decide +kernel
theorem dX11_init_19 : decode cX11_init 19 = .ok (.dup, 1) := by decide +kernel
theorem dX11_init_20 : decode cX11_init 20 = .ok (.invokespecial 9, 3) := by decide +kernel
theorem dX11_init_23 : decode cX11_init 23 = .ok (.putfield 16, 3) := by decide +kernel
theorem dX11_init_26 : decode cX11_init 26 = .ok (.aload_n 0, 1) := by decide +kernel
theorem dX11_init_27 : decode cX11_init 27 = .ok (.new 19, 3) := by decide +kernel
theorem dX11_init_30 : decode cX11_init 30 = .ok (.dup, 1) := by decide +kernel
theorem dX11_init_31 : decode cX11_init 31 = .ok (.invokespecial 21, 3) := by decide +kernel
theorem dX11_init_34 : decode cX11_init 34 = .ok (.putfield 22, 3) := by decide +kernel
theorem dX11_init_37 : decode cX11_init 37 = .ok (.aload_n 0, 1) := by decide +kernel
theorem dX11_init_38 : decode cX11_init 38 = .ok (.new 26, 3) := by decide +kernel
theorem dX11_init_41 : decode cX11_init 41 = .ok (.dup, 1) := by decide +kernel
theorem dX11_init_42 : decode cX11_init 42 = .ok (.invokespecial 28, 3) := by decide +kernel
theorem dX11_init_45 : decode cX11_init 45 = .ok (.putfield 29, 3) := by decide +kernel
theorem dX11_init_48 : decode cX11_init 48 = .ok (.aload_n 0, 1) := by decide +kernel
theorem dX11_init_49 : decode cX11_init 49 = .ok (.new 33, 3) := by decide +kernel
theorem dX11_init_52 : decode cX11_init 52 = .ok (.dup, 1) := by decide +kernel
theorem dX11_init_53 : decode cX11_init 53 = .ok (.invokespecial 35, 3) := by decide +kernel
theorem dX11_init_56 : decode cX11_init 56 = .ok (.putfield 36, 3) := by decide +kernel
theorem dX11_init_59 : decode cX11_init 59 = .ok (.return_, 1) := by decide +kernel
theorem dX11_enter_0 : decode cX11_enter 0 = .ok (.aload_n 0, 1) := by decide +kernel
theorem dX11_enter_1 : decode cX11_enter 1 = .ok (.getfield 22, 3) := by decide +kernel
theorem dX11_enter_4 : decode cX11_enter 4 = .ok (.aload_n 0, 1) := by decide +kernel
theorem dX11_enter_5 : decode cX11_enter 5 = .ok (.getfield 10, 3) := by decide +kernel
theorem dX11_enter_8 : decode cX11_enter 8 = .ok (.invokevirtual 40, 3) := by decide +kernel
theorem dX11_enter_11 : decode cX11_enter 11 = .ok (.aload_n 0, 1) := by decide +kernel
theorem dX11_enter_12 : decode cX11_enter 12 = .ok (.getfield 22, 3) := by decide +kernel
theorem dX11_enter_15 : decode cX11_enter 15 = .ok (.aload_n 0, 1) := by decide +kernel
theorem dX11_enter_16 : decode cX11_enter 16 = .ok (.getfield 10, 3) := by decide +kernel
theorem dX11_enter_19 : decode cX11_enter 19 = .ok (.iload_n 1, 1) := by decide +kernel
theorem dX11_enter_20 : decode cX11_enter 20 = .ok (.iload_n 2, 1) := by decide +kernel
theorem dX11_enter_21 : decode cX11_enter 21 = .ok (.invokestatic 44, 3) := by decide +kernel
theorem dX11_enter_24 : decode cX11_enter 24 = .ok (.invokevirtual 50, 3) := by decide +kernel
theorem dX11_enter_27 : decode cX11_enter 27 = .ok (.ireturn, 1) := by decide +kernel
theorem dX11_scratch_0 : decode cX11_scratch 0 = .ok (.aload_n 0, 1) := by decide +kernel
theorem dX11_scratch_1 : decode cX11_scratch 1 = .ok (.getfield 22, 3) := by decide +kernel
theorem dX11_scratch_4 : decode cX11_scratch 4 = .ok (.aload_n 0, 1) := by decide +kernel
theorem dX11_scratch_5 : decode cX11_scratch 5 = .ok (.getfield 10, 3) := by decide +kernel
theorem dX11_scratch_8 : decode cX11_scratch 8 = .ok (.invokevirtual 40, 3) := by decide +kernel
theorem dX11_scratch_11 : decode cX11_scratch 11 = .ok (.aload_n 0, 1) := by decide +kernel
theorem dX11_scratch_12 : decode cX11_scratch 12 = .ok (.getfield 22, 3) := by decide +kernel
theorem dX11_scratch_15 : decode cX11_scratch 15 = .ok (.aload_n 0, 1) := by decide +kernel
theorem dX11_scratch_16 : decode cX11_scratch 16 = .ok (.getfield 10, 3) := by decide +kernel
theorem dX11_scratch_19 : decode cX11_scratch 19 = .ok (.iload_n 1, 1) := by decide +kernel
theorem dX11_scratch_20 : decode cX11_scratch 20 = .ok (.invokestatic 54, 3) := by decide +kernel
theorem dX11_scratch_23 : decode cX11_scratch 23 = .ok (.invokevirtual 50, 3) := by decide +kernel
theorem dX11_scratch_26 : decode cX11_scratch 26 = .ok (.ireturn, 1) := by decide +kernel
theorem dX11_set_0 : decode cX11_set 0 = .ok (.aload_n 0, 1) := by decide +kernel
theorem dX11_set_1 : decode cX11_set 1 = .ok (.getfield 22, 3) := by decide +kernel
theorem dX11_set_4 : decode cX11_set 4 = .ok (.aload_n 0, 1) := by decide +kernel
theorem dX11_set_5 : decode cX11_set 5 = .ok (.getfield 10, 3) := by decide +kernel
theorem dX11_set_8 : decode cX11_set 8 = .ok (.invokevirtual 40, 3) := by decide +kernel
theorem dX11_set_11 : decode cX11_set 11 = .ok (.aload_n 0, 1) := by decide +kernel
theorem dX11_set_12 : decode cX11_set 12 = .ok (.getfield 22, 3) := by decide +kernel
theorem dX11_set_15 : decode cX11_set 15 = .ok (.aload_n 0, 1) := by decide +kernel
theorem dX11_set_16 : decode cX11_set 16 = .ok (.getfield 10, 3) := by decide +kernel
theorem dX11_set_19 : decode cX11_set 19 = .ok (.iload_n 1, 1) := by decide +kernel
theorem dX11_set_20 : decode cX11_set 20 = .ok (.iload_n 2, 1) := by decide +kernel
theorem dX11_set_21 : decode cX11_set 21 = .ok (.invokestatic 58, 3) := by decide +kernel
theorem dX11_set_24 : decode cX11_set 24 = .ok (.invokevirtual 50, 3) := by decide +kernel
theorem dX11_set_27 : decode cX11_set 27 = .ok (.ireturn, 1) := by decide +kernel
theorem dX11_draw_0 : decode cX11_draw 0 = .ok (.aload_n 0, 1) := by decide +kernel
theorem dX11_draw_1 : decode cX11_draw 1 = .ok (.getfield 22, 3) := by decide +kernel
theorem dX11_draw_4 : decode cX11_draw 4 = .ok (.aload_n 0, 1) := by decide +kernel
theorem dX11_draw_5 : decode cX11_draw 5 = .ok (.getfield 10, 3) := by decide +kernel
theorem dX11_draw_8 : decode cX11_draw 8 = .ok (.invokevirtual 40, 3) := by decide +kernel
theorem dX11_draw_11 : decode cX11_draw 11 = .ok (.aload_n 0, 1) := by decide +kernel
theorem dX11_draw_12 : decode cX11_draw 12 = .ok (.getfield 22, 3) := by decide +kernel
theorem dX11_draw_15 : decode cX11_draw 15 = .ok (.aload_n 0, 1) := by decide +kernel
theorem dX11_draw_16 : decode cX11_draw 16 = .ok (.getfield 10, 3) := by decide +kernel
theorem dX11_draw_19 : decode cX11_draw 19 = .ok (.invokestatic 61, 3) := by decide +kernel
theorem dX11_draw_22 : decode cX11_draw 22 = .ok (.invokevirtual 50, 3) := by decide +kernel
theorem dX11_draw_25 : decode cX11_draw 25 = .ok (.ireturn, 1) := by decide +kernel
theorem dX11_swim_0 : decode cX11_swim 0 = .ok (.aload_n 0, 1) := by decide +kernel
theorem dX11_swim_1 : decode cX11_swim 1 = .ok (.getfield 22, 3) := by decide +kernel
theorem dX11_swim_4 : decode cX11_swim 4 = .ok (.aload_n 0, 1) := by decide +kernel
theorem dX11_swim_5 : decode cX11_swim 5 = .ok (.getfield 10, 3) := by decide +kernel
theorem dX11_swim_8 : decode cX11_swim 8 = .ok (.invokevirtual 40, 3) := by decide +kernel
theorem dX11_swim_11 : decode cX11_swim 11 = .ok (.aload_n 0, 1) := by decide +kernel
theorem dX11_swim_12 : decode cX11_swim 12 = .ok (.getfield 22, 3) := by decide +kernel
theorem dX11_swim_15 : decode cX11_swim 15 = .ok (.aload_n 0, 1) := by decide +kernel
theorem dX11_swim_16 : decode cX11_swim 16 = .ok (.getfield 10, 3) := by decide +kernel
theorem dX11_swim_19 : decode cX11_swim 19 = .ok (.iload_n 1, 1) := by decide +kernel
theorem dX11_swim_20 : decode cX11_swim 20 = .ok (.iload_n 2, 1) := by decide +kernel
theorem dX11_swim_21 : decode cX11_swim 21 = .ok (.invokestatic 65, 3) := by decide +kernel
theorem dX11_swim_24 : decode cX11_swim 24 = .ok (.invokevirtual 50, 3) := by decide +kernel
theorem dX11_swim_27 : decode cX11_swim 27 = .ok (.ireturn, 1) := by decide +kernel
theorem dX11_finals_0 : decode cX11_finals 0 = .ok (.aload_n 0, 1) := by decide +kernel
theorem dX11_finals_1 : decode cX11_finals 1 = .ok (.getfield 22, 3) := by decide +kernel
theorem dX11_finals_4 : decode cX11_finals 4 = .ok (.aload_n 0, 1) := by decide +kernel
theorem dX11_finals_5 : decode cX11_finals 5 = .ok (.getfield 10, 3) := by decide +kernel
theorem dX11_finals_8 : decode cX11_finals 8 = .ok (.invokevirtual 40, 3) := by decide +kernel
theorem dX11_finals_11 : decode cX11_finals 11 = .ok (.aload_n 0, 1) := by decide +kernel
theorem dX11_finals_12 : decode cX11_finals 12 = .ok (.getfield 22, 3) := by decide +kernel
theorem dX11_finals_15 : decode cX11_finals 15 = .ok (.aload_n 0, 1) := by decide +kernel
theorem dX11_finals_16 : decode cX11_finals 16 = .ok (.getfield 10, 3) := by decide +kernel
theorem dX11_finals_19 : decode cX11_finals 19 = .ok (.invokestatic 68, 3) := by decide +kernel
theorem dX11_finals_22 : decode cX11_finals 22 = .ok (.invokevirtual 50, 3) := by decide +kernel
theorem dX11_finals_25 : decode cX11_finals 25 = .ok (.ireturn, 1) := by decide +kernel
theorem dX11_end_0 : decode cX11_end 0 = .ok (.aload_n 0, 1) := by decide +kernel
theorem dX11_end_1 : decode cX11_end 1 = .ok (.getfield 22, 3) := by decide +kernel
theorem dX11_end_4 : decode cX11_end 4 = .ok (.aload_n 0, 1) := by decide +kernel
theorem dX11_end_5 : decode cX11_end 5 = .ok (.getfield 10, 3) := by decide +kernel
theorem dX11_end_8 : decode cX11_end 8 = .ok (.invokevirtual 40, 3) := by decide +kernel
theorem dX11_end_11 : decode cX11_end 11 = .ok (.aload_n 0, 1) := by decide +kernel
theorem dX11_end_12 : decode cX11_end 12 = .ok (.getfield 22, 3) := by decide +kernel
theorem dX11_end_15 : decode cX11_end 15 = .ok (.aload_n 0, 1) := by decide +kernel
theorem dX11_end_16 : decode cX11_end 16 = .ok (.getfield 10, 3) := by decide +kernel
theorem dX11_end_19 : decode cX11_end 19 = .ok (.invokestatic 71, 3) := by decide +kernel
theorem dX11_end_22 : decode cX11_end 22 = .ok (.invokevirtual 50, 3) := by decide +kernel
theorem dX11_end_25 : decode cX11_end 25 = .ok (.ireturn, 1) := by decide +kernel
theorem dX11_next_0 : decode cX11_next 0 = .ok (.aload_n 0, 1) := by decide +kernel
theorem dX11_next_1 : decode cX11_next 1 = .ok (.getfield 22, 3) := by decide +kernel
theorem dX11_next_4 : decode cX11_next 4 = .ok (.aload_n 0, 1) := by decide +kernel
theorem dX11_next_5 : decode cX11_next 5 = .ok (.getfield 10, 3) := by decide +kernel
theorem dX11_next_8 : decode cX11_next 8 = .ok (.invokevirtual 40, 3) := by decide +kernel
theorem dX11_next_11 : decode cX11_next 11 = .ok (.aload_n 0, 1) := by decide +kernel
theorem dX11_next_12 : decode cX11_next 12 = .ok (.getfield 22, 3) := by decide +kernel
theorem dX11_next_15 : decode cX11_next 15 = .ok (.aload_n 0, 1) := by decide +kernel
theorem dX11_next_16 : decode cX11_next 16 = .ok (.getfield 10, 3) := by decide +kernel
theorem dX11_next_19 : decode cX11_next 19 = .ok (.invokestatic 74, 3) := by decide +kernel
theorem dX11_next_22 : decode cX11_next 22 = .ok (.invokevirtual 50, 3) := by decide +kernel
theorem dX11_next_25 : decode cX11_next 25 = .ok (.ireturn, 1) := by decide +kernel
theorem dX11_swimmer_0 : decode cX11_swimmer 0 = .ok (.aload_n 0, 1) := by decide +kernel
theorem dX11_swimmer_1 : decode cX11_swimmer 1 = .ok (.getfield 10, 3) := by decide +kernel
theorem dX11_swimmer_4 : decode cX11_swimmer 4 = .ok (.iload_n 1, 1) := by decide +kernel
theorem dX11_swimmer_5 : decode cX11_swimmer 5 = .ok (.invokevirtual 77, 3) := by decide +kernel
theorem dX11_swimmer_8 : decode cX11_swimmer 8 = .ok (.ifCond .eq 13, 3) := by decide +kernel
theorem dX11_swimmer_11 : decode cX11_swimmer 11 = .ok (.iload_n 2, 1) := by decide +kernel
theorem dX11_swimmer_12 : decode cX11_swimmer 12 = .ok (.ifCond .lt 9, 3) := by decide +kernel
theorem dX11_swimmer_15 : decode cX11_swimmer 15 = .ok (.iload_n 2, 1) := by decide +kernel
theorem dX11_swimmer_16 : decode cX11_swimmer 16 = .ok (.bipush 11, 2) := by decide +kernel
theorem dX11_swimmer_18 : decode cX11_swimmer 18 = .ok (.if_icmp .le 6, 3) := by decide +kernel
theorem dX11_swimmer_21 : decode cX11_swimmer 21 = .ok (.ldc 81, 2) := by decide +kernel
theorem dX11_swimmer_23 : decode cX11_swimmer 23 = .ok (.ireturn, 1) := by decide +kernel
theorem dX11_swimmer_24 : decode cX11_swimmer 24 = .ok (.aload_n 0, 1) := by decide +kernel
theorem dX11_swimmer_25 : decode cX11_swimmer 25 = .ok (.getfield 10, 3) := by decide +kernel
theorem dX11_swimmer_28 : decode cX11_swimmer 28 = .ok (.aload_n 0, 1) := by decide +kernel
theorem dX11_swimmer_29 : decode cX11_swimmer 29 = .ok (.getfield 10, 3) := by decide +kernel
theorem dX11_swimmer_32 : decode cX11_swimmer 32 = .ok (.getfield 82, 3) := by decide +kernel
theorem dX11_swimmer_35 : decode cX11_swimmer 35 = .ok (.iload_n 1, 1) := by decide +kernel
theorem dX11_swimmer_36 : decode cX11_swimmer 36 = .ok (.aaload, 1) := by decide +kernel
theorem dX11_swimmer_37 : decode cX11_swimmer 37 = .ok (.iload_n 2, 1) := by decide +kernel
theorem dX11_swimmer_38 : decode cX11_swimmer 38 = .ok (.invokestatic 86, 3) := by decide +kernel
theorem dX11_swimmer_41 : decode cX11_swimmer 41 = .ok (.ireturn, 1) := by decide +kernel
theorem dX11_at_0 : decode cX11_at 0 = .ok (.aload_n 0, 1) := by decide +kernel
theorem dX11_at_1 : decode cX11_at 1 = .ok (.getfield 10, 3) := by decide +kernel
theorem dX11_at_4 : decode cX11_at 4 = .ok (.iload_n 1, 1) := by decide +kernel
theorem dX11_at_5 : decode cX11_at 5 = .ok (.invokevirtual 92, 3) := by decide +kernel
theorem dX11_at_8 : decode cX11_at 8 = .ok (.ifCond .eq 19, 3) := by decide +kernel
theorem dX11_at_11 : decode cX11_at 11 = .ok (.iload_n 2, 1) := by decide +kernel
theorem dX11_at_12 : decode cX11_at 12 = .ok (.iconst 1, 1) := by decide +kernel
theorem dX11_at_13 : decode cX11_at 13 = .ok (.if_icmp .lt 14, 3) := by decide +kernel
theorem dX11_at_16 : decode cX11_at 16 = .ok (.iload_n 2, 1) := by decide +kernel
theorem dX11_at_17 : decode cX11_at 17 = .ok (.aload_n 0, 1) := by decide +kernel
theorem dX11_at_18 : decode cX11_at 18 = .ok (.getfield 10, 3) := by decide +kernel
theorem dX11_at_21 : decode cX11_at 21 = .ok (.invokevirtual 95, 3) := by decide +kernel
theorem dX11_at_24 : decode cX11_at 24 = .ok (.if_icmp .le 6, 3) := by decide +kernel
theorem dX11_at_27 : decode cX11_at 27 = .ok (.ldc 81, 2) := by decide +kernel
theorem dX11_at_29 : decode cX11_at 29 = .ok (.ireturn, 1) := by decide +kernel
theorem dX11_at_30 : decode cX11_at 30 = .ok (.aload_n 0, 1) := by decide +kernel
theorem dX11_at_31 : decode cX11_at 31 = .ok (.getfield 10, 3) := by decide +kernel
theorem dX11_at_34 : decode cX11_at 34 = .ok (.iload_n 1, 1) := by decide +kernel
theorem dX11_at_35 : decode cX11_at 35 = .ok (.iload_n 2, 1) := by decide +kernel
theorem dX11_at_36 : decode cX11_at 36 = .ok (.invokestatic 99, 3) := by decide +kernel
theorem dX11_at_39 : decode cX11_at 39 = .ok (.ireturn, 1) := by decide +kernel
theorem dX11_heat_0 : decode cX11_heat 0 = .ok (.aload_n 0, 1) := by decide +kernel
theorem dX11_heat_1 : decode cX11_heat 1 = .ok (.getfield 10, 3) := by decide +kernel
theorem dX11_heat_4 : decode cX11_heat 4 = .ok (.iload_n 1, 1) := by decide +kernel
theorem dX11_heat_5 : decode cX11_heat 5 = .ok (.invokevirtual 92, 3) := by decide +kernel
theorem dX11_heat_8 : decode cX11_heat 8 = .ok (.ifCond .eq 12, 3) := by decide +kernel
theorem dX11_heat_11 : decode cX11_heat 11 = .ok (.iload_n 2, 1) := by decide +kernel
theorem dX11_heat_12 : decode cX11_heat 12 = .ok (.ifCond .lt 8, 3) := by decide +kernel
theorem dX11_heat_15 : decode cX11_heat 15 = .ok (.iload_n 2, 1) := by decide +kernel
theorem dX11_heat_16 : decode cX11_heat 16 = .ok (.iconst 4, 1) := by decide +kernel
theorem dX11_heat_17 : decode cX11_heat 17 = .ok (.if_icmp .le 6, 3) := by decide +kernel
theorem dX11_heat_20 : decode cX11_heat 20 = .ok (.ldc 81, 2) := by decide +kernel
theorem dX11_heat_22 : decode cX11_heat 22 = .ok (.ireturn, 1) := by decide +kernel
theorem dX11_heat_23 : decode cX11_heat 23 = .ok (.aload_n 0, 1) := by decide +kernel
theorem dX11_heat_24 : decode cX11_heat 24 = .ok (.getfield 10, 3) := by decide +kernel
theorem dX11_heat_27 : decode cX11_heat 27 = .ok (.iload_n 1, 1) := by decide +kernel
theorem dX11_heat_28 : decode cX11_heat 28 = .ok (.iload_n 2, 1) := by decide +kernel
theorem dX11_heat_29 : decode cX11_heat 29 = .ok (.invokestatic 102, 3) := by decide +kernel
theorem dX11_heat_32 : decode cX11_heat 32 = .ok (.ireturn, 1) := by decide +kernel
theorem dX11_reserve_0 : decode cX11_reserve 0 = .ok (.iload_n 1, 1) := by decide +kernel
theorem dX11_reserve_1 : decode cX11_reserve 1 = .ok (.ifCond .ge 8, 3) := by decide +kernel
theorem dX11_reserve_4 : decode cX11_reserve 4 = .ok (.ldc 81, 2) := by decide +kernel
theorem dX11_reserve_6 : decode cX11_reserve 6 = .ok (.goto 11, 3) := by decide +kernel
theorem dX11_reserve_9 : decode cX11_reserve 9 = .ok (.aload_n 0, 1) := by decide +kernel
theorem dX11_reserve_10 : decode cX11_reserve 10 = .ok (.getfield 10, 3) := by decide +kernel
theorem dX11_reserve_13 : decode cX11_reserve 13 = .ok (.iload_n 1, 1) := by decide +kernel
theorem dX11_reserve_14 : decode cX11_reserve 14 = .ok (.invokevirtual 105, 3) := by decide +kernel
theorem dX11_reserve_17 : decode cX11_reserve 17 = .ok (.ireturn, 1) := by decide +kernel
theorem dX11_points_0 : decode cX11_points 0 = .ok (.iload_n 1, 1) := by decide +kernel
theorem dX11_points_1 : decode cX11_points 1 = .ok (.ifCond .lt 9, 3) := by decide +kernel
theorem dX11_points_4 : decode cX11_points 4 = .ok (.iload_n 1, 1) := by decide +kernel
theorem dX11_points_5 : decode cX11_points 5 = .ok (.bipush 6, 2) := by decide +kernel
theorem dX11_points_7 : decode cX11_points 7 = .ok (.if_icmp .lt 8, 3) := by decide +kernel
theorem dX11_points_10 : decode cX11_points 10 = .ok (.ldc 81, 2) := by decide +kernel
theorem dX11_points_12 : decode cX11_points 12 = .ok (.goto 11, 3) := by decide +kernel
theorem dX11_points_15 : decode cX11_points 15 = .ok (.aload_n 0, 1) := by decide +kernel
theorem dX11_points_16 : decode cX11_points 16 = .ok (.getfield 10, 3) := by decide +kernel
theorem dX11_points_19 : decode cX11_points 19 = .ok (.iload_n 1, 1) := by decide +kernel
theorem dX11_points_20 : decode cX11_points 20 = .ok (.invokestatic 108, 3) := by decide +kernel
theorem dX11_points_23 : decode cX11_points 23 = .ok (.ireturn, 1) := by decide +kernel
theorem dX11_ifDrawn_0 : decode cX11_ifDrawn 0 = .ok (.aload_n 0, 1) := by decide +kernel
theorem dX11_ifDrawn_1 : decode cX11_ifDrawn 1 = .ok (.getfield 10, 3) := by decide +kernel
theorem dX11_ifDrawn_4 : decode cX11_ifDrawn 4 = .ok (.iload_n 1, 1) := by decide +kernel
theorem dX11_ifDrawn_5 : decode cX11_ifDrawn 5 = .ok (.invokevirtual 77, 3) := by decide +kernel
theorem dX11_ifDrawn_8 : decode cX11_ifDrawn 8 = .ok (.ifCond .eq 12, 3) := by decide +kernel
theorem dX11_ifDrawn_11 : decode cX11_ifDrawn 11 = .ok (.iload_n 2, 1) := by decide +kernel
theorem dX11_ifDrawn_12 : decode cX11_ifDrawn 12 = .ok (.ifCond .lt 8, 3) := by decide +kernel
theorem dX11_ifDrawn_15 : decode cX11_ifDrawn 15 = .ok (.iload_n 2, 1) := by decide +kernel
theorem dX11_ifDrawn_16 : decode cX11_ifDrawn 16 = .ok (.iconst 2, 1) := by decide +kernel
theorem dX11_ifDrawn_17 : decode cX11_ifDrawn 17 = .ok (.if_icmp .le 6, 3) := by decide +kernel
theorem dX11_ifDrawn_20 : decode cX11_ifDrawn 20 = .ok (.ldc 81, 2) := by decide +kernel
theorem dX11_ifDrawn_22 : decode cX11_ifDrawn 22 = .ok (.ireturn, 1) := by decide +kernel
theorem dX11_ifDrawn_23 : decode cX11_ifDrawn 23 = .ok (.aload_n 0, 1) := by decide +kernel
theorem dX11_ifDrawn_24 : decode cX11_ifDrawn 24 = .ok (.getfield 10, 3) := by decide +kernel
theorem dX11_ifDrawn_27 : decode cX11_ifDrawn 27 = .ok (.getfield 113, 3) := by decide +kernel
theorem dX11_ifDrawn_30 : decode cX11_ifDrawn 30 = .ok (.ifCond .ne 18, 3) := by decide +kernel
theorem dX11_ifDrawn_33 : decode cX11_ifDrawn 33 = .ok (.aload_n 0, 1) := by decide +kernel
theorem dX11_ifDrawn_34 : decode cX11_ifDrawn 34 = .ok (.getfield 10, 3) := by decide +kernel
theorem dX11_ifDrawn_37 : decode cX11_ifDrawn 37 = .ok (.getfield 82, 3) := by decide +kernel
theorem dX11_ifDrawn_40 : decode cX11_ifDrawn 40 = .ok (.iload_n 1, 1) := by decide +kernel
theorem dX11_ifDrawn_41 : decode cX11_ifDrawn 41 = .ok (.aaload, 1) := by decide +kernel
theorem dX11_ifDrawn_42 : decode cX11_ifDrawn 42 = .ok (.getfield 117, 3) := by decide +kernel
theorem dX11_ifDrawn_45 : decode cX11_ifDrawn 45 = .ok (.ifCond .eq 6, 3) := by decide +kernel
theorem dX11_ifDrawn_48 : decode cX11_ifDrawn 48 = .ok (.ldc 123, 2) := by decide +kernel
theorem dX11_ifDrawn_50 : decode cX11_ifDrawn 50 = .ok (.ireturn, 1) := by decide +kernel
theorem dX11_ifDrawn_51 : decode cX11_ifDrawn 51 = .ok (.aload_n 0, 1) := by decide +kernel
theorem dX11_ifDrawn_52 : decode cX11_ifDrawn 52 = .ok (.getfield 16, 3) := by decide +kernel
theorem dX11_ifDrawn_55 : decode cX11_ifDrawn 55 = .ok (.aload_n 0, 1) := by decide +kernel
theorem dX11_ifDrawn_56 : decode cX11_ifDrawn 56 = .ok (.getfield 10, 3) := by decide +kernel
theorem dX11_ifDrawn_59 : decode cX11_ifDrawn 59 = .ok (.invokevirtual 124, 3) := by decide +kernel
theorem dX11_ifDrawn_62 : decode cX11_ifDrawn 62 = .ok (.aload_n 0, 1) := by decide +kernel
theorem dX11_ifDrawn_63 : decode cX11_ifDrawn 63 = .ok (.getfield 16, 3) := by decide +kernel
theorem dX11_ifDrawn_66 : decode cX11_ifDrawn 66 = .ok (.invokestatic 61, 3) := by decide +kernel
theorem dX11_ifDrawn_69 : decode cX11_ifDrawn 69 = .ok (.istore_n 3, 1) := by decide +kernel
theorem dX11_ifDrawn_70 : decode cX11_ifDrawn 70 = .ok (.iload_n 2, 1) := by decide +kernel
theorem dX11_ifDrawn_71 : decode cX11_ifDrawn 71 = .ok (.iconst 2, 1) := by decide +kernel
theorem dX11_ifDrawn_72 : decode cX11_ifDrawn 72 = .ok (.if_icmp .ne 5, 3) := by decide +kernel
theorem dX11_ifDrawn_75 : decode cX11_ifDrawn 75 = .ok (.iload_n 3, 1) := by decide +kernel
theorem dX11_ifDrawn_76 : decode cX11_ifDrawn 76 = .ok (.ireturn, 1) := by decide +kernel
theorem dX11_ifDrawn_77 : decode cX11_ifDrawn 77 = .ok (.iload_n 2, 1) := by decide +kernel
theorem dX11_ifDrawn_78 : decode cX11_ifDrawn 78 = .ok (.ifCond .ne 18, 3) := by decide +kernel
theorem dX11_ifDrawn_81 : decode cX11_ifDrawn 81 = .ok (.aload_n 0, 1) := by decide +kernel
theorem dX11_ifDrawn_82 : decode cX11_ifDrawn 82 = .ok (.getfield 16, 3) := by decide +kernel
theorem dX11_ifDrawn_85 : decode cX11_ifDrawn 85 = .ok (.getfield 82, 3) := by decide +kernel
theorem dX11_ifDrawn_88 : decode cX11_ifDrawn 88 = .ok (.iload_n 1, 1) := by decide +kernel
theorem dX11_ifDrawn_89 : decode cX11_ifDrawn 89 = .ok (.aaload, 1) := by decide +kernel
theorem dX11_ifDrawn_90 : decode cX11_ifDrawn 90 = .ok (.getfield 127, 3) := by decide +kernel
theorem dX11_ifDrawn_93 : decode cX11_ifDrawn 93 = .ok (.goto 15, 3) := by decide +kernel
theorem dX11_ifDrawn_96 : decode cX11_ifDrawn 96 = .ok (.aload_n 0, 1) := by decide +kernel
theorem dX11_ifDrawn_97 : decode cX11_ifDrawn 97 = .ok (.getfield 16, 3) := by decide +kernel
theorem dX11_ifDrawn_100 : decode cX11_ifDrawn 100 = .ok (.getfield 82, 3) := by decide +kernel
theorem dX11_ifDrawn_103 : decode cX11_ifDrawn 103 = .ok (.iload_n 1, 1) := by decide +kernel
theorem dX11_ifDrawn_104 : decode cX11_ifDrawn 104 = .ok (.aaload, 1) := by decide +kernel
theorem dX11_ifDrawn_105 : decode cX11_ifDrawn 105 = .ok (.getfield 130, 3) := by decide +kernel
theorem dX11_ifDrawn_108 : decode cX11_ifDrawn 108 = .ok (.ireturn, 1) := by decide +kernel
theorem dX11_lane_0 : decode cX11_lane 0 = .ok (.iload_n 1, 1) := by decide +kernel
theorem dX11_lane_1 : decode cX11_lane 1 = .ok (.ifCond .lt 23, 3) := by decide +kernel
theorem dX11_lane_4 : decode cX11_lane 4 = .ok (.iload_n 1, 1) := by decide +kernel
theorem dX11_lane_5 : decode cX11_lane 5 = .ok (.aload_n 0, 1) := by decide +kernel
theorem dX11_lane_6 : decode cX11_lane 6 = .ok (.getfield 10, 3) := by decide +kernel
theorem dX11_lane_9 : decode cX11_lane 9 = .ok (.invokevirtual 95, 3) := by decide +kernel
theorem dX11_lane_12 : decode cX11_lane 12 = .ok (.if_icmp .ge 12, 3) := by decide +kernel
theorem dX11_lane_15 : decode cX11_lane 15 = .ok (.iload_n 2, 1) := by decide +kernel
theorem dX11_lane_16 : decode cX11_lane 16 = .ok (.ifCond .lt 8, 3) := by decide +kernel
theorem dX11_lane_19 : decode cX11_lane 19 = .ok (.iload_n 2, 1) := by decide +kernel
theorem dX11_lane_20 : decode cX11_lane 20 = .ok (.iconst 1, 1) := by decide +kernel
theorem dX11_lane_21 : decode cX11_lane 21 = .ok (.if_icmp .le 6, 3) := by decide +kernel
theorem dX11_lane_24 : decode cX11_lane 24 = .ok (.ldc 81, 2) := by decide +kernel
theorem dX11_lane_26 : decode cX11_lane 26 = .ok (.ireturn, 1) := by decide +kernel
theorem dX11_lane_27 : decode cX11_lane 27 = .ok (.iload_n 2, 1) := by decide +kernel
theorem dX11_lane_28 : decode cX11_lane 28 = .ok (.ifCond .ne 17, 3) := by decide +kernel
theorem dX11_lane_31 : decode cX11_lane 31 = .ok (.iload_n 1, 1) := by decide +kernel
theorem dX11_lane_32 : decode cX11_lane 32 = .ok (.aload_n 0, 1) := by decide +kernel
theorem dX11_lane_33 : decode cX11_lane 33 = .ok (.getfield 10, 3) := by decide +kernel
theorem dX11_lane_36 : decode cX11_lane 36 = .ok (.invokevirtual 95, 3) := by decide +kernel
theorem dX11_lane_39 : decode cX11_lane 39 = .ok (.invokestatic 133, 3) := by decide +kernel
theorem dX11_lane_42 : decode cX11_lane 42 = .ok (.goto 16, 3) := by decide +kernel
theorem dX11_lane_45 : decode cX11_lane 45 = .ok (.iload_n 1, 1) := by decide +kernel
theorem dX11_lane_46 : decode cX11_lane 46 = .ok (.iconst 1, 1) := by decide +kernel
theorem dX11_lane_47 : decode cX11_lane 47 = .ok (.iadd, 1) := by decide +kernel
theorem dX11_lane_48 : decode cX11_lane 48 = .ok (.aload_n 0, 1) := by decide +kernel
theorem dX11_lane_49 : decode cX11_lane 49 = .ok (.getfield 10, 3) := by decide +kernel
theorem dX11_lane_52 : decode cX11_lane 52 = .ok (.invokevirtual 95, 3) := by decide +kernel
theorem dX11_lane_55 : decode cX11_lane 55 = .ok (.invokestatic 139, 3) := by decide +kernel
theorem dX11_lane_58 : decode cX11_lane 58 = .ok (.ireturn, 1) := by decide +kernel
theorem dX11_why_0 : decode cX11_why 0 = .ok (.aload_n 0, 1) := by decide +kernel
theorem dX11_why_1 : decode cX11_why 1 = .ok (.getfield 10, 3) := by decide +kernel
theorem dX11_why_4 : decode cX11_why 4 = .ok (.invokevirtual 142, 3) := by decide +kernel
theorem dX11_why_7 : decode cX11_why 7 = .ok (.ireturn, 1) := by decide +kernel
theorem dX11_missing_0 : decode cX11_missing 0 = .ok (.iload_n 1, 1) := by decide +kernel
theorem dX11_missing_1 : decode cX11_missing 1 = .ok (.ifCond .ge 8, 3) := by decide +kernel
theorem dX11_missing_4 : decode cX11_missing 4 = .ok (.ldc 81, 2) := by decide +kernel
theorem dX11_missing_6 : decode cX11_missing 6 = .ok (.goto 11, 3) := by decide +kernel
theorem dX11_missing_9 : decode cX11_missing 9 = .ok (.aload_n 0, 1) := by decide +kernel
theorem dX11_missing_10 : decode cX11_missing 10 = .ok (.getfield 10, 3) := by decide +kernel
theorem dX11_missing_13 : decode cX11_missing 13 = .ok (.iload_n 1, 1) := by decide +kernel
theorem dX11_missing_14 : decode cX11_missing 14 = .ok (.invokevirtual 145, 3) := by decide +kernel
theorem dX11_missing_17 : decode cX11_missing 17 = .ok (.ireturn, 1) := by decide +kernel
theorem dX11_leader_0 : decode cX11_leader 0 = .ok (.iload_n 1, 1) := by decide +kernel
theorem dX11_leader_1 : decode cX11_leader 1 = .ok (.ifCond .lt 9, 3) := by decide +kernel
theorem dX11_leader_4 : decode cX11_leader 4 = .ok (.iload_n 1, 1) := by decide +kernel
theorem dX11_leader_5 : decode cX11_leader 5 = .ok (.bipush 6, 2) := by decide +kernel
theorem dX11_leader_7 : decode cX11_leader 7 = .ok (.if_icmp .lt 8, 3) := by decide +kernel
theorem dX11_leader_10 : decode cX11_leader 10 = .ok (.ldc 81, 2) := by decide +kernel
theorem dX11_leader_12 : decode cX11_leader 12 = .ok (.goto 11, 3) := by decide +kernel
theorem dX11_leader_15 : decode cX11_leader 15 = .ok (.aload_n 0, 1) := by decide +kernel
theorem dX11_leader_16 : decode cX11_leader 16 = .ok (.getfield 10, 3) := by decide +kernel
theorem dX11_leader_19 : decode cX11_leader 19 = .ok (.iload_n 1, 1) := by decide +kernel
theorem dX11_leader_20 : decode cX11_leader 20 = .ok (.invokestatic 148, 3) := by decide +kernel
theorem dX11_leader_23 : decode cX11_leader 23 = .ok (.ireturn, 1) := by decide +kernel
theorem dX11_mean_0 : decode cX11_mean 0 = .ok (.aload_n 0, 1) := by decide +kernel
theorem dX11_mean_1 : decode cX11_mean 1 = .ok (.getfield 10, 3) := by decide +kernel
theorem dX11_mean_4 : decode cX11_mean 4 = .ok (.invokestatic 151, 3) := by decide +kernel
theorem dX11_mean_7 : decode cX11_mean 7 = .ok (.ireturn, 1) := by decide +kernel
theorem dX11_count_0 : decode cX11_count 0 = .ok (.iload_n 1, 1) := by decide +kernel
theorem dX11_count_1 : decode cX11_count 1 = .ok (.bipush 12, 2) := by decide +kernel
theorem dX11_count_3 : decode cX11_count 3 = .ok (.if_icmp .ne 11, 3) := by decide +kernel
theorem dX11_count_6 : decode cX11_count 6 = .ok (.aload_n 0, 1) := by decide +kernel
theorem dX11_count_7 : decode cX11_count 7 = .ok (.getfield 22, 3) := by decide +kernel
theorem dX11_count_10 : decode cX11_count 10 = .ok (.getfield 154, 3) := by decide +kernel
theorem dX11_count_13 : decode cX11_count 13 = .ok (.ireturn, 1) := by decide +kernel
theorem dX11_count_14 : decode cX11_count 14 = .ok (.iload_n 1, 1) := by decide +kernel
theorem dX11_count_15 : decode cX11_count 15 = .ok (.bipush 13, 2) := by decide +kernel
theorem dX11_count_17 : decode cX11_count 17 = .ok (.if_icmp .ne 11, 3) := by decide +kernel
theorem dX11_count_20 : decode cX11_count 20 = .ok (.aload_n 0, 1) := by decide +kernel
theorem dX11_count_21 : decode cX11_count 21 = .ok (.getfield 29, 3) := by decide +kernel
theorem dX11_count_24 : decode cX11_count 24 = .ok (.getfield 157, 3) := by decide +kernel
theorem dX11_count_27 : decode cX11_count 27 = .ok (.ireturn, 1) := by decide +kernel
theorem dX11_count_28 : decode cX11_count 28 = .ok (.iload_n 1, 1) := by decide +kernel
theorem dX11_count_29 : decode cX11_count 29 = .ok (.bipush 20, 2) := by decide +kernel
theorem dX11_count_31 : decode cX11_count 31 = .ok (.if_icmp .lt 22, 3) := by decide +kernel
theorem dX11_count_34 : decode cX11_count 34 = .ok (.iload_n 1, 1) := by decide +kernel
theorem dX11_count_35 : decode cX11_count 35 = .ok (.bipush 23, 2) := by decide +kernel
theorem dX11_count_37 : decode cX11_count 37 = .ok (.if_icmp .ge 16, 3) := by decide +kernel
theorem dX11_count_40 : decode cX11_count 40 = .ok (.aload_n 0, 1) := by decide +kernel
theorem dX11_count_41 : decode cX11_count 41 = .ok (.getfield 10, 3) := by decide +kernel
theorem dX11_count_44 : decode cX11_count 44 = .ok (.getfield 160, 3) := by decide +kernel
theorem dX11_count_47 : decode cX11_count 47 = .ok (.iload_n 1, 1) := by decide +kernel
theorem dX11_count_48 : decode cX11_count 48 = .ok (.bipush 20, 2) := by decide +kernel
theorem dX11_count_50 : decode cX11_count 50 = .ok (.isub, 1) := by decide +kernel
theorem dX11_count_51 : decode cX11_count 51 = .ok (.iaload, 1) := by decide +kernel
theorem dX11_count_52 : decode cX11_count 52 = .ok (.ireturn, 1) := by decide +kernel
theorem dX11_count_53 : decode cX11_count 53 = .ok (.aload_n 0, 1) := by decide +kernel
theorem dX11_count_54 : decode cX11_count 54 = .ok (.getfield 10, 3) := by decide +kernel
theorem dX11_count_57 : decode cX11_count 57 = .ok (.iload_n 1, 1) := by decide +kernel
theorem dX11_count_58 : decode cX11_count 58 = .ok (.invokestatic 164, 3) := by decide +kernel
theorem dX11_count_61 : decode cX11_count 61 = .ok (.ireturn, 1) := by decide +kernel
theorem dX11_undo_0 : decode cX11_undo 0 = .ok (.aload_n 0, 1) := by decide +kernel
theorem dX11_undo_1 : decode cX11_undo 1 = .ok (.getfield 22, 3) := by decide +kernel
theorem dX11_undo_4 : decode cX11_undo 4 = .ok (.aload_n 0, 1) := by decide +kernel
theorem dX11_undo_5 : decode cX11_undo 5 = .ok (.getfield 10, 3) := by decide +kernel
theorem dX11_undo_8 : decode cX11_undo 8 = .ok (.invokevirtual 167, 3) := by decide +kernel
theorem dX11_undo_11 : decode cX11_undo 11 = .ok (.ireturn, 1) := by decide +kernel
theorem dX11_type_0 : decode cX11_type 0 = .ok (.iload_n 1, 1) := by decide +kernel
theorem dX11_type_1 : decode cX11_type 1 = .ok (.bipush 32, 2) := by decide +kernel
theorem dX11_type_3 : decode cX11_type 3 = .ok (.if_icmp .lt 9, 3) := by decide +kernel
theorem dX11_type_6 : decode cX11_type 6 = .ok (.iload_n 1, 1) := by decide +kernel
theorem dX11_type_7 : decode cX11_type 7 = .ok (.bipush 126, 2) := by decide +kernel
theorem dX11_type_9 : decode cX11_type 9 = .ok (.if_icmp .le 6, 3) := by decide +kernel
theorem dX11_type_12 : decode cX11_type 12 = .ok (.ldc 81, 2) := by decide +kernel
theorem dX11_type_14 : decode cX11_type 14 = .ok (.ireturn, 1) := by decide +kernel
theorem dX11_type_15 : decode cX11_type 15 = .ok (.aload_n 0, 1) := by decide +kernel
theorem dX11_type_16 : decode cX11_type 16 = .ok (.getfield 29, 3) := by decide +kernel
theorem dX11_type_19 : decode cX11_type 19 = .ok (.iload_n 1, 1) := by decide +kernel
theorem dX11_type_20 : decode cX11_type 20 = .ok (.invokevirtual 170, 3) := by decide +kernel
theorem dX11_type_23 : decode cX11_type 23 = .ok (.ireturn, 1) := by decide +kernel
theorem dX11_clearText_0 : decode cX11_clearText 0 = .ok (.aload_n 0, 1) := by decide +kernel
theorem dX11_clearText_1 : decode cX11_clearText 1 = .ok (.getfield 29, 3) := by decide +kernel
theorem dX11_clearText_4 : decode cX11_clearText 4 = .ok (.invokevirtual 173, 3) := by decide +kernel
theorem dX11_clearText_7 : decode cX11_clearText 7 = .ok (.ireturn, 1) := by decide +kernel
theorem dX11_fault_0 : decode cX11_fault 0 = .ok (.iload_n 1, 1) := by decide +kernel
theorem dX11_fault_1 : decode cX11_fault 1 = .ok (.ifCond .lt 8, 3) := by decide +kernel
theorem dX11_fault_4 : decode cX11_fault 4 = .ok (.iload_n 1, 1) := by decide +kernel
theorem dX11_fault_5 : decode cX11_fault 5 = .ok (.iconst 2, 1) := by decide +kernel
theorem dX11_fault_6 : decode cX11_fault 6 = .ok (.if_icmp .le 6, 3) := by decide +kernel
theorem dX11_fault_9 : decode cX11_fault 9 = .ok (.ldc 81, 2) := by decide +kernel
theorem dX11_fault_11 : decode cX11_fault 11 = .ok (.ireturn, 1) := by decide +kernel
theorem dX11_fault_12 : decode cX11_fault 12 = .ok (.aload_n 0, 1) := by decide +kernel
theorem dX11_fault_13 : decode cX11_fault 13 = .ok (.getfield 36, 3) := by decide +kernel
theorem dX11_fault_16 : decode cX11_fault 16 = .ok (.aload_n 0, 1) := by decide +kernel
theorem dX11_fault_17 : decode cX11_fault 17 = .ok (.getfield 29, 3) := by decide +kernel
theorem dX11_fault_20 : decode cX11_fault 20 = .ok (.aload_n 0, 1) := by decide +kernel
theorem dX11_fault_21 : decode cX11_fault 21 = .ok (.getfield 10, 3) := by decide +kernel
theorem dX11_fault_24 : decode cX11_fault 24 = .ok (.aload_n 0, 1) := by decide +kernel
theorem dX11_fault_25 : decode cX11_fault 25 = .ok (.getfield 16, 3) := by decide +kernel
theorem dX11_fault_28 : decode cX11_fault 28 = .ok (.invokevirtual 176, 3) := by decide +kernel
theorem dX11_fault_31 : decode cX11_fault 31 = .ok (.aload_n 0, 1) := by decide +kernel
theorem dX11_fault_32 : decode cX11_fault 32 = .ok (.getfield 36, 3) := by decide +kernel
theorem dX11_fault_35 : decode cX11_fault 35 = .ok (.getfield 180, 3) := by decide +kernel
theorem dX11_fault_38 : decode cX11_fault 38 = .ok (.ifCond .ne 6, 3) := by decide +kernel
theorem dX11_fault_41 : decode cX11_fault 41 = .ok (.ldc 183, 2) := by decide +kernel
theorem dX11_fault_43 : decode cX11_fault 43 = .ok (.ireturn, 1) := by decide +kernel
theorem dX11_fault_44 : decode cX11_fault 44 = .ok (.iload_n 1, 1) := by decide +kernel
theorem dX11_fault_45 : decode cX11_fault 45 = .ok (.ifCond .ne 11, 3) := by decide +kernel
theorem dX11_fault_48 : decode cX11_fault 48 = .ok (.aload_n 0, 1) := by decide +kernel
theorem dX11_fault_49 : decode cX11_fault 49 = .ok (.getfield 36, 3) := by decide +kernel
theorem dX11_fault_52 : decode cX11_fault 52 = .ok (.getfield 184, 3) := by decide +kernel
theorem dX11_fault_55 : decode cX11_fault 55 = .ok (.ireturn, 1) := by decide +kernel
theorem dX11_fault_56 : decode cX11_fault 56 = .ok (.iload_n 1, 1) := by decide +kernel
theorem dX11_fault_57 : decode cX11_fault 57 = .ok (.iconst 1, 1) := by decide +kernel
theorem dX11_fault_58 : decode cX11_fault 58 = .ok (.if_icmp .ne 13, 3) := by decide +kernel
theorem dX11_fault_61 : decode cX11_fault 61 = .ok (.aload_n 0, 1) := by decide +kernel
theorem dX11_fault_62 : decode cX11_fault 62 = .ok (.getfield 36, 3) := by decide +kernel
theorem dX11_fault_65 : decode cX11_fault 65 = .ok (.getfield 180, 3) := by decide +kernel
theorem dX11_fault_68 : decode cX11_fault 68 = .ok (.goto 10, 3) := by decide +kernel
theorem dX11_fault_71 : decode cX11_fault 71 = .ok (.aload_n 0, 1) := by decide +kernel
theorem dX11_fault_72 : decode cX11_fault 72 = .ok (.getfield 36, 3) := by decide +kernel
theorem dX11_fault_75 : decode cX11_fault 75 = .ok (.getfield 187, 3) := by decide +kernel
theorem dX11_fault_78 : decode cX11_fault 78 = .ok (.ireturn, 1) := by decide +kernel
theorem dX11_play_0 : decode cX11_play 0 = .ok (.aload_n 0, 1) := by decide +kernel
theorem dX11_play_1 : decode cX11_play 1 = .ok (.getfield 36, 3) := by decide +kernel
theorem dX11_play_4 : decode cX11_play 4 = .ok (.aload_n 0, 1) := by decide +kernel
theorem dX11_play_5 : decode cX11_play 5 = .ok (.getfield 29, 3) := by decide +kernel
theorem dX11_play_8 : decode cX11_play 8 = .ok (.aload_n 0, 1) := by decide +kernel
theorem dX11_play_9 : decode cX11_play 9 = .ok (.getfield 10, 3) := by decide +kernel
theorem dX11_play_12 : decode cX11_play 12 = .ok (.aload_n 0, 1) := by decide +kernel
theorem dX11_play_13 : decode cX11_play 13 = .ok (.getfield 16, 3) := by decide +kernel
theorem dX11_play_16 : decode cX11_play 16 = .ok (.invokevirtual 176, 3) := by decide +kernel
theorem dX11_play_19 : decode cX11_play 19 = .ok (.aload_n 0, 1) := by decide +kernel
theorem dX11_play_20 : decode cX11_play 20 = .ok (.getfield 36, 3) := by decide +kernel
theorem dX11_play_23 : decode cX11_play 23 = .ok (.getfield 180, 3) := by decide +kernel
theorem dX11_play_26 : decode cX11_play 26 = .ok (.ifCond .eq 6, 3) := by decide +kernel
theorem dX11_play_29 : decode cX11_play 29 = .ok (.ldc 123, 2) := by decide +kernel
theorem dX11_play_31 : decode cX11_play 31 = .ok (.ireturn, 1) := by decide +kernel
theorem dX11_play_32 : decode cX11_play 32 = .ok (.aload_n 0, 1) := by decide +kernel
theorem dX11_play_33 : decode cX11_play 33 = .ok (.getfield 22, 3) := by decide +kernel
theorem dX11_play_36 : decode cX11_play 36 = .ok (.aload_n 0, 1) := by decide +kernel
theorem dX11_play_37 : decode cX11_play 37 = .ok (.getfield 10, 3) := by decide +kernel
theorem dX11_play_40 : decode cX11_play 40 = .ok (.invokevirtual 40, 3) := by decide +kernel
theorem dX11_play_43 : decode cX11_play 43 = .ok (.aload_n 0, 1) := by decide +kernel
theorem dX11_play_44 : decode cX11_play 44 = .ok (.getfield 10, 3) := by decide +kernel
theorem dX11_play_47 : decode cX11_play 47 = .ok (.aload_n 0, 1) := by decide +kernel
theorem dX11_play_48 : decode cX11_play 48 = .ok (.getfield 16, 3) := by decide +kernel
theorem dX11_play_51 : decode cX11_play 51 = .ok (.invokevirtual 124, 3) := by decide +kernel
theorem dX11_play_54 : decode cX11_play 54 = .ok (.aload_n 0, 1) := by decide +kernel
theorem dX11_play_55 : decode cX11_play 55 = .ok (.getfield 22, 3) := by decide +kernel
theorem dX11_play_58 : decode cX11_play 58 = .ok (.aload_n 0, 1) := by decide +kernel
theorem dX11_play_59 : decode cX11_play 59 = .ok (.getfield 36, 3) := by decide +kernel
theorem dX11_play_62 : decode cX11_play 62 = .ok (.getfield 190, 3) := by decide +kernel
theorem dX11_play_65 : decode cX11_play 65 = .ok (.invokevirtual 50, 3) := by decide +kernel
theorem dX11_play_68 : decode cX11_play 68 = .ok (.ireturn, 1) := by decide +kernel
theorem dX12_init_0 : decode cX12_init 0 = .ok (.aload_n 0, 1) := by decide +kernel
theorem dX12_init_1 : decode cX12_init 1 = .ok (.invokespecial 1, 3) := by decide +kernel
theorem dX12_init_4 : decode cX12_init 4 = .ok (.aload_n 0, 1) := by decide +kernel
theorem dX12_init_5 : decode cX12_init 5 = .ok (.sipush 320, 3) := by decide +kernel
theorem dX12_init_8 : decode cX12_init 8 = .ok (.newarray .int, 2) := by decide +kernel
theorem dX12_init_10 : decode cX12_init 10 = .ok (.putfield 7, 3) := by decide +kernel
theorem dX12_init_13 : decode cX12_init 13 = .ok (.aload_n 0, 1) := by decide +kernel
theorem dX12_init_14 : decode cX12_init 14 = .ok (.sipush 1280, 3) := by decide +kernel
theorem dX12_init_17 : decode cX12_init 17 = .ok (.newarray .int, 2) := by decide +kernel
theorem dX12_init_19 : decode cX12_init 19 = .ok (.putfield 13, 3) := by decide +kernel
theorem dX12_init_22 : decode cX12_init 22 = .ok (.aload_n 0, 1) := by decide +kernel
theorem dX12_init_23 : decode cX12_init 23 = .ok (.sipush 320, 3) := by decide +kernel
theorem dX12_init_26 : decode cX12_init 26 = .ok (.newarray .int, 2) := by decide +kernel
theorem dX12_init_28 : decode cX12_init 28 = .ok (.putfield 16, 3) := by decide +kernel
theorem dX12_init_31 : decode cX12_init 31 = .ok (.aload_n 0, 1) := by decide +kernel
theorem dX12_init_32 : decode cX12_init 32 = .ok (.bipush 60, 2) := by decide +kernel
theorem dX12_init_34 : decode cX12_init 34 = .ok (.newarray .int, 2) := by decide +kernel
theorem dX12_init_36 : decode cX12_init 36 = .ok (.putfield 19, 3) := by decide +kernel
theorem dX12_init_39 : decode cX12_init 39 = .ok (.aload_n 0, 1) := by decide +kernel
theorem dX12_init_40 : decode cX12_init 40 = .ok (.bipush 30, 2) := by decide +kernel
theorem dX12_init_42 : decode cX12_init 42 = .ok (.newarray .int, 2) := by decide +kernel
theorem dX12_init_44 : decode cX12_init 44 = .ok (.putfield 22, 3) := by decide +kernel
theorem dX12_init_47 : decode cX12_init 47 = .ok (.aload_n 0, 1) := by decide +kernel
theorem dX12_init_48 : decode cX12_init 48 = .ok (.iconst 2, 1) := by decide +kernel
theorem dX12_init_49 : decode cX12_init 49 = .ok (.newarray .int, 2) := by decide +kernel
theorem dX12_init_51 : decode cX12_init 51 = .ok (.putfield 25, 3) := by decide +kernel
theorem dX12_init_54 : decode cX12_init 54 = .ok (.aload_n 0, 1) := by decide +kernel
theorem dX12_init_55 : decode cX12_init 55 = .ok (.getfield 7, 3) := by decide +kernel
theorem dX12_init_58 : decode cX12_init 58 = .ok (.sipush 317, 3) := by decide +kernel
theorem dX12_init_61 : decode cX12_init 61 = .ok (.bipush 8, 2) := by decide +kernel
theorem dX12_init_63 : decode cX12_init 63 = .ok (.iastore, 1) := by decide +kernel
theorem dX12_init_64 : decode cX12_init 64 = .ok (.aload_n 0, 1) := by decide +kernel
theorem dX12_init_65 : decode cX12_init 65 = .ok (.getfield 7, 3) := by decide +kernel
theorem dX12_init_68 : decode cX12_init 68 = .ok (.sipush 318, 3) := by decide +kernel
theorem dX12_init_71 : decode cX12_init 71 = .ok (.iconst 3, 1) := by decide +kernel
theorem dX12_init_72 : decode cX12_init 72 = .ok (.iastore, 1) := by decide +kernel
theorem dX12_init_73 : decode cX12_init 73 = .ok (.aload_n 0, 1) := by decide +kernel
theorem dX12_init_74 : decode cX12_init 74 = .ok (.getfield 7, 3) := by decide +kernel
theorem dX12_init_77 : decode cX12_init 77 = .ok (.sipush 319, 3) := by decide +kernel
theorem dX12_init_80 : decode cX12_init 80 = .ok (.iconst 2, 1) := by decide +kernel
theorem dX12_init_81 : decode cX12_init 81 = .ok (.iastore, 1) := by decide +kernel
theorem dX12_init_82 : decode cX12_init 82 = .ok (.return_, 1) := by decide +kernel
theorem dX12_in_0 : decode cX12_in 0 = .ok (.iload_n 0, 1) := by decide +kernel
theorem dX12_in_1 : decode cX12_in 1 = .ok (.iload_n 1, 1) := by decide +kernel
theorem dX12_in_2 : decode cX12_in 2 = .ok (.if_icmp .lt 12, 3) := by decide +kernel
theorem dX12_in_5 : decode cX12_in 5 = .ok (.iload_n 0, 1) := by decide +kernel
theorem dX12_in_6 : decode cX12_in 6 = .ok (.iload_n 2, 1) := by decide +kernel
theorem dX12_in_7 : decode cX12_in 7 = .ok (.if_icmp .gt 7, 3) := by decide +kernel
theorem dX12_in_10 : decode cX12_in 10 = .ok (.iconst 1, 1) := by decide +kernel
theorem dX12_in_11 : decode cX12_in 11 = .ok (.goto 4, 3) := by decide +kernel
theorem dX12_in_14 : decode cX12_in 14 = .ok (.iconst 0, 1) := by decide +kernel
theorem dX12_in_15 : decode cX12_in 15 = .ok (.ireturn, 1) := by decide +kernel
theorem dX12_copies_0 : decode cX12_copies 0 = .ok (.iconst 0, 1) := by decide +kernel
theorem dX12_copies_1 : decode cX12_copies 1 = .ok (.istore_n 2, 1) := by decide +kernel
theorem dX12_copies_2 : decode cX12_copies 2 = .ok (.iload_n 2, 1) := by decide +kernel
theorem dX12_copies_3 : decode cX12_copies 3 = .ok (.sipush 320, 3) := by decide +kernel
theorem dX12_copies_6 : decode cX12_copies 6 = .ok (.if_icmp .ge 15, 3) := by decide +kernel
theorem dX12_copies_9 : decode cX12_copies 9 = .ok (.aload_n 1, 1) := by decide +kernel
theorem dX12_copies_10 : decode cX12_copies 10 = .ok (.iload_n 2, 1) := by decide +kernel
theorem dX12_copies_11 : decode cX12_copies 11 = .ok (.aload_n 0, 1) := by decide +kernel
theorem dX12_copies_12 : decode cX12_copies 12 = .ok (.iload_n 2, 1) := by decide +kernel
theorem dX12_copies_13 : decode cX12_copies 13 = .ok (.iaload, 1) := by decide +kernel
theorem dX12_copies_14 : decode cX12_copies 14 = .ok (.iastore, 1) := by decide +kernel
theorem dX12_copies_15 : decode cX12_copies 15 = .ok (.iinc 2 1, 3) := by decide +kernel
theorem dX12_copies_18 : decode cX12_copies 18 = .ok (.goto (-16), 3) := by decide +kernel
theorem dX12_copies_21 : decode cX12_copies 21 = .ok (.return_, 1) := by decide +kernel
theorem dX12_changes_0 : decode cX12_changes 0 = .ok (.aload_n 0, 1) := by decide +kernel
theorem dX12_changes_1 : decode cX12_changes 1 = .ok (.getfield 28, 3) := by decide +kernel
theorem dX12_changes_4 : decode cX12_changes 4 = .ok (.ifCond .eq 4, 3) := by decide +kernel
theorem dX12_changes_7 : decode cX12_changes 7 = .ok (.return_, 1) := by decide +kernel
theorem dX12_changes_8 : decode cX12_changes 8 = .ok (.aload_n 0, 1) := by decide +kernel
theorem dX12_changes_9 : decode cX12_changes 9 = .ok (.getfield 32, 3) := by decide +kernel
theorem dX12_changes_12 : decode cX12_changes 12 = .ok (.iconst 4, 1) := by decide +kernel
theorem dX12_changes_13 : decode cX12_changes 13 = .ok (.if_icmp .ne 44, 3) := by decide +kernel
theorem dX12_changes_16 : decode cX12_changes 16 = .ok (.iconst 0, 1) := by decide +kernel
theorem dX12_changes_17 : decode cX12_changes 17 = .ok (.istore_n 1, 1) := by decide +kernel
theorem dX12_changes_18 : decode cX12_changes 18 = .ok (.iload_n 1, 1) := by decide +kernel
theorem dX12_changes_19 : decode cX12_changes 19 = .ok (.sipush 960, 3) := by decide +kernel
theorem dX12_changes_22 : decode cX12_changes 22 = .ok (.if_icmp .ge 25, 3) := by decide +kernel
theorem dX12_changes_25 : decode cX12_changes 25 = .ok (.aload_n 0, 1) := by decide +kernel
theorem dX12_changes_26 : decode cX12_changes 26 = .ok (.getfield 13, 3) := by decide +kernel
theorem dX12_changes_29 : decode cX12_changes 29 = .ok (.iload_n 1, 1) := by decide +kernel
theorem dX12_changes_30 : decode cX12_changes 30 = .ok (.aload_n 0, 1) := by decide +kernel
theorem dX12_changes_31 : decode cX12_changes 31 = .ok (.getfield 13, 3) := by decide +kernel
theorem dX12_changes_34 : decode cX12_changes 34 = .ok (.iload_n 1, 1) := by decide +kernel
theorem dX12_changes_35 : decode cX12_changes 35 = .ok (.sipush 320, 3) := by decide +kernel
theorem dX12_changes_38 : decode cX12_changes 38 = .ok (.iadd, 1) := by decide +kernel
theorem dX12_changes_39 : decode cX12_changes 39 = .ok (.iaload, 1) := by decide +kernel
theorem dX12_changes_40 : decode cX12_changes 40 = .ok (.iastore, 1) := by decide +kernel
theorem dX12_changes_41 : decode cX12_changes 41 = .ok (.iinc 1 1, 3) := by decide +kernel
theorem dX12_changes_44 : decode cX12_changes 44 = .ok (.goto (-26), 3) := by decide +kernel
theorem dX12_changes_47 : decode cX12_changes 47 = .ok (.aload_n 0, 1) := by decide +kernel
theorem dX12_changes_48 : decode cX12_changes 48 = .ok (.dup, 1) := by decide +kernel
theorem dX12_changes_49 : decode cX12_changes 49 = .ok (.getfield 32, 3) := by decide +kernel
theorem dX12_changes_52 : decode cX12_changes 52 = .ok (.iconst 1, 1) := by decide +kernel
theorem dX12_changes_53 : decode cX12_changes 53 = .ok (.isub, 1) := by decide +kernel
theorem dX12_changes_54 : decode cX12_changes 54 = .ok (.putfield 32, 3) := by decide +kernel
theorem dX12_changes_57 : decode cX12_changes 57 = .ok (.iconst 0, 1) := by decide +kernel
theorem dX12_changes_58 : decode cX12_changes 58 = .ok (.istore_n 1, 1) := by decide +kernel
theorem dX12_changes_59 : decode cX12_changes 59 = .ok (.iload_n 1, 1) := by decide +kernel
theorem dX12_changes_60 : decode cX12_changes 60 = .ok (.sipush 320, 3) := by decide +kernel
theorem dX12_changes_63 : decode cX12_changes 63 = .ok (.if_icmp .ge 30, 3) := by decide +kernel
theorem dX12_changes_66 : decode cX12_changes 66 = .ok (.aload_n 0, 1) := by decide +kernel
theorem dX12_changes_67 : decode cX12_changes 67 = .ok (.getfield 13, 3) := by decide +kernel
theorem dX12_changes_70 : decode cX12_changes 70 = .ok (.sipush 320, 3) := by decide +kernel
theorem dX12_changes_73 : decode cX12_changes 73 = .ok (.aload_n 0, 1) := by decide +kernel
theorem dX12_changes_74 : decode cX12_changes 74 = .ok (.getfield 32, 3) := by decide +kernel
theorem dX12_changes_77 : decode cX12_changes 77 = .ok (.imul, 1) := by decide +kernel
theorem dX12_changes_78 : decode cX12_changes 78 = .ok (.iload_n 1, 1) := by decide +kernel
theorem dX12_changes_79 : decode cX12_changes 79 = .ok (.iadd, 1) := by decide +kernel
theorem dX12_changes_80 : decode cX12_changes 80 = .ok (.aload_n 0, 1) := by decide +kernel
theorem dX12_changes_81 : decode cX12_changes 81 = .ok (.getfield 7, 3) := by decide +kernel
theorem dX12_changes_84 : decode cX12_changes 84 = .ok (.iload_n 1, 1) := by decide +kernel
theorem dX12_changes_85 : decode cX12_changes 85 = .ok (.iaload, 1) := by decide +kernel
theorem dX12_changes_86 : decode cX12_changes 86 = .ok (.iastore, 1) := by decide +kernel
theorem dX12_changes_87 : decode cX12_changes 87 = .ok (.iinc 1 1, 3) := by decide +kernel
theorem dX12_changes_90 : decode cX12_changes 90 = .ok (.goto (-31), 3) := by decide +kernel
theorem dX12_changes_93 : decode cX12_changes 93 = .ok (.aload_n 0, 1) := by decide +kernel
theorem dX12_changes_94 : decode cX12_changes 94 = .ok (.dup, 1) := by decide +kernel
theorem dX12_changes_95 : decode cX12_changes 95 = .ok (.getfield 32, 3) := by decide +kernel
theorem dX12_changes_98 : decode cX12_changes 98 = .ok (.iconst 1, 1) := by decide +kernel
theorem dX12_changes_99 : decode cX12_changes 99 = .ok (.iadd, 1) := by decide +kernel
theorem dX12_changes_100 : decode cX12_changes 100 = .ok (.putfield 32, 3) := by decide +kernel
theorem dX12_changes_103 : decode cX12_changes 103 = .ok (.return_, 1) := by decide +kernel
theorem dX12_of_0 : decode cX12_of 0 = .ok (.aload_n 0, 1) := by decide +kernel
theorem dX12_of_1 : decode cX12_of 1 = .ok (.getfield 7, 3) := by decide +kernel
theorem dX12_of_4 : decode cX12_of 4 = .ok (.bipush 10, 2) := by decide +kernel
theorem dX12_of_6 : decode cX12_of 6 = .ok (.iload_n 1, 1) := by decide +kernel
theorem dX12_of_7 : decode cX12_of 7 = .ok (.imul, 1) := by decide +kernel
theorem dX12_of_8 : decode cX12_of 8 = .ok (.iload_n 2, 1) := by decide +kernel
theorem dX12_of_9 : decode cX12_of 9 = .ok (.iadd, 1) := by decide +kernel
theorem dX12_of_10 : decode cX12_of 10 = .ok (.iaload, 1) := by decide +kernel
theorem dX12_of_11 : decode cX12_of 11 = .ok (.ireturn, 1) := by decide +kernel
theorem dX12_lay_0 : decode cX12_lay 0 = .ok (.aload_n 0, 1) := by decide +kernel
theorem dX12_lay_1 : decode cX12_lay 1 = .ok (.getfield 7, 3) := by decide +kernel
theorem dX12_lay_4 : decode cX12_lay 4 = .ok (.bipush 10, 2) := by decide +kernel
theorem dX12_lay_6 : decode cX12_lay 6 = .ok (.iload_n 1, 1) := by decide +kernel
theorem dX12_lay_7 : decode cX12_lay 7 = .ok (.imul, 1) := by decide +kernel
theorem dX12_lay_8 : decode cX12_lay 8 = .ok (.iload_n 2, 1) := by decide +kernel
theorem dX12_lay_9 : decode cX12_lay 9 = .ok (.iadd, 1) := by decide +kernel
theorem dX12_lay_10 : decode cX12_lay 10 = .ok (.iload_n 3, 1) := by decide +kernel
theorem dX12_lay_11 : decode cX12_lay 11 = .ok (.iastore, 1) := by decide +kernel
theorem dX12_lay_12 : decode cX12_lay 12 = .ok (.return_, 1) := by decide +kernel
theorem dX12_isSwimmer_0 : decode cX12_isSwimmer 0 = .ok (.iload_n 1, 1) := by decide +kernel
theorem dX12_isSwimmer_1 : decode cX12_isSwimmer 1 = .ok (.iconst 0, 1) := by decide +kernel
theorem dX12_isSwimmer_2 : decode cX12_isSwimmer 2 = .ok (.aload_n 0, 1) := by decide +kernel
theorem dX12_isSwimmer_3 : decode cX12_isSwimmer 3 = .ok (.getfield 7, 3) := by decide +kernel
theorem dX12_isSwimmer_6 : decode cX12_isSwimmer 6 = .ok (.sipush 311, 3) := by decide +kernel
theorem dX12_isSwimmer_9 : decode cX12_isSwimmer 9 = .ok (.iaload, 1) := by decide +kernel
theorem dX12_isSwimmer_10 : decode cX12_isSwimmer 10 = .ok (.iconst 1, 1) := by decide +kernel
theorem dX12_isSwimmer_11 : decode cX12_isSwimmer 11 = .ok (.isub, 1) := by decide +kernel
theorem dX12_isSwimmer_12 : decode cX12_isSwimmer 12 = .ok (.invokestatic 36, 3) := by decide +kernel
theorem dX12_isSwimmer_15 : decode cX12_isSwimmer 15 = .ok (.ireturn, 1) := by decide +kernel
theorem dX12_isGone_0 : decode cX12_isGone 0 = .ok (.aload_n 0, 1) := by decide +kernel
theorem dX12_isGone_1 : decode cX12_isGone 1 = .ok (.iload_n 1, 1) := by decide +kernel
theorem dX12_isGone_2 : decode cX12_isGone 2 = .ok (.iconst 2, 1) := by decide +kernel
theorem dX12_isGone_3 : decode cX12_isGone 3 = .ok (.invokevirtual 40, 3) := by decide +kernel
theorem dX12_isGone_6 : decode cX12_isGone 6 = .ok (.iconst 1, 1) := by decide +kernel
theorem dX12_isGone_7 : decode cX12_isGone 7 = .ok (.if_icmp .ne 7, 3) := by decide +kernel
theorem dX12_isGone_10 : decode cX12_isGone 10 = .ok (.iconst 1, 1) := by decide +kernel
theorem dX12_isGone_11 : decode cX12_isGone 11 = .ok (.goto 4, 3) := by decide +kernel
theorem dX12_isGone_14 : decode cX12_isGone 14 = .ok (.iconst 0, 1) := by decide +kernel
theorem dX12_isGone_15 : decode cX12_isGone 15 = .ok (.ireturn, 1) := by decide +kernel
theorem dX12_lanes_0 : decode cX12_lanes 0 = .ok (.aload_n 0, 1) := by decide +kernel
theorem dX12_lanes_1 : decode cX12_lanes 1 = .ok (.getfield 7, 3) := by decide +kernel
theorem dX12_lanes_4 : decode cX12_lanes 4 = .ok (.sipush 317, 3) := by decide +kernel
theorem dX12_lanes_7 : decode cX12_lanes 7 = .ok (.iaload, 1) := by decide +kernel
theorem dX12_lanes_8 : decode cX12_lanes 8 = .ok (.ireturn, 1) := by decide +kernel
theorem dX12_entryKey_0 : decode cX12_entryKey 0 = .ok (.aload_n 0, 1) := by decide +kernel
theorem dX12_entryKey_1 : decode cX12_entryKey 1 = .ok (.iload_n 1, 1) := by decide +kernel
theorem dX12_entryKey_2 : decode cX12_entryKey 2 = .ok (.iconst 1, 1) := by decide +kernel
theorem dX12_entryKey_3 : decode cX12_entryKey 3 = .ok (.invokevirtual 40, 3) := by decide +kernel
theorem dX12_entryKey_6 : decode cX12_entryKey 6 = .ok (.istore_n 2, 1) := by decide +kernel
theorem dX12_entryKey_7 : decode cX12_entryKey 7 = .ok (.bipush 32, 2) := by decide +kernel
theorem dX12_entryKey_9 : decode cX12_entryKey 9 = .ok (.iload_n 2, 1) := by decide +kernel
theorem dX12_entryKey_10 : decode cX12_entryKey 10 = .ok (.ifCond .ne 9, 3) := by decide +kernel
theorem dX12_entryKey_13 : decode cX12_entryKey 13 = .ok (.sipush 1000, 3) := by decide +kernel
theorem dX12_entryKey_16 : decode cX12_entryKey 16 = .ok (.goto 4, 3) := by decide +kernel
theorem dX12_entryKey_19 : decode cX12_entryKey 19 = .ok (.iload_n 2, 1) := by decide +kernel
theorem dX12_entryKey_20 : decode cX12_entryKey 20 = .ok (.imul, 1) := by decide +kernel
theorem dX12_entryKey_21 : decode cX12_entryKey 21 = .ok (.iload_n 1, 1) := by decide +kernel
theorem dX12_entryKey_22 : decode cX12_entryKey 22 = .ok (.iadd, 1) := by decide +kernel
theorem dX12_entryKey_23 : decode cX12_entryKey 23 = .ok (.ireturn, 1) := by decide +kernel
theorem dX12_entryRank_0 : decode cX12_entryRank 0 = .ok (.iconst 0, 1) := by decide +kernel
theorem dX12_entryRank_1 : decode cX12_entryRank 1 = .ok (.istore_n 2, 1) := by decide +kernel
theorem dX12_entryRank_2 : decode cX12_entryRank 2 = .ok (.iconst 0, 1) := by decide +kernel
theorem dX12_entryRank_3 : decode cX12_entryRank 3 = .ok (.istore_n 3, 1) := by decide +kernel
theorem dX12_entryRank_4 : decode cX12_entryRank 4 = .ok (.iload_n 3, 1) := by decide +kernel
theorem dX12_entryRank_5 : decode cX12_entryRank 5 = .ok (.aload_n 0, 1) := by decide +kernel
theorem dX12_entryRank_6 : decode cX12_entryRank 6 = .ok (.getfield 7, 3) := by decide +kernel
theorem dX12_entryRank_9 : decode cX12_entryRank 9 = .ok (.sipush 311, 3) := by decide +kernel
theorem dX12_entryRank_12 : decode cX12_entryRank 12 = .ok (.iaload, 1) := by decide +kernel
theorem dX12_entryRank_13 : decode cX12_entryRank 13 = .ok (.if_icmp .ge 38, 3) := by decide +kernel
theorem dX12_entryRank_16 : decode cX12_entryRank 16 = .ok (.iload_n 2, 1) := by decide +kernel
theorem dX12_entryRank_17 : decode cX12_entryRank 17 = .ok (.aload_n 0, 1) := by decide +kernel
theorem dX12_entryRank_18 : decode cX12_entryRank 18 = .ok (.iload_n 3, 1) := by decide +kernel
theorem dX12_entryRank_19 : decode cX12_entryRank 19 = .ok (.invokevirtual 44, 3) := by decide +kernel
theorem dX12_entryRank_22 : decode cX12_entryRank 22 = .ok (.ifCond .ne 20, 3) := by decide +kernel
theorem dX12_entryRank_25 : decode cX12_entryRank 25 = .ok (.aload_n 0, 1) := by decide +kernel
theorem dX12_entryRank_26 : decode cX12_entryRank 26 = .ok (.iload_n 3, 1) := by decide +kernel
theorem dX12_entryRank_27 : decode cX12_entryRank 27 = .ok (.invokevirtual 48, 3) := by decide +kernel
theorem dX12_entryRank_30 : decode cX12_entryRank 30 = .ok (.aload_n 0, 1) := by decide +kernel
theorem dX12_entryRank_31 : decode cX12_entryRank 31 = .ok (.iload_n 1, 1) := by decide +kernel
theorem dX12_entryRank_32 : decode cX12_entryRank 32 = .ok (.invokevirtual 48, 3) := by decide +kernel
theorem dX12_entryRank_35 : decode cX12_entryRank 35 = .ok (.if_icmp .ge 7, 3) := by decide +kernel
theorem dX12_entryRank_38 : decode cX12_entryRank 38 = .ok (.iconst 1, 1) := by decide +kernel
theorem dX12_entryRank_39 : decode cX12_entryRank 39 = .ok (.goto 4, 3) := by decide +kernel
theorem dX12_entryRank_42 : decode cX12_entryRank 42 = .ok (.iconst 0, 1) := by decide +kernel
theorem dX12_entryRank_43 : decode cX12_entryRank 43 = .ok (.iadd, 1) := by decide +kernel
theorem dX12_entryRank_44 : decode cX12_entryRank 44 = .ok (.istore_n 2, 1) := by decide +kernel
theorem dX12_entryRank_45 : decode cX12_entryRank 45 = .ok (.iinc 3 1, 3) := by decide +kernel
theorem dX12_entryRank_48 : decode cX12_entryRank 48 = .ok (.goto (-44), 3) := by decide +kernel
theorem dX12_entryRank_51 : decode cX12_entryRank 51 = .ok (.iload_n 2, 1) := by decide +kernel
theorem dX12_entryRank_52 : decode cX12_entryRank 52 = .ok (.ireturn, 1) := by decide +kernel
theorem dX12_hasTime_0 : decode cX12_hasTime 0 = .ok (.aload_n 0, 1) := by decide +kernel
theorem dX12_hasTime_1 : decode cX12_hasTime 1 = .ok (.iload_n 1, 1) := by decide +kernel
theorem dX12_hasTime_2 : decode cX12_hasTime 2 = .ok (.iconst 5, 1) := by decide +kernel
theorem dX12_hasTime_3 : decode cX12_hasTime 3 = .ok (.invokevirtual 40, 3) := by decide +kernel
theorem dX12_hasTime_6 : decode cX12_hasTime 6 = .ok (.iconst 1, 1) := by decide +kernel
theorem dX12_hasTime_7 : decode cX12_hasTime 7 = .ok (.if_icmp .le 7, 3) := by decide +kernel
theorem dX12_hasTime_10 : decode cX12_hasTime 10 = .ok (.iconst 1, 1) := by decide +kernel
theorem dX12_hasTime_11 : decode cX12_hasTime 11 = .ok (.goto 4, 3) := by decide +kernel
theorem dX12_hasTime_14 : decode cX12_hasTime 14 = .ok (.iconst 0, 1) := by decide +kernel
theorem dX12_hasTime_15 : decode cX12_hasTime 15 = .ok (.ireturn, 1) := by decide +kernel
theorem dX12_isFaster_0 : decode cX12_isFaster 0 = .ok (.aload_n 0, 1) := by decide +kernel
theorem dX12_isFaster_1 : decode cX12_isFaster 1 = .ok (.iload_n 1, 1) := by decide +kernel
theorem dX12_isFaster_2 : decode cX12_isFaster 2 = .ok (.iconst 5, 1) := by decide +kernel
theorem dX12_isFaster_3 : decode cX12_isFaster 3 = .ok (.invokevirtual 40, 3) := by decide +kernel
theorem dX12_isFaster_6 : decode cX12_isFaster 6 = .ok (.aload_n 0, 1) := by decide +kernel
theorem dX12_isFaster_7 : decode cX12_isFaster 7 = .ok (.iload_n 2, 1) := by decide +kernel
theorem dX12_isFaster_8 : decode cX12_isFaster 8 = .ok (.iconst 5, 1) := by decide +kernel
theorem dX12_isFaster_9 : decode cX12_isFaster 9 = .ok (.invokevirtual 40, 3) := by decide +kernel
theorem dX12_isFaster_12 : decode cX12_isFaster 12 = .ok (.isub, 1) := by decide +kernel
theorem dX12_isFaster_13 : decode cX12_isFaster 13 = .ok (.istore_n 3, 1) := by decide +kernel
theorem dX12_isFaster_14 : decode cX12_isFaster 14 = .ok (.iload_n 3, 1) := by decide +kernel
theorem dX12_isFaster_15 : decode cX12_isFaster 15 = .ok (.ifCond .lt 20, 3) := by decide +kernel
theorem dX12_isFaster_18 : decode cX12_isFaster 18 = .ok (.iload_n 3, 1) := by decide +kernel
theorem dX12_isFaster_19 : decode cX12_isFaster 19 = .ok (.ifCond .ne 20, 3) := by decide +kernel
theorem dX12_isFaster_22 : decode cX12_isFaster 22 = .ok (.aload_n 0, 1) := by decide +kernel
theorem dX12_isFaster_23 : decode cX12_isFaster 23 = .ok (.iload_n 1, 1) := by decide +kernel
theorem dX12_isFaster_24 : decode cX12_isFaster 24 = .ok (.invokevirtual 48, 3) := by decide +kernel
theorem dX12_isFaster_27 : decode cX12_isFaster 27 = .ok (.aload_n 0, 1) := by decide +kernel
theorem dX12_isFaster_28 : decode cX12_isFaster 28 = .ok (.iload_n 2, 1) := by decide +kernel
theorem dX12_isFaster_29 : decode cX12_isFaster 29 = .ok (.invokevirtual 48, 3) := by decide +kernel
theorem dX12_isFaster_32 : decode cX12_isFaster 32 = .ok (.if_icmp .ge 7, 3) := by decide +kernel
theorem dX12_isFaster_35 : decode cX12_isFaster 35 = .ok (.iconst 1, 1) := by decide +kernel
theorem dX12_isFaster_36 : decode cX12_isFaster 36 = .ok (.goto 4, 3) := by decide +kernel
theorem dX12_isFaster_39 : decode cX12_isFaster 39 = .ok (.iconst 0, 1) := by decide +kernel
theorem dX12_isFaster_40 : decode cX12_isFaster 40 = .ok (.ireturn, 1) := by decide +kernel
theorem dX12_timeRank_0 : decode cX12_timeRank 0 = .ok (.iconst 0, 1) := by decide +kernel
theorem dX12_timeRank_1 : decode cX12_timeRank 1 = .ok (.istore_n 2, 1) := by decide +kernel
theorem dX12_timeRank_2 : decode cX12_timeRank 2 = .ok (.iconst 0, 1) := by decide +kernel
theorem dX12_timeRank_3 : decode cX12_timeRank 3 = .ok (.istore_n 3, 1) := by decide +kernel
theorem dX12_timeRank_4 : decode cX12_timeRank 4 = .ok (.iload_n 3, 1) := by decide +kernel
theorem dX12_timeRank_5 : decode cX12_timeRank 5 = .ok (.aload_n 0, 1) := by decide +kernel
theorem dX12_timeRank_6 : decode cX12_timeRank 6 = .ok (.getfield 7, 3) := by decide +kernel
theorem dX12_timeRank_9 : decode cX12_timeRank 9 = .ok (.sipush 311, 3) := by decide +kernel
theorem dX12_timeRank_12 : decode cX12_timeRank 12 = .ok (.iaload, 1) := by decide +kernel
theorem dX12_timeRank_13 : decode cX12_timeRank 13 = .ok (.if_icmp .ge 34, 3) := by decide +kernel
theorem dX12_timeRank_16 : decode cX12_timeRank 16 = .ok (.iload_n 2, 1) := by decide +kernel
theorem dX12_timeRank_17 : decode cX12_timeRank 17 = .ok (.aload_n 0, 1) := by decide +kernel
theorem dX12_timeRank_18 : decode cX12_timeRank 18 = .ok (.iload_n 3, 1) := by decide +kernel
theorem dX12_timeRank_19 : decode cX12_timeRank 19 = .ok (.invokevirtual 52, 3) := by decide +kernel
theorem dX12_timeRank_22 : decode cX12_timeRank 22 = .ok (.ifCond .eq 16, 3) := by decide +kernel
theorem dX12_timeRank_25 : decode cX12_timeRank 25 = .ok (.aload_n 0, 1) := by decide +kernel
theorem dX12_timeRank_26 : decode cX12_timeRank 26 = .ok (.iload_n 3, 1) := by decide +kernel
theorem dX12_timeRank_27 : decode cX12_timeRank 27 = .ok (.iload_n 1, 1) := by decide +kernel
theorem dX12_timeRank_28 : decode cX12_timeRank 28 = .ok (.invokevirtual 55, 3) := by decide +kernel
theorem dX12_timeRank_31 : decode cX12_timeRank 31 = .ok (.ifCond .eq 7, 3) := by decide +kernel
theorem dX12_timeRank_34 : decode cX12_timeRank 34 = .ok (.iconst 1, 1) := by decide +kernel
theorem dX12_timeRank_35 : decode cX12_timeRank 35 = .ok (.goto 4, 3) := by decide +kernel
theorem dX12_timeRank_38 : decode cX12_timeRank 38 = .ok (.iconst 0, 1) := by decide +kernel
theorem dX12_timeRank_39 : decode cX12_timeRank 39 = .ok (.iadd, 1) := by decide +kernel
theorem dX12_timeRank_40 : decode cX12_timeRank 40 = .ok (.istore_n 2, 1) := by decide +kernel
theorem dX12_timeRank_41 : decode cX12_timeRank 41 = .ok (.iinc 3 1, 3) := by decide +kernel
theorem dX12_timeRank_44 : decode cX12_timeRank 44 = .ok (.goto (-40), 3) := by decide +kernel
theorem dX12_timeRank_47 : decode cX12_timeRank 47 = .ok (.iload_n 2, 1) := by decide +kernel
theorem dX12_timeRank_48 : decode cX12_timeRank 48 = .ok (.ireturn, 1) := by decide +kernel
theorem dX12_laneOf_0 : decode cX12_laneOf 0 = .ok (.aload_n 0, 1) := by decide +kernel
theorem dX12_laneOf_1 : decode cX12_laneOf 1 = .ok (.invokevirtual 59, 3) := by decide +kernel
theorem dX12_laneOf_4 : decode cX12_laneOf 4 = .ok (.iconst 1, 1) := by decide +kernel
theorem dX12_laneOf_5 : decode cX12_laneOf 5 = .ok (.iadd, 1) := by decide +kernel
theorem dX12_laneOf_6 : decode cX12_laneOf 6 = .ok (.iconst 2, 1) := by decide +kernel
theorem dX12_laneOf_7 : decode cX12_laneOf 7 = .ok (.idiv, 1) := by decide +kernel
theorem dX12_laneOf_8 : decode cX12_laneOf 8 = .ok (.istore_n 2, 1) := by decide +kernel
theorem dX12_laneOf_9 : decode cX12_laneOf 9 = .ok (.iload_n 1, 1) := by decide +kernel
theorem dX12_laneOf_10 : decode cX12_laneOf 10 = .ok (.iconst 1, 1) := by decide +kernel
theorem dX12_laneOf_11 : decode cX12_laneOf 11 = .ok (.iadd, 1) := by decide +kernel
theorem dX12_laneOf_12 : decode cX12_laneOf 12 = .ok (.iconst 2, 1) := by decide +kernel
theorem dX12_laneOf_13 : decode cX12_laneOf 13 = .ok (.idiv, 1) := by decide +kernel
theorem dX12_laneOf_14 : decode cX12_laneOf 14 = .ok (.istore_n 3, 1) := by decide +kernel
theorem dX12_laneOf_15 : decode cX12_laneOf 15 = .ok (.iload_n 1, 1) := by decide +kernel
theorem dX12_laneOf_16 : decode cX12_laneOf 16 = .ok (.iconst 2, 1) := by decide +kernel
theorem dX12_laneOf_17 : decode cX12_laneOf 17 = .ok (.irem, 1) := by decide +kernel
theorem dX12_laneOf_18 : decode cX12_laneOf 18 = .ok (.iconst 1, 1) := by decide +kernel
theorem dX12_laneOf_19 : decode cX12_laneOf 19 = .ok (.if_icmp .ne 9, 3) := by decide +kernel
theorem dX12_laneOf_22 : decode cX12_laneOf 22 = .ok (.iload_n 2, 1) := by decide +kernel
theorem dX12_laneOf_23 : decode cX12_laneOf 23 = .ok (.iload_n 3, 1) := by decide +kernel
theorem dX12_laneOf_24 : decode cX12_laneOf 24 = .ok (.iadd, 1) := by decide +kernel
theorem dX12_laneOf_25 : decode cX12_laneOf 25 = .ok (.goto 6, 3) := by decide +kernel
theorem dX12_laneOf_28 : decode cX12_laneOf 28 = .ok (.iload_n 2, 1) := by decide +kernel
theorem dX12_laneOf_29 : decode cX12_laneOf 29 = .ok (.iload_n 3, 1) := by decide +kernel
theorem dX12_laneOf_30 : decode cX12_laneOf 30 = .ok (.isub, 1) := by decide +kernel
theorem dX12_laneOf_31 : decode cX12_laneOf 31 = .ok (.ireturn, 1) := by decide +kernel
theorem dX12_rankOf_0 : decode cX12_rankOf 0 = .ok (.iconst 0, 1) := by decide +kernel
theorem dX12_rankOf_1 : decode cX12_rankOf 1 = .ok (.istore_n 2, 1) := by decide +kernel
theorem dX12_rankOf_2 : decode cX12_rankOf 2 = .ok (.aload_n 0, 1) := by decide +kernel
theorem dX12_rankOf_3 : decode cX12_rankOf 3 = .ok (.iload_n 2, 1) := by decide +kernel
theorem dX12_rankOf_4 : decode cX12_rankOf 4 = .ok (.invokevirtual 63, 3) := by decide +kernel
theorem dX12_rankOf_7 : decode cX12_rankOf 7 = .ok (.iload_n 1, 1) := by decide +kernel
theorem dX12_rankOf_8 : decode cX12_rankOf 8 = .ok (.if_icmp .eq 9, 3) := by decide +kernel
theorem dX12_rankOf_11 : decode cX12_rankOf 11 = .ok (.iinc 2 1, 3) := by decide +kernel
theorem dX12_rankOf_14 : decode cX12_rankOf 14 = .ok (.goto (-12), 3) := by decide +kernel
theorem dX12_rankOf_17 : decode cX12_rankOf 17 = .ok (.iload_n 2, 1) := by decide +kernel
theorem dX12_rankOf_18 : decode cX12_rankOf 18 = .ok (.ireturn, 1) := by decide +kernel
theorem dX12_present_0 : decode cX12_present 0 = .ok (.iconst 0, 1) := by decide +kernel
theorem dX12_present_1 : decode cX12_present 1 = .ok (.istore_n 1, 1) := by decide +kernel
theorem dX12_present_2 : decode cX12_present 2 = .ok (.iconst 0, 1) := by decide +kernel
theorem dX12_present_3 : decode cX12_present 3 = .ok (.istore_n 2, 1) := by decide +kernel
theorem dX12_present_4 : decode cX12_present 4 = .ok (.iload_n 2, 1) := by decide +kernel
theorem dX12_present_5 : decode cX12_present 5 = .ok (.aload_n 0, 1) := by decide +kernel
theorem dX12_present_6 : decode cX12_present 6 = .ok (.getfield 7, 3) := by decide +kernel
theorem dX12_present_9 : decode cX12_present 9 = .ok (.sipush 311, 3) := by decide +kernel
theorem dX12_present_12 : decode cX12_present 12 = .ok (.iaload, 1) := by decide +kernel
theorem dX12_present_13 : decode cX12_present 13 = .ok (.if_icmp .ge 25, 3) := by decide +kernel
theorem dX12_present_16 : decode cX12_present 16 = .ok (.iload_n 1, 1) := by decide +kernel
theorem dX12_present_17 : decode cX12_present 17 = .ok (.aload_n 0, 1) := by decide +kernel
theorem dX12_present_18 : decode cX12_present 18 = .ok (.iload_n 2, 1) := by decide +kernel
theorem dX12_present_19 : decode cX12_present 19 = .ok (.invokevirtual 44, 3) := by decide +kernel
theorem dX12_present_22 : decode cX12_present 22 = .ok (.ifCond .eq 7, 3) := by decide +kernel
theorem dX12_present_25 : decode cX12_present 25 = .ok (.iconst 0, 1) := by decide +kernel
theorem dX12_present_26 : decode cX12_present 26 = .ok (.goto 4, 3) := by decide +kernel
theorem dX12_present_29 : decode cX12_present 29 = .ok (.iconst 1, 1) := by decide +kernel
theorem dX12_present_30 : decode cX12_present 30 = .ok (.iadd, 1) := by decide +kernel
theorem dX12_present_31 : decode cX12_present 31 = .ok (.istore_n 1, 1) := by decide +kernel
theorem dX12_present_32 : decode cX12_present 32 = .ok (.iinc 2 1, 3) := by decide +kernel
theorem dX12_present_35 : decode cX12_present 35 = .ok (.goto (-31), 3) := by decide +kernel
theorem dX12_present_38 : decode cX12_present 38 = .ok (.iload_n 1, 1) := by decide +kernel
theorem dX12_present_39 : decode cX12_present 39 = .ok (.ireturn, 1) := by decide +kernel
theorem dX12_sizeOf_0 : decode cX12_sizeOf 0 = .ok (.iconst 0, 1) := by decide +kernel
theorem dX12_sizeOf_1 : decode cX12_sizeOf 1 = .ok (.istore_n 3, 1) := by decide +kernel
theorem dX12_sizeOf_2 : decode cX12_sizeOf 2 = .ok (.iconst 0, 1) := by decide +kernel
theorem dX12_sizeOf_3 : decode cX12_sizeOf 3 = .ok (.istore 4, 2) := by decide +kernel
theorem dX12_sizeOf_5 : decode cX12_sizeOf 5 = .ok (.iload 4, 2) := by decide +kernel
theorem dX12_sizeOf_7 : decode cX12_sizeOf 7 = .ok (.iload_n 2, 1) := by decide +kernel
theorem dX12_sizeOf_8 : decode cX12_sizeOf 8 = .ok (.if_icmp .ge 28, 3) := by decide +kernel
theorem dX12_sizeOf_11 : decode cX12_sizeOf 11 = .ok (.iload_n 3, 1) := by decide +kernel
theorem dX12_sizeOf_12 : decode cX12_sizeOf 12 = .ok (.aload_n 0, 1) := by decide +kernel
theorem dX12_sizeOf_13 : decode cX12_sizeOf 13 = .ok (.getfield 22, 3) := by decide +kernel
theorem dX12_sizeOf_16 : decode cX12_sizeOf 16 = .ok (.iload 4, 2) := by decide +kernel
theorem dX12_sizeOf_18 : decode cX12_sizeOf 18 = .ok (.iaload, 1) := by decide +kernel
theorem dX12_sizeOf_19 : decode cX12_sizeOf 19 = .ok (.iload_n 1, 1) := by decide +kernel
theorem dX12_sizeOf_20 : decode cX12_sizeOf 20 = .ok (.if_icmp .ne 7, 3) := by decide +kernel
theorem dX12_sizeOf_23 : decode cX12_sizeOf 23 = .ok (.iconst 1, 1) := by decide +kernel
theorem dX12_sizeOf_24 : decode cX12_sizeOf 24 = .ok (.goto 4, 3) := by decide +kernel
theorem dX12_sizeOf_27 : decode cX12_sizeOf 27 = .ok (.iconst 0, 1) := by decide +kernel
theorem dX12_sizeOf_28 : decode cX12_sizeOf 28 = .ok (.iadd, 1) := by decide +kernel
theorem dX12_sizeOf_29 : decode cX12_sizeOf 29 = .ok (.istore_n 3, 1) := by decide +kernel
theorem dX12_sizeOf_30 : decode cX12_sizeOf 30 = .ok (.iinc 4 1, 3) := by decide +kernel
theorem dX12_sizeOf_33 : decode cX12_sizeOf 33 = .ok (.goto (-28), 3) := by decide +kernel
theorem dX12_sizeOf_36 : decode cX12_sizeOf 36 = .ok (.iload_n 3, 1) := by decide +kernel
theorem dX12_sizeOf_37 : decode cX12_sizeOf 37 = .ok (.ireturn, 1) := by decide +kernel
theorem dX12_heatFor_0 : decode cX12_heatFor 0 = .ok (.iload_n 2, 1) := by decide +kernel
theorem dX12_heatFor_1 : decode cX12_heatFor 1 = .ok (.iconst 3, 1) := by decide +kernel
theorem dX12_heatFor_2 : decode cX12_heatFor 2 = .ok (.if_icmp .ge 18, 3) := by decide +kernel
theorem dX12_heatFor_5 : decode cX12_heatFor 5 = .ok (.iload_n 2, 1) := by decide +kernel
theorem dX12_heatFor_6 : decode cX12_heatFor 6 = .ok (.iconst 1, 1) := by decide +kernel
theorem dX12_heatFor_7 : decode cX12_heatFor 7 = .ok (.if_icmp .ne 7, 3) := by decide +kernel
theorem dX12_heatFor_10 : decode cX12_heatFor 10 = .ok (.iconst 0, 1) := by decide +kernel
theorem dX12_heatFor_11 : decode cX12_heatFor 11 = .ok (.goto 8, 3) := by decide +kernel
theorem dX12_heatFor_14 : decode cX12_heatFor 14 = .ok (.iconst 1, 1) := by decide +kernel
theorem dX12_heatFor_15 : decode cX12_heatFor 15 = .ok (.iload_n 1, 1) := by decide +kernel
theorem dX12_heatFor_16 : decode cX12_heatFor 16 = .ok (.iconst 2, 1) := by decide +kernel
theorem dX12_heatFor_17 : decode cX12_heatFor 17 = .ok (.irem, 1) := by decide +kernel
theorem dX12_heatFor_18 : decode cX12_heatFor 18 = .ok (.isub, 1) := by decide +kernel
theorem dX12_heatFor_19 : decode cX12_heatFor 19 = .ok (.ireturn, 1) := by decide +kernel
theorem dX12_heatFor_20 : decode cX12_heatFor 20 = .ok (.iload_n 1, 1) := by decide +kernel
theorem dX12_heatFor_21 : decode cX12_heatFor 21 = .ok (.iconst 3, 1) := by decide +kernel
theorem dX12_heatFor_22 : decode cX12_heatFor 22 = .ok (.aload_n 0, 1) := by decide +kernel
theorem dX12_heatFor_23 : decode cX12_heatFor 23 = .ok (.invokevirtual 59, 3) := by decide +kernel
theorem dX12_heatFor_26 : decode cX12_heatFor 26 = .ok (.imul, 1) := by decide +kernel
theorem dX12_heatFor_27 : decode cX12_heatFor 27 = .ok (.if_icmp .ge 13, 3) := by decide +kernel
theorem dX12_heatFor_30 : decode cX12_heatFor 30 = .ok (.iload_n 2, 1) := by decide +kernel
theorem dX12_heatFor_31 : decode cX12_heatFor 31 = .ok (.iconst 1, 1) := by decide +kernel
theorem dX12_heatFor_32 : decode cX12_heatFor 32 = .ok (.isub, 1) := by decide +kernel
theorem dX12_heatFor_33 : decode cX12_heatFor 33 = .ok (.iload_n 1, 1) := by decide +kernel
theorem dX12_heatFor_34 : decode cX12_heatFor 34 = .ok (.iconst 3, 1) := by decide +kernel
theorem dX12_heatFor_35 : decode cX12_heatFor 35 = .ok (.irem, 1) := by decide +kernel
theorem dX12_heatFor_36 : decode cX12_heatFor 36 = .ok (.isub, 1) := by decide +kernel
theorem dX12_heatFor_37 : decode cX12_heatFor 37 = .ok (.goto 13, 3) := by decide +kernel
theorem dX12_heatFor_40 : decode cX12_heatFor 40 = .ok (.iload_n 2, 1) := by decide +kernel
theorem dX12_heatFor_41 : decode cX12_heatFor 41 = .ok (.iconst 1, 1) := by decide +kernel
theorem dX12_heatFor_42 : decode cX12_heatFor 42 = .ok (.isub, 1) := by decide +kernel
theorem dX12_heatFor_43 : decode cX12_heatFor 43 = .ok (.iload_n 1, 1) := by decide +kernel
theorem dX12_heatFor_44 : decode cX12_heatFor 44 = .ok (.aload_n 0, 1) := by decide +kernel
theorem dX12_heatFor_45 : decode cX12_heatFor 45 = .ok (.invokevirtual 59, 3) := by decide +kernel
theorem dX12_heatFor_48 : decode cX12_heatFor 48 = .ok (.idiv, 1) := by decide +kernel
theorem dX12_heatFor_49 : decode cX12_heatFor 49 = .ok (.isub, 1) := by decide +kernel
theorem dX12_heatFor_50 : decode cX12_heatFor 50 = .ok (.ireturn, 1) := by decide +kernel
theorem dX12_plans_0 : decode cX12_plans 0 = .ok (.aload_n 0, 1) := by decide +kernel
theorem dX12_plans_1 : decode cX12_plans 1 = .ok (.invokevirtual 66, 3) := by decide +kernel
theorem dX12_plans_4 : decode cX12_plans 4 = .ok (.istore_n 1, 1) := by decide +kernel
theorem dX12_plans_5 : decode cX12_plans 5 = .ok (.iload_n 1, 1) := by decide +kernel
theorem dX12_plans_6 : decode cX12_plans 6 = .ok (.aload_n 0, 1) := by decide +kernel
theorem dX12_plans_7 : decode cX12_plans 7 = .ok (.invokevirtual 59, 3) := by decide +kernel
theorem dX12_plans_10 : decode cX12_plans 10 = .ok (.iadd, 1) := by decide +kernel
theorem dX12_plans_11 : decode cX12_plans 11 = .ok (.iconst 1, 1) := by decide +kernel
theorem dX12_plans_12 : decode cX12_plans 12 = .ok (.isub, 1) := by decide +kernel
theorem dX12_plans_13 : decode cX12_plans 13 = .ok (.aload_n 0, 1) := by decide +kernel
theorem dX12_plans_14 : decode cX12_plans 14 = .ok (.invokevirtual 59, 3) := by decide +kernel
theorem dX12_plans_17 : decode cX12_plans 17 = .ok (.idiv, 1) := by decide +kernel
theorem dX12_plans_18 : decode cX12_plans 18 = .ok (.istore_n 2, 1) := by decide +kernel
theorem dX12_plans_19 : decode cX12_plans 19 = .ok (.iconst 0, 1) := by decide +kernel
theorem dX12_plans_20 : decode cX12_plans 20 = .ok (.istore_n 3, 1) := by decide +kernel
theorem dX12_plans_21 : decode cX12_plans 21 = .ok (.iload_n 3, 1) := by decide +kernel
theorem dX12_plans_22 : decode cX12_plans 22 = .ok (.iload_n 1, 1) := by decide +kernel
theorem dX12_plans_23 : decode cX12_plans 23 = .ok (.if_icmp .ge 21, 3) := by decide +kernel
theorem dX12_plans_26 : decode cX12_plans 26 = .ok (.aload_n 0, 1) := by decide +kernel
theorem dX12_plans_27 : decode cX12_plans 27 = .ok (.getfield 22, 3) := by decide +kernel
theorem dX12_plans_30 : decode cX12_plans 30 = .ok (.iload_n 3, 1) := by decide +kernel
theorem dX12_plans_31 : decode cX12_plans 31 = .ok (.aload_n 0, 1) := by decide +kernel
theorem dX12_plans_32 : decode cX12_plans 32 = .ok (.iload_n 3, 1) := by decide +kernel
theorem dX12_plans_33 : decode cX12_plans 33 = .ok (.iload_n 2, 1) := by decide +kernel
theorem dX12_plans_34 : decode cX12_plans 34 = .ok (.invokevirtual 69, 3) := by decide +kernel
theorem dX12_plans_37 : decode cX12_plans 37 = .ok (.iastore, 1) := by decide +kernel
theorem dX12_plans_38 : decode cX12_plans 38 = .ok (.iinc 3 1, 3) := by decide +kernel
theorem dX12_plans_41 : decode cX12_plans 41 = .ok (.goto (-20), 3) := by decide +kernel
theorem dX12_plans_44 : decode cX12_plans 44 = .ok (.iload_n 2, 1) := by decide +kernel
theorem dX12_plans_45 : decode cX12_plans 45 = .ok (.iconst 4, 1) := by decide +kernel
theorem dX12_plans_46 : decode cX12_plans 46 = .ok (.if_icmp .ge 7, 3) := by decide +kernel
theorem dX12_plans_49 : decode cX12_plans 49 = .ok (.iconst 0, 1) := by decide +kernel
theorem dX12_plans_50 : decode cX12_plans 50 = .ok (.goto 18, 3) := by decide +kernel
theorem dX12_plans_53 : decode cX12_plans 53 = .ok (.aload_n 0, 1) := by decide +kernel
theorem dX12_plans_54 : decode cX12_plans 54 = .ok (.getfield 7, 3) := by decide +kernel
theorem dX12_plans_57 : decode cX12_plans 57 = .ok (.sipush 318, 3) := by decide +kernel
theorem dX12_plans_60 : decode cX12_plans 60 = .ok (.iaload, 1) := by decide +kernel
theorem dX12_plans_61 : decode cX12_plans 61 = .ok (.aload_n 0, 1) := by decide +kernel
theorem dX12_plans_62 : decode cX12_plans 62 = .ok (.iconst 0, 1) := by decide +kernel
theorem dX12_plans_63 : decode cX12_plans 63 = .ok (.iload_n 1, 1) := by decide +kernel
theorem dX12_plans_64 : decode cX12_plans 64 = .ok (.invokevirtual 72, 3) := by decide +kernel
theorem dX12_plans_67 : decode cX12_plans 67 = .ok (.isub, 1) := by decide +kernel
theorem dX12_plans_68 : decode cX12_plans 68 = .ok (.istore_n 3, 1) := by decide +kernel
theorem dX12_plans_69 : decode cX12_plans 69 = .ok (.iload_n 1, 1) := by decide +kernel
theorem dX12_plans_70 : decode cX12_plans 70 = .ok (.iconst 1, 1) := by decide +kernel
theorem dX12_plans_71 : decode cX12_plans 71 = .ok (.isub, 1) := by decide +kernel
theorem dX12_plans_72 : decode cX12_plans 72 = .ok (.istore 4, 2) := by decide +kernel
theorem dX12_plans_74 : decode cX12_plans 74 = .ok (.iload 4, 2) := by decide +kernel
theorem dX12_plans_76 : decode cX12_plans 76 = .ok (.ifCond .lt 35, 3) := by decide +kernel
theorem dX12_plans_79 : decode cX12_plans 79 = .ok (.iload_n 3, 1) := by decide +kernel
theorem dX12_plans_80 : decode cX12_plans 80 = .ok (.ifCond .le 31, 3) := by decide +kernel
theorem dX12_plans_83 : decode cX12_plans 83 = .ok (.aload_n 0, 1) := by decide +kernel
theorem dX12_plans_84 : decode cX12_plans 84 = .ok (.getfield 22, 3) := by decide +kernel
theorem dX12_plans_87 : decode cX12_plans 87 = .ok (.iload 4, 2) := by decide +kernel
theorem dX12_plans_89 : decode cX12_plans 89 = .ok (.iaload, 1) := by decide +kernel
theorem dX12_plans_90 : decode cX12_plans 90 = .ok (.iconst 1, 1) := by decide +kernel
theorem dX12_plans_91 : decode cX12_plans 91 = .ok (.if_icmp .ne 14, 3) := by decide +kernel
theorem dX12_plans_94 : decode cX12_plans 94 = .ok (.aload_n 0, 1) := by decide +kernel
theorem dX12_plans_95 : decode cX12_plans 95 = .ok (.getfield 22, 3) := by decide +kernel
theorem dX12_plans_98 : decode cX12_plans 98 = .ok (.iload 4, 2) := by decide +kernel
theorem dX12_plans_100 : decode cX12_plans 100 = .ok (.iconst 0, 1) := by decide +kernel
theorem dX12_plans_101 : decode cX12_plans 101 = .ok (.iastore, 1) := by decide +kernel
theorem dX12_plans_102 : decode cX12_plans 102 = .ok (.iinc 3 (-1), 3) := by decide +kernel
theorem dX12_plans_105 : decode cX12_plans 105 = .ok (.iinc 4 (-1), 3) := by decide +kernel
theorem dX12_plans_108 : decode cX12_plans 108 = .ok (.goto (-34), 3) := by decide +kernel
theorem dX12_plans_111 : decode cX12_plans 111 = .ok (.iload_n 2, 1) := by decide +kernel
theorem dX12_plans_112 : decode cX12_plans 112 = .ok (.ireturn, 1) := by decide +kernel
theorem dX12_laneIn_0 : decode cX12_laneIn 0 = .ok (.aload_n 0, 1) := by decide +kernel
theorem dX12_laneIn_1 : decode cX12_laneIn 1 = .ok (.aload_n 0, 1) := by decide +kernel
theorem dX12_laneIn_2 : decode cX12_laneIn 2 = .ok (.aload_n 0, 1) := by decide +kernel
theorem dX12_laneIn_3 : decode cX12_laneIn 3 = .ok (.getfield 22, 3) := by decide +kernel
theorem dX12_laneIn_6 : decode cX12_laneIn 6 = .ok (.iload_n 1, 1) := by decide +kernel
theorem dX12_laneIn_7 : decode cX12_laneIn 7 = .ok (.iaload, 1) := by decide +kernel
theorem dX12_laneIn_8 : decode cX12_laneIn 8 = .ok (.iload_n 1, 1) := by decide +kernel
theorem dX12_laneIn_9 : decode cX12_laneIn 9 = .ok (.invokevirtual 72, 3) := by decide +kernel
theorem dX12_laneIn_12 : decode cX12_laneIn 12 = .ok (.invokevirtual 63, 3) := by decide +kernel
theorem dX12_laneIn_15 : decode cX12_laneIn 15 = .ok (.ireturn, 1) := by decide +kernel
theorem dX12_enter_0 : decode cX12_enter 0 = .ok (.iload_n 1, 1) := by decide +kernel
theorem dX12_enter_1 : decode cX12_enter 1 = .ok (.iconst 0, 1) := by decide +kernel
theorem dX12_enter_2 : decode cX12_enter 2 = .ok (.iconst 5, 1) := by decide +kernel
theorem dX12_enter_3 : decode cX12_enter 3 = .ok (.invokestatic 36, 3) := by decide +kernel
theorem dX12_enter_6 : decode cX12_enter 6 = .ok (.ifCond .eq 19, 3) := by decide +kernel
theorem dX12_enter_9 : decode cX12_enter 9 = .ok (.iload_n 2, 1) := by decide +kernel
theorem dX12_enter_10 : decode cX12_enter 10 = .ok (.ifCond .eq 18, 3) := by decide +kernel
theorem dX12_enter_13 : decode cX12_enter 13 = .ok (.iload_n 2, 1) := by decide +kernel
theorem dX12_enter_14 : decode cX12_enter 14 = .ok (.bipush 100, 2) := by decide +kernel
theorem dX12_enter_16 : decode cX12_enter 16 = .ok (.sipush 999, 3) := by decide +kernel
theorem dX12_enter_19 : decode cX12_enter 19 = .ok (.invokestatic 36, 3) := by decide +kernel
theorem dX12_enter_22 : decode cX12_enter 22 = .ok (.ifCond .ne 6, 3) := by decide +kernel
theorem dX12_enter_25 : decode cX12_enter 25 = .ok (.ldc 75, 2) := by decide +kernel
theorem dX12_enter_27 : decode cX12_enter 27 = .ok (.ireturn, 1) := by decide +kernel
theorem dX12_enter_28 : decode cX12_enter 28 = .ok (.aload_n 0, 1) := by decide +kernel
theorem dX12_enter_29 : decode cX12_enter 29 = .ok (.getfield 7, 3) := by decide +kernel
theorem dX12_enter_32 : decode cX12_enter 32 = .ok (.sipush 310, 3) := by decide +kernel
theorem dX12_enter_35 : decode cX12_enter 35 = .ok (.iaload, 1) := by decide +kernel
theorem dX12_enter_36 : decode cX12_enter 36 = .ok (.ifCond .eq 6, 3) := by decide +kernel
theorem dX12_enter_39 : decode cX12_enter 39 = .ok (.ldc 76, 2) := by decide +kernel
theorem dX12_enter_41 : decode cX12_enter 41 = .ok (.ireturn, 1) := by decide +kernel
theorem dX12_enter_42 : decode cX12_enter 42 = .ok (.aload_n 0, 1) := by decide +kernel
theorem dX12_enter_43 : decode cX12_enter 43 = .ok (.getfield 7, 3) := by decide +kernel
theorem dX12_enter_46 : decode cX12_enter 46 = .ok (.sipush 311, 3) := by decide +kernel
theorem dX12_enter_49 : decode cX12_enter 49 = .ok (.iaload, 1) := by decide +kernel
theorem dX12_enter_50 : decode cX12_enter 50 = .ok (.bipush 30, 2) := by decide +kernel
theorem dX12_enter_52 : decode cX12_enter 52 = .ok (.if_icmp .ne 6, 3) := by decide +kernel
theorem dX12_enter_55 : decode cX12_enter 55 = .ok (.ldc 77, 2) := by decide +kernel
theorem dX12_enter_57 : decode cX12_enter 57 = .ok (.ireturn, 1) := by decide +kernel
theorem dX12_enter_58 : decode cX12_enter 58 = .ok (.aload_n 0, 1) := by decide +kernel
theorem dX12_enter_59 : decode cX12_enter 59 = .ok (.invokevirtual 78, 3) := by decide +kernel
theorem dX12_enter_62 : decode cX12_enter 62 = .ok (.aload_n 0, 1) := by decide +kernel
theorem dX12_enter_63 : decode cX12_enter 63 = .ok (.aload_n 0, 1) := by decide +kernel
theorem dX12_enter_64 : decode cX12_enter 64 = .ok (.getfield 7, 3) := by decide +kernel
theorem dX12_enter_67 : decode cX12_enter 67 = .ok (.sipush 311, 3) := by decide +kernel
theorem dX12_enter_70 : decode cX12_enter 70 = .ok (.iaload, 1) := by decide +kernel
theorem dX12_enter_71 : decode cX12_enter 71 = .ok (.iconst 0, 1) := by decide +kernel
theorem dX12_enter_72 : decode cX12_enter 72 = .ok (.iload_n 1, 1) := by decide +kernel
theorem dX12_enter_73 : decode cX12_enter 73 = .ok (.invokevirtual 81, 3) := by decide +kernel
theorem dX12_enter_76 : decode cX12_enter 76 = .ok (.aload_n 0, 1) := by decide +kernel
theorem dX12_enter_77 : decode cX12_enter 77 = .ok (.aload_n 0, 1) := by decide +kernel
theorem dX12_enter_78 : decode cX12_enter 78 = .ok (.getfield 7, 3) := by decide +kernel
theorem dX12_enter_81 : decode cX12_enter 81 = .ok (.sipush 311, 3) := by decide +kernel
theorem dX12_enter_84 : decode cX12_enter 84 = .ok (.iaload, 1) := by decide +kernel
theorem dX12_enter_85 : decode cX12_enter 85 = .ok (.iconst 1, 1) := by decide +kernel
theorem dX12_enter_86 : decode cX12_enter 86 = .ok (.iload_n 2, 1) := by decide +kernel
theorem dX12_enter_87 : decode cX12_enter 87 = .ok (.invokevirtual 81, 3) := by decide +kernel
theorem dX12_enter_90 : decode cX12_enter 90 = .ok (.aload_n 0, 1) := by decide +kernel
theorem dX12_enter_91 : decode cX12_enter 91 = .ok (.getfield 7, 3) := by decide +kernel
theorem dX12_enter_94 : decode cX12_enter 94 = .ok (.sipush 311, 3) := by decide +kernel
theorem dX12_enter_97 : decode cX12_enter 97 = .ok (.dup2, 1) := by decide +kernel
theorem dX12_enter_98 : decode cX12_enter 98 = .ok (.iaload, 1) := by decide +kernel
theorem dX12_enter_99 : decode cX12_enter 99 = .ok (.iconst 1, 1) := by decide +kernel
theorem dX12_enter_100 : decode cX12_enter 100 = .ok (.iadd, 1) := by decide +kernel
theorem dX12_enter_101 : decode cX12_enter 101 = .ok (.iastore, 1) := by decide +kernel
theorem dX12_enter_102 : decode cX12_enter 102 = .ok (.aload_n 0, 1) := by decide +kernel
theorem dX12_enter_103 : decode cX12_enter 103 = .ok (.getfield 7, 3) := by decide +kernel
theorem dX12_enter_106 : decode cX12_enter 106 = .ok (.sipush 311, 3) := by decide +kernel
theorem dX12_enter_109 : decode cX12_enter 109 = .ok (.iaload, 1) := by decide +kernel
theorem dX12_enter_110 : decode cX12_enter 110 = .ok (.iconst 1, 1) := by decide +kernel
theorem dX12_enter_111 : decode cX12_enter 111 = .ok (.isub, 1) := by decide +kernel
theorem dX12_enter_112 : decode cX12_enter 112 = .ok (.ireturn, 1) := by decide +kernel
theorem dX12_firstReserve_0 : decode cX12_firstReserve 0 = .ok (.iconst 0, 1) := by decide +kernel
theorem dX12_firstReserve_1 : decode cX12_firstReserve 1 = .ok (.istore_n 1, 1) := by decide +kernel
theorem dX12_firstReserve_2 : decode cX12_firstReserve 2 = .ok (.iload_n 1, 1) := by decide +kernel
theorem dX12_firstReserve_3 : decode cX12_firstReserve 3 = .ok (.iconst 4, 1) := by decide +kernel
theorem dX12_firstReserve_4 : decode cX12_firstReserve 4 = .ok (.if_icmp .ge 43, 3) := by decide +kernel
theorem dX12_firstReserve_7 : decode cX12_firstReserve 7 = .ok (.aload_n 0, 1) := by decide +kernel
theorem dX12_firstReserve_8 : decode cX12_firstReserve 8 = .ok (.getfield 7, 3) := by decide +kernel
theorem dX12_firstReserve_11 : decode cX12_firstReserve 11 = .ok (.sipush 306, 3) := by decide +kernel
theorem dX12_firstReserve_14 : decode cX12_firstReserve 14 = .ok (.iload_n 1, 1) := by decide +kernel
theorem dX12_firstReserve_15 : decode cX12_firstReserve 15 = .ok (.iadd, 1) := by decide +kernel
theorem dX12_firstReserve_16 : decode cX12_firstReserve 16 = .ok (.iaload, 1) := by decide +kernel
theorem dX12_firstReserve_17 : decode cX12_firstReserve 17 = .ok (.ifCond .le 24, 3) := by decide +kernel
theorem dX12_firstReserve_20 : decode cX12_firstReserve 20 = .ok (.aload_n 0, 1) := by decide +kernel
theorem dX12_firstReserve_21 : decode cX12_firstReserve 21 = .ok (.aload_n 0, 1) := by decide +kernel
theorem dX12_firstReserve_22 : decode cX12_firstReserve 22 = .ok (.getfield 7, 3) := by decide +kernel
theorem dX12_firstReserve_25 : decode cX12_firstReserve 25 = .ok (.sipush 306, 3) := by decide +kernel
theorem dX12_firstReserve_28 : decode cX12_firstReserve 28 = .ok (.iload_n 1, 1) := by decide +kernel
theorem dX12_firstReserve_29 : decode cX12_firstReserve 29 = .ok (.iadd, 1) := by decide +kernel
theorem dX12_firstReserve_30 : decode cX12_firstReserve 30 = .ok (.iaload, 1) := by decide +kernel
theorem dX12_firstReserve_31 : decode cX12_firstReserve 31 = .ok (.iconst 1, 1) := by decide +kernel
theorem dX12_firstReserve_32 : decode cX12_firstReserve 32 = .ok (.isub, 1) := by decide +kernel
theorem dX12_firstReserve_33 : decode cX12_firstReserve 33 = .ok (.invokevirtual 44, 3) := by decide +kernel
theorem dX12_firstReserve_36 : decode cX12_firstReserve 36 = .ok (.ifCond .ne 5, 3) := by decide +kernel
theorem dX12_firstReserve_39 : decode cX12_firstReserve 39 = .ok (.iload_n 1, 1) := by decide +kernel
theorem dX12_firstReserve_40 : decode cX12_firstReserve 40 = .ok (.ireturn, 1) := by decide +kernel
theorem dX12_firstReserve_41 : decode cX12_firstReserve 41 = .ok (.iinc 1 1, 3) := by decide +kernel
theorem dX12_firstReserve_44 : decode cX12_firstReserve 44 = .ok (.goto (-42), 3) := by decide +kernel
theorem dX12_firstReserve_47 : decode cX12_firstReserve 47 = .ok (.ldc 85, 2) := by decide +kernel
theorem dX12_firstReserve_49 : decode cX12_firstReserve 49 = .ok (.ireturn, 1) := by decide +kernel
theorem dX12_calls_0 : decode cX12_calls 0 = .ok (.aload_n 0, 1) := by decide +kernel
theorem dX12_calls_1 : decode cX12_calls 1 = .ok (.invokevirtual 86, 3) := by decide +kernel
theorem dX12_calls_4 : decode cX12_calls 4 = .ok (.istore_n 2, 1) := by decide +kernel
theorem dX12_calls_5 : decode cX12_calls 5 = .ok (.iload_n 2, 1) := by decide +kernel
theorem dX12_calls_6 : decode cX12_calls 6 = .ok (.ifCond .ge 6, 3) := by decide +kernel
theorem dX12_calls_9 : decode cX12_calls 9 = .ok (.bipush 100, 2) := by decide +kernel
theorem dX12_calls_11 : decode cX12_calls 11 = .ok (.ireturn, 1) := by decide +kernel
theorem dX12_calls_12 : decode cX12_calls 12 = .ok (.aload_n 0, 1) := by decide +kernel
theorem dX12_calls_13 : decode cX12_calls 13 = .ok (.getfield 7, 3) := by decide +kernel
theorem dX12_calls_16 : decode cX12_calls 16 = .ok (.sipush 306, 3) := by decide +kernel
theorem dX12_calls_19 : decode cX12_calls 19 = .ok (.iload_n 2, 1) := by decide +kernel
theorem dX12_calls_20 : decode cX12_calls 20 = .ok (.iadd, 1) := by decide +kernel
theorem dX12_calls_21 : decode cX12_calls 21 = .ok (.iaload, 1) := by decide +kernel
theorem dX12_calls_22 : decode cX12_calls 22 = .ok (.iconst 1, 1) := by decide +kernel
theorem dX12_calls_23 : decode cX12_calls 23 = .ok (.isub, 1) := by decide +kernel
theorem dX12_calls_24 : decode cX12_calls 24 = .ok (.istore_n 3, 1) := by decide +kernel
theorem dX12_calls_25 : decode cX12_calls 25 = .ok (.aload_n 0, 1) := by decide +kernel
theorem dX12_calls_26 : decode cX12_calls 26 = .ok (.getfield 7, 3) := by decide +kernel
theorem dX12_calls_29 : decode cX12_calls 29 = .ok (.sipush 306, 3) := by decide +kernel
theorem dX12_calls_32 : decode cX12_calls 32 = .ok (.iload_n 2, 1) := by decide +kernel
theorem dX12_calls_33 : decode cX12_calls 33 = .ok (.iadd, 1) := by decide +kernel
theorem dX12_calls_34 : decode cX12_calls 34 = .ok (.iconst 0, 1) := by decide +kernel
theorem dX12_calls_35 : decode cX12_calls 35 = .ok (.iastore, 1) := by decide +kernel
theorem dX12_calls_36 : decode cX12_calls 36 = .ok (.aload_n 0, 1) := by decide +kernel
theorem dX12_calls_37 : decode cX12_calls 37 = .ok (.getfield 7, 3) := by decide +kernel
theorem dX12_calls_40 : decode cX12_calls 40 = .ok (.sipush 316, 3) := by decide +kernel
theorem dX12_calls_43 : decode cX12_calls 43 = .ok (.dup2, 1) := by decide +kernel
theorem dX12_calls_44 : decode cX12_calls 44 = .ok (.iaload, 1) := by decide +kernel
theorem dX12_calls_45 : decode cX12_calls 45 = .ok (.iconst 1, 1) := by decide +kernel
theorem dX12_calls_46 : decode cX12_calls 46 = .ok (.iadd, 1) := by decide +kernel
theorem dX12_calls_47 : decode cX12_calls 47 = .ok (.iastore, 1) := by decide +kernel
theorem dX12_calls_48 : decode cX12_calls 48 = .ok (.aload_n 0, 1) := by decide +kernel
theorem dX12_calls_49 : decode cX12_calls 49 = .ok (.iload_n 3, 1) := by decide +kernel
theorem dX12_calls_50 : decode cX12_calls 50 = .ok (.bipush 6, 2) := by decide +kernel
theorem dX12_calls_52 : decode cX12_calls 52 = .ok (.iload_n 1, 1) := by decide +kernel
theorem dX12_calls_53 : decode cX12_calls 53 = .ok (.invokevirtual 81, 3) := by decide +kernel
theorem dX12_calls_56 : decode cX12_calls 56 = .ok (.iload_n 3, 1) := by decide +kernel
theorem dX12_calls_57 : decode cX12_calls 57 = .ok (.ireturn, 1) := by decide +kernel
theorem dX12_scratch_0 : decode cX12_scratch 0 = .ok (.aload_n 0, 1) := by decide +kernel
theorem dX12_scratch_1 : decode cX12_scratch 1 = .ok (.iload_n 1, 1) := by decide +kernel
theorem dX12_scratch_2 : decode cX12_scratch 2 = .ok (.invokevirtual 89, 3) := by decide +kernel
theorem dX12_scratch_5 : decode cX12_scratch 5 = .ok (.ifCond .ne 6, 3) := by decide +kernel
theorem dX12_scratch_8 : decode cX12_scratch 8 = .ok (.ldc 75, 2) := by decide +kernel
theorem dX12_scratch_10 : decode cX12_scratch 10 = .ok (.ireturn, 1) := by decide +kernel
theorem dX12_scratch_11 : decode cX12_scratch 11 = .ok (.aload_n 0, 1) := by decide +kernel
theorem dX12_scratch_12 : decode cX12_scratch 12 = .ok (.iload_n 1, 1) := by decide +kernel
theorem dX12_scratch_13 : decode cX12_scratch 13 = .ok (.invokevirtual 44, 3) := by decide +kernel
theorem dX12_scratch_16 : decode cX12_scratch 16 = .ok (.ifCond .ne 15, 3) := by decide +kernel
theorem dX12_scratch_19 : decode cX12_scratch 19 = .ok (.aload_n 0, 1) := by decide +kernel
theorem dX12_scratch_20 : decode cX12_scratch 20 = .ok (.getfield 7, 3) := by decide +kernel
theorem dX12_scratch_23 : decode cX12_scratch 23 = .ok (.sipush 310, 3) := by decide +kernel
theorem dX12_scratch_26 : decode cX12_scratch 26 = .ok (.iaload, 1) := by decide +kernel
theorem dX12_scratch_27 : decode cX12_scratch 27 = .ok (.iconst 3, 1) := by decide +kernel
theorem dX12_scratch_28 : decode cX12_scratch 28 = .ok (.if_icmp .ne 6, 3) := by decide +kernel
theorem dX12_scratch_31 : decode cX12_scratch 31 = .ok (.ldc 76, 2) := by decide +kernel
theorem dX12_scratch_33 : decode cX12_scratch 33 = .ok (.ireturn, 1) := by decide +kernel
theorem dX12_scratch_34 : decode cX12_scratch 34 = .ok (.aload_n 0, 1) := by decide +kernel
theorem dX12_scratch_35 : decode cX12_scratch 35 = .ok (.invokevirtual 78, 3) := by decide +kernel
theorem dX12_scratch_38 : decode cX12_scratch 38 = .ok (.aload_n 0, 1) := by decide +kernel
theorem dX12_scratch_39 : decode cX12_scratch 39 = .ok (.iload_n 1, 1) := by decide +kernel
theorem dX12_scratch_40 : decode cX12_scratch 40 = .ok (.iconst 2, 1) := by decide +kernel
theorem dX12_scratch_41 : decode cX12_scratch 41 = .ok (.iconst 1, 1) := by decide +kernel
theorem dX12_scratch_42 : decode cX12_scratch 42 = .ok (.invokevirtual 81, 3) := by decide +kernel
theorem dX12_scratch_45 : decode cX12_scratch 45 = .ok (.aload_n 0, 1) := by decide +kernel
theorem dX12_scratch_46 : decode cX12_scratch 46 = .ok (.getfield 7, 3) := by decide +kernel
theorem dX12_scratch_49 : decode cX12_scratch 49 = .ok (.sipush 310, 3) := by decide +kernel
theorem dX12_scratch_52 : decode cX12_scratch 52 = .ok (.iaload, 1) := by decide +kernel
theorem dX12_scratch_53 : decode cX12_scratch 53 = .ok (.iconst 1, 1) := by decide +kernel
theorem dX12_scratch_54 : decode cX12_scratch 54 = .ok (.if_icmp .ne 24, 3) := by decide +kernel
theorem dX12_scratch_57 : decode cX12_scratch 57 = .ok (.aload_n 0, 1) := by decide +kernel
theorem dX12_scratch_58 : decode cX12_scratch 58 = .ok (.iload_n 1, 1) := by decide +kernel
theorem dX12_scratch_59 : decode cX12_scratch 59 = .ok (.iconst 3, 1) := by decide +kernel
theorem dX12_scratch_60 : decode cX12_scratch 60 = .ok (.iconst 0, 1) := by decide +kernel
theorem dX12_scratch_61 : decode cX12_scratch 61 = .ok (.invokevirtual 81, 3) := by decide +kernel
theorem dX12_scratch_64 : decode cX12_scratch 64 = .ok (.aload_n 0, 1) := by decide +kernel
theorem dX12_scratch_65 : decode cX12_scratch 65 = .ok (.iload_n 1, 1) := by decide +kernel
theorem dX12_scratch_66 : decode cX12_scratch 66 = .ok (.iconst 4, 1) := by decide +kernel
theorem dX12_scratch_67 : decode cX12_scratch 67 = .ok (.iconst 0, 1) := by decide +kernel
theorem dX12_scratch_68 : decode cX12_scratch 68 = .ok (.invokevirtual 81, 3) := by decide +kernel
theorem dX12_scratch_71 : decode cX12_scratch 71 = .ok (.aload_n 0, 1) := by decide +kernel
theorem dX12_scratch_72 : decode cX12_scratch 72 = .ok (.iload_n 1, 1) := by decide +kernel
theorem dX12_scratch_73 : decode cX12_scratch 73 = .ok (.iconst 5, 1) := by decide +kernel
theorem dX12_scratch_74 : decode cX12_scratch 74 = .ok (.iconst 0, 1) := by decide +kernel
theorem dX12_scratch_75 : decode cX12_scratch 75 = .ok (.invokevirtual 81, 3) := by decide +kernel
theorem dX12_scratch_78 : decode cX12_scratch 78 = .ok (.aload_n 0, 1) := by decide +kernel
theorem dX12_scratch_79 : decode cX12_scratch 79 = .ok (.iload_n 1, 1) := by decide +kernel
theorem dX12_scratch_80 : decode cX12_scratch 80 = .ok (.bipush 6, 2) := by decide +kernel
theorem dX12_scratch_82 : decode cX12_scratch 82 = .ok (.invokevirtual 40, 3) := by decide +kernel
theorem dX12_scratch_85 : decode cX12_scratch 85 = .ok (.istore_n 2, 1) := by decide +kernel
theorem dX12_scratch_86 : decode cX12_scratch 86 = .ok (.iload_n 2, 1) := by decide +kernel
theorem dX12_scratch_87 : decode cX12_scratch 87 = .ok (.ifCond .ne 6, 3) := by decide +kernel
theorem dX12_scratch_90 : decode cX12_scratch 90 = .ok (.bipush 100, 2) := by decide +kernel
theorem dX12_scratch_92 : decode cX12_scratch 92 = .ok (.ireturn, 1) := by decide +kernel
theorem dX12_scratch_93 : decode cX12_scratch 93 = .ok (.aload_n 0, 1) := by decide +kernel
theorem dX12_scratch_94 : decode cX12_scratch 94 = .ok (.iload_n 1, 1) := by decide +kernel
theorem dX12_scratch_95 : decode cX12_scratch 95 = .ok (.bipush 6, 2) := by decide +kernel
theorem dX12_scratch_97 : decode cX12_scratch 97 = .ok (.iconst 0, 1) := by decide +kernel
theorem dX12_scratch_98 : decode cX12_scratch 98 = .ok (.invokevirtual 81, 3) := by decide +kernel
theorem dX12_scratch_101 : decode cX12_scratch 101 = .ok (.aload_n 0, 1) := by decide +kernel
theorem dX12_scratch_102 : decode cX12_scratch 102 = .ok (.iload_n 1, 1) := by decide +kernel
theorem dX12_scratch_103 : decode cX12_scratch 103 = .ok (.bipush 7, 2) := by decide +kernel
theorem dX12_scratch_105 : decode cX12_scratch 105 = .ok (.iconst 0, 1) := by decide +kernel
theorem dX12_scratch_106 : decode cX12_scratch 106 = .ok (.invokevirtual 81, 3) := by decide +kernel
theorem dX12_scratch_109 : decode cX12_scratch 109 = .ok (.aload_n 0, 1) := by decide +kernel
theorem dX12_scratch_110 : decode cX12_scratch 110 = .ok (.iload_n 2, 1) := by decide +kernel
theorem dX12_scratch_111 : decode cX12_scratch 111 = .ok (.invokevirtual 92, 3) := by decide +kernel
theorem dX12_scratch_114 : decode cX12_scratch 114 = .ok (.ireturn, 1) := by decide +kernel
theorem dX12_set_0 : decode cX12_set 0 = .ok (.iload_n 1, 1) := by decide +kernel
theorem dX12_set_1 : decode cX12_set 1 = .ok (.iconst 0, 1) := by decide +kernel
theorem dX12_set_2 : decode cX12_set 2 = .ok (.iconst 2, 1) := by decide +kernel
theorem dX12_set_3 : decode cX12_set 3 = .ok (.invokestatic 36, 3) := by decide +kernel
theorem dX12_set_6 : decode cX12_set 6 = .ok (.ifCond .eq 47, 3) := by decide +kernel
theorem dX12_set_9 : decode cX12_set 9 = .ok (.iload_n 2, 1) := by decide +kernel
theorem dX12_set_10 : decode cX12_set 10 = .ok (.iload_n 1, 1) := by decide +kernel
theorem dX12_set_11 : decode cX12_set 11 = .ok (.ifCond .ne 7, 3) := by decide +kernel
theorem dX12_set_14 : decode cX12_set 14 = .ok (.iconst 4, 1) := by decide +kernel
theorem dX12_set_15 : decode cX12_set 15 = .ok (.goto 13, 3) := by decide +kernel
theorem dX12_set_18 : decode cX12_set 18 = .ok (.iload_n 1, 1) := by decide +kernel
theorem dX12_set_19 : decode cX12_set 19 = .ok (.iconst 1, 1) := by decide +kernel
theorem dX12_set_20 : decode cX12_set 20 = .ok (.if_icmp .ne 7, 3) := by decide +kernel
theorem dX12_set_23 : decode cX12_set 23 = .ok (.iconst 1, 1) := by decide +kernel
theorem dX12_set_24 : decode cX12_set 24 = .ok (.goto 4, 3) := by decide +kernel
theorem dX12_set_27 : decode cX12_set 27 = .ok (.iconst 0, 1) := by decide +kernel
theorem dX12_set_28 : decode cX12_set 28 = .ok (.iload_n 1, 1) := by decide +kernel
theorem dX12_set_29 : decode cX12_set 29 = .ok (.ifCond .ne 8, 3) := by decide +kernel
theorem dX12_set_32 : decode cX12_set 32 = .ok (.bipush 10, 2) := by decide +kernel
theorem dX12_set_34 : decode cX12_set 34 = .ok (.goto 13, 3) := by decide +kernel
theorem dX12_set_37 : decode cX12_set 37 = .ok (.iload_n 1, 1) := by decide +kernel
theorem dX12_set_38 : decode cX12_set 38 = .ok (.iconst 1, 1) := by decide +kernel
theorem dX12_set_39 : decode cX12_set 39 = .ok (.if_icmp .ne 7, 3) := by decide +kernel
theorem dX12_set_42 : decode cX12_set 42 = .ok (.iconst 3, 1) := by decide +kernel
theorem dX12_set_43 : decode cX12_set 43 = .ok (.goto 4, 3) := by decide +kernel
theorem dX12_set_46 : decode cX12_set 46 = .ok (.iconst 4, 1) := by decide +kernel
theorem dX12_set_47 : decode cX12_set 47 = .ok (.invokestatic 36, 3) := by decide +kernel
theorem dX12_set_50 : decode cX12_set 50 = .ok (.ifCond .ne 6, 3) := by decide +kernel
theorem dX12_set_53 : decode cX12_set 53 = .ok (.ldc 75, 2) := by decide +kernel
theorem dX12_set_55 : decode cX12_set 55 = .ok (.ireturn, 1) := by decide +kernel
theorem dX12_set_56 : decode cX12_set 56 = .ok (.aload_n 0, 1) := by decide +kernel
theorem dX12_set_57 : decode cX12_set 57 = .ok (.getfield 7, 3) := by decide +kernel
theorem dX12_set_60 : decode cX12_set 60 = .ok (.sipush 310, 3) := by decide +kernel
theorem dX12_set_63 : decode cX12_set 63 = .ok (.iaload, 1) := by decide +kernel
theorem dX12_set_64 : decode cX12_set 64 = .ok (.ifCond .eq 6, 3) := by decide +kernel
theorem dX12_set_67 : decode cX12_set 67 = .ok (.ldc 76, 2) := by decide +kernel
theorem dX12_set_69 : decode cX12_set 69 = .ok (.ireturn, 1) := by decide +kernel
theorem dX12_set_70 : decode cX12_set 70 = .ok (.aload_n 0, 1) := by decide +kernel
theorem dX12_set_71 : decode cX12_set 71 = .ok (.invokevirtual 78, 3) := by decide +kernel
theorem dX12_set_74 : decode cX12_set 74 = .ok (.aload_n 0, 1) := by decide +kernel
theorem dX12_set_75 : decode cX12_set 75 = .ok (.getfield 7, 3) := by decide +kernel
theorem dX12_set_78 : decode cX12_set 78 = .ok (.sipush 317, 3) := by decide +kernel
theorem dX12_set_81 : decode cX12_set 81 = .ok (.iload_n 1, 1) := by decide +kernel
theorem dX12_set_82 : decode cX12_set 82 = .ok (.iadd, 1) := by decide +kernel
theorem dX12_set_83 : decode cX12_set 83 = .ok (.iaload, 1) := by decide +kernel
theorem dX12_set_84 : decode cX12_set 84 = .ok (.istore_n 3, 1) := by decide +kernel
theorem dX12_set_85 : decode cX12_set 85 = .ok (.aload_n 0, 1) := by decide +kernel
theorem dX12_set_86 : decode cX12_set 86 = .ok (.getfield 7, 3) := by decide +kernel
theorem dX12_set_89 : decode cX12_set 89 = .ok (.sipush 317, 3) := by decide +kernel
theorem dX12_set_92 : decode cX12_set 92 = .ok (.iload_n 1, 1) := by decide +kernel
theorem dX12_set_93 : decode cX12_set 93 = .ok (.iadd, 1) := by decide +kernel
theorem dX12_set_94 : decode cX12_set 94 = .ok (.iload_n 2, 1) := by decide +kernel
theorem dX12_set_95 : decode cX12_set 95 = .ok (.iastore, 1) := by decide +kernel
theorem dX12_set_96 : decode cX12_set 96 = .ok (.iload_n 3, 1) := by decide +kernel
theorem dX12_set_97 : decode cX12_set 97 = .ok (.ireturn, 1) := by decide +kernel
theorem dX12_draw_0 : decode cX12_draw 0 = .ok (.aload_n 0, 1) := by decide +kernel
theorem dX12_draw_1 : decode cX12_draw 1 = .ok (.getfield 7, 3) := by decide +kernel
theorem dX12_draw_4 : decode cX12_draw 4 = .ok (.sipush 310, 3) := by decide +kernel
theorem dX12_draw_7 : decode cX12_draw 7 = .ok (.iaload, 1) := by decide +kernel
theorem dX12_draw_8 : decode cX12_draw 8 = .ok (.ifCond .ne 10, 3) := by decide +kernel
theorem dX12_draw_11 : decode cX12_draw 11 = .ok (.aload_n 0, 1) := by decide +kernel
theorem dX12_draw_12 : decode cX12_draw 12 = .ok (.invokevirtual 66, 3) := by decide +kernel
theorem dX12_draw_15 : decode cX12_draw 15 = .ok (.ifCond .ne 6, 3) := by decide +kernel
theorem dX12_draw_18 : decode cX12_draw 18 = .ok (.ldc 76, 2) := by decide +kernel
theorem dX12_draw_20 : decode cX12_draw 20 = .ok (.ireturn, 1) := by decide +kernel
theorem dX12_draw_21 : decode cX12_draw 21 = .ok (.aload_n 0, 1) := by decide +kernel
theorem dX12_draw_22 : decode cX12_draw 22 = .ok (.invokevirtual 78, 3) := by decide +kernel
theorem dX12_draw_25 : decode cX12_draw 25 = .ok (.aload_n 0, 1) := by decide +kernel
theorem dX12_draw_26 : decode cX12_draw 26 = .ok (.invokevirtual 95, 3) := by decide +kernel
theorem dX12_draw_29 : decode cX12_draw 29 = .ok (.istore_n 1, 1) := by decide +kernel
theorem dX12_draw_30 : decode cX12_draw 30 = .ok (.iconst 0, 1) := by decide +kernel
theorem dX12_draw_31 : decode cX12_draw 31 = .ok (.istore_n 2, 1) := by decide +kernel
theorem dX12_draw_32 : decode cX12_draw 32 = .ok (.iload_n 2, 1) := by decide +kernel
theorem dX12_draw_33 : decode cX12_draw 33 = .ok (.aload_n 0, 1) := by decide +kernel
theorem dX12_draw_34 : decode cX12_draw 34 = .ok (.getfield 7, 3) := by decide +kernel
theorem dX12_draw_37 : decode cX12_draw 37 = .ok (.sipush 311, 3) := by decide +kernel
theorem dX12_draw_40 : decode cX12_draw 40 = .ok (.iaload, 1) := by decide +kernel
theorem dX12_draw_41 : decode cX12_draw 41 = .ok (.if_icmp .ge 48, 3) := by decide +kernel
theorem dX12_draw_44 : decode cX12_draw 44 = .ok (.aload_n 0, 1) := by decide +kernel
theorem dX12_draw_45 : decode cX12_draw 45 = .ok (.iload_n 2, 1) := by decide +kernel
theorem dX12_draw_46 : decode cX12_draw 46 = .ok (.invokevirtual 44, 3) := by decide +kernel
theorem dX12_draw_49 : decode cX12_draw 49 = .ok (.ifCond .ne 34, 3) := by decide +kernel
theorem dX12_draw_52 : decode cX12_draw 52 = .ok (.aload_n 0, 1) := by decide +kernel
theorem dX12_draw_53 : decode cX12_draw 53 = .ok (.iload_n 2, 1) := by decide +kernel
theorem dX12_draw_54 : decode cX12_draw 54 = .ok (.invokevirtual 98, 3) := by decide +kernel
theorem dX12_draw_57 : decode cX12_draw 57 = .ok (.istore_n 3, 1) := by decide +kernel
theorem dX12_draw_58 : decode cX12_draw 58 = .ok (.aload_n 0, 1) := by decide +kernel
theorem dX12_draw_59 : decode cX12_draw 59 = .ok (.iload_n 2, 1) := by decide +kernel
theorem dX12_draw_60 : decode cX12_draw 60 = .ok (.iconst 3, 1) := by decide +kernel
theorem dX12_draw_61 : decode cX12_draw 61 = .ok (.aload_n 0, 1) := by decide +kernel
theorem dX12_draw_62 : decode cX12_draw 62 = .ok (.getfield 22, 3) := by decide +kernel
theorem dX12_draw_65 : decode cX12_draw 65 = .ok (.iload_n 3, 1) := by decide +kernel
theorem dX12_draw_66 : decode cX12_draw 66 = .ok (.iaload, 1) := by decide +kernel
theorem dX12_draw_67 : decode cX12_draw 67 = .ok (.iconst 1, 1) := by decide +kernel
theorem dX12_draw_68 : decode cX12_draw 68 = .ok (.iadd, 1) := by decide +kernel
theorem dX12_draw_69 : decode cX12_draw 69 = .ok (.invokevirtual 81, 3) := by decide +kernel
theorem dX12_draw_72 : decode cX12_draw 72 = .ok (.aload_n 0, 1) := by decide +kernel
theorem dX12_draw_73 : decode cX12_draw 73 = .ok (.iload_n 2, 1) := by decide +kernel
theorem dX12_draw_74 : decode cX12_draw 74 = .ok (.iconst 4, 1) := by decide +kernel
theorem dX12_draw_75 : decode cX12_draw 75 = .ok (.aload_n 0, 1) := by decide +kernel
theorem dX12_draw_76 : decode cX12_draw 76 = .ok (.iload_n 3, 1) := by decide +kernel
theorem dX12_draw_77 : decode cX12_draw 77 = .ok (.invokevirtual 101, 3) := by decide +kernel
theorem dX12_draw_80 : decode cX12_draw 80 = .ok (.invokevirtual 81, 3) := by decide +kernel
theorem dX12_draw_83 : decode cX12_draw 83 = .ok (.iinc 2 1, 3) := by decide +kernel
theorem dX12_draw_86 : decode cX12_draw 86 = .ok (.goto (-54), 3) := by decide +kernel
theorem dX12_draw_89 : decode cX12_draw 89 = .ok (.aload_n 0, 1) := by decide +kernel
theorem dX12_draw_90 : decode cX12_draw 90 = .ok (.getfield 7, 3) := by decide +kernel
theorem dX12_draw_93 : decode cX12_draw 93 = .ok (.sipush 310, 3) := by decide +kernel
theorem dX12_draw_96 : decode cX12_draw 96 = .ok (.iconst 1, 1) := by decide +kernel
theorem dX12_draw_97 : decode cX12_draw 97 = .ok (.iastore, 1) := by decide +kernel
theorem dX12_draw_98 : decode cX12_draw 98 = .ok (.aload_n 0, 1) := by decide +kernel
theorem dX12_draw_99 : decode cX12_draw 99 = .ok (.getfield 7, 3) := by decide +kernel
theorem dX12_draw_102 : decode cX12_draw 102 = .ok (.sipush 312, 3) := by decide +kernel
theorem dX12_draw_105 : decode cX12_draw 105 = .ok (.iload_n 1, 1) := by decide +kernel
theorem dX12_draw_106 : decode cX12_draw 106 = .ok (.iastore, 1) := by decide +kernel
theorem dX12_draw_107 : decode cX12_draw 107 = .ok (.iload_n 1, 1) := by decide +kernel
theorem dX12_draw_108 : decode cX12_draw 108 = .ok (.ireturn, 1) := by decide +kernel
theorem dX12_timeNow_0 : decode cX12_timeNow 0 = .ok (.aload_n 0, 1) := by decide +kernel
theorem dX12_timeNow_1 : decode cX12_timeNow 1 = .ok (.getfield 7, 3) := by decide +kernel
theorem dX12_timeNow_4 : decode cX12_timeNow 4 = .ok (.sipush 310, 3) := by decide +kernel
theorem dX12_timeNow_7 : decode cX12_timeNow 7 = .ok (.iaload, 1) := by decide +kernel
theorem dX12_timeNow_8 : decode cX12_timeNow 8 = .ok (.iconst 1, 1) := by decide +kernel
theorem dX12_timeNow_9 : decode cX12_timeNow 9 = .ok (.if_icmp .ne 7, 3) := by decide +kernel
theorem dX12_timeNow_12 : decode cX12_timeNow 12 = .ok (.iconst 5, 1) := by decide +kernel
theorem dX12_timeNow_13 : decode cX12_timeNow 13 = .ok (.goto 5, 3) := by decide +kernel
theorem dX12_timeNow_16 : decode cX12_timeNow 16 = .ok (.bipush 7, 2) := by decide +kernel
theorem dX12_timeNow_18 : decode cX12_timeNow 18 = .ok (.ireturn, 1) := by decide +kernel
theorem dX12_isAsked_0 : decode cX12_isAsked 0 = .ok (.aload_n 0, 1) := by decide +kernel
theorem dX12_isAsked_1 : decode cX12_isAsked 1 = .ok (.iload_n 1, 1) := by decide +kernel
theorem dX12_isAsked_2 : decode cX12_isAsked 2 = .ok (.invokevirtual 44, 3) := by decide +kernel
theorem dX12_isAsked_5 : decode cX12_isAsked 5 = .ok (.ifCond .ne 50, 3) := by decide +kernel
theorem dX12_isAsked_8 : decode cX12_isAsked 8 = .ok (.aload_n 0, 1) := by decide +kernel
theorem dX12_isAsked_9 : decode cX12_isAsked 9 = .ok (.getfield 7, 3) := by decide +kernel
theorem dX12_isAsked_12 : decode cX12_isAsked 12 = .ok (.sipush 310, 3) := by decide +kernel
theorem dX12_isAsked_15 : decode cX12_isAsked 15 = .ok (.iaload, 1) := by decide +kernel
theorem dX12_isAsked_16 : decode cX12_isAsked 16 = .ok (.iconst 1, 1) := by decide +kernel
theorem dX12_isAsked_17 : decode cX12_isAsked 17 = .ok (.if_icmp .ne 12, 3) := by decide +kernel
theorem dX12_isAsked_20 : decode cX12_isAsked 20 = .ok (.aload_n 0, 1) := by decide +kernel
theorem dX12_isAsked_21 : decode cX12_isAsked 21 = .ok (.iload_n 1, 1) := by decide +kernel
theorem dX12_isAsked_22 : decode cX12_isAsked 22 = .ok (.iconst 3, 1) := by decide +kernel
theorem dX12_isAsked_23 : decode cX12_isAsked 23 = .ok (.invokevirtual 40, 3) := by decide +kernel
theorem dX12_isAsked_26 : decode cX12_isAsked 26 = .ok (.ifCond .gt 25, 3) := by decide +kernel
theorem dX12_isAsked_29 : decode cX12_isAsked 29 = .ok (.aload_n 0, 1) := by decide +kernel
theorem dX12_isAsked_30 : decode cX12_isAsked 30 = .ok (.getfield 7, 3) := by decide +kernel
theorem dX12_isAsked_33 : decode cX12_isAsked 33 = .ok (.sipush 310, 3) := by decide +kernel
theorem dX12_isAsked_36 : decode cX12_isAsked 36 = .ok (.iaload, 1) := by decide +kernel
theorem dX12_isAsked_37 : decode cX12_isAsked 37 = .ok (.iconst 2, 1) := by decide +kernel
theorem dX12_isAsked_38 : decode cX12_isAsked 38 = .ok (.if_icmp .ne 17, 3) := by decide +kernel
theorem dX12_isAsked_41 : decode cX12_isAsked 41 = .ok (.aload_n 0, 1) := by decide +kernel
theorem dX12_isAsked_42 : decode cX12_isAsked 42 = .ok (.iload_n 1, 1) := by decide +kernel
theorem dX12_isAsked_43 : decode cX12_isAsked 43 = .ok (.bipush 6, 2) := by decide +kernel
theorem dX12_isAsked_45 : decode cX12_isAsked 45 = .ok (.invokevirtual 40, 3) := by decide +kernel
theorem dX12_isAsked_48 : decode cX12_isAsked 48 = .ok (.ifCond .le 7, 3) := by decide +kernel
theorem dX12_isAsked_51 : decode cX12_isAsked 51 = .ok (.iconst 1, 1) := by decide +kernel
theorem dX12_isAsked_52 : decode cX12_isAsked 52 = .ok (.goto 4, 3) := by decide +kernel
theorem dX12_isAsked_55 : decode cX12_isAsked 55 = .ok (.iconst 0, 1) := by decide +kernel
theorem dX12_isAsked_56 : decode cX12_isAsked 56 = .ok (.ireturn, 1) := by decide +kernel
theorem dX12_swim_0 : decode cX12_swim 0 = .ok (.aload_n 0, 1) := by decide +kernel
theorem dX12_swim_1 : decode cX12_swim 1 = .ok (.iload_n 1, 1) := by decide +kernel
theorem dX12_swim_2 : decode cX12_swim 2 = .ok (.invokevirtual 89, 3) := by decide +kernel
theorem dX12_swim_5 : decode cX12_swim 5 = .ok (.ifCond .eq 19, 3) := by decide +kernel
theorem dX12_swim_8 : decode cX12_swim 8 = .ok (.iload_n 2, 1) := by decide +kernel
theorem dX12_swim_9 : decode cX12_swim 9 = .ok (.ifCond .eq 18, 3) := by decide +kernel
theorem dX12_swim_12 : decode cX12_swim 12 = .ok (.iload_n 2, 1) := by decide +kernel
theorem dX12_swim_13 : decode cX12_swim 13 = .ok (.bipush 100, 2) := by decide +kernel
theorem dX12_swim_15 : decode cX12_swim 15 = .ok (.sipush 999, 3) := by decide +kernel
theorem dX12_swim_18 : decode cX12_swim 18 = .ok (.invokestatic 36, 3) := by decide +kernel
theorem dX12_swim_21 : decode cX12_swim 21 = .ok (.ifCond .ne 6, 3) := by decide +kernel
theorem dX12_swim_24 : decode cX12_swim 24 = .ok (.ldc 75, 2) := by decide +kernel
theorem dX12_swim_26 : decode cX12_swim 26 = .ok (.ireturn, 1) := by decide +kernel
theorem dX12_swim_27 : decode cX12_swim 27 = .ok (.aload_n 0, 1) := by decide +kernel
theorem dX12_swim_28 : decode cX12_swim 28 = .ok (.iload_n 1, 1) := by decide +kernel
theorem dX12_swim_29 : decode cX12_swim 29 = .ok (.invokevirtual 104, 3) := by decide +kernel
theorem dX12_swim_32 : decode cX12_swim 32 = .ok (.ifCond .ne 6, 3) := by decide +kernel
theorem dX12_swim_35 : decode cX12_swim 35 = .ok (.ldc 76, 2) := by decide +kernel
theorem dX12_swim_37 : decode cX12_swim 37 = .ok (.ireturn, 1) := by decide +kernel
theorem dX12_swim_38 : decode cX12_swim 38 = .ok (.aload_n 0, 1) := by decide +kernel
theorem dX12_swim_39 : decode cX12_swim 39 = .ok (.invokevirtual 78, 3) := by decide +kernel
theorem dX12_swim_42 : decode cX12_swim 42 = .ok (.aload_n 0, 1) := by decide +kernel
theorem dX12_swim_43 : decode cX12_swim 43 = .ok (.iload_n 1, 1) := by decide +kernel
theorem dX12_swim_44 : decode cX12_swim 44 = .ok (.aload_n 0, 1) := by decide +kernel
theorem dX12_swim_45 : decode cX12_swim 45 = .ok (.invokevirtual 107, 3) := by decide +kernel
theorem dX12_swim_48 : decode cX12_swim 48 = .ok (.iload_n 2, 1) := by decide +kernel
theorem dX12_swim_49 : decode cX12_swim 49 = .ok (.iconst 1, 1) := by decide +kernel
theorem dX12_swim_50 : decode cX12_swim 50 = .ok (.iadd, 1) := by decide +kernel
theorem dX12_swim_51 : decode cX12_swim 51 = .ok (.invokevirtual 81, 3) := by decide +kernel
theorem dX12_swim_54 : decode cX12_swim 54 = .ok (.iload_n 2, 1) := by decide +kernel
theorem dX12_swim_55 : decode cX12_swim 55 = .ok (.ifCond .le 44, 3) := by decide +kernel
theorem dX12_swim_58 : decode cX12_swim 58 = .ok (.aload_n 0, 1) := by decide +kernel
theorem dX12_swim_59 : decode cX12_swim 59 = .ok (.getfield 7, 3) := by decide +kernel
theorem dX12_swim_62 : decode cX12_swim 62 = .ok (.sipush 314, 3) := by decide +kernel
theorem dX12_swim_65 : decode cX12_swim 65 = .ok (.iaload, 1) := by decide +kernel
theorem dX12_swim_66 : decode cX12_swim 66 = .ok (.ifCond .eq 15, 3) := by decide +kernel
theorem dX12_swim_69 : decode cX12_swim 69 = .ok (.iload_n 2, 1) := by decide +kernel
theorem dX12_swim_70 : decode cX12_swim 70 = .ok (.aload_n 0, 1) := by decide +kernel
theorem dX12_swim_71 : decode cX12_swim 71 = .ok (.getfield 7, 3) := by decide +kernel
theorem dX12_swim_74 : decode cX12_swim 74 = .ok (.sipush 314, 3) := by decide +kernel
theorem dX12_swim_77 : decode cX12_swim 77 = .ok (.iaload, 1) := by decide +kernel
theorem dX12_swim_78 : decode cX12_swim 78 = .ok (.if_icmp .ge 21, 3) := by decide +kernel
theorem dX12_swim_81 : decode cX12_swim 81 = .ok (.aload_n 0, 1) := by decide +kernel
theorem dX12_swim_82 : decode cX12_swim 82 = .ok (.getfield 7, 3) := by decide +kernel
theorem dX12_swim_85 : decode cX12_swim 85 = .ok (.sipush 314, 3) := by decide +kernel
theorem dX12_swim_88 : decode cX12_swim 88 = .ok (.iload_n 2, 1) := by decide +kernel
theorem dX12_swim_89 : decode cX12_swim 89 = .ok (.iastore, 1) := by decide +kernel
theorem dX12_swim_90 : decode cX12_swim 90 = .ok (.aload_n 0, 1) := by decide +kernel
theorem dX12_swim_91 : decode cX12_swim 91 = .ok (.getfield 7, 3) := by decide +kernel
theorem dX12_swim_94 : decode cX12_swim 94 = .ok (.sipush 315, 3) := by decide +kernel
theorem dX12_swim_97 : decode cX12_swim 97 = .ok (.iload_n 1, 1) := by decide +kernel
theorem dX12_swim_98 : decode cX12_swim 98 = .ok (.iastore, 1) := by decide +kernel
theorem dX12_swim_99 : decode cX12_swim 99 = .ok (.iconst 0, 1) := by decide +kernel
theorem dX12_swim_100 : decode cX12_swim 100 = .ok (.istore_n 3, 1) := by decide +kernel
theorem dX12_swim_101 : decode cX12_swim 101 = .ok (.iconst 0, 1) := by decide +kernel
theorem dX12_swim_102 : decode cX12_swim 102 = .ok (.istore 4, 2) := by decide +kernel
theorem dX12_swim_104 : decode cX12_swim 104 = .ok (.iload 4, 2) := by decide +kernel
theorem dX12_swim_106 : decode cX12_swim 106 = .ok (.aload_n 0, 1) := by decide +kernel
theorem dX12_swim_107 : decode cX12_swim 107 = .ok (.getfield 7, 3) := by decide +kernel
theorem dX12_swim_110 : decode cX12_swim 110 = .ok (.sipush 311, 3) := by decide +kernel
theorem dX12_swim_113 : decode cX12_swim 113 = .ok (.iaload, 1) := by decide +kernel
theorem dX12_swim_114 : decode cX12_swim 114 = .ok (.if_icmp .ge 42, 3) := by decide +kernel
theorem dX12_swim_117 : decode cX12_swim 117 = .ok (.aload_n 0, 1) := by decide +kernel
theorem dX12_swim_118 : decode cX12_swim 118 = .ok (.iload 4, 2) := by decide +kernel
theorem dX12_swim_120 : decode cX12_swim 120 = .ok (.aload_n 0, 1) := by decide +kernel
theorem dX12_swim_121 : decode cX12_swim 121 = .ok (.invokevirtual 107, 3) := by decide +kernel
theorem dX12_swim_124 : decode cX12_swim 124 = .ok (.invokevirtual 40, 3) := by decide +kernel
theorem dX12_swim_127 : decode cX12_swim 127 = .ok (.iconst 1, 1) := by decide +kernel
theorem dX12_swim_128 : decode cX12_swim 128 = .ok (.isub, 1) := by decide +kernel
theorem dX12_swim_129 : decode cX12_swim 129 = .ok (.istore 5, 2) := by decide +kernel
theorem dX12_swim_131 : decode cX12_swim 131 = .ok (.iload_n 3, 1) := by decide +kernel
theorem dX12_swim_132 : decode cX12_swim 132 = .ok (.iload 5, 2) := by decide +kernel
theorem dX12_swim_134 : decode cX12_swim 134 = .ok (.ifCond .le 13, 3) := by decide +kernel
theorem dX12_swim_137 : decode cX12_swim 137 = .ok (.iload 5, 2) := by decide +kernel
theorem dX12_swim_139 : decode cX12_swim 139 = .ok (.iload_n 2, 1) := by decide +kernel
theorem dX12_swim_140 : decode cX12_swim 140 = .ok (.if_icmp .ge 7, 3) := by decide +kernel
theorem dX12_swim_143 : decode cX12_swim 143 = .ok (.iconst 1, 1) := by decide +kernel
theorem dX12_swim_144 : decode cX12_swim 144 = .ok (.goto 4, 3) := by decide +kernel
theorem dX12_swim_147 : decode cX12_swim 147 = .ok (.iconst 0, 1) := by decide +kernel
theorem dX12_swim_148 : decode cX12_swim 148 = .ok (.iadd, 1) := by decide +kernel
theorem dX12_swim_149 : decode cX12_swim 149 = .ok (.istore_n 3, 1) := by decide +kernel
theorem dX12_swim_150 : decode cX12_swim 150 = .ok (.iinc 4 1, 3) := by decide +kernel
theorem dX12_swim_153 : decode cX12_swim 153 = .ok (.goto (-49), 3) := by decide +kernel
theorem dX12_swim_156 : decode cX12_swim 156 = .ok (.iload_n 2, 1) := by decide +kernel
theorem dX12_swim_157 : decode cX12_swim 157 = .ok (.ifCond .ne 8, 3) := by decide +kernel
theorem dX12_swim_160 : decode cX12_swim 160 = .ok (.bipush 100, 2) := by decide +kernel
theorem dX12_swim_162 : decode cX12_swim 162 = .ok (.goto 4, 3) := by decide +kernel
theorem dX12_swim_165 : decode cX12_swim 165 = .ok (.iload_n 3, 1) := by decide +kernel
theorem dX12_swim_166 : decode cX12_swim 166 = .ok (.ireturn, 1) := by decide +kernel
theorem dX12_missingOnes_0 : decode cX12_missingOnes 0 = .ok (.iconst 0, 1) := by decide +kernel
theorem dX12_missingOnes_1 : decode cX12_missingOnes 1 = .ok (.istore_n 1, 1) := by decide +kernel
theorem dX12_missingOnes_2 : decode cX12_missingOnes 2 = .ok (.iconst 0, 1) := by decide +kernel
theorem dX12_missingOnes_3 : decode cX12_missingOnes 3 = .ok (.istore_n 2, 1) := by decide +kernel
theorem dX12_missingOnes_4 : decode cX12_missingOnes 4 = .ok (.iload_n 2, 1) := by decide +kernel
theorem dX12_missingOnes_5 : decode cX12_missingOnes 5 = .ok (.aload_n 0, 1) := by decide +kernel
theorem dX12_missingOnes_6 : decode cX12_missingOnes 6 = .ok (.getfield 7, 3) := by decide +kernel
theorem dX12_missingOnes_9 : decode cX12_missingOnes 9 = .ok (.sipush 311, 3) := by decide +kernel
theorem dX12_missingOnes_12 : decode cX12_missingOnes 12 = .ok (.iaload, 1) := by decide +kernel
theorem dX12_missingOnes_13 : decode cX12_missingOnes 13 = .ok (.if_icmp .ge 37, 3) := by decide +kernel
theorem dX12_missingOnes_16 : decode cX12_missingOnes 16 = .ok (.iload_n 1, 1) := by decide +kernel
theorem dX12_missingOnes_17 : decode cX12_missingOnes 17 = .ok (.aload_n 0, 1) := by decide +kernel
theorem dX12_missingOnes_18 : decode cX12_missingOnes 18 = .ok (.iload_n 2, 1) := by decide +kernel
theorem dX12_missingOnes_19 : decode cX12_missingOnes 19 = .ok (.invokevirtual 104, 3) := by decide +kernel
theorem dX12_missingOnes_22 : decode cX12_missingOnes 22 = .ok (.ifCond .eq 19, 3) := by decide +kernel
theorem dX12_missingOnes_25 : decode cX12_missingOnes 25 = .ok (.aload_n 0, 1) := by decide +kernel
theorem dX12_missingOnes_26 : decode cX12_missingOnes 26 = .ok (.iload_n 2, 1) := by decide +kernel
theorem dX12_missingOnes_27 : decode cX12_missingOnes 27 = .ok (.aload_n 0, 1) := by decide +kernel
theorem dX12_missingOnes_28 : decode cX12_missingOnes 28 = .ok (.invokevirtual 107, 3) := by decide +kernel
theorem dX12_missingOnes_31 : decode cX12_missingOnes 31 = .ok (.invokevirtual 40, 3) := by decide +kernel
theorem dX12_missingOnes_34 : decode cX12_missingOnes 34 = .ok (.ifCond .ne 7, 3) := by decide +kernel
theorem dX12_missingOnes_37 : decode cX12_missingOnes 37 = .ok (.iconst 1, 1) := by decide +kernel
theorem dX12_missingOnes_38 : decode cX12_missingOnes 38 = .ok (.goto 4, 3) := by decide +kernel
theorem dX12_missingOnes_41 : decode cX12_missingOnes 41 = .ok (.iconst 0, 1) := by decide +kernel
theorem dX12_missingOnes_42 : decode cX12_missingOnes 42 = .ok (.iadd, 1) := by decide +kernel
theorem dX12_missingOnes_43 : decode cX12_missingOnes 43 = .ok (.istore_n 1, 1) := by decide +kernel
theorem dX12_missingOnes_44 : decode cX12_missingOnes 44 = .ok (.iinc 2 1, 3) := by decide +kernel
theorem dX12_missingOnes_47 : decode cX12_missingOnes 47 = .ok (.goto (-43), 3) := by decide +kernel
theorem dX12_missingOnes_50 : decode cX12_missingOnes 50 = .ok (.iload_n 1, 1) := by decide +kernel
theorem dX12_missingOnes_51 : decode cX12_missingOnes 51 = .ok (.ireturn, 1) := by decide +kernel
theorem dX12_timed_0 : decode cX12_timed 0 = .ok (.iconst 0, 1) := by decide +kernel
theorem dX12_timed_1 : decode cX12_timed 1 = .ok (.istore_n 1, 1) := by decide +kernel
theorem dX12_timed_2 : decode cX12_timed 2 = .ok (.iconst 0, 1) := by decide +kernel
theorem dX12_timed_3 : decode cX12_timed 3 = .ok (.istore_n 2, 1) := by decide +kernel
theorem dX12_timed_4 : decode cX12_timed 4 = .ok (.iload_n 2, 1) := by decide +kernel
theorem dX12_timed_5 : decode cX12_timed 5 = .ok (.aload_n 0, 1) := by decide +kernel
theorem dX12_timed_6 : decode cX12_timed 6 = .ok (.getfield 7, 3) := by decide +kernel
theorem dX12_timed_9 : decode cX12_timed 9 = .ok (.sipush 311, 3) := by decide +kernel
theorem dX12_timed_12 : decode cX12_timed 12 = .ok (.iaload, 1) := by decide +kernel
theorem dX12_timed_13 : decode cX12_timed 13 = .ok (.if_icmp .ge 25, 3) := by decide +kernel
theorem dX12_timed_16 : decode cX12_timed 16 = .ok (.iload_n 1, 1) := by decide +kernel
theorem dX12_timed_17 : decode cX12_timed 17 = .ok (.aload_n 0, 1) := by decide +kernel
theorem dX12_timed_18 : decode cX12_timed 18 = .ok (.iload_n 2, 1) := by decide +kernel
theorem dX12_timed_19 : decode cX12_timed 19 = .ok (.invokevirtual 52, 3) := by decide +kernel
theorem dX12_timed_22 : decode cX12_timed 22 = .ok (.ifCond .eq 7, 3) := by decide +kernel
theorem dX12_timed_25 : decode cX12_timed 25 = .ok (.iconst 1, 1) := by decide +kernel
theorem dX12_timed_26 : decode cX12_timed 26 = .ok (.goto 4, 3) := by decide +kernel
theorem dX12_timed_29 : decode cX12_timed 29 = .ok (.iconst 0, 1) := by decide +kernel
theorem dX12_timed_30 : decode cX12_timed 30 = .ok (.iadd, 1) := by decide +kernel
theorem dX12_timed_31 : decode cX12_timed 31 = .ok (.istore_n 1, 1) := by decide +kernel
theorem dX12_timed_32 : decode cX12_timed 32 = .ok (.iinc 2 1, 3) := by decide +kernel
theorem dX12_timed_35 : decode cX12_timed 35 = .ok (.goto (-31), 3) := by decide +kernel
theorem dX12_timed_38 : decode cX12_timed 38 = .ok (.iload_n 1, 1) := by decide +kernel
theorem dX12_timed_39 : decode cX12_timed 39 = .ok (.ireturn, 1) := by decide +kernel
theorem dX12_why_0 : decode cX12_why 0 = .ok (.aload_n 0, 1) := by decide +kernel
theorem dX12_why_1 : decode cX12_why 1 = .ok (.getfield 7, 3) := by decide +kernel
theorem dX12_why_4 : decode cX12_why 4 = .ok (.sipush 310, 3) := by decide +kernel
theorem dX12_why_7 : decode cX12_why 7 = .ok (.iaload, 1) := by decide +kernel
theorem dX12_why_8 : decode cX12_why 8 = .ok (.tableswitch 78 0 2 #[28, 41, 65], 28) := by decide +kernel
theorem dX12_why_36 : decode cX12_why 36 = .ok (.aload_n 0, 1) := by decide +kernel
theorem dX12_why_37 : decode cX12_why 37 = .ok (.invokevirtual 66, 3) := by decide +kernel
theorem dX12_why_40 : decode cX12_why 40 = .ok (.ifCond .ne 7, 3) := by decide +kernel
theorem dX12_why_43 : decode cX12_why 43 = .ok (.iconst 1, 1) := by decide +kernel
theorem dX12_why_44 : decode cX12_why 44 = .ok (.goto 4, 3) := by decide +kernel
theorem dX12_why_47 : decode cX12_why 47 = .ok (.iconst 0, 1) := by decide +kernel
theorem dX12_why_48 : decode cX12_why 48 = .ok (.ireturn, 1) := by decide +kernel
theorem dX12_why_49 : decode cX12_why 49 = .ok (.aload_n 0, 1) := by decide +kernel
theorem dX12_why_50 : decode cX12_why 50 = .ok (.invokevirtual 110, 3) := by decide +kernel
theorem dX12_why_53 : decode cX12_why 53 = .ok (.ifCond .le 7, 3) := by decide +kernel
theorem dX12_why_56 : decode cX12_why 56 = .ok (.iconst 2, 1) := by decide +kernel
theorem dX12_why_57 : decode cX12_why 57 = .ok (.goto 15, 3) := by decide +kernel
theorem dX12_why_60 : decode cX12_why 60 = .ok (.aload_n 0, 1) := by decide +kernel
theorem dX12_why_61 : decode cX12_why 61 = .ok (.invokevirtual 113, 3) := by decide +kernel
theorem dX12_why_64 : decode cX12_why 64 = .ok (.ifCond .ne 7, 3) := by decide +kernel
theorem dX12_why_67 : decode cX12_why 67 = .ok (.iconst 1, 1) := by decide +kernel
theorem dX12_why_68 : decode cX12_why 68 = .ok (.goto 4, 3) := by decide +kernel
theorem dX12_why_71 : decode cX12_why 71 = .ok (.iconst 0, 1) := by decide +kernel
theorem dX12_why_72 : decode cX12_why 72 = .ok (.ireturn, 1) := by decide +kernel
theorem dX12_why_73 : decode cX12_why 73 = .ok (.aload_n 0, 1) := by decide +kernel
theorem dX12_why_74 : decode cX12_why 74 = .ok (.invokevirtual 110, 3) := by decide +kernel
theorem dX12_why_77 : decode cX12_why 77 = .ok (.ifCond .le 7, 3) := by decide +kernel
theorem dX12_why_80 : decode cX12_why 80 = .ok (.iconst 2, 1) := by decide +kernel
theorem dX12_why_81 : decode cX12_why 81 = .ok (.goto 4, 3) := by decide +kernel
theorem dX12_why_84 : decode cX12_why 84 = .ok (.iconst 0, 1) := by decide +kernel
theorem dX12_why_85 : decode cX12_why 85 = .ok (.ireturn, 1) := by decide +kernel
theorem dX12_why_86 : decode cX12_why 86 = .ok (.iconst 0, 1) := by decide +kernel
theorem dX12_why_87 : decode cX12_why 87 = .ok (.ireturn, 1) := by decide +kernel
theorem dX12_inFinal_0 : decode cX12_inFinal 0 = .ok (.iconst 0, 1) := by decide +kernel
theorem dX12_inFinal_1 : decode cX12_inFinal 1 = .ok (.istore_n 1, 1) := by decide +kernel
theorem dX12_inFinal_2 : decode cX12_inFinal 2 = .ok (.iconst 0, 1) := by decide +kernel
theorem dX12_inFinal_3 : decode cX12_inFinal 3 = .ok (.istore_n 2, 1) := by decide +kernel
theorem dX12_inFinal_4 : decode cX12_inFinal 4 = .ok (.iload_n 2, 1) := by decide +kernel
theorem dX12_inFinal_5 : decode cX12_inFinal 5 = .ok (.aload_n 0, 1) := by decide +kernel
theorem dX12_inFinal_6 : decode cX12_inFinal 6 = .ok (.getfield 7, 3) := by decide +kernel
theorem dX12_inFinal_9 : decode cX12_inFinal 9 = .ok (.sipush 311, 3) := by decide +kernel
theorem dX12_inFinal_12 : decode cX12_inFinal 12 = .ok (.iaload, 1) := by decide +kernel
theorem dX12_inFinal_13 : decode cX12_inFinal 13 = .ok (.if_icmp .ge 29, 3) := by decide +kernel
theorem dX12_inFinal_16 : decode cX12_inFinal 16 = .ok (.iload_n 1, 1) := by decide +kernel
theorem dX12_inFinal_17 : decode cX12_inFinal 17 = .ok (.aload_n 0, 1) := by decide +kernel
theorem dX12_inFinal_18 : decode cX12_inFinal 18 = .ok (.iload_n 2, 1) := by decide +kernel
theorem dX12_inFinal_19 : decode cX12_inFinal 19 = .ok (.bipush 6, 2) := by decide +kernel
theorem dX12_inFinal_21 : decode cX12_inFinal 21 = .ok (.invokevirtual 40, 3) := by decide +kernel
theorem dX12_inFinal_24 : decode cX12_inFinal 24 = .ok (.ifCond .le 9, 3) := by decide +kernel
theorem dX12_inFinal_27 : decode cX12_inFinal 27 = .ok (.iconst 1, 1) := by decide +kernel
theorem dX12_inFinal_28 : decode cX12_inFinal 28 = .ok (.iload_n 2, 1) := by decide +kernel
theorem dX12_inFinal_29 : decode cX12_inFinal 29 = .ok (.ishl, 1) := by decide +kernel
theorem dX12_inFinal_30 : decode cX12_inFinal 30 = .ok (.goto 4, 3) := by decide +kernel
theorem dX12_inFinal_33 : decode cX12_inFinal 33 = .ok (.iconst 0, 1) := by decide +kernel
theorem dX12_inFinal_34 : decode cX12_inFinal 34 = .ok (.ior, 1) := by decide +kernel
theorem dX12_inFinal_35 : decode cX12_inFinal 35 = .ok (.istore_n 1, 1) := by decide +kernel
theorem dX12_inFinal_36 : decode cX12_inFinal 36 = .ok (.iinc 2 1, 3) := by decide +kernel
theorem dX12_inFinal_39 : decode cX12_inFinal 39 = .ok (.goto (-35), 3) := by decide +kernel
theorem dX12_inFinal_42 : decode cX12_inFinal 42 = .ok (.iload_n 1, 1) := by decide +kernel
theorem dX12_inFinal_43 : decode cX12_inFinal 43 = .ok (.ireturn, 1) := by decide +kernel
theorem dX12_finals_0 : decode cX12_finals 0 = .ok (.aload_n 0, 1) := by decide +kernel
theorem dX12_finals_1 : decode cX12_finals 1 = .ok (.getfield 7, 3) := by decide +kernel
theorem dX12_finals_4 : decode cX12_finals 4 = .ok (.sipush 310, 3) := by decide +kernel
theorem dX12_finals_7 : decode cX12_finals 7 = .ok (.iaload, 1) := by decide +kernel
theorem dX12_finals_8 : decode cX12_finals 8 = .ok (.iconst 1, 1) := by decide +kernel
theorem dX12_finals_9 : decode cX12_finals 9 = .ok (.if_icmp .ne 10, 3) := by decide +kernel
theorem dX12_finals_12 : decode cX12_finals 12 = .ok (.aload_n 0, 1) := by decide +kernel
theorem dX12_finals_13 : decode cX12_finals 13 = .ok (.invokevirtual 116, 3) := by decide +kernel
theorem dX12_finals_16 : decode cX12_finals 16 = .ok (.ifCond .le 6, 3) := by decide +kernel
theorem dX12_finals_19 : decode cX12_finals 19 = .ok (.ldc 76, 2) := by decide +kernel
theorem dX12_finals_21 : decode cX12_finals 21 = .ok (.ireturn, 1) := by decide +kernel
theorem dX12_finals_22 : decode cX12_finals 22 = .ok (.aload_n 0, 1) := by decide +kernel
theorem dX12_finals_23 : decode cX12_finals 23 = .ok (.invokevirtual 78, 3) := by decide +kernel
theorem dX12_finals_26 : decode cX12_finals 26 = .ok (.iconst 0, 1) := by decide +kernel
theorem dX12_finals_27 : decode cX12_finals 27 = .ok (.istore_n 1, 1) := by decide +kernel
theorem dX12_finals_28 : decode cX12_finals 28 = .ok (.iload_n 1, 1) := by decide +kernel
theorem dX12_finals_29 : decode cX12_finals 29 = .ok (.aload_n 0, 1) := by decide +kernel
theorem dX12_finals_30 : decode cX12_finals 30 = .ok (.getfield 7, 3) := by decide +kernel
theorem dX12_finals_33 : decode cX12_finals 33 = .ok (.sipush 311, 3) := by decide +kernel
theorem dX12_finals_36 : decode cX12_finals 36 = .ok (.iaload, 1) := by decide +kernel
theorem dX12_finals_37 : decode cX12_finals 37 = .ok (.if_icmp .ge 92, 3) := by decide +kernel
theorem dX12_finals_40 : decode cX12_finals 40 = .ok (.aload_n 0, 1) := by decide +kernel
theorem dX12_finals_41 : decode cX12_finals 41 = .ok (.iload_n 1, 1) := by decide +kernel
theorem dX12_finals_42 : decode cX12_finals 42 = .ok (.invokevirtual 52, 3) := by decide +kernel
theorem dX12_finals_45 : decode cX12_finals 45 = .ok (.ifCond .eq 11, 3) := by decide +kernel
theorem dX12_finals_48 : decode cX12_finals 48 = .ok (.aload_n 0, 1) := by decide +kernel
theorem dX12_finals_49 : decode cX12_finals 49 = .ok (.iload_n 1, 1) := by decide +kernel
theorem dX12_finals_50 : decode cX12_finals 50 = .ok (.invokevirtual 119, 3) := by decide +kernel
theorem dX12_finals_53 : decode cX12_finals 53 = .ok (.goto 5, 3) := by decide +kernel
theorem dX12_finals_56 : decode cX12_finals 56 = .ok (.bipush 30, 2) := by decide +kernel
theorem dX12_finals_58 : decode cX12_finals 58 = .ok (.istore_n 2, 1) := by decide +kernel
theorem dX12_finals_59 : decode cX12_finals 59 = .ok (.iload_n 2, 1) := by decide +kernel
theorem dX12_finals_60 : decode cX12_finals 60 = .ok (.aload_n 0, 1) := by decide +kernel
theorem dX12_finals_61 : decode cX12_finals 61 = .ok (.invokevirtual 59, 3) := by decide +kernel
theorem dX12_finals_64 : decode cX12_finals 64 = .ok (.if_icmp .ge 18, 3) := by decide +kernel
theorem dX12_finals_67 : decode cX12_finals 67 = .ok (.aload_n 0, 1) := by decide +kernel
theorem dX12_finals_68 : decode cX12_finals 68 = .ok (.iload_n 1, 1) := by decide +kernel
theorem dX12_finals_69 : decode cX12_finals 69 = .ok (.bipush 6, 2) := by decide +kernel
theorem dX12_finals_71 : decode cX12_finals 71 = .ok (.aload_n 0, 1) := by decide +kernel
theorem dX12_finals_72 : decode cX12_finals 72 = .ok (.iload_n 2, 1) := by decide +kernel
theorem dX12_finals_73 : decode cX12_finals 73 = .ok (.invokevirtual 63, 3) := by decide +kernel
theorem dX12_finals_76 : decode cX12_finals 76 = .ok (.invokevirtual 81, 3) := by decide +kernel
theorem dX12_finals_79 : decode cX12_finals 79 = .ok (.goto 44, 3) := by decide +kernel
theorem dX12_finals_82 : decode cX12_finals 82 = .ok (.iload_n 2, 1) := by decide +kernel
theorem dX12_finals_83 : decode cX12_finals 83 = .ok (.aload_n 0, 1) := by decide +kernel
theorem dX12_finals_84 : decode cX12_finals 84 = .ok (.invokevirtual 59, 3) := by decide +kernel
theorem dX12_finals_87 : decode cX12_finals 87 = .ok (.aload_n 0, 1) := by decide +kernel
theorem dX12_finals_88 : decode cX12_finals 88 = .ok (.getfield 7, 3) := by decide +kernel
theorem dX12_finals_91 : decode cX12_finals 91 = .ok (.sipush 319, 3) := by decide +kernel
theorem dX12_finals_94 : decode cX12_finals 94 = .ok (.iaload, 1) := by decide +kernel
theorem dX12_finals_95 : decode cX12_finals 95 = .ok (.iadd, 1) := by decide +kernel
theorem dX12_finals_96 : decode cX12_finals 96 = .ok (.if_icmp .ge 27, 3) := by decide +kernel
theorem dX12_finals_99 : decode cX12_finals 99 = .ok (.iload_n 2, 1) := by decide +kernel
theorem dX12_finals_100 : decode cX12_finals 100 = .ok (.bipush 30, 2) := by decide +kernel
theorem dX12_finals_102 : decode cX12_finals 102 = .ok (.if_icmp .ge 21, 3) := by decide +kernel
theorem dX12_finals_105 : decode cX12_finals 105 = .ok (.aload_n 0, 1) := by decide +kernel
theorem dX12_finals_106 : decode cX12_finals 106 = .ok (.getfield 7, 3) := by decide +kernel
theorem dX12_finals_109 : decode cX12_finals 109 = .ok (.sipush 306, 3) := by decide +kernel
theorem dX12_finals_112 : decode cX12_finals 112 = .ok (.iload_n 2, 1) := by decide +kernel
theorem dX12_finals_113 : decode cX12_finals 113 = .ok (.iadd, 1) := by decide +kernel
theorem dX12_finals_114 : decode cX12_finals 114 = .ok (.aload_n 0, 1) := by decide +kernel
theorem dX12_finals_115 : decode cX12_finals 115 = .ok (.invokevirtual 59, 3) := by decide +kernel
theorem dX12_finals_118 : decode cX12_finals 118 = .ok (.isub, 1) := by decide +kernel
theorem dX12_finals_119 : decode cX12_finals 119 = .ok (.iload_n 1, 1) := by decide +kernel
theorem dX12_finals_120 : decode cX12_finals 120 = .ok (.iconst 1, 1) := by decide +kernel
theorem dX12_finals_121 : decode cX12_finals 121 = .ok (.iadd, 1) := by decide +kernel
theorem dX12_finals_122 : decode cX12_finals 122 = .ok (.iastore, 1) := by decide +kernel
theorem dX12_finals_123 : decode cX12_finals 123 = .ok (.iinc 1 1, 3) := by decide +kernel
theorem dX12_finals_126 : decode cX12_finals 126 = .ok (.goto (-98), 3) := by decide +kernel
theorem dX12_finals_129 : decode cX12_finals 129 = .ok (.aload_n 0, 1) := by decide +kernel
theorem dX12_finals_130 : decode cX12_finals 130 = .ok (.getfield 7, 3) := by decide +kernel
theorem dX12_finals_133 : decode cX12_finals 133 = .ok (.sipush 310, 3) := by decide +kernel
theorem dX12_finals_136 : decode cX12_finals 136 = .ok (.iconst 2, 1) := by decide +kernel
theorem dX12_finals_137 : decode cX12_finals 137 = .ok (.iastore, 1) := by decide +kernel
theorem dX12_finals_138 : decode cX12_finals 138 = .ok (.aload_n 0, 1) := by decide +kernel
theorem dX12_finals_139 : decode cX12_finals 139 = .ok (.invokevirtual 122, 3) := by decide +kernel
theorem dX12_finals_142 : decode cX12_finals 142 = .ok (.ireturn, 1) := by decide +kernel
theorem dX12_finishers_0 : decode cX12_finishers 0 = .ok (.iconst 0, 1) := by decide +kernel
theorem dX12_finishers_1 : decode cX12_finishers 1 = .ok (.istore_n 3, 1) := by decide +kernel
theorem dX12_finishers_2 : decode cX12_finishers 2 = .ok (.iconst 0, 1) := by decide +kernel
theorem dX12_finishers_3 : decode cX12_finishers 3 = .ok (.istore 4, 2) := by decide +kernel
theorem dX12_finishers_5 : decode cX12_finishers 5 = .ok (.iload 4, 2) := by decide +kernel
theorem dX12_finishers_7 : decode cX12_finishers 7 = .ok (.aload_n 0, 1) := by decide +kernel
theorem dX12_finishers_8 : decode cX12_finishers 8 = .ok (.getfield 7, 3) := by decide +kernel
theorem dX12_finishers_11 : decode cX12_finishers 11 = .ok (.sipush 311, 3) := by decide +kernel
theorem dX12_finishers_14 : decode cX12_finishers 14 = .ok (.iaload, 1) := by decide +kernel
theorem dX12_finishers_15 : decode cX12_finishers 15 = .ok (.if_icmp .ge 35, 3) := by decide +kernel
theorem dX12_finishers_18 : decode cX12_finishers 18 = .ok (.iload_n 3, 1) := by decide +kernel
theorem dX12_finishers_19 : decode cX12_finishers 19 = .ok (.aload_n 0, 1) := by decide +kernel
theorem dX12_finishers_20 : decode cX12_finishers 20 = .ok (.iload 4, 2) := by decide +kernel
theorem dX12_finishers_22 : decode cX12_finishers 22 = .ok (.bipush 7, 2) := by decide +kernel
theorem dX12_finishers_24 : decode cX12_finishers 24 = .ok (.invokevirtual 40, 3) := by decide +kernel
theorem dX12_finishers_27 : decode cX12_finishers 27 = .ok (.iconst 1, 1) := by decide +kernel
theorem dX12_finishers_28 : decode cX12_finishers 28 = .ok (.isub, 1) := by decide +kernel
theorem dX12_finishers_29 : decode cX12_finishers 29 = .ok (.iload_n 1, 1) := by decide +kernel
theorem dX12_finishers_30 : decode cX12_finishers 30 = .ok (.iload_n 2, 1) := by decide +kernel
theorem dX12_finishers_31 : decode cX12_finishers 31 = .ok (.invokestatic 36, 3) := by decide +kernel
theorem dX12_finishers_34 : decode cX12_finishers 34 = .ok (.ifCond .eq 7, 3) := by decide +kernel
theorem dX12_finishers_37 : decode cX12_finishers 37 = .ok (.iconst 1, 1) := by decide +kernel
theorem dX12_finishers_38 : decode cX12_finishers 38 = .ok (.goto 4, 3) := by decide +kernel
theorem dX12_finishers_41 : decode cX12_finishers 41 = .ok (.iconst 0, 1) := by decide +kernel
theorem dX12_finishers_42 : decode cX12_finishers 42 = .ok (.iadd, 1) := by decide +kernel
theorem dX12_finishers_43 : decode cX12_finishers 43 = .ok (.istore_n 3, 1) := by decide +kernel
theorem dX12_finishers_44 : decode cX12_finishers 44 = .ok (.iinc 4 1, 3) := by decide +kernel
theorem dX12_finishers_47 : decode cX12_finishers 47 = .ok (.goto (-42), 3) := by decide +kernel
theorem dX12_finishers_50 : decode cX12_finishers 50 = .ok (.iload_n 3, 1) := by decide +kernel
theorem dX12_finishers_51 : decode cX12_finishers 51 = .ok (.ireturn, 1) := by decide +kernel
theorem dX12_worth_0 : decode cX12_worth 0 = .ok (.aload_n 0, 1) := by decide +kernel
theorem dX12_worth_1 : decode cX12_worth 1 = .ok (.invokevirtual 59, 3) := by decide +kernel
theorem dX12_worth_4 : decode cX12_worth 4 = .ok (.iload_n 1, 1) := by decide +kernel
theorem dX12_worth_5 : decode cX12_worth 5 = .ok (.isub, 1) := by decide +kernel
theorem dX12_worth_6 : decode cX12_worth 6 = .ok (.iconst 1, 1) := by decide +kernel
theorem dX12_worth_7 : decode cX12_worth 7 = .ok (.iadd, 1) := by decide +kernel
theorem dX12_worth_8 : decode cX12_worth 8 = .ok (.iload_n 1, 1) := by decide +kernel
theorem dX12_worth_9 : decode cX12_worth 9 = .ok (.iconst 1, 1) := by decide +kernel
theorem dX12_worth_10 : decode cX12_worth 10 = .ok (.if_icmp .ne 7, 3) := by decide +kernel
theorem dX12_worth_13 : decode cX12_worth 13 = .ok (.iconst 1, 1) := by decide +kernel
theorem dX12_worth_14 : decode cX12_worth 14 = .ok (.goto 4, 3) := by decide +kernel
theorem dX12_worth_17 : decode cX12_worth 17 = .ok (.iconst 0, 1) := by decide +kernel
theorem dX12_worth_18 : decode cX12_worth 18 = .ok (.iadd, 1) := by decide +kernel
theorem dX12_worth_19 : decode cX12_worth 19 = .ok (.ireturn, 1) := by decide +kernel
theorem dX12_end_0 : decode cX12_end 0 = .ok (.aload_n 0, 1) := by decide +kernel
theorem dX12_end_1 : decode cX12_end 1 = .ok (.getfield 7, 3) := by decide +kernel
theorem dX12_end_4 : decode cX12_end 4 = .ok (.sipush 310, 3) := by decide +kernel
theorem dX12_end_7 : decode cX12_end 7 = .ok (.iaload, 1) := by decide +kernel
theorem dX12_end_8 : decode cX12_end 8 = .ok (.iconst 2, 1) := by decide +kernel
theorem dX12_end_9 : decode cX12_end 9 = .ok (.if_icmp .ne 10, 3) := by decide +kernel
theorem dX12_end_12 : decode cX12_end 12 = .ok (.aload_n 0, 1) := by decide +kernel
theorem dX12_end_13 : decode cX12_end 13 = .ok (.invokevirtual 116, 3) := by decide +kernel
theorem dX12_end_16 : decode cX12_end 16 = .ok (.ifCond .le 6, 3) := by decide +kernel
theorem dX12_end_19 : decode cX12_end 19 = .ok (.ldc 76, 2) := by decide +kernel
theorem dX12_end_21 : decode cX12_end 21 = .ok (.ireturn, 1) := by decide +kernel
theorem dX12_end_22 : decode cX12_end 22 = .ok (.aload_n 0, 1) := by decide +kernel
theorem dX12_end_23 : decode cX12_end 23 = .ok (.invokevirtual 78, 3) := by decide +kernel
theorem dX12_end_26 : decode cX12_end 26 = .ok (.iconst 0, 1) := by decide +kernel
theorem dX12_end_27 : decode cX12_end 27 = .ok (.istore_n 1, 1) := by decide +kernel
theorem dX12_end_28 : decode cX12_end 28 = .ok (.iconst 0, 1) := by decide +kernel
theorem dX12_end_29 : decode cX12_end 29 = .ok (.istore_n 2, 1) := by decide +kernel
theorem dX12_end_30 : decode cX12_end 30 = .ok (.iload_n 2, 1) := by decide +kernel
theorem dX12_end_31 : decode cX12_end 31 = .ok (.aload_n 0, 1) := by decide +kernel
theorem dX12_end_32 : decode cX12_end 32 = .ok (.getfield 7, 3) := by decide +kernel
theorem dX12_end_35 : decode cX12_end 35 = .ok (.sipush 311, 3) := by decide +kernel
theorem dX12_end_38 : decode cX12_end 38 = .ok (.iaload, 1) := by decide +kernel
theorem dX12_end_39 : decode cX12_end 39 = .ok (.if_icmp .ge 149, 3) := by decide +kernel
theorem dX12_end_42 : decode cX12_end 42 = .ok (.aload_n 0, 1) := by decide +kernel
theorem dX12_end_43 : decode cX12_end 43 = .ok (.iload_n 2, 1) := by decide +kernel
theorem dX12_end_44 : decode cX12_end 44 = .ok (.bipush 7, 2) := by decide +kernel
theorem dX12_end_46 : decode cX12_end 46 = .ok (.invokevirtual 40, 3) := by decide +kernel
theorem dX12_end_49 : decode cX12_end 49 = .ok (.iconst 1, 1) := by decide +kernel
theorem dX12_end_50 : decode cX12_end 50 = .ok (.isub, 1) := by decide +kernel
theorem dX12_end_51 : decode cX12_end 51 = .ok (.istore_n 3, 1) := by decide +kernel
theorem dX12_end_52 : decode cX12_end 52 = .ok (.iload_n 3, 1) := by decide +kernel
theorem dX12_end_53 : decode cX12_end 53 = .ok (.ifCond .le 129, 3) := by decide +kernel
theorem dX12_end_56 : decode cX12_end 56 = .ok (.aload_n 0, 1) := by decide +kernel
theorem dX12_end_57 : decode cX12_end 57 = .ok (.iconst 1, 1) := by decide +kernel
theorem dX12_end_58 : decode cX12_end 58 = .ok (.iload_n 3, 1) := by decide +kernel
theorem dX12_end_59 : decode cX12_end 59 = .ok (.iconst 1, 1) := by decide +kernel
theorem dX12_end_60 : decode cX12_end 60 = .ok (.isub, 1) := by decide +kernel
theorem dX12_end_61 : decode cX12_end 61 = .ok (.invokevirtual 125, 3) := by decide +kernel
theorem dX12_end_64 : decode cX12_end 64 = .ok (.iconst 1, 1) := by decide +kernel
theorem dX12_end_65 : decode cX12_end 65 = .ok (.iadd, 1) := by decide +kernel
theorem dX12_end_66 : decode cX12_end 66 = .ok (.istore 4, 2) := by decide +kernel
theorem dX12_end_68 : decode cX12_end 68 = .ok (.aload_n 0, 1) := by decide +kernel
theorem dX12_end_69 : decode cX12_end 69 = .ok (.iload_n 3, 1) := by decide +kernel
theorem dX12_end_70 : decode cX12_end 70 = .ok (.iload_n 3, 1) := by decide +kernel
theorem dX12_end_71 : decode cX12_end 71 = .ok (.invokevirtual 125, 3) := by decide +kernel
theorem dX12_end_74 : decode cX12_end 74 = .ok (.istore 5, 2) := by decide +kernel
theorem dX12_end_76 : decode cX12_end 76 = .ok (.iconst 0, 1) := by decide +kernel
theorem dX12_end_77 : decode cX12_end 77 = .ok (.istore 6, 2) := by decide +kernel
theorem dX12_end_79 : decode cX12_end 79 = .ok (.iload 4, 2) := by decide +kernel
theorem dX12_end_81 : decode cX12_end 81 = .ok (.istore 7, 2) := by decide +kernel
theorem dX12_end_83 : decode cX12_end 83 = .ok (.iload 7, 2) := by decide +kernel
theorem dX12_end_85 : decode cX12_end 85 = .ok (.iload 4, 2) := by decide +kernel
theorem dX12_end_87 : decode cX12_end 87 = .ok (.iload 5, 2) := by decide +kernel
theorem dX12_end_89 : decode cX12_end 89 = .ok (.iadd, 1) := by decide +kernel
theorem dX12_end_90 : decode cX12_end 90 = .ok (.if_icmp .ge 20, 3) := by decide +kernel
theorem dX12_end_93 : decode cX12_end 93 = .ok (.iload 6, 2) := by decide +kernel
theorem dX12_end_95 : decode cX12_end 95 = .ok (.aload_n 0, 1) := by decide +kernel
theorem dX12_end_96 : decode cX12_end 96 = .ok (.iload 7, 2) := by decide +kernel
theorem dX12_end_98 : decode cX12_end 98 = .ok (.invokevirtual 128, 3) := by decide +kernel
theorem dX12_end_101 : decode cX12_end 101 = .ok (.iadd, 1) := by decide +kernel
theorem dX12_end_102 : decode cX12_end 102 = .ok (.istore 6, 2) := by decide +kernel
theorem dX12_end_104 : decode cX12_end 104 = .ok (.iinc 7 1, 3) := by decide +kernel
theorem dX12_end_107 : decode cX12_end 107 = .ok (.goto (-24), 3) := by decide +kernel
theorem dX12_end_110 : decode cX12_end 110 = .ok (.aload_n 0, 1) := by decide +kernel
theorem dX12_end_111 : decode cX12_end 111 = .ok (.iload_n 2, 1) := by decide +kernel
theorem dX12_end_112 : decode cX12_end 112 = .ok (.bipush 8, 2) := by decide +kernel
theorem dX12_end_114 : decode cX12_end 114 = .ok (.iload 4, 2) := by decide +kernel
theorem dX12_end_116 : decode cX12_end 116 = .ok (.invokevirtual 81, 3) := by decide +kernel
theorem dX12_end_119 : decode cX12_end 119 = .ok (.aload_n 0, 1) := by decide +kernel
theorem dX12_end_120 : decode cX12_end 120 = .ok (.iload_n 2, 1) := by decide +kernel
theorem dX12_end_121 : decode cX12_end 121 = .ok (.bipush 9, 2) := by decide +kernel
theorem dX12_end_123 : decode cX12_end 123 = .ok (.aload_n 0, 1) := by decide +kernel
theorem dX12_end_124 : decode cX12_end 124 = .ok (.iload_n 2, 1) := by decide +kernel
theorem dX12_end_125 : decode cX12_end 125 = .ok (.bipush 9, 2) := by decide +kernel
theorem dX12_end_127 : decode cX12_end 127 = .ok (.invokevirtual 40, 3) := by decide +kernel
theorem dX12_end_130 : decode cX12_end 130 = .ok (.iconst 2, 1) := by decide +kernel
theorem dX12_end_131 : decode cX12_end 131 = .ok (.iload 6, 2) := by decide +kernel
theorem dX12_end_133 : decode cX12_end 133 = .ok (.imul, 1) := by decide +kernel
theorem dX12_end_134 : decode cX12_end 134 = .ok (.iload 5, 2) := by decide +kernel
theorem dX12_end_136 : decode cX12_end 136 = .ok (.idiv, 1) := by decide +kernel
theorem dX12_end_137 : decode cX12_end 137 = .ok (.iadd, 1) := by decide +kernel
theorem dX12_end_138 : decode cX12_end 138 = .ok (.invokevirtual 81, 3) := by decide +kernel
theorem dX12_end_141 : decode cX12_end 141 = .ok (.aload_n 0, 1) := by decide +kernel
theorem dX12_end_142 : decode cX12_end 142 = .ok (.getfield 7, 3) := by decide +kernel
theorem dX12_end_145 : decode cX12_end 145 = .ok (.sipush 300, 3) := by decide +kernel
theorem dX12_end_148 : decode cX12_end 148 = .ok (.aload_n 0, 1) := by decide +kernel
theorem dX12_end_149 : decode cX12_end 149 = .ok (.iload_n 2, 1) := by decide +kernel
theorem dX12_end_150 : decode cX12_end 150 = .ok (.iconst 0, 1) := by decide +kernel
theorem dX12_end_151 : decode cX12_end 151 = .ok (.invokevirtual 40, 3) := by decide +kernel
theorem dX12_end_154 : decode cX12_end 154 = .ok (.iadd, 1) := by decide +kernel
theorem dX12_end_155 : decode cX12_end 155 = .ok (.dup2, 1) := by decide +kernel
theorem dX12_end_156 : decode cX12_end 156 = .ok (.iaload, 1) := by decide +kernel
theorem dX12_end_157 : decode cX12_end 157 = .ok (.iconst 2, 1) := by decide +kernel
theorem dX12_end_158 : decode cX12_end 158 = .ok (.iload 6, 2) := by decide +kernel
theorem dX12_end_160 : decode cX12_end 160 = .ok (.imul, 1) := by decide +kernel
theorem dX12_end_161 : decode cX12_end 161 = .ok (.iload 5, 2) := by decide +kernel
theorem dX12_end_163 : decode cX12_end 163 = .ok (.idiv, 1) := by decide +kernel
theorem dX12_end_164 : decode cX12_end 164 = .ok (.iadd, 1) := by decide +kernel
theorem dX12_end_165 : decode cX12_end 165 = .ok (.iastore, 1) := by decide +kernel
theorem dX12_end_166 : decode cX12_end 166 = .ok (.iload_n 1, 1) := by decide +kernel
theorem dX12_end_167 : decode cX12_end 167 = .ok (.iload 4, 2) := by decide +kernel
theorem dX12_end_169 : decode cX12_end 169 = .ok (.iconst 1, 1) := by decide +kernel
theorem dX12_end_170 : decode cX12_end 170 = .ok (.if_icmp .ne 9, 3) := by decide +kernel
theorem dX12_end_173 : decode cX12_end 173 = .ok (.iconst 1, 1) := by decide +kernel
theorem dX12_end_174 : decode cX12_end 174 = .ok (.iload_n 2, 1) := by decide +kernel
theorem dX12_end_175 : decode cX12_end 175 = .ok (.ishl, 1) := by decide +kernel
theorem dX12_end_176 : decode cX12_end 176 = .ok (.goto 4, 3) := by decide +kernel
theorem dX12_end_179 : decode cX12_end 179 = .ok (.iconst 0, 1) := by decide +kernel
theorem dX12_end_180 : decode cX12_end 180 = .ok (.ior, 1) := by decide +kernel
theorem dX12_end_181 : decode cX12_end 181 = .ok (.istore_n 1, 1) := by decide +kernel
theorem dX12_end_182 : decode cX12_end 182 = .ok (.iinc 2 1, 3) := by decide +kernel
theorem dX12_end_185 : decode cX12_end 185 = .ok (.goto (-155), 3) := by decide +kernel
theorem dX12_end_188 : decode cX12_end 188 = .ok (.aload_n 0, 1) := by decide +kernel
theorem dX12_end_189 : decode cX12_end 189 = .ok (.getfield 7, 3) := by decide +kernel
theorem dX12_end_192 : decode cX12_end 192 = .ok (.sipush 310, 3) := by decide +kernel
theorem dX12_end_195 : decode cX12_end 195 = .ok (.iconst 3, 1) := by decide +kernel
theorem dX12_end_196 : decode cX12_end 196 = .ok (.iastore, 1) := by decide +kernel
theorem dX12_end_197 : decode cX12_end 197 = .ok (.aload_n 0, 1) := by decide +kernel
theorem dX12_end_198 : decode cX12_end 198 = .ok (.getfield 7, 3) := by decide +kernel
theorem dX12_end_201 : decode cX12_end 201 = .ok (.sipush 313, 3) := by decide +kernel
theorem dX12_end_204 : decode cX12_end 204 = .ok (.dup2, 1) := by decide +kernel
theorem dX12_end_205 : decode cX12_end 205 = .ok (.iaload, 1) := by decide +kernel
theorem dX12_end_206 : decode cX12_end 206 = .ok (.iconst 1, 1) := by decide +kernel
theorem dX12_end_207 : decode cX12_end 207 = .ok (.iadd, 1) := by decide +kernel
theorem dX12_end_208 : decode cX12_end 208 = .ok (.iastore, 1) := by decide +kernel
theorem dX12_end_209 : decode cX12_end 209 = .ok (.iload_n 1, 1) := by decide +kernel
theorem dX12_end_210 : decode cX12_end 210 = .ok (.ireturn, 1) := by decide +kernel
theorem dX12_better_0 : decode cX12_better 0 = .ok (.iload_n 1, 1) := by decide +kernel
theorem dX12_better_1 : decode cX12_better 1 = .ok (.ifCond .le 16, 3) := by decide +kernel
theorem dX12_better_4 : decode cX12_better 4 = .ok (.iload_n 0, 1) := by decide +kernel
theorem dX12_better_5 : decode cX12_better 5 = .ok (.ifCond .eq 8, 3) := by decide +kernel
theorem dX12_better_8 : decode cX12_better 8 = .ok (.iload_n 1, 1) := by decide +kernel
theorem dX12_better_9 : decode cX12_better 9 = .ok (.iload_n 0, 1) := by decide +kernel
theorem dX12_better_10 : decode cX12_better 10 = .ok (.if_icmp .ge 7, 3) := by decide +kernel
theorem dX12_better_13 : decode cX12_better 13 = .ok (.iload_n 1, 1) := by decide +kernel
theorem dX12_better_14 : decode cX12_better 14 = .ok (.goto 4, 3) := by decide +kernel
theorem dX12_better_17 : decode cX12_better 17 = .ok (.iload_n 0, 1) := by decide +kernel
theorem dX12_better_18 : decode cX12_better 18 = .ok (.ireturn, 1) := by decide +kernel
theorem dX12_next_0 : decode cX12_next 0 = .ok (.aload_n 0, 1) := by decide +kernel
theorem dX12_next_1 : decode cX12_next 1 = .ok (.getfield 7, 3) := by decide +kernel
theorem dX12_next_4 : decode cX12_next 4 = .ok (.sipush 310, 3) := by decide +kernel
theorem dX12_next_7 : decode cX12_next 7 = .ok (.iaload, 1) := by decide +kernel
theorem dX12_next_8 : decode cX12_next 8 = .ok (.iconst 3, 1) := by decide +kernel
theorem dX12_next_9 : decode cX12_next 9 = .ok (.if_icmp .eq 6, 3) := by decide +kernel
theorem dX12_next_12 : decode cX12_next 12 = .ok (.ldc 76, 2) := by decide +kernel
theorem dX12_next_14 : decode cX12_next 14 = .ok (.ireturn, 1) := by decide +kernel
theorem dX12_next_15 : decode cX12_next 15 = .ok (.aload_n 0, 1) := by decide +kernel
theorem dX12_next_16 : decode cX12_next 16 = .ok (.invokevirtual 78, 3) := by decide +kernel
theorem dX12_next_19 : decode cX12_next 19 = .ok (.iconst 0, 1) := by decide +kernel
theorem dX12_next_20 : decode cX12_next 20 = .ok (.istore_n 1, 1) := by decide +kernel
theorem dX12_next_21 : decode cX12_next 21 = .ok (.iconst 0, 1) := by decide +kernel
theorem dX12_next_22 : decode cX12_next 22 = .ok (.istore_n 2, 1) := by decide +kernel
theorem dX12_next_23 : decode cX12_next 23 = .ok (.iload_n 2, 1) := by decide +kernel
theorem dX12_next_24 : decode cX12_next 24 = .ok (.aload_n 0, 1) := by decide +kernel
theorem dX12_next_25 : decode cX12_next 25 = .ok (.getfield 7, 3) := by decide +kernel
theorem dX12_next_28 : decode cX12_next 28 = .ok (.sipush 311, 3) := by decide +kernel
theorem dX12_next_31 : decode cX12_next 31 = .ok (.iaload, 1) := by decide +kernel
theorem dX12_next_32 : decode cX12_next 32 = .ok (.if_icmp .ge 88, 3) := by decide +kernel
theorem dX12_next_35 : decode cX12_next 35 = .ok (.aload_n 0, 1) := by decide +kernel
theorem dX12_next_36 : decode cX12_next 36 = .ok (.iload_n 2, 1) := by decide +kernel
theorem dX12_next_37 : decode cX12_next 37 = .ok (.iconst 1, 1) := by decide +kernel
theorem dX12_next_38 : decode cX12_next 38 = .ok (.invokevirtual 40, 3) := by decide +kernel
theorem dX12_next_41 : decode cX12_next 41 = .ok (.istore_n 3, 1) := by decide +kernel
theorem dX12_next_42 : decode cX12_next 42 = .ok (.iload_n 3, 1) := by decide +kernel
theorem dX12_next_43 : decode cX12_next 43 = .ok (.aload_n 0, 1) := by decide +kernel
theorem dX12_next_44 : decode cX12_next 44 = .ok (.iload_n 2, 1) := by decide +kernel
theorem dX12_next_45 : decode cX12_next 45 = .ok (.iconst 5, 1) := by decide +kernel
theorem dX12_next_46 : decode cX12_next 46 = .ok (.invokevirtual 40, 3) := by decide +kernel
theorem dX12_next_49 : decode cX12_next 49 = .ok (.iconst 1, 1) := by decide +kernel
theorem dX12_next_50 : decode cX12_next 50 = .ok (.isub, 1) := by decide +kernel
theorem dX12_next_51 : decode cX12_next 51 = .ok (.invokestatic 131, 3) := by decide +kernel
theorem dX12_next_54 : decode cX12_next 54 = .ok (.aload_n 0, 1) := by decide +kernel
theorem dX12_next_55 : decode cX12_next 55 = .ok (.iload_n 2, 1) := by decide +kernel
theorem dX12_next_56 : decode cX12_next 56 = .ok (.bipush 7, 2) := by decide +kernel
theorem dX12_next_58 : decode cX12_next 58 = .ok (.invokevirtual 40, 3) := by decide +kernel
theorem dX12_next_61 : decode cX12_next 61 = .ok (.iconst 1, 1) := by decide +kernel
theorem dX12_next_62 : decode cX12_next 62 = .ok (.isub, 1) := by decide +kernel
theorem dX12_next_63 : decode cX12_next 63 = .ok (.invokestatic 131, 3) := by decide +kernel
theorem dX12_next_66 : decode cX12_next 66 = .ok (.istore 4, 2) := by decide +kernel
theorem dX12_next_68 : decode cX12_next 68 = .ok (.iload_n 1, 1) := by decide +kernel
theorem dX12_next_69 : decode cX12_next 69 = .ok (.iload 4, 2) := by decide +kernel
theorem dX12_next_71 : decode cX12_next 71 = .ok (.iload_n 3, 1) := by decide +kernel
theorem dX12_next_72 : decode cX12_next 72 = .ok (.if_icmp .eq 7, 3) := by decide +kernel
theorem dX12_next_75 : decode cX12_next 75 = .ok (.iconst 1, 1) := by decide +kernel
theorem dX12_next_76 : decode cX12_next 76 = .ok (.goto 4, 3) := by decide +kernel
theorem dX12_next_79 : decode cX12_next 79 = .ok (.iconst 0, 1) := by decide +kernel
theorem dX12_next_80 : decode cX12_next 80 = .ok (.iadd, 1) := by decide +kernel
theorem dX12_next_81 : decode cX12_next 81 = .ok (.istore_n 1, 1) := by decide +kernel
theorem dX12_next_82 : decode cX12_next 82 = .ok (.aload_n 0, 1) := by decide +kernel
theorem dX12_next_83 : decode cX12_next 83 = .ok (.iload_n 2, 1) := by decide +kernel
theorem dX12_next_84 : decode cX12_next 84 = .ok (.iconst 1, 1) := by decide +kernel
theorem dX12_next_85 : decode cX12_next 85 = .ok (.iload 4, 2) := by decide +kernel
theorem dX12_next_87 : decode cX12_next 87 = .ok (.invokevirtual 81, 3) := by decide +kernel
theorem dX12_next_90 : decode cX12_next 90 = .ok (.iconst 2, 1) := by decide +kernel
theorem dX12_next_91 : decode cX12_next 91 = .ok (.istore 5, 2) := by decide +kernel
theorem dX12_next_93 : decode cX12_next 93 = .ok (.iload 5, 2) := by decide +kernel
theorem dX12_next_95 : decode cX12_next 95 = .ok (.bipush 8, 2) := by decide +kernel
theorem dX12_next_97 : decode cX12_next 97 = .ok (.if_icmp .gt 17, 3) := by decide +kernel
theorem dX12_next_100 : decode cX12_next 100 = .ok (.aload_n 0, 1) := by decide +kernel
theorem dX12_next_101 : decode cX12_next 101 = .ok (.iload_n 2, 1) := by decide +kernel
theorem dX12_next_102 : decode cX12_next 102 = .ok (.iload 5, 2) := by decide +kernel
theorem dX12_next_104 : decode cX12_next 104 = .ok (.iconst 0, 1) := by decide +kernel
theorem dX12_next_105 : decode cX12_next 105 = .ok (.invokevirtual 81, 3) := by decide +kernel
theorem dX12_next_108 : decode cX12_next 108 = .ok (.iinc 5 1, 3) := by decide +kernel
theorem dX12_next_111 : decode cX12_next 111 = .ok (.goto (-18), 3) := by decide +kernel
theorem dX12_next_114 : decode cX12_next 114 = .ok (.iinc 2 1, 3) := by decide +kernel
theorem dX12_next_117 : decode cX12_next 117 = .ok (.goto (-94), 3) := by decide +kernel
theorem dX12_next_120 : decode cX12_next 120 = .ok (.iconst 0, 1) := by decide +kernel
theorem dX12_next_121 : decode cX12_next 121 = .ok (.istore_n 2, 1) := by decide +kernel
theorem dX12_next_122 : decode cX12_next 122 = .ok (.iload_n 2, 1) := by decide +kernel
theorem dX12_next_123 : decode cX12_next 123 = .ok (.iconst 4, 1) := by decide +kernel
theorem dX12_next_124 : decode cX12_next 124 = .ok (.if_icmp .ge 20, 3) := by decide +kernel
theorem dX12_next_127 : decode cX12_next 127 = .ok (.aload_n 0, 1) := by decide +kernel
theorem dX12_next_128 : decode cX12_next 128 = .ok (.getfield 7, 3) := by decide +kernel
theorem dX12_next_131 : decode cX12_next 131 = .ok (.sipush 306, 3) := by decide +kernel
theorem dX12_next_134 : decode cX12_next 134 = .ok (.iload_n 2, 1) := by decide +kernel
theorem dX12_next_135 : decode cX12_next 135 = .ok (.iadd, 1) := by decide +kernel
theorem dX12_next_136 : decode cX12_next 136 = .ok (.iconst 0, 1) := by decide +kernel
theorem dX12_next_137 : decode cX12_next 137 = .ok (.iastore, 1) := by decide +kernel
theorem dX12_next_138 : decode cX12_next 138 = .ok (.iinc 2 1, 3) := by decide +kernel
theorem dX12_next_141 : decode cX12_next 141 = .ok (.goto (-19), 3) := by decide +kernel
theorem dX12_next_144 : decode cX12_next 144 = .ok (.aload_n 0, 1) := by decide +kernel
theorem dX12_next_145 : decode cX12_next 145 = .ok (.getfield 7, 3) := by decide +kernel
theorem dX12_next_148 : decode cX12_next 148 = .ok (.sipush 310, 3) := by decide +kernel
theorem dX12_next_151 : decode cX12_next 151 = .ok (.iconst 0, 1) := by decide +kernel
theorem dX12_next_152 : decode cX12_next 152 = .ok (.iastore, 1) := by decide +kernel
theorem dX12_next_153 : decode cX12_next 153 = .ok (.aload_n 0, 1) := by decide +kernel
theorem dX12_next_154 : decode cX12_next 154 = .ok (.getfield 7, 3) := by decide +kernel
theorem dX12_next_157 : decode cX12_next 157 = .ok (.sipush 312, 3) := by decide +kernel
theorem dX12_next_160 : decode cX12_next 160 = .ok (.iconst 0, 1) := by decide +kernel
theorem dX12_next_161 : decode cX12_next 161 = .ok (.iastore, 1) := by decide +kernel
theorem dX12_next_162 : decode cX12_next 162 = .ok (.iload_n 1, 1) := by decide +kernel
theorem dX12_next_163 : decode cX12_next 163 = .ok (.ireturn, 1) := by decide +kernel
theorem dX12_orNone_0 : decode cX12_orNone 0 = .ok (.iload_n 0, 1) := by decide +kernel
theorem dX12_orNone_1 : decode cX12_orNone 1 = .ok (.ifCond .le 7, 3) := by decide +kernel
theorem dX12_orNone_4 : decode cX12_orNone 4 = .ok (.iload_n 0, 1) := by decide +kernel
theorem dX12_orNone_5 : decode cX12_orNone 5 = .ok (.goto 5, 3) := by decide +kernel
theorem dX12_orNone_8 : decode cX12_orNone 8 = .ok (.ldc 85, 2) := by decide +kernel
theorem dX12_orNone_10 : decode cX12_orNone 10 = .ok (.ireturn, 1) := by decide +kernel
theorem dX12_lessOne_0 : decode cX12_lessOne 0 = .ok (.iload_n 0, 1) := by decide +kernel
theorem dX12_lessOne_1 : decode cX12_lessOne 1 = .ok (.ifCond .le 9, 3) := by decide +kernel
theorem dX12_lessOne_4 : decode cX12_lessOne 4 = .ok (.iload_n 0, 1) := by decide +kernel
theorem dX12_lessOne_5 : decode cX12_lessOne 5 = .ok (.iconst 1, 1) := by decide +kernel
theorem dX12_lessOne_6 : decode cX12_lessOne 6 = .ok (.isub, 1) := by decide +kernel
theorem dX12_lessOne_7 : decode cX12_lessOne 7 = .ok (.goto 5, 3) := by decide +kernel
theorem dX12_lessOne_10 : decode cX12_lessOne 10 = .ok (.ldc 85, 2) := by decide +kernel
theorem dX12_lessOne_12 : decode cX12_lessOne 12 = .ok (.ireturn, 1) := by decide +kernel
theorem dX12_swimmer_0 : decode cX12_swimmer 0 = .ok (.aload_n 0, 1) := by decide +kernel
theorem dX12_swimmer_1 : decode cX12_swimmer 1 = .ok (.iload_n 1, 1) := by decide +kernel
theorem dX12_swimmer_2 : decode cX12_swimmer 2 = .ok (.invokevirtual 89, 3) := by decide +kernel
theorem dX12_swimmer_5 : decode cX12_swimmer 5 = .ok (.ifCond .eq 13, 3) := by decide +kernel
theorem dX12_swimmer_8 : decode cX12_swimmer 8 = .ok (.iload_n 2, 1) := by decide +kernel
theorem dX12_swimmer_9 : decode cX12_swimmer 9 = .ok (.iconst 0, 1) := by decide +kernel
theorem dX12_swimmer_10 : decode cX12_swimmer 10 = .ok (.bipush 11, 2) := by decide +kernel
theorem dX12_swimmer_12 : decode cX12_swimmer 12 = .ok (.invokestatic 36, 3) := by decide +kernel
theorem dX12_swimmer_15 : decode cX12_swimmer 15 = .ok (.ifCond .ne 6, 3) := by decide +kernel
theorem dX12_swimmer_18 : decode cX12_swimmer 18 = .ok (.ldc 75, 2) := by decide +kernel
theorem dX12_swimmer_20 : decode cX12_swimmer 20 = .ok (.ireturn, 1) := by decide +kernel
theorem dX12_swimmer_21 : decode cX12_swimmer 21 = .ok (.iload_n 2, 1) := by decide +kernel
theorem dX12_swimmer_22 : decode cX12_swimmer 22 = .ok (.tableswitch 170 2 11 #[54, 73, 83, 93, 103, 122, 133, 144, 155, 162], 54) := by decide +kernel
theorem dX12_swimmer_76 : decode cX12_swimmer 76 = .ok (.aload_n 0, 1) := by decide +kernel
theorem dX12_swimmer_77 : decode cX12_swimmer 77 = .ok (.iload_n 1, 1) := by decide +kernel
theorem dX12_swimmer_78 : decode cX12_swimmer 78 = .ok (.invokevirtual 44, 3) := by decide +kernel
theorem dX12_swimmer_81 : decode cX12_swimmer 81 = .ok (.ifCond .eq 8, 3) := by decide +kernel
theorem dX12_swimmer_84 : decode cX12_swimmer 84 = .ok (.ldc 85, 2) := by decide +kernel
theorem dX12_swimmer_86 : decode cX12_swimmer 86 = .ok (.goto 8, 3) := by decide +kernel
theorem dX12_swimmer_89 : decode cX12_swimmer 89 = .ok (.aload_n 0, 1) := by decide +kernel
theorem dX12_swimmer_90 : decode cX12_swimmer 90 = .ok (.iload_n 1, 1) := by decide +kernel
theorem dX12_swimmer_91 : decode cX12_swimmer 91 = .ok (.invokevirtual 98, 3) := by decide +kernel
theorem dX12_swimmer_94 : decode cX12_swimmer 94 = .ok (.ireturn, 1) := by decide +kernel
theorem dX12_swimmer_95 : decode cX12_swimmer 95 = .ok (.aload_n 0, 1) := by decide +kernel
theorem dX12_swimmer_96 : decode cX12_swimmer 96 = .ok (.iload_n 1, 1) := by decide +kernel
theorem dX12_swimmer_97 : decode cX12_swimmer 97 = .ok (.iconst 3, 1) := by decide +kernel
theorem dX12_swimmer_98 : decode cX12_swimmer 98 = .ok (.invokevirtual 40, 3) := by decide +kernel
theorem dX12_swimmer_101 : decode cX12_swimmer 101 = .ok (.invokestatic 134, 3) := by decide +kernel
theorem dX12_swimmer_104 : decode cX12_swimmer 104 = .ok (.ireturn, 1) := by decide +kernel
theorem dX12_swimmer_105 : decode cX12_swimmer 105 = .ok (.aload_n 0, 1) := by decide +kernel
theorem dX12_swimmer_106 : decode cX12_swimmer 106 = .ok (.iload_n 1, 1) := by decide +kernel
theorem dX12_swimmer_107 : decode cX12_swimmer 107 = .ok (.iconst 4, 1) := by decide +kernel
theorem dX12_swimmer_108 : decode cX12_swimmer 108 = .ok (.invokevirtual 40, 3) := by decide +kernel
theorem dX12_swimmer_111 : decode cX12_swimmer 111 = .ok (.invokestatic 137, 3) := by decide +kernel
theorem dX12_swimmer_114 : decode cX12_swimmer 114 = .ok (.ireturn, 1) := by decide +kernel
theorem dX12_swimmer_115 : decode cX12_swimmer 115 = .ok (.aload_n 0, 1) := by decide +kernel
theorem dX12_swimmer_116 : decode cX12_swimmer 116 = .ok (.iload_n 1, 1) := by decide +kernel
theorem dX12_swimmer_117 : decode cX12_swimmer 117 = .ok (.iconst 5, 1) := by decide +kernel
theorem dX12_swimmer_118 : decode cX12_swimmer 118 = .ok (.invokevirtual 40, 3) := by decide +kernel
theorem dX12_swimmer_121 : decode cX12_swimmer 121 = .ok (.invokestatic 134, 3) := by decide +kernel
theorem dX12_swimmer_124 : decode cX12_swimmer 124 = .ok (.ireturn, 1) := by decide +kernel
theorem dX12_swimmer_125 : decode cX12_swimmer 125 = .ok (.aload_n 0, 1) := by decide +kernel
theorem dX12_swimmer_126 : decode cX12_swimmer 126 = .ok (.iload_n 1, 1) := by decide +kernel
theorem dX12_swimmer_127 : decode cX12_swimmer 127 = .ok (.invokevirtual 52, 3) := by decide +kernel
theorem dX12_swimmer_130 : decode cX12_swimmer 130 = .ok (.ifCond .eq 11, 3) := by decide +kernel
theorem dX12_swimmer_133 : decode cX12_swimmer 133 = .ok (.aload_n 0, 1) := by decide +kernel
theorem dX12_swimmer_134 : decode cX12_swimmer 134 = .ok (.iload_n 1, 1) := by decide +kernel
theorem dX12_swimmer_135 : decode cX12_swimmer 135 = .ok (.invokevirtual 119, 3) := by decide +kernel
theorem dX12_swimmer_138 : decode cX12_swimmer 138 = .ok (.goto 5, 3) := by decide +kernel
theorem dX12_swimmer_141 : decode cX12_swimmer 141 = .ok (.ldc 85, 2) := by decide +kernel
theorem dX12_swimmer_143 : decode cX12_swimmer 143 = .ok (.ireturn, 1) := by decide +kernel
theorem dX12_swimmer_144 : decode cX12_swimmer 144 = .ok (.aload_n 0, 1) := by decide +kernel
theorem dX12_swimmer_145 : decode cX12_swimmer 145 = .ok (.iload_n 1, 1) := by decide +kernel
theorem dX12_swimmer_146 : decode cX12_swimmer 146 = .ok (.bipush 6, 2) := by decide +kernel
theorem dX12_swimmer_148 : decode cX12_swimmer 148 = .ok (.invokevirtual 40, 3) := by decide +kernel
theorem dX12_swimmer_151 : decode cX12_swimmer 151 = .ok (.invokestatic 137, 3) := by decide +kernel
theorem dX12_swimmer_154 : decode cX12_swimmer 154 = .ok (.ireturn, 1) := by decide +kernel
theorem dX12_swimmer_155 : decode cX12_swimmer 155 = .ok (.aload_n 0, 1) := by decide +kernel
theorem dX12_swimmer_156 : decode cX12_swimmer 156 = .ok (.iload_n 1, 1) := by decide +kernel
theorem dX12_swimmer_157 : decode cX12_swimmer 157 = .ok (.bipush 7, 2) := by decide +kernel
theorem dX12_swimmer_159 : decode cX12_swimmer 159 = .ok (.invokevirtual 40, 3) := by decide +kernel
theorem dX12_swimmer_162 : decode cX12_swimmer 162 = .ok (.invokestatic 134, 3) := by decide +kernel
theorem dX12_swimmer_165 : decode cX12_swimmer 165 = .ok (.ireturn, 1) := by decide +kernel
theorem dX12_swimmer_166 : decode cX12_swimmer 166 = .ok (.aload_n 0, 1) := by decide +kernel
theorem dX12_swimmer_167 : decode cX12_swimmer 167 = .ok (.iload_n 1, 1) := by decide +kernel
theorem dX12_swimmer_168 : decode cX12_swimmer 168 = .ok (.bipush 8, 2) := by decide +kernel
theorem dX12_swimmer_170 : decode cX12_swimmer 170 = .ok (.invokevirtual 40, 3) := by decide +kernel
theorem dX12_swimmer_173 : decode cX12_swimmer 173 = .ok (.invokestatic 137, 3) := by decide +kernel
theorem dX12_swimmer_176 : decode cX12_swimmer 176 = .ok (.ireturn, 1) := by decide +kernel
theorem dX12_swimmer_177 : decode cX12_swimmer 177 = .ok (.aload_n 0, 1) := by decide +kernel
theorem dX12_swimmer_178 : decode cX12_swimmer 178 = .ok (.iload_n 1, 1) := by decide +kernel
theorem dX12_swimmer_179 : decode cX12_swimmer 179 = .ok (.iconst 2, 1) := by decide +kernel
theorem dX12_swimmer_180 : decode cX12_swimmer 180 = .ok (.invokevirtual 40, 3) := by decide +kernel
theorem dX12_swimmer_183 : decode cX12_swimmer 183 = .ok (.ireturn, 1) := by decide +kernel
theorem dX12_swimmer_184 : decode cX12_swimmer 184 = .ok (.aload_n 0, 1) := by decide +kernel
theorem dX12_swimmer_185 : decode cX12_swimmer 185 = .ok (.iload_n 1, 1) := by decide +kernel
theorem dX12_swimmer_186 : decode cX12_swimmer 186 = .ok (.bipush 9, 2) := by decide +kernel
theorem dX12_swimmer_188 : decode cX12_swimmer 188 = .ok (.invokevirtual 40, 3) := by decide +kernel
theorem dX12_swimmer_191 : decode cX12_swimmer 191 = .ok (.ireturn, 1) := by decide +kernel
theorem dX12_swimmer_192 : decode cX12_swimmer 192 = .ok (.aload_n 0, 1) := by decide +kernel
theorem dX12_swimmer_193 : decode cX12_swimmer 193 = .ok (.iload_n 1, 1) := by decide +kernel
theorem dX12_swimmer_194 : decode cX12_swimmer 194 = .ok (.iload_n 2, 1) := by decide +kernel
theorem dX12_swimmer_195 : decode cX12_swimmer 195 = .ok (.invokevirtual 40, 3) := by decide +kernel
theorem dX12_swimmer_198 : decode cX12_swimmer 198 = .ok (.ireturn, 1) := by decide +kernel
theorem dX12_isHeat_0 : decode cX12_isHeat 0 = .ok (.iload_n 1, 1) := by decide +kernel
theorem dX12_isHeat_1 : decode cX12_isHeat 1 = .ok (.ifCond .ge 28, 3) := by decide +kernel
theorem dX12_isHeat_4 : decode cX12_isHeat 4 = .ok (.iload_n 1, 1) := by decide +kernel
theorem dX12_isHeat_5 : decode cX12_isHeat 5 = .ok (.iconst (-1), 1) := by decide +kernel
theorem dX12_isHeat_6 : decode cX12_isHeat 6 = .ok (.if_icmp .ne 19, 3) := by decide +kernel
theorem dX12_isHeat_9 : decode cX12_isHeat 9 = .ok (.aload_n 0, 1) := by decide +kernel
theorem dX12_isHeat_10 : decode cX12_isHeat 10 = .ok (.getfield 7, 3) := by decide +kernel
theorem dX12_isHeat_13 : decode cX12_isHeat 13 = .ok (.sipush 310, 3) := by decide +kernel
theorem dX12_isHeat_16 : decode cX12_isHeat 16 = .ok (.iaload, 1) := by decide +kernel
theorem dX12_isHeat_17 : decode cX12_isHeat 17 = .ok (.iconst 1, 1) := by decide +kernel
theorem dX12_isHeat_18 : decode cX12_isHeat 18 = .ok (.if_icmp .le 7, 3) := by decide +kernel
theorem dX12_isHeat_21 : decode cX12_isHeat 21 = .ok (.iconst 1, 1) := by decide +kernel
theorem dX12_isHeat_22 : decode cX12_isHeat 22 = .ok (.goto 24, 3) := by decide +kernel
theorem dX12_isHeat_25 : decode cX12_isHeat 25 = .ok (.iconst 0, 1) := by decide +kernel
theorem dX12_isHeat_26 : decode cX12_isHeat 26 = .ok (.goto 20, 3) := by decide +kernel
theorem dX12_isHeat_29 : decode cX12_isHeat 29 = .ok (.iload_n 1, 1) := by decide +kernel
theorem dX12_isHeat_30 : decode cX12_isHeat 30 = .ok (.aload_n 0, 1) := by decide +kernel
theorem dX12_isHeat_31 : decode cX12_isHeat 31 = .ok (.getfield 7, 3) := by decide +kernel
theorem dX12_isHeat_34 : decode cX12_isHeat 34 = .ok (.sipush 312, 3) := by decide +kernel
theorem dX12_isHeat_37 : decode cX12_isHeat 37 = .ok (.iaload, 1) := by decide +kernel
theorem dX12_isHeat_38 : decode cX12_isHeat 38 = .ok (.if_icmp .ge 7, 3) := by decide +kernel
theorem dX12_isHeat_41 : decode cX12_isHeat 41 = .ok (.iconst 1, 1) := by decide +kernel
theorem dX12_isHeat_42 : decode cX12_isHeat 42 = .ok (.goto 4, 3) := by decide +kernel
theorem dX12_isHeat_45 : decode cX12_isHeat 45 = .ok (.iconst 0, 1) := by decide +kernel
theorem dX12_isHeat_46 : decode cX12_isHeat 46 = .ok (.ireturn, 1) := by decide +kernel
theorem dX12_isIn_0 : decode cX12_isIn 0 = .ok (.iload_n 2, 1) := by decide +kernel
theorem dX12_isIn_1 : decode cX12_isIn 1 = .ok (.ifCond .ge 21, 3) := by decide +kernel
theorem dX12_isIn_4 : decode cX12_isIn 4 = .ok (.aload_n 0, 1) := by decide +kernel
theorem dX12_isIn_5 : decode cX12_isIn 5 = .ok (.iload_n 1, 1) := by decide +kernel
theorem dX12_isIn_6 : decode cX12_isIn 6 = .ok (.bipush 6, 2) := by decide +kernel
theorem dX12_isIn_8 : decode cX12_isIn 8 = .ok (.invokevirtual 40, 3) := by decide +kernel
theorem dX12_isIn_11 : decode cX12_isIn 11 = .ok (.ifCond .le 7, 3) := by decide +kernel
theorem dX12_isIn_14 : decode cX12_isIn 14 = .ok (.iconst 1, 1) := by decide +kernel
theorem dX12_isIn_15 : decode cX12_isIn 15 = .ok (.goto 24, 3) := by decide +kernel
theorem dX12_isIn_18 : decode cX12_isIn 18 = .ok (.iconst 0, 1) := by decide +kernel
theorem dX12_isIn_19 : decode cX12_isIn 19 = .ok (.goto 20, 3) := by decide +kernel
theorem dX12_isIn_22 : decode cX12_isIn 22 = .ok (.aload_n 0, 1) := by decide +kernel
theorem dX12_isIn_23 : decode cX12_isIn 23 = .ok (.iload_n 1, 1) := by decide +kernel
theorem dX12_isIn_24 : decode cX12_isIn 24 = .ok (.iconst 3, 1) := by decide +kernel
theorem dX12_isIn_25 : decode cX12_isIn 25 = .ok (.invokevirtual 40, 3) := by decide +kernel
theorem dX12_isIn_28 : decode cX12_isIn 28 = .ok (.iload_n 2, 1) := by decide +kernel
theorem dX12_isIn_29 : decode cX12_isIn 29 = .ok (.iconst 1, 1) := by decide +kernel
theorem dX12_isIn_30 : decode cX12_isIn 30 = .ok (.iadd, 1) := by decide +kernel
theorem dX12_isIn_31 : decode cX12_isIn 31 = .ok (.if_icmp .ne 7, 3) := by decide +kernel
theorem dX12_isIn_34 : decode cX12_isIn 34 = .ok (.iconst 1, 1) := by decide +kernel
theorem dX12_isIn_35 : decode cX12_isIn 35 = .ok (.goto 4, 3) := by decide +kernel
theorem dX12_isIn_38 : decode cX12_isIn 38 = .ok (.iconst 0, 1) := by decide +kernel
theorem dX12_isIn_39 : decode cX12_isIn 39 = .ok (.ireturn, 1) := by decide +kernel
theorem dX12_at_0 : decode cX12_at 0 = .ok (.aload_n 0, 1) := by decide +kernel
theorem dX12_at_1 : decode cX12_at 1 = .ok (.iload_n 1, 1) := by decide +kernel
theorem dX12_at_2 : decode cX12_at 2 = .ok (.invokevirtual 140, 3) := by decide +kernel
theorem dX12_at_5 : decode cX12_at 5 = .ok (.ifCond .eq 15, 3) := by decide +kernel
theorem dX12_at_8 : decode cX12_at 8 = .ok (.iload_n 2, 1) := by decide +kernel
theorem dX12_at_9 : decode cX12_at 9 = .ok (.iconst 1, 1) := by decide +kernel
theorem dX12_at_10 : decode cX12_at 10 = .ok (.aload_n 0, 1) := by decide +kernel
theorem dX12_at_11 : decode cX12_at 11 = .ok (.invokevirtual 59, 3) := by decide +kernel
theorem dX12_at_14 : decode cX12_at 14 = .ok (.invokestatic 36, 3) := by decide +kernel
theorem dX12_at_17 : decode cX12_at 17 = .ok (.ifCond .ne 6, 3) := by decide +kernel
theorem dX12_at_20 : decode cX12_at 20 = .ok (.ldc 75, 2) := by decide +kernel
theorem dX12_at_22 : decode cX12_at 22 = .ok (.ireturn, 1) := by decide +kernel
theorem dX12_at_23 : decode cX12_at 23 = .ok (.iconst 0, 1) := by decide +kernel
theorem dX12_at_24 : decode cX12_at 24 = .ok (.istore_n 3, 1) := by decide +kernel
theorem dX12_at_25 : decode cX12_at 25 = .ok (.iload_n 3, 1) := by decide +kernel
theorem dX12_at_26 : decode cX12_at 26 = .ok (.aload_n 0, 1) := by decide +kernel
theorem dX12_at_27 : decode cX12_at 27 = .ok (.getfield 7, 3) := by decide +kernel
theorem dX12_at_30 : decode cX12_at 30 = .ok (.sipush 311, 3) := by decide +kernel
theorem dX12_at_33 : decode cX12_at 33 = .ok (.iaload, 1) := by decide +kernel
theorem dX12_at_34 : decode cX12_at 34 = .ok (.if_icmp .ge 39, 3) := by decide +kernel
theorem dX12_at_37 : decode cX12_at 37 = .ok (.aload_n 0, 1) := by decide +kernel
theorem dX12_at_38 : decode cX12_at 38 = .ok (.iload_n 3, 1) := by decide +kernel
theorem dX12_at_39 : decode cX12_at 39 = .ok (.iload_n 1, 1) := by decide +kernel
theorem dX12_at_40 : decode cX12_at 40 = .ok (.invokevirtual 143, 3) := by decide +kernel
theorem dX12_at_43 : decode cX12_at 43 = .ok (.ifCond .eq 24, 3) := by decide +kernel
theorem dX12_at_46 : decode cX12_at 46 = .ok (.aload_n 0, 1) := by decide +kernel
theorem dX12_at_47 : decode cX12_at 47 = .ok (.iload_n 3, 1) := by decide +kernel
theorem dX12_at_48 : decode cX12_at 48 = .ok (.iload_n 1, 1) := by decide +kernel
theorem dX12_at_49 : decode cX12_at 49 = .ok (.ifCond .ge 8, 3) := by decide +kernel
theorem dX12_at_52 : decode cX12_at 52 = .ok (.bipush 6, 2) := by decide +kernel
theorem dX12_at_54 : decode cX12_at 54 = .ok (.goto 4, 3) := by decide +kernel
theorem dX12_at_57 : decode cX12_at 57 = .ok (.iconst 4, 1) := by decide +kernel
theorem dX12_at_58 : decode cX12_at 58 = .ok (.invokevirtual 40, 3) := by decide +kernel
theorem dX12_at_61 : decode cX12_at 61 = .ok (.iload_n 2, 1) := by decide +kernel
theorem dX12_at_62 : decode cX12_at 62 = .ok (.if_icmp .ne 5, 3) := by decide +kernel
theorem dX12_at_65 : decode cX12_at 65 = .ok (.iload_n 3, 1) := by decide +kernel
theorem dX12_at_66 : decode cX12_at 66 = .ok (.ireturn, 1) := by decide +kernel
theorem dX12_at_67 : decode cX12_at 67 = .ok (.iinc 3 1, 3) := by decide +kernel
theorem dX12_at_70 : decode cX12_at 70 = .ok (.goto (-45), 3) := by decide +kernel
theorem dX12_at_73 : decode cX12_at 73 = .ok (.ldc 85, 2) := by decide +kernel
theorem dX12_at_75 : decode cX12_at 75 = .ok (.ireturn, 1) := by decide +kernel
theorem dX12_counts_0 : decode cX12_counts 0 = .ok (.aload_n 0, 1) := by decide +kernel
theorem dX12_counts_1 : decode cX12_counts 1 = .ok (.iload_n 1, 1) := by decide +kernel
theorem dX12_counts_2 : decode cX12_counts 2 = .ok (.iload_n 2, 1) := by decide +kernel
theorem dX12_counts_3 : decode cX12_counts 3 = .ok (.ifCond .ge 8, 3) := by decide +kernel
theorem dX12_counts_6 : decode cX12_counts 6 = .ok (.bipush 7, 2) := by decide +kernel
theorem dX12_counts_8 : decode cX12_counts 8 = .ok (.goto 4, 3) := by decide +kernel
theorem dX12_counts_11 : decode cX12_counts 11 = .ok (.iconst 5, 1) := by decide +kernel
theorem dX12_counts_12 : decode cX12_counts 12 = .ok (.invokevirtual 40, 3) := by decide +kernel
theorem dX12_counts_15 : decode cX12_counts 15 = .ok (.istore 4, 2) := by decide +kernel
theorem dX12_counts_17 : decode cX12_counts 17 = .ok (.iload_n 3, 1) := by decide +kernel
theorem dX12_counts_18 : decode cX12_counts 18 = .ok (.tableswitch 62 0 4 #[34, 36, 62, 62, 47], 34) := by decide +kernel
theorem dX12_counts_52 : decode cX12_counts 52 = .ok (.iconst 1, 1) := by decide +kernel
theorem dX12_counts_53 : decode cX12_counts 53 = .ok (.ireturn, 1) := by decide +kernel
theorem dX12_counts_54 : decode cX12_counts 54 = .ok (.iload 4, 2) := by decide +kernel
theorem dX12_counts_56 : decode cX12_counts 56 = .ok (.ifCond .le 7, 3) := by decide +kernel
theorem dX12_counts_59 : decode cX12_counts 59 = .ok (.iconst 1, 1) := by decide +kernel
theorem dX12_counts_60 : decode cX12_counts 60 = .ok (.goto 4, 3) := by decide +kernel
theorem dX12_counts_63 : decode cX12_counts 63 = .ok (.iconst 0, 1) := by decide +kernel
theorem dX12_counts_64 : decode cX12_counts 64 = .ok (.ireturn, 1) := by decide +kernel
theorem dX12_counts_65 : decode cX12_counts 65 = .ok (.iload 4, 2) := by decide +kernel
theorem dX12_counts_67 : decode cX12_counts 67 = .ok (.iconst 1, 1) := by decide +kernel
theorem dX12_counts_68 : decode cX12_counts 68 = .ok (.if_icmp .le 10, 3) := by decide +kernel
theorem dX12_counts_71 : decode cX12_counts 71 = .ok (.iload 4, 2) := by decide +kernel
theorem dX12_counts_73 : decode cX12_counts 73 = .ok (.iconst 1, 1) := by decide +kernel
theorem dX12_counts_74 : decode cX12_counts 74 = .ok (.isub, 1) := by decide +kernel
theorem dX12_counts_75 : decode cX12_counts 75 = .ok (.goto 4, 3) := by decide +kernel
theorem dX12_counts_78 : decode cX12_counts 78 = .ok (.iconst 0, 1) := by decide +kernel
theorem dX12_counts_79 : decode cX12_counts 79 = .ok (.ireturn, 1) := by decide +kernel
theorem dX12_counts_80 : decode cX12_counts 80 = .ok (.aload_n 0, 1) := by decide +kernel
theorem dX12_counts_81 : decode cX12_counts 81 = .ok (.iload_n 1, 1) := by decide +kernel
theorem dX12_counts_82 : decode cX12_counts 82 = .ok (.iconst 1, 1) := by decide +kernel
theorem dX12_counts_83 : decode cX12_counts 83 = .ok (.invokevirtual 40, 3) := by decide +kernel
theorem dX12_counts_86 : decode cX12_counts 86 = .ok (.ireturn, 1) := by decide +kernel
theorem dX12_heat_0 : decode cX12_heat 0 = .ok (.aload_n 0, 1) := by decide +kernel
theorem dX12_heat_1 : decode cX12_heat 1 = .ok (.iload_n 1, 1) := by decide +kernel
theorem dX12_heat_2 : decode cX12_heat 2 = .ok (.invokevirtual 140, 3) := by decide +kernel
theorem dX12_heat_5 : decode cX12_heat 5 = .ok (.ifCond .eq 12, 3) := by decide +kernel
theorem dX12_heat_8 : decode cX12_heat 8 = .ok (.iload_n 2, 1) := by decide +kernel
theorem dX12_heat_9 : decode cX12_heat 9 = .ok (.iconst 0, 1) := by decide +kernel
theorem dX12_heat_10 : decode cX12_heat 10 = .ok (.iconst 4, 1) := by decide +kernel
theorem dX12_heat_11 : decode cX12_heat 11 = .ok (.invokestatic 36, 3) := by decide +kernel
theorem dX12_heat_14 : decode cX12_heat 14 = .ok (.ifCond .ne 6, 3) := by decide +kernel
theorem dX12_heat_17 : decode cX12_heat 17 = .ok (.ldc 75, 2) := by decide +kernel
theorem dX12_heat_19 : decode cX12_heat 19 = .ok (.ireturn, 1) := by decide +kernel
theorem dX12_heat_20 : decode cX12_heat 20 = .ok (.iconst 0, 1) := by decide +kernel
theorem dX12_heat_21 : decode cX12_heat 21 = .ok (.istore_n 3, 1) := by decide +kernel
theorem dX12_heat_22 : decode cX12_heat 22 = .ok (.iconst 0, 1) := by decide +kernel
theorem dX12_heat_23 : decode cX12_heat 23 = .ok (.istore 4, 2) := by decide +kernel
theorem dX12_heat_25 : decode cX12_heat 25 = .ok (.iconst 0, 1) := by decide +kernel
theorem dX12_heat_26 : decode cX12_heat 26 = .ok (.istore 5, 2) := by decide +kernel
theorem dX12_heat_28 : decode cX12_heat 28 = .ok (.iconst 0, 1) := by decide +kernel
theorem dX12_heat_29 : decode cX12_heat 29 = .ok (.istore 6, 2) := by decide +kernel
theorem dX12_heat_31 : decode cX12_heat 31 = .ok (.iload 6, 2) := by decide +kernel
theorem dX12_heat_33 : decode cX12_heat 33 = .ok (.aload_n 0, 1) := by decide +kernel
theorem dX12_heat_34 : decode cX12_heat 34 = .ok (.getfield 7, 3) := by decide +kernel
theorem dX12_heat_37 : decode cX12_heat 37 = .ok (.sipush 311, 3) := by decide +kernel
theorem dX12_heat_40 : decode cX12_heat 40 = .ok (.iaload, 1) := by decide +kernel
theorem dX12_heat_41 : decode cX12_heat 41 = .ok (.if_icmp .ge 63, 3) := by decide +kernel
theorem dX12_heat_44 : decode cX12_heat 44 = .ok (.aload_n 0, 1) := by decide +kernel
theorem dX12_heat_45 : decode cX12_heat 45 = .ok (.iload 6, 2) := by decide +kernel
theorem dX12_heat_47 : decode cX12_heat 47 = .ok (.iload_n 1, 1) := by decide +kernel
theorem dX12_heat_48 : decode cX12_heat 48 = .ok (.invokevirtual 143, 3) := by decide +kernel
theorem dX12_heat_51 : decode cX12_heat 51 = .ok (.ifCond .eq 14, 3) := by decide +kernel
theorem dX12_heat_54 : decode cX12_heat 54 = .ok (.aload_n 0, 1) := by decide +kernel
theorem dX12_heat_55 : decode cX12_heat 55 = .ok (.iload 6, 2) := by decide +kernel
theorem dX12_heat_57 : decode cX12_heat 57 = .ok (.iload_n 1, 1) := by decide +kernel
theorem dX12_heat_58 : decode cX12_heat 58 = .ok (.iload_n 2, 1) := by decide +kernel
theorem dX12_heat_59 : decode cX12_heat 59 = .ok (.invokevirtual 146, 3) := by decide +kernel
theorem dX12_heat_62 : decode cX12_heat 62 = .ok (.goto 4, 3) := by decide +kernel
theorem dX12_heat_65 : decode cX12_heat 65 = .ok (.iconst 0, 1) := by decide +kernel
theorem dX12_heat_66 : decode cX12_heat 66 = .ok (.istore 7, 2) := by decide +kernel
theorem dX12_heat_68 : decode cX12_heat 68 = .ok (.iload_n 3, 1) := by decide +kernel
theorem dX12_heat_69 : decode cX12_heat 69 = .ok (.iload 7, 2) := by decide +kernel
theorem dX12_heat_71 : decode cX12_heat 71 = .ok (.iadd, 1) := by decide +kernel
theorem dX12_heat_72 : decode cX12_heat 72 = .ok (.istore_n 3, 1) := by decide +kernel
theorem dX12_heat_73 : decode cX12_heat 73 = .ok (.iload 4, 2) := by decide +kernel
theorem dX12_heat_75 : decode cX12_heat 75 = .ok (.iload 7, 2) := by decide +kernel
theorem dX12_heat_77 : decode cX12_heat 77 = .ok (.invokestatic 131, 3) := by decide +kernel
theorem dX12_heat_80 : decode cX12_heat 80 = .ok (.istore 4, 2) := by decide +kernel
theorem dX12_heat_82 : decode cX12_heat 82 = .ok (.iload 7, 2) := by decide +kernel
theorem dX12_heat_84 : decode cX12_heat 84 = .ok (.iload 5, 2) := by decide +kernel
theorem dX12_heat_86 : decode cX12_heat 86 = .ok (.if_icmp .le 8, 3) := by decide +kernel
theorem dX12_heat_89 : decode cX12_heat 89 = .ok (.iload 7, 2) := by decide +kernel
theorem dX12_heat_91 : decode cX12_heat 91 = .ok (.goto 5, 3) := by decide +kernel
theorem dX12_heat_94 : decode cX12_heat 94 = .ok (.iload 5, 2) := by decide +kernel
theorem dX12_heat_96 : decode cX12_heat 96 = .ok (.istore 5, 2) := by decide +kernel
theorem dX12_heat_98 : decode cX12_heat 98 = .ok (.iinc 6 1, 3) := by decide +kernel
theorem dX12_heat_101 : decode cX12_heat 101 = .ok (.goto (-70), 3) := by decide +kernel
theorem dX12_heat_104 : decode cX12_heat 104 = .ok (.iload_n 2, 1) := by decide +kernel
theorem dX12_heat_105 : decode cX12_heat 105 = .ok (.iconst 2, 1) := by decide +kernel
theorem dX12_heat_106 : decode cX12_heat 106 = .ok (.if_icmp .ge 7, 3) := by decide +kernel
theorem dX12_heat_109 : decode cX12_heat 109 = .ok (.iload_n 3, 1) := by decide +kernel
theorem dX12_heat_110 : decode cX12_heat 110 = .ok (.goto 18, 3) := by decide +kernel
theorem dX12_heat_113 : decode cX12_heat 113 = .ok (.iload_n 2, 1) := by decide +kernel
theorem dX12_heat_114 : decode cX12_heat 114 = .ok (.iconst 3, 1) := by decide +kernel
theorem dX12_heat_115 : decode cX12_heat 115 = .ok (.if_icmp .ne 8, 3) := by decide +kernel
theorem dX12_heat_118 : decode cX12_heat 118 = .ok (.iload 5, 2) := by decide +kernel
theorem dX12_heat_120 : decode cX12_heat 120 = .ok (.goto 5, 3) := by decide +kernel
theorem dX12_heat_123 : decode cX12_heat 123 = .ok (.iload 4, 2) := by decide +kernel
theorem dX12_heat_125 : decode cX12_heat 125 = .ok (.invokestatic 137, 3) := by decide +kernel
theorem dX12_heat_128 : decode cX12_heat 128 = .ok (.ireturn, 1) := by decide +kernel
theorem dX12_reserve_0 : decode cX12_reserve 0 = .ok (.iload_n 1, 1) := by decide +kernel
theorem dX12_reserve_1 : decode cX12_reserve 1 = .ok (.ifCond .ge 6, 3) := by decide +kernel
theorem dX12_reserve_4 : decode cX12_reserve 4 = .ok (.ldc 75, 2) := by decide +kernel
theorem dX12_reserve_6 : decode cX12_reserve 6 = .ok (.ireturn, 1) := by decide +kernel
theorem dX12_reserve_7 : decode cX12_reserve 7 = .ok (.iconst 0, 1) := by decide +kernel
theorem dX12_reserve_8 : decode cX12_reserve 8 = .ok (.istore_n 2, 1) := by decide +kernel
theorem dX12_reserve_9 : decode cX12_reserve 9 = .ok (.iconst 0, 1) := by decide +kernel
theorem dX12_reserve_10 : decode cX12_reserve 10 = .ok (.istore_n 3, 1) := by decide +kernel
theorem dX12_reserve_11 : decode cX12_reserve 11 = .ok (.iload_n 3, 1) := by decide +kernel
theorem dX12_reserve_12 : decode cX12_reserve 12 = .ok (.iconst 4, 1) := by decide +kernel
theorem dX12_reserve_13 : decode cX12_reserve 13 = .ok (.if_icmp .ge 62, 3) := by decide +kernel
theorem dX12_reserve_16 : decode cX12_reserve 16 = .ok (.aload_n 0, 1) := by decide +kernel
theorem dX12_reserve_17 : decode cX12_reserve 17 = .ok (.getfield 7, 3) := by decide +kernel
theorem dX12_reserve_20 : decode cX12_reserve 20 = .ok (.sipush 306, 3) := by decide +kernel
theorem dX12_reserve_23 : decode cX12_reserve 23 = .ok (.iload_n 3, 1) := by decide +kernel
theorem dX12_reserve_24 : decode cX12_reserve 24 = .ok (.iadd, 1) := by decide +kernel
theorem dX12_reserve_25 : decode cX12_reserve 25 = .ok (.iaload, 1) := by decide +kernel
theorem dX12_reserve_26 : decode cX12_reserve 26 = .ok (.ifCond .le 43, 3) := by decide +kernel
theorem dX12_reserve_29 : decode cX12_reserve 29 = .ok (.aload_n 0, 1) := by decide +kernel
theorem dX12_reserve_30 : decode cX12_reserve 30 = .ok (.aload_n 0, 1) := by decide +kernel
theorem dX12_reserve_31 : decode cX12_reserve 31 = .ok (.getfield 7, 3) := by decide +kernel
theorem dX12_reserve_34 : decode cX12_reserve 34 = .ok (.sipush 306, 3) := by decide +kernel
theorem dX12_reserve_37 : decode cX12_reserve 37 = .ok (.iload_n 3, 1) := by decide +kernel
theorem dX12_reserve_38 : decode cX12_reserve 38 = .ok (.iadd, 1) := by decide +kernel
theorem dX12_reserve_39 : decode cX12_reserve 39 = .ok (.iaload, 1) := by decide +kernel
theorem dX12_reserve_40 : decode cX12_reserve 40 = .ok (.iconst 1, 1) := by decide +kernel
theorem dX12_reserve_41 : decode cX12_reserve 41 = .ok (.isub, 1) := by decide +kernel
theorem dX12_reserve_42 : decode cX12_reserve 42 = .ok (.invokevirtual 44, 3) := by decide +kernel
theorem dX12_reserve_45 : decode cX12_reserve 45 = .ok (.ifCond .ne 24, 3) := by decide +kernel
theorem dX12_reserve_48 : decode cX12_reserve 48 = .ok (.iload_n 2, 1) := by decide +kernel
theorem dX12_reserve_49 : decode cX12_reserve 49 = .ok (.iload_n 1, 1) := by decide +kernel
theorem dX12_reserve_50 : decode cX12_reserve 50 = .ok (.if_icmp .ne 16, 3) := by decide +kernel
theorem dX12_reserve_53 : decode cX12_reserve 53 = .ok (.aload_n 0, 1) := by decide +kernel
theorem dX12_reserve_54 : decode cX12_reserve 54 = .ok (.getfield 7, 3) := by decide +kernel
theorem dX12_reserve_57 : decode cX12_reserve 57 = .ok (.sipush 306, 3) := by decide +kernel
theorem dX12_reserve_60 : decode cX12_reserve 60 = .ok (.iload_n 3, 1) := by decide +kernel
theorem dX12_reserve_61 : decode cX12_reserve 61 = .ok (.iadd, 1) := by decide +kernel
theorem dX12_reserve_62 : decode cX12_reserve 62 = .ok (.iaload, 1) := by decide +kernel
theorem dX12_reserve_63 : decode cX12_reserve 63 = .ok (.iconst 1, 1) := by decide +kernel
theorem dX12_reserve_64 : decode cX12_reserve 64 = .ok (.isub, 1) := by decide +kernel
theorem dX12_reserve_65 : decode cX12_reserve 65 = .ok (.ireturn, 1) := by decide +kernel
theorem dX12_reserve_66 : decode cX12_reserve 66 = .ok (.iinc 2 1, 3) := by decide +kernel
theorem dX12_reserve_69 : decode cX12_reserve 69 = .ok (.iinc 3 1, 3) := by decide +kernel
theorem dX12_reserve_72 : decode cX12_reserve 72 = .ok (.goto (-61), 3) := by decide +kernel
theorem dX12_reserve_75 : decode cX12_reserve 75 = .ok (.ldc 85, 2) := by decide +kernel
theorem dX12_reserve_77 : decode cX12_reserve 77 = .ok (.ireturn, 1) := by decide +kernel
theorem dX12_reserves_0 : decode cX12_reserves 0 = .ok (.iconst 0, 1) := by decide +kernel
theorem dX12_reserves_1 : decode cX12_reserves 1 = .ok (.istore_n 1, 1) := by decide +kernel
theorem dX12_reserves_2 : decode cX12_reserves 2 = .ok (.aload_n 0, 1) := by decide +kernel
theorem dX12_reserves_3 : decode cX12_reserves 3 = .ok (.iload_n 1, 1) := by decide +kernel
theorem dX12_reserves_4 : decode cX12_reserves 4 = .ok (.invokevirtual 150, 3) := by decide +kernel
theorem dX12_reserves_7 : decode cX12_reserves 7 = .ok (.ifCond .lt 9, 3) := by decide +kernel
theorem dX12_reserves_10 : decode cX12_reserves 10 = .ok (.iinc 1 1, 3) := by decide +kernel
theorem dX12_reserves_13 : decode cX12_reserves 13 = .ok (.goto (-11), 3) := by decide +kernel
theorem dX12_reserves_16 : decode cX12_reserves 16 = .ok (.iload_n 1, 1) := by decide +kernel
theorem dX12_reserves_17 : decode cX12_reserves 17 = .ok (.ireturn, 1) := by decide +kernel
theorem dX12_points_0 : decode cX12_points 0 = .ok (.iload_n 1, 1) := by decide +kernel
theorem dX12_points_1 : decode cX12_points 1 = .ok (.iconst 0, 1) := by decide +kernel
theorem dX12_points_2 : decode cX12_points 2 = .ok (.iconst 5, 1) := by decide +kernel
theorem dX12_points_3 : decode cX12_points 3 = .ok (.invokestatic 36, 3) := by decide +kernel
theorem dX12_points_6 : decode cX12_points 6 = .ok (.ifCond .eq 16, 3) := by decide +kernel
theorem dX12_points_9 : decode cX12_points 9 = .ok (.aload_n 0, 1) := by decide +kernel
theorem dX12_points_10 : decode cX12_points 10 = .ok (.getfield 7, 3) := by decide +kernel
theorem dX12_points_13 : decode cX12_points 13 = .ok (.sipush 300, 3) := by decide +kernel
theorem dX12_points_16 : decode cX12_points 16 = .ok (.iload_n 1, 1) := by decide +kernel
theorem dX12_points_17 : decode cX12_points 17 = .ok (.iadd, 1) := by decide +kernel
theorem dX12_points_18 : decode cX12_points 18 = .ok (.iaload, 1) := by decide +kernel
theorem dX12_points_19 : decode cX12_points 19 = .ok (.goto 5, 3) := by decide +kernel
theorem dX12_points_22 : decode cX12_points 22 = .ok (.ldc 75, 2) := by decide +kernel
theorem dX12_points_24 : decode cX12_points 24 = .ok (.ireturn, 1) := by decide +kernel
theorem dX12_ifDrawn_0 : decode cX12_ifDrawn 0 = .ok (.aload_n 0, 1) := by decide +kernel
theorem dX12_ifDrawn_1 : decode cX12_ifDrawn 1 = .ok (.iload_n 1, 1) := by decide +kernel
theorem dX12_ifDrawn_2 : decode cX12_ifDrawn 2 = .ok (.invokevirtual 89, 3) := by decide +kernel
theorem dX12_ifDrawn_5 : decode cX12_ifDrawn 5 = .ok (.ifCond .eq 12, 3) := by decide +kernel
theorem dX12_ifDrawn_8 : decode cX12_ifDrawn 8 = .ok (.iload_n 2, 1) := by decide +kernel
theorem dX12_ifDrawn_9 : decode cX12_ifDrawn 9 = .ok (.iconst 0, 1) := by decide +kernel
theorem dX12_ifDrawn_10 : decode cX12_ifDrawn 10 = .ok (.iconst 2, 1) := by decide +kernel
theorem dX12_ifDrawn_11 : decode cX12_ifDrawn 11 = .ok (.invokestatic 36, 3) := by decide +kernel
theorem dX12_ifDrawn_14 : decode cX12_ifDrawn 14 = .ok (.ifCond .ne 6, 3) := by decide +kernel
theorem dX12_ifDrawn_17 : decode cX12_ifDrawn 17 = .ok (.ldc 75, 2) := by decide +kernel
theorem dX12_ifDrawn_19 : decode cX12_ifDrawn 19 = .ok (.ireturn, 1) := by decide +kernel
theorem dX12_ifDrawn_20 : decode cX12_ifDrawn 20 = .ok (.aload_n 0, 1) := by decide +kernel
theorem dX12_ifDrawn_21 : decode cX12_ifDrawn 21 = .ok (.getfield 7, 3) := by decide +kernel
theorem dX12_ifDrawn_24 : decode cX12_ifDrawn 24 = .ok (.sipush 310, 3) := by decide +kernel
theorem dX12_ifDrawn_27 : decode cX12_ifDrawn 27 = .ok (.iaload, 1) := by decide +kernel
theorem dX12_ifDrawn_28 : decode cX12_ifDrawn 28 = .ok (.ifCond .ne 11, 3) := by decide +kernel
theorem dX12_ifDrawn_31 : decode cX12_ifDrawn 31 = .ok (.aload_n 0, 1) := by decide +kernel
theorem dX12_ifDrawn_32 : decode cX12_ifDrawn 32 = .ok (.iload_n 1, 1) := by decide +kernel
theorem dX12_ifDrawn_33 : decode cX12_ifDrawn 33 = .ok (.invokevirtual 44, 3) := by decide +kernel
theorem dX12_ifDrawn_36 : decode cX12_ifDrawn 36 = .ok (.ifCond .eq 6, 3) := by decide +kernel
theorem dX12_ifDrawn_39 : decode cX12_ifDrawn 39 = .ok (.ldc 76, 2) := by decide +kernel
theorem dX12_ifDrawn_41 : decode cX12_ifDrawn 41 = .ok (.ireturn, 1) := by decide +kernel
theorem dX12_ifDrawn_42 : decode cX12_ifDrawn 42 = .ok (.aload_n 0, 1) := by decide +kernel
theorem dX12_ifDrawn_43 : decode cX12_ifDrawn 43 = .ok (.invokevirtual 95, 3) := by decide +kernel
theorem dX12_ifDrawn_46 : decode cX12_ifDrawn 46 = .ok (.istore_n 3, 1) := by decide +kernel
theorem dX12_ifDrawn_47 : decode cX12_ifDrawn 47 = .ok (.aload_n 0, 1) := by decide +kernel
theorem dX12_ifDrawn_48 : decode cX12_ifDrawn 48 = .ok (.iload_n 1, 1) := by decide +kernel
theorem dX12_ifDrawn_49 : decode cX12_ifDrawn 49 = .ok (.invokevirtual 98, 3) := by decide +kernel
theorem dX12_ifDrawn_52 : decode cX12_ifDrawn 52 = .ok (.istore 4, 2) := by decide +kernel
theorem dX12_ifDrawn_54 : decode cX12_ifDrawn 54 = .ok (.iload_n 2, 1) := by decide +kernel
theorem dX12_ifDrawn_55 : decode cX12_ifDrawn 55 = .ok (.ifCond .ne 13, 3) := by decide +kernel
theorem dX12_ifDrawn_58 : decode cX12_ifDrawn 58 = .ok (.aload_n 0, 1) := by decide +kernel
theorem dX12_ifDrawn_59 : decode cX12_ifDrawn 59 = .ok (.getfield 22, 3) := by decide +kernel
theorem dX12_ifDrawn_62 : decode cX12_ifDrawn 62 = .ok (.iload 4, 2) := by decide +kernel
theorem dX12_ifDrawn_64 : decode cX12_ifDrawn 64 = .ok (.iaload, 1) := by decide +kernel
theorem dX12_ifDrawn_65 : decode cX12_ifDrawn 65 = .ok (.goto 18, 3) := by decide +kernel
theorem dX12_ifDrawn_68 : decode cX12_ifDrawn 68 = .ok (.iload_n 2, 1) := by decide +kernel
theorem dX12_ifDrawn_69 : decode cX12_ifDrawn 69 = .ok (.iconst 1, 1) := by decide +kernel
theorem dX12_ifDrawn_70 : decode cX12_ifDrawn 70 = .ok (.if_icmp .ne 12, 3) := by decide +kernel
theorem dX12_ifDrawn_73 : decode cX12_ifDrawn 73 = .ok (.aload_n 0, 1) := by decide +kernel
theorem dX12_ifDrawn_74 : decode cX12_ifDrawn 74 = .ok (.iload 4, 2) := by decide +kernel
theorem dX12_ifDrawn_76 : decode cX12_ifDrawn 76 = .ok (.invokevirtual 101, 3) := by decide +kernel
theorem dX12_ifDrawn_79 : decode cX12_ifDrawn 79 = .ok (.goto 4, 3) := by decide +kernel
theorem dX12_ifDrawn_82 : decode cX12_ifDrawn 82 = .ok (.iload_n 3, 1) := by decide +kernel
theorem dX12_ifDrawn_83 : decode cX12_ifDrawn 83 = .ok (.ireturn, 1) := by decide +kernel
theorem dX12_lane_0 : decode cX12_lane 0 = .ok (.iload_n 1, 1) := by decide +kernel
theorem dX12_lane_1 : decode cX12_lane 1 = .ok (.iconst 0, 1) := by decide +kernel
theorem dX12_lane_2 : decode cX12_lane 2 = .ok (.aload_n 0, 1) := by decide +kernel
theorem dX12_lane_3 : decode cX12_lane 3 = .ok (.invokevirtual 59, 3) := by decide +kernel
theorem dX12_lane_6 : decode cX12_lane 6 = .ok (.iconst 1, 1) := by decide +kernel
theorem dX12_lane_7 : decode cX12_lane 7 = .ok (.isub, 1) := by decide +kernel
theorem dX12_lane_8 : decode cX12_lane 8 = .ok (.invokestatic 36, 3) := by decide +kernel
theorem dX12_lane_11 : decode cX12_lane 11 = .ok (.ifCond .eq 12, 3) := by decide +kernel
theorem dX12_lane_14 : decode cX12_lane 14 = .ok (.iload_n 2, 1) := by decide +kernel
theorem dX12_lane_15 : decode cX12_lane 15 = .ok (.iconst 0, 1) := by decide +kernel
theorem dX12_lane_16 : decode cX12_lane 16 = .ok (.iconst 1, 1) := by decide +kernel
theorem dX12_lane_17 : decode cX12_lane 17 = .ok (.invokestatic 36, 3) := by decide +kernel
theorem dX12_lane_20 : decode cX12_lane 20 = .ok (.ifCond .ne 6, 3) := by decide +kernel
theorem dX12_lane_23 : decode cX12_lane 23 = .ok (.ldc 75, 2) := by decide +kernel
theorem dX12_lane_25 : decode cX12_lane 25 = .ok (.ireturn, 1) := by decide +kernel
theorem dX12_lane_26 : decode cX12_lane 26 = .ok (.iload_n 2, 1) := by decide +kernel
theorem dX12_lane_27 : decode cX12_lane 27 = .ok (.ifCond .ne 11, 3) := by decide +kernel
theorem dX12_lane_30 : decode cX12_lane 30 = .ok (.aload_n 0, 1) := by decide +kernel
theorem dX12_lane_31 : decode cX12_lane 31 = .ok (.iload_n 1, 1) := by decide +kernel
theorem dX12_lane_32 : decode cX12_lane 32 = .ok (.invokevirtual 63, 3) := by decide +kernel
theorem dX12_lane_35 : decode cX12_lane 35 = .ok (.goto 10, 3) := by decide +kernel
theorem dX12_lane_38 : decode cX12_lane 38 = .ok (.aload_n 0, 1) := by decide +kernel
theorem dX12_lane_39 : decode cX12_lane 39 = .ok (.iload_n 1, 1) := by decide +kernel
theorem dX12_lane_40 : decode cX12_lane 40 = .ok (.iconst 1, 1) := by decide +kernel
theorem dX12_lane_41 : decode cX12_lane 41 = .ok (.iadd, 1) := by decide +kernel
theorem dX12_lane_42 : decode cX12_lane 42 = .ok (.invokevirtual 153, 3) := by decide +kernel
theorem dX12_lane_45 : decode cX12_lane 45 = .ok (.ireturn, 1) := by decide +kernel
theorem dX12_missing_0 : decode cX12_missing 0 = .ok (.iload_n 1, 1) := by decide +kernel
theorem dX12_missing_1 : decode cX12_missing 1 = .ok (.ifCond .ge 6, 3) := by decide +kernel
theorem dX12_missing_4 : decode cX12_missing 4 = .ok (.ldc 75, 2) := by decide +kernel
theorem dX12_missing_6 : decode cX12_missing 6 = .ok (.ireturn, 1) := by decide +kernel
theorem dX12_missing_7 : decode cX12_missing 7 = .ok (.iconst 0, 1) := by decide +kernel
theorem dX12_missing_8 : decode cX12_missing 8 = .ok (.istore_n 2, 1) := by decide +kernel
theorem dX12_missing_9 : decode cX12_missing 9 = .ok (.iconst 0, 1) := by decide +kernel
theorem dX12_missing_10 : decode cX12_missing 10 = .ok (.istore_n 3, 1) := by decide +kernel
theorem dX12_missing_11 : decode cX12_missing 11 = .ok (.iload_n 3, 1) := by decide +kernel
theorem dX12_missing_12 : decode cX12_missing 12 = .ok (.aload_n 0, 1) := by decide +kernel
theorem dX12_missing_13 : decode cX12_missing 13 = .ok (.getfield 7, 3) := by decide +kernel
theorem dX12_missing_16 : decode cX12_missing 16 = .ok (.sipush 311, 3) := by decide +kernel
theorem dX12_missing_19 : decode cX12_missing 19 = .ok (.iaload, 1) := by decide +kernel
theorem dX12_missing_20 : decode cX12_missing 20 = .ok (.if_icmp .ge 39, 3) := by decide +kernel
theorem dX12_missing_23 : decode cX12_missing 23 = .ok (.aload_n 0, 1) := by decide +kernel
theorem dX12_missing_24 : decode cX12_missing 24 = .ok (.iload_n 3, 1) := by decide +kernel
theorem dX12_missing_25 : decode cX12_missing 25 = .ok (.invokevirtual 104, 3) := by decide +kernel
theorem dX12_missing_28 : decode cX12_missing 28 = .ok (.ifCond .eq 25, 3) := by decide +kernel
theorem dX12_missing_31 : decode cX12_missing 31 = .ok (.aload_n 0, 1) := by decide +kernel
theorem dX12_missing_32 : decode cX12_missing 32 = .ok (.iload_n 3, 1) := by decide +kernel
theorem dX12_missing_33 : decode cX12_missing 33 = .ok (.aload_n 0, 1) := by decide +kernel
theorem dX12_missing_34 : decode cX12_missing 34 = .ok (.invokevirtual 107, 3) := by decide +kernel
theorem dX12_missing_37 : decode cX12_missing 37 = .ok (.invokevirtual 40, 3) := by decide +kernel
theorem dX12_missing_40 : decode cX12_missing 40 = .ok (.ifCond .ne 13, 3) := by decide +kernel
theorem dX12_missing_43 : decode cX12_missing 43 = .ok (.iload_n 2, 1) := by decide +kernel
theorem dX12_missing_44 : decode cX12_missing 44 = .ok (.iload_n 1, 1) := by decide +kernel
theorem dX12_missing_45 : decode cX12_missing 45 = .ok (.if_icmp .ne 5, 3) := by decide +kernel
theorem dX12_missing_48 : decode cX12_missing 48 = .ok (.iload_n 3, 1) := by decide +kernel
theorem dX12_missing_49 : decode cX12_missing 49 = .ok (.ireturn, 1) := by decide +kernel
theorem dX12_missing_50 : decode cX12_missing 50 = .ok (.iinc 2 1, 3) := by decide +kernel
theorem dX12_missing_53 : decode cX12_missing 53 = .ok (.iinc 3 1, 3) := by decide +kernel
theorem dX12_missing_56 : decode cX12_missing 56 = .ok (.goto (-45), 3) := by decide +kernel
theorem dX12_missing_59 : decode cX12_missing 59 = .ok (.ldc 85, 2) := by decide +kernel
theorem dX12_missing_61 : decode cX12_missing 61 = .ok (.ireturn, 1) := by decide +kernel
theorem dX12_leader_0 : decode cX12_leader 0 = .ok (.iload_n 1, 1) := by decide +kernel
theorem dX12_leader_1 : decode cX12_leader 1 = .ok (.iconst 0, 1) := by decide +kernel
theorem dX12_leader_2 : decode cX12_leader 2 = .ok (.iconst 5, 1) := by decide +kernel
theorem dX12_leader_3 : decode cX12_leader 3 = .ok (.invokestatic 36, 3) := by decide +kernel
theorem dX12_leader_6 : decode cX12_leader 6 = .ok (.ifCond .ne 6, 3) := by decide +kernel
theorem dX12_leader_9 : decode cX12_leader 9 = .ok (.ldc 75, 2) := by decide +kernel
theorem dX12_leader_11 : decode cX12_leader 11 = .ok (.ireturn, 1) := by decide +kernel
theorem dX12_leader_12 : decode cX12_leader 12 = .ok (.iconst 0, 1) := by decide +kernel
theorem dX12_leader_13 : decode cX12_leader 13 = .ok (.istore_n 2, 1) := by decide +kernel
theorem dX12_leader_14 : decode cX12_leader 14 = .ok (.iconst 0, 1) := by decide +kernel
theorem dX12_leader_15 : decode cX12_leader 15 = .ok (.istore_n 3, 1) := by decide +kernel
theorem dX12_leader_16 : decode cX12_leader 16 = .ok (.iload_n 3, 1) := by decide +kernel
theorem dX12_leader_17 : decode cX12_leader 17 = .ok (.bipush 6, 2) := by decide +kernel
theorem dX12_leader_19 : decode cX12_leader 19 = .ok (.if_icmp .ge 90, 3) := by decide +kernel
theorem dX12_leader_22 : decode cX12_leader 22 = .ok (.iconst 0, 1) := by decide +kernel
theorem dX12_leader_23 : decode cX12_leader 23 = .ok (.istore 4, 2) := by decide +kernel
theorem dX12_leader_25 : decode cX12_leader 25 = .ok (.iconst 0, 1) := by decide +kernel
theorem dX12_leader_26 : decode cX12_leader 26 = .ok (.istore 5, 2) := by decide +kernel
theorem dX12_leader_28 : decode cX12_leader 28 = .ok (.iload 5, 2) := by decide +kernel
theorem dX12_leader_30 : decode cX12_leader 30 = .ok (.bipush 6, 2) := by decide +kernel
theorem dX12_leader_32 : decode cX12_leader 32 = .ok (.if_icmp .ge 59, 3) := by decide +kernel
theorem dX12_leader_35 : decode cX12_leader 35 = .ok (.aload_n 0, 1) := by decide +kernel
theorem dX12_leader_36 : decode cX12_leader 36 = .ok (.getfield 7, 3) := by decide +kernel
theorem dX12_leader_39 : decode cX12_leader 39 = .ok (.sipush 300, 3) := by decide +kernel
theorem dX12_leader_42 : decode cX12_leader 42 = .ok (.iload 5, 2) := by decide +kernel
theorem dX12_leader_44 : decode cX12_leader 44 = .ok (.iadd, 1) := by decide +kernel
theorem dX12_leader_45 : decode cX12_leader 45 = .ok (.iaload, 1) := by decide +kernel
theorem dX12_leader_46 : decode cX12_leader 46 = .ok (.aload_n 0, 1) := by decide +kernel
theorem dX12_leader_47 : decode cX12_leader 47 = .ok (.getfield 7, 3) := by decide +kernel
theorem dX12_leader_50 : decode cX12_leader 50 = .ok (.sipush 300, 3) := by decide +kernel
theorem dX12_leader_53 : decode cX12_leader 53 = .ok (.iload_n 3, 1) := by decide +kernel
theorem dX12_leader_54 : decode cX12_leader 54 = .ok (.iadd, 1) := by decide +kernel
theorem dX12_leader_55 : decode cX12_leader 55 = .ok (.iaload, 1) := by decide +kernel
theorem dX12_leader_56 : decode cX12_leader 56 = .ok (.isub, 1) := by decide +kernel
theorem dX12_leader_57 : decode cX12_leader 57 = .ok (.istore 6, 2) := by decide +kernel
theorem dX12_leader_59 : decode cX12_leader 59 = .ok (.iload 4, 2) := by decide +kernel
theorem dX12_leader_61 : decode cX12_leader 61 = .ok (.iload 6, 2) := by decide +kernel
theorem dX12_leader_63 : decode cX12_leader 63 = .ok (.ifCond .gt 14, 3) := by decide +kernel
theorem dX12_leader_66 : decode cX12_leader 66 = .ok (.iload 6, 2) := by decide +kernel
theorem dX12_leader_68 : decode cX12_leader 68 = .ok (.ifCond .ne 13, 3) := by decide +kernel
theorem dX12_leader_71 : decode cX12_leader 71 = .ok (.iload 5, 2) := by decide +kernel
theorem dX12_leader_73 : decode cX12_leader 73 = .ok (.iload_n 3, 1) := by decide +kernel
theorem dX12_leader_74 : decode cX12_leader 74 = .ok (.if_icmp .ge 7, 3) := by decide +kernel
theorem dX12_leader_77 : decode cX12_leader 77 = .ok (.iconst 1, 1) := by decide +kernel
theorem dX12_leader_78 : decode cX12_leader 78 = .ok (.goto 4, 3) := by decide +kernel
theorem dX12_leader_81 : decode cX12_leader 81 = .ok (.iconst 0, 1) := by decide +kernel
theorem dX12_leader_82 : decode cX12_leader 82 = .ok (.iadd, 1) := by decide +kernel
theorem dX12_leader_83 : decode cX12_leader 83 = .ok (.istore 4, 2) := by decide +kernel
theorem dX12_leader_85 : decode cX12_leader 85 = .ok (.iinc 5 1, 3) := by decide +kernel
theorem dX12_leader_88 : decode cX12_leader 88 = .ok (.goto (-60), 3) := by decide +kernel
theorem dX12_leader_91 : decode cX12_leader 91 = .ok (.iload 4, 2) := by decide +kernel
theorem dX12_leader_93 : decode cX12_leader 93 = .ok (.iload_n 1, 1) := by decide +kernel
theorem dX12_leader_94 : decode cX12_leader 94 = .ok (.if_icmp .ne 7, 3) := by decide +kernel
theorem dX12_leader_97 : decode cX12_leader 97 = .ok (.iload_n 3, 1) := by decide +kernel
theorem dX12_leader_98 : decode cX12_leader 98 = .ok (.goto 4, 3) := by decide +kernel
theorem dX12_leader_101 : decode cX12_leader 101 = .ok (.iload_n 2, 1) := by decide +kernel
theorem dX12_leader_102 : decode cX12_leader 102 = .ok (.istore_n 2, 1) := by decide +kernel
theorem dX12_leader_103 : decode cX12_leader 103 = .ok (.iinc 3 1, 3) := by decide +kernel
theorem dX12_leader_106 : decode cX12_leader 106 = .ok (.goto (-90), 3) := by decide +kernel
theorem dX12_leader_109 : decode cX12_leader 109 = .ok (.iload_n 2, 1) := by decide +kernel
theorem dX12_leader_110 : decode cX12_leader 110 = .ok (.ireturn, 1) := by decide +kernel
theorem dX12_mean_0 : decode cX12_mean 0 = .ok (.iconst 0, 1) := by decide +kernel
theorem dX12_mean_1 : decode cX12_mean 1 = .ok (.istore_n 1, 1) := by decide +kernel
theorem dX12_mean_2 : decode cX12_mean 2 = .ok (.iconst 0, 1) := by decide +kernel
theorem dX12_mean_3 : decode cX12_mean 3 = .ok (.istore_n 2, 1) := by decide +kernel
theorem dX12_mean_4 : decode cX12_mean 4 = .ok (.iconst 0, 1) := by decide +kernel
theorem dX12_mean_5 : decode cX12_mean 5 = .ok (.istore_n 3, 1) := by decide +kernel
theorem dX12_mean_6 : decode cX12_mean 6 = .ok (.iload_n 3, 1) := by decide +kernel
theorem dX12_mean_7 : decode cX12_mean 7 = .ok (.aload_n 0, 1) := by decide +kernel
theorem dX12_mean_8 : decode cX12_mean 8 = .ok (.getfield 7, 3) := by decide +kernel
theorem dX12_mean_11 : decode cX12_mean 11 = .ok (.sipush 311, 3) := by decide +kernel
theorem dX12_mean_14 : decode cX12_mean 14 = .ok (.iaload, 1) := by decide +kernel
theorem dX12_mean_15 : decode cX12_mean 15 = .ok (.if_icmp .ge 49, 3) := by decide +kernel
theorem dX12_mean_18 : decode cX12_mean 18 = .ok (.aload_n 0, 1) := by decide +kernel
theorem dX12_mean_19 : decode cX12_mean 19 = .ok (.iload_n 3, 1) := by decide +kernel
theorem dX12_mean_20 : decode cX12_mean 20 = .ok (.aload_n 0, 1) := by decide +kernel
theorem dX12_mean_21 : decode cX12_mean 21 = .ok (.invokevirtual 107, 3) := by decide +kernel
theorem dX12_mean_24 : decode cX12_mean 24 = .ok (.invokevirtual 40, 3) := by decide +kernel
theorem dX12_mean_27 : decode cX12_mean 27 = .ok (.iconst 1, 1) := by decide +kernel
theorem dX12_mean_28 : decode cX12_mean 28 = .ok (.isub, 1) := by decide +kernel
theorem dX12_mean_29 : decode cX12_mean 29 = .ok (.istore 4, 2) := by decide +kernel
theorem dX12_mean_31 : decode cX12_mean 31 = .ok (.iload_n 1, 1) := by decide +kernel
theorem dX12_mean_32 : decode cX12_mean 32 = .ok (.iload 4, 2) := by decide +kernel
theorem dX12_mean_34 : decode cX12_mean 34 = .ok (.ifCond .le 8, 3) := by decide +kernel
theorem dX12_mean_37 : decode cX12_mean 37 = .ok (.iload 4, 2) := by decide +kernel
theorem dX12_mean_39 : decode cX12_mean 39 = .ok (.goto 4, 3) := by decide +kernel
theorem dX12_mean_42 : decode cX12_mean 42 = .ok (.iconst 0, 1) := by decide +kernel
theorem dX12_mean_43 : decode cX12_mean 43 = .ok (.iadd, 1) := by decide +kernel
theorem dX12_mean_44 : decode cX12_mean 44 = .ok (.istore_n 1, 1) := by decide +kernel
theorem dX12_mean_45 : decode cX12_mean 45 = .ok (.iload_n 2, 1) := by decide +kernel
theorem dX12_mean_46 : decode cX12_mean 46 = .ok (.iload 4, 2) := by decide +kernel
theorem dX12_mean_48 : decode cX12_mean 48 = .ok (.ifCond .le 7, 3) := by decide +kernel
theorem dX12_mean_51 : decode cX12_mean 51 = .ok (.iconst 1, 1) := by decide +kernel
theorem dX12_mean_52 : decode cX12_mean 52 = .ok (.goto 4, 3) := by decide +kernel
theorem dX12_mean_55 : decode cX12_mean 55 = .ok (.iconst 0, 1) := by decide +kernel
theorem dX12_mean_56 : decode cX12_mean 56 = .ok (.iadd, 1) := by decide +kernel
theorem dX12_mean_57 : decode cX12_mean 57 = .ok (.istore_n 2, 1) := by decide +kernel
theorem dX12_mean_58 : decode cX12_mean 58 = .ok (.iinc 3 1, 3) := by decide +kernel
theorem dX12_mean_61 : decode cX12_mean 61 = .ok (.goto (-55), 3) := by decide +kernel
theorem dX12_mean_64 : decode cX12_mean 64 = .ok (.iload_n 1, 1) := by decide +kernel
theorem dX12_mean_65 : decode cX12_mean 65 = .ok (.i2f, 1) := by decide +kernel
theorem dX12_mean_66 : decode cX12_mean 66 = .ok (.fstore_n 3, 1) := by decide +kernel
theorem dX12_mean_67 : decode cX12_mean 67 = .ok (.iload_n 2, 1) := by decide +kernel
theorem dX12_mean_68 : decode cX12_mean 68 = .ok (.i2f, 1) := by decide +kernel
theorem dX12_mean_69 : decode cX12_mean 69 = .ok (.fstore 4, 2) := by decide +kernel
theorem dX12_mean_71 : decode cX12_mean 71 = .ok (.iload_n 2, 1) := by decide +kernel
theorem dX12_mean_72 : decode cX12_mean 72 = .ok (.ifCond .ne 8, 3) := by decide +kernel
theorem dX12_mean_75 : decode cX12_mean 75 = .ok (.ldc 85, 2) := by decide +kernel
theorem dX12_mean_77 : decode cX12_mean 77 = .ok (.goto 10, 3) := by decide +kernel
theorem dX12_mean_80 : decode cX12_mean 80 = .ok (.fload_n 3, 1) := by decide +kernel
theorem dX12_mean_81 : decode cX12_mean 81 = .ok (.fload 4, 2) := by decide +kernel
theorem dX12_mean_83 : decode cX12_mean 83 = .ok (.fdiv, 1) := by decide +kernel
theorem dX12_mean_84 : decode cX12_mean 84 = .ok (.invokestatic 156, 3) := by decide +kernel
theorem dX12_mean_87 : decode cX12_mean 87 = .ok (.ireturn, 1) := by decide +kernel
theorem dX12_goneOnes_0 : decode cX12_goneOnes 0 = .ok (.iconst 0, 1) := by decide +kernel
theorem dX12_goneOnes_1 : decode cX12_goneOnes 1 = .ok (.istore_n 1, 1) := by decide +kernel
theorem dX12_goneOnes_2 : decode cX12_goneOnes 2 = .ok (.iconst 0, 1) := by decide +kernel
theorem dX12_goneOnes_3 : decode cX12_goneOnes 3 = .ok (.istore_n 2, 1) := by decide +kernel
theorem dX12_goneOnes_4 : decode cX12_goneOnes 4 = .ok (.iload_n 2, 1) := by decide +kernel
theorem dX12_goneOnes_5 : decode cX12_goneOnes 5 = .ok (.aload_n 0, 1) := by decide +kernel
theorem dX12_goneOnes_6 : decode cX12_goneOnes 6 = .ok (.getfield 7, 3) := by decide +kernel
theorem dX12_goneOnes_9 : decode cX12_goneOnes 9 = .ok (.sipush 311, 3) := by decide +kernel
theorem dX12_goneOnes_12 : decode cX12_goneOnes 12 = .ok (.iaload, 1) := by decide +kernel
theorem dX12_goneOnes_13 : decode cX12_goneOnes 13 = .ok (.if_icmp .ge 27, 3) := by decide +kernel
theorem dX12_goneOnes_16 : decode cX12_goneOnes 16 = .ok (.iload_n 1, 1) := by decide +kernel
theorem dX12_goneOnes_17 : decode cX12_goneOnes 17 = .ok (.aload_n 0, 1) := by decide +kernel
theorem dX12_goneOnes_18 : decode cX12_goneOnes 18 = .ok (.iload_n 2, 1) := by decide +kernel
theorem dX12_goneOnes_19 : decode cX12_goneOnes 19 = .ok (.invokevirtual 44, 3) := by decide +kernel
theorem dX12_goneOnes_22 : decode cX12_goneOnes 22 = .ok (.ifCond .eq 9, 3) := by decide +kernel
theorem dX12_goneOnes_25 : decode cX12_goneOnes 25 = .ok (.iconst 1, 1) := by decide +kernel
theorem dX12_goneOnes_26 : decode cX12_goneOnes 26 = .ok (.iload_n 2, 1) := by decide +kernel
theorem dX12_goneOnes_27 : decode cX12_goneOnes 27 = .ok (.ishl, 1) := by decide +kernel
theorem dX12_goneOnes_28 : decode cX12_goneOnes 28 = .ok (.goto 4, 3) := by decide +kernel
theorem dX12_goneOnes_31 : decode cX12_goneOnes 31 = .ok (.iconst 0, 1) := by decide +kernel
theorem dX12_goneOnes_32 : decode cX12_goneOnes 32 = .ok (.ior, 1) := by decide +kernel
theorem dX12_goneOnes_33 : decode cX12_goneOnes 33 = .ok (.istore_n 1, 1) := by decide +kernel
theorem dX12_goneOnes_34 : decode cX12_goneOnes 34 = .ok (.iinc 2 1, 3) := by decide +kernel
theorem dX12_goneOnes_37 : decode cX12_goneOnes 37 = .ok (.goto (-33), 3) := by decide +kernel
theorem dX12_goneOnes_40 : decode cX12_goneOnes 40 = .ok (.iload_n 1, 1) := by decide +kernel
theorem dX12_goneOnes_41 : decode cX12_goneOnes 41 = .ok (.ireturn, 1) := by decide +kernel
theorem dX12_timesNow_0 : decode cX12_timesNow 0 = .ok (.iconst 0, 1) := by decide +kernel
theorem dX12_timesNow_1 : decode cX12_timesNow 1 = .ok (.istore_n 1, 1) := by decide +kernel
theorem dX12_timesNow_2 : decode cX12_timesNow 2 = .ok (.iconst 0, 1) := by decide +kernel
theorem dX12_timesNow_3 : decode cX12_timesNow 3 = .ok (.istore_n 2, 1) := by decide +kernel
theorem dX12_timesNow_4 : decode cX12_timesNow 4 = .ok (.iload_n 2, 1) := by decide +kernel
theorem dX12_timesNow_5 : decode cX12_timesNow 5 = .ok (.aload_n 0, 1) := by decide +kernel
theorem dX12_timesNow_6 : decode cX12_timesNow 6 = .ok (.getfield 7, 3) := by decide +kernel
theorem dX12_timesNow_9 : decode cX12_timesNow 9 = .ok (.sipush 311, 3) := by decide +kernel
theorem dX12_timesNow_12 : decode cX12_timesNow 12 = .ok (.iaload, 1) := by decide +kernel
theorem dX12_timesNow_13 : decode cX12_timesNow 13 = .ok (.if_icmp .ge 42, 3) := by decide +kernel
theorem dX12_timesNow_16 : decode cX12_timesNow 16 = .ok (.iload_n 1, 1) := by decide +kernel
theorem dX12_timesNow_17 : decode cX12_timesNow 17 = .ok (.aload_n 0, 1) := by decide +kernel
theorem dX12_timesNow_18 : decode cX12_timesNow 18 = .ok (.iload_n 2, 1) := by decide +kernel
theorem dX12_timesNow_19 : decode cX12_timesNow 19 = .ok (.iconst 5, 1) := by decide +kernel
theorem dX12_timesNow_20 : decode cX12_timesNow 20 = .ok (.invokevirtual 40, 3) := by decide +kernel
theorem dX12_timesNow_23 : decode cX12_timesNow 23 = .ok (.ifCond .le 7, 3) := by decide +kernel
theorem dX12_timesNow_26 : decode cX12_timesNow 26 = .ok (.iconst 1, 1) := by decide +kernel
theorem dX12_timesNow_27 : decode cX12_timesNow 27 = .ok (.goto 4, 3) := by decide +kernel
theorem dX12_timesNow_30 : decode cX12_timesNow 30 = .ok (.iconst 0, 1) := by decide +kernel
theorem dX12_timesNow_31 : decode cX12_timesNow 31 = .ok (.aload_n 0, 1) := by decide +kernel
theorem dX12_timesNow_32 : decode cX12_timesNow 32 = .ok (.iload_n 2, 1) := by decide +kernel
theorem dX12_timesNow_33 : decode cX12_timesNow 33 = .ok (.bipush 7, 2) := by decide +kernel
theorem dX12_timesNow_35 : decode cX12_timesNow 35 = .ok (.invokevirtual 40, 3) := by decide +kernel
theorem dX12_timesNow_38 : decode cX12_timesNow 38 = .ok (.ifCond .le 7, 3) := by decide +kernel
theorem dX12_timesNow_41 : decode cX12_timesNow 41 = .ok (.iconst 1, 1) := by decide +kernel
theorem dX12_timesNow_42 : decode cX12_timesNow 42 = .ok (.goto 4, 3) := by decide +kernel
theorem dX12_timesNow_45 : decode cX12_timesNow 45 = .ok (.iconst 0, 1) := by decide +kernel
theorem dX12_timesNow_46 : decode cX12_timesNow 46 = .ok (.iadd, 1) := by decide +kernel
theorem dX12_timesNow_47 : decode cX12_timesNow 47 = .ok (.iadd, 1) := by decide +kernel
theorem dX12_timesNow_48 : decode cX12_timesNow 48 = .ok (.istore_n 1, 1) := by decide +kernel
theorem dX12_timesNow_49 : decode cX12_timesNow 49 = .ok (.iinc 2 1, 3) := by decide +kernel
theorem dX12_timesNow_52 : decode cX12_timesNow 52 = .ok (.goto (-48), 3) := by decide +kernel
theorem dX12_timesNow_55 : decode cX12_timesNow 55 = .ok (.iload_n 1, 1) := by decide +kernel
theorem dX12_timesNow_56 : decode cX12_timesNow 56 = .ok (.ireturn, 1) := by decide +kernel
theorem dX12_allPoints_0 : decode cX12_allPoints 0 = .ok (.iconst 0, 1) := by decide +kernel
theorem dX12_allPoints_1 : decode cX12_allPoints 1 = .ok (.istore_n 1, 1) := by decide +kernel
theorem dX12_allPoints_2 : decode cX12_allPoints 2 = .ok (.iconst 0, 1) := by decide +kernel
theorem dX12_allPoints_3 : decode cX12_allPoints 3 = .ok (.istore_n 2, 1) := by decide +kernel
theorem dX12_allPoints_4 : decode cX12_allPoints 4 = .ok (.iload_n 2, 1) := by decide +kernel
theorem dX12_allPoints_5 : decode cX12_allPoints 5 = .ok (.bipush 6, 2) := by decide +kernel
theorem dX12_allPoints_7 : decode cX12_allPoints 7 = .ok (.if_icmp .ge 22, 3) := by decide +kernel
theorem dX12_allPoints_10 : decode cX12_allPoints 10 = .ok (.iload_n 1, 1) := by decide +kernel
theorem dX12_allPoints_11 : decode cX12_allPoints 11 = .ok (.aload_n 0, 1) := by decide +kernel
theorem dX12_allPoints_12 : decode cX12_allPoints 12 = .ok (.getfield 7, 3) := by decide +kernel
theorem dX12_allPoints_15 : decode cX12_allPoints 15 = .ok (.sipush 300, 3) := by decide +kernel
theorem dX12_allPoints_18 : decode cX12_allPoints 18 = .ok (.iload_n 2, 1) := by decide +kernel
theorem dX12_allPoints_19 : decode cX12_allPoints 19 = .ok (.iadd, 1) := by decide +kernel
theorem dX12_allPoints_20 : decode cX12_allPoints 20 = .ok (.iaload, 1) := by decide +kernel
theorem dX12_allPoints_21 : decode cX12_allPoints 21 = .ok (.iadd, 1) := by decide +kernel
theorem dX12_allPoints_22 : decode cX12_allPoints 22 = .ok (.istore_n 1, 1) := by decide +kernel
theorem dX12_allPoints_23 : decode cX12_allPoints 23 = .ok (.iinc 2 1, 3) := by decide +kernel
theorem dX12_allPoints_26 : decode cX12_allPoints 26 = .ok (.goto (-22), 3) := by decide +kernel
theorem dX12_allPoints_29 : decode cX12_allPoints 29 = .ok (.iload_n 1, 1) := by decide +kernel
theorem dX12_allPoints_30 : decode cX12_allPoints 30 = .ok (.ireturn, 1) := by decide +kernel
theorem dX12_count_0 : decode cX12_count 0 = .ok (.iload_n 1, 1) := by decide +kernel
theorem dX12_count_1 : decode cX12_count 1 = .ok (.tableswitch 238 0 22 #[107, 116, 125, 130, 139, 144, 149, 154, 163, 175, 200, 209, 214, 219, 238, 238, 238, 238, 238, 238, 224, 224, 224], 107) := by decide +kernel
theorem dX12_count_108 : decode cX12_count 108 = .ok (.aload_n 0, 1) := by decide +kernel
theorem dX12_count_109 : decode cX12_count 109 = .ok (.getfield 7, 3) := by decide +kernel
theorem dX12_count_112 : decode cX12_count 112 = .ok (.sipush 310, 3) := by decide +kernel
theorem dX12_count_115 : decode cX12_count 115 = .ok (.iaload, 1) := by decide +kernel
theorem dX12_count_116 : decode cX12_count 116 = .ok (.ireturn, 1) := by decide +kernel
theorem dX12_count_117 : decode cX12_count 117 = .ok (.aload_n 0, 1) := by decide +kernel
theorem dX12_count_118 : decode cX12_count 118 = .ok (.getfield 7, 3) := by decide +kernel
theorem dX12_count_121 : decode cX12_count 121 = .ok (.sipush 311, 3) := by decide +kernel
theorem dX12_count_124 : decode cX12_count 124 = .ok (.iaload, 1) := by decide +kernel
theorem dX12_count_125 : decode cX12_count 125 = .ok (.ireturn, 1) := by decide +kernel
theorem dX12_count_126 : decode cX12_count 126 = .ok (.aload_n 0, 1) := by decide +kernel
theorem dX12_count_127 : decode cX12_count 127 = .ok (.invokevirtual 162, 3) := by decide +kernel
theorem dX12_count_130 : decode cX12_count 130 = .ok (.ireturn, 1) := by decide +kernel
theorem dX12_count_131 : decode cX12_count 131 = .ok (.aload_n 0, 1) := by decide +kernel
theorem dX12_count_132 : decode cX12_count 132 = .ok (.getfield 7, 3) := by decide +kernel
theorem dX12_count_135 : decode cX12_count 135 = .ok (.sipush 312, 3) := by decide +kernel
theorem dX12_count_138 : decode cX12_count 138 = .ok (.iaload, 1) := by decide +kernel
theorem dX12_count_139 : decode cX12_count 139 = .ok (.ireturn, 1) := by decide +kernel
theorem dX12_count_140 : decode cX12_count 140 = .ok (.aload_n 0, 1) := by decide +kernel
theorem dX12_count_141 : decode cX12_count 141 = .ok (.invokevirtual 122, 3) := by decide +kernel
theorem dX12_count_144 : decode cX12_count 144 = .ok (.ireturn, 1) := by decide +kernel
theorem dX12_count_145 : decode cX12_count 145 = .ok (.aload_n 0, 1) := by decide +kernel
theorem dX12_count_146 : decode cX12_count 146 = .ok (.invokevirtual 165, 3) := by decide +kernel
theorem dX12_count_149 : decode cX12_count 149 = .ok (.ireturn, 1) := by decide +kernel
theorem dX12_count_150 : decode cX12_count 150 = .ok (.aload_n 0, 1) := by decide +kernel
theorem dX12_count_151 : decode cX12_count 151 = .ok (.invokevirtual 168, 3) := by decide +kernel
theorem dX12_count_154 : decode cX12_count 154 = .ok (.ireturn, 1) := by decide +kernel
theorem dX12_count_155 : decode cX12_count 155 = .ok (.aload_n 0, 1) := by decide +kernel
theorem dX12_count_156 : decode cX12_count 156 = .ok (.getfield 7, 3) := by decide +kernel
theorem dX12_count_159 : decode cX12_count 159 = .ok (.sipush 313, 3) := by decide +kernel
theorem dX12_count_162 : decode cX12_count 162 = .ok (.iaload, 1) := by decide +kernel
theorem dX12_count_163 : decode cX12_count 163 = .ok (.ireturn, 1) := by decide +kernel
theorem dX12_count_164 : decode cX12_count 164 = .ok (.aload_n 0, 1) := by decide +kernel
theorem dX12_count_165 : decode cX12_count 165 = .ok (.getfield 7, 3) := by decide +kernel
theorem dX12_count_168 : decode cX12_count 168 = .ok (.sipush 314, 3) := by decide +kernel
theorem dX12_count_171 : decode cX12_count 171 = .ok (.iaload, 1) := by decide +kernel
theorem dX12_count_172 : decode cX12_count 172 = .ok (.invokestatic 137, 3) := by decide +kernel
theorem dX12_count_175 : decode cX12_count 175 = .ok (.ireturn, 1) := by decide +kernel
theorem dX12_count_176 : decode cX12_count 176 = .ok (.aload_n 0, 1) := by decide +kernel
theorem dX12_count_177 : decode cX12_count 177 = .ok (.getfield 7, 3) := by decide +kernel
theorem dX12_count_180 : decode cX12_count 180 = .ok (.sipush 314, 3) := by decide +kernel
theorem dX12_count_183 : decode cX12_count 183 = .ok (.iaload, 1) := by decide +kernel
theorem dX12_count_184 : decode cX12_count 184 = .ok (.ifCond .le 14, 3) := by decide +kernel
theorem dX12_count_187 : decode cX12_count 187 = .ok (.aload_n 0, 1) := by decide +kernel
theorem dX12_count_188 : decode cX12_count 188 = .ok (.getfield 7, 3) := by decide +kernel
theorem dX12_count_191 : decode cX12_count 191 = .ok (.sipush 315, 3) := by decide +kernel
theorem dX12_count_194 : decode cX12_count 194 = .ok (.iaload, 1) := by decide +kernel
theorem dX12_count_195 : decode cX12_count 195 = .ok (.goto 5, 3) := by decide +kernel
theorem dX12_count_198 : decode cX12_count 198 = .ok (.ldc 85, 2) := by decide +kernel
theorem dX12_count_200 : decode cX12_count 200 = .ok (.ireturn, 1) := by decide +kernel
theorem dX12_count_201 : decode cX12_count 201 = .ok (.aload_n 0, 1) := by decide +kernel
theorem dX12_count_202 : decode cX12_count 202 = .ok (.getfield 7, 3) := by decide +kernel
theorem dX12_count_205 : decode cX12_count 205 = .ok (.sipush 316, 3) := by decide +kernel
theorem dX12_count_208 : decode cX12_count 208 = .ok (.iaload, 1) := by decide +kernel
theorem dX12_count_209 : decode cX12_count 209 = .ok (.ireturn, 1) := by decide +kernel
theorem dX12_count_210 : decode cX12_count 210 = .ok (.aload_n 0, 1) := by decide +kernel
theorem dX12_count_211 : decode cX12_count 211 = .ok (.invokevirtual 171, 3) := by decide +kernel
theorem dX12_count_214 : decode cX12_count 214 = .ok (.ireturn, 1) := by decide +kernel
theorem dX12_count_215 : decode cX12_count 215 = .ok (.aload_n 0, 1) := by decide +kernel
theorem dX12_count_216 : decode cX12_count 216 = .ok (.getfield 32, 3) := by decide +kernel
theorem dX12_count_219 : decode cX12_count 219 = .ok (.ireturn, 1) := by decide +kernel
theorem dX12_count_220 : decode cX12_count 220 = .ok (.aload_n 0, 1) := by decide +kernel
theorem dX12_count_221 : decode cX12_count 221 = .ok (.getfield 174, 3) := by decide +kernel
theorem dX12_count_224 : decode cX12_count 224 = .ok (.ireturn, 1) := by decide +kernel
theorem dX12_count_225 : decode cX12_count 225 = .ok (.aload_n 0, 1) := by decide +kernel
theorem dX12_count_226 : decode cX12_count 226 = .ok (.getfield 7, 3) := by decide +kernel
theorem dX12_count_229 : decode cX12_count 229 = .ok (.sipush 317, 3) := by decide +kernel
theorem dX12_count_232 : decode cX12_count 232 = .ok (.iload_n 1, 1) := by decide +kernel
theorem dX12_count_233 : decode cX12_count 233 = .ok (.iadd, 1) := by decide +kernel
theorem dX12_count_234 : decode cX12_count 234 = .ok (.bipush 20, 2) := by decide +kernel
theorem dX12_count_236 : decode cX12_count 236 = .ok (.isub, 1) := by decide +kernel
theorem dX12_count_237 : decode cX12_count 237 = .ok (.iaload, 1) := by decide +kernel
theorem dX12_count_238 : decode cX12_count 238 = .ok (.ireturn, 1) := by decide +kernel
theorem dX12_count_239 : decode cX12_count 239 = .ok (.ldc 75, 2) := by decide +kernel
theorem dX12_count_241 : decode cX12_count 241 = .ok (.ireturn, 1) := by decide +kernel
theorem dX12_undo_0 : decode cX12_undo 0 = .ok (.aload_n 0, 1) := by decide +kernel
theorem dX12_undo_1 : decode cX12_undo 1 = .ok (.getfield 32, 3) := by decide +kernel
theorem dX12_undo_4 : decode cX12_undo 4 = .ok (.ifCond .ne 6, 3) := by decide +kernel
theorem dX12_undo_7 : decode cX12_undo 7 = .ok (.ldc 76, 2) := by decide +kernel
theorem dX12_undo_9 : decode cX12_undo 9 = .ok (.ireturn, 1) := by decide +kernel
theorem dX12_undo_10 : decode cX12_undo 10 = .ok (.aload_n 0, 1) := by decide +kernel
theorem dX12_undo_11 : decode cX12_undo 11 = .ok (.dup, 1) := by decide +kernel
theorem dX12_undo_12 : decode cX12_undo 12 = .ok (.getfield 32, 3) := by decide +kernel
theorem dX12_undo_15 : decode cX12_undo 15 = .ok (.iconst 1, 1) := by decide +kernel
theorem dX12_undo_16 : decode cX12_undo 16 = .ok (.isub, 1) := by decide +kernel
theorem dX12_undo_17 : decode cX12_undo 17 = .ok (.putfield 32, 3) := by decide +kernel
theorem dX12_undo_20 : decode cX12_undo 20 = .ok (.iconst 0, 1) := by decide +kernel
theorem dX12_undo_21 : decode cX12_undo 21 = .ok (.istore_n 1, 1) := by decide +kernel
theorem dX12_undo_22 : decode cX12_undo 22 = .ok (.iload_n 1, 1) := by decide +kernel
theorem dX12_undo_23 : decode cX12_undo 23 = .ok (.sipush 320, 3) := by decide +kernel
theorem dX12_undo_26 : decode cX12_undo 26 = .ok (.if_icmp .ge 30, 3) := by decide +kernel
theorem dX12_undo_29 : decode cX12_undo 29 = .ok (.aload_n 0, 1) := by decide +kernel
theorem dX12_undo_30 : decode cX12_undo 30 = .ok (.getfield 7, 3) := by decide +kernel
theorem dX12_undo_33 : decode cX12_undo 33 = .ok (.iload_n 1, 1) := by decide +kernel
theorem dX12_undo_34 : decode cX12_undo 34 = .ok (.aload_n 0, 1) := by decide +kernel
theorem dX12_undo_35 : decode cX12_undo 35 = .ok (.getfield 13, 3) := by decide +kernel
theorem dX12_undo_38 : decode cX12_undo 38 = .ok (.sipush 320, 3) := by decide +kernel
theorem dX12_undo_41 : decode cX12_undo 41 = .ok (.aload_n 0, 1) := by decide +kernel
theorem dX12_undo_42 : decode cX12_undo 42 = .ok (.getfield 32, 3) := by decide +kernel
theorem dX12_undo_45 : decode cX12_undo 45 = .ok (.imul, 1) := by decide +kernel
theorem dX12_undo_46 : decode cX12_undo 46 = .ok (.iload_n 1, 1) := by decide +kernel
theorem dX12_undo_47 : decode cX12_undo 47 = .ok (.iadd, 1) := by decide +kernel
theorem dX12_undo_48 : decode cX12_undo 48 = .ok (.iaload, 1) := by decide +kernel
theorem dX12_undo_49 : decode cX12_undo 49 = .ok (.iastore, 1) := by decide +kernel
theorem dX12_undo_50 : decode cX12_undo 50 = .ok (.iinc 1 1, 3) := by decide +kernel
theorem dX12_undo_53 : decode cX12_undo 53 = .ok (.goto (-31), 3) := by decide +kernel
theorem dX12_undo_56 : decode cX12_undo 56 = .ok (.aload_n 0, 1) := by decide +kernel
theorem dX12_undo_57 : decode cX12_undo 57 = .ok (.getfield 32, 3) := by decide +kernel
theorem dX12_undo_60 : decode cX12_undo 60 = .ok (.ireturn, 1) := by decide +kernel
theorem dX12_type_0 : decode cX12_type 0 = .ok (.iload_n 1, 1) := by decide +kernel
theorem dX12_type_1 : decode cX12_type 1 = .ok (.bipush 32, 2) := by decide +kernel
theorem dX12_type_3 : decode cX12_type 3 = .ok (.bipush 126, 2) := by decide +kernel
theorem dX12_type_5 : decode cX12_type 5 = .ok (.invokestatic 36, 3) := by decide +kernel
theorem dX12_type_8 : decode cX12_type 8 = .ok (.ifCond .ne 6, 3) := by decide +kernel
theorem dX12_type_11 : decode cX12_type 11 = .ok (.ldc 75, 2) := by decide +kernel
theorem dX12_type_13 : decode cX12_type 13 = .ok (.ireturn, 1) := by decide +kernel
theorem dX12_type_14 : decode cX12_type 14 = .ok (.aload_n 0, 1) := by decide +kernel
theorem dX12_type_15 : decode cX12_type 15 = .ok (.getfield 174, 3) := by decide +kernel
theorem dX12_type_18 : decode cX12_type 18 = .ok (.bipush 60, 2) := by decide +kernel
theorem dX12_type_20 : decode cX12_type 20 = .ok (.if_icmp .ne 6, 3) := by decide +kernel
theorem dX12_type_23 : decode cX12_type 23 = .ok (.ldc 77, 2) := by decide +kernel
theorem dX12_type_25 : decode cX12_type 25 = .ok (.ireturn, 1) := by decide +kernel
theorem dX12_type_26 : decode cX12_type 26 = .ok (.aload_n 0, 1) := by decide +kernel
theorem dX12_type_27 : decode cX12_type 27 = .ok (.getfield 19, 3) := by decide +kernel
theorem dX12_type_30 : decode cX12_type 30 = .ok (.aload_n 0, 1) := by decide +kernel
theorem dX12_type_31 : decode cX12_type 31 = .ok (.getfield 174, 3) := by decide +kernel
theorem dX12_type_34 : decode cX12_type 34 = .ok (.iload_n 1, 1) := by decide +kernel
theorem dX12_type_35 : decode cX12_type 35 = .ok (.iastore, 1) := by decide +kernel
theorem dX12_type_36 : decode cX12_type 36 = .ok (.aload_n 0, 1) := by decide +kernel
theorem dX12_type_37 : decode cX12_type 37 = .ok (.dup, 1) := by decide +kernel
theorem dX12_type_38 : decode cX12_type 38 = .ok (.getfield 174, 3) := by decide +kernel
theorem dX12_type_41 : decode cX12_type 41 = .ok (.iconst 1, 1) := by decide +kernel
theorem dX12_type_42 : decode cX12_type 42 = .ok (.iadd, 1) := by decide +kernel
theorem dX12_type_43 : decode cX12_type 43 = .ok (.putfield 174, 3) := by decide +kernel
theorem dX12_type_46 : decode cX12_type 46 = .ok (.aload_n 0, 1) := by decide +kernel
theorem dX12_type_47 : decode cX12_type 47 = .ok (.getfield 174, 3) := by decide +kernel
theorem dX12_type_50 : decode cX12_type 50 = .ok (.ireturn, 1) := by decide +kernel
theorem dX12_clearText_0 : decode cX12_clearText 0 = .ok (.aload_n 0, 1) := by decide +kernel
theorem dX12_clearText_1 : decode cX12_clearText 1 = .ok (.getfield 174, 3) := by decide +kernel
theorem dX12_clearText_4 : decode cX12_clearText 4 = .ok (.istore_n 1, 1) := by decide +kernel
theorem dX12_clearText_5 : decode cX12_clearText 5 = .ok (.aload_n 0, 1) := by decide +kernel
theorem dX12_clearText_6 : decode cX12_clearText 6 = .ok (.iconst 0, 1) := by decide +kernel
theorem dX12_clearText_7 : decode cX12_clearText 7 = .ok (.putfield 174, 3) := by decide +kernel
theorem dX12_clearText_10 : decode cX12_clearText 10 = .ok (.iload_n 1, 1) := by decide +kernel
theorem dX12_clearText_11 : decode cX12_clearText 11 = .ok (.ireturn, 1) := by decide +kernel
theorem dX12_isAt_0 : decode cX12_isAt 0 = .ok (.aload_n 0, 1) := by decide +kernel
theorem dX12_isAt_1 : decode cX12_isAt 1 = .ok (.getfield 177, 3) := by decide +kernel
theorem dX12_isAt_4 : decode cX12_isAt 4 = .ok (.aload_n 0, 1) := by decide +kernel
theorem dX12_isAt_5 : decode cX12_isAt 5 = .ok (.getfield 174, 3) := by decide +kernel
theorem dX12_isAt_8 : decode cX12_isAt 8 = .ok (.if_icmp .ge 24, 3) := by decide +kernel
theorem dX12_isAt_11 : decode cX12_isAt 11 = .ok (.aload_n 0, 1) := by decide +kernel
theorem dX12_isAt_12 : decode cX12_isAt 12 = .ok (.getfield 19, 3) := by decide +kernel
theorem dX12_isAt_15 : decode cX12_isAt 15 = .ok (.aload_n 0, 1) := by decide +kernel
theorem dX12_isAt_16 : decode cX12_isAt 16 = .ok (.getfield 177, 3) := by decide +kernel
theorem dX12_isAt_19 : decode cX12_isAt 19 = .ok (.iaload, 1) := by decide +kernel
theorem dX12_isAt_20 : decode cX12_isAt 20 = .ok (.iload_n 1, 1) := by decide +kernel
theorem dX12_isAt_21 : decode cX12_isAt 21 = .ok (.iload_n 2, 1) := by decide +kernel
theorem dX12_isAt_22 : decode cX12_isAt 22 = .ok (.invokestatic 36, 3) := by decide +kernel
theorem dX12_isAt_25 : decode cX12_isAt 25 = .ok (.ifCond .eq 7, 3) := by decide +kernel
theorem dX12_isAt_28 : decode cX12_isAt 28 = .ok (.iconst 1, 1) := by decide +kernel
theorem dX12_isAt_29 : decode cX12_isAt 29 = .ok (.goto 4, 3) := by decide +kernel
theorem dX12_isAt_32 : decode cX12_isAt 32 = .ok (.iconst 0, 1) := by decide +kernel
theorem dX12_isAt_33 : decode cX12_isAt 33 = .ok (.ireturn, 1) := by decide +kernel
theorem dX12_sign_0 : decode cX12_sign 0 = .ok (.aload_n 0, 1) := by decide +kernel
theorem dX12_sign_1 : decode cX12_sign 1 = .ok (.iload_n 1, 1) := by decide +kernel
theorem dX12_sign_2 : decode cX12_sign 2 = .ok (.iload_n 1, 1) := by decide +kernel
theorem dX12_sign_3 : decode cX12_sign 3 = .ok (.invokevirtual 180, 3) := by decide +kernel
theorem dX12_sign_6 : decode cX12_sign 6 = .ok (.istore_n 2, 1) := by decide +kernel
theorem dX12_sign_7 : decode cX12_sign 7 = .ok (.aload_n 0, 1) := by decide +kernel
theorem dX12_sign_8 : decode cX12_sign 8 = .ok (.dup, 1) := by decide +kernel
theorem dX12_sign_9 : decode cX12_sign 9 = .ok (.getfield 177, 3) := by decide +kernel
theorem dX12_sign_12 : decode cX12_sign 12 = .ok (.iload_n 2, 1) := by decide +kernel
theorem dX12_sign_13 : decode cX12_sign 13 = .ok (.ifCond .eq 7, 3) := by decide +kernel
theorem dX12_sign_16 : decode cX12_sign 16 = .ok (.iconst 1, 1) := by decide +kernel
theorem dX12_sign_17 : decode cX12_sign 17 = .ok (.goto 4, 3) := by decide +kernel
theorem dX12_sign_20 : decode cX12_sign 20 = .ok (.iconst 0, 1) := by decide +kernel
theorem dX12_sign_21 : decode cX12_sign 21 = .ok (.iadd, 1) := by decide +kernel
theorem dX12_sign_22 : decode cX12_sign 22 = .ok (.putfield 177, 3) := by decide +kernel
theorem dX12_sign_25 : decode cX12_sign 25 = .ok (.iload_n 2, 1) := by decide +kernel
theorem dX12_sign_26 : decode cX12_sign 26 = .ok (.ireturn, 1) := by decide +kernel
theorem dX12_numbered_0 : decode cX12_numbered 0 = .ok (.aload_n 0, 1) := by decide +kernel
theorem dX12_numbered_1 : decode cX12_numbered 1 = .ok (.getfield 177, 3) := by decide +kernel
theorem dX12_numbered_4 : decode cX12_numbered 4 = .ok (.istore_n 2, 1) := by decide +kernel
theorem dX12_numbered_5 : decode cX12_numbered 5 = .ok (.aload_n 0, 1) := by decide +kernel
theorem dX12_numbered_6 : decode cX12_numbered 6 = .ok (.getfield 25, 3) := by decide +kernel
theorem dX12_numbered_9 : decode cX12_numbered 9 = .ok (.iload_n 1, 1) := by decide +kernel
theorem dX12_numbered_10 : decode cX12_numbered 10 = .ok (.iconst 0, 1) := by decide +kernel
theorem dX12_numbered_11 : decode cX12_numbered 11 = .ok (.iastore, 1) := by decide +kernel
theorem dX12_numbered_12 : decode cX12_numbered 12 = .ok (.aload_n 0, 1) := by decide +kernel
theorem dX12_numbered_13 : decode cX12_numbered 13 = .ok (.bipush 48, 2) := by decide +kernel
theorem dX12_numbered_15 : decode cX12_numbered 15 = .ok (.bipush 57, 2) := by decide +kernel
theorem dX12_numbered_17 : decode cX12_numbered 17 = .ok (.invokevirtual 180, 3) := by decide +kernel
theorem dX12_numbered_20 : decode cX12_numbered 20 = .ok (.ifCond .eq 54, 3) := by decide +kernel
theorem dX12_numbered_23 : decode cX12_numbered 23 = .ok (.aload_n 0, 1) := by decide +kernel
theorem dX12_numbered_24 : decode cX12_numbered 24 = .ok (.getfield 177, 3) := by decide +kernel
theorem dX12_numbered_27 : decode cX12_numbered 27 = .ok (.iload_n 2, 1) := by decide +kernel
theorem dX12_numbered_28 : decode cX12_numbered 28 = .ok (.isub, 1) := by decide +kernel
theorem dX12_numbered_29 : decode cX12_numbered 29 = .ok (.iconst 3, 1) := by decide +kernel
theorem dX12_numbered_30 : decode cX12_numbered 30 = .ok (.if_icmp .ge 44, 3) := by decide +kernel
theorem dX12_numbered_33 : decode cX12_numbered 33 = .ok (.aload_n 0, 1) := by decide +kernel
theorem dX12_numbered_34 : decode cX12_numbered 34 = .ok (.getfield 25, 3) := by decide +kernel
theorem dX12_numbered_37 : decode cX12_numbered 37 = .ok (.iload_n 1, 1) := by decide +kernel
theorem dX12_numbered_38 : decode cX12_numbered 38 = .ok (.bipush 10, 2) := by decide +kernel
theorem dX12_numbered_40 : decode cX12_numbered 40 = .ok (.aload_n 0, 1) := by decide +kernel
theorem dX12_numbered_41 : decode cX12_numbered 41 = .ok (.getfield 25, 3) := by decide +kernel
theorem dX12_numbered_44 : decode cX12_numbered 44 = .ok (.iload_n 1, 1) := by decide +kernel
theorem dX12_numbered_45 : decode cX12_numbered 45 = .ok (.iaload, 1) := by decide +kernel
theorem dX12_numbered_46 : decode cX12_numbered 46 = .ok (.imul, 1) := by decide +kernel
theorem dX12_numbered_47 : decode cX12_numbered 47 = .ok (.aload_n 0, 1) := by decide +kernel
theorem dX12_numbered_48 : decode cX12_numbered 48 = .ok (.getfield 19, 3) := by decide +kernel
theorem dX12_numbered_51 : decode cX12_numbered 51 = .ok (.aload_n 0, 1) := by decide +kernel
theorem dX12_numbered_52 : decode cX12_numbered 52 = .ok (.getfield 177, 3) := by decide +kernel
theorem dX12_numbered_55 : decode cX12_numbered 55 = .ok (.iaload, 1) := by decide +kernel
theorem dX12_numbered_56 : decode cX12_numbered 56 = .ok (.iadd, 1) := by decide +kernel
theorem dX12_numbered_57 : decode cX12_numbered 57 = .ok (.bipush 48, 2) := by decide +kernel
theorem dX12_numbered_59 : decode cX12_numbered 59 = .ok (.isub, 1) := by decide +kernel
theorem dX12_numbered_60 : decode cX12_numbered 60 = .ok (.iastore, 1) := by decide +kernel
theorem dX12_numbered_61 : decode cX12_numbered 61 = .ok (.aload_n 0, 1) := by decide +kernel
theorem dX12_numbered_62 : decode cX12_numbered 62 = .ok (.dup, 1) := by decide +kernel
theorem dX12_numbered_63 : decode cX12_numbered 63 = .ok (.getfield 177, 3) := by decide +kernel
theorem dX12_numbered_66 : decode cX12_numbered 66 = .ok (.iconst 1, 1) := by decide +kernel
theorem dX12_numbered_67 : decode cX12_numbered 67 = .ok (.iadd, 1) := by decide +kernel
theorem dX12_numbered_68 : decode cX12_numbered 68 = .ok (.putfield 177, 3) := by decide +kernel
theorem dX12_numbered_71 : decode cX12_numbered 71 = .ok (.goto (-59), 3) := by decide +kernel
theorem dX12_numbered_74 : decode cX12_numbered 74 = .ok (.aload_n 0, 1) := by decide +kernel
theorem dX12_numbered_75 : decode cX12_numbered 75 = .ok (.getfield 177, 3) := by decide +kernel
theorem dX12_numbered_78 : decode cX12_numbered 78 = .ok (.iload_n 2, 1) := by decide +kernel
theorem dX12_numbered_79 : decode cX12_numbered 79 = .ok (.if_icmp .le 7, 3) := by decide +kernel
theorem dX12_numbered_82 : decode cX12_numbered 82 = .ok (.iconst 1, 1) := by decide +kernel
theorem dX12_numbered_83 : decode cX12_numbered 83 = .ok (.goto 4, 3) := by decide +kernel
theorem dX12_numbered_86 : decode cX12_numbered 86 = .ok (.iconst 0, 1) := by decide +kernel
theorem dX12_numbered_87 : decode cX12_numbered 87 = .ok (.ireturn, 1) := by decide +kernel
theorem dX12_numbersOf_0 : decode cX12_numbersOf 0 = .ok (.iload_n 0, 1) := by decide +kernel
theorem dX12_numbersOf_1 : decode cX12_numbersOf 1 = .ok (.tableswitch 105 100 120 #[103, 99, 103, 105, 105, 105, 105, 105, 105, 105, 103, 103, 105, 105, 105, 99, 105, 105, 105, 105, 101], 99) := by decide +kernel
theorem dX12_numbersOf_100 : decode cX12_numbersOf 100 = .ok (.iconst 2, 1) := by decide +kernel
theorem dX12_numbersOf_101 : decode cX12_numbersOf 101 = .ok (.ireturn, 1) := by decide +kernel
theorem dX12_numbersOf_102 : decode cX12_numbersOf 102 = .ok (.iconst 1, 1) := by decide +kernel
theorem dX12_numbersOf_103 : decode cX12_numbersOf 103 = .ok (.ireturn, 1) := by decide +kernel
theorem dX12_numbersOf_104 : decode cX12_numbersOf 104 = .ok (.iconst 0, 1) := by decide +kernel
theorem dX12_numbersOf_105 : decode cX12_numbersOf 105 = .ok (.ireturn, 1) := by decide +kernel
theorem dX12_numbersOf_106 : decode cX12_numbersOf 106 = .ok (.ldc 85, 2) := by decide +kernel
theorem dX12_numbersOf_108 : decode cX12_numbersOf 108 = .ok (.ireturn, 1) := by decide +kernel
theorem dX12_reads_0 : decode cX12_reads 0 = .ok (.aload_n 0, 1) := by decide +kernel
theorem dX12_reads_1 : decode cX12_reads 1 = .ok (.aload_n 0, 1) := by decide +kernel
theorem dX12_reads_2 : decode cX12_reads 2 = .ok (.bipush 33, 2) := by decide +kernel
theorem dX12_reads_4 : decode cX12_reads 4 = .ok (.bipush 126, 2) := by decide +kernel
theorem dX12_reads_6 : decode cX12_reads 6 = .ok (.invokevirtual 180, 3) := by decide +kernel
theorem dX12_reads_9 : decode cX12_reads 9 = .ok (.ifCond .eq 15, 3) := by decide +kernel
theorem dX12_reads_12 : decode cX12_reads 12 = .ok (.aload_n 0, 1) := by decide +kernel
theorem dX12_reads_13 : decode cX12_reads 13 = .ok (.getfield 19, 3) := by decide +kernel
theorem dX12_reads_16 : decode cX12_reads 16 = .ok (.aload_n 0, 1) := by decide +kernel
theorem dX12_reads_17 : decode cX12_reads 17 = .ok (.getfield 177, 3) := by decide +kernel
theorem dX12_reads_20 : decode cX12_reads 20 = .ok (.iaload, 1) := by decide +kernel
theorem dX12_reads_21 : decode cX12_reads 21 = .ok (.goto 4, 3) := by decide +kernel
theorem dX12_reads_24 : decode cX12_reads 24 = .ok (.iconst 0, 1) := by decide +kernel
theorem dX12_reads_25 : decode cX12_reads 25 = .ok (.putfield 183, 3) := by decide +kernel
theorem dX12_reads_28 : decode cX12_reads 28 = .ok (.aload_n 0, 1) := by decide +kernel
theorem dX12_reads_29 : decode cX12_reads 29 = .ok (.getfield 183, 3) := by decide +kernel
theorem dX12_reads_32 : decode cX12_reads 32 = .ok (.invokestatic 186, 3) := by decide +kernel
theorem dX12_reads_35 : decode cX12_reads 35 = .ok (.istore_n 1, 1) := by decide +kernel
theorem dX12_reads_36 : decode cX12_reads 36 = .ok (.iload_n 1, 1) := by decide +kernel
theorem dX12_reads_37 : decode cX12_reads 37 = .ok (.ifCond .ge 5, 3) := by decide +kernel
theorem dX12_reads_40 : decode cX12_reads 40 = .ok (.iconst 0, 1) := by decide +kernel
theorem dX12_reads_41 : decode cX12_reads 41 = .ok (.ireturn, 1) := by decide +kernel
theorem dX12_reads_42 : decode cX12_reads 42 = .ok (.aload_n 0, 1) := by decide +kernel
theorem dX12_reads_43 : decode cX12_reads 43 = .ok (.dup, 1) := by decide +kernel
theorem dX12_reads_44 : decode cX12_reads 44 = .ok (.getfield 177, 3) := by decide +kernel
theorem dX12_reads_47 : decode cX12_reads 47 = .ok (.iconst 1, 1) := by decide +kernel
theorem dX12_reads_48 : decode cX12_reads 48 = .ok (.iadd, 1) := by decide +kernel
theorem dX12_reads_49 : decode cX12_reads 49 = .ok (.putfield 177, 3) := by decide +kernel
theorem dX12_reads_52 : decode cX12_reads 52 = .ok (.iload_n 1, 1) := by decide +kernel
theorem dX12_reads_53 : decode cX12_reads 53 = .ok (.ifCond .eq 11, 3) := by decide +kernel
theorem dX12_reads_56 : decode cX12_reads 56 = .ok (.aload_n 0, 1) := by decide +kernel
theorem dX12_reads_57 : decode cX12_reads 57 = .ok (.iconst 0, 1) := by decide +kernel
theorem dX12_reads_58 : decode cX12_reads 58 = .ok (.invokevirtual 189, 3) := by decide +kernel
theorem dX12_reads_61 : decode cX12_reads 61 = .ok (.ifCond .eq 7, 3) := by decide +kernel
theorem dX12_reads_64 : decode cX12_reads 64 = .ok (.iconst 1, 1) := by decide +kernel
theorem dX12_reads_65 : decode cX12_reads 65 = .ok (.goto 4, 3) := by decide +kernel
theorem dX12_reads_68 : decode cX12_reads 68 = .ok (.iconst 0, 1) := by decide +kernel
theorem dX12_reads_69 : decode cX12_reads 69 = .ok (.istore_n 2, 1) := by decide +kernel
theorem dX12_reads_70 : decode cX12_reads 70 = .ok (.iload_n 2, 1) := by decide +kernel
theorem dX12_reads_71 : decode cX12_reads 71 = .ok (.ifCond .eq 38, 3) := by decide +kernel
theorem dX12_reads_74 : decode cX12_reads 74 = .ok (.iload_n 1, 1) := by decide +kernel
theorem dX12_reads_75 : decode cX12_reads 75 = .ok (.iconst 2, 1) := by decide +kernel
theorem dX12_reads_76 : decode cX12_reads 76 = .ok (.if_icmp .lt 20, 3) := by decide +kernel
theorem dX12_reads_79 : decode cX12_reads 79 = .ok (.aload_n 0, 1) := by decide +kernel
theorem dX12_reads_80 : decode cX12_reads 80 = .ok (.bipush 44, 2) := by decide +kernel
theorem dX12_reads_82 : decode cX12_reads 82 = .ok (.invokevirtual 192, 3) := by decide +kernel
theorem dX12_reads_85 : decode cX12_reads 85 = .ok (.ifCond .eq 24, 3) := by decide +kernel
theorem dX12_reads_88 : decode cX12_reads 88 = .ok (.aload_n 0, 1) := by decide +kernel
theorem dX12_reads_89 : decode cX12_reads 89 = .ok (.iconst 1, 1) := by decide +kernel
theorem dX12_reads_90 : decode cX12_reads 90 = .ok (.invokevirtual 189, 3) := by decide +kernel
theorem dX12_reads_93 : decode cX12_reads 93 = .ok (.ifCond .eq 16, 3) := by decide +kernel
theorem dX12_reads_96 : decode cX12_reads 96 = .ok (.aload_n 0, 1) := by decide +kernel
theorem dX12_reads_97 : decode cX12_reads 97 = .ok (.bipush 59, 2) := by decide +kernel
theorem dX12_reads_99 : decode cX12_reads 99 = .ok (.invokevirtual 192, 3) := by decide +kernel
theorem dX12_reads_102 : decode cX12_reads 102 = .ok (.ifCond .eq 7, 3) := by decide +kernel
theorem dX12_reads_105 : decode cX12_reads 105 = .ok (.iconst 1, 1) := by decide +kernel
theorem dX12_reads_106 : decode cX12_reads 106 = .ok (.goto 4, 3) := by decide +kernel
theorem dX12_reads_109 : decode cX12_reads 109 = .ok (.iconst 0, 1) := by decide +kernel
theorem dX12_reads_110 : decode cX12_reads 110 = .ok (.ireturn, 1) := by decide +kernel
theorem dX12_does_0 : decode cX12_does 0 = .ok (.aload_n 0, 1) := by decide +kernel
theorem dX12_does_1 : decode cX12_does 1 = .ok (.getfield 183, 3) := by decide +kernel
theorem dX12_does_4 : decode cX12_does 4 = .ok (.lookupswitch 120 #[(100, 105), (101, 60), (102, 110), (111, 115), (115, 77), (120, 94)], 60) := by decide +kernel
theorem dX12_does_64 : decode cX12_does 64 = .ok (.aload_n 0, 1) := by decide +kernel
theorem dX12_does_65 : decode cX12_does 65 = .ok (.aload_n 0, 1) := by decide +kernel
theorem dX12_does_66 : decode cX12_does 66 = .ok (.getfield 25, 3) := by decide +kernel
theorem dX12_does_69 : decode cX12_does 69 = .ok (.iconst 0, 1) := by decide +kernel
theorem dX12_does_70 : decode cX12_does 70 = .ok (.iaload, 1) := by decide +kernel
theorem dX12_does_71 : decode cX12_does 71 = .ok (.aload_n 0, 1) := by decide +kernel
theorem dX12_does_72 : decode cX12_does 72 = .ok (.getfield 25, 3) := by decide +kernel
theorem dX12_does_75 : decode cX12_does 75 = .ok (.iconst 1, 1) := by decide +kernel
theorem dX12_does_76 : decode cX12_does 76 = .ok (.iaload, 1) := by decide +kernel
theorem dX12_does_77 : decode cX12_does 77 = .ok (.invokevirtual 195, 3) := by decide +kernel
theorem dX12_does_80 : decode cX12_does 80 = .ok (.ireturn, 1) := by decide +kernel
theorem dX12_does_81 : decode cX12_does 81 = .ok (.aload_n 0, 1) := by decide +kernel
theorem dX12_does_82 : decode cX12_does 82 = .ok (.aload_n 0, 1) := by decide +kernel
theorem dX12_does_83 : decode cX12_does 83 = .ok (.getfield 25, 3) := by decide +kernel
theorem dX12_does_86 : decode cX12_does 86 = .ok (.iconst 0, 1) := by decide +kernel
theorem dX12_does_87 : decode cX12_does 87 = .ok (.iaload, 1) := by decide +kernel
theorem dX12_does_88 : decode cX12_does 88 = .ok (.aload_n 0, 1) := by decide +kernel
theorem dX12_does_89 : decode cX12_does 89 = .ok (.getfield 25, 3) := by decide +kernel
theorem dX12_does_92 : decode cX12_does 92 = .ok (.iconst 1, 1) := by decide +kernel
theorem dX12_does_93 : decode cX12_does 93 = .ok (.iaload, 1) := by decide +kernel
theorem dX12_does_94 : decode cX12_does 94 = .ok (.invokevirtual 198, 3) := by decide +kernel
theorem dX12_does_97 : decode cX12_does 97 = .ok (.ireturn, 1) := by decide +kernel
theorem dX12_does_98 : decode cX12_does 98 = .ok (.aload_n 0, 1) := by decide +kernel
theorem dX12_does_99 : decode cX12_does 99 = .ok (.aload_n 0, 1) := by decide +kernel
theorem dX12_does_100 : decode cX12_does 100 = .ok (.getfield 25, 3) := by decide +kernel
theorem dX12_does_103 : decode cX12_does 103 = .ok (.iconst 0, 1) := by decide +kernel
theorem dX12_does_104 : decode cX12_does 104 = .ok (.iaload, 1) := by decide +kernel
theorem dX12_does_105 : decode cX12_does 105 = .ok (.invokevirtual 201, 3) := by decide +kernel
theorem dX12_does_108 : decode cX12_does 108 = .ok (.ireturn, 1) := by decide +kernel
theorem dX12_does_109 : decode cX12_does 109 = .ok (.aload_n 0, 1) := by decide +kernel
theorem dX12_does_110 : decode cX12_does 110 = .ok (.invokevirtual 204, 3) := by decide +kernel
theorem dX12_does_113 : decode cX12_does 113 = .ok (.ireturn, 1) := by decide +kernel
theorem dX12_does_114 : decode cX12_does 114 = .ok (.aload_n 0, 1) := by decide +kernel
theorem dX12_does_115 : decode cX12_does 115 = .ok (.invokevirtual 207, 3) := by decide +kernel
theorem dX12_does_118 : decode cX12_does 118 = .ok (.ireturn, 1) := by decide +kernel
theorem dX12_does_119 : decode cX12_does 119 = .ok (.aload_n 0, 1) := by decide +kernel
theorem dX12_does_120 : decode cX12_does 120 = .ok (.invokevirtual 210, 3) := by decide +kernel
theorem dX12_does_123 : decode cX12_does 123 = .ok (.ireturn, 1) := by decide +kernel
theorem dX12_does_124 : decode cX12_does 124 = .ok (.aload_n 0, 1) := by decide +kernel
theorem dX12_does_125 : decode cX12_does 125 = .ok (.invokevirtual 213, 3) := by decide +kernel
theorem dX12_does_128 : decode cX12_does 128 = .ok (.ireturn, 1) := by decide +kernel
theorem dX12_plays_0 : decode cX12_plays 0 = .ok (.aload_n 0, 1) := by decide +kernel
theorem dX12_plays_1 : decode cX12_plays 1 = .ok (.iconst 1, 1) := by decide +kernel
theorem dX12_plays_2 : decode cX12_plays 2 = .ok (.putfield 28, 3) := by decide +kernel
theorem dX12_plays_5 : decode cX12_plays 5 = .ok (.aload_n 0, 1) := by decide +kernel
theorem dX12_plays_6 : decode cX12_plays 6 = .ok (.iconst 0, 1) := by decide +kernel
theorem dX12_plays_7 : decode cX12_plays 7 = .ok (.putfield 177, 3) := by decide +kernel
theorem dX12_plays_10 : decode cX12_plays 10 = .ok (.aload_n 0, 1) := by decide +kernel
theorem dX12_plays_11 : decode cX12_plays 11 = .ok (.iconst 0, 1) := by decide +kernel
theorem dX12_plays_12 : decode cX12_plays 12 = .ok (.putfield 216, 3) := by decide +kernel
theorem dX12_plays_15 : decode cX12_plays 15 = .ok (.aload_n 0, 1) := by decide +kernel
theorem dX12_plays_16 : decode cX12_plays 16 = .ok (.iconst 0, 1) := by decide +kernel
theorem dX12_plays_17 : decode cX12_plays 17 = .ok (.putfield 219, 3) := by decide +kernel
theorem dX12_plays_20 : decode cX12_plays 20 = .ok (.iconst 1, 1) := by decide +kernel
theorem dX12_plays_21 : decode cX12_plays 21 = .ok (.istore_n 1, 1) := by decide +kernel
theorem dX12_plays_22 : decode cX12_plays 22 = .ok (.aload_n 0, 1) := by decide +kernel
theorem dX12_plays_23 : decode cX12_plays 23 = .ok (.getfield 177, 3) := by decide +kernel
theorem dX12_plays_26 : decode cX12_plays 26 = .ok (.aload_n 0, 1) := by decide +kernel
theorem dX12_plays_27 : decode cX12_plays 27 = .ok (.getfield 174, 3) := by decide +kernel
theorem dX12_plays_30 : decode cX12_plays 30 = .ok (.if_icmp .ge 94, 3) := by decide +kernel
theorem dX12_plays_33 : decode cX12_plays 33 = .ok (.iload_n 1, 1) := by decide +kernel
theorem dX12_plays_34 : decode cX12_plays 34 = .ok (.ifCond .eq 90, 3) := by decide +kernel
theorem dX12_plays_37 : decode cX12_plays 37 = .ok (.aload_n 0, 1) := by decide +kernel
theorem dX12_plays_38 : decode cX12_plays 38 = .ok (.aload_n 0, 1) := by decide +kernel
theorem dX12_plays_39 : decode cX12_plays 39 = .ok (.getfield 177, 3) := by decide +kernel
theorem dX12_plays_42 : decode cX12_plays 42 = .ok (.putfield 216, 3) := by decide +kernel
theorem dX12_plays_45 : decode cX12_plays 45 = .ok (.aload_n 0, 1) := by decide +kernel
theorem dX12_plays_46 : decode cX12_plays 46 = .ok (.invokevirtual 222, 3) := by decide +kernel
theorem dX12_plays_49 : decode cX12_plays 49 = .ok (.istore_n 2, 1) := by decide +kernel
theorem dX12_plays_50 : decode cX12_plays 50 = .ok (.iload_n 2, 1) := by decide +kernel
theorem dX12_plays_51 : decode cX12_plays 51 = .ok (.ifCond .eq 10, 3) := by decide +kernel
theorem dX12_plays_54 : decode cX12_plays 54 = .ok (.aload_n 0, 1) := by decide +kernel
theorem dX12_plays_55 : decode cX12_plays 55 = .ok (.invokevirtual 226, 3) := by decide +kernel
theorem dX12_plays_58 : decode cX12_plays 58 = .ok (.goto 4, 3) := by decide +kernel
theorem dX12_plays_61 : decode cX12_plays 61 = .ok (.iconst 0, 1) := by decide +kernel
theorem dX12_plays_62 : decode cX12_plays 62 = .ok (.istore_n 3, 1) := by decide +kernel
theorem dX12_plays_63 : decode cX12_plays 63 = .ok (.iload_n 2, 1) := by decide +kernel
theorem dX12_plays_64 : decode cX12_plays 64 = .ok (.ifCond .eq 11, 3) := by decide +kernel
theorem dX12_plays_67 : decode cX12_plays 67 = .ok (.iload_n 3, 1) := by decide +kernel
theorem dX12_plays_68 : decode cX12_plays 68 = .ok (.ifCond .lt 7, 3) := by decide +kernel
theorem dX12_plays_71 : decode cX12_plays 71 = .ok (.iconst 1, 1) := by decide +kernel
theorem dX12_plays_72 : decode cX12_plays 72 = .ok (.goto 4, 3) := by decide +kernel
theorem dX12_plays_75 : decode cX12_plays 75 = .ok (.iconst 0, 1) := by decide +kernel
theorem dX12_plays_76 : decode cX12_plays 76 = .ok (.istore_n 1, 1) := by decide +kernel
theorem dX12_plays_77 : decode cX12_plays 77 = .ok (.aload_n 0, 1) := by decide +kernel
theorem dX12_plays_78 : decode cX12_plays 78 = .ok (.iload_n 2, 1) := by decide +kernel
theorem dX12_plays_79 : decode cX12_plays 79 = .ok (.ifCond .eq 7, 3) := by decide +kernel
theorem dX12_plays_82 : decode cX12_plays 82 = .ok (.iconst 2, 1) := by decide +kernel
theorem dX12_plays_83 : decode cX12_plays 83 = .ok (.goto 4, 3) := by decide +kernel
theorem dX12_plays_86 : decode cX12_plays 86 = .ok (.iconst 1, 1) := by decide +kernel
theorem dX12_plays_87 : decode cX12_plays 87 = .ok (.putfield 229, 3) := by decide +kernel
theorem dX12_plays_90 : decode cX12_plays 90 = .ok (.aload_n 0, 1) := by decide +kernel
theorem dX12_plays_91 : decode cX12_plays 91 = .ok (.iload_n 2, 1) := by decide +kernel
theorem dX12_plays_92 : decode cX12_plays 92 = .ok (.ifCond .eq 7, 3) := by decide +kernel
theorem dX12_plays_95 : decode cX12_plays 95 = .ok (.iload_n 3, 1) := by decide +kernel
theorem dX12_plays_96 : decode cX12_plays 96 = .ok (.goto 12, 3) := by decide +kernel
theorem dX12_plays_99 : decode cX12_plays 99 = .ok (.aload_n 0, 1) := by decide +kernel
theorem dX12_plays_100 : decode cX12_plays 100 = .ok (.getfield 177, 3) := by decide +kernel
theorem dX12_plays_103 : decode cX12_plays 103 = .ok (.aload_n 0, 1) := by decide +kernel
theorem dX12_plays_104 : decode cX12_plays 104 = .ok (.getfield 216, 3) := by decide +kernel
theorem dX12_plays_107 : decode cX12_plays 107 = .ok (.isub, 1) := by decide +kernel
theorem dX12_plays_108 : decode cX12_plays 108 = .ok (.putfield 232, 3) := by decide +kernel
theorem dX12_plays_111 : decode cX12_plays 111 = .ok (.aload_n 0, 1) := by decide +kernel
theorem dX12_plays_112 : decode cX12_plays 112 = .ok (.dup, 1) := by decide +kernel
theorem dX12_plays_113 : decode cX12_plays 113 = .ok (.getfield 219, 3) := by decide +kernel
theorem dX12_plays_116 : decode cX12_plays 116 = .ok (.iconst 1, 1) := by decide +kernel
theorem dX12_plays_117 : decode cX12_plays 117 = .ok (.iadd, 1) := by decide +kernel
theorem dX12_plays_118 : decode cX12_plays 118 = .ok (.putfield 219, 3) := by decide +kernel
theorem dX12_plays_121 : decode cX12_plays 121 = .ok (.goto (-99), 3) := by decide +kernel
theorem dX12_plays_124 : decode cX12_plays 124 = .ok (.aload_n 0, 1) := by decide +kernel
theorem dX12_plays_125 : decode cX12_plays 125 = .ok (.iconst 0, 1) := by decide +kernel
theorem dX12_plays_126 : decode cX12_plays 126 = .ok (.putfield 28, 3) := by decide +kernel
theorem dX12_plays_129 : decode cX12_plays 129 = .ok (.iload_n 1, 1) := by decide +kernel
theorem dX12_plays_130 : decode cX12_plays 130 = .ok (.ireturn, 1) := by decide +kernel
theorem dX12_fault_0 : decode cX12_fault 0 = .ok (.iload_n 1, 1) := by decide +kernel
theorem dX12_fault_1 : decode cX12_fault 1 = .ok (.iconst 0, 1) := by decide +kernel
theorem dX12_fault_2 : decode cX12_fault 2 = .ok (.iconst 2, 1) := by decide +kernel
theorem dX12_fault_3 : decode cX12_fault 3 = .ok (.invokestatic 36, 3) := by decide +kernel
theorem dX12_fault_6 : decode cX12_fault 6 = .ok (.ifCond .ne 6, 3) := by decide +kernel
theorem dX12_fault_9 : decode cX12_fault 9 = .ok (.ldc 75, 2) := by decide +kernel
theorem dX12_fault_11 : decode cX12_fault 11 = .ok (.ireturn, 1) := by decide +kernel
theorem dX12_fault_12 : decode cX12_fault 12 = .ok (.aload_n 0, 1) := by decide +kernel
theorem dX12_fault_13 : decode cX12_fault 13 = .ok (.getfield 7, 3) := by decide +kernel
theorem dX12_fault_16 : decode cX12_fault 16 = .ok (.aload_n 0, 1) := by decide +kernel
theorem dX12_fault_17 : decode cX12_fault 17 = .ok (.getfield 16, 3) := by decide +kernel
theorem dX12_fault_20 : decode cX12_fault 20 = .ok (.invokestatic 235, 3) := by decide +kernel
theorem dX12_fault_23 : decode cX12_fault 23 = .ok (.aload_n 0, 1) := by decide +kernel
theorem dX12_fault_24 : decode cX12_fault 24 = .ok (.invokevirtual 239, 3) := by decide +kernel
theorem dX12_fault_27 : decode cX12_fault 27 = .ok (.istore_n 2, 1) := by decide +kernel
theorem dX12_fault_28 : decode cX12_fault 28 = .ok (.aload_n 0, 1) := by decide +kernel
theorem dX12_fault_29 : decode cX12_fault 29 = .ok (.getfield 16, 3) := by decide +kernel
theorem dX12_fault_32 : decode cX12_fault 32 = .ok (.aload_n 0, 1) := by decide +kernel
theorem dX12_fault_33 : decode cX12_fault 33 = .ok (.getfield 7, 3) := by decide +kernel
theorem dX12_fault_36 : decode cX12_fault 36 = .ok (.invokestatic 235, 3) := by decide +kernel
theorem dX12_fault_39 : decode cX12_fault 39 = .ok (.iload_n 2, 1) := by decide +kernel
theorem dX12_fault_40 : decode cX12_fault 40 = .ok (.ifCond .eq 8, 3) := by decide +kernel
theorem dX12_fault_43 : decode cX12_fault 43 = .ok (.ldc 85, 2) := by decide +kernel
theorem dX12_fault_45 : decode cX12_fault 45 = .ok (.goto 30, 3) := by decide +kernel
theorem dX12_fault_48 : decode cX12_fault 48 = .ok (.iload_n 1, 1) := by decide +kernel
theorem dX12_fault_49 : decode cX12_fault 49 = .ok (.ifCond .ne 10, 3) := by decide +kernel
theorem dX12_fault_52 : decode cX12_fault 52 = .ok (.aload_n 0, 1) := by decide +kernel
theorem dX12_fault_53 : decode cX12_fault 53 = .ok (.getfield 216, 3) := by decide +kernel
theorem dX12_fault_56 : decode cX12_fault 56 = .ok (.goto 19, 3) := by decide +kernel
theorem dX12_fault_59 : decode cX12_fault 59 = .ok (.iload_n 1, 1) := by decide +kernel
theorem dX12_fault_60 : decode cX12_fault 60 = .ok (.iconst 1, 1) := by decide +kernel
theorem dX12_fault_61 : decode cX12_fault 61 = .ok (.if_icmp .ne 10, 3) := by decide +kernel
theorem dX12_fault_64 : decode cX12_fault 64 = .ok (.aload_n 0, 1) := by decide +kernel
theorem dX12_fault_65 : decode cX12_fault 65 = .ok (.getfield 229, 3) := by decide +kernel
theorem dX12_fault_68 : decode cX12_fault 68 = .ok (.goto 7, 3) := by decide +kernel
theorem dX12_fault_71 : decode cX12_fault 71 = .ok (.aload_n 0, 1) := by decide +kernel
theorem dX12_fault_72 : decode cX12_fault 72 = .ok (.getfield 232, 3) := by decide +kernel
theorem dX12_fault_75 : decode cX12_fault 75 = .ok (.ireturn, 1) := by decide +kernel
theorem dX12_play_0 : decode cX12_play 0 = .ok (.aload_n 0, 1) := by decide +kernel
theorem dX12_play_1 : decode cX12_play 1 = .ok (.getfield 7, 3) := by decide +kernel
theorem dX12_play_4 : decode cX12_play 4 = .ok (.aload_n 0, 1) := by decide +kernel
theorem dX12_play_5 : decode cX12_play 5 = .ok (.getfield 16, 3) := by decide +kernel
theorem dX12_play_8 : decode cX12_play 8 = .ok (.invokestatic 235, 3) := by decide +kernel
theorem dX12_play_11 : decode cX12_play 11 = .ok (.aload_n 0, 1) := by decide +kernel
theorem dX12_play_12 : decode cX12_play 12 = .ok (.invokevirtual 239, 3) := by decide +kernel
theorem dX12_play_15 : decode cX12_play 15 = .ok (.istore_n 1, 1) := by decide +kernel
theorem dX12_play_16 : decode cX12_play 16 = .ok (.aload_n 0, 1) := by decide +kernel
theorem dX12_play_17 : decode cX12_play 17 = .ok (.getfield 16, 3) := by decide +kernel
theorem dX12_play_20 : decode cX12_play 20 = .ok (.aload_n 0, 1) := by decide +kernel
theorem dX12_play_21 : decode cX12_play 21 = .ok (.getfield 7, 3) := by decide +kernel
theorem dX12_play_24 : decode cX12_play 24 = .ok (.invokestatic 235, 3) := by decide +kernel
theorem dX12_play_27 : decode cX12_play 27 = .ok (.iload_n 1, 1) := by decide +kernel
theorem dX12_play_28 : decode cX12_play 28 = .ok (.ifCond .ne 6, 3) := by decide +kernel
theorem dX12_play_31 : decode cX12_play 31 = .ok (.ldc 76, 2) := by decide +kernel
theorem dX12_play_33 : decode cX12_play 33 = .ok (.ireturn, 1) := by decide +kernel
theorem dX12_play_34 : decode cX12_play 34 = .ok (.aload_n 0, 1) := by decide +kernel
theorem dX12_play_35 : decode cX12_play 35 = .ok (.invokevirtual 78, 3) := by decide +kernel
theorem dX12_play_38 : decode cX12_play 38 = .ok (.aload_n 0, 1) := by decide +kernel
theorem dX12_play_39 : decode cX12_play 39 = .ok (.invokevirtual 239, 3) := by decide +kernel
theorem dX12_play_42 : decode cX12_play 42 = .ok (.ifCond .eq 10, 3) := by decide +kernel
theorem dX12_play_45 : decode cX12_play 45 = .ok (.aload_n 0, 1) := by decide +kernel
theorem dX12_play_46 : decode cX12_play 46 = .ok (.getfield 219, 3) := by decide +kernel
theorem dX12_play_49 : decode cX12_play 49 = .ok (.goto 5, 3) := by decide +kernel
theorem dX12_play_52 : decode cX12_play 52 = .ok (.ldc 85, 2) := by decide +kernel
theorem dX12_play_54 : decode cX12_play 54 = .ok (.ireturn, 1) := by decide +kernel
theorem dJxf58ca_isNaN_12338_0 : decode cJxf58ca_isNaN_12338 0 = .ok (.fload_n 0, 1) := by decide +kernel
theorem dJxf58ca_isNaN_12338_1 : decode cJxf58ca_isNaN_12338 1 = .ok (.fload_n 0, 1) := by decide +kernel
theorem dJxf58ca_isNaN_12338_2 : decode cJxf58ca_isNaN_12338 2 = .ok (.fcmp .l, 1) := by decide +kernel
theorem dJxf58ca_isNaN_12338_3 : decode cJxf58ca_isNaN_12338 3 = .ok (.ifCond .eq 7, 3) := by decide +kernel
theorem dJxf58ca_isNaN_12338_6 : decode cJxf58ca_isNaN_12338 6 = .ok (.iconst 1, 1) := by decide +kernel
theorem dJxf58ca_isNaN_12338_7 : decode cJxf58ca_isNaN_12338 7 = .ok (.goto 4, 3) := by decide +kernel
theorem dJxf58ca_isNaN_12338_10 : decode cJxf58ca_isNaN_12338 10 = .ok (.iconst 0, 1) := by decide +kernel
theorem dJxf58ca_isNaN_12338_11 : decode cJxf58ca_isNaN_12338 11 = .ok (.ireturn, 1) := by decide +kernel
theorem dJxf58ca_floatToIntBits_5c35a_0 : decode cJxf58ca_floatToIntBits_5c35a 0 = .ok (.fload_n 0, 1) := by decide +kernel
theorem dJxf58ca_floatToIntBits_5c35a_1 : decode cJxf58ca_floatToIntBits_5c35a 1 = .ok (.invokestatic 59, 3) := by decide +kernel
theorem dJxf58ca_floatToIntBits_5c35a_4 : decode cJxf58ca_floatToIntBits_5c35a 4 = .ok (.ifCond .ne 8, 3) := by decide +kernel
theorem dJxf58ca_floatToIntBits_5c35a_7 : decode cJxf58ca_floatToIntBits_5c35a 7 = .ok (.fload_n 0, 1) := by decide +kernel
theorem dJxf58ca_floatToIntBits_5c35a_8 : decode cJxf58ca_floatToIntBits_5c35a 8 = .ok (.invokestatic 74, 3) := by decide +kernel
theorem dJxf58ca_floatToIntBits_5c35a_11 : decode cJxf58ca_floatToIntBits_5c35a 11 = .ok (.ireturn, 1) := by decide +kernel
theorem dJxf58ca_floatToIntBits_5c35a_12 : decode cJxf58ca_floatToIntBits_5c35a 12 = .ok (.ldc 77, 2) := by decide +kernel
theorem dJxf58ca_floatToIntBits_5c35a_14 : decode cJxf58ca_floatToIntBits_5c35a 14 = .ok (.ireturn, 1) := by decide +kernel
theorem dL_law_0 : decode cL_law 0 = .ok (.new 7, 3) := by decide +kernel
theorem dL_law_3 : decode cL_law 3 = .ok (.dup, 1) := by decide +kernel
theorem dL_law_4 : decode cL_law 4 = .ok (.invokespecial 9, 3) := by decide +kernel
theorem dL_law_7 : decode cL_law 7 = .ok (.astore_n 1, 1) := by decide +kernel
theorem dL_law_8 : decode cL_law 8 = .ok (.new 10, 3) := by decide +kernel
theorem dL_law_11 : decode cL_law 11 = .ok (.dup, 1) := by decide +kernel
theorem dL_law_12 : decode cL_law 12 = .ok (.invokespecial 12, 3) := by decide +kernel
theorem dL_law_15 : decode cL_law 15 = .ok (.astore_n 2, 1) := by decide +kernel
theorem dL_law_16 : decode cL_law 16 = .ok (.iconst 0, 1) := by decide +kernel
theorem dL_law_17 : decode cL_law 17 = .ok (.istore_n 3, 1) := by decide +kernel
theorem dL_law_18 : decode cL_law 18 = .ok (.iload_n 3, 1) := by decide +kernel
theorem dL_law_19 : decode cL_law 19 = .ok (.aload_n 0, 1) := by decide +kernel
theorem dL_law_20 : decode cL_law 20 = .ok (.arraylength, 1) := by decide +kernel
theorem dL_law_21 : decode cL_law 21 = .ok (.iconst 3, 1) := by decide +kernel
theorem dL_law_22 : decode cL_law 22 = .ok (.isub, 1) := by decide +kernel
theorem dL_law_23 : decode cL_law 23 = .ok (.if_icmp .gt 696, 3) := by decide +kernel
theorem dL_law_26 : decode cL_law 26 = .ok (.aload_n 0, 1) := by decide +kernel
theorem dL_law_27 : decode cL_law 27 = .ok (.iload_n 3, 1) := by decide +kernel
theorem dL_law_28 : decode cL_law 28 = .ok (.iaload, 1) := by decide +kernel
theorem dL_law_29 : decode cL_law 29 = .ok (.bipush 31, 2) := by decide +kernel
theorem dL_law_31 : decode cL_law 31 = .ok (.iand, 1) := by decide +kernel
theorem dL_law_32 : decode cL_law 32 = .ok (.tableswitch 681 0 24 #[116, 149, 172, 205, 218, 251, 264, 277, 290, 323, 356, 389, 412, 435, 468, 501, 514, 537, 560, 573, 596, 609, 632, 645, 668], 116) := by decide +kernel
theorem dL_law_148 : decode cL_law 148 = .ok (.aload_n 1, 1) := by decide +kernel
theorem dL_law_149 : decode cL_law 149 = .ok (.aload_n 0, 1) := by decide +kernel
theorem dL_law_150 : decode cL_law 150 = .ok (.iload_n 3, 1) := by decide +kernel
theorem dL_law_151 : decode cL_law 151 = .ok (.iconst 1, 1) := by decide +kernel
theorem dL_law_152 : decode cL_law 152 = .ok (.iadd, 1) := by decide +kernel
theorem dL_law_153 : decode cL_law 153 = .ok (.iaload, 1) := by decide +kernel
theorem dL_law_154 : decode cL_law 154 = .ok (.aload_n 0, 1) := by decide +kernel
theorem dL_law_155 : decode cL_law 155 = .ok (.iload_n 3, 1) := by decide +kernel
theorem dL_law_156 : decode cL_law 156 = .ok (.iconst 2, 1) := by decide +kernel
theorem dL_law_157 : decode cL_law 157 = .ok (.iadd, 1) := by decide +kernel
theorem dL_law_158 : decode cL_law 158 = .ok (.iaload, 1) := by decide +kernel
theorem dL_law_159 : decode cL_law 159 = .ok (.invokevirtual 13, 3) := by decide +kernel
theorem dL_law_162 : decode cL_law 162 = .ok (.aload_n 2, 1) := by decide +kernel
theorem dL_law_163 : decode cL_law 163 = .ok (.aload_n 0, 1) := by decide +kernel
theorem dL_law_164 : decode cL_law 164 = .ok (.iload_n 3, 1) := by decide +kernel
theorem dL_law_165 : decode cL_law 165 = .ok (.iconst 1, 1) := by decide +kernel
theorem dL_law_166 : decode cL_law 166 = .ok (.iadd, 1) := by decide +kernel
theorem dL_law_167 : decode cL_law 167 = .ok (.iaload, 1) := by decide +kernel
theorem dL_law_168 : decode cL_law 168 = .ok (.aload_n 0, 1) := by decide +kernel
theorem dL_law_169 : decode cL_law 169 = .ok (.iload_n 3, 1) := by decide +kernel
theorem dL_law_170 : decode cL_law 170 = .ok (.iconst 2, 1) := by decide +kernel
theorem dL_law_171 : decode cL_law 171 = .ok (.iadd, 1) := by decide +kernel
theorem dL_law_172 : decode cL_law 172 = .ok (.iaload, 1) := by decide +kernel
theorem dL_law_173 : decode cL_law 173 = .ok (.invokevirtual 17, 3) := by decide +kernel
theorem dL_law_176 : decode cL_law 176 = .ok (.if_icmp .eq 537, 3) := by decide +kernel
theorem dL_law_179 : decode cL_law 179 = .ok (.iconst 0, 1) := by decide +kernel
theorem dL_law_180 : decode cL_law 180 = .ok (.ireturn, 1) := by decide +kernel
theorem dL_law_181 : decode cL_law 181 = .ok (.aload_n 1, 1) := by decide +kernel
theorem dL_law_182 : decode cL_law 182 = .ok (.aload_n 0, 1) := by decide +kernel
theorem dL_law_183 : decode cL_law 183 = .ok (.iload_n 3, 1) := by decide +kernel
theorem dL_law_184 : decode cL_law 184 = .ok (.iconst 1, 1) := by decide +kernel
theorem dL_law_185 : decode cL_law 185 = .ok (.iadd, 1) := by decide +kernel
theorem dL_law_186 : decode cL_law 186 = .ok (.iaload, 1) := by decide +kernel
theorem dL_law_187 : decode cL_law 187 = .ok (.invokevirtual 18, 3) := by decide +kernel
theorem dL_law_190 : decode cL_law 190 = .ok (.aload_n 2, 1) := by decide +kernel
theorem dL_law_191 : decode cL_law 191 = .ok (.aload_n 0, 1) := by decide +kernel
theorem dL_law_192 : decode cL_law 192 = .ok (.iload_n 3, 1) := by decide +kernel
theorem dL_law_193 : decode cL_law 193 = .ok (.iconst 1, 1) := by decide +kernel
theorem dL_law_194 : decode cL_law 194 = .ok (.iadd, 1) := by decide +kernel
theorem dL_law_195 : decode cL_law 195 = .ok (.iaload, 1) := by decide +kernel
theorem dL_law_196 : decode cL_law 196 = .ok (.invokevirtual 22, 3) := by decide +kernel
theorem dL_law_199 : decode cL_law 199 = .ok (.if_icmp .eq 514, 3) := by decide +kernel
theorem dL_law_202 : decode cL_law 202 = .ok (.iconst 0, 1) := by decide +kernel
theorem dL_law_203 : decode cL_law 203 = .ok (.ireturn, 1) := by decide +kernel
theorem dL_law_204 : decode cL_law 204 = .ok (.aload_n 1, 1) := by decide +kernel
theorem dL_law_205 : decode cL_law 205 = .ok (.aload_n 0, 1) := by decide +kernel
theorem dL_law_206 : decode cL_law 206 = .ok (.iload_n 3, 1) := by decide +kernel
theorem dL_law_207 : decode cL_law 207 = .ok (.iconst 1, 1) := by decide +kernel
theorem dL_law_208 : decode cL_law 208 = .ok (.iadd, 1) := by decide +kernel
theorem dL_law_209 : decode cL_law 209 = .ok (.iaload, 1) := by decide +kernel
theorem dL_law_210 : decode cL_law 210 = .ok (.aload_n 0, 1) := by decide +kernel
theorem dL_law_211 : decode cL_law 211 = .ok (.iload_n 3, 1) := by decide +kernel
theorem dL_law_212 : decode cL_law 212 = .ok (.iconst 2, 1) := by decide +kernel
theorem dL_law_213 : decode cL_law 213 = .ok (.iadd, 1) := by decide +kernel
theorem dL_law_214 : decode cL_law 214 = .ok (.iaload, 1) := by decide +kernel
theorem dL_law_215 : decode cL_law 215 = .ok (.invokevirtual 23, 3) := by decide +kernel
theorem dL_law_218 : decode cL_law 218 = .ok (.aload_n 2, 1) := by decide +kernel
theorem dL_law_219 : decode cL_law 219 = .ok (.aload_n 0, 1) := by decide +kernel
theorem dL_law_220 : decode cL_law 220 = .ok (.iload_n 3, 1) := by decide +kernel
theorem dL_law_221 : decode cL_law 221 = .ok (.iconst 1, 1) := by decide +kernel
theorem dL_law_222 : decode cL_law 222 = .ok (.iadd, 1) := by decide +kernel
theorem dL_law_223 : decode cL_law 223 = .ok (.iaload, 1) := by decide +kernel
theorem dL_law_224 : decode cL_law 224 = .ok (.aload_n 0, 1) := by decide +kernel
theorem dL_law_225 : decode cL_law 225 = .ok (.iload_n 3, 1) := by decide +kernel
theorem dL_law_226 : decode cL_law 226 = .ok (.iconst 2, 1) := by decide +kernel
theorem dL_law_227 : decode cL_law 227 = .ok (.iadd, 1) := by decide +kernel
theorem dL_law_228 : decode cL_law 228 = .ok (.iaload, 1) := by decide +kernel
theorem dL_law_229 : decode cL_law 229 = .ok (.invokevirtual 26, 3) := by decide +kernel
theorem dL_law_232 : decode cL_law 232 = .ok (.if_icmp .eq 481, 3) := by decide +kernel
theorem dL_law_235 : decode cL_law 235 = .ok (.iconst 0, 1) := by decide +kernel
theorem dL_law_236 : decode cL_law 236 = .ok (.ireturn, 1) := by decide +kernel
theorem dL_law_237 : decode cL_law 237 = .ok (.aload_n 1, 1) := by decide +kernel
theorem dL_law_238 : decode cL_law 238 = .ok (.invokevirtual 27, 3) := by decide +kernel
theorem dL_law_241 : decode cL_law 241 = .ok (.aload_n 2, 1) := by decide +kernel
theorem dL_law_242 : decode cL_law 242 = .ok (.invokevirtual 31, 3) := by decide +kernel
theorem dL_law_245 : decode cL_law 245 = .ok (.if_icmp .eq 468, 3) := by decide +kernel
theorem dL_law_248 : decode cL_law 248 = .ok (.iconst 0, 1) := by decide +kernel
theorem dL_law_249 : decode cL_law 249 = .ok (.ireturn, 1) := by decide +kernel
theorem dL_law_250 : decode cL_law 250 = .ok (.aload_n 1, 1) := by decide +kernel
theorem dL_law_251 : decode cL_law 251 = .ok (.aload_n 0, 1) := by decide +kernel
theorem dL_law_252 : decode cL_law 252 = .ok (.iload_n 3, 1) := by decide +kernel
theorem dL_law_253 : decode cL_law 253 = .ok (.iconst 1, 1) := by decide +kernel
theorem dL_law_254 : decode cL_law 254 = .ok (.iadd, 1) := by decide +kernel
theorem dL_law_255 : decode cL_law 255 = .ok (.iaload, 1) := by decide +kernel
theorem dL_law_256 : decode cL_law 256 = .ok (.aload_n 0, 1) := by decide +kernel
theorem dL_law_257 : decode cL_law 257 = .ok (.iload_n 3, 1) := by decide +kernel
theorem dL_law_258 : decode cL_law 258 = .ok (.iconst 2, 1) := by decide +kernel
theorem dL_law_259 : decode cL_law 259 = .ok (.iadd, 1) := by decide +kernel
theorem dL_law_260 : decode cL_law 260 = .ok (.iaload, 1) := by decide +kernel
theorem dL_law_261 : decode cL_law 261 = .ok (.invokevirtual 32, 3) := by decide +kernel
theorem dL_law_264 : decode cL_law 264 = .ok (.aload_n 2, 1) := by decide +kernel
theorem dL_law_265 : decode cL_law 265 = .ok (.aload_n 0, 1) := by decide +kernel
theorem dL_law_266 : decode cL_law 266 = .ok (.iload_n 3, 1) := by decide +kernel
theorem dL_law_267 : decode cL_law 267 = .ok (.iconst 1, 1) := by decide +kernel
theorem dL_law_268 : decode cL_law 268 = .ok (.iadd, 1) := by decide +kernel
theorem dL_law_269 : decode cL_law 269 = .ok (.iaload, 1) := by decide +kernel
theorem dL_law_270 : decode cL_law 270 = .ok (.aload_n 0, 1) := by decide +kernel
theorem dL_law_271 : decode cL_law 271 = .ok (.iload_n 3, 1) := by decide +kernel
theorem dL_law_272 : decode cL_law 272 = .ok (.iconst 2, 1) := by decide +kernel
theorem dL_law_273 : decode cL_law 273 = .ok (.iadd, 1) := by decide +kernel
theorem dL_law_274 : decode cL_law 274 = .ok (.iaload, 1) := by decide +kernel
theorem dL_law_275 : decode cL_law 275 = .ok (.invokevirtual 35, 3) := by decide +kernel
theorem dL_law_278 : decode cL_law 278 = .ok (.if_icmp .eq 435, 3) := by decide +kernel
theorem dL_law_281 : decode cL_law 281 = .ok (.iconst 0, 1) := by decide +kernel
theorem dL_law_282 : decode cL_law 282 = .ok (.ireturn, 1) := by decide +kernel
theorem dL_law_283 : decode cL_law 283 = .ok (.aload_n 1, 1) := by decide +kernel
theorem dL_law_284 : decode cL_law 284 = .ok (.invokevirtual 36, 3) := by decide +kernel
theorem dL_law_287 : decode cL_law 287 = .ok (.aload_n 2, 1) := by decide +kernel
theorem dL_law_288 : decode cL_law 288 = .ok (.invokevirtual 39, 3) := by decide +kernel
theorem dL_law_291 : decode cL_law 291 = .ok (.if_icmp .eq 422, 3) := by decide +kernel
theorem dL_law_294 : decode cL_law 294 = .ok (.iconst 0, 1) := by decide +kernel
theorem dL_law_295 : decode cL_law 295 = .ok (.ireturn, 1) := by decide +kernel
theorem dL_law_296 : decode cL_law 296 = .ok (.aload_n 1, 1) := by decide +kernel
theorem dL_law_297 : decode cL_law 297 = .ok (.invokevirtual 40, 3) := by decide +kernel
theorem dL_law_300 : decode cL_law 300 = .ok (.aload_n 2, 1) := by decide +kernel
theorem dL_law_301 : decode cL_law 301 = .ok (.invokevirtual 43, 3) := by decide +kernel
theorem dL_law_304 : decode cL_law 304 = .ok (.if_icmp .eq 409, 3) := by decide +kernel
theorem dL_law_307 : decode cL_law 307 = .ok (.iconst 0, 1) := by decide +kernel
theorem dL_law_308 : decode cL_law 308 = .ok (.ireturn, 1) := by decide +kernel
theorem dL_law_309 : decode cL_law 309 = .ok (.aload_n 1, 1) := by decide +kernel
theorem dL_law_310 : decode cL_law 310 = .ok (.invokevirtual 44, 3) := by decide +kernel
theorem dL_law_313 : decode cL_law 313 = .ok (.aload_n 2, 1) := by decide +kernel
theorem dL_law_314 : decode cL_law 314 = .ok (.invokevirtual 47, 3) := by decide +kernel
theorem dL_law_317 : decode cL_law 317 = .ok (.if_icmp .eq 396, 3) := by decide +kernel
theorem dL_law_320 : decode cL_law 320 = .ok (.iconst 0, 1) := by decide +kernel
theorem dL_law_321 : decode cL_law 321 = .ok (.ireturn, 1) := by decide +kernel
theorem dL_law_322 : decode cL_law 322 = .ok (.aload_n 1, 1) := by decide +kernel
theorem dL_law_323 : decode cL_law 323 = .ok (.aload_n 0, 1) := by decide +kernel
theorem dL_law_324 : decode cL_law 324 = .ok (.iload_n 3, 1) := by decide +kernel
theorem dL_law_325 : decode cL_law 325 = .ok (.iconst 1, 1) := by decide +kernel
theorem dL_law_326 : decode cL_law 326 = .ok (.iadd, 1) := by decide +kernel
theorem dL_law_327 : decode cL_law 327 = .ok (.iaload, 1) := by decide +kernel
theorem dL_law_328 : decode cL_law 328 = .ok (.aload_n 0, 1) := by decide +kernel
theorem dL_law_329 : decode cL_law 329 = .ok (.iload_n 3, 1) := by decide +kernel
theorem dL_law_330 : decode cL_law 330 = .ok (.iconst 2, 1) := by decide +kernel
theorem dL_law_331 : decode cL_law 331 = .ok (.iadd, 1) := by decide +kernel
theorem dL_law_332 : decode cL_law 332 = .ok (.iaload, 1) := by decide +kernel
theorem dL_law_333 : decode cL_law 333 = .ok (.invokevirtual 48, 3) := by decide +kernel
theorem dL_law_336 : decode cL_law 336 = .ok (.aload_n 2, 1) := by decide +kernel
theorem dL_law_337 : decode cL_law 337 = .ok (.aload_n 0, 1) := by decide +kernel
theorem dL_law_338 : decode cL_law 338 = .ok (.iload_n 3, 1) := by decide +kernel
theorem dL_law_339 : decode cL_law 339 = .ok (.iconst 1, 1) := by decide +kernel
theorem dL_law_340 : decode cL_law 340 = .ok (.iadd, 1) := by decide +kernel
theorem dL_law_341 : decode cL_law 341 = .ok (.iaload, 1) := by decide +kernel
theorem dL_law_342 : decode cL_law 342 = .ok (.aload_n 0, 1) := by decide +kernel
theorem dL_law_343 : decode cL_law 343 = .ok (.iload_n 3, 1) := by decide +kernel
theorem dL_law_344 : decode cL_law 344 = .ok (.iconst 2, 1) := by decide +kernel
theorem dL_law_345 : decode cL_law 345 = .ok (.iadd, 1) := by decide +kernel
theorem dL_law_346 : decode cL_law 346 = .ok (.iaload, 1) := by decide +kernel
theorem dL_law_347 : decode cL_law 347 = .ok (.invokevirtual 51, 3) := by decide +kernel
theorem dL_law_350 : decode cL_law 350 = .ok (.if_icmp .eq 363, 3) := by decide +kernel
theorem dL_law_353 : decode cL_law 353 = .ok (.iconst 0, 1) := by decide +kernel
theorem dL_law_354 : decode cL_law 354 = .ok (.ireturn, 1) := by decide +kernel
theorem dL_law_355 : decode cL_law 355 = .ok (.aload_n 1, 1) := by decide +kernel
theorem dL_law_356 : decode cL_law 356 = .ok (.aload_n 0, 1) := by decide +kernel
theorem dL_law_357 : decode cL_law 357 = .ok (.iload_n 3, 1) := by decide +kernel
theorem dL_law_358 : decode cL_law 358 = .ok (.iconst 1, 1) := by decide +kernel
theorem dL_law_359 : decode cL_law 359 = .ok (.iadd, 1) := by decide +kernel
theorem dL_law_360 : decode cL_law 360 = .ok (.iaload, 1) := by decide +kernel
theorem dL_law_361 : decode cL_law 361 = .ok (.aload_n 0, 1) := by decide +kernel
theorem dL_law_362 : decode cL_law 362 = .ok (.iload_n 3, 1) := by decide +kernel
theorem dL_law_363 : decode cL_law 363 = .ok (.iconst 2, 1) := by decide +kernel
theorem dL_law_364 : decode cL_law 364 = .ok (.iadd, 1) := by decide +kernel
theorem dL_law_365 : decode cL_law 365 = .ok (.iaload, 1) := by decide +kernel
theorem dL_law_366 : decode cL_law 366 = .ok (.invokevirtual 52, 3) := by decide +kernel
theorem dL_law_369 : decode cL_law 369 = .ok (.aload_n 2, 1) := by decide +kernel
theorem dL_law_370 : decode cL_law 370 = .ok (.aload_n 0, 1) := by decide +kernel
theorem dL_law_371 : decode cL_law 371 = .ok (.iload_n 3, 1) := by decide +kernel
theorem dL_law_372 : decode cL_law 372 = .ok (.iconst 1, 1) := by decide +kernel
theorem dL_law_373 : decode cL_law 373 = .ok (.iadd, 1) := by decide +kernel
theorem dL_law_374 : decode cL_law 374 = .ok (.iaload, 1) := by decide +kernel
theorem dL_law_375 : decode cL_law 375 = .ok (.aload_n 0, 1) := by decide +kernel
theorem dL_law_376 : decode cL_law 376 = .ok (.iload_n 3, 1) := by decide +kernel
theorem dL_law_377 : decode cL_law 377 = .ok (.iconst 2, 1) := by decide +kernel
theorem dL_law_378 : decode cL_law 378 = .ok (.iadd, 1) := by decide +kernel
theorem dL_law_379 : decode cL_law 379 = .ok (.iaload, 1) := by decide +kernel
theorem dL_law_380 : decode cL_law 380 = .ok (.invokevirtual 55, 3) := by decide +kernel
theorem dL_law_383 : decode cL_law 383 = .ok (.if_icmp .eq 330, 3) := by decide +kernel
theorem dL_law_386 : decode cL_law 386 = .ok (.iconst 0, 1) := by decide +kernel
theorem dL_law_387 : decode cL_law 387 = .ok (.ireturn, 1) := by decide +kernel
theorem dL_law_388 : decode cL_law 388 = .ok (.aload_n 1, 1) := by decide +kernel
theorem dL_law_389 : decode cL_law 389 = .ok (.aload_n 0, 1) := by decide +kernel
theorem dL_law_390 : decode cL_law 390 = .ok (.iload_n 3, 1) := by decide +kernel
theorem dL_law_391 : decode cL_law 391 = .ok (.iconst 1, 1) := by decide +kernel
theorem dL_law_392 : decode cL_law 392 = .ok (.iadd, 1) := by decide +kernel
theorem dL_law_393 : decode cL_law 393 = .ok (.iaload, 1) := by decide +kernel
theorem dL_law_394 : decode cL_law 394 = .ok (.aload_n 0, 1) := by decide +kernel
theorem dL_law_395 : decode cL_law 395 = .ok (.iload_n 3, 1) := by decide +kernel
theorem dL_law_396 : decode cL_law 396 = .ok (.iconst 2, 1) := by decide +kernel
theorem dL_law_397 : decode cL_law 397 = .ok (.iadd, 1) := by decide +kernel
theorem dL_law_398 : decode cL_law 398 = .ok (.iaload, 1) := by decide +kernel
theorem dL_law_399 : decode cL_law 399 = .ok (.invokevirtual 56, 3) := by decide +kernel
theorem dL_law_402 : decode cL_law 402 = .ok (.aload_n 2, 1) := by decide +kernel
theorem dL_law_403 : decode cL_law 403 = .ok (.aload_n 0, 1) := by decide +kernel
theorem dL_law_404 : decode cL_law 404 = .ok (.iload_n 3, 1) := by decide +kernel
theorem dL_law_405 : decode cL_law 405 = .ok (.iconst 1, 1) := by decide +kernel
theorem dL_law_406 : decode cL_law 406 = .ok (.iadd, 1) := by decide +kernel
theorem dL_law_407 : decode cL_law 407 = .ok (.iaload, 1) := by decide +kernel
theorem dL_law_408 : decode cL_law 408 = .ok (.aload_n 0, 1) := by decide +kernel
theorem dL_law_409 : decode cL_law 409 = .ok (.iload_n 3, 1) := by decide +kernel
theorem dL_law_410 : decode cL_law 410 = .ok (.iconst 2, 1) := by decide +kernel
theorem dL_law_411 : decode cL_law 411 = .ok (.iadd, 1) := by decide +kernel
theorem dL_law_412 : decode cL_law 412 = .ok (.iaload, 1) := by decide +kernel
theorem dL_law_413 : decode cL_law 413 = .ok (.invokevirtual 59, 3) := by decide +kernel
theorem dL_law_416 : decode cL_law 416 = .ok (.if_icmp .eq 297, 3) := by decide +kernel
theorem dL_law_419 : decode cL_law 419 = .ok (.iconst 0, 1) := by decide +kernel
theorem dL_law_420 : decode cL_law 420 = .ok (.ireturn, 1) := by decide +kernel
theorem dL_law_421 : decode cL_law 421 = .ok (.aload_n 1, 1) := by decide +kernel
theorem dL_law_422 : decode cL_law 422 = .ok (.aload_n 0, 1) := by decide +kernel
theorem dL_law_423 : decode cL_law 423 = .ok (.iload_n 3, 1) := by decide +kernel
theorem dL_law_424 : decode cL_law 424 = .ok (.iconst 1, 1) := by decide +kernel
theorem dL_law_425 : decode cL_law 425 = .ok (.iadd, 1) := by decide +kernel
theorem dL_law_426 : decode cL_law 426 = .ok (.iaload, 1) := by decide +kernel
theorem dL_law_427 : decode cL_law 427 = .ok (.invokevirtual 60, 3) := by decide +kernel
theorem dL_law_430 : decode cL_law 430 = .ok (.aload_n 2, 1) := by decide +kernel
theorem dL_law_431 : decode cL_law 431 = .ok (.aload_n 0, 1) := by decide +kernel
theorem dL_law_432 : decode cL_law 432 = .ok (.iload_n 3, 1) := by decide +kernel
theorem dL_law_433 : decode cL_law 433 = .ok (.iconst 1, 1) := by decide +kernel
theorem dL_law_434 : decode cL_law 434 = .ok (.iadd, 1) := by decide +kernel
theorem dL_law_435 : decode cL_law 435 = .ok (.iaload, 1) := by decide +kernel
theorem dL_law_436 : decode cL_law 436 = .ok (.invokevirtual 63, 3) := by decide +kernel
theorem dL_law_439 : decode cL_law 439 = .ok (.if_icmp .eq 274, 3) := by decide +kernel
theorem dL_law_442 : decode cL_law 442 = .ok (.iconst 0, 1) := by decide +kernel
theorem dL_law_443 : decode cL_law 443 = .ok (.ireturn, 1) := by decide +kernel
theorem dL_law_444 : decode cL_law 444 = .ok (.aload_n 1, 1) := by decide +kernel
theorem dL_law_445 : decode cL_law 445 = .ok (.aload_n 0, 1) := by decide +kernel
theorem dL_law_446 : decode cL_law 446 = .ok (.iload_n 3, 1) := by decide +kernel
theorem dL_law_447 : decode cL_law 447 = .ok (.iconst 1, 1) := by decide +kernel
theorem dL_law_448 : decode cL_law 448 = .ok (.iadd, 1) := by decide +kernel
theorem dL_law_449 : decode cL_law 449 = .ok (.iaload, 1) := by decide +kernel
theorem dL_law_450 : decode cL_law 450 = .ok (.invokevirtual 64, 3) := by decide +kernel
theorem dL_law_453 : decode cL_law 453 = .ok (.aload_n 2, 1) := by decide +kernel
theorem dL_law_454 : decode cL_law 454 = .ok (.aload_n 0, 1) := by decide +kernel
theorem dL_law_455 : decode cL_law 455 = .ok (.iload_n 3, 1) := by decide +kernel
theorem dL_law_456 : decode cL_law 456 = .ok (.iconst 1, 1) := by decide +kernel
theorem dL_law_457 : decode cL_law 457 = .ok (.iadd, 1) := by decide +kernel
theorem dL_law_458 : decode cL_law 458 = .ok (.iaload, 1) := by decide +kernel
theorem dL_law_459 : decode cL_law 459 = .ok (.invokevirtual 67, 3) := by decide +kernel
theorem dL_law_462 : decode cL_law 462 = .ok (.if_icmp .eq 251, 3) := by decide +kernel
theorem dL_law_465 : decode cL_law 465 = .ok (.iconst 0, 1) := by decide +kernel
theorem dL_law_466 : decode cL_law 466 = .ok (.ireturn, 1) := by decide +kernel
theorem dL_law_467 : decode cL_law 467 = .ok (.aload_n 1, 1) := by decide +kernel
theorem dL_law_468 : decode cL_law 468 = .ok (.aload_n 0, 1) := by decide +kernel
theorem dL_law_469 : decode cL_law 469 = .ok (.iload_n 3, 1) := by decide +kernel
theorem dL_law_470 : decode cL_law 470 = .ok (.iconst 1, 1) := by decide +kernel
theorem dL_law_471 : decode cL_law 471 = .ok (.iadd, 1) := by decide +kernel
theorem dL_law_472 : decode cL_law 472 = .ok (.iaload, 1) := by decide +kernel
theorem dL_law_473 : decode cL_law 473 = .ok (.aload_n 0, 1) := by decide +kernel
theorem dL_law_474 : decode cL_law 474 = .ok (.iload_n 3, 1) := by decide +kernel
theorem dL_law_475 : decode cL_law 475 = .ok (.iconst 2, 1) := by decide +kernel
theorem dL_law_476 : decode cL_law 476 = .ok (.iadd, 1) := by decide +kernel
theorem dL_law_477 : decode cL_law 477 = .ok (.iaload, 1) := by decide +kernel
theorem dL_law_478 : decode cL_law 478 = .ok (.invokevirtual 68, 3) := by decide +kernel
theorem dL_law_481 : decode cL_law 481 = .ok (.aload_n 2, 1) := by decide +kernel
theorem dL_law_482 : decode cL_law 482 = .ok (.aload_n 0, 1) := by decide +kernel
theorem dL_law_483 : decode cL_law 483 = .ok (.iload_n 3, 1) := by decide +kernel
theorem dL_law_484 : decode cL_law 484 = .ok (.iconst 1, 1) := by decide +kernel
theorem dL_law_485 : decode cL_law 485 = .ok (.iadd, 1) := by decide +kernel
theorem dL_law_486 : decode cL_law 486 = .ok (.iaload, 1) := by decide +kernel
theorem dL_law_487 : decode cL_law 487 = .ok (.aload_n 0, 1) := by decide +kernel
theorem dL_law_488 : decode cL_law 488 = .ok (.iload_n 3, 1) := by decide +kernel
theorem dL_law_489 : decode cL_law 489 = .ok (.iconst 2, 1) := by decide +kernel
theorem dL_law_490 : decode cL_law 490 = .ok (.iadd, 1) := by decide +kernel
theorem dL_law_491 : decode cL_law 491 = .ok (.iaload, 1) := by decide +kernel
theorem dL_law_492 : decode cL_law 492 = .ok (.invokevirtual 71, 3) := by decide +kernel
theorem dL_law_495 : decode cL_law 495 = .ok (.if_icmp .eq 218, 3) := by decide +kernel
theorem dL_law_498 : decode cL_law 498 = .ok (.iconst 0, 1) := by decide +kernel
theorem dL_law_499 : decode cL_law 499 = .ok (.ireturn, 1) := by decide +kernel
theorem dL_law_500 : decode cL_law 500 = .ok (.aload_n 1, 1) := by decide +kernel
theorem dL_law_501 : decode cL_law 501 = .ok (.aload_n 0, 1) := by decide +kernel
theorem dL_law_502 : decode cL_law 502 = .ok (.iload_n 3, 1) := by decide +kernel
theorem dL_law_503 : decode cL_law 503 = .ok (.iconst 1, 1) := by decide +kernel
theorem dL_law_504 : decode cL_law 504 = .ok (.iadd, 1) := by decide +kernel
theorem dL_law_505 : decode cL_law 505 = .ok (.iaload, 1) := by decide +kernel
theorem dL_law_506 : decode cL_law 506 = .ok (.aload_n 0, 1) := by decide +kernel
theorem dL_law_507 : decode cL_law 507 = .ok (.iload_n 3, 1) := by decide +kernel
theorem dL_law_508 : decode cL_law 508 = .ok (.iconst 2, 1) := by decide +kernel
theorem dL_law_509 : decode cL_law 509 = .ok (.iadd, 1) := by decide +kernel
theorem dL_law_510 : decode cL_law 510 = .ok (.iaload, 1) := by decide +kernel
theorem dL_law_511 : decode cL_law 511 = .ok (.invokevirtual 72, 3) := by decide +kernel
theorem dL_law_514 : decode cL_law 514 = .ok (.aload_n 2, 1) := by decide +kernel
theorem dL_law_515 : decode cL_law 515 = .ok (.aload_n 0, 1) := by decide +kernel
theorem dL_law_516 : decode cL_law 516 = .ok (.iload_n 3, 1) := by decide +kernel
theorem dL_law_517 : decode cL_law 517 = .ok (.iconst 1, 1) := by decide +kernel
theorem dL_law_518 : decode cL_law 518 = .ok (.iadd, 1) := by decide +kernel
theorem dL_law_519 : decode cL_law 519 = .ok (.iaload, 1) := by decide +kernel
theorem dL_law_520 : decode cL_law 520 = .ok (.aload_n 0, 1) := by decide +kernel
theorem dL_law_521 : decode cL_law 521 = .ok (.iload_n 3, 1) := by decide +kernel
theorem dL_law_522 : decode cL_law 522 = .ok (.iconst 2, 1) := by decide +kernel
theorem dL_law_523 : decode cL_law 523 = .ok (.iadd, 1) := by decide +kernel
theorem dL_law_524 : decode cL_law 524 = .ok (.iaload, 1) := by decide +kernel
theorem dL_law_525 : decode cL_law 525 = .ok (.invokevirtual 75, 3) := by decide +kernel
theorem dL_law_528 : decode cL_law 528 = .ok (.if_icmp .eq 185, 3) := by decide +kernel
theorem dL_law_531 : decode cL_law 531 = .ok (.iconst 0, 1) := by decide +kernel
theorem dL_law_532 : decode cL_law 532 = .ok (.ireturn, 1) := by decide +kernel
theorem dL_law_533 : decode cL_law 533 = .ok (.aload_n 1, 1) := by decide +kernel
theorem dL_law_534 : decode cL_law 534 = .ok (.invokevirtual 76, 3) := by decide +kernel
theorem dL_law_537 : decode cL_law 537 = .ok (.aload_n 2, 1) := by decide +kernel
theorem dL_law_538 : decode cL_law 538 = .ok (.invokevirtual 79, 3) := by decide +kernel
theorem dL_law_541 : decode cL_law 541 = .ok (.if_icmp .eq 172, 3) := by decide +kernel
theorem dL_law_544 : decode cL_law 544 = .ok (.iconst 0, 1) := by decide +kernel
theorem dL_law_545 : decode cL_law 545 = .ok (.ireturn, 1) := by decide +kernel
theorem dL_law_546 : decode cL_law 546 = .ok (.aload_n 1, 1) := by decide +kernel
theorem dL_law_547 : decode cL_law 547 = .ok (.aload_n 0, 1) := by decide +kernel
theorem dL_law_548 : decode cL_law 548 = .ok (.iload_n 3, 1) := by decide +kernel
theorem dL_law_549 : decode cL_law 549 = .ok (.iconst 1, 1) := by decide +kernel
theorem dL_law_550 : decode cL_law 550 = .ok (.iadd, 1) := by decide +kernel
theorem dL_law_551 : decode cL_law 551 = .ok (.iaload, 1) := by decide +kernel
theorem dL_law_552 : decode cL_law 552 = .ok (.invokevirtual 80, 3) := by decide +kernel
theorem dL_law_555 : decode cL_law 555 = .ok (.aload_n 2, 1) := by decide +kernel
theorem dL_law_556 : decode cL_law 556 = .ok (.aload_n 0, 1) := by decide +kernel
theorem dL_law_557 : decode cL_law 557 = .ok (.iload_n 3, 1) := by decide +kernel
theorem dL_law_558 : decode cL_law 558 = .ok (.iconst 1, 1) := by decide +kernel
theorem dL_law_559 : decode cL_law 559 = .ok (.iadd, 1) := by decide +kernel
theorem dL_law_560 : decode cL_law 560 = .ok (.iaload, 1) := by decide +kernel
theorem dL_law_561 : decode cL_law 561 = .ok (.invokevirtual 83, 3) := by decide +kernel
theorem dL_law_564 : decode cL_law 564 = .ok (.if_icmp .eq 149, 3) := by decide +kernel
theorem dL_law_567 : decode cL_law 567 = .ok (.iconst 0, 1) := by decide +kernel
theorem dL_law_568 : decode cL_law 568 = .ok (.ireturn, 1) := by decide +kernel
theorem dL_law_569 : decode cL_law 569 = .ok (.aload_n 1, 1) := by decide +kernel
theorem dL_law_570 : decode cL_law 570 = .ok (.aload_n 0, 1) := by decide +kernel
theorem dL_law_571 : decode cL_law 571 = .ok (.iload_n 3, 1) := by decide +kernel
theorem dL_law_572 : decode cL_law 572 = .ok (.iconst 1, 1) := by decide +kernel
theorem dL_law_573 : decode cL_law 573 = .ok (.iadd, 1) := by decide +kernel
theorem dL_law_574 : decode cL_law 574 = .ok (.iaload, 1) := by decide +kernel
theorem dL_law_575 : decode cL_law 575 = .ok (.invokevirtual 84, 3) := by decide +kernel
theorem dL_law_578 : decode cL_law 578 = .ok (.aload_n 2, 1) := by decide +kernel
theorem dL_law_579 : decode cL_law 579 = .ok (.aload_n 0, 1) := by decide +kernel
theorem dL_law_580 : decode cL_law 580 = .ok (.iload_n 3, 1) := by decide +kernel
theorem dL_law_581 : decode cL_law 581 = .ok (.iconst 1, 1) := by decide +kernel
theorem dL_law_582 : decode cL_law 582 = .ok (.iadd, 1) := by decide +kernel
theorem dL_law_583 : decode cL_law 583 = .ok (.iaload, 1) := by decide +kernel
theorem dL_law_584 : decode cL_law 584 = .ok (.invokevirtual 87, 3) := by decide +kernel
theorem dL_law_587 : decode cL_law 587 = .ok (.if_icmp .eq 126, 3) := by decide +kernel
theorem dL_law_590 : decode cL_law 590 = .ok (.iconst 0, 1) := by decide +kernel
theorem dL_law_591 : decode cL_law 591 = .ok (.ireturn, 1) := by decide +kernel
theorem dL_law_592 : decode cL_law 592 = .ok (.aload_n 1, 1) := by decide +kernel
theorem dL_law_593 : decode cL_law 593 = .ok (.invokevirtual 88, 3) := by decide +kernel
theorem dL_law_596 : decode cL_law 596 = .ok (.aload_n 2, 1) := by decide +kernel
theorem dL_law_597 : decode cL_law 597 = .ok (.invokevirtual 91, 3) := by decide +kernel
theorem dL_law_600 : decode cL_law 600 = .ok (.if_icmp .eq 113, 3) := by decide +kernel
theorem dL_law_603 : decode cL_law 603 = .ok (.iconst 0, 1) := by decide +kernel
theorem dL_law_604 : decode cL_law 604 = .ok (.ireturn, 1) := by decide +kernel
theorem dL_law_605 : decode cL_law 605 = .ok (.aload_n 1, 1) := by decide +kernel
theorem dL_law_606 : decode cL_law 606 = .ok (.aload_n 0, 1) := by decide +kernel
theorem dL_law_607 : decode cL_law 607 = .ok (.iload_n 3, 1) := by decide +kernel
theorem dL_law_608 : decode cL_law 608 = .ok (.iconst 1, 1) := by decide +kernel
theorem dL_law_609 : decode cL_law 609 = .ok (.iadd, 1) := by decide +kernel
theorem dL_law_610 : decode cL_law 610 = .ok (.iaload, 1) := by decide +kernel
theorem dL_law_611 : decode cL_law 611 = .ok (.invokevirtual 92, 3) := by decide +kernel
theorem dL_law_614 : decode cL_law 614 = .ok (.aload_n 2, 1) := by decide +kernel
theorem dL_law_615 : decode cL_law 615 = .ok (.aload_n 0, 1) := by decide +kernel
theorem dL_law_616 : decode cL_law 616 = .ok (.iload_n 3, 1) := by decide +kernel
theorem dL_law_617 : decode cL_law 617 = .ok (.iconst 1, 1) := by decide +kernel
theorem dL_law_618 : decode cL_law 618 = .ok (.iadd, 1) := by decide +kernel
theorem dL_law_619 : decode cL_law 619 = .ok (.iaload, 1) := by decide +kernel
theorem dL_law_620 : decode cL_law 620 = .ok (.invokevirtual 95, 3) := by decide +kernel
theorem dL_law_623 : decode cL_law 623 = .ok (.if_icmp .eq 90, 3) := by decide +kernel
theorem dL_law_626 : decode cL_law 626 = .ok (.iconst 0, 1) := by decide +kernel
theorem dL_law_627 : decode cL_law 627 = .ok (.ireturn, 1) := by decide +kernel
theorem dL_law_628 : decode cL_law 628 = .ok (.aload_n 1, 1) := by decide +kernel
theorem dL_law_629 : decode cL_law 629 = .ok (.invokevirtual 96, 3) := by decide +kernel
theorem dL_law_632 : decode cL_law 632 = .ok (.aload_n 2, 1) := by decide +kernel
theorem dL_law_633 : decode cL_law 633 = .ok (.invokevirtual 99, 3) := by decide +kernel
theorem dL_law_636 : decode cL_law 636 = .ok (.if_icmp .eq 77, 3) := by decide +kernel
theorem dL_law_639 : decode cL_law 639 = .ok (.iconst 0, 1) := by decide +kernel
theorem dL_law_640 : decode cL_law 640 = .ok (.ireturn, 1) := by decide +kernel
theorem dL_law_641 : decode cL_law 641 = .ok (.aload_n 1, 1) := by decide +kernel
theorem dL_law_642 : decode cL_law 642 = .ok (.aload_n 0, 1) := by decide +kernel
theorem dL_law_643 : decode cL_law 643 = .ok (.iload_n 3, 1) := by decide +kernel
theorem dL_law_644 : decode cL_law 644 = .ok (.iconst 1, 1) := by decide +kernel
theorem dL_law_645 : decode cL_law 645 = .ok (.iadd, 1) := by decide +kernel
theorem dL_law_646 : decode cL_law 646 = .ok (.iaload, 1) := by decide +kernel
theorem dL_law_647 : decode cL_law 647 = .ok (.invokevirtual 100, 3) := by decide +kernel
theorem dL_law_650 : decode cL_law 650 = .ok (.aload_n 2, 1) := by decide +kernel
theorem dL_law_651 : decode cL_law 651 = .ok (.aload_n 0, 1) := by decide +kernel
theorem dL_law_652 : decode cL_law 652 = .ok (.iload_n 3, 1) := by decide +kernel
theorem dL_law_653 : decode cL_law 653 = .ok (.iconst 1, 1) := by decide +kernel
theorem dL_law_654 : decode cL_law 654 = .ok (.iadd, 1) := by decide +kernel
theorem dL_law_655 : decode cL_law 655 = .ok (.iaload, 1) := by decide +kernel
theorem dL_law_656 : decode cL_law 656 = .ok (.invokevirtual 103, 3) := by decide +kernel
theorem dL_law_659 : decode cL_law 659 = .ok (.if_icmp .eq 54, 3) := by decide +kernel
theorem dL_law_662 : decode cL_law 662 = .ok (.iconst 0, 1) := by decide +kernel
theorem dL_law_663 : decode cL_law 663 = .ok (.ireturn, 1) := by decide +kernel
theorem dL_law_664 : decode cL_law 664 = .ok (.aload_n 1, 1) := by decide +kernel
theorem dL_law_665 : decode cL_law 665 = .ok (.invokevirtual 104, 3) := by decide +kernel
theorem dL_law_668 : decode cL_law 668 = .ok (.aload_n 2, 1) := by decide +kernel
theorem dL_law_669 : decode cL_law 669 = .ok (.invokevirtual 107, 3) := by decide +kernel
theorem dL_law_672 : decode cL_law 672 = .ok (.if_icmp .eq 41, 3) := by decide +kernel
theorem dL_law_675 : decode cL_law 675 = .ok (.iconst 0, 1) := by decide +kernel
theorem dL_law_676 : decode cL_law 676 = .ok (.ireturn, 1) := by decide +kernel
theorem dL_law_677 : decode cL_law 677 = .ok (.aload_n 1, 1) := by decide +kernel
theorem dL_law_678 : decode cL_law 678 = .ok (.aload_n 0, 1) := by decide +kernel
theorem dL_law_679 : decode cL_law 679 = .ok (.iload_n 3, 1) := by decide +kernel
theorem dL_law_680 : decode cL_law 680 = .ok (.iconst 1, 1) := by decide +kernel
theorem dL_law_681 : decode cL_law 681 = .ok (.iadd, 1) := by decide +kernel
theorem dL_law_682 : decode cL_law 682 = .ok (.iaload, 1) := by decide +kernel
theorem dL_law_683 : decode cL_law 683 = .ok (.invokevirtual 108, 3) := by decide +kernel
theorem dL_law_686 : decode cL_law 686 = .ok (.aload_n 2, 1) := by decide +kernel
theorem dL_law_687 : decode cL_law 687 = .ok (.aload_n 0, 1) := by decide +kernel
theorem dL_law_688 : decode cL_law 688 = .ok (.iload_n 3, 1) := by decide +kernel
theorem dL_law_689 : decode cL_law 689 = .ok (.iconst 1, 1) := by decide +kernel
theorem dL_law_690 : decode cL_law 690 = .ok (.iadd, 1) := by decide +kernel
theorem dL_law_691 : decode cL_law 691 = .ok (.iaload, 1) := by decide +kernel
theorem dL_law_692 : decode cL_law 692 = .ok (.invokevirtual 111, 3) := by decide +kernel
theorem dL_law_695 : decode cL_law 695 = .ok (.if_icmp .eq 18, 3) := by decide +kernel
theorem dL_law_698 : decode cL_law 698 = .ok (.iconst 0, 1) := by decide +kernel
theorem dL_law_699 : decode cL_law 699 = .ok (.ireturn, 1) := by decide +kernel
theorem dL_law_700 : decode cL_law 700 = .ok (.aload_n 1, 1) := by decide +kernel
theorem dL_law_701 : decode cL_law 701 = .ok (.invokevirtual 112, 3) := by decide +kernel
theorem dL_law_704 : decode cL_law 704 = .ok (.aload_n 2, 1) := by decide +kernel
theorem dL_law_705 : decode cL_law 705 = .ok (.invokevirtual 115, 3) := by decide +kernel
theorem dL_law_708 : decode cL_law 708 = .ok (.if_icmp .eq 5, 3) := by decide +kernel
theorem dL_law_711 : decode cL_law 711 = .ok (.iconst 0, 1) := by decide +kernel
theorem dL_law_712 : decode cL_law 712 = .ok (.ireturn, 1) := by decide +kernel
theorem dL_law_713 : decode cL_law 713 = .ok (.iinc 3 3, 3) := by decide +kernel
theorem dL_law_716 : decode cL_law 716 = .ok (.goto (-698), 3) := by decide +kernel
theorem dL_law_719 : decode cL_law 719 = .ok (.iconst 1, 1) := by decide +kernel
theorem dL_law_720 : decode cL_law 720 = .ok (.ireturn, 1) := by decide +kernel
end
section
def wsL_law_r1 : List Cond := [Cond.classLink RL 7 RX11, Cond.instantiable RX11 5, Cond.initialized RX11, Cond.classLink RL 10 RX12, Cond.instantiable RX12 15, Cond.initialized RX12, Cond.methodLink RL 9 yX11_init, Cond.instanceMethod yX11_init, Cond.code yX11_init cX11_init 1 none, Cond.methodLink RX11 1 objectInit, Cond.instanceMethod objectInit, Cond.code objectInit ⟨#[0xb1]⟩ 1 none, Cond.classLink RX11 7 RX5, Cond.instantiable RX5 11, Cond.initialized RX5, Cond.fieldLink RX11 10 "GalaHeats" "meet" "LGalaHeats$Meet;", Cond.fieldLink RX11 16 "GalaHeats" "trial" "LGalaHeats$Meet;", Cond.classLink RX11 19 RX3, Cond.instantiable RX3 2, Cond.initialized RX3, Cond.fieldLink RX11 22 "GalaHeats" "history" "LGalaHeats$History;", Cond.classLink RX11 26 RX6, Cond.instantiable RX6 8, Cond.initialized RX6]
def wsL_law_r2 : List Cond := [Cond.fieldLink RX11 29 "GalaHeats" "text" "LGalaHeats$OrderText;", Cond.classLink RX11 33 RX7, Cond.instantiable RX7 4, Cond.initialized RX7, Cond.fieldLink RX11 36 "GalaHeats" "rehearsal" "LGalaHeats$Rehearsal;", Cond.methodLink RX11 9 yX5_init, Cond.instanceMethod yX5_init, Cond.code yX5_init cX5_init 2 none, Cond.methodLink RX5 3 objectInit, Cond.arrayClass .int, Cond.fieldLink RX5 9 "GalaHeats$Meet" "settings" "[I", Cond.classLink RX5 15 RX10, Cond.fieldLink RX5 17 "GalaHeats$Meet" "all" "[LGalaHeats$Swimmer;", Cond.fieldLink RX5 21 "GalaHeats$Meet" "reserves" "[I", Cond.instantiable RX10 11, Cond.initialized RX10, Cond.methodLink RX5 29 yX10_init, Cond.instanceMethod yX10_init, Cond.code yX10_init cX10_init 2 none, Cond.methodLink RX10 3 objectInit, Cond.fieldLink RX10 9 "GalaHeats$Swimmer" "number" "I", Cond.methodLink RX11 21 yX3_init, Cond.instanceMethod yX3_init, Cond.code yX3_init cX3_init 2 none]
def wsL_law_r3 : List Cond := [Cond.methodLink RX3 3 objectInit, Cond.classLink RX3 9 RX5, Cond.fieldLink RX3 11 "GalaHeats$History" "rows" "[LGalaHeats$Meet;", Cond.methodLink RX3 17 yX5_init, Cond.instanceMethod yX6_init, Cond.code yX6_init cX6_init 1 none, Cond.methodLink RX6 3 objectInit, Cond.fieldLink RX6 9 "GalaHeats$OrderText" "signs" "[I", Cond.instanceMethod yX7_init, Cond.code yX7_init cX7_init 1 none, Cond.methodLink RX7 3 objectInit, Cond.methodLink RL 12 yX12_init, Cond.instanceMethod yX12_init, Cond.code yX12_init cX12_init 1 none, Cond.methodLink RX12 1 objectInit, Cond.fieldLink RX12 7 "GalaHeatsModel" "s" "[I", Cond.fieldLink RX12 13 "GalaHeatsModel" "past" "[I", Cond.fieldLink RX12 16 "GalaHeatsModel" "held" "[I", Cond.fieldLink RX12 19 "GalaHeatsModel" "text" "[I", Cond.fieldLink RX12 22 "GalaHeatsModel" "drawn" "[I", Cond.fieldLink RX12 25 "GalaHeatsModel" "numbers" "[I", Cond.methodLink RL 13 yX11_enter, Cond.instanceMethod yX11_enter, Cond.selects RX11 yX11_enter yX11_enter]
def wsL_law_r4 : List Cond := [Cond.code yX11_enter cX11_enter 3 (some .int), Cond.methodLink RX11 40 yX3_prepare, Cond.instanceMethod yX3_prepare, Cond.selects RX3 yX3_prepare yX3_prepare, Cond.code yX3_prepare cX3_prepare 2 none, Cond.fieldLink RX3 18 "GalaHeats$History" "kept" "I", Cond.methodLink RX3 22 yX5_copyFrom, Cond.instanceMethod yX5_copyFrom, Cond.selects RX5 yX5_copyFrom yX5_copyFrom, Cond.code yX5_copyFrom cX5_copyFrom 3 none, Cond.fieldLink RX5 32 "GalaHeats$Meet" "size" "I", Cond.fieldLink RX5 36 "GalaHeats$Meet" "stage" "I", Cond.fieldLink RX5 39 "GalaHeats$Meet" "heats" "I", Cond.fieldLink RX5 42 "GalaHeats$Meet" "reservesDrawn" "I", Cond.fieldLink RX5 45 "GalaHeats$Meet" "reservesCalled" "I", Cond.fieldLink RX5 48 "GalaHeats$Meet" "eventsEnded" "I", Cond.fieldLink RX5 51 "GalaHeats$Meet" "record" "I", Cond.fieldLink RX5 54 "GalaHeats$Meet" "recordSwimmer" "I", Cond.methodLink RX5 57 yX10_copyFrom, Cond.instanceMethod yX10_copyFrom, Cond.selects RX10 yX10_copyFrom yX10_copyFrom, Cond.code yX10_copyFrom cX10_copyFrom 2 none, Cond.fieldLink RX10 15 "GalaHeats$Swimmer" "club" "I", Cond.fieldLink RX10 18 "GalaHeats$Swimmer" "entry" "I"]
def wsL_law_r5 : List Cond := [Cond.fieldLink RX10 27 "GalaHeats$Swimmer" "scratched" "Z", Cond.fieldLink RX10 40 "GalaHeats$Swimmer" "heat" "I", Cond.fieldLink RX10 43 "GalaHeats$Swimmer" "heatLane" "I", Cond.fieldLink RX10 46 "GalaHeats$Swimmer" "heatTime" "I", Cond.fieldLink RX10 49 "GalaHeats$Swimmer" "finalLane" "I", Cond.fieldLink RX10 52 "GalaHeats$Swimmer" "finalTime" "I", Cond.fieldLink RX10 31 "GalaHeats$Swimmer" "place" "I", Cond.fieldLink RX10 21 "GalaHeats$Swimmer" "brought" "I", Cond.methodLink RX11 44 yX1_addSwimmer, Cond.static yX1_addSwimmer, Cond.initialized RX1, Cond.code yX1_addSwimmer cX1_addSwimmer 3 (some .int), Cond.constant RX1 15 (-1000001), Cond.fieldLink RX1 16 "GalaHeats$Meet" "stage" "I", Cond.constant RX1 22 (-1000002), Cond.fieldLink RX1 23 "GalaHeats$Meet" "size" "I", Cond.constant RX1 26 (-1000003), Cond.fieldLink RX1 27 "GalaHeats$Meet" "all" "[LGalaHeats$Swimmer;", Cond.methodLink RX1 9 yX1_isTimeOrZero, Cond.static yX1_isTimeOrZero, Cond.code yX1_isTimeOrZero cX1_isTimeOrZero 1 (some .boolean), Cond.methodLink RX1 31 yX10_join, Cond.instanceMethod yX10_join, Cond.selects RX10 yX10_join yX10_join]
def wsL_law_r6 : List Cond := [Cond.code yX10_join cX10_join 3 none, Cond.methodLink RX10 24 yX10_forgetEvent, Cond.instanceMethod yX10_forgetEvent, Cond.selects RX10 yX10_forgetEvent yX10_forgetEvent, Cond.code yX10_forgetEvent cX10_forgetEvent 1 none, Cond.methodLink RX10 34 yX10_leaveHeat, Cond.instanceMethod yX10_leaveHeat, Cond.selects RX10 yX10_leaveHeat yX10_leaveHeat, Cond.code yX10_leaveHeat cX10_leaveHeat 1 none, Cond.methodLink RX10 37 yX10_leaveFinal, Cond.instanceMethod yX10_leaveFinal, Cond.selects RX10 yX10_leaveFinal yX10_leaveFinal, Cond.code yX10_leaveFinal cX10_leaveFinal 1 none, Cond.methodLink RX11 50 yX3_keepUnlessError, Cond.instanceMethod yX3_keepUnlessError, Cond.selects RX3 yX3_keepUnlessError yX3_keepUnlessError, Cond.code yX3_keepUnlessError cX3_keepUnlessError 2 (some .int), Cond.methodLink RX3 26 yX3_dropOldest, Cond.instanceMethod yX3_dropOldest, Cond.selects RX3 yX3_dropOldest yX3_dropOldest, Cond.code yX3_dropOldest cX3_dropOldest 3 none, Cond.methodLink RL 17 yX12_enter, Cond.instanceMethod yX12_enter, Cond.selects RX12 yX12_enter yX12_enter]
def wsL_law_r7 : List Cond := [Cond.code yX12_enter cX12_enter 3 (some .int), Cond.constant RX12 75 (-1000001), Cond.constant RX12 76 (-1000002), Cond.constant RX12 77 (-1000003), Cond.methodLink RX12 36 yX12_in, Cond.static yX12_in, Cond.code yX12_in cX12_in 3 (some .boolean), Cond.methodLink RX12 78 yX12_changes, Cond.instanceMethod yX12_changes, Cond.selects RX12 yX12_changes yX12_changes, Cond.code yX12_changes cX12_changes 2 none, Cond.fieldLink RX12 28 "GalaHeatsModel" "runs" "Z", Cond.fieldLink RX12 32 "GalaHeatsModel" "pasts" "I", Cond.methodLink RX12 81 yX12_lay, Cond.instanceMethod yX12_lay, Cond.selects RX12 yX12_lay yX12_lay, Cond.code yX12_lay cX12_lay 4 none, Cond.methodLink RL 18 yX11_scratch, Cond.instanceMethod yX11_scratch, Cond.selects RX11 yX11_scratch yX11_scratch, Cond.code yX11_scratch cX11_scratch 2 (some .int), Cond.methodLink RX11 54 yX1_withdraw, Cond.static yX1_withdraw, Cond.code yX1_withdraw cX1_withdraw 3 (some .int)]
def wsL_law_r8 : List Cond := [Cond.fieldLink RX1 40 "GalaHeats$Swimmer" "scratched" "Z", Cond.fieldLink RX1 47 "GalaHeats$Swimmer" "finalLane" "I", Cond.methodLink RX1 37 yX5_has, Cond.instanceMethod yX5_has, Cond.selects RX5 yX5_has yX5_has, Cond.code yX5_has cX5_has 2 (some .boolean), Cond.methodLink RX1 44 yX10_leaveHeat, Cond.methodLink RX1 50 yX1_callReserve, Cond.static yX1_callReserve, Cond.code yX1_callReserve cX1_callReserve 4 (some .int), Cond.fieldLink RX1 61 "GalaHeats$Meet" "reservesCalled" "I", Cond.methodLink RX1 54 yX10_leaveFinal, Cond.methodLink RX1 57 yX5_freeReserve, Cond.instanceMethod yX5_freeReserve, Cond.selects RX5 yX5_freeReserve yX5_freeReserve, Cond.code yX5_freeReserve cX5_freeReserve 4 (some .int), Cond.constant RX5 95 (-1000004), Cond.methodLink RX5 110 yX5_canBeCalled, Cond.instanceMethod yX5_canBeCalled, Cond.selects RX5 yX5_canBeCalled yX5_canBeCalled, Cond.code yX5_canBeCalled cX5_canBeCalled 2 (some .boolean), Cond.fieldLink RX5 61 "GalaHeats$Swimmer" "scratched" "Z", Cond.fieldLink RX5 78 "GalaHeats$Swimmer" "finalLane" "I", Cond.methodLink RX5 106 yX5_has]
def wsL_law_r9 : List Cond := [Cond.methodLink RL 22 yX12_scratch, Cond.instanceMethod yX12_scratch, Cond.selects RX12 yX12_scratch yX12_scratch, Cond.code yX12_scratch cX12_scratch 3 (some .int), Cond.methodLink RX12 89 yX12_isSwimmer, Cond.instanceMethod yX12_isSwimmer, Cond.selects RX12 yX12_isSwimmer yX12_isSwimmer, Cond.code yX12_isSwimmer cX12_isSwimmer 2 (some .boolean), Cond.methodLink RX12 44 yX12_isGone, Cond.instanceMethod yX12_isGone, Cond.selects RX12 yX12_isGone yX12_isGone, Cond.code yX12_isGone cX12_isGone 2 (some .boolean), Cond.methodLink RX12 40 yX12_of, Cond.instanceMethod yX12_of, Cond.selects RX12 yX12_of yX12_of, Cond.code yX12_of cX12_of 3 (some .int), Cond.methodLink RX12 92 yX12_calls, Cond.instanceMethod yX12_calls, Cond.selects RX12 yX12_calls yX12_calls, Cond.code yX12_calls cX12_calls 4 (some .int), Cond.methodLink RX12 86 yX12_firstReserve, Cond.instanceMethod yX12_firstReserve, Cond.selects RX12 yX12_firstReserve yX12_firstReserve, Cond.code yX12_firstReserve cX12_firstReserve 2 (some .int)]
def wsL_law_r10 : List Cond := [Cond.constant RX12 85 (-1000004), Cond.methodLink RL 23 yX11_set, Cond.instanceMethod yX11_set, Cond.selects RX11 yX11_set yX11_set, Cond.code yX11_set cX11_set 3 (some .int), Cond.methodLink RX11 58 yX1_changeSetting, Cond.static yX1_changeSetting, Cond.code yX1_changeSetting cX1_changeSetting 4 (some .int), Cond.fieldLink RX1 70 "GalaHeats$Meet" "settings" "[I", Cond.methodLink RX1 64 yX9_allow, Cond.static yX9_allow, Cond.initialized RX9, Cond.code yX9_allow cX9_allow 2 (some .boolean), Cond.fieldLink RX9 9 "GalaHeats$Settings" "LEAST" "[I", Cond.fieldLink RX9 15 "GalaHeats$Settings" "GREATEST" "[I", Cond.methodLink RL 26 yX12_set, Cond.instanceMethod yX12_set, Cond.selects RX12 yX12_set yX12_set, Cond.code yX12_set cX12_set 4 (some .int), Cond.methodLink RL 27 yX11_draw, Cond.instanceMethod yX11_draw, Cond.selects RX11 yX11_draw yX11_draw, Cond.code yX11_draw cX11_draw 1 (some .int), Cond.methodLink RX11 61 yX1_drawHeats]
def wsL_law_r11 : List Cond := [Cond.static yX1_drawHeats, Cond.code yX1_drawHeats cX1_drawHeats 2 (some .int), Cond.fieldLink RX1 87 "GalaHeats$Meet" "heats" "I", Cond.methodLink RX1 74 yX5_notScratched, Cond.instanceMethod yX5_notScratched, Cond.selects RX5 yX5_notScratched yX5_notScratched, Cond.code yX5_notScratched cX5_notScratched 3 (some .int), Cond.methodLink RX1 78 yX5_lanes, Cond.instanceMethod yX5_lanes, Cond.selects RX5 yX5_lanes yX5_lanes, Cond.code yX5_lanes cX5_lanes 1 (some .int), Cond.methodLink RX1 81 yX2_heatsFor, Cond.static yX2_heatsFor, Cond.initialized RX2, Cond.code yX2_heatsFor cX2_heatsFor 2 (some .int), Cond.methodLink RX1 90 yX2_spread, Cond.static yX2_spread, Cond.code yX2_spread cX2_spread 3 none, Cond.fieldLink RX2 9 "GalaHeats$Meet" "size" "I", Cond.fieldLink RX2 15 "GalaHeats$Meet" "all" "[LGalaHeats$Swimmer;", Cond.fieldLink RX2 19 "GalaHeats$Swimmer" "scratched" "Z", Cond.fieldLink RX2 29 "GalaHeats$Meet" "heats" "I", Cond.fieldLink RX2 42 "GalaHeats$Swimmer" "heat" "I", Cond.methodLink RX2 25 yX5_rankByEntry]
def wsL_law_r12 : List Cond := [Cond.instanceMethod yX5_rankByEntry, Cond.selects RX5 yX5_rankByEntry yX5_rankByEntry, Cond.code yX5_rankByEntry cX5_rankByEntry 4 (some .int), Cond.methodLink RX5 65 yX10_aheadByEntry, Cond.instanceMethod yX10_aheadByEntry, Cond.selects RX10 yX10_aheadByEntry yX10_aheadByEntry, Cond.code yX10_aheadByEntry cX10_aheadByEntry 2 (some .boolean), Cond.methodLink RX2 32 yX5_lanes, Cond.methodLink RX2 36 yX2_heatOfRank, Cond.static yX2_heatOfRank, Cond.code yX2_heatOfRank cX2_heatOfRank 3 (some .int), Cond.methodLink RX1 94 yX2_fillFirstHeat, Cond.static yX2_fillFirstHeat, Cond.code yX2_fillFirstHeat cX2_fillFirstHeat 4 none, Cond.fieldLink RX2 45 "GalaHeats$Meet" "settings" "[I", Cond.methodLink RX2 49 yX2_sizeOf, Cond.static yX2_sizeOf, Cond.code yX2_sizeOf cX2_sizeOf 4 (some .int), Cond.methodLink RX2 53 yX2_lastOf, Cond.static yX2_lastOf, Cond.code yX2_lastOf cX2_lastOf 4 (some .int), Cond.constant RX2 60 (-1000004), Cond.methodLink RX2 56 yX5_has, Cond.methodLink RX2 61 yX10_aheadByEntry]
def wsL_law_r13 : List Cond := [Cond.methodLink RX1 97 yX2_giveLanes, Cond.static yX2_giveLanes, Cond.code yX2_giveLanes cX2_giveLanes 3 none, Cond.fieldLink RX2 75 "GalaHeats$Swimmer" "heatLane" "I", Cond.methodLink RX2 65 yX2_rankInHeat, Cond.static yX2_rankInHeat, Cond.code yX2_rankInHeat cX2_rankInHeat 4 (some .int), Cond.methodLink RX2 69 yX4_ofRank, Cond.static yX4_ofRank, Cond.initialized RX4, Cond.code yX4_ofRank cX4_ofRank 3 (some .int), Cond.methodLink RL 31 yX12_draw, Cond.instanceMethod yX12_draw, Cond.selects RX12 yX12_draw yX12_draw, Cond.code yX12_draw cX12_draw 4 (some .int), Cond.methodLink RX12 66 yX12_present, Cond.instanceMethod yX12_present, Cond.selects RX12 yX12_present yX12_present, Cond.code yX12_present cX12_present 3 (some .int), Cond.methodLink RX12 95 yX12_plans, Cond.instanceMethod yX12_plans, Cond.selects RX12 yX12_plans yX12_plans, Cond.code yX12_plans cX12_plans 5 (some .int), Cond.methodLink RX12 59 yX12_lanes]
def wsL_law_r14 : List Cond := [Cond.instanceMethod yX12_lanes, Cond.selects RX12 yX12_lanes yX12_lanes, Cond.code yX12_lanes cX12_lanes 1 (some .int), Cond.methodLink RX12 69 yX12_heatFor, Cond.instanceMethod yX12_heatFor, Cond.selects RX12 yX12_heatFor yX12_heatFor, Cond.code yX12_heatFor cX12_heatFor 3 (some .int), Cond.methodLink RX12 72 yX12_sizeOf, Cond.instanceMethod yX12_sizeOf, Cond.selects RX12 yX12_sizeOf yX12_sizeOf, Cond.code yX12_sizeOf cX12_sizeOf 5 (some .int), Cond.methodLink RX12 98 yX12_entryRank, Cond.instanceMethod yX12_entryRank, Cond.selects RX12 yX12_entryRank yX12_entryRank, Cond.code yX12_entryRank cX12_entryRank 4 (some .int), Cond.methodLink RX12 48 yX12_entryKey, Cond.instanceMethod yX12_entryKey, Cond.selects RX12 yX12_entryKey yX12_entryKey, Cond.code yX12_entryKey cX12_entryKey 3 (some .int), Cond.methodLink RX12 101 yX12_laneIn, Cond.instanceMethod yX12_laneIn, Cond.selects RX12 yX12_laneIn yX12_laneIn, Cond.code yX12_laneIn cX12_laneIn 2 (some .int), Cond.methodLink RX12 63 yX12_laneOf]
def wsL_law_r15 : List Cond := [Cond.instanceMethod yX12_laneOf, Cond.selects RX12 yX12_laneOf yX12_laneOf, Cond.code yX12_laneOf cX12_laneOf 4 (some .int), Cond.methodLink RL 32 yX11_swim, Cond.instanceMethod yX11_swim, Cond.selects RX11 yX11_swim yX11_swim, Cond.code yX11_swim cX11_swim 3 (some .int), Cond.methodLink RX11 65 yX1_giveTime, Cond.static yX1_giveTime, Cond.code yX1_giveTime cX1_giveTime 4 (some .int), Cond.fieldLink RX1 104 "GalaHeats$Swimmer" "heatTime" "I", Cond.fieldLink RX1 107 "GalaHeats$Swimmer" "finalTime" "I", Cond.methodLink RX1 100 yX5_swimsNow, Cond.instanceMethod yX5_swimsNow, Cond.selects RX5 yX5_swimsNow yX5_swimsNow, Cond.code yX5_swimsNow cX5_swimsNow 2 (some .boolean), Cond.fieldLink RX5 75 "GalaHeats$Swimmer" "heat" "I", Cond.methodLink RX1 110 yX1_noteRecord, Cond.static yX1_noteRecord, Cond.code yX1_noteRecord cX1_noteRecord 3 none, Cond.fieldLink RX1 117 "GalaHeats$Meet" "record" "I", Cond.fieldLink RX1 120 "GalaHeats$Meet" "recordSwimmer" "I", Cond.methodLink RX1 114 yX5_fasterThan, Cond.instanceMethod yX5_fasterThan]
def wsL_law_r16 : List Cond := [Cond.selects RX5 yX5_fasterThan yX5_fasterThan, Cond.code yX5_fasterThan cX5_fasterThan 5 (some .int), Cond.methodLink RX5 84 yX5_stageTime, Cond.instanceMethod yX5_stageTime, Cond.selects RX5 yX5_stageTime yX5_stageTime, Cond.code yX5_stageTime cX5_stageTime 2 (some .int), Cond.fieldLink RX5 69 "GalaHeats$Swimmer" "heatTime" "I", Cond.fieldLink RX5 81 "GalaHeats$Swimmer" "finalTime" "I", Cond.methodLink RL 35 yX12_swim, Cond.instanceMethod yX12_swim, Cond.selects RX12 yX12_swim yX12_swim, Cond.code yX12_swim cX12_swim 6 (some .int), Cond.methodLink RX12 104 yX12_isAsked, Cond.instanceMethod yX12_isAsked, Cond.selects RX12 yX12_isAsked yX12_isAsked, Cond.code yX12_isAsked cX12_isAsked 2 (some .boolean), Cond.methodLink RX12 107 yX12_timeNow, Cond.instanceMethod yX12_timeNow, Cond.selects RX12 yX12_timeNow yX12_timeNow, Cond.code yX12_timeNow cX12_timeNow 1 (some .int), Cond.methodLink RL 36 yX11_finals, Cond.instanceMethod yX11_finals, Cond.selects RX11 yX11_finals yX11_finals, Cond.code yX11_finals cX11_finals 1 (some .int)]
def wsL_law_r17 : List Cond := [Cond.methodLink RX11 68 yX1_drawFinal, Cond.static yX1_drawFinal, Cond.code yX1_drawFinal cX1_drawFinal 2 (some .int), Cond.methodLink RX1 123 yX5_reasonToWait, Cond.instanceMethod yX5_reasonToWait, Cond.selects RX5 yX5_reasonToWait yX5_reasonToWait, Cond.code yX5_reasonToWait cX5_reasonToWait 1 (some .int), Cond.methodLink RX5 96 yX5_notScratched, Cond.methodLink RX5 100 yX5_stillToSwim, Cond.instanceMethod yX5_stillToSwim, Cond.selects RX5 yX5_stillToSwim yX5_stillToSwim, Cond.code yX5_stillToSwim cX5_stillToSwim 4 (some .int), Cond.methodLink RX5 92 yX5_swimsNow, Cond.methodLink RX5 103 yX5_timesAboveZero, Cond.instanceMethod yX5_timesAboveZero, Cond.selects RX5 yX5_timesAboveZero yX5_timesAboveZero, Cond.code yX5_timesAboveZero cX5_timesAboveZero 1 (some .int), Cond.methodLink RX5 88 yX5_fasterThan, Cond.methodLink RX1 126 yX1_seatByTime, Cond.static yX1_seatByTime, Cond.code yX1_seatByTime cX1_seatByTime 4 none, Cond.fieldLink RX1 142 "GalaHeats$Meet" "reserves" "[I", Cond.fieldLink RX1 145 "GalaHeats$Swimmer" "number" "I", Cond.fieldLink RX1 148 "GalaHeats$Meet" "reservesDrawn" "I"]
def wsL_law_r18 : List Cond := [Cond.methodLink RX1 133 yX5_rankByHeatTime, Cond.instanceMethod yX5_rankByHeatTime, Cond.selects RX5 yX5_rankByHeatTime yX5_rankByHeatTime, Cond.code yX5_rankByHeatTime cX5_rankByHeatTime 4 (some .int), Cond.methodLink RX5 72 yX10_aheadByHeatTime, Cond.instanceMethod yX10_aheadByHeatTime, Cond.selects RX10 yX10_aheadByHeatTime yX10_aheadByHeatTime, Cond.code yX10_aheadByHeatTime cX10_aheadByHeatTime 2 (some .boolean), Cond.methodLink RX10 55 yX10_aheadByEntry, Cond.methodLink RX1 137 yX4_ofRank, Cond.methodLink RX1 130 yX5_finalSet, Cond.instanceMethod yX5_finalSet, Cond.selects RX5 yX5_finalSet yX5_finalSet, Cond.code yX5_finalSet cX5_finalSet 3 (some .int), Cond.methodLink RL 39 yX12_finals, Cond.instanceMethod yX12_finals, Cond.selects RX12 yX12_finals yX12_finals, Cond.code yX12_finals cX12_finals 3 (some .int), Cond.methodLink RX12 116 yX12_why, Cond.instanceMethod yX12_why, Cond.selects RX12 yX12_why yX12_why, Cond.code yX12_why cX12_why 1 (some .int), Cond.methodLink RX12 110 yX12_missingOnes, Cond.instanceMethod yX12_missingOnes]
def wsL_law_r19 : List Cond := [Cond.selects RX12 yX12_missingOnes yX12_missingOnes, Cond.code yX12_missingOnes cX12_missingOnes 3 (some .int), Cond.methodLink RX12 113 yX12_timed, Cond.instanceMethod yX12_timed, Cond.selects RX12 yX12_timed yX12_timed, Cond.code yX12_timed cX12_timed 3 (some .int), Cond.methodLink RX12 52 yX12_hasTime, Cond.instanceMethod yX12_hasTime, Cond.selects RX12 yX12_hasTime yX12_hasTime, Cond.code yX12_hasTime cX12_hasTime 2 (some .boolean), Cond.methodLink RX12 119 yX12_timeRank, Cond.instanceMethod yX12_timeRank, Cond.selects RX12 yX12_timeRank yX12_timeRank, Cond.code yX12_timeRank cX12_timeRank 4 (some .int), Cond.methodLink RX12 55 yX12_isFaster, Cond.instanceMethod yX12_isFaster, Cond.selects RX12 yX12_isFaster yX12_isFaster, Cond.code yX12_isFaster cX12_isFaster 4 (some .boolean), Cond.methodLink RX12 122 yX12_inFinal, Cond.instanceMethod yX12_inFinal, Cond.selects RX12 yX12_inFinal yX12_inFinal, Cond.code yX12_inFinal cX12_inFinal 3 (some .int), Cond.methodLink RL 40 yX11_end, Cond.instanceMethod yX11_end]
def wsL_law_r20 : List Cond := [Cond.selects RX11 yX11_end yX11_end, Cond.code yX11_end cX11_end 1 (some .int), Cond.methodLink RX11 71 yX1_endEvent, Cond.static yX1_endEvent, Cond.code yX1_endEvent cX1_endEvent 3 (some .int), Cond.fieldLink RX1 156 "GalaHeats$Swimmer" "place" "I", Cond.fieldLink RX1 158 "GalaHeats$Meet" "eventsEnded" "I", Cond.methodLink RX1 151 yX8_place, Cond.static yX8_place, Cond.initialized RX8, Cond.code yX8_place cX8_place 3 none, Cond.fieldLink RX8 9 "GalaHeats$Swimmer" "finalTime" "I", Cond.fieldLink RX8 21 "GalaHeats$Swimmer" "place" "I", Cond.fieldLink RX8 24 "GalaHeats$Swimmer" "brought" "I", Cond.methodLink RX8 15 yX5_fasterThan, Cond.methodLink RX8 27 yX5_lanes, Cond.methodLink RX8 31 yX8_shared, Cond.static yX8_shared, Cond.code yX8_shared cX8_shared 5 (some .int), Cond.methodLink RL 43 yX12_end, Cond.instanceMethod yX12_end, Cond.selects RX12 yX12_end yX12_end, Cond.code yX12_end cX12_end 8 (some .int), Cond.methodLink RX12 125 yX12_finishers]
def wsL_law_r21 : List Cond := [Cond.instanceMethod yX12_finishers, Cond.selects RX12 yX12_finishers yX12_finishers, Cond.code yX12_finishers cX12_finishers 5 (some .int), Cond.methodLink RX12 128 yX12_worth, Cond.instanceMethod yX12_worth, Cond.selects RX12 yX12_worth yX12_worth, Cond.code yX12_worth cX12_worth 2 (some .int), Cond.methodLink RL 44 yX11_next, Cond.instanceMethod yX11_next, Cond.selects RX11 yX11_next yX11_next, Cond.code yX11_next cX11_next 1 (some .int), Cond.methodLink RX11 74 yX1_beginNextEvent, Cond.static yX1_beginNextEvent, Cond.code yX1_beginNextEvent cX1_beginNextEvent 5 (some .int), Cond.fieldLink RX1 164 "GalaHeats$Swimmer" "entry" "I", Cond.methodLink RX1 161 yX10_bestTime, Cond.instanceMethod yX10_bestTime, Cond.selects RX10 yX10_bestTime yX10_bestTime, Cond.code yX10_bestTime cX10_bestTime 2 (some .int), Cond.methodLink RX1 167 yX10_forgetEvent, Cond.methodLink RL 47 yX12_next, Cond.instanceMethod yX12_next, Cond.selects RX12 yX12_next yX12_next, Cond.code yX12_next cX12_next 6 (some .int)]
def wsL_law_r22 : List Cond := [Cond.methodLink RX12 131 yX12_better, Cond.static yX12_better, Cond.code yX12_better cX12_better 2 (some .int), Cond.methodLink RL 48 yX11_swimmer, Cond.instanceMethod yX11_swimmer, Cond.selects RX11 yX11_swimmer yX11_swimmer, Cond.code yX11_swimmer cX11_swimmer 3 (some .int), Cond.constant RX11 81 (-1000001), Cond.fieldLink RX11 82 "GalaHeats$Meet" "all" "[LGalaHeats$Swimmer;", Cond.methodLink RX11 77 yX5_has, Cond.methodLink RX11 86 yX0_ofSwimmer, Cond.static yX0_ofSwimmer, Cond.initialized RX0, Cond.code yX0_ofSwimmer cX0_ofSwimmer 3 (some .int), Cond.fieldLink RX0 9 "GalaHeats$Swimmer" "club" "I", Cond.fieldLink RX0 15 "GalaHeats$Swimmer" "entry" "I", Cond.fieldLink RX0 18 "GalaHeats$Swimmer" "scratched" "Z", Cond.constant RX0 22 (-1000004), Cond.fieldLink RX0 29 "GalaHeats$Swimmer" "heat" "I", Cond.fieldLink RX0 32 "GalaHeats$Swimmer" "heatLane" "I", Cond.fieldLink RX0 41 "GalaHeats$Swimmer" "heatTime" "I", Cond.fieldLink RX0 47 "GalaHeats$Swimmer" "finalLane" "I", Cond.fieldLink RX0 50 "GalaHeats$Swimmer" "finalTime" "I", Cond.fieldLink RX0 53 "GalaHeats$Swimmer" "place" "I"]
def wsL_law_r23 : List Cond := [Cond.fieldLink RX0 56 "GalaHeats$Swimmer" "brought" "I", Cond.methodLink RX0 23 yX5_rankByEntry, Cond.methodLink RX0 35 yX0_aboveZero, Cond.static yX0_aboveZero, Cond.code yX0_aboveZero cX0_aboveZero 1 (some .int), Cond.methodLink RX0 44 yX5_rankByHeatTime, Cond.methodLink RL 51 yX12_swimmer, Cond.instanceMethod yX12_swimmer, Cond.selects RX12 yX12_swimmer yX12_swimmer, Cond.code yX12_swimmer cX12_swimmer 3 (some .int), Cond.methodLink RX12 134 yX12_lessOne, Cond.static yX12_lessOne, Cond.code yX12_lessOne cX12_lessOne 1 (some .int), Cond.methodLink RX12 137 yX12_orNone, Cond.static yX12_orNone, Cond.code yX12_orNone cX12_orNone 1 (some .int), Cond.methodLink RL 52 yX11_at, Cond.instanceMethod yX11_at, Cond.selects RX11 yX11_at yX11_at, Cond.code yX11_at cX11_at 3 (some .int), Cond.methodLink RX11 92 yX5_hasHeat, Cond.instanceMethod yX5_hasHeat, Cond.selects RX5 yX5_hasHeat yX5_hasHeat, Cond.code yX5_hasHeat cX5_hasHeat 2 (some .boolean)]
def wsL_law_r24 : List Cond := [Cond.methodLink RX11 95 yX5_lanes, Cond.methodLink RX11 99 yX0_inLane, Cond.static yX0_inLane, Cond.code yX0_inLane cX0_inLane 5 (some .int), Cond.fieldLink RX0 59 "GalaHeats$Meet" "size" "I", Cond.fieldLink RX0 62 "GalaHeats$Meet" "all" "[LGalaHeats$Swimmer;", Cond.methodLink RX0 66 yX10_isIn, Cond.instanceMethod yX10_isIn, Cond.selects RX10 yX10_isIn yX10_isIn, Cond.code yX10_isIn cX10_isIn 2 (some .boolean), Cond.methodLink RX0 70 yX10_laneOf, Cond.instanceMethod yX10_laneOf, Cond.selects RX10 yX10_laneOf yX10_laneOf, Cond.code yX10_laneOf cX10_laneOf 2 (some .int), Cond.methodLink RL 55 yX12_at, Cond.instanceMethod yX12_at, Cond.selects RX12 yX12_at yX12_at, Cond.code yX12_at cX12_at 4 (some .int), Cond.methodLink RX12 140 yX12_isHeat, Cond.instanceMethod yX12_isHeat, Cond.selects RX12 yX12_isHeat yX12_isHeat, Cond.code yX12_isHeat cX12_isHeat 2 (some .boolean), Cond.methodLink RX12 143 yX12_isIn, Cond.instanceMethod yX12_isIn]
def wsL_law_r25 : List Cond := [Cond.selects RX12 yX12_isIn yX12_isIn, Cond.code yX12_isIn cX12_isIn 3 (some .boolean), Cond.methodLink RL 56 yX11_heat, Cond.instanceMethod yX11_heat, Cond.selects RX11 yX11_heat yX11_heat, Cond.code yX11_heat cX11_heat 3 (some .int), Cond.methodLink RX11 102 yX0_ofHeat, Cond.static yX0_ofHeat, Cond.code yX0_ofHeat cX0_ofHeat 3 (some .int), Cond.methodLink RX0 73 yX0_countIn, Cond.static yX0_countIn, Cond.code yX0_countIn cX0_countIn 6 (some .int), Cond.methodLink RX0 84 yX10_timeOf, Cond.instanceMethod yX10_timeOf, Cond.selects RX10 yX10_timeOf yX10_timeOf, Cond.code yX10_timeOf cX10_timeOf 2 (some .int), Cond.methodLink RX0 77 yX0_leastIn, Cond.static yX0_leastIn, Cond.code yX0_leastIn cX0_leastIn 7 (some .int), Cond.methodLink RX0 80 yX0_greatestEntryIn, Cond.static yX0_greatestEntryIn, Cond.code yX0_greatestEntryIn cX0_greatestEntryIn 4 (some .int), Cond.methodLink RL 59 yX12_heat, Cond.instanceMethod yX12_heat]
def wsL_law_r26 : List Cond := [Cond.selects RX12 yX12_heat yX12_heat, Cond.code yX12_heat cX12_heat 8 (some .int), Cond.methodLink RX12 146 yX12_counts, Cond.instanceMethod yX12_counts, Cond.selects RX12 yX12_counts yX12_counts, Cond.code yX12_counts cX12_counts 5 (some .int), Cond.methodLink RL 60 yX11_reserve, Cond.instanceMethod yX11_reserve, Cond.selects RX11 yX11_reserve yX11_reserve, Cond.code yX11_reserve cX11_reserve 2 (some .int), Cond.methodLink RX11 105 yX5_freeReserve, Cond.methodLink RL 63 yX12_reserve, Cond.instanceMethod yX12_reserve, Cond.selects RX12 yX12_reserve yX12_reserve, Cond.code yX12_reserve cX12_reserve 4 (some .int), Cond.methodLink RL 64 yX11_points, Cond.instanceMethod yX11_points, Cond.selects RX11 yX11_points yX11_points, Cond.code yX11_points cX11_points 2 (some .int), Cond.methodLink RX11 108 yX8_ofClub, Cond.static yX8_ofClub, Cond.code yX8_ofClub cX8_ofClub 4 (some .int), Cond.fieldLink RX8 37 "GalaHeats$Meet" "size" "I", Cond.fieldLink RX8 40 "GalaHeats$Meet" "all" "[LGalaHeats$Swimmer;"]
def wsL_law_r27 : List Cond := [Cond.fieldLink RX8 44 "GalaHeats$Swimmer" "club" "I", Cond.methodLink RL 67 yX12_points, Cond.instanceMethod yX12_points, Cond.selects RX12 yX12_points yX12_points, Cond.code yX12_points cX12_points 2 (some .int), Cond.methodLink RL 68 yX11_ifDrawn, Cond.instanceMethod yX11_ifDrawn, Cond.selects RX11 yX11_ifDrawn yX11_ifDrawn, Cond.code yX11_ifDrawn cX11_ifDrawn 4 (some .int), Cond.fieldLink RX11 113 "GalaHeats$Meet" "stage" "I", Cond.fieldLink RX11 117 "GalaHeats$Swimmer" "scratched" "Z", Cond.constant RX11 123 (-1000002), Cond.fieldLink RX11 127 "GalaHeats$Swimmer" "heat" "I", Cond.fieldLink RX11 130 "GalaHeats$Swimmer" "heatLane" "I", Cond.methodLink RX11 124 yX5_copyFrom, Cond.methodLink RL 71 yX12_ifDrawn, Cond.instanceMethod yX12_ifDrawn, Cond.selects RX12 yX12_ifDrawn yX12_ifDrawn, Cond.code yX12_ifDrawn cX12_ifDrawn 5 (some .int), Cond.methodLink RL 72 yX11_lane, Cond.instanceMethod yX11_lane, Cond.selects RX11 yX11_lane yX11_lane, Cond.code yX11_lane cX11_lane 3 (some .int), Cond.methodLink RX11 133 yX4_ofRank]
def wsL_law_r28 : List Cond := [Cond.methodLink RX11 139 yX4_rankOf, Cond.static yX4_rankOf, Cond.code yX4_rankOf cX4_rankOf 3 (some .int), Cond.methodLink RL 75 yX12_lane, Cond.instanceMethod yX12_lane, Cond.selects RX12 yX12_lane yX12_lane, Cond.code yX12_lane cX12_lane 3 (some .int), Cond.methodLink RX12 153 yX12_rankOf, Cond.instanceMethod yX12_rankOf, Cond.selects RX12 yX12_rankOf yX12_rankOf, Cond.code yX12_rankOf cX12_rankOf 3 (some .int), Cond.methodLink RL 76 yX11_why, Cond.instanceMethod yX11_why, Cond.selects RX11 yX11_why yX11_why, Cond.code yX11_why cX11_why 1 (some .int), Cond.methodLink RX11 142 yX5_reasonToWait, Cond.methodLink RL 79 yX12_why, Cond.methodLink RL 80 yX11_missing, Cond.instanceMethod yX11_missing, Cond.selects RX11 yX11_missing yX11_missing, Cond.code yX11_missing cX11_missing 2 (some .int), Cond.methodLink RX11 145 yX5_stillToSwim, Cond.methodLink RL 83 yX12_missing, Cond.instanceMethod yX12_missing]
def wsL_law_r29 : List Cond := [Cond.selects RX12 yX12_missing yX12_missing, Cond.code yX12_missing cX12_missing 4 (some .int), Cond.methodLink RL 84 yX11_leader, Cond.instanceMethod yX11_leader, Cond.selects RX11 yX11_leader yX11_leader, Cond.code yX11_leader cX11_leader 2 (some .int), Cond.methodLink RX11 148 yX8_clubAtRank, Cond.static yX8_clubAtRank, Cond.code yX8_clubAtRank cX8_clubAtRank 3 (some .int), Cond.constant RX8 51 (-1000004), Cond.methodLink RX8 47 yX8_clubsAhead, Cond.static yX8_clubsAhead, Cond.code yX8_clubsAhead cX8_clubsAhead 6 (some .int), Cond.methodLink RX8 52 yX8_ofClub, Cond.methodLink RL 87 yX12_leader, Cond.instanceMethod yX12_leader, Cond.selects RX12 yX12_leader yX12_leader, Cond.code yX12_leader cX12_leader 7 (some .int), Cond.methodLink RL 88 yX11_mean, Cond.instanceMethod yX11_mean, Cond.selects RX11 yX11_mean yX11_mean, Cond.code yX11_mean cX11_mean 1 (some .int), Cond.methodLink RX11 151 yX0_meanBits, Cond.static yX0_meanBits]
def wsL_law_r30 : List Cond := [Cond.code yX0_meanBits cX0_meanBits 5 (some .int), Cond.methodLink RX0 87 yX5_timesAboveZero, Cond.methodLink RX0 91 yX5_stageTime, Cond.methodLink RX0 94 yX0_bitsOf, Cond.static yX0_bitsOf, Cond.code yX0_bitsOf cX0_bitsOf 3 (some .int), Cond.constantFloat RX0 98 (1258291200), Cond.methodLink RL 91 yX12_mean, Cond.instanceMethod yX12_mean, Cond.selects RX12 yX12_mean yX12_mean, Cond.code yX12_mean cX12_mean 5 (some .int), Cond.methodLink RX12 156 yJxf58ca_floatToIntBits_5c35a, Cond.static yJxf58ca_floatToIntBits_5c35a, Cond.initialized RJxf58ca, Cond.code yJxf58ca_floatToIntBits_5c35a cJxf58ca_floatToIntBits_5c35a 1 (some .int), Cond.methodLink RJxf58ca 74 ⟨"java/lang/Float", "floatToRawIntBits", "(F)I"⟩, Cond.native ⟨"java/lang/Float", "floatToRawIntBits", "(F)I"⟩, Cond.static ⟨"java/lang/Float", "floatToRawIntBits", "(F)I"⟩, Cond.initialized "java/lang/Float", Cond.constant RJxf58ca 77 (2143289344), Cond.methodLink RJxf58ca 59 yJxf58ca_isNaN_12338, Cond.static yJxf58ca_isNaN_12338, Cond.code yJxf58ca_isNaN_12338 cJxf58ca_isNaN_12338 1 (some .boolean), Cond.methodLink RL 92 yX11_count]
def wsL_law_r31 : List Cond := [Cond.instanceMethod yX11_count, Cond.selects RX11 yX11_count yX11_count, Cond.code yX11_count cX11_count 2 (some .int), Cond.fieldLink RX11 154 "GalaHeats$History" "kept" "I", Cond.fieldLink RX11 157 "GalaHeats$OrderText" "length" "I", Cond.fieldLink RX11 160 "GalaHeats$Meet" "settings" "[I", Cond.methodLink RX11 164 yX0_ofMeet, Cond.static yX0_ofMeet, Cond.code yX0_ofMeet cX0_ofMeet 2 (some .int), Cond.fieldLink RX0 99 "GalaHeats$Meet" "stage" "I", Cond.fieldLink RX0 106 "GalaHeats$Meet" "heats" "I", Cond.fieldLink RX0 118 "GalaHeats$Meet" "eventsEnded" "I", Cond.fieldLink RX0 121 "GalaHeats$Meet" "record" "I", Cond.fieldLink RX0 124 "GalaHeats$Meet" "recordSwimmer" "I", Cond.fieldLink RX0 127 "GalaHeats$Meet" "reservesCalled" "I", Cond.constant RX0 135 (-1000001), Cond.methodLink RX0 102 yX0_scratchedSet, Cond.static yX0_scratchedSet, Cond.code yX0_scratchedSet cX0_scratchedSet 3 (some .int), Cond.methodLink RX0 109 yX5_finalSet, Cond.methodLink RX0 112 yX0_freeReserves, Cond.static yX0_freeReserves, Cond.code yX0_freeReserves cX0_freeReserves 2 (some .int), Cond.methodLink RX0 136 yX5_freeReserve]
def wsL_law_r32 : List Cond := [Cond.methodLink RX0 115 yX0_timesOfEvent, Cond.static yX0_timesOfEvent, Cond.code yX0_timesOfEvent cX0_timesOfEvent 3 (some .int), Cond.methodLink RX0 130 yX8_ofAllClubs, Cond.static yX8_ofAllClubs, Cond.code yX8_ofAllClubs cX8_ofAllClubs 3 (some .int), Cond.methodLink RL 95 yX12_count, Cond.instanceMethod yX12_count, Cond.selects RX12 yX12_count yX12_count, Cond.code yX12_count cX12_count 2 (some .int), Cond.fieldLink RX12 174 "GalaHeatsModel" "typed" "I", Cond.methodLink RX12 162 yX12_goneOnes, Cond.instanceMethod yX12_goneOnes, Cond.selects RX12 yX12_goneOnes yX12_goneOnes, Cond.code yX12_goneOnes cX12_goneOnes 3 (some .int), Cond.methodLink RX12 165 yX12_reserves, Cond.instanceMethod yX12_reserves, Cond.selects RX12 yX12_reserves yX12_reserves, Cond.code yX12_reserves cX12_reserves 2 (some .int), Cond.methodLink RX12 150 yX12_reserve, Cond.methodLink RX12 168 yX12_timesNow, Cond.instanceMethod yX12_timesNow, Cond.selects RX12 yX12_timesNow yX12_timesNow, Cond.code yX12_timesNow cX12_timesNow 3 (some .int)]
def wsL_law_r33 : List Cond := [Cond.methodLink RX12 171 yX12_allPoints, Cond.instanceMethod yX12_allPoints, Cond.selects RX12 yX12_allPoints yX12_allPoints, Cond.code yX12_allPoints cX12_allPoints 3 (some .int), Cond.methodLink RL 96 yX11_undo, Cond.instanceMethod yX11_undo, Cond.selects RX11 yX11_undo yX11_undo, Cond.code yX11_undo cX11_undo 1 (some .int), Cond.methodLink RX11 167 yX3_restoreInto, Cond.instanceMethod yX3_restoreInto, Cond.selects RX3 yX3_restoreInto yX3_restoreInto, Cond.code yX3_restoreInto cX3_restoreInto 2 (some .int), Cond.constant RX3 29 (-1000002), Cond.methodLink RL 99 yX12_undo, Cond.instanceMethod yX12_undo, Cond.selects RX12 yX12_undo yX12_undo, Cond.code yX12_undo cX12_undo 2 (some .int), Cond.methodLink RL 100 yX11_type, Cond.instanceMethod yX11_type, Cond.selects RX11 yX11_type yX11_type, Cond.code yX11_type cX11_type 2 (some .int), Cond.methodLink RX11 170 yX6_append, Cond.instanceMethod yX6_append, Cond.selects RX6 yX6_append yX6_append]
def wsL_law_r34 : List Cond := [Cond.code yX6_append cX6_append 2 (some .int), Cond.fieldLink RX6 15 "GalaHeats$OrderText" "length" "I", Cond.constant RX6 19 (-1000003), Cond.methodLink RL 103 yX12_type, Cond.instanceMethod yX12_type, Cond.selects RX12 yX12_type yX12_type, Cond.code yX12_type cX12_type 2 (some .int), Cond.methodLink RL 104 yX11_clearText, Cond.instanceMethod yX11_clearText, Cond.selects RX11 yX11_clearText yX11_clearText, Cond.code yX11_clearText cX11_clearText 1 (some .int), Cond.methodLink RX11 173 yX6_empty, Cond.instanceMethod yX6_empty, Cond.selects RX6 yX6_empty yX6_empty, Cond.code yX6_empty cX6_empty 2 (some .int), Cond.methodLink RL 107 yX12_clearText, Cond.instanceMethod yX12_clearText, Cond.selects RX12 yX12_clearText yX12_clearText, Cond.code yX12_clearText cX12_clearText 2 (some .int), Cond.methodLink RL 108 yX11_fault, Cond.instanceMethod yX11_fault, Cond.selects RX11 yX11_fault yX11_fault, Cond.code yX11_fault cX11_fault 2 (some .int), Cond.fieldLink RX11 180 "GalaHeats$Rehearsal" "reason" "I"]
def wsL_law_r35 : List Cond := [Cond.constant RX11 183 (-1000004), Cond.fieldLink RX11 184 "GalaHeats$Rehearsal" "position" "I", Cond.fieldLink RX11 187 "GalaHeats$Rehearsal" "cause" "I", Cond.methodLink RX11 176 yX7_tryOrders, Cond.instanceMethod yX7_tryOrders, Cond.selects RX7 yX7_tryOrders yX7_tryOrders, Cond.code yX7_tryOrders cX7_tryOrders 7 none, Cond.fieldLink RX7 15 "GalaHeats$Rehearsal" "orders" "I", Cond.fieldLink RX7 21 "GalaHeats$Rehearsal" "reason" "I", Cond.fieldLink RX7 40 "GalaHeats$OrderText" "position" "I", Cond.fieldLink RX7 43 "GalaHeats$OrderText" "start" "I", Cond.fieldLink RX7 46 "GalaHeats$Rehearsal" "position" "I", Cond.fieldLink RX7 47 "GalaHeats$Rehearsal" "cause" "I", Cond.methodLink RX7 9 yX5_copyFrom, Cond.methodLink RX7 24 yX6_rewind, Cond.instanceMethod yX6_rewind, Cond.selects RX6 yX6_rewind yX6_rewind, Cond.code yX6_rewind cX6_rewind 1 none, Cond.fieldLink RX6 20 "GalaHeats$OrderText" "position" "I", Cond.methodLink RX7 29 yX6_hasMore, Cond.instanceMethod yX6_hasMore, Cond.selects RX6 yX6_hasMore yX6_hasMore, Cond.code yX6_hasMore cX6_hasMore 1 (some .boolean), Cond.methodLink RX7 33 yX6_readOrder]
def wsL_law_r36 : List Cond := [Cond.instanceMethod yX6_readOrder, Cond.selects RX6 yX6_readOrder yX6_readOrder, Cond.code yX6_readOrder cX6_readOrder 2 (some .boolean), Cond.fieldLink RX6 23 "GalaHeats$OrderText" "start" "I", Cond.fieldLink RX6 30 "GalaHeats$OrderText" "kind" "I", Cond.fieldLink RX6 41 "GalaHeats$OrderText" "number" "I", Cond.fieldLink RX6 44 "GalaHeats$OrderText" "first" "I", Cond.fieldLink RX6 51 "GalaHeats$OrderText" "second" "I", Cond.methodLink RX6 26 yX6_signHere, Cond.instanceMethod yX6_signHere, Cond.selects RX6 yX6_signHere yX6_signHere, Cond.code yX6_signHere cX6_signHere 1 (some .int), Cond.methodLink RX6 33 yX6_numbersOf, Cond.instanceMethod yX6_numbersOf, Cond.selects RX6 yX6_numbersOf yX6_numbersOf, Cond.code yX6_numbersOf cX6_numbersOf 2 (some .int), Cond.methodLink RX6 37 yX6_readNumber, Cond.instanceMethod yX6_readNumber, Cond.selects RX6 yX6_readNumber yX6_readNumber, Cond.code yX6_readNumber cX6_readNumber 2 (some .boolean), Cond.methodLink RX6 47 yX6_readSign, Cond.instanceMethod yX6_readSign, Cond.selects RX6 yX6_readSign yX6_readSign, Cond.code yX6_readSign cX6_readSign 2 (some .boolean)]
def wsL_law_r37 : List Cond := [Cond.methodLink RX7 36 yX7_obey, Cond.instanceMethod yX7_obey, Cond.selects RX7 yX7_obey yX7_obey, Cond.code yX7_obey cX7_obey 3 (some .int), Cond.fieldLink RX7 50 "GalaHeats$OrderText" "kind" "I", Cond.fieldLink RX7 53 "GalaHeats$OrderText" "first" "I", Cond.fieldLink RX7 56 "GalaHeats$OrderText" "second" "I", Cond.constant RX7 85 (-1000002), Cond.methodLink RX7 59 yX1_addSwimmer, Cond.methodLink RX7 65 yX1_giveTime, Cond.methodLink RX7 68 yX1_withdraw, Cond.methodLink RX7 72 yX1_drawHeats, Cond.methodLink RX7 76 yX1_drawFinal, Cond.methodLink RX7 79 yX1_endEvent, Cond.methodLink RX7 82 yX1_beginNextEvent, Cond.methodLink RL 111 yX12_fault, Cond.instanceMethod yX12_fault, Cond.selects RX12 yX12_fault yX12_fault, Cond.code yX12_fault cX12_fault 3 (some .int), Cond.fieldLink RX12 216 "GalaHeatsModel" "from" "I", Cond.fieldLink RX12 229 "GalaHeatsModel" "reason" "I", Cond.fieldLink RX12 232 "GalaHeatsModel" "cause" "I", Cond.methodLink RX12 235 yX12_copies, Cond.static yX12_copies]
def wsL_law_r38 : List Cond := [Cond.code yX12_copies cX12_copies 3 none, Cond.methodLink RX12 239 yX12_plays, Cond.instanceMethod yX12_plays, Cond.selects RX12 yX12_plays yX12_plays, Cond.code yX12_plays cX12_plays 4 (some .boolean), Cond.fieldLink RX12 177 "GalaHeatsModel" "spot" "I", Cond.fieldLink RX12 219 "GalaHeatsModel" "orders" "I", Cond.methodLink RX12 222 yX12_reads, Cond.instanceMethod yX12_reads, Cond.selects RX12 yX12_reads yX12_reads, Cond.code yX12_reads cX12_reads 3 (some .boolean), Cond.fieldLink RX12 183 "GalaHeatsModel" "order" "I", Cond.methodLink RX12 180 yX12_isAt, Cond.instanceMethod yX12_isAt, Cond.selects RX12 yX12_isAt yX12_isAt, Cond.code yX12_isAt cX12_isAt 3 (some .boolean), Cond.methodLink RX12 186 yX12_numbersOf, Cond.static yX12_numbersOf, Cond.code yX12_numbersOf cX12_numbersOf 1 (some .int), Cond.methodLink RX12 189 yX12_numbered, Cond.instanceMethod yX12_numbered, Cond.selects RX12 yX12_numbered yX12_numbered, Cond.code yX12_numbered cX12_numbered 3 (some .boolean), Cond.methodLink RX12 192 yX12_sign]
def wsL_law_r39 : List Cond := [Cond.instanceMethod yX12_sign, Cond.selects RX12 yX12_sign yX12_sign, Cond.code yX12_sign cX12_sign 3 (some .boolean), Cond.methodLink RX12 226 yX12_does, Cond.instanceMethod yX12_does, Cond.selects RX12 yX12_does yX12_does, Cond.code yX12_does cX12_does 1 (some .int), Cond.methodLink RX12 195 yX12_enter, Cond.methodLink RX12 198 yX12_swim, Cond.methodLink RX12 201 yX12_scratch, Cond.methodLink RX12 204 yX12_draw, Cond.methodLink RX12 207 yX12_finals, Cond.methodLink RX12 210 yX12_end, Cond.methodLink RX12 213 yX12_next, Cond.methodLink RL 112 yX11_play, Cond.instanceMethod yX11_play, Cond.selects RX11 yX11_play yX11_play, Cond.code yX11_play cX11_play 1 (some .int), Cond.fieldLink RX11 190 "GalaHeats$Rehearsal" "orders" "I", Cond.methodLink RL 115 yX12_play, Cond.instanceMethod yX12_play, Cond.selects RX12 yX12_play yX12_play, Cond.code yX12_play cX12_play 2 (some .int)]
def wsL_law : List Cond := (wsL_law_r1 ++ (wsL_law_r2 ++ (wsL_law_r3 ++ (wsL_law_r4 ++ (wsL_law_r5 ++ (wsL_law_r6 ++ (wsL_law_r7 ++ (wsL_law_r8 ++ (wsL_law_r9 ++ (wsL_law_r10 ++ (wsL_law_r11 ++ (wsL_law_r12 ++ (wsL_law_r13 ++ (wsL_law_r14 ++ (wsL_law_r15 ++ (wsL_law_r16 ++ (wsL_law_r17 ++ (wsL_law_r18 ++ (wsL_law_r19 ++ (wsL_law_r20 ++ (wsL_law_r21 ++ (wsL_law_r22 ++ (wsL_law_r23 ++ (wsL_law_r24 ++ (wsL_law_r25 ++ (wsL_law_r26 ++ (wsL_law_r27 ++ (wsL_law_r28 ++ (wsL_law_r29 ++ (wsL_law_r30 ++ (wsL_law_r31 ++ (wsL_law_r32 ++ (wsL_law_r33 ++ (wsL_law_r34 ++ (wsL_law_r35 ++ (wsL_law_r36 ++ (wsL_law_r37 ++ (wsL_law_r38 ++ wsL_law_r39)))))))))))))))))))))))))))))))))))))) ++ wsX110 ++ wsX120 ++ wsX50 ++ wsX30 ++ wsX60 ++ wsX70 ++ wsX100 ++ ([] : List Cond)
theorem inlX3 : ∀ w ∈ wsX30, w ∈ wsL_law := fun _ h => List.mem_append_left _ (List.mem_append_left _ (List.mem_append_left _ (List.mem_append_left _ (List.mem_append_right _ h))))
theorem inlX5 : ∀ w ∈ wsX50, w ∈ wsL_law := fun _ h => List.mem_append_left _ (List.mem_append_left _ (List.mem_append_left _ (List.mem_append_left _ (List.mem_append_left _ (List.mem_append_right _ h)))))
theorem inlX6 : ∀ w ∈ wsX60, w ∈ wsL_law := fun _ h => List.mem_append_left _ (List.mem_append_left _ (List.mem_append_left _ (List.mem_append_right _ h)))
theorem inlX7 : ∀ w ∈ wsX70, w ∈ wsL_law := fun _ h => List.mem_append_left _ (List.mem_append_left _ (List.mem_append_right _ h))
theorem inlX10 : ∀ w ∈ wsX100, w ∈ wsL_law := fun _ h => List.mem_append_left _ (List.mem_append_right _ h)
theorem inlX11 : ∀ w ∈ wsX110, w ∈ wsL_law := fun _ h => List.mem_append_left _ (List.mem_append_left _ (List.mem_append_left _ (List.mem_append_left _ (List.mem_append_left _ (List.mem_append_left _ (List.mem_append_left _ (List.mem_append_right _ h)))))))
theorem inlX12 : ∀ w ∈ wsX120, w ∈ wsL_law := fun _ h => List.mem_append_left _ (List.mem_append_left _ (List.mem_append_left _ (List.mem_append_left _ (List.mem_append_left _ (List.mem_append_left _ (List.mem_append_right _ h))))))
theorem inR0 : ∀ w ∈ (wsL_law_r1 ++ (wsL_law_r2 ++ (wsL_law_r3 ++ (wsL_law_r4 ++ (wsL_law_r5 ++ (wsL_law_r6 ++ (wsL_law_r7 ++ (wsL_law_r8 ++ (wsL_law_r9 ++ (wsL_law_r10 ++ (wsL_law_r11 ++ (wsL_law_r12 ++ (wsL_law_r13 ++ (wsL_law_r14 ++ (wsL_law_r15 ++ (wsL_law_r16 ++ (wsL_law_r17 ++ (wsL_law_r18 ++ (wsL_law_r19 ++ (wsL_law_r20 ++ (wsL_law_r21 ++ (wsL_law_r22 ++ (wsL_law_r23 ++ (wsL_law_r24 ++ (wsL_law_r25 ++ (wsL_law_r26 ++ (wsL_law_r27 ++ (wsL_law_r28 ++ (wsL_law_r29 ++ (wsL_law_r30 ++ (wsL_law_r31 ++ (wsL_law_r32 ++ (wsL_law_r33 ++ (wsL_law_r34 ++ (wsL_law_r35 ++ (wsL_law_r36 ++ (wsL_law_r37 ++ (wsL_law_r38 ++ (wsL_law_r39))))))))))))))))))))))))))))))))))))))), w ∈ wsL_law := fun _ h => List.mem_append_left _ (List.mem_append_left _ (List.mem_append_left _ (List.mem_append_left _ (List.mem_append_left _ (List.mem_append_left _ (List.mem_append_left _ (List.mem_append_left _ (h))))))))
theorem inR1 : ∀ w ∈ wsL_law_r1, w ∈ wsL_law := fun w h => inR0 w (List.mem_append_left _ h)
theorem inR2 : ∀ w ∈ wsL_law_r2, w ∈ wsL_law := fun w h => inR0 w (List.mem_append_right _ (List.mem_append_left _ h))
theorem inR3 : ∀ w ∈ wsL_law_r3, w ∈ wsL_law := fun w h => inR0 w (List.mem_append_right _ (List.mem_append_right _ (List.mem_append_left _ h)))
theorem inR4 : ∀ w ∈ wsL_law_r4, w ∈ wsL_law := fun w h => inR0 w (List.mem_append_right _ (List.mem_append_right _ (List.mem_append_right _ (List.mem_append_left _ h))))
theorem inR5 : ∀ w ∈ wsL_law_r5, w ∈ wsL_law := fun w h => inR0 w (List.mem_append_right _ (List.mem_append_right _ (List.mem_append_right _ (List.mem_append_right _ (List.mem_append_left _ h)))))
theorem inR6 : ∀ w ∈ wsL_law_r6, w ∈ wsL_law := fun w h => inR0 w (List.mem_append_right _ (List.mem_append_right _ (List.mem_append_right _ (List.mem_append_right _ (List.mem_append_right _ (List.mem_append_left _ h))))))
theorem inR7 : ∀ w ∈ wsL_law_r7, w ∈ wsL_law := fun w h => inR0 w (List.mem_append_right _ (List.mem_append_right _ (List.mem_append_right _ (List.mem_append_right _ (List.mem_append_right _ (List.mem_append_right _ (List.mem_append_left _ h)))))))
theorem inR8 : ∀ w ∈ wsL_law_r8, w ∈ wsL_law := fun w h => inR0 w (List.mem_append_right _ (List.mem_append_right _ (List.mem_append_right _ (List.mem_append_right _ (List.mem_append_right _ (List.mem_append_right _ (List.mem_append_right _ (List.mem_append_left _ h))))))))
theorem inR9 : ∀ w ∈ wsL_law_r9, w ∈ wsL_law := fun w h => inR0 w (List.mem_append_right _ (List.mem_append_right _ (List.mem_append_right _ (List.mem_append_right _ (List.mem_append_right _ (List.mem_append_right _ (List.mem_append_right _ (List.mem_append_right _ (List.mem_append_left _ h)))))))))
theorem inR10 : ∀ w ∈ wsL_law_r10, w ∈ wsL_law := fun w h => inR0 w (List.mem_append_right _ (List.mem_append_right _ (List.mem_append_right _ (List.mem_append_right _ (List.mem_append_right _ (List.mem_append_right _ (List.mem_append_right _ (List.mem_append_right _ (List.mem_append_right _ (List.mem_append_left _ h))))))))))
theorem inR11 : ∀ w ∈ wsL_law_r11, w ∈ wsL_law := fun w h => inR0 w (List.mem_append_right _ (List.mem_append_right _ (List.mem_append_right _ (List.mem_append_right _ (List.mem_append_right _ (List.mem_append_right _ (List.mem_append_right _ (List.mem_append_right _ (List.mem_append_right _ (List.mem_append_right _ (List.mem_append_left _ h)))))))))))
theorem inR12 : ∀ w ∈ wsL_law_r12, w ∈ wsL_law := fun w h => inR0 w (List.mem_append_right _ (List.mem_append_right _ (List.mem_append_right _ (List.mem_append_right _ (List.mem_append_right _ (List.mem_append_right _ (List.mem_append_right _ (List.mem_append_right _ (List.mem_append_right _ (List.mem_append_right _ (List.mem_append_right _ (List.mem_append_left _ h))))))))))))
theorem inR13 : ∀ w ∈ wsL_law_r13, w ∈ wsL_law := fun w h => inR0 w (List.mem_append_right _ (List.mem_append_right _ (List.mem_append_right _ (List.mem_append_right _ (List.mem_append_right _ (List.mem_append_right _ (List.mem_append_right _ (List.mem_append_right _ (List.mem_append_right _ (List.mem_append_right _ (List.mem_append_right _ (List.mem_append_right _ (List.mem_append_left _ h)))))))))))))
theorem inR14 : ∀ w ∈ wsL_law_r14, w ∈ wsL_law := fun w h => inR0 w (List.mem_append_right _ (List.mem_append_right _ (List.mem_append_right _ (List.mem_append_right _ (List.mem_append_right _ (List.mem_append_right _ (List.mem_append_right _ (List.mem_append_right _ (List.mem_append_right _ (List.mem_append_right _ (List.mem_append_right _ (List.mem_append_right _ (List.mem_append_right _ (List.mem_append_left _ h))))))))))))))
theorem inR15 : ∀ w ∈ wsL_law_r15, w ∈ wsL_law := fun w h => inR0 w (List.mem_append_right _ (List.mem_append_right _ (List.mem_append_right _ (List.mem_append_right _ (List.mem_append_right _ (List.mem_append_right _ (List.mem_append_right _ (List.mem_append_right _ (List.mem_append_right _ (List.mem_append_right _ (List.mem_append_right _ (List.mem_append_right _ (List.mem_append_right _ (List.mem_append_right _ (List.mem_append_left _ h)))))))))))))))
theorem inR16 : ∀ w ∈ wsL_law_r16, w ∈ wsL_law := fun w h => inR0 w (List.mem_append_right _ (List.mem_append_right _ (List.mem_append_right _ (List.mem_append_right _ (List.mem_append_right _ (List.mem_append_right _ (List.mem_append_right _ (List.mem_append_right _ (List.mem_append_right _ (List.mem_append_right _ (List.mem_append_right _ (List.mem_append_right _ (List.mem_append_right _ (List.mem_append_right _ (List.mem_append_right _ (List.mem_append_left _ h))))))))))))))))
theorem inR17 : ∀ w ∈ wsL_law_r17, w ∈ wsL_law := fun w h => inR0 w (List.mem_append_right _ (List.mem_append_right _ (List.mem_append_right _ (List.mem_append_right _ (List.mem_append_right _ (List.mem_append_right _ (List.mem_append_right _ (List.mem_append_right _ (List.mem_append_right _ (List.mem_append_right _ (List.mem_append_right _ (List.mem_append_right _ (List.mem_append_right _ (List.mem_append_right _ (List.mem_append_right _ (List.mem_append_right _ (List.mem_append_left _ h)))))))))))))))))
theorem inR18 : ∀ w ∈ wsL_law_r18, w ∈ wsL_law := fun w h => inR0 w (List.mem_append_right _ (List.mem_append_right _ (List.mem_append_right _ (List.mem_append_right _ (List.mem_append_right _ (List.mem_append_right _ (List.mem_append_right _ (List.mem_append_right _ (List.mem_append_right _ (List.mem_append_right _ (List.mem_append_right _ (List.mem_append_right _ (List.mem_append_right _ (List.mem_append_right _ (List.mem_append_right _ (List.mem_append_right _ (List.mem_append_right _ (List.mem_append_left _ h))))))))))))))))))
theorem inR19 : ∀ w ∈ wsL_law_r19, w ∈ wsL_law := fun w h => inR0 w (List.mem_append_right _ (List.mem_append_right _ (List.mem_append_right _ (List.mem_append_right _ (List.mem_append_right _ (List.mem_append_right _ (List.mem_append_right _ (List.mem_append_right _ (List.mem_append_right _ (List.mem_append_right _ (List.mem_append_right _ (List.mem_append_right _ (List.mem_append_right _ (List.mem_append_right _ (List.mem_append_right _ (List.mem_append_right _ (List.mem_append_right _ (List.mem_append_right _ (List.mem_append_left _ h)))))))))))))))))))
theorem inR20 : ∀ w ∈ wsL_law_r20, w ∈ wsL_law := fun w h => inR0 w (List.mem_append_right _ (List.mem_append_right _ (List.mem_append_right _ (List.mem_append_right _ (List.mem_append_right _ (List.mem_append_right _ (List.mem_append_right _ (List.mem_append_right _ (List.mem_append_right _ (List.mem_append_right _ (List.mem_append_right _ (List.mem_append_right _ (List.mem_append_right _ (List.mem_append_right _ (List.mem_append_right _ (List.mem_append_right _ (List.mem_append_right _ (List.mem_append_right _ (List.mem_append_right _ (List.mem_append_left _ h))))))))))))))))))))
theorem inR21 : ∀ w ∈ wsL_law_r21, w ∈ wsL_law := fun w h => inR0 w (List.mem_append_right _ (List.mem_append_right _ (List.mem_append_right _ (List.mem_append_right _ (List.mem_append_right _ (List.mem_append_right _ (List.mem_append_right _ (List.mem_append_right _ (List.mem_append_right _ (List.mem_append_right _ (List.mem_append_right _ (List.mem_append_right _ (List.mem_append_right _ (List.mem_append_right _ (List.mem_append_right _ (List.mem_append_right _ (List.mem_append_right _ (List.mem_append_right _ (List.mem_append_right _ (List.mem_append_right _ (List.mem_append_left _ h)))))))))))))))))))))
theorem inR22 : ∀ w ∈ wsL_law_r22, w ∈ wsL_law := fun w h => inR0 w (List.mem_append_right _ (List.mem_append_right _ (List.mem_append_right _ (List.mem_append_right _ (List.mem_append_right _ (List.mem_append_right _ (List.mem_append_right _ (List.mem_append_right _ (List.mem_append_right _ (List.mem_append_right _ (List.mem_append_right _ (List.mem_append_right _ (List.mem_append_right _ (List.mem_append_right _ (List.mem_append_right _ (List.mem_append_right _ (List.mem_append_right _ (List.mem_append_right _ (List.mem_append_right _ (List.mem_append_right _ (List.mem_append_right _ (List.mem_append_left _ h))))))))))))))))))))))
theorem inR23 : ∀ w ∈ wsL_law_r23, w ∈ wsL_law := fun w h => inR0 w (List.mem_append_right _ (List.mem_append_right _ (List.mem_append_right _ (List.mem_append_right _ (List.mem_append_right _ (List.mem_append_right _ (List.mem_append_right _ (List.mem_append_right _ (List.mem_append_right _ (List.mem_append_right _ (List.mem_append_right _ (List.mem_append_right _ (List.mem_append_right _ (List.mem_append_right _ (List.mem_append_right _ (List.mem_append_right _ (List.mem_append_right _ (List.mem_append_right _ (List.mem_append_right _ (List.mem_append_right _ (List.mem_append_right _ (List.mem_append_right _ (List.mem_append_left _ h)))))))))))))))))))))))
theorem inR24 : ∀ w ∈ wsL_law_r24, w ∈ wsL_law := fun w h => inR0 w (List.mem_append_right _ (List.mem_append_right _ (List.mem_append_right _ (List.mem_append_right _ (List.mem_append_right _ (List.mem_append_right _ (List.mem_append_right _ (List.mem_append_right _ (List.mem_append_right _ (List.mem_append_right _ (List.mem_append_right _ (List.mem_append_right _ (List.mem_append_right _ (List.mem_append_right _ (List.mem_append_right _ (List.mem_append_right _ (List.mem_append_right _ (List.mem_append_right _ (List.mem_append_right _ (List.mem_append_right _ (List.mem_append_right _ (List.mem_append_right _ (List.mem_append_right _ (List.mem_append_left _ h))))))))))))))))))))))))
theorem inR25 : ∀ w ∈ wsL_law_r25, w ∈ wsL_law := fun w h => inR0 w (List.mem_append_right _ (List.mem_append_right _ (List.mem_append_right _ (List.mem_append_right _ (List.mem_append_right _ (List.mem_append_right _ (List.mem_append_right _ (List.mem_append_right _ (List.mem_append_right _ (List.mem_append_right _ (List.mem_append_right _ (List.mem_append_right _ (List.mem_append_right _ (List.mem_append_right _ (List.mem_append_right _ (List.mem_append_right _ (List.mem_append_right _ (List.mem_append_right _ (List.mem_append_right _ (List.mem_append_right _ (List.mem_append_right _ (List.mem_append_right _ (List.mem_append_right _ (List.mem_append_right _ (List.mem_append_left _ h)))))))))))))))))))))))))
theorem inR26 : ∀ w ∈ wsL_law_r26, w ∈ wsL_law := fun w h => inR0 w (List.mem_append_right _ (List.mem_append_right _ (List.mem_append_right _ (List.mem_append_right _ (List.mem_append_right _ (List.mem_append_right _ (List.mem_append_right _ (List.mem_append_right _ (List.mem_append_right _ (List.mem_append_right _ (List.mem_append_right _ (List.mem_append_right _ (List.mem_append_right _ (List.mem_append_right _ (List.mem_append_right _ (List.mem_append_right _ (List.mem_append_right _ (List.mem_append_right _ (List.mem_append_right _ (List.mem_append_right _ (List.mem_append_right _ (List.mem_append_right _ (List.mem_append_right _ (List.mem_append_right _ (List.mem_append_right _ (List.mem_append_left _ h))))))))))))))))))))))))))
theorem inR27 : ∀ w ∈ wsL_law_r27, w ∈ wsL_law := fun w h => inR0 w (List.mem_append_right _ (List.mem_append_right _ (List.mem_append_right _ (List.mem_append_right _ (List.mem_append_right _ (List.mem_append_right _ (List.mem_append_right _ (List.mem_append_right _ (List.mem_append_right _ (List.mem_append_right _ (List.mem_append_right _ (List.mem_append_right _ (List.mem_append_right _ (List.mem_append_right _ (List.mem_append_right _ (List.mem_append_right _ (List.mem_append_right _ (List.mem_append_right _ (List.mem_append_right _ (List.mem_append_right _ (List.mem_append_right _ (List.mem_append_right _ (List.mem_append_right _ (List.mem_append_right _ (List.mem_append_right _ (List.mem_append_right _ (List.mem_append_left _ h)))))))))))))))))))))))))))
theorem inR28 : ∀ w ∈ wsL_law_r28, w ∈ wsL_law := fun w h => inR0 w (List.mem_append_right _ (List.mem_append_right _ (List.mem_append_right _ (List.mem_append_right _ (List.mem_append_right _ (List.mem_append_right _ (List.mem_append_right _ (List.mem_append_right _ (List.mem_append_right _ (List.mem_append_right _ (List.mem_append_right _ (List.mem_append_right _ (List.mem_append_right _ (List.mem_append_right _ (List.mem_append_right _ (List.mem_append_right _ (List.mem_append_right _ (List.mem_append_right _ (List.mem_append_right _ (List.mem_append_right _ (List.mem_append_right _ (List.mem_append_right _ (List.mem_append_right _ (List.mem_append_right _ (List.mem_append_right _ (List.mem_append_right _ (List.mem_append_right _ (List.mem_append_left _ h))))))))))))))))))))))))))))
theorem inR29 : ∀ w ∈ wsL_law_r29, w ∈ wsL_law := fun w h => inR0 w (List.mem_append_right _ (List.mem_append_right _ (List.mem_append_right _ (List.mem_append_right _ (List.mem_append_right _ (List.mem_append_right _ (List.mem_append_right _ (List.mem_append_right _ (List.mem_append_right _ (List.mem_append_right _ (List.mem_append_right _ (List.mem_append_right _ (List.mem_append_right _ (List.mem_append_right _ (List.mem_append_right _ (List.mem_append_right _ (List.mem_append_right _ (List.mem_append_right _ (List.mem_append_right _ (List.mem_append_right _ (List.mem_append_right _ (List.mem_append_right _ (List.mem_append_right _ (List.mem_append_right _ (List.mem_append_right _ (List.mem_append_right _ (List.mem_append_right _ (List.mem_append_right _ (List.mem_append_left _ h)))))))))))))))))))))))))))))
theorem inR30 : ∀ w ∈ wsL_law_r30, w ∈ wsL_law := fun w h => inR0 w (List.mem_append_right _ (List.mem_append_right _ (List.mem_append_right _ (List.mem_append_right _ (List.mem_append_right _ (List.mem_append_right _ (List.mem_append_right _ (List.mem_append_right _ (List.mem_append_right _ (List.mem_append_right _ (List.mem_append_right _ (List.mem_append_right _ (List.mem_append_right _ (List.mem_append_right _ (List.mem_append_right _ (List.mem_append_right _ (List.mem_append_right _ (List.mem_append_right _ (List.mem_append_right _ (List.mem_append_right _ (List.mem_append_right _ (List.mem_append_right _ (List.mem_append_right _ (List.mem_append_right _ (List.mem_append_right _ (List.mem_append_right _ (List.mem_append_right _ (List.mem_append_right _ (List.mem_append_right _ (List.mem_append_left _ h))))))))))))))))))))))))))))))
theorem inR31 : ∀ w ∈ wsL_law_r31, w ∈ wsL_law := fun w h => inR0 w (List.mem_append_right _ (List.mem_append_right _ (List.mem_append_right _ (List.mem_append_right _ (List.mem_append_right _ (List.mem_append_right _ (List.mem_append_right _ (List.mem_append_right _ (List.mem_append_right _ (List.mem_append_right _ (List.mem_append_right _ (List.mem_append_right _ (List.mem_append_right _ (List.mem_append_right _ (List.mem_append_right _ (List.mem_append_right _ (List.mem_append_right _ (List.mem_append_right _ (List.mem_append_right _ (List.mem_append_right _ (List.mem_append_right _ (List.mem_append_right _ (List.mem_append_right _ (List.mem_append_right _ (List.mem_append_right _ (List.mem_append_right _ (List.mem_append_right _ (List.mem_append_right _ (List.mem_append_right _ (List.mem_append_right _ (List.mem_append_left _ h)))))))))))))))))))))))))))))))
theorem inR32 : ∀ w ∈ wsL_law_r32, w ∈ wsL_law := fun w h => inR0 w (List.mem_append_right _ (List.mem_append_right _ (List.mem_append_right _ (List.mem_append_right _ (List.mem_append_right _ (List.mem_append_right _ (List.mem_append_right _ (List.mem_append_right _ (List.mem_append_right _ (List.mem_append_right _ (List.mem_append_right _ (List.mem_append_right _ (List.mem_append_right _ (List.mem_append_right _ (List.mem_append_right _ (List.mem_append_right _ (List.mem_append_right _ (List.mem_append_right _ (List.mem_append_right _ (List.mem_append_right _ (List.mem_append_right _ (List.mem_append_right _ (List.mem_append_right _ (List.mem_append_right _ (List.mem_append_right _ (List.mem_append_right _ (List.mem_append_right _ (List.mem_append_right _ (List.mem_append_right _ (List.mem_append_right _ (List.mem_append_right _ (List.mem_append_left _ h))))))))))))))))))))))))))))))))
theorem inR33 : ∀ w ∈ wsL_law_r33, w ∈ wsL_law := fun w h => inR0 w (List.mem_append_right _ (List.mem_append_right _ (List.mem_append_right _ (List.mem_append_right _ (List.mem_append_right _ (List.mem_append_right _ (List.mem_append_right _ (List.mem_append_right _ (List.mem_append_right _ (List.mem_append_right _ (List.mem_append_right _ (List.mem_append_right _ (List.mem_append_right _ (List.mem_append_right _ (List.mem_append_right _ (List.mem_append_right _ (List.mem_append_right _ (List.mem_append_right _ (List.mem_append_right _ (List.mem_append_right _ (List.mem_append_right _ (List.mem_append_right _ (List.mem_append_right _ (List.mem_append_right _ (List.mem_append_right _ (List.mem_append_right _ (List.mem_append_right _ (List.mem_append_right _ (List.mem_append_right _ (List.mem_append_right _ (List.mem_append_right _ (List.mem_append_right _ (List.mem_append_left _ h)))))))))))))))))))))))))))))))))
theorem inR34 : ∀ w ∈ wsL_law_r34, w ∈ wsL_law := fun w h => inR0 w (List.mem_append_right _ (List.mem_append_right _ (List.mem_append_right _ (List.mem_append_right _ (List.mem_append_right _ (List.mem_append_right _ (List.mem_append_right _ (List.mem_append_right _ (List.mem_append_right _ (List.mem_append_right _ (List.mem_append_right _ (List.mem_append_right _ (List.mem_append_right _ (List.mem_append_right _ (List.mem_append_right _ (List.mem_append_right _ (List.mem_append_right _ (List.mem_append_right _ (List.mem_append_right _ (List.mem_append_right _ (List.mem_append_right _ (List.mem_append_right _ (List.mem_append_right _ (List.mem_append_right _ (List.mem_append_right _ (List.mem_append_right _ (List.mem_append_right _ (List.mem_append_right _ (List.mem_append_right _ (List.mem_append_right _ (List.mem_append_right _ (List.mem_append_right _ (List.mem_append_right _ (List.mem_append_left _ h))))))))))))))))))))))))))))))))))
theorem inR35 : ∀ w ∈ wsL_law_r35, w ∈ wsL_law := fun w h => inR0 w (List.mem_append_right _ (List.mem_append_right _ (List.mem_append_right _ (List.mem_append_right _ (List.mem_append_right _ (List.mem_append_right _ (List.mem_append_right _ (List.mem_append_right _ (List.mem_append_right _ (List.mem_append_right _ (List.mem_append_right _ (List.mem_append_right _ (List.mem_append_right _ (List.mem_append_right _ (List.mem_append_right _ (List.mem_append_right _ (List.mem_append_right _ (List.mem_append_right _ (List.mem_append_right _ (List.mem_append_right _ (List.mem_append_right _ (List.mem_append_right _ (List.mem_append_right _ (List.mem_append_right _ (List.mem_append_right _ (List.mem_append_right _ (List.mem_append_right _ (List.mem_append_right _ (List.mem_append_right _ (List.mem_append_right _ (List.mem_append_right _ (List.mem_append_right _ (List.mem_append_right _ (List.mem_append_right _ (List.mem_append_left _ h)))))))))))))))))))))))))))))))))))
theorem inR36 : ∀ w ∈ wsL_law_r36, w ∈ wsL_law := fun w h => inR0 w (List.mem_append_right _ (List.mem_append_right _ (List.mem_append_right _ (List.mem_append_right _ (List.mem_append_right _ (List.mem_append_right _ (List.mem_append_right _ (List.mem_append_right _ (List.mem_append_right _ (List.mem_append_right _ (List.mem_append_right _ (List.mem_append_right _ (List.mem_append_right _ (List.mem_append_right _ (List.mem_append_right _ (List.mem_append_right _ (List.mem_append_right _ (List.mem_append_right _ (List.mem_append_right _ (List.mem_append_right _ (List.mem_append_right _ (List.mem_append_right _ (List.mem_append_right _ (List.mem_append_right _ (List.mem_append_right _ (List.mem_append_right _ (List.mem_append_right _ (List.mem_append_right _ (List.mem_append_right _ (List.mem_append_right _ (List.mem_append_right _ (List.mem_append_right _ (List.mem_append_right _ (List.mem_append_right _ (List.mem_append_right _ (List.mem_append_left _ h))))))))))))))))))))))))))))))))))))
theorem inR37 : ∀ w ∈ wsL_law_r37, w ∈ wsL_law := fun w h => inR0 w (List.mem_append_right _ (List.mem_append_right _ (List.mem_append_right _ (List.mem_append_right _ (List.mem_append_right _ (List.mem_append_right _ (List.mem_append_right _ (List.mem_append_right _ (List.mem_append_right _ (List.mem_append_right _ (List.mem_append_right _ (List.mem_append_right _ (List.mem_append_right _ (List.mem_append_right _ (List.mem_append_right _ (List.mem_append_right _ (List.mem_append_right _ (List.mem_append_right _ (List.mem_append_right _ (List.mem_append_right _ (List.mem_append_right _ (List.mem_append_right _ (List.mem_append_right _ (List.mem_append_right _ (List.mem_append_right _ (List.mem_append_right _ (List.mem_append_right _ (List.mem_append_right _ (List.mem_append_right _ (List.mem_append_right _ (List.mem_append_right _ (List.mem_append_right _ (List.mem_append_right _ (List.mem_append_right _ (List.mem_append_right _ (List.mem_append_right _ (List.mem_append_left _ h)))))))))))))))))))))))))))))))))))))
theorem inR38 : ∀ w ∈ wsL_law_r38, w ∈ wsL_law := fun w h => inR0 w (List.mem_append_right _ (List.mem_append_right _ (List.mem_append_right _ (List.mem_append_right _ (List.mem_append_right _ (List.mem_append_right _ (List.mem_append_right _ (List.mem_append_right _ (List.mem_append_right _ (List.mem_append_right _ (List.mem_append_right _ (List.mem_append_right _ (List.mem_append_right _ (List.mem_append_right _ (List.mem_append_right _ (List.mem_append_right _ (List.mem_append_right _ (List.mem_append_right _ (List.mem_append_right _ (List.mem_append_right _ (List.mem_append_right _ (List.mem_append_right _ (List.mem_append_right _ (List.mem_append_right _ (List.mem_append_right _ (List.mem_append_right _ (List.mem_append_right _ (List.mem_append_right _ (List.mem_append_right _ (List.mem_append_right _ (List.mem_append_right _ (List.mem_append_right _ (List.mem_append_right _ (List.mem_append_right _ (List.mem_append_right _ (List.mem_append_right _ (List.mem_append_right _ (List.mem_append_left _ h))))))))))))))))))))))))))))))))))))))
theorem inR39 : ∀ w ∈ wsL_law_r39, w ∈ wsL_law := fun w h => inR0 w (List.mem_append_right _ (List.mem_append_right _ (List.mem_append_right _ (List.mem_append_right _ (List.mem_append_right _ (List.mem_append_right _ (List.mem_append_right _ (List.mem_append_right _ (List.mem_append_right _ (List.mem_append_right _ (List.mem_append_right _ (List.mem_append_right _ (List.mem_append_right _ (List.mem_append_right _ (List.mem_append_right _ (List.mem_append_right _ (List.mem_append_right _ (List.mem_append_right _ (List.mem_append_right _ (List.mem_append_right _ (List.mem_append_right _ (List.mem_append_right _ (List.mem_append_right _ (List.mem_append_right _ (List.mem_append_right _ (List.mem_append_right _ (List.mem_append_right _ (List.mem_append_right _ (List.mem_append_right _ (List.mem_append_right _ (List.mem_append_right _ (List.mem_append_right _ (List.mem_append_right _ (List.mem_append_right _ (List.mem_append_right _ (List.mem_append_right _ (List.mem_append_right _ (List.mem_append_right _ (h)))))))))))))))))))))))))))))))))))))))
/-- the words of a method: its code, and all that the law's own reach needs -/
abbrev gws (y : MethodName) (c : ByteArray) (n : Nat) (ret : Option FieldType) : List Cond := Cond.code y c n ret :: wsL_law
set_option maxRecDepth 100000 in
theorem gAllGood : wsL_law.all goodWord = true := by decide +kernel
theorem gGoodIn {big ws : List Cond} (hb : ∀ w ∈ wsL_law, w ∈ big) (h : ∀ w ∈ ws, w ∈ wsL_law) : GoodIn big ws := fun w hw => ⟨hb w (h w hw), good_of_word (List.all_eq_true.mp gAllGood w (h w hw))⟩
theorem gGoodV {own C : String} {idx n : Nat} {y : MethodName} {c : ByteArray} {ret : Option FieldType} {big : List Cond} (hb : ∀ w ∈ wsL_law, w ∈ big) (h : ∀ w ∈ ([Cond.methodLink own idx y, Cond.instanceMethod y, Cond.selects C y y, Cond.initialized C, Cond.code y c n ret] : List Cond), w ∈ wsL_law) : GoodIn big (wsV own idx C y (gws y c n ret)) := by
  refine gGoodIn hb (fun w hw => ?_)
  rcases List.mem_append.mp hw with h1 | h1
  · exact h w (by simp only [List.mem_cons] at h1 ⊢; rcases h1 with h1 | h1 | h1 | h1 | h1 <;> simp_all)
  · rcases List.mem_cons.mp h1 with h2 | h2
    · exact h w (by rw [h2]; simp)
    · exact h2
theorem gGoodS {own : String} {C : String} {idx n : Nat} {y : MethodName} {c : ByteArray} {ret : Option FieldType} {big : List Cond} (hb : ∀ w ∈ wsL_law, w ∈ big) (h : ∀ w ∈ ([Cond.methodLink own idx y, Cond.static y, Cond.initialized C, Cond.code y c n ret] : List Cond), w ∈ wsL_law) (hC : y.cls = C := by rfl) : GoodIn big (va_wsS own idx y (gws y c n ret)) := by
  subst hC
  refine gGoodIn hb (fun w hw => ?_)
  rcases List.mem_append.mp hw with h1 | h1
  · exact h w (by simp only [List.mem_cons] at h1 ⊢; rcases h1 with h1 | h1 | h1 | h1 <;> simp_all)
  · rcases List.mem_cons.mp h1 with h2 | h2
    · exact h w (by rw [h2]; simp)
    · exact h2
end
section
theorem wk_X0_102 : ∀ w ∈ ([Cond.methodLink RX0 102 yX0_scratchedSet, Cond.static yX0_scratchedSet, Cond.initialized RX0, Cond.code yX0_scratchedSet cX0_scratchedSet 3 (some .int)] : List Cond), w ∈ wsL_law := List.forall_mem_cons.mpr ⟨inR31 _ (List.mem_of_getElem? (i := 16) rfl), List.forall_mem_cons.mpr ⟨inR31 _ (List.mem_of_getElem? (i := 17) rfl), List.forall_mem_cons.mpr ⟨inR22 _ (List.mem_of_getElem? (i := 12) rfl), List.forall_mem_cons.mpr ⟨inR31 _ (List.mem_of_getElem? (i := 18) rfl), fun _ h => absurd h List.not_mem_nil⟩⟩⟩⟩
theorem wk_X0_109 : ∀ w ∈ ([Cond.methodLink RX0 109 yX5_finalSet, Cond.instanceMethod yX5_finalSet, Cond.selects RX5 yX5_finalSet yX5_finalSet, Cond.initialized RX5, Cond.code yX5_finalSet cX5_finalSet 3 (some .int)] : List Cond), w ∈ wsL_law := List.forall_mem_cons.mpr ⟨inR31 _ (List.mem_of_getElem? (i := 19) rfl), List.forall_mem_cons.mpr ⟨inR18 _ (List.mem_of_getElem? (i := 11) rfl), List.forall_mem_cons.mpr ⟨inR18 _ (List.mem_of_getElem? (i := 12) rfl), List.forall_mem_cons.mpr ⟨inR1 _ (List.mem_of_getElem? (i := 14) rfl), List.forall_mem_cons.mpr ⟨inR18 _ (List.mem_of_getElem? (i := 13) rfl), fun _ h => absurd h List.not_mem_nil⟩⟩⟩⟩⟩
theorem wk_X0_112 : ∀ w ∈ ([Cond.methodLink RX0 112 yX0_freeReserves, Cond.static yX0_freeReserves, Cond.initialized RX0, Cond.code yX0_freeReserves cX0_freeReserves 2 (some .int)] : List Cond), w ∈ wsL_law := List.forall_mem_cons.mpr ⟨inR31 _ (List.mem_of_getElem? (i := 20) rfl), List.forall_mem_cons.mpr ⟨inR31 _ (List.mem_of_getElem? (i := 21) rfl), List.forall_mem_cons.mpr ⟨inR22 _ (List.mem_of_getElem? (i := 12) rfl), List.forall_mem_cons.mpr ⟨inR31 _ (List.mem_of_getElem? (i := 22) rfl), fun _ h => absurd h List.not_mem_nil⟩⟩⟩⟩
theorem wk_X0_115 : ∀ w ∈ ([Cond.methodLink RX0 115 yX0_timesOfEvent, Cond.static yX0_timesOfEvent, Cond.initialized RX0, Cond.code yX0_timesOfEvent cX0_timesOfEvent 3 (some .int)] : List Cond), w ∈ wsL_law := List.forall_mem_cons.mpr ⟨inR32 _ (List.mem_of_getElem? (i := 0) rfl), List.forall_mem_cons.mpr ⟨inR32 _ (List.mem_of_getElem? (i := 1) rfl), List.forall_mem_cons.mpr ⟨inR22 _ (List.mem_of_getElem? (i := 12) rfl), List.forall_mem_cons.mpr ⟨inR32 _ (List.mem_of_getElem? (i := 2) rfl), fun _ h => absurd h List.not_mem_nil⟩⟩⟩⟩
theorem wk_X0_130 : ∀ w ∈ ([Cond.methodLink RX0 130 yX8_ofAllClubs, Cond.static yX8_ofAllClubs, Cond.initialized RX8, Cond.code yX8_ofAllClubs cX8_ofAllClubs 3 (some .int)] : List Cond), w ∈ wsL_law := List.forall_mem_cons.mpr ⟨inR32 _ (List.mem_of_getElem? (i := 3) rfl), List.forall_mem_cons.mpr ⟨inR32 _ (List.mem_of_getElem? (i := 4) rfl), List.forall_mem_cons.mpr ⟨inR20 _ (List.mem_of_getElem? (i := 9) rfl), List.forall_mem_cons.mpr ⟨inR32 _ (List.mem_of_getElem? (i := 5) rfl), fun _ h => absurd h List.not_mem_nil⟩⟩⟩⟩
theorem wk_X0_136 : ∀ w ∈ ([Cond.methodLink RX0 136 yX5_freeReserve, Cond.instanceMethod yX5_freeReserve, Cond.selects RX5 yX5_freeReserve yX5_freeReserve, Cond.initialized RX5, Cond.code yX5_freeReserve cX5_freeReserve 4 (some .int)] : List Cond), w ∈ wsL_law := List.forall_mem_cons.mpr ⟨inR31 _ (List.mem_of_getElem? (i := 23) rfl), List.forall_mem_cons.mpr ⟨inR8 _ (List.mem_of_getElem? (i := 13) rfl), List.forall_mem_cons.mpr ⟨inR8 _ (List.mem_of_getElem? (i := 14) rfl), List.forall_mem_cons.mpr ⟨inR1 _ (List.mem_of_getElem? (i := 14) rfl), List.forall_mem_cons.mpr ⟨inR8 _ (List.mem_of_getElem? (i := 15) rfl), fun _ h => absurd h List.not_mem_nil⟩⟩⟩⟩⟩
theorem wk_X0_23 : ∀ w ∈ ([Cond.methodLink RX0 23 yX5_rankByEntry, Cond.instanceMethod yX5_rankByEntry, Cond.selects RX5 yX5_rankByEntry yX5_rankByEntry, Cond.initialized RX5, Cond.code yX5_rankByEntry cX5_rankByEntry 4 (some .int)] : List Cond), w ∈ wsL_law := List.forall_mem_cons.mpr ⟨inR23 _ (List.mem_of_getElem? (i := 1) rfl), List.forall_mem_cons.mpr ⟨inR12 _ (List.mem_of_getElem? (i := 0) rfl), List.forall_mem_cons.mpr ⟨inR12 _ (List.mem_of_getElem? (i := 1) rfl), List.forall_mem_cons.mpr ⟨inR1 _ (List.mem_of_getElem? (i := 14) rfl), List.forall_mem_cons.mpr ⟨inR12 _ (List.mem_of_getElem? (i := 2) rfl), fun _ h => absurd h List.not_mem_nil⟩⟩⟩⟩⟩
theorem wk_X0_35 : ∀ w ∈ ([Cond.methodLink RX0 35 yX0_aboveZero, Cond.static yX0_aboveZero, Cond.initialized RX0, Cond.code yX0_aboveZero cX0_aboveZero 1 (some .int)] : List Cond), w ∈ wsL_law := List.forall_mem_cons.mpr ⟨inR23 _ (List.mem_of_getElem? (i := 2) rfl), List.forall_mem_cons.mpr ⟨inR23 _ (List.mem_of_getElem? (i := 3) rfl), List.forall_mem_cons.mpr ⟨inR22 _ (List.mem_of_getElem? (i := 12) rfl), List.forall_mem_cons.mpr ⟨inR23 _ (List.mem_of_getElem? (i := 4) rfl), fun _ h => absurd h List.not_mem_nil⟩⟩⟩⟩
theorem wk_X0_44 : ∀ w ∈ ([Cond.methodLink RX0 44 yX5_rankByHeatTime, Cond.instanceMethod yX5_rankByHeatTime, Cond.selects RX5 yX5_rankByHeatTime yX5_rankByHeatTime, Cond.initialized RX5, Cond.code yX5_rankByHeatTime cX5_rankByHeatTime 4 (some .int)] : List Cond), w ∈ wsL_law := List.forall_mem_cons.mpr ⟨inR23 _ (List.mem_of_getElem? (i := 5) rfl), List.forall_mem_cons.mpr ⟨inR18 _ (List.mem_of_getElem? (i := 1) rfl), List.forall_mem_cons.mpr ⟨inR18 _ (List.mem_of_getElem? (i := 2) rfl), List.forall_mem_cons.mpr ⟨inR1 _ (List.mem_of_getElem? (i := 14) rfl), List.forall_mem_cons.mpr ⟨inR18 _ (List.mem_of_getElem? (i := 3) rfl), fun _ h => absurd h List.not_mem_nil⟩⟩⟩⟩⟩
theorem wk_X0_66 : ∀ w ∈ ([Cond.methodLink RX0 66 yX10_isIn, Cond.instanceMethod yX10_isIn, Cond.selects RX10 yX10_isIn yX10_isIn, Cond.initialized RX10, Cond.code yX10_isIn cX10_isIn 2 (some .boolean)] : List Cond), w ∈ wsL_law := List.forall_mem_cons.mpr ⟨inR24 _ (List.mem_of_getElem? (i := 6) rfl), List.forall_mem_cons.mpr ⟨inR24 _ (List.mem_of_getElem? (i := 7) rfl), List.forall_mem_cons.mpr ⟨inR24 _ (List.mem_of_getElem? (i := 8) rfl), List.forall_mem_cons.mpr ⟨inR2 _ (List.mem_of_getElem? (i := 15) rfl), List.forall_mem_cons.mpr ⟨inR24 _ (List.mem_of_getElem? (i := 9) rfl), fun _ h => absurd h List.not_mem_nil⟩⟩⟩⟩⟩
theorem wk_X0_70 : ∀ w ∈ ([Cond.methodLink RX0 70 yX10_laneOf, Cond.instanceMethod yX10_laneOf, Cond.selects RX10 yX10_laneOf yX10_laneOf, Cond.initialized RX10, Cond.code yX10_laneOf cX10_laneOf 2 (some .int)] : List Cond), w ∈ wsL_law := List.forall_mem_cons.mpr ⟨inR24 _ (List.mem_of_getElem? (i := 10) rfl), List.forall_mem_cons.mpr ⟨inR24 _ (List.mem_of_getElem? (i := 11) rfl), List.forall_mem_cons.mpr ⟨inR24 _ (List.mem_of_getElem? (i := 12) rfl), List.forall_mem_cons.mpr ⟨inR2 _ (List.mem_of_getElem? (i := 15) rfl), List.forall_mem_cons.mpr ⟨inR24 _ (List.mem_of_getElem? (i := 13) rfl), fun _ h => absurd h List.not_mem_nil⟩⟩⟩⟩⟩
theorem wk_X0_73 : ∀ w ∈ ([Cond.methodLink RX0 73 yX0_countIn, Cond.static yX0_countIn, Cond.initialized RX0, Cond.code yX0_countIn cX0_countIn 6 (some .int)] : List Cond), w ∈ wsL_law := List.forall_mem_cons.mpr ⟨inR25 _ (List.mem_of_getElem? (i := 9) rfl), List.forall_mem_cons.mpr ⟨inR25 _ (List.mem_of_getElem? (i := 10) rfl), List.forall_mem_cons.mpr ⟨inR22 _ (List.mem_of_getElem? (i := 12) rfl), List.forall_mem_cons.mpr ⟨inR25 _ (List.mem_of_getElem? (i := 11) rfl), fun _ h => absurd h List.not_mem_nil⟩⟩⟩⟩
theorem wk_X0_77 : ∀ w ∈ ([Cond.methodLink RX0 77 yX0_leastIn, Cond.static yX0_leastIn, Cond.initialized RX0, Cond.code yX0_leastIn cX0_leastIn 7 (some .int)] : List Cond), w ∈ wsL_law := List.forall_mem_cons.mpr ⟨inR25 _ (List.mem_of_getElem? (i := 16) rfl), List.forall_mem_cons.mpr ⟨inR25 _ (List.mem_of_getElem? (i := 17) rfl), List.forall_mem_cons.mpr ⟨inR22 _ (List.mem_of_getElem? (i := 12) rfl), List.forall_mem_cons.mpr ⟨inR25 _ (List.mem_of_getElem? (i := 18) rfl), fun _ h => absurd h List.not_mem_nil⟩⟩⟩⟩
theorem wk_X0_80 : ∀ w ∈ ([Cond.methodLink RX0 80 yX0_greatestEntryIn, Cond.static yX0_greatestEntryIn, Cond.initialized RX0, Cond.code yX0_greatestEntryIn cX0_greatestEntryIn 4 (some .int)] : List Cond), w ∈ wsL_law := List.forall_mem_cons.mpr ⟨inR25 _ (List.mem_of_getElem? (i := 19) rfl), List.forall_mem_cons.mpr ⟨inR25 _ (List.mem_of_getElem? (i := 20) rfl), List.forall_mem_cons.mpr ⟨inR22 _ (List.mem_of_getElem? (i := 12) rfl), List.forall_mem_cons.mpr ⟨inR25 _ (List.mem_of_getElem? (i := 21) rfl), fun _ h => absurd h List.not_mem_nil⟩⟩⟩⟩
theorem wk_X0_84 : ∀ w ∈ ([Cond.methodLink RX0 84 yX10_timeOf, Cond.instanceMethod yX10_timeOf, Cond.selects RX10 yX10_timeOf yX10_timeOf, Cond.initialized RX10, Cond.code yX10_timeOf cX10_timeOf 2 (some .int)] : List Cond), w ∈ wsL_law := List.forall_mem_cons.mpr ⟨inR25 _ (List.mem_of_getElem? (i := 12) rfl), List.forall_mem_cons.mpr ⟨inR25 _ (List.mem_of_getElem? (i := 13) rfl), List.forall_mem_cons.mpr ⟨inR25 _ (List.mem_of_getElem? (i := 14) rfl), List.forall_mem_cons.mpr ⟨inR2 _ (List.mem_of_getElem? (i := 15) rfl), List.forall_mem_cons.mpr ⟨inR25 _ (List.mem_of_getElem? (i := 15) rfl), fun _ h => absurd h List.not_mem_nil⟩⟩⟩⟩⟩
theorem wk_X0_87 : ∀ w ∈ ([Cond.methodLink RX0 87 yX5_timesAboveZero, Cond.instanceMethod yX5_timesAboveZero, Cond.selects RX5 yX5_timesAboveZero yX5_timesAboveZero, Cond.initialized RX5, Cond.code yX5_timesAboveZero cX5_timesAboveZero 1 (some .int)] : List Cond), w ∈ wsL_law := List.forall_mem_cons.mpr ⟨inR30 _ (List.mem_of_getElem? (i := 1) rfl), List.forall_mem_cons.mpr ⟨inR17 _ (List.mem_of_getElem? (i := 14) rfl), List.forall_mem_cons.mpr ⟨inR17 _ (List.mem_of_getElem? (i := 15) rfl), List.forall_mem_cons.mpr ⟨inR1 _ (List.mem_of_getElem? (i := 14) rfl), List.forall_mem_cons.mpr ⟨inR17 _ (List.mem_of_getElem? (i := 16) rfl), fun _ h => absurd h List.not_mem_nil⟩⟩⟩⟩⟩
theorem wk_X0_91 : ∀ w ∈ ([Cond.methodLink RX0 91 yX5_stageTime, Cond.instanceMethod yX5_stageTime, Cond.selects RX5 yX5_stageTime yX5_stageTime, Cond.initialized RX5, Cond.code yX5_stageTime cX5_stageTime 2 (some .int)] : List Cond), w ∈ wsL_law := List.forall_mem_cons.mpr ⟨inR30 _ (List.mem_of_getElem? (i := 2) rfl), List.forall_mem_cons.mpr ⟨inR16 _ (List.mem_of_getElem? (i := 3) rfl), List.forall_mem_cons.mpr ⟨inR16 _ (List.mem_of_getElem? (i := 4) rfl), List.forall_mem_cons.mpr ⟨inR1 _ (List.mem_of_getElem? (i := 14) rfl), List.forall_mem_cons.mpr ⟨inR16 _ (List.mem_of_getElem? (i := 5) rfl), fun _ h => absurd h List.not_mem_nil⟩⟩⟩⟩⟩
theorem wk_X0_94 : ∀ w ∈ ([Cond.methodLink RX0 94 yX0_bitsOf, Cond.static yX0_bitsOf, Cond.initialized RX0, Cond.code yX0_bitsOf cX0_bitsOf 3 (some .int)] : List Cond), w ∈ wsL_law := List.forall_mem_cons.mpr ⟨inR30 _ (List.mem_of_getElem? (i := 3) rfl), List.forall_mem_cons.mpr ⟨inR30 _ (List.mem_of_getElem? (i := 4) rfl), List.forall_mem_cons.mpr ⟨inR22 _ (List.mem_of_getElem? (i := 12) rfl), List.forall_mem_cons.mpr ⟨inR30 _ (List.mem_of_getElem? (i := 5) rfl), fun _ h => absurd h List.not_mem_nil⟩⟩⟩⟩
theorem wk_X10_24 : ∀ w ∈ ([Cond.methodLink RX10 24 yX10_forgetEvent, Cond.instanceMethod yX10_forgetEvent, Cond.selects RX10 yX10_forgetEvent yX10_forgetEvent, Cond.initialized RX10, Cond.code yX10_forgetEvent cX10_forgetEvent 1 none] : List Cond), w ∈ wsL_law := List.forall_mem_cons.mpr ⟨inR6 _ (List.mem_of_getElem? (i := 1) rfl), List.forall_mem_cons.mpr ⟨inR6 _ (List.mem_of_getElem? (i := 2) rfl), List.forall_mem_cons.mpr ⟨inR6 _ (List.mem_of_getElem? (i := 3) rfl), List.forall_mem_cons.mpr ⟨inR2 _ (List.mem_of_getElem? (i := 15) rfl), List.forall_mem_cons.mpr ⟨inR6 _ (List.mem_of_getElem? (i := 4) rfl), fun _ h => absurd h List.not_mem_nil⟩⟩⟩⟩⟩
theorem wk_X10_34 : ∀ w ∈ ([Cond.methodLink RX10 34 yX10_leaveHeat, Cond.instanceMethod yX10_leaveHeat, Cond.selects RX10 yX10_leaveHeat yX10_leaveHeat, Cond.initialized RX10, Cond.code yX10_leaveHeat cX10_leaveHeat 1 none] : List Cond), w ∈ wsL_law := List.forall_mem_cons.mpr ⟨inR6 _ (List.mem_of_getElem? (i := 5) rfl), List.forall_mem_cons.mpr ⟨inR6 _ (List.mem_of_getElem? (i := 6) rfl), List.forall_mem_cons.mpr ⟨inR6 _ (List.mem_of_getElem? (i := 7) rfl), List.forall_mem_cons.mpr ⟨inR2 _ (List.mem_of_getElem? (i := 15) rfl), List.forall_mem_cons.mpr ⟨inR6 _ (List.mem_of_getElem? (i := 8) rfl), fun _ h => absurd h List.not_mem_nil⟩⟩⟩⟩⟩
theorem wk_X10_37 : ∀ w ∈ ([Cond.methodLink RX10 37 yX10_leaveFinal, Cond.instanceMethod yX10_leaveFinal, Cond.selects RX10 yX10_leaveFinal yX10_leaveFinal, Cond.initialized RX10, Cond.code yX10_leaveFinal cX10_leaveFinal 1 none] : List Cond), w ∈ wsL_law := List.forall_mem_cons.mpr ⟨inR6 _ (List.mem_of_getElem? (i := 9) rfl), List.forall_mem_cons.mpr ⟨inR6 _ (List.mem_of_getElem? (i := 10) rfl), List.forall_mem_cons.mpr ⟨inR6 _ (List.mem_of_getElem? (i := 11) rfl), List.forall_mem_cons.mpr ⟨inR2 _ (List.mem_of_getElem? (i := 15) rfl), List.forall_mem_cons.mpr ⟨inR6 _ (List.mem_of_getElem? (i := 12) rfl), fun _ h => absurd h List.not_mem_nil⟩⟩⟩⟩⟩
theorem wk_X10_55 : ∀ w ∈ ([Cond.methodLink RX10 55 yX10_aheadByEntry, Cond.instanceMethod yX10_aheadByEntry, Cond.selects RX10 yX10_aheadByEntry yX10_aheadByEntry, Cond.initialized RX10, Cond.code yX10_aheadByEntry cX10_aheadByEntry 2 (some .boolean)] : List Cond), w ∈ wsL_law := List.forall_mem_cons.mpr ⟨inR18 _ (List.mem_of_getElem? (i := 8) rfl), List.forall_mem_cons.mpr ⟨inR12 _ (List.mem_of_getElem? (i := 4) rfl), List.forall_mem_cons.mpr ⟨inR12 _ (List.mem_of_getElem? (i := 5) rfl), List.forall_mem_cons.mpr ⟨inR2 _ (List.mem_of_getElem? (i := 15) rfl), List.forall_mem_cons.mpr ⟨inR12 _ (List.mem_of_getElem? (i := 6) rfl), fun _ h => absurd h List.not_mem_nil⟩⟩⟩⟩⟩
theorem wk_X11_102 : ∀ w ∈ ([Cond.methodLink RX11 102 yX0_ofHeat, Cond.static yX0_ofHeat, Cond.initialized RX0, Cond.code yX0_ofHeat cX0_ofHeat 3 (some .int)] : List Cond), w ∈ wsL_law := List.forall_mem_cons.mpr ⟨inR25 _ (List.mem_of_getElem? (i := 6) rfl), List.forall_mem_cons.mpr ⟨inR25 _ (List.mem_of_getElem? (i := 7) rfl), List.forall_mem_cons.mpr ⟨inR22 _ (List.mem_of_getElem? (i := 12) rfl), List.forall_mem_cons.mpr ⟨inR25 _ (List.mem_of_getElem? (i := 8) rfl), fun _ h => absurd h List.not_mem_nil⟩⟩⟩⟩
theorem wk_X11_105 : ∀ w ∈ ([Cond.methodLink RX11 105 yX5_freeReserve, Cond.instanceMethod yX5_freeReserve, Cond.selects RX5 yX5_freeReserve yX5_freeReserve, Cond.initialized RX5, Cond.code yX5_freeReserve cX5_freeReserve 4 (some .int)] : List Cond), w ∈ wsL_law := List.forall_mem_cons.mpr ⟨inR26 _ (List.mem_of_getElem? (i := 10) rfl), List.forall_mem_cons.mpr ⟨inR8 _ (List.mem_of_getElem? (i := 13) rfl), List.forall_mem_cons.mpr ⟨inR8 _ (List.mem_of_getElem? (i := 14) rfl), List.forall_mem_cons.mpr ⟨inR1 _ (List.mem_of_getElem? (i := 14) rfl), List.forall_mem_cons.mpr ⟨inR8 _ (List.mem_of_getElem? (i := 15) rfl), fun _ h => absurd h List.not_mem_nil⟩⟩⟩⟩⟩
theorem wk_X11_108 : ∀ w ∈ ([Cond.methodLink RX11 108 yX8_ofClub, Cond.static yX8_ofClub, Cond.initialized RX8, Cond.code yX8_ofClub cX8_ofClub 4 (some .int)] : List Cond), w ∈ wsL_law := List.forall_mem_cons.mpr ⟨inR26 _ (List.mem_of_getElem? (i := 19) rfl), List.forall_mem_cons.mpr ⟨inR26 _ (List.mem_of_getElem? (i := 20) rfl), List.forall_mem_cons.mpr ⟨inR20 _ (List.mem_of_getElem? (i := 9) rfl), List.forall_mem_cons.mpr ⟨inR26 _ (List.mem_of_getElem? (i := 21) rfl), fun _ h => absurd h List.not_mem_nil⟩⟩⟩⟩
theorem wk_X11_124 : ∀ w ∈ ([Cond.methodLink RX11 124 yX5_copyFrom, Cond.instanceMethod yX5_copyFrom, Cond.selects RX5 yX5_copyFrom yX5_copyFrom, Cond.initialized RX5, Cond.code yX5_copyFrom cX5_copyFrom 3 none] : List Cond), w ∈ wsL_law := List.forall_mem_cons.mpr ⟨inR27 _ (List.mem_of_getElem? (i := 14) rfl), List.forall_mem_cons.mpr ⟨inR4 _ (List.mem_of_getElem? (i := 7) rfl), List.forall_mem_cons.mpr ⟨inR4 _ (List.mem_of_getElem? (i := 8) rfl), List.forall_mem_cons.mpr ⟨inR1 _ (List.mem_of_getElem? (i := 14) rfl), List.forall_mem_cons.mpr ⟨inR4 _ (List.mem_of_getElem? (i := 9) rfl), fun _ h => absurd h List.not_mem_nil⟩⟩⟩⟩⟩
theorem wk_X11_133 : ∀ w ∈ ([Cond.methodLink RX11 133 yX4_ofRank, Cond.static yX4_ofRank, Cond.initialized RX4, Cond.code yX4_ofRank cX4_ofRank 3 (some .int)] : List Cond), w ∈ wsL_law := List.forall_mem_cons.mpr ⟨inR27 _ (List.mem_of_getElem? (i := 23) rfl), List.forall_mem_cons.mpr ⟨inR13 _ (List.mem_of_getElem? (i := 8) rfl), List.forall_mem_cons.mpr ⟨inR13 _ (List.mem_of_getElem? (i := 9) rfl), List.forall_mem_cons.mpr ⟨inR13 _ (List.mem_of_getElem? (i := 10) rfl), fun _ h => absurd h List.not_mem_nil⟩⟩⟩⟩
theorem wk_X11_139 : ∀ w ∈ ([Cond.methodLink RX11 139 yX4_rankOf, Cond.static yX4_rankOf, Cond.initialized RX4, Cond.code yX4_rankOf cX4_rankOf 3 (some .int)] : List Cond), w ∈ wsL_law := List.forall_mem_cons.mpr ⟨inR28 _ (List.mem_of_getElem? (i := 0) rfl), List.forall_mem_cons.mpr ⟨inR28 _ (List.mem_of_getElem? (i := 1) rfl), List.forall_mem_cons.mpr ⟨inR13 _ (List.mem_of_getElem? (i := 9) rfl), List.forall_mem_cons.mpr ⟨inR28 _ (List.mem_of_getElem? (i := 2) rfl), fun _ h => absurd h List.not_mem_nil⟩⟩⟩⟩
theorem wk_X11_142 : ∀ w ∈ ([Cond.methodLink RX11 142 yX5_reasonToWait, Cond.instanceMethod yX5_reasonToWait, Cond.selects RX5 yX5_reasonToWait yX5_reasonToWait, Cond.initialized RX5, Cond.code yX5_reasonToWait cX5_reasonToWait 1 (some .int)] : List Cond), w ∈ wsL_law := List.forall_mem_cons.mpr ⟨inR28 _ (List.mem_of_getElem? (i := 15) rfl), List.forall_mem_cons.mpr ⟨inR17 _ (List.mem_of_getElem? (i := 4) rfl), List.forall_mem_cons.mpr ⟨inR17 _ (List.mem_of_getElem? (i := 5) rfl), List.forall_mem_cons.mpr ⟨inR1 _ (List.mem_of_getElem? (i := 14) rfl), List.forall_mem_cons.mpr ⟨inR17 _ (List.mem_of_getElem? (i := 6) rfl), fun _ h => absurd h List.not_mem_nil⟩⟩⟩⟩⟩
theorem wk_X11_145 : ∀ w ∈ ([Cond.methodLink RX11 145 yX5_stillToSwim, Cond.instanceMethod yX5_stillToSwim, Cond.selects RX5 yX5_stillToSwim yX5_stillToSwim, Cond.initialized RX5, Cond.code yX5_stillToSwim cX5_stillToSwim 4 (some .int)] : List Cond), w ∈ wsL_law := List.forall_mem_cons.mpr ⟨inR28 _ (List.mem_of_getElem? (i := 21) rfl), List.forall_mem_cons.mpr ⟨inR17 _ (List.mem_of_getElem? (i := 9) rfl), List.forall_mem_cons.mpr ⟨inR17 _ (List.mem_of_getElem? (i := 10) rfl), List.forall_mem_cons.mpr ⟨inR1 _ (List.mem_of_getElem? (i := 14) rfl), List.forall_mem_cons.mpr ⟨inR17 _ (List.mem_of_getElem? (i := 11) rfl), fun _ h => absurd h List.not_mem_nil⟩⟩⟩⟩⟩
theorem wk_X11_148 : ∀ w ∈ ([Cond.methodLink RX11 148 yX8_clubAtRank, Cond.static yX8_clubAtRank, Cond.initialized RX8, Cond.code yX8_clubAtRank cX8_clubAtRank 3 (some .int)] : List Cond), w ∈ wsL_law := List.forall_mem_cons.mpr ⟨inR29 _ (List.mem_of_getElem? (i := 6) rfl), List.forall_mem_cons.mpr ⟨inR29 _ (List.mem_of_getElem? (i := 7) rfl), List.forall_mem_cons.mpr ⟨inR20 _ (List.mem_of_getElem? (i := 9) rfl), List.forall_mem_cons.mpr ⟨inR29 _ (List.mem_of_getElem? (i := 8) rfl), fun _ h => absurd h List.not_mem_nil⟩⟩⟩⟩
theorem wk_X11_151 : ∀ w ∈ ([Cond.methodLink RX11 151 yX0_meanBits, Cond.static yX0_meanBits, Cond.initialized RX0, Cond.code yX0_meanBits cX0_meanBits 5 (some .int)] : List Cond), w ∈ wsL_law := List.forall_mem_cons.mpr ⟨inR29 _ (List.mem_of_getElem? (i := 22) rfl), List.forall_mem_cons.mpr ⟨inR29 _ (List.mem_of_getElem? (i := 23) rfl), List.forall_mem_cons.mpr ⟨inR22 _ (List.mem_of_getElem? (i := 12) rfl), List.forall_mem_cons.mpr ⟨inR30 _ (List.mem_of_getElem? (i := 0) rfl), fun _ h => absurd h List.not_mem_nil⟩⟩⟩⟩
theorem wk_X11_164 : ∀ w ∈ ([Cond.methodLink RX11 164 yX0_ofMeet, Cond.static yX0_ofMeet, Cond.initialized RX0, Cond.code yX0_ofMeet cX0_ofMeet 2 (some .int)] : List Cond), w ∈ wsL_law := List.forall_mem_cons.mpr ⟨inR31 _ (List.mem_of_getElem? (i := 6) rfl), List.forall_mem_cons.mpr ⟨inR31 _ (List.mem_of_getElem? (i := 7) rfl), List.forall_mem_cons.mpr ⟨inR22 _ (List.mem_of_getElem? (i := 12) rfl), List.forall_mem_cons.mpr ⟨inR31 _ (List.mem_of_getElem? (i := 8) rfl), fun _ h => absurd h List.not_mem_nil⟩⟩⟩⟩
theorem wk_X11_167 : ∀ w ∈ ([Cond.methodLink RX11 167 yX3_restoreInto, Cond.instanceMethod yX3_restoreInto, Cond.selects RX3 yX3_restoreInto yX3_restoreInto, Cond.initialized RX3, Cond.code yX3_restoreInto cX3_restoreInto 2 (some .int)] : List Cond), w ∈ wsL_law := List.forall_mem_cons.mpr ⟨inR33 _ (List.mem_of_getElem? (i := 8) rfl), List.forall_mem_cons.mpr ⟨inR33 _ (List.mem_of_getElem? (i := 9) rfl), List.forall_mem_cons.mpr ⟨inR33 _ (List.mem_of_getElem? (i := 10) rfl), List.forall_mem_cons.mpr ⟨inR1 _ (List.mem_of_getElem? (i := 19) rfl), List.forall_mem_cons.mpr ⟨inR33 _ (List.mem_of_getElem? (i := 11) rfl), fun _ h => absurd h List.not_mem_nil⟩⟩⟩⟩⟩
theorem wk_X11_170 : ∀ w ∈ ([Cond.methodLink RX11 170 yX6_append, Cond.instanceMethod yX6_append, Cond.selects RX6 yX6_append yX6_append, Cond.initialized RX6, Cond.code yX6_append cX6_append 2 (some .int)] : List Cond), w ∈ wsL_law := List.forall_mem_cons.mpr ⟨inR33 _ (List.mem_of_getElem? (i := 21) rfl), List.forall_mem_cons.mpr ⟨inR33 _ (List.mem_of_getElem? (i := 22) rfl), List.forall_mem_cons.mpr ⟨inR33 _ (List.mem_of_getElem? (i := 23) rfl), List.forall_mem_cons.mpr ⟨inR1 _ (List.mem_of_getElem? (i := 23) rfl), List.forall_mem_cons.mpr ⟨inR34 _ (List.mem_of_getElem? (i := 0) rfl), fun _ h => absurd h List.not_mem_nil⟩⟩⟩⟩⟩
theorem wk_X11_173 : ∀ w ∈ ([Cond.methodLink RX11 173 yX6_empty, Cond.instanceMethod yX6_empty, Cond.selects RX6 yX6_empty yX6_empty, Cond.initialized RX6, Cond.code yX6_empty cX6_empty 2 (some .int)] : List Cond), w ∈ wsL_law := List.forall_mem_cons.mpr ⟨inR34 _ (List.mem_of_getElem? (i := 11) rfl), List.forall_mem_cons.mpr ⟨inR34 _ (List.mem_of_getElem? (i := 12) rfl), List.forall_mem_cons.mpr ⟨inR34 _ (List.mem_of_getElem? (i := 13) rfl), List.forall_mem_cons.mpr ⟨inR1 _ (List.mem_of_getElem? (i := 23) rfl), List.forall_mem_cons.mpr ⟨inR34 _ (List.mem_of_getElem? (i := 14) rfl), fun _ h => absurd h List.not_mem_nil⟩⟩⟩⟩⟩
theorem wk_X11_176 : ∀ w ∈ ([Cond.methodLink RX11 176 yX7_tryOrders, Cond.instanceMethod yX7_tryOrders, Cond.selects RX7 yX7_tryOrders yX7_tryOrders, Cond.initialized RX7, Cond.code yX7_tryOrders cX7_tryOrders 7 none] : List Cond), w ∈ wsL_law := List.forall_mem_cons.mpr ⟨inR35 _ (List.mem_of_getElem? (i := 3) rfl), List.forall_mem_cons.mpr ⟨inR35 _ (List.mem_of_getElem? (i := 4) rfl), List.forall_mem_cons.mpr ⟨inR35 _ (List.mem_of_getElem? (i := 5) rfl), List.forall_mem_cons.mpr ⟨inR2 _ (List.mem_of_getElem? (i := 3) rfl), List.forall_mem_cons.mpr ⟨inR35 _ (List.mem_of_getElem? (i := 6) rfl), fun _ h => absurd h List.not_mem_nil⟩⟩⟩⟩⟩
theorem wk_X11_40 : ∀ w ∈ ([Cond.methodLink RX11 40 yX3_prepare, Cond.instanceMethod yX3_prepare, Cond.selects RX3 yX3_prepare yX3_prepare, Cond.initialized RX3, Cond.code yX3_prepare cX3_prepare 2 none] : List Cond), w ∈ wsL_law := List.forall_mem_cons.mpr ⟨inR4 _ (List.mem_of_getElem? (i := 1) rfl), List.forall_mem_cons.mpr ⟨inR4 _ (List.mem_of_getElem? (i := 2) rfl), List.forall_mem_cons.mpr ⟨inR4 _ (List.mem_of_getElem? (i := 3) rfl), List.forall_mem_cons.mpr ⟨inR1 _ (List.mem_of_getElem? (i := 19) rfl), List.forall_mem_cons.mpr ⟨inR4 _ (List.mem_of_getElem? (i := 4) rfl), fun _ h => absurd h List.not_mem_nil⟩⟩⟩⟩⟩
theorem wk_X11_44 : ∀ w ∈ ([Cond.methodLink RX11 44 yX1_addSwimmer, Cond.static yX1_addSwimmer, Cond.initialized RX1, Cond.code yX1_addSwimmer cX1_addSwimmer 3 (some .int)] : List Cond), w ∈ wsL_law := List.forall_mem_cons.mpr ⟨inR5 _ (List.mem_of_getElem? (i := 8) rfl), List.forall_mem_cons.mpr ⟨inR5 _ (List.mem_of_getElem? (i := 9) rfl), List.forall_mem_cons.mpr ⟨inR5 _ (List.mem_of_getElem? (i := 10) rfl), List.forall_mem_cons.mpr ⟨inR5 _ (List.mem_of_getElem? (i := 11) rfl), fun _ h => absurd h List.not_mem_nil⟩⟩⟩⟩
theorem wk_X11_50 : ∀ w ∈ ([Cond.methodLink RX11 50 yX3_keepUnlessError, Cond.instanceMethod yX3_keepUnlessError, Cond.selects RX3 yX3_keepUnlessError yX3_keepUnlessError, Cond.initialized RX3, Cond.code yX3_keepUnlessError cX3_keepUnlessError 2 (some .int)] : List Cond), w ∈ wsL_law := List.forall_mem_cons.mpr ⟨inR6 _ (List.mem_of_getElem? (i := 13) rfl), List.forall_mem_cons.mpr ⟨inR6 _ (List.mem_of_getElem? (i := 14) rfl), List.forall_mem_cons.mpr ⟨inR6 _ (List.mem_of_getElem? (i := 15) rfl), List.forall_mem_cons.mpr ⟨inR1 _ (List.mem_of_getElem? (i := 19) rfl), List.forall_mem_cons.mpr ⟨inR6 _ (List.mem_of_getElem? (i := 16) rfl), fun _ h => absurd h List.not_mem_nil⟩⟩⟩⟩⟩
theorem wk_X11_54 : ∀ w ∈ ([Cond.methodLink RX11 54 yX1_withdraw, Cond.static yX1_withdraw, Cond.initialized RX1, Cond.code yX1_withdraw cX1_withdraw 3 (some .int)] : List Cond), w ∈ wsL_law := List.forall_mem_cons.mpr ⟨inR7 _ (List.mem_of_getElem? (i := 21) rfl), List.forall_mem_cons.mpr ⟨inR7 _ (List.mem_of_getElem? (i := 22) rfl), List.forall_mem_cons.mpr ⟨inR5 _ (List.mem_of_getElem? (i := 10) rfl), List.forall_mem_cons.mpr ⟨inR7 _ (List.mem_of_getElem? (i := 23) rfl), fun _ h => absurd h List.not_mem_nil⟩⟩⟩⟩
theorem wk_X11_58 : ∀ w ∈ ([Cond.methodLink RX11 58 yX1_changeSetting, Cond.static yX1_changeSetting, Cond.initialized RX1, Cond.code yX1_changeSetting cX1_changeSetting 4 (some .int)] : List Cond), w ∈ wsL_law := List.forall_mem_cons.mpr ⟨inR10 _ (List.mem_of_getElem? (i := 5) rfl), List.forall_mem_cons.mpr ⟨inR10 _ (List.mem_of_getElem? (i := 6) rfl), List.forall_mem_cons.mpr ⟨inR5 _ (List.mem_of_getElem? (i := 10) rfl), List.forall_mem_cons.mpr ⟨inR10 _ (List.mem_of_getElem? (i := 7) rfl), fun _ h => absurd h List.not_mem_nil⟩⟩⟩⟩
theorem wk_X11_61 : ∀ w ∈ ([Cond.methodLink RX11 61 yX1_drawHeats, Cond.static yX1_drawHeats, Cond.initialized RX1, Cond.code yX1_drawHeats cX1_drawHeats 2 (some .int)] : List Cond), w ∈ wsL_law := List.forall_mem_cons.mpr ⟨inR10 _ (List.mem_of_getElem? (i := 23) rfl), List.forall_mem_cons.mpr ⟨inR11 _ (List.mem_of_getElem? (i := 0) rfl), List.forall_mem_cons.mpr ⟨inR5 _ (List.mem_of_getElem? (i := 10) rfl), List.forall_mem_cons.mpr ⟨inR11 _ (List.mem_of_getElem? (i := 1) rfl), fun _ h => absurd h List.not_mem_nil⟩⟩⟩⟩
theorem wk_X11_65 : ∀ w ∈ ([Cond.methodLink RX11 65 yX1_giveTime, Cond.static yX1_giveTime, Cond.initialized RX1, Cond.code yX1_giveTime cX1_giveTime 4 (some .int)] : List Cond), w ∈ wsL_law := List.forall_mem_cons.mpr ⟨inR15 _ (List.mem_of_getElem? (i := 7) rfl), List.forall_mem_cons.mpr ⟨inR15 _ (List.mem_of_getElem? (i := 8) rfl), List.forall_mem_cons.mpr ⟨inR5 _ (List.mem_of_getElem? (i := 10) rfl), List.forall_mem_cons.mpr ⟨inR15 _ (List.mem_of_getElem? (i := 9) rfl), fun _ h => absurd h List.not_mem_nil⟩⟩⟩⟩
theorem wk_X11_68 : ∀ w ∈ ([Cond.methodLink RX11 68 yX1_drawFinal, Cond.static yX1_drawFinal, Cond.initialized RX1, Cond.code yX1_drawFinal cX1_drawFinal 2 (some .int)] : List Cond), w ∈ wsL_law := List.forall_mem_cons.mpr ⟨inR17 _ (List.mem_of_getElem? (i := 0) rfl), List.forall_mem_cons.mpr ⟨inR17 _ (List.mem_of_getElem? (i := 1) rfl), List.forall_mem_cons.mpr ⟨inR5 _ (List.mem_of_getElem? (i := 10) rfl), List.forall_mem_cons.mpr ⟨inR17 _ (List.mem_of_getElem? (i := 2) rfl), fun _ h => absurd h List.not_mem_nil⟩⟩⟩⟩
theorem wk_X11_71 : ∀ w ∈ ([Cond.methodLink RX11 71 yX1_endEvent, Cond.static yX1_endEvent, Cond.initialized RX1, Cond.code yX1_endEvent cX1_endEvent 3 (some .int)] : List Cond), w ∈ wsL_law := List.forall_mem_cons.mpr ⟨inR20 _ (List.mem_of_getElem? (i := 2) rfl), List.forall_mem_cons.mpr ⟨inR20 _ (List.mem_of_getElem? (i := 3) rfl), List.forall_mem_cons.mpr ⟨inR5 _ (List.mem_of_getElem? (i := 10) rfl), List.forall_mem_cons.mpr ⟨inR20 _ (List.mem_of_getElem? (i := 4) rfl), fun _ h => absurd h List.not_mem_nil⟩⟩⟩⟩
theorem wk_X11_74 : ∀ w ∈ ([Cond.methodLink RX11 74 yX1_beginNextEvent, Cond.static yX1_beginNextEvent, Cond.initialized RX1, Cond.code yX1_beginNextEvent cX1_beginNextEvent 5 (some .int)] : List Cond), w ∈ wsL_law := List.forall_mem_cons.mpr ⟨inR21 _ (List.mem_of_getElem? (i := 11) rfl), List.forall_mem_cons.mpr ⟨inR21 _ (List.mem_of_getElem? (i := 12) rfl), List.forall_mem_cons.mpr ⟨inR5 _ (List.mem_of_getElem? (i := 10) rfl), List.forall_mem_cons.mpr ⟨inR21 _ (List.mem_of_getElem? (i := 13) rfl), fun _ h => absurd h List.not_mem_nil⟩⟩⟩⟩
theorem wk_X11_77 : ∀ w ∈ ([Cond.methodLink RX11 77 yX5_has, Cond.instanceMethod yX5_has, Cond.selects RX5 yX5_has yX5_has, Cond.initialized RX5, Cond.code yX5_has cX5_has 2 (some .boolean)] : List Cond), w ∈ wsL_law := List.forall_mem_cons.mpr ⟨inR22 _ (List.mem_of_getElem? (i := 9) rfl), List.forall_mem_cons.mpr ⟨inR8 _ (List.mem_of_getElem? (i := 3) rfl), List.forall_mem_cons.mpr ⟨inR8 _ (List.mem_of_getElem? (i := 4) rfl), List.forall_mem_cons.mpr ⟨inR1 _ (List.mem_of_getElem? (i := 14) rfl), List.forall_mem_cons.mpr ⟨inR8 _ (List.mem_of_getElem? (i := 5) rfl), fun _ h => absurd h List.not_mem_nil⟩⟩⟩⟩⟩
theorem wk_X11_86 : ∀ w ∈ ([Cond.methodLink RX11 86 yX0_ofSwimmer, Cond.static yX0_ofSwimmer, Cond.initialized RX0, Cond.code yX0_ofSwimmer cX0_ofSwimmer 3 (some .int)] : List Cond), w ∈ wsL_law := List.forall_mem_cons.mpr ⟨inR22 _ (List.mem_of_getElem? (i := 10) rfl), List.forall_mem_cons.mpr ⟨inR22 _ (List.mem_of_getElem? (i := 11) rfl), List.forall_mem_cons.mpr ⟨inR22 _ (List.mem_of_getElem? (i := 12) rfl), List.forall_mem_cons.mpr ⟨inR22 _ (List.mem_of_getElem? (i := 13) rfl), fun _ h => absurd h List.not_mem_nil⟩⟩⟩⟩
theorem wk_X11_92 : ∀ w ∈ ([Cond.methodLink RX11 92 yX5_hasHeat, Cond.instanceMethod yX5_hasHeat, Cond.selects RX5 yX5_hasHeat yX5_hasHeat, Cond.initialized RX5, Cond.code yX5_hasHeat cX5_hasHeat 2 (some .boolean)] : List Cond), w ∈ wsL_law := List.forall_mem_cons.mpr ⟨inR23 _ (List.mem_of_getElem? (i := 20) rfl), List.forall_mem_cons.mpr ⟨inR23 _ (List.mem_of_getElem? (i := 21) rfl), List.forall_mem_cons.mpr ⟨inR23 _ (List.mem_of_getElem? (i := 22) rfl), List.forall_mem_cons.mpr ⟨inR1 _ (List.mem_of_getElem? (i := 14) rfl), List.forall_mem_cons.mpr ⟨inR23 _ (List.mem_of_getElem? (i := 23) rfl), fun _ h => absurd h List.not_mem_nil⟩⟩⟩⟩⟩
theorem wk_X11_95 : ∀ w ∈ ([Cond.methodLink RX11 95 yX5_lanes, Cond.instanceMethod yX5_lanes, Cond.selects RX5 yX5_lanes yX5_lanes, Cond.initialized RX5, Cond.code yX5_lanes cX5_lanes 1 (some .int)] : List Cond), w ∈ wsL_law := List.forall_mem_cons.mpr ⟨inR24 _ (List.mem_of_getElem? (i := 0) rfl), List.forall_mem_cons.mpr ⟨inR11 _ (List.mem_of_getElem? (i := 8) rfl), List.forall_mem_cons.mpr ⟨inR11 _ (List.mem_of_getElem? (i := 9) rfl), List.forall_mem_cons.mpr ⟨inR1 _ (List.mem_of_getElem? (i := 14) rfl), List.forall_mem_cons.mpr ⟨inR11 _ (List.mem_of_getElem? (i := 10) rfl), fun _ h => absurd h List.not_mem_nil⟩⟩⟩⟩⟩
theorem wk_X11_99 : ∀ w ∈ ([Cond.methodLink RX11 99 yX0_inLane, Cond.static yX0_inLane, Cond.initialized RX0, Cond.code yX0_inLane cX0_inLane 5 (some .int)] : List Cond), w ∈ wsL_law := List.forall_mem_cons.mpr ⟨inR24 _ (List.mem_of_getElem? (i := 1) rfl), List.forall_mem_cons.mpr ⟨inR24 _ (List.mem_of_getElem? (i := 2) rfl), List.forall_mem_cons.mpr ⟨inR22 _ (List.mem_of_getElem? (i := 12) rfl), List.forall_mem_cons.mpr ⟨inR24 _ (List.mem_of_getElem? (i := 3) rfl), fun _ h => absurd h List.not_mem_nil⟩⟩⟩⟩
theorem wk_X12_101 : ∀ w ∈ ([Cond.methodLink RX12 101 yX12_laneIn, Cond.instanceMethod yX12_laneIn, Cond.selects RX12 yX12_laneIn yX12_laneIn, Cond.initialized RX12, Cond.code yX12_laneIn cX12_laneIn 2 (some .int)] : List Cond), w ∈ wsL_law := List.forall_mem_cons.mpr ⟨inR14 _ (List.mem_of_getElem? (i := 19) rfl), List.forall_mem_cons.mpr ⟨inR14 _ (List.mem_of_getElem? (i := 20) rfl), List.forall_mem_cons.mpr ⟨inR14 _ (List.mem_of_getElem? (i := 21) rfl), List.forall_mem_cons.mpr ⟨inR1 _ (List.mem_of_getElem? (i := 5) rfl), List.forall_mem_cons.mpr ⟨inR14 _ (List.mem_of_getElem? (i := 22) rfl), fun _ h => absurd h List.not_mem_nil⟩⟩⟩⟩⟩
theorem wk_X12_104 : ∀ w ∈ ([Cond.methodLink RX12 104 yX12_isAsked, Cond.instanceMethod yX12_isAsked, Cond.selects RX12 yX12_isAsked yX12_isAsked, Cond.initialized RX12, Cond.code yX12_isAsked cX12_isAsked 2 (some .boolean)] : List Cond), w ∈ wsL_law := List.forall_mem_cons.mpr ⟨inR16 _ (List.mem_of_getElem? (i := 12) rfl), List.forall_mem_cons.mpr ⟨inR16 _ (List.mem_of_getElem? (i := 13) rfl), List.forall_mem_cons.mpr ⟨inR16 _ (List.mem_of_getElem? (i := 14) rfl), List.forall_mem_cons.mpr ⟨inR1 _ (List.mem_of_getElem? (i := 5) rfl), List.forall_mem_cons.mpr ⟨inR16 _ (List.mem_of_getElem? (i := 15) rfl), fun _ h => absurd h List.not_mem_nil⟩⟩⟩⟩⟩
theorem wk_X12_107 : ∀ w ∈ ([Cond.methodLink RX12 107 yX12_timeNow, Cond.instanceMethod yX12_timeNow, Cond.selects RX12 yX12_timeNow yX12_timeNow, Cond.initialized RX12, Cond.code yX12_timeNow cX12_timeNow 1 (some .int)] : List Cond), w ∈ wsL_law := List.forall_mem_cons.mpr ⟨inR16 _ (List.mem_of_getElem? (i := 16) rfl), List.forall_mem_cons.mpr ⟨inR16 _ (List.mem_of_getElem? (i := 17) rfl), List.forall_mem_cons.mpr ⟨inR16 _ (List.mem_of_getElem? (i := 18) rfl), List.forall_mem_cons.mpr ⟨inR1 _ (List.mem_of_getElem? (i := 5) rfl), List.forall_mem_cons.mpr ⟨inR16 _ (List.mem_of_getElem? (i := 19) rfl), fun _ h => absurd h List.not_mem_nil⟩⟩⟩⟩⟩
theorem wk_X12_110 : ∀ w ∈ ([Cond.methodLink RX12 110 yX12_missingOnes, Cond.instanceMethod yX12_missingOnes, Cond.selects RX12 yX12_missingOnes yX12_missingOnes, Cond.initialized RX12, Cond.code yX12_missingOnes cX12_missingOnes 3 (some .int)] : List Cond), w ∈ wsL_law := List.forall_mem_cons.mpr ⟨inR18 _ (List.mem_of_getElem? (i := 22) rfl), List.forall_mem_cons.mpr ⟨inR18 _ (List.mem_of_getElem? (i := 23) rfl), List.forall_mem_cons.mpr ⟨inR19 _ (List.mem_of_getElem? (i := 0) rfl), List.forall_mem_cons.mpr ⟨inR1 _ (List.mem_of_getElem? (i := 5) rfl), List.forall_mem_cons.mpr ⟨inR19 _ (List.mem_of_getElem? (i := 1) rfl), fun _ h => absurd h List.not_mem_nil⟩⟩⟩⟩⟩
theorem wk_X12_113 : ∀ w ∈ ([Cond.methodLink RX12 113 yX12_timed, Cond.instanceMethod yX12_timed, Cond.selects RX12 yX12_timed yX12_timed, Cond.initialized RX12, Cond.code yX12_timed cX12_timed 3 (some .int)] : List Cond), w ∈ wsL_law := List.forall_mem_cons.mpr ⟨inR19 _ (List.mem_of_getElem? (i := 2) rfl), List.forall_mem_cons.mpr ⟨inR19 _ (List.mem_of_getElem? (i := 3) rfl), List.forall_mem_cons.mpr ⟨inR19 _ (List.mem_of_getElem? (i := 4) rfl), List.forall_mem_cons.mpr ⟨inR1 _ (List.mem_of_getElem? (i := 5) rfl), List.forall_mem_cons.mpr ⟨inR19 _ (List.mem_of_getElem? (i := 5) rfl), fun _ h => absurd h List.not_mem_nil⟩⟩⟩⟩⟩
theorem wk_X12_116 : ∀ w ∈ ([Cond.methodLink RX12 116 yX12_why, Cond.instanceMethod yX12_why, Cond.selects RX12 yX12_why yX12_why, Cond.initialized RX12, Cond.code yX12_why cX12_why 1 (some .int)] : List Cond), w ∈ wsL_law := List.forall_mem_cons.mpr ⟨inR18 _ (List.mem_of_getElem? (i := 18) rfl), List.forall_mem_cons.mpr ⟨inR18 _ (List.mem_of_getElem? (i := 19) rfl), List.forall_mem_cons.mpr ⟨inR18 _ (List.mem_of_getElem? (i := 20) rfl), List.forall_mem_cons.mpr ⟨inR1 _ (List.mem_of_getElem? (i := 5) rfl), List.forall_mem_cons.mpr ⟨inR18 _ (List.mem_of_getElem? (i := 21) rfl), fun _ h => absurd h List.not_mem_nil⟩⟩⟩⟩⟩
theorem wk_X12_119 : ∀ w ∈ ([Cond.methodLink RX12 119 yX12_timeRank, Cond.instanceMethod yX12_timeRank, Cond.selects RX12 yX12_timeRank yX12_timeRank, Cond.initialized RX12, Cond.code yX12_timeRank cX12_timeRank 4 (some .int)] : List Cond), w ∈ wsL_law := List.forall_mem_cons.mpr ⟨inR19 _ (List.mem_of_getElem? (i := 10) rfl), List.forall_mem_cons.mpr ⟨inR19 _ (List.mem_of_getElem? (i := 11) rfl), List.forall_mem_cons.mpr ⟨inR19 _ (List.mem_of_getElem? (i := 12) rfl), List.forall_mem_cons.mpr ⟨inR1 _ (List.mem_of_getElem? (i := 5) rfl), List.forall_mem_cons.mpr ⟨inR19 _ (List.mem_of_getElem? (i := 13) rfl), fun _ h => absurd h List.not_mem_nil⟩⟩⟩⟩⟩
theorem wk_X12_122 : ∀ w ∈ ([Cond.methodLink RX12 122 yX12_inFinal, Cond.instanceMethod yX12_inFinal, Cond.selects RX12 yX12_inFinal yX12_inFinal, Cond.initialized RX12, Cond.code yX12_inFinal cX12_inFinal 3 (some .int)] : List Cond), w ∈ wsL_law := List.forall_mem_cons.mpr ⟨inR19 _ (List.mem_of_getElem? (i := 18) rfl), List.forall_mem_cons.mpr ⟨inR19 _ (List.mem_of_getElem? (i := 19) rfl), List.forall_mem_cons.mpr ⟨inR19 _ (List.mem_of_getElem? (i := 20) rfl), List.forall_mem_cons.mpr ⟨inR1 _ (List.mem_of_getElem? (i := 5) rfl), List.forall_mem_cons.mpr ⟨inR19 _ (List.mem_of_getElem? (i := 21) rfl), fun _ h => absurd h List.not_mem_nil⟩⟩⟩⟩⟩
theorem wk_X12_125 : ∀ w ∈ ([Cond.methodLink RX12 125 yX12_finishers, Cond.instanceMethod yX12_finishers, Cond.selects RX12 yX12_finishers yX12_finishers, Cond.initialized RX12, Cond.code yX12_finishers cX12_finishers 5 (some .int)] : List Cond), w ∈ wsL_law := List.forall_mem_cons.mpr ⟨inR20 _ (List.mem_of_getElem? (i := 23) rfl), List.forall_mem_cons.mpr ⟨inR21 _ (List.mem_of_getElem? (i := 0) rfl), List.forall_mem_cons.mpr ⟨inR21 _ (List.mem_of_getElem? (i := 1) rfl), List.forall_mem_cons.mpr ⟨inR1 _ (List.mem_of_getElem? (i := 5) rfl), List.forall_mem_cons.mpr ⟨inR21 _ (List.mem_of_getElem? (i := 2) rfl), fun _ h => absurd h List.not_mem_nil⟩⟩⟩⟩⟩
theorem wk_X12_128 : ∀ w ∈ ([Cond.methodLink RX12 128 yX12_worth, Cond.instanceMethod yX12_worth, Cond.selects RX12 yX12_worth yX12_worth, Cond.initialized RX12, Cond.code yX12_worth cX12_worth 2 (some .int)] : List Cond), w ∈ wsL_law := List.forall_mem_cons.mpr ⟨inR21 _ (List.mem_of_getElem? (i := 3) rfl), List.forall_mem_cons.mpr ⟨inR21 _ (List.mem_of_getElem? (i := 4) rfl), List.forall_mem_cons.mpr ⟨inR21 _ (List.mem_of_getElem? (i := 5) rfl), List.forall_mem_cons.mpr ⟨inR1 _ (List.mem_of_getElem? (i := 5) rfl), List.forall_mem_cons.mpr ⟨inR21 _ (List.mem_of_getElem? (i := 6) rfl), fun _ h => absurd h List.not_mem_nil⟩⟩⟩⟩⟩
theorem wk_X12_131 : ∀ w ∈ ([Cond.methodLink RX12 131 yX12_better, Cond.static yX12_better, Cond.initialized RX12, Cond.code yX12_better cX12_better 2 (some .int)] : List Cond), w ∈ wsL_law := List.forall_mem_cons.mpr ⟨inR22 _ (List.mem_of_getElem? (i := 0) rfl), List.forall_mem_cons.mpr ⟨inR22 _ (List.mem_of_getElem? (i := 1) rfl), List.forall_mem_cons.mpr ⟨inR1 _ (List.mem_of_getElem? (i := 5) rfl), List.forall_mem_cons.mpr ⟨inR22 _ (List.mem_of_getElem? (i := 2) rfl), fun _ h => absurd h List.not_mem_nil⟩⟩⟩⟩
theorem wk_X12_134 : ∀ w ∈ ([Cond.methodLink RX12 134 yX12_lessOne, Cond.static yX12_lessOne, Cond.initialized RX12, Cond.code yX12_lessOne cX12_lessOne 1 (some .int)] : List Cond), w ∈ wsL_law := List.forall_mem_cons.mpr ⟨inR23 _ (List.mem_of_getElem? (i := 10) rfl), List.forall_mem_cons.mpr ⟨inR23 _ (List.mem_of_getElem? (i := 11) rfl), List.forall_mem_cons.mpr ⟨inR1 _ (List.mem_of_getElem? (i := 5) rfl), List.forall_mem_cons.mpr ⟨inR23 _ (List.mem_of_getElem? (i := 12) rfl), fun _ h => absurd h List.not_mem_nil⟩⟩⟩⟩
theorem wk_X12_137 : ∀ w ∈ ([Cond.methodLink RX12 137 yX12_orNone, Cond.static yX12_orNone, Cond.initialized RX12, Cond.code yX12_orNone cX12_orNone 1 (some .int)] : List Cond), w ∈ wsL_law := List.forall_mem_cons.mpr ⟨inR23 _ (List.mem_of_getElem? (i := 13) rfl), List.forall_mem_cons.mpr ⟨inR23 _ (List.mem_of_getElem? (i := 14) rfl), List.forall_mem_cons.mpr ⟨inR1 _ (List.mem_of_getElem? (i := 5) rfl), List.forall_mem_cons.mpr ⟨inR23 _ (List.mem_of_getElem? (i := 15) rfl), fun _ h => absurd h List.not_mem_nil⟩⟩⟩⟩
theorem wk_X12_140 : ∀ w ∈ ([Cond.methodLink RX12 140 yX12_isHeat, Cond.instanceMethod yX12_isHeat, Cond.selects RX12 yX12_isHeat yX12_isHeat, Cond.initialized RX12, Cond.code yX12_isHeat cX12_isHeat 2 (some .boolean)] : List Cond), w ∈ wsL_law := List.forall_mem_cons.mpr ⟨inR24 _ (List.mem_of_getElem? (i := 18) rfl), List.forall_mem_cons.mpr ⟨inR24 _ (List.mem_of_getElem? (i := 19) rfl), List.forall_mem_cons.mpr ⟨inR24 _ (List.mem_of_getElem? (i := 20) rfl), List.forall_mem_cons.mpr ⟨inR1 _ (List.mem_of_getElem? (i := 5) rfl), List.forall_mem_cons.mpr ⟨inR24 _ (List.mem_of_getElem? (i := 21) rfl), fun _ h => absurd h List.not_mem_nil⟩⟩⟩⟩⟩
theorem wk_X12_143 : ∀ w ∈ ([Cond.methodLink RX12 143 yX12_isIn, Cond.instanceMethod yX12_isIn, Cond.selects RX12 yX12_isIn yX12_isIn, Cond.initialized RX12, Cond.code yX12_isIn cX12_isIn 3 (some .boolean)] : List Cond), w ∈ wsL_law := List.forall_mem_cons.mpr ⟨inR24 _ (List.mem_of_getElem? (i := 22) rfl), List.forall_mem_cons.mpr ⟨inR24 _ (List.mem_of_getElem? (i := 23) rfl), List.forall_mem_cons.mpr ⟨inR25 _ (List.mem_of_getElem? (i := 0) rfl), List.forall_mem_cons.mpr ⟨inR1 _ (List.mem_of_getElem? (i := 5) rfl), List.forall_mem_cons.mpr ⟨inR25 _ (List.mem_of_getElem? (i := 1) rfl), fun _ h => absurd h List.not_mem_nil⟩⟩⟩⟩⟩
theorem wk_X12_146 : ∀ w ∈ ([Cond.methodLink RX12 146 yX12_counts, Cond.instanceMethod yX12_counts, Cond.selects RX12 yX12_counts yX12_counts, Cond.initialized RX12, Cond.code yX12_counts cX12_counts 5 (some .int)] : List Cond), w ∈ wsL_law := List.forall_mem_cons.mpr ⟨inR26 _ (List.mem_of_getElem? (i := 2) rfl), List.forall_mem_cons.mpr ⟨inR26 _ (List.mem_of_getElem? (i := 3) rfl), List.forall_mem_cons.mpr ⟨inR26 _ (List.mem_of_getElem? (i := 4) rfl), List.forall_mem_cons.mpr ⟨inR1 _ (List.mem_of_getElem? (i := 5) rfl), List.forall_mem_cons.mpr ⟨inR26 _ (List.mem_of_getElem? (i := 5) rfl), fun _ h => absurd h List.not_mem_nil⟩⟩⟩⟩⟩
theorem wk_X12_150 : ∀ w ∈ ([Cond.methodLink RX12 150 yX12_reserve, Cond.instanceMethod yX12_reserve, Cond.selects RX12 yX12_reserve yX12_reserve, Cond.initialized RX12, Cond.code yX12_reserve cX12_reserve 4 (some .int)] : List Cond), w ∈ wsL_law := List.forall_mem_cons.mpr ⟨inR32 _ (List.mem_of_getElem? (i := 19) rfl), List.forall_mem_cons.mpr ⟨inR26 _ (List.mem_of_getElem? (i := 12) rfl), List.forall_mem_cons.mpr ⟨inR26 _ (List.mem_of_getElem? (i := 13) rfl), List.forall_mem_cons.mpr ⟨inR1 _ (List.mem_of_getElem? (i := 5) rfl), List.forall_mem_cons.mpr ⟨inR26 _ (List.mem_of_getElem? (i := 14) rfl), fun _ h => absurd h List.not_mem_nil⟩⟩⟩⟩⟩
theorem wk_X12_153 : ∀ w ∈ ([Cond.methodLink RX12 153 yX12_rankOf, Cond.instanceMethod yX12_rankOf, Cond.selects RX12 yX12_rankOf yX12_rankOf, Cond.initialized RX12, Cond.code yX12_rankOf cX12_rankOf 3 (some .int)] : List Cond), w ∈ wsL_law := List.forall_mem_cons.mpr ⟨inR28 _ (List.mem_of_getElem? (i := 7) rfl), List.forall_mem_cons.mpr ⟨inR28 _ (List.mem_of_getElem? (i := 8) rfl), List.forall_mem_cons.mpr ⟨inR28 _ (List.mem_of_getElem? (i := 9) rfl), List.forall_mem_cons.mpr ⟨inR1 _ (List.mem_of_getElem? (i := 5) rfl), List.forall_mem_cons.mpr ⟨inR28 _ (List.mem_of_getElem? (i := 10) rfl), fun _ h => absurd h List.not_mem_nil⟩⟩⟩⟩⟩
theorem wk_X12_156 : ∀ w ∈ ([Cond.methodLink RX12 156 yJxf58ca_floatToIntBits_5c35a, Cond.static yJxf58ca_floatToIntBits_5c35a, Cond.initialized RJxf58ca, Cond.code yJxf58ca_floatToIntBits_5c35a cJxf58ca_floatToIntBits_5c35a 1 (some .int)] : List Cond), w ∈ wsL_law := List.forall_mem_cons.mpr ⟨inR30 _ (List.mem_of_getElem? (i := 11) rfl), List.forall_mem_cons.mpr ⟨inR30 _ (List.mem_of_getElem? (i := 12) rfl), List.forall_mem_cons.mpr ⟨inR30 _ (List.mem_of_getElem? (i := 13) rfl), List.forall_mem_cons.mpr ⟨inR30 _ (List.mem_of_getElem? (i := 14) rfl), fun _ h => absurd h List.not_mem_nil⟩⟩⟩⟩
theorem wk_X12_162 : ∀ w ∈ ([Cond.methodLink RX12 162 yX12_goneOnes, Cond.instanceMethod yX12_goneOnes, Cond.selects RX12 yX12_goneOnes yX12_goneOnes, Cond.initialized RX12, Cond.code yX12_goneOnes cX12_goneOnes 3 (some .int)] : List Cond), w ∈ wsL_law := List.forall_mem_cons.mpr ⟨inR32 _ (List.mem_of_getElem? (i := 11) rfl), List.forall_mem_cons.mpr ⟨inR32 _ (List.mem_of_getElem? (i := 12) rfl), List.forall_mem_cons.mpr ⟨inR32 _ (List.mem_of_getElem? (i := 13) rfl), List.forall_mem_cons.mpr ⟨inR1 _ (List.mem_of_getElem? (i := 5) rfl), List.forall_mem_cons.mpr ⟨inR32 _ (List.mem_of_getElem? (i := 14) rfl), fun _ h => absurd h List.not_mem_nil⟩⟩⟩⟩⟩
theorem wk_X12_165 : ∀ w ∈ ([Cond.methodLink RX12 165 yX12_reserves, Cond.instanceMethod yX12_reserves, Cond.selects RX12 yX12_reserves yX12_reserves, Cond.initialized RX12, Cond.code yX12_reserves cX12_reserves 2 (some .int)] : List Cond), w ∈ wsL_law := List.forall_mem_cons.mpr ⟨inR32 _ (List.mem_of_getElem? (i := 15) rfl), List.forall_mem_cons.mpr ⟨inR32 _ (List.mem_of_getElem? (i := 16) rfl), List.forall_mem_cons.mpr ⟨inR32 _ (List.mem_of_getElem? (i := 17) rfl), List.forall_mem_cons.mpr ⟨inR1 _ (List.mem_of_getElem? (i := 5) rfl), List.forall_mem_cons.mpr ⟨inR32 _ (List.mem_of_getElem? (i := 18) rfl), fun _ h => absurd h List.not_mem_nil⟩⟩⟩⟩⟩
theorem wk_X12_168 : ∀ w ∈ ([Cond.methodLink RX12 168 yX12_timesNow, Cond.instanceMethod yX12_timesNow, Cond.selects RX12 yX12_timesNow yX12_timesNow, Cond.initialized RX12, Cond.code yX12_timesNow cX12_timesNow 3 (some .int)] : List Cond), w ∈ wsL_law := List.forall_mem_cons.mpr ⟨inR32 _ (List.mem_of_getElem? (i := 20) rfl), List.forall_mem_cons.mpr ⟨inR32 _ (List.mem_of_getElem? (i := 21) rfl), List.forall_mem_cons.mpr ⟨inR32 _ (List.mem_of_getElem? (i := 22) rfl), List.forall_mem_cons.mpr ⟨inR1 _ (List.mem_of_getElem? (i := 5) rfl), List.forall_mem_cons.mpr ⟨inR32 _ (List.mem_of_getElem? (i := 23) rfl), fun _ h => absurd h List.not_mem_nil⟩⟩⟩⟩⟩
theorem wk_X12_171 : ∀ w ∈ ([Cond.methodLink RX12 171 yX12_allPoints, Cond.instanceMethod yX12_allPoints, Cond.selects RX12 yX12_allPoints yX12_allPoints, Cond.initialized RX12, Cond.code yX12_allPoints cX12_allPoints 3 (some .int)] : List Cond), w ∈ wsL_law := List.forall_mem_cons.mpr ⟨inR33 _ (List.mem_of_getElem? (i := 0) rfl), List.forall_mem_cons.mpr ⟨inR33 _ (List.mem_of_getElem? (i := 1) rfl), List.forall_mem_cons.mpr ⟨inR33 _ (List.mem_of_getElem? (i := 2) rfl), List.forall_mem_cons.mpr ⟨inR1 _ (List.mem_of_getElem? (i := 5) rfl), List.forall_mem_cons.mpr ⟨inR33 _ (List.mem_of_getElem? (i := 3) rfl), fun _ h => absurd h List.not_mem_nil⟩⟩⟩⟩⟩
theorem wk_X12_180 : ∀ w ∈ ([Cond.methodLink RX12 180 yX12_isAt, Cond.instanceMethod yX12_isAt, Cond.selects RX12 yX12_isAt yX12_isAt, Cond.initialized RX12, Cond.code yX12_isAt cX12_isAt 3 (some .boolean)] : List Cond), w ∈ wsL_law := List.forall_mem_cons.mpr ⟨inR38 _ (List.mem_of_getElem? (i := 12) rfl), List.forall_mem_cons.mpr ⟨inR38 _ (List.mem_of_getElem? (i := 13) rfl), List.forall_mem_cons.mpr ⟨inR38 _ (List.mem_of_getElem? (i := 14) rfl), List.forall_mem_cons.mpr ⟨inR1 _ (List.mem_of_getElem? (i := 5) rfl), List.forall_mem_cons.mpr ⟨inR38 _ (List.mem_of_getElem? (i := 15) rfl), fun _ h => absurd h List.not_mem_nil⟩⟩⟩⟩⟩
theorem wk_X12_186 : ∀ w ∈ ([Cond.methodLink RX12 186 yX12_numbersOf, Cond.static yX12_numbersOf, Cond.initialized RX12, Cond.code yX12_numbersOf cX12_numbersOf 1 (some .int)] : List Cond), w ∈ wsL_law := List.forall_mem_cons.mpr ⟨inR38 _ (List.mem_of_getElem? (i := 16) rfl), List.forall_mem_cons.mpr ⟨inR38 _ (List.mem_of_getElem? (i := 17) rfl), List.forall_mem_cons.mpr ⟨inR1 _ (List.mem_of_getElem? (i := 5) rfl), List.forall_mem_cons.mpr ⟨inR38 _ (List.mem_of_getElem? (i := 18) rfl), fun _ h => absurd h List.not_mem_nil⟩⟩⟩⟩
theorem wk_X12_189 : ∀ w ∈ ([Cond.methodLink RX12 189 yX12_numbered, Cond.instanceMethod yX12_numbered, Cond.selects RX12 yX12_numbered yX12_numbered, Cond.initialized RX12, Cond.code yX12_numbered cX12_numbered 3 (some .boolean)] : List Cond), w ∈ wsL_law := List.forall_mem_cons.mpr ⟨inR38 _ (List.mem_of_getElem? (i := 19) rfl), List.forall_mem_cons.mpr ⟨inR38 _ (List.mem_of_getElem? (i := 20) rfl), List.forall_mem_cons.mpr ⟨inR38 _ (List.mem_of_getElem? (i := 21) rfl), List.forall_mem_cons.mpr ⟨inR1 _ (List.mem_of_getElem? (i := 5) rfl), List.forall_mem_cons.mpr ⟨inR38 _ (List.mem_of_getElem? (i := 22) rfl), fun _ h => absurd h List.not_mem_nil⟩⟩⟩⟩⟩
theorem wk_X12_192 : ∀ w ∈ ([Cond.methodLink RX12 192 yX12_sign, Cond.instanceMethod yX12_sign, Cond.selects RX12 yX12_sign yX12_sign, Cond.initialized RX12, Cond.code yX12_sign cX12_sign 3 (some .boolean)] : List Cond), w ∈ wsL_law := List.forall_mem_cons.mpr ⟨inR38 _ (List.mem_of_getElem? (i := 23) rfl), List.forall_mem_cons.mpr ⟨inR39 _ (List.mem_of_getElem? (i := 0) rfl), List.forall_mem_cons.mpr ⟨inR39 _ (List.mem_of_getElem? (i := 1) rfl), List.forall_mem_cons.mpr ⟨inR1 _ (List.mem_of_getElem? (i := 5) rfl), List.forall_mem_cons.mpr ⟨inR39 _ (List.mem_of_getElem? (i := 2) rfl), fun _ h => absurd h List.not_mem_nil⟩⟩⟩⟩⟩
theorem wk_X12_195 : ∀ w ∈ ([Cond.methodLink RX12 195 yX12_enter, Cond.instanceMethod yX12_enter, Cond.selects RX12 yX12_enter yX12_enter, Cond.initialized RX12, Cond.code yX12_enter cX12_enter 3 (some .int)] : List Cond), w ∈ wsL_law := List.forall_mem_cons.mpr ⟨inR39 _ (List.mem_of_getElem? (i := 7) rfl), List.forall_mem_cons.mpr ⟨inR6 _ (List.mem_of_getElem? (i := 22) rfl), List.forall_mem_cons.mpr ⟨inR6 _ (List.mem_of_getElem? (i := 23) rfl), List.forall_mem_cons.mpr ⟨inR1 _ (List.mem_of_getElem? (i := 5) rfl), List.forall_mem_cons.mpr ⟨inR7 _ (List.mem_of_getElem? (i := 0) rfl), fun _ h => absurd h List.not_mem_nil⟩⟩⟩⟩⟩
theorem wk_X12_198 : ∀ w ∈ ([Cond.methodLink RX12 198 yX12_swim, Cond.instanceMethod yX12_swim, Cond.selects RX12 yX12_swim yX12_swim, Cond.initialized RX12, Cond.code yX12_swim cX12_swim 6 (some .int)] : List Cond), w ∈ wsL_law := List.forall_mem_cons.mpr ⟨inR39 _ (List.mem_of_getElem? (i := 8) rfl), List.forall_mem_cons.mpr ⟨inR16 _ (List.mem_of_getElem? (i := 9) rfl), List.forall_mem_cons.mpr ⟨inR16 _ (List.mem_of_getElem? (i := 10) rfl), List.forall_mem_cons.mpr ⟨inR1 _ (List.mem_of_getElem? (i := 5) rfl), List.forall_mem_cons.mpr ⟨inR16 _ (List.mem_of_getElem? (i := 11) rfl), fun _ h => absurd h List.not_mem_nil⟩⟩⟩⟩⟩
theorem wk_X12_201 : ∀ w ∈ ([Cond.methodLink RX12 201 yX12_scratch, Cond.instanceMethod yX12_scratch, Cond.selects RX12 yX12_scratch yX12_scratch, Cond.initialized RX12, Cond.code yX12_scratch cX12_scratch 3 (some .int)] : List Cond), w ∈ wsL_law := List.forall_mem_cons.mpr ⟨inR39 _ (List.mem_of_getElem? (i := 9) rfl), List.forall_mem_cons.mpr ⟨inR9 _ (List.mem_of_getElem? (i := 1) rfl), List.forall_mem_cons.mpr ⟨inR9 _ (List.mem_of_getElem? (i := 2) rfl), List.forall_mem_cons.mpr ⟨inR1 _ (List.mem_of_getElem? (i := 5) rfl), List.forall_mem_cons.mpr ⟨inR9 _ (List.mem_of_getElem? (i := 3) rfl), fun _ h => absurd h List.not_mem_nil⟩⟩⟩⟩⟩
theorem wk_X12_204 : ∀ w ∈ ([Cond.methodLink RX12 204 yX12_draw, Cond.instanceMethod yX12_draw, Cond.selects RX12 yX12_draw yX12_draw, Cond.initialized RX12, Cond.code yX12_draw cX12_draw 4 (some .int)] : List Cond), w ∈ wsL_law := List.forall_mem_cons.mpr ⟨inR39 _ (List.mem_of_getElem? (i := 10) rfl), List.forall_mem_cons.mpr ⟨inR13 _ (List.mem_of_getElem? (i := 12) rfl), List.forall_mem_cons.mpr ⟨inR13 _ (List.mem_of_getElem? (i := 13) rfl), List.forall_mem_cons.mpr ⟨inR1 _ (List.mem_of_getElem? (i := 5) rfl), List.forall_mem_cons.mpr ⟨inR13 _ (List.mem_of_getElem? (i := 14) rfl), fun _ h => absurd h List.not_mem_nil⟩⟩⟩⟩⟩
theorem wk_X12_207 : ∀ w ∈ ([Cond.methodLink RX12 207 yX12_finals, Cond.instanceMethod yX12_finals, Cond.selects RX12 yX12_finals yX12_finals, Cond.initialized RX12, Cond.code yX12_finals cX12_finals 3 (some .int)] : List Cond), w ∈ wsL_law := List.forall_mem_cons.mpr ⟨inR39 _ (List.mem_of_getElem? (i := 11) rfl), List.forall_mem_cons.mpr ⟨inR18 _ (List.mem_of_getElem? (i := 15) rfl), List.forall_mem_cons.mpr ⟨inR18 _ (List.mem_of_getElem? (i := 16) rfl), List.forall_mem_cons.mpr ⟨inR1 _ (List.mem_of_getElem? (i := 5) rfl), List.forall_mem_cons.mpr ⟨inR18 _ (List.mem_of_getElem? (i := 17) rfl), fun _ h => absurd h List.not_mem_nil⟩⟩⟩⟩⟩
theorem wk_X12_210 : ∀ w ∈ ([Cond.methodLink RX12 210 yX12_end, Cond.instanceMethod yX12_end, Cond.selects RX12 yX12_end yX12_end, Cond.initialized RX12, Cond.code yX12_end cX12_end 8 (some .int)] : List Cond), w ∈ wsL_law := List.forall_mem_cons.mpr ⟨inR39 _ (List.mem_of_getElem? (i := 12) rfl), List.forall_mem_cons.mpr ⟨inR20 _ (List.mem_of_getElem? (i := 20) rfl), List.forall_mem_cons.mpr ⟨inR20 _ (List.mem_of_getElem? (i := 21) rfl), List.forall_mem_cons.mpr ⟨inR1 _ (List.mem_of_getElem? (i := 5) rfl), List.forall_mem_cons.mpr ⟨inR20 _ (List.mem_of_getElem? (i := 22) rfl), fun _ h => absurd h List.not_mem_nil⟩⟩⟩⟩⟩
theorem wk_X12_213 : ∀ w ∈ ([Cond.methodLink RX12 213 yX12_next, Cond.instanceMethod yX12_next, Cond.selects RX12 yX12_next yX12_next, Cond.initialized RX12, Cond.code yX12_next cX12_next 6 (some .int)] : List Cond), w ∈ wsL_law := List.forall_mem_cons.mpr ⟨inR39 _ (List.mem_of_getElem? (i := 13) rfl), List.forall_mem_cons.mpr ⟨inR21 _ (List.mem_of_getElem? (i := 21) rfl), List.forall_mem_cons.mpr ⟨inR21 _ (List.mem_of_getElem? (i := 22) rfl), List.forall_mem_cons.mpr ⟨inR1 _ (List.mem_of_getElem? (i := 5) rfl), List.forall_mem_cons.mpr ⟨inR21 _ (List.mem_of_getElem? (i := 23) rfl), fun _ h => absurd h List.not_mem_nil⟩⟩⟩⟩⟩
theorem wk_X12_222 : ∀ w ∈ ([Cond.methodLink RX12 222 yX12_reads, Cond.instanceMethod yX12_reads, Cond.selects RX12 yX12_reads yX12_reads, Cond.initialized RX12, Cond.code yX12_reads cX12_reads 3 (some .boolean)] : List Cond), w ∈ wsL_law := List.forall_mem_cons.mpr ⟨inR38 _ (List.mem_of_getElem? (i := 7) rfl), List.forall_mem_cons.mpr ⟨inR38 _ (List.mem_of_getElem? (i := 8) rfl), List.forall_mem_cons.mpr ⟨inR38 _ (List.mem_of_getElem? (i := 9) rfl), List.forall_mem_cons.mpr ⟨inR1 _ (List.mem_of_getElem? (i := 5) rfl), List.forall_mem_cons.mpr ⟨inR38 _ (List.mem_of_getElem? (i := 10) rfl), fun _ h => absurd h List.not_mem_nil⟩⟩⟩⟩⟩
theorem wk_X12_226 : ∀ w ∈ ([Cond.methodLink RX12 226 yX12_does, Cond.instanceMethod yX12_does, Cond.selects RX12 yX12_does yX12_does, Cond.initialized RX12, Cond.code yX12_does cX12_does 1 (some .int)] : List Cond), w ∈ wsL_law := List.forall_mem_cons.mpr ⟨inR39 _ (List.mem_of_getElem? (i := 3) rfl), List.forall_mem_cons.mpr ⟨inR39 _ (List.mem_of_getElem? (i := 4) rfl), List.forall_mem_cons.mpr ⟨inR39 _ (List.mem_of_getElem? (i := 5) rfl), List.forall_mem_cons.mpr ⟨inR1 _ (List.mem_of_getElem? (i := 5) rfl), List.forall_mem_cons.mpr ⟨inR39 _ (List.mem_of_getElem? (i := 6) rfl), fun _ h => absurd h List.not_mem_nil⟩⟩⟩⟩⟩
theorem wk_X12_235 : ∀ w ∈ ([Cond.methodLink RX12 235 yX12_copies, Cond.static yX12_copies, Cond.initialized RX12, Cond.code yX12_copies cX12_copies 3 none] : List Cond), w ∈ wsL_law := List.forall_mem_cons.mpr ⟨inR37 _ (List.mem_of_getElem? (i := 22) rfl), List.forall_mem_cons.mpr ⟨inR37 _ (List.mem_of_getElem? (i := 23) rfl), List.forall_mem_cons.mpr ⟨inR1 _ (List.mem_of_getElem? (i := 5) rfl), List.forall_mem_cons.mpr ⟨inR38 _ (List.mem_of_getElem? (i := 0) rfl), fun _ h => absurd h List.not_mem_nil⟩⟩⟩⟩
theorem wk_X12_239 : ∀ w ∈ ([Cond.methodLink RX12 239 yX12_plays, Cond.instanceMethod yX12_plays, Cond.selects RX12 yX12_plays yX12_plays, Cond.initialized RX12, Cond.code yX12_plays cX12_plays 4 (some .boolean)] : List Cond), w ∈ wsL_law := List.forall_mem_cons.mpr ⟨inR38 _ (List.mem_of_getElem? (i := 1) rfl), List.forall_mem_cons.mpr ⟨inR38 _ (List.mem_of_getElem? (i := 2) rfl), List.forall_mem_cons.mpr ⟨inR38 _ (List.mem_of_getElem? (i := 3) rfl), List.forall_mem_cons.mpr ⟨inR1 _ (List.mem_of_getElem? (i := 5) rfl), List.forall_mem_cons.mpr ⟨inR38 _ (List.mem_of_getElem? (i := 4) rfl), fun _ h => absurd h List.not_mem_nil⟩⟩⟩⟩⟩
theorem wk_X12_36 : ∀ w ∈ ([Cond.methodLink RX12 36 yX12_in, Cond.static yX12_in, Cond.initialized RX12, Cond.code yX12_in cX12_in 3 (some .boolean)] : List Cond), w ∈ wsL_law := List.forall_mem_cons.mpr ⟨inR7 _ (List.mem_of_getElem? (i := 4) rfl), List.forall_mem_cons.mpr ⟨inR7 _ (List.mem_of_getElem? (i := 5) rfl), List.forall_mem_cons.mpr ⟨inR1 _ (List.mem_of_getElem? (i := 5) rfl), List.forall_mem_cons.mpr ⟨inR7 _ (List.mem_of_getElem? (i := 6) rfl), fun _ h => absurd h List.not_mem_nil⟩⟩⟩⟩
theorem wk_X12_40 : ∀ w ∈ ([Cond.methodLink RX12 40 yX12_of, Cond.instanceMethod yX12_of, Cond.selects RX12 yX12_of yX12_of, Cond.initialized RX12, Cond.code yX12_of cX12_of 3 (some .int)] : List Cond), w ∈ wsL_law := List.forall_mem_cons.mpr ⟨inR9 _ (List.mem_of_getElem? (i := 12) rfl), List.forall_mem_cons.mpr ⟨inR9 _ (List.mem_of_getElem? (i := 13) rfl), List.forall_mem_cons.mpr ⟨inR9 _ (List.mem_of_getElem? (i := 14) rfl), List.forall_mem_cons.mpr ⟨inR1 _ (List.mem_of_getElem? (i := 5) rfl), List.forall_mem_cons.mpr ⟨inR9 _ (List.mem_of_getElem? (i := 15) rfl), fun _ h => absurd h List.not_mem_nil⟩⟩⟩⟩⟩
theorem wk_X12_44 : ∀ w ∈ ([Cond.methodLink RX12 44 yX12_isGone, Cond.instanceMethod yX12_isGone, Cond.selects RX12 yX12_isGone yX12_isGone, Cond.initialized RX12, Cond.code yX12_isGone cX12_isGone 2 (some .boolean)] : List Cond), w ∈ wsL_law := List.forall_mem_cons.mpr ⟨inR9 _ (List.mem_of_getElem? (i := 8) rfl), List.forall_mem_cons.mpr ⟨inR9 _ (List.mem_of_getElem? (i := 9) rfl), List.forall_mem_cons.mpr ⟨inR9 _ (List.mem_of_getElem? (i := 10) rfl), List.forall_mem_cons.mpr ⟨inR1 _ (List.mem_of_getElem? (i := 5) rfl), List.forall_mem_cons.mpr ⟨inR9 _ (List.mem_of_getElem? (i := 11) rfl), fun _ h => absurd h List.not_mem_nil⟩⟩⟩⟩⟩
theorem wk_X12_48 : ∀ w ∈ ([Cond.methodLink RX12 48 yX12_entryKey, Cond.instanceMethod yX12_entryKey, Cond.selects RX12 yX12_entryKey yX12_entryKey, Cond.initialized RX12, Cond.code yX12_entryKey cX12_entryKey 3 (some .int)] : List Cond), w ∈ wsL_law := List.forall_mem_cons.mpr ⟨inR14 _ (List.mem_of_getElem? (i := 15) rfl), List.forall_mem_cons.mpr ⟨inR14 _ (List.mem_of_getElem? (i := 16) rfl), List.forall_mem_cons.mpr ⟨inR14 _ (List.mem_of_getElem? (i := 17) rfl), List.forall_mem_cons.mpr ⟨inR1 _ (List.mem_of_getElem? (i := 5) rfl), List.forall_mem_cons.mpr ⟨inR14 _ (List.mem_of_getElem? (i := 18) rfl), fun _ h => absurd h List.not_mem_nil⟩⟩⟩⟩⟩
theorem wk_X12_52 : ∀ w ∈ ([Cond.methodLink RX12 52 yX12_hasTime, Cond.instanceMethod yX12_hasTime, Cond.selects RX12 yX12_hasTime yX12_hasTime, Cond.initialized RX12, Cond.code yX12_hasTime cX12_hasTime 2 (some .boolean)] : List Cond), w ∈ wsL_law := List.forall_mem_cons.mpr ⟨inR19 _ (List.mem_of_getElem? (i := 6) rfl), List.forall_mem_cons.mpr ⟨inR19 _ (List.mem_of_getElem? (i := 7) rfl), List.forall_mem_cons.mpr ⟨inR19 _ (List.mem_of_getElem? (i := 8) rfl), List.forall_mem_cons.mpr ⟨inR1 _ (List.mem_of_getElem? (i := 5) rfl), List.forall_mem_cons.mpr ⟨inR19 _ (List.mem_of_getElem? (i := 9) rfl), fun _ h => absurd h List.not_mem_nil⟩⟩⟩⟩⟩
theorem wk_X12_55 : ∀ w ∈ ([Cond.methodLink RX12 55 yX12_isFaster, Cond.instanceMethod yX12_isFaster, Cond.selects RX12 yX12_isFaster yX12_isFaster, Cond.initialized RX12, Cond.code yX12_isFaster cX12_isFaster 4 (some .boolean)] : List Cond), w ∈ wsL_law := List.forall_mem_cons.mpr ⟨inR19 _ (List.mem_of_getElem? (i := 14) rfl), List.forall_mem_cons.mpr ⟨inR19 _ (List.mem_of_getElem? (i := 15) rfl), List.forall_mem_cons.mpr ⟨inR19 _ (List.mem_of_getElem? (i := 16) rfl), List.forall_mem_cons.mpr ⟨inR1 _ (List.mem_of_getElem? (i := 5) rfl), List.forall_mem_cons.mpr ⟨inR19 _ (List.mem_of_getElem? (i := 17) rfl), fun _ h => absurd h List.not_mem_nil⟩⟩⟩⟩⟩
theorem wk_X12_59 : ∀ w ∈ ([Cond.methodLink RX12 59 yX12_lanes, Cond.instanceMethod yX12_lanes, Cond.selects RX12 yX12_lanes yX12_lanes, Cond.initialized RX12, Cond.code yX12_lanes cX12_lanes 1 (some .int)] : List Cond), w ∈ wsL_law := List.forall_mem_cons.mpr ⟨inR13 _ (List.mem_of_getElem? (i := 23) rfl), List.forall_mem_cons.mpr ⟨inR14 _ (List.mem_of_getElem? (i := 0) rfl), List.forall_mem_cons.mpr ⟨inR14 _ (List.mem_of_getElem? (i := 1) rfl), List.forall_mem_cons.mpr ⟨inR1 _ (List.mem_of_getElem? (i := 5) rfl), List.forall_mem_cons.mpr ⟨inR14 _ (List.mem_of_getElem? (i := 2) rfl), fun _ h => absurd h List.not_mem_nil⟩⟩⟩⟩⟩
theorem wk_X12_63 : ∀ w ∈ ([Cond.methodLink RX12 63 yX12_laneOf, Cond.instanceMethod yX12_laneOf, Cond.selects RX12 yX12_laneOf yX12_laneOf, Cond.initialized RX12, Cond.code yX12_laneOf cX12_laneOf 4 (some .int)] : List Cond), w ∈ wsL_law := List.forall_mem_cons.mpr ⟨inR14 _ (List.mem_of_getElem? (i := 23) rfl), List.forall_mem_cons.mpr ⟨inR15 _ (List.mem_of_getElem? (i := 0) rfl), List.forall_mem_cons.mpr ⟨inR15 _ (List.mem_of_getElem? (i := 1) rfl), List.forall_mem_cons.mpr ⟨inR1 _ (List.mem_of_getElem? (i := 5) rfl), List.forall_mem_cons.mpr ⟨inR15 _ (List.mem_of_getElem? (i := 2) rfl), fun _ h => absurd h List.not_mem_nil⟩⟩⟩⟩⟩
theorem wk_X12_66 : ∀ w ∈ ([Cond.methodLink RX12 66 yX12_present, Cond.instanceMethod yX12_present, Cond.selects RX12 yX12_present yX12_present, Cond.initialized RX12, Cond.code yX12_present cX12_present 3 (some .int)] : List Cond), w ∈ wsL_law := List.forall_mem_cons.mpr ⟨inR13 _ (List.mem_of_getElem? (i := 15) rfl), List.forall_mem_cons.mpr ⟨inR13 _ (List.mem_of_getElem? (i := 16) rfl), List.forall_mem_cons.mpr ⟨inR13 _ (List.mem_of_getElem? (i := 17) rfl), List.forall_mem_cons.mpr ⟨inR1 _ (List.mem_of_getElem? (i := 5) rfl), List.forall_mem_cons.mpr ⟨inR13 _ (List.mem_of_getElem? (i := 18) rfl), fun _ h => absurd h List.not_mem_nil⟩⟩⟩⟩⟩
theorem wk_X12_69 : ∀ w ∈ ([Cond.methodLink RX12 69 yX12_heatFor, Cond.instanceMethod yX12_heatFor, Cond.selects RX12 yX12_heatFor yX12_heatFor, Cond.initialized RX12, Cond.code yX12_heatFor cX12_heatFor 3 (some .int)] : List Cond), w ∈ wsL_law := List.forall_mem_cons.mpr ⟨inR14 _ (List.mem_of_getElem? (i := 3) rfl), List.forall_mem_cons.mpr ⟨inR14 _ (List.mem_of_getElem? (i := 4) rfl), List.forall_mem_cons.mpr ⟨inR14 _ (List.mem_of_getElem? (i := 5) rfl), List.forall_mem_cons.mpr ⟨inR1 _ (List.mem_of_getElem? (i := 5) rfl), List.forall_mem_cons.mpr ⟨inR14 _ (List.mem_of_getElem? (i := 6) rfl), fun _ h => absurd h List.not_mem_nil⟩⟩⟩⟩⟩
theorem wk_X12_72 : ∀ w ∈ ([Cond.methodLink RX12 72 yX12_sizeOf, Cond.instanceMethod yX12_sizeOf, Cond.selects RX12 yX12_sizeOf yX12_sizeOf, Cond.initialized RX12, Cond.code yX12_sizeOf cX12_sizeOf 5 (some .int)] : List Cond), w ∈ wsL_law := List.forall_mem_cons.mpr ⟨inR14 _ (List.mem_of_getElem? (i := 7) rfl), List.forall_mem_cons.mpr ⟨inR14 _ (List.mem_of_getElem? (i := 8) rfl), List.forall_mem_cons.mpr ⟨inR14 _ (List.mem_of_getElem? (i := 9) rfl), List.forall_mem_cons.mpr ⟨inR1 _ (List.mem_of_getElem? (i := 5) rfl), List.forall_mem_cons.mpr ⟨inR14 _ (List.mem_of_getElem? (i := 10) rfl), fun _ h => absurd h List.not_mem_nil⟩⟩⟩⟩⟩
theorem wk_X12_78 : ∀ w ∈ ([Cond.methodLink RX12 78 yX12_changes, Cond.instanceMethod yX12_changes, Cond.selects RX12 yX12_changes yX12_changes, Cond.initialized RX12, Cond.code yX12_changes cX12_changes 2 none] : List Cond), w ∈ wsL_law := List.forall_mem_cons.mpr ⟨inR7 _ (List.mem_of_getElem? (i := 7) rfl), List.forall_mem_cons.mpr ⟨inR7 _ (List.mem_of_getElem? (i := 8) rfl), List.forall_mem_cons.mpr ⟨inR7 _ (List.mem_of_getElem? (i := 9) rfl), List.forall_mem_cons.mpr ⟨inR1 _ (List.mem_of_getElem? (i := 5) rfl), List.forall_mem_cons.mpr ⟨inR7 _ (List.mem_of_getElem? (i := 10) rfl), fun _ h => absurd h List.not_mem_nil⟩⟩⟩⟩⟩
theorem wk_X12_81 : ∀ w ∈ ([Cond.methodLink RX12 81 yX12_lay, Cond.instanceMethod yX12_lay, Cond.selects RX12 yX12_lay yX12_lay, Cond.initialized RX12, Cond.code yX12_lay cX12_lay 4 none] : List Cond), w ∈ wsL_law := List.forall_mem_cons.mpr ⟨inR7 _ (List.mem_of_getElem? (i := 13) rfl), List.forall_mem_cons.mpr ⟨inR7 _ (List.mem_of_getElem? (i := 14) rfl), List.forall_mem_cons.mpr ⟨inR7 _ (List.mem_of_getElem? (i := 15) rfl), List.forall_mem_cons.mpr ⟨inR1 _ (List.mem_of_getElem? (i := 5) rfl), List.forall_mem_cons.mpr ⟨inR7 _ (List.mem_of_getElem? (i := 16) rfl), fun _ h => absurd h List.not_mem_nil⟩⟩⟩⟩⟩
theorem wk_X12_86 : ∀ w ∈ ([Cond.methodLink RX12 86 yX12_firstReserve, Cond.instanceMethod yX12_firstReserve, Cond.selects RX12 yX12_firstReserve yX12_firstReserve, Cond.initialized RX12, Cond.code yX12_firstReserve cX12_firstReserve 2 (some .int)] : List Cond), w ∈ wsL_law := List.forall_mem_cons.mpr ⟨inR9 _ (List.mem_of_getElem? (i := 20) rfl), List.forall_mem_cons.mpr ⟨inR9 _ (List.mem_of_getElem? (i := 21) rfl), List.forall_mem_cons.mpr ⟨inR9 _ (List.mem_of_getElem? (i := 22) rfl), List.forall_mem_cons.mpr ⟨inR1 _ (List.mem_of_getElem? (i := 5) rfl), List.forall_mem_cons.mpr ⟨inR9 _ (List.mem_of_getElem? (i := 23) rfl), fun _ h => absurd h List.not_mem_nil⟩⟩⟩⟩⟩
theorem wk_X12_89 : ∀ w ∈ ([Cond.methodLink RX12 89 yX12_isSwimmer, Cond.instanceMethod yX12_isSwimmer, Cond.selects RX12 yX12_isSwimmer yX12_isSwimmer, Cond.initialized RX12, Cond.code yX12_isSwimmer cX12_isSwimmer 2 (some .boolean)] : List Cond), w ∈ wsL_law := List.forall_mem_cons.mpr ⟨inR9 _ (List.mem_of_getElem? (i := 4) rfl), List.forall_mem_cons.mpr ⟨inR9 _ (List.mem_of_getElem? (i := 5) rfl), List.forall_mem_cons.mpr ⟨inR9 _ (List.mem_of_getElem? (i := 6) rfl), List.forall_mem_cons.mpr ⟨inR1 _ (List.mem_of_getElem? (i := 5) rfl), List.forall_mem_cons.mpr ⟨inR9 _ (List.mem_of_getElem? (i := 7) rfl), fun _ h => absurd h List.not_mem_nil⟩⟩⟩⟩⟩
theorem wk_X12_92 : ∀ w ∈ ([Cond.methodLink RX12 92 yX12_calls, Cond.instanceMethod yX12_calls, Cond.selects RX12 yX12_calls yX12_calls, Cond.initialized RX12, Cond.code yX12_calls cX12_calls 4 (some .int)] : List Cond), w ∈ wsL_law := List.forall_mem_cons.mpr ⟨inR9 _ (List.mem_of_getElem? (i := 16) rfl), List.forall_mem_cons.mpr ⟨inR9 _ (List.mem_of_getElem? (i := 17) rfl), List.forall_mem_cons.mpr ⟨inR9 _ (List.mem_of_getElem? (i := 18) rfl), List.forall_mem_cons.mpr ⟨inR1 _ (List.mem_of_getElem? (i := 5) rfl), List.forall_mem_cons.mpr ⟨inR9 _ (List.mem_of_getElem? (i := 19) rfl), fun _ h => absurd h List.not_mem_nil⟩⟩⟩⟩⟩
theorem wk_X12_95 : ∀ w ∈ ([Cond.methodLink RX12 95 yX12_plans, Cond.instanceMethod yX12_plans, Cond.selects RX12 yX12_plans yX12_plans, Cond.initialized RX12, Cond.code yX12_plans cX12_plans 5 (some .int)] : List Cond), w ∈ wsL_law := List.forall_mem_cons.mpr ⟨inR13 _ (List.mem_of_getElem? (i := 19) rfl), List.forall_mem_cons.mpr ⟨inR13 _ (List.mem_of_getElem? (i := 20) rfl), List.forall_mem_cons.mpr ⟨inR13 _ (List.mem_of_getElem? (i := 21) rfl), List.forall_mem_cons.mpr ⟨inR1 _ (List.mem_of_getElem? (i := 5) rfl), List.forall_mem_cons.mpr ⟨inR13 _ (List.mem_of_getElem? (i := 22) rfl), fun _ h => absurd h List.not_mem_nil⟩⟩⟩⟩⟩
theorem wk_X12_98 : ∀ w ∈ ([Cond.methodLink RX12 98 yX12_entryRank, Cond.instanceMethod yX12_entryRank, Cond.selects RX12 yX12_entryRank yX12_entryRank, Cond.initialized RX12, Cond.code yX12_entryRank cX12_entryRank 4 (some .int)] : List Cond), w ∈ wsL_law := List.forall_mem_cons.mpr ⟨inR14 _ (List.mem_of_getElem? (i := 11) rfl), List.forall_mem_cons.mpr ⟨inR14 _ (List.mem_of_getElem? (i := 12) rfl), List.forall_mem_cons.mpr ⟨inR14 _ (List.mem_of_getElem? (i := 13) rfl), List.forall_mem_cons.mpr ⟨inR1 _ (List.mem_of_getElem? (i := 5) rfl), List.forall_mem_cons.mpr ⟨inR14 _ (List.mem_of_getElem? (i := 14) rfl), fun _ h => absurd h List.not_mem_nil⟩⟩⟩⟩⟩
theorem wk_X1_100 : ∀ w ∈ ([Cond.methodLink RX1 100 yX5_swimsNow, Cond.instanceMethod yX5_swimsNow, Cond.selects RX5 yX5_swimsNow yX5_swimsNow, Cond.initialized RX5, Cond.code yX5_swimsNow cX5_swimsNow 2 (some .boolean)] : List Cond), w ∈ wsL_law := List.forall_mem_cons.mpr ⟨inR15 _ (List.mem_of_getElem? (i := 12) rfl), List.forall_mem_cons.mpr ⟨inR15 _ (List.mem_of_getElem? (i := 13) rfl), List.forall_mem_cons.mpr ⟨inR15 _ (List.mem_of_getElem? (i := 14) rfl), List.forall_mem_cons.mpr ⟨inR1 _ (List.mem_of_getElem? (i := 14) rfl), List.forall_mem_cons.mpr ⟨inR15 _ (List.mem_of_getElem? (i := 15) rfl), fun _ h => absurd h List.not_mem_nil⟩⟩⟩⟩⟩
theorem wk_X1_110 : ∀ w ∈ ([Cond.methodLink RX1 110 yX1_noteRecord, Cond.static yX1_noteRecord, Cond.initialized RX1, Cond.code yX1_noteRecord cX1_noteRecord 3 none] : List Cond), w ∈ wsL_law := List.forall_mem_cons.mpr ⟨inR15 _ (List.mem_of_getElem? (i := 17) rfl), List.forall_mem_cons.mpr ⟨inR15 _ (List.mem_of_getElem? (i := 18) rfl), List.forall_mem_cons.mpr ⟨inR5 _ (List.mem_of_getElem? (i := 10) rfl), List.forall_mem_cons.mpr ⟨inR15 _ (List.mem_of_getElem? (i := 19) rfl), fun _ h => absurd h List.not_mem_nil⟩⟩⟩⟩
theorem wk_X1_114 : ∀ w ∈ ([Cond.methodLink RX1 114 yX5_fasterThan, Cond.instanceMethod yX5_fasterThan, Cond.selects RX5 yX5_fasterThan yX5_fasterThan, Cond.initialized RX5, Cond.code yX5_fasterThan cX5_fasterThan 5 (some .int)] : List Cond), w ∈ wsL_law := List.forall_mem_cons.mpr ⟨inR15 _ (List.mem_of_getElem? (i := 22) rfl), List.forall_mem_cons.mpr ⟨inR15 _ (List.mem_of_getElem? (i := 23) rfl), List.forall_mem_cons.mpr ⟨inR16 _ (List.mem_of_getElem? (i := 0) rfl), List.forall_mem_cons.mpr ⟨inR1 _ (List.mem_of_getElem? (i := 14) rfl), List.forall_mem_cons.mpr ⟨inR16 _ (List.mem_of_getElem? (i := 1) rfl), fun _ h => absurd h List.not_mem_nil⟩⟩⟩⟩⟩
theorem wk_X1_123 : ∀ w ∈ ([Cond.methodLink RX1 123 yX5_reasonToWait, Cond.instanceMethod yX5_reasonToWait, Cond.selects RX5 yX5_reasonToWait yX5_reasonToWait, Cond.initialized RX5, Cond.code yX5_reasonToWait cX5_reasonToWait 1 (some .int)] : List Cond), w ∈ wsL_law := List.forall_mem_cons.mpr ⟨inR17 _ (List.mem_of_getElem? (i := 3) rfl), List.forall_mem_cons.mpr ⟨inR17 _ (List.mem_of_getElem? (i := 4) rfl), List.forall_mem_cons.mpr ⟨inR17 _ (List.mem_of_getElem? (i := 5) rfl), List.forall_mem_cons.mpr ⟨inR1 _ (List.mem_of_getElem? (i := 14) rfl), List.forall_mem_cons.mpr ⟨inR17 _ (List.mem_of_getElem? (i := 6) rfl), fun _ h => absurd h List.not_mem_nil⟩⟩⟩⟩⟩
theorem wk_X1_126 : ∀ w ∈ ([Cond.methodLink RX1 126 yX1_seatByTime, Cond.static yX1_seatByTime, Cond.initialized RX1, Cond.code yX1_seatByTime cX1_seatByTime 4 none] : List Cond), w ∈ wsL_law := List.forall_mem_cons.mpr ⟨inR17 _ (List.mem_of_getElem? (i := 18) rfl), List.forall_mem_cons.mpr ⟨inR17 _ (List.mem_of_getElem? (i := 19) rfl), List.forall_mem_cons.mpr ⟨inR5 _ (List.mem_of_getElem? (i := 10) rfl), List.forall_mem_cons.mpr ⟨inR17 _ (List.mem_of_getElem? (i := 20) rfl), fun _ h => absurd h List.not_mem_nil⟩⟩⟩⟩
theorem wk_X1_130 : ∀ w ∈ ([Cond.methodLink RX1 130 yX5_finalSet, Cond.instanceMethod yX5_finalSet, Cond.selects RX5 yX5_finalSet yX5_finalSet, Cond.initialized RX5, Cond.code yX5_finalSet cX5_finalSet 3 (some .int)] : List Cond), w ∈ wsL_law := List.forall_mem_cons.mpr ⟨inR18 _ (List.mem_of_getElem? (i := 10) rfl), List.forall_mem_cons.mpr ⟨inR18 _ (List.mem_of_getElem? (i := 11) rfl), List.forall_mem_cons.mpr ⟨inR18 _ (List.mem_of_getElem? (i := 12) rfl), List.forall_mem_cons.mpr ⟨inR1 _ (List.mem_of_getElem? (i := 14) rfl), List.forall_mem_cons.mpr ⟨inR18 _ (List.mem_of_getElem? (i := 13) rfl), fun _ h => absurd h List.not_mem_nil⟩⟩⟩⟩⟩
theorem wk_X1_133 : ∀ w ∈ ([Cond.methodLink RX1 133 yX5_rankByHeatTime, Cond.instanceMethod yX5_rankByHeatTime, Cond.selects RX5 yX5_rankByHeatTime yX5_rankByHeatTime, Cond.initialized RX5, Cond.code yX5_rankByHeatTime cX5_rankByHeatTime 4 (some .int)] : List Cond), w ∈ wsL_law := List.forall_mem_cons.mpr ⟨inR18 _ (List.mem_of_getElem? (i := 0) rfl), List.forall_mem_cons.mpr ⟨inR18 _ (List.mem_of_getElem? (i := 1) rfl), List.forall_mem_cons.mpr ⟨inR18 _ (List.mem_of_getElem? (i := 2) rfl), List.forall_mem_cons.mpr ⟨inR1 _ (List.mem_of_getElem? (i := 14) rfl), List.forall_mem_cons.mpr ⟨inR18 _ (List.mem_of_getElem? (i := 3) rfl), fun _ h => absurd h List.not_mem_nil⟩⟩⟩⟩⟩
theorem wk_X1_137 : ∀ w ∈ ([Cond.methodLink RX1 137 yX4_ofRank, Cond.static yX4_ofRank, Cond.initialized RX4, Cond.code yX4_ofRank cX4_ofRank 3 (some .int)] : List Cond), w ∈ wsL_law := List.forall_mem_cons.mpr ⟨inR18 _ (List.mem_of_getElem? (i := 9) rfl), List.forall_mem_cons.mpr ⟨inR13 _ (List.mem_of_getElem? (i := 8) rfl), List.forall_mem_cons.mpr ⟨inR13 _ (List.mem_of_getElem? (i := 9) rfl), List.forall_mem_cons.mpr ⟨inR13 _ (List.mem_of_getElem? (i := 10) rfl), fun _ h => absurd h List.not_mem_nil⟩⟩⟩⟩
theorem wk_X1_151 : ∀ w ∈ ([Cond.methodLink RX1 151 yX8_place, Cond.static yX8_place, Cond.initialized RX8, Cond.code yX8_place cX8_place 3 none] : List Cond), w ∈ wsL_law := List.forall_mem_cons.mpr ⟨inR20 _ (List.mem_of_getElem? (i := 7) rfl), List.forall_mem_cons.mpr ⟨inR20 _ (List.mem_of_getElem? (i := 8) rfl), List.forall_mem_cons.mpr ⟨inR20 _ (List.mem_of_getElem? (i := 9) rfl), List.forall_mem_cons.mpr ⟨inR20 _ (List.mem_of_getElem? (i := 10) rfl), fun _ h => absurd h List.not_mem_nil⟩⟩⟩⟩
theorem wk_X1_161 : ∀ w ∈ ([Cond.methodLink RX1 161 yX10_bestTime, Cond.instanceMethod yX10_bestTime, Cond.selects RX10 yX10_bestTime yX10_bestTime, Cond.initialized RX10, Cond.code yX10_bestTime cX10_bestTime 2 (some .int)] : List Cond), w ∈ wsL_law := List.forall_mem_cons.mpr ⟨inR21 _ (List.mem_of_getElem? (i := 15) rfl), List.forall_mem_cons.mpr ⟨inR21 _ (List.mem_of_getElem? (i := 16) rfl), List.forall_mem_cons.mpr ⟨inR21 _ (List.mem_of_getElem? (i := 17) rfl), List.forall_mem_cons.mpr ⟨inR2 _ (List.mem_of_getElem? (i := 15) rfl), List.forall_mem_cons.mpr ⟨inR21 _ (List.mem_of_getElem? (i := 18) rfl), fun _ h => absurd h List.not_mem_nil⟩⟩⟩⟩⟩
theorem wk_X1_167 : ∀ w ∈ ([Cond.methodLink RX1 167 yX10_forgetEvent, Cond.instanceMethod yX10_forgetEvent, Cond.selects RX10 yX10_forgetEvent yX10_forgetEvent, Cond.initialized RX10, Cond.code yX10_forgetEvent cX10_forgetEvent 1 none] : List Cond), w ∈ wsL_law := List.forall_mem_cons.mpr ⟨inR21 _ (List.mem_of_getElem? (i := 19) rfl), List.forall_mem_cons.mpr ⟨inR6 _ (List.mem_of_getElem? (i := 2) rfl), List.forall_mem_cons.mpr ⟨inR6 _ (List.mem_of_getElem? (i := 3) rfl), List.forall_mem_cons.mpr ⟨inR2 _ (List.mem_of_getElem? (i := 15) rfl), List.forall_mem_cons.mpr ⟨inR6 _ (List.mem_of_getElem? (i := 4) rfl), fun _ h => absurd h List.not_mem_nil⟩⟩⟩⟩⟩
theorem wk_X1_31 : ∀ w ∈ ([Cond.methodLink RX1 31 yX10_join, Cond.instanceMethod yX10_join, Cond.selects RX10 yX10_join yX10_join, Cond.initialized RX10, Cond.code yX10_join cX10_join 3 none] : List Cond), w ∈ wsL_law := List.forall_mem_cons.mpr ⟨inR5 _ (List.mem_of_getElem? (i := 21) rfl), List.forall_mem_cons.mpr ⟨inR5 _ (List.mem_of_getElem? (i := 22) rfl), List.forall_mem_cons.mpr ⟨inR5 _ (List.mem_of_getElem? (i := 23) rfl), List.forall_mem_cons.mpr ⟨inR2 _ (List.mem_of_getElem? (i := 15) rfl), List.forall_mem_cons.mpr ⟨inR6 _ (List.mem_of_getElem? (i := 0) rfl), fun _ h => absurd h List.not_mem_nil⟩⟩⟩⟩⟩
theorem wk_X1_37 : ∀ w ∈ ([Cond.methodLink RX1 37 yX5_has, Cond.instanceMethod yX5_has, Cond.selects RX5 yX5_has yX5_has, Cond.initialized RX5, Cond.code yX5_has cX5_has 2 (some .boolean)] : List Cond), w ∈ wsL_law := List.forall_mem_cons.mpr ⟨inR8 _ (List.mem_of_getElem? (i := 2) rfl), List.forall_mem_cons.mpr ⟨inR8 _ (List.mem_of_getElem? (i := 3) rfl), List.forall_mem_cons.mpr ⟨inR8 _ (List.mem_of_getElem? (i := 4) rfl), List.forall_mem_cons.mpr ⟨inR1 _ (List.mem_of_getElem? (i := 14) rfl), List.forall_mem_cons.mpr ⟨inR8 _ (List.mem_of_getElem? (i := 5) rfl), fun _ h => absurd h List.not_mem_nil⟩⟩⟩⟩⟩
theorem wk_X1_44 : ∀ w ∈ ([Cond.methodLink RX1 44 yX10_leaveHeat, Cond.instanceMethod yX10_leaveHeat, Cond.selects RX10 yX10_leaveHeat yX10_leaveHeat, Cond.initialized RX10, Cond.code yX10_leaveHeat cX10_leaveHeat 1 none] : List Cond), w ∈ wsL_law := List.forall_mem_cons.mpr ⟨inR8 _ (List.mem_of_getElem? (i := 6) rfl), List.forall_mem_cons.mpr ⟨inR6 _ (List.mem_of_getElem? (i := 6) rfl), List.forall_mem_cons.mpr ⟨inR6 _ (List.mem_of_getElem? (i := 7) rfl), List.forall_mem_cons.mpr ⟨inR2 _ (List.mem_of_getElem? (i := 15) rfl), List.forall_mem_cons.mpr ⟨inR6 _ (List.mem_of_getElem? (i := 8) rfl), fun _ h => absurd h List.not_mem_nil⟩⟩⟩⟩⟩
theorem wk_X1_50 : ∀ w ∈ ([Cond.methodLink RX1 50 yX1_callReserve, Cond.static yX1_callReserve, Cond.initialized RX1, Cond.code yX1_callReserve cX1_callReserve 4 (some .int)] : List Cond), w ∈ wsL_law := List.forall_mem_cons.mpr ⟨inR8 _ (List.mem_of_getElem? (i := 7) rfl), List.forall_mem_cons.mpr ⟨inR8 _ (List.mem_of_getElem? (i := 8) rfl), List.forall_mem_cons.mpr ⟨inR5 _ (List.mem_of_getElem? (i := 10) rfl), List.forall_mem_cons.mpr ⟨inR8 _ (List.mem_of_getElem? (i := 9) rfl), fun _ h => absurd h List.not_mem_nil⟩⟩⟩⟩
theorem wk_X1_54 : ∀ w ∈ ([Cond.methodLink RX1 54 yX10_leaveFinal, Cond.instanceMethod yX10_leaveFinal, Cond.selects RX10 yX10_leaveFinal yX10_leaveFinal, Cond.initialized RX10, Cond.code yX10_leaveFinal cX10_leaveFinal 1 none] : List Cond), w ∈ wsL_law := List.forall_mem_cons.mpr ⟨inR8 _ (List.mem_of_getElem? (i := 11) rfl), List.forall_mem_cons.mpr ⟨inR6 _ (List.mem_of_getElem? (i := 10) rfl), List.forall_mem_cons.mpr ⟨inR6 _ (List.mem_of_getElem? (i := 11) rfl), List.forall_mem_cons.mpr ⟨inR2 _ (List.mem_of_getElem? (i := 15) rfl), List.forall_mem_cons.mpr ⟨inR6 _ (List.mem_of_getElem? (i := 12) rfl), fun _ h => absurd h List.not_mem_nil⟩⟩⟩⟩⟩
theorem wk_X1_57 : ∀ w ∈ ([Cond.methodLink RX1 57 yX5_freeReserve, Cond.instanceMethod yX5_freeReserve, Cond.selects RX5 yX5_freeReserve yX5_freeReserve, Cond.initialized RX5, Cond.code yX5_freeReserve cX5_freeReserve 4 (some .int)] : List Cond), w ∈ wsL_law := List.forall_mem_cons.mpr ⟨inR8 _ (List.mem_of_getElem? (i := 12) rfl), List.forall_mem_cons.mpr ⟨inR8 _ (List.mem_of_getElem? (i := 13) rfl), List.forall_mem_cons.mpr ⟨inR8 _ (List.mem_of_getElem? (i := 14) rfl), List.forall_mem_cons.mpr ⟨inR1 _ (List.mem_of_getElem? (i := 14) rfl), List.forall_mem_cons.mpr ⟨inR8 _ (List.mem_of_getElem? (i := 15) rfl), fun _ h => absurd h List.not_mem_nil⟩⟩⟩⟩⟩
theorem wk_X1_64 : ∀ w ∈ ([Cond.methodLink RX1 64 yX9_allow, Cond.static yX9_allow, Cond.initialized RX9, Cond.code yX9_allow cX9_allow 2 (some .boolean)] : List Cond), w ∈ wsL_law := List.forall_mem_cons.mpr ⟨inR10 _ (List.mem_of_getElem? (i := 9) rfl), List.forall_mem_cons.mpr ⟨inR10 _ (List.mem_of_getElem? (i := 10) rfl), List.forall_mem_cons.mpr ⟨inR10 _ (List.mem_of_getElem? (i := 11) rfl), List.forall_mem_cons.mpr ⟨inR10 _ (List.mem_of_getElem? (i := 12) rfl), fun _ h => absurd h List.not_mem_nil⟩⟩⟩⟩
theorem wk_X1_74 : ∀ w ∈ ([Cond.methodLink RX1 74 yX5_notScratched, Cond.instanceMethod yX5_notScratched, Cond.selects RX5 yX5_notScratched yX5_notScratched, Cond.initialized RX5, Cond.code yX5_notScratched cX5_notScratched 3 (some .int)] : List Cond), w ∈ wsL_law := List.forall_mem_cons.mpr ⟨inR11 _ (List.mem_of_getElem? (i := 3) rfl), List.forall_mem_cons.mpr ⟨inR11 _ (List.mem_of_getElem? (i := 4) rfl), List.forall_mem_cons.mpr ⟨inR11 _ (List.mem_of_getElem? (i := 5) rfl), List.forall_mem_cons.mpr ⟨inR1 _ (List.mem_of_getElem? (i := 14) rfl), List.forall_mem_cons.mpr ⟨inR11 _ (List.mem_of_getElem? (i := 6) rfl), fun _ h => absurd h List.not_mem_nil⟩⟩⟩⟩⟩
theorem wk_X1_78 : ∀ w ∈ ([Cond.methodLink RX1 78 yX5_lanes, Cond.instanceMethod yX5_lanes, Cond.selects RX5 yX5_lanes yX5_lanes, Cond.initialized RX5, Cond.code yX5_lanes cX5_lanes 1 (some .int)] : List Cond), w ∈ wsL_law := List.forall_mem_cons.mpr ⟨inR11 _ (List.mem_of_getElem? (i := 7) rfl), List.forall_mem_cons.mpr ⟨inR11 _ (List.mem_of_getElem? (i := 8) rfl), List.forall_mem_cons.mpr ⟨inR11 _ (List.mem_of_getElem? (i := 9) rfl), List.forall_mem_cons.mpr ⟨inR1 _ (List.mem_of_getElem? (i := 14) rfl), List.forall_mem_cons.mpr ⟨inR11 _ (List.mem_of_getElem? (i := 10) rfl), fun _ h => absurd h List.not_mem_nil⟩⟩⟩⟩⟩
theorem wk_X1_81 : ∀ w ∈ ([Cond.methodLink RX1 81 yX2_heatsFor, Cond.static yX2_heatsFor, Cond.initialized RX2, Cond.code yX2_heatsFor cX2_heatsFor 2 (some .int)] : List Cond), w ∈ wsL_law := List.forall_mem_cons.mpr ⟨inR11 _ (List.mem_of_getElem? (i := 11) rfl), List.forall_mem_cons.mpr ⟨inR11 _ (List.mem_of_getElem? (i := 12) rfl), List.forall_mem_cons.mpr ⟨inR11 _ (List.mem_of_getElem? (i := 13) rfl), List.forall_mem_cons.mpr ⟨inR11 _ (List.mem_of_getElem? (i := 14) rfl), fun _ h => absurd h List.not_mem_nil⟩⟩⟩⟩
theorem wk_X1_9 : ∀ w ∈ ([Cond.methodLink RX1 9 yX1_isTimeOrZero, Cond.static yX1_isTimeOrZero, Cond.initialized RX1, Cond.code yX1_isTimeOrZero cX1_isTimeOrZero 1 (some .boolean)] : List Cond), w ∈ wsL_law := List.forall_mem_cons.mpr ⟨inR5 _ (List.mem_of_getElem? (i := 18) rfl), List.forall_mem_cons.mpr ⟨inR5 _ (List.mem_of_getElem? (i := 19) rfl), List.forall_mem_cons.mpr ⟨inR5 _ (List.mem_of_getElem? (i := 10) rfl), List.forall_mem_cons.mpr ⟨inR5 _ (List.mem_of_getElem? (i := 20) rfl), fun _ h => absurd h List.not_mem_nil⟩⟩⟩⟩
theorem wk_X1_90 : ∀ w ∈ ([Cond.methodLink RX1 90 yX2_spread, Cond.static yX2_spread, Cond.initialized RX2, Cond.code yX2_spread cX2_spread 3 none] : List Cond), w ∈ wsL_law := List.forall_mem_cons.mpr ⟨inR11 _ (List.mem_of_getElem? (i := 15) rfl), List.forall_mem_cons.mpr ⟨inR11 _ (List.mem_of_getElem? (i := 16) rfl), List.forall_mem_cons.mpr ⟨inR11 _ (List.mem_of_getElem? (i := 13) rfl), List.forall_mem_cons.mpr ⟨inR11 _ (List.mem_of_getElem? (i := 17) rfl), fun _ h => absurd h List.not_mem_nil⟩⟩⟩⟩
theorem wk_X1_94 : ∀ w ∈ ([Cond.methodLink RX1 94 yX2_fillFirstHeat, Cond.static yX2_fillFirstHeat, Cond.initialized RX2, Cond.code yX2_fillFirstHeat cX2_fillFirstHeat 4 none] : List Cond), w ∈ wsL_law := List.forall_mem_cons.mpr ⟨inR12 _ (List.mem_of_getElem? (i := 11) rfl), List.forall_mem_cons.mpr ⟨inR12 _ (List.mem_of_getElem? (i := 12) rfl), List.forall_mem_cons.mpr ⟨inR11 _ (List.mem_of_getElem? (i := 13) rfl), List.forall_mem_cons.mpr ⟨inR12 _ (List.mem_of_getElem? (i := 13) rfl), fun _ h => absurd h List.not_mem_nil⟩⟩⟩⟩
theorem wk_X1_97 : ∀ w ∈ ([Cond.methodLink RX1 97 yX2_giveLanes, Cond.static yX2_giveLanes, Cond.initialized RX2, Cond.code yX2_giveLanes cX2_giveLanes 3 none] : List Cond), w ∈ wsL_law := List.forall_mem_cons.mpr ⟨inR13 _ (List.mem_of_getElem? (i := 0) rfl), List.forall_mem_cons.mpr ⟨inR13 _ (List.mem_of_getElem? (i := 1) rfl), List.forall_mem_cons.mpr ⟨inR11 _ (List.mem_of_getElem? (i := 13) rfl), List.forall_mem_cons.mpr ⟨inR13 _ (List.mem_of_getElem? (i := 2) rfl), fun _ h => absurd h List.not_mem_nil⟩⟩⟩⟩
theorem wk_X2_25 : ∀ w ∈ ([Cond.methodLink RX2 25 yX5_rankByEntry, Cond.instanceMethod yX5_rankByEntry, Cond.selects RX5 yX5_rankByEntry yX5_rankByEntry, Cond.initialized RX5, Cond.code yX5_rankByEntry cX5_rankByEntry 4 (some .int)] : List Cond), w ∈ wsL_law := List.forall_mem_cons.mpr ⟨inR11 _ (List.mem_of_getElem? (i := 23) rfl), List.forall_mem_cons.mpr ⟨inR12 _ (List.mem_of_getElem? (i := 0) rfl), List.forall_mem_cons.mpr ⟨inR12 _ (List.mem_of_getElem? (i := 1) rfl), List.forall_mem_cons.mpr ⟨inR1 _ (List.mem_of_getElem? (i := 14) rfl), List.forall_mem_cons.mpr ⟨inR12 _ (List.mem_of_getElem? (i := 2) rfl), fun _ h => absurd h List.not_mem_nil⟩⟩⟩⟩⟩
theorem wk_X2_32 : ∀ w ∈ ([Cond.methodLink RX2 32 yX5_lanes, Cond.instanceMethod yX5_lanes, Cond.selects RX5 yX5_lanes yX5_lanes, Cond.initialized RX5, Cond.code yX5_lanes cX5_lanes 1 (some .int)] : List Cond), w ∈ wsL_law := List.forall_mem_cons.mpr ⟨inR12 _ (List.mem_of_getElem? (i := 7) rfl), List.forall_mem_cons.mpr ⟨inR11 _ (List.mem_of_getElem? (i := 8) rfl), List.forall_mem_cons.mpr ⟨inR11 _ (List.mem_of_getElem? (i := 9) rfl), List.forall_mem_cons.mpr ⟨inR1 _ (List.mem_of_getElem? (i := 14) rfl), List.forall_mem_cons.mpr ⟨inR11 _ (List.mem_of_getElem? (i := 10) rfl), fun _ h => absurd h List.not_mem_nil⟩⟩⟩⟩⟩
theorem wk_X2_36 : ∀ w ∈ ([Cond.methodLink RX2 36 yX2_heatOfRank, Cond.static yX2_heatOfRank, Cond.initialized RX2, Cond.code yX2_heatOfRank cX2_heatOfRank 3 (some .int)] : List Cond), w ∈ wsL_law := List.forall_mem_cons.mpr ⟨inR12 _ (List.mem_of_getElem? (i := 8) rfl), List.forall_mem_cons.mpr ⟨inR12 _ (List.mem_of_getElem? (i := 9) rfl), List.forall_mem_cons.mpr ⟨inR11 _ (List.mem_of_getElem? (i := 13) rfl), List.forall_mem_cons.mpr ⟨inR12 _ (List.mem_of_getElem? (i := 10) rfl), fun _ h => absurd h List.not_mem_nil⟩⟩⟩⟩
theorem wk_X2_49 : ∀ w ∈ ([Cond.methodLink RX2 49 yX2_sizeOf, Cond.static yX2_sizeOf, Cond.initialized RX2, Cond.code yX2_sizeOf cX2_sizeOf 4 (some .int)] : List Cond), w ∈ wsL_law := List.forall_mem_cons.mpr ⟨inR12 _ (List.mem_of_getElem? (i := 15) rfl), List.forall_mem_cons.mpr ⟨inR12 _ (List.mem_of_getElem? (i := 16) rfl), List.forall_mem_cons.mpr ⟨inR11 _ (List.mem_of_getElem? (i := 13) rfl), List.forall_mem_cons.mpr ⟨inR12 _ (List.mem_of_getElem? (i := 17) rfl), fun _ h => absurd h List.not_mem_nil⟩⟩⟩⟩
theorem wk_X2_53 : ∀ w ∈ ([Cond.methodLink RX2 53 yX2_lastOf, Cond.static yX2_lastOf, Cond.initialized RX2, Cond.code yX2_lastOf cX2_lastOf 4 (some .int)] : List Cond), w ∈ wsL_law := List.forall_mem_cons.mpr ⟨inR12 _ (List.mem_of_getElem? (i := 18) rfl), List.forall_mem_cons.mpr ⟨inR12 _ (List.mem_of_getElem? (i := 19) rfl), List.forall_mem_cons.mpr ⟨inR11 _ (List.mem_of_getElem? (i := 13) rfl), List.forall_mem_cons.mpr ⟨inR12 _ (List.mem_of_getElem? (i := 20) rfl), fun _ h => absurd h List.not_mem_nil⟩⟩⟩⟩
theorem wk_X2_56 : ∀ w ∈ ([Cond.methodLink RX2 56 yX5_has, Cond.instanceMethod yX5_has, Cond.selects RX5 yX5_has yX5_has, Cond.initialized RX5, Cond.code yX5_has cX5_has 2 (some .boolean)] : List Cond), w ∈ wsL_law := List.forall_mem_cons.mpr ⟨inR12 _ (List.mem_of_getElem? (i := 22) rfl), List.forall_mem_cons.mpr ⟨inR8 _ (List.mem_of_getElem? (i := 3) rfl), List.forall_mem_cons.mpr ⟨inR8 _ (List.mem_of_getElem? (i := 4) rfl), List.forall_mem_cons.mpr ⟨inR1 _ (List.mem_of_getElem? (i := 14) rfl), List.forall_mem_cons.mpr ⟨inR8 _ (List.mem_of_getElem? (i := 5) rfl), fun _ h => absurd h List.not_mem_nil⟩⟩⟩⟩⟩
theorem wk_X2_61 : ∀ w ∈ ([Cond.methodLink RX2 61 yX10_aheadByEntry, Cond.instanceMethod yX10_aheadByEntry, Cond.selects RX10 yX10_aheadByEntry yX10_aheadByEntry, Cond.initialized RX10, Cond.code yX10_aheadByEntry cX10_aheadByEntry 2 (some .boolean)] : List Cond), w ∈ wsL_law := List.forall_mem_cons.mpr ⟨inR12 _ (List.mem_of_getElem? (i := 23) rfl), List.forall_mem_cons.mpr ⟨inR12 _ (List.mem_of_getElem? (i := 4) rfl), List.forall_mem_cons.mpr ⟨inR12 _ (List.mem_of_getElem? (i := 5) rfl), List.forall_mem_cons.mpr ⟨inR2 _ (List.mem_of_getElem? (i := 15) rfl), List.forall_mem_cons.mpr ⟨inR12 _ (List.mem_of_getElem? (i := 6) rfl), fun _ h => absurd h List.not_mem_nil⟩⟩⟩⟩⟩
theorem wk_X2_65 : ∀ w ∈ ([Cond.methodLink RX2 65 yX2_rankInHeat, Cond.static yX2_rankInHeat, Cond.initialized RX2, Cond.code yX2_rankInHeat cX2_rankInHeat 4 (some .int)] : List Cond), w ∈ wsL_law := List.forall_mem_cons.mpr ⟨inR13 _ (List.mem_of_getElem? (i := 4) rfl), List.forall_mem_cons.mpr ⟨inR13 _ (List.mem_of_getElem? (i := 5) rfl), List.forall_mem_cons.mpr ⟨inR11 _ (List.mem_of_getElem? (i := 13) rfl), List.forall_mem_cons.mpr ⟨inR13 _ (List.mem_of_getElem? (i := 6) rfl), fun _ h => absurd h List.not_mem_nil⟩⟩⟩⟩
theorem wk_X2_69 : ∀ w ∈ ([Cond.methodLink RX2 69 yX4_ofRank, Cond.static yX4_ofRank, Cond.initialized RX4, Cond.code yX4_ofRank cX4_ofRank 3 (some .int)] : List Cond), w ∈ wsL_law := List.forall_mem_cons.mpr ⟨inR13 _ (List.mem_of_getElem? (i := 7) rfl), List.forall_mem_cons.mpr ⟨inR13 _ (List.mem_of_getElem? (i := 8) rfl), List.forall_mem_cons.mpr ⟨inR13 _ (List.mem_of_getElem? (i := 9) rfl), List.forall_mem_cons.mpr ⟨inR13 _ (List.mem_of_getElem? (i := 10) rfl), fun _ h => absurd h List.not_mem_nil⟩⟩⟩⟩
theorem wk_X3_22 : ∀ w ∈ ([Cond.methodLink RX3 22 yX5_copyFrom, Cond.instanceMethod yX5_copyFrom, Cond.selects RX5 yX5_copyFrom yX5_copyFrom, Cond.initialized RX5, Cond.code yX5_copyFrom cX5_copyFrom 3 none] : List Cond), w ∈ wsL_law := List.forall_mem_cons.mpr ⟨inR4 _ (List.mem_of_getElem? (i := 6) rfl), List.forall_mem_cons.mpr ⟨inR4 _ (List.mem_of_getElem? (i := 7) rfl), List.forall_mem_cons.mpr ⟨inR4 _ (List.mem_of_getElem? (i := 8) rfl), List.forall_mem_cons.mpr ⟨inR1 _ (List.mem_of_getElem? (i := 14) rfl), List.forall_mem_cons.mpr ⟨inR4 _ (List.mem_of_getElem? (i := 9) rfl), fun _ h => absurd h List.not_mem_nil⟩⟩⟩⟩⟩
theorem wk_X3_26 : ∀ w ∈ ([Cond.methodLink RX3 26 yX3_dropOldest, Cond.instanceMethod yX3_dropOldest, Cond.selects RX3 yX3_dropOldest yX3_dropOldest, Cond.initialized RX3, Cond.code yX3_dropOldest cX3_dropOldest 3 none] : List Cond), w ∈ wsL_law := List.forall_mem_cons.mpr ⟨inR6 _ (List.mem_of_getElem? (i := 17) rfl), List.forall_mem_cons.mpr ⟨inR6 _ (List.mem_of_getElem? (i := 18) rfl), List.forall_mem_cons.mpr ⟨inR6 _ (List.mem_of_getElem? (i := 19) rfl), List.forall_mem_cons.mpr ⟨inR1 _ (List.mem_of_getElem? (i := 19) rfl), List.forall_mem_cons.mpr ⟨inR6 _ (List.mem_of_getElem? (i := 20) rfl), fun _ h => absurd h List.not_mem_nil⟩⟩⟩⟩⟩
theorem wk_X5_100 : ∀ w ∈ ([Cond.methodLink RX5 100 yX5_stillToSwim, Cond.instanceMethod yX5_stillToSwim, Cond.selects RX5 yX5_stillToSwim yX5_stillToSwim, Cond.initialized RX5, Cond.code yX5_stillToSwim cX5_stillToSwim 4 (some .int)] : List Cond), w ∈ wsL_law := List.forall_mem_cons.mpr ⟨inR17 _ (List.mem_of_getElem? (i := 8) rfl), List.forall_mem_cons.mpr ⟨inR17 _ (List.mem_of_getElem? (i := 9) rfl), List.forall_mem_cons.mpr ⟨inR17 _ (List.mem_of_getElem? (i := 10) rfl), List.forall_mem_cons.mpr ⟨inR1 _ (List.mem_of_getElem? (i := 14) rfl), List.forall_mem_cons.mpr ⟨inR17 _ (List.mem_of_getElem? (i := 11) rfl), fun _ h => absurd h List.not_mem_nil⟩⟩⟩⟩⟩
theorem wk_X5_103 : ∀ w ∈ ([Cond.methodLink RX5 103 yX5_timesAboveZero, Cond.instanceMethod yX5_timesAboveZero, Cond.selects RX5 yX5_timesAboveZero yX5_timesAboveZero, Cond.initialized RX5, Cond.code yX5_timesAboveZero cX5_timesAboveZero 1 (some .int)] : List Cond), w ∈ wsL_law := List.forall_mem_cons.mpr ⟨inR17 _ (List.mem_of_getElem? (i := 13) rfl), List.forall_mem_cons.mpr ⟨inR17 _ (List.mem_of_getElem? (i := 14) rfl), List.forall_mem_cons.mpr ⟨inR17 _ (List.mem_of_getElem? (i := 15) rfl), List.forall_mem_cons.mpr ⟨inR1 _ (List.mem_of_getElem? (i := 14) rfl), List.forall_mem_cons.mpr ⟨inR17 _ (List.mem_of_getElem? (i := 16) rfl), fun _ h => absurd h List.not_mem_nil⟩⟩⟩⟩⟩
theorem wk_X5_106 : ∀ w ∈ ([Cond.methodLink RX5 106 yX5_has, Cond.instanceMethod yX5_has, Cond.selects RX5 yX5_has yX5_has, Cond.initialized RX5, Cond.code yX5_has cX5_has 2 (some .boolean)] : List Cond), w ∈ wsL_law := List.forall_mem_cons.mpr ⟨inR8 _ (List.mem_of_getElem? (i := 23) rfl), List.forall_mem_cons.mpr ⟨inR8 _ (List.mem_of_getElem? (i := 3) rfl), List.forall_mem_cons.mpr ⟨inR8 _ (List.mem_of_getElem? (i := 4) rfl), List.forall_mem_cons.mpr ⟨inR1 _ (List.mem_of_getElem? (i := 14) rfl), List.forall_mem_cons.mpr ⟨inR8 _ (List.mem_of_getElem? (i := 5) rfl), fun _ h => absurd h List.not_mem_nil⟩⟩⟩⟩⟩
theorem wk_X5_110 : ∀ w ∈ ([Cond.methodLink RX5 110 yX5_canBeCalled, Cond.instanceMethod yX5_canBeCalled, Cond.selects RX5 yX5_canBeCalled yX5_canBeCalled, Cond.initialized RX5, Cond.code yX5_canBeCalled cX5_canBeCalled 2 (some .boolean)] : List Cond), w ∈ wsL_law := List.forall_mem_cons.mpr ⟨inR8 _ (List.mem_of_getElem? (i := 17) rfl), List.forall_mem_cons.mpr ⟨inR8 _ (List.mem_of_getElem? (i := 18) rfl), List.forall_mem_cons.mpr ⟨inR8 _ (List.mem_of_getElem? (i := 19) rfl), List.forall_mem_cons.mpr ⟨inR1 _ (List.mem_of_getElem? (i := 14) rfl), List.forall_mem_cons.mpr ⟨inR8 _ (List.mem_of_getElem? (i := 20) rfl), fun _ h => absurd h List.not_mem_nil⟩⟩⟩⟩⟩
theorem wk_X5_57 : ∀ w ∈ ([Cond.methodLink RX5 57 yX10_copyFrom, Cond.instanceMethod yX10_copyFrom, Cond.selects RX10 yX10_copyFrom yX10_copyFrom, Cond.initialized RX10, Cond.code yX10_copyFrom cX10_copyFrom 2 none] : List Cond), w ∈ wsL_law := List.forall_mem_cons.mpr ⟨inR4 _ (List.mem_of_getElem? (i := 18) rfl), List.forall_mem_cons.mpr ⟨inR4 _ (List.mem_of_getElem? (i := 19) rfl), List.forall_mem_cons.mpr ⟨inR4 _ (List.mem_of_getElem? (i := 20) rfl), List.forall_mem_cons.mpr ⟨inR2 _ (List.mem_of_getElem? (i := 15) rfl), List.forall_mem_cons.mpr ⟨inR4 _ (List.mem_of_getElem? (i := 21) rfl), fun _ h => absurd h List.not_mem_nil⟩⟩⟩⟩⟩
theorem wk_X5_65 : ∀ w ∈ ([Cond.methodLink RX5 65 yX10_aheadByEntry, Cond.instanceMethod yX10_aheadByEntry, Cond.selects RX10 yX10_aheadByEntry yX10_aheadByEntry, Cond.initialized RX10, Cond.code yX10_aheadByEntry cX10_aheadByEntry 2 (some .boolean)] : List Cond), w ∈ wsL_law := List.forall_mem_cons.mpr ⟨inR12 _ (List.mem_of_getElem? (i := 3) rfl), List.forall_mem_cons.mpr ⟨inR12 _ (List.mem_of_getElem? (i := 4) rfl), List.forall_mem_cons.mpr ⟨inR12 _ (List.mem_of_getElem? (i := 5) rfl), List.forall_mem_cons.mpr ⟨inR2 _ (List.mem_of_getElem? (i := 15) rfl), List.forall_mem_cons.mpr ⟨inR12 _ (List.mem_of_getElem? (i := 6) rfl), fun _ h => absurd h List.not_mem_nil⟩⟩⟩⟩⟩
theorem wk_X5_72 : ∀ w ∈ ([Cond.methodLink RX5 72 yX10_aheadByHeatTime, Cond.instanceMethod yX10_aheadByHeatTime, Cond.selects RX10 yX10_aheadByHeatTime yX10_aheadByHeatTime, Cond.initialized RX10, Cond.code yX10_aheadByHeatTime cX10_aheadByHeatTime 2 (some .boolean)] : List Cond), w ∈ wsL_law := List.forall_mem_cons.mpr ⟨inR18 _ (List.mem_of_getElem? (i := 4) rfl), List.forall_mem_cons.mpr ⟨inR18 _ (List.mem_of_getElem? (i := 5) rfl), List.forall_mem_cons.mpr ⟨inR18 _ (List.mem_of_getElem? (i := 6) rfl), List.forall_mem_cons.mpr ⟨inR2 _ (List.mem_of_getElem? (i := 15) rfl), List.forall_mem_cons.mpr ⟨inR18 _ (List.mem_of_getElem? (i := 7) rfl), fun _ h => absurd h List.not_mem_nil⟩⟩⟩⟩⟩
theorem wk_X5_84 : ∀ w ∈ ([Cond.methodLink RX5 84 yX5_stageTime, Cond.instanceMethod yX5_stageTime, Cond.selects RX5 yX5_stageTime yX5_stageTime, Cond.initialized RX5, Cond.code yX5_stageTime cX5_stageTime 2 (some .int)] : List Cond), w ∈ wsL_law := List.forall_mem_cons.mpr ⟨inR16 _ (List.mem_of_getElem? (i := 2) rfl), List.forall_mem_cons.mpr ⟨inR16 _ (List.mem_of_getElem? (i := 3) rfl), List.forall_mem_cons.mpr ⟨inR16 _ (List.mem_of_getElem? (i := 4) rfl), List.forall_mem_cons.mpr ⟨inR1 _ (List.mem_of_getElem? (i := 14) rfl), List.forall_mem_cons.mpr ⟨inR16 _ (List.mem_of_getElem? (i := 5) rfl), fun _ h => absurd h List.not_mem_nil⟩⟩⟩⟩⟩
theorem wk_X5_88 : ∀ w ∈ ([Cond.methodLink RX5 88 yX5_fasterThan, Cond.instanceMethod yX5_fasterThan, Cond.selects RX5 yX5_fasterThan yX5_fasterThan, Cond.initialized RX5, Cond.code yX5_fasterThan cX5_fasterThan 5 (some .int)] : List Cond), w ∈ wsL_law := List.forall_mem_cons.mpr ⟨inR17 _ (List.mem_of_getElem? (i := 17) rfl), List.forall_mem_cons.mpr ⟨inR15 _ (List.mem_of_getElem? (i := 23) rfl), List.forall_mem_cons.mpr ⟨inR16 _ (List.mem_of_getElem? (i := 0) rfl), List.forall_mem_cons.mpr ⟨inR1 _ (List.mem_of_getElem? (i := 14) rfl), List.forall_mem_cons.mpr ⟨inR16 _ (List.mem_of_getElem? (i := 1) rfl), fun _ h => absurd h List.not_mem_nil⟩⟩⟩⟩⟩
theorem wk_X5_92 : ∀ w ∈ ([Cond.methodLink RX5 92 yX5_swimsNow, Cond.instanceMethod yX5_swimsNow, Cond.selects RX5 yX5_swimsNow yX5_swimsNow, Cond.initialized RX5, Cond.code yX5_swimsNow cX5_swimsNow 2 (some .boolean)] : List Cond), w ∈ wsL_law := List.forall_mem_cons.mpr ⟨inR17 _ (List.mem_of_getElem? (i := 12) rfl), List.forall_mem_cons.mpr ⟨inR15 _ (List.mem_of_getElem? (i := 13) rfl), List.forall_mem_cons.mpr ⟨inR15 _ (List.mem_of_getElem? (i := 14) rfl), List.forall_mem_cons.mpr ⟨inR1 _ (List.mem_of_getElem? (i := 14) rfl), List.forall_mem_cons.mpr ⟨inR15 _ (List.mem_of_getElem? (i := 15) rfl), fun _ h => absurd h List.not_mem_nil⟩⟩⟩⟩⟩
theorem wk_X5_96 : ∀ w ∈ ([Cond.methodLink RX5 96 yX5_notScratched, Cond.instanceMethod yX5_notScratched, Cond.selects RX5 yX5_notScratched yX5_notScratched, Cond.initialized RX5, Cond.code yX5_notScratched cX5_notScratched 3 (some .int)] : List Cond), w ∈ wsL_law := List.forall_mem_cons.mpr ⟨inR17 _ (List.mem_of_getElem? (i := 7) rfl), List.forall_mem_cons.mpr ⟨inR11 _ (List.mem_of_getElem? (i := 4) rfl), List.forall_mem_cons.mpr ⟨inR11 _ (List.mem_of_getElem? (i := 5) rfl), List.forall_mem_cons.mpr ⟨inR1 _ (List.mem_of_getElem? (i := 14) rfl), List.forall_mem_cons.mpr ⟨inR11 _ (List.mem_of_getElem? (i := 6) rfl), fun _ h => absurd h List.not_mem_nil⟩⟩⟩⟩⟩
theorem wk_X6_26 : ∀ w ∈ ([Cond.methodLink RX6 26 yX6_signHere, Cond.instanceMethod yX6_signHere, Cond.selects RX6 yX6_signHere yX6_signHere, Cond.initialized RX6, Cond.code yX6_signHere cX6_signHere 1 (some .int)] : List Cond), w ∈ wsL_law := List.forall_mem_cons.mpr ⟨inR36 _ (List.mem_of_getElem? (i := 8) rfl), List.forall_mem_cons.mpr ⟨inR36 _ (List.mem_of_getElem? (i := 9) rfl), List.forall_mem_cons.mpr ⟨inR36 _ (List.mem_of_getElem? (i := 10) rfl), List.forall_mem_cons.mpr ⟨inR1 _ (List.mem_of_getElem? (i := 23) rfl), List.forall_mem_cons.mpr ⟨inR36 _ (List.mem_of_getElem? (i := 11) rfl), fun _ h => absurd h List.not_mem_nil⟩⟩⟩⟩⟩
theorem wk_X6_33 : ∀ w ∈ ([Cond.methodLink RX6 33 yX6_numbersOf, Cond.instanceMethod yX6_numbersOf, Cond.selects RX6 yX6_numbersOf yX6_numbersOf, Cond.initialized RX6, Cond.code yX6_numbersOf cX6_numbersOf 2 (some .int)] : List Cond), w ∈ wsL_law := List.forall_mem_cons.mpr ⟨inR36 _ (List.mem_of_getElem? (i := 12) rfl), List.forall_mem_cons.mpr ⟨inR36 _ (List.mem_of_getElem? (i := 13) rfl), List.forall_mem_cons.mpr ⟨inR36 _ (List.mem_of_getElem? (i := 14) rfl), List.forall_mem_cons.mpr ⟨inR1 _ (List.mem_of_getElem? (i := 23) rfl), List.forall_mem_cons.mpr ⟨inR36 _ (List.mem_of_getElem? (i := 15) rfl), fun _ h => absurd h List.not_mem_nil⟩⟩⟩⟩⟩
theorem wk_X6_37 : ∀ w ∈ ([Cond.methodLink RX6 37 yX6_readNumber, Cond.instanceMethod yX6_readNumber, Cond.selects RX6 yX6_readNumber yX6_readNumber, Cond.initialized RX6, Cond.code yX6_readNumber cX6_readNumber 2 (some .boolean)] : List Cond), w ∈ wsL_law := List.forall_mem_cons.mpr ⟨inR36 _ (List.mem_of_getElem? (i := 16) rfl), List.forall_mem_cons.mpr ⟨inR36 _ (List.mem_of_getElem? (i := 17) rfl), List.forall_mem_cons.mpr ⟨inR36 _ (List.mem_of_getElem? (i := 18) rfl), List.forall_mem_cons.mpr ⟨inR1 _ (List.mem_of_getElem? (i := 23) rfl), List.forall_mem_cons.mpr ⟨inR36 _ (List.mem_of_getElem? (i := 19) rfl), fun _ h => absurd h List.not_mem_nil⟩⟩⟩⟩⟩
theorem wk_X6_47 : ∀ w ∈ ([Cond.methodLink RX6 47 yX6_readSign, Cond.instanceMethod yX6_readSign, Cond.selects RX6 yX6_readSign yX6_readSign, Cond.initialized RX6, Cond.code yX6_readSign cX6_readSign 2 (some .boolean)] : List Cond), w ∈ wsL_law := List.forall_mem_cons.mpr ⟨inR36 _ (List.mem_of_getElem? (i := 20) rfl), List.forall_mem_cons.mpr ⟨inR36 _ (List.mem_of_getElem? (i := 21) rfl), List.forall_mem_cons.mpr ⟨inR36 _ (List.mem_of_getElem? (i := 22) rfl), List.forall_mem_cons.mpr ⟨inR1 _ (List.mem_of_getElem? (i := 23) rfl), List.forall_mem_cons.mpr ⟨inR36 _ (List.mem_of_getElem? (i := 23) rfl), fun _ h => absurd h List.not_mem_nil⟩⟩⟩⟩⟩
theorem wk_X7_24 : ∀ w ∈ ([Cond.methodLink RX7 24 yX6_rewind, Cond.instanceMethod yX6_rewind, Cond.selects RX6 yX6_rewind yX6_rewind, Cond.initialized RX6, Cond.code yX6_rewind cX6_rewind 1 none] : List Cond), w ∈ wsL_law := List.forall_mem_cons.mpr ⟨inR35 _ (List.mem_of_getElem? (i := 14) rfl), List.forall_mem_cons.mpr ⟨inR35 _ (List.mem_of_getElem? (i := 15) rfl), List.forall_mem_cons.mpr ⟨inR35 _ (List.mem_of_getElem? (i := 16) rfl), List.forall_mem_cons.mpr ⟨inR1 _ (List.mem_of_getElem? (i := 23) rfl), List.forall_mem_cons.mpr ⟨inR35 _ (List.mem_of_getElem? (i := 17) rfl), fun _ h => absurd h List.not_mem_nil⟩⟩⟩⟩⟩
theorem wk_X7_29 : ∀ w ∈ ([Cond.methodLink RX7 29 yX6_hasMore, Cond.instanceMethod yX6_hasMore, Cond.selects RX6 yX6_hasMore yX6_hasMore, Cond.initialized RX6, Cond.code yX6_hasMore cX6_hasMore 1 (some .boolean)] : List Cond), w ∈ wsL_law := List.forall_mem_cons.mpr ⟨inR35 _ (List.mem_of_getElem? (i := 19) rfl), List.forall_mem_cons.mpr ⟨inR35 _ (List.mem_of_getElem? (i := 20) rfl), List.forall_mem_cons.mpr ⟨inR35 _ (List.mem_of_getElem? (i := 21) rfl), List.forall_mem_cons.mpr ⟨inR1 _ (List.mem_of_getElem? (i := 23) rfl), List.forall_mem_cons.mpr ⟨inR35 _ (List.mem_of_getElem? (i := 22) rfl), fun _ h => absurd h List.not_mem_nil⟩⟩⟩⟩⟩
theorem wk_X7_33 : ∀ w ∈ ([Cond.methodLink RX7 33 yX6_readOrder, Cond.instanceMethod yX6_readOrder, Cond.selects RX6 yX6_readOrder yX6_readOrder, Cond.initialized RX6, Cond.code yX6_readOrder cX6_readOrder 2 (some .boolean)] : List Cond), w ∈ wsL_law := List.forall_mem_cons.mpr ⟨inR35 _ (List.mem_of_getElem? (i := 23) rfl), List.forall_mem_cons.mpr ⟨inR36 _ (List.mem_of_getElem? (i := 0) rfl), List.forall_mem_cons.mpr ⟨inR36 _ (List.mem_of_getElem? (i := 1) rfl), List.forall_mem_cons.mpr ⟨inR1 _ (List.mem_of_getElem? (i := 23) rfl), List.forall_mem_cons.mpr ⟨inR36 _ (List.mem_of_getElem? (i := 2) rfl), fun _ h => absurd h List.not_mem_nil⟩⟩⟩⟩⟩
theorem wk_X7_36 : ∀ w ∈ ([Cond.methodLink RX7 36 yX7_obey, Cond.instanceMethod yX7_obey, Cond.selects RX7 yX7_obey yX7_obey, Cond.initialized RX7, Cond.code yX7_obey cX7_obey 3 (some .int)] : List Cond), w ∈ wsL_law := List.forall_mem_cons.mpr ⟨inR37 _ (List.mem_of_getElem? (i := 0) rfl), List.forall_mem_cons.mpr ⟨inR37 _ (List.mem_of_getElem? (i := 1) rfl), List.forall_mem_cons.mpr ⟨inR37 _ (List.mem_of_getElem? (i := 2) rfl), List.forall_mem_cons.mpr ⟨inR2 _ (List.mem_of_getElem? (i := 3) rfl), List.forall_mem_cons.mpr ⟨inR37 _ (List.mem_of_getElem? (i := 3) rfl), fun _ h => absurd h List.not_mem_nil⟩⟩⟩⟩⟩
theorem wk_X7_59 : ∀ w ∈ ([Cond.methodLink RX7 59 yX1_addSwimmer, Cond.static yX1_addSwimmer, Cond.initialized RX1, Cond.code yX1_addSwimmer cX1_addSwimmer 3 (some .int)] : List Cond), w ∈ wsL_law := List.forall_mem_cons.mpr ⟨inR37 _ (List.mem_of_getElem? (i := 8) rfl), List.forall_mem_cons.mpr ⟨inR5 _ (List.mem_of_getElem? (i := 9) rfl), List.forall_mem_cons.mpr ⟨inR5 _ (List.mem_of_getElem? (i := 10) rfl), List.forall_mem_cons.mpr ⟨inR5 _ (List.mem_of_getElem? (i := 11) rfl), fun _ h => absurd h List.not_mem_nil⟩⟩⟩⟩
theorem wk_X7_65 : ∀ w ∈ ([Cond.methodLink RX7 65 yX1_giveTime, Cond.static yX1_giveTime, Cond.initialized RX1, Cond.code yX1_giveTime cX1_giveTime 4 (some .int)] : List Cond), w ∈ wsL_law := List.forall_mem_cons.mpr ⟨inR37 _ (List.mem_of_getElem? (i := 9) rfl), List.forall_mem_cons.mpr ⟨inR15 _ (List.mem_of_getElem? (i := 8) rfl), List.forall_mem_cons.mpr ⟨inR5 _ (List.mem_of_getElem? (i := 10) rfl), List.forall_mem_cons.mpr ⟨inR15 _ (List.mem_of_getElem? (i := 9) rfl), fun _ h => absurd h List.not_mem_nil⟩⟩⟩⟩
theorem wk_X7_68 : ∀ w ∈ ([Cond.methodLink RX7 68 yX1_withdraw, Cond.static yX1_withdraw, Cond.initialized RX1, Cond.code yX1_withdraw cX1_withdraw 3 (some .int)] : List Cond), w ∈ wsL_law := List.forall_mem_cons.mpr ⟨inR37 _ (List.mem_of_getElem? (i := 10) rfl), List.forall_mem_cons.mpr ⟨inR7 _ (List.mem_of_getElem? (i := 22) rfl), List.forall_mem_cons.mpr ⟨inR5 _ (List.mem_of_getElem? (i := 10) rfl), List.forall_mem_cons.mpr ⟨inR7 _ (List.mem_of_getElem? (i := 23) rfl), fun _ h => absurd h List.not_mem_nil⟩⟩⟩⟩
theorem wk_X7_72 : ∀ w ∈ ([Cond.methodLink RX7 72 yX1_drawHeats, Cond.static yX1_drawHeats, Cond.initialized RX1, Cond.code yX1_drawHeats cX1_drawHeats 2 (some .int)] : List Cond), w ∈ wsL_law := List.forall_mem_cons.mpr ⟨inR37 _ (List.mem_of_getElem? (i := 11) rfl), List.forall_mem_cons.mpr ⟨inR11 _ (List.mem_of_getElem? (i := 0) rfl), List.forall_mem_cons.mpr ⟨inR5 _ (List.mem_of_getElem? (i := 10) rfl), List.forall_mem_cons.mpr ⟨inR11 _ (List.mem_of_getElem? (i := 1) rfl), fun _ h => absurd h List.not_mem_nil⟩⟩⟩⟩
theorem wk_X7_76 : ∀ w ∈ ([Cond.methodLink RX7 76 yX1_drawFinal, Cond.static yX1_drawFinal, Cond.initialized RX1, Cond.code yX1_drawFinal cX1_drawFinal 2 (some .int)] : List Cond), w ∈ wsL_law := List.forall_mem_cons.mpr ⟨inR37 _ (List.mem_of_getElem? (i := 12) rfl), List.forall_mem_cons.mpr ⟨inR17 _ (List.mem_of_getElem? (i := 1) rfl), List.forall_mem_cons.mpr ⟨inR5 _ (List.mem_of_getElem? (i := 10) rfl), List.forall_mem_cons.mpr ⟨inR17 _ (List.mem_of_getElem? (i := 2) rfl), fun _ h => absurd h List.not_mem_nil⟩⟩⟩⟩
theorem wk_X7_79 : ∀ w ∈ ([Cond.methodLink RX7 79 yX1_endEvent, Cond.static yX1_endEvent, Cond.initialized RX1, Cond.code yX1_endEvent cX1_endEvent 3 (some .int)] : List Cond), w ∈ wsL_law := List.forall_mem_cons.mpr ⟨inR37 _ (List.mem_of_getElem? (i := 13) rfl), List.forall_mem_cons.mpr ⟨inR20 _ (List.mem_of_getElem? (i := 3) rfl), List.forall_mem_cons.mpr ⟨inR5 _ (List.mem_of_getElem? (i := 10) rfl), List.forall_mem_cons.mpr ⟨inR20 _ (List.mem_of_getElem? (i := 4) rfl), fun _ h => absurd h List.not_mem_nil⟩⟩⟩⟩
theorem wk_X7_82 : ∀ w ∈ ([Cond.methodLink RX7 82 yX1_beginNextEvent, Cond.static yX1_beginNextEvent, Cond.initialized RX1, Cond.code yX1_beginNextEvent cX1_beginNextEvent 5 (some .int)] : List Cond), w ∈ wsL_law := List.forall_mem_cons.mpr ⟨inR37 _ (List.mem_of_getElem? (i := 14) rfl), List.forall_mem_cons.mpr ⟨inR21 _ (List.mem_of_getElem? (i := 12) rfl), List.forall_mem_cons.mpr ⟨inR5 _ (List.mem_of_getElem? (i := 10) rfl), List.forall_mem_cons.mpr ⟨inR21 _ (List.mem_of_getElem? (i := 13) rfl), fun _ h => absurd h List.not_mem_nil⟩⟩⟩⟩
theorem wk_X7_9 : ∀ w ∈ ([Cond.methodLink RX7 9 yX5_copyFrom, Cond.instanceMethod yX5_copyFrom, Cond.selects RX5 yX5_copyFrom yX5_copyFrom, Cond.initialized RX5, Cond.code yX5_copyFrom cX5_copyFrom 3 none] : List Cond), w ∈ wsL_law := List.forall_mem_cons.mpr ⟨inR35 _ (List.mem_of_getElem? (i := 13) rfl), List.forall_mem_cons.mpr ⟨inR4 _ (List.mem_of_getElem? (i := 7) rfl), List.forall_mem_cons.mpr ⟨inR4 _ (List.mem_of_getElem? (i := 8) rfl), List.forall_mem_cons.mpr ⟨inR1 _ (List.mem_of_getElem? (i := 14) rfl), List.forall_mem_cons.mpr ⟨inR4 _ (List.mem_of_getElem? (i := 9) rfl), fun _ h => absurd h List.not_mem_nil⟩⟩⟩⟩⟩
theorem wk_X8_15 : ∀ w ∈ ([Cond.methodLink RX8 15 yX5_fasterThan, Cond.instanceMethod yX5_fasterThan, Cond.selects RX5 yX5_fasterThan yX5_fasterThan, Cond.initialized RX5, Cond.code yX5_fasterThan cX5_fasterThan 5 (some .int)] : List Cond), w ∈ wsL_law := List.forall_mem_cons.mpr ⟨inR20 _ (List.mem_of_getElem? (i := 14) rfl), List.forall_mem_cons.mpr ⟨inR15 _ (List.mem_of_getElem? (i := 23) rfl), List.forall_mem_cons.mpr ⟨inR16 _ (List.mem_of_getElem? (i := 0) rfl), List.forall_mem_cons.mpr ⟨inR1 _ (List.mem_of_getElem? (i := 14) rfl), List.forall_mem_cons.mpr ⟨inR16 _ (List.mem_of_getElem? (i := 1) rfl), fun _ h => absurd h List.not_mem_nil⟩⟩⟩⟩⟩
theorem wk_X8_27 : ∀ w ∈ ([Cond.methodLink RX8 27 yX5_lanes, Cond.instanceMethod yX5_lanes, Cond.selects RX5 yX5_lanes yX5_lanes, Cond.initialized RX5, Cond.code yX5_lanes cX5_lanes 1 (some .int)] : List Cond), w ∈ wsL_law := List.forall_mem_cons.mpr ⟨inR20 _ (List.mem_of_getElem? (i := 15) rfl), List.forall_mem_cons.mpr ⟨inR11 _ (List.mem_of_getElem? (i := 8) rfl), List.forall_mem_cons.mpr ⟨inR11 _ (List.mem_of_getElem? (i := 9) rfl), List.forall_mem_cons.mpr ⟨inR1 _ (List.mem_of_getElem? (i := 14) rfl), List.forall_mem_cons.mpr ⟨inR11 _ (List.mem_of_getElem? (i := 10) rfl), fun _ h => absurd h List.not_mem_nil⟩⟩⟩⟩⟩
theorem wk_X8_31 : ∀ w ∈ ([Cond.methodLink RX8 31 yX8_shared, Cond.static yX8_shared, Cond.initialized RX8, Cond.code yX8_shared cX8_shared 5 (some .int)] : List Cond), w ∈ wsL_law := List.forall_mem_cons.mpr ⟨inR20 _ (List.mem_of_getElem? (i := 16) rfl), List.forall_mem_cons.mpr ⟨inR20 _ (List.mem_of_getElem? (i := 17) rfl), List.forall_mem_cons.mpr ⟨inR20 _ (List.mem_of_getElem? (i := 9) rfl), List.forall_mem_cons.mpr ⟨inR20 _ (List.mem_of_getElem? (i := 18) rfl), fun _ h => absurd h List.not_mem_nil⟩⟩⟩⟩
theorem wk_X8_47 : ∀ w ∈ ([Cond.methodLink RX8 47 yX8_clubsAhead, Cond.static yX8_clubsAhead, Cond.initialized RX8, Cond.code yX8_clubsAhead cX8_clubsAhead 6 (some .int)] : List Cond), w ∈ wsL_law := List.forall_mem_cons.mpr ⟨inR29 _ (List.mem_of_getElem? (i := 10) rfl), List.forall_mem_cons.mpr ⟨inR29 _ (List.mem_of_getElem? (i := 11) rfl), List.forall_mem_cons.mpr ⟨inR20 _ (List.mem_of_getElem? (i := 9) rfl), List.forall_mem_cons.mpr ⟨inR29 _ (List.mem_of_getElem? (i := 12) rfl), fun _ h => absurd h List.not_mem_nil⟩⟩⟩⟩
theorem wk_X8_52 : ∀ w ∈ ([Cond.methodLink RX8 52 yX8_ofClub, Cond.static yX8_ofClub, Cond.initialized RX8, Cond.code yX8_ofClub cX8_ofClub 4 (some .int)] : List Cond), w ∈ wsL_law := List.forall_mem_cons.mpr ⟨inR29 _ (List.mem_of_getElem? (i := 13) rfl), List.forall_mem_cons.mpr ⟨inR26 _ (List.mem_of_getElem? (i := 20) rfl), List.forall_mem_cons.mpr ⟨inR20 _ (List.mem_of_getElem? (i := 9) rfl), List.forall_mem_cons.mpr ⟨inR26 _ (List.mem_of_getElem? (i := 21) rfl), fun _ h => absurd h List.not_mem_nil⟩⟩⟩⟩
theorem wq_X0_106 : Cond.fieldLink RX0 106 "GalaHeats$Meet" "heats" "I" ∈ wsL_law := inR31 _ (List.mem_of_getElem? (i := 10) rfl)
theorem wq_X0_118 : Cond.fieldLink RX0 118 "GalaHeats$Meet" "eventsEnded" "I" ∈ wsL_law := inR31 _ (List.mem_of_getElem? (i := 11) rfl)
theorem wq_X0_121 : Cond.fieldLink RX0 121 "GalaHeats$Meet" "record" "I" ∈ wsL_law := inR31 _ (List.mem_of_getElem? (i := 12) rfl)
theorem wq_X0_124 : Cond.fieldLink RX0 124 "GalaHeats$Meet" "recordSwimmer" "I" ∈ wsL_law := inR31 _ (List.mem_of_getElem? (i := 13) rfl)
theorem wq_X0_127 : Cond.fieldLink RX0 127 "GalaHeats$Meet" "reservesCalled" "I" ∈ wsL_law := inR31 _ (List.mem_of_getElem? (i := 14) rfl)
theorem wq_X0_135 : Cond.constant RX0 135 (-1000001) ∈ wsL_law := inR31 _ (List.mem_of_getElem? (i := 15) rfl)
theorem wq_X0_15 : Cond.fieldLink RX0 15 "GalaHeats$Swimmer" "entry" "I" ∈ wsL_law := inR22 _ (List.mem_of_getElem? (i := 15) rfl)
theorem wq_X0_18 : Cond.fieldLink RX0 18 "GalaHeats$Swimmer" "scratched" "Z" ∈ wsL_law := inR22 _ (List.mem_of_getElem? (i := 16) rfl)
theorem wq_X0_22 : Cond.constant RX0 22 (-1000004) ∈ wsL_law := inR22 _ (List.mem_of_getElem? (i := 17) rfl)
theorem wq_X0_29 : Cond.fieldLink RX0 29 "GalaHeats$Swimmer" "heat" "I" ∈ wsL_law := inR22 _ (List.mem_of_getElem? (i := 18) rfl)
theorem wq_X0_32 : Cond.fieldLink RX0 32 "GalaHeats$Swimmer" "heatLane" "I" ∈ wsL_law := inR22 _ (List.mem_of_getElem? (i := 19) rfl)
theorem wq_X0_41 : Cond.fieldLink RX0 41 "GalaHeats$Swimmer" "heatTime" "I" ∈ wsL_law := inR22 _ (List.mem_of_getElem? (i := 20) rfl)
theorem wq_X0_47 : Cond.fieldLink RX0 47 "GalaHeats$Swimmer" "finalLane" "I" ∈ wsL_law := inR22 _ (List.mem_of_getElem? (i := 21) rfl)
theorem wq_X0_50 : Cond.fieldLink RX0 50 "GalaHeats$Swimmer" "finalTime" "I" ∈ wsL_law := inR22 _ (List.mem_of_getElem? (i := 22) rfl)
theorem wq_X0_53 : Cond.fieldLink RX0 53 "GalaHeats$Swimmer" "place" "I" ∈ wsL_law := inR22 _ (List.mem_of_getElem? (i := 23) rfl)
theorem wq_X0_56 : Cond.fieldLink RX0 56 "GalaHeats$Swimmer" "brought" "I" ∈ wsL_law := inR23 _ (List.mem_of_getElem? (i := 0) rfl)
theorem wq_X0_59 : Cond.fieldLink RX0 59 "GalaHeats$Meet" "size" "I" ∈ wsL_law := inR24 _ (List.mem_of_getElem? (i := 4) rfl)
theorem wq_X0_62 : Cond.fieldLink RX0 62 "GalaHeats$Meet" "all" "[LGalaHeats$Swimmer;" ∈ wsL_law := inR24 _ (List.mem_of_getElem? (i := 5) rfl)
theorem wq_X0_9 : Cond.fieldLink RX0 9 "GalaHeats$Swimmer" "club" "I" ∈ wsL_law := inR22 _ (List.mem_of_getElem? (i := 14) rfl)
theorem wq_X0_98 : Cond.constantFloat RX0 98 (1258291200) ∈ wsL_law := inR30 _ (List.mem_of_getElem? (i := 6) rfl)
theorem wq_X0_99 : Cond.fieldLink RX0 99 "GalaHeats$Meet" "stage" "I" ∈ wsL_law := inR31 _ (List.mem_of_getElem? (i := 9) rfl)
theorem wq_X10_15 : Cond.fieldLink RX10 15 "GalaHeats$Swimmer" "club" "I" ∈ wsL_law := inR4 _ (List.mem_of_getElem? (i := 22) rfl)
theorem wq_X10_18 : Cond.fieldLink RX10 18 "GalaHeats$Swimmer" "entry" "I" ∈ wsL_law := inR4 _ (List.mem_of_getElem? (i := 23) rfl)
theorem wq_X10_21 : Cond.fieldLink RX10 21 "GalaHeats$Swimmer" "brought" "I" ∈ wsL_law := inR5 _ (List.mem_of_getElem? (i := 7) rfl)
theorem wq_X10_27 : Cond.fieldLink RX10 27 "GalaHeats$Swimmer" "scratched" "Z" ∈ wsL_law := inR5 _ (List.mem_of_getElem? (i := 0) rfl)
theorem wq_X10_31 : Cond.fieldLink RX10 31 "GalaHeats$Swimmer" "place" "I" ∈ wsL_law := inR5 _ (List.mem_of_getElem? (i := 6) rfl)
theorem wq_X10_40 : Cond.fieldLink RX10 40 "GalaHeats$Swimmer" "heat" "I" ∈ wsL_law := inR5 _ (List.mem_of_getElem? (i := 1) rfl)
theorem wq_X10_43 : Cond.fieldLink RX10 43 "GalaHeats$Swimmer" "heatLane" "I" ∈ wsL_law := inR5 _ (List.mem_of_getElem? (i := 2) rfl)
theorem wq_X10_46 : Cond.fieldLink RX10 46 "GalaHeats$Swimmer" "heatTime" "I" ∈ wsL_law := inR5 _ (List.mem_of_getElem? (i := 3) rfl)
theorem wq_X10_49 : Cond.fieldLink RX10 49 "GalaHeats$Swimmer" "finalLane" "I" ∈ wsL_law := inR5 _ (List.mem_of_getElem? (i := 4) rfl)
theorem wq_X10_52 : Cond.fieldLink RX10 52 "GalaHeats$Swimmer" "finalTime" "I" ∈ wsL_law := inR5 _ (List.mem_of_getElem? (i := 5) rfl)
theorem wq_X10_9 : Cond.fieldLink RX10 9 "GalaHeats$Swimmer" "number" "I" ∈ wsL_law := inR2 _ (List.mem_of_getElem? (i := 20) rfl)
theorem wq_X11_10 : Cond.fieldLink RX11 10 "GalaHeats" "meet" "LGalaHeats$Meet;" ∈ wsL_law := inR1 _ (List.mem_of_getElem? (i := 15) rfl)
theorem wq_X11_113 : Cond.fieldLink RX11 113 "GalaHeats$Meet" "stage" "I" ∈ wsL_law := inR27 _ (List.mem_of_getElem? (i := 9) rfl)
theorem wq_X11_117 : Cond.fieldLink RX11 117 "GalaHeats$Swimmer" "scratched" "Z" ∈ wsL_law := inR27 _ (List.mem_of_getElem? (i := 10) rfl)
theorem wq_X11_123 : Cond.constant RX11 123 (-1000002) ∈ wsL_law := inR27 _ (List.mem_of_getElem? (i := 11) rfl)
theorem wq_X11_127 : Cond.fieldLink RX11 127 "GalaHeats$Swimmer" "heat" "I" ∈ wsL_law := inR27 _ (List.mem_of_getElem? (i := 12) rfl)
theorem wq_X11_130 : Cond.fieldLink RX11 130 "GalaHeats$Swimmer" "heatLane" "I" ∈ wsL_law := inR27 _ (List.mem_of_getElem? (i := 13) rfl)
theorem wq_X11_154 : Cond.fieldLink RX11 154 "GalaHeats$History" "kept" "I" ∈ wsL_law := inR31 _ (List.mem_of_getElem? (i := 3) rfl)
theorem wq_X11_157 : Cond.fieldLink RX11 157 "GalaHeats$OrderText" "length" "I" ∈ wsL_law := inR31 _ (List.mem_of_getElem? (i := 4) rfl)
theorem wq_X11_16 : Cond.fieldLink RX11 16 "GalaHeats" "trial" "LGalaHeats$Meet;" ∈ wsL_law := inR1 _ (List.mem_of_getElem? (i := 16) rfl)
theorem wq_X11_160 : Cond.fieldLink RX11 160 "GalaHeats$Meet" "settings" "[I" ∈ wsL_law := inR31 _ (List.mem_of_getElem? (i := 5) rfl)
theorem wq_X11_180 : Cond.fieldLink RX11 180 "GalaHeats$Rehearsal" "reason" "I" ∈ wsL_law := inR34 _ (List.mem_of_getElem? (i := 23) rfl)
theorem wq_X11_183 : Cond.constant RX11 183 (-1000004) ∈ wsL_law := inR35 _ (List.mem_of_getElem? (i := 0) rfl)
theorem wq_X11_184 : Cond.fieldLink RX11 184 "GalaHeats$Rehearsal" "position" "I" ∈ wsL_law := inR35 _ (List.mem_of_getElem? (i := 1) rfl)
theorem wq_X11_187 : Cond.fieldLink RX11 187 "GalaHeats$Rehearsal" "cause" "I" ∈ wsL_law := inR35 _ (List.mem_of_getElem? (i := 2) rfl)
theorem wq_X11_190 : Cond.fieldLink RX11 190 "GalaHeats$Rehearsal" "orders" "I" ∈ wsL_law := inR39 _ (List.mem_of_getElem? (i := 18) rfl)
theorem wq_X11_22 : Cond.fieldLink RX11 22 "GalaHeats" "history" "LGalaHeats$History;" ∈ wsL_law := inR1 _ (List.mem_of_getElem? (i := 20) rfl)
theorem wq_X11_29 : Cond.fieldLink RX11 29 "GalaHeats" "text" "LGalaHeats$OrderText;" ∈ wsL_law := inR2 _ (List.mem_of_getElem? (i := 0) rfl)
theorem wq_X11_36 : Cond.fieldLink RX11 36 "GalaHeats" "rehearsal" "LGalaHeats$Rehearsal;" ∈ wsL_law := inR2 _ (List.mem_of_getElem? (i := 4) rfl)
theorem wq_X11_81 : Cond.constant RX11 81 (-1000001) ∈ wsL_law := inR22 _ (List.mem_of_getElem? (i := 7) rfl)
theorem wq_X11_82 : Cond.fieldLink RX11 82 "GalaHeats$Meet" "all" "[LGalaHeats$Swimmer;" ∈ wsL_law := inR22 _ (List.mem_of_getElem? (i := 8) rfl)
theorem wq_X12_13 : Cond.fieldLink RX12 13 "GalaHeatsModel" "past" "[I" ∈ wsL_law := inR3 _ (List.mem_of_getElem? (i := 16) rfl)
theorem wq_X12_16 : Cond.fieldLink RX12 16 "GalaHeatsModel" "held" "[I" ∈ wsL_law := inR3 _ (List.mem_of_getElem? (i := 17) rfl)
theorem wq_X12_174 : Cond.fieldLink RX12 174 "GalaHeatsModel" "typed" "I" ∈ wsL_law := inR32 _ (List.mem_of_getElem? (i := 10) rfl)
theorem wq_X12_177 : Cond.fieldLink RX12 177 "GalaHeatsModel" "spot" "I" ∈ wsL_law := inR38 _ (List.mem_of_getElem? (i := 5) rfl)
theorem wq_X12_183 : Cond.fieldLink RX12 183 "GalaHeatsModel" "order" "I" ∈ wsL_law := inR38 _ (List.mem_of_getElem? (i := 11) rfl)
theorem wq_X12_19 : Cond.fieldLink RX12 19 "GalaHeatsModel" "text" "[I" ∈ wsL_law := inR3 _ (List.mem_of_getElem? (i := 18) rfl)
theorem wq_X12_216 : Cond.fieldLink RX12 216 "GalaHeatsModel" "from" "I" ∈ wsL_law := inR37 _ (List.mem_of_getElem? (i := 19) rfl)
theorem wq_X12_219 : Cond.fieldLink RX12 219 "GalaHeatsModel" "orders" "I" ∈ wsL_law := inR38 _ (List.mem_of_getElem? (i := 6) rfl)
theorem wq_X12_22 : Cond.fieldLink RX12 22 "GalaHeatsModel" "drawn" "[I" ∈ wsL_law := inR3 _ (List.mem_of_getElem? (i := 19) rfl)
theorem wq_X12_229 : Cond.fieldLink RX12 229 "GalaHeatsModel" "reason" "I" ∈ wsL_law := inR37 _ (List.mem_of_getElem? (i := 20) rfl)
theorem wq_X12_232 : Cond.fieldLink RX12 232 "GalaHeatsModel" "cause" "I" ∈ wsL_law := inR37 _ (List.mem_of_getElem? (i := 21) rfl)
theorem wq_X12_25 : Cond.fieldLink RX12 25 "GalaHeatsModel" "numbers" "[I" ∈ wsL_law := inR3 _ (List.mem_of_getElem? (i := 20) rfl)
theorem wq_X12_28 : Cond.fieldLink RX12 28 "GalaHeatsModel" "runs" "Z" ∈ wsL_law := inR7 _ (List.mem_of_getElem? (i := 11) rfl)
theorem wq_X12_32 : Cond.fieldLink RX12 32 "GalaHeatsModel" "pasts" "I" ∈ wsL_law := inR7 _ (List.mem_of_getElem? (i := 12) rfl)
theorem wq_X12_7 : Cond.fieldLink RX12 7 "GalaHeatsModel" "s" "[I" ∈ wsL_law := inR3 _ (List.mem_of_getElem? (i := 15) rfl)
theorem wq_X12_75 : Cond.constant RX12 75 (-1000001) ∈ wsL_law := inR7 _ (List.mem_of_getElem? (i := 1) rfl)
theorem wq_X12_76 : Cond.constant RX12 76 (-1000002) ∈ wsL_law := inR7 _ (List.mem_of_getElem? (i := 2) rfl)
theorem wq_X12_77 : Cond.constant RX12 77 (-1000003) ∈ wsL_law := inR7 _ (List.mem_of_getElem? (i := 3) rfl)
theorem wq_X12_85 : Cond.constant RX12 85 (-1000004) ∈ wsL_law := inR10 _ (List.mem_of_getElem? (i := 0) rfl)
theorem wq_X1_104 : Cond.fieldLink RX1 104 "GalaHeats$Swimmer" "heatTime" "I" ∈ wsL_law := inR15 _ (List.mem_of_getElem? (i := 10) rfl)
theorem wq_X1_107 : Cond.fieldLink RX1 107 "GalaHeats$Swimmer" "finalTime" "I" ∈ wsL_law := inR15 _ (List.mem_of_getElem? (i := 11) rfl)
theorem wq_X1_117 : Cond.fieldLink RX1 117 "GalaHeats$Meet" "record" "I" ∈ wsL_law := inR15 _ (List.mem_of_getElem? (i := 20) rfl)
theorem wq_X1_120 : Cond.fieldLink RX1 120 "GalaHeats$Meet" "recordSwimmer" "I" ∈ wsL_law := inR15 _ (List.mem_of_getElem? (i := 21) rfl)
theorem wq_X1_142 : Cond.fieldLink RX1 142 "GalaHeats$Meet" "reserves" "[I" ∈ wsL_law := inR17 _ (List.mem_of_getElem? (i := 21) rfl)
theorem wq_X1_145 : Cond.fieldLink RX1 145 "GalaHeats$Swimmer" "number" "I" ∈ wsL_law := inR17 _ (List.mem_of_getElem? (i := 22) rfl)
theorem wq_X1_148 : Cond.fieldLink RX1 148 "GalaHeats$Meet" "reservesDrawn" "I" ∈ wsL_law := inR17 _ (List.mem_of_getElem? (i := 23) rfl)
theorem wq_X1_15 : Cond.constant RX1 15 (-1000001) ∈ wsL_law := inR5 _ (List.mem_of_getElem? (i := 12) rfl)
theorem wq_X1_156 : Cond.fieldLink RX1 156 "GalaHeats$Swimmer" "place" "I" ∈ wsL_law := inR20 _ (List.mem_of_getElem? (i := 5) rfl)
theorem wq_X1_158 : Cond.fieldLink RX1 158 "GalaHeats$Meet" "eventsEnded" "I" ∈ wsL_law := inR20 _ (List.mem_of_getElem? (i := 6) rfl)
theorem wq_X1_16 : Cond.fieldLink RX1 16 "GalaHeats$Meet" "stage" "I" ∈ wsL_law := inR5 _ (List.mem_of_getElem? (i := 13) rfl)
theorem wq_X1_164 : Cond.fieldLink RX1 164 "GalaHeats$Swimmer" "entry" "I" ∈ wsL_law := inR21 _ (List.mem_of_getElem? (i := 14) rfl)
theorem wq_X1_22 : Cond.constant RX1 22 (-1000002) ∈ wsL_law := inR5 _ (List.mem_of_getElem? (i := 14) rfl)
theorem wq_X1_23 : Cond.fieldLink RX1 23 "GalaHeats$Meet" "size" "I" ∈ wsL_law := inR5 _ (List.mem_of_getElem? (i := 15) rfl)
theorem wq_X1_26 : Cond.constant RX1 26 (-1000003) ∈ wsL_law := inR5 _ (List.mem_of_getElem? (i := 16) rfl)
theorem wq_X1_27 : Cond.fieldLink RX1 27 "GalaHeats$Meet" "all" "[LGalaHeats$Swimmer;" ∈ wsL_law := inR5 _ (List.mem_of_getElem? (i := 17) rfl)
theorem wq_X1_40 : Cond.fieldLink RX1 40 "GalaHeats$Swimmer" "scratched" "Z" ∈ wsL_law := inR8 _ (List.mem_of_getElem? (i := 0) rfl)
theorem wq_X1_47 : Cond.fieldLink RX1 47 "GalaHeats$Swimmer" "finalLane" "I" ∈ wsL_law := inR8 _ (List.mem_of_getElem? (i := 1) rfl)
theorem wq_X1_61 : Cond.fieldLink RX1 61 "GalaHeats$Meet" "reservesCalled" "I" ∈ wsL_law := inR8 _ (List.mem_of_getElem? (i := 10) rfl)
theorem wq_X1_70 : Cond.fieldLink RX1 70 "GalaHeats$Meet" "settings" "[I" ∈ wsL_law := inR10 _ (List.mem_of_getElem? (i := 8) rfl)
theorem wq_X1_87 : Cond.fieldLink RX1 87 "GalaHeats$Meet" "heats" "I" ∈ wsL_law := inR11 _ (List.mem_of_getElem? (i := 2) rfl)
theorem wq_X2_15 : Cond.fieldLink RX2 15 "GalaHeats$Meet" "all" "[LGalaHeats$Swimmer;" ∈ wsL_law := inR11 _ (List.mem_of_getElem? (i := 19) rfl)
theorem wq_X2_19 : Cond.fieldLink RX2 19 "GalaHeats$Swimmer" "scratched" "Z" ∈ wsL_law := inR11 _ (List.mem_of_getElem? (i := 20) rfl)
theorem wq_X2_29 : Cond.fieldLink RX2 29 "GalaHeats$Meet" "heats" "I" ∈ wsL_law := inR11 _ (List.mem_of_getElem? (i := 21) rfl)
theorem wq_X2_42 : Cond.fieldLink RX2 42 "GalaHeats$Swimmer" "heat" "I" ∈ wsL_law := inR11 _ (List.mem_of_getElem? (i := 22) rfl)
theorem wq_X2_45 : Cond.fieldLink RX2 45 "GalaHeats$Meet" "settings" "[I" ∈ wsL_law := inR12 _ (List.mem_of_getElem? (i := 14) rfl)
theorem wq_X2_60 : Cond.constant RX2 60 (-1000004) ∈ wsL_law := inR12 _ (List.mem_of_getElem? (i := 21) rfl)
theorem wq_X2_75 : Cond.fieldLink RX2 75 "GalaHeats$Swimmer" "heatLane" "I" ∈ wsL_law := inR13 _ (List.mem_of_getElem? (i := 3) rfl)
theorem wq_X2_9 : Cond.fieldLink RX2 9 "GalaHeats$Meet" "size" "I" ∈ wsL_law := inR11 _ (List.mem_of_getElem? (i := 18) rfl)
theorem wq_X3_11 : Cond.fieldLink RX3 11 "GalaHeats$History" "rows" "[LGalaHeats$Meet;" ∈ wsL_law := inR3 _ (List.mem_of_getElem? (i := 2) rfl)
theorem wq_X3_18 : Cond.fieldLink RX3 18 "GalaHeats$History" "kept" "I" ∈ wsL_law := inR4 _ (List.mem_of_getElem? (i := 5) rfl)
theorem wq_X3_29 : Cond.constant RX3 29 (-1000002) ∈ wsL_law := inR33 _ (List.mem_of_getElem? (i := 12) rfl)
theorem wq_X5_17 : Cond.fieldLink RX5 17 "GalaHeats$Meet" "all" "[LGalaHeats$Swimmer;" ∈ wsL_law := inR2 _ (List.mem_of_getElem? (i := 12) rfl)
theorem wq_X5_21 : Cond.fieldLink RX5 21 "GalaHeats$Meet" "reserves" "[I" ∈ wsL_law := inR2 _ (List.mem_of_getElem? (i := 13) rfl)
theorem wq_X5_32 : Cond.fieldLink RX5 32 "GalaHeats$Meet" "size" "I" ∈ wsL_law := inR4 _ (List.mem_of_getElem? (i := 10) rfl)
theorem wq_X5_36 : Cond.fieldLink RX5 36 "GalaHeats$Meet" "stage" "I" ∈ wsL_law := inR4 _ (List.mem_of_getElem? (i := 11) rfl)
theorem wq_X5_39 : Cond.fieldLink RX5 39 "GalaHeats$Meet" "heats" "I" ∈ wsL_law := inR4 _ (List.mem_of_getElem? (i := 12) rfl)
theorem wq_X5_42 : Cond.fieldLink RX5 42 "GalaHeats$Meet" "reservesDrawn" "I" ∈ wsL_law := inR4 _ (List.mem_of_getElem? (i := 13) rfl)
theorem wq_X5_45 : Cond.fieldLink RX5 45 "GalaHeats$Meet" "reservesCalled" "I" ∈ wsL_law := inR4 _ (List.mem_of_getElem? (i := 14) rfl)
theorem wq_X5_48 : Cond.fieldLink RX5 48 "GalaHeats$Meet" "eventsEnded" "I" ∈ wsL_law := inR4 _ (List.mem_of_getElem? (i := 15) rfl)
theorem wq_X5_51 : Cond.fieldLink RX5 51 "GalaHeats$Meet" "record" "I" ∈ wsL_law := inR4 _ (List.mem_of_getElem? (i := 16) rfl)
theorem wq_X5_54 : Cond.fieldLink RX5 54 "GalaHeats$Meet" "recordSwimmer" "I" ∈ wsL_law := inR4 _ (List.mem_of_getElem? (i := 17) rfl)
theorem wq_X5_61 : Cond.fieldLink RX5 61 "GalaHeats$Swimmer" "scratched" "Z" ∈ wsL_law := inR8 _ (List.mem_of_getElem? (i := 21) rfl)
theorem wq_X5_69 : Cond.fieldLink RX5 69 "GalaHeats$Swimmer" "heatTime" "I" ∈ wsL_law := inR16 _ (List.mem_of_getElem? (i := 6) rfl)
theorem wq_X5_75 : Cond.fieldLink RX5 75 "GalaHeats$Swimmer" "heat" "I" ∈ wsL_law := inR15 _ (List.mem_of_getElem? (i := 16) rfl)
theorem wq_X5_78 : Cond.fieldLink RX5 78 "GalaHeats$Swimmer" "finalLane" "I" ∈ wsL_law := inR8 _ (List.mem_of_getElem? (i := 22) rfl)
theorem wq_X5_81 : Cond.fieldLink RX5 81 "GalaHeats$Swimmer" "finalTime" "I" ∈ wsL_law := inR16 _ (List.mem_of_getElem? (i := 7) rfl)
theorem wq_X5_9 : Cond.fieldLink RX5 9 "GalaHeats$Meet" "settings" "[I" ∈ wsL_law := inR2 _ (List.mem_of_getElem? (i := 10) rfl)
theorem wq_X5_95 : Cond.constant RX5 95 (-1000004) ∈ wsL_law := inR8 _ (List.mem_of_getElem? (i := 16) rfl)
theorem wq_X6_15 : Cond.fieldLink RX6 15 "GalaHeats$OrderText" "length" "I" ∈ wsL_law := inR34 _ (List.mem_of_getElem? (i := 1) rfl)
theorem wq_X6_19 : Cond.constant RX6 19 (-1000003) ∈ wsL_law := inR34 _ (List.mem_of_getElem? (i := 2) rfl)
theorem wq_X6_20 : Cond.fieldLink RX6 20 "GalaHeats$OrderText" "position" "I" ∈ wsL_law := inR35 _ (List.mem_of_getElem? (i := 18) rfl)
theorem wq_X6_23 : Cond.fieldLink RX6 23 "GalaHeats$OrderText" "start" "I" ∈ wsL_law := inR36 _ (List.mem_of_getElem? (i := 3) rfl)
theorem wq_X6_30 : Cond.fieldLink RX6 30 "GalaHeats$OrderText" "kind" "I" ∈ wsL_law := inR36 _ (List.mem_of_getElem? (i := 4) rfl)
theorem wq_X6_41 : Cond.fieldLink RX6 41 "GalaHeats$OrderText" "number" "I" ∈ wsL_law := inR36 _ (List.mem_of_getElem? (i := 5) rfl)
theorem wq_X6_44 : Cond.fieldLink RX6 44 "GalaHeats$OrderText" "first" "I" ∈ wsL_law := inR36 _ (List.mem_of_getElem? (i := 6) rfl)
theorem wq_X6_51 : Cond.fieldLink RX6 51 "GalaHeats$OrderText" "second" "I" ∈ wsL_law := inR36 _ (List.mem_of_getElem? (i := 7) rfl)
theorem wq_X6_9 : Cond.fieldLink RX6 9 "GalaHeats$OrderText" "signs" "[I" ∈ wsL_law := inR3 _ (List.mem_of_getElem? (i := 7) rfl)
theorem wq_X7_15 : Cond.fieldLink RX7 15 "GalaHeats$Rehearsal" "orders" "I" ∈ wsL_law := inR35 _ (List.mem_of_getElem? (i := 7) rfl)
theorem wq_X7_21 : Cond.fieldLink RX7 21 "GalaHeats$Rehearsal" "reason" "I" ∈ wsL_law := inR35 _ (List.mem_of_getElem? (i := 8) rfl)
theorem wq_X7_40 : Cond.fieldLink RX7 40 "GalaHeats$OrderText" "position" "I" ∈ wsL_law := inR35 _ (List.mem_of_getElem? (i := 9) rfl)
theorem wq_X7_43 : Cond.fieldLink RX7 43 "GalaHeats$OrderText" "start" "I" ∈ wsL_law := inR35 _ (List.mem_of_getElem? (i := 10) rfl)
theorem wq_X7_46 : Cond.fieldLink RX7 46 "GalaHeats$Rehearsal" "position" "I" ∈ wsL_law := inR35 _ (List.mem_of_getElem? (i := 11) rfl)
theorem wq_X7_47 : Cond.fieldLink RX7 47 "GalaHeats$Rehearsal" "cause" "I" ∈ wsL_law := inR35 _ (List.mem_of_getElem? (i := 12) rfl)
theorem wq_X7_50 : Cond.fieldLink RX7 50 "GalaHeats$OrderText" "kind" "I" ∈ wsL_law := inR37 _ (List.mem_of_getElem? (i := 4) rfl)
theorem wq_X7_53 : Cond.fieldLink RX7 53 "GalaHeats$OrderText" "first" "I" ∈ wsL_law := inR37 _ (List.mem_of_getElem? (i := 5) rfl)
theorem wq_X7_56 : Cond.fieldLink RX7 56 "GalaHeats$OrderText" "second" "I" ∈ wsL_law := inR37 _ (List.mem_of_getElem? (i := 6) rfl)
theorem wq_X7_85 : Cond.constant RX7 85 (-1000002) ∈ wsL_law := inR37 _ (List.mem_of_getElem? (i := 7) rfl)
theorem wq_X8_21 : Cond.fieldLink RX8 21 "GalaHeats$Swimmer" "place" "I" ∈ wsL_law := inR20 _ (List.mem_of_getElem? (i := 12) rfl)
theorem wq_X8_24 : Cond.fieldLink RX8 24 "GalaHeats$Swimmer" "brought" "I" ∈ wsL_law := inR20 _ (List.mem_of_getElem? (i := 13) rfl)
theorem wq_X8_37 : Cond.fieldLink RX8 37 "GalaHeats$Meet" "size" "I" ∈ wsL_law := inR26 _ (List.mem_of_getElem? (i := 22) rfl)
theorem wq_X8_40 : Cond.fieldLink RX8 40 "GalaHeats$Meet" "all" "[LGalaHeats$Swimmer;" ∈ wsL_law := inR26 _ (List.mem_of_getElem? (i := 23) rfl)
theorem wq_X8_44 : Cond.fieldLink RX8 44 "GalaHeats$Swimmer" "club" "I" ∈ wsL_law := inR27 _ (List.mem_of_getElem? (i := 0) rfl)
theorem wq_X8_51 : Cond.constant RX8 51 (-1000004) ∈ wsL_law := inR29 _ (List.mem_of_getElem? (i := 9) rfl)
theorem wq_X8_9 : Cond.fieldLink RX8 9 "GalaHeats$Swimmer" "finalTime" "I" ∈ wsL_law := inR20 _ (List.mem_of_getElem? (i := 11) rfl)
theorem wq_X9_15 : Cond.fieldLink RX9 15 "GalaHeats$Settings" "GREATEST" "[I" ∈ wsL_law := inR10 _ (List.mem_of_getElem? (i := 14) rfl)
theorem wq_X9_9 : Cond.fieldLink RX9 9 "GalaHeats$Settings" "LEAST" "[I" ∈ wsL_law := inR10 _ (List.mem_of_getElem? (i := 13) rfl)
end
section
/-! my own layer over the kit: the whole system's cells by (block, row), and their whole numbers as one function w : block, row, column -/
abbrev gX : Type := va_G × Nat × Heap × (ClassId × ClassId × ClassId) × (Nat × Nat × Nat)
abbrev gX.D (X : gX) : va_G := X.1
abbrev gX.B (X : gX) : Nat := X.2.1
abbrev gX.H0 (X : gX) : Heap := X.2.2.1
abbrev gX.cI (X : gX) : ClassId := X.2.2.2.1.1
abbrev gX.cS (X : gX) : ClassId := X.2.2.2.1.2.1
abbrev gX.cM (X : gX) : ClassId := X.2.2.2.1.2.2
abbrev gX.tF (X : gX) : Nat := X.2.2.2.2.1
abbrev gX.tL (X : gX) : Nat := X.2.2.2.2.2.1
abbrev gX.tG (X : gX) : Nat := X.2.2.2.2.2.2
abbrev gWd : Type := Nat → Nat → Nat → Int32
def up3 (w : gWd) (i r j : Nat) (v : Int32) : gWd := fun a b c => if a = i ∧ b = r ∧ c = j then v else w a b c
def gad (i r : Nat) : Nat := if i < 7 then (if i < 2 then 1 + 34 * i + r else 3 + 34 * i + r) else if i = 7 then (if r = 0 then 0 else if r < 3 then 68 + r else if r < 5 then 238 + r else 243) else 244 + r
def gok (i r : Nat) : Prop := (i < 7 ∧ r < 34) ∨ (i = 7 ∧ r < 6) ∨ (i = 8 ∧ r < 7)
theorem gad_lt {i r : Nat} (h : gok i r) : gad i r < 251 := by
  unfold gok at h
  unfold gad
  repeat' split
  all_goals omega
theorem gad_inj {i r i' r' : Nat} (h : gok i r) (h' : gok i' r') (e : gad i r = gad i' r') : i = i' ∧ r = r' := by
  unfold gok at h h'
  unfold gad at e
  rcases h with h | h | h <;> rcases h' with h' | h' | h' <;> (repeat' split at e) <;> omega
theorem gok_m {i r : Nat} (hi : i < 7) (hr : r < 34) : gok i r := Or.inl ⟨hi, hr⟩
theorem gok_c {r : Nat} (hr : r < 6) : gok 7 r := Or.inr (Or.inl ⟨rfl, hr⟩)
theorem gok_o {r : Nat} (hr : r < 7) : gok 8 r := Or.inr (Or.inr ⟨rfl, hr⟩)
def gA (X : gX) (i r : Nat) : Nat := X.B + gad i r
/-- the first n cells of the system, and what lies below them is as at the start -/
def gWo (X : gX) (n : Nat) (E : Nat → Nat → va_E) (H : Heap) : Prop := H.size = X.B + n ∧ X.H0.size = X.B ∧ (∀ q : Nat, q < X.B → H[q]? = X.H0[q]?) ∧ ∀ i r : Nat, gok i r → gad i r < n → va_at X.D vwCl (gA X i r, E i r) H
def gLo (X : gX) (locs : List Loc) : Prop := ∀ q ∈ locs, X.B ≤ q.base
theorem gLo_nil {X : gX} : gLo X [] := fun q h => by cases h
theorem gLo_snoc {X : gX} {locs : List Loc} {a k : Nat} (h : gLo X locs) (ha : X.B ≤ a) : gLo X (locs ++ [⟨a, k⟩]) := by
  intro q hq
  rcases List.mem_append.mp hq with h1 | h1
  · exact h q h1
  · rw [List.mem_singleton.mp h1]; exact ha
theorem gLo_app {X : gX} {l1 l2 : List Loc} (h : gLo X l1) (h2 : gLo X l2) : gLo X (l1 ++ l2) := by
  intro q hq
  rcases List.mem_append.mp hq with h1 | h1
  · exact h q h1
  · exact h2 q h1
def gFirst (j : Nat) : Int32 := if j = 0 then 8 else if j = 1 then 3 else 2
def gLeast (j : Nat) : Int32 := if j = 0 then 4 else if j = 1 then 1 else 0
def gGreat (j : Nat) : Int32 := if j = 0 then 10 else if j = 1 then 3 else 4
/-- what the tables say, at any state of this run: the classes, the arrays' classes, the static arrays -/
def gKt (X : gX) (U : State) : Prop := va_K X.D vwCl [(X.cI, .int), (X.cS, .object RX10), (X.cM, .object RX5)] U ∧
  (va_Z RX9 "FIRST" "[I" (.ref X.tF) (fun q => X.B ≤ q) U X.H0 ∧ va_T .int X.tF 3 (fun j => .int (gFirst j)) (fun q => X.B ≤ q) U X.H0) ∧
  (va_Z RX9 "LEAST" "[I" (.ref X.tL) (fun q => X.B ≤ q) U X.H0 ∧ va_T .int X.tL 3 (fun j => .int (gLeast j)) (fun q => X.B ≤ q) U X.H0) ∧
  (va_Z RX9 "GREATEST" "[I" (.ref X.tG) (fun q => X.B ≤ q) U X.H0 ∧ va_T .int X.tG 3 (fun j => .int (gGreat j)) (fun q => X.B ≤ q) U X.H0)
theorem gKt.moved {X : gX} {u U : State} (hvm : u.vm.Alike U.vm) (h : gKt X u) : gKt X U :=
  ⟨va_K.moved hvm h.1, ⟨va_Z.moved hvm h.2.1.1, va_T.moved hvm h.2.1.2⟩, ⟨va_Z.moved hvm h.2.2.1.1, va_T.moved hvm h.2.2.1.2⟩, ⟨va_Z.moved hvm h.2.2.2.1, va_T.moved hvm h.2.2.2.2⟩⟩
/-- what each cell is, by the numbers w -/
def gE (X : gX) (w : gWd) (i r : Nat) : va_E :=
  if i < 7 then
    (if r = 0 then .inr (1, [.ref (gA X i 1), .ref (gA X i 2), .ref (gA X i 3), .int (w i 0 3), .int (w i 0 4), .int (w i 0 5), .int (w i 0 6), .int (w i 0 7), .int (w i 0 8), .int (w i 0 9), .int (w i 0 10)])
     else if r = 1 then .inl (X.cI, 3, .inl (w i 1))
     else if r = 2 then .inl (X.cS, 30, .inr (.inr (.inr (.inr (fun n => some (gA X i (4 + n)))))))
     else if r = 3 then .inl (X.cI, 4, .inl (w i 3))
     else .inr (4, [.int (nI (r - 4)), .int (w i r 1), .int (w i r 2), .int (w i r 3), .int (w i r 4), .int (w i r 5), .int (w i r 6), .int (w i r 7), .int (w i r 8), .int (w i r 9), .int (w i r 10)]))
  else if i = 7 then
    (if r = 0 then .inr (5, [.ref (gA X 0 0), .ref (gA X 1 0), .ref (gA X 7 1), .ref (gA X 7 3), .ref (gA X 7 5)])
     else if r = 1 then .inr (0, [.ref (gA X 7 2), .int (w 7 1 1)])
     else if r = 2 then .inl (X.cM, 5, .inr (.inr (.inr (.inr (fun n => some (gA X (w 7 2 n).toNatClampNeg 0))))))
     else if r = 3 then .inr (2, [.ref (gA X 7 4), .int (w 7 3 1), .int (w 7 3 2), .int (w 7 3 3), .int (w 7 3 4), .int (w 7 3 5), .int (w 7 3 6), .int (w 7 3 7)])
     else if r = 4 then .inl (X.cI, 60, .inl (w 7 4))
     else .inr (3, [.int (w 7 5 0), .int (w 7 5 1), .int (w 7 5 2), .int (w 7 5 3)]))
  else
    (if r = 0 then .inr (6, [.ref (gA X 8 1), .ref (gA X 8 2), .ref (gA X 8 3), .int (w 8 0 3), .int (w 8 0 4), .ref (gA X 8 4), .int (w 8 0 6), .ref (gA X 8 5), .int (w 8 0 8), .int (w 8 0 9), .int (w 8 0 10), .int (w 8 0 11), .int (w 8 0 12), .int (w 8 0 13), .ref (gA X 8 6)])
     else if r = 1 then .inl (X.cI, 320, .inl (w 8 1))
     else if r = 2 then .inl (X.cI, 1280, .inl (w 8 2))
     else if r = 3 then .inl (X.cI, 320, .inl (w 8 3))
     else if r = 4 then .inl (X.cI, 60, .inl (w 8 4))
     else if r = 5 then .inl (X.cI, 30, .inl (w 8 5))
     else .inl (X.cI, 2, .inl (w 8 6)))
theorem gE_m0 {X : gX} {w : gWd} {i : Nat} (hi : i < 7) : gE X w i 0 = .inr (1, [.ref (gA X i 1), .ref (gA X i 2), .ref (gA X i 3), .int (w i 0 3), .int (w i 0 4), .int (w i 0 5), .int (w i 0 6), .int (w i 0 7), .int (w i 0 8), .int (w i 0 9), .int (w i 0 10)]) := by simp [gE, hi]
theorem gE_m1 {X : gX} {w : gWd} {i : Nat} (hi : i < 7) : gE X w i 1 = .inl (X.cI, 3, .inl (w i 1)) := by simp [gE, hi]
theorem gE_m2 {X : gX} {w : gWd} {i : Nat} (hi : i < 7) : gE X w i 2 = .inl (X.cS, 30, .inr (.inr (.inr (.inr (fun n => some (gA X i (4 + n))))))) := by simp [gE, hi]
theorem gE_m3 {X : gX} {w : gWd} {i : Nat} (hi : i < 7) : gE X w i 3 = .inl (X.cI, 4, .inl (w i 3)) := by simp [gE, hi]
theorem gE_ms {X : gX} {w : gWd} {i : Nat} (hi : i < 7) (n : Nat) : gE X w i (4 + n) = .inr (4, [.int (nI n), .int (w i (4 + n) 1), .int (w i (4 + n) 2), .int (w i (4 + n) 3), .int (w i (4 + n) 4), .int (w i (4 + n) 5), .int (w i (4 + n) 6), .int (w i (4 + n) 7), .int (w i (4 + n) 8), .int (w i (4 + n) 9), .int (w i (4 + n) 10)]) := by
  have h0 : ¬ 4 + n = 0 := by omega
  have h1 : ¬ 4 + n = 1 := by omega
  have h2 : ¬ 4 + n = 2 := by omega
  have h3 : ¬ 4 + n = 3 := by omega
  have h4 : 4 + n - 4 = n := by omega
  unfold gE
  rw [if_pos hi, if_neg h0, if_neg h1, if_neg h2, if_neg h3, h4]
theorem gE_up_ne {X : gX} {w : gWd} {i r j : Nat} {v : Int32} {a b : Nat} (h : ¬ (a = i ∧ b = r)) (hab : gok a b) : gE X (up3 w i r j v) a b = gE X w a b := by
  have e : ∀ c, up3 w i r j v a b c = w a b c := fun c => if_neg (fun z => h ⟨z.1, z.2.1⟩)
  have e2 : up3 w i r j v a b = w a b := funext e
  unfold gok at hab
  unfold gE
  by_cases ha : a < 7
  · rw [if_pos ha, if_pos ha]
    by_cases h0 : b = 0
    · subst h0; simp only [if_pos, e]
    rw [if_neg h0, if_neg h0]
    by_cases h1 : b = 1
    · subst h1; simp only [if_pos, e2]
    rw [if_neg h1, if_neg h1]
    by_cases h2 : b = 2
    · subst h2; simp only [if_pos]
    rw [if_neg h2, if_neg h2]
    by_cases h3 : b = 3
    · subst h3; simp only [if_pos, e2]
    rw [if_neg h3, if_neg h3]
    simp only [e]
  · rw [if_neg ha, if_neg ha]
    by_cases h7 : a = 7
    · subst h7
      rw [if_pos rfl, if_pos rfl]
      by_cases h0 : b = 0
      · subst h0; simp only [if_pos]
      rw [if_neg h0, if_neg h0]
      by_cases h1 : b = 1
      · subst h1; simp only [if_pos, e]
      rw [if_neg h1, if_neg h1]
      by_cases h2 : b = 2
      · subst h2; simp only [if_pos, e]
      rw [if_neg h2, if_neg h2]
      by_cases h3 : b = 3
      · subst h3; simp only [if_pos, e]
      rw [if_neg h3, if_neg h3]
      by_cases h4 : b = 4
      · subst h4; simp only [if_pos, e2]
      rw [if_neg h4, if_neg h4]
      have h5 : b = 5 := by omega
      subst h5; simp only [e]
    · rw [if_neg h7, if_neg h7]
      have h8 : a = 8 := by omega
      subst h8
      by_cases h0 : b = 0
      · subst h0; simp only [if_pos, e]
      rw [if_neg h0, if_neg h0]
      by_cases h1 : b = 1
      · subst h1; simp only [if_pos, e2]
      rw [if_neg h1, if_neg h1]
      by_cases h2 : b = 2
      · subst h2; simp only [if_pos, e2]
      rw [if_neg h2, if_neg h2]
      by_cases h3 : b = 3
      · subst h3; simp only [if_pos, e2]
      rw [if_neg h3, if_neg h3]
      by_cases h4 : b = 4
      · subst h4; simp only [if_pos, e2]
      rw [if_neg h4, if_neg h4]
      by_cases h5 : b = 5
      · subst h5; simp only [if_pos, e2]
      rw [if_neg h5, if_neg h5]
      have h6 : b = 6 := by omega
      subst h6; simp only [e2]
theorem up3_row (w : gWd) (i r j : Nat) (v : Int32) : up3 w i r j v i r = upd (w i r) j v := by
  funext c
  simp [up3, upd]
theorem gWo.at {X : gX} {n : Nat} {E : Nat → Nat → va_E} {H : Heap} (h : gWo X n E H) {i r : Nat} (hr : gok i r) (hlt : gad i r < n) : va_at X.D vwCl (gA X i r, E i r) H := h.2.2.2 i r hr hlt
theorem gP1 {D : va_G} {cl : List vw_C} {q : Nat × va_E} {H : Heap} (h : va_at D cl q H) : va_P D cl [q] H := by
  intro k x hk
  cases k with
  | zero => rw [List.getElem?_cons_zero] at hk; cases hk; exact h
  | succ k => simp at hk
theorem gA_ge (X : gX) (i r : Nat) : X.B ≤ gA X i r := Nat.le_add_right _ _
theorem gWo.put {X : gX} {n : Nat} {E E' : Nat → Nat → va_E} {H H1 : Heap} (h : gWo X n E H) {i r : Nat} (hr : gok i r) (hat : va_at X.D vwCl (gA X i r, E' i r) H1) (hz : H1.size = H.size) (oq : ∀ q : Nat, q ≠ gA X i r → H1[q]? = H[q]?) (hE : ∀ a b : Nat, gok a b → ¬ (a = i ∧ b = r) → E' a b = E a b) : gWo X n E' H1 := by
  obtain ⟨h1, h2, h3, h4⟩ := h
  refine ⟨hz.trans h1, h2, fun q hq => ?_, fun a b hab hlt => ?_⟩
  · rw [oq q (fun e => ?_)]
    · exact h3 q hq
    · rw [e] at hq
      exact absurd (gA_ge X i r) (Nat.not_le.mpr hq)
  · by_cases hab2 : a = i ∧ b = r
    · obtain ⟨rfl, rfl⟩ := hab2
      exact hat
    · rw [hE a b hab hab2]
      refine (h4 a b hab hlt).kept (oq _ (fun e => hab2 ?_))
      exact gad_inj hab hr (Nat.add_left_cancel e)
section GROWS
variable {p : Program} {l : Launch} {e : Env} {R : Room} {s : State} {m : MethodId} {args : Array Value} {below : List Frame} {meth : Method} {c : Code} {H : Heap} {locs : List Loc} {cells slots : Nat} {Q : State → Prop}
variable {cc : ByteArray} {pc : Nat} {ls : Array Slot} {rest : List Value} {X : gX} {n : Nat} {E E' : Nat → Nat → va_E}
theorem g_get (hx : p.tables.exec = Jvm.exec) (hb : c.code = cc) {own C : String} {T : u_T} {N ci index : Nat} {Ts : List Cond} (hts : ∀ w ∈ Ts, w.before args s = true) (hin : ∀ w ∈ u_ws C T N, w ∈ Ts) (hown : s.vm.findClass own = some m.cls) (hK : gKt X s) (hW : gWo X n E H) {i r : Nat} (hr : gok i r) (hlt : gad i r < n) {fs : List Value} (he : E i r = .inr (ci, fs)) (hc : vwCl[ci]? = some (C, T, N)) (k : Nat) (hk : k < N) (hT : (T k).1 = C) (hlink : (Cond.fieldLink own index C (T k).2.1 (T k).2.2.1).before args s = true) {v : Value} (hv : fs[k]? = some v) (hdg : decode cc pc = .ok (.getfield index, 3))
    (kk : W p l e R s m args below meth c H locs cells slots Q (F0 m (pc + 3) ls (v :: rest))) : W p l e R s m args below meth c H locs cells slots Q (F0 m pc ls (.ref (gA X i r) :: rest)) :=
  va_get hx hb hts hin hown hK.1 (gP1 (hW.at hr hlt)) 0 (by rw [he]; rfl) hc k hk hlink (fun x h => by rw [hT] at h; exact h) hv hdg kk
theorem g_put (hx : p.tables.exec = Jvm.exec) (hb : c.code = cc) {own C : String} {T : u_T} {N ci index : Nat} {Ts : List Cond} (hts : ∀ w ∈ Ts, w.before args s = true) (hin : ∀ w ∈ u_ws C T N, w ∈ Ts) (ty0 : Nat → FieldType) (hty : ∀ k, k < N → parseFieldDescriptor (T k).2.2.1 = some (ty0 k)) (hnm : ∀ a, a < N → ∀ b, b < N → a ≠ b → (T a).2.1 ≠ (T b).2.1) (hown : s.vm.findClass own = some m.cls) (hK : gKt X s) (hW : gWo X n E H) (hL : gLo X locs) {i r : Nat} (hr : gok i r) (hlt : gad i r < n) {fs : List Value} (he : E i r = .inr (ci, fs)) (hc : vwCl[ci]? = some (C, T, N)) (k : Nat) (hk : k < N) (hT : (T k).1 = C) (hlink : (Cond.fieldLink own index C (T k).2.1 (T k).2.2.1).before args s = true) (hfin : (T k).2.2.2 = false) {ty : FieldType} {v : Value} (hd : parseFieldDescriptor (T k).2.2.1 = some ty) (hn : narrow ty v = v) (hfit : fits ty v = true) (hl : k < fs.length) (hdg : decode cc pc = .ok (.putfield index, 3))
    (hE1 : E' i r = .inr (ci, fs.set k v)) (hE2 : ∀ a b : Nat, gok a b → ¬ (a = i ∧ b = r) → E' a b = E a b)
    (kk : ∀ (H1 : Heap) (locs1 : List Loc), gWo X n E' H1 → gLo X locs1 → W p l e R s m args below meth c H1 locs1 cells slots Q (F0 m (pc + 3) ls rest)) : W p l e R s m args below meth c H locs cells slots Q (F0 m pc ls (v :: .ref (gA X i r) :: rest)) := by
  have hap := va_apart (own := own) hts hin ty0 hty hnm hK.1 hc
  have hat := hW.at hr hlt
  rw [he] at hat
  obtain ⟨r', h1, cell, q1, q2, q3, q4⟩ := hat
  have hr' : r' = (C, T, N) := Option.some.inj (h1.symm.trans hc)
  subst hr'
  obtain ⟨hS, hfc, kC, hkC, hkind⟩ := hK.1.1 ci _ hc
  obtain ⟨cf, kf, fi, f, hi, hsl⟩ := hS k hk
  have hlay := hts _ (hin _ (u_in_lay hk))
  unfold u_lay at hlay
  rw [if_neg (by rw [hfin]; decide)] at hlay
  have hst := (u_facts hfc hkC (u_lays hts hin hk) hi).1
  have h6 := u_store hfc hkC hkind hlay hi hd hn hfit
  refine W.putK hx hb (f := f) ⟨hown, hlink, ⟨_, _, _, by rw [← hT]; exact hi⟩, hst⟩ (by rw [q2]; exact h6) q1 q3 (by rw [hsl]; exact k2_hasslot (q4 k hk)) rfl rfl hdg fun H' e1 e2 e3 => ?_
  rw [hsl] at e1 ⊢
  refine kk H' _ (hW.put hr ?_ e2 e3 hE2) (gLo_snoc hL (gA_ge X i r))
  rw [hE1]
  exact ⟨_, hc, t_OB.to (V := updV (vp_V fs) k v) ⟨_, e1, q2, q3, t_set q4 hap hk v⟩ (fun j _ => vp_updV_set hl v j)⟩
theorem g_iald (hx : p.tables.exec = Jvm.exec) (hb : c.code = cc) (hK : gKt X s) (hW : gWo X n E H) {i r : Nat} (hr : gok i r) (hlt : gad i r < n) {len : Nat} {f : Nat → Int32} (he : E i r = .inl (X.cI, len, .inl f)) {x : Int32} (hin : vp_in x len) (hdg : decode cc pc = .ok (.iaload, 1))
    (kk : W p l e R s m args below meth c H locs cells slots Q (F0 m (pc + 1) ls (.int (f x.toNatClampNeg) :: rest))) : W p l e R s m args below meth c H locs cells slots Q (F0 m pc ls (.int x :: .ref (gA X i r) :: rest)) :=
  va_iald hx hb hK.1 (gP1 (hW.at hr hlt)) 0 0 (by rw [he]; rfl) rfl hin hdg kk
theorem g_iast (hx : p.tables.exec = Jvm.exec) (hb : c.code = cc) (hK : gKt X s) (hW : gWo X n E H) (hL : gLo X locs) {i r : Nat} (hr : gok i r) (hlt : gad i r < n) {len : Nat} {f : Nat → Int32} (he : E i r = .inl (X.cI, len, .inl f)) {x y : Int32} (hin : vp_in x len) (hdg : decode cc pc = .ok (.iastore, 1))
    (hE1 : E' i r = .inl (X.cI, len, .inl (upd f x.toNatClampNeg y))) (hE2 : ∀ a b : Nat, gok a b → ¬ (a = i ∧ b = r) → E' a b = E a b)
    (kk : ∀ (H1 : Heap) (locs1 : List Loc), gWo X n E' H1 → gLo X locs1 → W p l e R s m args below meth c H1 locs1 cells slots Q (F0 m (pc + 1) ls rest)) : W p l e R s m args below meth c H locs cells slots Q (F0 m pc ls (.int y :: .int x :: .ref (gA X i r) :: rest)) := by
  have hat := hW.at hr hlt
  rw [he] at hat
  refine W.iast hx hb hat ((hK.1.2 0 _ rfl).1 len (fun j => .int (f j))) (fun q => by cases q) (by show ¬ (x < 0 ∨ (arrV _ _ _).slots.size ≤ _); rw [arrV_size]; exact hin) rfl rfl hdg fun H1 e1 z oq => ?_
  refine kk H1 _ (hW.put hr ?_ z oq hE2) (gLo_snoc hL (gA_ge X i r))
  rw [hE1]
  show H1[gA X i r]? = some (vp_cell _ _)
  rw [e1]
  rw [vp_cell_i, vp_cell_i, arrV_store]
  congr 2
  funext q
  by_cases hq : q = x.toNatClampNeg
  · subst hq
    simp [updV, upd]
  · simp [updV, upd, hq]
theorem g_aald (hx : p.tables.exec = Jvm.exec) (hb : c.code = cc) (hK : gKt X s) (hW : gWo X n E H) {i r : Nat} (hr : gok i r) (hlt : gad i r < n) {cA : ClassId} {C : String} {len : Nat} {f : Nat → Option Nat} (he : E i r = .inl (cA, len, .inr (.inr (.inr (.inr f))))) (t0 : Nat) (ht : ([(X.cI, .int), (X.cS, .object RX10), (X.cM, .object RX5)] : List (ClassId × FieldType))[t0]? = some (cA, .object C)) {x : Int32} {a : Nat} (ha : f x.toNatClampNeg = some a) (hin : vp_in x len) (hdg : decode cc pc = .ok (.aaload, 1))
    (kk : W p l e R s m args below meth c H locs cells slots Q (F0 m (pc + 1) ls (.ref a :: rest))) : W p l e R s m args below meth c H locs cells slots Q (F0 m pc ls (.int x :: .ref (gA X i r) :: rest)) := by
  refine va_aldq hx hb hK.1 (gP1 (hW.at hr hlt)) 0 t0 (by rw [he]; rfl) ht hin hdg ?_
  rw [ha]
  exact kk
theorem g_aast (hx : p.tables.exec = Jvm.exec) (hb : c.code = cc) (hK : gKt X s) (hW : gWo X n E H) (hL : gLo X locs) {i r : Nat} (hr : gok i r) (hlt : gad i r < n) {cA : ClassId} {len : Nat} {f : Nat → Option Nat} (he : E i r = .inl (cA, len, .inr (.inr (.inr (.inr f))))) (t0 : Nat) {q0 : vw_C} (ht : ([(X.cI, .int), (X.cS, .object RX10), (X.cM, .object RX5)] : List (ClassId × FieldType))[t0]? = some (cA, .object q0.1)) {i2 r2 ci : Nat} (hr2 : gok i2 r2) (hlt2 : gad i2 r2 < n) {vs : List Value} (he2 : E i2 r2 = .inr (ci, vs)) (hc : vwCl[ci]? = some q0) {x : Int32} (hin : vp_in x len) (hdg : decode cc pc = .ok (.aastore, 1))
    (hE1 : E' i r = .inl (cA, len, .inr (.inr (.inr (.inr (va_up f x.toNatClampNeg (some (gA X i2 r2)))))))) (hE2 : ∀ a b : Nat, gok a b → ¬ (a = i ∧ b = r) → E' a b = E a b)
    (kk : ∀ (H1 : Heap) (locs1 : List Loc), gWo X n E' H1 → gLo X locs1 → W p l e R s m args below meth c H1 locs1 cells slots Q (F0 m (pc + 1) ls rest)) : W p l e R s m args below meth c H locs cells slots Q (F0 m pc ls (.ref (gA X i2 r2) :: .int x :: .ref (gA X i r) :: rest)) := by
  have hlt0 : x.toNatClampNeg < len := Nat.not_le.mp fun q => hin (Or.inr q)
  have h0 : ¬ x < 0 := fun q => hin (Or.inl q)
  have hat2 := hW.at hr2 hlt2
  rw [he2] at hat2
  obtain ⟨r', hr', cellV, g1, g2, g3, -⟩ := hat2
  have hcls := (hK.1.1 ci q0 hc).2
  obtain ⟨kA, comp, k1, k2, k3, -⟩ := (hK.1.2 t0 _ ht).2
  have hcomp : comp = X.D.1 ci := Option.some.inj (k3.symm.trans hcls.1)
  subst hcomp
  obtain ⟨kC, hkC, -⟩ := hcls.2
  have hat := hW.at hr hlt
  rw [he] at hat
  refine W.aast hx hb hat (fun q h => by cases h) (fun h => by cases h) k1 k2 rfl hkC ⟨h0, by show _ < (arrV _ _ _).slots.size; rw [arrV_size]; exact hlt0⟩ g1 (fun q h => by rw [g3] at h; cases h) (by rw [g2]; exact hkC) (by rw [g2]; exact va_assign hcls) rfl rfl hdg fun H1 e1 z oq => ?_
  refine kk H1 _ (hW.put hr ?_ z oq hE2) (gLo_snoc hL (gA_ge X i r))
  rw [hE1]
  show H1[gA X i r]? = some (vp_cell _ _)
  rw [e1]
  rw [vp_cell_q, vp_cell_q, arrV_store]
  congr 2
  funext q
  by_cases hq : q = x.toNatClampNeg
  · subst hq
    simp [updV, va_up, va_rf]
  · simp [updV, va_up, hq]
theorem g_gets (hx : p.tables.exec = Jvm.exec) (hb : c.code = cc) {C n0 d own : String} {v : Value} {index : Nat} (hZ : va_Z C n0 d v (fun q => X.B ≤ q) s X.H0) (hW : gWo X n E H) (hown : s.vm.findClass own = some m.cls) (hlink : (Cond.fieldLink own index C n0 d).before args s = true) (hdg : decode cc pc = .ok (.getstatic index, 3))
    (kk : W p l e R s m args below meth c H locs cells slots Q (F0 m (pc + 3) ls (v :: rest))) : W p l e R s m args below meth c H locs cells slots Q (F0 m pc ls rest) := by
  obtain ⟨cf, kf, fi, f, a, cell, h1, h2, h3, h4, h5, h6, h7, h8⟩ := hZ
  exact W.gets hx hb hown hlink h1 h2 h3 h4 (by rw [hW.2.2.1 a (Nat.not_le.mp h8)]; exact h5) (fun e => by rw [e] at h6; cases h6) h7 rfl hdg kk
theorem g_ti (hx : p.tables.exec = Jvm.exec) (hb : c.code = cc) {t N : Nat} {f : Nat → Int32} (hT : va_T .int t N (fun j => .int (f j)) (fun q => X.B ≤ q) s X.H0) (hW : gWo X n E H) {x : Int32} (hin : vp_in x N) (hdg : decode cc pc = .ok (.iaload, 1))
    (kk : W p l e R s m args below meth c H locs cells slots Q (F0 m (pc + 1) ls (.int (f x.toNatClampNeg) :: rest))) : W p l e R s m args below meth c H locs cells slots Q (F0 m pc ls (.int x :: .ref t :: rest)) := by
  obtain ⟨cell, h1, h2, h3, h4, h5, h6, h7⟩ := hT
  have hlt : x.toNatClampNeg < N := Nat.not_le.mp fun q => hin (Or.inr q)
  have hin' : ¬ (x < 0 ∨ cell.slots.size ≤ x.toNatClampNeg) := by
    intro q
    rcases q with q | q
    · exact hin (Or.inl q)
    · omega
  exact W.iald (v := .int (f x.toNatClampNeg)) hx hb (by rw [hW.2.2.1 t (Nat.not_le.mp h7)]; exact h1) h2 h3 hin' (by rw [h6 _ hlt]) rfl rfl hdg kk
/-- a name for the int on top -/
theorem g_top {x y : Int32} (h : y = x) (k : W p l e R s m args below meth c H locs cells slots Q (F0 m pc ls (.int y :: rest))) : W p l e R s m args below meth c H locs cells slots Q (F0 m pc ls (.int x :: rest)) := h ▸ k
theorem g_topf {x y : UInt32} (h : y = x) (k : W p l e R s m args below meth c H locs cells slots Q (F0 m pc ls (.float y :: rest))) : W p l e R s m args below meth c H locs cells slots Q (F0 m pc ls (.float x :: rest)) := h ▸ k
end GROWS
/-! contracts: the world w before, the world w' behind -/
def gPc (X : gX) (as : List Value) (w : gWd) : Array Value → State → Prop := va_Pc as (fun U => gKt X U ∧ gWo X 251 (gE X w) U.heap)
def gQi (X : gX) (r : Int32) (w : gWd) : Array Value → State → Outcome → State → Prop := fun _ _ oc t => oc = .returned (some (.int r)) ∧ gWo X 251 (gE X w) t.heap
def gQv (X : gX) (w : gWd) : Array Value → State → Outcome → State → Prop := fun _ _ oc t => oc = .returned none ∧ gWo X 251 (gE X w) t.heap
abbrev gFr (X : gX) : Addr → Prop := fun q => X.B ≤ q
theorem gBlind (X : gX) (as : List Value) (w : gWd) : FrameBlind (gPc X as w) := fun a U g mk h => ⟨h.1, gKt.moved (u := U) (U := U.calling g mk a) (Vm.Alike.refl U.vm) h.2.1, h.2.2⟩
section GCALLS
variable {p : Program} {l : Launch} {e : Env} {R : Room} {s : State} {m : MethodId} {args : Array Value} {below : List Frame} {meth : Method} {c : Code} {H : Heap} {locs : List Loc} {cells slots : Nat} {Q : State → Prop}
variable {cc : ByteArray} {pc nL : Nat} {ls : Array Slot} {rest st : List Value} {X : gX} {w w' : gWd} {r : Int32}
variable {y : MethodName} {bytes : ByteArray} {maxL n index : Nat} {ret : Option FieldType} {ws : List Cond} {rm : Room} {Ts : List Cond} {own C : String} {As : List Value}
theorem g_endi {g : JFrame} (hr : va_Run p l e R s m args below meth c H locs cells slots 0 0 g rest (gQi X r w' As.toArray) (gFr X)) (hg : g = F0 m pc ls st) (hL : gLo X locs)
    (kk : ∀ (H1 : Heap) (locs1 : List Loc), gWo X 251 (gE X w') H1 → gLo X locs1 → W p l e R s m args below meth c H1 locs1 cells slots Q (F0 m (pc + 3) ls (.int r :: rest))) : W p l e R s m args below meth c H locs cells slots Q (F0 m pc ls st) := by
  subst hg
  intro T hT X1
  obtain ⟨v, st₀, t, T', L, h0, X', hL', e1, e2, ⟨hv, hw⟩, sp⟩ := hr T hT X1
  cases hv
  obtain ⟨t2, a1, b1⟩ := kk T'.heap (locs ++ L) (by rw [e1]; exact hw) (gLo_app hL (fun q hq => hL' q hq)) T' rfl X'
  exact ⟨t2, sp t2 a1, b1⟩
theorem g_endv {g : JFrame} (hr : va_Run p l e R s m args below meth c H locs cells slots 0 0 g rest (gQv X w' As.toArray) (gFr X)) (hg : g = F0 m pc ls st) (hL : gLo X locs)
    (kk : ∀ (H1 : Heap) (locs1 : List Loc), gWo X 251 (gE X w') H1 → gLo X locs1 → W p l e R s m args below meth c H1 locs1 cells slots Q (F0 m (pc + 3) ls rest)) : W p l e R s m args below meth c H locs cells slots Q (F0 m pc ls st) := by
  subst hg
  intro T hT X1
  obtain ⟨v, st₀, t, T', L, h0, X', hL', e1, e2, ⟨hv, hw⟩, sp⟩ := hr T hT X1
  cases hv
  obtain ⟨t2, a1, b1⟩ := kk T'.heap (locs ++ L) (by rw [e1]; exact hw) (gLo_app hL (fun q hq => hL' q hq)) T' rfl X'
  exact ⟨t2, sp t2 a1, b1⟩
/-- the caller's own constants: machine, code, locals, class, words -/
abbrev gFix (p : Program) (m : MethodId) (c : Code) (cc : ByteArray) (nL : Nat) (s : State) (args : Array Value) (Ts : List Cond) (own : String) : Prop := CallFix p m c cc nL s args Ts own
theorem g_preS (hK : gKt X s) (hW : gWo X 251 (gE X w) H) : PreS s H (gPc X As w) As := ⟨gBlind X As w, fun U hU hWm => ⟨rfl, gKt.moved hWm.alike hK, by rw [hU]; exact hW⟩⟩
theorem g_preV (hK : gKt X s) (hW : gWo X 251 (gE X w) H) {i r ci : Nat} (hr : gok i r) {fs : List Value} (he : gE X w i r = .inr (ci, fs)) {q : vw_C} (hc : vwCl[ci]? = some q) : PreV s H q.1 (gA X i r) (gPc X (.ref (gA X i r) :: As) w) As :=
  ⟨gBlind X _ w, va_recv hK.1 (gP1 (hW.at hr (gad_lt hr))) hc (q0 := 0) (by rw [he]; rfl), fun U hU hWm => ⟨rfl, gKt.moved hWm.alike hK, by rw [hU]; exact hW⟩⟩
theorem g_Si (S : CallFix p m c cc nL s args Ts own) (hK : gKt X s) (hW : gWo X 251 (gE X w) H) (hL : gLo X locs) (hl : ls.size = nL) (hM : Met l y ws rm (gPc X As w) (gQi X r w') 0 0 (gFr X)) (cw : CallB R s args own index y bytes maxL ret ws rm 0 0 n ∧ (Cond.static y).before args s = true) (hn : As.length = n) (hst : st = As.reverse ++ rest) (hm : (rest.map fun v => v.category).sum ≤ 8) (hdg : decode cc pc = .ok (.invokestatic index, 3)) (hf : cells + 0 ≤ R.cells ∧ slots + 0 ≤ R.slots)
    (kk : ∀ (H1 : Heap) (locs1 : List Loc), gWo X 251 (gE X w') H1 → gLo X locs1 → W p l e R s m args below meth c H1 locs1 cells slots Q (F0 m (pc + 3) ls (.int r :: rest))) : W p l e R s m args below meth c H locs cells slots Q (F0 m pc ls st) :=
  g_endi (va_runS (rest := rest) S hM cw (g_preS hK hW) rfl hn hl hst (lv_room hm) hdg hf) rfl hL kk
theorem g_Sv (S : CallFix p m c cc nL s args Ts own) (hK : gKt X s) (hW : gWo X 251 (gE X w) H) (hL : gLo X locs) (hl : ls.size = nL) (hM : Met l y ws rm (gPc X As w) (gQv X w') 0 0 (gFr X)) (cw : CallB R s args own index y bytes maxL ret ws rm 0 0 n ∧ (Cond.static y).before args s = true) (hn : As.length = n) (hst : st = As.reverse ++ rest) (hm : (rest.map fun v => v.category).sum ≤ 8) (hdg : decode cc pc = .ok (.invokestatic index, 3)) (hf : cells + 0 ≤ R.cells ∧ slots + 0 ≤ R.slots)
    (kk : ∀ (H1 : Heap) (locs1 : List Loc), gWo X 251 (gE X w') H1 → gLo X locs1 → W p l e R s m args below meth c H1 locs1 cells slots Q (F0 m (pc + 3) ls rest)) : W p l e R s m args below meth c H locs cells slots Q (F0 m pc ls st) :=
  g_endv (va_runS (rest := rest) S hM cw (g_preS hK hW) rfl hn hl hst (lv_room hm) hdg hf) rfl hL kk
theorem g_Vi (S : CallFix p m c cc nL s args Ts own) (hK : gKt X s) (hW : gWo X 251 (gE X w) H) (hL : gLo X locs) (hl : ls.size = nL) {i0 r0 ci : Nat} (hr0 : gok i0 r0) {fs : List Value} (he : gE X w i0 r0 = .inr (ci, fs)) {q : vw_C} (hc : vwCl[ci]? = some q) (hM : Met l y ws rm (gPc X (.ref (gA X i0 r0) :: As) w) (gQi X r w') 0 0 (gFr X)) (cw : CallW R s args own q.1 index y bytes maxL ret ws rm 0 0 n) (hn : As.length = n) (hst : st = As.reverse ++ .ref (gA X i0 r0) :: rest) (hm : (rest.map fun v => v.category).sum ≤ 8) (hdg : decode cc pc = .ok (.invokevirtual index, 3)) (hf : cells + 0 ≤ R.cells ∧ slots + 0 ≤ R.slots)
    (kk : ∀ (H1 : Heap) (locs1 : List Loc), gWo X 251 (gE X w') H1 → gLo X locs1 → W p l e R s m args below meth c H1 locs1 cells slots Q (F0 m (pc + 3) ls (.int r :: rest))) : W p l e R s m args below meth c H locs cells slots Q (F0 m pc ls st) :=
  g_endi (As := .ref (gA X i0 r0) :: As) (va_runV (rest := rest) S hM cw (g_preV hK hW hr0 he hc) rfl hn hl hst (lv_room hm) hdg hf) rfl hL kk
theorem g_Vv (S : CallFix p m c cc nL s args Ts own) (hK : gKt X s) (hW : gWo X 251 (gE X w) H) (hL : gLo X locs) (hl : ls.size = nL) {i0 r0 ci : Nat} (hr0 : gok i0 r0) {fs : List Value} (he : gE X w i0 r0 = .inr (ci, fs)) {q : vw_C} (hc : vwCl[ci]? = some q) (hM : Met l y ws rm (gPc X (.ref (gA X i0 r0) :: As) w) (gQv X w') 0 0 (gFr X)) (cw : CallW R s args own q.1 index y bytes maxL ret ws rm 0 0 n) (hn : As.length = n) (hst : st = As.reverse ++ .ref (gA X i0 r0) :: rest) (hm : (rest.map fun v => v.category).sum ≤ 8) (hdg : decode cc pc = .ok (.invokevirtual index, 3)) (hf : cells + 0 ≤ R.cells ∧ slots + 0 ≤ R.slots)
    (kk : ∀ (H1 : Heap) (locs1 : List Loc), gWo X 251 (gE X w') H1 → gLo X locs1 → W p l e R s m args below meth c H1 locs1 cells slots Q (F0 m (pc + 3) ls rest)) : W p l e R s m args below meth c H locs cells slots Q (F0 m pc ls st) :=
  g_endv (As := .ref (gA X i0 r0) :: As) (va_runV (rest := rest) S hM cw (g_preV hK hW hr0 he hc) rfl hn hl hst (lv_room hm) hdg hf) rfl hL kk
/-- a method's start -/
theorem g_ofW {ws' : List Cond} {Qc : Array Value → State → Outcome → State → Prop} (hy : plainName y.cls = true) (hw : ws = Cond.code y cc maxL ret :: ws') (hlen : (lg_sl As).length ≤ maxL)
    (body : ∀ (p : Program) (e : Env) (s : State) (m : MethodId) (args : Array Value) (below : List Frame) (meth : Method) (c : Code) (ls : Array Slot) (H : Heap), p.tables.exec = Jvm.exec → c.code = cc → meth.sig.returnType = ret → (∀ w ∈ ws, w.before args s = true) → s.vm.findClass y.cls = some m.cls → meth.locks = false → c.maxLocals = maxL → gKt X s → lv_has ls maxL (lv_args 0 As) → gWo X 251 (gE X w) H → W p l e (headSpec ws rm).room s m args below meth c H [] 0 0 (MQ below Qc args s 0 0 (gFr X)) (F0 m 0 ls [])) : Met l y ws rm (gPc X As w) Qc 0 0 (gFr X) := by
  refine Met.ofW (cc := cc) (maxL := maxL) (ret := ret) hy hw ?_
  intro p e s m args below meth c s₁ B hml hv
  obtain ⟨rfl, hK, hW⟩ := hv
  have hl := lv_entry As (n := maxL) hlen
  rw [lg_entry_eq]
  exact body p e s m _ below meth c _ s.heap B.exec B.bytes B.returns (atoms_spec (ws := ws) B.pre) (findClass_of_methodNamed B.named) B.notSynchronized hml hK hl hW
theorem g_ri (hx : p.tables.exec = Jvm.exec) (hb : c.code = cc) (hr : meth.sig.returnType = some .int) (hlocks : meth.locks = false) (hW : gWo X 251 (gE X w) H) (hL : gLo X locs) {v : Int32} (hv : v = r) (hdg : decode cc pc = .ok (.ireturn, 1)) : W p l e R s m args below meth c H locs cells slots (MQ below (gQi X r w) args s cells slots (gFr X)) (F0 m pc ls [.int v]) :=
  W.iret hx hb hr (fun t ht _ => ⟨by rw [hv], by rw [ht]; exact hW⟩) hL hdg
theorem g_rz (hx : p.tables.exec = Jvm.exec) (hb : c.code = cc) (hr : meth.sig.returnType = some .boolean) (hlocks : meth.locks = false) (hW : gWo X 251 (gE X w) H) (hL : gLo X locs) {v : Int32} (hz : v = 0 ∨ v = 1) (hv : v = r) (hdg : decode cc pc = .ok (.ireturn, 1)) : W p l e R s m args below meth c H locs cells slots (MQ below (gQi X r w) args s cells slots (gFr X)) (F0 m pc ls [.int v]) :=
  W.zret hx hb hr (by rcases hz with rfl | rfl <;> rfl) (fun t ht _ => ⟨by rw [hv], by rw [ht]; exact hW⟩) hL hdg
theorem g_rv (hx : p.tables.exec = Jvm.exec) (hb : c.code = cc) (hr : meth.sig.returnType = none) (hlocks : meth.locks = false) (hW : gWo X 251 (gE X w) H) (hL : gLo X locs) (hdg : decode cc pc = .ok (.return_, 1)) : W p l e R s m args below meth c H locs cells slots (MQ below (gQv X w) args s cells slots (gFr X)) (F0 m pc ls []) :=
  W.vret hx hb hr (fun t ht _ => ⟨rfl, by rw [ht]; exact hW⟩) hL hdg
end GCALLS
/-! the pure programs' own words -/
def gS {α β : Type} (v : α) (f : α → β) : β := f v
def gB {α : Type} (x : Int32) (n : Nat) (f : Nat → Option α) : Option α := if x < 0 ∨ n ≤ x.toNatClampNeg then none else f x.toNatClampNeg
def gM {α : Type} (i n : Nat) (f : Option α) : Option α := if i < n then f else none
def gZ {α : Type} (v : Int32) (x : Option α) : Option α := if v = 0 ∨ v = 1 then x else none
def gD {α : Type} (v : Int32) (x : Option α) : Option α := if v = 0 then none else x
def gN {α : Type} (v : UInt32) (x : Option α) : Option α := if v &&& 0x7fffffff ≤ 0x7f800000 then x else none
def gC {α β : Type} (x : Option (α × gWd)) (f : α → gWd → Option β) : Option β := match x with
  | none => none
  | some q => f q.1 q.2
def gP {α β : Type} (x : Option α) (f : α → Option β) : Option β := match x with
  | none => none
  | some q => f q
theorem gS_some {α β : Type} {v : α} {f : α → Option β} {r : β} (h : gS v f = some r) : ∃ x, x = v ∧ f x = some r := ⟨v, rfl, h⟩
theorem gB_some {α : Type} {x : Int32} {n : Nat} {f : Nat → Option α} {r : α} (h : gB x n f = some r) : vp_in x n ∧ f x.toNatClampNeg = some r := by
  unfold gB at h
  by_cases hc : x < 0 ∨ n ≤ x.toNatClampNeg
  · rw [if_pos hc] at h; cases h
  · rw [if_neg hc] at h; exact ⟨hc, h⟩
theorem gM_some {α : Type} {i n : Nat} {f : Option α} {r : α} (h : gM i n f = some r) : i < n ∧ f = some r := by
  unfold gM at h
  by_cases hc : i < n
  · rw [if_pos hc] at h; exact ⟨hc, h⟩
  · rw [if_neg hc] at h; cases h
theorem gZ_some {α : Type} {v : Int32} {x : Option α} {r : α} (h : gZ v x = some r) : (v = 0 ∨ v = 1) ∧ x = some r := by
  unfold gZ at h
  by_cases hc : v = 0 ∨ v = 1
  · rw [if_pos hc] at h; exact ⟨hc, h⟩
  · rw [if_neg hc] at h; cases h
theorem gD_some {α : Type} {v : Int32} {x : Option α} {r : α} (h : gD v x = some r) : ¬ v = 0 ∧ x = some r := by
  unfold gD at h
  by_cases hc : v = 0
  · rw [if_pos hc] at h; cases h
  · rw [if_neg hc] at h; exact ⟨hc, h⟩
theorem gN_some {α : Type} {v : UInt32} {x : Option α} {r : α} (h : gN v x = some r) : vf_n32 v ∧ x = some r := by
  unfold gN at h
  by_cases hc : v &&& 0x7fffffff ≤ 0x7f800000
  · rw [if_pos hc] at h; exact ⟨hc, h⟩
  · rw [if_neg hc] at h; cases h
theorem gC_some {α β : Type} {x : Option (α × gWd)} {f : α → gWd → Option β} {r : β} (h : gC x f = some r) : ∃ a w, x = some (a, w) ∧ f a w = some r := by
  cases x with
  | none => cases h
  | some q => exact ⟨q.1, q.2, rfl, h⟩
theorem gP_some {α β : Type} {x : Option α} {f : α → Option β} {r : β} (h : gP x f = some r) : ∃ a, x = some a ∧ f a = some r := by
  cases x with
  | none => cases h
  | some q => exact ⟨q, rfl, h⟩
theorem gT {α : Type} {c : Prop} [Decidable c] {a b : Option α} {r : α} (h : c) (hF : (if c then a else b) = some r) : a = some r := by rw [if_pos h] at hF; exact hF
theorem gF {α : Type} {c : Prop} [Decidable c] {a b : Option α} {r : α} (h : ¬ c) (hF : (if c then a else b) = some r) : b = some r := by rw [if_neg h] at hF; exact hF
theorem vp_lt {x : Int32} {n : Nat} (h : vp_in x n) : x.toNatClampNeg < n := Nat.not_le.mp fun q => h (Or.inr q)
theorem g_tabOut {x : Int32} {lo hi : Int} (h : ∀ k : Int, lo ≤ k → k ≤ hi → x.toInt ≠ k) : x.toInt < lo ∨ hi < x.toInt := by
  by_cases h1 : x.toInt < lo
  · exact Or.inl h1
  · by_cases h2 : hi < x.toInt
    · exact Or.inr h2
    · exact absurd rfl (h x.toInt (by omega) (by omega))
/-! what the generated rows name -/
def gFU : Nat := 2000
theorem gok_s {i n : Nat} (hi : i < 7) (hn : n < 30) : gok i (4 + n) := gok_m hi (by omega)
theorem gok_a {r : Nat} (hr : r = 1 ∨ r = 3) : gok 8 r := gok_o (by omega)
theorem h07 : 0 < 7 := by decide
theorem h17 : 1 < 7 := by decide
theorem hr1 : 1 = 1 ∨ 1 = 3 := Or.inl rfl
theorem hr3 : 3 = 1 ∨ 3 = 3 := Or.inr rfl
theorem hr2 : True := trivial
theorem hr4 : True := trivial
theorem hr5 : True := trivial
theorem hr6 : True := trivial
section GEO
variable {X : gX} {w : gWd}
theorem gE_G : gE X w 7 0 = .inr (5, [.ref (gA X 0 0), .ref (gA X 1 0), .ref (gA X 7 1), .ref (gA X 7 3), .ref (gA X 7 5)]) := rfl
theorem gE_H : gE X w 7 1 = .inr (0, [.ref (gA X 7 2), .int (w 7 1 1)]) := rfl
theorem gE_Arows : gE X w 7 2 = .inl (X.cM, 5, .inr (.inr (.inr (.inr (fun n => some (gA X (w 7 2 n).toNatClampNeg 0)))))) := rfl
theorem gE_T : gE X w 7 3 = .inr (2, [.ref (gA X 7 4), .int (w 7 3 1), .int (w 7 3 2), .int (w 7 3 3), .int (w 7 3 4), .int (w 7 3 5), .int (w 7 3 6), .int (w 7 3 7)]) := rfl
theorem gE_Asig : gE X w 7 4 = .inl (X.cI, 60, .inl (w 7 4)) := rfl
theorem gE_R : gE X w 7 5 = .inr (3, [.int (w 7 5 0), .int (w 7 5 1), .int (w 7 5 2), .int (w 7 5 3)]) := rfl
theorem gE_O : gE X w 8 0 = .inr (6, [.ref (gA X 8 1), .ref (gA X 8 2), .ref (gA X 8 3), .int (w 8 0 3), .int (w 8 0 4), .ref (gA X 8 4), .int (w 8 0 6), .ref (gA X 8 5), .int (w 8 0 8), .int (w 8 0 9), .int (w 8 0 10), .int (w 8 0 11), .int (w 8 0 12), .int (w 8 0 13), .ref (gA X 8 6)]) := rfl
theorem gE_O1 : gE X w 8 1 = .inl (X.cI, 320, .inl (w 8 1)) := rfl
theorem gE_O2 : gE X w 8 2 = .inl (X.cI, 1280, .inl (w 8 2)) := rfl
theorem gE_O3 : gE X w 8 3 = .inl (X.cI, 320, .inl (w 8 3)) := rfl
theorem gE_O4 : gE X w 8 4 = .inl (X.cI, 60, .inl (w 8 4)) := rfl
theorem gE_O5 : gE X w 8 5 = .inl (X.cI, 30, .inl (w 8 5)) := rfl
theorem gE_O6 : gE X w 8 6 = .inl (X.cI, 2, .inl (w 8 6)) := rfl
theorem gE_Oa {r : Nat} (hr : r = 1 ∨ r = 3) : gE X w 8 r = .inl (X.cI, 320, .inl (w 8 r)) := by rcases hr with rfl | rfl <;> rfl
end GEO
theorem vp_lt2 {x : Int32} {n k : Nat} (h : vp_in x n) (hk : x.toNatClampNeg = k) : k < n := hk ▸ vp_lt h
theorem gin {x : Int32} {n : Nat} (h : decide (x < 0 ∨ n ≤ x.toNatClampNeg) = false) : vp_in x n := of_decide_eq_false h
theorem gW1 {X : gX} {w w' : gWd} {H : Heap} (hF : some w = some w') (hW : gWo X 251 (gE X w) H) : gWo X 251 (gE X w') H := by cases hF; exact hW
theorem gW2 {X : gX} {w w' : gWd} {v r : Int32} {H : Heap} (hF : some (v, w) = some (r, w')) (hW : gWo X 251 (gE X w) H) : gWo X 251 (gE X w') H := by cases hF; exact hW
theorem gI2 {α β : Type} {a c : α} {b d : β} (h : some (a, b) = some (c, d)) : a = c ∧ b = d := by cases h; exact ⟨rfl, rfl⟩
theorem g_lkOut {x : Int32} (h1 : ¬ x = 100) (h2 : ¬ x = 101) (h3 : ¬ x = 102) (h4 : ¬ x = 111) (h5 : ¬ x = 115) (h6 : ¬ x = 120) : Op.lookupswitch.offset [(100, 105), (101, 60), (102, 110), (111, 115), (115, 77), (120, 94)] 120 x.toInt = 120 := by
  have e : ∀ k : Int32, ¬ x = k → ¬ k.toInt = x.toInt := fun k h z => h (Int32.toInt_inj.mp z.symm)
  rw [Op.lookupswitch.offset_cons, if_neg (e 100 h1), Op.lookupswitch.offset_cons, if_neg (e 101 h2), Op.lookupswitch.offset_cons, if_neg (e 102 h3), Op.lookupswitch.offset_cons, if_neg (e 111 h4), Op.lookupswitch.offset_cons, if_neg (e 115 h5), Op.lookupswitch.offset_cons, if_neg (e 120 h6)]
  rfl
section GROWS2
variable {p : Program} {l : Launch} {e : Env} {R : Room} {s : State} {m : MethodId} {args : Array Value} {below : List Frame} {meth : Method} {c : Code} {H : Heap} {locs : List Loc} {cells slots : Nat} {Q : State → Prop}
variable {cc : ByteArray} {pc : Nat} {ls : Array Slot} {rest : List Value} {X : gX} {w : gWd}
theorem g_iald2 {n : Nat} {E : Nat → Nat → va_E} (hx : p.tables.exec = Jvm.exec) (hb : c.code = cc) (hK : gKt X s) (hW : gWo X n E H) {i r k : Nat} (hr : gok i r) (hlt : gad i r < n) {len : Nat} {f : Nat → Int32} (he : E i r = .inl (X.cI, len, .inl f)) {x : Int32} (hin : vp_in x len) (hk : x.toNatClampNeg = k) (hdg : decode cc pc = .ok (.iaload, 1))
    (kk : W p l e R s m args below meth c H locs cells slots Q (F0 m (pc + 1) ls (.int (f k) :: rest))) : W p l e R s m args below meth c H locs cells slots Q (F0 m pc ls (.int x :: .ref (gA X i r) :: rest)) := by
  subst hk
  exact g_iald hx hb hK hW hr hlt he hin hdg kk
theorem g_iast2 (hx : p.tables.exec = Jvm.exec) (hb : c.code = cc) (hK : gKt X s) (hW : gWo X 251 (gE X w) H) (hL : gLo X locs) {i r k : Nat} (hr : gok i r) {len : Nat} (he : ∀ w : gWd, gE X w i r = .inl (X.cI, len, .inl (w i r))) {x y : Int32} (hin : vp_in x len) (hk : x.toNatClampNeg = k) (hdg : decode cc pc = .ok (.iastore, 1))
    (kk : ∀ (H1 : Heap) (locs1 : List Loc), gWo X 251 (gE X (up3 w i r k y)) H1 → gLo X locs1 → W p l e R s m args below meth c H1 locs1 cells slots Q (F0 m (pc + 1) ls rest)) : W p l e R s m args below meth c H locs cells slots Q (F0 m pc ls (.int y :: .int x :: .ref (gA X i r) :: rest)) := by
  subst hk
  exact g_iast hx hb hK hW hL hr (gad_lt hr) (he w) hin hdg (by rw [he, up3_row]) (fun a b hab h => gE_up_ne h hab) kk
theorem r_all (hx : p.tables.exec = Jvm.exec) (hb : c.code = cc) (hK : gKt X s) (hW : gWo X 251 (gE X w) H) {i k : Nat} (hi : i < 7) {x : Int32} (hin : vp_in x 30) (hk : x.toNatClampNeg = k) (hdg : decode cc pc = .ok (.aaload, 1))
    (kk : W p l e R s m args below meth c H locs cells slots Q (F0 m (pc + 1) ls (.ref (gA X i (4 + k)) :: rest))) : W p l e R s m args below meth c H locs cells slots Q (F0 m pc ls (.int x :: .ref (gA X i 2) :: rest)) := by
  subst hk
  exact g_aald hx hb hK hW (gok_m hi (by decide)) (gad_lt (gok_m hi (by decide))) (gE_m2 hi) 1 rfl rfl hin hdg kk
theorem r_rows (hx : p.tables.exec = Jvm.exec) (hb : c.code = cc) (hK : gKt X s) (hW : gWo X 251 (gE X w) H) {k : Nat} {x : Int32} (hin : vp_in x 5) (hk : x.toNatClampNeg = k) (hdg : decode cc pc = .ok (.aaload, 1))
    (kk : W p l e R s m args below meth c H locs cells slots Q (F0 m (pc + 1) ls (.ref (gA X ((w 7 2 k).toNatClampNeg) 0) :: rest))) : W p l e R s m args below meth c H locs cells slots Q (F0 m pc ls (.int x :: .ref (gA X 7 2) :: rest)) := by
  subst hk
  exact g_aald hx hb hK hW (gok_c (by decide)) (gad_lt (gok_c (by decide))) gE_Arows 2 rfl rfl hin hdg kk
theorem r_rowst (hx : p.tables.exec = Jvm.exec) (hb : c.code = cc) (hK : gKt X s) (hW : gWo X 251 (gE X w) H) (hL : gLo X locs) {i k : Nat} (hi : i < 7) {x : Int32} (hin : vp_in x 5) (hk : x.toNatClampNeg = k) (hdg : decode cc pc = .ok (.aastore, 1))
    (kk : ∀ (H1 : Heap) (locs1 : List Loc), gWo X 251 (gE X (up3 w 7 2 k (nI i))) H1 → gLo X locs1 → W p l e R s m args below meth c H1 locs1 cells slots Q (F0 m (pc + 1) ls rest)) : W p l e R s m args below meth c H locs cells slots Q (F0 m pc ls (.ref (gA X i 0) :: .int x :: .ref (gA X 7 2) :: rest)) := by
  subst hk
  refine g_aast hx hb hK hW hL (gok_c (by decide)) (gad_lt (gok_c (by decide))) gE_Arows 2 (q0 := (RX5, TX5, 11)) rfl (gok_m hi (by decide)) (gad_lt (gok_m hi (by decide))) (gE_m0 hi) rfl hin hdg ?_ (fun a b hab h => gE_up_ne h hab) kk
  rw [gE_Arows]
  congr 7
  funext n
  unfold va_up up3
  by_cases hn : n = x.toNatClampNeg
  · subst hn
    rw [if_pos ⟨rfl, rfl, rfl⟩, if_pos rfl, nI_clamp (by omega)]
  · rw [if_neg (fun z => hn z.2.2), if_neg hn]
end GROWS2
end
section
section ROWSX
variable {p : Program} {l : Launch} {e : Env} {R : Room} {s : State} {m : MethodId} {args : Array Value} {below : List Frame} {meth : Method} {c : Code} {H : Heap} {locs : List Loc} {cells slots : Nat} {Q : State → Prop}
variable {cc : ByteArray} {pc : Nat} {ls : Array Slot} {rest : List Value} {X : gX} {w : gWd}
theorem rg_X5_settings (hx : p.tables.exec = Jvm.exec) (hb : c.code = cc) {own : String} {index : Nat} {Ts : List Cond} (hts : ∀ w ∈ Ts, w.before args s = true) (hin : ∀ w ∈ wsX50, w ∈ Ts) (hown : s.vm.findClass own = some m.cls) (hK : gKt X s) (hW : gWo X 251 (gE X w) H) {i : Nat} (hi : i < 7) (hlink : (Cond.fieldLink own index "GalaHeats$Meet" "settings" "[I").before args s = true) (hdg : decode cc pc = .ok (.getfield index, 3)) (kk : W p l e R s m args below meth c H locs cells slots Q (F0 m (pc + 3) ls (.ref (gA X i 1) :: rest))) : W p l e R s m args below meth c H locs cells slots Q (F0 m pc ls (.ref (gA X i 0) :: rest)) :=
  g_get (T := TX5) hx hb hts hin hown hK hW (gok_m hi (by decide)) (gad_lt (gok_m hi (by decide))) (gE_m0 hi) rfl 0 (by decide) rfl hlink rfl hdg kk
theorem rg_X5_all (hx : p.tables.exec = Jvm.exec) (hb : c.code = cc) {own : String} {index : Nat} {Ts : List Cond} (hts : ∀ w ∈ Ts, w.before args s = true) (hin : ∀ w ∈ wsX50, w ∈ Ts) (hown : s.vm.findClass own = some m.cls) (hK : gKt X s) (hW : gWo X 251 (gE X w) H) {i : Nat} (hi : i < 7) (hlink : (Cond.fieldLink own index "GalaHeats$Meet" "all" "[LGalaHeats$Swimmer;").before args s = true) (hdg : decode cc pc = .ok (.getfield index, 3)) (kk : W p l e R s m args below meth c H locs cells slots Q (F0 m (pc + 3) ls (.ref (gA X i 2) :: rest))) : W p l e R s m args below meth c H locs cells slots Q (F0 m pc ls (.ref (gA X i 0) :: rest)) :=
  g_get (T := TX5) hx hb hts hin hown hK hW (gok_m hi (by decide)) (gad_lt (gok_m hi (by decide))) (gE_m0 hi) rfl 1 (by decide) rfl hlink rfl hdg kk
theorem rg_X5_reserves (hx : p.tables.exec = Jvm.exec) (hb : c.code = cc) {own : String} {index : Nat} {Ts : List Cond} (hts : ∀ w ∈ Ts, w.before args s = true) (hin : ∀ w ∈ wsX50, w ∈ Ts) (hown : s.vm.findClass own = some m.cls) (hK : gKt X s) (hW : gWo X 251 (gE X w) H) {i : Nat} (hi : i < 7) (hlink : (Cond.fieldLink own index "GalaHeats$Meet" "reserves" "[I").before args s = true) (hdg : decode cc pc = .ok (.getfield index, 3)) (kk : W p l e R s m args below meth c H locs cells slots Q (F0 m (pc + 3) ls (.ref (gA X i 3) :: rest))) : W p l e R s m args below meth c H locs cells slots Q (F0 m pc ls (.ref (gA X i 0) :: rest)) :=
  g_get (T := TX5) hx hb hts hin hown hK hW (gok_m hi (by decide)) (gad_lt (gok_m hi (by decide))) (gE_m0 hi) rfl 2 (by decide) rfl hlink rfl hdg kk
theorem rg_X5_size (hx : p.tables.exec = Jvm.exec) (hb : c.code = cc) {own : String} {index : Nat} {Ts : List Cond} (hts : ∀ w ∈ Ts, w.before args s = true) (hin : ∀ w ∈ wsX50, w ∈ Ts) (hown : s.vm.findClass own = some m.cls) (hK : gKt X s) (hW : gWo X 251 (gE X w) H) {i : Nat} (hi : i < 7) (hlink : (Cond.fieldLink own index "GalaHeats$Meet" "size" "I").before args s = true) (hdg : decode cc pc = .ok (.getfield index, 3)) (kk : W p l e R s m args below meth c H locs cells slots Q (F0 m (pc + 3) ls (.int (w i 0 3) :: rest))) : W p l e R s m args below meth c H locs cells slots Q (F0 m pc ls (.ref (gA X i 0) :: rest)) :=
  g_get (T := TX5) hx hb hts hin hown hK hW (gok_m hi (by decide)) (gad_lt (gok_m hi (by decide))) (gE_m0 hi) rfl 3 (by decide) rfl hlink rfl hdg kk
theorem rp_X5_size (hx : p.tables.exec = Jvm.exec) (hb : c.code = cc) {own : String} {index : Nat} {Ts : List Cond} (hts : ∀ w ∈ Ts, w.before args s = true) (hin : ∀ w ∈ wsX50, w ∈ Ts) (hown : s.vm.findClass own = some m.cls) (hK : gKt X s) (hW : gWo X 251 (gE X w) H) (hL : gLo X locs) {i : Nat} (hi : i < 7) {v : Int32} (hlink : (Cond.fieldLink own index "GalaHeats$Meet" "size" "I").before args s = true) (hdg : decode cc pc = .ok (.putfield index, 3)) (kk : ∀ (H1 : Heap) (locs1 : List Loc), gWo X 251 (gE X (up3 w i 0 3 v)) H1 → gLo X locs1 → W p l e R s m args below meth c H1 locs1 cells slots Q (F0 m (pc + 3) ls rest)) : W p l e R s m args below meth c H locs cells slots Q (F0 m pc ls (.int v :: .ref (gA X i 0) :: rest)) :=
  g_put (T := TX5) hx hb hts hin tyX5 tyX5_ok nmX5 hown hK hW hL (gok_m hi (by decide)) (gad_lt (gok_m hi (by decide))) (gE_m0 hi) rfl 3 (by decide) rfl hlink rfl (ty := .int) rfl rfl rfl (Nat.le_of_ble_eq_true rfl) hdg (by rw [gE_m0 hi]; simp [up3]) (fun a b hab h => gE_up_ne h hab) kk
theorem rg_X5_stage (hx : p.tables.exec = Jvm.exec) (hb : c.code = cc) {own : String} {index : Nat} {Ts : List Cond} (hts : ∀ w ∈ Ts, w.before args s = true) (hin : ∀ w ∈ wsX50, w ∈ Ts) (hown : s.vm.findClass own = some m.cls) (hK : gKt X s) (hW : gWo X 251 (gE X w) H) {i : Nat} (hi : i < 7) (hlink : (Cond.fieldLink own index "GalaHeats$Meet" "stage" "I").before args s = true) (hdg : decode cc pc = .ok (.getfield index, 3)) (kk : W p l e R s m args below meth c H locs cells slots Q (F0 m (pc + 3) ls (.int (w i 0 4) :: rest))) : W p l e R s m args below meth c H locs cells slots Q (F0 m pc ls (.ref (gA X i 0) :: rest)) :=
  g_get (T := TX5) hx hb hts hin hown hK hW (gok_m hi (by decide)) (gad_lt (gok_m hi (by decide))) (gE_m0 hi) rfl 4 (by decide) rfl hlink rfl hdg kk
theorem rp_X5_stage (hx : p.tables.exec = Jvm.exec) (hb : c.code = cc) {own : String} {index : Nat} {Ts : List Cond} (hts : ∀ w ∈ Ts, w.before args s = true) (hin : ∀ w ∈ wsX50, w ∈ Ts) (hown : s.vm.findClass own = some m.cls) (hK : gKt X s) (hW : gWo X 251 (gE X w) H) (hL : gLo X locs) {i : Nat} (hi : i < 7) {v : Int32} (hlink : (Cond.fieldLink own index "GalaHeats$Meet" "stage" "I").before args s = true) (hdg : decode cc pc = .ok (.putfield index, 3)) (kk : ∀ (H1 : Heap) (locs1 : List Loc), gWo X 251 (gE X (up3 w i 0 4 v)) H1 → gLo X locs1 → W p l e R s m args below meth c H1 locs1 cells slots Q (F0 m (pc + 3) ls rest)) : W p l e R s m args below meth c H locs cells slots Q (F0 m pc ls (.int v :: .ref (gA X i 0) :: rest)) :=
  g_put (T := TX5) hx hb hts hin tyX5 tyX5_ok nmX5 hown hK hW hL (gok_m hi (by decide)) (gad_lt (gok_m hi (by decide))) (gE_m0 hi) rfl 4 (by decide) rfl hlink rfl (ty := .int) rfl rfl rfl (Nat.le_of_ble_eq_true rfl) hdg (by rw [gE_m0 hi]; simp [up3]) (fun a b hab h => gE_up_ne h hab) kk
theorem rg_X5_heats (hx : p.tables.exec = Jvm.exec) (hb : c.code = cc) {own : String} {index : Nat} {Ts : List Cond} (hts : ∀ w ∈ Ts, w.before args s = true) (hin : ∀ w ∈ wsX50, w ∈ Ts) (hown : s.vm.findClass own = some m.cls) (hK : gKt X s) (hW : gWo X 251 (gE X w) H) {i : Nat} (hi : i < 7) (hlink : (Cond.fieldLink own index "GalaHeats$Meet" "heats" "I").before args s = true) (hdg : decode cc pc = .ok (.getfield index, 3)) (kk : W p l e R s m args below meth c H locs cells slots Q (F0 m (pc + 3) ls (.int (w i 0 5) :: rest))) : W p l e R s m args below meth c H locs cells slots Q (F0 m pc ls (.ref (gA X i 0) :: rest)) :=
  g_get (T := TX5) hx hb hts hin hown hK hW (gok_m hi (by decide)) (gad_lt (gok_m hi (by decide))) (gE_m0 hi) rfl 5 (by decide) rfl hlink rfl hdg kk
theorem rp_X5_heats (hx : p.tables.exec = Jvm.exec) (hb : c.code = cc) {own : String} {index : Nat} {Ts : List Cond} (hts : ∀ w ∈ Ts, w.before args s = true) (hin : ∀ w ∈ wsX50, w ∈ Ts) (hown : s.vm.findClass own = some m.cls) (hK : gKt X s) (hW : gWo X 251 (gE X w) H) (hL : gLo X locs) {i : Nat} (hi : i < 7) {v : Int32} (hlink : (Cond.fieldLink own index "GalaHeats$Meet" "heats" "I").before args s = true) (hdg : decode cc pc = .ok (.putfield index, 3)) (kk : ∀ (H1 : Heap) (locs1 : List Loc), gWo X 251 (gE X (up3 w i 0 5 v)) H1 → gLo X locs1 → W p l e R s m args below meth c H1 locs1 cells slots Q (F0 m (pc + 3) ls rest)) : W p l e R s m args below meth c H locs cells slots Q (F0 m pc ls (.int v :: .ref (gA X i 0) :: rest)) :=
  g_put (T := TX5) hx hb hts hin tyX5 tyX5_ok nmX5 hown hK hW hL (gok_m hi (by decide)) (gad_lt (gok_m hi (by decide))) (gE_m0 hi) rfl 5 (by decide) rfl hlink rfl (ty := .int) rfl rfl rfl (Nat.le_of_ble_eq_true rfl) hdg (by rw [gE_m0 hi]; simp [up3]) (fun a b hab h => gE_up_ne h hab) kk
theorem rg_X5_reservesDrawn (hx : p.tables.exec = Jvm.exec) (hb : c.code = cc) {own : String} {index : Nat} {Ts : List Cond} (hts : ∀ w ∈ Ts, w.before args s = true) (hin : ∀ w ∈ wsX50, w ∈ Ts) (hown : s.vm.findClass own = some m.cls) (hK : gKt X s) (hW : gWo X 251 (gE X w) H) {i : Nat} (hi : i < 7) (hlink : (Cond.fieldLink own index "GalaHeats$Meet" "reservesDrawn" "I").before args s = true) (hdg : decode cc pc = .ok (.getfield index, 3)) (kk : W p l e R s m args below meth c H locs cells slots Q (F0 m (pc + 3) ls (.int (w i 0 6) :: rest))) : W p l e R s m args below meth c H locs cells slots Q (F0 m pc ls (.ref (gA X i 0) :: rest)) :=
  g_get (T := TX5) hx hb hts hin hown hK hW (gok_m hi (by decide)) (gad_lt (gok_m hi (by decide))) (gE_m0 hi) rfl 6 (by decide) rfl hlink rfl hdg kk
theorem rp_X5_reservesDrawn (hx : p.tables.exec = Jvm.exec) (hb : c.code = cc) {own : String} {index : Nat} {Ts : List Cond} (hts : ∀ w ∈ Ts, w.before args s = true) (hin : ∀ w ∈ wsX50, w ∈ Ts) (hown : s.vm.findClass own = some m.cls) (hK : gKt X s) (hW : gWo X 251 (gE X w) H) (hL : gLo X locs) {i : Nat} (hi : i < 7) {v : Int32} (hlink : (Cond.fieldLink own index "GalaHeats$Meet" "reservesDrawn" "I").before args s = true) (hdg : decode cc pc = .ok (.putfield index, 3)) (kk : ∀ (H1 : Heap) (locs1 : List Loc), gWo X 251 (gE X (up3 w i 0 6 v)) H1 → gLo X locs1 → W p l e R s m args below meth c H1 locs1 cells slots Q (F0 m (pc + 3) ls rest)) : W p l e R s m args below meth c H locs cells slots Q (F0 m pc ls (.int v :: .ref (gA X i 0) :: rest)) :=
  g_put (T := TX5) hx hb hts hin tyX5 tyX5_ok nmX5 hown hK hW hL (gok_m hi (by decide)) (gad_lt (gok_m hi (by decide))) (gE_m0 hi) rfl 6 (by decide) rfl hlink rfl (ty := .int) rfl rfl rfl (Nat.le_of_ble_eq_true rfl) hdg (by rw [gE_m0 hi]; simp [up3]) (fun a b hab h => gE_up_ne h hab) kk
theorem rg_X5_reservesCalled (hx : p.tables.exec = Jvm.exec) (hb : c.code = cc) {own : String} {index : Nat} {Ts : List Cond} (hts : ∀ w ∈ Ts, w.before args s = true) (hin : ∀ w ∈ wsX50, w ∈ Ts) (hown : s.vm.findClass own = some m.cls) (hK : gKt X s) (hW : gWo X 251 (gE X w) H) {i : Nat} (hi : i < 7) (hlink : (Cond.fieldLink own index "GalaHeats$Meet" "reservesCalled" "I").before args s = true) (hdg : decode cc pc = .ok (.getfield index, 3)) (kk : W p l e R s m args below meth c H locs cells slots Q (F0 m (pc + 3) ls (.int (w i 0 7) :: rest))) : W p l e R s m args below meth c H locs cells slots Q (F0 m pc ls (.ref (gA X i 0) :: rest)) :=
  g_get (T := TX5) hx hb hts hin hown hK hW (gok_m hi (by decide)) (gad_lt (gok_m hi (by decide))) (gE_m0 hi) rfl 7 (by decide) rfl hlink rfl hdg kk
theorem rp_X5_reservesCalled (hx : p.tables.exec = Jvm.exec) (hb : c.code = cc) {own : String} {index : Nat} {Ts : List Cond} (hts : ∀ w ∈ Ts, w.before args s = true) (hin : ∀ w ∈ wsX50, w ∈ Ts) (hown : s.vm.findClass own = some m.cls) (hK : gKt X s) (hW : gWo X 251 (gE X w) H) (hL : gLo X locs) {i : Nat} (hi : i < 7) {v : Int32} (hlink : (Cond.fieldLink own index "GalaHeats$Meet" "reservesCalled" "I").before args s = true) (hdg : decode cc pc = .ok (.putfield index, 3)) (kk : ∀ (H1 : Heap) (locs1 : List Loc), gWo X 251 (gE X (up3 w i 0 7 v)) H1 → gLo X locs1 → W p l e R s m args below meth c H1 locs1 cells slots Q (F0 m (pc + 3) ls rest)) : W p l e R s m args below meth c H locs cells slots Q (F0 m pc ls (.int v :: .ref (gA X i 0) :: rest)) :=
  g_put (T := TX5) hx hb hts hin tyX5 tyX5_ok nmX5 hown hK hW hL (gok_m hi (by decide)) (gad_lt (gok_m hi (by decide))) (gE_m0 hi) rfl 7 (by decide) rfl hlink rfl (ty := .int) rfl rfl rfl (Nat.le_of_ble_eq_true rfl) hdg (by rw [gE_m0 hi]; simp [up3]) (fun a b hab h => gE_up_ne h hab) kk
theorem rg_X5_eventsEnded (hx : p.tables.exec = Jvm.exec) (hb : c.code = cc) {own : String} {index : Nat} {Ts : List Cond} (hts : ∀ w ∈ Ts, w.before args s = true) (hin : ∀ w ∈ wsX50, w ∈ Ts) (hown : s.vm.findClass own = some m.cls) (hK : gKt X s) (hW : gWo X 251 (gE X w) H) {i : Nat} (hi : i < 7) (hlink : (Cond.fieldLink own index "GalaHeats$Meet" "eventsEnded" "I").before args s = true) (hdg : decode cc pc = .ok (.getfield index, 3)) (kk : W p l e R s m args below meth c H locs cells slots Q (F0 m (pc + 3) ls (.int (w i 0 8) :: rest))) : W p l e R s m args below meth c H locs cells slots Q (F0 m pc ls (.ref (gA X i 0) :: rest)) :=
  g_get (T := TX5) hx hb hts hin hown hK hW (gok_m hi (by decide)) (gad_lt (gok_m hi (by decide))) (gE_m0 hi) rfl 8 (by decide) rfl hlink rfl hdg kk
theorem rp_X5_eventsEnded (hx : p.tables.exec = Jvm.exec) (hb : c.code = cc) {own : String} {index : Nat} {Ts : List Cond} (hts : ∀ w ∈ Ts, w.before args s = true) (hin : ∀ w ∈ wsX50, w ∈ Ts) (hown : s.vm.findClass own = some m.cls) (hK : gKt X s) (hW : gWo X 251 (gE X w) H) (hL : gLo X locs) {i : Nat} (hi : i < 7) {v : Int32} (hlink : (Cond.fieldLink own index "GalaHeats$Meet" "eventsEnded" "I").before args s = true) (hdg : decode cc pc = .ok (.putfield index, 3)) (kk : ∀ (H1 : Heap) (locs1 : List Loc), gWo X 251 (gE X (up3 w i 0 8 v)) H1 → gLo X locs1 → W p l e R s m args below meth c H1 locs1 cells slots Q (F0 m (pc + 3) ls rest)) : W p l e R s m args below meth c H locs cells slots Q (F0 m pc ls (.int v :: .ref (gA X i 0) :: rest)) :=
  g_put (T := TX5) hx hb hts hin tyX5 tyX5_ok nmX5 hown hK hW hL (gok_m hi (by decide)) (gad_lt (gok_m hi (by decide))) (gE_m0 hi) rfl 8 (by decide) rfl hlink rfl (ty := .int) rfl rfl rfl (Nat.le_of_ble_eq_true rfl) hdg (by rw [gE_m0 hi]; simp [up3]) (fun a b hab h => gE_up_ne h hab) kk
theorem rg_X5_record (hx : p.tables.exec = Jvm.exec) (hb : c.code = cc) {own : String} {index : Nat} {Ts : List Cond} (hts : ∀ w ∈ Ts, w.before args s = true) (hin : ∀ w ∈ wsX50, w ∈ Ts) (hown : s.vm.findClass own = some m.cls) (hK : gKt X s) (hW : gWo X 251 (gE X w) H) {i : Nat} (hi : i < 7) (hlink : (Cond.fieldLink own index "GalaHeats$Meet" "record" "I").before args s = true) (hdg : decode cc pc = .ok (.getfield index, 3)) (kk : W p l e R s m args below meth c H locs cells slots Q (F0 m (pc + 3) ls (.int (w i 0 9) :: rest))) : W p l e R s m args below meth c H locs cells slots Q (F0 m pc ls (.ref (gA X i 0) :: rest)) :=
  g_get (T := TX5) hx hb hts hin hown hK hW (gok_m hi (by decide)) (gad_lt (gok_m hi (by decide))) (gE_m0 hi) rfl 9 (by decide) rfl hlink rfl hdg kk
theorem rp_X5_record (hx : p.tables.exec = Jvm.exec) (hb : c.code = cc) {own : String} {index : Nat} {Ts : List Cond} (hts : ∀ w ∈ Ts, w.before args s = true) (hin : ∀ w ∈ wsX50, w ∈ Ts) (hown : s.vm.findClass own = some m.cls) (hK : gKt X s) (hW : gWo X 251 (gE X w) H) (hL : gLo X locs) {i : Nat} (hi : i < 7) {v : Int32} (hlink : (Cond.fieldLink own index "GalaHeats$Meet" "record" "I").before args s = true) (hdg : decode cc pc = .ok (.putfield index, 3)) (kk : ∀ (H1 : Heap) (locs1 : List Loc), gWo X 251 (gE X (up3 w i 0 9 v)) H1 → gLo X locs1 → W p l e R s m args below meth c H1 locs1 cells slots Q (F0 m (pc + 3) ls rest)) : W p l e R s m args below meth c H locs cells slots Q (F0 m pc ls (.int v :: .ref (gA X i 0) :: rest)) :=
  g_put (T := TX5) hx hb hts hin tyX5 tyX5_ok nmX5 hown hK hW hL (gok_m hi (by decide)) (gad_lt (gok_m hi (by decide))) (gE_m0 hi) rfl 9 (by decide) rfl hlink rfl (ty := .int) rfl rfl rfl (Nat.le_of_ble_eq_true rfl) hdg (by rw [gE_m0 hi]; simp [up3]) (fun a b hab h => gE_up_ne h hab) kk
theorem rg_X5_recordSwimmer (hx : p.tables.exec = Jvm.exec) (hb : c.code = cc) {own : String} {index : Nat} {Ts : List Cond} (hts : ∀ w ∈ Ts, w.before args s = true) (hin : ∀ w ∈ wsX50, w ∈ Ts) (hown : s.vm.findClass own = some m.cls) (hK : gKt X s) (hW : gWo X 251 (gE X w) H) {i : Nat} (hi : i < 7) (hlink : (Cond.fieldLink own index "GalaHeats$Meet" "recordSwimmer" "I").before args s = true) (hdg : decode cc pc = .ok (.getfield index, 3)) (kk : W p l e R s m args below meth c H locs cells slots Q (F0 m (pc + 3) ls (.int (w i 0 10) :: rest))) : W p l e R s m args below meth c H locs cells slots Q (F0 m pc ls (.ref (gA X i 0) :: rest)) :=
  g_get (T := TX5) hx hb hts hin hown hK hW (gok_m hi (by decide)) (gad_lt (gok_m hi (by decide))) (gE_m0 hi) rfl 10 (by decide) rfl hlink rfl hdg kk
theorem rp_X5_recordSwimmer (hx : p.tables.exec = Jvm.exec) (hb : c.code = cc) {own : String} {index : Nat} {Ts : List Cond} (hts : ∀ w ∈ Ts, w.before args s = true) (hin : ∀ w ∈ wsX50, w ∈ Ts) (hown : s.vm.findClass own = some m.cls) (hK : gKt X s) (hW : gWo X 251 (gE X w) H) (hL : gLo X locs) {i : Nat} (hi : i < 7) {v : Int32} (hlink : (Cond.fieldLink own index "GalaHeats$Meet" "recordSwimmer" "I").before args s = true) (hdg : decode cc pc = .ok (.putfield index, 3)) (kk : ∀ (H1 : Heap) (locs1 : List Loc), gWo X 251 (gE X (up3 w i 0 10 v)) H1 → gLo X locs1 → W p l e R s m args below meth c H1 locs1 cells slots Q (F0 m (pc + 3) ls rest)) : W p l e R s m args below meth c H locs cells slots Q (F0 m pc ls (.int v :: .ref (gA X i 0) :: rest)) :=
  g_put (T := TX5) hx hb hts hin tyX5 tyX5_ok nmX5 hown hK hW hL (gok_m hi (by decide)) (gad_lt (gok_m hi (by decide))) (gE_m0 hi) rfl 10 (by decide) rfl hlink rfl (ty := .int) rfl rfl rfl (Nat.le_of_ble_eq_true rfl) hdg (by rw [gE_m0 hi]; simp [up3]) (fun a b hab h => gE_up_ne h hab) kk
theorem rg_X10_number (hx : p.tables.exec = Jvm.exec) (hb : c.code = cc) {own : String} {index : Nat} {Ts : List Cond} (hts : ∀ w ∈ Ts, w.before args s = true) (hin : ∀ w ∈ wsX100, w ∈ Ts) (hown : s.vm.findClass own = some m.cls) (hK : gKt X s) (hW : gWo X 251 (gE X w) H) {i n : Nat} (hi : i < 7) (hn : n < 30) (hlink : (Cond.fieldLink own index "GalaHeats$Swimmer" "number" "I").before args s = true) (hdg : decode cc pc = .ok (.getfield index, 3)) (kk : W p l e R s m args below meth c H locs cells slots Q (F0 m (pc + 3) ls (.int (nI n) :: rest))) : W p l e R s m args below meth c H locs cells slots Q (F0 m pc ls (.ref (gA X i (4 + n)) :: rest)) :=
  g_get (T := TX10) hx hb hts hin hown hK hW (gok_s hi hn) (gad_lt (gok_s hi hn)) (gE_ms hi n) rfl 0 (by decide) rfl hlink rfl hdg kk
theorem rg_X10_club (hx : p.tables.exec = Jvm.exec) (hb : c.code = cc) {own : String} {index : Nat} {Ts : List Cond} (hts : ∀ w ∈ Ts, w.before args s = true) (hin : ∀ w ∈ wsX100, w ∈ Ts) (hown : s.vm.findClass own = some m.cls) (hK : gKt X s) (hW : gWo X 251 (gE X w) H) {i n : Nat} (hi : i < 7) (hn : n < 30) (hlink : (Cond.fieldLink own index "GalaHeats$Swimmer" "club" "I").before args s = true) (hdg : decode cc pc = .ok (.getfield index, 3)) (kk : W p l e R s m args below meth c H locs cells slots Q (F0 m (pc + 3) ls (.int (w i (4 + n) 1) :: rest))) : W p l e R s m args below meth c H locs cells slots Q (F0 m pc ls (.ref (gA X i (4 + n)) :: rest)) :=
  g_get (T := TX10) hx hb hts hin hown hK hW (gok_s hi hn) (gad_lt (gok_s hi hn)) (gE_ms hi n) rfl 1 (by decide) rfl hlink rfl hdg kk
theorem rp_X10_club (hx : p.tables.exec = Jvm.exec) (hb : c.code = cc) {own : String} {index : Nat} {Ts : List Cond} (hts : ∀ w ∈ Ts, w.before args s = true) (hin : ∀ w ∈ wsX100, w ∈ Ts) (hown : s.vm.findClass own = some m.cls) (hK : gKt X s) (hW : gWo X 251 (gE X w) H) (hL : gLo X locs) {i n : Nat} (hi : i < 7) (hn : n < 30) {v : Int32} (hlink : (Cond.fieldLink own index "GalaHeats$Swimmer" "club" "I").before args s = true) (hdg : decode cc pc = .ok (.putfield index, 3)) (kk : ∀ (H1 : Heap) (locs1 : List Loc), gWo X 251 (gE X (up3 w i (4 + n) 1 v)) H1 → gLo X locs1 → W p l e R s m args below meth c H1 locs1 cells slots Q (F0 m (pc + 3) ls rest)) : W p l e R s m args below meth c H locs cells slots Q (F0 m pc ls (.int v :: .ref (gA X i (4 + n)) :: rest)) :=
  g_put (T := TX10) hx hb hts hin tyX10 tyX10_ok nmX10 hown hK hW hL (gok_s hi hn) (gad_lt (gok_s hi hn)) (gE_ms hi n) rfl 1 (by decide) rfl hlink rfl (ty := .int) rfl rfl rfl (Nat.le_of_ble_eq_true rfl) hdg (by rw [gE_ms hi n]; simp [up3]) (fun a b hab h => gE_up_ne h hab) kk
theorem rg_X10_entry (hx : p.tables.exec = Jvm.exec) (hb : c.code = cc) {own : String} {index : Nat} {Ts : List Cond} (hts : ∀ w ∈ Ts, w.before args s = true) (hin : ∀ w ∈ wsX100, w ∈ Ts) (hown : s.vm.findClass own = some m.cls) (hK : gKt X s) (hW : gWo X 251 (gE X w) H) {i n : Nat} (hi : i < 7) (hn : n < 30) (hlink : (Cond.fieldLink own index "GalaHeats$Swimmer" "entry" "I").before args s = true) (hdg : decode cc pc = .ok (.getfield index, 3)) (kk : W p l e R s m args below meth c H locs cells slots Q (F0 m (pc + 3) ls (.int (w i (4 + n) 2) :: rest))) : W p l e R s m args below meth c H locs cells slots Q (F0 m pc ls (.ref (gA X i (4 + n)) :: rest)) :=
  g_get (T := TX10) hx hb hts hin hown hK hW (gok_s hi hn) (gad_lt (gok_s hi hn)) (gE_ms hi n) rfl 2 (by decide) rfl hlink rfl hdg kk
theorem rp_X10_entry (hx : p.tables.exec = Jvm.exec) (hb : c.code = cc) {own : String} {index : Nat} {Ts : List Cond} (hts : ∀ w ∈ Ts, w.before args s = true) (hin : ∀ w ∈ wsX100, w ∈ Ts) (hown : s.vm.findClass own = some m.cls) (hK : gKt X s) (hW : gWo X 251 (gE X w) H) (hL : gLo X locs) {i n : Nat} (hi : i < 7) (hn : n < 30) {v : Int32} (hlink : (Cond.fieldLink own index "GalaHeats$Swimmer" "entry" "I").before args s = true) (hdg : decode cc pc = .ok (.putfield index, 3)) (kk : ∀ (H1 : Heap) (locs1 : List Loc), gWo X 251 (gE X (up3 w i (4 + n) 2 v)) H1 → gLo X locs1 → W p l e R s m args below meth c H1 locs1 cells slots Q (F0 m (pc + 3) ls rest)) : W p l e R s m args below meth c H locs cells slots Q (F0 m pc ls (.int v :: .ref (gA X i (4 + n)) :: rest)) :=
  g_put (T := TX10) hx hb hts hin tyX10 tyX10_ok nmX10 hown hK hW hL (gok_s hi hn) (gad_lt (gok_s hi hn)) (gE_ms hi n) rfl 2 (by decide) rfl hlink rfl (ty := .int) rfl rfl rfl (Nat.le_of_ble_eq_true rfl) hdg (by rw [gE_ms hi n]; simp [up3]) (fun a b hab h => gE_up_ne h hab) kk
theorem rg_X10_scratched (hx : p.tables.exec = Jvm.exec) (hb : c.code = cc) {own : String} {index : Nat} {Ts : List Cond} (hts : ∀ w ∈ Ts, w.before args s = true) (hin : ∀ w ∈ wsX100, w ∈ Ts) (hown : s.vm.findClass own = some m.cls) (hK : gKt X s) (hW : gWo X 251 (gE X w) H) {i n : Nat} (hi : i < 7) (hn : n < 30) (hlink : (Cond.fieldLink own index "GalaHeats$Swimmer" "scratched" "Z").before args s = true) (hdg : decode cc pc = .ok (.getfield index, 3)) (kk : W p l e R s m args below meth c H locs cells slots Q (F0 m (pc + 3) ls (.int (w i (4 + n) 3) :: rest))) : W p l e R s m args below meth c H locs cells slots Q (F0 m pc ls (.ref (gA X i (4 + n)) :: rest)) :=
  g_get (T := TX10) hx hb hts hin hown hK hW (gok_s hi hn) (gad_lt (gok_s hi hn)) (gE_ms hi n) rfl 3 (by decide) rfl hlink rfl hdg kk
theorem rp_X10_scratched (hx : p.tables.exec = Jvm.exec) (hb : c.code = cc) {own : String} {index : Nat} {Ts : List Cond} (hts : ∀ w ∈ Ts, w.before args s = true) (hin : ∀ w ∈ wsX100, w ∈ Ts) (hown : s.vm.findClass own = some m.cls) (hK : gKt X s) (hW : gWo X 251 (gE X w) H) (hL : gLo X locs) {i n : Nat} (hi : i < 7) (hn : n < 30) {v : Int32} (hz : v = 0 ∨ v = 1) (hlink : (Cond.fieldLink own index "GalaHeats$Swimmer" "scratched" "Z").before args s = true) (hdg : decode cc pc = .ok (.putfield index, 3)) (kk : ∀ (H1 : Heap) (locs1 : List Loc), gWo X 251 (gE X (up3 w i (4 + n) 3 v)) H1 → gLo X locs1 → W p l e R s m args below meth c H1 locs1 cells slots Q (F0 m (pc + 3) ls rest)) : W p l e R s m args below meth c H locs cells slots Q (F0 m pc ls (.int v :: .ref (gA X i (4 + n)) :: rest)) :=
  g_put (T := TX10) hx hb hts hin tyX10 tyX10_ok nmX10 hown hK hW hL (gok_s hi hn) (gad_lt (gok_s hi hn)) (gE_ms hi n) rfl 3 (by decide) rfl hlink rfl (ty := .boolean) rfl (by rcases hz with rfl | rfl <;> rfl) (by rcases hz with rfl | rfl <;> rfl) (Nat.le_of_ble_eq_true rfl) hdg (by rw [gE_ms hi n]; simp [up3]) (fun a b hab h => gE_up_ne h hab) kk
theorem rg_X10_heat (hx : p.tables.exec = Jvm.exec) (hb : c.code = cc) {own : String} {index : Nat} {Ts : List Cond} (hts : ∀ w ∈ Ts, w.before args s = true) (hin : ∀ w ∈ wsX100, w ∈ Ts) (hown : s.vm.findClass own = some m.cls) (hK : gKt X s) (hW : gWo X 251 (gE X w) H) {i n : Nat} (hi : i < 7) (hn : n < 30) (hlink : (Cond.fieldLink own index "GalaHeats$Swimmer" "heat" "I").before args s = true) (hdg : decode cc pc = .ok (.getfield index, 3)) (kk : W p l e R s m args below meth c H locs cells slots Q (F0 m (pc + 3) ls (.int (w i (4 + n) 4) :: rest))) : W p l e R s m args below meth c H locs cells slots Q (F0 m pc ls (.ref (gA X i (4 + n)) :: rest)) :=
  g_get (T := TX10) hx hb hts hin hown hK hW (gok_s hi hn) (gad_lt (gok_s hi hn)) (gE_ms hi n) rfl 4 (by decide) rfl hlink rfl hdg kk
theorem rp_X10_heat (hx : p.tables.exec = Jvm.exec) (hb : c.code = cc) {own : String} {index : Nat} {Ts : List Cond} (hts : ∀ w ∈ Ts, w.before args s = true) (hin : ∀ w ∈ wsX100, w ∈ Ts) (hown : s.vm.findClass own = some m.cls) (hK : gKt X s) (hW : gWo X 251 (gE X w) H) (hL : gLo X locs) {i n : Nat} (hi : i < 7) (hn : n < 30) {v : Int32} (hlink : (Cond.fieldLink own index "GalaHeats$Swimmer" "heat" "I").before args s = true) (hdg : decode cc pc = .ok (.putfield index, 3)) (kk : ∀ (H1 : Heap) (locs1 : List Loc), gWo X 251 (gE X (up3 w i (4 + n) 4 v)) H1 → gLo X locs1 → W p l e R s m args below meth c H1 locs1 cells slots Q (F0 m (pc + 3) ls rest)) : W p l e R s m args below meth c H locs cells slots Q (F0 m pc ls (.int v :: .ref (gA X i (4 + n)) :: rest)) :=
  g_put (T := TX10) hx hb hts hin tyX10 tyX10_ok nmX10 hown hK hW hL (gok_s hi hn) (gad_lt (gok_s hi hn)) (gE_ms hi n) rfl 4 (by decide) rfl hlink rfl (ty := .int) rfl rfl rfl (Nat.le_of_ble_eq_true rfl) hdg (by rw [gE_ms hi n]; simp [up3]) (fun a b hab h => gE_up_ne h hab) kk
theorem rg_X10_heatLane (hx : p.tables.exec = Jvm.exec) (hb : c.code = cc) {own : String} {index : Nat} {Ts : List Cond} (hts : ∀ w ∈ Ts, w.before args s = true) (hin : ∀ w ∈ wsX100, w ∈ Ts) (hown : s.vm.findClass own = some m.cls) (hK : gKt X s) (hW : gWo X 251 (gE X w) H) {i n : Nat} (hi : i < 7) (hn : n < 30) (hlink : (Cond.fieldLink own index "GalaHeats$Swimmer" "heatLane" "I").before args s = true) (hdg : decode cc pc = .ok (.getfield index, 3)) (kk : W p l e R s m args below meth c H locs cells slots Q (F0 m (pc + 3) ls (.int (w i (4 + n) 5) :: rest))) : W p l e R s m args below meth c H locs cells slots Q (F0 m pc ls (.ref (gA X i (4 + n)) :: rest)) :=
  g_get (T := TX10) hx hb hts hin hown hK hW (gok_s hi hn) (gad_lt (gok_s hi hn)) (gE_ms hi n) rfl 5 (by decide) rfl hlink rfl hdg kk
theorem rp_X10_heatLane (hx : p.tables.exec = Jvm.exec) (hb : c.code = cc) {own : String} {index : Nat} {Ts : List Cond} (hts : ∀ w ∈ Ts, w.before args s = true) (hin : ∀ w ∈ wsX100, w ∈ Ts) (hown : s.vm.findClass own = some m.cls) (hK : gKt X s) (hW : gWo X 251 (gE X w) H) (hL : gLo X locs) {i n : Nat} (hi : i < 7) (hn : n < 30) {v : Int32} (hlink : (Cond.fieldLink own index "GalaHeats$Swimmer" "heatLane" "I").before args s = true) (hdg : decode cc pc = .ok (.putfield index, 3)) (kk : ∀ (H1 : Heap) (locs1 : List Loc), gWo X 251 (gE X (up3 w i (4 + n) 5 v)) H1 → gLo X locs1 → W p l e R s m args below meth c H1 locs1 cells slots Q (F0 m (pc + 3) ls rest)) : W p l e R s m args below meth c H locs cells slots Q (F0 m pc ls (.int v :: .ref (gA X i (4 + n)) :: rest)) :=
  g_put (T := TX10) hx hb hts hin tyX10 tyX10_ok nmX10 hown hK hW hL (gok_s hi hn) (gad_lt (gok_s hi hn)) (gE_ms hi n) rfl 5 (by decide) rfl hlink rfl (ty := .int) rfl rfl rfl (Nat.le_of_ble_eq_true rfl) hdg (by rw [gE_ms hi n]; simp [up3]) (fun a b hab h => gE_up_ne h hab) kk
theorem rg_X10_heatTime (hx : p.tables.exec = Jvm.exec) (hb : c.code = cc) {own : String} {index : Nat} {Ts : List Cond} (hts : ∀ w ∈ Ts, w.before args s = true) (hin : ∀ w ∈ wsX100, w ∈ Ts) (hown : s.vm.findClass own = some m.cls) (hK : gKt X s) (hW : gWo X 251 (gE X w) H) {i n : Nat} (hi : i < 7) (hn : n < 30) (hlink : (Cond.fieldLink own index "GalaHeats$Swimmer" "heatTime" "I").before args s = true) (hdg : decode cc pc = .ok (.getfield index, 3)) (kk : W p l e R s m args below meth c H locs cells slots Q (F0 m (pc + 3) ls (.int (w i (4 + n) 6) :: rest))) : W p l e R s m args below meth c H locs cells slots Q (F0 m pc ls (.ref (gA X i (4 + n)) :: rest)) :=
  g_get (T := TX10) hx hb hts hin hown hK hW (gok_s hi hn) (gad_lt (gok_s hi hn)) (gE_ms hi n) rfl 6 (by decide) rfl hlink rfl hdg kk
theorem rp_X10_heatTime (hx : p.tables.exec = Jvm.exec) (hb : c.code = cc) {own : String} {index : Nat} {Ts : List Cond} (hts : ∀ w ∈ Ts, w.before args s = true) (hin : ∀ w ∈ wsX100, w ∈ Ts) (hown : s.vm.findClass own = some m.cls) (hK : gKt X s) (hW : gWo X 251 (gE X w) H) (hL : gLo X locs) {i n : Nat} (hi : i < 7) (hn : n < 30) {v : Int32} (hlink : (Cond.fieldLink own index "GalaHeats$Swimmer" "heatTime" "I").before args s = true) (hdg : decode cc pc = .ok (.putfield index, 3)) (kk : ∀ (H1 : Heap) (locs1 : List Loc), gWo X 251 (gE X (up3 w i (4 + n) 6 v)) H1 → gLo X locs1 → W p l e R s m args below meth c H1 locs1 cells slots Q (F0 m (pc + 3) ls rest)) : W p l e R s m args below meth c H locs cells slots Q (F0 m pc ls (.int v :: .ref (gA X i (4 + n)) :: rest)) :=
  g_put (T := TX10) hx hb hts hin tyX10 tyX10_ok nmX10 hown hK hW hL (gok_s hi hn) (gad_lt (gok_s hi hn)) (gE_ms hi n) rfl 6 (by decide) rfl hlink rfl (ty := .int) rfl rfl rfl (Nat.le_of_ble_eq_true rfl) hdg (by rw [gE_ms hi n]; simp [up3]) (fun a b hab h => gE_up_ne h hab) kk
theorem rg_X10_finalLane (hx : p.tables.exec = Jvm.exec) (hb : c.code = cc) {own : String} {index : Nat} {Ts : List Cond} (hts : ∀ w ∈ Ts, w.before args s = true) (hin : ∀ w ∈ wsX100, w ∈ Ts) (hown : s.vm.findClass own = some m.cls) (hK : gKt X s) (hW : gWo X 251 (gE X w) H) {i n : Nat} (hi : i < 7) (hn : n < 30) (hlink : (Cond.fieldLink own index "GalaHeats$Swimmer" "finalLane" "I").before args s = true) (hdg : decode cc pc = .ok (.getfield index, 3)) (kk : W p l e R s m args below meth c H locs cells slots Q (F0 m (pc + 3) ls (.int (w i (4 + n) 7) :: rest))) : W p l e R s m args below meth c H locs cells slots Q (F0 m pc ls (.ref (gA X i (4 + n)) :: rest)) :=
  g_get (T := TX10) hx hb hts hin hown hK hW (gok_s hi hn) (gad_lt (gok_s hi hn)) (gE_ms hi n) rfl 7 (by decide) rfl hlink rfl hdg kk
theorem rp_X10_finalLane (hx : p.tables.exec = Jvm.exec) (hb : c.code = cc) {own : String} {index : Nat} {Ts : List Cond} (hts : ∀ w ∈ Ts, w.before args s = true) (hin : ∀ w ∈ wsX100, w ∈ Ts) (hown : s.vm.findClass own = some m.cls) (hK : gKt X s) (hW : gWo X 251 (gE X w) H) (hL : gLo X locs) {i n : Nat} (hi : i < 7) (hn : n < 30) {v : Int32} (hlink : (Cond.fieldLink own index "GalaHeats$Swimmer" "finalLane" "I").before args s = true) (hdg : decode cc pc = .ok (.putfield index, 3)) (kk : ∀ (H1 : Heap) (locs1 : List Loc), gWo X 251 (gE X (up3 w i (4 + n) 7 v)) H1 → gLo X locs1 → W p l e R s m args below meth c H1 locs1 cells slots Q (F0 m (pc + 3) ls rest)) : W p l e R s m args below meth c H locs cells slots Q (F0 m pc ls (.int v :: .ref (gA X i (4 + n)) :: rest)) :=
  g_put (T := TX10) hx hb hts hin tyX10 tyX10_ok nmX10 hown hK hW hL (gok_s hi hn) (gad_lt (gok_s hi hn)) (gE_ms hi n) rfl 7 (by decide) rfl hlink rfl (ty := .int) rfl rfl rfl (Nat.le_of_ble_eq_true rfl) hdg (by rw [gE_ms hi n]; simp [up3]) (fun a b hab h => gE_up_ne h hab) kk
theorem rg_X10_finalTime (hx : p.tables.exec = Jvm.exec) (hb : c.code = cc) {own : String} {index : Nat} {Ts : List Cond} (hts : ∀ w ∈ Ts, w.before args s = true) (hin : ∀ w ∈ wsX100, w ∈ Ts) (hown : s.vm.findClass own = some m.cls) (hK : gKt X s) (hW : gWo X 251 (gE X w) H) {i n : Nat} (hi : i < 7) (hn : n < 30) (hlink : (Cond.fieldLink own index "GalaHeats$Swimmer" "finalTime" "I").before args s = true) (hdg : decode cc pc = .ok (.getfield index, 3)) (kk : W p l e R s m args below meth c H locs cells slots Q (F0 m (pc + 3) ls (.int (w i (4 + n) 8) :: rest))) : W p l e R s m args below meth c H locs cells slots Q (F0 m pc ls (.ref (gA X i (4 + n)) :: rest)) :=
  g_get (T := TX10) hx hb hts hin hown hK hW (gok_s hi hn) (gad_lt (gok_s hi hn)) (gE_ms hi n) rfl 8 (by decide) rfl hlink rfl hdg kk
theorem rp_X10_finalTime (hx : p.tables.exec = Jvm.exec) (hb : c.code = cc) {own : String} {index : Nat} {Ts : List Cond} (hts : ∀ w ∈ Ts, w.before args s = true) (hin : ∀ w ∈ wsX100, w ∈ Ts) (hown : s.vm.findClass own = some m.cls) (hK : gKt X s) (hW : gWo X 251 (gE X w) H) (hL : gLo X locs) {i n : Nat} (hi : i < 7) (hn : n < 30) {v : Int32} (hlink : (Cond.fieldLink own index "GalaHeats$Swimmer" "finalTime" "I").before args s = true) (hdg : decode cc pc = .ok (.putfield index, 3)) (kk : ∀ (H1 : Heap) (locs1 : List Loc), gWo X 251 (gE X (up3 w i (4 + n) 8 v)) H1 → gLo X locs1 → W p l e R s m args below meth c H1 locs1 cells slots Q (F0 m (pc + 3) ls rest)) : W p l e R s m args below meth c H locs cells slots Q (F0 m pc ls (.int v :: .ref (gA X i (4 + n)) :: rest)) :=
  g_put (T := TX10) hx hb hts hin tyX10 tyX10_ok nmX10 hown hK hW hL (gok_s hi hn) (gad_lt (gok_s hi hn)) (gE_ms hi n) rfl 8 (by decide) rfl hlink rfl (ty := .int) rfl rfl rfl (Nat.le_of_ble_eq_true rfl) hdg (by rw [gE_ms hi n]; simp [up3]) (fun a b hab h => gE_up_ne h hab) kk
theorem rg_X10_place (hx : p.tables.exec = Jvm.exec) (hb : c.code = cc) {own : String} {index : Nat} {Ts : List Cond} (hts : ∀ w ∈ Ts, w.before args s = true) (hin : ∀ w ∈ wsX100, w ∈ Ts) (hown : s.vm.findClass own = some m.cls) (hK : gKt X s) (hW : gWo X 251 (gE X w) H) {i n : Nat} (hi : i < 7) (hn : n < 30) (hlink : (Cond.fieldLink own index "GalaHeats$Swimmer" "place" "I").before args s = true) (hdg : decode cc pc = .ok (.getfield index, 3)) (kk : W p l e R s m args below meth c H locs cells slots Q (F0 m (pc + 3) ls (.int (w i (4 + n) 9) :: rest))) : W p l e R s m args below meth c H locs cells slots Q (F0 m pc ls (.ref (gA X i (4 + n)) :: rest)) :=
  g_get (T := TX10) hx hb hts hin hown hK hW (gok_s hi hn) (gad_lt (gok_s hi hn)) (gE_ms hi n) rfl 9 (by decide) rfl hlink rfl hdg kk
theorem rp_X10_place (hx : p.tables.exec = Jvm.exec) (hb : c.code = cc) {own : String} {index : Nat} {Ts : List Cond} (hts : ∀ w ∈ Ts, w.before args s = true) (hin : ∀ w ∈ wsX100, w ∈ Ts) (hown : s.vm.findClass own = some m.cls) (hK : gKt X s) (hW : gWo X 251 (gE X w) H) (hL : gLo X locs) {i n : Nat} (hi : i < 7) (hn : n < 30) {v : Int32} (hlink : (Cond.fieldLink own index "GalaHeats$Swimmer" "place" "I").before args s = true) (hdg : decode cc pc = .ok (.putfield index, 3)) (kk : ∀ (H1 : Heap) (locs1 : List Loc), gWo X 251 (gE X (up3 w i (4 + n) 9 v)) H1 → gLo X locs1 → W p l e R s m args below meth c H1 locs1 cells slots Q (F0 m (pc + 3) ls rest)) : W p l e R s m args below meth c H locs cells slots Q (F0 m pc ls (.int v :: .ref (gA X i (4 + n)) :: rest)) :=
  g_put (T := TX10) hx hb hts hin tyX10 tyX10_ok nmX10 hown hK hW hL (gok_s hi hn) (gad_lt (gok_s hi hn)) (gE_ms hi n) rfl 9 (by decide) rfl hlink rfl (ty := .int) rfl rfl rfl (Nat.le_of_ble_eq_true rfl) hdg (by rw [gE_ms hi n]; simp [up3]) (fun a b hab h => gE_up_ne h hab) kk
theorem rg_X10_brought (hx : p.tables.exec = Jvm.exec) (hb : c.code = cc) {own : String} {index : Nat} {Ts : List Cond} (hts : ∀ w ∈ Ts, w.before args s = true) (hin : ∀ w ∈ wsX100, w ∈ Ts) (hown : s.vm.findClass own = some m.cls) (hK : gKt X s) (hW : gWo X 251 (gE X w) H) {i n : Nat} (hi : i < 7) (hn : n < 30) (hlink : (Cond.fieldLink own index "GalaHeats$Swimmer" "brought" "I").before args s = true) (hdg : decode cc pc = .ok (.getfield index, 3)) (kk : W p l e R s m args below meth c H locs cells slots Q (F0 m (pc + 3) ls (.int (w i (4 + n) 10) :: rest))) : W p l e R s m args below meth c H locs cells slots Q (F0 m pc ls (.ref (gA X i (4 + n)) :: rest)) :=
  g_get (T := TX10) hx hb hts hin hown hK hW (gok_s hi hn) (gad_lt (gok_s hi hn)) (gE_ms hi n) rfl 10 (by decide) rfl hlink rfl hdg kk
theorem rp_X10_brought (hx : p.tables.exec = Jvm.exec) (hb : c.code = cc) {own : String} {index : Nat} {Ts : List Cond} (hts : ∀ w ∈ Ts, w.before args s = true) (hin : ∀ w ∈ wsX100, w ∈ Ts) (hown : s.vm.findClass own = some m.cls) (hK : gKt X s) (hW : gWo X 251 (gE X w) H) (hL : gLo X locs) {i n : Nat} (hi : i < 7) (hn : n < 30) {v : Int32} (hlink : (Cond.fieldLink own index "GalaHeats$Swimmer" "brought" "I").before args s = true) (hdg : decode cc pc = .ok (.putfield index, 3)) (kk : ∀ (H1 : Heap) (locs1 : List Loc), gWo X 251 (gE X (up3 w i (4 + n) 10 v)) H1 → gLo X locs1 → W p l e R s m args below meth c H1 locs1 cells slots Q (F0 m (pc + 3) ls rest)) : W p l e R s m args below meth c H locs cells slots Q (F0 m pc ls (.int v :: .ref (gA X i (4 + n)) :: rest)) :=
  g_put (T := TX10) hx hb hts hin tyX10 tyX10_ok nmX10 hown hK hW hL (gok_s hi hn) (gad_lt (gok_s hi hn)) (gE_ms hi n) rfl 10 (by decide) rfl hlink rfl (ty := .int) rfl rfl rfl (Nat.le_of_ble_eq_true rfl) hdg (by rw [gE_ms hi n]; simp [up3]) (fun a b hab h => gE_up_ne h hab) kk
theorem rg_X3_rows (hx : p.tables.exec = Jvm.exec) (hb : c.code = cc) {own : String} {index : Nat} {Ts : List Cond} (hts : ∀ w ∈ Ts, w.before args s = true) (hin : ∀ w ∈ wsX30, w ∈ Ts) (hown : s.vm.findClass own = some m.cls) (hK : gKt X s) (hW : gWo X 251 (gE X w) H) (hlink : (Cond.fieldLink own index "GalaHeats$History" "rows" "[LGalaHeats$Meet;").before args s = true) (hdg : decode cc pc = .ok (.getfield index, 3)) (kk : W p l e R s m args below meth c H locs cells slots Q (F0 m (pc + 3) ls (.ref (gA X 7 2) :: rest))) : W p l e R s m args below meth c H locs cells slots Q (F0 m pc ls (.ref (gA X 7 1) :: rest)) :=
  g_get (T := TX3) hx hb hts hin hown hK hW (gok_c (by decide)) (gad_lt (gok_c (by decide))) gE_H rfl 0 (by decide) rfl hlink rfl hdg kk
theorem rg_X3_kept (hx : p.tables.exec = Jvm.exec) (hb : c.code = cc) {own : String} {index : Nat} {Ts : List Cond} (hts : ∀ w ∈ Ts, w.before args s = true) (hin : ∀ w ∈ wsX30, w ∈ Ts) (hown : s.vm.findClass own = some m.cls) (hK : gKt X s) (hW : gWo X 251 (gE X w) H) (hlink : (Cond.fieldLink own index "GalaHeats$History" "kept" "I").before args s = true) (hdg : decode cc pc = .ok (.getfield index, 3)) (kk : W p l e R s m args below meth c H locs cells slots Q (F0 m (pc + 3) ls (.int (w 7 1 1) :: rest))) : W p l e R s m args below meth c H locs cells slots Q (F0 m pc ls (.ref (gA X 7 1) :: rest)) :=
  g_get (T := TX3) hx hb hts hin hown hK hW (gok_c (by decide)) (gad_lt (gok_c (by decide))) gE_H rfl 1 (by decide) rfl hlink rfl hdg kk
theorem rp_X3_kept (hx : p.tables.exec = Jvm.exec) (hb : c.code = cc) {own : String} {index : Nat} {Ts : List Cond} (hts : ∀ w ∈ Ts, w.before args s = true) (hin : ∀ w ∈ wsX30, w ∈ Ts) (hown : s.vm.findClass own = some m.cls) (hK : gKt X s) (hW : gWo X 251 (gE X w) H) (hL : gLo X locs) {v : Int32} (hlink : (Cond.fieldLink own index "GalaHeats$History" "kept" "I").before args s = true) (hdg : decode cc pc = .ok (.putfield index, 3)) (kk : ∀ (H1 : Heap) (locs1 : List Loc), gWo X 251 (gE X (up3 w 7 1 1 v)) H1 → gLo X locs1 → W p l e R s m args below meth c H1 locs1 cells slots Q (F0 m (pc + 3) ls rest)) : W p l e R s m args below meth c H locs cells slots Q (F0 m pc ls (.int v :: .ref (gA X 7 1) :: rest)) :=
  g_put (T := TX3) hx hb hts hin tyX3 tyX3_ok nmX3 hown hK hW hL (gok_c (by decide)) (gad_lt (gok_c (by decide))) gE_H rfl 1 (by decide) rfl hlink rfl (ty := .int) rfl rfl rfl (Nat.le_of_ble_eq_true rfl) hdg (by rw [gE_H]; simp [up3]) (fun a b hab h => gE_up_ne h hab) kk
theorem rg_X6_signs (hx : p.tables.exec = Jvm.exec) (hb : c.code = cc) {own : String} {index : Nat} {Ts : List Cond} (hts : ∀ w ∈ Ts, w.before args s = true) (hin : ∀ w ∈ wsX60, w ∈ Ts) (hown : s.vm.findClass own = some m.cls) (hK : gKt X s) (hW : gWo X 251 (gE X w) H) (hlink : (Cond.fieldLink own index "GalaHeats$OrderText" "signs" "[I").before args s = true) (hdg : decode cc pc = .ok (.getfield index, 3)) (kk : W p l e R s m args below meth c H locs cells slots Q (F0 m (pc + 3) ls (.ref (gA X 7 4) :: rest))) : W p l e R s m args below meth c H locs cells slots Q (F0 m pc ls (.ref (gA X 7 3) :: rest)) :=
  g_get (T := TX6) hx hb hts hin hown hK hW (gok_c (by decide)) (gad_lt (gok_c (by decide))) gE_T rfl 0 (by decide) rfl hlink rfl hdg kk
theorem rg_X6_length (hx : p.tables.exec = Jvm.exec) (hb : c.code = cc) {own : String} {index : Nat} {Ts : List Cond} (hts : ∀ w ∈ Ts, w.before args s = true) (hin : ∀ w ∈ wsX60, w ∈ Ts) (hown : s.vm.findClass own = some m.cls) (hK : gKt X s) (hW : gWo X 251 (gE X w) H) (hlink : (Cond.fieldLink own index "GalaHeats$OrderText" "length" "I").before args s = true) (hdg : decode cc pc = .ok (.getfield index, 3)) (kk : W p l e R s m args below meth c H locs cells slots Q (F0 m (pc + 3) ls (.int (w 7 3 1) :: rest))) : W p l e R s m args below meth c H locs cells slots Q (F0 m pc ls (.ref (gA X 7 3) :: rest)) :=
  g_get (T := TX6) hx hb hts hin hown hK hW (gok_c (by decide)) (gad_lt (gok_c (by decide))) gE_T rfl 1 (by decide) rfl hlink rfl hdg kk
theorem rp_X6_length (hx : p.tables.exec = Jvm.exec) (hb : c.code = cc) {own : String} {index : Nat} {Ts : List Cond} (hts : ∀ w ∈ Ts, w.before args s = true) (hin : ∀ w ∈ wsX60, w ∈ Ts) (hown : s.vm.findClass own = some m.cls) (hK : gKt X s) (hW : gWo X 251 (gE X w) H) (hL : gLo X locs) {v : Int32} (hlink : (Cond.fieldLink own index "GalaHeats$OrderText" "length" "I").before args s = true) (hdg : decode cc pc = .ok (.putfield index, 3)) (kk : ∀ (H1 : Heap) (locs1 : List Loc), gWo X 251 (gE X (up3 w 7 3 1 v)) H1 → gLo X locs1 → W p l e R s m args below meth c H1 locs1 cells slots Q (F0 m (pc + 3) ls rest)) : W p l e R s m args below meth c H locs cells slots Q (F0 m pc ls (.int v :: .ref (gA X 7 3) :: rest)) :=
  g_put (T := TX6) hx hb hts hin tyX6 tyX6_ok nmX6 hown hK hW hL (gok_c (by decide)) (gad_lt (gok_c (by decide))) gE_T rfl 1 (by decide) rfl hlink rfl (ty := .int) rfl rfl rfl (Nat.le_of_ble_eq_true rfl) hdg (by rw [gE_T]; simp [up3]) (fun a b hab h => gE_up_ne h hab) kk
theorem rg_X6_start (hx : p.tables.exec = Jvm.exec) (hb : c.code = cc) {own : String} {index : Nat} {Ts : List Cond} (hts : ∀ w ∈ Ts, w.before args s = true) (hin : ∀ w ∈ wsX60, w ∈ Ts) (hown : s.vm.findClass own = some m.cls) (hK : gKt X s) (hW : gWo X 251 (gE X w) H) (hlink : (Cond.fieldLink own index "GalaHeats$OrderText" "start" "I").before args s = true) (hdg : decode cc pc = .ok (.getfield index, 3)) (kk : W p l e R s m args below meth c H locs cells slots Q (F0 m (pc + 3) ls (.int (w 7 3 2) :: rest))) : W p l e R s m args below meth c H locs cells slots Q (F0 m pc ls (.ref (gA X 7 3) :: rest)) :=
  g_get (T := TX6) hx hb hts hin hown hK hW (gok_c (by decide)) (gad_lt (gok_c (by decide))) gE_T rfl 2 (by decide) rfl hlink rfl hdg kk
theorem rp_X6_start (hx : p.tables.exec = Jvm.exec) (hb : c.code = cc) {own : String} {index : Nat} {Ts : List Cond} (hts : ∀ w ∈ Ts, w.before args s = true) (hin : ∀ w ∈ wsX60, w ∈ Ts) (hown : s.vm.findClass own = some m.cls) (hK : gKt X s) (hW : gWo X 251 (gE X w) H) (hL : gLo X locs) {v : Int32} (hlink : (Cond.fieldLink own index "GalaHeats$OrderText" "start" "I").before args s = true) (hdg : decode cc pc = .ok (.putfield index, 3)) (kk : ∀ (H1 : Heap) (locs1 : List Loc), gWo X 251 (gE X (up3 w 7 3 2 v)) H1 → gLo X locs1 → W p l e R s m args below meth c H1 locs1 cells slots Q (F0 m (pc + 3) ls rest)) : W p l e R s m args below meth c H locs cells slots Q (F0 m pc ls (.int v :: .ref (gA X 7 3) :: rest)) :=
  g_put (T := TX6) hx hb hts hin tyX6 tyX6_ok nmX6 hown hK hW hL (gok_c (by decide)) (gad_lt (gok_c (by decide))) gE_T rfl 2 (by decide) rfl hlink rfl (ty := .int) rfl rfl rfl (Nat.le_of_ble_eq_true rfl) hdg (by rw [gE_T]; simp [up3]) (fun a b hab h => gE_up_ne h hab) kk
theorem rg_X6_position (hx : p.tables.exec = Jvm.exec) (hb : c.code = cc) {own : String} {index : Nat} {Ts : List Cond} (hts : ∀ w ∈ Ts, w.before args s = true) (hin : ∀ w ∈ wsX60, w ∈ Ts) (hown : s.vm.findClass own = some m.cls) (hK : gKt X s) (hW : gWo X 251 (gE X w) H) (hlink : (Cond.fieldLink own index "GalaHeats$OrderText" "position" "I").before args s = true) (hdg : decode cc pc = .ok (.getfield index, 3)) (kk : W p l e R s m args below meth c H locs cells slots Q (F0 m (pc + 3) ls (.int (w 7 3 3) :: rest))) : W p l e R s m args below meth c H locs cells slots Q (F0 m pc ls (.ref (gA X 7 3) :: rest)) :=
  g_get (T := TX6) hx hb hts hin hown hK hW (gok_c (by decide)) (gad_lt (gok_c (by decide))) gE_T rfl 3 (by decide) rfl hlink rfl hdg kk
theorem rp_X6_position (hx : p.tables.exec = Jvm.exec) (hb : c.code = cc) {own : String} {index : Nat} {Ts : List Cond} (hts : ∀ w ∈ Ts, w.before args s = true) (hin : ∀ w ∈ wsX60, w ∈ Ts) (hown : s.vm.findClass own = some m.cls) (hK : gKt X s) (hW : gWo X 251 (gE X w) H) (hL : gLo X locs) {v : Int32} (hlink : (Cond.fieldLink own index "GalaHeats$OrderText" "position" "I").before args s = true) (hdg : decode cc pc = .ok (.putfield index, 3)) (kk : ∀ (H1 : Heap) (locs1 : List Loc), gWo X 251 (gE X (up3 w 7 3 3 v)) H1 → gLo X locs1 → W p l e R s m args below meth c H1 locs1 cells slots Q (F0 m (pc + 3) ls rest)) : W p l e R s m args below meth c H locs cells slots Q (F0 m pc ls (.int v :: .ref (gA X 7 3) :: rest)) :=
  g_put (T := TX6) hx hb hts hin tyX6 tyX6_ok nmX6 hown hK hW hL (gok_c (by decide)) (gad_lt (gok_c (by decide))) gE_T rfl 3 (by decide) rfl hlink rfl (ty := .int) rfl rfl rfl (Nat.le_of_ble_eq_true rfl) hdg (by rw [gE_T]; simp [up3]) (fun a b hab h => gE_up_ne h hab) kk
theorem rg_X6_kind (hx : p.tables.exec = Jvm.exec) (hb : c.code = cc) {own : String} {index : Nat} {Ts : List Cond} (hts : ∀ w ∈ Ts, w.before args s = true) (hin : ∀ w ∈ wsX60, w ∈ Ts) (hown : s.vm.findClass own = some m.cls) (hK : gKt X s) (hW : gWo X 251 (gE X w) H) (hlink : (Cond.fieldLink own index "GalaHeats$OrderText" "kind" "I").before args s = true) (hdg : decode cc pc = .ok (.getfield index, 3)) (kk : W p l e R s m args below meth c H locs cells slots Q (F0 m (pc + 3) ls (.int (w 7 3 4) :: rest))) : W p l e R s m args below meth c H locs cells slots Q (F0 m pc ls (.ref (gA X 7 3) :: rest)) :=
  g_get (T := TX6) hx hb hts hin hown hK hW (gok_c (by decide)) (gad_lt (gok_c (by decide))) gE_T rfl 4 (by decide) rfl hlink rfl hdg kk
theorem rp_X6_kind (hx : p.tables.exec = Jvm.exec) (hb : c.code = cc) {own : String} {index : Nat} {Ts : List Cond} (hts : ∀ w ∈ Ts, w.before args s = true) (hin : ∀ w ∈ wsX60, w ∈ Ts) (hown : s.vm.findClass own = some m.cls) (hK : gKt X s) (hW : gWo X 251 (gE X w) H) (hL : gLo X locs) {v : Int32} (hlink : (Cond.fieldLink own index "GalaHeats$OrderText" "kind" "I").before args s = true) (hdg : decode cc pc = .ok (.putfield index, 3)) (kk : ∀ (H1 : Heap) (locs1 : List Loc), gWo X 251 (gE X (up3 w 7 3 4 v)) H1 → gLo X locs1 → W p l e R s m args below meth c H1 locs1 cells slots Q (F0 m (pc + 3) ls rest)) : W p l e R s m args below meth c H locs cells slots Q (F0 m pc ls (.int v :: .ref (gA X 7 3) :: rest)) :=
  g_put (T := TX6) hx hb hts hin tyX6 tyX6_ok nmX6 hown hK hW hL (gok_c (by decide)) (gad_lt (gok_c (by decide))) gE_T rfl 4 (by decide) rfl hlink rfl (ty := .int) rfl rfl rfl (Nat.le_of_ble_eq_true rfl) hdg (by rw [gE_T]; simp [up3]) (fun a b hab h => gE_up_ne h hab) kk
theorem rg_X6_first (hx : p.tables.exec = Jvm.exec) (hb : c.code = cc) {own : String} {index : Nat} {Ts : List Cond} (hts : ∀ w ∈ Ts, w.before args s = true) (hin : ∀ w ∈ wsX60, w ∈ Ts) (hown : s.vm.findClass own = some m.cls) (hK : gKt X s) (hW : gWo X 251 (gE X w) H) (hlink : (Cond.fieldLink own index "GalaHeats$OrderText" "first" "I").before args s = true) (hdg : decode cc pc = .ok (.getfield index, 3)) (kk : W p l e R s m args below meth c H locs cells slots Q (F0 m (pc + 3) ls (.int (w 7 3 5) :: rest))) : W p l e R s m args below meth c H locs cells slots Q (F0 m pc ls (.ref (gA X 7 3) :: rest)) :=
  g_get (T := TX6) hx hb hts hin hown hK hW (gok_c (by decide)) (gad_lt (gok_c (by decide))) gE_T rfl 5 (by decide) rfl hlink rfl hdg kk
theorem rp_X6_first (hx : p.tables.exec = Jvm.exec) (hb : c.code = cc) {own : String} {index : Nat} {Ts : List Cond} (hts : ∀ w ∈ Ts, w.before args s = true) (hin : ∀ w ∈ wsX60, w ∈ Ts) (hown : s.vm.findClass own = some m.cls) (hK : gKt X s) (hW : gWo X 251 (gE X w) H) (hL : gLo X locs) {v : Int32} (hlink : (Cond.fieldLink own index "GalaHeats$OrderText" "first" "I").before args s = true) (hdg : decode cc pc = .ok (.putfield index, 3)) (kk : ∀ (H1 : Heap) (locs1 : List Loc), gWo X 251 (gE X (up3 w 7 3 5 v)) H1 → gLo X locs1 → W p l e R s m args below meth c H1 locs1 cells slots Q (F0 m (pc + 3) ls rest)) : W p l e R s m args below meth c H locs cells slots Q (F0 m pc ls (.int v :: .ref (gA X 7 3) :: rest)) :=
  g_put (T := TX6) hx hb hts hin tyX6 tyX6_ok nmX6 hown hK hW hL (gok_c (by decide)) (gad_lt (gok_c (by decide))) gE_T rfl 5 (by decide) rfl hlink rfl (ty := .int) rfl rfl rfl (Nat.le_of_ble_eq_true rfl) hdg (by rw [gE_T]; simp [up3]) (fun a b hab h => gE_up_ne h hab) kk
theorem rg_X6_second (hx : p.tables.exec = Jvm.exec) (hb : c.code = cc) {own : String} {index : Nat} {Ts : List Cond} (hts : ∀ w ∈ Ts, w.before args s = true) (hin : ∀ w ∈ wsX60, w ∈ Ts) (hown : s.vm.findClass own = some m.cls) (hK : gKt X s) (hW : gWo X 251 (gE X w) H) (hlink : (Cond.fieldLink own index "GalaHeats$OrderText" "second" "I").before args s = true) (hdg : decode cc pc = .ok (.getfield index, 3)) (kk : W p l e R s m args below meth c H locs cells slots Q (F0 m (pc + 3) ls (.int (w 7 3 6) :: rest))) : W p l e R s m args below meth c H locs cells slots Q (F0 m pc ls (.ref (gA X 7 3) :: rest)) :=
  g_get (T := TX6) hx hb hts hin hown hK hW (gok_c (by decide)) (gad_lt (gok_c (by decide))) gE_T rfl 6 (by decide) rfl hlink rfl hdg kk
theorem rp_X6_second (hx : p.tables.exec = Jvm.exec) (hb : c.code = cc) {own : String} {index : Nat} {Ts : List Cond} (hts : ∀ w ∈ Ts, w.before args s = true) (hin : ∀ w ∈ wsX60, w ∈ Ts) (hown : s.vm.findClass own = some m.cls) (hK : gKt X s) (hW : gWo X 251 (gE X w) H) (hL : gLo X locs) {v : Int32} (hlink : (Cond.fieldLink own index "GalaHeats$OrderText" "second" "I").before args s = true) (hdg : decode cc pc = .ok (.putfield index, 3)) (kk : ∀ (H1 : Heap) (locs1 : List Loc), gWo X 251 (gE X (up3 w 7 3 6 v)) H1 → gLo X locs1 → W p l e R s m args below meth c H1 locs1 cells slots Q (F0 m (pc + 3) ls rest)) : W p l e R s m args below meth c H locs cells slots Q (F0 m pc ls (.int v :: .ref (gA X 7 3) :: rest)) :=
  g_put (T := TX6) hx hb hts hin tyX6 tyX6_ok nmX6 hown hK hW hL (gok_c (by decide)) (gad_lt (gok_c (by decide))) gE_T rfl 6 (by decide) rfl hlink rfl (ty := .int) rfl rfl rfl (Nat.le_of_ble_eq_true rfl) hdg (by rw [gE_T]; simp [up3]) (fun a b hab h => gE_up_ne h hab) kk
theorem rg_X6_number (hx : p.tables.exec = Jvm.exec) (hb : c.code = cc) {own : String} {index : Nat} {Ts : List Cond} (hts : ∀ w ∈ Ts, w.before args s = true) (hin : ∀ w ∈ wsX60, w ∈ Ts) (hown : s.vm.findClass own = some m.cls) (hK : gKt X s) (hW : gWo X 251 (gE X w) H) (hlink : (Cond.fieldLink own index "GalaHeats$OrderText" "number" "I").before args s = true) (hdg : decode cc pc = .ok (.getfield index, 3)) (kk : W p l e R s m args below meth c H locs cells slots Q (F0 m (pc + 3) ls (.int (w 7 3 7) :: rest))) : W p l e R s m args below meth c H locs cells slots Q (F0 m pc ls (.ref (gA X 7 3) :: rest)) :=
  g_get (T := TX6) hx hb hts hin hown hK hW (gok_c (by decide)) (gad_lt (gok_c (by decide))) gE_T rfl 7 (by decide) rfl hlink rfl hdg kk
theorem rp_X6_number (hx : p.tables.exec = Jvm.exec) (hb : c.code = cc) {own : String} {index : Nat} {Ts : List Cond} (hts : ∀ w ∈ Ts, w.before args s = true) (hin : ∀ w ∈ wsX60, w ∈ Ts) (hown : s.vm.findClass own = some m.cls) (hK : gKt X s) (hW : gWo X 251 (gE X w) H) (hL : gLo X locs) {v : Int32} (hlink : (Cond.fieldLink own index "GalaHeats$OrderText" "number" "I").before args s = true) (hdg : decode cc pc = .ok (.putfield index, 3)) (kk : ∀ (H1 : Heap) (locs1 : List Loc), gWo X 251 (gE X (up3 w 7 3 7 v)) H1 → gLo X locs1 → W p l e R s m args below meth c H1 locs1 cells slots Q (F0 m (pc + 3) ls rest)) : W p l e R s m args below meth c H locs cells slots Q (F0 m pc ls (.int v :: .ref (gA X 7 3) :: rest)) :=
  g_put (T := TX6) hx hb hts hin tyX6 tyX6_ok nmX6 hown hK hW hL (gok_c (by decide)) (gad_lt (gok_c (by decide))) gE_T rfl 7 (by decide) rfl hlink rfl (ty := .int) rfl rfl rfl (Nat.le_of_ble_eq_true rfl) hdg (by rw [gE_T]; simp [up3]) (fun a b hab h => gE_up_ne h hab) kk
theorem rg_X7_orders (hx : p.tables.exec = Jvm.exec) (hb : c.code = cc) {own : String} {index : Nat} {Ts : List Cond} (hts : ∀ w ∈ Ts, w.before args s = true) (hin : ∀ w ∈ wsX70, w ∈ Ts) (hown : s.vm.findClass own = some m.cls) (hK : gKt X s) (hW : gWo X 251 (gE X w) H) (hlink : (Cond.fieldLink own index "GalaHeats$Rehearsal" "orders" "I").before args s = true) (hdg : decode cc pc = .ok (.getfield index, 3)) (kk : W p l e R s m args below meth c H locs cells slots Q (F0 m (pc + 3) ls (.int (w 7 5 0) :: rest))) : W p l e R s m args below meth c H locs cells slots Q (F0 m pc ls (.ref (gA X 7 5) :: rest)) :=
  g_get (T := TX7) hx hb hts hin hown hK hW (gok_c (by decide)) (gad_lt (gok_c (by decide))) gE_R rfl 0 (by decide) rfl hlink rfl hdg kk
theorem rp_X7_orders (hx : p.tables.exec = Jvm.exec) (hb : c.code = cc) {own : String} {index : Nat} {Ts : List Cond} (hts : ∀ w ∈ Ts, w.before args s = true) (hin : ∀ w ∈ wsX70, w ∈ Ts) (hown : s.vm.findClass own = some m.cls) (hK : gKt X s) (hW : gWo X 251 (gE X w) H) (hL : gLo X locs) {v : Int32} (hlink : (Cond.fieldLink own index "GalaHeats$Rehearsal" "orders" "I").before args s = true) (hdg : decode cc pc = .ok (.putfield index, 3)) (kk : ∀ (H1 : Heap) (locs1 : List Loc), gWo X 251 (gE X (up3 w 7 5 0 v)) H1 → gLo X locs1 → W p l e R s m args below meth c H1 locs1 cells slots Q (F0 m (pc + 3) ls rest)) : W p l e R s m args below meth c H locs cells slots Q (F0 m pc ls (.int v :: .ref (gA X 7 5) :: rest)) :=
  g_put (T := TX7) hx hb hts hin tyX7 tyX7_ok nmX7 hown hK hW hL (gok_c (by decide)) (gad_lt (gok_c (by decide))) gE_R rfl 0 (by decide) rfl hlink rfl (ty := .int) rfl rfl rfl (Nat.le_of_ble_eq_true rfl) hdg (by rw [gE_R]; simp [up3]) (fun a b hab h => gE_up_ne h hab) kk
theorem rg_X7_position (hx : p.tables.exec = Jvm.exec) (hb : c.code = cc) {own : String} {index : Nat} {Ts : List Cond} (hts : ∀ w ∈ Ts, w.before args s = true) (hin : ∀ w ∈ wsX70, w ∈ Ts) (hown : s.vm.findClass own = some m.cls) (hK : gKt X s) (hW : gWo X 251 (gE X w) H) (hlink : (Cond.fieldLink own index "GalaHeats$Rehearsal" "position" "I").before args s = true) (hdg : decode cc pc = .ok (.getfield index, 3)) (kk : W p l e R s m args below meth c H locs cells slots Q (F0 m (pc + 3) ls (.int (w 7 5 1) :: rest))) : W p l e R s m args below meth c H locs cells slots Q (F0 m pc ls (.ref (gA X 7 5) :: rest)) :=
  g_get (T := TX7) hx hb hts hin hown hK hW (gok_c (by decide)) (gad_lt (gok_c (by decide))) gE_R rfl 1 (by decide) rfl hlink rfl hdg kk
theorem rp_X7_position (hx : p.tables.exec = Jvm.exec) (hb : c.code = cc) {own : String} {index : Nat} {Ts : List Cond} (hts : ∀ w ∈ Ts, w.before args s = true) (hin : ∀ w ∈ wsX70, w ∈ Ts) (hown : s.vm.findClass own = some m.cls) (hK : gKt X s) (hW : gWo X 251 (gE X w) H) (hL : gLo X locs) {v : Int32} (hlink : (Cond.fieldLink own index "GalaHeats$Rehearsal" "position" "I").before args s = true) (hdg : decode cc pc = .ok (.putfield index, 3)) (kk : ∀ (H1 : Heap) (locs1 : List Loc), gWo X 251 (gE X (up3 w 7 5 1 v)) H1 → gLo X locs1 → W p l e R s m args below meth c H1 locs1 cells slots Q (F0 m (pc + 3) ls rest)) : W p l e R s m args below meth c H locs cells slots Q (F0 m pc ls (.int v :: .ref (gA X 7 5) :: rest)) :=
  g_put (T := TX7) hx hb hts hin tyX7 tyX7_ok nmX7 hown hK hW hL (gok_c (by decide)) (gad_lt (gok_c (by decide))) gE_R rfl 1 (by decide) rfl hlink rfl (ty := .int) rfl rfl rfl (Nat.le_of_ble_eq_true rfl) hdg (by rw [gE_R]; simp [up3]) (fun a b hab h => gE_up_ne h hab) kk
theorem rg_X7_reason (hx : p.tables.exec = Jvm.exec) (hb : c.code = cc) {own : String} {index : Nat} {Ts : List Cond} (hts : ∀ w ∈ Ts, w.before args s = true) (hin : ∀ w ∈ wsX70, w ∈ Ts) (hown : s.vm.findClass own = some m.cls) (hK : gKt X s) (hW : gWo X 251 (gE X w) H) (hlink : (Cond.fieldLink own index "GalaHeats$Rehearsal" "reason" "I").before args s = true) (hdg : decode cc pc = .ok (.getfield index, 3)) (kk : W p l e R s m args below meth c H locs cells slots Q (F0 m (pc + 3) ls (.int (w 7 5 2) :: rest))) : W p l e R s m args below meth c H locs cells slots Q (F0 m pc ls (.ref (gA X 7 5) :: rest)) :=
  g_get (T := TX7) hx hb hts hin hown hK hW (gok_c (by decide)) (gad_lt (gok_c (by decide))) gE_R rfl 2 (by decide) rfl hlink rfl hdg kk
theorem rp_X7_reason (hx : p.tables.exec = Jvm.exec) (hb : c.code = cc) {own : String} {index : Nat} {Ts : List Cond} (hts : ∀ w ∈ Ts, w.before args s = true) (hin : ∀ w ∈ wsX70, w ∈ Ts) (hown : s.vm.findClass own = some m.cls) (hK : gKt X s) (hW : gWo X 251 (gE X w) H) (hL : gLo X locs) {v : Int32} (hlink : (Cond.fieldLink own index "GalaHeats$Rehearsal" "reason" "I").before args s = true) (hdg : decode cc pc = .ok (.putfield index, 3)) (kk : ∀ (H1 : Heap) (locs1 : List Loc), gWo X 251 (gE X (up3 w 7 5 2 v)) H1 → gLo X locs1 → W p l e R s m args below meth c H1 locs1 cells slots Q (F0 m (pc + 3) ls rest)) : W p l e R s m args below meth c H locs cells slots Q (F0 m pc ls (.int v :: .ref (gA X 7 5) :: rest)) :=
  g_put (T := TX7) hx hb hts hin tyX7 tyX7_ok nmX7 hown hK hW hL (gok_c (by decide)) (gad_lt (gok_c (by decide))) gE_R rfl 2 (by decide) rfl hlink rfl (ty := .int) rfl rfl rfl (Nat.le_of_ble_eq_true rfl) hdg (by rw [gE_R]; simp [up3]) (fun a b hab h => gE_up_ne h hab) kk
theorem rg_X7_cause (hx : p.tables.exec = Jvm.exec) (hb : c.code = cc) {own : String} {index : Nat} {Ts : List Cond} (hts : ∀ w ∈ Ts, w.before args s = true) (hin : ∀ w ∈ wsX70, w ∈ Ts) (hown : s.vm.findClass own = some m.cls) (hK : gKt X s) (hW : gWo X 251 (gE X w) H) (hlink : (Cond.fieldLink own index "GalaHeats$Rehearsal" "cause" "I").before args s = true) (hdg : decode cc pc = .ok (.getfield index, 3)) (kk : W p l e R s m args below meth c H locs cells slots Q (F0 m (pc + 3) ls (.int (w 7 5 3) :: rest))) : W p l e R s m args below meth c H locs cells slots Q (F0 m pc ls (.ref (gA X 7 5) :: rest)) :=
  g_get (T := TX7) hx hb hts hin hown hK hW (gok_c (by decide)) (gad_lt (gok_c (by decide))) gE_R rfl 3 (by decide) rfl hlink rfl hdg kk
theorem rp_X7_cause (hx : p.tables.exec = Jvm.exec) (hb : c.code = cc) {own : String} {index : Nat} {Ts : List Cond} (hts : ∀ w ∈ Ts, w.before args s = true) (hin : ∀ w ∈ wsX70, w ∈ Ts) (hown : s.vm.findClass own = some m.cls) (hK : gKt X s) (hW : gWo X 251 (gE X w) H) (hL : gLo X locs) {v : Int32} (hlink : (Cond.fieldLink own index "GalaHeats$Rehearsal" "cause" "I").before args s = true) (hdg : decode cc pc = .ok (.putfield index, 3)) (kk : ∀ (H1 : Heap) (locs1 : List Loc), gWo X 251 (gE X (up3 w 7 5 3 v)) H1 → gLo X locs1 → W p l e R s m args below meth c H1 locs1 cells slots Q (F0 m (pc + 3) ls rest)) : W p l e R s m args below meth c H locs cells slots Q (F0 m pc ls (.int v :: .ref (gA X 7 5) :: rest)) :=
  g_put (T := TX7) hx hb hts hin tyX7 tyX7_ok nmX7 hown hK hW hL (gok_c (by decide)) (gad_lt (gok_c (by decide))) gE_R rfl 3 (by decide) rfl hlink rfl (ty := .int) rfl rfl rfl (Nat.le_of_ble_eq_true rfl) hdg (by rw [gE_R]; simp [up3]) (fun a b hab h => gE_up_ne h hab) kk
theorem rg_X11_meet (hx : p.tables.exec = Jvm.exec) (hb : c.code = cc) {own : String} {index : Nat} {Ts : List Cond} (hts : ∀ w ∈ Ts, w.before args s = true) (hin : ∀ w ∈ wsX110, w ∈ Ts) (hown : s.vm.findClass own = some m.cls) (hK : gKt X s) (hW : gWo X 251 (gE X w) H) (hlink : (Cond.fieldLink own index "GalaHeats" "meet" "LGalaHeats$Meet;").before args s = true) (hdg : decode cc pc = .ok (.getfield index, 3)) (kk : W p l e R s m args below meth c H locs cells slots Q (F0 m (pc + 3) ls (.ref (gA X 0 0) :: rest))) : W p l e R s m args below meth c H locs cells slots Q (F0 m pc ls (.ref (gA X 7 0) :: rest)) :=
  g_get (T := TX11) hx hb hts hin hown hK hW (gok_c (by decide)) (gad_lt (gok_c (by decide))) gE_G rfl 0 (by decide) rfl hlink rfl hdg kk
theorem rg_X11_trial (hx : p.tables.exec = Jvm.exec) (hb : c.code = cc) {own : String} {index : Nat} {Ts : List Cond} (hts : ∀ w ∈ Ts, w.before args s = true) (hin : ∀ w ∈ wsX110, w ∈ Ts) (hown : s.vm.findClass own = some m.cls) (hK : gKt X s) (hW : gWo X 251 (gE X w) H) (hlink : (Cond.fieldLink own index "GalaHeats" "trial" "LGalaHeats$Meet;").before args s = true) (hdg : decode cc pc = .ok (.getfield index, 3)) (kk : W p l e R s m args below meth c H locs cells slots Q (F0 m (pc + 3) ls (.ref (gA X 1 0) :: rest))) : W p l e R s m args below meth c H locs cells slots Q (F0 m pc ls (.ref (gA X 7 0) :: rest)) :=
  g_get (T := TX11) hx hb hts hin hown hK hW (gok_c (by decide)) (gad_lt (gok_c (by decide))) gE_G rfl 1 (by decide) rfl hlink rfl hdg kk
theorem rg_X11_history (hx : p.tables.exec = Jvm.exec) (hb : c.code = cc) {own : String} {index : Nat} {Ts : List Cond} (hts : ∀ w ∈ Ts, w.before args s = true) (hin : ∀ w ∈ wsX110, w ∈ Ts) (hown : s.vm.findClass own = some m.cls) (hK : gKt X s) (hW : gWo X 251 (gE X w) H) (hlink : (Cond.fieldLink own index "GalaHeats" "history" "LGalaHeats$History;").before args s = true) (hdg : decode cc pc = .ok (.getfield index, 3)) (kk : W p l e R s m args below meth c H locs cells slots Q (F0 m (pc + 3) ls (.ref (gA X 7 1) :: rest))) : W p l e R s m args below meth c H locs cells slots Q (F0 m pc ls (.ref (gA X 7 0) :: rest)) :=
  g_get (T := TX11) hx hb hts hin hown hK hW (gok_c (by decide)) (gad_lt (gok_c (by decide))) gE_G rfl 2 (by decide) rfl hlink rfl hdg kk
theorem rg_X11_text (hx : p.tables.exec = Jvm.exec) (hb : c.code = cc) {own : String} {index : Nat} {Ts : List Cond} (hts : ∀ w ∈ Ts, w.before args s = true) (hin : ∀ w ∈ wsX110, w ∈ Ts) (hown : s.vm.findClass own = some m.cls) (hK : gKt X s) (hW : gWo X 251 (gE X w) H) (hlink : (Cond.fieldLink own index "GalaHeats" "text" "LGalaHeats$OrderText;").before args s = true) (hdg : decode cc pc = .ok (.getfield index, 3)) (kk : W p l e R s m args below meth c H locs cells slots Q (F0 m (pc + 3) ls (.ref (gA X 7 3) :: rest))) : W p l e R s m args below meth c H locs cells slots Q (F0 m pc ls (.ref (gA X 7 0) :: rest)) :=
  g_get (T := TX11) hx hb hts hin hown hK hW (gok_c (by decide)) (gad_lt (gok_c (by decide))) gE_G rfl 3 (by decide) rfl hlink rfl hdg kk
theorem rg_X11_rehearsal (hx : p.tables.exec = Jvm.exec) (hb : c.code = cc) {own : String} {index : Nat} {Ts : List Cond} (hts : ∀ w ∈ Ts, w.before args s = true) (hin : ∀ w ∈ wsX110, w ∈ Ts) (hown : s.vm.findClass own = some m.cls) (hK : gKt X s) (hW : gWo X 251 (gE X w) H) (hlink : (Cond.fieldLink own index "GalaHeats" "rehearsal" "LGalaHeats$Rehearsal;").before args s = true) (hdg : decode cc pc = .ok (.getfield index, 3)) (kk : W p l e R s m args below meth c H locs cells slots Q (F0 m (pc + 3) ls (.ref (gA X 7 5) :: rest))) : W p l e R s m args below meth c H locs cells slots Q (F0 m pc ls (.ref (gA X 7 0) :: rest)) :=
  g_get (T := TX11) hx hb hts hin hown hK hW (gok_c (by decide)) (gad_lt (gok_c (by decide))) gE_G rfl 4 (by decide) rfl hlink rfl hdg kk
theorem rg_X12_s (hx : p.tables.exec = Jvm.exec) (hb : c.code = cc) {own : String} {index : Nat} {Ts : List Cond} (hts : ∀ w ∈ Ts, w.before args s = true) (hin : ∀ w ∈ wsX120, w ∈ Ts) (hown : s.vm.findClass own = some m.cls) (hK : gKt X s) (hW : gWo X 251 (gE X w) H) (hlink : (Cond.fieldLink own index "GalaHeatsModel" "s" "[I").before args s = true) (hdg : decode cc pc = .ok (.getfield index, 3)) (kk : W p l e R s m args below meth c H locs cells slots Q (F0 m (pc + 3) ls (.ref (gA X 8 1) :: rest))) : W p l e R s m args below meth c H locs cells slots Q (F0 m pc ls (.ref (gA X 8 0) :: rest)) :=
  g_get (T := TX12) hx hb hts hin hown hK hW (gok_o (by decide)) (gad_lt (gok_o (by decide))) gE_O rfl 0 (by decide) rfl hlink rfl hdg kk
theorem rg_X12_past (hx : p.tables.exec = Jvm.exec) (hb : c.code = cc) {own : String} {index : Nat} {Ts : List Cond} (hts : ∀ w ∈ Ts, w.before args s = true) (hin : ∀ w ∈ wsX120, w ∈ Ts) (hown : s.vm.findClass own = some m.cls) (hK : gKt X s) (hW : gWo X 251 (gE X w) H) (hlink : (Cond.fieldLink own index "GalaHeatsModel" "past" "[I").before args s = true) (hdg : decode cc pc = .ok (.getfield index, 3)) (kk : W p l e R s m args below meth c H locs cells slots Q (F0 m (pc + 3) ls (.ref (gA X 8 2) :: rest))) : W p l e R s m args below meth c H locs cells slots Q (F0 m pc ls (.ref (gA X 8 0) :: rest)) :=
  g_get (T := TX12) hx hb hts hin hown hK hW (gok_o (by decide)) (gad_lt (gok_o (by decide))) gE_O rfl 1 (by decide) rfl hlink rfl hdg kk
theorem rg_X12_held (hx : p.tables.exec = Jvm.exec) (hb : c.code = cc) {own : String} {index : Nat} {Ts : List Cond} (hts : ∀ w ∈ Ts, w.before args s = true) (hin : ∀ w ∈ wsX120, w ∈ Ts) (hown : s.vm.findClass own = some m.cls) (hK : gKt X s) (hW : gWo X 251 (gE X w) H) (hlink : (Cond.fieldLink own index "GalaHeatsModel" "held" "[I").before args s = true) (hdg : decode cc pc = .ok (.getfield index, 3)) (kk : W p l e R s m args below meth c H locs cells slots Q (F0 m (pc + 3) ls (.ref (gA X 8 3) :: rest))) : W p l e R s m args below meth c H locs cells slots Q (F0 m pc ls (.ref (gA X 8 0) :: rest)) :=
  g_get (T := TX12) hx hb hts hin hown hK hW (gok_o (by decide)) (gad_lt (gok_o (by decide))) gE_O rfl 2 (by decide) rfl hlink rfl hdg kk
theorem rg_X12_pasts (hx : p.tables.exec = Jvm.exec) (hb : c.code = cc) {own : String} {index : Nat} {Ts : List Cond} (hts : ∀ w ∈ Ts, w.before args s = true) (hin : ∀ w ∈ wsX120, w ∈ Ts) (hown : s.vm.findClass own = some m.cls) (hK : gKt X s) (hW : gWo X 251 (gE X w) H) (hlink : (Cond.fieldLink own index "GalaHeatsModel" "pasts" "I").before args s = true) (hdg : decode cc pc = .ok (.getfield index, 3)) (kk : W p l e R s m args below meth c H locs cells slots Q (F0 m (pc + 3) ls (.int (w 8 0 3) :: rest))) : W p l e R s m args below meth c H locs cells slots Q (F0 m pc ls (.ref (gA X 8 0) :: rest)) :=
  g_get (T := TX12) hx hb hts hin hown hK hW (gok_o (by decide)) (gad_lt (gok_o (by decide))) gE_O rfl 3 (by decide) rfl hlink rfl hdg kk
theorem rp_X12_pasts (hx : p.tables.exec = Jvm.exec) (hb : c.code = cc) {own : String} {index : Nat} {Ts : List Cond} (hts : ∀ w ∈ Ts, w.before args s = true) (hin : ∀ w ∈ wsX120, w ∈ Ts) (hown : s.vm.findClass own = some m.cls) (hK : gKt X s) (hW : gWo X 251 (gE X w) H) (hL : gLo X locs) {v : Int32} (hlink : (Cond.fieldLink own index "GalaHeatsModel" "pasts" "I").before args s = true) (hdg : decode cc pc = .ok (.putfield index, 3)) (kk : ∀ (H1 : Heap) (locs1 : List Loc), gWo X 251 (gE X (up3 w 8 0 3 v)) H1 → gLo X locs1 → W p l e R s m args below meth c H1 locs1 cells slots Q (F0 m (pc + 3) ls rest)) : W p l e R s m args below meth c H locs cells slots Q (F0 m pc ls (.int v :: .ref (gA X 8 0) :: rest)) :=
  g_put (T := TX12) hx hb hts hin tyX12 tyX12_ok nmX12 hown hK hW hL (gok_o (by decide)) (gad_lt (gok_o (by decide))) gE_O rfl 3 (by decide) rfl hlink rfl (ty := .int) rfl rfl rfl (Nat.le_of_ble_eq_true rfl) hdg (by rw [gE_O]; simp [up3]) (fun a b hab h => gE_up_ne h hab) kk
theorem rg_X12_runs (hx : p.tables.exec = Jvm.exec) (hb : c.code = cc) {own : String} {index : Nat} {Ts : List Cond} (hts : ∀ w ∈ Ts, w.before args s = true) (hin : ∀ w ∈ wsX120, w ∈ Ts) (hown : s.vm.findClass own = some m.cls) (hK : gKt X s) (hW : gWo X 251 (gE X w) H) (hlink : (Cond.fieldLink own index "GalaHeatsModel" "runs" "Z").before args s = true) (hdg : decode cc pc = .ok (.getfield index, 3)) (kk : W p l e R s m args below meth c H locs cells slots Q (F0 m (pc + 3) ls (.int (w 8 0 4) :: rest))) : W p l e R s m args below meth c H locs cells slots Q (F0 m pc ls (.ref (gA X 8 0) :: rest)) :=
  g_get (T := TX12) hx hb hts hin hown hK hW (gok_o (by decide)) (gad_lt (gok_o (by decide))) gE_O rfl 4 (by decide) rfl hlink rfl hdg kk
theorem rp_X12_runs (hx : p.tables.exec = Jvm.exec) (hb : c.code = cc) {own : String} {index : Nat} {Ts : List Cond} (hts : ∀ w ∈ Ts, w.before args s = true) (hin : ∀ w ∈ wsX120, w ∈ Ts) (hown : s.vm.findClass own = some m.cls) (hK : gKt X s) (hW : gWo X 251 (gE X w) H) (hL : gLo X locs) {v : Int32} (hz : v = 0 ∨ v = 1) (hlink : (Cond.fieldLink own index "GalaHeatsModel" "runs" "Z").before args s = true) (hdg : decode cc pc = .ok (.putfield index, 3)) (kk : ∀ (H1 : Heap) (locs1 : List Loc), gWo X 251 (gE X (up3 w 8 0 4 v)) H1 → gLo X locs1 → W p l e R s m args below meth c H1 locs1 cells slots Q (F0 m (pc + 3) ls rest)) : W p l e R s m args below meth c H locs cells slots Q (F0 m pc ls (.int v :: .ref (gA X 8 0) :: rest)) :=
  g_put (T := TX12) hx hb hts hin tyX12 tyX12_ok nmX12 hown hK hW hL (gok_o (by decide)) (gad_lt (gok_o (by decide))) gE_O rfl 4 (by decide) rfl hlink rfl (ty := .boolean) rfl (by rcases hz with rfl | rfl <;> rfl) (by rcases hz with rfl | rfl <;> rfl) (Nat.le_of_ble_eq_true rfl) hdg (by rw [gE_O]; simp [up3]) (fun a b hab h => gE_up_ne h hab) kk
theorem rg_X12_text (hx : p.tables.exec = Jvm.exec) (hb : c.code = cc) {own : String} {index : Nat} {Ts : List Cond} (hts : ∀ w ∈ Ts, w.before args s = true) (hin : ∀ w ∈ wsX120, w ∈ Ts) (hown : s.vm.findClass own = some m.cls) (hK : gKt X s) (hW : gWo X 251 (gE X w) H) (hlink : (Cond.fieldLink own index "GalaHeatsModel" "text" "[I").before args s = true) (hdg : decode cc pc = .ok (.getfield index, 3)) (kk : W p l e R s m args below meth c H locs cells slots Q (F0 m (pc + 3) ls (.ref (gA X 8 4) :: rest))) : W p l e R s m args below meth c H locs cells slots Q (F0 m pc ls (.ref (gA X 8 0) :: rest)) :=
  g_get (T := TX12) hx hb hts hin hown hK hW (gok_o (by decide)) (gad_lt (gok_o (by decide))) gE_O rfl 5 (by decide) rfl hlink rfl hdg kk
theorem rg_X12_typed (hx : p.tables.exec = Jvm.exec) (hb : c.code = cc) {own : String} {index : Nat} {Ts : List Cond} (hts : ∀ w ∈ Ts, w.before args s = true) (hin : ∀ w ∈ wsX120, w ∈ Ts) (hown : s.vm.findClass own = some m.cls) (hK : gKt X s) (hW : gWo X 251 (gE X w) H) (hlink : (Cond.fieldLink own index "GalaHeatsModel" "typed" "I").before args s = true) (hdg : decode cc pc = .ok (.getfield index, 3)) (kk : W p l e R s m args below meth c H locs cells slots Q (F0 m (pc + 3) ls (.int (w 8 0 6) :: rest))) : W p l e R s m args below meth c H locs cells slots Q (F0 m pc ls (.ref (gA X 8 0) :: rest)) :=
  g_get (T := TX12) hx hb hts hin hown hK hW (gok_o (by decide)) (gad_lt (gok_o (by decide))) gE_O rfl 6 (by decide) rfl hlink rfl hdg kk
theorem rp_X12_typed (hx : p.tables.exec = Jvm.exec) (hb : c.code = cc) {own : String} {index : Nat} {Ts : List Cond} (hts : ∀ w ∈ Ts, w.before args s = true) (hin : ∀ w ∈ wsX120, w ∈ Ts) (hown : s.vm.findClass own = some m.cls) (hK : gKt X s) (hW : gWo X 251 (gE X w) H) (hL : gLo X locs) {v : Int32} (hlink : (Cond.fieldLink own index "GalaHeatsModel" "typed" "I").before args s = true) (hdg : decode cc pc = .ok (.putfield index, 3)) (kk : ∀ (H1 : Heap) (locs1 : List Loc), gWo X 251 (gE X (up3 w 8 0 6 v)) H1 → gLo X locs1 → W p l e R s m args below meth c H1 locs1 cells slots Q (F0 m (pc + 3) ls rest)) : W p l e R s m args below meth c H locs cells slots Q (F0 m pc ls (.int v :: .ref (gA X 8 0) :: rest)) :=
  g_put (T := TX12) hx hb hts hin tyX12 tyX12_ok nmX12 hown hK hW hL (gok_o (by decide)) (gad_lt (gok_o (by decide))) gE_O rfl 6 (by decide) rfl hlink rfl (ty := .int) rfl rfl rfl (Nat.le_of_ble_eq_true rfl) hdg (by rw [gE_O]; simp [up3]) (fun a b hab h => gE_up_ne h hab) kk
theorem rg_X12_drawn (hx : p.tables.exec = Jvm.exec) (hb : c.code = cc) {own : String} {index : Nat} {Ts : List Cond} (hts : ∀ w ∈ Ts, w.before args s = true) (hin : ∀ w ∈ wsX120, w ∈ Ts) (hown : s.vm.findClass own = some m.cls) (hK : gKt X s) (hW : gWo X 251 (gE X w) H) (hlink : (Cond.fieldLink own index "GalaHeatsModel" "drawn" "[I").before args s = true) (hdg : decode cc pc = .ok (.getfield index, 3)) (kk : W p l e R s m args below meth c H locs cells slots Q (F0 m (pc + 3) ls (.ref (gA X 8 5) :: rest))) : W p l e R s m args below meth c H locs cells slots Q (F0 m pc ls (.ref (gA X 8 0) :: rest)) :=
  g_get (T := TX12) hx hb hts hin hown hK hW (gok_o (by decide)) (gad_lt (gok_o (by decide))) gE_O rfl 7 (by decide) rfl hlink rfl hdg kk
theorem rg_X12_spot (hx : p.tables.exec = Jvm.exec) (hb : c.code = cc) {own : String} {index : Nat} {Ts : List Cond} (hts : ∀ w ∈ Ts, w.before args s = true) (hin : ∀ w ∈ wsX120, w ∈ Ts) (hown : s.vm.findClass own = some m.cls) (hK : gKt X s) (hW : gWo X 251 (gE X w) H) (hlink : (Cond.fieldLink own index "GalaHeatsModel" "spot" "I").before args s = true) (hdg : decode cc pc = .ok (.getfield index, 3)) (kk : W p l e R s m args below meth c H locs cells slots Q (F0 m (pc + 3) ls (.int (w 8 0 8) :: rest))) : W p l e R s m args below meth c H locs cells slots Q (F0 m pc ls (.ref (gA X 8 0) :: rest)) :=
  g_get (T := TX12) hx hb hts hin hown hK hW (gok_o (by decide)) (gad_lt (gok_o (by decide))) gE_O rfl 8 (by decide) rfl hlink rfl hdg kk
theorem rp_X12_spot (hx : p.tables.exec = Jvm.exec) (hb : c.code = cc) {own : String} {index : Nat} {Ts : List Cond} (hts : ∀ w ∈ Ts, w.before args s = true) (hin : ∀ w ∈ wsX120, w ∈ Ts) (hown : s.vm.findClass own = some m.cls) (hK : gKt X s) (hW : gWo X 251 (gE X w) H) (hL : gLo X locs) {v : Int32} (hlink : (Cond.fieldLink own index "GalaHeatsModel" "spot" "I").before args s = true) (hdg : decode cc pc = .ok (.putfield index, 3)) (kk : ∀ (H1 : Heap) (locs1 : List Loc), gWo X 251 (gE X (up3 w 8 0 8 v)) H1 → gLo X locs1 → W p l e R s m args below meth c H1 locs1 cells slots Q (F0 m (pc + 3) ls rest)) : W p l e R s m args below meth c H locs cells slots Q (F0 m pc ls (.int v :: .ref (gA X 8 0) :: rest)) :=
  g_put (T := TX12) hx hb hts hin tyX12 tyX12_ok nmX12 hown hK hW hL (gok_o (by decide)) (gad_lt (gok_o (by decide))) gE_O rfl 8 (by decide) rfl hlink rfl (ty := .int) rfl rfl rfl (Nat.le_of_ble_eq_true rfl) hdg (by rw [gE_O]; simp [up3]) (fun a b hab h => gE_up_ne h hab) kk
theorem rg_X12_from (hx : p.tables.exec = Jvm.exec) (hb : c.code = cc) {own : String} {index : Nat} {Ts : List Cond} (hts : ∀ w ∈ Ts, w.before args s = true) (hin : ∀ w ∈ wsX120, w ∈ Ts) (hown : s.vm.findClass own = some m.cls) (hK : gKt X s) (hW : gWo X 251 (gE X w) H) (hlink : (Cond.fieldLink own index "GalaHeatsModel" "from" "I").before args s = true) (hdg : decode cc pc = .ok (.getfield index, 3)) (kk : W p l e R s m args below meth c H locs cells slots Q (F0 m (pc + 3) ls (.int (w 8 0 9) :: rest))) : W p l e R s m args below meth c H locs cells slots Q (F0 m pc ls (.ref (gA X 8 0) :: rest)) :=
  g_get (T := TX12) hx hb hts hin hown hK hW (gok_o (by decide)) (gad_lt (gok_o (by decide))) gE_O rfl 9 (by decide) rfl hlink rfl hdg kk
theorem rp_X12_from (hx : p.tables.exec = Jvm.exec) (hb : c.code = cc) {own : String} {index : Nat} {Ts : List Cond} (hts : ∀ w ∈ Ts, w.before args s = true) (hin : ∀ w ∈ wsX120, w ∈ Ts) (hown : s.vm.findClass own = some m.cls) (hK : gKt X s) (hW : gWo X 251 (gE X w) H) (hL : gLo X locs) {v : Int32} (hlink : (Cond.fieldLink own index "GalaHeatsModel" "from" "I").before args s = true) (hdg : decode cc pc = .ok (.putfield index, 3)) (kk : ∀ (H1 : Heap) (locs1 : List Loc), gWo X 251 (gE X (up3 w 8 0 9 v)) H1 → gLo X locs1 → W p l e R s m args below meth c H1 locs1 cells slots Q (F0 m (pc + 3) ls rest)) : W p l e R s m args below meth c H locs cells slots Q (F0 m pc ls (.int v :: .ref (gA X 8 0) :: rest)) :=
  g_put (T := TX12) hx hb hts hin tyX12 tyX12_ok nmX12 hown hK hW hL (gok_o (by decide)) (gad_lt (gok_o (by decide))) gE_O rfl 9 (by decide) rfl hlink rfl (ty := .int) rfl rfl rfl (Nat.le_of_ble_eq_true rfl) hdg (by rw [gE_O]; simp [up3]) (fun a b hab h => gE_up_ne h hab) kk
theorem rg_X12_reason (hx : p.tables.exec = Jvm.exec) (hb : c.code = cc) {own : String} {index : Nat} {Ts : List Cond} (hts : ∀ w ∈ Ts, w.before args s = true) (hin : ∀ w ∈ wsX120, w ∈ Ts) (hown : s.vm.findClass own = some m.cls) (hK : gKt X s) (hW : gWo X 251 (gE X w) H) (hlink : (Cond.fieldLink own index "GalaHeatsModel" "reason" "I").before args s = true) (hdg : decode cc pc = .ok (.getfield index, 3)) (kk : W p l e R s m args below meth c H locs cells slots Q (F0 m (pc + 3) ls (.int (w 8 0 10) :: rest))) : W p l e R s m args below meth c H locs cells slots Q (F0 m pc ls (.ref (gA X 8 0) :: rest)) :=
  g_get (T := TX12) hx hb hts hin hown hK hW (gok_o (by decide)) (gad_lt (gok_o (by decide))) gE_O rfl 10 (by decide) rfl hlink rfl hdg kk
theorem rp_X12_reason (hx : p.tables.exec = Jvm.exec) (hb : c.code = cc) {own : String} {index : Nat} {Ts : List Cond} (hts : ∀ w ∈ Ts, w.before args s = true) (hin : ∀ w ∈ wsX120, w ∈ Ts) (hown : s.vm.findClass own = some m.cls) (hK : gKt X s) (hW : gWo X 251 (gE X w) H) (hL : gLo X locs) {v : Int32} (hlink : (Cond.fieldLink own index "GalaHeatsModel" "reason" "I").before args s = true) (hdg : decode cc pc = .ok (.putfield index, 3)) (kk : ∀ (H1 : Heap) (locs1 : List Loc), gWo X 251 (gE X (up3 w 8 0 10 v)) H1 → gLo X locs1 → W p l e R s m args below meth c H1 locs1 cells slots Q (F0 m (pc + 3) ls rest)) : W p l e R s m args below meth c H locs cells slots Q (F0 m pc ls (.int v :: .ref (gA X 8 0) :: rest)) :=
  g_put (T := TX12) hx hb hts hin tyX12 tyX12_ok nmX12 hown hK hW hL (gok_o (by decide)) (gad_lt (gok_o (by decide))) gE_O rfl 10 (by decide) rfl hlink rfl (ty := .int) rfl rfl rfl (Nat.le_of_ble_eq_true rfl) hdg (by rw [gE_O]; simp [up3]) (fun a b hab h => gE_up_ne h hab) kk
theorem rg_X12_cause (hx : p.tables.exec = Jvm.exec) (hb : c.code = cc) {own : String} {index : Nat} {Ts : List Cond} (hts : ∀ w ∈ Ts, w.before args s = true) (hin : ∀ w ∈ wsX120, w ∈ Ts) (hown : s.vm.findClass own = some m.cls) (hK : gKt X s) (hW : gWo X 251 (gE X w) H) (hlink : (Cond.fieldLink own index "GalaHeatsModel" "cause" "I").before args s = true) (hdg : decode cc pc = .ok (.getfield index, 3)) (kk : W p l e R s m args below meth c H locs cells slots Q (F0 m (pc + 3) ls (.int (w 8 0 11) :: rest))) : W p l e R s m args below meth c H locs cells slots Q (F0 m pc ls (.ref (gA X 8 0) :: rest)) :=
  g_get (T := TX12) hx hb hts hin hown hK hW (gok_o (by decide)) (gad_lt (gok_o (by decide))) gE_O rfl 11 (by decide) rfl hlink rfl hdg kk
theorem rp_X12_cause (hx : p.tables.exec = Jvm.exec) (hb : c.code = cc) {own : String} {index : Nat} {Ts : List Cond} (hts : ∀ w ∈ Ts, w.before args s = true) (hin : ∀ w ∈ wsX120, w ∈ Ts) (hown : s.vm.findClass own = some m.cls) (hK : gKt X s) (hW : gWo X 251 (gE X w) H) (hL : gLo X locs) {v : Int32} (hlink : (Cond.fieldLink own index "GalaHeatsModel" "cause" "I").before args s = true) (hdg : decode cc pc = .ok (.putfield index, 3)) (kk : ∀ (H1 : Heap) (locs1 : List Loc), gWo X 251 (gE X (up3 w 8 0 11 v)) H1 → gLo X locs1 → W p l e R s m args below meth c H1 locs1 cells slots Q (F0 m (pc + 3) ls rest)) : W p l e R s m args below meth c H locs cells slots Q (F0 m pc ls (.int v :: .ref (gA X 8 0) :: rest)) :=
  g_put (T := TX12) hx hb hts hin tyX12 tyX12_ok nmX12 hown hK hW hL (gok_o (by decide)) (gad_lt (gok_o (by decide))) gE_O rfl 11 (by decide) rfl hlink rfl (ty := .int) rfl rfl rfl (Nat.le_of_ble_eq_true rfl) hdg (by rw [gE_O]; simp [up3]) (fun a b hab h => gE_up_ne h hab) kk
theorem rg_X12_orders (hx : p.tables.exec = Jvm.exec) (hb : c.code = cc) {own : String} {index : Nat} {Ts : List Cond} (hts : ∀ w ∈ Ts, w.before args s = true) (hin : ∀ w ∈ wsX120, w ∈ Ts) (hown : s.vm.findClass own = some m.cls) (hK : gKt X s) (hW : gWo X 251 (gE X w) H) (hlink : (Cond.fieldLink own index "GalaHeatsModel" "orders" "I").before args s = true) (hdg : decode cc pc = .ok (.getfield index, 3)) (kk : W p l e R s m args below meth c H locs cells slots Q (F0 m (pc + 3) ls (.int (w 8 0 12) :: rest))) : W p l e R s m args below meth c H locs cells slots Q (F0 m pc ls (.ref (gA X 8 0) :: rest)) :=
  g_get (T := TX12) hx hb hts hin hown hK hW (gok_o (by decide)) (gad_lt (gok_o (by decide))) gE_O rfl 12 (by decide) rfl hlink rfl hdg kk
theorem rp_X12_orders (hx : p.tables.exec = Jvm.exec) (hb : c.code = cc) {own : String} {index : Nat} {Ts : List Cond} (hts : ∀ w ∈ Ts, w.before args s = true) (hin : ∀ w ∈ wsX120, w ∈ Ts) (hown : s.vm.findClass own = some m.cls) (hK : gKt X s) (hW : gWo X 251 (gE X w) H) (hL : gLo X locs) {v : Int32} (hlink : (Cond.fieldLink own index "GalaHeatsModel" "orders" "I").before args s = true) (hdg : decode cc pc = .ok (.putfield index, 3)) (kk : ∀ (H1 : Heap) (locs1 : List Loc), gWo X 251 (gE X (up3 w 8 0 12 v)) H1 → gLo X locs1 → W p l e R s m args below meth c H1 locs1 cells slots Q (F0 m (pc + 3) ls rest)) : W p l e R s m args below meth c H locs cells slots Q (F0 m pc ls (.int v :: .ref (gA X 8 0) :: rest)) :=
  g_put (T := TX12) hx hb hts hin tyX12 tyX12_ok nmX12 hown hK hW hL (gok_o (by decide)) (gad_lt (gok_o (by decide))) gE_O rfl 12 (by decide) rfl hlink rfl (ty := .int) rfl rfl rfl (Nat.le_of_ble_eq_true rfl) hdg (by rw [gE_O]; simp [up3]) (fun a b hab h => gE_up_ne h hab) kk
theorem rg_X12_order (hx : p.tables.exec = Jvm.exec) (hb : c.code = cc) {own : String} {index : Nat} {Ts : List Cond} (hts : ∀ w ∈ Ts, w.before args s = true) (hin : ∀ w ∈ wsX120, w ∈ Ts) (hown : s.vm.findClass own = some m.cls) (hK : gKt X s) (hW : gWo X 251 (gE X w) H) (hlink : (Cond.fieldLink own index "GalaHeatsModel" "order" "I").before args s = true) (hdg : decode cc pc = .ok (.getfield index, 3)) (kk : W p l e R s m args below meth c H locs cells slots Q (F0 m (pc + 3) ls (.int (w 8 0 13) :: rest))) : W p l e R s m args below meth c H locs cells slots Q (F0 m pc ls (.ref (gA X 8 0) :: rest)) :=
  g_get (T := TX12) hx hb hts hin hown hK hW (gok_o (by decide)) (gad_lt (gok_o (by decide))) gE_O rfl 13 (by decide) rfl hlink rfl hdg kk
theorem rp_X12_order (hx : p.tables.exec = Jvm.exec) (hb : c.code = cc) {own : String} {index : Nat} {Ts : List Cond} (hts : ∀ w ∈ Ts, w.before args s = true) (hin : ∀ w ∈ wsX120, w ∈ Ts) (hown : s.vm.findClass own = some m.cls) (hK : gKt X s) (hW : gWo X 251 (gE X w) H) (hL : gLo X locs) {v : Int32} (hlink : (Cond.fieldLink own index "GalaHeatsModel" "order" "I").before args s = true) (hdg : decode cc pc = .ok (.putfield index, 3)) (kk : ∀ (H1 : Heap) (locs1 : List Loc), gWo X 251 (gE X (up3 w 8 0 13 v)) H1 → gLo X locs1 → W p l e R s m args below meth c H1 locs1 cells slots Q (F0 m (pc + 3) ls rest)) : W p l e R s m args below meth c H locs cells slots Q (F0 m pc ls (.int v :: .ref (gA X 8 0) :: rest)) :=
  g_put (T := TX12) hx hb hts hin tyX12 tyX12_ok nmX12 hown hK hW hL (gok_o (by decide)) (gad_lt (gok_o (by decide))) gE_O rfl 13 (by decide) rfl hlink rfl (ty := .int) rfl rfl rfl (Nat.le_of_ble_eq_true rfl) hdg (by rw [gE_O]; simp [up3]) (fun a b hab h => gE_up_ne h hab) kk
theorem rg_X12_numbers (hx : p.tables.exec = Jvm.exec) (hb : c.code = cc) {own : String} {index : Nat} {Ts : List Cond} (hts : ∀ w ∈ Ts, w.before args s = true) (hin : ∀ w ∈ wsX120, w ∈ Ts) (hown : s.vm.findClass own = some m.cls) (hK : gKt X s) (hW : gWo X 251 (gE X w) H) (hlink : (Cond.fieldLink own index "GalaHeatsModel" "numbers" "[I").before args s = true) (hdg : decode cc pc = .ok (.getfield index, 3)) (kk : W p l e R s m args below meth c H locs cells slots Q (F0 m (pc + 3) ls (.ref (gA X 8 6) :: rest))) : W p l e R s m args below meth c H locs cells slots Q (F0 m pc ls (.ref (gA X 8 0) :: rest)) :=
  g_get (T := TX12) hx hb hts hin hown hK hW (gok_o (by decide)) (gad_lt (gok_o (by decide))) gE_O rfl 14 (by decide) rfl hlink rfl hdg kk
end ROWSX
end
