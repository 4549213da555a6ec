def GW : List Cond := lw_tbl.filter goodWord
abbrev wsG (y : MethodName) (b : ByteArray) (n : Nat) (r : Option FieldType) : List Cond := Cond.code y b n r :: GW
theorem gwm {w : Cond} (i : Nat) (h : lw_tbl[i]? = some w) (hg : goodWord w = true) : w ∈ GW := List.mem_filter.mpr ⟨List.mem_of_getElem? h, hg⟩
theorem gwg {w : Cond} (h : w ∈ GW) : (w.onTables && w.keeps) = true ∨ ∃ ty, w = .arrayClass ty := good_of_word (List.mem_filter.mp h).2
theorem gwC {c1 : Cond} {y : MethodName} {b : ByteArray} {n : Nat} {r : Option FieldType} (h5 : Cond.code y b n r ∈ GW) : GoodIn (c1 :: GW) (wsG y b n r) := by
  intro w hw
  rcases List.mem_cons.mp hw with rfl | h
  · exact ⟨List.mem_cons_of_mem _ h5, gwg h5⟩
  · exact ⟨List.mem_cons_of_mem _ h, gwg h⟩
theorem gwV {c1 : Cond} {own C : String} {idx : Nat} {y : MethodName} {b : ByteArray} {n : Nat} {r : Option FieldType} (h1 : Cond.methodLink own idx y ∈ GW) (h2 : Cond.instanceMethod y ∈ GW) (h3 : Cond.selects C y y ∈ GW) (h4 : Cond.initialized C ∈ GW) (h5 : Cond.code y b n r ∈ GW) : GoodIn (c1 :: GW) (wsV own idx C y (wsG y b n r)) := by
  intro w hw
  rcases List.mem_append.mp hw with h | h
  · simp only [List.mem_cons, List.not_mem_nil, or_false] at h
    rcases h with rfl | rfl | rfl | rfl
    · exact ⟨List.mem_cons_of_mem _ h1, gwg h1⟩
    · exact ⟨List.mem_cons_of_mem _ h2, gwg h2⟩
    · exact ⟨List.mem_cons_of_mem _ h3, gwg h3⟩
    · exact ⟨List.mem_cons_of_mem _ h4, gwg h4⟩
  · exact gwC h5 w h
theorem cwSx {R : Room} {s : State} {args : Array Value} {c1 : Cond} {own : String} {index : Nat} {y : MethodName} {bytes : ByteArray} {maxL : Nat} {ret : Option FieldType} {ws ws' : List Cond} {rm : Room} {mc ms : Nat} (n : Nat) (ht : ∀ w ∈ (c1 :: GW), w.before args s = true) (hG : ∀ w ∈ GW, w.before args s = true) (hg : GoodIn (c1 :: GW) ws) (hi : Cond.initialized y.cls ∈ GW) (hl : Cond.methodLink own index y ∈ GW) (hs : Cond.static y ∈ GW) (hw : ws = Cond.code y bytes maxL ret :: ws') (hrc : rm.cells = mc) (hrs : rm.slots = ms)
    (hd : y.cls ≠ "java/lang/invoke/MethodHandle" ∧ y.cls ≠ "java/lang/invoke/VarHandle" ∧ (parseMethodDescriptor y.desc).map (fun d => d.parameters.length) = some n) (hR : rm.frames + 1 ≤ R.frames ∧ 8 + (maxL + 11) + rm.locals ≤ R.locals) :
    CallB R s args own index y bytes maxL ret ws rm mc ms n ∧ (Cond.static y).before args s = true :=
  ⟨callB_of n ht hg hw hrc hrs (hG _ hi) (hG _ hl) hd hR, hG _ hs⟩
theorem gwp {w : Cond} (i : Nat) (h : (k2_sels lw_privs)[i]? = some w) (hg : goodWord w = true) : w ∈ GW := List.mem_filter.mpr ⟨List.mem_append_left _ (List.mem_of_getElem? h), hg⟩
theorem gwt1 {w : Cond} (i : Nat) (h : tables_1_1[i]? = some w) (hg : goodWord w = true) : w ∈ GW := List.mem_filter.mpr ⟨List.mem_append_right _ (List.mem_append_left _ (List.mem_of_getElem? h)), hg⟩
theorem gwt2 {w : Cond} (i : Nat) (h : tables_1_2[i]? = some w) (hg : goodWord w = true) : w ∈ GW := List.mem_filter.mpr ⟨List.mem_append_right _ (List.mem_append_right _ (List.mem_append_left _ (List.mem_of_getElem? h))), hg⟩
theorem gwt3 {w : Cond} (i : Nat) (h : tables_1_3[i]? = some w) (hg : goodWord w = true) : w ∈ GW := List.mem_filter.mpr ⟨List.mem_append_right _ (List.mem_append_right _ (List.mem_append_right _ (List.mem_append_left _ (List.mem_of_getElem? h)))), hg⟩
theorem gwt4 {w : Cond} (i : Nat) (h : tables_1_4[i]? = some w) (hg : goodWord w = true) : w ∈ GW := List.mem_filter.mpr ⟨List.mem_append_right _ (List.mem_append_right _ (List.mem_append_right _ (List.mem_append_right _ (List.mem_append_left _ (List.mem_of_getElem? h))))), hg⟩
theorem gwt5 {w : Cond} (i : Nat) (h : tables_1_5[i]? = some w) (hg : goodWord w = true) : w ∈ GW := List.mem_filter.mpr ⟨List.mem_append_right _ (List.mem_append_right _ (List.mem_append_right _ (List.mem_append_right _ (List.mem_append_right _ (List.mem_append_left _ (List.mem_of_getElem? h)))))), hg⟩
theorem gwt6 {w : Cond} (i : Nat) (h : tables_1_6[i]? = some w) (hg : goodWord w = true) : w ∈ GW := List.mem_filter.mpr ⟨List.mem_append_right _ (List.mem_append_right _ (List.mem_append_right _ (List.mem_append_right _ (List.mem_append_right _ (List.mem_append_right _ (List.mem_append_left _ (List.mem_of_getElem? h))))))), hg⟩
theorem gwt7 {w : Cond} (i : Nat) (h : tables_1_7[i]? = some w) (hg : goodWord w = true) : w ∈ GW := List.mem_filter.mpr ⟨List.mem_append_right _ (List.mem_append_right _ (List.mem_append_right _ (List.mem_append_right _ (List.mem_append_right _ (List.mem_append_right _ (List.mem_append_right _ (List.mem_append_left _ (List.mem_of_getElem? h)))))))), hg⟩
theorem gwt8 {w : Cond} (i : Nat) (h : tables_1_8[i]? = some w) (hg : goodWord w = true) : w ∈ GW := List.mem_filter.mpr ⟨List.mem_append_right _ (List.mem_append_right _ (List.mem_append_right _ (List.mem_append_right _ (List.mem_append_right _ (List.mem_append_right _ (List.mem_append_right _ (List.mem_append_right _ (List.mem_of_getElem? h)))))))), hg⟩
theorem mw_0 : Cond.selects RX8 yX8_startsThing yX8_startsThing ∈ GW := gwp 0 rfl (by decide +kernel)
theorem mw_1 : Cond.selects RX8 yX8_hold yX8_hold ∈ GW := gwp 1 rfl (by decide +kernel)
theorem mw_2 : Cond.selects RX8 yX8_opens yX8_opens ∈ GW := gwp 2 rfl (by decide +kernel)
theorem mw_3 : Cond.selects RX8 yX8_emit yX8_emit ∈ GW := gwp 3 rfl (by decide +kernel)
theorem mw_4 : Cond.selects RX8 yX8_followsThing yX8_followsThing ∈ GW := gwp 4 rfl (by decide +kernel)
theorem mw_5 : Cond.selects RX8 yX8_addsDigit yX8_addsDigit ∈ GW := gwp 5 rfl (by decide +kernel)
theorem mw_6 : Cond.selects RX8 yX8_closes yX8_closes ∈ GW := gwp 6 rfl (by decide +kernel)
theorem mw_7 : Cond.selects RX8 yX8_release yX8_release ∈ GW := gwp 7 rfl (by decide +kernel)
theorem mw_8 : Cond.selects RX11 yX11_toldBySheet yX11_toldBySheet ∈ GW := gwp 8 rfl (by decide +kernel)
theorem mw_9 : Cond.selects RX8 yX8_lookAt yX8_lookAt ∈ GW := gwp 9 rfl (by decide +kernel)
theorem mw_10 : Cond.selects RX8 yX8_value yX8_value ∈ GW := gwp 10 rfl (by decide +kernel)
theorem mw_11 : Cond.selects RX8 yX8_thing yX8_thing ∈ GW := gwp 11 rfl (by decide +kernel)
theorem mw_12 : Cond.selects RX0 yX0_bring yX0_bring ∈ GW := gwp 12 rfl (by decide +kernel)
theorem mw_13 : Cond.selects RX0 yX0_nameHeirs yX0_nameHeirs ∈ GW := gwp 13 rfl (by decide +kernel)
theorem mw_14 : Cond.selects RX0 yX0_heirOf yX0_heirOf ∈ GW := gwp 14 rfl (by decide +kernel)
theorem mw_15 : Cond.selects RX11 yX11_toldWithCame yX11_toldWithCame ∈ GW := gwp 15 rfl (by decide +kernel)
theorem mw_16 : Cond.selects RX11 yX11_remembered yX11_remembered ∈ GW := gwp 16 rfl (by decide +kernel)
theorem mw_17 : Cond.selects RX0 yX0_bindableTree yX0_bindableTree ∈ GW := gwp 17 rfl (by decide +kernel)
theorem mw_18 : Cond.selects RX0 yX0_copyTree yX0_copyTree ∈ GW := gwp 18 rfl (by decide +kernel)
theorem mw_19 : Cond.selects RX2 yX2_dueBehind yX2_dueBehind ∈ GW := gwp 19 rfl (by decide +kernel)
theorem mw_20 : Cond.selects RX2 yX2_dueInPath yX2_dueInPath ∈ GW := gwp 20 rfl (by decide +kernel)
theorem mw_21 : Cond.selects RX2 yX2_walks yX2_walks ∈ GW := gwp 21 rfl (by decide +kernel)
theorem mw_22 : Cond.selects RX11 yX11_toldWithSize yX11_toldWithSize ∈ GW := gwp 22 rfl (by decide +kernel)
theorem mw_23 : Cond.selects RX11 yX11_differs yX11_differs ∈ GW := gwp 23 rfl (by decide +kernel)
theorem mw_24 : Cond.selects RX3 yX3_measure yX3_measure ∈ GW := gwp 24 rfl (by decide +kernel)
theorem mw_25 : Cond.selects RX3 yX3_measureOf yX3_measureOf ∈ GW := gwp 25 rfl (by decide +kernel)
theorem mw_26 : Cond.selects RX3 yX3_soOf yX3_soOf ∈ GW := gwp 26 rfl (by decide +kernel)
theorem mw_27 : Cond.selects RX1 yX1_countCases yX1_countCases ∈ GW := gwp 27 rfl (by decide +kernel)
theorem mw_28 : Cond.selects RX11 yX11_broughtBy yX11_broughtBy ∈ GW := gwp 28 rfl (by decide +kernel)
theorem mw_29 : Cond.selects RX11 yX11_draw yX11_draw ∈ GW := gwp 29 rfl (by decide +kernel)
theorem mw_30 : Cond.selects "java/lang/Throwable" ⟨"java/lang/Throwable", "fillInStackTrace", "(I)Ljava/lang/Throwable;"⟩ ⟨"java/lang/Throwable", "fillInStackTrace", "(I)Ljava/lang/Throwable;"⟩ ∈ GW := gwp 30 rfl (by decide +kernel)
theorem mw_31 : Cond.selects RX12 yX12_readRule yX12_readRule ∈ GW := gwp 31 rfl (by decide +kernel)
theorem mw_32 : Cond.selects RX12 yX12_beginText yX12_beginText ∈ GW := gwp 32 rfl (by decide +kernel)
theorem mw_33 : Cond.selects RX12 yX12_begin yX12_begin ∈ GW := gwp 33 rfl (by decide +kernel)
theorem mw_34 : Cond.selects RX12 yX12_held yX12_held ∈ GW := gwp 34 rfl (by decide +kernel)
theorem mw_35 : Cond.selects RX12 yX12_sum yX12_sum ∈ GW := gwp 35 rfl (by decide +kernel)
theorem mw_36 : Cond.selects RX12 yX12_product yX12_product ∈ GW := gwp 36 rfl (by decide +kernel)
theorem mw_37 : Cond.selects RX12 yX12_thing yX12_thing ∈ GW := gwp 37 rfl (by decide +kernel)
theorem mw_38 : Cond.selects RX12 yX12_passes yX12_passes ∈ GW := gwp 38 rfl (by decide +kernel)
theorem mw_39 : Cond.selects RX12 yX12_fine yX12_fine ∈ GW := gwp 39 rfl (by decide +kernel)
theorem mw_40 : Cond.selects RX12 yX12_here yX12_here ∈ GW := gwp 40 rfl (by decide +kernel)
theorem mw_41 : Cond.selects RX12 yX12_need yX12_need ∈ GW := gwp 41 rfl (by decide +kernel)
theorem mw_42 : Cond.selects RX12 yX12_fault yX12_fault ∈ GW := gwp 42 rfl (by decide +kernel)
theorem mw_43 : Cond.selects RX12 yX12_number yX12_number ∈ GW := gwp 43 rfl (by decide +kernel)
theorem mw_44 : Cond.selects RX12 yX12_oneOf yX12_oneOf ∈ GW := gwp 44 rfl (by decide +kernel)
theorem mw_45 : Cond.selects RX12 yX12_wasRight yX12_wasRight ∈ GW := gwp 45 rfl (by decide +kernel)
theorem mw_46 : Cond.selects RX12 yX12_readPath yX12_readPath ∈ GW := gwp 46 rfl (by decide +kernel)
theorem mw_47 : Cond.selects RX12 yX12_goPath yX12_goPath ∈ GW := gwp 47 rfl (by decide +kernel)
theorem mw_48 : Cond.selects RX12 yX12_tell yX12_tell ∈ GW := gwp 48 rfl (by decide +kernel)
theorem mw_49 : Cond.selects RX12 yX12_lost yX12_lost ∈ GW := gwp 49 rfl (by decide +kernel)
theorem mw_50 : Cond.selects RX12 yX12_refusesComing yX12_refusesComing ∈ GW := gwp 50 rfl (by decide +kernel)
theorem mw_51 : Cond.selects RX12 yX12_hitsOf yX12_hitsOf ∈ GW := gwp 51 rfl (by decide +kernel)
theorem mw_52 : Cond.selects RX12 yX12_isLet yX12_isLet ∈ GW := gwp 52 rfl (by decide +kernel)
theorem mw_53 : Cond.selects RX12 yX12_remember yX12_remember ∈ GW := gwp 53 rfl (by decide +kernel)
theorem mw_54 : Cond.selects RX12 yX12_goClone yX12_goClone ∈ GW := gwp 54 rfl (by decide +kernel)
theorem mw_55 : Cond.selects RX12 yX12_layNew yX12_layNew ∈ GW := gwp 55 rfl (by decide +kernel)
theorem mw_56 : Cond.selects RX12 yX12_newOf yX12_newOf ∈ GW := gwp 56 rfl (by decide +kernel)
theorem mw_57 : Cond.selects RX12 yX12_tellCame yX12_tellCame ∈ GW := gwp 57 rfl (by decide +kernel)
theorem mw_58 : Cond.selects RX12 yX12_refusesBind yX12_refusesBind ∈ GW := gwp 58 rfl (by decide +kernel)
theorem mw_59 : Cond.selects RX12 yX12_refusesTree yX12_refusesTree ∈ GW := gwp 59 rfl (by decide +kernel)
theorem mw_60 : Cond.selects RX12 yX12_goTree yX12_goTree ∈ GW := gwp 60 rfl (by decide +kernel)
theorem mw_61 : Cond.selects RX12 yX12_goInside yX12_goInside ∈ GW := gwp 61 rfl (by decide +kernel)
theorem mw_62 : Cond.selects RX12 yX12_goUnmount yX12_goUnmount ∈ GW := gwp 62 rfl (by decide +kernel)
theorem mw_63 : Cond.selects RX12 yX12_goersOf yX12_goersOf ∈ GW := gwp 63 rfl (by decide +kernel)
theorem mw_64 : Cond.selects RX12 yX12_readAct yX12_readAct ∈ GW := gwp 64 rfl (by decide +kernel)
theorem mw_65 : Cond.selects RX12 yX12_act yX12_act ∈ GW := gwp 65 rfl (by decide +kernel)
theorem mw_66 : Cond.selects RX12 yX12_mountedAt yX12_mountedAt ∈ GW := gwp 66 rfl (by decide +kernel)
theorem mw_67 : Cond.selects RX12 yX12_tellBits yX12_tellBits ∈ GW := gwp 67 rfl (by decide +kernel)
theorem mw_68 : Cond.selects RX12 yX12_areAlike yX12_areAlike ∈ GW := gwp 68 rfl (by decide +kernel)
theorem mw_69 : Cond.selects RX12 yX12_fitting yX12_fitting ∈ GW := gwp 69 rfl (by decide +kernel)
theorem mw_70 : Cond.selects RX12 yX12_isSo yX12_isSo ∈ GW := gwp 70 rfl (by decide +kernel)
theorem mw_71 : Cond.selects RX12 yX12_isLaw yX12_isLaw ∈ GW := gwp 71 rfl (by decide +kernel)
theorem mw_72 : Cond.selects RX12 yX12_bringsOf yX12_bringsOf ∈ GW := gwp 72 rfl (by decide +kernel)
theorem mw_73 : Cond.selects RX12 yX12_draw yX12_draw ∈ GW := gwp 73 rfl (by decide +kernel)
theorem mw_74 : Cond.selects RX12 yX12_bitsOf yX12_bitsOf ∈ GW := gwp 74 rfl (by decide +kernel)
theorem mw_75 : Cond.initialized "MountPeersLaw" ∈ GW := gwt1 0 rfl (by decide +kernel)
theorem mw_76 : Cond.initialized RX11 ∈ GW := gwt1 1 rfl (by decide +kernel)
theorem mw_77 : Cond.initialized RX10 ∈ GW := gwt1 2 rfl (by decide +kernel)
theorem mw_78 : Cond.initialized RX4 ∈ GW := gwt1 3 rfl (by decide +kernel)
theorem mw_79 : Cond.initialized RX9 ∈ GW := gwt1 4 rfl (by decide +kernel)
theorem mw_80 : Cond.initialized RX7 ∈ GW := gwt1 5 rfl (by decide +kernel)
theorem mw_81 : Cond.initialized RX8 ∈ GW := gwt1 6 rfl (by decide +kernel)
theorem mw_82 : Cond.initialized RX0 ∈ GW := gwt1 7 rfl (by decide +kernel)
theorem mw_83 : Cond.initialized RX6 ∈ GW := gwt1 8 rfl (by decide +kernel)
theorem mw_84 : Cond.initialized RX2 ∈ GW := gwt1 9 rfl (by decide +kernel)
theorem mw_85 : Cond.initialized RX3 ∈ GW := gwt1 10 rfl (by decide +kernel)
theorem mw_86 : Cond.initialized RX5 ∈ GW := gwt1 11 rfl (by decide +kernel)
theorem mw_87 : Cond.initialized RX1 ∈ GW := gwt1 12 rfl (by decide +kernel)
theorem mw_88 : Cond.initialized RX12 ∈ GW := gwt1 13 rfl (by decide +kernel)
theorem mw_89 : Cond.initialized "java/lang/String" ∈ GW := gwt1 14 rfl (by decide +kernel)
theorem mw_90 : Cond.initialized "java/lang/StringLatin1" ∈ GW := gwt1 15 rfl (by decide +kernel)
theorem mw_91 : Cond.initialized "java/lang/Math" ∈ GW := gwt1 16 rfl (by decide +kernel)
theorem mw_92 : Cond.initialized "java/lang/StringUTF16" ∈ GW := gwt1 17 rfl (by decide +kernel)
theorem mw_93 : Cond.initialized "jdk/internal/util/Preconditions" ∈ GW := gwt1 18 rfl (by decide +kernel)
theorem mw_94 : Cond.initialized "java/lang/Character" ∈ GW := gwt1 19 rfl (by decide +kernel)
theorem mw_95 : Cond.initialized "java/lang/Throwable" ∈ GW := gwt1 20 rfl (by decide +kernel)
theorem mw_96 : Cond.initialized "java/lang/Exception" ∈ GW := gwt1 21 rfl (by decide +kernel)
theorem mw_97 : Cond.initialized "java/lang/RuntimeException" ∈ GW := gwt1 22 rfl (by decide +kernel)
theorem mw_98 : Cond.initialized "java/util/NoSuchElementException" ∈ GW := gwt1 23 rfl (by decide +kernel)
theorem mw_99 : Cond.initialized "java/lang/Integer" ∈ GW := gwt1 24 rfl (by decide +kernel)
theorem mw_100 : Cond.initialized "java/lang/Long" ∈ GW := gwt1 25 rfl (by decide +kernel)
theorem mw_101 : Cond.classLink "MountPeersLaw" 8 "MountPeers" ∈ GW := gwt1 26 rfl (by decide +kernel)
theorem mw_102 : Cond.instantiable RX11 15 ∈ GW := gwt1 27 rfl (by decide +kernel)
theorem mw_103 : Cond.methodLink "MountPeersLaw" 22 yX11_init ∈ GW := gwt1 28 rfl (by decide +kernel)
theorem mw_104 : Cond.instanceMethod yX11_init ∈ GW := gwt1 29 rfl (by decide +kernel)
theorem mw_105 : Cond.code yX11_init prog_1_method_1_code 1 none ∈ GW := gwt1 30 rfl (by decide +kernel)
theorem mw_106 : Cond.methodLink RX11 1 objectInit ∈ GW := gwt1 31 rfl (by decide +kernel)
theorem mw_107 : Cond.instanceMethod objectInit ∈ GW := gwt1 32 rfl (by decide +kernel)
theorem mw_108 : Cond.code objectInit object_method_1_code 1 none ∈ GW := gwt1 33 rfl (by decide +kernel)
theorem mw_109 : Cond.classLink RX11 7 "MountPeers$Tree" ∈ GW := gwt1 34 rfl (by decide +kernel)
theorem mw_110 : Cond.instantiable RX10 7 ∈ GW := gwt1 35 rfl (by decide +kernel)
theorem mw_111 : Cond.methodLink RX11 9 yX10_init ∈ GW := gwt1 36 rfl (by decide +kernel)
theorem mw_112 : Cond.instanceMethod yX10_init ∈ GW := gwt1 37 rfl (by decide +kernel)
theorem mw_113 : Cond.code yX10_init prog_12_method_1_code 2 none ∈ GW := gwt1 38 rfl (by decide +kernel)
theorem mw_114 : Cond.methodLink RX10 3 objectInit ∈ GW := gwt1 39 rfl (by decide +kernel)
theorem mw_115 : Cond.fieldLink RX10 9 "MountPeers$Tree" "places" "[I" ∈ GW := gwt1 40 rfl (by decide +kernel)
theorem mw_116 : Cond.fieldLink RX10 15 "MountPeers$Tree" "groups" "[I" ∈ GW := gwt1 41 rfl (by decide +kernel)
theorem mw_117 : Cond.fieldLink RX10 18 "MountPeers$Tree" "masters" "[I" ∈ GW := gwt1 42 rfl (by decide +kernel)
theorem mw_118 : Cond.fieldLink RX10 21 "MountPeers$Tree" "there" "I" ∈ GW := gwt1 43 rfl (by decide +kernel)
theorem mw_122 : Cond.fieldLink RX10 28 "MountPeers$Tree" "unbindable" "I" ∈ GW := gwt1 47 rfl (by decide +kernel)
theorem mw_124 : Cond.fieldLink RX10 31 "MountPeers$Tree" "acts" "I" ∈ GW := gwt1 49 rfl (by decide +kernel)
theorem mw_128 : Cond.fieldLink RX10 25 "MountPeers$Tree" "nextGroup" "I" ∈ GW := gwt1 53 rfl (by decide +kernel)
theorem mw_130 : Cond.laysFinal RX10 "MountPeers$Tree" "places" "[I" ∈ GW := gwt1 55 rfl (by decide +kernel)
theorem mw_132 : Cond.laysFinal RX10 "MountPeers$Tree" "groups" "[I" ∈ GW := gwt1 57 rfl (by decide +kernel)
theorem mw_134 : Cond.laysFinal RX10 "MountPeers$Tree" "masters" "[I" ∈ GW := gwt1 59 rfl (by decide +kernel)
theorem mw_136 : Cond.lays RX10 "MountPeers$Tree" "there" "I" ∈ GW := gwt1 61 rfl (by decide +kernel)
theorem mw_138 : Cond.lays RX10 "MountPeers$Tree" "unbindable" "I" ∈ GW := gwt1 63 rfl (by decide +kernel)
theorem mw_140 : Cond.lays RX10 "MountPeers$Tree" "acts" "I" ∈ GW := gwt1 65 rfl (by decide +kernel)
theorem mw_142 : Cond.lays RX10 "MountPeers$Tree" "nextGroup" "I" ∈ GW := gwt1 67 rfl (by decide +kernel)
theorem mw_145 : Cond.arrayClass .int ∈ GW := gwt1 70 rfl (by decide +kernel)
theorem mw_146 : Cond.classLink RX11 19 "MountPeers$History" ∈ GW := gwt1 71 rfl (by decide +kernel)
theorem mw_147 : Cond.instantiable RX4 3 ∈ GW := gwt1 72 rfl (by decide +kernel)
theorem mw_149 : Cond.instanceMethod yX4_init ∈ GW := gwt1 74 rfl (by decide +kernel)
theorem mw_150 : Cond.code yX4_init prog_6_method_1_code 1 none ∈ GW := gwt1 75 rfl (by decide +kernel)
theorem mw_151 : Cond.methodLink RX4 1 objectInit ∈ GW := gwt1 76 rfl (by decide +kernel)
theorem mw_152 : Cond.classLink RX4 9 "MountPeers$Tree" ∈ GW := gwt1 77 rfl (by decide +kernel)
theorem mw_154 : Cond.fieldLink RX4 11 "MountPeers$History" "ring" "[LMountPeers$Tree;" ∈ GW := gwt1 79 rfl (by decide +kernel)
theorem mw_155 : Cond.fieldLink RX4 15 "MountPeers$History" "top" "I" ∈ GW := gwt1 80 rfl (by decide +kernel)
theorem mw_156 : Cond.fieldLink RX4 24 "MountPeers$History" "size" "I" ∈ GW := gwt1 81 rfl (by decide +kernel)
theorem mw_158 : Cond.laysFinal RX4 "MountPeers$History" "ring" "[LMountPeers$Tree;" ∈ GW := gwt1 83 rfl (by decide +kernel)
theorem mw_160 : Cond.lays RX4 "MountPeers$History" "top" "I" ∈ GW := gwt1 85 rfl (by decide +kernel)
theorem mw_162 : Cond.lays RX4 "MountPeers$History" "size" "I" ∈ GW := gwt1 87 rfl (by decide +kernel)
theorem mw_165 : Cond.classLink RX11 30 "MountPeers$Text" ∈ GW := gwt1 90 rfl (by decide +kernel)
theorem mw_166 : Cond.instantiable RX9 2 ∈ GW := gwt1 91 rfl (by decide +kernel)
theorem mw_168 : Cond.instanceMethod yX9_init ∈ GW := gwt1 93 rfl (by decide +kernel)
theorem mw_169 : Cond.code yX9_init prog_11_method_1_code 1 none ∈ GW := gwt1 94 rfl (by decide +kernel)
theorem mw_170 : Cond.methodLink RX9 3 objectInit ∈ GW := gwt1 95 rfl (by decide +kernel)
theorem mw_171 : Cond.fieldLink RX9 11 "MountPeers$Text" "signs" "[I" ∈ GW := gwt1 96 rfl (by decide +kernel)
theorem mw_172 : Cond.fieldLink RX9 15 "MountPeers$Text" "size" "I" ∈ GW := gwt1 97 rfl (by decide +kernel)
theorem mw_176 : Cond.laysFinal RX9 "MountPeers$Text" "signs" "[I" ∈ GW := gwt1 101 rfl (by decide +kernel)
theorem mw_178 : Cond.lays RX9 "MountPeers$Text" "size" "I" ∈ GW := gwt1 103 rfl (by decide +kernel)
theorem mw_181 : Cond.classLink RX11 37 "MountPeers$Row" ∈ GW := gwt1 106 rfl (by decide +kernel)
theorem mw_182 : Cond.instantiable RX7 2 ∈ GW := gwt1 107 rfl (by decide +kernel)
theorem mw_184 : Cond.instanceMethod yX7_init ∈ GW := gwt1 109 rfl (by decide +kernel)
theorem mw_185 : Cond.code yX7_init prog_9_method_1_code 1 none ∈ GW := gwt1 110 rfl (by decide +kernel)
theorem mw_186 : Cond.methodLink RX7 3 objectInit ∈ GW := gwt1 111 rfl (by decide +kernel)
theorem mw_187 : Cond.fieldLink RX7 9 "MountPeers$Row" "numbers" "[J" ∈ GW := gwt1 112 rfl (by decide +kernel)
theorem mw_188 : Cond.fieldLink RX7 15 "MountPeers$Row" "size" "I" ∈ GW := gwt1 113 rfl (by decide +kernel)
theorem mw_190 : Cond.laysFinal RX7 "MountPeers$Row" "numbers" "[J" ∈ GW := gwt1 115 rfl (by decide +kernel)
theorem mw_192 : Cond.lays RX7 "MountPeers$Row" "size" "I" ∈ GW := gwt1 117 rfl (by decide +kernel)
theorem mw_195 : Cond.arrayClass .long ∈ GW := gwt1 120 rfl (by decide +kernel)
theorem mw_196 : Cond.classLink RX11 44 "MountPeers$Rule" ∈ GW := gwt1 121 rfl (by decide +kernel)
theorem mw_197 : Cond.instantiable RX8 10 ∈ GW := gwt1 122 rfl (by decide +kernel)
theorem mw_199 : Cond.instanceMethod yX8_init ∈ GW := gwt1 124 rfl (by decide +kernel)
theorem mw_200 : Cond.code yX8_init prog_10_method_1_code 1 none ∈ GW := gwt1 125 rfl (by decide +kernel)
theorem mw_201 : Cond.methodLink RX8 3 objectInit ∈ GW := gwt1 126 rfl (by decide +kernel)
theorem mw_202 : Cond.fieldLink RX8 11 "MountPeers$Rule" "steps" "[I" ∈ GW := gwt1 127 rfl (by decide +kernel)
theorem mw_203 : Cond.fieldLink RX8 24 "MountPeers$Rule" "size" "I" ∈ GW := gwt1 128 rfl (by decide +kernel)
theorem mw_204 : Cond.fieldLink RX8 15 "MountPeers$Rule" "waiting" "[I" ∈ GW := gwt1 129 rfl (by decide +kernel)
theorem mw_205 : Cond.fieldLink RX8 28 "MountPeers$Rule" "waits" "I" ∈ GW := gwt1 130 rfl (by decide +kernel)
theorem mw_206 : Cond.fieldLink RX8 31 "MountPeers$Rule" "thingDue" "Z" ∈ GW := gwt1 131 rfl (by decide +kernel)
theorem mw_207 : Cond.fieldLink RX8 35 "MountPeers$Rule" "digits" "I" ∈ GW := gwt1 132 rfl (by decide +kernel)
theorem mw_208 : Cond.fieldLink RX8 38 "MountPeers$Rule" "depth" "I" ∈ GW := gwt1 133 rfl (by decide +kernel)
theorem mw_209 : Cond.fieldLink RX8 41 "MountPeers$Rule" "compared" "I" ∈ GW := gwt1 134 rfl (by decide +kernel)
theorem mw_210 : Cond.fieldLink RX8 18 "MountPeers$Rule" "letters" "[I" ∈ GW := gwt1 135 rfl (by decide +kernel)
theorem mw_211 : Cond.fieldLink RX8 21 "MountPeers$Rule" "stack" "[I" ∈ GW := gwt1 136 rfl (by decide +kernel)
theorem mw_212 : Cond.laysFinal RX8 "MountPeers$Rule" "steps" "[I" ∈ GW := gwt1 137 rfl (by decide +kernel)
theorem mw_214 : Cond.lays RX8 "MountPeers$Rule" "size" "I" ∈ GW := gwt1 139 rfl (by decide +kernel)
theorem mw_216 : Cond.laysFinal RX8 "MountPeers$Rule" "waiting" "[I" ∈ GW := gwt1 141 rfl (by decide +kernel)
theorem mw_218 : Cond.lays RX8 "MountPeers$Rule" "waits" "I" ∈ GW := gwt1 143 rfl (by decide +kernel)
theorem mw_220 : Cond.lays RX8 "MountPeers$Rule" "thingDue" "Z" ∈ GW := gwt1 145 rfl (by decide +kernel)
theorem mw_222 : Cond.lays RX8 "MountPeers$Rule" "digits" "I" ∈ GW := gwt1 147 rfl (by decide +kernel)
theorem mw_224 : Cond.lays RX8 "MountPeers$Rule" "depth" "I" ∈ GW := gwt1 149 rfl (by decide +kernel)
theorem mw_226 : Cond.lays RX8 "MountPeers$Rule" "compared" "I" ∈ GW := gwt1 151 rfl (by decide +kernel)
theorem mw_228 : Cond.laysFinal RX8 "MountPeers$Rule" "letters" "[I" ∈ GW := gwt1 153 rfl (by decide +kernel)
theorem mw_230 : Cond.laysFinal RX8 "MountPeers$Rule" "stack" "[I" ∈ GW := gwt1 155 rfl (by decide +kernel)
theorem mw_233 : Cond.classLink RX11 54 "MountPeers$Acts" ∈ GW := gwt1 158 rfl (by decide +kernel)
theorem mw_234 : Cond.instantiable RX0 3 ∈ GW := gwt1 159 rfl (by decide +kernel)
theorem mw_235 : Cond.methodLink RX11 56 yX0_init ∈ GW := gwt1 160 rfl (by decide +kernel)
theorem mw_236 : Cond.instanceMethod yX0_init ∈ GW := gwt1 161 rfl (by decide +kernel)
theorem mw_237 : Cond.code yX0_init prog_2_method_1_code 3 none ∈ GW := gwt1 162 rfl (by decide +kernel)
theorem mw_238 : Cond.methodLink RX0 3 objectInit ∈ GW := gwt1 163 rfl (by decide +kernel)
theorem mw_239 : Cond.fieldLink RX0 15 "MountPeers$Acts" "tree" "LMountPeers$Tree;" ∈ GW := gwt1 164 rfl (by decide +kernel)
theorem mw_240 : Cond.fieldLink RX0 19 "MountPeers$Acts" "rule" "LMountPeers$Rule;" ∈ GW := gwt1 165 rfl (by decide +kernel)
theorem mw_241 : Cond.fieldLink RX0 9 "MountPeers$Acts" "heirs" "[I" ∈ GW := gwt1 166 rfl (by decide +kernel)
theorem mw_242 : Cond.laysFinal RX0 "MountPeers$Acts" "tree" "LMountPeers$Tree;" ∈ GW := gwt1 167 rfl (by decide +kernel)
theorem mw_244 : Cond.laysFinal RX0 "MountPeers$Acts" "rule" "LMountPeers$Rule;" ∈ GW := gwt1 169 rfl (by decide +kernel)
theorem mw_246 : Cond.laysFinal RX0 "MountPeers$Acts" "heirs" "[I" ∈ GW := gwt1 171 rfl (by decide +kernel)
theorem mw_249 : Cond.classLink RX11 63 "MountPeers$Path" ∈ GW := gwt1 174 rfl (by decide +kernel)
theorem mw_250 : Cond.instantiable RX6 2 ∈ GW := gwt1 175 rfl (by decide +kernel)
theorem mw_252 : Cond.instanceMethod yX6_init ∈ GW := gwt1 177 rfl (by decide +kernel)
theorem mw_253 : Cond.code yX6_init prog_8_method_1_code 1 none ∈ GW := gwt1 178 rfl (by decide +kernel)
theorem mw_254 : Cond.methodLink RX6 3 objectInit ∈ GW := gwt1 179 rfl (by decide +kernel)
theorem mw_255 : Cond.fieldLink RX6 9 "MountPeers$Path" "mount" "I" ∈ GW := gwt1 180 rfl (by decide +kernel)
theorem mw_258 : Cond.fieldLink RX6 15 "MountPeers$Path" "dir" "I" ∈ GW := gwt1 183 rfl (by decide +kernel)
theorem mw_261 : Cond.lays RX6 "MountPeers$Path" "mount" "I" ∈ GW := gwt1 186 rfl (by decide +kernel)
theorem mw_263 : Cond.lays RX6 "MountPeers$Path" "dir" "I" ∈ GW := gwt1 188 rfl (by decide +kernel)
theorem mw_266 : Cond.classLink RX11 70 "MountPeers$Day" ∈ GW := gwt1 191 rfl (by decide +kernel)
theorem mw_267 : Cond.instantiable RX2 5 ∈ GW := gwt1 192 rfl (by decide +kernel)
theorem mw_268 : Cond.methodLink RX11 72 yX2_init ∈ GW := gwt1 193 rfl (by decide +kernel)
theorem mw_269 : Cond.instanceMethod yX2_init ∈ GW := gwt1 194 rfl (by decide +kernel)
theorem mw_270 : Cond.code yX2_init prog_4_method_1_code 4 none ∈ GW := gwt1 195 rfl (by decide +kernel)
theorem mw_271 : Cond.methodLink RX2 3 objectInit ∈ GW := gwt1 196 rfl (by decide +kernel)
theorem mw_272 : Cond.fieldLink RX2 9 "MountPeers$Day" "tree" "LMountPeers$Tree;" ∈ GW := gwt1 197 rfl (by decide +kernel)
theorem mw_273 : Cond.fieldLink RX2 15 "MountPeers$Day" "acts" "LMountPeers$Acts;" ∈ GW := gwt1 198 rfl (by decide +kernel)
theorem mw_274 : Cond.fieldLink RX2 19 "MountPeers$Day" "path" "LMountPeers$Path;" ∈ GW := gwt1 199 rfl (by decide +kernel)
theorem mw_275 : Cond.fieldLink RX2 40 "MountPeers$Day" "letters" "I" ∈ GW := gwt1 200 rfl (by decide +kernel)
theorem mw_276 : Cond.fieldLink RX2 51 "MountPeers$Day" "at" "I" ∈ GW := gwt1 201 rfl (by decide +kernel)
theorem mw_277 : Cond.laysFinal RX2 "MountPeers$Day" "tree" "LMountPeers$Tree;" ∈ GW := gwt1 202 rfl (by decide +kernel)
theorem mw_279 : Cond.laysFinal RX2 "MountPeers$Day" "acts" "LMountPeers$Acts;" ∈ GW := gwt1 204 rfl (by decide +kernel)
theorem mw_281 : Cond.laysFinal RX2 "MountPeers$Day" "path" "LMountPeers$Path;" ∈ GW := gwt1 206 rfl (by decide +kernel)
theorem mw_283 : Cond.lays RX2 "MountPeers$Day" "letters" "I" ∈ GW := gwt1 208 rfl (by decide +kernel)
theorem mw_285 : Cond.lays RX2 "MountPeers$Day" "at" "I" ∈ GW := gwt1 210 rfl (by decide +kernel)
theorem mw_288 : Cond.classLink RX11 79 "MountPeers$Guess" ∈ GW := gwt1 213 rfl (by decide +kernel)
theorem mw_289 : Cond.instantiable RX3 6 ∈ GW := gwt1 214 rfl (by decide +kernel)
theorem mw_290 : Cond.methodLink RX11 81 yX3_init ∈ GW := gwt1 215 rfl (by decide +kernel)
theorem mw_291 : Cond.instanceMethod yX3_init ∈ GW := gwt1 216 rfl (by decide +kernel)
theorem mw_292 : Cond.code yX3_init prog_5_method_1_code 2 none ∈ GW := gwt1 217 rfl (by decide +kernel)
theorem mw_293 : Cond.methodLink RX3 3 objectInit ∈ GW := gwt1 218 rfl (by decide +kernel)
theorem mw_294 : Cond.fieldLink RX3 21 "MountPeers$Guess" "tree" "LMountPeers$Tree;" ∈ GW := gwt1 219 rfl (by decide +kernel)
theorem mw_295 : Cond.fieldLink RX3 11 "MountPeers$Guess" "whats" "[I" ∈ GW := gwt1 220 rfl (by decide +kernel)
theorem mw_296 : Cond.fieldLink RX3 15 "MountPeers$Guess" "values" "[I" ∈ GW := gwt1 221 rfl (by decide +kernel)
theorem mw_297 : Cond.fieldLink RX3 28 "MountPeers$Guess" "size" "I" ∈ GW := gwt1 222 rfl (by decide +kernel)
theorem mw_299 : Cond.fieldLink RX3 18 "MountPeers$Guess" "measures" "[I" ∈ GW := gwt1 224 rfl (by decide +kernel)
theorem mw_300 : Cond.fieldLink RX3 60 "MountPeers$Guess" "mostLeft" "I" ∈ GW := gwt1 225 rfl (by decide +kernel)
theorem mw_302 : Cond.laysFinal RX3 "MountPeers$Guess" "tree" "LMountPeers$Tree;" ∈ GW := gwt1 227 rfl (by decide +kernel)
theorem mw_304 : Cond.laysFinal RX3 "MountPeers$Guess" "whats" "[I" ∈ GW := gwt1 229 rfl (by decide +kernel)
theorem mw_306 : Cond.laysFinal RX3 "MountPeers$Guess" "values" "[I" ∈ GW := gwt1 231 rfl (by decide +kernel)
theorem mw_308 : Cond.lays RX3 "MountPeers$Guess" "size" "I" ∈ GW := gwt1 233 rfl (by decide +kernel)
theorem mw_310 : Cond.laysFinal RX3 "MountPeers$Guess" "measures" "[I" ∈ GW := gwt1 235 rfl (by decide +kernel)
theorem mw_312 : Cond.lays RX3 "MountPeers$Guess" "mostLeft" "I" ∈ GW := gwt1 237 rfl (by decide +kernel)
theorem mw_315 : Cond.classLink RX11 88 "MountPeers$LawBook" ∈ GW := gwt2 0 rfl (by decide +kernel)
theorem mw_316 : Cond.instantiable RX5 5 ∈ GW := gwt2 1 rfl (by decide +kernel)
theorem mw_318 : Cond.instanceMethod yX5_init ∈ GW := gwt2 3 rfl (by decide +kernel)
theorem mw_319 : Cond.code yX5_init prog_7_method_1_code 1 none ∈ GW := gwt2 4 rfl (by decide +kernel)
theorem mw_320 : Cond.methodLink RX5 3 objectInit ∈ GW := gwt2 5 rfl (by decide +kernel)
theorem mw_321 : Cond.fieldLink RX5 11 "MountPeers$LawBook" "steps" "[I" ∈ GW := gwt2 6 rfl (by decide +kernel)
theorem mw_322 : Cond.fieldLink RX5 15 "MountPeers$LawBook" "children" "[I" ∈ GW := gwt2 7 rfl (by decide +kernel)
theorem mw_323 : Cond.fieldLink RX5 18 "MountPeers$LawBook" "came" "[I" ∈ GW := gwt2 8 rfl (by decide +kernel)
theorem mw_324 : Cond.fieldLink RX5 21 "MountPeers$LawBook" "size" "I" ∈ GW := gwt2 9 rfl (by decide +kernel)
theorem mw_326 : Cond.fieldLink RX5 56 "MountPeers$LawBook" "mostLeft" "I" ∈ GW := gwt2 11 rfl (by decide +kernel)
theorem mw_328 : Cond.laysFinal RX5 "MountPeers$LawBook" "steps" "[I" ∈ GW := gwt2 13 rfl (by decide +kernel)
theorem mw_330 : Cond.laysFinal RX5 "MountPeers$LawBook" "children" "[I" ∈ GW := gwt2 15 rfl (by decide +kernel)
theorem mw_332 : Cond.laysFinal RX5 "MountPeers$LawBook" "came" "[I" ∈ GW := gwt2 17 rfl (by decide +kernel)
theorem mw_334 : Cond.lays RX5 "MountPeers$LawBook" "size" "I" ∈ GW := gwt2 19 rfl (by decide +kernel)
theorem mw_336 : Cond.lays RX5 "MountPeers$LawBook" "mostLeft" "I" ∈ GW := gwt2 21 rfl (by decide +kernel)
theorem mw_339 : Cond.classLink RX11 95 "MountPeers$Chance" ∈ GW := gwt2 24 rfl (by decide +kernel)
theorem mw_340 : Cond.instantiable RX1 3 ∈ GW := gwt2 25 rfl (by decide +kernel)
theorem mw_342 : Cond.instanceMethod yX1_init ∈ GW := gwt2 27 rfl (by decide +kernel)
theorem mw_343 : Cond.code yX1_init prog_3_method_1_code 1 none ∈ GW := gwt2 28 rfl (by decide +kernel)
theorem mw_344 : Cond.methodLink RX1 1 objectInit ∈ GW := gwt2 29 rfl (by decide +kernel)
theorem mw_345 : Cond.fieldLink RX1 9 "MountPeers$Chance" "cases" "[J" ∈ GW := gwt2 30 rfl (by decide +kernel)
theorem mw_346 : Cond.fieldLink RX1 17 "MountPeers$Chance" "upper" "J" ∈ GW := gwt2 31 rfl (by decide +kernel)
theorem mw_348 : Cond.fieldLink RX1 27 "MountPeers$Chance" "lower" "J" ∈ GW := gwt2 33 rfl (by decide +kernel)
theorem mw_350 : Cond.laysFinal RX1 "MountPeers$Chance" "cases" "[J" ∈ GW := gwt2 35 rfl (by decide +kernel)
theorem mw_352 : Cond.lays RX1 "MountPeers$Chance" "upper" "J" ∈ GW := gwt2 37 rfl (by decide +kernel)
theorem mw_354 : Cond.lays RX1 "MountPeers$Chance" "lower" "J" ∈ GW := gwt2 39 rfl (by decide +kernel)
theorem mw_357 : Cond.fieldLink RX11 10 "MountPeers" "now" "LMountPeers$Tree;" ∈ GW := gwt2 42 rfl (by decide +kernel)
theorem mw_358 : Cond.fieldLink RX11 16 "MountPeers" "spare" "LMountPeers$Tree;" ∈ GW := gwt2 43 rfl (by decide +kernel)
theorem mw_359 : Cond.fieldLink RX11 22 "MountPeers" "history" "LMountPeers$History;" ∈ GW := gwt2 44 rfl (by decide +kernel)
theorem mw_360 : Cond.fieldLink RX11 26 "MountPeers" "kept" "[LMountPeers$Tree;" ∈ GW := gwt2 45 rfl (by decide +kernel)
theorem mw_361 : Cond.fieldLink RX11 33 "MountPeers" "text" "LMountPeers$Text;" ∈ GW := gwt2 46 rfl (by decide +kernel)
theorem mw_362 : Cond.fieldLink RX11 40 "MountPeers" "row" "LMountPeers$Row;" ∈ GW := gwt2 47 rfl (by decide +kernel)
theorem mw_363 : Cond.fieldLink RX11 47 "MountPeers" "rule" "LMountPeers$Rule;" ∈ GW := gwt2 48 rfl (by decide +kernel)
theorem mw_364 : Cond.fieldLink RX11 51 "MountPeers" "otherRule" "LMountPeers$Rule;" ∈ GW := gwt2 49 rfl (by decide +kernel)
theorem mw_365 : Cond.fieldLink RX11 59 "MountPeers" "acts" "LMountPeers$Acts;" ∈ GW := gwt2 50 rfl (by decide +kernel)
theorem mw_366 : Cond.fieldLink RX11 66 "MountPeers" "path" "LMountPeers$Path;" ∈ GW := gwt2 51 rfl (by decide +kernel)
theorem mw_367 : Cond.fieldLink RX11 75 "MountPeers" "day" "LMountPeers$Day;" ∈ GW := gwt2 52 rfl (by decide +kernel)
theorem mw_368 : Cond.fieldLink RX11 84 "MountPeers" "guess" "LMountPeers$Guess;" ∈ GW := gwt2 53 rfl (by decide +kernel)
theorem mw_369 : Cond.fieldLink RX11 91 "MountPeers" "lawBook" "LMountPeers$LawBook;" ∈ GW := gwt2 54 rfl (by decide +kernel)
theorem mw_370 : Cond.fieldLink RX11 98 "MountPeers" "chance" "LMountPeers$Chance;" ∈ GW := gwt2 55 rfl (by decide +kernel)
theorem mw_371 : Cond.fieldLink RX11 370 "MountPeers" "drawn" "I" ∈ GW := gwt2 56 rfl (by decide +kernel)
theorem mw_372 : Cond.laysFinal RX11 "MountPeers" "now" "LMountPeers$Tree;" ∈ GW := gwt2 57 rfl (by decide +kernel)
theorem mw_374 : Cond.laysFinal RX11 "MountPeers" "spare" "LMountPeers$Tree;" ∈ GW := gwt2 59 rfl (by decide +kernel)
theorem mw_376 : Cond.laysFinal RX11 "MountPeers" "history" "LMountPeers$History;" ∈ GW := gwt2 61 rfl (by decide +kernel)
theorem mw_378 : Cond.laysFinal RX11 "MountPeers" "kept" "[LMountPeers$Tree;" ∈ GW := gwt2 63 rfl (by decide +kernel)
theorem mw_380 : Cond.laysFinal RX11 "MountPeers" "text" "LMountPeers$Text;" ∈ GW := gwt2 65 rfl (by decide +kernel)
theorem mw_382 : Cond.laysFinal RX11 "MountPeers" "row" "LMountPeers$Row;" ∈ GW := gwt2 67 rfl (by decide +kernel)
theorem mw_384 : Cond.laysFinal RX11 "MountPeers" "rule" "LMountPeers$Rule;" ∈ GW := gwt2 69 rfl (by decide +kernel)
theorem mw_386 : Cond.laysFinal RX11 "MountPeers" "otherRule" "LMountPeers$Rule;" ∈ GW := gwt2 71 rfl (by decide +kernel)
theorem mw_388 : Cond.laysFinal RX11 "MountPeers" "acts" "LMountPeers$Acts;" ∈ GW := gwt2 73 rfl (by decide +kernel)
theorem mw_390 : Cond.laysFinal RX11 "MountPeers" "path" "LMountPeers$Path;" ∈ GW := gwt2 75 rfl (by decide +kernel)
theorem mw_392 : Cond.laysFinal RX11 "MountPeers" "day" "LMountPeers$Day;" ∈ GW := gwt2 77 rfl (by decide +kernel)
theorem mw_394 : Cond.laysFinal RX11 "MountPeers" "guess" "LMountPeers$Guess;" ∈ GW := gwt2 79 rfl (by decide +kernel)
theorem mw_396 : Cond.laysFinal RX11 "MountPeers" "lawBook" "LMountPeers$LawBook;" ∈ GW := gwt2 81 rfl (by decide +kernel)
theorem mw_398 : Cond.laysFinal RX11 "MountPeers" "chance" "LMountPeers$Chance;" ∈ GW := gwt2 83 rfl (by decide +kernel)
theorem mw_400 : Cond.lays RX11 "MountPeers" "drawn" "I" ∈ GW := gwt2 85 rfl (by decide +kernel)
theorem mw_403 : Cond.methodLink "MountPeersLaw" 26 yX11_sign ∈ GW := gwt2 88 rfl (by decide +kernel)
theorem mw_404 : Cond.instanceMethod yX11_sign ∈ GW := gwt2 89 rfl (by decide +kernel)
theorem mw_405 : Cond.selects RX11 yX11_sign yX11_sign ∈ GW := gwt2 90 rfl (by decide +kernel)
theorem mw_406 : Cond.code yX11_sign prog_1_method_2_code 2 (some .int) ∈ GW := gwt2 91 rfl (by decide +kernel)
theorem mw_407 : Cond.methodLink RX11 102 yX9_add ∈ GW := gwt2 92 rfl (by decide +kernel)
theorem mw_408 : Cond.instanceMethod yX9_add ∈ GW := gwt2 93 rfl (by decide +kernel)
theorem mw_409 : Cond.selects RX9 yX9_add yX9_add ∈ GW := gwt2 94 rfl (by decide +kernel)
theorem mw_410 : Cond.code yX9_add prog_11_method_2_code 3 (some .boolean) ∈ GW := gwt2 95 rfl (by decide +kernel)
theorem mw_411 : Cond.methodLink "MountPeersLaw" 31 yX11_end ∈ GW := gwt2 96 rfl (by decide +kernel)
theorem mw_412 : Cond.instanceMethod yX11_end ∈ GW := gwt2 97 rfl (by decide +kernel)
theorem mw_413 : Cond.selects RX11 yX11_end yX11_end ∈ GW := gwt2 98 rfl (by decide +kernel)
theorem mw_414 : Cond.code yX11_end prog_1_method_3_code 2 (some .boolean) ∈ GW := gwt2 99 rfl (by decide +kernel)
theorem mw_415 : Cond.methodLink RX11 110 yX9_cut ∈ GW := gwt2 100 rfl (by decide +kernel)
theorem mw_416 : Cond.instanceMethod yX9_cut ∈ GW := gwt2 101 rfl (by decide +kernel)
theorem mw_417 : Cond.selects RX9 yX9_cut yX9_cut ∈ GW := gwt2 102 rfl (by decide +kernel)
theorem mw_418 : Cond.code yX9_cut prog_11_method_3_code 2 (some .boolean) ∈ GW := gwt2 103 rfl (by decide +kernel)
theorem mw_419 : Cond.methodLink "MountPeersLaw" 36 yX11_rule ∈ GW := gwt2 104 rfl (by decide +kernel)
theorem mw_420 : Cond.instanceMethod yX11_rule ∈ GW := gwt2 105 rfl (by decide +kernel)
theorem mw_421 : Cond.selects RX11 yX11_rule yX11_rule ∈ GW := gwt2 106 rfl (by decide +kernel)
theorem mw_422 : Cond.code yX11_rule prog_1_method_4_code 2 (some .int) ∈ GW := gwt2 107 rfl (by decide +kernel)
theorem mw_423 : Cond.methodLink RX11 113 yX8_read ∈ GW := gwt2 108 rfl (by decide +kernel)
theorem mw_424 : Cond.instanceMethod yX8_read ∈ GW := gwt2 109 rfl (by decide +kernel)
theorem mw_425 : Cond.selects RX8 yX8_read yX8_read ∈ GW := gwt2 110 rfl (by decide +kernel)
theorem mw_426 : Cond.code yX8_read prog_10_method_3_code 4 (some .int) ∈ GW := gwt2 111 rfl (by decide +kernel)
theorem mw_427 : Cond.methodLink RX8 47 yX9_signAt ∈ GW := gwt2 112 rfl (by decide +kernel)
theorem mw_428 : Cond.instanceMethod yX9_signAt ∈ GW := gwt2 113 rfl (by decide +kernel)
theorem mw_429 : Cond.selects RX9 yX9_signAt yX9_signAt ∈ GW := gwt2 114 rfl (by decide +kernel)
theorem mw_430 : Cond.code yX9_signAt prog_11_method_5_code 2 (some .int) ∈ GW := gwt2 115 rfl (by decide +kernel)
theorem mw_431 : Cond.methodLink RX8 51 yX8_startsThing ∈ GW := gwt2 116 rfl (by decide +kernel)
theorem mw_433 : Cond.instanceMethod yX8_startsThing ∈ GW := gwt2 118 rfl (by decide +kernel)
theorem mw_434 : Cond.code yX8_startsThing prog_10_method_4_code 3 (some .boolean) ∈ GW := gwt2 119 rfl (by decide +kernel)
theorem mw_435 : Cond.methodLink RX8 62 yX8_hold ∈ GW := gwt2 120 rfl (by decide +kernel)
theorem mw_437 : Cond.instanceMethod yX8_hold ∈ GW := gwt2 122 rfl (by decide +kernel)
theorem mw_438 : Cond.code yX8_hold prog_10_method_12_code 2 none ∈ GW := gwt2 123 rfl (by decide +kernel)
theorem mw_439 : Cond.methodLink RX8 65 yX8_opens ∈ GW := gwt2 124 rfl (by decide +kernel)
theorem mw_441 : Cond.instanceMethod yX8_opens ∈ GW := gwt2 126 rfl (by decide +kernel)
theorem mw_442 : Cond.code yX8_opens prog_10_method_5_code 1 (some .boolean) ∈ GW := gwt2 127 rfl (by decide +kernel)
theorem mw_444 : Cond.methodLink RX8 71 yJ0_indexOf_0f7a4 ∈ GW := gwt2 129 rfl (by decide +kernel)
theorem mw_445 : Cond.instanceMethod yJ0_indexOf_0f7a4 ∈ GW := gwt2 130 rfl (by decide +kernel)
theorem mw_446 : Cond.selects "java/lang/String" yJ0_indexOf_0f7a4 yJ0_indexOf_0f7a4 ∈ GW := gwt2 131 rfl (by decide +kernel)
theorem mw_447 : Cond.code yJ0_indexOf_0f7a4 prog_24_method_79_code 2 (some .int) ∈ GW := gwt2 132 rfl (by decide +kernel)
theorem mw_448 : Cond.methodLink "java/lang/String" 633 yJ0_indexOf_7cf53 ∈ GW := gwt2 133 rfl (by decide +kernel)
theorem mw_449 : Cond.instanceMethod yJ0_indexOf_7cf53 ∈ GW := gwt2 134 rfl (by decide +kernel)
theorem mw_450 : Cond.selects "java/lang/String" yJ0_indexOf_7cf53 yJ0_indexOf_7cf53 ∈ GW := gwt2 135 rfl (by decide +kernel)
theorem mw_451 : Cond.code yJ0_indexOf_7cf53 prog_24_method_80_code 3 (some .int) ∈ GW := gwt2 136 rfl (by decide +kernel)
theorem mw_452 : Cond.methodLink "java/lang/String" 492 yJ0_isLatin1_aae02 ∈ GW := gwt2 137 rfl (by decide +kernel)
theorem mw_453 : Cond.instanceMethod yJ0_isLatin1_aae02 ∈ GW := gwt2 138 rfl (by decide +kernel)
theorem mw_454 : Cond.selects "java/lang/String" yJ0_isLatin1_aae02 yJ0_isLatin1_aae02 ∈ GW := gwt2 139 rfl (by decide +kernel)
theorem mw_455 : Cond.code yJ0_isLatin1_aae02 prog_24_method_154_code 1 (some .boolean) ∈ GW := gwt2 140 rfl (by decide +kernel)
theorem mw_456 : Cond.fieldLink "java/lang/String" 38 "java/lang/String" "COMPACT_STRINGS" "Z" ∈ GW := gwt2 141 rfl (by decide +kernel)
theorem mw_458 : Cond.methodLink "java/lang/String" 505 yJ0_length_8abf5 ∈ GW := gwt2 143 rfl (by decide +kernel)
theorem mw_459 : Cond.instanceMethod yJ0_length_8abf5 ∈ GW := gwt2 144 rfl (by decide +kernel)
theorem mw_460 : Cond.selects "java/lang/String" yJ0_length_8abf5 yJ0_length_8abf5 ∈ GW := gwt2 145 rfl (by decide +kernel)
theorem mw_461 : Cond.code yJ0_length_8abf5 prog_24_method_54_code 1 (some .int) ∈ GW := gwt2 146 rfl (by decide +kernel)
theorem mw_462 : Cond.methodLink "java/lang/String" 335 yJ0_coder_7d493 ∈ GW := gwt2 147 rfl (by decide +kernel)
theorem mw_463 : Cond.instanceMethod yJ0_coder_7d493 ∈ GW := gwt2 148 rfl (by decide +kernel)
theorem mw_464 : Cond.selects "java/lang/String" yJ0_coder_7d493 yJ0_coder_7d493 ∈ GW := gwt2 149 rfl (by decide +kernel)
theorem mw_465 : Cond.code yJ0_coder_7d493 prog_24_method_152_code 1 (some .byte) ∈ GW := gwt2 150 rfl (by decide +kernel)
theorem mw_466 : Cond.methodLink "java/lang/String" 637 yJ1_indexOf_4cfef ∈ GW := gwt2 151 rfl (by decide +kernel)
theorem mw_467 : Cond.static yJ1_indexOf_4cfef ∈ GW := gwt2 152 rfl (by decide +kernel)
theorem mw_468 : Cond.code yJ1_indexOf_4cfef prog_25_method_22_code 4 (some .int) ∈ GW := gwt2 153 rfl (by decide +kernel)
theorem mw_469 : Cond.methodLink "java/lang/StringLatin1" 88 yJ1_canEncode_9a6ad ∈ GW := gwt2 154 rfl (by decide +kernel)
theorem mw_470 : Cond.static yJ1_canEncode_9a6ad ∈ GW := gwt2 155 rfl (by decide +kernel)
theorem mw_471 : Cond.code yJ1_canEncode_9a6ad prog_25_method_4_code 1 (some .boolean) ∈ GW := gwt2 156 rfl (by decide +kernel)
theorem mw_472 : Cond.methodLink "java/lang/StringLatin1" 92 yJ9_max_7cf53 ∈ GW := gwt2 157 rfl (by decide +kernel)
theorem mw_473 : Cond.static yJ9_max_7cf53 ∈ GW := gwt2 158 rfl (by decide +kernel)
theorem mw_474 : Cond.code yJ9_max_7cf53 prog_22_method_65_code 2 (some .int) ∈ GW := gwt2 159 rfl (by decide +kernel)
theorem mw_475 : Cond.methodLink "java/lang/StringLatin1" 38 yJ9_min_7cf53 ∈ GW := gwt2 160 rfl (by decide +kernel)
theorem mw_476 : Cond.static yJ9_min_7cf53 ∈ GW := gwt2 161 rfl (by decide +kernel)
theorem mw_477 : Cond.code yJ9_min_7cf53 prog_22_method_69_code 2 (some .int) ∈ GW := gwt2 162 rfl (by decide +kernel)
theorem mw_478 : Cond.methodLink "java/lang/StringLatin1" 95 yJ1_indexOfChar_4cfef ∈ GW := gwt2 163 rfl (by decide +kernel)
theorem mw_479 : Cond.static yJ1_indexOfChar_4cfef ∈ GW := gwt2 164 rfl (by decide +kernel)
theorem mw_480 : Cond.code yJ1_indexOfChar_4cfef prog_25_method_23_code 6 (some .int) ∈ GW := gwt2 165 rfl (by decide +kernel)
theorem mw_481 : Cond.methodLink "java/lang/String" 640 yJ2_indexOf_4cfef ∈ GW := gwt2 166 rfl (by decide +kernel)
theorem mw_482 : Cond.static yJ2_indexOf_4cfef ∈ GW := gwt2 167 rfl (by decide +kernel)
theorem mw_483 : Cond.code yJ2_indexOf_4cfef prog_26_method_40_code 4 (some .int) ∈ GW := gwt2 168 rfl (by decide +kernel)
theorem mw_484 : Cond.methodLink "java/lang/StringUTF16" 224 yJ9_max_7cf53 ∈ GW := gwt2 169 rfl (by decide +kernel)
theorem mw_485 : Cond.methodLink "java/lang/StringUTF16" 183 yJ9_min_7cf53 ∈ GW := gwt2 170 rfl (by decide +kernel)
theorem mw_486 : Cond.constant "java/lang/StringUTF16" 227 (65536 : Int32) ∈ GW := gwt2 171 rfl (by decide +kernel)
theorem mw_487 : Cond.methodLink "java/lang/StringUTF16" 228 yJ2_indexOfChar_4cfef ∈ GW := gwt2 172 rfl (by decide +kernel)
theorem mw_488 : Cond.static yJ2_indexOfChar_4cfef ∈ GW := gwt2 173 rfl (by decide +kernel)
theorem mw_489 : Cond.code yJ2_indexOfChar_4cfef prog_26_method_47_code 4 (some .int) ∈ GW := gwt2 174 rfl (by decide +kernel)
theorem mw_490 : Cond.methodLink "java/lang/StringUTF16" 96 yJ2_checkBoundsBeginEnd_d044e ∈ GW := gwt2 175 rfl (by decide +kernel)
theorem mw_491 : Cond.static yJ2_checkBoundsBeginEnd_d044e ∈ GW := gwt2 176 rfl (by decide +kernel)
theorem mw_492 : Cond.code yJ2_checkBoundsBeginEnd_d044e prog_26_method_93_code 3 none ∈ GW := gwt2 177 rfl (by decide +kernel)
theorem mw_493 : Cond.methodLink "java/lang/StringUTF16" 48 yJ2_length_9d52b ∈ GW := gwt2 178 rfl (by decide +kernel)
theorem mw_494 : Cond.static yJ2_length_9d52b ∈ GW := gwt2 179 rfl (by decide +kernel)
theorem mw_495 : Cond.code yJ2_length_9d52b prog_26_method_6_code 1 (some .int) ∈ GW := gwt2 180 rfl (by decide +kernel)
theorem mw_496 : Cond.methodLink "java/lang/StringUTF16" 241 yJ0_checkBoundsBeginEnd_23922 ∈ GW := gwt2 181 rfl (by decide +kernel)
theorem mw_497 : Cond.static yJ0_checkBoundsBeginEnd_23922 ∈ GW := gwt2 182 rfl (by decide +kernel)
theorem mw_498 : Cond.code yJ0_checkBoundsBeginEnd_23922 prog_24_method_158_code 3 none ∈ GW := gwt2 183 rfl (by decide +kernel)
theorem mw_499 : Cond.fieldLink "java/lang/String" 1053 "jdk/internal/util/Preconditions" "SIOOBE_FORMATTER" "Ljava/util/function/BiFunction;" ∈ GW := gwt2 184 rfl (by decide +kernel)
theorem mw_501 : Cond.methodLink "java/lang/String" 1062 yJ3_checkFromToIndex_8c36e ∈ GW := gwt2 186 rfl (by decide +kernel)
theorem mw_502 : Cond.static yJ3_checkFromToIndex_8c36e ∈ GW := gwt2 187 rfl (by decide +kernel)
theorem mw_503 : Cond.code yJ3_checkFromToIndex_8c36e prog_31_method_12_code 4 (some .int) ∈ GW := gwt2 188 rfl (by decide +kernel)
theorem mw_504 : Cond.methodLink "java/lang/StringUTF16" 244 yJ2_indexOfCharUnsafe_4cfef ∈ GW := gwt2 189 rfl (by decide +kernel)
theorem mw_505 : Cond.static yJ2_indexOfCharUnsafe_4cfef ∈ GW := gwt2 190 rfl (by decide +kernel)
theorem mw_506 : Cond.code yJ2_indexOfCharUnsafe_4cfef prog_26_method_48_code 5 (some .int) ∈ GW := gwt2 191 rfl (by decide +kernel)
theorem mw_507 : Cond.methodLink "java/lang/StringUTF16" 71 yJ2_getChar_3b067 ∈ GW := gwt2 192 rfl (by decide +kernel)
theorem mw_508 : Cond.static yJ2_getChar_3b067 ∈ GW := gwt2 193 rfl (by decide +kernel)
theorem mw_509 : Cond.code yJ2_getChar_3b067 prog_26_method_5_code 2 (some .char) ∈ GW := gwt2 194 rfl (by decide +kernel)
theorem mw_510 : Cond.fieldLink "java/lang/StringUTF16" 44 "java/lang/StringUTF16" "$assertionsDisabled" "Z" ∈ GW := gwt2 195 rfl (by decide +kernel)
theorem mw_512 : Cond.fieldLink "java/lang/StringUTF16" 59 "java/lang/StringUTF16" "HI_BYTE_SHIFT" "I" ∈ GW := gwt2 197 rfl (by decide +kernel)
theorem mw_514 : Cond.fieldLink "java/lang/StringUTF16" 63 "java/lang/StringUTF16" "LO_BYTE_SHIFT" "I" ∈ GW := gwt2 199 rfl (by decide +kernel)
theorem mw_516 : Cond.methodLink "java/lang/StringUTF16" 232 yJ2_indexOfSupplementary_4cfef ∈ GW := gwt2 201 rfl (by decide +kernel)
theorem mw_517 : Cond.static yJ2_indexOfSupplementary_4cfef ∈ GW := gwt2 202 rfl (by decide +kernel)
theorem mw_518 : Cond.code yJ2_indexOfSupplementary_4cfef prog_26_method_49_code 7 (some .int) ∈ GW := gwt2 203 rfl (by decide +kernel)
theorem mw_519 : Cond.methodLink "java/lang/StringUTF16" 164 yJ11_isValidCodePoint_9a6ad ∈ GW := gwt2 204 rfl (by decide +kernel)
theorem mw_520 : Cond.static yJ11_isValidCodePoint_9a6ad ∈ GW := gwt2 205 rfl (by decide +kernel)
theorem mw_521 : Cond.code yJ11_isValidCodePoint_9a6ad prog_17_method_11_code 2 (some .boolean) ∈ GW := gwt2 206 rfl (by decide +kernel)
theorem mw_522 : Cond.methodLink "java/lang/StringUTF16" 157 yJ11_highSurrogate_5068e ∈ GW := gwt2 207 rfl (by decide +kernel)
theorem mw_523 : Cond.static yJ11_highSurrogate_5068e ∈ GW := gwt2 208 rfl (by decide +kernel)
theorem mw_524 : Cond.code yJ11_highSurrogate_5068e prog_17_method_28_code 1 (some .char) ∈ GW := gwt2 209 rfl (by decide +kernel)
theorem mw_525 : Cond.constant "java/lang/Character" 110 (55232 : Int32) ∈ GW := gwt2 210 rfl (by decide +kernel)
theorem mw_526 : Cond.methodLink "java/lang/StringUTF16" 161 yJ11_lowSurrogate_5068e ∈ GW := gwt2 211 rfl (by decide +kernel)
theorem mw_527 : Cond.static yJ11_lowSurrogate_5068e ∈ GW := gwt2 212 rfl (by decide +kernel)
theorem mw_528 : Cond.code yJ11_lowSurrogate_5068e prog_17_method_29_code 1 (some .char) ∈ GW := gwt2 213 rfl (by decide +kernel)
theorem mw_529 : Cond.constant "java/lang/Character" 76 (56320 : Int32) ∈ GW := gwt2 214 rfl (by decide +kernel)
theorem mw_530 : Cond.methodLink RX8 76 yX8_isDigit ∈ GW := gwt2 215 rfl (by decide +kernel)
theorem mw_531 : Cond.static yX8_isDigit ∈ GW := gwt2 216 rfl (by decide +kernel)
theorem mw_532 : Cond.code yX8_isDigit prog_10_method_9_code 1 (some .boolean) ∈ GW := gwt2 217 rfl (by decide +kernel)
theorem mw_533 : Cond.methodLink RX8 79 yX8_emit ∈ GW := gwt2 218 rfl (by decide +kernel)
theorem mw_535 : Cond.instanceMethod yX8_emit ∈ GW := gwt2 220 rfl (by decide +kernel)
theorem mw_536 : Cond.code yX8_emit prog_10_method_11_code 2 none ∈ GW := gwt2 221 rfl (by decide +kernel)
theorem mw_537 : Cond.methodLink RX8 55 yX8_followsThing ∈ GW := gwt2 222 rfl (by decide +kernel)
theorem mw_539 : Cond.instanceMethod yX8_followsThing ∈ GW := gwt2 224 rfl (by decide +kernel)
theorem mw_540 : Cond.code yX8_followsThing prog_10_method_6_code 3 (some .boolean) ∈ GW := gwt2 225 rfl (by decide +kernel)
theorem mw_541 : Cond.methodLink RX8 82 yX8_addsDigit ∈ GW := gwt2 226 rfl (by decide +kernel)
theorem mw_543 : Cond.instanceMethod yX8_addsDigit ∈ GW := gwt2 228 rfl (by decide +kernel)
theorem mw_544 : Cond.code yX8_addsDigit prog_10_method_7_code 2 (some .boolean) ∈ GW := gwt2 229 rfl (by decide +kernel)
theorem mw_545 : Cond.methodLink RX8 85 yX8_closes ∈ GW := gwt2 230 rfl (by decide +kernel)
theorem mw_547 : Cond.instanceMethod yX8_closes ∈ GW := gwt2 232 rfl (by decide +kernel)
theorem mw_548 : Cond.code yX8_closes prog_10_method_8_code 1 (some .boolean) ∈ GW := gwt2 233 rfl (by decide +kernel)
theorem mw_549 : Cond.methodLink RX8 58 yX8_release ∈ GW := gwt2 234 rfl (by decide +kernel)
theorem mw_551 : Cond.instanceMethod yX8_release ∈ GW := gwt2 236 rfl (by decide +kernel)
theorem mw_552 : Cond.code yX8_release prog_10_method_13_code 3 none ∈ GW := gwt2 237 rfl (by decide +kernel)
theorem mw_553 : Cond.methodLink RX8 88 yX8_rankOf ∈ GW := gwt2 238 rfl (by decide +kernel)
theorem mw_554 : Cond.static yX8_rankOf ∈ GW := gwt2 239 rfl (by decide +kernel)
theorem mw_555 : Cond.code yX8_rankOf prog_10_method_10_code 1 (some .int) ∈ GW := gwt3 0 rfl (by decide +kernel)
theorem mw_556 : Cond.methodLink RX11 117 yX9_clear ∈ GW := gwt3 1 rfl (by decide +kernel)
theorem mw_557 : Cond.instanceMethod yX9_clear ∈ GW := gwt3 2 rfl (by decide +kernel)
theorem mw_558 : Cond.selects RX9 yX9_clear yX9_clear ∈ GW := gwt3 3 rfl (by decide +kernel)
theorem mw_559 : Cond.code yX9_clear prog_11_method_4_code 1 none ∈ GW := gwt3 4 rfl (by decide +kernel)
theorem mw_560 : Cond.methodLink RX11 120 yX8_take ∈ GW := gwt3 5 rfl (by decide +kernel)
theorem mw_561 : Cond.instanceMethod yX8_take ∈ GW := gwt3 6 rfl (by decide +kernel)
theorem mw_562 : Cond.selects RX8 yX8_take yX8_take ∈ GW := gwt3 7 rfl (by decide +kernel)
theorem mw_563 : Cond.code yX8_take prog_10_method_2_code 3 none ∈ GW := gwt3 8 rfl (by decide +kernel)
theorem mw_564 : Cond.arrayClass .byte ∈ GW := gwt3 9 rfl (by decide +kernel)
theorem mw_565 : Cond.methodLink "MountPeersLaw" 41 yX11_place ∈ GW := gwt3 10 rfl (by decide +kernel)
theorem mw_566 : Cond.instanceMethod yX11_place ∈ GW := gwt3 11 rfl (by decide +kernel)
theorem mw_567 : Cond.selects RX11 yX11_place yX11_place ∈ GW := gwt3 12 rfl (by decide +kernel)
theorem mw_568 : Cond.code yX11_place prog_1_method_5_code 3 (some .int) ∈ GW := gwt3 13 rfl (by decide +kernel)
theorem mw_569 : Cond.methodLink RX11 124 yX6_walk ∈ GW := gwt3 14 rfl (by decide +kernel)
theorem mw_570 : Cond.instanceMethod yX6_walk ∈ GW := gwt3 15 rfl (by decide +kernel)
theorem mw_571 : Cond.selects RX6 yX6_walk yX6_walk ∈ GW := gwt3 16 rfl (by decide +kernel)
theorem mw_572 : Cond.code yX6_walk prog_8_method_2_code 7 (some .int) ∈ GW := gwt3 17 rfl (by decide +kernel)
theorem mw_573 : Cond.methodLink RX6 18 yX9_dirAt ∈ GW := gwt3 18 rfl (by decide +kernel)
theorem mw_574 : Cond.instanceMethod yX9_dirAt ∈ GW := gwt3 19 rfl (by decide +kernel)
theorem mw_575 : Cond.selects RX9 yX9_dirAt yX9_dirAt ∈ GW := gwt3 20 rfl (by decide +kernel)
theorem mw_576 : Cond.code yX9_dirAt prog_11_method_6_code 3 (some .int) ∈ GW := gwt3 21 rfl (by decide +kernel)
theorem mw_577 : Cond.methodLink RX9 19 yX9_signAt ∈ GW := gwt3 22 rfl (by decide +kernel)
theorem mw_578 : Cond.methodLink RX6 24 yX10_mountAt ∈ GW := gwt3 23 rfl (by decide +kernel)
theorem mw_579 : Cond.instanceMethod yX10_mountAt ∈ GW := gwt3 24 rfl (by decide +kernel)
theorem mw_580 : Cond.selects RX10 yX10_mountAt yX10_mountAt ∈ GW := gwt3 25 rfl (by decide +kernel)
theorem mw_581 : Cond.code yX10_mountAt prog_12_method_12_code 5 (some .int) ∈ GW := gwt3 26 rfl (by decide +kernel)
theorem mw_582 : Cond.methodLink RX11 134 yX10_mountAt ∈ GW := gwt3 27 rfl (by decide +kernel)
theorem mw_583 : Cond.methodLink RX11 138 yX7_tell ∈ GW := gwt3 28 rfl (by decide +kernel)
theorem mw_584 : Cond.instanceMethod yX7_tell ∈ GW := gwt3 29 rfl (by decide +kernel)
theorem mw_585 : Cond.selects RX7 yX7_tell yX7_tell ∈ GW := gwt3 30 rfl (by decide +kernel)
theorem mw_586 : Cond.code yX7_tell prog_9_method_5_code 3 none ∈ GW := gwt3 31 rfl (by decide +kernel)
theorem mw_587 : Cond.methodLink RX7 19 yX7_clear ∈ GW := gwt3 32 rfl (by decide +kernel)
theorem mw_588 : Cond.instanceMethod yX7_clear ∈ GW := gwt3 33 rfl (by decide +kernel)
theorem mw_589 : Cond.selects RX7 yX7_clear yX7_clear ∈ GW := gwt3 34 rfl (by decide +kernel)
theorem mw_590 : Cond.code yX7_clear prog_9_method_2_code 1 none ∈ GW := gwt3 35 rfl (by decide +kernel)
theorem mw_591 : Cond.methodLink RX7 22 yX7_add ∈ GW := gwt3 36 rfl (by decide +kernel)
theorem mw_592 : Cond.instanceMethod yX7_add ∈ GW := gwt3 37 rfl (by decide +kernel)
theorem mw_593 : Cond.selects RX7 yX7_add yX7_add ∈ GW := gwt3 38 rfl (by decide +kernel)
theorem mw_594 : Cond.code yX7_add prog_9_method_3_code 3 none ∈ GW := gwt3 39 rfl (by decide +kernel)
theorem mw_595 : Cond.methodLink "MountPeersLaw" 57 yX11_sheet ∈ GW := gwt3 40 rfl (by decide +kernel)
theorem mw_596 : Cond.instanceMethod yX11_sheet ∈ GW := gwt3 41 rfl (by decide +kernel)
theorem mw_597 : Cond.selects RX11 yX11_sheet yX11_sheet ∈ GW := gwt3 42 rfl (by decide +kernel)
theorem mw_598 : Cond.code yX11_sheet prog_1_method_8_code 5 (some .int) ∈ GW := gwt3 43 rfl (by decide +kernel)
theorem mw_599 : Cond.methodLink RX11 182 yX11_toldBySheet ∈ GW := gwt3 44 rfl (by decide +kernel)
theorem mw_601 : Cond.instanceMethod yX11_toldBySheet ∈ GW := gwt3 46 rfl (by decide +kernel)
theorem mw_602 : Cond.code yX11_toldBySheet prog_1_method_9_code 9 (some .int) ∈ GW := gwt3 47 rfl (by decide +kernel)
theorem mw_603 : Cond.methodLink RX11 142 yX10_has ∈ GW := gwt3 48 rfl (by decide +kernel)
theorem mw_604 : Cond.instanceMethod yX10_has ∈ GW := gwt3 49 rfl (by decide +kernel)
theorem mw_605 : Cond.selects RX10 yX10_has yX10_has ∈ GW := gwt3 50 rfl (by decide +kernel)
theorem mw_606 : Cond.code yX10_has prog_12_method_3_code 2 (some .boolean) ∈ GW := gwt3 51 rfl (by decide +kernel)
theorem mw_607 : Cond.methodLink RX11 159 yX10_groupOf ∈ GW := gwt3 52 rfl (by decide +kernel)
theorem mw_608 : Cond.instanceMethod yX10_groupOf ∈ GW := gwt3 53 rfl (by decide +kernel)
theorem mw_609 : Cond.selects RX10 yX10_groupOf yX10_groupOf ∈ GW := gwt3 54 rfl (by decide +kernel)
theorem mw_610 : Cond.code yX10_groupOf prog_12_method_9_code 2 (some .int) ∈ GW := gwt3 55 rfl (by decide +kernel)
theorem mw_611 : Cond.methodLink RX11 162 yX10_masterOf ∈ GW := gwt3 56 rfl (by decide +kernel)
theorem mw_612 : Cond.instanceMethod yX10_masterOf ∈ GW := gwt3 57 rfl (by decide +kernel)
theorem mw_613 : Cond.selects RX10 yX10_masterOf yX10_masterOf ∈ GW := gwt3 58 rfl (by decide +kernel)
theorem mw_614 : Cond.code yX10_masterOf prog_12_method_10_code 2 (some .int) ∈ GW := gwt3 59 rfl (by decide +kernel)
theorem mw_615 : Cond.methodLink RX11 191 yX11_asWide ∈ GW := gwt3 60 rfl (by decide +kernel)
theorem mw_616 : Cond.static yX11_asWide ∈ GW := gwt3 61 rfl (by decide +kernel)
theorem mw_617 : Cond.code yX11_asWide prog_1_method_10_code 2 (some .int) ∈ GW := gwt3 62 rfl (by decide +kernel)
theorem mw_618 : Cond.methodLink RX11 186 yJ6_bitCount_0f7a4 ∈ GW := gwt3 63 rfl (by decide +kernel)
theorem mw_619 : Cond.static yJ6_bitCount_0f7a4 ∈ GW := gwt3 64 rfl (by decide +kernel)
theorem mw_620 : Cond.code yJ6_bitCount_0f7a4 prog_20_method_49_code 1 (some .int) ∈ GW := gwt3 65 rfl (by decide +kernel)
theorem mw_621 : Cond.constant "java/lang/Integer" 265 (1431655765 : Int32) ∈ GW := gwt3 66 rfl (by decide +kernel)
theorem mw_622 : Cond.constant "java/lang/Integer" 266 (858993459 : Int32) ∈ GW := gwt3 67 rfl (by decide +kernel)
theorem mw_623 : Cond.constant "java/lang/Integer" 267 (252645135 : Int32) ∈ GW := gwt3 68 rfl (by decide +kernel)
theorem mw_624 : Cond.methodLink "MountPeersLaw" 62 yX11_mounts ∈ GW := gwt3 69 rfl (by decide +kernel)
theorem mw_625 : Cond.instanceMethod yX11_mounts ∈ GW := gwt3 70 rfl (by decide +kernel)
theorem mw_626 : Cond.selects RX11 yX11_mounts yX11_mounts ∈ GW := gwt3 71 rfl (by decide +kernel)
theorem mw_627 : Cond.code yX11_mounts prog_1_method_11_code 3 (some .int) ∈ GW := gwt3 72 rfl (by decide +kernel)
theorem mw_628 : Cond.methodLink RX11 194 yX10_take ∈ GW := gwt3 73 rfl (by decide +kernel)
theorem mw_629 : Cond.instanceMethod yX10_take ∈ GW := gwt3 74 rfl (by decide +kernel)
theorem mw_630 : Cond.selects RX10 yX10_take yX10_take ∈ GW := gwt3 75 rfl (by decide +kernel)
theorem mw_631 : Cond.code yX10_take prog_12_method_2_code 3 none ∈ GW := gwt3 76 rfl (by decide +kernel)
theorem mw_632 : Cond.methodLink RX11 196 yX0_mountNew ∈ GW := gwt3 77 rfl (by decide +kernel)
theorem mw_633 : Cond.instanceMethod yX0_mountNew ∈ GW := gwt3 78 rfl (by decide +kernel)
theorem mw_634 : Cond.selects RX0 yX0_mountNew yX0_mountNew ∈ GW := gwt3 79 rfl (by decide +kernel)
theorem mw_635 : Cond.code yX0_mountNew prog_2_method_3_code 4 (some .int) ∈ GW := gwt3 80 rfl (by decide +kernel)
theorem mw_636 : Cond.methodLink RX0 51 yX0_parentsBy ∈ GW := gwt3 81 rfl (by decide +kernel)
theorem mw_637 : Cond.instanceMethod yX0_parentsBy ∈ GW := gwt3 82 rfl (by decide +kernel)
theorem mw_638 : Cond.selects RX0 yX0_parentsBy yX0_parentsBy ∈ GW := gwt3 83 rfl (by decide +kernel)
theorem mw_639 : Cond.code yX0_parentsBy prog_2_method_2_code 6 (some .int) ∈ GW := gwt3 84 rfl (by decide +kernel)
theorem mw_640 : Cond.methodLink RX0 23 yX10_hasPlace ∈ GW := gwt3 85 rfl (by decide +kernel)
theorem mw_641 : Cond.instanceMethod yX10_hasPlace ∈ GW := gwt3 86 rfl (by decide +kernel)
theorem mw_642 : Cond.selects RX10 yX10_hasPlace yX10_hasPlace ∈ GW := gwt3 87 rfl (by decide +kernel)
theorem mw_643 : Cond.code yX10_hasPlace prog_12_method_4_code 3 (some .boolean) ∈ GW := gwt3 88 rfl (by decide +kernel)
theorem mw_644 : Cond.methodLink RX10 34 yX10_has ∈ GW := gwt3 89 rfl (by decide +kernel)
theorem mw_645 : Cond.methodLink RX0 29 yX10_takenAt ∈ GW := gwt3 90 rfl (by decide +kernel)
theorem mw_646 : Cond.instanceMethod yX10_takenAt ∈ GW := gwt3 91 rfl (by decide +kernel)
theorem mw_647 : Cond.selects RX10 yX10_takenAt yX10_takenAt ∈ GW := gwt3 92 rfl (by decide +kernel)
theorem mw_648 : Cond.code yX10_takenAt prog_12_method_13_code 4 (some .int) ∈ GW := gwt3 93 rfl (by decide +kernel)
theorem mw_649 : Cond.methodLink RX0 33 yX10_spreadOf ∈ GW := gwt3 94 rfl (by decide +kernel)
theorem mw_650 : Cond.instanceMethod yX10_spreadOf ∈ GW := gwt3 95 rfl (by decide +kernel)
theorem mw_651 : Cond.selects RX10 yX10_spreadOf yX10_spreadOf ∈ GW := gwt3 96 rfl (by decide +kernel)
theorem mw_652 : Cond.code yX10_spreadOf prog_12_method_26_code 8 (some .int) ∈ GW := gwt3 97 rfl (by decide +kernel)
theorem mw_653 : Cond.methodLink RX10 58 yX10_leastOf ∈ GW := gwt3 98 rfl (by decide +kernel)
theorem mw_654 : Cond.instanceMethod yX10_leastOf ∈ GW := gwt3 99 rfl (by decide +kernel)
theorem mw_655 : Cond.selects RX10 yX10_leastOf yX10_leastOf ∈ GW := gwt3 100 rfl (by decide +kernel)
theorem mw_656 : Cond.code yX10_leastOf prog_12_method_27_code 3 (some .int) ∈ GW := gwt3 101 rfl (by decide +kernel)
theorem mw_657 : Cond.methodLink RX10 61 yX10_groupOf ∈ GW := gwt3 102 rfl (by decide +kernel)
theorem mw_658 : Cond.methodLink RX10 55 yX10_withGroup ∈ GW := gwt3 103 rfl (by decide +kernel)
theorem mw_659 : Cond.instanceMethod yX10_withGroup ∈ GW := gwt3 104 rfl (by decide +kernel)
theorem mw_660 : Cond.selects RX10 yX10_withGroup yX10_withGroup ∈ GW := gwt3 105 rfl (by decide +kernel)
theorem mw_661 : Cond.code yX10_withGroup prog_12_method_18_code 2 (some .int) ∈ GW := gwt3 106 rfl (by decide +kernel)
theorem mw_662 : Cond.methodLink RX10 51 yX10_having ∈ GW := gwt3 107 rfl (by decide +kernel)
theorem mw_663 : Cond.static yX10_having ∈ GW := gwt3 108 rfl (by decide +kernel)
theorem mw_664 : Cond.code yX10_having prog_12_method_22_code 4 (some .int) ∈ GW := gwt3 109 rfl (by decide +kernel)
theorem mw_665 : Cond.methodLink RX10 67 yX10_withMaster ∈ GW := gwt3 110 rfl (by decide +kernel)
theorem mw_666 : Cond.instanceMethod yX10_withMaster ∈ GW := gwt3 111 rfl (by decide +kernel)
theorem mw_667 : Cond.selects RX10 yX10_withMaster yX10_withMaster ∈ GW := gwt3 112 rfl (by decide +kernel)
theorem mw_668 : Cond.code yX10_withMaster prog_12_method_19_code 2 (some .int) ∈ GW := gwt3 113 rfl (by decide +kernel)
theorem mw_669 : Cond.methodLink RX0 36 yX8_letting ∈ GW := gwt3 114 rfl (by decide +kernel)
theorem mw_670 : Cond.instanceMethod yX8_letting ∈ GW := gwt3 115 rfl (by decide +kernel)
theorem mw_671 : Cond.selects RX8 yX8_letting yX8_letting ∈ GW := gwt3 116 rfl (by decide +kernel)
theorem mw_672 : Cond.code yX8_letting prog_10_method_14_code 5 (some .int) ∈ GW := gwt3 117 rfl (by decide +kernel)
theorem mw_673 : Cond.methodLink RX8 96 yX10_has ∈ GW := gwt3 118 rfl (by decide +kernel)
theorem mw_674 : Cond.methodLink RX8 99 yX8_lookAt ∈ GW := gwt3 119 rfl (by decide +kernel)
theorem mw_676 : Cond.instanceMethod yX8_lookAt ∈ GW := gwt3 121 rfl (by decide +kernel)
theorem mw_677 : Cond.code yX8_lookAt prog_10_method_15_code 4 none ∈ GW := gwt3 122 rfl (by decide +kernel)
theorem mw_678 : Cond.methodLink RX8 107 yX10_stepsTo ∈ GW := gwt3 123 rfl (by decide +kernel)
theorem mw_679 : Cond.instanceMethod yX10_stepsTo ∈ GW := gwt3 124 rfl (by decide +kernel)
theorem mw_680 : Cond.selects RX10 yX10_stepsTo yX10_stepsTo ∈ GW := gwt3 125 rfl (by decide +kernel)
theorem mw_681 : Cond.code yX10_stepsTo prog_12_method_15_code 5 (some .int) ∈ GW := gwt3 126 rfl (by decide +kernel)
theorem mw_682 : Cond.methodLink RX10 44 yX10_parentOf ∈ GW := gwt3 127 rfl (by decide +kernel)
theorem mw_683 : Cond.instanceMethod yX10_parentOf ∈ GW := gwt3 128 rfl (by decide +kernel)
theorem mw_684 : Cond.selects RX10 yX10_parentOf yX10_parentOf ∈ GW := gwt3 129 rfl (by decide +kernel)
theorem mw_685 : Cond.code yX10_parentOf prog_12_method_7_code 2 (some .int) ∈ GW := gwt3 130 rfl (by decide +kernel)
theorem mw_686 : Cond.methodLink RX8 110 yX10_childrenOf ∈ GW := gwt3 131 rfl (by decide +kernel)
theorem mw_687 : Cond.instanceMethod yX10_childrenOf ∈ GW := gwt3 132 rfl (by decide +kernel)
theorem mw_688 : Cond.selects RX10 yX10_childrenOf yX10_childrenOf ∈ GW := gwt3 133 rfl (by decide +kernel)
theorem mw_689 : Cond.code yX10_childrenOf prog_12_method_14_code 4 (some .int) ∈ GW := gwt3 134 rfl (by decide +kernel)
theorem mw_690 : Cond.methodLink RX8 113 yJ6_bitCount_0f7a4 ∈ GW := gwt3 135 rfl (by decide +kernel)
theorem mw_691 : Cond.methodLink RX8 118 yX10_groupOf ∈ GW := gwt3 136 rfl (by decide +kernel)
theorem mw_692 : Cond.methodLink RX8 121 yX10_withGroup ∈ GW := gwt3 137 rfl (by decide +kernel)
theorem mw_693 : Cond.methodLink RX8 127 yX10_kindOf ∈ GW := gwt3 138 rfl (by decide +kernel)
theorem mw_694 : Cond.instanceMethod yX10_kindOf ∈ GW := gwt3 139 rfl (by decide +kernel)
theorem mw_695 : Cond.selects RX10 yX10_kindOf yX10_kindOf ∈ GW := gwt3 140 rfl (by decide +kernel)
theorem mw_696 : Cond.code yX10_kindOf prog_12_method_11_code 2 (some .int) ∈ GW := gwt3 141 rfl (by decide +kernel)
theorem mw_697 : Cond.methodLink RX8 103 yX8_value ∈ GW := gwt3 142 rfl (by decide +kernel)
theorem mw_699 : Cond.instanceMethod yX8_value ∈ GW := gwt3 144 rfl (by decide +kernel)
theorem mw_700 : Cond.code yX8_value prog_10_method_16_code 4 (some .int) ∈ GW := gwt3 145 rfl (by decide +kernel)
theorem mw_701 : Cond.methodLink RX8 130 yX8_thing ∈ GW := gwt3 146 rfl (by decide +kernel)
theorem mw_703 : Cond.instanceMethod yX8_thing ∈ GW := gwt3 148 rfl (by decide +kernel)
theorem mw_704 : Cond.code yX8_thing prog_10_method_17_code 3 (some .int) ∈ GW := gwt3 149 rfl (by decide +kernel)
theorem mw_705 : Cond.methodLink RX8 133 yX8_joined ∈ GW := gwt3 150 rfl (by decide +kernel)
theorem mw_706 : Cond.static yX8_joined ∈ GW := gwt3 151 rfl (by decide +kernel)
theorem mw_707 : Cond.code yX8_joined prog_10_method_18_code 3 (some .int) ∈ GW := gwt3 152 rfl (by decide +kernel)
theorem mw_708 : Cond.methodLink RX0 42 yX10_size ∈ GW := gwt3 153 rfl (by decide +kernel)
theorem mw_709 : Cond.instanceMethod yX10_size ∈ GW := gwt3 154 rfl (by decide +kernel)
theorem mw_710 : Cond.selects RX10 yX10_size yX10_size ∈ GW := gwt3 155 rfl (by decide +kernel)
theorem mw_711 : Cond.code yX10_size prog_12_method_6_code 1 (some .int) ∈ GW := gwt3 156 rfl (by decide +kernel)
theorem mw_712 : Cond.methodLink RX10 38 yJ6_bitCount_0f7a4 ∈ GW := gwt3 157 rfl (by decide +kernel)
theorem mw_713 : Cond.methodLink RX0 46 yJ6_bitCount_0f7a4 ∈ GW := gwt3 158 rfl (by decide +kernel)
theorem mw_714 : Cond.methodLink RX0 55 yX0_bring ∈ GW := gwt3 159 rfl (by decide +kernel)
theorem mw_716 : Cond.instanceMethod yX0_bring ∈ GW := gwt3 161 rfl (by decide +kernel)
theorem mw_717 : Cond.code yX0_bring prog_2_method_5_code 11 (some .int) ∈ GW := gwt3 162 rfl (by decide +kernel)
theorem mw_718 : Cond.methodLink RX0 66 yX10_groupOf ∈ GW := gwt3 163 rfl (by decide +kernel)
theorem mw_719 : Cond.methodLink RX0 69 yX10_masterOf ∈ GW := gwt3 164 rfl (by decide +kernel)
theorem mw_720 : Cond.methodLink RX0 72 yX10_newGroup ∈ GW := gwt3 165 rfl (by decide +kernel)
theorem mw_721 : Cond.instanceMethod yX10_newGroup ∈ GW := gwt3 166 rfl (by decide +kernel)
theorem mw_722 : Cond.selects RX10 yX10_newGroup yX10_newGroup ∈ GW := gwt3 167 rfl (by decide +kernel)
theorem mw_723 : Cond.code yX10_newGroup prog_12_method_28_code 1 (some .int) ∈ GW := gwt3 168 rfl (by decide +kernel)
theorem mw_724 : Cond.methodLink RX0 75 yX0_nameHeirs ∈ GW := gwt3 169 rfl (by decide +kernel)
theorem mw_726 : Cond.instanceMethod yX0_nameHeirs ∈ GW := gwt3 171 rfl (by decide +kernel)
theorem mw_727 : Cond.code yX0_nameHeirs prog_2_method_6_code 7 none ∈ GW := gwt3 172 rfl (by decide +kernel)
theorem mw_728 : Cond.methodLink RX0 82 yX0_heirOf ∈ GW := gwt3 173 rfl (by decide +kernel)
theorem mw_730 : Cond.instanceMethod yX0_heirOf ∈ GW := gwt3 175 rfl (by decide +kernel)
theorem mw_731 : Cond.code yX0_heirOf prog_2_method_7_code 4 (some .int) ∈ GW := gwt3 176 rfl (by decide +kernel)
theorem mw_732 : Cond.methodLink RX0 90 yX10_withGroup ∈ GW := gwt3 177 rfl (by decide +kernel)
theorem mw_733 : Cond.methodLink RX0 93 yX10_leastOf ∈ GW := gwt3 178 rfl (by decide +kernel)
theorem mw_734 : Cond.methodLink RX0 79 yX10_put ∈ GW := gwt3 179 rfl (by decide +kernel)
theorem mw_735 : Cond.instanceMethod yX10_put ∈ GW := gwt3 180 rfl (by decide +kernel)
theorem mw_736 : Cond.selects RX10 yX10_put yX10_put ∈ GW := gwt3 181 rfl (by decide +kernel)
theorem mw_737 : Cond.code yX10_put prog_12_method_29_code 6 (some .int) ∈ GW := gwt3 182 rfl (by decide +kernel)
theorem mw_738 : Cond.methodLink RX11 199 yX11_toldWithCame ∈ GW := gwt3 183 rfl (by decide +kernel)
theorem mw_740 : Cond.instanceMethod yX11_toldWithCame ∈ GW := gwt3 185 rfl (by decide +kernel)
theorem mw_741 : Cond.code yX11_toldWithCame prog_1_method_18_code 3 (some .int) ∈ GW := gwt3 186 rfl (by decide +kernel)
theorem mw_742 : Cond.methodLink RX11 212 yX11_remembered ∈ GW := gwt3 187 rfl (by decide +kernel)
theorem mw_744 : Cond.instanceMethod yX11_remembered ∈ GW := gwt3 189 rfl (by decide +kernel)
theorem mw_745 : Cond.code yX11_remembered prog_1_method_17_code 2 (some .int) ∈ GW := gwt3 190 rfl (by decide +kernel)
theorem mw_746 : Cond.methodLink RX11 224 yX4_push ∈ GW := gwt3 191 rfl (by decide +kernel)
theorem mw_747 : Cond.instanceMethod yX4_push ∈ GW := gwt3 192 rfl (by decide +kernel)
theorem mw_748 : Cond.selects RX4 yX4_push yX4_push ∈ GW := gwt3 193 rfl (by decide +kernel)
theorem mw_749 : Cond.code yX4_push prog_6_method_2_code 2 none ∈ GW := gwt3 194 rfl (by decide +kernel)
theorem mw_750 : Cond.methodLink RX4 19 yX10_init ∈ GW := gwt3 195 rfl (by decide +kernel)
theorem mw_751 : Cond.methodLink RX4 20 yX10_take ∈ GW := gwt3 196 rfl (by decide +kernel)
theorem mw_752 : Cond.methodLink RX4 27 yJ9_min_7cf53 ∈ GW := gwt3 197 rfl (by decide +kernel)
theorem mw_753 : Cond.methodLink RX11 227 yX7_tellTwo ∈ GW := gwt3 198 rfl (by decide +kernel)
theorem mw_754 : Cond.instanceMethod yX7_tellTwo ∈ GW := gwt3 199 rfl (by decide +kernel)
theorem mw_755 : Cond.selects RX7 yX7_tellTwo yX7_tellTwo ∈ GW := gwt3 200 rfl (by decide +kernel)
theorem mw_756 : Cond.code yX7_tellTwo prog_9_method_6_code 5 none ∈ GW := gwt3 201 rfl (by decide +kernel)
theorem mw_757 : Cond.methodLink "MountPeersLaw" 66 yX11_binds ∈ GW := gwt3 202 rfl (by decide +kernel)
theorem mw_758 : Cond.instanceMethod yX11_binds ∈ GW := gwt3 203 rfl (by decide +kernel)
theorem mw_759 : Cond.selects RX11 yX11_binds yX11_binds ∈ GW := gwt3 204 rfl (by decide +kernel)
theorem mw_760 : Cond.code yX11_binds prog_1_method_12_code 4 (some .int) ∈ GW := gwt3 205 rfl (by decide +kernel)
theorem mw_761 : Cond.methodLink RX11 202 yX0_bindOne ∈ GW := gwt3 206 rfl (by decide +kernel)
theorem mw_762 : Cond.instanceMethod yX0_bindOne ∈ GW := gwt3 207 rfl (by decide +kernel)
theorem mw_763 : Cond.selects RX0 yX0_bindOne yX0_bindOne ∈ GW := gwt3 208 rfl (by decide +kernel)
theorem mw_764 : Cond.code yX0_bindOne prog_2_method_4_code 5 (some .int) ∈ GW := gwt3 209 rfl (by decide +kernel)
theorem mw_765 : Cond.methodLink RX0 59 yX10_has ∈ GW := gwt3 210 rfl (by decide +kernel)
theorem mw_766 : Cond.methodLink RX0 63 yX10_isUnbindable ∈ GW := gwt3 211 rfl (by decide +kernel)
theorem mw_767 : Cond.instanceMethod yX10_isUnbindable ∈ GW := gwt3 212 rfl (by decide +kernel)
theorem mw_768 : Cond.selects RX10 yX10_isUnbindable yX10_isUnbindable ∈ GW := gwt3 213 rfl (by decide +kernel)
theorem mw_769 : Cond.code yX10_isUnbindable prog_12_method_5_code 2 (some .boolean) ∈ GW := gwt3 214 rfl (by decide +kernel)
theorem mw_770 : Cond.methodLink "MountPeersLaw" 71 yX11_trees ∈ GW := gwt3 215 rfl (by decide +kernel)
theorem mw_771 : Cond.instanceMethod yX11_trees ∈ GW := gwt3 216 rfl (by decide +kernel)
theorem mw_772 : Cond.selects RX11 yX11_trees yX11_trees ∈ GW := gwt3 217 rfl (by decide +kernel)
theorem mw_773 : Cond.code yX11_trees prog_1_method_13_code 4 (some .int) ∈ GW := gwt3 218 rfl (by decide +kernel)
theorem mw_774 : Cond.methodLink RX11 206 yX0_bindTree ∈ GW := gwt3 219 rfl (by decide +kernel)
theorem mw_775 : Cond.instanceMethod yX0_bindTree ∈ GW := gwt3 220 rfl (by decide +kernel)
theorem mw_776 : Cond.selects RX0 yX0_bindTree yX0_bindTree ∈ GW := gwt3 221 rfl (by decide +kernel)
theorem mw_777 : Cond.code yX0_bindTree prog_2_method_8_code 5 (some .int) ∈ GW := gwt3 222 rfl (by decide +kernel)
theorem mw_778 : Cond.methodLink RX0 96 yX10_mountAt ∈ GW := gwt3 223 rfl (by decide +kernel)
theorem mw_779 : Cond.methodLink RX0 99 yX0_bindableTree ∈ GW := gwt3 224 rfl (by decide +kernel)
theorem mw_781 : Cond.instanceMethod yX0_bindableTree ∈ GW := gwt3 226 rfl (by decide +kernel)
theorem mw_782 : Cond.code yX0_bindableTree prog_2_method_9_code 7 (some .int) ∈ GW := gwt3 227 rfl (by decide +kernel)
theorem mw_783 : Cond.methodLink RX0 106 yX10_parentOf ∈ GW := gwt3 228 rfl (by decide +kernel)
theorem mw_784 : Cond.methodLink RX0 102 yX0_copyTree ∈ GW := gwt3 229 rfl (by decide +kernel)
theorem mw_786 : Cond.instanceMethod yX0_copyTree ∈ GW := gwt3 231 rfl (by decide +kernel)
theorem mw_787 : Cond.code yX0_copyTree prog_2_method_10_code 9 (some .int) ∈ GW := gwt3 232 rfl (by decide +kernel)
theorem mw_788 : Cond.methodLink "MountPeersLaw" 75 yX11_makes ∈ GW := gwt3 233 rfl (by decide +kernel)
theorem mw_789 : Cond.instanceMethod yX11_makes ∈ GW := gwt3 234 rfl (by decide +kernel)
theorem mw_790 : Cond.selects RX11 yX11_makes yX11_makes ∈ GW := gwt3 235 rfl (by decide +kernel)
theorem mw_791 : Cond.code yX11_makes prog_1_method_14_code 3 (some .int) ∈ GW := gwt3 236 rfl (by decide +kernel)
theorem mw_792 : Cond.methodLink RX11 209 yX0_makeKind ∈ GW := gwt3 237 rfl (by decide +kernel)
theorem mw_793 : Cond.instanceMethod yX0_makeKind ∈ GW := gwt3 238 rfl (by decide +kernel)
theorem mw_794 : Cond.selects RX0 yX0_makeKind yX0_makeKind ∈ GW := gwt3 239 rfl (by decide +kernel)
theorem mw_795 : Cond.code yX0_makeKind prog_2_method_11_code 4 (some .int) ∈ GW := gwt4 0 rfl (by decide +kernel)
theorem mw_796 : Cond.methodLink RX0 109 yX10_kindOf ∈ GW := gwt4 1 rfl (by decide +kernel)
theorem mw_797 : Cond.methodLink RX0 112 yX10_makePrivate ∈ GW := gwt4 2 rfl (by decide +kernel)
theorem mw_798 : Cond.instanceMethod yX10_makePrivate ∈ GW := gwt4 3 rfl (by decide +kernel)
theorem mw_799 : Cond.selects RX10 yX10_makePrivate yX10_makePrivate ∈ GW := gwt4 4 rfl (by decide +kernel)
theorem mw_800 : Cond.code yX10_makePrivate prog_12_method_33_code 2 none ∈ GW := gwt4 5 rfl (by decide +kernel)
theorem mw_801 : Cond.methodLink RX10 70 yX10_leaveGroup ∈ GW := gwt4 6 rfl (by decide +kernel)
theorem mw_802 : Cond.instanceMethod yX10_leaveGroup ∈ GW := gwt4 7 rfl (by decide +kernel)
theorem mw_803 : Cond.selects RX10 yX10_leaveGroup yX10_leaveGroup ∈ GW := gwt4 8 rfl (by decide +kernel)
theorem mw_804 : Cond.code yX10_leaveGroup prog_12_method_32_code 4 none ∈ GW := gwt4 9 rfl (by decide +kernel)
theorem mw_805 : Cond.methodLink RX0 116 yX10_makeShared ∈ GW := gwt4 10 rfl (by decide +kernel)
theorem mw_806 : Cond.instanceMethod yX10_makeShared ∈ GW := gwt4 11 rfl (by decide +kernel)
theorem mw_807 : Cond.selects RX10 yX10_makeShared yX10_makeShared ∈ GW := gwt4 12 rfl (by decide +kernel)
theorem mw_808 : Cond.code yX10_makeShared prog_12_method_35_code 2 none ∈ GW := gwt4 13 rfl (by decide +kernel)
theorem mw_809 : Cond.methodLink RX10 77 yX10_newGroup ∈ GW := gwt4 14 rfl (by decide +kernel)
theorem mw_810 : Cond.methodLink RX0 119 yX10_makeSlave ∈ GW := gwt4 15 rfl (by decide +kernel)
theorem mw_811 : Cond.instanceMethod yX10_makeSlave ∈ GW := gwt4 16 rfl (by decide +kernel)
theorem mw_812 : Cond.selects RX10 yX10_makeSlave yX10_makeSlave ∈ GW := gwt4 17 rfl (by decide +kernel)
theorem mw_813 : Cond.code yX10_makeSlave prog_12_method_36_code 2 none ∈ GW := gwt4 18 rfl (by decide +kernel)
theorem mw_814 : Cond.methodLink RX0 122 yX10_makeUnbindable ∈ GW := gwt4 19 rfl (by decide +kernel)
theorem mw_815 : Cond.instanceMethod yX10_makeUnbindable ∈ GW := gwt4 20 rfl (by decide +kernel)
theorem mw_816 : Cond.selects RX10 yX10_makeUnbindable yX10_makeUnbindable ∈ GW := gwt4 21 rfl (by decide +kernel)
theorem mw_817 : Cond.code yX10_makeUnbindable prog_12_method_34_code 2 none ∈ GW := gwt4 22 rfl (by decide +kernel)
theorem mw_818 : Cond.methodLink RX10 74 yX10_makePrivate ∈ GW := gwt4 23 rfl (by decide +kernel)
theorem mw_819 : Cond.methodLink "MountPeersLaw" 79 yX11_unmounts ∈ GW := gwt4 24 rfl (by decide +kernel)
theorem mw_820 : Cond.instanceMethod yX11_unmounts ∈ GW := gwt4 25 rfl (by decide +kernel)
theorem mw_821 : Cond.selects RX11 yX11_unmounts yX11_unmounts ∈ GW := gwt4 26 rfl (by decide +kernel)
theorem mw_822 : Cond.code yX11_unmounts prog_1_method_15_code 4 (some .int) ∈ GW := gwt4 27 rfl (by decide +kernel)
theorem mw_823 : Cond.methodLink RX11 215 yX0_unmount ∈ GW := gwt4 28 rfl (by decide +kernel)
theorem mw_824 : Cond.instanceMethod yX0_unmount ∈ GW := gwt4 29 rfl (by decide +kernel)
theorem mw_825 : Cond.selects RX0 yX0_unmount yX0_unmount ∈ GW := gwt4 30 rfl (by decide +kernel)
theorem mw_826 : Cond.code yX0_unmount prog_2_method_13_code 6 (some .int) ∈ GW := gwt4 31 rfl (by decide +kernel)
theorem mw_827 : Cond.methodLink RX0 128 yX0_goers ∈ GW := gwt4 32 rfl (by decide +kernel)
theorem mw_828 : Cond.instanceMethod yX0_goers ∈ GW := gwt4 33 rfl (by decide +kernel)
theorem mw_829 : Cond.selects RX0 yX0_goers yX0_goers ∈ GW := gwt4 34 rfl (by decide +kernel)
theorem mw_830 : Cond.code yX0_goers prog_2_method_12_code 8 (some .int) ∈ GW := gwt4 35 rfl (by decide +kernel)
theorem mw_831 : Cond.methodLink RX0 125 yX10_childrenOf ∈ GW := gwt4 36 rfl (by decide +kernel)
theorem mw_832 : Cond.methodLink RX0 131 yX10_remove ∈ GW := gwt4 37 rfl (by decide +kernel)
theorem mw_833 : Cond.instanceMethod yX10_remove ∈ GW := gwt4 38 rfl (by decide +kernel)
theorem mw_834 : Cond.selects RX10 yX10_remove yX10_remove ∈ GW := gwt4 39 rfl (by decide +kernel)
theorem mw_835 : Cond.code yX10_remove prog_12_method_30_code 2 none ∈ GW := gwt4 40 rfl (by decide +kernel)
theorem mw_836 : Cond.methodLink "MountPeersLaw" 83 yX11_moves ∈ GW := gwt4 41 rfl (by decide +kernel)
theorem mw_837 : Cond.instanceMethod yX11_moves ∈ GW := gwt4 42 rfl (by decide +kernel)
theorem mw_838 : Cond.selects RX11 yX11_moves yX11_moves ∈ GW := gwt4 43 rfl (by decide +kernel)
theorem mw_839 : Cond.code yX11_moves prog_1_method_16_code 4 (some .int) ∈ GW := gwt4 44 rfl (by decide +kernel)
theorem mw_840 : Cond.methodLink RX11 221 yX0_move ∈ GW := gwt4 45 rfl (by decide +kernel)
theorem mw_841 : Cond.instanceMethod yX0_move ∈ GW := gwt4 46 rfl (by decide +kernel)
theorem mw_842 : Cond.selects RX0 yX0_move yX0_move ∈ GW := gwt4 47 rfl (by decide +kernel)
theorem mw_843 : Cond.code yX0_move prog_2_method_14_code 6 (some .int) ∈ GW := gwt4 48 rfl (by decide +kernel)
theorem mw_844 : Cond.methodLink RX0 134 yX10_isIn ∈ GW := gwt4 49 rfl (by decide +kernel)
theorem mw_845 : Cond.instanceMethod yX10_isIn ∈ GW := gwt4 50 rfl (by decide +kernel)
theorem mw_846 : Cond.selects RX10 yX10_isIn yX10_isIn ∈ GW := gwt4 51 rfl (by decide +kernel)
theorem mw_847 : Cond.code yX10_isIn prog_12_method_16_code 5 (some .boolean) ∈ GW := gwt4 52 rfl (by decide +kernel)
theorem mw_848 : Cond.methodLink RX0 137 yX10_dirOf ∈ GW := gwt4 53 rfl (by decide +kernel)
theorem mw_849 : Cond.instanceMethod yX10_dirOf ∈ GW := gwt4 54 rfl (by decide +kernel)
theorem mw_850 : Cond.selects RX10 yX10_dirOf yX10_dirOf ∈ GW := gwt4 55 rfl (by decide +kernel)
theorem mw_851 : Cond.code yX10_dirOf prog_12_method_8_code 2 (some .int) ∈ GW := gwt4 56 rfl (by decide +kernel)
theorem mw_852 : Cond.methodLink RX0 140 yX10_carry ∈ GW := gwt4 57 rfl (by decide +kernel)
theorem mw_853 : Cond.instanceMethod yX10_carry ∈ GW := gwt4 58 rfl (by decide +kernel)
theorem mw_854 : Cond.selects RX10 yX10_carry yX10_carry ∈ GW := gwt4 59 rfl (by decide +kernel)
theorem mw_855 : Cond.code yX10_carry prog_12_method_31_code 4 none ∈ GW := gwt4 60 rfl (by decide +kernel)
theorem mw_856 : Cond.methodLink "MountPeersLaw" 87 yX11_day ∈ GW := gwt4 61 rfl (by decide +kernel)
theorem mw_857 : Cond.instanceMethod yX11_day ∈ GW := gwt4 62 rfl (by decide +kernel)
theorem mw_858 : Cond.selects RX11 yX11_day yX11_day ∈ GW := gwt4 63 rfl (by decide +kernel)
theorem mw_859 : Cond.code yX11_day prog_1_method_19_code 5 (some .int) ∈ GW := gwt4 64 rfl (by decide +kernel)
theorem mw_860 : Cond.methodLink RX11 231 yX2_read ∈ GW := gwt4 65 rfl (by decide +kernel)
theorem mw_861 : Cond.instanceMethod yX2_read ∈ GW := gwt4 66 rfl (by decide +kernel)
theorem mw_862 : Cond.selects RX2 yX2_read yX2_read ∈ GW := gwt4 67 rfl (by decide +kernel)
theorem mw_863 : Cond.code yX2_read prog_4_method_2_code 4 (some .int) ∈ GW := gwt4 68 rfl (by decide +kernel)
theorem mw_864 : Cond.methodLink RX2 29 yX9_signAt ∈ GW := gwt4 69 rfl (by decide +kernel)
theorem mw_865 : Cond.methodLink RX2 33 yX9_dirAt ∈ GW := gwt4 70 rfl (by decide +kernel)
theorem mw_866 : Cond.methodLink RX2 36 yX2_dueBehind ∈ GW := gwt4 71 rfl (by decide +kernel)
theorem mw_868 : Cond.instanceMethod yX2_dueBehind ∈ GW := gwt4 73 rfl (by decide +kernel)
theorem mw_869 : Cond.code yX2_dueBehind prog_4_method_3_code 4 (some .int) ∈ GW := gwt4 74 rfl (by decide +kernel)
theorem mw_870 : Cond.methodLink RX2 43 yX2_dueBehindAct ∈ GW := gwt4 75 rfl (by decide +kernel)
theorem mw_871 : Cond.static yX2_dueBehindAct ∈ GW := gwt4 76 rfl (by decide +kernel)
theorem mw_872 : Cond.code yX2_dueBehindAct prog_4_method_4_code 1 (some .int) ∈ GW := gwt4 77 rfl (by decide +kernel)
theorem mw_873 : Cond.methodLink RX2 46 yX2_dueInPath ∈ GW := gwt4 78 rfl (by decide +kernel)
theorem mw_875 : Cond.instanceMethod yX2_dueInPath ∈ GW := gwt4 80 rfl (by decide +kernel)
theorem mw_876 : Cond.code yX2_dueInPath prog_4_method_5_code 4 (some .int) ∈ GW := gwt4 81 rfl (by decide +kernel)
theorem mw_877 : Cond.methodLink RX11 232 yX2_begin ∈ GW := gwt4 82 rfl (by decide +kernel)
theorem mw_878 : Cond.instanceMethod yX2_begin ∈ GW := gwt4 83 rfl (by decide +kernel)
theorem mw_879 : Cond.selects RX2 yX2_begin yX2_begin ∈ GW := gwt4 84 rfl (by decide +kernel)
theorem mw_880 : Cond.code yX2_begin prog_4_method_6_code 1 none ∈ GW := gwt4 85 rfl (by decide +kernel)
theorem mw_881 : Cond.methodLink RX11 235 yX2_hasMore ∈ GW := gwt4 86 rfl (by decide +kernel)
theorem mw_882 : Cond.instanceMethod yX2_hasMore ∈ GW := gwt4 87 rfl (by decide +kernel)
theorem mw_883 : Cond.selects RX2 yX2_hasMore yX2_hasMore ∈ GW := gwt4 88 rfl (by decide +kernel)
theorem mw_884 : Cond.code yX2_hasMore prog_4_method_7_code 2 (some .boolean) ∈ GW := gwt4 89 rfl (by decide +kernel)
theorem mw_885 : Cond.methodLink RX11 239 yX2_doNext ∈ GW := gwt4 90 rfl (by decide +kernel)
theorem mw_886 : Cond.instanceMethod yX2_doNext ∈ GW := gwt4 91 rfl (by decide +kernel)
theorem mw_887 : Cond.selects RX2 yX2_doNext yX2_doNext ∈ GW := gwt4 92 rfl (by decide +kernel)
theorem mw_888 : Cond.code yX2_doNext prog_4_method_8_code 6 (some .int) ∈ GW := gwt4 93 rfl (by decide +kernel)
theorem mw_889 : Cond.methodLink RX2 54 yX2_walks ∈ GW := gwt4 94 rfl (by decide +kernel)
theorem mw_891 : Cond.instanceMethod yX2_walks ∈ GW := gwt4 96 rfl (by decide +kernel)
theorem mw_892 : Cond.code yX2_walks prog_4_method_9_code 3 (some .boolean) ∈ GW := gwt4 97 rfl (by decide +kernel)
theorem mw_893 : Cond.methodLink RX2 91 yX6_walk ∈ GW := gwt4 98 rfl (by decide +kernel)
theorem mw_894 : Cond.methodLink RX2 64 yX10_mountAt ∈ GW := gwt4 99 rfl (by decide +kernel)
theorem mw_895 : Cond.methodLink RX2 70 yX0_mountNew ∈ GW := gwt4 100 rfl (by decide +kernel)
theorem mw_896 : Cond.methodLink RX2 75 yX0_bindOne ∈ GW := gwt4 101 rfl (by decide +kernel)
theorem mw_897 : Cond.methodLink RX2 79 yX0_bindTree ∈ GW := gwt4 102 rfl (by decide +kernel)
theorem mw_898 : Cond.methodLink RX2 82 yX0_unmount ∈ GW := gwt4 103 rfl (by decide +kernel)
theorem mw_899 : Cond.methodLink RX2 85 yX0_move ∈ GW := gwt4 104 rfl (by decide +kernel)
theorem mw_900 : Cond.methodLink RX2 88 yX0_makeKind ∈ GW := gwt4 105 rfl (by decide +kernel)
theorem mw_901 : Cond.methodLink RX11 242 yX10_size ∈ GW := gwt4 106 rfl (by decide +kernel)
theorem mw_902 : Cond.methodLink "MountPeersLaw" 91 yX11_undo ∈ GW := gwt4 107 rfl (by decide +kernel)
theorem mw_903 : Cond.instanceMethod yX11_undo ∈ GW := gwt4 108 rfl (by decide +kernel)
theorem mw_904 : Cond.selects RX11 yX11_undo yX11_undo ∈ GW := gwt4 109 rfl (by decide +kernel)
theorem mw_905 : Cond.code yX11_undo prog_1_method_20_code 1 (some .int) ∈ GW := gwt4 110 rfl (by decide +kernel)
theorem mw_906 : Cond.methodLink RX11 245 yX4_pop ∈ GW := gwt4 111 rfl (by decide +kernel)
theorem mw_907 : Cond.instanceMethod yX4_pop ∈ GW := gwt4 112 rfl (by decide +kernel)
theorem mw_908 : Cond.selects RX4 yX4_pop yX4_pop ∈ GW := gwt4 113 rfl (by decide +kernel)
theorem mw_909 : Cond.code yX4_pop prog_6_method_3_code 3 (some .boolean) ∈ GW := gwt4 114 rfl (by decide +kernel)
theorem mw_910 : Cond.methodLink "MountPeersLaw" 95 yX11_spread ∈ GW := gwt4 115 rfl (by decide +kernel)
theorem mw_911 : Cond.instanceMethod yX11_spread ∈ GW := gwt4 116 rfl (by decide +kernel)
theorem mw_912 : Cond.selects RX11 yX11_spread yX11_spread ∈ GW := gwt4 117 rfl (by decide +kernel)
theorem mw_913 : Cond.code yX11_spread prog_1_method_21_code 2 (some .int) ∈ GW := gwt4 118 rfl (by decide +kernel)
theorem mw_914 : Cond.methodLink RX11 250 yX10_spreadOf ∈ GW := gwt4 119 rfl (by decide +kernel)
theorem mw_915 : Cond.methodLink RX11 253 yX11_toldWithSize ∈ GW := gwt4 120 rfl (by decide +kernel)
theorem mw_917 : Cond.instanceMethod yX11_toldWithSize ∈ GW := gwt4 122 rfl (by decide +kernel)
theorem mw_918 : Cond.code yX11_toldWithSize prog_1_method_26_code 2 (some .int) ∈ GW := gwt4 123 rfl (by decide +kernel)
theorem mw_919 : Cond.methodLink "MountPeersLaw" 99 yX11_peers ∈ GW := gwt4 124 rfl (by decide +kernel)
theorem mw_920 : Cond.instanceMethod yX11_peers ∈ GW := gwt4 125 rfl (by decide +kernel)
theorem mw_921 : Cond.selects RX11 yX11_peers yX11_peers ∈ GW := gwt4 126 rfl (by decide +kernel)
theorem mw_922 : Cond.code yX11_peers prog_1_method_22_code 3 (some .int) ∈ GW := gwt4 127 rfl (by decide +kernel)
theorem mw_923 : Cond.methodLink RX11 256 yX10_peersOf ∈ GW := gwt4 128 rfl (by decide +kernel)
theorem mw_924 : Cond.instanceMethod yX10_peersOf ∈ GW := gwt4 129 rfl (by decide +kernel)
theorem mw_925 : Cond.selects RX10 yX10_peersOf yX10_peersOf ∈ GW := gwt4 130 rfl (by decide +kernel)
theorem mw_926 : Cond.code yX10_peersOf prog_12_method_24_code 2 (some .int) ∈ GW := gwt4 131 rfl (by decide +kernel)
theorem mw_927 : Cond.methodLink RX11 259 yX10_withMaster ∈ GW := gwt4 132 rfl (by decide +kernel)
theorem mw_928 : Cond.methodLink "MountPeersLaw" 103 yX11_masters ∈ GW := gwt4 133 rfl (by decide +kernel)
theorem mw_929 : Cond.instanceMethod yX11_masters ∈ GW := gwt4 134 rfl (by decide +kernel)
theorem mw_930 : Cond.selects RX11 yX11_masters yX11_masters ∈ GW := gwt4 135 rfl (by decide +kernel)
theorem mw_931 : Cond.code yX11_masters prog_1_method_23_code 4 (some .int) ∈ GW := gwt4 136 rfl (by decide +kernel)
theorem mw_932 : Cond.methodLink RX11 262 yX7_clear ∈ GW := gwt4 137 rfl (by decide +kernel)
theorem mw_933 : Cond.methodLink RX11 263 yX10_leastMasterOf ∈ GW := gwt4 138 rfl (by decide +kernel)
theorem mw_934 : Cond.instanceMethod yX10_leastMasterOf ∈ GW := gwt4 139 rfl (by decide +kernel)
theorem mw_935 : Cond.selects RX10 yX10_leastMasterOf yX10_leastMasterOf ∈ GW := gwt4 140 rfl (by decide +kernel)
theorem mw_936 : Cond.code yX10_leastMasterOf prog_12_method_25_code 2 (some .int) ∈ GW := gwt4 141 rfl (by decide +kernel)
theorem mw_937 : Cond.methodLink RX10 64 yX10_masterOf ∈ GW := gwt4 142 rfl (by decide +kernel)
theorem mw_938 : Cond.methodLink RX11 266 yX7_add ∈ GW := gwt4 143 rfl (by decide +kernel)
theorem mw_939 : Cond.methodLink "MountPeersLaw" 107 yX11_groups ∈ GW := gwt4 144 rfl (by decide +kernel)
theorem mw_940 : Cond.instanceMethod yX11_groups ∈ GW := gwt4 145 rfl (by decide +kernel)
theorem mw_941 : Cond.selects RX11 yX11_groups yX11_groups ∈ GW := gwt4 146 rfl (by decide +kernel)
theorem mw_942 : Cond.code yX11_groups prog_1_method_24_code 4 (some .int) ∈ GW := gwt4 147 rfl (by decide +kernel)
theorem mw_943 : Cond.methodLink RX11 269 yX10_withGroup ∈ GW := gwt4 148 rfl (by decide +kernel)
theorem mw_944 : Cond.methodLink RX11 272 yX10_groupCount ∈ GW := gwt4 149 rfl (by decide +kernel)
theorem mw_945 : Cond.instanceMethod yX10_groupCount ∈ GW := gwt4 150 rfl (by decide +kernel)
theorem mw_946 : Cond.selects RX10 yX10_groupCount yX10_groupCount ∈ GW := gwt4 151 rfl (by decide +kernel)
theorem mw_947 : Cond.code yX10_groupCount prog_12_method_23_code 3 (some .int) ∈ GW := gwt4 152 rfl (by decide +kernel)
theorem mw_948 : Cond.methodLink "MountPeersLaw" 111 yX11_keepers ∈ GW := gwt4 153 rfl (by decide +kernel)
theorem mw_949 : Cond.instanceMethod yX11_keepers ∈ GW := gwt4 154 rfl (by decide +kernel)
theorem mw_950 : Cond.selects RX11 yX11_keepers yX11_keepers ∈ GW := gwt4 155 rfl (by decide +kernel)
theorem mw_951 : Cond.code yX11_keepers prog_1_method_25_code 6 (some .int) ∈ GW := gwt4 156 rfl (by decide +kernel)
theorem mw_952 : Cond.methodLink RX11 275 yX10_makePrivate ∈ GW := gwt4 157 rfl (by decide +kernel)
theorem mw_953 : Cond.methodLink "MountPeersLaw" 115 yX11_inside ∈ GW := gwt4 158 rfl (by decide +kernel)
theorem mw_954 : Cond.instanceMethod yX11_inside ∈ GW := gwt4 159 rfl (by decide +kernel)
theorem mw_955 : Cond.selects RX11 yX11_inside yX11_inside ∈ GW := gwt4 160 rfl (by decide +kernel)
theorem mw_956 : Cond.code yX11_inside prog_1_method_27_code 5 (some .int) ∈ GW := gwt4 161 rfl (by decide +kernel)
theorem mw_957 : Cond.methodLink RX11 279 yX10_allIn ∈ GW := gwt4 162 rfl (by decide +kernel)
theorem mw_958 : Cond.instanceMethod yX10_allIn ∈ GW := gwt4 163 rfl (by decide +kernel)
theorem mw_959 : Cond.selects RX10 yX10_allIn yX10_allIn ∈ GW := gwt4 164 rfl (by decide +kernel)
theorem mw_960 : Cond.code yX10_allIn prog_12_method_17_code 4 (some .int) ∈ GW := gwt4 165 rfl (by decide +kernel)
theorem mw_961 : Cond.methodLink RX10 47 yX10_isIn ∈ GW := gwt4 166 rfl (by decide +kernel)
theorem mw_962 : Cond.methodLink RX11 168 yX10_stepsTo ∈ GW := gwt4 167 rfl (by decide +kernel)
theorem mw_963 : Cond.methodLink RX11 282 yJ9_max_7cf53 ∈ GW := gwt4 168 rfl (by decide +kernel)
theorem mw_964 : Cond.methodLink "MountPeersLaw" 119 yX11_path ∈ GW := gwt4 169 rfl (by decide +kernel)
theorem mw_965 : Cond.instanceMethod yX11_path ∈ GW := gwt4 170 rfl (by decide +kernel)
theorem mw_966 : Cond.selects RX11 yX11_path yX11_path ∈ GW := gwt4 171 rfl (by decide +kernel)
theorem mw_967 : Cond.code yX11_path prog_1_method_28_code 4 (some .int) ∈ GW := gwt4 172 rfl (by decide +kernel)
theorem mw_968 : Cond.methodLink RX11 156 yX10_dirOf ∈ GW := gwt4 173 rfl (by decide +kernel)
theorem mw_969 : Cond.methodLink RX11 152 yX10_parentOf ∈ GW := gwt4 174 rfl (by decide +kernel)
theorem mw_970 : Cond.methodLink RX11 287 yX7_turn ∈ GW := gwt4 175 rfl (by decide +kernel)
theorem mw_971 : Cond.instanceMethod yX7_turn ∈ GW := gwt4 176 rfl (by decide +kernel)
theorem mw_972 : Cond.selects RX7 yX7_turn yX7_turn ∈ GW := gwt4 177 rfl (by decide +kernel)
theorem mw_973 : Cond.code yX7_turn prog_9_method_7_code 4 none ∈ GW := gwt4 178 rfl (by decide +kernel)
theorem mw_974 : Cond.methodLink "MountPeersLaw" 123 yX11_alike ∈ GW := gwt4 179 rfl (by decide +kernel)
theorem mw_975 : Cond.instanceMethod yX11_alike ∈ GW := gwt4 180 rfl (by decide +kernel)
theorem mw_976 : Cond.selects RX11 yX11_alike yX11_alike ∈ GW := gwt4 181 rfl (by decide +kernel)
theorem mw_977 : Cond.code yX11_alike prog_1_method_29_code 3 (some .int) ∈ GW := gwt4 182 rfl (by decide +kernel)
theorem mw_978 : Cond.methodLink RX11 290 yX11_differs ∈ GW := gwt4 183 rfl (by decide +kernel)
theorem mw_980 : Cond.instanceMethod yX11_differs ∈ GW := gwt4 185 rfl (by decide +kernel)
theorem mw_981 : Cond.code yX11_differs prog_1_method_30_code 7 (some .boolean) ∈ GW := gwt4 186 rfl (by decide +kernel)
theorem mw_982 : Cond.methodLink RX11 294 yX7_drop ∈ GW := gwt4 187 rfl (by decide +kernel)
theorem mw_983 : Cond.instanceMethod yX7_drop ∈ GW := gwt4 188 rfl (by decide +kernel)
theorem mw_984 : Cond.selects RX7 yX7_drop yX7_drop ∈ GW := gwt4 189 rfl (by decide +kernel)
theorem mw_985 : Cond.code yX7_drop prog_9_method_4_code 1 none ∈ GW := gwt4 190 rfl (by decide +kernel)
theorem mw_986 : Cond.methodLink "MountPeersLaw" 127 yX11_largest ∈ GW := gwt4 191 rfl (by decide +kernel)
theorem mw_987 : Cond.instanceMethod yX11_largest ∈ GW := gwt4 192 rfl (by decide +kernel)
theorem mw_988 : Cond.selects RX11 yX11_largest yX11_largest ∈ GW := gwt4 193 rfl (by decide +kernel)
theorem mw_989 : Cond.code yX11_largest prog_1_method_31_code 5 (some .int) ∈ GW := gwt4 194 rfl (by decide +kernel)
theorem mw_990 : Cond.methodLink "MountPeersLaw" 131 yX11_would ∈ GW := gwt4 195 rfl (by decide +kernel)
theorem mw_991 : Cond.instanceMethod yX11_would ∈ GW := gwt4 196 rfl (by decide +kernel)
theorem mw_992 : Cond.selects RX11 yX11_would yX11_would ∈ GW := gwt4 197 rfl (by decide +kernel)
theorem mw_993 : Cond.code yX11_would prog_1_method_32_code 5 (some .int) ∈ GW := gwt4 198 rfl (by decide +kernel)
theorem mw_994 : Cond.methodLink RX11 297 yX0_parentsBy ∈ GW := gwt4 199 rfl (by decide +kernel)
theorem mw_995 : Cond.methodLink "MountPeersLaw" 135 yX11_lost ∈ GW := gwt4 200 rfl (by decide +kernel)
theorem mw_996 : Cond.instanceMethod yX11_lost ∈ GW := gwt4 201 rfl (by decide +kernel)
theorem mw_997 : Cond.selects RX11 yX11_lost yX11_lost ∈ GW := gwt4 202 rfl (by decide +kernel)
theorem mw_998 : Cond.code yX11_lost prog_1_method_33_code 4 (some .int) ∈ GW := gwt4 203 rfl (by decide +kernel)
theorem mw_999 : Cond.methodLink RX11 301 yX0_goers ∈ GW := gwt4 204 rfl (by decide +kernel)
theorem mw_1000 : Cond.methodLink "MountPeersLaw" 139 yX11_widest ∈ GW := gwt4 205 rfl (by decide +kernel)
theorem mw_1001 : Cond.instanceMethod yX11_widest ∈ GW := gwt4 206 rfl (by decide +kernel)
theorem mw_1002 : Cond.selects RX11 yX11_widest yX11_widest ∈ GW := gwt4 207 rfl (by decide +kernel)
theorem mw_1003 : Cond.code yX11_widest prog_1_method_34_code 9 (some .int) ∈ GW := gwt4 208 rfl (by decide +kernel)
theorem mw_1004 : Cond.methodLink RX11 304 yX10_takenAt ∈ GW := gwt4 209 rfl (by decide +kernel)
theorem mw_1005 : Cond.methodLink RX11 307 yX8_letting ∈ GW := gwt4 210 rfl (by decide +kernel)
theorem mw_1006 : Cond.methodLink "MountPeersLaw" 143 yX11_heard ∈ GW := gwt4 211 rfl (by decide +kernel)
theorem mw_1007 : Cond.instanceMethod yX11_heard ∈ GW := gwt4 212 rfl (by decide +kernel)
theorem mw_1008 : Cond.selects RX11 yX11_heard yX11_heard ∈ GW := gwt4 213 rfl (by decide +kernel)
theorem mw_1009 : Cond.code yX11_heard prog_1_method_35_code 3 (some .int) ∈ GW := gwt4 214 rfl (by decide +kernel)
theorem mw_1010 : Cond.methodLink RX11 311 yX3_hear ∈ GW := gwt4 215 rfl (by decide +kernel)
theorem mw_1011 : Cond.instanceMethod yX3_hear ∈ GW := gwt4 216 rfl (by decide +kernel)
theorem mw_1012 : Cond.selects RX3 yX3_hear yX3_hear ∈ GW := gwt4 217 rfl (by decide +kernel)
theorem mw_1013 : Cond.code yX3_hear prog_5_method_2_code 3 (some .boolean) ∈ GW := gwt4 218 rfl (by decide +kernel)
theorem mw_1014 : Cond.fieldLink RX3 25 "MountPeers$Guess" "MOST_V" "[I" ∈ GW := gwt4 219 rfl (by decide +kernel)
theorem mw_1016 : Cond.methodLink "MountPeersLaw" 147 yX11_forget ∈ GW := gwt4 221 rfl (by decide +kernel)
theorem mw_1017 : Cond.instanceMethod yX11_forget ∈ GW := gwt4 222 rfl (by decide +kernel)
theorem mw_1018 : Cond.selects RX11 yX11_forget yX11_forget ∈ GW := gwt4 223 rfl (by decide +kernel)
theorem mw_1019 : Cond.code yX11_forget prog_1_method_36_code 2 (some .int) ∈ GW := gwt4 224 rfl (by decide +kernel)
theorem mw_1020 : Cond.methodLink "MountPeersLaw" 151 yX11_fits ∈ GW := gwt4 225 rfl (by decide +kernel)
theorem mw_1021 : Cond.instanceMethod yX11_fits ∈ GW := gwt4 226 rfl (by decide +kernel)
theorem mw_1022 : Cond.selects RX11 yX11_fits yX11_fits ∈ GW := gwt4 227 rfl (by decide +kernel)
theorem mw_1023 : Cond.code yX11_fits prog_1_method_37_code 1 (some .int) ∈ GW := gwt4 228 rfl (by decide +kernel)
theorem mw_1024 : Cond.methodLink RX11 315 yX3_fitting ∈ GW := gwt4 229 rfl (by decide +kernel)
theorem mw_1025 : Cond.instanceMethod yX3_fitting ∈ GW := gwt4 230 rfl (by decide +kernel)
theorem mw_1026 : Cond.selects RX3 yX3_fitting yX3_fitting ∈ GW := gwt4 231 rfl (by decide +kernel)
theorem mw_1027 : Cond.code yX3_fitting prog_5_method_3_code 3 (some .int) ∈ GW := gwt4 232 rfl (by decide +kernel)
theorem mw_1028 : Cond.methodLink RX3 37 yX3_measure ∈ GW := gwt4 233 rfl (by decide +kernel)
theorem mw_1030 : Cond.instanceMethod yX3_measure ∈ GW := gwt4 235 rfl (by decide +kernel)
theorem mw_1031 : Cond.code yX3_measure prog_5_method_5_code 3 none ∈ GW := gwt4 236 rfl (by decide +kernel)
theorem mw_1032 : Cond.methodLink RX3 63 yX10_has ∈ GW := gwt4 237 rfl (by decide +kernel)
theorem mw_1033 : Cond.methodLink RX3 67 yX3_measureOf ∈ GW := gwt4 238 rfl (by decide +kernel)
theorem mw_1035 : Cond.instanceMethod yX3_measureOf ∈ GW := gwt5 0 rfl (by decide +kernel)
theorem mw_1036 : Cond.code yX3_measureOf prog_5_method_6_code 3 (some .int) ∈ GW := gwt5 1 rfl (by decide +kernel)
theorem mw_1037 : Cond.methodLink RX3 70 yX10_kindOf ∈ GW := gwt5 2 rfl (by decide +kernel)
theorem mw_1038 : Cond.methodLink RX3 73 yX10_stepsTo ∈ GW := gwt5 3 rfl (by decide +kernel)
theorem mw_1039 : Cond.methodLink RX3 76 yX10_dirOf ∈ GW := gwt5 4 rfl (by decide +kernel)
theorem mw_1040 : Cond.methodLink RX3 79 yX10_childrenOf ∈ GW := gwt5 5 rfl (by decide +kernel)
theorem mw_1041 : Cond.methodLink RX3 49 yJ6_bitCount_0f7a4 ∈ GW := gwt5 6 rfl (by decide +kernel)
theorem mw_1042 : Cond.methodLink RX3 82 yX10_spreadOf ∈ GW := gwt5 7 rfl (by decide +kernel)
theorem mw_1043 : Cond.methodLink RX3 41 yX3_soOf ∈ GW := gwt5 8 rfl (by decide +kernel)
theorem mw_1045 : Cond.instanceMethod yX3_soOf ∈ GW := gwt5 10 rfl (by decide +kernel)
theorem mw_1046 : Cond.code yX3_soOf prog_5_method_7_code 6 (some .int) ∈ GW := gwt5 11 rfl (by decide +kernel)
theorem mw_1047 : Cond.methodLink "MountPeersLaw" 155 yX11_asks ∈ GW := gwt5 12 rfl (by decide +kernel)
theorem mw_1048 : Cond.instanceMethod yX11_asks ∈ GW := gwt5 13 rfl (by decide +kernel)
theorem mw_1049 : Cond.selects RX11 yX11_asks yX11_asks ∈ GW := gwt5 14 rfl (by decide +kernel)
theorem mw_1050 : Cond.code yX11_asks prog_1_method_38_code 2 (some .int) ∈ GW := gwt5 15 rfl (by decide +kernel)
theorem mw_1051 : Cond.methodLink RX11 318 yX3_bestQuestion ∈ GW := gwt5 16 rfl (by decide +kernel)
theorem mw_1052 : Cond.instanceMethod yX3_bestQuestion ∈ GW := gwt5 17 rfl (by decide +kernel)
theorem mw_1053 : Cond.selects RX3 yX3_bestQuestion yX3_bestQuestion ∈ GW := gwt5 18 rfl (by decide +kernel)
theorem mw_1054 : Cond.code yX3_bestQuestion prog_5_method_4_code 7 (some .int) ∈ GW := gwt5 19 rfl (by decide +kernel)
theorem mw_1055 : Cond.methodLink RX3 45 yX3_fitting ∈ GW := gwt5 20 rfl (by decide +kernel)
theorem mw_1056 : Cond.methodLink RX3 55 yJ9_max_7cf53 ∈ GW := gwt5 21 rfl (by decide +kernel)
theorem mw_1057 : Cond.methodLink "MountPeersLaw" 159 yX11_saw ∈ GW := gwt5 22 rfl (by decide +kernel)
theorem mw_1058 : Cond.instanceMethod yX11_saw ∈ GW := gwt5 23 rfl (by decide +kernel)
theorem mw_1059 : Cond.selects RX11 yX11_saw yX11_saw ∈ GW := gwt5 24 rfl (by decide +kernel)
theorem mw_1060 : Cond.code yX11_saw prog_1_method_39_code 4 (some .int) ∈ GW := gwt5 25 rfl (by decide +kernel)
theorem mw_1061 : Cond.methodLink RX11 324 yX5_see ∈ GW := gwt5 26 rfl (by decide +kernel)
theorem mw_1062 : Cond.instanceMethod yX5_see ∈ GW := gwt5 27 rfl (by decide +kernel)
theorem mw_1063 : Cond.selects RX5 yX5_see yX5_see ∈ GW := gwt5 28 rfl (by decide +kernel)
theorem mw_1064 : Cond.code yX5_see prog_7_method_4_code 4 (some .boolean) ∈ GW := gwt5 29 rfl (by decide +kernel)
theorem mw_1065 : Cond.methodLink "MountPeersLaw" 163 yX11_denies ∈ GW := gwt5 30 rfl (by decide +kernel)
theorem mw_1066 : Cond.instanceMethod yX11_denies ∈ GW := gwt5 31 rfl (by decide +kernel)
theorem mw_1067 : Cond.selects RX11 yX11_denies yX11_denies ∈ GW := gwt5 32 rfl (by decide +kernel)
theorem mw_1068 : Cond.code yX11_denies prog_1_method_40_code 2 (some .int) ∈ GW := gwt5 33 rfl (by decide +kernel)
theorem mw_1069 : Cond.methodLink "MountPeersLaw" 167 yX11_laws ∈ GW := gwt5 34 rfl (by decide +kernel)
theorem mw_1070 : Cond.instanceMethod yX11_laws ∈ GW := gwt5 35 rfl (by decide +kernel)
theorem mw_1071 : Cond.selects RX11 yX11_laws yX11_laws ∈ GW := gwt5 36 rfl (by decide +kernel)
theorem mw_1072 : Cond.code yX11_laws prog_1_method_41_code 4 (some .int) ∈ GW := gwt5 37 rfl (by decide +kernel)
theorem mw_1073 : Cond.methodLink RX11 328 yX5_fitting ∈ GW := gwt5 38 rfl (by decide +kernel)
theorem mw_1074 : Cond.instanceMethod yX5_fitting ∈ GW := gwt5 39 rfl (by decide +kernel)
theorem mw_1075 : Cond.selects RX5 yX5_fitting yX5_fitting ∈ GW := gwt5 40 rfl (by decide +kernel)
theorem mw_1076 : Cond.code yX5_fitting prog_7_method_5_code 8 (some .long) ∈ GW := gwt5 41 rfl (by decide +kernel)
theorem mw_1077 : Cond.constantLong RX5 25 (34359738367 : Int64) ∈ GW := gwt5 42 rfl (by decide +kernel)
theorem mw_1078 : Cond.methodLink RX5 27 yX5_bringing ∈ GW := gwt5 43 rfl (by decide +kernel)
theorem mw_1079 : Cond.static yX5_bringing ∈ GW := gwt5 44 rfl (by decide +kernel)
theorem mw_1080 : Cond.code yX5_bringing prog_7_method_6_code 5 (some .long) ∈ GW := gwt5 45 rfl (by decide +kernel)
theorem mw_1081 : Cond.methodLink RX5 33 yX5_farthest ∈ GW := gwt5 46 rfl (by decide +kernel)
theorem mw_1082 : Cond.static yX5_farthest ∈ GW := gwt5 47 rfl (by decide +kernel)
theorem mw_1083 : Cond.code yX5_farthest prog_7_method_2_code 1 (some .int) ∈ GW := gwt5 48 rfl (by decide +kernel)
theorem mw_1084 : Cond.methodLink RX5 37 yX5_fewest ∈ GW := gwt5 49 rfl (by decide +kernel)
theorem mw_1085 : Cond.static yX5_fewest ∈ GW := gwt5 50 rfl (by decide +kernel)
theorem mw_1086 : Cond.code yX5_fewest prog_7_method_3_code 1 (some .int) ∈ GW := gwt5 51 rfl (by decide +kernel)
theorem mw_1087 : Cond.constantLong RX5 31 (-1 : Int64) ∈ GW := gwt5 52 rfl (by decide +kernel)
theorem mw_1088 : Cond.methodLink RX11 331 yX5_farthest ∈ GW := gwt5 53 rfl (by decide +kernel)
theorem mw_1089 : Cond.methodLink RX11 334 yX5_fewest ∈ GW := gwt5 54 rfl (by decide +kernel)
theorem mw_1090 : Cond.methodLink RX11 337 yJ13_bitCount_95d88 ∈ GW := gwt5 55 rfl (by decide +kernel)
theorem mw_1091 : Cond.static yJ13_bitCount_95d88 ∈ GW := gwt5 56 rfl (by decide +kernel)
theorem mw_1092 : Cond.code yJ13_bitCount_95d88 prog_21_method_50_code 2 (some .int) ∈ GW := gwt5 57 rfl (by decide +kernel)
theorem mw_1093 : Cond.constantLong "java/lang/Long" 314 (6148914691236517205 : Int64) ∈ GW := gwt5 58 rfl (by decide +kernel)
theorem mw_1094 : Cond.constantLong "java/lang/Long" 316 (3689348814741910323 : Int64) ∈ GW := gwt5 59 rfl (by decide +kernel)
theorem mw_1095 : Cond.constantLong "java/lang/Long" 318 (1085102592571150095 : Int64) ∈ GW := gwt5 60 rfl (by decide +kernel)
theorem mw_1096 : Cond.methodLink "MountPeersLaw" 171 yX11_looks ∈ GW := gwt5 61 rfl (by decide +kernel)
theorem mw_1097 : Cond.instanceMethod yX11_looks ∈ GW := gwt5 62 rfl (by decide +kernel)
theorem mw_1098 : Cond.selects RX11 yX11_looks yX11_looks ∈ GW := gwt5 63 rfl (by decide +kernel)
theorem mw_1099 : Cond.code yX11_looks prog_1_method_42_code 2 (some .int) ∈ GW := gwt5 64 rfl (by decide +kernel)
theorem mw_1100 : Cond.methodLink RX11 342 yX5_bestLook ∈ GW := gwt5 65 rfl (by decide +kernel)
theorem mw_1101 : Cond.instanceMethod yX5_bestLook ∈ GW := gwt5 66 rfl (by decide +kernel)
theorem mw_1102 : Cond.selects RX5 yX5_bestLook yX5_bestLook ∈ GW := gwt5 67 rfl (by decide +kernel)
theorem mw_1103 : Cond.code yX5_bestLook prog_7_method_7_code 8 (some .int) ∈ GW := gwt5 68 rfl (by decide +kernel)
theorem mw_1104 : Cond.methodLink RX5 40 yX5_fitting ∈ GW := gwt5 69 rfl (by decide +kernel)
theorem mw_1105 : Cond.methodLink RX5 44 yJ13_bitCount_95d88 ∈ GW := gwt5 70 rfl (by decide +kernel)
theorem mw_1106 : Cond.methodLink RX5 50 yJ9_max_7cf53 ∈ GW := gwt5 71 rfl (by decide +kernel)
theorem mw_1107 : Cond.methodLink "MountPeersLaw" 175 yX11_odds ∈ GW := gwt5 72 rfl (by decide +kernel)
theorem mw_1108 : Cond.instanceMethod yX11_odds ∈ GW := gwt5 73 rfl (by decide +kernel)
theorem mw_1109 : Cond.selects RX11 yX11_odds yX11_odds ∈ GW := gwt5 74 rfl (by decide +kernel)
theorem mw_1110 : Cond.code yX11_odds prog_1_method_43_code 5 (some .int) ∈ GW := gwt5 75 rfl (by decide +kernel)
theorem mw_1111 : Cond.methodLink RX11 346 yX1_reckon ∈ GW := gwt5 76 rfl (by decide +kernel)
theorem mw_1112 : Cond.instanceMethod yX1_reckon ∈ GW := gwt5 77 rfl (by decide +kernel)
theorem mw_1113 : Cond.selects RX1 yX1_reckon yX1_reckon ∈ GW := gwt5 78 rfl (by decide +kernel)
theorem mw_1114 : Cond.code yX1_reckon prog_3_method_2_code 6 none ∈ GW := gwt5 79 rfl (by decide +kernel)
theorem mw_1115 : Cond.methodLink RX1 13 yX1_countCases ∈ GW := gwt5 80 rfl (by decide +kernel)
theorem mw_1117 : Cond.instanceMethod yX1_countCases ∈ GW := gwt5 82 rfl (by decide +kernel)
theorem mw_1118 : Cond.code yX1_countCases prog_3_method_3_code 5 none ∈ GW := gwt5 83 rfl (by decide +kernel)
theorem mw_1119 : Cond.constantLong RX1 34 (10 : Int64) ∈ GW := gwt5 84 rfl (by decide +kernel)
theorem mw_1120 : Cond.methodLink RX1 21 yJ9_max_7cf53 ∈ GW := gwt5 85 rfl (by decide +kernel)
theorem mw_1121 : Cond.methodLink RX1 30 yX1_commonDivisor ∈ GW := gwt5 86 rfl (by decide +kernel)
theorem mw_1122 : Cond.static yX1_commonDivisor ∈ GW := gwt5 87 rfl (by decide +kernel)
theorem mw_1123 : Cond.code yX1_commonDivisor prog_3_method_4_code 11 (some .long) ∈ GW := gwt5 88 rfl (by decide +kernel)
theorem mw_1124 : Cond.methodLink "MountPeersLaw" 179 yX11_hacks ∈ GW := gwt5 89 rfl (by decide +kernel)
theorem mw_1125 : Cond.instanceMethod yX11_hacks ∈ GW := gwt5 90 rfl (by decide +kernel)
theorem mw_1126 : Cond.selects RX11 yX11_hacks yX11_hacks ∈ GW := gwt5 91 rfl (by decide +kernel)
theorem mw_1127 : Cond.code yX11_hacks prog_1_method_44_code 4 (some .int) ∈ GW := gwt5 92 rfl (by decide +kernel)
theorem mw_1128 : Cond.methodLink RX11 357 yX11_nimber ∈ GW := gwt5 93 rfl (by decide +kernel)
theorem mw_1129 : Cond.static yX11_nimber ∈ GW := gwt5 94 rfl (by decide +kernel)
theorem mw_1130 : Cond.code yX11_nimber prog_1_method_45_code 7 (some .int) ∈ GW := gwt5 95 rfl (by decide +kernel)
theorem mw_1131 : Cond.methodLink "MountPeersLaw" 183 yX11_rests ∈ GW := gwt5 96 rfl (by decide +kernel)
theorem mw_1132 : Cond.instanceMethod yX11_rests ∈ GW := gwt5 97 rfl (by decide +kernel)
theorem mw_1133 : Cond.selects RX11 yX11_rests yX11_rests ∈ GW := gwt5 98 rfl (by decide +kernel)
theorem mw_1134 : Cond.code yX11_rests prog_1_method_46_code 5 (some .int) ∈ GW := gwt5 99 rfl (by decide +kernel)
theorem mw_1135 : Cond.methodLink RX11 361 yX11_isBest ∈ GW := gwt5 100 rfl (by decide +kernel)
theorem mw_1136 : Cond.static yX11_isBest ∈ GW := gwt5 101 rfl (by decide +kernel)
theorem mw_1137 : Cond.code yX11_isBest prog_1_method_47_code 4 (some .boolean) ∈ GW := gwt5 102 rfl (by decide +kernel)
theorem mw_1138 : Cond.methodLink RX11 364 yX11_gain ∈ GW := gwt5 103 rfl (by decide +kernel)
theorem mw_1139 : Cond.static yX11_gain ∈ GW := gwt5 104 rfl (by decide +kernel)
theorem mw_1140 : Cond.code yX11_gain prog_1_method_48_code 3 (some .int) ∈ GW := gwt5 105 rfl (by decide +kernel)
theorem mw_1141 : Cond.methodLink "MountPeersLaw" 187 yX11_law ∈ GW := gwt5 106 rfl (by decide +kernel)
theorem mw_1142 : Cond.instanceMethod yX11_law ∈ GW := gwt5 107 rfl (by decide +kernel)
theorem mw_1143 : Cond.selects RX11 yX11_law yX11_law ∈ GW := gwt5 108 rfl (by decide +kernel)
theorem mw_1144 : Cond.code yX11_law prog_1_method_49_code 6 (some .int) ∈ GW := gwt5 109 rfl (by decide +kernel)
theorem mw_1145 : Cond.methodLink RX11 173 yX10_hasPlace ∈ GW := gwt5 110 rfl (by decide +kernel)
theorem mw_1146 : Cond.methodLink RX11 367 yX11_broughtBy ∈ GW := gwt5 111 rfl (by decide +kernel)
theorem mw_1148 : Cond.instanceMethod yX11_broughtBy ∈ GW := gwt5 113 rfl (by decide +kernel)
theorem mw_1149 : Cond.code yX11_broughtBy prog_1_method_50_code 5 (some .int) ∈ GW := gwt5 114 rfl (by decide +kernel)
theorem mw_1150 : Cond.methodLink "MountPeersLaw" 191 yX11_years ∈ GW := gwt5 115 rfl (by decide +kernel)
theorem mw_1151 : Cond.instanceMethod yX11_years ∈ GW := gwt5 116 rfl (by decide +kernel)
theorem mw_1152 : Cond.selects RX11 yX11_years yX11_years ∈ GW := gwt5 117 rfl (by decide +kernel)
theorem mw_1153 : Cond.code yX11_years prog_1_method_51_code 9 (some .int) ∈ GW := gwt5 118 rfl (by decide +kernel)
theorem mw_1154 : Cond.methodLink RX11 373 yX11_draw ∈ GW := gwt5 119 rfl (by decide +kernel)
theorem mw_1156 : Cond.instanceMethod yX11_draw ∈ GW := gwt5 121 rfl (by decide +kernel)
theorem mw_1157 : Cond.code yX11_draw prog_1_method_52_code 2 (some .int) ∈ GW := gwt5 122 rfl (by decide +kernel)
theorem mw_1158 : Cond.constant RX11 388 (1103515245 : Int32) ∈ GW := gwt5 123 rfl (by decide +kernel)
theorem mw_1159 : Cond.methodLink RX11 376 yX11_mounts ∈ GW := gwt5 124 rfl (by decide +kernel)
theorem mw_1160 : Cond.methodLink RX11 379 yX11_makes ∈ GW := gwt5 125 rfl (by decide +kernel)
theorem mw_1161 : Cond.methodLink RX11 382 yX11_binds ∈ GW := gwt5 126 rfl (by decide +kernel)
theorem mw_1162 : Cond.methodLink RX11 385 yX11_unmounts ∈ GW := gwt5 127 rfl (by decide +kernel)
theorem mw_1163 : Cond.methodLink "MountPeersLaw" 195 yX11_keep ∈ GW := gwt5 128 rfl (by decide +kernel)
theorem mw_1164 : Cond.instanceMethod yX11_keep ∈ GW := gwt5 129 rfl (by decide +kernel)
theorem mw_1165 : Cond.selects RX11 yX11_keep yX11_keep ∈ GW := gwt5 130 rfl (by decide +kernel)
theorem mw_1166 : Cond.code yX11_keep prog_1_method_53_code 2 (some .boolean) ∈ GW := gwt5 131 rfl (by decide +kernel)
theorem mw_1167 : Cond.methodLink "MountPeersLaw" 199 yX11_again ∈ GW := gwt5 132 rfl (by decide +kernel)
theorem mw_1168 : Cond.instanceMethod yX11_again ∈ GW := gwt5 133 rfl (by decide +kernel)
theorem mw_1169 : Cond.selects RX11 yX11_again yX11_again ∈ GW := gwt5 134 rfl (by decide +kernel)
theorem mw_1170 : Cond.code yX11_again prog_1_method_54_code 2 (some .boolean) ∈ GW := gwt5 135 rfl (by decide +kernel)
theorem mw_1171 : Cond.methodLink "MountPeersLaw" 203 yX11_count ∈ GW := gwt5 136 rfl (by decide +kernel)
theorem mw_1172 : Cond.instanceMethod yX11_count ∈ GW := gwt5 137 rfl (by decide +kernel)
theorem mw_1173 : Cond.selects RX11 yX11_count yX11_count ∈ GW := gwt5 138 rfl (by decide +kernel)
theorem mw_1174 : Cond.code yX11_count prog_1_method_55_code 2 (some .int) ∈ GW := gwt5 139 rfl (by decide +kernel)
theorem mw_1175 : Cond.methodLink RX11 389 yX10_withAnyGroup ∈ GW := gwt5 140 rfl (by decide +kernel)
theorem mw_1176 : Cond.instanceMethod yX10_withAnyGroup ∈ GW := gwt5 141 rfl (by decide +kernel)
theorem mw_1177 : Cond.selects RX10 yX10_withAnyGroup yX10_withAnyGroup ∈ GW := gwt5 142 rfl (by decide +kernel)
theorem mw_1178 : Cond.code yX10_withAnyGroup prog_12_method_20_code 1 (some .int) ∈ GW := gwt5 143 rfl (by decide +kernel)
theorem mw_1179 : Cond.methodLink RX11 392 yX10_withAnyMaster ∈ GW := gwt5 144 rfl (by decide +kernel)
theorem mw_1180 : Cond.instanceMethod yX10_withAnyMaster ∈ GW := gwt5 145 rfl (by decide +kernel)
theorem mw_1181 : Cond.selects RX10 yX10_withAnyMaster yX10_withAnyMaster ∈ GW := gwt5 146 rfl (by decide +kernel)
theorem mw_1182 : Cond.code yX10_withAnyMaster prog_12_method_21_code 1 (some .int) ∈ GW := gwt5 147 rfl (by decide +kernel)
theorem mw_1183 : Cond.methodLink "MountPeersLaw" 45 yL_mount ∈ GW := gwt5 148 rfl (by decide +kernel)
theorem mw_1184 : Cond.static yL_mount ∈ GW := gwt5 149 rfl (by decide +kernel)
theorem mw_1186 : Cond.classLink "MountPeersLaw" 13 "java/util/NoSuchElementException" ∈ GW := gwt5 151 rfl (by decide +kernel)
theorem mw_1187 : Cond.methodLink "MountPeersLaw" 7 yX11_mount ∈ GW := gwt5 152 rfl (by decide +kernel)
theorem mw_1188 : Cond.instanceMethod yX11_mount ∈ GW := gwt5 153 rfl (by decide +kernel)
theorem mw_1189 : Cond.selects RX11 yX11_mount yX11_mount ∈ GW := gwt5 154 rfl (by decide +kernel)
theorem mw_1190 : Cond.code yX11_mount prog_1_method_6_code 3 (some .int) ∈ GW := gwt5 155 rfl (by decide +kernel)
theorem mw_1191 : Cond.classLink RX11 145 "java/util/NoSuchElementException" ∈ GW := gwt5 156 rfl (by decide +kernel)
theorem mw_1192 : Cond.instantiable "java/util/NoSuchElementException" 6 ∈ GW := gwt5 157 rfl (by decide +kernel)
theorem mw_1200 : Cond.selects "java/util/NoSuchElementException" ⟨"java/lang/Throwable", "fillInStackTrace", "(I)Ljava/lang/Throwable;"⟩ ⟨"java/lang/Throwable", "fillInStackTrace", "(I)Ljava/lang/Throwable;"⟩ ∈ GW := gwt5 165 rfl (by decide +kernel)
theorem mw_1201 : Cond.selects "java/util/NoSuchElementException" ⟨"java/lang/Throwable", "fillInStackTrace", "()Ljava/lang/Throwable;"⟩ ⟨"java/lang/Throwable", "fillInStackTrace", "()Ljava/lang/Throwable;"⟩ ∈ GW := gwt5 166 rfl (by decide +kernel)
theorem mw_1202 : Cond.lays "java/util/NoSuchElementException" "java/lang/Throwable" "cause" "Ljava/lang/Throwable;" ∈ GW := gwt5 167 rfl (by decide +kernel)
theorem mw_1203 : Cond.lays "java/lang/Throwable" "java/lang/Throwable" "cause" "Ljava/lang/Throwable;" ∈ GW := gwt5 168 rfl (by decide +kernel)
theorem mw_1204 : Cond.lays "java/util/NoSuchElementException" "java/lang/Throwable" "stackTrace" "[Ljava/lang/StackTraceElement;" ∈ GW := gwt5 169 rfl (by decide +kernel)
theorem mw_1205 : Cond.lays "java/lang/Throwable" "java/lang/Throwable" "stackTrace" "[Ljava/lang/StackTraceElement;" ∈ GW := gwt5 170 rfl (by decide +kernel)
theorem mw_1206 : Cond.lays "java/util/NoSuchElementException" "java/lang/Throwable" "suppressedExceptions" "Ljava/util/List;" ∈ GW := gwt5 171 rfl (by decide +kernel)
theorem mw_1207 : Cond.lays "java/lang/Throwable" "java/lang/Throwable" "suppressedExceptions" "Ljava/util/List;" ∈ GW := gwt5 172 rfl (by decide +kernel)
theorem mw_1208 : Cond.lays "java/util/NoSuchElementException" "java/lang/Throwable" "detailMessage" "Ljava/lang/String;" ∈ GW := gwt5 173 rfl (by decide +kernel)
theorem mw_1209 : Cond.lays "java/lang/Throwable" "java/lang/Throwable" "detailMessage" "Ljava/lang/String;" ∈ GW := gwt5 174 rfl (by decide +kernel)
theorem mw_1210 : Cond.lays "java/util/NoSuchElementException" "java/lang/Throwable" "backtrace" "Ljava/lang/Object;" ∈ GW := gwt5 175 rfl (by decide +kernel)
theorem mw_1211 : Cond.lays "java/lang/Throwable" "java/lang/Throwable" "backtrace" "Ljava/lang/Object;" ∈ GW := gwt5 176 rfl (by decide +kernel)
theorem mw_1212 : Cond.fieldLink "java/lang/Throwable" 198 "java/lang/Throwable" "backtrace" "Ljava/lang/Object;" ∈ GW := gwt5 177 rfl (by decide +kernel)
theorem mw_1214 : Cond.instanceMethod ⟨"java/lang/Throwable", "<init>", "()V"⟩ ∈ GW := gwt5 179 rfl (by decide +kernel)
theorem mw_1215 : Cond.code ⟨"java/lang/Throwable", "<init>", "()V"⟩ prog_27_method_1_code 1 none ∈ GW := gwt5 180 rfl (by decide +kernel)
theorem mw_1216 : Cond.methodLink "java/lang/Throwable" 1 objectInit ∈ GW := gwt5 181 rfl (by decide +kernel)
theorem mw_1217 : Cond.fieldLink "java/lang/Throwable" 13 "java/lang/Throwable" "UNASSIGNED_STACK" "[Ljava/lang/StackTraceElement;" ∈ GW := gwt5 182 rfl (by decide +kernel)
theorem mw_1219 : Cond.fieldLink "java/lang/Throwable" 20 "java/lang/Throwable" "SUPPRESSED_SENTINEL" "Ljava/util/List;" ∈ GW := gwt5 184 rfl (by decide +kernel)
theorem mw_1221 : Cond.methodLink "java/lang/Throwable" 27 ⟨"java/lang/Throwable", "fillInStackTrace", "()Ljava/lang/Throwable;"⟩ ∈ GW := gwt5 186 rfl (by decide +kernel)
theorem mw_1222 : Cond.instanceMethod ⟨"java/lang/Throwable", "fillInStackTrace", "()Ljava/lang/Throwable;"⟩ ∈ GW := gwt5 187 rfl (by decide +kernel)
theorem mw_1225 : Cond.methodLink "java/lang/Throwable" 202 ⟨"java/lang/Throwable", "fillInStackTrace", "(I)Ljava/lang/Throwable;"⟩ ∈ GW := gwt5 190 rfl (by decide +kernel)
theorem mw_1227 : Cond.instanceMethod ⟨"java/lang/Throwable", "fillInStackTrace", "(I)Ljava/lang/Throwable;"⟩ ∈ GW := gwt5 192 rfl (by decide +kernel)
theorem mw_1228 : Cond.instantiable "java/lang/Throwable" 6 ∈ GW := gwt5 193 rfl (by decide +kernel)
theorem mw_1231 : Cond.methodLink RX11 149 ⟨"java/util/NoSuchElementException", "<init>", "(Ljava/lang/String;)V"⟩ ∈ GW := gwt5 196 rfl (by decide +kernel)
theorem mw_1232 : Cond.instanceMethod ⟨"java/util/NoSuchElementException", "<init>", "(Ljava/lang/String;)V"⟩ ∈ GW := gwt5 197 rfl (by decide +kernel)
theorem mw_1233 : Cond.code ⟨"java/util/NoSuchElementException", "<init>", "(Ljava/lang/String;)V"⟩ prog_30_method_4_code 2 none ∈ GW := gwt5 198 rfl (by decide +kernel)
theorem mw_1234 : Cond.methodLink "java/util/NoSuchElementException" 13 ⟨"java/lang/RuntimeException", "<init>", "(Ljava/lang/String;)V"⟩ ∈ GW := gwt5 199 rfl (by decide +kernel)
theorem mw_1235 : Cond.instanceMethod ⟨"java/lang/RuntimeException", "<init>", "(Ljava/lang/String;)V"⟩ ∈ GW := gwt5 200 rfl (by decide +kernel)
theorem mw_1236 : Cond.code ⟨"java/lang/RuntimeException", "<init>", "(Ljava/lang/String;)V"⟩ prog_23_method_2_code 2 none ∈ GW := gwt5 201 rfl (by decide +kernel)
theorem mw_1237 : Cond.methodLink "java/lang/RuntimeException" 7 ⟨"java/lang/Exception", "<init>", "(Ljava/lang/String;)V"⟩ ∈ GW := gwt5 202 rfl (by decide +kernel)
theorem mw_1238 : Cond.instanceMethod ⟨"java/lang/Exception", "<init>", "(Ljava/lang/String;)V"⟩ ∈ GW := gwt5 203 rfl (by decide +kernel)
theorem mw_1239 : Cond.code ⟨"java/lang/Exception", "<init>", "(Ljava/lang/String;)V"⟩ prog_19_method_2_code 2 none ∈ GW := gwt5 204 rfl (by decide +kernel)
theorem mw_1240 : Cond.methodLink "java/lang/Exception" 7 ⟨"java/lang/Throwable", "<init>", "(Ljava/lang/String;)V"⟩ ∈ GW := gwt5 205 rfl (by decide +kernel)
theorem mw_1241 : Cond.instanceMethod ⟨"java/lang/Throwable", "<init>", "(Ljava/lang/String;)V"⟩ ∈ GW := gwt5 206 rfl (by decide +kernel)
theorem mw_1242 : Cond.code ⟨"java/lang/Throwable", "<init>", "(Ljava/lang/String;)V"⟩ prog_27_method_2_code 2 none ∈ GW := gwt5 207 rfl (by decide +kernel)
theorem mw_1244 : Cond.fieldLink "java/lang/Throwable" 31 "java/lang/Throwable" "detailMessage" "Ljava/lang/String;" ∈ GW := gwt5 209 rfl (by decide +kernel)
theorem mw_1245 : Cond.fieldLink "java/lang/Throwable" 7 "java/lang/Throwable" "cause" "Ljava/lang/Throwable;" ∈ GW := gwt5 210 rfl (by decide +kernel)
theorem mw_1246 : Cond.fieldLink "java/lang/Throwable" 17 "java/lang/Throwable" "stackTrace" "[Ljava/lang/StackTraceElement;" ∈ GW := gwt5 211 rfl (by decide +kernel)
theorem mw_1247 : Cond.fieldLink "java/lang/Throwable" 24 "java/lang/Throwable" "suppressedExceptions" "Ljava/util/List;" ∈ GW := gwt5 212 rfl (by decide +kernel)
theorem mw_1252 : Cond.lays "java/util/NoSuchElementException" "java/lang/Throwable" "depth" "I" ∈ GW := gwt5 217 rfl (by decide +kernel)
theorem mw_1256 : Cond.methodLink RX11 165 yX10_kindOf ∈ GW := gwt5 221 rfl (by decide +kernel)
theorem mw_1258 : Cond.methodLink "MountPeersLaw" 54 yL_at ∈ GW := gwt5 223 rfl (by decide +kernel)
theorem mw_1259 : Cond.static yL_at ∈ GW := gwt5 224 rfl (by decide +kernel)
theorem mw_1261 : Cond.methodLink "MountPeersLaw" 15 yX11_at ∈ GW := gwt5 226 rfl (by decide +kernel)
theorem mw_1262 : Cond.instanceMethod yX11_at ∈ GW := gwt5 227 rfl (by decide +kernel)
theorem mw_1263 : Cond.selects RX11 yX11_at yX11_at ∈ GW := gwt5 228 rfl (by decide +kernel)
theorem mw_1264 : Cond.code yX11_at prog_1_method_7_code 3 (some .int) ∈ GW := gwt5 229 rfl (by decide +kernel)
theorem mw_1266 : Cond.methodLink "MountPeersLaw" 207 yL_row ∈ GW := gwt5 231 rfl (by decide +kernel)
theorem mw_1267 : Cond.static yL_row ∈ GW := gwt5 232 rfl (by decide +kernel)
theorem mw_1269 : Cond.methodLink "MountPeersLaw" 18 yX11_row ∈ GW := gwt5 234 rfl (by decide +kernel)
theorem mw_1270 : Cond.instanceMethod yX11_row ∈ GW := gwt5 235 rfl (by decide +kernel)
theorem mw_1271 : Cond.selects RX11 yX11_row yX11_row ∈ GW := gwt5 236 rfl (by decide +kernel)
theorem mw_1272 : Cond.code yX11_row prog_1_method_56_code 2 (some .long) ∈ GW := gwt5 237 rfl (by decide +kernel)
theorem mw_1274 : Cond.methodLink RX11 402 yX7_numberAt ∈ GW := gwt5 239 rfl (by decide +kernel)
theorem mw_1275 : Cond.instanceMethod yX7_numberAt ∈ GW := gwt6 0 rfl (by decide +kernel)
theorem mw_1276 : Cond.selects RX7 yX7_numberAt yX7_numberAt ∈ GW := gwt6 1 rfl (by decide +kernel)
theorem mw_1277 : Cond.code yX7_numberAt prog_9_method_8_code 2 (some .long) ∈ GW := gwt6 2 rfl (by decide +kernel)
theorem mw_1278 : Cond.classLink "MountPeersLaw" 23 "MountPeersModel" ∈ GW := gwt6 3 rfl (by decide +kernel)
theorem mw_1279 : Cond.instantiable RX12 42 ∈ GW := gwt6 4 rfl (by decide +kernel)
theorem mw_1280 : Cond.methodLink "MountPeersLaw" 25 yX12_init ∈ GW := gwt6 5 rfl (by decide +kernel)
theorem mw_1281 : Cond.instanceMethod yX12_init ∈ GW := gwt6 6 rfl (by decide +kernel)
theorem mw_1282 : Cond.code yX12_init prog_14_method_1_code 2 none ∈ GW := gwt6 7 rfl (by decide +kernel)
theorem mw_1283 : Cond.methodLink RX12 3 objectInit ∈ GW := gwt6 8 rfl (by decide +kernel)
theorem mw_1284 : Cond.fieldLink RX12 9 "MountPeersModel" "now" "[I" ∈ GW := gwt6 9 rfl (by decide +kernel)
theorem mw_1285 : Cond.fieldLink RX12 13 "MountPeersModel" "text" "[B" ∈ GW := gwt6 10 rfl (by decide +kernel)
theorem mw_1286 : Cond.fieldLink RX12 105 "MountPeersModel" "typed" "I" ∈ GW := gwt6 11 rfl (by decide +kernel)
theorem mw_1287 : Cond.fieldLink RX12 17 "MountPeersModel" "row" "[J" ∈ GW := gwt6 12 rfl (by decide +kernel)
theorem mw_1288 : Cond.fieldLink RX12 83 "MountPeersModel" "rowMany" "I" ∈ GW := gwt6 13 rfl (by decide +kernel)
theorem mw_1289 : Cond.fieldLink RX12 79 "MountPeersModel" "thrown" "I" ∈ GW := gwt6 14 rfl (by decide +kernel)
theorem mw_1290 : Cond.fieldLink RX12 108 "MountPeersModel" "read" "[B" ∈ GW := gwt6 15 rfl (by decide +kernel)
theorem mw_1291 : Cond.fieldLink RX12 111 "MountPeersModel" "length" "I" ∈ GW := gwt6 16 rfl (by decide +kernel)
theorem mw_1292 : Cond.fieldLink RX12 114 "MountPeersModel" "top" "I" ∈ GW := gwt6 17 rfl (by decide +kernel)
theorem mw_1293 : Cond.fieldLink RX12 117 "MountPeersModel" "at" "I" ∈ GW := gwt6 18 rfl (by decide +kernel)
theorem mw_1294 : Cond.fieldLink RX12 120 "MountPeersModel" "wrong" "I" ∈ GW := gwt6 19 rfl (by decide +kernel)
theorem mw_1295 : Cond.fieldLink RX12 21 "MountPeersModel" "rule" "[B" ∈ GW := gwt6 20 rfl (by decide +kernel)
theorem mw_1296 : Cond.fieldLink RX12 24 "MountPeersModel" "otherRule" "[B" ∈ GW := gwt6 21 rfl (by decide +kernel)
theorem mw_1297 : Cond.fieldLink RX12 183 "MountPeersModel" "ruleSize" "I" ∈ GW := gwt6 22 rfl (by decide +kernel)
theorem mw_1298 : Cond.fieldLink RX12 170 "MountPeersModel" "isAsked" "Z" ∈ GW := gwt6 23 rfl (by decide +kernel)
theorem mw_1299 : Cond.fieldLink RX12 27 "MountPeersModel" "asked" "[I" ∈ GW := gwt6 24 rfl (by decide +kernel)
theorem mw_1300 : Cond.fieldLink RX12 30 "MountPeersModel" "letters" "[B" ∈ GW := gwt6 25 rfl (by decide +kernel)
theorem mw_1301 : Cond.fieldLink RX12 200 "MountPeersModel" "letterMany" "I" ∈ GW := gwt6 26 rfl (by decide +kernel)
theorem mw_1302 : Cond.fieldLink RX12 203 "MountPeersModel" "pathMount" "I" ∈ GW := gwt6 27 rfl (by decide +kernel)
theorem mw_1303 : Cond.fieldLink RX12 206 "MountPeersModel" "pathDir" "I" ∈ GW := gwt6 28 rfl (by decide +kernel)
theorem mw_1304 : Cond.fieldLink RX12 209 "MountPeersModel" "gone" "I" ∈ GW := gwt6 29 rfl (by decide +kernel)
theorem mw_1305 : Cond.fieldLink RX12 33 "MountPeersModel" "undos" "[I" ∈ GW := gwt6 30 rfl (by decide +kernel)
theorem mw_1306 : Cond.fieldLink RX12 239 "MountPeersModel" "undoMany" "I" ∈ GW := gwt6 31 rfl (by decide +kernel)
theorem mw_1307 : Cond.fieldLink RX12 36 "MountPeersModel" "aside" "[I" ∈ GW := gwt6 32 rfl (by decide +kernel)
theorem mw_1308 : Cond.fieldLink RX12 39 "MountPeersModel" "then" "[I" ∈ GW := gwt6 33 rfl (by decide +kernel)
theorem mw_1309 : Cond.fieldLink RX12 42 "MountPeersModel" "olds" "[I" ∈ GW := gwt6 34 rfl (by decide +kernel)
theorem mw_1310 : Cond.fieldLink RX12 45 "MountPeersModel" "news" "[I" ∈ GW := gwt6 35 rfl (by decide +kernel)
theorem mw_1311 : Cond.fieldLink RX12 257 "MountPeersModel" "newMany" "I" ∈ GW := gwt6 36 rfl (by decide +kernel)
theorem mw_1312 : Cond.fieldLink RX12 277 "MountPeersModel" "came" "I" ∈ GW := gwt6 37 rfl (by decide +kernel)
theorem mw_1313 : Cond.fieldLink RX12 48 "MountPeersModel" "tree" "[I" ∈ GW := gwt6 38 rfl (by decide +kernel)
theorem mw_1314 : Cond.fieldLink RX12 51 "MountPeersModel" "acts" "[I" ∈ GW := gwt6 39 rfl (by decide +kernel)
theorem mw_1315 : Cond.fieldLink RX12 54 "MountPeersModel" "heardOf" "[I" ∈ GW := gwt6 40 rfl (by decide +kernel)
theorem mw_1316 : Cond.fieldLink RX12 57 "MountPeersModel" "heardBy" "[I" ∈ GW := gwt6 41 rfl (by decide +kernel)
theorem mw_1317 : Cond.fieldLink RX12 378 "MountPeersModel" "heardMany" "I" ∈ GW := gwt6 42 rfl (by decide +kernel)
theorem mw_1318 : Cond.fieldLink RX12 60 "MountPeersModel" "sawN" "[I" ∈ GW := gwt6 43 rfl (by decide +kernel)
theorem mw_1319 : Cond.fieldLink RX12 63 "MountPeersModel" "sawK" "[I" ∈ GW := gwt6 44 rfl (by decide +kernel)
theorem mw_1320 : Cond.fieldLink RX12 66 "MountPeersModel" "sawAs" "[I" ∈ GW := gwt6 45 rfl (by decide +kernel)
theorem mw_1321 : Cond.fieldLink RX12 388 "MountPeersModel" "sawMany" "I" ∈ GW := gwt6 46 rfl (by decide +kernel)
theorem mw_1322 : Cond.fieldLink RX12 69 "MountPeersModel" "parts" "[J" ∈ GW := gwt6 47 rfl (by decide +kernel)
theorem mw_1323 : Cond.fieldLink RX12 419 "MountPeersModel" "drawn" "I" ∈ GW := gwt6 48 rfl (by decide +kernel)
theorem mw_1324 : Cond.fieldLink RX12 72 "MountPeersModel" "kept" "[I" ∈ GW := gwt6 49 rfl (by decide +kernel)
theorem mw_1325 : Cond.fieldLink RX12 75 "MountPeersModel" "isKept" "[Z" ∈ GW := gwt6 50 rfl (by decide +kernel)
theorem mw_1326 : Cond.laysFinal RX12 "MountPeersModel" "now" "[I" ∈ GW := gwt6 51 rfl (by decide +kernel)
theorem mw_1328 : Cond.laysFinal RX12 "MountPeersModel" "text" "[B" ∈ GW := gwt6 53 rfl (by decide +kernel)
theorem mw_1330 : Cond.lays RX12 "MountPeersModel" "typed" "I" ∈ GW := gwt6 55 rfl (by decide +kernel)
theorem mw_1332 : Cond.laysFinal RX12 "MountPeersModel" "row" "[J" ∈ GW := gwt6 57 rfl (by decide +kernel)
theorem mw_1334 : Cond.lays RX12 "MountPeersModel" "rowMany" "I" ∈ GW := gwt6 59 rfl (by decide +kernel)
theorem mw_1336 : Cond.lays RX12 "MountPeersModel" "thrown" "I" ∈ GW := gwt6 61 rfl (by decide +kernel)
theorem mw_1338 : Cond.lays RX12 "MountPeersModel" "read" "[B" ∈ GW := gwt6 63 rfl (by decide +kernel)
theorem mw_1340 : Cond.lays RX12 "MountPeersModel" "length" "I" ∈ GW := gwt6 65 rfl (by decide +kernel)
theorem mw_1342 : Cond.lays RX12 "MountPeersModel" "top" "I" ∈ GW := gwt6 67 rfl (by decide +kernel)
theorem mw_1344 : Cond.lays RX12 "MountPeersModel" "at" "I" ∈ GW := gwt6 69 rfl (by decide +kernel)
theorem mw_1346 : Cond.lays RX12 "MountPeersModel" "wrong" "I" ∈ GW := gwt6 71 rfl (by decide +kernel)
theorem mw_1348 : Cond.lays RX12 "MountPeersModel" "rule" "[B" ∈ GW := gwt6 73 rfl (by decide +kernel)
theorem mw_1350 : Cond.lays RX12 "MountPeersModel" "otherRule" "[B" ∈ GW := gwt6 75 rfl (by decide +kernel)
theorem mw_1352 : Cond.lays RX12 "MountPeersModel" "ruleSize" "I" ∈ GW := gwt6 77 rfl (by decide +kernel)
theorem mw_1354 : Cond.lays RX12 "MountPeersModel" "isAsked" "Z" ∈ GW := gwt6 79 rfl (by decide +kernel)
theorem mw_1356 : Cond.laysFinal RX12 "MountPeersModel" "asked" "[I" ∈ GW := gwt6 81 rfl (by decide +kernel)
theorem mw_1358 : Cond.laysFinal RX12 "MountPeersModel" "letters" "[B" ∈ GW := gwt6 83 rfl (by decide +kernel)
theorem mw_1360 : Cond.lays RX12 "MountPeersModel" "letterMany" "I" ∈ GW := gwt6 85 rfl (by decide +kernel)
theorem mw_1362 : Cond.lays RX12 "MountPeersModel" "pathMount" "I" ∈ GW := gwt6 87 rfl (by decide +kernel)
theorem mw_1364 : Cond.lays RX12 "MountPeersModel" "pathDir" "I" ∈ GW := gwt6 89 rfl (by decide +kernel)
theorem mw_1366 : Cond.lays RX12 "MountPeersModel" "gone" "I" ∈ GW := gwt6 91 rfl (by decide +kernel)
theorem mw_1368 : Cond.laysFinal RX12 "MountPeersModel" "undos" "[I" ∈ GW := gwt6 93 rfl (by decide +kernel)
theorem mw_1370 : Cond.lays RX12 "MountPeersModel" "undoMany" "I" ∈ GW := gwt6 95 rfl (by decide +kernel)
theorem mw_1372 : Cond.laysFinal RX12 "MountPeersModel" "aside" "[I" ∈ GW := gwt6 97 rfl (by decide +kernel)
theorem mw_1374 : Cond.laysFinal RX12 "MountPeersModel" "then" "[I" ∈ GW := gwt6 99 rfl (by decide +kernel)
theorem mw_1376 : Cond.laysFinal RX12 "MountPeersModel" "olds" "[I" ∈ GW := gwt6 101 rfl (by decide +kernel)
theorem mw_1378 : Cond.laysFinal RX12 "MountPeersModel" "news" "[I" ∈ GW := gwt6 103 rfl (by decide +kernel)
theorem mw_1380 : Cond.lays RX12 "MountPeersModel" "newMany" "I" ∈ GW := gwt6 105 rfl (by decide +kernel)
theorem mw_1382 : Cond.lays RX12 "MountPeersModel" "came" "I" ∈ GW := gwt6 107 rfl (by decide +kernel)
theorem mw_1384 : Cond.laysFinal RX12 "MountPeersModel" "tree" "[I" ∈ GW := gwt6 109 rfl (by decide +kernel)
theorem mw_1386 : Cond.laysFinal RX12 "MountPeersModel" "acts" "[I" ∈ GW := gwt6 111 rfl (by decide +kernel)
theorem mw_1388 : Cond.laysFinal RX12 "MountPeersModel" "heardOf" "[I" ∈ GW := gwt6 113 rfl (by decide +kernel)
theorem mw_1390 : Cond.laysFinal RX12 "MountPeersModel" "heardBy" "[I" ∈ GW := gwt6 115 rfl (by decide +kernel)
theorem mw_1392 : Cond.lays RX12 "MountPeersModel" "heardMany" "I" ∈ GW := gwt6 117 rfl (by decide +kernel)
theorem mw_1394 : Cond.laysFinal RX12 "MountPeersModel" "sawN" "[I" ∈ GW := gwt6 119 rfl (by decide +kernel)
theorem mw_1396 : Cond.laysFinal RX12 "MountPeersModel" "sawK" "[I" ∈ GW := gwt6 121 rfl (by decide +kernel)
theorem mw_1398 : Cond.laysFinal RX12 "MountPeersModel" "sawAs" "[I" ∈ GW := gwt6 123 rfl (by decide +kernel)
theorem mw_1400 : Cond.lays RX12 "MountPeersModel" "sawMany" "I" ∈ GW := gwt6 125 rfl (by decide +kernel)
theorem mw_1402 : Cond.laysFinal RX12 "MountPeersModel" "parts" "[J" ∈ GW := gwt6 127 rfl (by decide +kernel)
theorem mw_1404 : Cond.lays RX12 "MountPeersModel" "drawn" "I" ∈ GW := gwt6 129 rfl (by decide +kernel)
theorem mw_1406 : Cond.laysFinal RX12 "MountPeersModel" "kept" "[I" ∈ GW := gwt6 131 rfl (by decide +kernel)
theorem mw_1408 : Cond.laysFinal RX12 "MountPeersModel" "isKept" "[Z" ∈ GW := gwt6 133 rfl (by decide +kernel)
theorem mw_1411 : Cond.arrayClass .boolean ∈ GW := gwt6 136 rfl (by decide +kernel)
theorem mw_1412 : Cond.methodLink "MountPeersLaw" 51 yX12_thrown ∈ GW := gwt6 137 rfl (by decide +kernel)
theorem mw_1413 : Cond.instanceMethod yX12_thrown ∈ GW := gwt6 138 rfl (by decide +kernel)
theorem mw_1414 : Cond.selects RX12 yX12_thrown yX12_thrown ∈ GW := gwt6 139 rfl (by decide +kernel)
theorem mw_1415 : Cond.code yX12_thrown prog_14_method_2_code 1 (some .int) ∈ GW := gwt6 140 rfl (by decide +kernel)
theorem mw_1416 : Cond.methodLink "MountPeersLaw" 30 yX12_sign ∈ GW := gwt6 141 rfl (by decide +kernel)
theorem mw_1417 : Cond.instanceMethod yX12_sign ∈ GW := gwt6 142 rfl (by decide +kernel)
theorem mw_1418 : Cond.selects RX12 yX12_sign yX12_sign ∈ GW := gwt6 143 rfl (by decide +kernel)
theorem mw_1419 : Cond.code yX12_sign prog_14_method_21_code 3 (some .int) ∈ GW := gwt6 144 rfl (by decide +kernel)
theorem mw_1420 : Cond.methodLink "MountPeersLaw" 35 yX12_end ∈ GW := gwt6 145 rfl (by decide +kernel)
theorem mw_1421 : Cond.instanceMethod yX12_end ∈ GW := gwt6 146 rfl (by decide +kernel)
theorem mw_1422 : Cond.selects RX12 yX12_end yX12_end ∈ GW := gwt6 147 rfl (by decide +kernel)
theorem mw_1423 : Cond.code yX12_end prog_14_method_22_code 2 (some .boolean) ∈ GW := gwt6 148 rfl (by decide +kernel)
theorem mw_1424 : Cond.methodLink RX12 86 yX12_in ∈ GW := gwt6 149 rfl (by decide +kernel)
theorem mw_1425 : Cond.static yX12_in ∈ GW := gwt6 150 rfl (by decide +kernel)
theorem mw_1426 : Cond.code yX12_in prog_14_method_3_code 3 (some .boolean) ∈ GW := gwt6 151 rfl (by decide +kernel)
theorem mw_1427 : Cond.methodLink "MountPeersLaw" 40 yX12_rule ∈ GW := gwt6 152 rfl (by decide +kernel)
theorem mw_1428 : Cond.instanceMethod yX12_rule ∈ GW := gwt6 153 rfl (by decide +kernel)
theorem mw_1429 : Cond.selects RX12 yX12_rule yX12_rule ∈ GW := gwt6 154 rfl (by decide +kernel)
theorem mw_1430 : Cond.code yX12_rule prog_14_method_39_code 3 (some .int) ∈ GW := gwt6 155 rfl (by decide +kernel)
theorem mw_1431 : Cond.methodLink RX12 180 yX12_readRule ∈ GW := gwt6 156 rfl (by decide +kernel)
theorem mw_1433 : Cond.instanceMethod yX12_readRule ∈ GW := gwt6 158 rfl (by decide +kernel)
theorem mw_1434 : Cond.code yX12_readRule prog_14_method_38_code 1 (some .boolean) ∈ GW := gwt6 159 rfl (by decide +kernel)
theorem mw_1435 : Cond.methodLink RX12 174 yX12_beginText ∈ GW := gwt6 160 rfl (by decide +kernel)
theorem mw_1437 : Cond.instanceMethod yX12_beginText ∈ GW := gwt6 162 rfl (by decide +kernel)
theorem mw_1438 : Cond.code yX12_beginText prog_14_method_24_code 2 none ∈ GW := gwt6 163 rfl (by decide +kernel)
theorem mw_1439 : Cond.methodLink RX12 123 yX12_begin ∈ GW := gwt6 164 rfl (by decide +kernel)
theorem mw_1441 : Cond.instanceMethod yX12_begin ∈ GW := gwt6 166 rfl (by decide +kernel)
theorem mw_1442 : Cond.code yX12_begin prog_14_method_23_code 4 none ∈ GW := gwt6 167 rfl (by decide +kernel)
theorem mw_1443 : Cond.methodLink RX12 157 yX12_held ∈ GW := gwt6 168 rfl (by decide +kernel)
theorem mw_1445 : Cond.instanceMethod yX12_held ∈ GW := gwt6 170 rfl (by decide +kernel)
theorem mw_1446 : Cond.code yX12_held prog_14_method_33_code 3 (some .int) ∈ GW := gwt6 171 rfl (by decide +kernel)
theorem mw_1447 : Cond.methodLink RX12 147 yX12_sum ∈ GW := gwt6 172 rfl (by decide +kernel)
theorem mw_1449 : Cond.instanceMethod yX12_sum ∈ GW := gwt6 174 rfl (by decide +kernel)
theorem mw_1450 : Cond.code yX12_sum prog_14_method_34_code 5 (some .int) ∈ GW := gwt6 175 rfl (by decide +kernel)
theorem mw_1451 : Cond.methodLink RX12 151 yX12_product ∈ GW := gwt6 176 rfl (by decide +kernel)
theorem mw_1453 : Cond.instanceMethod yX12_product ∈ GW := gwt6 178 rfl (by decide +kernel)
theorem mw_1454 : Cond.code yX12_product prog_14_method_35_code 5 (some .int) ∈ GW := gwt6 179 rfl (by decide +kernel)
theorem mw_1455 : Cond.methodLink RX12 154 yX12_thing ∈ GW := gwt6 180 rfl (by decide +kernel)
theorem mw_1457 : Cond.instanceMethod yX12_thing ∈ GW := gwt6 182 rfl (by decide +kernel)
theorem mw_1458 : Cond.code yX12_thing prog_14_method_37_code 4 (some .int) ∈ GW := gwt6 183 rfl (by decide +kernel)
theorem mw_1459 : Cond.methodLink RX12 135 yX12_passes ∈ GW := gwt6 184 rfl (by decide +kernel)
theorem mw_1461 : Cond.instanceMethod yX12_passes ∈ GW := gwt6 186 rfl (by decide +kernel)
theorem mw_1462 : Cond.code yX12_passes prog_14_method_28_code 2 (some .boolean) ∈ GW := gwt6 187 rfl (by decide +kernel)
theorem mw_1463 : Cond.methodLink RX12 127 yX12_fine ∈ GW := gwt6 188 rfl (by decide +kernel)
theorem mw_1465 : Cond.instanceMethod yX12_fine ∈ GW := gwt6 190 rfl (by decide +kernel)
theorem mw_1466 : Cond.code yX12_fine prog_14_method_26_code 1 (some .boolean) ∈ GW := gwt6 191 rfl (by decide +kernel)
theorem mw_1467 : Cond.methodLink RX12 131 yX12_here ∈ GW := gwt6 192 rfl (by decide +kernel)
theorem mw_1469 : Cond.instanceMethod yX12_here ∈ GW := gwt6 194 rfl (by decide +kernel)
theorem mw_1470 : Cond.code yX12_here prog_14_method_25_code 1 (some .int) ∈ GW := gwt6 195 rfl (by decide +kernel)
theorem mw_1471 : Cond.methodLink RX12 160 yX12_need ∈ GW := gwt6 196 rfl (by decide +kernel)
theorem mw_1473 : Cond.instanceMethod yX12_need ∈ GW := gwt6 198 rfl (by decide +kernel)
theorem mw_1474 : Cond.code yX12_need prog_14_method_29_code 2 none ∈ GW := gwt6 199 rfl (by decide +kernel)
theorem mw_1475 : Cond.methodLink RX12 139 yX12_fault ∈ GW := gwt6 200 rfl (by decide +kernel)
theorem mw_1477 : Cond.instanceMethod yX12_fault ∈ GW := gwt6 202 rfl (by decide +kernel)
theorem mw_1478 : Cond.code yX12_fault prog_14_method_27_code 2 none ∈ GW := gwt6 203 rfl (by decide +kernel)
theorem mw_1479 : Cond.methodLink RX12 164 yX12_number ∈ GW := gwt6 204 rfl (by decide +kernel)
theorem mw_1481 : Cond.instanceMethod yX12_number ∈ GW := gwt6 206 rfl (by decide +kernel)
theorem mw_1482 : Cond.code yX12_number prog_14_method_31_code 4 (some .int) ∈ GW := gwt6 207 rfl (by decide +kernel)
theorem mw_1483 : Cond.methodLink RX12 143 yX12_oneOf ∈ GW := gwt6 208 rfl (by decide +kernel)
theorem mw_1485 : Cond.instanceMethod yX12_oneOf ∈ GW := gwt6 210 rfl (by decide +kernel)
theorem mw_1486 : Cond.code yX12_oneOf prog_14_method_30_code 3 (some .int) ∈ GW := gwt6 211 rfl (by decide +kernel)
theorem mw_1487 : Cond.methodLink RX12 167 yX12_letterOf ∈ GW := gwt6 212 rfl (by decide +kernel)
theorem mw_1488 : Cond.static yX12_letterOf ∈ GW := gwt6 213 rfl (by decide +kernel)
theorem mw_1489 : Cond.code yX12_letterOf prog_14_method_36_code 1 (some .int) ∈ GW := gwt6 214 rfl (by decide +kernel)
theorem mw_1490 : Cond.methodLink RX12 177 yX12_wasRight ∈ GW := gwt6 215 rfl (by decide +kernel)
theorem mw_1492 : Cond.instanceMethod yX12_wasRight ∈ GW := gwt6 217 rfl (by decide +kernel)
theorem mw_1493 : Cond.code yX12_wasRight prog_14_method_32_code 1 (some .boolean) ∈ GW := gwt6 218 rfl (by decide +kernel)
theorem mw_1494 : Cond.methodLink "MountPeersLaw" 44 yX12_place ∈ GW := gwt6 219 rfl (by decide +kernel)
theorem mw_1495 : Cond.instanceMethod yX12_place ∈ GW := gwt6 220 rfl (by decide +kernel)
theorem mw_1496 : Cond.selects RX12 yX12_place yX12_place ∈ GW := gwt6 221 rfl (by decide +kernel)
theorem mw_1497 : Cond.code yX12_place prog_14_method_43_code 3 (some .int) ∈ GW := gwt6 222 rfl (by decide +kernel)
theorem mw_1498 : Cond.methodLink RX12 216 yX12_readPath ∈ GW := gwt6 223 rfl (by decide +kernel)
theorem mw_1500 : Cond.instanceMethod yX12_readPath ∈ GW := gwt6 225 rfl (by decide +kernel)
theorem mw_1501 : Cond.code yX12_readPath prog_14_method_41_code 3 (some .int) ∈ GW := gwt6 226 rfl (by decide +kernel)
theorem mw_1502 : Cond.methodLink RX12 219 yJ9_min_7cf53 ∈ GW := gwt6 227 rfl (by decide +kernel)
theorem mw_1503 : Cond.methodLink RX12 225 yX12_goPath ∈ GW := gwt6 228 rfl (by decide +kernel)
theorem mw_1505 : Cond.instanceMethod yX12_goPath ∈ GW := gwt6 230 rfl (by decide +kernel)
theorem mw_1506 : Cond.code yX12_goPath prog_14_method_42_code 4 (some .boolean) ∈ GW := gwt6 231 rfl (by decide +kernel)
theorem mw_1507 : Cond.methodLink RX12 212 yX12_atOf ∈ GW := gwt6 232 rfl (by decide +kernel)
theorem mw_1508 : Cond.static yX12_atOf ∈ GW := gwt6 233 rfl (by decide +kernel)
theorem mw_1509 : Cond.code yX12_atOf prog_14_method_9_code 4 (some .int) ∈ GW := gwt6 234 rfl (by decide +kernel)
theorem mw_1510 : Cond.methodLink RX12 228 yX12_tell ∈ GW := gwt6 235 rfl (by decide +kernel)
theorem mw_1512 : Cond.instanceMethod yX12_tell ∈ GW := gwt6 237 rfl (by decide +kernel)
theorem mw_1513 : Cond.code yX12_tell prog_14_method_6_code 3 none ∈ GW := gwt6 238 rfl (by decide +kernel)
theorem mw_1514 : Cond.methodLink "MountPeersLaw" 50 yX12_mount ∈ GW := gwt6 239 rfl (by decide +kernel)
theorem mw_1515 : Cond.instanceMethod yX12_mount ∈ GW := gwt7 0 rfl (by decide +kernel)
theorem mw_1516 : Cond.selects RX12 yX12_mount yX12_mount ∈ GW := gwt7 1 rfl (by decide +kernel)
theorem mw_1517 : Cond.code yX12_mount prog_14_method_44_code 3 (some .int) ∈ GW := gwt7 2 rfl (by decide +kernel)
theorem mw_1518 : Cond.methodLink RX12 90 yX12_isThere ∈ GW := gwt7 3 rfl (by decide +kernel)
theorem mw_1519 : Cond.static yX12_isThere ∈ GW := gwt7 4 rfl (by decide +kernel)
theorem mw_1520 : Cond.code yX12_isThere prog_14_method_7_code 2 (some .boolean) ∈ GW := gwt7 5 rfl (by decide +kernel)
theorem mw_1521 : Cond.methodLink RX12 232 yX12_lost ∈ GW := gwt7 6 rfl (by decide +kernel)
theorem mw_1523 : Cond.instanceMethod yX12_lost ∈ GW := gwt7 8 rfl (by decide +kernel)
theorem mw_1524 : Cond.code yX12_lost prog_14_method_5_code 1 (some .int) ∈ GW := gwt7 9 rfl (by decide +kernel)
theorem mw_1525 : Cond.methodLink RX12 197 yX12_kindOf ∈ GW := gwt7 10 rfl (by decide +kernel)
theorem mw_1526 : Cond.static yX12_kindOf ∈ GW := gwt7 11 rfl (by decide +kernel)
theorem mw_1527 : Cond.code yX12_kindOf prog_14_method_13_code 4 (some .int) ∈ GW := gwt7 12 rfl (by decide +kernel)
theorem mw_1528 : Cond.methodLink RX12 186 yX12_stepsOf ∈ GW := gwt7 13 rfl (by decide +kernel)
theorem mw_1529 : Cond.static yX12_stepsOf ∈ GW := gwt7 14 rfl (by decide +kernel)
theorem mw_1530 : Cond.code yX12_stepsOf prog_14_method_11_code 4 (some .int) ∈ GW := gwt7 15 rfl (by decide +kernel)
theorem mw_1531 : Cond.methodLink "MountPeersLaw" 56 yX12_at ∈ GW := gwt7 16 rfl (by decide +kernel)
theorem mw_1532 : Cond.instanceMethod yX12_at ∈ GW := gwt7 17 rfl (by decide +kernel)
theorem mw_1533 : Cond.selects RX12 yX12_at yX12_at ∈ GW := gwt7 18 rfl (by decide +kernel)
theorem mw_1534 : Cond.code yX12_at prog_14_method_45_code 3 (some .int) ∈ GW := gwt7 19 rfl (by decide +kernel)
theorem mw_1535 : Cond.methodLink RX12 235 yX12_isDir ∈ GW := gwt7 20 rfl (by decide +kernel)
theorem mw_1536 : Cond.static yX12_isDir ∈ GW := gwt7 21 rfl (by decide +kernel)
theorem mw_1537 : Cond.code yX12_isDir prog_14_method_8_code 1 (some .boolean) ∈ GW := gwt7 22 rfl (by decide +kernel)
theorem mw_1538 : Cond.methodLink "MountPeersLaw" 61 yX12_sheet ∈ GW := gwt7 23 rfl (by decide +kernel)
theorem mw_1539 : Cond.instanceMethod yX12_sheet ∈ GW := gwt7 24 rfl (by decide +kernel)
theorem mw_1540 : Cond.selects RX12 yX12_sheet yX12_sheet ∈ GW := gwt7 25 rfl (by decide +kernel)
theorem mw_1541 : Cond.code yX12_sheet prog_14_method_46_code 10 (some .int) ∈ GW := gwt7 26 rfl (by decide +kernel)
theorem mw_1542 : Cond.methodLink "MountPeersLaw" 65 yX12_mounts ∈ GW := gwt7 27 rfl (by decide +kernel)
theorem mw_1543 : Cond.instanceMethod yX12_mounts ∈ GW := gwt7 28 rfl (by decide +kernel)
theorem mw_1544 : Cond.selects RX12 yX12_mounts yX12_mounts ∈ GW := gwt7 29 rfl (by decide +kernel)
theorem mw_1545 : Cond.code yX12_mounts prog_14_method_57_code 4 (some .int) ∈ GW := gwt7 30 rfl (by decide +kernel)
theorem mw_1546 : Cond.methodLink RX12 283 yX12_refusesComing ∈ GW := gwt7 31 rfl (by decide +kernel)
theorem mw_1548 : Cond.instanceMethod yX12_refusesComing ∈ GW := gwt7 33 rfl (by decide +kernel)
theorem mw_1549 : Cond.code yX12_refusesComing prog_14_method_54_code 4 (some .int) ∈ GW := gwt7 34 rfl (by decide +kernel)
theorem mw_1550 : Cond.methodLink RX12 280 yX12_thereOf ∈ GW := gwt7 35 rfl (by decide +kernel)
theorem mw_1551 : Cond.static yX12_thereOf ∈ GW := gwt7 36 rfl (by decide +kernel)
theorem mw_1552 : Cond.code yX12_thereOf prog_14_method_14_code 3 (some .int) ∈ GW := gwt7 37 rfl (by decide +kernel)
theorem mw_1553 : Cond.methodLink RX12 192 yJ6_bitCount_0f7a4 ∈ GW := gwt7 38 rfl (by decide +kernel)
theorem mw_1554 : Cond.methodLink RX12 260 yX12_hitsOf ∈ GW := gwt7 39 rfl (by decide +kernel)
theorem mw_1556 : Cond.instanceMethod yX12_hitsOf ∈ GW := gwt7 41 rfl (by decide +kernel)
theorem mw_1557 : Cond.code yX12_hitsOf prog_14_method_49_code 7 (some .int) ∈ GW := gwt7 42 rfl (by decide +kernel)
theorem mw_1558 : Cond.methodLink RX12 246 yX12_spreadOf ∈ GW := gwt7 43 rfl (by decide +kernel)
theorem mw_1559 : Cond.static yX12_spreadOf ∈ GW := gwt7 44 rfl (by decide +kernel)
theorem mw_1560 : Cond.code yX12_spreadOf prog_14_method_17_code 5 (some .int) ∈ GW := gwt7 45 rfl (by decide +kernel)
theorem mw_1561 : Cond.methodLink RX12 94 yX12_has ∈ GW := gwt7 46 rfl (by decide +kernel)
theorem mw_1562 : Cond.static yX12_has ∈ GW := gwt7 47 rfl (by decide +kernel)
theorem mw_1563 : Cond.code yX12_has prog_14_method_4_code 2 (some .boolean) ∈ GW := gwt7 48 rfl (by decide +kernel)
theorem mw_1564 : Cond.methodLink RX12 98 yX12_inGroup ∈ GW := gwt7 49 rfl (by decide +kernel)
theorem mw_1565 : Cond.static yX12_inGroup ∈ GW := gwt7 50 rfl (by decide +kernel)
theorem mw_1566 : Cond.code yX12_inGroup prog_14_method_15_code 4 (some .int) ∈ GW := gwt7 51 rfl (by decide +kernel)
theorem mw_1567 : Cond.methodLink RX12 102 yX12_slavesOf ∈ GW := gwt7 52 rfl (by decide +kernel)
theorem mw_1568 : Cond.static yX12_slavesOf ∈ GW := gwt7 53 rfl (by decide +kernel)
theorem mw_1569 : Cond.code yX12_slavesOf prog_14_method_16_code 4 (some .int) ∈ GW := gwt7 54 rfl (by decide +kernel)
theorem mw_1570 : Cond.methodLink RX12 249 yX12_isLet ∈ GW := gwt7 55 rfl (by decide +kernel)
theorem mw_1572 : Cond.instanceMethod yX12_isLet ∈ GW := gwt7 57 rfl (by decide +kernel)
theorem mw_1573 : Cond.code yX12_isLet prog_14_method_40_code 6 (some .boolean) ∈ GW := gwt7 58 rfl (by decide +kernel)
theorem mw_1574 : Cond.methodLink RX12 189 yX12_childrenOf ∈ GW := gwt7 59 rfl (by decide +kernel)
theorem mw_1575 : Cond.static yX12_childrenOf ∈ GW := gwt7 60 rfl (by decide +kernel)
theorem mw_1576 : Cond.code yX12_childrenOf prog_14_method_10_code 4 (some .int) ∈ GW := gwt7 61 rfl (by decide +kernel)
theorem mw_1577 : Cond.methodLink RX12 286 yX12_remember ∈ GW := gwt7 62 rfl (by decide +kernel)
theorem mw_1579 : Cond.instanceMethod yX12_remember ∈ GW := gwt7 64 rfl (by decide +kernel)
theorem mw_1580 : Cond.code yX12_remember prog_14_method_48_code 3 none ∈ GW := gwt7 65 rfl (by decide +kernel)
theorem mw_1581 : Cond.methodLink RX12 242 yX12_lay ∈ GW := gwt7 66 rfl (by decide +kernel)
theorem mw_1582 : Cond.static yX12_lay ∈ GW := gwt7 67 rfl (by decide +kernel)
theorem mw_1583 : Cond.code yX12_lay prog_14_method_47_code 4 none ∈ GW := gwt7 68 rfl (by decide +kernel)
theorem mw_1584 : Cond.methodLink RX12 290 yX12_goClone ∈ GW := gwt7 69 rfl (by decide +kernel)
theorem mw_1586 : Cond.instanceMethod yX12_goClone ∈ GW := gwt7 71 rfl (by decide +kernel)
theorem mw_1587 : Cond.code yX12_goClone prog_14_method_53_code 12 (some .int) ∈ GW := gwt7 72 rfl (by decide +kernel)
theorem mw_1588 : Cond.methodLink RX12 263 yX12_newGroup ∈ GW := gwt7 73 rfl (by decide +kernel)
theorem mw_1589 : Cond.static yX12_newGroup ∈ GW := gwt7 74 rfl (by decide +kernel)
theorem mw_1590 : Cond.code yX12_newGroup prog_14_method_19_code 1 (some .int) ∈ GW := gwt7 75 rfl (by decide +kernel)
theorem mw_1591 : Cond.methodLink RX12 266 yX12_layNew ∈ GW := gwt7 76 rfl (by decide +kernel)
theorem mw_1593 : Cond.instanceMethod yX12_layNew ∈ GW := gwt7 78 rfl (by decide +kernel)
theorem mw_1594 : Cond.code yX12_layNew prog_14_method_52_code 3 none ∈ GW := gwt7 79 rfl (by decide +kernel)
theorem mw_1595 : Cond.methodLink RX12 270 yX12_newOf ∈ GW := gwt7 80 rfl (by decide +kernel)
theorem mw_1597 : Cond.instanceMethod yX12_newOf ∈ GW := gwt7 82 rfl (by decide +kernel)
theorem mw_1598 : Cond.code yX12_newOf prog_14_method_51_code 3 (some .int) ∈ GW := gwt7 83 rfl (by decide +kernel)
theorem mw_1599 : Cond.methodLink RX12 273 yX12_comes ∈ GW := gwt7 84 rfl (by decide +kernel)
theorem mw_1600 : Cond.static yX12_comes ∈ GW := gwt7 85 rfl (by decide +kernel)
theorem mw_1601 : Cond.code yX12_comes prog_14_method_50_code 6 (some .int) ∈ GW := gwt7 86 rfl (by decide +kernel)
theorem mw_1602 : Cond.methodLink RX12 253 yX12_freeOf ∈ GW := gwt7 87 rfl (by decide +kernel)
theorem mw_1603 : Cond.static yX12_freeOf ∈ GW := gwt7 88 rfl (by decide +kernel)
theorem mw_1604 : Cond.code yX12_freeOf prog_14_method_18_code 2 (some .int) ∈ GW := gwt7 89 rfl (by decide +kernel)
theorem mw_1605 : Cond.methodLink RX12 294 yX12_tellCame ∈ GW := gwt7 90 rfl (by decide +kernel)
theorem mw_1607 : Cond.instanceMethod yX12_tellCame ∈ GW := gwt7 92 rfl (by decide +kernel)
theorem mw_1608 : Cond.code yX12_tellCame prog_14_method_56_code 2 (some .int) ∈ GW := gwt7 93 rfl (by decide +kernel)
theorem mw_1609 : Cond.methodLink "MountPeersLaw" 70 yX12_binds ∈ GW := gwt7 94 rfl (by decide +kernel)
theorem mw_1610 : Cond.instanceMethod yX12_binds ∈ GW := gwt7 95 rfl (by decide +kernel)
theorem mw_1611 : Cond.selects RX12 yX12_binds yX12_binds ∈ GW := gwt7 96 rfl (by decide +kernel)
theorem mw_1612 : Cond.code yX12_binds prog_14_method_58_code 5 (some .int) ∈ GW := gwt7 97 rfl (by decide +kernel)
theorem mw_1613 : Cond.methodLink RX12 297 yX12_refusesBind ∈ GW := gwt7 98 rfl (by decide +kernel)
theorem mw_1615 : Cond.instanceMethod yX12_refusesBind ∈ GW := gwt7 100 rfl (by decide +kernel)
theorem mw_1616 : Cond.code yX12_refusesBind prog_14_method_55_code 6 (some .int) ∈ GW := gwt7 101 rfl (by decide +kernel)
theorem mw_1617 : Cond.methodLink "MountPeersLaw" 74 yX12_trees ∈ GW := gwt7 102 rfl (by decide +kernel)
theorem mw_1618 : Cond.instanceMethod yX12_trees ∈ GW := gwt7 103 rfl (by decide +kernel)
theorem mw_1619 : Cond.selects RX12 yX12_trees yX12_trees ∈ GW := gwt7 104 rfl (by decide +kernel)
theorem mw_1620 : Cond.code yX12_trees prog_14_method_63_code 5 (some .int) ∈ GW := gwt7 105 rfl (by decide +kernel)
theorem mw_1621 : Cond.methodLink RX12 307 yX12_refusesTree ∈ GW := gwt7 106 rfl (by decide +kernel)
theorem mw_1623 : Cond.instanceMethod yX12_refusesTree ∈ GW := gwt7 108 rfl (by decide +kernel)
theorem mw_1624 : Cond.code yX12_refusesTree prog_14_method_60_code 5 (some .int) ∈ GW := gwt7 109 rfl (by decide +kernel)
theorem mw_1625 : Cond.methodLink RX12 300 yX12_treeOf ∈ GW := gwt7 110 rfl (by decide +kernel)
theorem mw_1626 : Cond.static yX12_treeOf ∈ GW := gwt7 111 rfl (by decide +kernel)
theorem mw_1627 : Cond.code yX12_treeOf prog_14_method_59_code 5 (some .int) ∈ GW := gwt7 112 rfl (by decide +kernel)
theorem mw_1628 : Cond.methodLink RX12 310 yX12_goTree ∈ GW := gwt7 113 rfl (by decide +kernel)
theorem mw_1630 : Cond.instanceMethod yX12_goTree ∈ GW := gwt7 115 rfl (by decide +kernel)
theorem mw_1631 : Cond.code yX12_goTree prog_14_method_62_code 6 (some .int) ∈ GW := gwt7 116 rfl (by decide +kernel)
theorem mw_1632 : Cond.methodLink RX12 303 yX12_goInside ∈ GW := gwt7 117 rfl (by decide +kernel)
theorem mw_1634 : Cond.instanceMethod yX12_goInside ∈ GW := gwt7 119 rfl (by decide +kernel)
theorem mw_1635 : Cond.code yX12_goInside prog_14_method_61_code 7 none ∈ GW := gwt7 120 rfl (by decide +kernel)
theorem mw_1636 : Cond.methodLink "MountPeersLaw" 78 yX12_makes ∈ GW := gwt7 121 rfl (by decide +kernel)
theorem mw_1637 : Cond.instanceMethod yX12_makes ∈ GW := gwt7 122 rfl (by decide +kernel)
theorem mw_1638 : Cond.selects RX12 yX12_makes yX12_makes ∈ GW := gwt7 123 rfl (by decide +kernel)
theorem mw_1639 : Cond.code yX12_makes prog_14_method_67_code 5 (some .int) ∈ GW := gwt7 124 rfl (by decide +kernel)
theorem mw_1640 : Cond.methodLink RX12 317 yX12_refusesMaking ∈ GW := gwt7 125 rfl (by decide +kernel)
theorem mw_1641 : Cond.static yX12_refusesMaking ∈ GW := gwt7 126 rfl (by decide +kernel)
theorem mw_1642 : Cond.code yX12_refusesMaking prog_14_method_65_code 3 (some .int) ∈ GW := gwt7 127 rfl (by decide +kernel)
theorem mw_1643 : Cond.methodLink RX12 320 yX12_goMake ∈ GW := gwt7 128 rfl (by decide +kernel)
theorem mw_1644 : Cond.static yX12_goMake ∈ GW := gwt7 129 rfl (by decide +kernel)
theorem mw_1645 : Cond.code yX12_goMake prog_14_method_66_code 3 none ∈ GW := gwt7 130 rfl (by decide +kernel)
theorem mw_1646 : Cond.methodLink RX12 313 yX12_goOut ∈ GW := gwt7 131 rfl (by decide +kernel)
theorem mw_1647 : Cond.static yX12_goOut ∈ GW := gwt7 132 rfl (by decide +kernel)
theorem mw_1648 : Cond.code yX12_goOut prog_14_method_64_code 4 none ∈ GW := gwt7 133 rfl (by decide +kernel)
theorem mw_1649 : Cond.methodLink "MountPeersLaw" 82 yX12_unmounts ∈ GW := gwt7 134 rfl (by decide +kernel)
theorem mw_1650 : Cond.instanceMethod yX12_unmounts ∈ GW := gwt7 135 rfl (by decide +kernel)
theorem mw_1651 : Cond.selects RX12 yX12_unmounts yX12_unmounts ∈ GW := gwt7 136 rfl (by decide +kernel)
theorem mw_1652 : Cond.code yX12_unmounts prog_14_method_72_code 5 (some .int) ∈ GW := gwt7 137 rfl (by decide +kernel)
theorem mw_1653 : Cond.methodLink RX12 329 yX12_refusesUnmount ∈ GW := gwt7 138 rfl (by decide +kernel)
theorem mw_1654 : Cond.static yX12_refusesUnmount ∈ GW := gwt7 139 rfl (by decide +kernel)
theorem mw_1655 : Cond.code yX12_refusesUnmount prog_14_method_68_code 4 (some .int) ∈ GW := gwt7 140 rfl (by decide +kernel)
theorem mw_1656 : Cond.methodLink RX12 332 yX12_goUnmount ∈ GW := gwt7 141 rfl (by decide +kernel)
theorem mw_1658 : Cond.instanceMethod yX12_goUnmount ∈ GW := gwt7 143 rfl (by decide +kernel)
theorem mw_1659 : Cond.code yX12_goUnmount prog_14_method_70_code 7 (some .int) ∈ GW := gwt7 144 rfl (by decide +kernel)
theorem mw_1660 : Cond.methodLink RX12 323 yX12_goersOf ∈ GW := gwt7 145 rfl (by decide +kernel)
theorem mw_1662 : Cond.instanceMethod yX12_goersOf ∈ GW := gwt7 147 rfl (by decide +kernel)
theorem mw_1663 : Cond.code yX12_goersOf prog_14_method_69_code 8 (some .int) ∈ GW := gwt7 148 rfl (by decide +kernel)
theorem mw_1664 : Cond.methodLink RX12 326 yX12_clear ∈ GW := gwt7 149 rfl (by decide +kernel)
theorem mw_1665 : Cond.static yX12_clear ∈ GW := gwt7 150 rfl (by decide +kernel)
theorem mw_1666 : Cond.code yX12_clear prog_14_method_20_code 2 none ∈ GW := gwt7 151 rfl (by decide +kernel)
theorem mw_1667 : Cond.methodLink "MountPeersLaw" 86 yX12_moves ∈ GW := gwt7 152 rfl (by decide +kernel)
theorem mw_1668 : Cond.instanceMethod yX12_moves ∈ GW := gwt7 153 rfl (by decide +kernel)
theorem mw_1669 : Cond.selects RX12 yX12_moves yX12_moves ∈ GW := gwt7 154 rfl (by decide +kernel)
theorem mw_1670 : Cond.code yX12_moves prog_14_method_75_code 6 (some .int) ∈ GW := gwt7 155 rfl (by decide +kernel)
theorem mw_1671 : Cond.methodLink RX12 338 yX12_refusesMove ∈ GW := gwt7 156 rfl (by decide +kernel)
theorem mw_1672 : Cond.static yX12_refusesMove ∈ GW := gwt7 157 rfl (by decide +kernel)
theorem mw_1673 : Cond.code yX12_refusesMove prog_14_method_73_code 4 (some .int) ∈ GW := gwt7 158 rfl (by decide +kernel)
theorem mw_1674 : Cond.methodLink RX12 335 yX12_isIn ∈ GW := gwt7 159 rfl (by decide +kernel)
theorem mw_1675 : Cond.static yX12_isIn ∈ GW := gwt7 160 rfl (by decide +kernel)
theorem mw_1676 : Cond.code yX12_isIn prog_14_method_12_code 4 (some .boolean) ∈ GW := gwt7 161 rfl (by decide +kernel)
theorem mw_1677 : Cond.methodLink RX12 341 yX12_goMove ∈ GW := gwt7 162 rfl (by decide +kernel)
theorem mw_1678 : Cond.static yX12_goMove ∈ GW := gwt7 163 rfl (by decide +kernel)
theorem mw_1679 : Cond.code yX12_goMove prog_14_method_74_code 4 none ∈ GW := gwt7 164 rfl (by decide +kernel)
theorem mw_1680 : Cond.methodLink "MountPeersLaw" 90 yX12_day ∈ GW := gwt7 165 rfl (by decide +kernel)
theorem mw_1681 : Cond.instanceMethod yX12_day ∈ GW := gwt7 166 rfl (by decide +kernel)
theorem mw_1682 : Cond.selects RX12 yX12_day yX12_day ∈ GW := gwt7 167 rfl (by decide +kernel)
theorem mw_1683 : Cond.code yX12_day prog_14_method_76_code 3 (some .int) ∈ GW := gwt7 168 rfl (by decide +kernel)
theorem mw_1684 : Cond.methodLink RX12 345 yX12_readAct ∈ GW := gwt7 169 rfl (by decide +kernel)
theorem mw_1686 : Cond.instanceMethod yX12_readAct ∈ GW := gwt7 171 rfl (by decide +kernel)
theorem mw_1687 : Cond.code yX12_readAct prog_14_method_77_code 3 none ∈ GW := gwt7 172 rfl (by decide +kernel)
theorem mw_1688 : Cond.methodLink RX12 348 yX12_act ∈ GW := gwt7 173 rfl (by decide +kernel)
theorem mw_1690 : Cond.instanceMethod yX12_act ∈ GW := gwt7 175 rfl (by decide +kernel)
theorem mw_1691 : Cond.code yX12_act prog_14_method_79_code 5 (some .boolean) ∈ GW := gwt7 176 rfl (by decide +kernel)
theorem mw_1692 : Cond.methodLink RX12 351 yX12_mountedAt ∈ GW := gwt7 177 rfl (by decide +kernel)
theorem mw_1694 : Cond.instanceMethod yX12_mountedAt ∈ GW := gwt7 179 rfl (by decide +kernel)
theorem mw_1695 : Cond.code yX12_mountedAt prog_14_method_78_code 2 (some .int) ∈ GW := gwt7 180 rfl (by decide +kernel)
theorem mw_1696 : Cond.methodLink "MountPeersLaw" 94 yX12_undo ∈ GW := gwt7 181 rfl (by decide +kernel)
theorem mw_1697 : Cond.instanceMethod yX12_undo ∈ GW := gwt7 182 rfl (by decide +kernel)
theorem mw_1698 : Cond.selects RX12 yX12_undo yX12_undo ∈ GW := gwt7 183 rfl (by decide +kernel)
theorem mw_1699 : Cond.code yX12_undo prog_14_method_80_code 2 (some .int) ∈ GW := gwt7 184 rfl (by decide +kernel)
theorem mw_1700 : Cond.methodLink "MountPeersLaw" 98 yX12_spread ∈ GW := gwt7 185 rfl (by decide +kernel)
theorem mw_1701 : Cond.instanceMethod yX12_spread ∈ GW := gwt7 186 rfl (by decide +kernel)
theorem mw_1702 : Cond.selects RX12 yX12_spread yX12_spread ∈ GW := gwt7 187 rfl (by decide +kernel)
theorem mw_1703 : Cond.code yX12_spread prog_14_method_81_code 2 (some .int) ∈ GW := gwt7 188 rfl (by decide +kernel)
theorem mw_1704 : Cond.methodLink RX12 354 yX12_tellBits ∈ GW := gwt7 189 rfl (by decide +kernel)
theorem mw_1706 : Cond.instanceMethod yX12_tellBits ∈ GW := gwt7 191 rfl (by decide +kernel)
theorem mw_1707 : Cond.code yX12_tellBits prog_14_method_71_code 2 (some .int) ∈ GW := gwt7 192 rfl (by decide +kernel)
theorem mw_1708 : Cond.methodLink "MountPeersLaw" 102 yX12_peers ∈ GW := gwt7 193 rfl (by decide +kernel)
theorem mw_1709 : Cond.instanceMethod yX12_peers ∈ GW := gwt7 194 rfl (by decide +kernel)
theorem mw_1710 : Cond.selects RX12 yX12_peers yX12_peers ∈ GW := gwt7 195 rfl (by decide +kernel)
theorem mw_1711 : Cond.code yX12_peers prog_14_method_82_code 4 (some .int) ∈ GW := gwt7 196 rfl (by decide +kernel)
theorem mw_1712 : Cond.methodLink "MountPeersLaw" 106 yX12_masters ∈ GW := gwt7 197 rfl (by decide +kernel)
theorem mw_1713 : Cond.instanceMethod yX12_masters ∈ GW := gwt7 198 rfl (by decide +kernel)
theorem mw_1714 : Cond.selects RX12 yX12_masters yX12_masters ∈ GW := gwt7 199 rfl (by decide +kernel)
theorem mw_1715 : Cond.code yX12_masters prog_14_method_83_code 5 (some .int) ∈ GW := gwt7 200 rfl (by decide +kernel)
theorem mw_1716 : Cond.methodLink RX12 357 yJ6_numberOfTrailingZeros_0f7a4 ∈ GW := gwt7 201 rfl (by decide +kernel)
theorem mw_1717 : Cond.static yJ6_numberOfTrailingZeros_0f7a4 ∈ GW := gwt7 202 rfl (by decide +kernel)
theorem mw_1718 : Cond.code yJ6_numberOfTrailingZeros_0f7a4 prog_20_method_48_code 2 (some .int) ∈ GW := gwt7 203 rfl (by decide +kernel)
theorem mw_1719 : Cond.constant "java/lang/Integer" 264 (65536 : Int32) ∈ GW := gwt7 204 rfl (by decide +kernel)
theorem mw_1720 : Cond.methodLink "MountPeersLaw" 110 yX12_groups ∈ GW := gwt7 205 rfl (by decide +kernel)
theorem mw_1721 : Cond.instanceMethod yX12_groups ∈ GW := gwt7 206 rfl (by decide +kernel)
theorem mw_1722 : Cond.selects RX12 yX12_groups yX12_groups ∈ GW := gwt7 207 rfl (by decide +kernel)
theorem mw_1723 : Cond.code yX12_groups prog_14_method_86_code 5 (some .int) ∈ GW := gwt7 208 rfl (by decide +kernel)
theorem mw_1724 : Cond.methodLink RX12 360 yX12_isLeast ∈ GW := gwt7 209 rfl (by decide +kernel)
theorem mw_1725 : Cond.static yX12_isLeast ∈ GW := gwt7 210 rfl (by decide +kernel)
theorem mw_1726 : Cond.code yX12_isLeast prog_14_method_84_code 3 (some .boolean) ∈ GW := gwt7 211 rfl (by decide +kernel)
theorem mw_1727 : Cond.methodLink RX12 363 yX12_groupsOf ∈ GW := gwt7 212 rfl (by decide +kernel)
theorem mw_1728 : Cond.static yX12_groupsOf ∈ GW := gwt7 213 rfl (by decide +kernel)
theorem mw_1729 : Cond.code yX12_groupsOf prog_14_method_85_code 3 (some .int) ∈ GW := gwt7 214 rfl (by decide +kernel)
theorem mw_1730 : Cond.methodLink "MountPeersLaw" 114 yX12_keepers ∈ GW := gwt7 215 rfl (by decide +kernel)
theorem mw_1731 : Cond.instanceMethod yX12_keepers ∈ GW := gwt7 216 rfl (by decide +kernel)
theorem mw_1732 : Cond.selects RX12 yX12_keepers yX12_keepers ∈ GW := gwt7 217 rfl (by decide +kernel)
theorem mw_1733 : Cond.code yX12_keepers prog_14_method_87_code 5 (some .int) ∈ GW := gwt7 218 rfl (by decide +kernel)
theorem mw_1734 : Cond.methodLink "MountPeersLaw" 118 yX12_inside ∈ GW := gwt7 219 rfl (by decide +kernel)
theorem mw_1735 : Cond.instanceMethod yX12_inside ∈ GW := gwt7 220 rfl (by decide +kernel)
theorem mw_1736 : Cond.selects RX12 yX12_inside yX12_inside ∈ GW := gwt7 221 rfl (by decide +kernel)
theorem mw_1737 : Cond.code yX12_inside prog_14_method_89_code 5 (some .int) ∈ GW := gwt7 222 rfl (by decide +kernel)
theorem mw_1738 : Cond.methodLink RX12 366 yX12_insideOf ∈ GW := gwt7 223 rfl (by decide +kernel)
theorem mw_1739 : Cond.static yX12_insideOf ∈ GW := gwt7 224 rfl (by decide +kernel)
theorem mw_1740 : Cond.code yX12_insideOf prog_14_method_88_code 4 (some .int) ∈ GW := gwt7 225 rfl (by decide +kernel)
theorem mw_1741 : Cond.methodLink RX12 369 yJ9_max_7cf53 ∈ GW := gwt7 226 rfl (by decide +kernel)
theorem mw_1742 : Cond.methodLink "MountPeersLaw" 122 yX12_path ∈ GW := gwt7 227 rfl (by decide +kernel)
theorem mw_1743 : Cond.instanceMethod yX12_path ∈ GW := gwt7 228 rfl (by decide +kernel)
theorem mw_1744 : Cond.selects RX12 yX12_path yX12_path ∈ GW := gwt7 229 rfl (by decide +kernel)
theorem mw_1745 : Cond.code yX12_path prog_14_method_90_code 5 (some .int) ∈ GW := gwt7 230 rfl (by decide +kernel)
theorem mw_1746 : Cond.methodLink "MountPeersLaw" 126 yX12_alike ∈ GW := gwt7 231 rfl (by decide +kernel)
theorem mw_1747 : Cond.instanceMethod yX12_alike ∈ GW := gwt7 232 rfl (by decide +kernel)
theorem mw_1748 : Cond.selects RX12 yX12_alike yX12_alike ∈ GW := gwt7 233 rfl (by decide +kernel)
theorem mw_1749 : Cond.code yX12_alike prog_14_method_92_code 3 (some .int) ∈ GW := gwt7 234 rfl (by decide +kernel)
theorem mw_1750 : Cond.methodLink RX12 372 yX12_areAlike ∈ GW := gwt7 235 rfl (by decide +kernel)
theorem mw_1752 : Cond.instanceMethod yX12_areAlike ∈ GW := gwt7 237 rfl (by decide +kernel)
theorem mw_1753 : Cond.code yX12_areAlike prog_14_method_91_code 7 (some .boolean) ∈ GW := gwt7 238 rfl (by decide +kernel)
theorem mw_1754 : Cond.methodLink "MountPeersLaw" 130 yX12_largest ∈ GW := gwt7 239 rfl (by decide +kernel)
theorem mw_1755 : Cond.instanceMethod yX12_largest ∈ GW := gwt8 0 rfl (by decide +kernel)
theorem mw_1756 : Cond.selects RX12 yX12_largest yX12_largest ∈ GW := gwt8 1 rfl (by decide +kernel)
theorem mw_1757 : Cond.code yX12_largest prog_14_method_93_code 5 (some .int) ∈ GW := gwt8 2 rfl (by decide +kernel)
theorem mw_1758 : Cond.methodLink "MountPeersLaw" 134 yX12_would ∈ GW := gwt8 3 rfl (by decide +kernel)
theorem mw_1759 : Cond.instanceMethod yX12_would ∈ GW := gwt8 4 rfl (by decide +kernel)
theorem mw_1760 : Cond.selects RX12 yX12_would yX12_would ∈ GW := gwt8 5 rfl (by decide +kernel)
theorem mw_1761 : Cond.code yX12_would prog_14_method_94_code 6 (some .int) ∈ GW := gwt8 6 rfl (by decide +kernel)
theorem mw_1762 : Cond.methodLink "MountPeersLaw" 138 yX12_lost_ ∈ GW := gwt8 7 rfl (by decide +kernel)
theorem mw_1763 : Cond.instanceMethod yX12_lost_ ∈ GW := gwt8 8 rfl (by decide +kernel)
theorem mw_1764 : Cond.selects RX12 yX12_lost_ yX12_lost_ ∈ GW := gwt8 9 rfl (by decide +kernel)
theorem mw_1765 : Cond.code yX12_lost_ prog_14_method_95_code 4 (some .int) ∈ GW := gwt8 10 rfl (by decide +kernel)
theorem mw_1766 : Cond.methodLink "MountPeersLaw" 142 yX12_widest ∈ GW := gwt8 11 rfl (by decide +kernel)
theorem mw_1767 : Cond.instanceMethod yX12_widest ∈ GW := gwt8 12 rfl (by decide +kernel)
theorem mw_1768 : Cond.selects RX12 yX12_widest yX12_widest ∈ GW := gwt8 13 rfl (by decide +kernel)
theorem mw_1769 : Cond.code yX12_widest prog_14_method_96_code 6 (some .int) ∈ GW := gwt8 14 rfl (by decide +kernel)
theorem mw_1770 : Cond.methodLink "MountPeersLaw" 146 yX12_heard ∈ GW := gwt8 15 rfl (by decide +kernel)
theorem mw_1771 : Cond.instanceMethod yX12_heard ∈ GW := gwt8 16 rfl (by decide +kernel)
theorem mw_1772 : Cond.selects RX12 yX12_heard yX12_heard ∈ GW := gwt8 17 rfl (by decide +kernel)
theorem mw_1773 : Cond.code yX12_heard prog_14_method_98_code 3 (some .int) ∈ GW := gwt8 18 rfl (by decide +kernel)
theorem mw_1774 : Cond.methodLink RX12 375 yX12_highOf ∈ GW := gwt8 19 rfl (by decide +kernel)
theorem mw_1775 : Cond.static yX12_highOf ∈ GW := gwt8 20 rfl (by decide +kernel)
theorem mw_1776 : Cond.code yX12_highOf prog_14_method_97_code 1 (some .int) ∈ GW := gwt8 21 rfl (by decide +kernel)
theorem mw_1777 : Cond.methodLink "MountPeersLaw" 150 yX12_forget ∈ GW := gwt8 22 rfl (by decide +kernel)
theorem mw_1778 : Cond.instanceMethod yX12_forget ∈ GW := gwt8 23 rfl (by decide +kernel)
theorem mw_1779 : Cond.selects RX12 yX12_forget yX12_forget ∈ GW := gwt8 24 rfl (by decide +kernel)
theorem mw_1780 : Cond.code yX12_forget prog_14_method_99_code 2 (some .int) ∈ GW := gwt8 25 rfl (by decide +kernel)
theorem mw_1781 : Cond.methodLink "MountPeersLaw" 154 yX12_fits ∈ GW := gwt8 26 rfl (by decide +kernel)
theorem mw_1782 : Cond.instanceMethod yX12_fits ∈ GW := gwt8 27 rfl (by decide +kernel)
theorem mw_1783 : Cond.selects RX12 yX12_fits yX12_fits ∈ GW := gwt8 28 rfl (by decide +kernel)
theorem mw_1784 : Cond.code yX12_fits prog_14_method_102_code 1 (some .int) ∈ GW := gwt8 29 rfl (by decide +kernel)
theorem mw_1785 : Cond.methodLink RX12 384 yX12_fitting ∈ GW := gwt8 30 rfl (by decide +kernel)
theorem mw_1787 : Cond.instanceMethod yX12_fitting ∈ GW := gwt8 32 rfl (by decide +kernel)
theorem mw_1788 : Cond.code yX12_fitting prog_14_method_101_code 5 (some .int) ∈ GW := gwt8 33 rfl (by decide +kernel)
theorem mw_1789 : Cond.methodLink RX12 381 yX12_isSo ∈ GW := gwt8 34 rfl (by decide +kernel)
theorem mw_1791 : Cond.instanceMethod yX12_isSo ∈ GW := gwt8 36 rfl (by decide +kernel)
theorem mw_1792 : Cond.code yX12_isSo prog_14_method_100_code 4 (some .boolean) ∈ GW := gwt8 37 rfl (by decide +kernel)
theorem mw_1793 : Cond.methodLink "MountPeersLaw" 158 yX12_asks ∈ GW := gwt8 38 rfl (by decide +kernel)
theorem mw_1794 : Cond.instanceMethod yX12_asks ∈ GW := gwt8 39 rfl (by decide +kernel)
theorem mw_1795 : Cond.selects RX12 yX12_asks yX12_asks ∈ GW := gwt8 40 rfl (by decide +kernel)
theorem mw_1796 : Cond.code yX12_asks prog_14_method_103_code 7 (some .int) ∈ GW := gwt8 41 rfl (by decide +kernel)
theorem mw_1797 : Cond.constant RX12 387 (1000000 : Int32) ∈ GW := gwt8 42 rfl (by decide +kernel)
theorem mw_1798 : Cond.methodLink "MountPeersLaw" 162 yX12_saw ∈ GW := gwt8 43 rfl (by decide +kernel)
theorem mw_1799 : Cond.instanceMethod yX12_saw ∈ GW := gwt8 44 rfl (by decide +kernel)
theorem mw_1800 : Cond.selects RX12 yX12_saw yX12_saw ∈ GW := gwt8 45 rfl (by decide +kernel)
theorem mw_1801 : Cond.code yX12_saw prog_14_method_104_code 4 (some .int) ∈ GW := gwt8 46 rfl (by decide +kernel)
theorem mw_1802 : Cond.methodLink "MountPeersLaw" 166 yX12_denies ∈ GW := gwt8 47 rfl (by decide +kernel)
theorem mw_1803 : Cond.instanceMethod yX12_denies ∈ GW := gwt8 48 rfl (by decide +kernel)
theorem mw_1804 : Cond.selects RX12 yX12_denies yX12_denies ∈ GW := gwt8 49 rfl (by decide +kernel)
theorem mw_1805 : Cond.code yX12_denies prog_14_method_105_code 2 (some .int) ∈ GW := gwt8 50 rfl (by decide +kernel)
theorem mw_1806 : Cond.methodLink "MountPeersLaw" 170 yX12_laws ∈ GW := gwt8 51 rfl (by decide +kernel)
theorem mw_1807 : Cond.instanceMethod yX12_laws ∈ GW := gwt8 52 rfl (by decide +kernel)
theorem mw_1808 : Cond.selects RX12 yX12_laws yX12_laws ∈ GW := gwt8 53 rfl (by decide +kernel)
theorem mw_1809 : Cond.code yX12_laws prog_14_method_108_code 3 (some .int) ∈ GW := gwt8 54 rfl (by decide +kernel)
theorem mw_1810 : Cond.methodLink RX12 394 yX12_isLaw ∈ GW := gwt8 55 rfl (by decide +kernel)
theorem mw_1812 : Cond.instanceMethod yX12_isLaw ∈ GW := gwt8 57 rfl (by decide +kernel)
theorem mw_1813 : Cond.code yX12_isLaw prog_14_method_107_code 3 (some .boolean) ∈ GW := gwt8 58 rfl (by decide +kernel)
theorem mw_1814 : Cond.methodLink RX12 391 yX12_comesBy ∈ GW := gwt8 59 rfl (by decide +kernel)
theorem mw_1815 : Cond.static yX12_comesBy ∈ GW := gwt8 60 rfl (by decide +kernel)
theorem mw_1816 : Cond.code yX12_comesBy prog_14_method_106_code 3 (some .boolean) ∈ GW := gwt8 61 rfl (by decide +kernel)
theorem mw_1817 : Cond.methodLink "MountPeersLaw" 174 yX12_looks ∈ GW := gwt8 62 rfl (by decide +kernel)
theorem mw_1818 : Cond.instanceMethod yX12_looks ∈ GW := gwt8 63 rfl (by decide +kernel)
theorem mw_1819 : Cond.selects RX12 yX12_looks yX12_looks ∈ GW := gwt8 64 rfl (by decide +kernel)
theorem mw_1820 : Cond.code yX12_looks prog_14_method_109_code 8 (some .int) ∈ GW := gwt8 65 rfl (by decide +kernel)
theorem mw_1821 : Cond.methodLink "MountPeersLaw" 178 yX12_odds ∈ GW := gwt8 66 rfl (by decide +kernel)
theorem mw_1822 : Cond.instanceMethod yX12_odds ∈ GW := gwt8 67 rfl (by decide +kernel)
theorem mw_1823 : Cond.selects RX12 yX12_odds yX12_odds ∈ GW := gwt8 68 rfl (by decide +kernel)
theorem mw_1824 : Cond.code yX12_odds prog_14_method_111_code 11 (some .int) ∈ GW := gwt8 69 rfl (by decide +kernel)
theorem mw_1825 : Cond.constantLong RX12 401 (10 : Int64) ∈ GW := gwt8 70 rfl (by decide +kernel)
theorem mw_1826 : Cond.methodLink RX12 397 yX12_common ∈ GW := gwt8 71 rfl (by decide +kernel)
theorem mw_1827 : Cond.static yX12_common ∈ GW := gwt8 72 rfl (by decide +kernel)
theorem mw_1828 : Cond.code yX12_common prog_14_method_110_code 4 (some .long) ∈ GW := gwt8 73 rfl (by decide +kernel)
theorem mw_1829 : Cond.methodLink "MountPeersLaw" 182 yX12_hacks ∈ GW := gwt8 74 rfl (by decide +kernel)
theorem mw_1830 : Cond.instanceMethod yX12_hacks ∈ GW := gwt8 75 rfl (by decide +kernel)
theorem mw_1831 : Cond.selects RX12 yX12_hacks yX12_hacks ∈ GW := gwt8 76 rfl (by decide +kernel)
theorem mw_1832 : Cond.code yX12_hacks prog_14_method_114_code 4 (some .int) ∈ GW := gwt8 77 rfl (by decide +kernel)
theorem mw_1833 : Cond.methodLink RX12 406 yX12_goCut ∈ GW := gwt8 78 rfl (by decide +kernel)
theorem mw_1834 : Cond.static yX12_goCut ∈ GW := gwt8 79 rfl (by decide +kernel)
theorem mw_1835 : Cond.code yX12_goCut prog_14_method_113_code 4 none ∈ GW := gwt8 80 rfl (by decide +kernel)
theorem mw_1836 : Cond.methodLink RX12 403 yX12_worthOf ∈ GW := gwt8 81 rfl (by decide +kernel)
theorem mw_1837 : Cond.static yX12_worthOf ∈ GW := gwt8 82 rfl (by decide +kernel)
theorem mw_1838 : Cond.code yX12_worthOf prog_14_method_112_code 4 (some .int) ∈ GW := gwt8 83 rfl (by decide +kernel)
theorem mw_1839 : Cond.methodLink "MountPeersLaw" 186 yX12_rests ∈ GW := gwt8 84 rfl (by decide +kernel)
theorem mw_1840 : Cond.instanceMethod yX12_rests ∈ GW := gwt8 85 rfl (by decide +kernel)
theorem mw_1841 : Cond.selects RX12 yX12_rests yX12_rests ∈ GW := gwt8 86 rfl (by decide +kernel)
theorem mw_1842 : Cond.code yX12_rests prog_14_method_117_code 5 (some .int) ∈ GW := gwt8 87 rfl (by decide +kernel)
theorem mw_1843 : Cond.methodLink RX12 413 yX12_isBest ∈ GW := gwt8 88 rfl (by decide +kernel)
theorem mw_1844 : Cond.static yX12_isBest ∈ GW := gwt8 89 rfl (by decide +kernel)
theorem mw_1845 : Cond.code yX12_isBest prog_14_method_116_code 4 (some .boolean) ∈ GW := gwt8 90 rfl (by decide +kernel)
theorem mw_1846 : Cond.methodLink RX12 409 yX12_gets ∈ GW := gwt8 91 rfl (by decide +kernel)
theorem mw_1847 : Cond.static yX12_gets ∈ GW := gwt8 92 rfl (by decide +kernel)
theorem mw_1848 : Cond.code yX12_gets prog_14_method_115_code 3 (some .int) ∈ GW := gwt8 93 rfl (by decide +kernel)
theorem mw_1849 : Cond.methodLink "MountPeersLaw" 190 yX12_law ∈ GW := gwt8 94 rfl (by decide +kernel)
theorem mw_1850 : Cond.instanceMethod yX12_law ∈ GW := gwt8 95 rfl (by decide +kernel)
theorem mw_1851 : Cond.selects RX12 yX12_law yX12_law ∈ GW := gwt8 96 rfl (by decide +kernel)
theorem mw_1852 : Cond.code yX12_law prog_14_method_119_code 8 (some .int) ∈ GW := gwt8 97 rfl (by decide +kernel)
theorem mw_1853 : Cond.methodLink RX12 416 yX12_bringsOf ∈ GW := gwt8 98 rfl (by decide +kernel)
theorem mw_1855 : Cond.instanceMethod yX12_bringsOf ∈ GW := gwt8 100 rfl (by decide +kernel)
theorem mw_1856 : Cond.code yX12_bringsOf prog_14_method_118_code 3 (some .int) ∈ GW := gwt8 101 rfl (by decide +kernel)
theorem mw_1857 : Cond.methodLink "MountPeersLaw" 194 yX12_years ∈ GW := gwt8 102 rfl (by decide +kernel)
theorem mw_1858 : Cond.instanceMethod yX12_years ∈ GW := gwt8 103 rfl (by decide +kernel)
theorem mw_1859 : Cond.selects RX12 yX12_years yX12_years ∈ GW := gwt8 104 rfl (by decide +kernel)
theorem mw_1860 : Cond.code yX12_years prog_14_method_121_code 8 (some .int) ∈ GW := gwt8 105 rfl (by decide +kernel)
theorem mw_1861 : Cond.methodLink RX12 423 yX12_draw ∈ GW := gwt8 106 rfl (by decide +kernel)
theorem mw_1863 : Cond.instanceMethod yX12_draw ∈ GW := gwt8 108 rfl (by decide +kernel)
theorem mw_1864 : Cond.code yX12_draw prog_14_method_120_code 2 (some .int) ∈ GW := gwt8 109 rfl (by decide +kernel)
theorem mw_1865 : Cond.constant RX12 422 (1103515245 : Int32) ∈ GW := gwt8 110 rfl (by decide +kernel)
theorem mw_1866 : Cond.methodLink "MountPeersLaw" 198 yX12_keep ∈ GW := gwt8 111 rfl (by decide +kernel)
theorem mw_1867 : Cond.instanceMethod yX12_keep ∈ GW := gwt8 112 rfl (by decide +kernel)
theorem mw_1868 : Cond.selects RX12 yX12_keep yX12_keep ∈ GW := gwt8 113 rfl (by decide +kernel)
theorem mw_1869 : Cond.code yX12_keep prog_14_method_122_code 2 (some .boolean) ∈ GW := gwt8 114 rfl (by decide +kernel)
theorem mw_1870 : Cond.methodLink "MountPeersLaw" 202 yX12_again ∈ GW := gwt8 115 rfl (by decide +kernel)
theorem mw_1871 : Cond.instanceMethod yX12_again ∈ GW := gwt8 116 rfl (by decide +kernel)
theorem mw_1872 : Cond.selects RX12 yX12_again yX12_again ∈ GW := gwt8 117 rfl (by decide +kernel)
theorem mw_1873 : Cond.code yX12_again prog_14_method_123_code 3 (some .boolean) ∈ GW := gwt8 118 rfl (by decide +kernel)
theorem mw_1874 : Cond.methodLink "MountPeersLaw" 206 yX12_count ∈ GW := gwt8 119 rfl (by decide +kernel)
theorem mw_1875 : Cond.instanceMethod yX12_count ∈ GW := gwt8 120 rfl (by decide +kernel)
theorem mw_1876 : Cond.selects RX12 yX12_count yX12_count ∈ GW := gwt8 121 rfl (by decide +kernel)
theorem mw_1877 : Cond.code yX12_count prog_14_method_125_code 2 (some .int) ∈ GW := gwt8 122 rfl (by decide +kernel)
theorem mw_1878 : Cond.methodLink RX12 426 yX12_bitsOf ∈ GW := gwt8 123 rfl (by decide +kernel)
theorem mw_1880 : Cond.instanceMethod yX12_bitsOf ∈ GW := gwt8 125 rfl (by decide +kernel)
theorem mw_1881 : Cond.code yX12_bitsOf prog_14_method_124_code 4 (some .int) ∈ GW := gwt8 126 rfl (by decide +kernel)
theorem mw_1882 : Cond.methodLink "MountPeersLaw" 210 yX12_row ∈ GW := gwt8 127 rfl (by decide +kernel)
theorem mw_1883 : Cond.instanceMethod yX12_row ∈ GW := gwt8 128 rfl (by decide +kernel)
theorem mw_1884 : Cond.selects RX12 yX12_row yX12_row ∈ GW := gwt8 129 rfl (by decide +kernel)
theorem mw_1885 : Cond.code yX12_row prog_14_method_126_code 2 (some .long) ∈ GW := gwt8 130 rfl (by decide +kernel)
theorem mw_1903 : Cond.fieldLink "java/lang/String" 15 "java/lang/String" "coder" "B" ∈ GW := gwt8 148 rfl (by decide +kernel)
theorem mw_1904 : Cond.fieldLink "java/lang/String" 9 "java/lang/String" "value" "[B" ∈ GW := gwt8 149 rfl (by decide +kernel)
def NWf : List (String × Nat × String × String × String × String) := [("MountPeers$Guess", 32, "MountPeers$Tree", "there", "I", "MountPeers"), ("MountPeers$Rule", 91, "MountPeers$Tree", "there", "I", "MountPeers"), ("MountPeers", 218, "MountPeers$Tree", "there", "I", "MountPeers"), ("MountPeers", 179, "MountPeers$Tree", "unbindable", "I", "MountPeers"), ("MountPeers$Acts", 86, "MountPeers$Tree", "acts", "I", "MountPeers"), ("MountPeers$Rule", 124, "MountPeers$Tree", "acts", "I", "MountPeers"), ("MountPeers", 395, "MountPeers$Tree", "acts", "I", "MountPeers"), ("MountPeers", 397, "MountPeers$Tree", "nextGroup", "I", "MountPeers"), ("MountPeers", 249, "MountPeers$History", "size", "I", "MountPeers"), ("MountPeers$Day", 23, "MountPeers$Text", "size", "I", "MountPeers"), ("MountPeers", 106, "MountPeers$Text", "size", "I", "MountPeers"), ("MountPeers$Rule", 44, "MountPeers$Text", "size", "I", "MountPeers"), ("MountPeers", 268, "MountPeers$Row", "size", "I", "MountPeers"), ("MountPeers", 128, "MountPeers$Path", "mount", "I", "MountPeers"), ("MountPeers$Day", 58, "MountPeers$Path", "mount", "I", "MountPeers"), ("MountPeers", 131, "MountPeers$Path", "dir", "I", "MountPeers"), ("MountPeers$Day", 61, "MountPeers$Path", "dir", "I", "MountPeers"), ("MountPeers", 314, "MountPeers$Guess", "size", "I", "MountPeers"), ("MountPeers", 321, "MountPeers$Guess", "mostLeft", "I", "MountPeers"), ("MountPeers", 327, "MountPeers$LawBook", "size", "I", "MountPeers"), ("MountPeers", 345, "MountPeers$LawBook", "mostLeft", "I", "MountPeers"), ("MountPeers", 350, "MountPeers$Chance", "upper", "J", "MountPeers"), ("MountPeers", 354, "MountPeers$Chance", "lower", "J", "MountPeers")]
def NWm : List (String × Nat × MethodName × String) := [("MountPeers", 21, yX4_init, "MountPeers"), ("MountPeers", 32, yX9_init, "MountPeers"), ("MountPeers", 39, yX7_init, "MountPeers"), ("MountPeers", 46, yX8_init, "MountPeers"), ("MountPeers", 65, yX6_init, "MountPeers"), ("MountPeers", 90, yX5_init, "MountPeers"), ("MountPeers", 97, yX1_init, "MountPeers")]
theorem nwf_119 : ("MountPeers$Guess", 32, "MountPeers$Tree", "there", "I", "MountPeers") ∈ NWf := List.mem_of_getElem? (i := 0) rfl
theorem nwf_120 : ("MountPeers$Rule", 91, "MountPeers$Tree", "there", "I", "MountPeers") ∈ NWf := List.mem_of_getElem? (i := 1) rfl
theorem nwf_121 : ("MountPeers", 218, "MountPeers$Tree", "there", "I", "MountPeers") ∈ NWf := List.mem_of_getElem? (i := 2) rfl
theorem nwf_123 : ("MountPeers", 179, "MountPeers$Tree", "unbindable", "I", "MountPeers") ∈ NWf := List.mem_of_getElem? (i := 3) rfl
theorem nwf_125 : ("MountPeers$Acts", 86, "MountPeers$Tree", "acts", "I", "MountPeers") ∈ NWf := List.mem_of_getElem? (i := 4) rfl
theorem nwf_126 : ("MountPeers$Rule", 124, "MountPeers$Tree", "acts", "I", "MountPeers") ∈ NWf := List.mem_of_getElem? (i := 5) rfl
theorem nwf_127 : ("MountPeers", 395, "MountPeers$Tree", "acts", "I", "MountPeers") ∈ NWf := List.mem_of_getElem? (i := 6) rfl
theorem nwf_129 : ("MountPeers", 397, "MountPeers$Tree", "nextGroup", "I", "MountPeers") ∈ NWf := List.mem_of_getElem? (i := 7) rfl
theorem nwf_157 : ("MountPeers", 249, "MountPeers$History", "size", "I", "MountPeers") ∈ NWf := List.mem_of_getElem? (i := 8) rfl
theorem nwf_173 : ("MountPeers$Day", 23, "MountPeers$Text", "size", "I", "MountPeers") ∈ NWf := List.mem_of_getElem? (i := 9) rfl
theorem nwf_174 : ("MountPeers", 106, "MountPeers$Text", "size", "I", "MountPeers") ∈ NWf := List.mem_of_getElem? (i := 10) rfl
theorem nwf_175 : ("MountPeers$Rule", 44, "MountPeers$Text", "size", "I", "MountPeers") ∈ NWf := List.mem_of_getElem? (i := 11) rfl
theorem nwf_189 : ("MountPeers", 268, "MountPeers$Row", "size", "I", "MountPeers") ∈ NWf := List.mem_of_getElem? (i := 12) rfl
theorem nwf_256 : ("MountPeers", 128, "MountPeers$Path", "mount", "I", "MountPeers") ∈ NWf := List.mem_of_getElem? (i := 13) rfl
theorem nwf_257 : ("MountPeers$Day", 58, "MountPeers$Path", "mount", "I", "MountPeers") ∈ NWf := List.mem_of_getElem? (i := 14) rfl
theorem nwf_259 : ("MountPeers", 131, "MountPeers$Path", "dir", "I", "MountPeers") ∈ NWf := List.mem_of_getElem? (i := 15) rfl
theorem nwf_260 : ("MountPeers$Day", 61, "MountPeers$Path", "dir", "I", "MountPeers") ∈ NWf := List.mem_of_getElem? (i := 16) rfl
theorem nwf_298 : ("MountPeers", 314, "MountPeers$Guess", "size", "I", "MountPeers") ∈ NWf := List.mem_of_getElem? (i := 17) rfl
theorem nwf_301 : ("MountPeers", 321, "MountPeers$Guess", "mostLeft", "I", "MountPeers") ∈ NWf := List.mem_of_getElem? (i := 18) rfl
theorem nwf_325 : ("MountPeers", 327, "MountPeers$LawBook", "size", "I", "MountPeers") ∈ NWf := List.mem_of_getElem? (i := 19) rfl
theorem nwf_327 : ("MountPeers", 345, "MountPeers$LawBook", "mostLeft", "I", "MountPeers") ∈ NWf := List.mem_of_getElem? (i := 20) rfl
theorem nwf_347 : ("MountPeers", 350, "MountPeers$Chance", "upper", "J", "MountPeers") ∈ NWf := List.mem_of_getElem? (i := 21) rfl
theorem nwf_349 : ("MountPeers", 354, "MountPeers$Chance", "lower", "J", "MountPeers") ∈ NWf := List.mem_of_getElem? (i := 22) rfl
theorem nwm_148 : ("MountPeers", 21, yX4_init, "MountPeers") ∈ NWm := List.mem_of_getElem? (i := 0) rfl
theorem nwm_167 : ("MountPeers", 32, yX9_init, "MountPeers") ∈ NWm := List.mem_of_getElem? (i := 1) rfl
theorem nwm_183 : ("MountPeers", 39, yX7_init, "MountPeers") ∈ NWm := List.mem_of_getElem? (i := 2) rfl
theorem nwm_198 : ("MountPeers", 46, yX8_init, "MountPeers") ∈ NWm := List.mem_of_getElem? (i := 3) rfl
theorem nwm_251 : ("MountPeers", 65, yX6_init, "MountPeers") ∈ NWm := List.mem_of_getElem? (i := 4) rfl
theorem nwm_317 : ("MountPeers", 90, yX5_init, "MountPeers") ∈ NWm := List.mem_of_getElem? (i := 5) rfl
theorem nwm_341 : ("MountPeers", 97, yX1_init, "MountPeers") ∈ NWm := List.mem_of_getElem? (i := 6) rfl
theorem igX0 : ∀ w ∈ u_ws RX0 TX0 3, w ∈ GW := by
  intro w hw
  obtain ⟨k, hk, rfl⟩ := List.mem_map.mp hw
  have hk := List.mem_range.mp hk
  match k, hk with
  | 0, _ => exact mw_242
  | 1, _ => exact mw_244
  | 2, _ => exact mw_246
  | k + 3, hk => exact absurd hk (by omega)
theorem igX1 : ∀ w ∈ u_ws RX1 TX1 3, w ∈ GW := by
  intro w hw
  obtain ⟨k, hk, rfl⟩ := List.mem_map.mp hw
  have hk := List.mem_range.mp hk
  match k, hk with
  | 0, _ => exact mw_350
  | 1, _ => exact mw_352
  | 2, _ => exact mw_354
  | k + 3, hk => exact absurd hk (by omega)
theorem igX2 : ∀ w ∈ u_ws RX2 TX2 5, w ∈ GW := by
  intro w hw
  obtain ⟨k, hk, rfl⟩ := List.mem_map.mp hw
  have hk := List.mem_range.mp hk
  match k, hk with
  | 0, _ => exact mw_277
  | 1, _ => exact mw_279
  | 2, _ => exact mw_281
  | 3, _ => exact mw_283
  | 4, _ => exact mw_285
  | k + 5, hk => exact absurd hk (by omega)
theorem igX3 : ∀ w ∈ u_ws RX3 TX3 6, w ∈ GW := by
  intro w hw
  obtain ⟨k, hk, rfl⟩ := List.mem_map.mp hw
  have hk := List.mem_range.mp hk
  match k, hk with
  | 0, _ => exact mw_302
  | 1, _ => exact mw_304
  | 2, _ => exact mw_306
  | 3, _ => exact mw_308
  | 4, _ => exact mw_310
  | 5, _ => exact mw_312
  | k + 6, hk => exact absurd hk (by omega)
theorem igX4 : ∀ w ∈ u_ws RX4 TX4 3, w ∈ GW := by
  intro w hw
  obtain ⟨k, hk, rfl⟩ := List.mem_map.mp hw
  have hk := List.mem_range.mp hk
  match k, hk with
  | 0, _ => exact mw_158
  | 1, _ => exact mw_160
  | 2, _ => exact mw_162
  | k + 3, hk => exact absurd hk (by omega)
theorem igX5 : ∀ w ∈ u_ws RX5 TX5 5, w ∈ GW := by
  intro w hw
  obtain ⟨k, hk, rfl⟩ := List.mem_map.mp hw
  have hk := List.mem_range.mp hk
  match k, hk with
  | 0, _ => exact mw_328
  | 1, _ => exact mw_330
  | 2, _ => exact mw_332
  | 3, _ => exact mw_334
  | 4, _ => exact mw_336
  | k + 5, hk => exact absurd hk (by omega)
theorem igX6 : ∀ w ∈ u_ws RX6 TX6 2, w ∈ GW := by
  intro w hw
  obtain ⟨k, hk, rfl⟩ := List.mem_map.mp hw
  have hk := List.mem_range.mp hk
  match k, hk with
  | 0, _ => exact mw_261
  | 1, _ => exact mw_263
  | k + 2, hk => exact absurd hk (by omega)
theorem igX7 : ∀ w ∈ u_ws RX7 TX7 2, w ∈ GW := by
  intro w hw
  obtain ⟨k, hk, rfl⟩ := List.mem_map.mp hw
  have hk := List.mem_range.mp hk
  match k, hk with
  | 0, _ => exact mw_190
  | 1, _ => exact mw_192
  | k + 2, hk => exact absurd hk (by omega)
theorem igX8 : ∀ w ∈ u_ws RX8 TX8 10, w ∈ GW := by
  intro w hw
  obtain ⟨k, hk, rfl⟩ := List.mem_map.mp hw
  have hk := List.mem_range.mp hk
  match k, hk with
  | 0, _ => exact mw_212
  | 1, _ => exact mw_214
  | 2, _ => exact mw_216
  | 3, _ => exact mw_218
  | 4, _ => exact mw_220
  | 5, _ => exact mw_222
  | 6, _ => exact mw_224
  | 7, _ => exact mw_226
  | 8, _ => exact mw_228
  | 9, _ => exact mw_230
  | k + 10, hk => exact absurd hk (by omega)
theorem igX9 : ∀ w ∈ u_ws RX9 TX9 2, w ∈ GW := by
  intro w hw
  obtain ⟨k, hk, rfl⟩ := List.mem_map.mp hw
  have hk := List.mem_range.mp hk
  match k, hk with
  | 0, _ => exact mw_176
  | 1, _ => exact mw_178
  | k + 2, hk => exact absurd hk (by omega)
theorem igX10 : ∀ w ∈ u_ws RX10 TX10 7, w ∈ GW := by
  intro w hw
  obtain ⟨k, hk, rfl⟩ := List.mem_map.mp hw
  have hk := List.mem_range.mp hk
  match k, hk with
  | 0, _ => exact mw_130
  | 1, _ => exact mw_132
  | 2, _ => exact mw_134
  | 3, _ => exact mw_136
  | 4, _ => exact mw_138
  | 5, _ => exact mw_140
  | 6, _ => exact mw_142
  | k + 7, hk => exact absurd hk (by omega)
theorem igX11 : ∀ w ∈ u_ws RX11 TX11 15, w ∈ GW := by
  intro w hw
  obtain ⟨k, hk, rfl⟩ := List.mem_map.mp hw
  have hk := List.mem_range.mp hk
  match k, hk with
  | 0, _ => exact mw_372
  | 1, _ => exact mw_374
  | 2, _ => exact mw_376
  | 3, _ => exact mw_378
  | 4, _ => exact mw_380
  | 5, _ => exact mw_382
  | 6, _ => exact mw_384
  | 7, _ => exact mw_386
  | 8, _ => exact mw_388
  | 9, _ => exact mw_390
  | 10, _ => exact mw_392
  | 11, _ => exact mw_394
  | 12, _ => exact mw_396
  | 13, _ => exact mw_398
  | 14, _ => exact mw_400
  | k + 15, hk => exact absurd hk (by omega)
theorem igX12 : ∀ w ∈ u_ws RX12 TX12 42, w ∈ GW := by
  intro w hw
  obtain ⟨k, hk, rfl⟩ := List.mem_map.mp hw
  have hk := List.mem_range.mp hk
  match k, hk with
  | 0, _ => exact mw_1326
  | 1, _ => exact mw_1328
  | 2, _ => exact mw_1330
  | 3, _ => exact mw_1332
  | 4, _ => exact mw_1334
  | 5, _ => exact mw_1336
  | 6, _ => exact mw_1338
  | 7, _ => exact mw_1340
  | 8, _ => exact mw_1342
  | 9, _ => exact mw_1344
  | 10, _ => exact mw_1346
  | 11, _ => exact mw_1348
  | 12, _ => exact mw_1350
  | 13, _ => exact mw_1352
  | 14, _ => exact mw_1354
  | 15, _ => exact mw_1356
  | 16, _ => exact mw_1358
  | 17, _ => exact mw_1360
  | 18, _ => exact mw_1362
  | 19, _ => exact mw_1364
  | 20, _ => exact mw_1366
  | 21, _ => exact mw_1368
  | 22, _ => exact mw_1370
  | 23, _ => exact mw_1372
  | 24, _ => exact mw_1374
  | 25, _ => exact mw_1376
  | 26, _ => exact mw_1378
  | 27, _ => exact mw_1380
  | 28, _ => exact mw_1382
  | 29, _ => exact mw_1384
  | 30, _ => exact mw_1386
  | 31, _ => exact mw_1388
  | 32, _ => exact mw_1390
  | 33, _ => exact mw_1392
  | 34, _ => exact mw_1394
  | 35, _ => exact mw_1396
  | 36, _ => exact mw_1398
  | 37, _ => exact mw_1400
  | 38, _ => exact mw_1402
  | 39, _ => exact mw_1404
  | 40, _ => exact mw_1406
  | 41, _ => exact mw_1408
  | k + 42, hk => exact absurd hk (by omega)
theorem hd_X0_init : yX0_init.cls ≠ "java/lang/invoke/MethodHandle" ∧ yX0_init.cls ≠ "java/lang/invoke/VarHandle" ∧ (parseMethodDescriptor yX0_init.desc).map (fun d => d.parameters.length) = some 2 := by decide +kernel
theorem hv_X0_init : yX0_init.cls = RX0 ∧ yX0_init.cls ≠ "java/lang/invoke/MethodHandle" ∧ yX0_init.cls ≠ "java/lang/invoke/VarHandle" ∧ (parseMethodDescriptor yX0_init.desc).map (fun d => d.parameters.length) = some 2 := ⟨rfl, hd_X0_init⟩
theorem hd_X0_parentsBy : yX0_parentsBy.cls ≠ "java/lang/invoke/MethodHandle" ∧ yX0_parentsBy.cls ≠ "java/lang/invoke/VarHandle" ∧ (parseMethodDescriptor yX0_parentsBy.desc).map (fun d => d.parameters.length) = some 3 := by decide +kernel
theorem hv_X0_parentsBy : yX0_parentsBy.cls = RX0 ∧ yX0_parentsBy.cls ≠ "java/lang/invoke/MethodHandle" ∧ yX0_parentsBy.cls ≠ "java/lang/invoke/VarHandle" ∧ (parseMethodDescriptor yX0_parentsBy.desc).map (fun d => d.parameters.length) = some 3 := ⟨rfl, hd_X0_parentsBy⟩
theorem hd_X0_mountNew : yX0_mountNew.cls ≠ "java/lang/invoke/MethodHandle" ∧ yX0_mountNew.cls ≠ "java/lang/invoke/VarHandle" ∧ (parseMethodDescriptor yX0_mountNew.desc).map (fun d => d.parameters.length) = some 2 := by decide +kernel
theorem hv_X0_mountNew : yX0_mountNew.cls = RX0 ∧ yX0_mountNew.cls ≠ "java/lang/invoke/MethodHandle" ∧ yX0_mountNew.cls ≠ "java/lang/invoke/VarHandle" ∧ (parseMethodDescriptor yX0_mountNew.desc).map (fun d => d.parameters.length) = some 2 := ⟨rfl, hd_X0_mountNew⟩
theorem hd_X0_bindOne : yX0_bindOne.cls ≠ "java/lang/invoke/MethodHandle" ∧ yX0_bindOne.cls ≠ "java/lang/invoke/VarHandle" ∧ (parseMethodDescriptor yX0_bindOne.desc).map (fun d => d.parameters.length) = some 3 := by decide +kernel
theorem hv_X0_bindOne : yX0_bindOne.cls = RX0 ∧ yX0_bindOne.cls ≠ "java/lang/invoke/MethodHandle" ∧ yX0_bindOne.cls ≠ "java/lang/invoke/VarHandle" ∧ (parseMethodDescriptor yX0_bindOne.desc).map (fun d => d.parameters.length) = some 3 := ⟨rfl, hd_X0_bindOne⟩
theorem hd_X0_bring : yX0_bring.cls ≠ "java/lang/invoke/MethodHandle" ∧ yX0_bring.cls ≠ "java/lang/invoke/VarHandle" ∧ (parseMethodDescriptor yX0_bring.desc).map (fun d => d.parameters.length) = some 4 := by decide +kernel
theorem hv_X0_bring : yX0_bring.cls = RX0 ∧ yX0_bring.cls ≠ "java/lang/invoke/MethodHandle" ∧ yX0_bring.cls ≠ "java/lang/invoke/VarHandle" ∧ (parseMethodDescriptor yX0_bring.desc).map (fun d => d.parameters.length) = some 4 := ⟨rfl, hd_X0_bring⟩
theorem hd_X0_nameHeirs : yX0_nameHeirs.cls ≠ "java/lang/invoke/MethodHandle" ∧ yX0_nameHeirs.cls ≠ "java/lang/invoke/VarHandle" ∧ (parseMethodDescriptor yX0_nameHeirs.desc).map (fun d => d.parameters.length) = some 3 := by decide +kernel
theorem hv_X0_nameHeirs : yX0_nameHeirs.cls = RX0 ∧ yX0_nameHeirs.cls ≠ "java/lang/invoke/MethodHandle" ∧ yX0_nameHeirs.cls ≠ "java/lang/invoke/VarHandle" ∧ (parseMethodDescriptor yX0_nameHeirs.desc).map (fun d => d.parameters.length) = some 3 := ⟨rfl, hd_X0_nameHeirs⟩
theorem hd_X0_heirOf : yX0_heirOf.cls ≠ "java/lang/invoke/MethodHandle" ∧ yX0_heirOf.cls ≠ "java/lang/invoke/VarHandle" ∧ (parseMethodDescriptor yX0_heirOf.desc).map (fun d => d.parameters.length) = some 2 := by decide +kernel
theorem hv_X0_heirOf : yX0_heirOf.cls = RX0 ∧ yX0_heirOf.cls ≠ "java/lang/invoke/MethodHandle" ∧ yX0_heirOf.cls ≠ "java/lang/invoke/VarHandle" ∧ (parseMethodDescriptor yX0_heirOf.desc).map (fun d => d.parameters.length) = some 2 := ⟨rfl, hd_X0_heirOf⟩
theorem hd_X0_bindTree : yX0_bindTree.cls ≠ "java/lang/invoke/MethodHandle" ∧ yX0_bindTree.cls ≠ "java/lang/invoke/VarHandle" ∧ (parseMethodDescriptor yX0_bindTree.desc).map (fun d => d.parameters.length) = some 3 := by decide +kernel
theorem hv_X0_bindTree : yX0_bindTree.cls = RX0 ∧ yX0_bindTree.cls ≠ "java/lang/invoke/MethodHandle" ∧ yX0_bindTree.cls ≠ "java/lang/invoke/VarHandle" ∧ (parseMethodDescriptor yX0_bindTree.desc).map (fun d => d.parameters.length) = some 3 := ⟨rfl, hd_X0_bindTree⟩
theorem hd_X0_bindableTree : yX0_bindableTree.cls ≠ "java/lang/invoke/MethodHandle" ∧ yX0_bindableTree.cls ≠ "java/lang/invoke/VarHandle" ∧ (parseMethodDescriptor yX0_bindableTree.desc).map (fun d => d.parameters.length) = some 1 := by decide +kernel
theorem hv_X0_bindableTree : yX0_bindableTree.cls = RX0 ∧ yX0_bindableTree.cls ≠ "java/lang/invoke/MethodHandle" ∧ yX0_bindableTree.cls ≠ "java/lang/invoke/VarHandle" ∧ (parseMethodDescriptor yX0_bindableTree.desc).map (fun d => d.parameters.length) = some 1 := ⟨rfl, hd_X0_bindableTree⟩
theorem hd_X0_copyTree : yX0_copyTree.cls ≠ "java/lang/invoke/MethodHandle" ∧ yX0_copyTree.cls ≠ "java/lang/invoke/VarHandle" ∧ (parseMethodDescriptor yX0_copyTree.desc).map (fun d => d.parameters.length) = some 5 := by decide +kernel
theorem hv_X0_copyTree : yX0_copyTree.cls = RX0 ∧ yX0_copyTree.cls ≠ "java/lang/invoke/MethodHandle" ∧ yX0_copyTree.cls ≠ "java/lang/invoke/VarHandle" ∧ (parseMethodDescriptor yX0_copyTree.desc).map (fun d => d.parameters.length) = some 5 := ⟨rfl, hd_X0_copyTree⟩
theorem hd_X0_makeKind : yX0_makeKind.cls ≠ "java/lang/invoke/MethodHandle" ∧ yX0_makeKind.cls ≠ "java/lang/invoke/VarHandle" ∧ (parseMethodDescriptor yX0_makeKind.desc).map (fun d => d.parameters.length) = some 2 := by decide +kernel
theorem hv_X0_makeKind : yX0_makeKind.cls = RX0 ∧ yX0_makeKind.cls ≠ "java/lang/invoke/MethodHandle" ∧ yX0_makeKind.cls ≠ "java/lang/invoke/VarHandle" ∧ (parseMethodDescriptor yX0_makeKind.desc).map (fun d => d.parameters.length) = some 2 := ⟨rfl, hd_X0_makeKind⟩
theorem hd_X0_goers : yX0_goers.cls ≠ "java/lang/invoke/MethodHandle" ∧ yX0_goers.cls ≠ "java/lang/invoke/VarHandle" ∧ (parseMethodDescriptor yX0_goers.desc).map (fun d => d.parameters.length) = some 2 := by decide +kernel
theorem hv_X0_goers : yX0_goers.cls = RX0 ∧ yX0_goers.cls ≠ "java/lang/invoke/MethodHandle" ∧ yX0_goers.cls ≠ "java/lang/invoke/VarHandle" ∧ (parseMethodDescriptor yX0_goers.desc).map (fun d => d.parameters.length) = some 2 := ⟨rfl, hd_X0_goers⟩
theorem hd_X0_unmount : yX0_unmount.cls ≠ "java/lang/invoke/MethodHandle" ∧ yX0_unmount.cls ≠ "java/lang/invoke/VarHandle" ∧ (parseMethodDescriptor yX0_unmount.desc).map (fun d => d.parameters.length) = some 2 := by decide +kernel
theorem hv_X0_unmount : yX0_unmount.cls = RX0 ∧ yX0_unmount.cls ≠ "java/lang/invoke/MethodHandle" ∧ yX0_unmount.cls ≠ "java/lang/invoke/VarHandle" ∧ (parseMethodDescriptor yX0_unmount.desc).map (fun d => d.parameters.length) = some 2 := ⟨rfl, hd_X0_unmount⟩
theorem hd_X0_move : yX0_move.cls ≠ "java/lang/invoke/MethodHandle" ∧ yX0_move.cls ≠ "java/lang/invoke/VarHandle" ∧ (parseMethodDescriptor yX0_move.desc).map (fun d => d.parameters.length) = some 3 := by decide +kernel
theorem hv_X0_move : yX0_move.cls = RX0 ∧ yX0_move.cls ≠ "java/lang/invoke/MethodHandle" ∧ yX0_move.cls ≠ "java/lang/invoke/VarHandle" ∧ (parseMethodDescriptor yX0_move.desc).map (fun d => d.parameters.length) = some 3 := ⟨rfl, hd_X0_move⟩
theorem hd_X1_init : yX1_init.cls ≠ "java/lang/invoke/MethodHandle" ∧ yX1_init.cls ≠ "java/lang/invoke/VarHandle" ∧ (parseMethodDescriptor yX1_init.desc).map (fun d => d.parameters.length) = some 0 := by decide +kernel
theorem hv_X1_init : yX1_init.cls = RX1 ∧ yX1_init.cls ≠ "java/lang/invoke/MethodHandle" ∧ yX1_init.cls ≠ "java/lang/invoke/VarHandle" ∧ (parseMethodDescriptor yX1_init.desc).map (fun d => d.parameters.length) = some 0 := ⟨rfl, hd_X1_init⟩
theorem hd_X1_reckon : yX1_reckon.cls ≠ "java/lang/invoke/MethodHandle" ∧ yX1_reckon.cls ≠ "java/lang/invoke/VarHandle" ∧ (parseMethodDescriptor yX1_reckon.desc).map (fun d => d.parameters.length) = some 3 := by decide +kernel
theorem hv_X1_reckon : yX1_reckon.cls = RX1 ∧ yX1_reckon.cls ≠ "java/lang/invoke/MethodHandle" ∧ yX1_reckon.cls ≠ "java/lang/invoke/VarHandle" ∧ (parseMethodDescriptor yX1_reckon.desc).map (fun d => d.parameters.length) = some 3 := ⟨rfl, hd_X1_reckon⟩
theorem hd_X1_countCases : yX1_countCases.cls ≠ "java/lang/invoke/MethodHandle" ∧ yX1_countCases.cls ≠ "java/lang/invoke/VarHandle" ∧ (parseMethodDescriptor yX1_countCases.desc).map (fun d => d.parameters.length) = some 2 := by decide +kernel
theorem hv_X1_countCases : yX1_countCases.cls = RX1 ∧ yX1_countCases.cls ≠ "java/lang/invoke/MethodHandle" ∧ yX1_countCases.cls ≠ "java/lang/invoke/VarHandle" ∧ (parseMethodDescriptor yX1_countCases.desc).map (fun d => d.parameters.length) = some 2 := ⟨rfl, hd_X1_countCases⟩
theorem hd_X1_commonDivisor : yX1_commonDivisor.cls ≠ "java/lang/invoke/MethodHandle" ∧ yX1_commonDivisor.cls ≠ "java/lang/invoke/VarHandle" ∧ (parseMethodDescriptor yX1_commonDivisor.desc).map (fun d => d.parameters.length) = some 2 := by decide +kernel
theorem hv_X1_commonDivisor : yX1_commonDivisor.cls = RX1 ∧ yX1_commonDivisor.cls ≠ "java/lang/invoke/MethodHandle" ∧ yX1_commonDivisor.cls ≠ "java/lang/invoke/VarHandle" ∧ (parseMethodDescriptor yX1_commonDivisor.desc).map (fun d => d.parameters.length) = some 2 := ⟨rfl, hd_X1_commonDivisor⟩
theorem hd_X2_init : yX2_init.cls ≠ "java/lang/invoke/MethodHandle" ∧ yX2_init.cls ≠ "java/lang/invoke/VarHandle" ∧ (parseMethodDescriptor yX2_init.desc).map (fun d => d.parameters.length) = some 3 := by decide +kernel
theorem hv_X2_init : yX2_init.cls = RX2 ∧ yX2_init.cls ≠ "java/lang/invoke/MethodHandle" ∧ yX2_init.cls ≠ "java/lang/invoke/VarHandle" ∧ (parseMethodDescriptor yX2_init.desc).map (fun d => d.parameters.length) = some 3 := ⟨rfl, hd_X2_init⟩
theorem hd_X2_read : yX2_read.cls ≠ "java/lang/invoke/MethodHandle" ∧ yX2_read.cls ≠ "java/lang/invoke/VarHandle" ∧ (parseMethodDescriptor yX2_read.desc).map (fun d => d.parameters.length) = some 1 := by decide +kernel
theorem hv_X2_read : yX2_read.cls = RX2 ∧ yX2_read.cls ≠ "java/lang/invoke/MethodHandle" ∧ yX2_read.cls ≠ "java/lang/invoke/VarHandle" ∧ (parseMethodDescriptor yX2_read.desc).map (fun d => d.parameters.length) = some 1 := ⟨rfl, hd_X2_read⟩
theorem hd_X2_dueBehind : yX2_dueBehind.cls ≠ "java/lang/invoke/MethodHandle" ∧ yX2_dueBehind.cls ≠ "java/lang/invoke/VarHandle" ∧ (parseMethodDescriptor yX2_dueBehind.desc).map (fun d => d.parameters.length) = some 3 := by decide +kernel
theorem hv_X2_dueBehind : yX2_dueBehind.cls = RX2 ∧ yX2_dueBehind.cls ≠ "java/lang/invoke/MethodHandle" ∧ yX2_dueBehind.cls ≠ "java/lang/invoke/VarHandle" ∧ (parseMethodDescriptor yX2_dueBehind.desc).map (fun d => d.parameters.length) = some 3 := ⟨rfl, hd_X2_dueBehind⟩
theorem hd_X2_dueBehindAct : yX2_dueBehindAct.cls ≠ "java/lang/invoke/MethodHandle" ∧ yX2_dueBehindAct.cls ≠ "java/lang/invoke/VarHandle" ∧ (parseMethodDescriptor yX2_dueBehindAct.desc).map (fun d => d.parameters.length) = some 1 := by decide +kernel
theorem hv_X2_dueBehindAct : yX2_dueBehindAct.cls = RX2 ∧ yX2_dueBehindAct.cls ≠ "java/lang/invoke/MethodHandle" ∧ yX2_dueBehindAct.cls ≠ "java/lang/invoke/VarHandle" ∧ (parseMethodDescriptor yX2_dueBehindAct.desc).map (fun d => d.parameters.length) = some 1 := ⟨rfl, hd_X2_dueBehindAct⟩
theorem hd_X2_dueInPath : yX2_dueInPath.cls ≠ "java/lang/invoke/MethodHandle" ∧ yX2_dueInPath.cls ≠ "java/lang/invoke/VarHandle" ∧ (parseMethodDescriptor yX2_dueInPath.desc).map (fun d => d.parameters.length) = some 3 := by decide +kernel
theorem hv_X2_dueInPath : yX2_dueInPath.cls = RX2 ∧ yX2_dueInPath.cls ≠ "java/lang/invoke/MethodHandle" ∧ yX2_dueInPath.cls ≠ "java/lang/invoke/VarHandle" ∧ (parseMethodDescriptor yX2_dueInPath.desc).map (fun d => d.parameters.length) = some 3 := ⟨rfl, hd_X2_dueInPath⟩
theorem hd_X2_begin : yX2_begin.cls ≠ "java/lang/invoke/MethodHandle" ∧ yX2_begin.cls ≠ "java/lang/invoke/VarHandle" ∧ (parseMethodDescriptor yX2_begin.desc).map (fun d => d.parameters.length) = some 0 := by decide +kernel
theorem hv_X2_begin : yX2_begin.cls = RX2 ∧ yX2_begin.cls ≠ "java/lang/invoke/MethodHandle" ∧ yX2_begin.cls ≠ "java/lang/invoke/VarHandle" ∧ (parseMethodDescriptor yX2_begin.desc).map (fun d => d.parameters.length) = some 0 := ⟨rfl, hd_X2_begin⟩
theorem hd_X2_hasMore : yX2_hasMore.cls ≠ "java/lang/invoke/MethodHandle" ∧ yX2_hasMore.cls ≠ "java/lang/invoke/VarHandle" ∧ (parseMethodDescriptor yX2_hasMore.desc).map (fun d => d.parameters.length) = some 1 := by decide +kernel
theorem hv_X2_hasMore : yX2_hasMore.cls = RX2 ∧ yX2_hasMore.cls ≠ "java/lang/invoke/MethodHandle" ∧ yX2_hasMore.cls ≠ "java/lang/invoke/VarHandle" ∧ (parseMethodDescriptor yX2_hasMore.desc).map (fun d => d.parameters.length) = some 1 := ⟨rfl, hd_X2_hasMore⟩
theorem hd_X2_doNext : yX2_doNext.cls ≠ "java/lang/invoke/MethodHandle" ∧ yX2_doNext.cls ≠ "java/lang/invoke/VarHandle" ∧ (parseMethodDescriptor yX2_doNext.desc).map (fun d => d.parameters.length) = some 1 := by decide +kernel
theorem hv_X2_doNext : yX2_doNext.cls = RX2 ∧ yX2_doNext.cls ≠ "java/lang/invoke/MethodHandle" ∧ yX2_doNext.cls ≠ "java/lang/invoke/VarHandle" ∧ (parseMethodDescriptor yX2_doNext.desc).map (fun d => d.parameters.length) = some 1 := ⟨rfl, hd_X2_doNext⟩
theorem hd_X2_walks : yX2_walks.cls ≠ "java/lang/invoke/MethodHandle" ∧ yX2_walks.cls ≠ "java/lang/invoke/VarHandle" ∧ (parseMethodDescriptor yX2_walks.desc).map (fun d => d.parameters.length) = some 1 := by decide +kernel
theorem hv_X2_walks : yX2_walks.cls = RX2 ∧ yX2_walks.cls ≠ "java/lang/invoke/MethodHandle" ∧ yX2_walks.cls ≠ "java/lang/invoke/VarHandle" ∧ (parseMethodDescriptor yX2_walks.desc).map (fun d => d.parameters.length) = some 1 := ⟨rfl, hd_X2_walks⟩
theorem hd_X3_init : yX3_init.cls ≠ "java/lang/invoke/MethodHandle" ∧ yX3_init.cls ≠ "java/lang/invoke/VarHandle" ∧ (parseMethodDescriptor yX3_init.desc).map (fun d => d.parameters.length) = some 1 := by decide +kernel
theorem hv_X3_init : yX3_init.cls = RX3 ∧ yX3_init.cls ≠ "java/lang/invoke/MethodHandle" ∧ yX3_init.cls ≠ "java/lang/invoke/VarHandle" ∧ (parseMethodDescriptor yX3_init.desc).map (fun d => d.parameters.length) = some 1 := ⟨rfl, hd_X3_init⟩
theorem hd_X3_hear : yX3_hear.cls ≠ "java/lang/invoke/MethodHandle" ∧ yX3_hear.cls ≠ "java/lang/invoke/VarHandle" ∧ (parseMethodDescriptor yX3_hear.desc).map (fun d => d.parameters.length) = some 2 := by decide +kernel
theorem hv_X3_hear : yX3_hear.cls = RX3 ∧ yX3_hear.cls ≠ "java/lang/invoke/MethodHandle" ∧ yX3_hear.cls ≠ "java/lang/invoke/VarHandle" ∧ (parseMethodDescriptor yX3_hear.desc).map (fun d => d.parameters.length) = some 2 := ⟨rfl, hd_X3_hear⟩
theorem hd_X3_fitting : yX3_fitting.cls ≠ "java/lang/invoke/MethodHandle" ∧ yX3_fitting.cls ≠ "java/lang/invoke/VarHandle" ∧ (parseMethodDescriptor yX3_fitting.desc).map (fun d => d.parameters.length) = some 0 := by decide +kernel
theorem hv_X3_fitting : yX3_fitting.cls = RX3 ∧ yX3_fitting.cls ≠ "java/lang/invoke/MethodHandle" ∧ yX3_fitting.cls ≠ "java/lang/invoke/VarHandle" ∧ (parseMethodDescriptor yX3_fitting.desc).map (fun d => d.parameters.length) = some 0 := ⟨rfl, hd_X3_fitting⟩
theorem hd_X3_bestQuestion : yX3_bestQuestion.cls ≠ "java/lang/invoke/MethodHandle" ∧ yX3_bestQuestion.cls ≠ "java/lang/invoke/VarHandle" ∧ (parseMethodDescriptor yX3_bestQuestion.desc).map (fun d => d.parameters.length) = some 0 := by decide +kernel
theorem hv_X3_bestQuestion : yX3_bestQuestion.cls = RX3 ∧ yX3_bestQuestion.cls ≠ "java/lang/invoke/MethodHandle" ∧ yX3_bestQuestion.cls ≠ "java/lang/invoke/VarHandle" ∧ (parseMethodDescriptor yX3_bestQuestion.desc).map (fun d => d.parameters.length) = some 0 := ⟨rfl, hd_X3_bestQuestion⟩
theorem hd_X3_measure : yX3_measure.cls ≠ "java/lang/invoke/MethodHandle" ∧ yX3_measure.cls ≠ "java/lang/invoke/VarHandle" ∧ (parseMethodDescriptor yX3_measure.desc).map (fun d => d.parameters.length) = some 1 := by decide +kernel
theorem hv_X3_measure : yX3_measure.cls = RX3 ∧ yX3_measure.cls ≠ "java/lang/invoke/MethodHandle" ∧ yX3_measure.cls ≠ "java/lang/invoke/VarHandle" ∧ (parseMethodDescriptor yX3_measure.desc).map (fun d => d.parameters.length) = some 1 := ⟨rfl, hd_X3_measure⟩
theorem hd_X3_measureOf : yX3_measureOf.cls ≠ "java/lang/invoke/MethodHandle" ∧ yX3_measureOf.cls ≠ "java/lang/invoke/VarHandle" ∧ (parseMethodDescriptor yX3_measureOf.desc).map (fun d => d.parameters.length) = some 2 := by decide +kernel
theorem hv_X3_measureOf : yX3_measureOf.cls = RX3 ∧ yX3_measureOf.cls ≠ "java/lang/invoke/MethodHandle" ∧ yX3_measureOf.cls ≠ "java/lang/invoke/VarHandle" ∧ (parseMethodDescriptor yX3_measureOf.desc).map (fun d => d.parameters.length) = some 2 := ⟨rfl, hd_X3_measureOf⟩
theorem hd_X3_soOf : yX3_soOf.cls ≠ "java/lang/invoke/MethodHandle" ∧ yX3_soOf.cls ≠ "java/lang/invoke/VarHandle" ∧ (parseMethodDescriptor yX3_soOf.desc).map (fun d => d.parameters.length) = some 2 := by decide +kernel
theorem hv_X3_soOf : yX3_soOf.cls = RX3 ∧ yX3_soOf.cls ≠ "java/lang/invoke/MethodHandle" ∧ yX3_soOf.cls ≠ "java/lang/invoke/VarHandle" ∧ (parseMethodDescriptor yX3_soOf.desc).map (fun d => d.parameters.length) = some 2 := ⟨rfl, hd_X3_soOf⟩
theorem hd_X4_init : yX4_init.cls ≠ "java/lang/invoke/MethodHandle" ∧ yX4_init.cls ≠ "java/lang/invoke/VarHandle" ∧ (parseMethodDescriptor yX4_init.desc).map (fun d => d.parameters.length) = some 0 := by decide +kernel
theorem hv_X4_init : yX4_init.cls = RX4 ∧ yX4_init.cls ≠ "java/lang/invoke/MethodHandle" ∧ yX4_init.cls ≠ "java/lang/invoke/VarHandle" ∧ (parseMethodDescriptor yX4_init.desc).map (fun d => d.parameters.length) = some 0 := ⟨rfl, hd_X4_init⟩
theorem hd_X4_push : yX4_push.cls ≠ "java/lang/invoke/MethodHandle" ∧ yX4_push.cls ≠ "java/lang/invoke/VarHandle" ∧ (parseMethodDescriptor yX4_push.desc).map (fun d => d.parameters.length) = some 1 := by decide +kernel
theorem hv_X4_push : yX4_push.cls = RX4 ∧ yX4_push.cls ≠ "java/lang/invoke/MethodHandle" ∧ yX4_push.cls ≠ "java/lang/invoke/VarHandle" ∧ (parseMethodDescriptor yX4_push.desc).map (fun d => d.parameters.length) = some 1 := ⟨rfl, hd_X4_push⟩
theorem hd_X4_pop : yX4_pop.cls ≠ "java/lang/invoke/MethodHandle" ∧ yX4_pop.cls ≠ "java/lang/invoke/VarHandle" ∧ (parseMethodDescriptor yX4_pop.desc).map (fun d => d.parameters.length) = some 1 := by decide +kernel
theorem hv_X4_pop : yX4_pop.cls = RX4 ∧ yX4_pop.cls ≠ "java/lang/invoke/MethodHandle" ∧ yX4_pop.cls ≠ "java/lang/invoke/VarHandle" ∧ (parseMethodDescriptor yX4_pop.desc).map (fun d => d.parameters.length) = some 1 := ⟨rfl, hd_X4_pop⟩
theorem hd_X5_init : yX5_init.cls ≠ "java/lang/invoke/MethodHandle" ∧ yX5_init.cls ≠ "java/lang/invoke/VarHandle" ∧ (parseMethodDescriptor yX5_init.desc).map (fun d => d.parameters.length) = some 0 := by decide +kernel
theorem hv_X5_init : yX5_init.cls = RX5 ∧ yX5_init.cls ≠ "java/lang/invoke/MethodHandle" ∧ yX5_init.cls ≠ "java/lang/invoke/VarHandle" ∧ (parseMethodDescriptor yX5_init.desc).map (fun d => d.parameters.length) = some 0 := ⟨rfl, hd_X5_init⟩
theorem hd_X5_farthest : yX5_farthest.cls ≠ "java/lang/invoke/MethodHandle" ∧ yX5_farthest.cls ≠ "java/lang/invoke/VarHandle" ∧ (parseMethodDescriptor yX5_farthest.desc).map (fun d => d.parameters.length) = some 1 := by decide +kernel
theorem hv_X5_farthest : yX5_farthest.cls = RX5 ∧ yX5_farthest.cls ≠ "java/lang/invoke/MethodHandle" ∧ yX5_farthest.cls ≠ "java/lang/invoke/VarHandle" ∧ (parseMethodDescriptor yX5_farthest.desc).map (fun d => d.parameters.length) = some 1 := ⟨rfl, hd_X5_farthest⟩
theorem hd_X5_fewest : yX5_fewest.cls ≠ "java/lang/invoke/MethodHandle" ∧ yX5_fewest.cls ≠ "java/lang/invoke/VarHandle" ∧ (parseMethodDescriptor yX5_fewest.desc).map (fun d => d.parameters.length) = some 1 := by decide +kernel
theorem hv_X5_fewest : yX5_fewest.cls = RX5 ∧ yX5_fewest.cls ≠ "java/lang/invoke/MethodHandle" ∧ yX5_fewest.cls ≠ "java/lang/invoke/VarHandle" ∧ (parseMethodDescriptor yX5_fewest.desc).map (fun d => d.parameters.length) = some 1 := ⟨rfl, hd_X5_fewest⟩
theorem hd_X5_see : yX5_see.cls ≠ "java/lang/invoke/MethodHandle" ∧ yX5_see.cls ≠ "java/lang/invoke/VarHandle" ∧ (parseMethodDescriptor yX5_see.desc).map (fun d => d.parameters.length) = some 3 := by decide +kernel
theorem hv_X5_see : yX5_see.cls = RX5 ∧ yX5_see.cls ≠ "java/lang/invoke/MethodHandle" ∧ yX5_see.cls ≠ "java/lang/invoke/VarHandle" ∧ (parseMethodDescriptor yX5_see.desc).map (fun d => d.parameters.length) = some 3 := ⟨rfl, hd_X5_see⟩
theorem hd_X5_fitting : yX5_fitting.cls ≠ "java/lang/invoke/MethodHandle" ∧ yX5_fitting.cls ≠ "java/lang/invoke/VarHandle" ∧ (parseMethodDescriptor yX5_fitting.desc).map (fun d => d.parameters.length) = some 0 := by decide +kernel
theorem hv_X5_fitting : yX5_fitting.cls = RX5 ∧ yX5_fitting.cls ≠ "java/lang/invoke/MethodHandle" ∧ yX5_fitting.cls ≠ "java/lang/invoke/VarHandle" ∧ (parseMethodDescriptor yX5_fitting.desc).map (fun d => d.parameters.length) = some 0 := ⟨rfl, hd_X5_fitting⟩
theorem hd_X5_bringing : yX5_bringing.cls ≠ "java/lang/invoke/MethodHandle" ∧ yX5_bringing.cls ≠ "java/lang/invoke/VarHandle" ∧ (parseMethodDescriptor yX5_bringing.desc).map (fun d => d.parameters.length) = some 2 := by decide +kernel
theorem hv_X5_bringing : yX5_bringing.cls = RX5 ∧ yX5_bringing.cls ≠ "java/lang/invoke/MethodHandle" ∧ yX5_bringing.cls ≠ "java/lang/invoke/VarHandle" ∧ (parseMethodDescriptor yX5_bringing.desc).map (fun d => d.parameters.length) = some 2 := ⟨rfl, hd_X5_bringing⟩
theorem hd_X5_bestLook : yX5_bestLook.cls ≠ "java/lang/invoke/MethodHandle" ∧ yX5_bestLook.cls ≠ "java/lang/invoke/VarHandle" ∧ (parseMethodDescriptor yX5_bestLook.desc).map (fun d => d.parameters.length) = some 0 := by decide +kernel
theorem hv_X5_bestLook : yX5_bestLook.cls = RX5 ∧ yX5_bestLook.cls ≠ "java/lang/invoke/MethodHandle" ∧ yX5_bestLook.cls ≠ "java/lang/invoke/VarHandle" ∧ (parseMethodDescriptor yX5_bestLook.desc).map (fun d => d.parameters.length) = some 0 := ⟨rfl, hd_X5_bestLook⟩
theorem hd_X6_init : yX6_init.cls ≠ "java/lang/invoke/MethodHandle" ∧ yX6_init.cls ≠ "java/lang/invoke/VarHandle" ∧ (parseMethodDescriptor yX6_init.desc).map (fun d => d.parameters.length) = some 0 := by decide +kernel
theorem hv_X6_init : yX6_init.cls = RX6 ∧ yX6_init.cls ≠ "java/lang/invoke/MethodHandle" ∧ yX6_init.cls ≠ "java/lang/invoke/VarHandle" ∧ (parseMethodDescriptor yX6_init.desc).map (fun d => d.parameters.length) = some 0 := ⟨rfl, hd_X6_init⟩
theorem hd_X6_walk : yX6_walk.cls ≠ "java/lang/invoke/MethodHandle" ∧ yX6_walk.cls ≠ "java/lang/invoke/VarHandle" ∧ (parseMethodDescriptor yX6_walk.desc).map (fun d => d.parameters.length) = some 3 := by decide +kernel
theorem hv_X6_walk : yX6_walk.cls = RX6 ∧ yX6_walk.cls ≠ "java/lang/invoke/MethodHandle" ∧ yX6_walk.cls ≠ "java/lang/invoke/VarHandle" ∧ (parseMethodDescriptor yX6_walk.desc).map (fun d => d.parameters.length) = some 3 := ⟨rfl, hd_X6_walk⟩
theorem hd_X7_init : yX7_init.cls ≠ "java/lang/invoke/MethodHandle" ∧ yX7_init.cls ≠ "java/lang/invoke/VarHandle" ∧ (parseMethodDescriptor yX7_init.desc).map (fun d => d.parameters.length) = some 0 := by decide +kernel
theorem hv_X7_init : yX7_init.cls = RX7 ∧ yX7_init.cls ≠ "java/lang/invoke/MethodHandle" ∧ yX7_init.cls ≠ "java/lang/invoke/VarHandle" ∧ (parseMethodDescriptor yX7_init.desc).map (fun d => d.parameters.length) = some 0 := ⟨rfl, hd_X7_init⟩
theorem hd_X7_clear : yX7_clear.cls ≠ "java/lang/invoke/MethodHandle" ∧ yX7_clear.cls ≠ "java/lang/invoke/VarHandle" ∧ (parseMethodDescriptor yX7_clear.desc).map (fun d => d.parameters.length) = some 0 := by decide +kernel
theorem hv_X7_clear : yX7_clear.cls = RX7 ∧ yX7_clear.cls ≠ "java/lang/invoke/MethodHandle" ∧ yX7_clear.cls ≠ "java/lang/invoke/VarHandle" ∧ (parseMethodDescriptor yX7_clear.desc).map (fun d => d.parameters.length) = some 0 := ⟨rfl, hd_X7_clear⟩
theorem hd_X7_add : yX7_add.cls ≠ "java/lang/invoke/MethodHandle" ∧ yX7_add.cls ≠ "java/lang/invoke/VarHandle" ∧ (parseMethodDescriptor yX7_add.desc).map (fun d => d.parameters.length) = some 1 := by decide +kernel
theorem hv_X7_add : yX7_add.cls = RX7 ∧ yX7_add.cls ≠ "java/lang/invoke/MethodHandle" ∧ yX7_add.cls ≠ "java/lang/invoke/VarHandle" ∧ (parseMethodDescriptor yX7_add.desc).map (fun d => d.parameters.length) = some 1 := ⟨rfl, hd_X7_add⟩
theorem hd_X7_drop : yX7_drop.cls ≠ "java/lang/invoke/MethodHandle" ∧ yX7_drop.cls ≠ "java/lang/invoke/VarHandle" ∧ (parseMethodDescriptor yX7_drop.desc).map (fun d => d.parameters.length) = some 0 := by decide +kernel
theorem hv_X7_drop : yX7_drop.cls = RX7 ∧ yX7_drop.cls ≠ "java/lang/invoke/MethodHandle" ∧ yX7_drop.cls ≠ "java/lang/invoke/VarHandle" ∧ (parseMethodDescriptor yX7_drop.desc).map (fun d => d.parameters.length) = some 0 := ⟨rfl, hd_X7_drop⟩
theorem hd_X7_tell : yX7_tell.cls ≠ "java/lang/invoke/MethodHandle" ∧ yX7_tell.cls ≠ "java/lang/invoke/VarHandle" ∧ (parseMethodDescriptor yX7_tell.desc).map (fun d => d.parameters.length) = some 1 := by decide +kernel
theorem hv_X7_tell : yX7_tell.cls = RX7 ∧ yX7_tell.cls ≠ "java/lang/invoke/MethodHandle" ∧ yX7_tell.cls ≠ "java/lang/invoke/VarHandle" ∧ (parseMethodDescriptor yX7_tell.desc).map (fun d => d.parameters.length) = some 1 := ⟨rfl, hd_X7_tell⟩
theorem hd_X7_tellTwo : yX7_tellTwo.cls ≠ "java/lang/invoke/MethodHandle" ∧ yX7_tellTwo.cls ≠ "java/lang/invoke/VarHandle" ∧ (parseMethodDescriptor yX7_tellTwo.desc).map (fun d => d.parameters.length) = some 2 := by decide +kernel
theorem hv_X7_tellTwo : yX7_tellTwo.cls = RX7 ∧ yX7_tellTwo.cls ≠ "java/lang/invoke/MethodHandle" ∧ yX7_tellTwo.cls ≠ "java/lang/invoke/VarHandle" ∧ (parseMethodDescriptor yX7_tellTwo.desc).map (fun d => d.parameters.length) = some 2 := ⟨rfl, hd_X7_tellTwo⟩
theorem hd_X7_turn : yX7_turn.cls ≠ "java/lang/invoke/MethodHandle" ∧ yX7_turn.cls ≠ "java/lang/invoke/VarHandle" ∧ (parseMethodDescriptor yX7_turn.desc).map (fun d => d.parameters.length) = some 0 := by decide +kernel
theorem hv_X7_turn : yX7_turn.cls = RX7 ∧ yX7_turn.cls ≠ "java/lang/invoke/MethodHandle" ∧ yX7_turn.cls ≠ "java/lang/invoke/VarHandle" ∧ (parseMethodDescriptor yX7_turn.desc).map (fun d => d.parameters.length) = some 0 := ⟨rfl, hd_X7_turn⟩
theorem hd_X7_numberAt : yX7_numberAt.cls ≠ "java/lang/invoke/MethodHandle" ∧ yX7_numberAt.cls ≠ "java/lang/invoke/VarHandle" ∧ (parseMethodDescriptor yX7_numberAt.desc).map (fun d => d.parameters.length) = some 1 := by decide +kernel
theorem hv_X7_numberAt : yX7_numberAt.cls = RX7 ∧ yX7_numberAt.cls ≠ "java/lang/invoke/MethodHandle" ∧ yX7_numberAt.cls ≠ "java/lang/invoke/VarHandle" ∧ (parseMethodDescriptor yX7_numberAt.desc).map (fun d => d.parameters.length) = some 1 := ⟨rfl, hd_X7_numberAt⟩
theorem hd_X8_init : yX8_init.cls ≠ "java/lang/invoke/MethodHandle" ∧ yX8_init.cls ≠ "java/lang/invoke/VarHandle" ∧ (parseMethodDescriptor yX8_init.desc).map (fun d => d.parameters.length) = some 0 := by decide +kernel
theorem hv_X8_init : yX8_init.cls = RX8 ∧ yX8_init.cls ≠ "java/lang/invoke/MethodHandle" ∧ yX8_init.cls ≠ "java/lang/invoke/VarHandle" ∧ (parseMethodDescriptor yX8_init.desc).map (fun d => d.parameters.length) = some 0 := ⟨rfl, hd_X8_init⟩
theorem hd_X8_take : yX8_take.cls ≠ "java/lang/invoke/MethodHandle" ∧ yX8_take.cls ≠ "java/lang/invoke/VarHandle" ∧ (parseMethodDescriptor yX8_take.desc).map (fun d => d.parameters.length) = some 1 := by decide +kernel
theorem hv_X8_take : yX8_take.cls = RX8 ∧ yX8_take.cls ≠ "java/lang/invoke/MethodHandle" ∧ yX8_take.cls ≠ "java/lang/invoke/VarHandle" ∧ (parseMethodDescriptor yX8_take.desc).map (fun d => d.parameters.length) = some 1 := ⟨rfl, hd_X8_take⟩
theorem hd_X8_read : yX8_read.cls ≠ "java/lang/invoke/MethodHandle" ∧ yX8_read.cls ≠ "java/lang/invoke/VarHandle" ∧ (parseMethodDescriptor yX8_read.desc).map (fun d => d.parameters.length) = some 1 := by decide +kernel
theorem hv_X8_read : yX8_read.cls = RX8 ∧ yX8_read.cls ≠ "java/lang/invoke/MethodHandle" ∧ yX8_read.cls ≠ "java/lang/invoke/VarHandle" ∧ (parseMethodDescriptor yX8_read.desc).map (fun d => d.parameters.length) = some 1 := ⟨rfl, hd_X8_read⟩
theorem hd_X8_startsThing : yX8_startsThing.cls ≠ "java/lang/invoke/MethodHandle" ∧ yX8_startsThing.cls ≠ "java/lang/invoke/VarHandle" ∧ (parseMethodDescriptor yX8_startsThing.desc).map (fun d => d.parameters.length) = some 1 := by decide +kernel
theorem hv_X8_startsThing : yX8_startsThing.cls = RX8 ∧ yX8_startsThing.cls ≠ "java/lang/invoke/MethodHandle" ∧ yX8_startsThing.cls ≠ "java/lang/invoke/VarHandle" ∧ (parseMethodDescriptor yX8_startsThing.desc).map (fun d => d.parameters.length) = some 1 := ⟨rfl, hd_X8_startsThing⟩
theorem hd_X8_opens : yX8_opens.cls ≠ "java/lang/invoke/MethodHandle" ∧ yX8_opens.cls ≠ "java/lang/invoke/VarHandle" ∧ (parseMethodDescriptor yX8_opens.desc).map (fun d => d.parameters.length) = some 0 := by decide +kernel
theorem hv_X8_opens : yX8_opens.cls = RX8 ∧ yX8_opens.cls ≠ "java/lang/invoke/MethodHandle" ∧ yX8_opens.cls ≠ "java/lang/invoke/VarHandle" ∧ (parseMethodDescriptor yX8_opens.desc).map (fun d => d.parameters.length) = some 0 := ⟨rfl, hd_X8_opens⟩
theorem hd_X8_followsThing : yX8_followsThing.cls ≠ "java/lang/invoke/MethodHandle" ∧ yX8_followsThing.cls ≠ "java/lang/invoke/VarHandle" ∧ (parseMethodDescriptor yX8_followsThing.desc).map (fun d => d.parameters.length) = some 1 := by decide +kernel
theorem hv_X8_followsThing : yX8_followsThing.cls = RX8 ∧ yX8_followsThing.cls ≠ "java/lang/invoke/MethodHandle" ∧ yX8_followsThing.cls ≠ "java/lang/invoke/VarHandle" ∧ (parseMethodDescriptor yX8_followsThing.desc).map (fun d => d.parameters.length) = some 1 := ⟨rfl, hd_X8_followsThing⟩
theorem hd_X8_addsDigit : yX8_addsDigit.cls ≠ "java/lang/invoke/MethodHandle" ∧ yX8_addsDigit.cls ≠ "java/lang/invoke/VarHandle" ∧ (parseMethodDescriptor yX8_addsDigit.desc).map (fun d => d.parameters.length) = some 1 := by decide +kernel
theorem hv_X8_addsDigit : yX8_addsDigit.cls = RX8 ∧ yX8_addsDigit.cls ≠ "java/lang/invoke/MethodHandle" ∧ yX8_addsDigit.cls ≠ "java/lang/invoke/VarHandle" ∧ (parseMethodDescriptor yX8_addsDigit.desc).map (fun d => d.parameters.length) = some 1 := ⟨rfl, hd_X8_addsDigit⟩
theorem hd_X8_closes : yX8_closes.cls ≠ "java/lang/invoke/MethodHandle" ∧ yX8_closes.cls ≠ "java/lang/invoke/VarHandle" ∧ (parseMethodDescriptor yX8_closes.desc).map (fun d => d.parameters.length) = some 0 := by decide +kernel
theorem hv_X8_closes : yX8_closes.cls = RX8 ∧ yX8_closes.cls ≠ "java/lang/invoke/MethodHandle" ∧ yX8_closes.cls ≠ "java/lang/invoke/VarHandle" ∧ (parseMethodDescriptor yX8_closes.desc).map (fun d => d.parameters.length) = some 0 := ⟨rfl, hd_X8_closes⟩
theorem hd_X8_isDigit : yX8_isDigit.cls ≠ "java/lang/invoke/MethodHandle" ∧ yX8_isDigit.cls ≠ "java/lang/invoke/VarHandle" ∧ (parseMethodDescriptor yX8_isDigit.desc).map (fun d => d.parameters.length) = some 1 := by decide +kernel
theorem hv_X8_isDigit : yX8_isDigit.cls = RX8 ∧ yX8_isDigit.cls ≠ "java/lang/invoke/MethodHandle" ∧ yX8_isDigit.cls ≠ "java/lang/invoke/VarHandle" ∧ (parseMethodDescriptor yX8_isDigit.desc).map (fun d => d.parameters.length) = some 1 := ⟨rfl, hd_X8_isDigit⟩
theorem hd_X8_rankOf : yX8_rankOf.cls ≠ "java/lang/invoke/MethodHandle" ∧ yX8_rankOf.cls ≠ "java/lang/invoke/VarHandle" ∧ (parseMethodDescriptor yX8_rankOf.desc).map (fun d => d.parameters.length) = some 1 := by decide +kernel
theorem hv_X8_rankOf : yX8_rankOf.cls = RX8 ∧ yX8_rankOf.cls ≠ "java/lang/invoke/MethodHandle" ∧ yX8_rankOf.cls ≠ "java/lang/invoke/VarHandle" ∧ (parseMethodDescriptor yX8_rankOf.desc).map (fun d => d.parameters.length) = some 1 := ⟨rfl, hd_X8_rankOf⟩
theorem hd_X8_emit : yX8_emit.cls ≠ "java/lang/invoke/MethodHandle" ∧ yX8_emit.cls ≠ "java/lang/invoke/VarHandle" ∧ (parseMethodDescriptor yX8_emit.desc).map (fun d => d.parameters.length) = some 1 := by decide +kernel
theorem hv_X8_emit : yX8_emit.cls = RX8 ∧ yX8_emit.cls ≠ "java/lang/invoke/MethodHandle" ∧ yX8_emit.cls ≠ "java/lang/invoke/VarHandle" ∧ (parseMethodDescriptor yX8_emit.desc).map (fun d => d.parameters.length) = some 1 := ⟨rfl, hd_X8_emit⟩
theorem hd_X8_hold : yX8_hold.cls ≠ "java/lang/invoke/MethodHandle" ∧ yX8_hold.cls ≠ "java/lang/invoke/VarHandle" ∧ (parseMethodDescriptor yX8_hold.desc).map (fun d => d.parameters.length) = some 1 := by decide +kernel
theorem hv_X8_hold : yX8_hold.cls = RX8 ∧ yX8_hold.cls ≠ "java/lang/invoke/MethodHandle" ∧ yX8_hold.cls ≠ "java/lang/invoke/VarHandle" ∧ (parseMethodDescriptor yX8_hold.desc).map (fun d => d.parameters.length) = some 1 := ⟨rfl, hd_X8_hold⟩
theorem hd_X8_release : yX8_release.cls ≠ "java/lang/invoke/MethodHandle" ∧ yX8_release.cls ≠ "java/lang/invoke/VarHandle" ∧ (parseMethodDescriptor yX8_release.desc).map (fun d => d.parameters.length) = some 1 := by decide +kernel
theorem hv_X8_release : yX8_release.cls = RX8 ∧ yX8_release.cls ≠ "java/lang/invoke/MethodHandle" ∧ yX8_release.cls ≠ "java/lang/invoke/VarHandle" ∧ (parseMethodDescriptor yX8_release.desc).map (fun d => d.parameters.length) = some 1 := ⟨rfl, hd_X8_release⟩
theorem hd_X8_letting : yX8_letting.cls ≠ "java/lang/invoke/MethodHandle" ∧ yX8_letting.cls ≠ "java/lang/invoke/VarHandle" ∧ (parseMethodDescriptor yX8_letting.desc).map (fun d => d.parameters.length) = some 2 := by decide +kernel
theorem hv_X8_letting : yX8_letting.cls = RX8 ∧ yX8_letting.cls ≠ "java/lang/invoke/MethodHandle" ∧ yX8_letting.cls ≠ "java/lang/invoke/VarHandle" ∧ (parseMethodDescriptor yX8_letting.desc).map (fun d => d.parameters.length) = some 2 := ⟨rfl, hd_X8_letting⟩
theorem hd_X8_lookAt : yX8_lookAt.cls ≠ "java/lang/invoke/MethodHandle" ∧ yX8_lookAt.cls ≠ "java/lang/invoke/VarHandle" ∧ (parseMethodDescriptor yX8_lookAt.desc).map (fun d => d.parameters.length) = some 3 := by decide +kernel
theorem hv_X8_lookAt : yX8_lookAt.cls = RX8 ∧ yX8_lookAt.cls ≠ "java/lang/invoke/MethodHandle" ∧ yX8_lookAt.cls ≠ "java/lang/invoke/VarHandle" ∧ (parseMethodDescriptor yX8_lookAt.desc).map (fun d => d.parameters.length) = some 3 := ⟨rfl, hd_X8_lookAt⟩
theorem hd_X8_value : yX8_value.cls ≠ "java/lang/invoke/MethodHandle" ∧ yX8_value.cls ≠ "java/lang/invoke/VarHandle" ∧ (parseMethodDescriptor yX8_value.desc).map (fun d => d.parameters.length) = some 0 := by decide +kernel
theorem hv_X8_value : yX8_value.cls = RX8 ∧ yX8_value.cls ≠ "java/lang/invoke/MethodHandle" ∧ yX8_value.cls ≠ "java/lang/invoke/VarHandle" ∧ (parseMethodDescriptor yX8_value.desc).map (fun d => d.parameters.length) = some 0 := ⟨rfl, hd_X8_value⟩
theorem hd_X8_thing : yX8_thing.cls ≠ "java/lang/invoke/MethodHandle" ∧ yX8_thing.cls ≠ "java/lang/invoke/VarHandle" ∧ (parseMethodDescriptor yX8_thing.desc).map (fun d => d.parameters.length) = some 1 := by decide +kernel
theorem hv_X8_thing : yX8_thing.cls = RX8 ∧ yX8_thing.cls ≠ "java/lang/invoke/MethodHandle" ∧ yX8_thing.cls ≠ "java/lang/invoke/VarHandle" ∧ (parseMethodDescriptor yX8_thing.desc).map (fun d => d.parameters.length) = some 1 := ⟨rfl, hd_X8_thing⟩
theorem hd_X8_joined : yX8_joined.cls ≠ "java/lang/invoke/MethodHandle" ∧ yX8_joined.cls ≠ "java/lang/invoke/VarHandle" ∧ (parseMethodDescriptor yX8_joined.desc).map (fun d => d.parameters.length) = some 3 := by decide +kernel
theorem hv_X8_joined : yX8_joined.cls = RX8 ∧ yX8_joined.cls ≠ "java/lang/invoke/MethodHandle" ∧ yX8_joined.cls ≠ "java/lang/invoke/VarHandle" ∧ (parseMethodDescriptor yX8_joined.desc).map (fun d => d.parameters.length) = some 3 := ⟨rfl, hd_X8_joined⟩
theorem hd_X9_init : yX9_init.cls ≠ "java/lang/invoke/MethodHandle" ∧ yX9_init.cls ≠ "java/lang/invoke/VarHandle" ∧ (parseMethodDescriptor yX9_init.desc).map (fun d => d.parameters.length) = some 0 := by decide +kernel
theorem hv_X9_init : yX9_init.cls = RX9 ∧ yX9_init.cls ≠ "java/lang/invoke/MethodHandle" ∧ yX9_init.cls ≠ "java/lang/invoke/VarHandle" ∧ (parseMethodDescriptor yX9_init.desc).map (fun d => d.parameters.length) = some 0 := ⟨rfl, hd_X9_init⟩
theorem hd_X9_add : yX9_add.cls ≠ "java/lang/invoke/MethodHandle" ∧ yX9_add.cls ≠ "java/lang/invoke/VarHandle" ∧ (parseMethodDescriptor yX9_add.desc).map (fun d => d.parameters.length) = some 1 := by decide +kernel
theorem hv_X9_add : yX9_add.cls = RX9 ∧ yX9_add.cls ≠ "java/lang/invoke/MethodHandle" ∧ yX9_add.cls ≠ "java/lang/invoke/VarHandle" ∧ (parseMethodDescriptor yX9_add.desc).map (fun d => d.parameters.length) = some 1 := ⟨rfl, hd_X9_add⟩
theorem hd_X9_cut : yX9_cut.cls ≠ "java/lang/invoke/MethodHandle" ∧ yX9_cut.cls ≠ "java/lang/invoke/VarHandle" ∧ (parseMethodDescriptor yX9_cut.desc).map (fun d => d.parameters.length) = some 1 := by decide +kernel
theorem hv_X9_cut : yX9_cut.cls = RX9 ∧ yX9_cut.cls ≠ "java/lang/invoke/MethodHandle" ∧ yX9_cut.cls ≠ "java/lang/invoke/VarHandle" ∧ (parseMethodDescriptor yX9_cut.desc).map (fun d => d.parameters.length) = some 1 := ⟨rfl, hd_X9_cut⟩
theorem hd_X9_clear : yX9_clear.cls ≠ "java/lang/invoke/MethodHandle" ∧ yX9_clear.cls ≠ "java/lang/invoke/VarHandle" ∧ (parseMethodDescriptor yX9_clear.desc).map (fun d => d.parameters.length) = some 0 := by decide +kernel
theorem hv_X9_clear : yX9_clear.cls = RX9 ∧ yX9_clear.cls ≠ "java/lang/invoke/MethodHandle" ∧ yX9_clear.cls ≠ "java/lang/invoke/VarHandle" ∧ (parseMethodDescriptor yX9_clear.desc).map (fun d => d.parameters.length) = some 0 := ⟨rfl, hd_X9_clear⟩
theorem hd_X9_signAt : yX9_signAt.cls ≠ "java/lang/invoke/MethodHandle" ∧ yX9_signAt.cls ≠ "java/lang/invoke/VarHandle" ∧ (parseMethodDescriptor yX9_signAt.desc).map (fun d => d.parameters.length) = some 1 := by decide +kernel
theorem hv_X9_signAt : yX9_signAt.cls = RX9 ∧ yX9_signAt.cls ≠ "java/lang/invoke/MethodHandle" ∧ yX9_signAt.cls ≠ "java/lang/invoke/VarHandle" ∧ (parseMethodDescriptor yX9_signAt.desc).map (fun d => d.parameters.length) = some 1 := ⟨rfl, hd_X9_signAt⟩
theorem hd_X9_dirAt : yX9_dirAt.cls ≠ "java/lang/invoke/MethodHandle" ∧ yX9_dirAt.cls ≠ "java/lang/invoke/VarHandle" ∧ (parseMethodDescriptor yX9_dirAt.desc).map (fun d => d.parameters.length) = some 1 := by decide +kernel
theorem hv_X9_dirAt : yX9_dirAt.cls = RX9 ∧ yX9_dirAt.cls ≠ "java/lang/invoke/MethodHandle" ∧ yX9_dirAt.cls ≠ "java/lang/invoke/VarHandle" ∧ (parseMethodDescriptor yX9_dirAt.desc).map (fun d => d.parameters.length) = some 1 := ⟨rfl, hd_X9_dirAt⟩
theorem hd_X10_init : yX10_init.cls ≠ "java/lang/invoke/MethodHandle" ∧ yX10_init.cls ≠ "java/lang/invoke/VarHandle" ∧ (parseMethodDescriptor yX10_init.desc).map (fun d => d.parameters.length) = some 0 := by decide +kernel
theorem hv_X10_init : yX10_init.cls = RX10 ∧ yX10_init.cls ≠ "java/lang/invoke/MethodHandle" ∧ yX10_init.cls ≠ "java/lang/invoke/VarHandle" ∧ (parseMethodDescriptor yX10_init.desc).map (fun d => d.parameters.length) = some 0 := ⟨rfl, hd_X10_init⟩
theorem hd_X10_take : yX10_take.cls ≠ "java/lang/invoke/MethodHandle" ∧ yX10_take.cls ≠ "java/lang/invoke/VarHandle" ∧ (parseMethodDescriptor yX10_take.desc).map (fun d => d.parameters.length) = some 1 := by decide +kernel
theorem hv_X10_take : yX10_take.cls = RX10 ∧ yX10_take.cls ≠ "java/lang/invoke/MethodHandle" ∧ yX10_take.cls ≠ "java/lang/invoke/VarHandle" ∧ (parseMethodDescriptor yX10_take.desc).map (fun d => d.parameters.length) = some 1 := ⟨rfl, hd_X10_take⟩
theorem hd_X10_has : yX10_has.cls ≠ "java/lang/invoke/MethodHandle" ∧ yX10_has.cls ≠ "java/lang/invoke/VarHandle" ∧ (parseMethodDescriptor yX10_has.desc).map (fun d => d.parameters.length) = some 1 := by decide +kernel
theorem hv_X10_has : yX10_has.cls = RX10 ∧ yX10_has.cls ≠ "java/lang/invoke/MethodHandle" ∧ yX10_has.cls ≠ "java/lang/invoke/VarHandle" ∧ (parseMethodDescriptor yX10_has.desc).map (fun d => d.parameters.length) = some 1 := ⟨rfl, hd_X10_has⟩
theorem hd_X10_hasPlace : yX10_hasPlace.cls ≠ "java/lang/invoke/MethodHandle" ∧ yX10_hasPlace.cls ≠ "java/lang/invoke/VarHandle" ∧ (parseMethodDescriptor yX10_hasPlace.desc).map (fun d => d.parameters.length) = some 2 := by decide +kernel
theorem hv_X10_hasPlace : yX10_hasPlace.cls = RX10 ∧ yX10_hasPlace.cls ≠ "java/lang/invoke/MethodHandle" ∧ yX10_hasPlace.cls ≠ "java/lang/invoke/VarHandle" ∧ (parseMethodDescriptor yX10_hasPlace.desc).map (fun d => d.parameters.length) = some 2 := ⟨rfl, hd_X10_hasPlace⟩
theorem hd_X10_isUnbindable : yX10_isUnbindable.cls ≠ "java/lang/invoke/MethodHandle" ∧ yX10_isUnbindable.cls ≠ "java/lang/invoke/VarHandle" ∧ (parseMethodDescriptor yX10_isUnbindable.desc).map (fun d => d.parameters.length) = some 1 := by decide +kernel
theorem hv_X10_isUnbindable : yX10_isUnbindable.cls = RX10 ∧ yX10_isUnbindable.cls ≠ "java/lang/invoke/MethodHandle" ∧ yX10_isUnbindable.cls ≠ "java/lang/invoke/VarHandle" ∧ (parseMethodDescriptor yX10_isUnbindable.desc).map (fun d => d.parameters.length) = some 1 := ⟨rfl, hd_X10_isUnbindable⟩
theorem hd_X10_size : yX10_size.cls ≠ "java/lang/invoke/MethodHandle" ∧ yX10_size.cls ≠ "java/lang/invoke/VarHandle" ∧ (parseMethodDescriptor yX10_size.desc).map (fun d => d.parameters.length) = some 0 := by decide +kernel
theorem hv_X10_size : yX10_size.cls = RX10 ∧ yX10_size.cls ≠ "java/lang/invoke/MethodHandle" ∧ yX10_size.cls ≠ "java/lang/invoke/VarHandle" ∧ (parseMethodDescriptor yX10_size.desc).map (fun d => d.parameters.length) = some 0 := ⟨rfl, hd_X10_size⟩
theorem hd_X10_parentOf : yX10_parentOf.cls ≠ "java/lang/invoke/MethodHandle" ∧ yX10_parentOf.cls ≠ "java/lang/invoke/VarHandle" ∧ (parseMethodDescriptor yX10_parentOf.desc).map (fun d => d.parameters.length) = some 1 := by decide +kernel
theorem hv_X10_parentOf : yX10_parentOf.cls = RX10 ∧ yX10_parentOf.cls ≠ "java/lang/invoke/MethodHandle" ∧ yX10_parentOf.cls ≠ "java/lang/invoke/VarHandle" ∧ (parseMethodDescriptor yX10_parentOf.desc).map (fun d => d.parameters.length) = some 1 := ⟨rfl, hd_X10_parentOf⟩
theorem hd_X10_dirOf : yX10_dirOf.cls ≠ "java/lang/invoke/MethodHandle" ∧ yX10_dirOf.cls ≠ "java/lang/invoke/VarHandle" ∧ (parseMethodDescriptor yX10_dirOf.desc).map (fun d => d.parameters.length) = some 1 := by decide +kernel
theorem hv_X10_dirOf : yX10_dirOf.cls = RX10 ∧ yX10_dirOf.cls ≠ "java/lang/invoke/MethodHandle" ∧ yX10_dirOf.cls ≠ "java/lang/invoke/VarHandle" ∧ (parseMethodDescriptor yX10_dirOf.desc).map (fun d => d.parameters.length) = some 1 := ⟨rfl, hd_X10_dirOf⟩
theorem hd_X10_groupOf : yX10_groupOf.cls ≠ "java/lang/invoke/MethodHandle" ∧ yX10_groupOf.cls ≠ "java/lang/invoke/VarHandle" ∧ (parseMethodDescriptor yX10_groupOf.desc).map (fun d => d.parameters.length) = some 1 := by decide +kernel
theorem hv_X10_groupOf : yX10_groupOf.cls = RX10 ∧ yX10_groupOf.cls ≠ "java/lang/invoke/MethodHandle" ∧ yX10_groupOf.cls ≠ "java/lang/invoke/VarHandle" ∧ (parseMethodDescriptor yX10_groupOf.desc).map (fun d => d.parameters.length) = some 1 := ⟨rfl, hd_X10_groupOf⟩
theorem hd_X10_masterOf : yX10_masterOf.cls ≠ "java/lang/invoke/MethodHandle" ∧ yX10_masterOf.cls ≠ "java/lang/invoke/VarHandle" ∧ (parseMethodDescriptor yX10_masterOf.desc).map (fun d => d.parameters.length) = some 1 := by decide +kernel
theorem hv_X10_masterOf : yX10_masterOf.cls = RX10 ∧ yX10_masterOf.cls ≠ "java/lang/invoke/MethodHandle" ∧ yX10_masterOf.cls ≠ "java/lang/invoke/VarHandle" ∧ (parseMethodDescriptor yX10_masterOf.desc).map (fun d => d.parameters.length) = some 1 := ⟨rfl, hd_X10_masterOf⟩
theorem hd_X10_kindOf : yX10_kindOf.cls ≠ "java/lang/invoke/MethodHandle" ∧ yX10_kindOf.cls ≠ "java/lang/invoke/VarHandle" ∧ (parseMethodDescriptor yX10_kindOf.desc).map (fun d => d.parameters.length) = some 1 := by decide +kernel
theorem hv_X10_kindOf : yX10_kindOf.cls = RX10 ∧ yX10_kindOf.cls ≠ "java/lang/invoke/MethodHandle" ∧ yX10_kindOf.cls ≠ "java/lang/invoke/VarHandle" ∧ (parseMethodDescriptor yX10_kindOf.desc).map (fun d => d.parameters.length) = some 1 := ⟨rfl, hd_X10_kindOf⟩
theorem hd_X10_mountAt : yX10_mountAt.cls ≠ "java/lang/invoke/MethodHandle" ∧ yX10_mountAt.cls ≠ "java/lang/invoke/VarHandle" ∧ (parseMethodDescriptor yX10_mountAt.desc).map (fun d => d.parameters.length) = some 2 := by decide +kernel
theorem hv_X10_mountAt : yX10_mountAt.cls = RX10 ∧ yX10_mountAt.cls ≠ "java/lang/invoke/MethodHandle" ∧ yX10_mountAt.cls ≠ "java/lang/invoke/VarHandle" ∧ (parseMethodDescriptor yX10_mountAt.desc).map (fun d => d.parameters.length) = some 2 := ⟨rfl, hd_X10_mountAt⟩
theorem hd_X10_takenAt : yX10_takenAt.cls ≠ "java/lang/invoke/MethodHandle" ∧ yX10_takenAt.cls ≠ "java/lang/invoke/VarHandle" ∧ (parseMethodDescriptor yX10_takenAt.desc).map (fun d => d.parameters.length) = some 1 := by decide +kernel
theorem hv_X10_takenAt : yX10_takenAt.cls = RX10 ∧ yX10_takenAt.cls ≠ "java/lang/invoke/MethodHandle" ∧ yX10_takenAt.cls ≠ "java/lang/invoke/VarHandle" ∧ (parseMethodDescriptor yX10_takenAt.desc).map (fun d => d.parameters.length) = some 1 := ⟨rfl, hd_X10_takenAt⟩
theorem hd_X10_childrenOf : yX10_childrenOf.cls ≠ "java/lang/invoke/MethodHandle" ∧ yX10_childrenOf.cls ≠ "java/lang/invoke/VarHandle" ∧ (parseMethodDescriptor yX10_childrenOf.desc).map (fun d => d.parameters.length) = some 1 := by decide +kernel
theorem hv_X10_childrenOf : yX10_childrenOf.cls = RX10 ∧ yX10_childrenOf.cls ≠ "java/lang/invoke/MethodHandle" ∧ yX10_childrenOf.cls ≠ "java/lang/invoke/VarHandle" ∧ (parseMethodDescriptor yX10_childrenOf.desc).map (fun d => d.parameters.length) = some 1 := ⟨rfl, hd_X10_childrenOf⟩
theorem hd_X10_stepsTo : yX10_stepsTo.cls ≠ "java/lang/invoke/MethodHandle" ∧ yX10_stepsTo.cls ≠ "java/lang/invoke/VarHandle" ∧ (parseMethodDescriptor yX10_stepsTo.desc).map (fun d => d.parameters.length) = some 1 := by decide +kernel
theorem hv_X10_stepsTo : yX10_stepsTo.cls = RX10 ∧ yX10_stepsTo.cls ≠ "java/lang/invoke/MethodHandle" ∧ yX10_stepsTo.cls ≠ "java/lang/invoke/VarHandle" ∧ (parseMethodDescriptor yX10_stepsTo.desc).map (fun d => d.parameters.length) = some 1 := ⟨rfl, hd_X10_stepsTo⟩
theorem hd_X10_isIn : yX10_isIn.cls ≠ "java/lang/invoke/MethodHandle" ∧ yX10_isIn.cls ≠ "java/lang/invoke/VarHandle" ∧ (parseMethodDescriptor yX10_isIn.desc).map (fun d => d.parameters.length) = some 2 := by decide +kernel
theorem hv_X10_isIn : yX10_isIn.cls = RX10 ∧ yX10_isIn.cls ≠ "java/lang/invoke/MethodHandle" ∧ yX10_isIn.cls ≠ "java/lang/invoke/VarHandle" ∧ (parseMethodDescriptor yX10_isIn.desc).map (fun d => d.parameters.length) = some 2 := ⟨rfl, hd_X10_isIn⟩
theorem hd_X10_allIn : yX10_allIn.cls ≠ "java/lang/invoke/MethodHandle" ∧ yX10_allIn.cls ≠ "java/lang/invoke/VarHandle" ∧ (parseMethodDescriptor yX10_allIn.desc).map (fun d => d.parameters.length) = some 1 := by decide +kernel
theorem hv_X10_allIn : yX10_allIn.cls = RX10 ∧ yX10_allIn.cls ≠ "java/lang/invoke/MethodHandle" ∧ yX10_allIn.cls ≠ "java/lang/invoke/VarHandle" ∧ (parseMethodDescriptor yX10_allIn.desc).map (fun d => d.parameters.length) = some 1 := ⟨rfl, hd_X10_allIn⟩
theorem hd_X10_withGroup : yX10_withGroup.cls ≠ "java/lang/invoke/MethodHandle" ∧ yX10_withGroup.cls ≠ "java/lang/invoke/VarHandle" ∧ (parseMethodDescriptor yX10_withGroup.desc).map (fun d => d.parameters.length) = some 1 := by decide +kernel
theorem hv_X10_withGroup : yX10_withGroup.cls = RX10 ∧ yX10_withGroup.cls ≠ "java/lang/invoke/MethodHandle" ∧ yX10_withGroup.cls ≠ "java/lang/invoke/VarHandle" ∧ (parseMethodDescriptor yX10_withGroup.desc).map (fun d => d.parameters.length) = some 1 := ⟨rfl, hd_X10_withGroup⟩
theorem hd_X10_withMaster : yX10_withMaster.cls ≠ "java/lang/invoke/MethodHandle" ∧ yX10_withMaster.cls ≠ "java/lang/invoke/VarHandle" ∧ (parseMethodDescriptor yX10_withMaster.desc).map (fun d => d.parameters.length) = some 1 := by decide +kernel
theorem hv_X10_withMaster : yX10_withMaster.cls = RX10 ∧ yX10_withMaster.cls ≠ "java/lang/invoke/MethodHandle" ∧ yX10_withMaster.cls ≠ "java/lang/invoke/VarHandle" ∧ (parseMethodDescriptor yX10_withMaster.desc).map (fun d => d.parameters.length) = some 1 := ⟨rfl, hd_X10_withMaster⟩
theorem hd_X10_withAnyGroup : yX10_withAnyGroup.cls ≠ "java/lang/invoke/MethodHandle" ∧ yX10_withAnyGroup.cls ≠ "java/lang/invoke/VarHandle" ∧ (parseMethodDescriptor yX10_withAnyGroup.desc).map (fun d => d.parameters.length) = some 0 := by decide +kernel
theorem hv_X10_withAnyGroup : yX10_withAnyGroup.cls = RX10 ∧ yX10_withAnyGroup.cls ≠ "java/lang/invoke/MethodHandle" ∧ yX10_withAnyGroup.cls ≠ "java/lang/invoke/VarHandle" ∧ (parseMethodDescriptor yX10_withAnyGroup.desc).map (fun d => d.parameters.length) = some 0 := ⟨rfl, hd_X10_withAnyGroup⟩
theorem hd_X10_withAnyMaster : yX10_withAnyMaster.cls ≠ "java/lang/invoke/MethodHandle" ∧ yX10_withAnyMaster.cls ≠ "java/lang/invoke/VarHandle" ∧ (parseMethodDescriptor yX10_withAnyMaster.desc).map (fun d => d.parameters.length) = some 0 := by decide +kernel
theorem hv_X10_withAnyMaster : yX10_withAnyMaster.cls = RX10 ∧ yX10_withAnyMaster.cls ≠ "java/lang/invoke/MethodHandle" ∧ yX10_withAnyMaster.cls ≠ "java/lang/invoke/VarHandle" ∧ (parseMethodDescriptor yX10_withAnyMaster.desc).map (fun d => d.parameters.length) = some 0 := ⟨rfl, hd_X10_withAnyMaster⟩
theorem hd_X10_having : yX10_having.cls ≠ "java/lang/invoke/MethodHandle" ∧ yX10_having.cls ≠ "java/lang/invoke/VarHandle" ∧ (parseMethodDescriptor yX10_having.desc).map (fun d => d.parameters.length) = some 2 := by decide +kernel
theorem hv_X10_having : yX10_having.cls = RX10 ∧ yX10_having.cls ≠ "java/lang/invoke/MethodHandle" ∧ yX10_having.cls ≠ "java/lang/invoke/VarHandle" ∧ (parseMethodDescriptor yX10_having.desc).map (fun d => d.parameters.length) = some 2 := ⟨rfl, hd_X10_having⟩
theorem hd_X10_groupCount : yX10_groupCount.cls ≠ "java/lang/invoke/MethodHandle" ∧ yX10_groupCount.cls ≠ "java/lang/invoke/VarHandle" ∧ (parseMethodDescriptor yX10_groupCount.desc).map (fun d => d.parameters.length) = some 0 := by decide +kernel
theorem hv_X10_groupCount : yX10_groupCount.cls = RX10 ∧ yX10_groupCount.cls ≠ "java/lang/invoke/MethodHandle" ∧ yX10_groupCount.cls ≠ "java/lang/invoke/VarHandle" ∧ (parseMethodDescriptor yX10_groupCount.desc).map (fun d => d.parameters.length) = some 0 := ⟨rfl, hd_X10_groupCount⟩
theorem hd_X10_peersOf : yX10_peersOf.cls ≠ "java/lang/invoke/MethodHandle" ∧ yX10_peersOf.cls ≠ "java/lang/invoke/VarHandle" ∧ (parseMethodDescriptor yX10_peersOf.desc).map (fun d => d.parameters.length) = some 1 := by decide +kernel
theorem hv_X10_peersOf : yX10_peersOf.cls = RX10 ∧ yX10_peersOf.cls ≠ "java/lang/invoke/MethodHandle" ∧ yX10_peersOf.cls ≠ "java/lang/invoke/VarHandle" ∧ (parseMethodDescriptor yX10_peersOf.desc).map (fun d => d.parameters.length) = some 1 := ⟨rfl, hd_X10_peersOf⟩
theorem hd_X10_leastMasterOf : yX10_leastMasterOf.cls ≠ "java/lang/invoke/MethodHandle" ∧ yX10_leastMasterOf.cls ≠ "java/lang/invoke/VarHandle" ∧ (parseMethodDescriptor yX10_leastMasterOf.desc).map (fun d => d.parameters.length) = some 1 := by decide +kernel
theorem hv_X10_leastMasterOf : yX10_leastMasterOf.cls = RX10 ∧ yX10_leastMasterOf.cls ≠ "java/lang/invoke/MethodHandle" ∧ yX10_leastMasterOf.cls ≠ "java/lang/invoke/VarHandle" ∧ (parseMethodDescriptor yX10_leastMasterOf.desc).map (fun d => d.parameters.length) = some 1 := ⟨rfl, hd_X10_leastMasterOf⟩
theorem hd_X10_spreadOf : yX10_spreadOf.cls ≠ "java/lang/invoke/MethodHandle" ∧ yX10_spreadOf.cls ≠ "java/lang/invoke/VarHandle" ∧ (parseMethodDescriptor yX10_spreadOf.desc).map (fun d => d.parameters.length) = some 1 := by decide +kernel
theorem hv_X10_spreadOf : yX10_spreadOf.cls = RX10 ∧ yX10_spreadOf.cls ≠ "java/lang/invoke/MethodHandle" ∧ yX10_spreadOf.cls ≠ "java/lang/invoke/VarHandle" ∧ (parseMethodDescriptor yX10_spreadOf.desc).map (fun d => d.parameters.length) = some 1 := ⟨rfl, hd_X10_spreadOf⟩
theorem hd_X10_leastOf : yX10_leastOf.cls ≠ "java/lang/invoke/MethodHandle" ∧ yX10_leastOf.cls ≠ "java/lang/invoke/VarHandle" ∧ (parseMethodDescriptor yX10_leastOf.desc).map (fun d => d.parameters.length) = some 1 := by decide +kernel
theorem hv_X10_leastOf : yX10_leastOf.cls = RX10 ∧ yX10_leastOf.cls ≠ "java/lang/invoke/MethodHandle" ∧ yX10_leastOf.cls ≠ "java/lang/invoke/VarHandle" ∧ (parseMethodDescriptor yX10_leastOf.desc).map (fun d => d.parameters.length) = some 1 := ⟨rfl, hd_X10_leastOf⟩
theorem hd_X10_newGroup : yX10_newGroup.cls ≠ "java/lang/invoke/MethodHandle" ∧ yX10_newGroup.cls ≠ "java/lang/invoke/VarHandle" ∧ (parseMethodDescriptor yX10_newGroup.desc).map (fun d => d.parameters.length) = some 0 := by decide +kernel
theorem hv_X10_newGroup : yX10_newGroup.cls = RX10 ∧ yX10_newGroup.cls ≠ "java/lang/invoke/MethodHandle" ∧ yX10_newGroup.cls ≠ "java/lang/invoke/VarHandle" ∧ (parseMethodDescriptor yX10_newGroup.desc).map (fun d => d.parameters.length) = some 0 := ⟨rfl, hd_X10_newGroup⟩
theorem hd_X10_put : yX10_put.cls ≠ "java/lang/invoke/MethodHandle" ∧ yX10_put.cls ≠ "java/lang/invoke/VarHandle" ∧ (parseMethodDescriptor yX10_put.desc).map (fun d => d.parameters.length) = some 4 := by decide +kernel
theorem hv_X10_put : yX10_put.cls = RX10 ∧ yX10_put.cls ≠ "java/lang/invoke/MethodHandle" ∧ yX10_put.cls ≠ "java/lang/invoke/VarHandle" ∧ (parseMethodDescriptor yX10_put.desc).map (fun d => d.parameters.length) = some 4 := ⟨rfl, hd_X10_put⟩
theorem hd_X10_remove : yX10_remove.cls ≠ "java/lang/invoke/MethodHandle" ∧ yX10_remove.cls ≠ "java/lang/invoke/VarHandle" ∧ (parseMethodDescriptor yX10_remove.desc).map (fun d => d.parameters.length) = some 1 := by decide +kernel
theorem hv_X10_remove : yX10_remove.cls = RX10 ∧ yX10_remove.cls ≠ "java/lang/invoke/MethodHandle" ∧ yX10_remove.cls ≠ "java/lang/invoke/VarHandle" ∧ (parseMethodDescriptor yX10_remove.desc).map (fun d => d.parameters.length) = some 1 := ⟨rfl, hd_X10_remove⟩
theorem hd_X10_carry : yX10_carry.cls ≠ "java/lang/invoke/MethodHandle" ∧ yX10_carry.cls ≠ "java/lang/invoke/VarHandle" ∧ (parseMethodDescriptor yX10_carry.desc).map (fun d => d.parameters.length) = some 3 := by decide +kernel
theorem hv_X10_carry : yX10_carry.cls = RX10 ∧ yX10_carry.cls ≠ "java/lang/invoke/MethodHandle" ∧ yX10_carry.cls ≠ "java/lang/invoke/VarHandle" ∧ (parseMethodDescriptor yX10_carry.desc).map (fun d => d.parameters.length) = some 3 := ⟨rfl, hd_X10_carry⟩
theorem hd_X10_leaveGroup : yX10_leaveGroup.cls ≠ "java/lang/invoke/MethodHandle" ∧ yX10_leaveGroup.cls ≠ "java/lang/invoke/VarHandle" ∧ (parseMethodDescriptor yX10_leaveGroup.desc).map (fun d => d.parameters.length) = some 1 := by decide +kernel
theorem hv_X10_leaveGroup : yX10_leaveGroup.cls = RX10 ∧ yX10_leaveGroup.cls ≠ "java/lang/invoke/MethodHandle" ∧ yX10_leaveGroup.cls ≠ "java/lang/invoke/VarHandle" ∧ (parseMethodDescriptor yX10_leaveGroup.desc).map (fun d => d.parameters.length) = some 1 := ⟨rfl, hd_X10_leaveGroup⟩
theorem hd_X10_makePrivate : yX10_makePrivate.cls ≠ "java/lang/invoke/MethodHandle" ∧ yX10_makePrivate.cls ≠ "java/lang/invoke/VarHandle" ∧ (parseMethodDescriptor yX10_makePrivate.desc).map (fun d => d.parameters.length) = some 1 := by decide +kernel
theorem hv_X10_makePrivate : yX10_makePrivate.cls = RX10 ∧ yX10_makePrivate.cls ≠ "java/lang/invoke/MethodHandle" ∧ yX10_makePrivate.cls ≠ "java/lang/invoke/VarHandle" ∧ (parseMethodDescriptor yX10_makePrivate.desc).map (fun d => d.parameters.length) = some 1 := ⟨rfl, hd_X10_makePrivate⟩
theorem hd_X10_makeUnbindable : yX10_makeUnbindable.cls ≠ "java/lang/invoke/MethodHandle" ∧ yX10_makeUnbindable.cls ≠ "java/lang/invoke/VarHandle" ∧ (parseMethodDescriptor yX10_makeUnbindable.desc).map (fun d => d.parameters.length) = some 1 := by decide +kernel
theorem hv_X10_makeUnbindable : yX10_makeUnbindable.cls = RX10 ∧ yX10_makeUnbindable.cls ≠ "java/lang/invoke/MethodHandle" ∧ yX10_makeUnbindable.cls ≠ "java/lang/invoke/VarHandle" ∧ (parseMethodDescriptor yX10_makeUnbindable.desc).map (fun d => d.parameters.length) = some 1 := ⟨rfl, hd_X10_makeUnbindable⟩
theorem hd_X10_makeShared : yX10_makeShared.cls ≠ "java/lang/invoke/MethodHandle" ∧ yX10_makeShared.cls ≠ "java/lang/invoke/VarHandle" ∧ (parseMethodDescriptor yX10_makeShared.desc).map (fun d => d.parameters.length) = some 1 := by decide +kernel
theorem hv_X10_makeShared : yX10_makeShared.cls = RX10 ∧ yX10_makeShared.cls ≠ "java/lang/invoke/MethodHandle" ∧ yX10_makeShared.cls ≠ "java/lang/invoke/VarHandle" ∧ (parseMethodDescriptor yX10_makeShared.desc).map (fun d => d.parameters.length) = some 1 := ⟨rfl, hd_X10_makeShared⟩
theorem hd_X10_makeSlave : yX10_makeSlave.cls ≠ "java/lang/invoke/MethodHandle" ∧ yX10_makeSlave.cls ≠ "java/lang/invoke/VarHandle" ∧ (parseMethodDescriptor yX10_makeSlave.desc).map (fun d => d.parameters.length) = some 1 := by decide +kernel
theorem hv_X10_makeSlave : yX10_makeSlave.cls = RX10 ∧ yX10_makeSlave.cls ≠ "java/lang/invoke/MethodHandle" ∧ yX10_makeSlave.cls ≠ "java/lang/invoke/VarHandle" ∧ (parseMethodDescriptor yX10_makeSlave.desc).map (fun d => d.parameters.length) = some 1 := ⟨rfl, hd_X10_makeSlave⟩
theorem hd_X11_init : yX11_init.cls ≠ "java/lang/invoke/MethodHandle" ∧ yX11_init.cls ≠ "java/lang/invoke/VarHandle" ∧ (parseMethodDescriptor yX11_init.desc).map (fun d => d.parameters.length) = some 0 := by decide +kernel
theorem hv_X11_init : yX11_init.cls = RX11 ∧ yX11_init.cls ≠ "java/lang/invoke/MethodHandle" ∧ yX11_init.cls ≠ "java/lang/invoke/VarHandle" ∧ (parseMethodDescriptor yX11_init.desc).map (fun d => d.parameters.length) = some 0 := ⟨rfl, hd_X11_init⟩
theorem hd_X11_sign : yX11_sign.cls ≠ "java/lang/invoke/MethodHandle" ∧ yX11_sign.cls ≠ "java/lang/invoke/VarHandle" ∧ (parseMethodDescriptor yX11_sign.desc).map (fun d => d.parameters.length) = some 1 := by decide +kernel
theorem hv_X11_sign : yX11_sign.cls = RX11 ∧ yX11_sign.cls ≠ "java/lang/invoke/MethodHandle" ∧ yX11_sign.cls ≠ "java/lang/invoke/VarHandle" ∧ (parseMethodDescriptor yX11_sign.desc).map (fun d => d.parameters.length) = some 1 := ⟨rfl, hd_X11_sign⟩
theorem hd_X11_end : yX11_end.cls ≠ "java/lang/invoke/MethodHandle" ∧ yX11_end.cls ≠ "java/lang/invoke/VarHandle" ∧ (parseMethodDescriptor yX11_end.desc).map (fun d => d.parameters.length) = some 1 := by decide +kernel
theorem hv_X11_end : yX11_end.cls = RX11 ∧ yX11_end.cls ≠ "java/lang/invoke/MethodHandle" ∧ yX11_end.cls ≠ "java/lang/invoke/VarHandle" ∧ (parseMethodDescriptor yX11_end.desc).map (fun d => d.parameters.length) = some 1 := ⟨rfl, hd_X11_end⟩
theorem hd_X11_rule : yX11_rule.cls ≠ "java/lang/invoke/MethodHandle" ∧ yX11_rule.cls ≠ "java/lang/invoke/VarHandle" ∧ (parseMethodDescriptor yX11_rule.desc).map (fun d => d.parameters.length) = some 0 := by decide +kernel
theorem hv_X11_rule : yX11_rule.cls = RX11 ∧ yX11_rule.cls ≠ "java/lang/invoke/MethodHandle" ∧ yX11_rule.cls ≠ "java/lang/invoke/VarHandle" ∧ (parseMethodDescriptor yX11_rule.desc).map (fun d => d.parameters.length) = some 0 := ⟨rfl, hd_X11_rule⟩
theorem hd_X11_place : yX11_place.cls ≠ "java/lang/invoke/MethodHandle" ∧ yX11_place.cls ≠ "java/lang/invoke/VarHandle" ∧ (parseMethodDescriptor yX11_place.desc).map (fun d => d.parameters.length) = some 0 := by decide +kernel
theorem hv_X11_place : yX11_place.cls = RX11 ∧ yX11_place.cls ≠ "java/lang/invoke/MethodHandle" ∧ yX11_place.cls ≠ "java/lang/invoke/VarHandle" ∧ (parseMethodDescriptor yX11_place.desc).map (fun d => d.parameters.length) = some 0 := ⟨rfl, hd_X11_place⟩
theorem hd_X11_mount : yX11_mount.cls ≠ "java/lang/invoke/MethodHandle" ∧ yX11_mount.cls ≠ "java/lang/invoke/VarHandle" ∧ (parseMethodDescriptor yX11_mount.desc).map (fun d => d.parameters.length) = some 2 := by decide +kernel
theorem hv_X11_mount : yX11_mount.cls = RX11 ∧ yX11_mount.cls ≠ "java/lang/invoke/MethodHandle" ∧ yX11_mount.cls ≠ "java/lang/invoke/VarHandle" ∧ (parseMethodDescriptor yX11_mount.desc).map (fun d => d.parameters.length) = some 2 := ⟨rfl, hd_X11_mount⟩
theorem hd_X11_at : yX11_at.cls ≠ "java/lang/invoke/MethodHandle" ∧ yX11_at.cls ≠ "java/lang/invoke/VarHandle" ∧ (parseMethodDescriptor yX11_at.desc).map (fun d => d.parameters.length) = some 2 := by decide +kernel
theorem hv_X11_at : yX11_at.cls = RX11 ∧ yX11_at.cls ≠ "java/lang/invoke/MethodHandle" ∧ yX11_at.cls ≠ "java/lang/invoke/VarHandle" ∧ (parseMethodDescriptor yX11_at.desc).map (fun d => d.parameters.length) = some 2 := ⟨rfl, hd_X11_at⟩
theorem hd_X11_sheet : yX11_sheet.cls ≠ "java/lang/invoke/MethodHandle" ∧ yX11_sheet.cls ≠ "java/lang/invoke/VarHandle" ∧ (parseMethodDescriptor yX11_sheet.desc).map (fun d => d.parameters.length) = some 4 := by decide +kernel
theorem hv_X11_sheet : yX11_sheet.cls = RX11 ∧ yX11_sheet.cls ≠ "java/lang/invoke/MethodHandle" ∧ yX11_sheet.cls ≠ "java/lang/invoke/VarHandle" ∧ (parseMethodDescriptor yX11_sheet.desc).map (fun d => d.parameters.length) = some 4 := ⟨rfl, hd_X11_sheet⟩
theorem hd_X11_toldBySheet : yX11_toldBySheet.cls ≠ "java/lang/invoke/MethodHandle" ∧ yX11_toldBySheet.cls ≠ "java/lang/invoke/VarHandle" ∧ (parseMethodDescriptor yX11_toldBySheet.desc).map (fun d => d.parameters.length) = some 4 := by decide +kernel
theorem hv_X11_toldBySheet : yX11_toldBySheet.cls = RX11 ∧ yX11_toldBySheet.cls ≠ "java/lang/invoke/MethodHandle" ∧ yX11_toldBySheet.cls ≠ "java/lang/invoke/VarHandle" ∧ (parseMethodDescriptor yX11_toldBySheet.desc).map (fun d => d.parameters.length) = some 4 := ⟨rfl, hd_X11_toldBySheet⟩
theorem hd_X11_asWide : yX11_asWide.cls ≠ "java/lang/invoke/MethodHandle" ∧ yX11_asWide.cls ≠ "java/lang/invoke/VarHandle" ∧ (parseMethodDescriptor yX11_asWide.desc).map (fun d => d.parameters.length) = some 2 := by decide +kernel
theorem hv_X11_asWide : yX11_asWide.cls = RX11 ∧ yX11_asWide.cls ≠ "java/lang/invoke/MethodHandle" ∧ yX11_asWide.cls ≠ "java/lang/invoke/VarHandle" ∧ (parseMethodDescriptor yX11_asWide.desc).map (fun d => d.parameters.length) = some 2 := ⟨rfl, hd_X11_asWide⟩
theorem hd_X11_mounts : yX11_mounts.cls ≠ "java/lang/invoke/MethodHandle" ∧ yX11_mounts.cls ≠ "java/lang/invoke/VarHandle" ∧ (parseMethodDescriptor yX11_mounts.desc).map (fun d => d.parameters.length) = some 2 := by decide +kernel
theorem hv_X11_mounts : yX11_mounts.cls = RX11 ∧ yX11_mounts.cls ≠ "java/lang/invoke/MethodHandle" ∧ yX11_mounts.cls ≠ "java/lang/invoke/VarHandle" ∧ (parseMethodDescriptor yX11_mounts.desc).map (fun d => d.parameters.length) = some 2 := ⟨rfl, hd_X11_mounts⟩
theorem hd_X11_binds : yX11_binds.cls ≠ "java/lang/invoke/MethodHandle" ∧ yX11_binds.cls ≠ "java/lang/invoke/VarHandle" ∧ (parseMethodDescriptor yX11_binds.desc).map (fun d => d.parameters.length) = some 3 := by decide +kernel
theorem hv_X11_binds : yX11_binds.cls = RX11 ∧ yX11_binds.cls ≠ "java/lang/invoke/MethodHandle" ∧ yX11_binds.cls ≠ "java/lang/invoke/VarHandle" ∧ (parseMethodDescriptor yX11_binds.desc).map (fun d => d.parameters.length) = some 3 := ⟨rfl, hd_X11_binds⟩
theorem hd_X11_trees : yX11_trees.cls ≠ "java/lang/invoke/MethodHandle" ∧ yX11_trees.cls ≠ "java/lang/invoke/VarHandle" ∧ (parseMethodDescriptor yX11_trees.desc).map (fun d => d.parameters.length) = some 3 := by decide +kernel
theorem hv_X11_trees : yX11_trees.cls = RX11 ∧ yX11_trees.cls ≠ "java/lang/invoke/MethodHandle" ∧ yX11_trees.cls ≠ "java/lang/invoke/VarHandle" ∧ (parseMethodDescriptor yX11_trees.desc).map (fun d => d.parameters.length) = some 3 := ⟨rfl, hd_X11_trees⟩
theorem hd_X11_makes : yX11_makes.cls ≠ "java/lang/invoke/MethodHandle" ∧ yX11_makes.cls ≠ "java/lang/invoke/VarHandle" ∧ (parseMethodDescriptor yX11_makes.desc).map (fun d => d.parameters.length) = some 2 := by decide +kernel
theorem hv_X11_makes : yX11_makes.cls = RX11 ∧ yX11_makes.cls ≠ "java/lang/invoke/MethodHandle" ∧ yX11_makes.cls ≠ "java/lang/invoke/VarHandle" ∧ (parseMethodDescriptor yX11_makes.desc).map (fun d => d.parameters.length) = some 2 := ⟨rfl, hd_X11_makes⟩
theorem hd_X11_unmounts : yX11_unmounts.cls ≠ "java/lang/invoke/MethodHandle" ∧ yX11_unmounts.cls ≠ "java/lang/invoke/VarHandle" ∧ (parseMethodDescriptor yX11_unmounts.desc).map (fun d => d.parameters.length) = some 2 := by decide +kernel
theorem hv_X11_unmounts : yX11_unmounts.cls = RX11 ∧ yX11_unmounts.cls ≠ "java/lang/invoke/MethodHandle" ∧ yX11_unmounts.cls ≠ "java/lang/invoke/VarHandle" ∧ (parseMethodDescriptor yX11_unmounts.desc).map (fun d => d.parameters.length) = some 2 := ⟨rfl, hd_X11_unmounts⟩
theorem hd_X11_moves : yX11_moves.cls ≠ "java/lang/invoke/MethodHandle" ∧ yX11_moves.cls ≠ "java/lang/invoke/VarHandle" ∧ (parseMethodDescriptor yX11_moves.desc).map (fun d => d.parameters.length) = some 3 := by decide +kernel
theorem hv_X11_moves : yX11_moves.cls = RX11 ∧ yX11_moves.cls ≠ "java/lang/invoke/MethodHandle" ∧ yX11_moves.cls ≠ "java/lang/invoke/VarHandle" ∧ (parseMethodDescriptor yX11_moves.desc).map (fun d => d.parameters.length) = some 3 := ⟨rfl, hd_X11_moves⟩
theorem hd_X11_remembered : yX11_remembered.cls ≠ "java/lang/invoke/MethodHandle" ∧ yX11_remembered.cls ≠ "java/lang/invoke/VarHandle" ∧ (parseMethodDescriptor yX11_remembered.desc).map (fun d => d.parameters.length) = some 1 := by decide +kernel
theorem hv_X11_remembered : yX11_remembered.cls = RX11 ∧ yX11_remembered.cls ≠ "java/lang/invoke/MethodHandle" ∧ yX11_remembered.cls ≠ "java/lang/invoke/VarHandle" ∧ (parseMethodDescriptor yX11_remembered.desc).map (fun d => d.parameters.length) = some 1 := ⟨rfl, hd_X11_remembered⟩
theorem hd_X11_toldWithCame : yX11_toldWithCame.cls ≠ "java/lang/invoke/MethodHandle" ∧ yX11_toldWithCame.cls ≠ "java/lang/invoke/VarHandle" ∧ (parseMethodDescriptor yX11_toldWithCame.desc).map (fun d => d.parameters.length) = some 1 := by decide +kernel
theorem hv_X11_toldWithCame : yX11_toldWithCame.cls = RX11 ∧ yX11_toldWithCame.cls ≠ "java/lang/invoke/MethodHandle" ∧ yX11_toldWithCame.cls ≠ "java/lang/invoke/VarHandle" ∧ (parseMethodDescriptor yX11_toldWithCame.desc).map (fun d => d.parameters.length) = some 1 := ⟨rfl, hd_X11_toldWithCame⟩
theorem hd_X11_day : yX11_day.cls ≠ "java/lang/invoke/MethodHandle" ∧ yX11_day.cls ≠ "java/lang/invoke/VarHandle" ∧ (parseMethodDescriptor yX11_day.desc).map (fun d => d.parameters.length) = some 0 := by decide +kernel
theorem hv_X11_day : yX11_day.cls = RX11 ∧ yX11_day.cls ≠ "java/lang/invoke/MethodHandle" ∧ yX11_day.cls ≠ "java/lang/invoke/VarHandle" ∧ (parseMethodDescriptor yX11_day.desc).map (fun d => d.parameters.length) = some 0 := ⟨rfl, hd_X11_day⟩
theorem hd_X11_undo : yX11_undo.cls ≠ "java/lang/invoke/MethodHandle" ∧ yX11_undo.cls ≠ "java/lang/invoke/VarHandle" ∧ (parseMethodDescriptor yX11_undo.desc).map (fun d => d.parameters.length) = some 0 := by decide +kernel
theorem hv_X11_undo : yX11_undo.cls = RX11 ∧ yX11_undo.cls ≠ "java/lang/invoke/MethodHandle" ∧ yX11_undo.cls ≠ "java/lang/invoke/VarHandle" ∧ (parseMethodDescriptor yX11_undo.desc).map (fun d => d.parameters.length) = some 0 := ⟨rfl, hd_X11_undo⟩
theorem hd_X11_spread : yX11_spread.cls ≠ "java/lang/invoke/MethodHandle" ∧ yX11_spread.cls ≠ "java/lang/invoke/VarHandle" ∧ (parseMethodDescriptor yX11_spread.desc).map (fun d => d.parameters.length) = some 1 := by decide +kernel
theorem hv_X11_spread : yX11_spread.cls = RX11 ∧ yX11_spread.cls ≠ "java/lang/invoke/MethodHandle" ∧ yX11_spread.cls ≠ "java/lang/invoke/VarHandle" ∧ (parseMethodDescriptor yX11_spread.desc).map (fun d => d.parameters.length) = some 1 := ⟨rfl, hd_X11_spread⟩
theorem hd_X11_peers : yX11_peers.cls ≠ "java/lang/invoke/MethodHandle" ∧ yX11_peers.cls ≠ "java/lang/invoke/VarHandle" ∧ (parseMethodDescriptor yX11_peers.desc).map (fun d => d.parameters.length) = some 1 := by decide +kernel
theorem hv_X11_peers : yX11_peers.cls = RX11 ∧ yX11_peers.cls ≠ "java/lang/invoke/MethodHandle" ∧ yX11_peers.cls ≠ "java/lang/invoke/VarHandle" ∧ (parseMethodDescriptor yX11_peers.desc).map (fun d => d.parameters.length) = some 1 := ⟨rfl, hd_X11_peers⟩
theorem hd_X11_masters : yX11_masters.cls ≠ "java/lang/invoke/MethodHandle" ∧ yX11_masters.cls ≠ "java/lang/invoke/VarHandle" ∧ (parseMethodDescriptor yX11_masters.desc).map (fun d => d.parameters.length) = some 1 := by decide +kernel
theorem hv_X11_masters : yX11_masters.cls = RX11 ∧ yX11_masters.cls ≠ "java/lang/invoke/MethodHandle" ∧ yX11_masters.cls ≠ "java/lang/invoke/VarHandle" ∧ (parseMethodDescriptor yX11_masters.desc).map (fun d => d.parameters.length) = some 1 := ⟨rfl, hd_X11_masters⟩
theorem hd_X11_groups : yX11_groups.cls ≠ "java/lang/invoke/MethodHandle" ∧ yX11_groups.cls ≠ "java/lang/invoke/VarHandle" ∧ (parseMethodDescriptor yX11_groups.desc).map (fun d => d.parameters.length) = some 0 := by decide +kernel
theorem hv_X11_groups : yX11_groups.cls = RX11 ∧ yX11_groups.cls ≠ "java/lang/invoke/MethodHandle" ∧ yX11_groups.cls ≠ "java/lang/invoke/VarHandle" ∧ (parseMethodDescriptor yX11_groups.desc).map (fun d => d.parameters.length) = some 0 := ⟨rfl, hd_X11_groups⟩
theorem hd_X11_keepers : yX11_keepers.cls ≠ "java/lang/invoke/MethodHandle" ∧ yX11_keepers.cls ≠ "java/lang/invoke/VarHandle" ∧ (parseMethodDescriptor yX11_keepers.desc).map (fun d => d.parameters.length) = some 2 := by decide +kernel
theorem hv_X11_keepers : yX11_keepers.cls = RX11 ∧ yX11_keepers.cls ≠ "java/lang/invoke/MethodHandle" ∧ yX11_keepers.cls ≠ "java/lang/invoke/VarHandle" ∧ (parseMethodDescriptor yX11_keepers.desc).map (fun d => d.parameters.length) = some 2 := ⟨rfl, hd_X11_keepers⟩
theorem hd_X11_toldWithSize : yX11_toldWithSize.cls ≠ "java/lang/invoke/MethodHandle" ∧ yX11_toldWithSize.cls ≠ "java/lang/invoke/VarHandle" ∧ (parseMethodDescriptor yX11_toldWithSize.desc).map (fun d => d.parameters.length) = some 1 := by decide +kernel
theorem hv_X11_toldWithSize : yX11_toldWithSize.cls = RX11 ∧ yX11_toldWithSize.cls ≠ "java/lang/invoke/MethodHandle" ∧ yX11_toldWithSize.cls ≠ "java/lang/invoke/VarHandle" ∧ (parseMethodDescriptor yX11_toldWithSize.desc).map (fun d => d.parameters.length) = some 1 := ⟨rfl, hd_X11_toldWithSize⟩
theorem hd_X11_inside : yX11_inside.cls ≠ "java/lang/invoke/MethodHandle" ∧ yX11_inside.cls ≠ "java/lang/invoke/VarHandle" ∧ (parseMethodDescriptor yX11_inside.desc).map (fun d => d.parameters.length) = some 1 := by decide +kernel
theorem hv_X11_inside : yX11_inside.cls = RX11 ∧ yX11_inside.cls ≠ "java/lang/invoke/MethodHandle" ∧ yX11_inside.cls ≠ "java/lang/invoke/VarHandle" ∧ (parseMethodDescriptor yX11_inside.desc).map (fun d => d.parameters.length) = some 1 := ⟨rfl, hd_X11_inside⟩
theorem hd_X11_path : yX11_path.cls ≠ "java/lang/invoke/MethodHandle" ∧ yX11_path.cls ≠ "java/lang/invoke/VarHandle" ∧ (parseMethodDescriptor yX11_path.desc).map (fun d => d.parameters.length) = some 1 := by decide +kernel
theorem hv_X11_path : yX11_path.cls = RX11 ∧ yX11_path.cls ≠ "java/lang/invoke/MethodHandle" ∧ yX11_path.cls ≠ "java/lang/invoke/VarHandle" ∧ (parseMethodDescriptor yX11_path.desc).map (fun d => d.parameters.length) = some 1 := ⟨rfl, hd_X11_path⟩
theorem hd_X11_alike : yX11_alike.cls ≠ "java/lang/invoke/MethodHandle" ∧ yX11_alike.cls ≠ "java/lang/invoke/VarHandle" ∧ (parseMethodDescriptor yX11_alike.desc).map (fun d => d.parameters.length) = some 2 := by decide +kernel
theorem hv_X11_alike : yX11_alike.cls = RX11 ∧ yX11_alike.cls ≠ "java/lang/invoke/MethodHandle" ∧ yX11_alike.cls ≠ "java/lang/invoke/VarHandle" ∧ (parseMethodDescriptor yX11_alike.desc).map (fun d => d.parameters.length) = some 2 := ⟨rfl, hd_X11_alike⟩
theorem hd_X11_differs : yX11_differs.cls ≠ "java/lang/invoke/MethodHandle" ∧ yX11_differs.cls ≠ "java/lang/invoke/VarHandle" ∧ (parseMethodDescriptor yX11_differs.desc).map (fun d => d.parameters.length) = some 3 := by decide +kernel
theorem hv_X11_differs : yX11_differs.cls = RX11 ∧ yX11_differs.cls ≠ "java/lang/invoke/MethodHandle" ∧ yX11_differs.cls ≠ "java/lang/invoke/VarHandle" ∧ (parseMethodDescriptor yX11_differs.desc).map (fun d => d.parameters.length) = some 3 := ⟨rfl, hd_X11_differs⟩
theorem hd_X11_largest : yX11_largest.cls ≠ "java/lang/invoke/MethodHandle" ∧ yX11_largest.cls ≠ "java/lang/invoke/VarHandle" ∧ (parseMethodDescriptor yX11_largest.desc).map (fun d => d.parameters.length) = some 0 := by decide +kernel
theorem hv_X11_largest : yX11_largest.cls = RX11 ∧ yX11_largest.cls ≠ "java/lang/invoke/MethodHandle" ∧ yX11_largest.cls ≠ "java/lang/invoke/VarHandle" ∧ (parseMethodDescriptor yX11_largest.desc).map (fun d => d.parameters.length) = some 0 := ⟨rfl, hd_X11_largest⟩
theorem hd_X11_would : yX11_would.cls ≠ "java/lang/invoke/MethodHandle" ∧ yX11_would.cls ≠ "java/lang/invoke/VarHandle" ∧ (parseMethodDescriptor yX11_would.desc).map (fun d => d.parameters.length) = some 2 := by decide +kernel
theorem hv_X11_would : yX11_would.cls = RX11 ∧ yX11_would.cls ≠ "java/lang/invoke/MethodHandle" ∧ yX11_would.cls ≠ "java/lang/invoke/VarHandle" ∧ (parseMethodDescriptor yX11_would.desc).map (fun d => d.parameters.length) = some 2 := ⟨rfl, hd_X11_would⟩
theorem hd_X11_lost : yX11_lost.cls ≠ "java/lang/invoke/MethodHandle" ∧ yX11_lost.cls ≠ "java/lang/invoke/VarHandle" ∧ (parseMethodDescriptor yX11_lost.desc).map (fun d => d.parameters.length) = some 2 := by decide +kernel
theorem hv_X11_lost : yX11_lost.cls = RX11 ∧ yX11_lost.cls ≠ "java/lang/invoke/MethodHandle" ∧ yX11_lost.cls ≠ "java/lang/invoke/VarHandle" ∧ (parseMethodDescriptor yX11_lost.desc).map (fun d => d.parameters.length) = some 2 := ⟨rfl, hd_X11_lost⟩
theorem hd_X11_widest : yX11_widest.cls ≠ "java/lang/invoke/MethodHandle" ∧ yX11_widest.cls ≠ "java/lang/invoke/VarHandle" ∧ (parseMethodDescriptor yX11_widest.desc).map (fun d => d.parameters.length) = some 0 := by decide +kernel
theorem hv_X11_widest : yX11_widest.cls = RX11 ∧ yX11_widest.cls ≠ "java/lang/invoke/MethodHandle" ∧ yX11_widest.cls ≠ "java/lang/invoke/VarHandle" ∧ (parseMethodDescriptor yX11_widest.desc).map (fun d => d.parameters.length) = some 0 := ⟨rfl, hd_X11_widest⟩
theorem hd_X11_heard : yX11_heard.cls ≠ "java/lang/invoke/MethodHandle" ∧ yX11_heard.cls ≠ "java/lang/invoke/VarHandle" ∧ (parseMethodDescriptor yX11_heard.desc).map (fun d => d.parameters.length) = some 2 := by decide +kernel
theorem hv_X11_heard : yX11_heard.cls = RX11 ∧ yX11_heard.cls ≠ "java/lang/invoke/MethodHandle" ∧ yX11_heard.cls ≠ "java/lang/invoke/VarHandle" ∧ (parseMethodDescriptor yX11_heard.desc).map (fun d => d.parameters.length) = some 2 := ⟨rfl, hd_X11_heard⟩
theorem hd_X11_forget : yX11_forget.cls ≠ "java/lang/invoke/MethodHandle" ∧ yX11_forget.cls ≠ "java/lang/invoke/VarHandle" ∧ (parseMethodDescriptor yX11_forget.desc).map (fun d => d.parameters.length) = some 0 := by decide +kernel
theorem hv_X11_forget : yX11_forget.cls = RX11 ∧ yX11_forget.cls ≠ "java/lang/invoke/MethodHandle" ∧ yX11_forget.cls ≠ "java/lang/invoke/VarHandle" ∧ (parseMethodDescriptor yX11_forget.desc).map (fun d => d.parameters.length) = some 0 := ⟨rfl, hd_X11_forget⟩
theorem hd_X11_fits : yX11_fits.cls ≠ "java/lang/invoke/MethodHandle" ∧ yX11_fits.cls ≠ "java/lang/invoke/VarHandle" ∧ (parseMethodDescriptor yX11_fits.desc).map (fun d => d.parameters.length) = some 0 := by decide +kernel
theorem hv_X11_fits : yX11_fits.cls = RX11 ∧ yX11_fits.cls ≠ "java/lang/invoke/MethodHandle" ∧ yX11_fits.cls ≠ "java/lang/invoke/VarHandle" ∧ (parseMethodDescriptor yX11_fits.desc).map (fun d => d.parameters.length) = some 0 := ⟨rfl, hd_X11_fits⟩
theorem hd_X11_asks : yX11_asks.cls ≠ "java/lang/invoke/MethodHandle" ∧ yX11_asks.cls ≠ "java/lang/invoke/VarHandle" ∧ (parseMethodDescriptor yX11_asks.desc).map (fun d => d.parameters.length) = some 0 := by decide +kernel
theorem hv_X11_asks : yX11_asks.cls = RX11 ∧ yX11_asks.cls ≠ "java/lang/invoke/MethodHandle" ∧ yX11_asks.cls ≠ "java/lang/invoke/VarHandle" ∧ (parseMethodDescriptor yX11_asks.desc).map (fun d => d.parameters.length) = some 0 := ⟨rfl, hd_X11_asks⟩
theorem hd_X11_saw : yX11_saw.cls ≠ "java/lang/invoke/MethodHandle" ∧ yX11_saw.cls ≠ "java/lang/invoke/VarHandle" ∧ (parseMethodDescriptor yX11_saw.desc).map (fun d => d.parameters.length) = some 3 := by decide +kernel
theorem hv_X11_saw : yX11_saw.cls = RX11 ∧ yX11_saw.cls ≠ "java/lang/invoke/MethodHandle" ∧ yX11_saw.cls ≠ "java/lang/invoke/VarHandle" ∧ (parseMethodDescriptor yX11_saw.desc).map (fun d => d.parameters.length) = some 3 := ⟨rfl, hd_X11_saw⟩
theorem hd_X11_denies : yX11_denies.cls ≠ "java/lang/invoke/MethodHandle" ∧ yX11_denies.cls ≠ "java/lang/invoke/VarHandle" ∧ (parseMethodDescriptor yX11_denies.desc).map (fun d => d.parameters.length) = some 0 := by decide +kernel
theorem hv_X11_denies : yX11_denies.cls = RX11 ∧ yX11_denies.cls ≠ "java/lang/invoke/MethodHandle" ∧ yX11_denies.cls ≠ "java/lang/invoke/VarHandle" ∧ (parseMethodDescriptor yX11_denies.desc).map (fun d => d.parameters.length) = some 0 := ⟨rfl, hd_X11_denies⟩
theorem hd_X11_laws : yX11_laws.cls ≠ "java/lang/invoke/MethodHandle" ∧ yX11_laws.cls ≠ "java/lang/invoke/VarHandle" ∧ (parseMethodDescriptor yX11_laws.desc).map (fun d => d.parameters.length) = some 0 := by decide +kernel
theorem hv_X11_laws : yX11_laws.cls = RX11 ∧ yX11_laws.cls ≠ "java/lang/invoke/MethodHandle" ∧ yX11_laws.cls ≠ "java/lang/invoke/VarHandle" ∧ (parseMethodDescriptor yX11_laws.desc).map (fun d => d.parameters.length) = some 0 := ⟨rfl, hd_X11_laws⟩
theorem hd_X11_looks : yX11_looks.cls ≠ "java/lang/invoke/MethodHandle" ∧ yX11_looks.cls ≠ "java/lang/invoke/VarHandle" ∧ (parseMethodDescriptor yX11_looks.desc).map (fun d => d.parameters.length) = some 0 := by decide +kernel
theorem hv_X11_looks : yX11_looks.cls = RX11 ∧ yX11_looks.cls ≠ "java/lang/invoke/MethodHandle" ∧ yX11_looks.cls ≠ "java/lang/invoke/VarHandle" ∧ (parseMethodDescriptor yX11_looks.desc).map (fun d => d.parameters.length) = some 0 := ⟨rfl, hd_X11_looks⟩
theorem hd_X11_odds : yX11_odds.cls ≠ "java/lang/invoke/MethodHandle" ∧ yX11_odds.cls ≠ "java/lang/invoke/VarHandle" ∧ (parseMethodDescriptor yX11_odds.desc).map (fun d => d.parameters.length) = some 3 := by decide +kernel
theorem hv_X11_odds : yX11_odds.cls = RX11 ∧ yX11_odds.cls ≠ "java/lang/invoke/MethodHandle" ∧ yX11_odds.cls ≠ "java/lang/invoke/VarHandle" ∧ (parseMethodDescriptor yX11_odds.desc).map (fun d => d.parameters.length) = some 3 := ⟨rfl, hd_X11_odds⟩
theorem hd_X11_hacks : yX11_hacks.cls ≠ "java/lang/invoke/MethodHandle" ∧ yX11_hacks.cls ≠ "java/lang/invoke/VarHandle" ∧ (parseMethodDescriptor yX11_hacks.desc).map (fun d => d.parameters.length) = some 1 := by decide +kernel
theorem hv_X11_hacks : yX11_hacks.cls = RX11 ∧ yX11_hacks.cls ≠ "java/lang/invoke/MethodHandle" ∧ yX11_hacks.cls ≠ "java/lang/invoke/VarHandle" ∧ (parseMethodDescriptor yX11_hacks.desc).map (fun d => d.parameters.length) = some 1 := ⟨rfl, hd_X11_hacks⟩
theorem hd_X11_nimber : yX11_nimber.cls ≠ "java/lang/invoke/MethodHandle" ∧ yX11_nimber.cls ≠ "java/lang/invoke/VarHandle" ∧ (parseMethodDescriptor yX11_nimber.desc).map (fun d => d.parameters.length) = some 4 := by decide +kernel
theorem hv_X11_nimber : yX11_nimber.cls = RX11 ∧ yX11_nimber.cls ≠ "java/lang/invoke/MethodHandle" ∧ yX11_nimber.cls ≠ "java/lang/invoke/VarHandle" ∧ (parseMethodDescriptor yX11_nimber.desc).map (fun d => d.parameters.length) = some 4 := ⟨rfl, hd_X11_nimber⟩
theorem hd_X11_rests : yX11_rests.cls ≠ "java/lang/invoke/MethodHandle" ∧ yX11_rests.cls ≠ "java/lang/invoke/VarHandle" ∧ (parseMethodDescriptor yX11_rests.desc).map (fun d => d.parameters.length) = some 1 := by decide +kernel
theorem hv_X11_rests : yX11_rests.cls = RX11 ∧ yX11_rests.cls ≠ "java/lang/invoke/MethodHandle" ∧ yX11_rests.cls ≠ "java/lang/invoke/VarHandle" ∧ (parseMethodDescriptor yX11_rests.desc).map (fun d => d.parameters.length) = some 1 := ⟨rfl, hd_X11_rests⟩
theorem hd_X11_isBest : yX11_isBest.cls ≠ "java/lang/invoke/MethodHandle" ∧ yX11_isBest.cls ≠ "java/lang/invoke/VarHandle" ∧ (parseMethodDescriptor yX11_isBest.desc).map (fun d => d.parameters.length) = some 3 := by decide +kernel
theorem hv_X11_isBest : yX11_isBest.cls = RX11 ∧ yX11_isBest.cls ≠ "java/lang/invoke/MethodHandle" ∧ yX11_isBest.cls ≠ "java/lang/invoke/VarHandle" ∧ (parseMethodDescriptor yX11_isBest.desc).map (fun d => d.parameters.length) = some 3 := ⟨rfl, hd_X11_isBest⟩
theorem hd_X11_gain : yX11_gain.cls ≠ "java/lang/invoke/MethodHandle" ∧ yX11_gain.cls ≠ "java/lang/invoke/VarHandle" ∧ (parseMethodDescriptor yX11_gain.desc).map (fun d => d.parameters.length) = some 3 := by decide +kernel
theorem hv_X11_gain : yX11_gain.cls = RX11 ∧ yX11_gain.cls ≠ "java/lang/invoke/MethodHandle" ∧ yX11_gain.cls ≠ "java/lang/invoke/VarHandle" ∧ (parseMethodDescriptor yX11_gain.desc).map (fun d => d.parameters.length) = some 3 := ⟨rfl, hd_X11_gain⟩
theorem hd_X11_law : yX11_law.cls ≠ "java/lang/invoke/MethodHandle" ∧ yX11_law.cls ≠ "java/lang/invoke/VarHandle" ∧ (parseMethodDescriptor yX11_law.desc).map (fun d => d.parameters.length) = some 2 := by decide +kernel
theorem hv_X11_law : yX11_law.cls = RX11 ∧ yX11_law.cls ≠ "java/lang/invoke/MethodHandle" ∧ yX11_law.cls ≠ "java/lang/invoke/VarHandle" ∧ (parseMethodDescriptor yX11_law.desc).map (fun d => d.parameters.length) = some 2 := ⟨rfl, hd_X11_law⟩
theorem hd_X11_broughtBy : yX11_broughtBy.cls ≠ "java/lang/invoke/MethodHandle" ∧ yX11_broughtBy.cls ≠ "java/lang/invoke/VarHandle" ∧ (parseMethodDescriptor yX11_broughtBy.desc).map (fun d => d.parameters.length) = some 3 := by decide +kernel
theorem hv_X11_broughtBy : yX11_broughtBy.cls = RX11 ∧ yX11_broughtBy.cls ≠ "java/lang/invoke/MethodHandle" ∧ yX11_broughtBy.cls ≠ "java/lang/invoke/VarHandle" ∧ (parseMethodDescriptor yX11_broughtBy.desc).map (fun d => d.parameters.length) = some 3 := ⟨rfl, hd_X11_broughtBy⟩
theorem hd_X11_years : yX11_years.cls ≠ "java/lang/invoke/MethodHandle" ∧ yX11_years.cls ≠ "java/lang/invoke/VarHandle" ∧ (parseMethodDescriptor yX11_years.desc).map (fun d => d.parameters.length) = some 2 := by decide +kernel
theorem hv_X11_years : yX11_years.cls = RX11 ∧ yX11_years.cls ≠ "java/lang/invoke/MethodHandle" ∧ yX11_years.cls ≠ "java/lang/invoke/VarHandle" ∧ (parseMethodDescriptor yX11_years.desc).map (fun d => d.parameters.length) = some 2 := ⟨rfl, hd_X11_years⟩
theorem hd_X11_draw : yX11_draw.cls ≠ "java/lang/invoke/MethodHandle" ∧ yX11_draw.cls ≠ "java/lang/invoke/VarHandle" ∧ (parseMethodDescriptor yX11_draw.desc).map (fun d => d.parameters.length) = some 1 := by decide +kernel
theorem hv_X11_draw : yX11_draw.cls = RX11 ∧ yX11_draw.cls ≠ "java/lang/invoke/MethodHandle" ∧ yX11_draw.cls ≠ "java/lang/invoke/VarHandle" ∧ (parseMethodDescriptor yX11_draw.desc).map (fun d => d.parameters.length) = some 1 := ⟨rfl, hd_X11_draw⟩
theorem hd_X11_keep : yX11_keep.cls ≠ "java/lang/invoke/MethodHandle" ∧ yX11_keep.cls ≠ "java/lang/invoke/VarHandle" ∧ (parseMethodDescriptor yX11_keep.desc).map (fun d => d.parameters.length) = some 1 := by decide +kernel
theorem hv_X11_keep : yX11_keep.cls = RX11 ∧ yX11_keep.cls ≠ "java/lang/invoke/MethodHandle" ∧ yX11_keep.cls ≠ "java/lang/invoke/VarHandle" ∧ (parseMethodDescriptor yX11_keep.desc).map (fun d => d.parameters.length) = some 1 := ⟨rfl, hd_X11_keep⟩
theorem hd_X11_again : yX11_again.cls ≠ "java/lang/invoke/MethodHandle" ∧ yX11_again.cls ≠ "java/lang/invoke/VarHandle" ∧ (parseMethodDescriptor yX11_again.desc).map (fun d => d.parameters.length) = some 1 := by decide +kernel
theorem hv_X11_again : yX11_again.cls = RX11 ∧ yX11_again.cls ≠ "java/lang/invoke/MethodHandle" ∧ yX11_again.cls ≠ "java/lang/invoke/VarHandle" ∧ (parseMethodDescriptor yX11_again.desc).map (fun d => d.parameters.length) = some 1 := ⟨rfl, hd_X11_again⟩
theorem hd_X11_count : yX11_count.cls ≠ "java/lang/invoke/MethodHandle" ∧ yX11_count.cls ≠ "java/lang/invoke/VarHandle" ∧ (parseMethodDescriptor yX11_count.desc).map (fun d => d.parameters.length) = some 1 := by decide +kernel
theorem hv_X11_count : yX11_count.cls = RX11 ∧ yX11_count.cls ≠ "java/lang/invoke/MethodHandle" ∧ yX11_count.cls ≠ "java/lang/invoke/VarHandle" ∧ (parseMethodDescriptor yX11_count.desc).map (fun d => d.parameters.length) = some 1 := ⟨rfl, hd_X11_count⟩
theorem hd_X11_row : yX11_row.cls ≠ "java/lang/invoke/MethodHandle" ∧ yX11_row.cls ≠ "java/lang/invoke/VarHandle" ∧ (parseMethodDescriptor yX11_row.desc).map (fun d => d.parameters.length) = some 1 := by decide +kernel
theorem hv_X11_row : yX11_row.cls = RX11 ∧ yX11_row.cls ≠ "java/lang/invoke/MethodHandle" ∧ yX11_row.cls ≠ "java/lang/invoke/VarHandle" ∧ (parseMethodDescriptor yX11_row.desc).map (fun d => d.parameters.length) = some 1 := ⟨rfl, hd_X11_row⟩
theorem hd_X12_init : yX12_init.cls ≠ "java/lang/invoke/MethodHandle" ∧ yX12_init.cls ≠ "java/lang/invoke/VarHandle" ∧ (parseMethodDescriptor yX12_init.desc).map (fun d => d.parameters.length) = some 0 := by decide +kernel
theorem hv_X12_init : yX12_init.cls = RX12 ∧ yX12_init.cls ≠ "java/lang/invoke/MethodHandle" ∧ yX12_init.cls ≠ "java/lang/invoke/VarHandle" ∧ (parseMethodDescriptor yX12_init.desc).map (fun d => d.parameters.length) = some 0 := ⟨rfl, hd_X12_init⟩
theorem hd_X12_thrown : yX12_thrown.cls ≠ "java/lang/invoke/MethodHandle" ∧ yX12_thrown.cls ≠ "java/lang/invoke/VarHandle" ∧ (parseMethodDescriptor yX12_thrown.desc).map (fun d => d.parameters.length) = some 0 := by decide +kernel
theorem hv_X12_thrown : yX12_thrown.cls = RX12 ∧ yX12_thrown.cls ≠ "java/lang/invoke/MethodHandle" ∧ yX12_thrown.cls ≠ "java/lang/invoke/VarHandle" ∧ (parseMethodDescriptor yX12_thrown.desc).map (fun d => d.parameters.length) = some 0 := ⟨rfl, hd_X12_thrown⟩
theorem hd_X12_in : yX12_in.cls ≠ "java/lang/invoke/MethodHandle" ∧ yX12_in.cls ≠ "java/lang/invoke/VarHandle" ∧ (parseMethodDescriptor yX12_in.desc).map (fun d => d.parameters.length) = some 3 := by decide +kernel
theorem hv_X12_in : yX12_in.cls = RX12 ∧ yX12_in.cls ≠ "java/lang/invoke/MethodHandle" ∧ yX12_in.cls ≠ "java/lang/invoke/VarHandle" ∧ (parseMethodDescriptor yX12_in.desc).map (fun d => d.parameters.length) = some 3 := ⟨rfl, hd_X12_in⟩
theorem hd_X12_has : yX12_has.cls ≠ "java/lang/invoke/MethodHandle" ∧ yX12_has.cls ≠ "java/lang/invoke/VarHandle" ∧ (parseMethodDescriptor yX12_has.desc).map (fun d => d.parameters.length) = some 2 := by decide +kernel
theorem hv_X12_has : yX12_has.cls = RX12 ∧ yX12_has.cls ≠ "java/lang/invoke/MethodHandle" ∧ yX12_has.cls ≠ "java/lang/invoke/VarHandle" ∧ (parseMethodDescriptor yX12_has.desc).map (fun d => d.parameters.length) = some 2 := ⟨rfl, hd_X12_has⟩
theorem hd_X12_lost : yX12_lost.cls ≠ "java/lang/invoke/MethodHandle" ∧ yX12_lost.cls ≠ "java/lang/invoke/VarHandle" ∧ (parseMethodDescriptor yX12_lost.desc).map (fun d => d.parameters.length) = some 0 := by decide +kernel
theorem hv_X12_lost : yX12_lost.cls = RX12 ∧ yX12_lost.cls ≠ "java/lang/invoke/MethodHandle" ∧ yX12_lost.cls ≠ "java/lang/invoke/VarHandle" ∧ (parseMethodDescriptor yX12_lost.desc).map (fun d => d.parameters.length) = some 0 := ⟨rfl, hd_X12_lost⟩
theorem hd_X12_tell : yX12_tell.cls ≠ "java/lang/invoke/MethodHandle" ∧ yX12_tell.cls ≠ "java/lang/invoke/VarHandle" ∧ (parseMethodDescriptor yX12_tell.desc).map (fun d => d.parameters.length) = some 1 := by decide +kernel
theorem hv_X12_tell : yX12_tell.cls = RX12 ∧ yX12_tell.cls ≠ "java/lang/invoke/MethodHandle" ∧ yX12_tell.cls ≠ "java/lang/invoke/VarHandle" ∧ (parseMethodDescriptor yX12_tell.desc).map (fun d => d.parameters.length) = some 1 := ⟨rfl, hd_X12_tell⟩
theorem hd_X12_isThere : yX12_isThere.cls ≠ "java/lang/invoke/MethodHandle" ∧ yX12_isThere.cls ≠ "java/lang/invoke/VarHandle" ∧ (parseMethodDescriptor yX12_isThere.desc).map (fun d => d.parameters.length) = some 2 := by decide +kernel
theorem hv_X12_isThere : yX12_isThere.cls = RX12 ∧ yX12_isThere.cls ≠ "java/lang/invoke/MethodHandle" ∧ yX12_isThere.cls ≠ "java/lang/invoke/VarHandle" ∧ (parseMethodDescriptor yX12_isThere.desc).map (fun d => d.parameters.length) = some 2 := ⟨rfl, hd_X12_isThere⟩
theorem hd_X12_isDir : yX12_isDir.cls ≠ "java/lang/invoke/MethodHandle" ∧ yX12_isDir.cls ≠ "java/lang/invoke/VarHandle" ∧ (parseMethodDescriptor yX12_isDir.desc).map (fun d => d.parameters.length) = some 1 := by decide +kernel
theorem hv_X12_isDir : yX12_isDir.cls = RX12 ∧ yX12_isDir.cls ≠ "java/lang/invoke/MethodHandle" ∧ yX12_isDir.cls ≠ "java/lang/invoke/VarHandle" ∧ (parseMethodDescriptor yX12_isDir.desc).map (fun d => d.parameters.length) = some 1 := ⟨rfl, hd_X12_isDir⟩
theorem hd_X12_atOf : yX12_atOf.cls ≠ "java/lang/invoke/MethodHandle" ∧ yX12_atOf.cls ≠ "java/lang/invoke/VarHandle" ∧ (parseMethodDescriptor yX12_atOf.desc).map (fun d => d.parameters.length) = some 3 := by decide +kernel
theorem hv_X12_atOf : yX12_atOf.cls = RX12 ∧ yX12_atOf.cls ≠ "java/lang/invoke/MethodHandle" ∧ yX12_atOf.cls ≠ "java/lang/invoke/VarHandle" ∧ (parseMethodDescriptor yX12_atOf.desc).map (fun d => d.parameters.length) = some 3 := ⟨rfl, hd_X12_atOf⟩
theorem hd_X12_childrenOf : yX12_childrenOf.cls ≠ "java/lang/invoke/MethodHandle" ∧ yX12_childrenOf.cls ≠ "java/lang/invoke/VarHandle" ∧ (parseMethodDescriptor yX12_childrenOf.desc).map (fun d => d.parameters.length) = some 2 := by decide +kernel
theorem hv_X12_childrenOf : yX12_childrenOf.cls = RX12 ∧ yX12_childrenOf.cls ≠ "java/lang/invoke/MethodHandle" ∧ yX12_childrenOf.cls ≠ "java/lang/invoke/VarHandle" ∧ (parseMethodDescriptor yX12_childrenOf.desc).map (fun d => d.parameters.length) = some 2 := ⟨rfl, hd_X12_childrenOf⟩
theorem hd_X12_stepsOf : yX12_stepsOf.cls ≠ "java/lang/invoke/MethodHandle" ∧ yX12_stepsOf.cls ≠ "java/lang/invoke/VarHandle" ∧ (parseMethodDescriptor yX12_stepsOf.desc).map (fun d => d.parameters.length) = some 2 := by decide +kernel
theorem hv_X12_stepsOf : yX12_stepsOf.cls = RX12 ∧ yX12_stepsOf.cls ≠ "java/lang/invoke/MethodHandle" ∧ yX12_stepsOf.cls ≠ "java/lang/invoke/VarHandle" ∧ (parseMethodDescriptor yX12_stepsOf.desc).map (fun d => d.parameters.length) = some 2 := ⟨rfl, hd_X12_stepsOf⟩
theorem hd_X12_isIn : yX12_isIn.cls ≠ "java/lang/invoke/MethodHandle" ∧ yX12_isIn.cls ≠ "java/lang/invoke/VarHandle" ∧ (parseMethodDescriptor yX12_isIn.desc).map (fun d => d.parameters.length) = some 3 := by decide +kernel
theorem hv_X12_isIn : yX12_isIn.cls = RX12 ∧ yX12_isIn.cls ≠ "java/lang/invoke/MethodHandle" ∧ yX12_isIn.cls ≠ "java/lang/invoke/VarHandle" ∧ (parseMethodDescriptor yX12_isIn.desc).map (fun d => d.parameters.length) = some 3 := ⟨rfl, hd_X12_isIn⟩
theorem hd_X12_kindOf : yX12_kindOf.cls ≠ "java/lang/invoke/MethodHandle" ∧ yX12_kindOf.cls ≠ "java/lang/invoke/VarHandle" ∧ (parseMethodDescriptor yX12_kindOf.desc).map (fun d => d.parameters.length) = some 2 := by decide +kernel
theorem hv_X12_kindOf : yX12_kindOf.cls = RX12 ∧ yX12_kindOf.cls ≠ "java/lang/invoke/MethodHandle" ∧ yX12_kindOf.cls ≠ "java/lang/invoke/VarHandle" ∧ (parseMethodDescriptor yX12_kindOf.desc).map (fun d => d.parameters.length) = some 2 := ⟨rfl, hd_X12_kindOf⟩
theorem hd_X12_thereOf : yX12_thereOf.cls ≠ "java/lang/invoke/MethodHandle" ∧ yX12_thereOf.cls ≠ "java/lang/invoke/VarHandle" ∧ (parseMethodDescriptor yX12_thereOf.desc).map (fun d => d.parameters.length) = some 1 := by decide +kernel
theorem hv_X12_thereOf : yX12_thereOf.cls = RX12 ∧ yX12_thereOf.cls ≠ "java/lang/invoke/MethodHandle" ∧ yX12_thereOf.cls ≠ "java/lang/invoke/VarHandle" ∧ (parseMethodDescriptor yX12_thereOf.desc).map (fun d => d.parameters.length) = some 1 := ⟨rfl, hd_X12_thereOf⟩
theorem hd_X12_inGroup : yX12_inGroup.cls ≠ "java/lang/invoke/MethodHandle" ∧ yX12_inGroup.cls ≠ "java/lang/invoke/VarHandle" ∧ (parseMethodDescriptor yX12_inGroup.desc).map (fun d => d.parameters.length) = some 2 := by decide +kernel
theorem hv_X12_inGroup : yX12_inGroup.cls = RX12 ∧ yX12_inGroup.cls ≠ "java/lang/invoke/MethodHandle" ∧ yX12_inGroup.cls ≠ "java/lang/invoke/VarHandle" ∧ (parseMethodDescriptor yX12_inGroup.desc).map (fun d => d.parameters.length) = some 2 := ⟨rfl, hd_X12_inGroup⟩
theorem hd_X12_slavesOf : yX12_slavesOf.cls ≠ "java/lang/invoke/MethodHandle" ∧ yX12_slavesOf.cls ≠ "java/lang/invoke/VarHandle" ∧ (parseMethodDescriptor yX12_slavesOf.desc).map (fun d => d.parameters.length) = some 2 := by decide +kernel
theorem hv_X12_slavesOf : yX12_slavesOf.cls = RX12 ∧ yX12_slavesOf.cls ≠ "java/lang/invoke/MethodHandle" ∧ yX12_slavesOf.cls ≠ "java/lang/invoke/VarHandle" ∧ (parseMethodDescriptor yX12_slavesOf.desc).map (fun d => d.parameters.length) = some 2 := ⟨rfl, hd_X12_slavesOf⟩
theorem hd_X12_spreadOf : yX12_spreadOf.cls ≠ "java/lang/invoke/MethodHandle" ∧ yX12_spreadOf.cls ≠ "java/lang/invoke/VarHandle" ∧ (parseMethodDescriptor yX12_spreadOf.desc).map (fun d => d.parameters.length) = some 2 := by decide +kernel
theorem hv_X12_spreadOf : yX12_spreadOf.cls = RX12 ∧ yX12_spreadOf.cls ≠ "java/lang/invoke/MethodHandle" ∧ yX12_spreadOf.cls ≠ "java/lang/invoke/VarHandle" ∧ (parseMethodDescriptor yX12_spreadOf.desc).map (fun d => d.parameters.length) = some 2 := ⟨rfl, hd_X12_spreadOf⟩
theorem hd_X12_freeOf : yX12_freeOf.cls ≠ "java/lang/invoke/MethodHandle" ∧ yX12_freeOf.cls ≠ "java/lang/invoke/VarHandle" ∧ (parseMethodDescriptor yX12_freeOf.desc).map (fun d => d.parameters.length) = some 1 := by decide +kernel
theorem hv_X12_freeOf : yX12_freeOf.cls = RX12 ∧ yX12_freeOf.cls ≠ "java/lang/invoke/MethodHandle" ∧ yX12_freeOf.cls ≠ "java/lang/invoke/VarHandle" ∧ (parseMethodDescriptor yX12_freeOf.desc).map (fun d => d.parameters.length) = some 1 := ⟨rfl, hd_X12_freeOf⟩
theorem hd_X12_newGroup : yX12_newGroup.cls ≠ "java/lang/invoke/MethodHandle" ∧ yX12_newGroup.cls ≠ "java/lang/invoke/VarHandle" ∧ (parseMethodDescriptor yX12_newGroup.desc).map (fun d => d.parameters.length) = some 1 := by decide +kernel
theorem hv_X12_newGroup : yX12_newGroup.cls = RX12 ∧ yX12_newGroup.cls ≠ "java/lang/invoke/MethodHandle" ∧ yX12_newGroup.cls ≠ "java/lang/invoke/VarHandle" ∧ (parseMethodDescriptor yX12_newGroup.desc).map (fun d => d.parameters.length) = some 1 := ⟨rfl, hd_X12_newGroup⟩
theorem hd_X12_clear : yX12_clear.cls ≠ "java/lang/invoke/MethodHandle" ∧ yX12_clear.cls ≠ "java/lang/invoke/VarHandle" ∧ (parseMethodDescriptor yX12_clear.desc).map (fun d => d.parameters.length) = some 2 := by decide +kernel
theorem hv_X12_clear : yX12_clear.cls = RX12 ∧ yX12_clear.cls ≠ "java/lang/invoke/MethodHandle" ∧ yX12_clear.cls ≠ "java/lang/invoke/VarHandle" ∧ (parseMethodDescriptor yX12_clear.desc).map (fun d => d.parameters.length) = some 2 := ⟨rfl, hd_X12_clear⟩
theorem hd_X12_sign : yX12_sign.cls ≠ "java/lang/invoke/MethodHandle" ∧ yX12_sign.cls ≠ "java/lang/invoke/VarHandle" ∧ (parseMethodDescriptor yX12_sign.desc).map (fun d => d.parameters.length) = some 1 := by decide +kernel
theorem hv_X12_sign : yX12_sign.cls = RX12 ∧ yX12_sign.cls ≠ "java/lang/invoke/MethodHandle" ∧ yX12_sign.cls ≠ "java/lang/invoke/VarHandle" ∧ (parseMethodDescriptor yX12_sign.desc).map (fun d => d.parameters.length) = some 1 := ⟨rfl, hd_X12_sign⟩
theorem hd_X12_end : yX12_end.cls ≠ "java/lang/invoke/MethodHandle" ∧ yX12_end.cls ≠ "java/lang/invoke/VarHandle" ∧ (parseMethodDescriptor yX12_end.desc).map (fun d => d.parameters.length) = some 1 := by decide +kernel
theorem hv_X12_end : yX12_end.cls = RX12 ∧ yX12_end.cls ≠ "java/lang/invoke/MethodHandle" ∧ yX12_end.cls ≠ "java/lang/invoke/VarHandle" ∧ (parseMethodDescriptor yX12_end.desc).map (fun d => d.parameters.length) = some 1 := ⟨rfl, hd_X12_end⟩
theorem hd_X12_begin : yX12_begin.cls ≠ "java/lang/invoke/MethodHandle" ∧ yX12_begin.cls ≠ "java/lang/invoke/VarHandle" ∧ (parseMethodDescriptor yX12_begin.desc).map (fun d => d.parameters.length) = some 3 := by decide +kernel
theorem hv_X12_begin : yX12_begin.cls = RX12 ∧ yX12_begin.cls ≠ "java/lang/invoke/MethodHandle" ∧ yX12_begin.cls ≠ "java/lang/invoke/VarHandle" ∧ (parseMethodDescriptor yX12_begin.desc).map (fun d => d.parameters.length) = some 3 := ⟨rfl, hd_X12_begin⟩
theorem hd_X12_beginText : yX12_beginText.cls ≠ "java/lang/invoke/MethodHandle" ∧ yX12_beginText.cls ≠ "java/lang/invoke/VarHandle" ∧ (parseMethodDescriptor yX12_beginText.desc).map (fun d => d.parameters.length) = some 1 := by decide +kernel
theorem hv_X12_beginText : yX12_beginText.cls = RX12 ∧ yX12_beginText.cls ≠ "java/lang/invoke/MethodHandle" ∧ yX12_beginText.cls ≠ "java/lang/invoke/VarHandle" ∧ (parseMethodDescriptor yX12_beginText.desc).map (fun d => d.parameters.length) = some 1 := ⟨rfl, hd_X12_beginText⟩
theorem hd_X12_here : yX12_here.cls ≠ "java/lang/invoke/MethodHandle" ∧ yX12_here.cls ≠ "java/lang/invoke/VarHandle" ∧ (parseMethodDescriptor yX12_here.desc).map (fun d => d.parameters.length) = some 0 := by decide +kernel
theorem hv_X12_here : yX12_here.cls = RX12 ∧ yX12_here.cls ≠ "java/lang/invoke/MethodHandle" ∧ yX12_here.cls ≠ "java/lang/invoke/VarHandle" ∧ (parseMethodDescriptor yX12_here.desc).map (fun d => d.parameters.length) = some 0 := ⟨rfl, hd_X12_here⟩
theorem hd_X12_fine : yX12_fine.cls ≠ "java/lang/invoke/MethodHandle" ∧ yX12_fine.cls ≠ "java/lang/invoke/VarHandle" ∧ (parseMethodDescriptor yX12_fine.desc).map (fun d => d.parameters.length) = some 0 := by decide +kernel
theorem hv_X12_fine : yX12_fine.cls = RX12 ∧ yX12_fine.cls ≠ "java/lang/invoke/MethodHandle" ∧ yX12_fine.cls ≠ "java/lang/invoke/VarHandle" ∧ (parseMethodDescriptor yX12_fine.desc).map (fun d => d.parameters.length) = some 0 := ⟨rfl, hd_X12_fine⟩
theorem hd_X12_fault : yX12_fault.cls ≠ "java/lang/invoke/MethodHandle" ∧ yX12_fault.cls ≠ "java/lang/invoke/VarHandle" ∧ (parseMethodDescriptor yX12_fault.desc).map (fun d => d.parameters.length) = some 1 := by decide +kernel
theorem hv_X12_fault : yX12_fault.cls = RX12 ∧ yX12_fault.cls ≠ "java/lang/invoke/MethodHandle" ∧ yX12_fault.cls ≠ "java/lang/invoke/VarHandle" ∧ (parseMethodDescriptor yX12_fault.desc).map (fun d => d.parameters.length) = some 1 := ⟨rfl, hd_X12_fault⟩
theorem hd_X12_passes : yX12_passes.cls ≠ "java/lang/invoke/MethodHandle" ∧ yX12_passes.cls ≠ "java/lang/invoke/VarHandle" ∧ (parseMethodDescriptor yX12_passes.desc).map (fun d => d.parameters.length) = some 1 := by decide +kernel
theorem hv_X12_passes : yX12_passes.cls = RX12 ∧ yX12_passes.cls ≠ "java/lang/invoke/MethodHandle" ∧ yX12_passes.cls ≠ "java/lang/invoke/VarHandle" ∧ (parseMethodDescriptor yX12_passes.desc).map (fun d => d.parameters.length) = some 1 := ⟨rfl, hd_X12_passes⟩
theorem hd_X12_need : yX12_need.cls ≠ "java/lang/invoke/MethodHandle" ∧ yX12_need.cls ≠ "java/lang/invoke/VarHandle" ∧ (parseMethodDescriptor yX12_need.desc).map (fun d => d.parameters.length) = some 1 := by decide +kernel
theorem hv_X12_need : yX12_need.cls = RX12 ∧ yX12_need.cls ≠ "java/lang/invoke/MethodHandle" ∧ yX12_need.cls ≠ "java/lang/invoke/VarHandle" ∧ (parseMethodDescriptor yX12_need.desc).map (fun d => d.parameters.length) = some 1 := ⟨rfl, hd_X12_need⟩
theorem hd_X12_oneOf : yX12_oneOf.cls ≠ "java/lang/invoke/MethodHandle" ∧ yX12_oneOf.cls ≠ "java/lang/invoke/VarHandle" ∧ (parseMethodDescriptor yX12_oneOf.desc).map (fun d => d.parameters.length) = some 2 := by decide +kernel
theorem hv_X12_oneOf : yX12_oneOf.cls = RX12 ∧ yX12_oneOf.cls ≠ "java/lang/invoke/MethodHandle" ∧ yX12_oneOf.cls ≠ "java/lang/invoke/VarHandle" ∧ (parseMethodDescriptor yX12_oneOf.desc).map (fun d => d.parameters.length) = some 2 := ⟨rfl, hd_X12_oneOf⟩
theorem hd_X12_number : yX12_number.cls ≠ "java/lang/invoke/MethodHandle" ∧ yX12_number.cls ≠ "java/lang/invoke/VarHandle" ∧ (parseMethodDescriptor yX12_number.desc).map (fun d => d.parameters.length) = some 1 := by decide +kernel
theorem hv_X12_number : yX12_number.cls = RX12 ∧ yX12_number.cls ≠ "java/lang/invoke/MethodHandle" ∧ yX12_number.cls ≠ "java/lang/invoke/VarHandle" ∧ (parseMethodDescriptor yX12_number.desc).map (fun d => d.parameters.length) = some 1 := ⟨rfl, hd_X12_number⟩
theorem hd_X12_wasRight : yX12_wasRight.cls ≠ "java/lang/invoke/MethodHandle" ∧ yX12_wasRight.cls ≠ "java/lang/invoke/VarHandle" ∧ (parseMethodDescriptor yX12_wasRight.desc).map (fun d => d.parameters.length) = some 0 := by decide +kernel
theorem hv_X12_wasRight : yX12_wasRight.cls = RX12 ∧ yX12_wasRight.cls ≠ "java/lang/invoke/MethodHandle" ∧ yX12_wasRight.cls ≠ "java/lang/invoke/VarHandle" ∧ (parseMethodDescriptor yX12_wasRight.desc).map (fun d => d.parameters.length) = some 0 := ⟨rfl, hd_X12_wasRight⟩
theorem hd_X12_held : yX12_held.cls ≠ "java/lang/invoke/MethodHandle" ∧ yX12_held.cls ≠ "java/lang/invoke/VarHandle" ∧ (parseMethodDescriptor yX12_held.desc).map (fun d => d.parameters.length) = some 1 := by decide +kernel
theorem hv_X12_held : yX12_held.cls = RX12 ∧ yX12_held.cls ≠ "java/lang/invoke/MethodHandle" ∧ yX12_held.cls ≠ "java/lang/invoke/VarHandle" ∧ (parseMethodDescriptor yX12_held.desc).map (fun d => d.parameters.length) = some 1 := ⟨rfl, hd_X12_held⟩
theorem hd_X12_sum : yX12_sum.cls ≠ "java/lang/invoke/MethodHandle" ∧ yX12_sum.cls ≠ "java/lang/invoke/VarHandle" ∧ (parseMethodDescriptor yX12_sum.desc).map (fun d => d.parameters.length) = some 1 := by decide +kernel
theorem hv_X12_sum : yX12_sum.cls = RX12 ∧ yX12_sum.cls ≠ "java/lang/invoke/MethodHandle" ∧ yX12_sum.cls ≠ "java/lang/invoke/VarHandle" ∧ (parseMethodDescriptor yX12_sum.desc).map (fun d => d.parameters.length) = some 1 := ⟨rfl, hd_X12_sum⟩
theorem hd_X12_product : yX12_product.cls ≠ "java/lang/invoke/MethodHandle" ∧ yX12_product.cls ≠ "java/lang/invoke/VarHandle" ∧ (parseMethodDescriptor yX12_product.desc).map (fun d => d.parameters.length) = some 1 := by decide +kernel
theorem hv_X12_product : yX12_product.cls = RX12 ∧ yX12_product.cls ≠ "java/lang/invoke/MethodHandle" ∧ yX12_product.cls ≠ "java/lang/invoke/VarHandle" ∧ (parseMethodDescriptor yX12_product.desc).map (fun d => d.parameters.length) = some 1 := ⟨rfl, hd_X12_product⟩
theorem hd_X12_letterOf : yX12_letterOf.cls ≠ "java/lang/invoke/MethodHandle" ∧ yX12_letterOf.cls ≠ "java/lang/invoke/VarHandle" ∧ (parseMethodDescriptor yX12_letterOf.desc).map (fun d => d.parameters.length) = some 1 := by decide +kernel
theorem hv_X12_letterOf : yX12_letterOf.cls = RX12 ∧ yX12_letterOf.cls ≠ "java/lang/invoke/MethodHandle" ∧ yX12_letterOf.cls ≠ "java/lang/invoke/VarHandle" ∧ (parseMethodDescriptor yX12_letterOf.desc).map (fun d => d.parameters.length) = some 1 := ⟨rfl, hd_X12_letterOf⟩
theorem hd_X12_thing : yX12_thing.cls ≠ "java/lang/invoke/MethodHandle" ∧ yX12_thing.cls ≠ "java/lang/invoke/VarHandle" ∧ (parseMethodDescriptor yX12_thing.desc).map (fun d => d.parameters.length) = some 1 := by decide +kernel
theorem hv_X12_thing : yX12_thing.cls = RX12 ∧ yX12_thing.cls ≠ "java/lang/invoke/MethodHandle" ∧ yX12_thing.cls ≠ "java/lang/invoke/VarHandle" ∧ (parseMethodDescriptor yX12_thing.desc).map (fun d => d.parameters.length) = some 1 := ⟨rfl, hd_X12_thing⟩
theorem hd_X12_readRule : yX12_readRule.cls ≠ "java/lang/invoke/MethodHandle" ∧ yX12_readRule.cls ≠ "java/lang/invoke/VarHandle" ∧ (parseMethodDescriptor yX12_readRule.desc).map (fun d => d.parameters.length) = some 0 := by decide +kernel
theorem hv_X12_readRule : yX12_readRule.cls = RX12 ∧ yX12_readRule.cls ≠ "java/lang/invoke/MethodHandle" ∧ yX12_readRule.cls ≠ "java/lang/invoke/VarHandle" ∧ (parseMethodDescriptor yX12_readRule.desc).map (fun d => d.parameters.length) = some 0 := ⟨rfl, hd_X12_readRule⟩
theorem hd_X12_rule : yX12_rule.cls ≠ "java/lang/invoke/MethodHandle" ∧ yX12_rule.cls ≠ "java/lang/invoke/VarHandle" ∧ (parseMethodDescriptor yX12_rule.desc).map (fun d => d.parameters.length) = some 0 := by decide +kernel
theorem hv_X12_rule : yX12_rule.cls = RX12 ∧ yX12_rule.cls ≠ "java/lang/invoke/MethodHandle" ∧ yX12_rule.cls ≠ "java/lang/invoke/VarHandle" ∧ (parseMethodDescriptor yX12_rule.desc).map (fun d => d.parameters.length) = some 0 := ⟨rfl, hd_X12_rule⟩
theorem hd_X12_isLet : yX12_isLet.cls ≠ "java/lang/invoke/MethodHandle" ∧ yX12_isLet.cls ≠ "java/lang/invoke/VarHandle" ∧ (parseMethodDescriptor yX12_isLet.desc).map (fun d => d.parameters.length) = some 3 := by decide +kernel
theorem hv_X12_isLet : yX12_isLet.cls = RX12 ∧ yX12_isLet.cls ≠ "java/lang/invoke/MethodHandle" ∧ yX12_isLet.cls ≠ "java/lang/invoke/VarHandle" ∧ (parseMethodDescriptor yX12_isLet.desc).map (fun d => d.parameters.length) = some 3 := ⟨rfl, hd_X12_isLet⟩
theorem hd_X12_readPath : yX12_readPath.cls ≠ "java/lang/invoke/MethodHandle" ∧ yX12_readPath.cls ≠ "java/lang/invoke/VarHandle" ∧ (parseMethodDescriptor yX12_readPath.desc).map (fun d => d.parameters.length) = some 0 := by decide +kernel
theorem hv_X12_readPath : yX12_readPath.cls = RX12 ∧ yX12_readPath.cls ≠ "java/lang/invoke/MethodHandle" ∧ yX12_readPath.cls ≠ "java/lang/invoke/VarHandle" ∧ (parseMethodDescriptor yX12_readPath.desc).map (fun d => d.parameters.length) = some 0 := ⟨rfl, hd_X12_readPath⟩
theorem hd_X12_goPath : yX12_goPath.cls ≠ "java/lang/invoke/MethodHandle" ∧ yX12_goPath.cls ≠ "java/lang/invoke/VarHandle" ∧ (parseMethodDescriptor yX12_goPath.desc).map (fun d => d.parameters.length) = some 2 := by decide +kernel
theorem hv_X12_goPath : yX12_goPath.cls = RX12 ∧ yX12_goPath.cls ≠ "java/lang/invoke/MethodHandle" ∧ yX12_goPath.cls ≠ "java/lang/invoke/VarHandle" ∧ (parseMethodDescriptor yX12_goPath.desc).map (fun d => d.parameters.length) = some 2 := ⟨rfl, hd_X12_goPath⟩
theorem hd_X12_place : yX12_place.cls ≠ "java/lang/invoke/MethodHandle" ∧ yX12_place.cls ≠ "java/lang/invoke/VarHandle" ∧ (parseMethodDescriptor yX12_place.desc).map (fun d => d.parameters.length) = some 0 := by decide +kernel
theorem hv_X12_place : yX12_place.cls = RX12 ∧ yX12_place.cls ≠ "java/lang/invoke/MethodHandle" ∧ yX12_place.cls ≠ "java/lang/invoke/VarHandle" ∧ (parseMethodDescriptor yX12_place.desc).map (fun d => d.parameters.length) = some 0 := ⟨rfl, hd_X12_place⟩
theorem hd_X12_mount : yX12_mount.cls ≠ "java/lang/invoke/MethodHandle" ∧ yX12_mount.cls ≠ "java/lang/invoke/VarHandle" ∧ (parseMethodDescriptor yX12_mount.desc).map (fun d => d.parameters.length) = some 2 := by decide +kernel
theorem hv_X12_mount : yX12_mount.cls = RX12 ∧ yX12_mount.cls ≠ "java/lang/invoke/MethodHandle" ∧ yX12_mount.cls ≠ "java/lang/invoke/VarHandle" ∧ (parseMethodDescriptor yX12_mount.desc).map (fun d => d.parameters.length) = some 2 := ⟨rfl, hd_X12_mount⟩
theorem hd_X12_at : yX12_at.cls ≠ "java/lang/invoke/MethodHandle" ∧ yX12_at.cls ≠ "java/lang/invoke/VarHandle" ∧ (parseMethodDescriptor yX12_at.desc).map (fun d => d.parameters.length) = some 2 := by decide +kernel
theorem hv_X12_at : yX12_at.cls = RX12 ∧ yX12_at.cls ≠ "java/lang/invoke/MethodHandle" ∧ yX12_at.cls ≠ "java/lang/invoke/VarHandle" ∧ (parseMethodDescriptor yX12_at.desc).map (fun d => d.parameters.length) = some 2 := ⟨rfl, hd_X12_at⟩
theorem hd_X12_sheet : yX12_sheet.cls ≠ "java/lang/invoke/MethodHandle" ∧ yX12_sheet.cls ≠ "java/lang/invoke/VarHandle" ∧ (parseMethodDescriptor yX12_sheet.desc).map (fun d => d.parameters.length) = some 4 := by decide +kernel
theorem hv_X12_sheet : yX12_sheet.cls = RX12 ∧ yX12_sheet.cls ≠ "java/lang/invoke/MethodHandle" ∧ yX12_sheet.cls ≠ "java/lang/invoke/VarHandle" ∧ (parseMethodDescriptor yX12_sheet.desc).map (fun d => d.parameters.length) = some 4 := ⟨rfl, hd_X12_sheet⟩
theorem hd_X12_lay : yX12_lay.cls ≠ "java/lang/invoke/MethodHandle" ∧ yX12_lay.cls ≠ "java/lang/invoke/VarHandle" ∧ (parseMethodDescriptor yX12_lay.desc).map (fun d => d.parameters.length) = some 3 := by decide +kernel
theorem hv_X12_lay : yX12_lay.cls = RX12 ∧ yX12_lay.cls ≠ "java/lang/invoke/MethodHandle" ∧ yX12_lay.cls ≠ "java/lang/invoke/VarHandle" ∧ (parseMethodDescriptor yX12_lay.desc).map (fun d => d.parameters.length) = some 3 := ⟨rfl, hd_X12_lay⟩
theorem hd_X12_remember : yX12_remember.cls ≠ "java/lang/invoke/MethodHandle" ∧ yX12_remember.cls ≠ "java/lang/invoke/VarHandle" ∧ (parseMethodDescriptor yX12_remember.desc).map (fun d => d.parameters.length) = some 1 := by decide +kernel
theorem hv_X12_remember : yX12_remember.cls = RX12 ∧ yX12_remember.cls ≠ "java/lang/invoke/MethodHandle" ∧ yX12_remember.cls ≠ "java/lang/invoke/VarHandle" ∧ (parseMethodDescriptor yX12_remember.desc).map (fun d => d.parameters.length) = some 1 := ⟨rfl, hd_X12_remember⟩
theorem hd_X12_hitsOf : yX12_hitsOf.cls ≠ "java/lang/invoke/MethodHandle" ∧ yX12_hitsOf.cls ≠ "java/lang/invoke/VarHandle" ∧ (parseMethodDescriptor yX12_hitsOf.desc).map (fun d => d.parameters.length) = some 3 := by decide +kernel
theorem hv_X12_hitsOf : yX12_hitsOf.cls = RX12 ∧ yX12_hitsOf.cls ≠ "java/lang/invoke/MethodHandle" ∧ yX12_hitsOf.cls ≠ "java/lang/invoke/VarHandle" ∧ (parseMethodDescriptor yX12_hitsOf.desc).map (fun d => d.parameters.length) = some 3 := ⟨rfl, hd_X12_hitsOf⟩
theorem hd_X12_comes : yX12_comes.cls ≠ "java/lang/invoke/MethodHandle" ∧ yX12_comes.cls ≠ "java/lang/invoke/VarHandle" ∧ (parseMethodDescriptor yX12_comes.desc).map (fun d => d.parameters.length) = some 5 := by decide +kernel
theorem hv_X12_comes : yX12_comes.cls = RX12 ∧ yX12_comes.cls ≠ "java/lang/invoke/MethodHandle" ∧ yX12_comes.cls ≠ "java/lang/invoke/VarHandle" ∧ (parseMethodDescriptor yX12_comes.desc).map (fun d => d.parameters.length) = some 5 := ⟨rfl, hd_X12_comes⟩
theorem hd_X12_newOf : yX12_newOf.cls ≠ "java/lang/invoke/MethodHandle" ∧ yX12_newOf.cls ≠ "java/lang/invoke/VarHandle" ∧ (parseMethodDescriptor yX12_newOf.desc).map (fun d => d.parameters.length) = some 1 := by decide +kernel
theorem hv_X12_newOf : yX12_newOf.cls = RX12 ∧ yX12_newOf.cls ≠ "java/lang/invoke/MethodHandle" ∧ yX12_newOf.cls ≠ "java/lang/invoke/VarHandle" ∧ (parseMethodDescriptor yX12_newOf.desc).map (fun d => d.parameters.length) = some 1 := ⟨rfl, hd_X12_newOf⟩
theorem hd_X12_layNew : yX12_layNew.cls ≠ "java/lang/invoke/MethodHandle" ∧ yX12_layNew.cls ≠ "java/lang/invoke/VarHandle" ∧ (parseMethodDescriptor yX12_layNew.desc).map (fun d => d.parameters.length) = some 2 := by decide +kernel
theorem hv_X12_layNew : yX12_layNew.cls = RX12 ∧ yX12_layNew.cls ≠ "java/lang/invoke/MethodHandle" ∧ yX12_layNew.cls ≠ "java/lang/invoke/VarHandle" ∧ (parseMethodDescriptor yX12_layNew.desc).map (fun d => d.parameters.length) = some 2 := ⟨rfl, hd_X12_layNew⟩
theorem hd_X12_goClone : yX12_goClone.cls ≠ "java/lang/invoke/MethodHandle" ∧ yX12_goClone.cls ≠ "java/lang/invoke/VarHandle" ∧ (parseMethodDescriptor yX12_goClone.desc).map (fun d => d.parameters.length) = some 4 := by decide +kernel
theorem hv_X12_goClone : yX12_goClone.cls = RX12 ∧ yX12_goClone.cls ≠ "java/lang/invoke/MethodHandle" ∧ yX12_goClone.cls ≠ "java/lang/invoke/VarHandle" ∧ (parseMethodDescriptor yX12_goClone.desc).map (fun d => d.parameters.length) = some 4 := ⟨rfl, hd_X12_goClone⟩
theorem hd_X12_refusesComing : yX12_refusesComing.cls ≠ "java/lang/invoke/MethodHandle" ∧ yX12_refusesComing.cls ≠ "java/lang/invoke/VarHandle" ∧ (parseMethodDescriptor yX12_refusesComing.desc).map (fun d => d.parameters.length) = some 3 := by decide +kernel
theorem hv_X12_refusesComing : yX12_refusesComing.cls = RX12 ∧ yX12_refusesComing.cls ≠ "java/lang/invoke/MethodHandle" ∧ yX12_refusesComing.cls ≠ "java/lang/invoke/VarHandle" ∧ (parseMethodDescriptor yX12_refusesComing.desc).map (fun d => d.parameters.length) = some 3 := ⟨rfl, hd_X12_refusesComing⟩
theorem hd_X12_refusesBind : yX12_refusesBind.cls ≠ "java/lang/invoke/MethodHandle" ∧ yX12_refusesBind.cls ≠ "java/lang/invoke/VarHandle" ∧ (parseMethodDescriptor yX12_refusesBind.desc).map (fun d => d.parameters.length) = some 4 := by decide +kernel
theorem hv_X12_refusesBind : yX12_refusesBind.cls = RX12 ∧ yX12_refusesBind.cls ≠ "java/lang/invoke/MethodHandle" ∧ yX12_refusesBind.cls ≠ "java/lang/invoke/VarHandle" ∧ (parseMethodDescriptor yX12_refusesBind.desc).map (fun d => d.parameters.length) = some 4 := ⟨rfl, hd_X12_refusesBind⟩
theorem hd_X12_tellCame : yX12_tellCame.cls ≠ "java/lang/invoke/MethodHandle" ∧ yX12_tellCame.cls ≠ "java/lang/invoke/VarHandle" ∧ (parseMethodDescriptor yX12_tellCame.desc).map (fun d => d.parameters.length) = some 1 := by decide +kernel
theorem hv_X12_tellCame : yX12_tellCame.cls = RX12 ∧ yX12_tellCame.cls ≠ "java/lang/invoke/MethodHandle" ∧ yX12_tellCame.cls ≠ "java/lang/invoke/VarHandle" ∧ (parseMethodDescriptor yX12_tellCame.desc).map (fun d => d.parameters.length) = some 1 := ⟨rfl, hd_X12_tellCame⟩
theorem hd_X12_mounts : yX12_mounts.cls ≠ "java/lang/invoke/MethodHandle" ∧ yX12_mounts.cls ≠ "java/lang/invoke/VarHandle" ∧ (parseMethodDescriptor yX12_mounts.desc).map (fun d => d.parameters.length) = some 2 := by decide +kernel
theorem hv_X12_mounts : yX12_mounts.cls = RX12 ∧ yX12_mounts.cls ≠ "java/lang/invoke/MethodHandle" ∧ yX12_mounts.cls ≠ "java/lang/invoke/VarHandle" ∧ (parseMethodDescriptor yX12_mounts.desc).map (fun d => d.parameters.length) = some 2 := ⟨rfl, hd_X12_mounts⟩
theorem hd_X12_binds : yX12_binds.cls ≠ "java/lang/invoke/MethodHandle" ∧ yX12_binds.cls ≠ "java/lang/invoke/VarHandle" ∧ (parseMethodDescriptor yX12_binds.desc).map (fun d => d.parameters.length) = some 3 := by decide +kernel
theorem hv_X12_binds : yX12_binds.cls = RX12 ∧ yX12_binds.cls ≠ "java/lang/invoke/MethodHandle" ∧ yX12_binds.cls ≠ "java/lang/invoke/VarHandle" ∧ (parseMethodDescriptor yX12_binds.desc).map (fun d => d.parameters.length) = some 3 := ⟨rfl, hd_X12_binds⟩
theorem hd_X12_treeOf : yX12_treeOf.cls ≠ "java/lang/invoke/MethodHandle" ∧ yX12_treeOf.cls ≠ "java/lang/invoke/VarHandle" ∧ (parseMethodDescriptor yX12_treeOf.desc).map (fun d => d.parameters.length) = some 2 := by decide +kernel
theorem hv_X12_treeOf : yX12_treeOf.cls = RX12 ∧ yX12_treeOf.cls ≠ "java/lang/invoke/MethodHandle" ∧ yX12_treeOf.cls ≠ "java/lang/invoke/VarHandle" ∧ (parseMethodDescriptor yX12_treeOf.desc).map (fun d => d.parameters.length) = some 2 := ⟨rfl, hd_X12_treeOf⟩
theorem hd_X12_refusesTree : yX12_refusesTree.cls ≠ "java/lang/invoke/MethodHandle" ∧ yX12_refusesTree.cls ≠ "java/lang/invoke/VarHandle" ∧ (parseMethodDescriptor yX12_refusesTree.desc).map (fun d => d.parameters.length) = some 4 := by decide +kernel
theorem hv_X12_refusesTree : yX12_refusesTree.cls = RX12 ∧ yX12_refusesTree.cls ≠ "java/lang/invoke/MethodHandle" ∧ yX12_refusesTree.cls ≠ "java/lang/invoke/VarHandle" ∧ (parseMethodDescriptor yX12_refusesTree.desc).map (fun d => d.parameters.length) = some 4 := ⟨rfl, hd_X12_refusesTree⟩
theorem hd_X12_goInside : yX12_goInside.cls ≠ "java/lang/invoke/MethodHandle" ∧ yX12_goInside.cls ≠ "java/lang/invoke/VarHandle" ∧ (parseMethodDescriptor yX12_goInside.desc).map (fun d => d.parameters.length) = some 3 := by decide +kernel
theorem hv_X12_goInside : yX12_goInside.cls = RX12 ∧ yX12_goInside.cls ≠ "java/lang/invoke/MethodHandle" ∧ yX12_goInside.cls ≠ "java/lang/invoke/VarHandle" ∧ (parseMethodDescriptor yX12_goInside.desc).map (fun d => d.parameters.length) = some 3 := ⟨rfl, hd_X12_goInside⟩
theorem hd_X12_goTree : yX12_goTree.cls ≠ "java/lang/invoke/MethodHandle" ∧ yX12_goTree.cls ≠ "java/lang/invoke/VarHandle" ∧ (parseMethodDescriptor yX12_goTree.desc).map (fun d => d.parameters.length) = some 4 := by decide +kernel
theorem hv_X12_goTree : yX12_goTree.cls = RX12 ∧ yX12_goTree.cls ≠ "java/lang/invoke/MethodHandle" ∧ yX12_goTree.cls ≠ "java/lang/invoke/VarHandle" ∧ (parseMethodDescriptor yX12_goTree.desc).map (fun d => d.parameters.length) = some 4 := ⟨rfl, hd_X12_goTree⟩
theorem hd_X12_trees : yX12_trees.cls ≠ "java/lang/invoke/MethodHandle" ∧ yX12_trees.cls ≠ "java/lang/invoke/VarHandle" ∧ (parseMethodDescriptor yX12_trees.desc).map (fun d => d.parameters.length) = some 3 := by decide +kernel
theorem hv_X12_trees : yX12_trees.cls = RX12 ∧ yX12_trees.cls ≠ "java/lang/invoke/MethodHandle" ∧ yX12_trees.cls ≠ "java/lang/invoke/VarHandle" ∧ (parseMethodDescriptor yX12_trees.desc).map (fun d => d.parameters.length) = some 3 := ⟨rfl, hd_X12_trees⟩
theorem hd_X12_goOut : yX12_goOut.cls ≠ "java/lang/invoke/MethodHandle" ∧ yX12_goOut.cls ≠ "java/lang/invoke/VarHandle" ∧ (parseMethodDescriptor yX12_goOut.desc).map (fun d => d.parameters.length) = some 2 := by decide +kernel
theorem hv_X12_goOut : yX12_goOut.cls = RX12 ∧ yX12_goOut.cls ≠ "java/lang/invoke/MethodHandle" ∧ yX12_goOut.cls ≠ "java/lang/invoke/VarHandle" ∧ (parseMethodDescriptor yX12_goOut.desc).map (fun d => d.parameters.length) = some 2 := ⟨rfl, hd_X12_goOut⟩
theorem hd_X12_refusesMaking : yX12_refusesMaking.cls ≠ "java/lang/invoke/MethodHandle" ∧ yX12_refusesMaking.cls ≠ "java/lang/invoke/VarHandle" ∧ (parseMethodDescriptor yX12_refusesMaking.desc).map (fun d => d.parameters.length) = some 3 := by decide +kernel
theorem hv_X12_refusesMaking : yX12_refusesMaking.cls = RX12 ∧ yX12_refusesMaking.cls ≠ "java/lang/invoke/MethodHandle" ∧ yX12_refusesMaking.cls ≠ "java/lang/invoke/VarHandle" ∧ (parseMethodDescriptor yX12_refusesMaking.desc).map (fun d => d.parameters.length) = some 3 := ⟨rfl, hd_X12_refusesMaking⟩
theorem hd_X12_goMake : yX12_goMake.cls ≠ "java/lang/invoke/MethodHandle" ∧ yX12_goMake.cls ≠ "java/lang/invoke/VarHandle" ∧ (parseMethodDescriptor yX12_goMake.desc).map (fun d => d.parameters.length) = some 3 := by decide +kernel
theorem hv_X12_goMake : yX12_goMake.cls = RX12 ∧ yX12_goMake.cls ≠ "java/lang/invoke/MethodHandle" ∧ yX12_goMake.cls ≠ "java/lang/invoke/VarHandle" ∧ (parseMethodDescriptor yX12_goMake.desc).map (fun d => d.parameters.length) = some 3 := ⟨rfl, hd_X12_goMake⟩
theorem hd_X12_makes : yX12_makes.cls ≠ "java/lang/invoke/MethodHandle" ∧ yX12_makes.cls ≠ "java/lang/invoke/VarHandle" ∧ (parseMethodDescriptor yX12_makes.desc).map (fun d => d.parameters.length) = some 2 := by decide +kernel
theorem hv_X12_makes : yX12_makes.cls = RX12 ∧ yX12_makes.cls ≠ "java/lang/invoke/MethodHandle" ∧ yX12_makes.cls ≠ "java/lang/invoke/VarHandle" ∧ (parseMethodDescriptor yX12_makes.desc).map (fun d => d.parameters.length) = some 2 := ⟨rfl, hd_X12_makes⟩
theorem hd_X12_refusesUnmount : yX12_refusesUnmount.cls ≠ "java/lang/invoke/MethodHandle" ∧ yX12_refusesUnmount.cls ≠ "java/lang/invoke/VarHandle" ∧ (parseMethodDescriptor yX12_refusesUnmount.desc).map (fun d => d.parameters.length) = some 3 := by decide +kernel
theorem hv_X12_refusesUnmount : yX12_refusesUnmount.cls = RX12 ∧ yX12_refusesUnmount.cls ≠ "java/lang/invoke/MethodHandle" ∧ yX12_refusesUnmount.cls ≠ "java/lang/invoke/VarHandle" ∧ (parseMethodDescriptor yX12_refusesUnmount.desc).map (fun d => d.parameters.length) = some 3 := ⟨rfl, hd_X12_refusesUnmount⟩
theorem hd_X12_goersOf : yX12_goersOf.cls ≠ "java/lang/invoke/MethodHandle" ∧ yX12_goersOf.cls ≠ "java/lang/invoke/VarHandle" ∧ (parseMethodDescriptor yX12_goersOf.desc).map (fun d => d.parameters.length) = some 3 := by decide +kernel
theorem hv_X12_goersOf : yX12_goersOf.cls = RX12 ∧ yX12_goersOf.cls ≠ "java/lang/invoke/MethodHandle" ∧ yX12_goersOf.cls ≠ "java/lang/invoke/VarHandle" ∧ (parseMethodDescriptor yX12_goersOf.desc).map (fun d => d.parameters.length) = some 3 := ⟨rfl, hd_X12_goersOf⟩
theorem hd_X12_goUnmount : yX12_goUnmount.cls ≠ "java/lang/invoke/MethodHandle" ∧ yX12_goUnmount.cls ≠ "java/lang/invoke/VarHandle" ∧ (parseMethodDescriptor yX12_goUnmount.desc).map (fun d => d.parameters.length) = some 3 := by decide +kernel
theorem hv_X12_goUnmount : yX12_goUnmount.cls = RX12 ∧ yX12_goUnmount.cls ≠ "java/lang/invoke/MethodHandle" ∧ yX12_goUnmount.cls ≠ "java/lang/invoke/VarHandle" ∧ (parseMethodDescriptor yX12_goUnmount.desc).map (fun d => d.parameters.length) = some 3 := ⟨rfl, hd_X12_goUnmount⟩
theorem hd_X12_tellBits : yX12_tellBits.cls ≠ "java/lang/invoke/MethodHandle" ∧ yX12_tellBits.cls ≠ "java/lang/invoke/VarHandle" ∧ (parseMethodDescriptor yX12_tellBits.desc).map (fun d => d.parameters.length) = some 1 := by decide +kernel
theorem hv_X12_tellBits : yX12_tellBits.cls = RX12 ∧ yX12_tellBits.cls ≠ "java/lang/invoke/MethodHandle" ∧ yX12_tellBits.cls ≠ "java/lang/invoke/VarHandle" ∧ (parseMethodDescriptor yX12_tellBits.desc).map (fun d => d.parameters.length) = some 1 := ⟨rfl, hd_X12_tellBits⟩
theorem hd_X12_unmounts : yX12_unmounts.cls ≠ "java/lang/invoke/MethodHandle" ∧ yX12_unmounts.cls ≠ "java/lang/invoke/VarHandle" ∧ (parseMethodDescriptor yX12_unmounts.desc).map (fun d => d.parameters.length) = some 2 := by decide +kernel
theorem hv_X12_unmounts : yX12_unmounts.cls = RX12 ∧ yX12_unmounts.cls ≠ "java/lang/invoke/MethodHandle" ∧ yX12_unmounts.cls ≠ "java/lang/invoke/VarHandle" ∧ (parseMethodDescriptor yX12_unmounts.desc).map (fun d => d.parameters.length) = some 2 := ⟨rfl, hd_X12_unmounts⟩
theorem hd_X12_refusesMove : yX12_refusesMove.cls ≠ "java/lang/invoke/MethodHandle" ∧ yX12_refusesMove.cls ≠ "java/lang/invoke/VarHandle" ∧ (parseMethodDescriptor yX12_refusesMove.desc).map (fun d => d.parameters.length) = some 4 := by decide +kernel
theorem hv_X12_refusesMove : yX12_refusesMove.cls = RX12 ∧ yX12_refusesMove.cls ≠ "java/lang/invoke/MethodHandle" ∧ yX12_refusesMove.cls ≠ "java/lang/invoke/VarHandle" ∧ (parseMethodDescriptor yX12_refusesMove.desc).map (fun d => d.parameters.length) = some 4 := ⟨rfl, hd_X12_refusesMove⟩
theorem hd_X12_goMove : yX12_goMove.cls ≠ "java/lang/invoke/MethodHandle" ∧ yX12_goMove.cls ≠ "java/lang/invoke/VarHandle" ∧ (parseMethodDescriptor yX12_goMove.desc).map (fun d => d.parameters.length) = some 4 := by decide +kernel
theorem hv_X12_goMove : yX12_goMove.cls = RX12 ∧ yX12_goMove.cls ≠ "java/lang/invoke/MethodHandle" ∧ yX12_goMove.cls ≠ "java/lang/invoke/VarHandle" ∧ (parseMethodDescriptor yX12_goMove.desc).map (fun d => d.parameters.length) = some 4 := ⟨rfl, hd_X12_goMove⟩
theorem hd_X12_moves : yX12_moves.cls ≠ "java/lang/invoke/MethodHandle" ∧ yX12_moves.cls ≠ "java/lang/invoke/VarHandle" ∧ (parseMethodDescriptor yX12_moves.desc).map (fun d => d.parameters.length) = some 3 := by decide +kernel
theorem hv_X12_moves : yX12_moves.cls = RX12 ∧ yX12_moves.cls ≠ "java/lang/invoke/MethodHandle" ∧ yX12_moves.cls ≠ "java/lang/invoke/VarHandle" ∧ (parseMethodDescriptor yX12_moves.desc).map (fun d => d.parameters.length) = some 3 := ⟨rfl, hd_X12_moves⟩
theorem hd_X12_day : yX12_day.cls ≠ "java/lang/invoke/MethodHandle" ∧ yX12_day.cls ≠ "java/lang/invoke/VarHandle" ∧ (parseMethodDescriptor yX12_day.desc).map (fun d => d.parameters.length) = some 0 := by decide +kernel
theorem hv_X12_day : yX12_day.cls = RX12 ∧ yX12_day.cls ≠ "java/lang/invoke/MethodHandle" ∧ yX12_day.cls ≠ "java/lang/invoke/VarHandle" ∧ (parseMethodDescriptor yX12_day.desc).map (fun d => d.parameters.length) = some 0 := ⟨rfl, hd_X12_day⟩
theorem hd_X12_readAct : yX12_readAct.cls ≠ "java/lang/invoke/MethodHandle" ∧ yX12_readAct.cls ≠ "java/lang/invoke/VarHandle" ∧ (parseMethodDescriptor yX12_readAct.desc).map (fun d => d.parameters.length) = some 1 := by decide +kernel
theorem hv_X12_readAct : yX12_readAct.cls = RX12 ∧ yX12_readAct.cls ≠ "java/lang/invoke/MethodHandle" ∧ yX12_readAct.cls ≠ "java/lang/invoke/VarHandle" ∧ (parseMethodDescriptor yX12_readAct.desc).map (fun d => d.parameters.length) = some 1 := ⟨rfl, hd_X12_readAct⟩
theorem hd_X12_mountedAt : yX12_mountedAt.cls ≠ "java/lang/invoke/MethodHandle" ∧ yX12_mountedAt.cls ≠ "java/lang/invoke/VarHandle" ∧ (parseMethodDescriptor yX12_mountedAt.desc).map (fun d => d.parameters.length) = some 1 := by decide +kernel
theorem hv_X12_mountedAt : yX12_mountedAt.cls = RX12 ∧ yX12_mountedAt.cls ≠ "java/lang/invoke/MethodHandle" ∧ yX12_mountedAt.cls ≠ "java/lang/invoke/VarHandle" ∧ (parseMethodDescriptor yX12_mountedAt.desc).map (fun d => d.parameters.length) = some 1 := ⟨rfl, hd_X12_mountedAt⟩
theorem hd_X12_act : yX12_act.cls ≠ "java/lang/invoke/MethodHandle" ∧ yX12_act.cls ≠ "java/lang/invoke/VarHandle" ∧ (parseMethodDescriptor yX12_act.desc).map (fun d => d.parameters.length) = some 1 := by decide +kernel
theorem hv_X12_act : yX12_act.cls = RX12 ∧ yX12_act.cls ≠ "java/lang/invoke/MethodHandle" ∧ yX12_act.cls ≠ "java/lang/invoke/VarHandle" ∧ (parseMethodDescriptor yX12_act.desc).map (fun d => d.parameters.length) = some 1 := ⟨rfl, hd_X12_act⟩
theorem hd_X12_undo : yX12_undo.cls ≠ "java/lang/invoke/MethodHandle" ∧ yX12_undo.cls ≠ "java/lang/invoke/VarHandle" ∧ (parseMethodDescriptor yX12_undo.desc).map (fun d => d.parameters.length) = some 0 := by decide +kernel
theorem hv_X12_undo : yX12_undo.cls = RX12 ∧ yX12_undo.cls ≠ "java/lang/invoke/MethodHandle" ∧ yX12_undo.cls ≠ "java/lang/invoke/VarHandle" ∧ (parseMethodDescriptor yX12_undo.desc).map (fun d => d.parameters.length) = some 0 := ⟨rfl, hd_X12_undo⟩
theorem hd_X12_spread : yX12_spread.cls ≠ "java/lang/invoke/MethodHandle" ∧ yX12_spread.cls ≠ "java/lang/invoke/VarHandle" ∧ (parseMethodDescriptor yX12_spread.desc).map (fun d => d.parameters.length) = some 1 := by decide +kernel
theorem hv_X12_spread : yX12_spread.cls = RX12 ∧ yX12_spread.cls ≠ "java/lang/invoke/MethodHandle" ∧ yX12_spread.cls ≠ "java/lang/invoke/VarHandle" ∧ (parseMethodDescriptor yX12_spread.desc).map (fun d => d.parameters.length) = some 1 := ⟨rfl, hd_X12_spread⟩
theorem hd_X12_peers : yX12_peers.cls ≠ "java/lang/invoke/MethodHandle" ∧ yX12_peers.cls ≠ "java/lang/invoke/VarHandle" ∧ (parseMethodDescriptor yX12_peers.desc).map (fun d => d.parameters.length) = some 1 := by decide +kernel
theorem hv_X12_peers : yX12_peers.cls = RX12 ∧ yX12_peers.cls ≠ "java/lang/invoke/MethodHandle" ∧ yX12_peers.cls ≠ "java/lang/invoke/VarHandle" ∧ (parseMethodDescriptor yX12_peers.desc).map (fun d => d.parameters.length) = some 1 := ⟨rfl, hd_X12_peers⟩
theorem hd_X12_masters : yX12_masters.cls ≠ "java/lang/invoke/MethodHandle" ∧ yX12_masters.cls ≠ "java/lang/invoke/VarHandle" ∧ (parseMethodDescriptor yX12_masters.desc).map (fun d => d.parameters.length) = some 1 := by decide +kernel
theorem hv_X12_masters : yX12_masters.cls = RX12 ∧ yX12_masters.cls ≠ "java/lang/invoke/MethodHandle" ∧ yX12_masters.cls ≠ "java/lang/invoke/VarHandle" ∧ (parseMethodDescriptor yX12_masters.desc).map (fun d => d.parameters.length) = some 1 := ⟨rfl, hd_X12_masters⟩
theorem hd_X12_isLeast : yX12_isLeast.cls ≠ "java/lang/invoke/MethodHandle" ∧ yX12_isLeast.cls ≠ "java/lang/invoke/VarHandle" ∧ (parseMethodDescriptor yX12_isLeast.desc).map (fun d => d.parameters.length) = some 2 := by decide +kernel
theorem hv_X12_isLeast : yX12_isLeast.cls = RX12 ∧ yX12_isLeast.cls ≠ "java/lang/invoke/MethodHandle" ∧ yX12_isLeast.cls ≠ "java/lang/invoke/VarHandle" ∧ (parseMethodDescriptor yX12_isLeast.desc).map (fun d => d.parameters.length) = some 2 := ⟨rfl, hd_X12_isLeast⟩
theorem hd_X12_groupsOf : yX12_groupsOf.cls ≠ "java/lang/invoke/MethodHandle" ∧ yX12_groupsOf.cls ≠ "java/lang/invoke/VarHandle" ∧ (parseMethodDescriptor yX12_groupsOf.desc).map (fun d => d.parameters.length) = some 1 := by decide +kernel
theorem hv_X12_groupsOf : yX12_groupsOf.cls = RX12 ∧ yX12_groupsOf.cls ≠ "java/lang/invoke/MethodHandle" ∧ yX12_groupsOf.cls ≠ "java/lang/invoke/VarHandle" ∧ (parseMethodDescriptor yX12_groupsOf.desc).map (fun d => d.parameters.length) = some 1 := ⟨rfl, hd_X12_groupsOf⟩
theorem hd_X12_groups : yX12_groups.cls ≠ "java/lang/invoke/MethodHandle" ∧ yX12_groups.cls ≠ "java/lang/invoke/VarHandle" ∧ (parseMethodDescriptor yX12_groups.desc).map (fun d => d.parameters.length) = some 0 := by decide +kernel
theorem hv_X12_groups : yX12_groups.cls = RX12 ∧ yX12_groups.cls ≠ "java/lang/invoke/MethodHandle" ∧ yX12_groups.cls ≠ "java/lang/invoke/VarHandle" ∧ (parseMethodDescriptor yX12_groups.desc).map (fun d => d.parameters.length) = some 0 := ⟨rfl, hd_X12_groups⟩
theorem hd_X12_keepers : yX12_keepers.cls ≠ "java/lang/invoke/MethodHandle" ∧ yX12_keepers.cls ≠ "java/lang/invoke/VarHandle" ∧ (parseMethodDescriptor yX12_keepers.desc).map (fun d => d.parameters.length) = some 2 := by decide +kernel
theorem hv_X12_keepers : yX12_keepers.cls = RX12 ∧ yX12_keepers.cls ≠ "java/lang/invoke/MethodHandle" ∧ yX12_keepers.cls ≠ "java/lang/invoke/VarHandle" ∧ (parseMethodDescriptor yX12_keepers.desc).map (fun d => d.parameters.length) = some 2 := ⟨rfl, hd_X12_keepers⟩
theorem hd_X12_insideOf : yX12_insideOf.cls ≠ "java/lang/invoke/MethodHandle" ∧ yX12_insideOf.cls ≠ "java/lang/invoke/VarHandle" ∧ (parseMethodDescriptor yX12_insideOf.desc).map (fun d => d.parameters.length) = some 2 := by decide +kernel
theorem hv_X12_insideOf : yX12_insideOf.cls = RX12 ∧ yX12_insideOf.cls ≠ "java/lang/invoke/MethodHandle" ∧ yX12_insideOf.cls ≠ "java/lang/invoke/VarHandle" ∧ (parseMethodDescriptor yX12_insideOf.desc).map (fun d => d.parameters.length) = some 2 := ⟨rfl, hd_X12_insideOf⟩
theorem hd_X12_inside : yX12_inside.cls ≠ "java/lang/invoke/MethodHandle" ∧ yX12_inside.cls ≠ "java/lang/invoke/VarHandle" ∧ (parseMethodDescriptor yX12_inside.desc).map (fun d => d.parameters.length) = some 1 := by decide +kernel
theorem hv_X12_inside : yX12_inside.cls = RX12 ∧ yX12_inside.cls ≠ "java/lang/invoke/MethodHandle" ∧ yX12_inside.cls ≠ "java/lang/invoke/VarHandle" ∧ (parseMethodDescriptor yX12_inside.desc).map (fun d => d.parameters.length) = some 1 := ⟨rfl, hd_X12_inside⟩
theorem hd_X12_path : yX12_path.cls ≠ "java/lang/invoke/MethodHandle" ∧ yX12_path.cls ≠ "java/lang/invoke/VarHandle" ∧ (parseMethodDescriptor yX12_path.desc).map (fun d => d.parameters.length) = some 1 := by decide +kernel
theorem hv_X12_path : yX12_path.cls = RX12 ∧ yX12_path.cls ≠ "java/lang/invoke/MethodHandle" ∧ yX12_path.cls ≠ "java/lang/invoke/VarHandle" ∧ (parseMethodDescriptor yX12_path.desc).map (fun d => d.parameters.length) = some 1 := ⟨rfl, hd_X12_path⟩
theorem hd_X12_areAlike : yX12_areAlike.cls ≠ "java/lang/invoke/MethodHandle" ∧ yX12_areAlike.cls ≠ "java/lang/invoke/VarHandle" ∧ (parseMethodDescriptor yX12_areAlike.desc).map (fun d => d.parameters.length) = some 3 := by decide +kernel
theorem hv_X12_areAlike : yX12_areAlike.cls = RX12 ∧ yX12_areAlike.cls ≠ "java/lang/invoke/MethodHandle" ∧ yX12_areAlike.cls ≠ "java/lang/invoke/VarHandle" ∧ (parseMethodDescriptor yX12_areAlike.desc).map (fun d => d.parameters.length) = some 3 := ⟨rfl, hd_X12_areAlike⟩
theorem hd_X12_alike : yX12_alike.cls ≠ "java/lang/invoke/MethodHandle" ∧ yX12_alike.cls ≠ "java/lang/invoke/VarHandle" ∧ (parseMethodDescriptor yX12_alike.desc).map (fun d => d.parameters.length) = some 2 := by decide +kernel
theorem hv_X12_alike : yX12_alike.cls = RX12 ∧ yX12_alike.cls ≠ "java/lang/invoke/MethodHandle" ∧ yX12_alike.cls ≠ "java/lang/invoke/VarHandle" ∧ (parseMethodDescriptor yX12_alike.desc).map (fun d => d.parameters.length) = some 2 := ⟨rfl, hd_X12_alike⟩
theorem hd_X12_largest : yX12_largest.cls ≠ "java/lang/invoke/MethodHandle" ∧ yX12_largest.cls ≠ "java/lang/invoke/VarHandle" ∧ (parseMethodDescriptor yX12_largest.desc).map (fun d => d.parameters.length) = some 0 := by decide +kernel
theorem hv_X12_largest : yX12_largest.cls = RX12 ∧ yX12_largest.cls ≠ "java/lang/invoke/MethodHandle" ∧ yX12_largest.cls ≠ "java/lang/invoke/VarHandle" ∧ (parseMethodDescriptor yX12_largest.desc).map (fun d => d.parameters.length) = some 0 := ⟨rfl, hd_X12_largest⟩
theorem hd_X12_would : yX12_would.cls ≠ "java/lang/invoke/MethodHandle" ∧ yX12_would.cls ≠ "java/lang/invoke/VarHandle" ∧ (parseMethodDescriptor yX12_would.desc).map (fun d => d.parameters.length) = some 2 := by decide +kernel
theorem hv_X12_would : yX12_would.cls = RX12 ∧ yX12_would.cls ≠ "java/lang/invoke/MethodHandle" ∧ yX12_would.cls ≠ "java/lang/invoke/VarHandle" ∧ (parseMethodDescriptor yX12_would.desc).map (fun d => d.parameters.length) = some 2 := ⟨rfl, hd_X12_would⟩
theorem hd_X12_lost_ : yX12_lost_.cls ≠ "java/lang/invoke/MethodHandle" ∧ yX12_lost_.cls ≠ "java/lang/invoke/VarHandle" ∧ (parseMethodDescriptor yX12_lost_.desc).map (fun d => d.parameters.length) = some 2 := by decide +kernel
theorem hv_X12_lost_ : yX12_lost_.cls = RX12 ∧ yX12_lost_.cls ≠ "java/lang/invoke/MethodHandle" ∧ yX12_lost_.cls ≠ "java/lang/invoke/VarHandle" ∧ (parseMethodDescriptor yX12_lost_.desc).map (fun d => d.parameters.length) = some 2 := ⟨rfl, hd_X12_lost_⟩
theorem hd_X12_widest : yX12_widest.cls ≠ "java/lang/invoke/MethodHandle" ∧ yX12_widest.cls ≠ "java/lang/invoke/VarHandle" ∧ (parseMethodDescriptor yX12_widest.desc).map (fun d => d.parameters.length) = some 0 := by decide +kernel
theorem hv_X12_widest : yX12_widest.cls = RX12 ∧ yX12_widest.cls ≠ "java/lang/invoke/MethodHandle" ∧ yX12_widest.cls ≠ "java/lang/invoke/VarHandle" ∧ (parseMethodDescriptor yX12_widest.desc).map (fun d => d.parameters.length) = some 0 := ⟨rfl, hd_X12_widest⟩
theorem hd_X12_highOf : yX12_highOf.cls ≠ "java/lang/invoke/MethodHandle" ∧ yX12_highOf.cls ≠ "java/lang/invoke/VarHandle" ∧ (parseMethodDescriptor yX12_highOf.desc).map (fun d => d.parameters.length) = some 1 := by decide +kernel
theorem hv_X12_highOf : yX12_highOf.cls = RX12 ∧ yX12_highOf.cls ≠ "java/lang/invoke/MethodHandle" ∧ yX12_highOf.cls ≠ "java/lang/invoke/VarHandle" ∧ (parseMethodDescriptor yX12_highOf.desc).map (fun d => d.parameters.length) = some 1 := ⟨rfl, hd_X12_highOf⟩
theorem hd_X12_heard : yX12_heard.cls ≠ "java/lang/invoke/MethodHandle" ∧ yX12_heard.cls ≠ "java/lang/invoke/VarHandle" ∧ (parseMethodDescriptor yX12_heard.desc).map (fun d => d.parameters.length) = some 2 := by decide +kernel
theorem hv_X12_heard : yX12_heard.cls = RX12 ∧ yX12_heard.cls ≠ "java/lang/invoke/MethodHandle" ∧ yX12_heard.cls ≠ "java/lang/invoke/VarHandle" ∧ (parseMethodDescriptor yX12_heard.desc).map (fun d => d.parameters.length) = some 2 := ⟨rfl, hd_X12_heard⟩
theorem hd_X12_forget : yX12_forget.cls ≠ "java/lang/invoke/MethodHandle" ∧ yX12_forget.cls ≠ "java/lang/invoke/VarHandle" ∧ (parseMethodDescriptor yX12_forget.desc).map (fun d => d.parameters.length) = some 0 := by decide +kernel
theorem hv_X12_forget : yX12_forget.cls = RX12 ∧ yX12_forget.cls ≠ "java/lang/invoke/MethodHandle" ∧ yX12_forget.cls ≠ "java/lang/invoke/VarHandle" ∧ (parseMethodDescriptor yX12_forget.desc).map (fun d => d.parameters.length) = some 0 := ⟨rfl, hd_X12_forget⟩
theorem hd_X12_isSo : yX12_isSo.cls ≠ "java/lang/invoke/MethodHandle" ∧ yX12_isSo.cls ≠ "java/lang/invoke/VarHandle" ∧ (parseMethodDescriptor yX12_isSo.desc).map (fun d => d.parameters.length) = some 3 := by decide +kernel
theorem hv_X12_isSo : yX12_isSo.cls = RX12 ∧ yX12_isSo.cls ≠ "java/lang/invoke/MethodHandle" ∧ yX12_isSo.cls ≠ "java/lang/invoke/VarHandle" ∧ (parseMethodDescriptor yX12_isSo.desc).map (fun d => d.parameters.length) = some 3 := ⟨rfl, hd_X12_isSo⟩
theorem hd_X12_fitting : yX12_fitting.cls ≠ "java/lang/invoke/MethodHandle" ∧ yX12_fitting.cls ≠ "java/lang/invoke/VarHandle" ∧ (parseMethodDescriptor yX12_fitting.desc).map (fun d => d.parameters.length) = some 0 := by decide +kernel
theorem hv_X12_fitting : yX12_fitting.cls = RX12 ∧ yX12_fitting.cls ≠ "java/lang/invoke/MethodHandle" ∧ yX12_fitting.cls ≠ "java/lang/invoke/VarHandle" ∧ (parseMethodDescriptor yX12_fitting.desc).map (fun d => d.parameters.length) = some 0 := ⟨rfl, hd_X12_fitting⟩
theorem hd_X12_fits : yX12_fits.cls ≠ "java/lang/invoke/MethodHandle" ∧ yX12_fits.cls ≠ "java/lang/invoke/VarHandle" ∧ (parseMethodDescriptor yX12_fits.desc).map (fun d => d.parameters.length) = some 0 := by decide +kernel
theorem hv_X12_fits : yX12_fits.cls = RX12 ∧ yX12_fits.cls ≠ "java/lang/invoke/MethodHandle" ∧ yX12_fits.cls ≠ "java/lang/invoke/VarHandle" ∧ (parseMethodDescriptor yX12_fits.desc).map (fun d => d.parameters.length) = some 0 := ⟨rfl, hd_X12_fits⟩
theorem hd_X12_asks : yX12_asks.cls ≠ "java/lang/invoke/MethodHandle" ∧ yX12_asks.cls ≠ "java/lang/invoke/VarHandle" ∧ (parseMethodDescriptor yX12_asks.desc).map (fun d => d.parameters.length) = some 0 := by decide +kernel
theorem hv_X12_asks : yX12_asks.cls = RX12 ∧ yX12_asks.cls ≠ "java/lang/invoke/MethodHandle" ∧ yX12_asks.cls ≠ "java/lang/invoke/VarHandle" ∧ (parseMethodDescriptor yX12_asks.desc).map (fun d => d.parameters.length) = some 0 := ⟨rfl, hd_X12_asks⟩
theorem hd_X12_saw : yX12_saw.cls ≠ "java/lang/invoke/MethodHandle" ∧ yX12_saw.cls ≠ "java/lang/invoke/VarHandle" ∧ (parseMethodDescriptor yX12_saw.desc).map (fun d => d.parameters.length) = some 3 := by decide +kernel
theorem hv_X12_saw : yX12_saw.cls = RX12 ∧ yX12_saw.cls ≠ "java/lang/invoke/MethodHandle" ∧ yX12_saw.cls ≠ "java/lang/invoke/VarHandle" ∧ (parseMethodDescriptor yX12_saw.desc).map (fun d => d.parameters.length) = some 3 := ⟨rfl, hd_X12_saw⟩
theorem hd_X12_denies : yX12_denies.cls ≠ "java/lang/invoke/MethodHandle" ∧ yX12_denies.cls ≠ "java/lang/invoke/VarHandle" ∧ (parseMethodDescriptor yX12_denies.desc).map (fun d => d.parameters.length) = some 0 := by decide +kernel
theorem hv_X12_denies : yX12_denies.cls = RX12 ∧ yX12_denies.cls ≠ "java/lang/invoke/MethodHandle" ∧ yX12_denies.cls ≠ "java/lang/invoke/VarHandle" ∧ (parseMethodDescriptor yX12_denies.desc).map (fun d => d.parameters.length) = some 0 := ⟨rfl, hd_X12_denies⟩
theorem hd_X12_comesBy : yX12_comesBy.cls ≠ "java/lang/invoke/MethodHandle" ∧ yX12_comesBy.cls ≠ "java/lang/invoke/VarHandle" ∧ (parseMethodDescriptor yX12_comesBy.desc).map (fun d => d.parameters.length) = some 3 := by decide +kernel
theorem hv_X12_comesBy : yX12_comesBy.cls = RX12 ∧ yX12_comesBy.cls ≠ "java/lang/invoke/MethodHandle" ∧ yX12_comesBy.cls ≠ "java/lang/invoke/VarHandle" ∧ (parseMethodDescriptor yX12_comesBy.desc).map (fun d => d.parameters.length) = some 3 := ⟨rfl, hd_X12_comesBy⟩
theorem hd_X12_isLaw : yX12_isLaw.cls ≠ "java/lang/invoke/MethodHandle" ∧ yX12_isLaw.cls ≠ "java/lang/invoke/VarHandle" ∧ (parseMethodDescriptor yX12_isLaw.desc).map (fun d => d.parameters.length) = some 1 := by decide +kernel
theorem hv_X12_isLaw : yX12_isLaw.cls = RX12 ∧ yX12_isLaw.cls ≠ "java/lang/invoke/MethodHandle" ∧ yX12_isLaw.cls ≠ "java/lang/invoke/VarHandle" ∧ (parseMethodDescriptor yX12_isLaw.desc).map (fun d => d.parameters.length) = some 1 := ⟨rfl, hd_X12_isLaw⟩
theorem hd_X12_laws : yX12_laws.cls ≠ "java/lang/invoke/MethodHandle" ∧ yX12_laws.cls ≠ "java/lang/invoke/VarHandle" ∧ (parseMethodDescriptor yX12_laws.desc).map (fun d => d.parameters.length) = some 0 := by decide +kernel
theorem hv_X12_laws : yX12_laws.cls = RX12 ∧ yX12_laws.cls ≠ "java/lang/invoke/MethodHandle" ∧ yX12_laws.cls ≠ "java/lang/invoke/VarHandle" ∧ (parseMethodDescriptor yX12_laws.desc).map (fun d => d.parameters.length) = some 0 := ⟨rfl, hd_X12_laws⟩
theorem hd_X12_looks : yX12_looks.cls ≠ "java/lang/invoke/MethodHandle" ∧ yX12_looks.cls ≠ "java/lang/invoke/VarHandle" ∧ (parseMethodDescriptor yX12_looks.desc).map (fun d => d.parameters.length) = some 0 := by decide +kernel
theorem hv_X12_looks : yX12_looks.cls = RX12 ∧ yX12_looks.cls ≠ "java/lang/invoke/MethodHandle" ∧ yX12_looks.cls ≠ "java/lang/invoke/VarHandle" ∧ (parseMethodDescriptor yX12_looks.desc).map (fun d => d.parameters.length) = some 0 := ⟨rfl, hd_X12_looks⟩
theorem hd_X12_common : yX12_common.cls ≠ "java/lang/invoke/MethodHandle" ∧ yX12_common.cls ≠ "java/lang/invoke/VarHandle" ∧ (parseMethodDescriptor yX12_common.desc).map (fun d => d.parameters.length) = some 2 := by decide +kernel
theorem hv_X12_common : yX12_common.cls = RX12 ∧ yX12_common.cls ≠ "java/lang/invoke/MethodHandle" ∧ yX12_common.cls ≠ "java/lang/invoke/VarHandle" ∧ (parseMethodDescriptor yX12_common.desc).map (fun d => d.parameters.length) = some 2 := ⟨rfl, hd_X12_common⟩
theorem hd_X12_odds : yX12_odds.cls ≠ "java/lang/invoke/MethodHandle" ∧ yX12_odds.cls ≠ "java/lang/invoke/VarHandle" ∧ (parseMethodDescriptor yX12_odds.desc).map (fun d => d.parameters.length) = some 3 := by decide +kernel
theorem hv_X12_odds : yX12_odds.cls = RX12 ∧ yX12_odds.cls ≠ "java/lang/invoke/MethodHandle" ∧ yX12_odds.cls ≠ "java/lang/invoke/VarHandle" ∧ (parseMethodDescriptor yX12_odds.desc).map (fun d => d.parameters.length) = some 3 := ⟨rfl, hd_X12_odds⟩
theorem hd_X12_worthOf : yX12_worthOf.cls ≠ "java/lang/invoke/MethodHandle" ∧ yX12_worthOf.cls ≠ "java/lang/invoke/VarHandle" ∧ (parseMethodDescriptor yX12_worthOf.desc).map (fun d => d.parameters.length) = some 2 := by decide +kernel
theorem hv_X12_worthOf : yX12_worthOf.cls = RX12 ∧ yX12_worthOf.cls ≠ "java/lang/invoke/MethodHandle" ∧ yX12_worthOf.cls ≠ "java/lang/invoke/VarHandle" ∧ (parseMethodDescriptor yX12_worthOf.desc).map (fun d => d.parameters.length) = some 2 := ⟨rfl, hd_X12_worthOf⟩
theorem hd_X12_goCut : yX12_goCut.cls ≠ "java/lang/invoke/MethodHandle" ∧ yX12_goCut.cls ≠ "java/lang/invoke/VarHandle" ∧ (parseMethodDescriptor yX12_goCut.desc).map (fun d => d.parameters.length) = some 2 := by decide +kernel
theorem hv_X12_goCut : yX12_goCut.cls = RX12 ∧ yX12_goCut.cls ≠ "java/lang/invoke/MethodHandle" ∧ yX12_goCut.cls ≠ "java/lang/invoke/VarHandle" ∧ (parseMethodDescriptor yX12_goCut.desc).map (fun d => d.parameters.length) = some 2 := ⟨rfl, hd_X12_goCut⟩
theorem hd_X12_hacks : yX12_hacks.cls ≠ "java/lang/invoke/MethodHandle" ∧ yX12_hacks.cls ≠ "java/lang/invoke/VarHandle" ∧ (parseMethodDescriptor yX12_hacks.desc).map (fun d => d.parameters.length) = some 1 := by decide +kernel
theorem hv_X12_hacks : yX12_hacks.cls = RX12 ∧ yX12_hacks.cls ≠ "java/lang/invoke/MethodHandle" ∧ yX12_hacks.cls ≠ "java/lang/invoke/VarHandle" ∧ (parseMethodDescriptor yX12_hacks.desc).map (fun d => d.parameters.length) = some 1 := ⟨rfl, hd_X12_hacks⟩
theorem hd_X12_gets : yX12_gets.cls ≠ "java/lang/invoke/MethodHandle" ∧ yX12_gets.cls ≠ "java/lang/invoke/VarHandle" ∧ (parseMethodDescriptor yX12_gets.desc).map (fun d => d.parameters.length) = some 3 := by decide +kernel
theorem hv_X12_gets : yX12_gets.cls = RX12 ∧ yX12_gets.cls ≠ "java/lang/invoke/MethodHandle" ∧ yX12_gets.cls ≠ "java/lang/invoke/VarHandle" ∧ (parseMethodDescriptor yX12_gets.desc).map (fun d => d.parameters.length) = some 3 := ⟨rfl, hd_X12_gets⟩
theorem hd_X12_isBest : yX12_isBest.cls ≠ "java/lang/invoke/MethodHandle" ∧ yX12_isBest.cls ≠ "java/lang/invoke/VarHandle" ∧ (parseMethodDescriptor yX12_isBest.desc).map (fun d => d.parameters.length) = some 3 := by decide +kernel
theorem hv_X12_isBest : yX12_isBest.cls = RX12 ∧ yX12_isBest.cls ≠ "java/lang/invoke/MethodHandle" ∧ yX12_isBest.cls ≠ "java/lang/invoke/VarHandle" ∧ (parseMethodDescriptor yX12_isBest.desc).map (fun d => d.parameters.length) = some 3 := ⟨rfl, hd_X12_isBest⟩
theorem hd_X12_rests : yX12_rests.cls ≠ "java/lang/invoke/MethodHandle" ∧ yX12_rests.cls ≠ "java/lang/invoke/VarHandle" ∧ (parseMethodDescriptor yX12_rests.desc).map (fun d => d.parameters.length) = some 1 := by decide +kernel
theorem hv_X12_rests : yX12_rests.cls = RX12 ∧ yX12_rests.cls ≠ "java/lang/invoke/MethodHandle" ∧ yX12_rests.cls ≠ "java/lang/invoke/VarHandle" ∧ (parseMethodDescriptor yX12_rests.desc).map (fun d => d.parameters.length) = some 1 := ⟨rfl, hd_X12_rests⟩
theorem hd_X12_bringsOf : yX12_bringsOf.cls ≠ "java/lang/invoke/MethodHandle" ∧ yX12_bringsOf.cls ≠ "java/lang/invoke/VarHandle" ∧ (parseMethodDescriptor yX12_bringsOf.desc).map (fun d => d.parameters.length) = some 2 := by decide +kernel
theorem hv_X12_bringsOf : yX12_bringsOf.cls = RX12 ∧ yX12_bringsOf.cls ≠ "java/lang/invoke/MethodHandle" ∧ yX12_bringsOf.cls ≠ "java/lang/invoke/VarHandle" ∧ (parseMethodDescriptor yX12_bringsOf.desc).map (fun d => d.parameters.length) = some 2 := ⟨rfl, hd_X12_bringsOf⟩
theorem hd_X12_law : yX12_law.cls ≠ "java/lang/invoke/MethodHandle" ∧ yX12_law.cls ≠ "java/lang/invoke/VarHandle" ∧ (parseMethodDescriptor yX12_law.desc).map (fun d => d.parameters.length) = some 2 := by decide +kernel
theorem hv_X12_law : yX12_law.cls = RX12 ∧ yX12_law.cls ≠ "java/lang/invoke/MethodHandle" ∧ yX12_law.cls ≠ "java/lang/invoke/VarHandle" ∧ (parseMethodDescriptor yX12_law.desc).map (fun d => d.parameters.length) = some 2 := ⟨rfl, hd_X12_law⟩
theorem hd_X12_draw : yX12_draw.cls ≠ "java/lang/invoke/MethodHandle" ∧ yX12_draw.cls ≠ "java/lang/invoke/VarHandle" ∧ (parseMethodDescriptor yX12_draw.desc).map (fun d => d.parameters.length) = some 1 := by decide +kernel
theorem hv_X12_draw : yX12_draw.cls = RX12 ∧ yX12_draw.cls ≠ "java/lang/invoke/MethodHandle" ∧ yX12_draw.cls ≠ "java/lang/invoke/VarHandle" ∧ (parseMethodDescriptor yX12_draw.desc).map (fun d => d.parameters.length) = some 1 := ⟨rfl, hd_X12_draw⟩
theorem hd_X12_years : yX12_years.cls ≠ "java/lang/invoke/MethodHandle" ∧ yX12_years.cls ≠ "java/lang/invoke/VarHandle" ∧ (parseMethodDescriptor yX12_years.desc).map (fun d => d.parameters.length) = some 2 := by decide +kernel
theorem hv_X12_years : yX12_years.cls = RX12 ∧ yX12_years.cls ≠ "java/lang/invoke/MethodHandle" ∧ yX12_years.cls ≠ "java/lang/invoke/VarHandle" ∧ (parseMethodDescriptor yX12_years.desc).map (fun d => d.parameters.length) = some 2 := ⟨rfl, hd_X12_years⟩
theorem hd_X12_keep : yX12_keep.cls ≠ "java/lang/invoke/MethodHandle" ∧ yX12_keep.cls ≠ "java/lang/invoke/VarHandle" ∧ (parseMethodDescriptor yX12_keep.desc).map (fun d => d.parameters.length) = some 1 := by decide +kernel
theorem hv_X12_keep : yX12_keep.cls = RX12 ∧ yX12_keep.cls ≠ "java/lang/invoke/MethodHandle" ∧ yX12_keep.cls ≠ "java/lang/invoke/VarHandle" ∧ (parseMethodDescriptor yX12_keep.desc).map (fun d => d.parameters.length) = some 1 := ⟨rfl, hd_X12_keep⟩
theorem hd_X12_again : yX12_again.cls ≠ "java/lang/invoke/MethodHandle" ∧ yX12_again.cls ≠ "java/lang/invoke/VarHandle" ∧ (parseMethodDescriptor yX12_again.desc).map (fun d => d.parameters.length) = some 1 := by decide +kernel
theorem hv_X12_again : yX12_again.cls = RX12 ∧ yX12_again.cls ≠ "java/lang/invoke/MethodHandle" ∧ yX12_again.cls ≠ "java/lang/invoke/VarHandle" ∧ (parseMethodDescriptor yX12_again.desc).map (fun d => d.parameters.length) = some 1 := ⟨rfl, hd_X12_again⟩
theorem hd_X12_bitsOf : yX12_bitsOf.cls ≠ "java/lang/invoke/MethodHandle" ∧ yX12_bitsOf.cls ≠ "java/lang/invoke/VarHandle" ∧ (parseMethodDescriptor yX12_bitsOf.desc).map (fun d => d.parameters.length) = some 1 := by decide +kernel
theorem hv_X12_bitsOf : yX12_bitsOf.cls = RX12 ∧ yX12_bitsOf.cls ≠ "java/lang/invoke/MethodHandle" ∧ yX12_bitsOf.cls ≠ "java/lang/invoke/VarHandle" ∧ (parseMethodDescriptor yX12_bitsOf.desc).map (fun d => d.parameters.length) = some 1 := ⟨rfl, hd_X12_bitsOf⟩
theorem hd_X12_count : yX12_count.cls ≠ "java/lang/invoke/MethodHandle" ∧ yX12_count.cls ≠ "java/lang/invoke/VarHandle" ∧ (parseMethodDescriptor yX12_count.desc).map (fun d => d.parameters.length) = some 1 := by decide +kernel
theorem hv_X12_count : yX12_count.cls = RX12 ∧ yX12_count.cls ≠ "java/lang/invoke/MethodHandle" ∧ yX12_count.cls ≠ "java/lang/invoke/VarHandle" ∧ (parseMethodDescriptor yX12_count.desc).map (fun d => d.parameters.length) = some 1 := ⟨rfl, hd_X12_count⟩
theorem hd_X12_row : yX12_row.cls ≠ "java/lang/invoke/MethodHandle" ∧ yX12_row.cls ≠ "java/lang/invoke/VarHandle" ∧ (parseMethodDescriptor yX12_row.desc).map (fun d => d.parameters.length) = some 1 := by decide +kernel
theorem hv_X12_row : yX12_row.cls = RX12 ∧ yX12_row.cls ≠ "java/lang/invoke/MethodHandle" ∧ yX12_row.cls ≠ "java/lang/invoke/VarHandle" ∧ (parseMethodDescriptor yX12_row.desc).map (fun d => d.parameters.length) = some 1 := ⟨rfl, hd_X12_row⟩
theorem hd_J11_isValidCodePoint_9a6ad : yJ11_isValidCodePoint_9a6ad.cls ≠ "java/lang/invoke/MethodHandle" ∧ yJ11_isValidCodePoint_9a6ad.cls ≠ "java/lang/invoke/VarHandle" ∧ (parseMethodDescriptor yJ11_isValidCodePoint_9a6ad.desc).map (fun d => d.parameters.length) = some 1 := by decide +kernel
theorem hv_J11_isValidCodePoint_9a6ad : yJ11_isValidCodePoint_9a6ad.cls = "java/lang/Character" ∧ yJ11_isValidCodePoint_9a6ad.cls ≠ "java/lang/invoke/MethodHandle" ∧ yJ11_isValidCodePoint_9a6ad.cls ≠ "java/lang/invoke/VarHandle" ∧ (parseMethodDescriptor yJ11_isValidCodePoint_9a6ad.desc).map (fun d => d.parameters.length) = some 1 := ⟨rfl, hd_J11_isValidCodePoint_9a6ad⟩
theorem hd_J11_highSurrogate_5068e : yJ11_highSurrogate_5068e.cls ≠ "java/lang/invoke/MethodHandle" ∧ yJ11_highSurrogate_5068e.cls ≠ "java/lang/invoke/VarHandle" ∧ (parseMethodDescriptor yJ11_highSurrogate_5068e.desc).map (fun d => d.parameters.length) = some 1 := by decide +kernel
theorem hv_J11_highSurrogate_5068e : yJ11_highSurrogate_5068e.cls = "java/lang/Character" ∧ yJ11_highSurrogate_5068e.cls ≠ "java/lang/invoke/MethodHandle" ∧ yJ11_highSurrogate_5068e.cls ≠ "java/lang/invoke/VarHandle" ∧ (parseMethodDescriptor yJ11_highSurrogate_5068e.desc).map (fun d => d.parameters.length) = some 1 := ⟨rfl, hd_J11_highSurrogate_5068e⟩
theorem hd_J11_lowSurrogate_5068e : yJ11_lowSurrogate_5068e.cls ≠ "java/lang/invoke/MethodHandle" ∧ yJ11_lowSurrogate_5068e.cls ≠ "java/lang/invoke/VarHandle" ∧ (parseMethodDescriptor yJ11_lowSurrogate_5068e.desc).map (fun d => d.parameters.length) = some 1 := by decide +kernel
theorem hv_J11_lowSurrogate_5068e : yJ11_lowSurrogate_5068e.cls = "java/lang/Character" ∧ yJ11_lowSurrogate_5068e.cls ≠ "java/lang/invoke/MethodHandle" ∧ yJ11_lowSurrogate_5068e.cls ≠ "java/lang/invoke/VarHandle" ∧ (parseMethodDescriptor yJ11_lowSurrogate_5068e.desc).map (fun d => d.parameters.length) = some 1 := ⟨rfl, hd_J11_lowSurrogate_5068e⟩
theorem hd_J6_numberOfTrailingZeros_0f7a4 : yJ6_numberOfTrailingZeros_0f7a4.cls ≠ "java/lang/invoke/MethodHandle" ∧ yJ6_numberOfTrailingZeros_0f7a4.cls ≠ "java/lang/invoke/VarHandle" ∧ (parseMethodDescriptor yJ6_numberOfTrailingZeros_0f7a4.desc).map (fun d => d.parameters.length) = some 1 := by decide +kernel
theorem hv_J6_numberOfTrailingZeros_0f7a4 : yJ6_numberOfTrailingZeros_0f7a4.cls = "java/lang/Integer" ∧ yJ6_numberOfTrailingZeros_0f7a4.cls ≠ "java/lang/invoke/MethodHandle" ∧ yJ6_numberOfTrailingZeros_0f7a4.cls ≠ "java/lang/invoke/VarHandle" ∧ (parseMethodDescriptor yJ6_numberOfTrailingZeros_0f7a4.desc).map (fun d => d.parameters.length) = some 1 := ⟨rfl, hd_J6_numberOfTrailingZeros_0f7a4⟩
theorem hd_J6_bitCount_0f7a4 : yJ6_bitCount_0f7a4.cls ≠ "java/lang/invoke/MethodHandle" ∧ yJ6_bitCount_0f7a4.cls ≠ "java/lang/invoke/VarHandle" ∧ (parseMethodDescriptor yJ6_bitCount_0f7a4.desc).map (fun d => d.parameters.length) = some 1 := by decide +kernel
theorem hv_J6_bitCount_0f7a4 : yJ6_bitCount_0f7a4.cls = "java/lang/Integer" ∧ yJ6_bitCount_0f7a4.cls ≠ "java/lang/invoke/MethodHandle" ∧ yJ6_bitCount_0f7a4.cls ≠ "java/lang/invoke/VarHandle" ∧ (parseMethodDescriptor yJ6_bitCount_0f7a4.desc).map (fun d => d.parameters.length) = some 1 := ⟨rfl, hd_J6_bitCount_0f7a4⟩
theorem hd_J13_bitCount_95d88 : yJ13_bitCount_95d88.cls ≠ "java/lang/invoke/MethodHandle" ∧ yJ13_bitCount_95d88.cls ≠ "java/lang/invoke/VarHandle" ∧ (parseMethodDescriptor yJ13_bitCount_95d88.desc).map (fun d => d.parameters.length) = some 1 := by decide +kernel
theorem hv_J13_bitCount_95d88 : yJ13_bitCount_95d88.cls = "java/lang/Long" ∧ yJ13_bitCount_95d88.cls ≠ "java/lang/invoke/MethodHandle" ∧ yJ13_bitCount_95d88.cls ≠ "java/lang/invoke/VarHandle" ∧ (parseMethodDescriptor yJ13_bitCount_95d88.desc).map (fun d => d.parameters.length) = some 1 := ⟨rfl, hd_J13_bitCount_95d88⟩
theorem hd_J9_max_7cf53 : yJ9_max_7cf53.cls ≠ "java/lang/invoke/MethodHandle" ∧ yJ9_max_7cf53.cls ≠ "java/lang/invoke/VarHandle" ∧ (parseMethodDescriptor yJ9_max_7cf53.desc).map (fun d => d.parameters.length) = some 2 := by decide +kernel
theorem hv_J9_max_7cf53 : yJ9_max_7cf53.cls = "java/lang/Math" ∧ yJ9_max_7cf53.cls ≠ "java/lang/invoke/MethodHandle" ∧ yJ9_max_7cf53.cls ≠ "java/lang/invoke/VarHandle" ∧ (parseMethodDescriptor yJ9_max_7cf53.desc).map (fun d => d.parameters.length) = some 2 := ⟨rfl, hd_J9_max_7cf53⟩
theorem hd_J9_min_7cf53 : yJ9_min_7cf53.cls ≠ "java/lang/invoke/MethodHandle" ∧ yJ9_min_7cf53.cls ≠ "java/lang/invoke/VarHandle" ∧ (parseMethodDescriptor yJ9_min_7cf53.desc).map (fun d => d.parameters.length) = some 2 := by decide +kernel
theorem hv_J9_min_7cf53 : yJ9_min_7cf53.cls = "java/lang/Math" ∧ yJ9_min_7cf53.cls ≠ "java/lang/invoke/MethodHandle" ∧ yJ9_min_7cf53.cls ≠ "java/lang/invoke/VarHandle" ∧ (parseMethodDescriptor yJ9_min_7cf53.desc).map (fun d => d.parameters.length) = some 2 := ⟨rfl, hd_J9_min_7cf53⟩
theorem hd_J0_length_8abf5 : yJ0_length_8abf5.cls ≠ "java/lang/invoke/MethodHandle" ∧ yJ0_length_8abf5.cls ≠ "java/lang/invoke/VarHandle" ∧ (parseMethodDescriptor yJ0_length_8abf5.desc).map (fun d => d.parameters.length) = some 0 := by decide +kernel
theorem hv_J0_length_8abf5 : yJ0_length_8abf5.cls = "java/lang/String" ∧ yJ0_length_8abf5.cls ≠ "java/lang/invoke/MethodHandle" ∧ yJ0_length_8abf5.cls ≠ "java/lang/invoke/VarHandle" ∧ (parseMethodDescriptor yJ0_length_8abf5.desc).map (fun d => d.parameters.length) = some 0 := ⟨rfl, hd_J0_length_8abf5⟩
theorem hd_J0_indexOf_0f7a4 : yJ0_indexOf_0f7a4.cls ≠ "java/lang/invoke/MethodHandle" ∧ yJ0_indexOf_0f7a4.cls ≠ "java/lang/invoke/VarHandle" ∧ (parseMethodDescriptor yJ0_indexOf_0f7a4.desc).map (fun d => d.parameters.length) = some 1 := by decide +kernel
theorem hv_J0_indexOf_0f7a4 : yJ0_indexOf_0f7a4.cls = "java/lang/String" ∧ yJ0_indexOf_0f7a4.cls ≠ "java/lang/invoke/MethodHandle" ∧ yJ0_indexOf_0f7a4.cls ≠ "java/lang/invoke/VarHandle" ∧ (parseMethodDescriptor yJ0_indexOf_0f7a4.desc).map (fun d => d.parameters.length) = some 1 := ⟨rfl, hd_J0_indexOf_0f7a4⟩
theorem hd_J0_indexOf_7cf53 : yJ0_indexOf_7cf53.cls ≠ "java/lang/invoke/MethodHandle" ∧ yJ0_indexOf_7cf53.cls ≠ "java/lang/invoke/VarHandle" ∧ (parseMethodDescriptor yJ0_indexOf_7cf53.desc).map (fun d => d.parameters.length) = some 2 := by decide +kernel
theorem hv_J0_indexOf_7cf53 : yJ0_indexOf_7cf53.cls = "java/lang/String" ∧ yJ0_indexOf_7cf53.cls ≠ "java/lang/invoke/MethodHandle" ∧ yJ0_indexOf_7cf53.cls ≠ "java/lang/invoke/VarHandle" ∧ (parseMethodDescriptor yJ0_indexOf_7cf53.desc).map (fun d => d.parameters.length) = some 2 := ⟨rfl, hd_J0_indexOf_7cf53⟩
theorem hd_J0_coder_7d493 : yJ0_coder_7d493.cls ≠ "java/lang/invoke/MethodHandle" ∧ yJ0_coder_7d493.cls ≠ "java/lang/invoke/VarHandle" ∧ (parseMethodDescriptor yJ0_coder_7d493.desc).map (fun d => d.parameters.length) = some 0 := by decide +kernel
theorem hv_J0_coder_7d493 : yJ0_coder_7d493.cls = "java/lang/String" ∧ yJ0_coder_7d493.cls ≠ "java/lang/invoke/MethodHandle" ∧ yJ0_coder_7d493.cls ≠ "java/lang/invoke/VarHandle" ∧ (parseMethodDescriptor yJ0_coder_7d493.desc).map (fun d => d.parameters.length) = some 0 := ⟨rfl, hd_J0_coder_7d493⟩
theorem hd_J0_isLatin1_aae02 : yJ0_isLatin1_aae02.cls ≠ "java/lang/invoke/MethodHandle" ∧ yJ0_isLatin1_aae02.cls ≠ "java/lang/invoke/VarHandle" ∧ (parseMethodDescriptor yJ0_isLatin1_aae02.desc).map (fun d => d.parameters.length) = some 0 := by decide +kernel
theorem hv_J0_isLatin1_aae02 : yJ0_isLatin1_aae02.cls = "java/lang/String" ∧ yJ0_isLatin1_aae02.cls ≠ "java/lang/invoke/MethodHandle" ∧ yJ0_isLatin1_aae02.cls ≠ "java/lang/invoke/VarHandle" ∧ (parseMethodDescriptor yJ0_isLatin1_aae02.desc).map (fun d => d.parameters.length) = some 0 := ⟨rfl, hd_J0_isLatin1_aae02⟩
theorem hd_J0_checkBoundsBeginEnd_23922 : yJ0_checkBoundsBeginEnd_23922.cls ≠ "java/lang/invoke/MethodHandle" ∧ yJ0_checkBoundsBeginEnd_23922.cls ≠ "java/lang/invoke/VarHandle" ∧ (parseMethodDescriptor yJ0_checkBoundsBeginEnd_23922.desc).map (fun d => d.parameters.length) = some 3 := by decide +kernel
theorem hv_J0_checkBoundsBeginEnd_23922 : yJ0_checkBoundsBeginEnd_23922.cls = "java/lang/String" ∧ yJ0_checkBoundsBeginEnd_23922.cls ≠ "java/lang/invoke/MethodHandle" ∧ yJ0_checkBoundsBeginEnd_23922.cls ≠ "java/lang/invoke/VarHandle" ∧ (parseMethodDescriptor yJ0_checkBoundsBeginEnd_23922.desc).map (fun d => d.parameters.length) = some 3 := ⟨rfl, hd_J0_checkBoundsBeginEnd_23922⟩
theorem hd_J1_canEncode_9a6ad : yJ1_canEncode_9a6ad.cls ≠ "java/lang/invoke/MethodHandle" ∧ yJ1_canEncode_9a6ad.cls ≠ "java/lang/invoke/VarHandle" ∧ (parseMethodDescriptor yJ1_canEncode_9a6ad.desc).map (fun d => d.parameters.length) = some 1 := by decide +kernel
theorem hv_J1_canEncode_9a6ad : yJ1_canEncode_9a6ad.cls = "java/lang/StringLatin1" ∧ yJ1_canEncode_9a6ad.cls ≠ "java/lang/invoke/MethodHandle" ∧ yJ1_canEncode_9a6ad.cls ≠ "java/lang/invoke/VarHandle" ∧ (parseMethodDescriptor yJ1_canEncode_9a6ad.desc).map (fun d => d.parameters.length) = some 1 := ⟨rfl, hd_J1_canEncode_9a6ad⟩
theorem hd_J1_indexOf_4cfef : yJ1_indexOf_4cfef.cls ≠ "java/lang/invoke/MethodHandle" ∧ yJ1_indexOf_4cfef.cls ≠ "java/lang/invoke/VarHandle" ∧ (parseMethodDescriptor yJ1_indexOf_4cfef.desc).map (fun d => d.parameters.length) = some 4 := by decide +kernel
theorem hv_J1_indexOf_4cfef : yJ1_indexOf_4cfef.cls = "java/lang/StringLatin1" ∧ yJ1_indexOf_4cfef.cls ≠ "java/lang/invoke/MethodHandle" ∧ yJ1_indexOf_4cfef.cls ≠ "java/lang/invoke/VarHandle" ∧ (parseMethodDescriptor yJ1_indexOf_4cfef.desc).map (fun d => d.parameters.length) = some 4 := ⟨rfl, hd_J1_indexOf_4cfef⟩
theorem hd_J1_indexOfChar_4cfef : yJ1_indexOfChar_4cfef.cls ≠ "java/lang/invoke/MethodHandle" ∧ yJ1_indexOfChar_4cfef.cls ≠ "java/lang/invoke/VarHandle" ∧ (parseMethodDescriptor yJ1_indexOfChar_4cfef.desc).map (fun d => d.parameters.length) = some 4 := by decide +kernel
theorem hv_J1_indexOfChar_4cfef : yJ1_indexOfChar_4cfef.cls = "java/lang/StringLatin1" ∧ yJ1_indexOfChar_4cfef.cls ≠ "java/lang/invoke/MethodHandle" ∧ yJ1_indexOfChar_4cfef.cls ≠ "java/lang/invoke/VarHandle" ∧ (parseMethodDescriptor yJ1_indexOfChar_4cfef.desc).map (fun d => d.parameters.length) = some 4 := ⟨rfl, hd_J1_indexOfChar_4cfef⟩
theorem hd_J2_getChar_3b067 : yJ2_getChar_3b067.cls ≠ "java/lang/invoke/MethodHandle" ∧ yJ2_getChar_3b067.cls ≠ "java/lang/invoke/VarHandle" ∧ (parseMethodDescriptor yJ2_getChar_3b067.desc).map (fun d => d.parameters.length) = some 2 := by decide +kernel
theorem hv_J2_getChar_3b067 : yJ2_getChar_3b067.cls = "java/lang/StringUTF16" ∧ yJ2_getChar_3b067.cls ≠ "java/lang/invoke/MethodHandle" ∧ yJ2_getChar_3b067.cls ≠ "java/lang/invoke/VarHandle" ∧ (parseMethodDescriptor yJ2_getChar_3b067.desc).map (fun d => d.parameters.length) = some 2 := ⟨rfl, hd_J2_getChar_3b067⟩
theorem hd_J2_length_9d52b : yJ2_length_9d52b.cls ≠ "java/lang/invoke/MethodHandle" ∧ yJ2_length_9d52b.cls ≠ "java/lang/invoke/VarHandle" ∧ (parseMethodDescriptor yJ2_length_9d52b.desc).map (fun d => d.parameters.length) = some 1 := by decide +kernel
theorem hv_J2_length_9d52b : yJ2_length_9d52b.cls = "java/lang/StringUTF16" ∧ yJ2_length_9d52b.cls ≠ "java/lang/invoke/MethodHandle" ∧ yJ2_length_9d52b.cls ≠ "java/lang/invoke/VarHandle" ∧ (parseMethodDescriptor yJ2_length_9d52b.desc).map (fun d => d.parameters.length) = some 1 := ⟨rfl, hd_J2_length_9d52b⟩
theorem hd_J2_indexOf_4cfef : yJ2_indexOf_4cfef.cls ≠ "java/lang/invoke/MethodHandle" ∧ yJ2_indexOf_4cfef.cls ≠ "java/lang/invoke/VarHandle" ∧ (parseMethodDescriptor yJ2_indexOf_4cfef.desc).map (fun d => d.parameters.length) = some 4 := by decide +kernel
theorem hv_J2_indexOf_4cfef : yJ2_indexOf_4cfef.cls = "java/lang/StringUTF16" ∧ yJ2_indexOf_4cfef.cls ≠ "java/lang/invoke/MethodHandle" ∧ yJ2_indexOf_4cfef.cls ≠ "java/lang/invoke/VarHandle" ∧ (parseMethodDescriptor yJ2_indexOf_4cfef.desc).map (fun d => d.parameters.length) = some 4 := ⟨rfl, hd_J2_indexOf_4cfef⟩
theorem hd_J2_indexOfChar_4cfef : yJ2_indexOfChar_4cfef.cls ≠ "java/lang/invoke/MethodHandle" ∧ yJ2_indexOfChar_4cfef.cls ≠ "java/lang/invoke/VarHandle" ∧ (parseMethodDescriptor yJ2_indexOfChar_4cfef.desc).map (fun d => d.parameters.length) = some 4 := by decide +kernel
theorem hv_J2_indexOfChar_4cfef : yJ2_indexOfChar_4cfef.cls = "java/lang/StringUTF16" ∧ yJ2_indexOfChar_4cfef.cls ≠ "java/lang/invoke/MethodHandle" ∧ yJ2_indexOfChar_4cfef.cls ≠ "java/lang/invoke/VarHandle" ∧ (parseMethodDescriptor yJ2_indexOfChar_4cfef.desc).map (fun d => d.parameters.length) = some 4 := ⟨rfl, hd_J2_indexOfChar_4cfef⟩
theorem hd_J2_indexOfCharUnsafe_4cfef : yJ2_indexOfCharUnsafe_4cfef.cls ≠ "java/lang/invoke/MethodHandle" ∧ yJ2_indexOfCharUnsafe_4cfef.cls ≠ "java/lang/invoke/VarHandle" ∧ (parseMethodDescriptor yJ2_indexOfCharUnsafe_4cfef.desc).map (fun d => d.parameters.length) = some 4 := by decide +kernel
theorem hv_J2_indexOfCharUnsafe_4cfef : yJ2_indexOfCharUnsafe_4cfef.cls = "java/lang/StringUTF16" ∧ yJ2_indexOfCharUnsafe_4cfef.cls ≠ "java/lang/invoke/MethodHandle" ∧ yJ2_indexOfCharUnsafe_4cfef.cls ≠ "java/lang/invoke/VarHandle" ∧ (parseMethodDescriptor yJ2_indexOfCharUnsafe_4cfef.desc).map (fun d => d.parameters.length) = some 4 := ⟨rfl, hd_J2_indexOfCharUnsafe_4cfef⟩
theorem hd_J2_indexOfSupplementary_4cfef : yJ2_indexOfSupplementary_4cfef.cls ≠ "java/lang/invoke/MethodHandle" ∧ yJ2_indexOfSupplementary_4cfef.cls ≠ "java/lang/invoke/VarHandle" ∧ (parseMethodDescriptor yJ2_indexOfSupplementary_4cfef.desc).map (fun d => d.parameters.length) = some 4 := by decide +kernel
theorem hv_J2_indexOfSupplementary_4cfef : yJ2_indexOfSupplementary_4cfef.cls = "java/lang/StringUTF16" ∧ yJ2_indexOfSupplementary_4cfef.cls ≠ "java/lang/invoke/MethodHandle" ∧ yJ2_indexOfSupplementary_4cfef.cls ≠ "java/lang/invoke/VarHandle" ∧ (parseMethodDescriptor yJ2_indexOfSupplementary_4cfef.desc).map (fun d => d.parameters.length) = some 4 := ⟨rfl, hd_J2_indexOfSupplementary_4cfef⟩
theorem hd_J2_checkBoundsBeginEnd_d044e : yJ2_checkBoundsBeginEnd_d044e.cls ≠ "java/lang/invoke/MethodHandle" ∧ yJ2_checkBoundsBeginEnd_d044e.cls ≠ "java/lang/invoke/VarHandle" ∧ (parseMethodDescriptor yJ2_checkBoundsBeginEnd_d044e.desc).map (fun d => d.parameters.length) = some 3 := by decide +kernel
theorem hv_J2_checkBoundsBeginEnd_d044e : yJ2_checkBoundsBeginEnd_d044e.cls = "java/lang/StringUTF16" ∧ yJ2_checkBoundsBeginEnd_d044e.cls ≠ "java/lang/invoke/MethodHandle" ∧ yJ2_checkBoundsBeginEnd_d044e.cls ≠ "java/lang/invoke/VarHandle" ∧ (parseMethodDescriptor yJ2_checkBoundsBeginEnd_d044e.desc).map (fun d => d.parameters.length) = some 3 := ⟨rfl, hd_J2_checkBoundsBeginEnd_d044e⟩
theorem hd_J3_checkFromToIndex_8c36e : yJ3_checkFromToIndex_8c36e.cls ≠ "java/lang/invoke/MethodHandle" ∧ yJ3_checkFromToIndex_8c36e.cls ≠ "java/lang/invoke/VarHandle" ∧ (parseMethodDescriptor yJ3_checkFromToIndex_8c36e.desc).map (fun d => d.parameters.length) = some 4 := by decide +kernel
theorem hv_J3_checkFromToIndex_8c36e : yJ3_checkFromToIndex_8c36e.cls = "jdk/internal/util/Preconditions" ∧ yJ3_checkFromToIndex_8c36e.cls ≠ "java/lang/invoke/MethodHandle" ∧ yJ3_checkFromToIndex_8c36e.cls ≠ "java/lang/invoke/VarHandle" ∧ (parseMethodDescriptor yJ3_checkFromToIndex_8c36e.desc).map (fun d => d.parameters.length) = some 4 := ⟨rfl, hd_J3_checkFromToIndex_8c36e⟩
