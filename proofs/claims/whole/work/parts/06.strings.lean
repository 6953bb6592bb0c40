theorem wp1 {q : MethodName × Nat} (h : q ∈ lw_privs_1) : q ∈ lw_privs := List.mem_append_left _ h
theorem wp2 {q : MethodName × Nat} (h : q ∈ lw_privs_2) : q ∈ lw_privs := List.mem_append_right _ (List.mem_append_left _ h)
theorem wp3 {q : MethodName × Nat} (h : q ∈ lw_privs_3) : q ∈ lw_privs := List.mem_append_right _ (List.mem_append_right _ (List.mem_append_left _ h))
theorem wp4 {q : MethodName × Nat} (h : q ∈ lw_privs_4) : q ∈ lw_privs := List.mem_append_right _ (List.mem_append_right _ (List.mem_append_right _ (List.mem_append_left _ h)))
theorem wp5 {q : MethodName × Nat} (h : q ∈ lw_privs_5) : q ∈ lw_privs := List.mem_append_right _ (List.mem_append_right _ (List.mem_append_right _ (List.mem_append_right _ (List.mem_append_left _ h))))
theorem wp6 {q : MethodName × Nat} (h : q ∈ lw_privs_6) : q ∈ lw_privs := List.mem_append_right _ (List.mem_append_right _ (List.mem_append_right _ (List.mem_append_right _ (List.mem_append_right _ (List.mem_append_left _ h)))))
theorem wp7 {q : MethodName × Nat} (h : q ∈ lw_privs_7) : q ∈ lw_privs := List.mem_append_right _ (List.mem_append_right _ (List.mem_append_right _ (List.mem_append_right _ (List.mem_append_right _ (List.mem_append_right _ (List.mem_append_left _ h))))))
theorem wp8 {q : MethodName × Nat} (h : q ∈ lw_privs_8) : q ∈ lw_privs := List.mem_append_right _ (List.mem_append_right _ (List.mem_append_right _ (List.mem_append_right _ (List.mem_append_right _ (List.mem_append_right _ (List.mem_append_right _ (h)))))))
def s_the_text_of_the_walk_is_wrong : List Int32 := [116, 104, 101, 32, 116, 101, 120, 116, 32, 111, 102, 32, 116, 104, 101, 32, 119, 97, 108, 107, 32, 105, 115, 32, 119, 114, 111, 110, 103]
def s_there_are_12_texts : List Int32 := [116, 104, 101, 114, 101, 32, 97, 114, 101, 32, 49, 50, 32, 116, 101, 120, 116, 115]
def s_the_text_of_the_law_is_wrong : List Int32 := [116, 104, 101, 32, 116, 101, 120, 116, 32, 111, 102, 32, 116, 104, 101, 32, 108, 97, 119, 32, 105, 115, 32, 119, 114, 111, 110, 103]
def s_a_yarn_has_what_0_to_5 : List Int32 := [97, 32, 121, 97, 114, 110, 32, 104, 97, 115, 32, 119, 104, 97, 116, 32, 48, 32, 116, 111, 32, 53]
def s_a_rope_has_what_0_to_13 : List Int32 := [97, 32, 114, 111, 112, 101, 32, 104, 97, 115, 32, 119, 104, 97, 116, 32, 48, 32, 116, 111, 32, 49, 51]
def s_an_order_has_what_0_to_2 : List Int32 := [97, 110, 32, 111, 114, 100, 101, 114, 32, 104, 97, 115, 32, 119, 104, 97, 116, 32, 48, 32, 116, 111, 32, 50]
def s_a_yarn_has_not_so_many_fathoms : List Int32 := [97, 32, 121, 97, 114, 110, 32, 104, 97, 115, 32, 110, 111, 116, 32, 115, 111, 32, 109, 97, 110, 121, 32, 102, 97, 116, 104, 111, 109, 115]
def s_it_cannot_be_doubled : List Int32 := [105, 116, 32, 99, 97, 110, 110, 111, 116, 32, 98, 101, 32, 100, 111, 117, 98, 108, 101, 100]
def s_the_order_cannot_be_met_by_this_rope : List Int32 := [116, 104, 101, 32, 111, 114, 100, 101, 114, 32, 99, 97, 110, 110, 111, 116, 32, 98, 101, 32, 109, 101, 116, 32, 98, 121, 32, 116, 104, 105, 115, 32, 114, 111, 112, 101]
def s_oakum_tells_what_0_to_2 : List Int32 := [111, 97, 107, 117, 109, 32, 116, 101, 108, 108, 115, 32, 119, 104, 97, 116, 32, 48, 32, 116, 111, 32, 50]
def s_a_rope_would_be_what_0_to_2 : List Int32 := [97, 32, 114, 111, 112, 101, 32, 119, 111, 117, 108, 100, 32, 98, 101, 32, 119, 104, 97, 116, 32, 48, 32, 116, 111, 32, 50]
def s_the_log_tells_what_0_to_4 : List Int32 := [116, 104, 101, 32, 108, 111, 103, 32, 116, 101, 108, 108, 115, 32, 119, 104, 97, 116, 32, 48, 32, 116, 111, 32, 52]
def s_there_is_no_such_yarn : List Int32 := [116, 104, 101, 114, 101, 32, 105, 115, 32, 110, 111, 32, 115, 117, 99, 104, 32, 121, 97, 114, 110]
def s_there_is_no_such_rope : List Int32 := [116, 104, 101, 114, 101, 32, 105, 115, 32, 110, 111, 32, 115, 117, 99, 104, 32, 114, 111, 112, 101]
def s_the_rope_is_broken : List Int32 := [116, 104, 101, 32, 114, 111, 112, 101, 32, 105, 115, 32, 98, 114, 111, 107, 101, 110]
def s_there_is_no_such_order : List Int32 := [116, 104, 101, 114, 101, 32, 105, 115, 32, 110, 111, 32, 115, 117, 99, 104, 32, 111, 114, 100, 101, 114]
def s_two_yarns_are_one : List Int32 := [116, 119, 111, 32, 121, 97, 114, 110, 115, 32, 97, 114, 101, 32, 111, 110, 101]
def s_both_ropes_are_one : List Int32 := [98, 111, 116, 104, 32, 114, 111, 112, 101, 115, 32, 97, 114, 101, 32, 111, 110, 101]
def s_there_are_8_ropes : List Int32 := [116, 104, 101, 114, 101, 32, 97, 114, 101, 32, 56, 32, 114, 111, 112, 101, 115]
def s_the_number_is_out_of_its_bounds : List Int32 := [116, 104, 101, 32, 110, 117, 109, 98, 101, 114, 32, 105, 115, 32, 111, 117, 116, 32, 111, 102, 32, 105, 116, 115, 32, 98, 111, 117, 110, 100, 115]
def s_fail : List Int32 := [102, 97, 105, 108]
def s_if : List Int32 := [105, 102]
def s_bear : List Int32 := [98, 101, 97, 114]
def s_wear : List Int32 := [119, 101, 97, 114]
def s_or : List Int32 := [111, 114]
def s_and : List Int32 := [97, 110, 100]
def s_not : List Int32 := [110, 111, 116]
def s_whipped : List Int32 := [119, 104, 105, 112, 112, 101, 100]
def s_winter : List Int32 := [119, 105, 110, 116, 101, 114]
def s_weak : List Int32 := [119, 101, 97, 107]
def s_strong : List Int32 := [115, 116, 114, 111, 110, 103]
def s_rot : List Int32 := [114, 111, 116]
def s_reigns : List Int32 := [114, 101, 105, 103, 110, 115]
def s_tar : List Int32 := [116, 97, 114]
def s_worn : List Int32 := [119, 111, 114, 110]
def s_long : List Int32 := [108, 111, 110, 103]
def s_plies : List Int32 := [112, 108, 105, 101, 115]
def s_load : List Int32 := [108, 111, 97, 100]
def s_yarn : List Int32 := [121, 97, 114, 110]
def s_rope : List Int32 := [114, 111, 112, 101]
def s_order : List Int32 := [111, 114, 100, 101, 114]
def s_hang : List Int32 := [104, 97, 110, 103]
def s_whip : List Int32 := [119, 104, 105, 112]
def s_gale : List Int32 := [103, 97, 108, 101]
def s_damp : List Int32 := [100, 97, 109, 112]
def s_reign : List Int32 := [114, 101, 105, 103, 110]
def s_pay : List Int32 := [112, 97, 121]
/-- a text at the cell w: an ordinary String of these bytes, older than all that the law makes -/
def gStr (X : gX) (w : Nat) (bs : List Int32) : Prop := va_O "java/lang/String" w (gFree X) X.2.2 X.2.2.heap ∧ va_OF "java/lang/String" "coder" "B" (.int 0) w (gFree X) X.2.2 X.2.2.heap ∧ bs.length < 2 ^ 31 ∧ ∃ v : Nat, va_OF "java/lang/String" "value" "[B" (.ref v) w (gFree X) X.2.2 X.2.2.heap ∧ va_T .byte v bs.length (fun j => .int (bs.getD j 0)) (gFree X) X.2.2 X.2.2.heap
def gTexts : List (String × Nat × String × List Int32) := [(RX10, 100, "the text of the walk is wrong", s_the_text_of_the_walk_is_wrong), (RX10, 110, "there are 12 texts", s_there_are_12_texts), (RX10, 119, "the text of the law is wrong", s_the_text_of_the_law_is_wrong), (RX10, 153, "a yarn has what 0 to 5", s_a_yarn_has_what_0_to_5), (RX10, 205, "a rope has what 0 to 13", s_a_rope_has_what_0_to_13), (RX10, 218, "an order has what 0 to 2", s_an_order_has_what_0_to_2), (RX10, 237, "a yarn has not so many fathoms", s_a_yarn_has_not_so_many_fathoms), (RX10, 259, "it cannot be doubled", s_it_cannot_be_doubled), (RX10, 275, "the order cannot be met by this rope", s_the_order_cannot_be_met_by_this_rope), (RX10, 306, "oakum tells what 0 to 2", s_oakum_tells_what_0_to_2), (RX10, 386, "a rope would be what 0 to 2", s_a_rope_would_be_what_0_to_2), (RX10, 421, "the log tells what 0 to 4", s_the_log_tells_what_0_to_4), (RX10, 455, "there is no such yarn", s_there_is_no_such_yarn), (RX10, 458, "there is no such rope", s_there_is_no_such_rope), (RX10, 460, "the rope is broken", s_the_rope_is_broken), (RX10, 462, "there is no such order", s_there_is_no_such_order), (RX10, 464, "two yarns are one", s_two_yarns_are_one), (RX10, 466, "both ropes are one", s_both_ropes_are_one), (RX10, 468, "there are 8 ropes", s_there_are_8_ropes), (RX10, 470, "the number is out of its bounds", s_the_number_is_out_of_its_bounds), (RX2, 31, "fail", s_fail), (RX2, 45, "if", s_if), (RX2, 64, "bear", s_bear), (RX2, 66, "wear", s_wear), (RX2, 72, "or", s_or), (RX2, 77, "and", s_and), (RX2, 86, "not", s_not), (RX2, 99, "whipped", s_whipped), (RX2, 101, "winter", s_winter), (RX2, 109, "weak", s_weak), (RX2, 111, "strong", s_strong), (RX2, 113, "rot", s_rot), (RX2, 115, "reigns", s_reigns), (RX2, 117, "tar", s_tar), (RX2, 119, "worn", s_worn), (RX2, 121, "long", s_long), (RX2, 123, "plies", s_plies), (RX2, 125, "load", s_load), (RX8, 46, "yarn", s_yarn), (RX8, 58, "rope", s_rope), (RX8, 66, "order", s_order), (RX8, 71, "hang", s_hang), (RX8, 76, "tar", s_tar), (RX8, 81, "whip", s_whip), (RX8, 86, "gale", s_gale), (RX8, 94, "damp", s_damp), (RX8, 98, "long", s_long), (RX8, 104, "rot", s_rot), (RX8, 106, "reign", s_reign), (RX8, 126, "pay", s_pay), (RX11, 118, "long", s_long), (RX11, 124, "rot", s_rot), (RX11, 126, "reign", s_reign), (RX11, 144, "pay", s_pay), (RX11, 150, "yarn", s_yarn), (RX11, 156, "rope", s_rope), (RX11, 161, "order", s_order), (RX11, 166, "hang", s_hang), (RX11, 171, "tar", s_tar), (RX11, 173, "whip", s_whip), (RX11, 175, "gale", s_gale), (RX11, 180, "damp", s_damp), (RX11, 189, "weak", s_weak), (RX11, 191, "strong", s_strong), (RX11, 193, "reigns", s_reigns), (RX11, 195, "worn", s_worn), (RX11, 197, "plies", s_plies), (RX11, 199, "load", s_load), (RX11, 207, "whipped", s_whipped), (RX11, 209, "winter", s_winter), (RX11, 217, "not", s_not), (RX11, 231, "and", s_and), (RX11, 236, "or", s_or), (RX11, 238, "wear", s_wear), (RX11, 240, "bear", s_bear), (RX11, 242, "fail", s_fail), (RX11, 244, "if", s_if)]
/-- what stands at the start of the law: texts, statics -/
def gS0 (l : Launch) (X : gX) : Prop := (l.stackTraces = false ∧ ∃ a0 : Array Value, ∀ w ∈ lw_tbl, w.before a0 X.2.2 = true) ∧ (∀ q ∈ gTexts, ∃ w, vk_R q.1 q.2.1 q.2.2.1 w X.2.2 ∧ gStr X w q.2.2.2) ∧ va_Z "java/lang/String" "COMPACT_STRINGS" "Z" (.int 1) (gFree X) X.2.2 X.2.2.heap ∧ va_Zq "jdk/internal/util/Preconditions" "SIOOBE_FORMATTER" "Ljava/util/function/BiFunction;" (gFree X) X.2.2 X.2.2.heap ∧ vx_Zq "java/lang/Throwable" "UNASSIGNED_STACK" "[Ljava/lang/StackTraceElement;" (gFree X) X.2.2 X.2.2.heap ∧ vx_Zq "java/lang/Throwable" "SUPPRESSED_SENTINEL" "Ljava/util/List;" (gFree X) X.2.2 X.2.2.heap
theorem gt_RX10_100 : (RX10, 100, "the text of the walk is wrong", s_the_text_of_the_walk_is_wrong) ∈ gTexts := List.mem_of_getElem? (i := 0) rfl
theorem gt_RX10_110 : (RX10, 110, "there are 12 texts", s_there_are_12_texts) ∈ gTexts := List.mem_of_getElem? (i := 1) rfl
theorem gt_RX10_119 : (RX10, 119, "the text of the law is wrong", s_the_text_of_the_law_is_wrong) ∈ gTexts := List.mem_of_getElem? (i := 2) rfl
theorem gt_RX10_153 : (RX10, 153, "a yarn has what 0 to 5", s_a_yarn_has_what_0_to_5) ∈ gTexts := List.mem_of_getElem? (i := 3) rfl
theorem gt_RX10_205 : (RX10, 205, "a rope has what 0 to 13", s_a_rope_has_what_0_to_13) ∈ gTexts := List.mem_of_getElem? (i := 4) rfl
theorem gt_RX10_218 : (RX10, 218, "an order has what 0 to 2", s_an_order_has_what_0_to_2) ∈ gTexts := List.mem_of_getElem? (i := 5) rfl
theorem gt_RX10_237 : (RX10, 237, "a yarn has not so many fathoms", s_a_yarn_has_not_so_many_fathoms) ∈ gTexts := List.mem_of_getElem? (i := 6) rfl
theorem gt_RX10_259 : (RX10, 259, "it cannot be doubled", s_it_cannot_be_doubled) ∈ gTexts := List.mem_of_getElem? (i := 7) rfl
theorem gt_RX10_275 : (RX10, 275, "the order cannot be met by this rope", s_the_order_cannot_be_met_by_this_rope) ∈ gTexts := List.mem_of_getElem? (i := 8) rfl
theorem gt_RX10_306 : (RX10, 306, "oakum tells what 0 to 2", s_oakum_tells_what_0_to_2) ∈ gTexts := List.mem_of_getElem? (i := 9) rfl
theorem gt_RX10_386 : (RX10, 386, "a rope would be what 0 to 2", s_a_rope_would_be_what_0_to_2) ∈ gTexts := List.mem_of_getElem? (i := 10) rfl
theorem gt_RX10_421 : (RX10, 421, "the log tells what 0 to 4", s_the_log_tells_what_0_to_4) ∈ gTexts := List.mem_of_getElem? (i := 11) rfl
theorem gt_RX10_455 : (RX10, 455, "there is no such yarn", s_there_is_no_such_yarn) ∈ gTexts := List.mem_of_getElem? (i := 12) rfl
theorem gt_RX10_458 : (RX10, 458, "there is no such rope", s_there_is_no_such_rope) ∈ gTexts := List.mem_of_getElem? (i := 13) rfl
theorem gt_RX10_460 : (RX10, 460, "the rope is broken", s_the_rope_is_broken) ∈ gTexts := List.mem_of_getElem? (i := 14) rfl
theorem gt_RX10_462 : (RX10, 462, "there is no such order", s_there_is_no_such_order) ∈ gTexts := List.mem_of_getElem? (i := 15) rfl
theorem gt_RX10_464 : (RX10, 464, "two yarns are one", s_two_yarns_are_one) ∈ gTexts := List.mem_of_getElem? (i := 16) rfl
theorem gt_RX10_466 : (RX10, 466, "both ropes are one", s_both_ropes_are_one) ∈ gTexts := List.mem_of_getElem? (i := 17) rfl
theorem gt_RX10_468 : (RX10, 468, "there are 8 ropes", s_there_are_8_ropes) ∈ gTexts := List.mem_of_getElem? (i := 18) rfl
theorem gt_RX10_470 : (RX10, 470, "the number is out of its bounds", s_the_number_is_out_of_its_bounds) ∈ gTexts := List.mem_of_getElem? (i := 19) rfl
theorem gt_RX2_31 : (RX2, 31, "fail", s_fail) ∈ gTexts := List.mem_of_getElem? (i := 20) rfl
theorem gt_RX2_45 : (RX2, 45, "if", s_if) ∈ gTexts := List.mem_of_getElem? (i := 21) rfl
theorem gt_RX2_64 : (RX2, 64, "bear", s_bear) ∈ gTexts := List.mem_of_getElem? (i := 22) rfl
theorem gt_RX2_66 : (RX2, 66, "wear", s_wear) ∈ gTexts := List.mem_of_getElem? (i := 23) rfl
theorem gt_RX2_72 : (RX2, 72, "or", s_or) ∈ gTexts := List.mem_of_getElem? (i := 24) rfl
theorem gt_RX2_77 : (RX2, 77, "and", s_and) ∈ gTexts := List.mem_of_getElem? (i := 25) rfl
theorem gt_RX2_86 : (RX2, 86, "not", s_not) ∈ gTexts := List.mem_of_getElem? (i := 26) rfl
theorem gt_RX2_99 : (RX2, 99, "whipped", s_whipped) ∈ gTexts := List.mem_of_getElem? (i := 27) rfl
theorem gt_RX2_101 : (RX2, 101, "winter", s_winter) ∈ gTexts := List.mem_of_getElem? (i := 28) rfl
theorem gt_RX2_109 : (RX2, 109, "weak", s_weak) ∈ gTexts := List.mem_of_getElem? (i := 29) rfl
theorem gt_RX2_111 : (RX2, 111, "strong", s_strong) ∈ gTexts := List.mem_of_getElem? (i := 30) rfl
theorem gt_RX2_113 : (RX2, 113, "rot", s_rot) ∈ gTexts := List.mem_of_getElem? (i := 31) rfl
theorem gt_RX2_115 : (RX2, 115, "reigns", s_reigns) ∈ gTexts := List.mem_of_getElem? (i := 32) rfl
theorem gt_RX2_117 : (RX2, 117, "tar", s_tar) ∈ gTexts := List.mem_of_getElem? (i := 33) rfl
theorem gt_RX2_119 : (RX2, 119, "worn", s_worn) ∈ gTexts := List.mem_of_getElem? (i := 34) rfl
theorem gt_RX2_121 : (RX2, 121, "long", s_long) ∈ gTexts := List.mem_of_getElem? (i := 35) rfl
theorem gt_RX2_123 : (RX2, 123, "plies", s_plies) ∈ gTexts := List.mem_of_getElem? (i := 36) rfl
theorem gt_RX2_125 : (RX2, 125, "load", s_load) ∈ gTexts := List.mem_of_getElem? (i := 37) rfl
theorem gt_RX8_46 : (RX8, 46, "yarn", s_yarn) ∈ gTexts := List.mem_of_getElem? (i := 38) rfl
theorem gt_RX8_58 : (RX8, 58, "rope", s_rope) ∈ gTexts := List.mem_of_getElem? (i := 39) rfl
theorem gt_RX8_66 : (RX8, 66, "order", s_order) ∈ gTexts := List.mem_of_getElem? (i := 40) rfl
theorem gt_RX8_71 : (RX8, 71, "hang", s_hang) ∈ gTexts := List.mem_of_getElem? (i := 41) rfl
theorem gt_RX8_76 : (RX8, 76, "tar", s_tar) ∈ gTexts := List.mem_of_getElem? (i := 42) rfl
theorem gt_RX8_81 : (RX8, 81, "whip", s_whip) ∈ gTexts := List.mem_of_getElem? (i := 43) rfl
theorem gt_RX8_86 : (RX8, 86, "gale", s_gale) ∈ gTexts := List.mem_of_getElem? (i := 44) rfl
theorem gt_RX8_94 : (RX8, 94, "damp", s_damp) ∈ gTexts := List.mem_of_getElem? (i := 45) rfl
theorem gt_RX8_98 : (RX8, 98, "long", s_long) ∈ gTexts := List.mem_of_getElem? (i := 46) rfl
theorem gt_RX8_104 : (RX8, 104, "rot", s_rot) ∈ gTexts := List.mem_of_getElem? (i := 47) rfl
theorem gt_RX8_106 : (RX8, 106, "reign", s_reign) ∈ gTexts := List.mem_of_getElem? (i := 48) rfl
theorem gt_RX8_126 : (RX8, 126, "pay", s_pay) ∈ gTexts := List.mem_of_getElem? (i := 49) rfl
theorem gt_RX11_118 : (RX11, 118, "long", s_long) ∈ gTexts := List.mem_of_getElem? (i := 50) rfl
theorem gt_RX11_124 : (RX11, 124, "rot", s_rot) ∈ gTexts := List.mem_of_getElem? (i := 51) rfl
theorem gt_RX11_126 : (RX11, 126, "reign", s_reign) ∈ gTexts := List.mem_of_getElem? (i := 52) rfl
theorem gt_RX11_144 : (RX11, 144, "pay", s_pay) ∈ gTexts := List.mem_of_getElem? (i := 53) rfl
theorem gt_RX11_150 : (RX11, 150, "yarn", s_yarn) ∈ gTexts := List.mem_of_getElem? (i := 54) rfl
theorem gt_RX11_156 : (RX11, 156, "rope", s_rope) ∈ gTexts := List.mem_of_getElem? (i := 55) rfl
theorem gt_RX11_161 : (RX11, 161, "order", s_order) ∈ gTexts := List.mem_of_getElem? (i := 56) rfl
theorem gt_RX11_166 : (RX11, 166, "hang", s_hang) ∈ gTexts := List.mem_of_getElem? (i := 57) rfl
theorem gt_RX11_171 : (RX11, 171, "tar", s_tar) ∈ gTexts := List.mem_of_getElem? (i := 58) rfl
theorem gt_RX11_173 : (RX11, 173, "whip", s_whip) ∈ gTexts := List.mem_of_getElem? (i := 59) rfl
theorem gt_RX11_175 : (RX11, 175, "gale", s_gale) ∈ gTexts := List.mem_of_getElem? (i := 60) rfl
theorem gt_RX11_180 : (RX11, 180, "damp", s_damp) ∈ gTexts := List.mem_of_getElem? (i := 61) rfl
theorem gt_RX11_189 : (RX11, 189, "weak", s_weak) ∈ gTexts := List.mem_of_getElem? (i := 62) rfl
theorem gt_RX11_191 : (RX11, 191, "strong", s_strong) ∈ gTexts := List.mem_of_getElem? (i := 63) rfl
theorem gt_RX11_193 : (RX11, 193, "reigns", s_reigns) ∈ gTexts := List.mem_of_getElem? (i := 64) rfl
theorem gt_RX11_195 : (RX11, 195, "worn", s_worn) ∈ gTexts := List.mem_of_getElem? (i := 65) rfl
theorem gt_RX11_197 : (RX11, 197, "plies", s_plies) ∈ gTexts := List.mem_of_getElem? (i := 66) rfl
theorem gt_RX11_199 : (RX11, 199, "load", s_load) ∈ gTexts := List.mem_of_getElem? (i := 67) rfl
theorem gt_RX11_207 : (RX11, 207, "whipped", s_whipped) ∈ gTexts := List.mem_of_getElem? (i := 68) rfl
theorem gt_RX11_209 : (RX11, 209, "winter", s_winter) ∈ gTexts := List.mem_of_getElem? (i := 69) rfl
theorem gt_RX11_217 : (RX11, 217, "not", s_not) ∈ gTexts := List.mem_of_getElem? (i := 70) rfl
theorem gt_RX11_231 : (RX11, 231, "and", s_and) ∈ gTexts := List.mem_of_getElem? (i := 71) rfl
theorem gt_RX11_236 : (RX11, 236, "or", s_or) ∈ gTexts := List.mem_of_getElem? (i := 72) rfl
theorem gt_RX11_238 : (RX11, 238, "wear", s_wear) ∈ gTexts := List.mem_of_getElem? (i := 73) rfl
theorem gt_RX11_240 : (RX11, 240, "bear", s_bear) ∈ gTexts := List.mem_of_getElem? (i := 74) rfl
theorem gt_RX11_242 : (RX11, 242, "fail", s_fail) ∈ gTexts := List.mem_of_getElem? (i := 75) rfl
theorem gt_RX11_244 : (RX11, 244, "if", s_if) ∈ gTexts := List.mem_of_getElem? (i := 76) rfl
theorem dJ0_length_8abf5_0 : decode cJ0_length_8abf5 0 = .ok (.aload_n 0, 1) := by decide +kernel
theorem dJ0_length_8abf5_1 : decode cJ0_length_8abf5 1 = .ok (.getfield 9, 3) := by decide +kernel
theorem dJ0_length_8abf5_4 : decode cJ0_length_8abf5 4 = .ok (.arraylength, 1) := by decide +kernel
theorem dJ0_length_8abf5_5 : decode cJ0_length_8abf5 5 = .ok (.aload_n 0, 1) := by decide +kernel
theorem dJ0_length_8abf5_6 : decode cJ0_length_8abf5 6 = .ok (.invokevirtual 335, 3) := by decide +kernel
theorem dJ0_length_8abf5_9 : decode cJ0_length_8abf5 9 = .ok (.ishr, 1) := by decide +kernel
theorem dJ0_length_8abf5_10 : decode cJ0_length_8abf5 10 = .ok (.ireturn, 1) := by decide +kernel
theorem dJ0_coder_7d493_0 : decode cJ0_coder_7d493 0 = .ok (.getstatic 38, 3) := by decide +kernel
theorem dJ0_coder_7d493_3 : decode cJ0_coder_7d493 3 = .ok (.ifCond .eq 10, 3) := by decide +kernel
theorem dJ0_coder_7d493_6 : decode cJ0_coder_7d493 6 = .ok (.aload_n 0, 1) := by decide +kernel
theorem dJ0_coder_7d493_7 : decode cJ0_coder_7d493 7 = .ok (.getfield 15, 3) := by decide +kernel
theorem dJ0_coder_7d493_10 : decode cJ0_coder_7d493 10 = .ok (.goto 4, 3) := by decide +kernel
theorem dJ0_coder_7d493_13 : decode cJ0_coder_7d493 13 = .ok (.iconst 1, 1) := by decide +kernel
theorem dJ0_coder_7d493_14 : decode cJ0_coder_7d493 14 = .ok (.ireturn, 1) := by decide +kernel
theorem dJ0_charAt_5068e_0 : decode cJ0_charAt_5068e 0 = .ok (.aload_n 0, 1) := by decide +kernel
theorem dJ0_charAt_5068e_1 : decode cJ0_charAt_5068e 1 = .ok (.invokevirtual 492, 3) := by decide +kernel
theorem dJ0_charAt_5068e_4 : decode cJ0_charAt_5068e 4 = .ok (.ifCond .eq 12, 3) := by decide +kernel
theorem dJ0_charAt_5068e_7 : decode cJ0_charAt_5068e 7 = .ok (.aload_n 0, 1) := by decide +kernel
theorem dJ0_charAt_5068e_8 : decode cJ0_charAt_5068e 8 = .ok (.getfield 9, 3) := by decide +kernel
theorem dJ0_charAt_5068e_11 : decode cJ0_charAt_5068e 11 = .ok (.iload_n 1, 1) := by decide +kernel
theorem dJ0_charAt_5068e_12 : decode cJ0_charAt_5068e 12 = .ok (.invokestatic 495, 3) := by decide +kernel
theorem dJ0_charAt_5068e_15 : decode cJ0_charAt_5068e 15 = .ok (.ireturn, 1) := by decide +kernel
theorem dJ0_charAt_5068e_16 : decode cJ0_charAt_5068e 16 = .ok (.aload_n 0, 1) := by decide +kernel
theorem dJ0_charAt_5068e_17 : decode cJ0_charAt_5068e 17 = .ok (.getfield 9, 3) := by decide +kernel
theorem dJ0_charAt_5068e_20 : decode cJ0_charAt_5068e 20 = .ok (.iload_n 1, 1) := by decide +kernel
theorem dJ0_charAt_5068e_21 : decode cJ0_charAt_5068e 21 = .ok (.invokestatic 498, 3) := by decide +kernel
theorem dJ0_charAt_5068e_24 : decode cJ0_charAt_5068e 24 = .ok (.ireturn, 1) := by decide +kernel
theorem dJ0_isLatin1_aae02_0 : decode cJ0_isLatin1_aae02 0 = .ok (.getstatic 38, 3) := by decide +kernel
theorem dJ0_isLatin1_aae02_3 : decode cJ0_isLatin1_aae02 3 = .ok (.ifCond .eq 14, 3) := by decide +kernel
theorem dJ0_isLatin1_aae02_6 : decode cJ0_isLatin1_aae02 6 = .ok (.aload_n 0, 1) := by decide +kernel
theorem dJ0_isLatin1_aae02_7 : decode cJ0_isLatin1_aae02 7 = .ok (.getfield 15, 3) := by decide +kernel
theorem dJ0_isLatin1_aae02_10 : decode cJ0_isLatin1_aae02 10 = .ok (.ifCond .ne 7, 3) := by decide +kernel
theorem dJ0_isLatin1_aae02_13 : decode cJ0_isLatin1_aae02 13 = .ok (.iconst 1, 1) := by decide +kernel
theorem dJ0_isLatin1_aae02_14 : decode cJ0_isLatin1_aae02 14 = .ok (.goto 4, 3) := by decide +kernel
theorem dJ0_isLatin1_aae02_17 : decode cJ0_isLatin1_aae02 17 = .ok (.iconst 0, 1) := by decide +kernel
theorem dJ0_isLatin1_aae02_18 : decode cJ0_isLatin1_aae02 18 = .ok (.ireturn, 1) := by decide +kernel
theorem dJ0_checkIndex_df160_0 : decode cJ0_checkIndex_df160 0 = .ok (.iload_n 0, 1) := by decide +kernel
theorem dJ0_checkIndex_df160_1 : decode cJ0_checkIndex_df160 1 = .ok (.iload_n 1, 1) := by decide +kernel
theorem dJ0_checkIndex_df160_2 : decode cJ0_checkIndex_df160 2 = .ok (.getstatic 1053, 3) := by decide +kernel
theorem dJ0_checkIndex_df160_5 : decode cJ0_checkIndex_df160 5 = .ok (.invokestatic 1059, 3) := by decide +kernel
theorem dJ0_checkIndex_df160_8 : decode cJ0_checkIndex_df160 8 = .ok (.pop, 1) := by decide +kernel
theorem dJ0_checkIndex_df160_9 : decode cJ0_checkIndex_df160 9 = .ok (.return_, 1) := by decide +kernel
theorem dJ1_charAt_3b067_0 : decode cJ1_charAt_3b067 0 = .ok (.iload_n 1, 1) := by decide +kernel
theorem dJ1_charAt_3b067_1 : decode cJ1_charAt_3b067 1 = .ok (.aload_n 0, 1) := by decide +kernel
theorem dJ1_charAt_3b067_2 : decode cJ1_charAt_3b067 2 = .ok (.arraylength, 1) := by decide +kernel
theorem dJ1_charAt_3b067_3 : decode cJ1_charAt_3b067 3 = .ok (.invokestatic 9, 3) := by decide +kernel
theorem dJ1_charAt_3b067_6 : decode cJ1_charAt_3b067 6 = .ok (.aload_n 0, 1) := by decide +kernel
theorem dJ1_charAt_3b067_7 : decode cJ1_charAt_3b067 7 = .ok (.iload_n 1, 1) := by decide +kernel
theorem dJ1_charAt_3b067_8 : decode cJ1_charAt_3b067 8 = .ok (.baload, 1) := by decide +kernel
theorem dJ1_charAt_3b067_9 : decode cJ1_charAt_3b067 9 = .ok (.sipush 255, 3) := by decide +kernel
theorem dJ1_charAt_3b067_12 : decode cJ1_charAt_3b067 12 = .ok (.iand, 1) := by decide +kernel
theorem dJ1_charAt_3b067_13 : decode cJ1_charAt_3b067 13 = .ok (.i2c, 1) := by decide +kernel
theorem dJ1_charAt_3b067_14 : decode cJ1_charAt_3b067 14 = .ok (.ireturn, 1) := by decide +kernel
theorem dJ3_checkIndex_8e157_0 : decode cJ3_checkIndex_8e157 0 = .ok (.iload_n 0, 1) := by decide +kernel
theorem dJ3_checkIndex_8e157_1 : decode cJ3_checkIndex_8e157 1 = .ok (.ifCond .lt 8, 3) := by decide +kernel
theorem dJ3_checkIndex_8e157_4 : decode cJ3_checkIndex_8e157 4 = .ok (.iload_n 0, 1) := by decide +kernel
theorem dJ3_checkIndex_8e157_5 : decode cJ3_checkIndex_8e157 5 = .ok (.iload_n 1, 1) := by decide +kernel
theorem dJ3_checkIndex_8e157_6 : decode cJ3_checkIndex_8e157 6 = .ok (.if_icmp .lt 10, 3) := by decide +kernel
theorem dJ3_checkIndex_8e157_9 : decode cJ3_checkIndex_8e157 9 = .ok (.aload_n 2, 1) := by decide +kernel
theorem dJ3_checkIndex_8e157_10 : decode cJ3_checkIndex_8e157 10 = .ok (.iload_n 0, 1) := by decide +kernel
theorem dJ3_checkIndex_8e157_11 : decode cJ3_checkIndex_8e157 11 = .ok (.iload_n 1, 1) := by decide +kernel
theorem dJ3_checkIndex_8e157_12 : decode cJ3_checkIndex_8e157 12 = .ok (.invokestatic 95, 3) := by decide +kernel
theorem dJ3_checkIndex_8e157_15 : decode cJ3_checkIndex_8e157 15 = .ok (.athrow, 1) := by decide +kernel
theorem dJ3_checkIndex_8e157_16 : decode cJ3_checkIndex_8e157 16 = .ok (.iload_n 0, 1) := by decide +kernel
theorem dJ3_checkIndex_8e157_17 : decode cJ3_checkIndex_8e157 17 = .ok (.ireturn, 1) := by decide +kernel
theorem lv_RJ0_335 : gLv RJ0 335 RJ0 yJ0_coder_7d493 cJ0_coder_7d493 1 (some .byte) 0 := gLv_of (wA_t (wt3 (List.mem_of_getElem? (i := 178) (by decide +kernel))) (by decide +kernel)) (wA_t (wt3 (List.mem_of_getElem? (i := 179) (by decide +kernel))) (by decide +kernel)) (wA_t (wt3 (List.mem_of_getElem? (i := 180) (by decide +kernel))) (by decide +kernel)) (wA_t (wt1 (List.mem_of_getElem? (i := 14) (by decide +kernel))) (by decide +kernel)) (wA_t (wt3 (List.mem_of_getElem? (i := 181) (by decide +kernel))) (by decide +kernel)) ⟨rfl, by decide +kernel, by decide +kernel, by decide +kernel⟩
theorem lv_RJ0_492 : gLv RJ0 492 RJ0 yJ0_isLatin1_aae02 cJ0_isLatin1_aae02 1 (some .boolean) 0 := gLv_of (wA_t (wt3 (List.mem_of_getElem? (i := 188) (by decide +kernel))) (by decide +kernel)) (wA_t (wt3 (List.mem_of_getElem? (i := 189) (by decide +kernel))) (by decide +kernel)) (wA_t (wt3 (List.mem_of_getElem? (i := 190) (by decide +kernel))) (by decide +kernel)) (wA_t (wt1 (List.mem_of_getElem? (i := 14) (by decide +kernel))) (by decide +kernel)) (wA_t (wt3 (List.mem_of_getElem? (i := 191) (by decide +kernel))) (by decide +kernel)) ⟨rfl, by decide +kernel, by decide +kernel, by decide +kernel⟩
theorem ls_RJ0_495 : gLs RJ0 495 yJ1_charAt_3b067 cJ1_charAt_3b067 2 (some .char) 2 := gLs_of (wA_t (wt3 (List.mem_of_getElem? (i := 192) (by decide +kernel))) (by decide +kernel)) (wA_t (wt3 (List.mem_of_getElem? (i := 193) (by decide +kernel))) (by decide +kernel)) (wA_t (wt1 (List.mem_of_getElem? (i := 15) (by decide +kernel))) (by decide +kernel)) (wA_t (wt3 (List.mem_of_getElem? (i := 194) (by decide +kernel))) (by decide +kernel)) ⟨by decide +kernel, by decide +kernel, by decide +kernel⟩
theorem ls_RJ1_9 : gLs RJ1 9 yJ0_checkIndex_df160 cJ0_checkIndex_df160 2 none 2 := gLs_of (wA_t (wt3 (List.mem_of_getElem? (i := 195) (by decide +kernel))) (by decide +kernel)) (wA_t (wt3 (List.mem_of_getElem? (i := 196) (by decide +kernel))) (by decide +kernel)) (wA_t (wt1 (List.mem_of_getElem? (i := 14) (by decide +kernel))) (by decide +kernel)) (wA_t (wt3 (List.mem_of_getElem? (i := 197) (by decide +kernel))) (by decide +kernel)) ⟨by decide +kernel, by decide +kernel, by decide +kernel⟩
theorem ls_RJ0_1059 : gLs RJ0 1059 yJ3_checkIndex_8e157 cJ3_checkIndex_8e157 3 (some .int) 3 := gLs_of (wA_t (wt3 (List.mem_of_getElem? (i := 200) (by decide +kernel))) (by decide +kernel)) (wA_t (wt3 (List.mem_of_getElem? (i := 201) (by decide +kernel))) (by decide +kernel)) (wA_t (wt1 (List.mem_of_getElem? (i := 16) (by decide +kernel))) (by decide +kernel)) (wA_t (wt3 (List.mem_of_getElem? (i := 202) (by decide +kernel))) (by decide +kernel)) ⟨by decide +kernel, by decide +kernel, by decide +kernel⟩
theorem fl_RJ0_38 : Cond.fieldLink RJ0 38 "java/lang/String" "COMPACT_STRINGS" "Z" ∈ wA := wA_t (wt3 (List.mem_of_getElem? (i := 182) (by decide +kernel))) (by decide +kernel)
theorem fl_RJ0_1053 : Cond.fieldLink RJ0 1053 "jdk/internal/util/Preconditions" "SIOOBE_FORMATTER" "Ljava/util/function/BiFunction;" ∈ wA := wA_t (wt3 (List.mem_of_getElem? (i := 198) (by decide +kernel))) (by decide +kernel)
theorem fl_RJ0_9 : Cond.fieldLink RJ0 9 "java/lang/String" "value" "[B" ∈ wA := wA_t (wt9 (List.mem_of_getElem? (i := 136) (by decide +kernel))) (by decide +kernel)
theorem fl_RJ0_15 : Cond.fieldLink RJ0 15 "java/lang/String" "coder" "B" ∈ wA := wA_t (wt9 (List.mem_of_getElem? (i := 137) (by decide +kernel))) (by decide +kernel)
section GT
variable {X : gX} {p : Program} {l : Launch} {e : Env} {R : Room} {s : State} {m : MethodId} {args : Array Value} {below : List Frame} {meth : Method} {c : Code} {H : Heap} {locs : List Loc} {cells slots : Nat} {Q : State → Prop} {cc : ByteArray} {nL : Nat} {own : String} {τ : gτ} {G : gG} {pc : Nat} {ls : Array Slot} {rest : List Value} {ρ : Type} {K : ρ → Prop}
theorem gOld (hw : gHw X τ G H locs) : ∀ a : Nat, a < X.2.2.heap.size → ¬ gFree X a → H[a]? = X.2.2.heap[a]? := fun a h _ => hw.1.2.2.2 a h
theorem gz_getf (fx : gFx X p s m args meth c cc nL own) (hw : gHw X τ G H locs) {o n d : String} {idx q : Nat} {v : Value} (hE : va_OF o n d v q (gFree X) X.2.2 X.2.2.heap) (hlink : Cond.fieldLink own idx o n d ∈ wA) (hdg : decode cc pc = .ok (.getfield idx, 3)) (kk : W p l e R s m args below meth c H locs cells slots Q (F0 m (pc + 3) ls (v :: rest))) : W p l e R s m args below meth c H locs cells slots Q (F0 m pc ls (.ref q :: rest)) := by
  obtain ⟨hexec, hb, hml, hown, hts, hK, hA, -⟩ := fx
  obtain ⟨cf, k, fi, f, cell, h1, h2, h3, h4, h5, h6⟩ := (va_OF.moved hA.alike hE).kept (gOld hw)
  exact W.getf hexec hb hown (hts _ hlink) h1 h2 h3 h4 (v := v) h5 rfl rfl hdg kk
theorem gz_gets (fx : gFx X p s m args meth c cc nL own) (hw : gHw X τ G H locs) {C n d : String} {idx : Nat} {v : Value} (hZ : va_Z C n d v (gFree X) X.2.2 X.2.2.heap) (hlink : Cond.fieldLink own idx C n d ∈ wA) (hdg : decode cc pc = .ok (.getstatic idx, 3)) (kk : W p l e R s m args below meth c H locs cells slots Q (F0 m (pc + 3) ls (v :: rest))) : W p l e R s m args below meth c H locs cells slots Q (F0 m pc ls rest) := by
  obtain ⟨hexec, hb, hml, hown, hts, hK, hA, -⟩ := fx
  obtain ⟨cf, kf, fi, f, a, cell, h1, h2, h3, h4, h5, h6, h7, h8⟩ := (va_Z.moved hA.alike hZ).kept (gOld hw)
  exact W.gets hexec hb hown (hts _ hlink) h1 h2 h3 h4 h5 (fun e => by rw [e] at h6; cases h6) h7 rfl hdg kk
theorem gz_bald (fx : gFx X p s m args meth c cc nL own) (hw : gHw X τ G H locs) {t N : Nat} {f : Nat → Value} (hT : va_T .byte t N f (gFree X) X.2.2 X.2.2.heap) {i : Int32} (hin : gIn i N) {v : Value} (hv : f i.toNatClampNeg = v) (hdg : decode cc pc = .ok (.baload, 1)) (kk : W p l e R s m args below meth c H locs cells slots Q (F0 m (pc + 1) ls (v :: rest))) : W p l e R s m args below meth c H locs cells slots Q (F0 m pc ls (.int i :: .ref t :: rest)) := by
  obtain ⟨hexec, hb, hml, hown, hts, hK, hA, -⟩ := fx
  obtain ⟨cell, h1, h2, h3, h4, h5, h6, h7⟩ := (va_T.moved hA.alike hT).kept (gOld hw)
  have hlt : i.toNatClampNeg < N := Nat.not_le.mp fun q => hin (Or.inr q)
  have hin' : ¬ (i < 0 ∨ cell.slots.size ≤ i.toNatClampNeg) := by
    intro q
    rcases q with q | q
    · exact hin (Or.inl q)
    · omega
  exact W.bald (v := v) hexec hb h1 h2 h3 hin' (by rw [h6 _ hlt, hv]) rfl rfl hdg kk
theorem gz_alen (fx : gFx X p s m args meth c cc nL own) (hw : gHw X τ G H locs) {t N : Nat} {f : Nat → Value} (hT : va_T .byte t N f (gFree X) X.2.2 X.2.2.heap) (hdg : decode cc pc = .ok (.arraylength, 1)) (kk : W p l e R s m args below meth c H locs cells slots Q (F0 m (pc + 1) ls (.int (nI N) :: rest))) : W p l e R s m args below meth c H locs cells slots Q (F0 m pc ls (.ref t :: rest)) := by
  obtain ⟨hexec, hb, hml, hown, hts, hK, hA, -⟩ := fx
  obtain ⟨cell, h1, h2, h3, h4, h5, h6, h7⟩ := (va_T.moved hA.alike hT).kept (gOld hw)
  exact W.alen (n := Int32.ofNat N) hexec hb h1 h2 h5 rfl rfl hdg kk
theorem g_nret (fx : gFx X p s m args meth c cc nL own) (hw : gHw X τ G H locs) {ty : FieldType} (hr : meth.sig.returnType = some ty) {v : Int32} (hn : narrow ty (.int v) = .int v) (hdg : decode cc pc = .ok (.ireturn, 1)) : W p l e R s m args below meth c H locs cells slots (MQ below (gQ X τ (some (.int v)) G) args s cells slots (gFree X)) (F0 m pc ls [.int v]) :=
  W.zret fx.1 fx.2.1 hr hn (fun t ht hW => ⟨rfl, gOK_end fx hw ht hW⟩) hw.2 hdg fx.2.2.2.2.2.2.2
/-- a call upon a text -/
theorem g_callT0 {idx n mL : Nat} {C : String} {y : MethodName} {b : ByteArray} {ret : Option FieldType} {rm : Room} {As : List Value} {a : Nat} {v : Option Value} {G' : gG} (fx : gFx X p s m args meth c cc nL own) (hw : gHw X τ G H locs) (hM : gM l X τ y b mL ret rm (.ref a :: As) G v G') (lk : gLv own idx C y b mL ret n) (h0 : rm.cells = 0 ∧ rm.slots = 0) (hO : va_O C a (gFree X) X.2.2 X.2.2.heap) (hn : As.length = n) (hls : ls.size = nL) {st0 : List Value} (hst : st0 = As.reverse ++ .ref a :: rest) (hrm : rm.frames + 1 ≤ R.frames ∧ 8 + (mL + 11) + rm.locals ≤ R.locals) (hrest : (rest.map fun v => v.category).sum ≤ 8) (hf : cells ≤ R.cells ∧ slots ≤ R.slots) (hdg : decode cc pc = .ok (.invokevirtual idx, 3))
    (kk : ∀ (H1 : Heap) (locs1 : List Loc), gHw X τ G' H1 locs1 → W p l e R s m args below meth c H1 locs1 cells slots Q (F0 m (pc + 3) ls (v.toList ++ rest))) : W p l e R s m args below meth c H locs cells slots Q (F0 m pc ls st0) := by
  subst hst
  obtain ⟨hexec, hb, hml, hown, hts, hK, hA, hlk⟩ := id fx
  obtain ⟨cell, q1, q2, q3, -⟩ := (va_O.moved hA.alike hO).kept (gOld hw)
  exact g_ofRun fx hw (va_runV (As := As) (rest := rest) (Ts := wA) (own := own) ⟨hexec, hb, hml, hown, hts⟩ hM (cwV n hts lk.1 rfl rfl rfl lk.2 hrm) ⟨gPre_blind _, ⟨cell, q1, q2, q3⟩, fun U hU hW => ⟨rfl, va_K.moved hW.alike hK, State.WarmedH.trans hA hW, by rw [hU]; exact hw.1⟩⟩ rfl hn hls rfl (lv_room hrest) hdg (by rw [h0.1, h0.2]; exact hf)) (by rw [h0.1, h0.2]; exact kk)
end GT
def rm_s0 : Room := { frames := 0, cells := 0, slots := 0, locals := 0 }
def rm_s1 : Room := { frames := 1, cells := 0, slots := 0, locals := 40 }
def rm_s2 : Room := { frames := 2, cells := 0, slots := 0, locals := 80 }
def rm_s3 : Room := { frames := 3, cells := 0, slots := 0, locals := 120 }
theorem c_coder (l : Launch) (X : gX) (τ : gτ) (hS : gS0 l X) {w : Nat} {bs : List Int32} (hw1 : gStr X w bs) (G : gG) : gM l X τ yJ0_coder_7d493 cJ0_coder_7d493 1 (some .byte) rm_s0 [.ref w] G (some (.int 0)) G := by
  refine g_body (by decide +kernel) (Nat.le_of_ble_eq_true rfl) ?_
  intro p e s m args below meth c ls fx hr hw hl
  have fx : gFx X p s m args meth c cJ0_coder_7d493 1 RJ0 := fx
  have hl : lv_has ls 1 [(0, .ref w)] := hl
  show W p l e rm_s0 s m args below meth c s.heap [] 0 0 (MQ below (gQ X τ (some (.int 0)) G) args s 0 0 (gFree X)) _
  refine gz_gets fx hw hS.2.2.1 fl_RJ0_38 dJ0_coder_7d493_0 ?_
  refine lv_if_eq (tgt := 13) fx.1 fx.2.1 dJ0_coder_7d493_3 (by decide) (fun h => absurd h (by decide)) (fun _ => ?_)
  refine lv_aload_n fx.1 fx.2.1 dJ0_coder_7d493_6 rfl (lv_at hl 0 rfl) ?_
  refine gz_getf fx hw hw1.2.1 fl_RJ0_15 dJ0_coder_7d493_7 ?_
  refine lv_goto (tgt := 14) fx.1 fx.2.1 dJ0_coder_7d493_10 (by decide) ?_
  exact g_nret fx hw hr rfl dJ0_coder_7d493_14
theorem c_isLatin1 (l : Launch) (X : gX) (τ : gτ) (hS : gS0 l X) {w : Nat} {bs : List Int32} (hw1 : gStr X w bs) (G : gG) : gM l X τ yJ0_isLatin1_aae02 cJ0_isLatin1_aae02 1 (some .boolean) rm_s0 [.ref w] G (some (.int 1)) G := by
  refine g_body (by decide +kernel) (Nat.le_of_ble_eq_true rfl) ?_
  intro p e s m args below meth c ls fx hr hw hl
  have fx : gFx X p s m args meth c cJ0_isLatin1_aae02 1 RJ0 := fx
  have hl : lv_has ls 1 [(0, .ref w)] := hl
  show W p l e rm_s0 s m args below meth c s.heap [] 0 0 (MQ below (gQ X τ (some (.int 1)) G) args s 0 0 (gFree X)) _
  refine gz_gets fx hw hS.2.2.1 fl_RJ0_38 dJ0_isLatin1_aae02_0 ?_
  refine lv_if_eq (tgt := 17) fx.1 fx.2.1 dJ0_isLatin1_aae02_3 (by decide) (fun h => absurd h (by decide)) (fun _ => ?_)
  refine lv_aload_n fx.1 fx.2.1 dJ0_isLatin1_aae02_6 rfl (lv_at hl 0 rfl) ?_
  refine gz_getf fx hw hw1.2.1 fl_RJ0_15 dJ0_isLatin1_aae02_7 ?_
  refine lv_if_ne (tgt := 17) fx.1 fx.2.1 dJ0_isLatin1_aae02_10 (by decide) (fun h => absurd rfl h) (fun _ => ?_)
  refine lv_iconst (v := 1) fx.1 fx.2.1 dJ0_isLatin1_aae02_13 (by decide) ?_
  refine lv_goto (tgt := 18) fx.1 fx.2.1 dJ0_isLatin1_aae02_14 (by decide) ?_
  exact g_zret fx hw hr (by decide) dJ0_isLatin1_aae02_18
theorem c_preCheck (l : Launch) (X : gX) (τ : gτ) {i n : Int32} (h0 : ¬ i < 0) (h1 : i < n) (r : Option Nat) (G : gG) : gM l X τ yJ3_checkIndex_8e157 cJ3_checkIndex_8e157 3 (some .int) rm_s0 [.int i, .int n, va_rf r] G (some (.int i)) G := by
  have key : ∀ v : Value, v.category = 1 → gM l X τ yJ3_checkIndex_8e157 cJ3_checkIndex_8e157 3 (some .int) rm_s0 [.int i, .int n, v] G (some (.int i)) G := by
    intro v hv
    refine g_body (by decide +kernel) (by
      have h2 : (Value.int i).category = 1 := rfl
      have h3 : (Value.int n).category = 1 := rfl
      simp [lg_sl, hv, h2, h3]) ?_
    intro p e s m args below meth c ls fx hr hw hl
    have fx : gFx X p s m args meth c cJ3_checkIndex_8e157 3 RJ3 := fx
    have hl : lv_has ls 3 [(0, .int i), (1, .int n)] := lv_sub hl [0, 1] rfl
    show W p l e rm_s0 s m args below meth c s.heap [] 0 0 (MQ below (gQ X τ (some (.int i)) G) args s 0 0 (gFree X)) _
    refine lv_iload_n fx.1 fx.2.1 dJ3_checkIndex_8e157_0 rfl (lv_at hl 0 rfl) ?_
    refine lv_if_lt (tgt := 9) fx.1 fx.2.1 dJ3_checkIndex_8e157_1 (by decide) (fun h => absurd h h0) (fun _ => ?_)
    refine lv_iload_n fx.1 fx.2.1 dJ3_checkIndex_8e157_4 rfl (lv_at hl 0 rfl) ?_
    refine lv_iload_n fx.1 fx.2.1 dJ3_checkIndex_8e157_5 rfl (lv_at hl 1 rfl) ?_
    refine lv_icmp_lt (tgt := 16) fx.1 fx.2.1 dJ3_checkIndex_8e157_6 (by decide) (fun _ => ?_) (fun h => absurd h1 h)
    refine lv_iload_n fx.1 fx.2.1 dJ3_checkIndex_8e157_16 rfl (lv_at hl 0 rfl) ?_
    exact g_iret fx hw hr dJ3_checkIndex_8e157_17
  cases r with
  | none => exact key .null rfl
  | some t => exact key (.ref t) rfl
theorem c_sCheck (l : Launch) (X : gX) (τ : gτ) (hS : gS0 l X) {i n : Int32} (h0 : ¬ i < 0) (h1 : i < n) (G : gG) : gM l X τ yJ0_checkIndex_df160 cJ0_checkIndex_df160 2 none rm_s1 [.int i, .int n] G none G := by
  refine g_body (by decide +kernel) (Nat.le_of_ble_eq_true rfl) ?_
  intro p e s m args below meth c ls fx hr hw hl
  have fx : gFx X p s m args meth c cJ0_checkIndex_df160 2 RJ0 := fx
  have hl : lv_has ls 2 [(0, .int i), (1, .int n)] := hl
  show W p l e rm_s1 s m args below meth c s.heap [] 0 0 (MQ below (gQ X τ none G) args s 0 0 (gFree X)) _
  refine lv_iload_n fx.1 fx.2.1 dJ0_checkIndex_df160_0 rfl (lv_at hl 0 rfl) ?_
  refine lv_iload_n fx.1 fx.2.1 dJ0_checkIndex_df160_1 rfl (lv_at hl 1 rfl) ?_
  obtain ⟨r, hZ⟩ : ∃ r : Option Nat, va_Z "jdk/internal/util/Preconditions" "SIOOBE_FORMATTER" "Ljava/util/function/BiFunction;" (va_rf r) (gFree X) X.2.2 X.2.2.heap := by
    rcases hS.2.2.2.1 with h | ⟨t, h⟩
    · exact ⟨none, h⟩
    · exact ⟨some t, h⟩
  refine gz_gets fx hw hZ fl_RJ0_1053 dJ0_checkIndex_df160_2 ?_
  refine g_callS0 (As := [.int i, .int n, va_rf r]) (rest := []) fx hw (c_preCheck l X τ h0 h1 r G) ls_RJ0_1059 ⟨rfl, rfl⟩ rfl hl.1 rfl ⟨Nat.le_of_ble_eq_true rfl, Nat.le_of_ble_eq_true rfl⟩ (Nat.le_of_ble_eq_true rfl) ⟨Nat.le_of_ble_eq_true rfl, Nat.le_of_ble_eq_true rfl⟩ dJ0_checkIndex_df160_5 (fun H locs hw => ?_)
  refine lv_pop fx.1 fx.2.1 dJ0_checkIndex_df160_8 rfl ?_
  exact g_vret fx hw hr dJ0_checkIndex_df160_9
/-- the char at i -/
def gch (bs : List Int32) (i : Int32) : Int32 := (Int32.toUInt32 (bs.getD i.toNatClampNeg 0 &&& 255) % 65536).toInt32
theorem gIn_lt {i : Int32} {n : Nat} (h : gIn i n) (hn : n < 2 ^ 31) : ¬ i < 0 ∧ i < nI n := by
  obtain ⟨j, hj, rfl⟩ := vp_in_of h hn
  exact ⟨fun q => h (Or.inl q), nI_lt hj hn⟩
theorem c_l1CharAt (l : Launch) (X : gX) (τ : gτ) (hS : gS0 l X) {v : Nat} {bs : List Int32} (hT : va_T .byte v bs.length (fun j => .int (bs.getD j 0)) (gFree X) X.2.2 X.2.2.heap) (hbs : bs.length < 2 ^ 31) {i : Int32} (hi : gIn i bs.length) (G : gG) : gM l X τ yJ1_charAt_3b067 cJ1_charAt_3b067 2 (some .char) rm_s2 [.ref v, .int i] G (some (.int (gch bs i))) G := by
  refine g_body (by decide +kernel) (Nat.le_of_ble_eq_true rfl) ?_
  intro p e s m args below meth c ls fx hr hw hl
  have fx : gFx X p s m args meth c cJ1_charAt_3b067 2 RJ1 := fx
  have hl : lv_has ls 2 [(0, .ref v), (1, .int i)] := hl
  show W p l e rm_s2 s m args below meth c s.heap [] 0 0 (MQ below (gQ X τ (some (.int (gch bs i))) G) args s 0 0 (gFree X)) _
  refine lv_iload_n fx.1 fx.2.1 dJ1_charAt_3b067_0 rfl (lv_at hl 1 rfl) ?_
  refine lv_aload_n fx.1 fx.2.1 dJ1_charAt_3b067_1 rfl (lv_at hl 0 rfl) ?_
  refine gz_alen fx hw hT dJ1_charAt_3b067_2 ?_
  refine g_callS0 (As := [.int i, .int (nI bs.length)]) (rest := []) fx hw (c_sCheck l X τ hS (gIn_lt hi hbs).1 (gIn_lt hi hbs).2 G) ls_RJ1_9 ⟨rfl, rfl⟩ rfl hl.1 rfl ⟨Nat.le_of_ble_eq_true rfl, Nat.le_of_ble_eq_true rfl⟩ (Nat.le_of_ble_eq_true rfl) ⟨Nat.le_of_ble_eq_true rfl, Nat.le_of_ble_eq_true rfl⟩ dJ1_charAt_3b067_3 (fun H locs hw => ?_)
  refine lv_aload_n fx.1 fx.2.1 dJ1_charAt_3b067_6 rfl (lv_at hl 0 rfl) ?_
  refine lv_iload_n fx.1 fx.2.1 dJ1_charAt_3b067_7 rfl (lv_at hl 1 rfl) ?_
  refine gz_bald fx hw hT hi rfl dJ1_charAt_3b067_8 ?_
  refine lv_sipush (v := 255) fx.1 fx.2.1 dJ1_charAt_3b067_9 (by decide) ?_
  refine lv_iand fx.1 fx.2.1 dJ1_charAt_3b067_12 ?_
  refine lv_i2c (v := gch bs i) fx.1 fx.2.1 dJ1_charAt_3b067_13 rfl ?_
  exact g_nret fx hw hr (pk_nc _) dJ1_charAt_3b067_14
theorem c_charAt (l : Launch) (X : gX) (τ : gτ) (hS : gS0 l X) {w : Nat} {bs : List Int32} (hw1 : gStr X w bs) {i : Int32} (hi : gIn i bs.length) (G : gG) : gM l X τ yJ0_charAt_5068e cJ0_charAt_5068e 2 (some .char) rm_s3 [.ref w, .int i] G (some (.int (gch bs i))) G := by
  refine g_body (by decide +kernel) (Nat.le_of_ble_eq_true rfl) ?_
  intro p e s m args below meth c ls fx hr hw hl
  have fx : gFx X p s m args meth c cJ0_charAt_5068e 2 RJ0 := fx
  have hl : lv_has ls 2 [(0, .ref w), (1, .int i)] := hl
  show W p l e rm_s3 s m args below meth c s.heap [] 0 0 (MQ below (gQ X τ (some (.int (gch bs i))) G) args s 0 0 (gFree X)) _
  obtain ⟨hO, -, hbs, v, hV, hT⟩ := id hw1
  refine lv_aload_n fx.1 fx.2.1 dJ0_charAt_5068e_0 rfl (lv_at hl 0 rfl) ?_
  refine g_callT0 (As := []) (rest := []) fx hw (c_isLatin1 l X τ hS hw1 G) lv_RJ0_492 ⟨rfl, rfl⟩ hO rfl hl.1 rfl ⟨Nat.le_of_ble_eq_true rfl, Nat.le_of_ble_eq_true rfl⟩ (Nat.le_of_ble_eq_true rfl) ⟨Nat.le_of_ble_eq_true rfl, Nat.le_of_ble_eq_true rfl⟩ dJ0_charAt_5068e_1 (fun H locs hw => ?_)
  refine lv_if_eq (tgt := 16) fx.1 fx.2.1 dJ0_charAt_5068e_4 (by decide) (fun h => absurd h (by decide)) (fun _ => ?_)
  refine lv_aload_n fx.1 fx.2.1 dJ0_charAt_5068e_7 rfl (lv_at hl 0 rfl) ?_
  refine gz_getf fx hw hV fl_RJ0_9 dJ0_charAt_5068e_8 ?_
  refine lv_iload_n fx.1 fx.2.1 dJ0_charAt_5068e_11 rfl (lv_at hl 1 rfl) ?_
  refine g_callS0 (As := [.ref v, .int i]) (rest := []) fx hw (c_l1CharAt l X τ hS hT hbs hi G) ls_RJ0_495 ⟨rfl, rfl⟩ rfl hl.1 rfl ⟨Nat.le_of_ble_eq_true rfl, Nat.le_of_ble_eq_true rfl⟩ (Nat.le_of_ble_eq_true rfl) ⟨Nat.le_of_ble_eq_true rfl, Nat.le_of_ble_eq_true rfl⟩ dJ0_charAt_5068e_12 (fun H locs hw => ?_)
  exact g_nret fx hw hr (pk_nc _) dJ0_charAt_5068e_15
theorem gsh0 (x : Int32) : x >>> ((0 : Int32) &&& 31) = x := by
  rw [show ((0 : Int32) &&& 31) = 0 from rfl]
  simp
theorem c_strLen (l : Launch) (X : gX) (τ : gτ) (hS : gS0 l X) {w : Nat} {bs : List Int32} (hw1 : gStr X w bs) (G : gG) : gM l X τ yJ0_length_8abf5 cJ0_length_8abf5 1 (some .int) rm_s1 [.ref w] G (some (.int (nI bs.length))) G := by
  refine g_body (by decide +kernel) (Nat.le_of_ble_eq_true rfl) ?_
  intro p e s m args below meth c ls fx hr hw hl
  have fx : gFx X p s m args meth c cJ0_length_8abf5 1 RJ0 := fx
  have hl : lv_has ls 1 [(0, .ref w)] := hl
  show W p l e rm_s1 s m args below meth c s.heap [] 0 0 (MQ below (gQ X τ (some (.int (nI bs.length))) G) args s 0 0 (gFree X)) _
  obtain ⟨hO, -, hbs, v, hV, hT⟩ := id hw1
  refine lv_aload_n fx.1 fx.2.1 dJ0_length_8abf5_0 rfl (lv_at hl 0 rfl) ?_
  refine gz_getf fx hw hV fl_RJ0_9 dJ0_length_8abf5_1 ?_
  refine gz_alen fx hw hT dJ0_length_8abf5_4 ?_
  refine lv_aload_n fx.1 fx.2.1 dJ0_length_8abf5_5 rfl (lv_at hl 0 rfl) ?_
  refine g_callT0 (As := []) (rest := [.int (nI bs.length)]) fx hw (c_coder l X τ hS hw1 G) lv_RJ0_335 ⟨rfl, rfl⟩ hO rfl hl.1 rfl ⟨Nat.le_of_ble_eq_true rfl, Nat.le_of_ble_eq_true rfl⟩ (Nat.le_of_ble_eq_true rfl) ⟨Nat.le_of_ble_eq_true rfl, Nat.le_of_ble_eq_true rfl⟩ dJ0_length_8abf5_6 (fun H locs hw => ?_)
  refine lv_ishr fx.1 fx.2.1 dJ0_length_8abf5_9 ?_
  rw [gsh0]
  exact g_iret fx hw hr dJ0_length_8abf5_10
