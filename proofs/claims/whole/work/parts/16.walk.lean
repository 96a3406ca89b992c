theorem dX12_walks_0 : decode cX12_walks 0 = .ok (.aload_n 0, 1) := by decide +kernel
theorem dX12_walks_1 : decode cX12_walks 1 = .ok (.iconst 0, 1) := by decide +kernel
theorem dX12_walks_2 : decode cX12_walks 2 = .ok (.putfield 71, 3) := by decide +kernel
theorem dX12_walks_5 : decode cX12_walks 5 = .ok (.aload_n 0, 1) := by decide +kernel
theorem dX12_walks_6 : decode cX12_walks 6 = .ok (.iload_n 1, 1) := by decide +kernel
theorem dX12_walks_7 : decode cX12_walks 7 = .ok (.invokevirtual 379, 3) := by decide +kernel
theorem dX12_walks_10 : decode cX12_walks 10 = .ok (.ifCond .ne 9, 3) := by decide +kernel
theorem dX12_walks_13 : decode cX12_walks 13 = .ok (.aload_n 0, 1) := by decide +kernel
theorem dX12_walks_14 : decode cX12_walks 14 = .ok (.iconst 1, 1) := by decide +kernel
theorem dX12_walks_15 : decode cX12_walks 15 = .ok (.invokevirtual 77, 3) := by decide +kernel
theorem dX12_walks_18 : decode cX12_walks 18 = .ok (.ireturn, 1) := by decide +kernel
theorem dX12_walks_19 : decode cX12_walks 19 = .ok (.aload_n 0, 1) := by decide +kernel
theorem dX12_walks_20 : decode cX12_walks 20 = .ok (.iload_n 1, 1) := by decide +kernel
theorem dX12_walks_21 : decode cX12_walks 21 = .ok (.invokevirtual 486, 3) := by decide +kernel
theorem dX12_walks_24 : decode cX12_walks 24 = .ok (.ifCond .eq 10, 3) := by decide +kernel
theorem dX12_walks_27 : decode cX12_walks 27 = .ok (.aload_n 0, 1) := by decide +kernel
theorem dX12_walks_28 : decode cX12_walks 28 = .ok (.bipush (-2), 2) := by decide +kernel
theorem dX12_walks_30 : decode cX12_walks 30 = .ok (.invokevirtual 81, 3) := by decide +kernel
theorem dX12_walks_33 : decode cX12_walks 33 = .ok (.ireturn, 1) := by decide +kernel
theorem dX12_walks_34 : decode cX12_walks 34 = .ok (.iconst 0, 1) := by decide +kernel
theorem dX12_walks_35 : decode cX12_walks 35 = .ok (.istore_n 2, 1) := by decide +kernel
theorem dX12_walks_36 : decode cX12_walks 36 = .ok (.iload_n 2, 1) := by decide +kernel
theorem dX12_walks_37 : decode cX12_walks 37 = .ok (.bipush 10, 2) := by decide +kernel
theorem dX12_walks_39 : decode cX12_walks 39 = .ok (.if_icmp .ge 16, 3) := by decide +kernel
theorem dX12_walks_42 : decode cX12_walks 42 = .ok (.aload_n 0, 1) := by decide +kernel
theorem dX12_walks_43 : decode cX12_walks 43 = .ok (.getfield 65, 3) := by decide +kernel
theorem dX12_walks_46 : decode cX12_walks 46 = .ok (.iload_n 2, 1) := by decide +kernel
theorem dX12_walks_47 : decode cX12_walks 47 = .ok (.iconst 0, 1) := by decide +kernel
theorem dX12_walks_48 : decode cX12_walks 48 = .ok (.iastore, 1) := by decide +kernel
theorem dX12_walks_49 : decode cX12_walks 49 = .ok (.iinc 2 1, 3) := by decide +kernel
theorem dX12_walks_52 : decode cX12_walks 52 = .ok (.goto (-16), 3) := by decide +kernel
theorem dX12_walks_55 : decode cX12_walks 55 = .ok (.iconst 0, 1) := by decide +kernel
theorem dX12_walks_56 : decode cX12_walks 56 = .ok (.istore_n 2, 1) := by decide +kernel
theorem dX12_walks_57 : decode cX12_walks 57 = .ok (.aload_n 0, 1) := by decide +kernel
theorem dX12_walks_58 : decode cX12_walks 58 = .ok (.iload_n 1, 1) := by decide +kernel
theorem dX12_walks_59 : decode cX12_walks 59 = .ok (.invokevirtual 498, 3) := by decide +kernel
theorem dX12_walks_62 : decode cX12_walks 62 = .ok (.ifCond .eq 9, 3) := by decide +kernel
theorem dX12_walks_65 : decode cX12_walks 65 = .ok (.iinc 2 1, 3) := by decide +kernel
theorem dX12_walks_68 : decode cX12_walks 68 = .ok (.goto (-11), 3) := by decide +kernel
theorem dX12_walks_71 : decode cX12_walks 71 = .ok (.aload_n 0, 1) := by decide +kernel
theorem dX12_walks_72 : decode cX12_walks 72 = .ok (.iload_n 2, 1) := by decide +kernel
theorem dX12_walks_73 : decode cX12_walks 73 = .ok (.invokevirtual 81, 3) := by decide +kernel
theorem dX12_walks_76 : decode cX12_walks 76 = .ok (.ireturn, 1) := by decide +kernel
theorem dX12_led_0 : decode cX12_led 0 = .ok (.aload_n 0, 1) := by decide +kernel
theorem dX12_led_1 : decode cX12_led 1 = .ok (.iconst 0, 1) := by decide +kernel
theorem dX12_led_2 : decode cX12_led 2 = .ok (.putfield 71, 3) := by decide +kernel
theorem dX12_led_5 : decode cX12_led 5 = .ok (.iconst 0, 1) := by decide +kernel
theorem dX12_led_6 : decode cX12_led 6 = .ok (.istore_n 2, 1) := by decide +kernel
theorem dX12_led_7 : decode cX12_led 7 = .ok (.iconst 0, 1) := by decide +kernel
theorem dX12_led_8 : decode cX12_led 8 = .ok (.istore_n 3, 1) := by decide +kernel
theorem dX12_led_9 : decode cX12_led 9 = .ok (.aload_n 0, 1) := by decide +kernel
theorem dX12_led_10 : decode cX12_led 10 = .ok (.getfield 358, 3) := by decide +kernel
theorem dX12_led_13 : decode cX12_led 13 = .ok (.ifnull 53, 3) := by decide +kernel
theorem dX12_led_16 : decode cX12_led 16 = .ok (.iload_n 3, 1) := by decide +kernel
theorem dX12_led_17 : decode cX12_led 17 = .ok (.aload_n 0, 1) := by decide +kernel
theorem dX12_led_18 : decode cX12_led 18 = .ok (.getfield 358, 3) := by decide +kernel
theorem dX12_led_21 : decode cX12_led 21 = .ok (.getfield 247, 3) := by decide +kernel
theorem dX12_led_24 : decode cX12_led 24 = .ok (.if_icmp .ge 42, 3) := by decide +kernel
theorem dX12_led_27 : decode cX12_led 27 = .ok (.aload_n 0, 1) := by decide +kernel
theorem dX12_led_28 : decode cX12_led 28 = .ok (.getfield 36, 3) := by decide +kernel
theorem dX12_led_31 : decode cX12_led 31 = .ok (.iconst 0, 1) := by decide +kernel
theorem dX12_led_32 : decode cX12_led 32 = .ok (.iload_n 3, 1) := by decide +kernel
theorem dX12_led_33 : decode cX12_led 33 = .ok (.iadd, 1) := by decide +kernel
theorem dX12_led_34 : decode cX12_led 34 = .ok (.iaload, 1) := by decide +kernel
theorem dX12_led_35 : decode cX12_led 35 = .ok (.aload_n 0, 1) := by decide +kernel
theorem dX12_led_36 : decode cX12_led 36 = .ok (.getfield 358, 3) := by decide +kernel
theorem dX12_led_39 : decode cX12_led 39 = .ok (.getfield 342, 3) := by decide +kernel
theorem dX12_led_42 : decode cX12_led 42 = .ok (.iload_n 3, 1) := by decide +kernel
theorem dX12_led_43 : decode cX12_led 43 = .ok (.iaload, 1) := by decide +kernel
theorem dX12_led_44 : decode cX12_led 44 = .ok (.if_icmp .ne 6, 3) := by decide +kernel
theorem dX12_led_47 : decode cX12_led 47 = .ok (.goto 13, 3) := by decide +kernel
theorem dX12_led_50 : decode cX12_led 50 = .ok (.iload_n 2, 1) := by decide +kernel
theorem dX12_led_51 : decode cX12_led 51 = .ok (.iload_n 1, 1) := by decide +kernel
theorem dX12_led_52 : decode cX12_led 52 = .ok (.if_icmp .ne 5, 3) := by decide +kernel
theorem dX12_led_55 : decode cX12_led 55 = .ok (.iload_n 3, 1) := by decide +kernel
theorem dX12_led_56 : decode cX12_led 56 = .ok (.ireturn, 1) := by decide +kernel
theorem dX12_led_57 : decode cX12_led 57 = .ok (.iinc 2 1, 3) := by decide +kernel
theorem dX12_led_60 : decode cX12_led 60 = .ok (.iinc 3 1, 3) := by decide +kernel
theorem dX12_led_63 : decode cX12_led 63 = .ok (.goto (-54), 3) := by decide +kernel
theorem dX12_led_66 : decode cX12_led 66 = .ok (.aload_n 0, 1) := by decide +kernel
theorem dX12_led_67 : decode cX12_led 67 = .ok (.iconst 1, 1) := by decide +kernel
theorem dX12_led_68 : decode cX12_led 68 = .ok (.putfield 71, 3) := by decide +kernel
theorem dX12_led_71 : decode cX12_led 71 = .ok (.iconst 0, 1) := by decide +kernel
theorem dX12_led_72 : decode cX12_led 72 = .ok (.ireturn, 1) := by decide +kernel
theorem dX12_size_0 : decode cX12_size 0 = .ok (.aload_n 0, 1) := by decide +kernel
theorem dX12_size_1 : decode cX12_size 1 = .ok (.iconst 0, 1) := by decide +kernel
theorem dX12_size_2 : decode cX12_size 2 = .ok (.putfield 71, 3) := by decide +kernel
theorem dX12_size_5 : decode cX12_size 5 = .ok (.iload_n 1, 1) := by decide +kernel
theorem dX12_size_6 : decode cX12_size 6 = .ok (.bipush 11, 2) := by decide +kernel
theorem dX12_size_8 : decode cX12_size 8 = .ok (.if_icmp .ne 8, 3) := by decide +kernel
theorem dX12_size_11 : decode cX12_size 11 = .ok (.aload_n 0, 1) := by decide +kernel
theorem dX12_size_12 : decode cX12_size 12 = .ok (.getfield 351, 3) := by decide +kernel
theorem dX12_size_15 : decode cX12_size 15 = .ok (.ireturn, 1) := by decide +kernel
theorem dX12_size_16 : decode cX12_size 16 = .ok (.iload_n 1, 1) := by decide +kernel
theorem dX12_size_17 : decode cX12_size 17 = .ok (.iconst 0, 1) := by decide +kernel
theorem dX12_size_18 : decode cX12_size 18 = .ok (.bipush 10, 2) := by decide +kernel
theorem dX12_size_20 : decode cX12_size 20 = .ok (.invokestatic 149, 3) := by decide +kernel
theorem dX12_size_23 : decode cX12_size 23 = .ok (.ifCond .ne 5, 3) := by decide +kernel
theorem dX12_size_26 : decode cX12_size 26 = .ok (.iconst (-1), 1) := by decide +kernel
theorem dX12_size_27 : decode cX12_size 27 = .ok (.ireturn, 1) := by decide +kernel
theorem dX12_size_28 : decode cX12_size 28 = .ok (.aload_n 0, 1) := by decide +kernel
theorem dX12_size_29 : decode cX12_size 29 = .ok (.getfield 358, 3) := by decide +kernel
theorem dX12_size_32 : decode cX12_size 32 = .ok (.ifnonnull 5, 3) := by decide +kernel
theorem dX12_size_37 : decode cX12_size 37 = .ok (.iload_n 1, 1) := by decide +kernel
theorem dX12_size_38 : decode cX12_size 38 = .ok (.tableswitch 128 0 9 #[54, 62, 70, 78, 86, 94, 102, 110, 118, 123], 54) := by decide +kernel
theorem dX12_size_92 : decode cX12_size 92 = .ok (.aload_n 0, 1) := by decide +kernel
theorem dX12_size_93 : decode cX12_size 93 = .ok (.getfield 358, 3) := by decide +kernel
theorem dX12_size_96 : decode cX12_size 96 = .ok (.getfield 244, 3) := by decide +kernel
theorem dX12_size_99 : decode cX12_size 99 = .ok (.ireturn, 1) := by decide +kernel
theorem dX12_size_100 : decode cX12_size 100 = .ok (.aload_n 0, 1) := by decide +kernel
theorem dX12_size_101 : decode cX12_size 101 = .ok (.getfield 358, 3) := by decide +kernel
theorem dX12_size_104 : decode cX12_size 104 = .ok (.getfield 292, 3) := by decide +kernel
theorem dX12_size_107 : decode cX12_size 107 = .ok (.ireturn, 1) := by decide +kernel
theorem dX12_size_108 : decode cX12_size 108 = .ok (.aload_n 0, 1) := by decide +kernel
theorem dX12_size_109 : decode cX12_size 109 = .ok (.getfield 358, 3) := by decide +kernel
theorem dX12_size_112 : decode cX12_size 112 = .ok (.getfield 315, 3) := by decide +kernel
theorem dX12_size_115 : decode cX12_size 115 = .ok (.ireturn, 1) := by decide +kernel
theorem dX12_size_116 : decode cX12_size 116 = .ok (.aload_n 0, 1) := by decide +kernel
theorem dX12_size_117 : decode cX12_size 117 = .ok (.getfield 358, 3) := by decide +kernel
theorem dX12_size_120 : decode cX12_size 120 = .ok (.getfield 325, 3) := by decide +kernel
theorem dX12_size_123 : decode cX12_size 123 = .ok (.ireturn, 1) := by decide +kernel
theorem dX12_size_124 : decode cX12_size 124 = .ok (.aload_n 0, 1) := by decide +kernel
theorem dX12_size_125 : decode cX12_size 125 = .ok (.getfield 358, 3) := by decide +kernel
theorem dX12_size_128 : decode cX12_size 128 = .ok (.getfield 247, 3) := by decide +kernel
theorem dX12_size_131 : decode cX12_size 131 = .ok (.ireturn, 1) := by decide +kernel
theorem dX12_size_132 : decode cX12_size 132 = .ok (.aload_n 0, 1) := by decide +kernel
theorem dX12_size_133 : decode cX12_size 133 = .ok (.getfield 358, 3) := by decide +kernel
theorem dX12_size_136 : decode cX12_size 136 = .ok (.getfield 346, 3) := by decide +kernel
theorem dX12_size_139 : decode cX12_size 139 = .ok (.ireturn, 1) := by decide +kernel
theorem dX12_size_140 : decode cX12_size 140 = .ok (.aload_n 0, 1) := by decide +kernel
theorem dX12_size_141 : decode cX12_size 141 = .ok (.getfield 358, 3) := by decide +kernel
theorem dX12_size_144 : decode cX12_size 144 = .ok (.getfield 241, 3) := by decide +kernel
theorem dX12_size_147 : decode cX12_size 147 = .ok (.ireturn, 1) := by decide +kernel
theorem dX12_size_148 : decode cX12_size 148 = .ok (.aload_n 0, 1) := by decide +kernel
theorem dX12_size_149 : decode cX12_size 149 = .ok (.getfield 36, 3) := by decide +kernel
theorem dX12_size_152 : decode cX12_size 152 = .ok (.bipush 49, 2) := by decide +kernel
theorem dX12_size_154 : decode cX12_size 154 = .ok (.iaload, 1) := by decide +kernel
theorem dX12_size_155 : decode cX12_size 155 = .ok (.ireturn, 1) := by decide +kernel
theorem dX12_size_156 : decode cX12_size 156 = .ok (.aload_n 0, 1) := by decide +kernel
theorem dX12_size_157 : decode cX12_size 157 = .ok (.getfield 360, 3) := by decide +kernel
theorem dX12_size_160 : decode cX12_size 160 = .ok (.ireturn, 1) := by decide +kernel
theorem dX12_size_161 : decode cX12_size 161 = .ok (.aload_n 0, 1) := by decide +kernel
theorem dX12_size_162 : decode cX12_size 162 = .ok (.getfield 363, 3) := by decide +kernel
theorem dX12_size_165 : decode cX12_size 165 = .ok (.ireturn, 1) := by decide +kernel
theorem dX12_size_166 : decode cX12_size 166 = .ok (.aload_n 0, 1) := by decide +kernel
theorem dX12_size_167 : decode cX12_size 167 = .ok (.getfield 36, 3) := by decide +kernel
theorem dX12_size_170 : decode cX12_size 170 = .ok (.bipush 50, 2) := by decide +kernel
theorem dX12_size_172 : decode cX12_size 172 = .ok (.iaload, 1) := by decide +kernel
theorem dX12_size_173 : decode cX12_size 173 = .ok (.ireturn, 1) := by decide +kernel
theorem dX12_size_35 : decode cX12_size 35 = .ok (.iconst 0, 1) := by decide +kernel
theorem dX12_size_36 : decode cX12_size 36 = .ok (.ireturn, 1) := by decide +kernel
theorem dX12_trouble_0 : decode cX12_trouble 0 = .ok (.aload_n 0, 1) := by decide +kernel
theorem dX12_trouble_1 : decode cX12_trouble 1 = .ok (.iconst 0, 1) := by decide +kernel
theorem dX12_trouble_2 : decode cX12_trouble 2 = .ok (.putfield 71, 3) := by decide +kernel
theorem dX12_trouble_5 : decode cX12_trouble 5 = .ok (.aload_n 0, 1) := by decide +kernel
theorem dX12_trouble_6 : decode cX12_trouble 6 = .ok (.getfield 74, 3) := by decide +kernel
theorem dX12_trouble_9 : decode cX12_trouble 9 = .ok (.ireturn, 1) := by decide +kernel
def wX12_walks (E : EN) (h h_inn h_tape h_far h_from h_real h_other h_kept h_set h_w h_book h_noteSort h_whose h_what h_noteIs h_fitting h_dawn h_likes h_walked h_came h_inn_creak h_inn_doorA h_inn_doorB h_inn_how h_inn_lies h_inn_isCold h_inn_falls h_inn_isFull h_inn_isTold h_inn_act h_inn_what h_inn_then h_inn_met h_inn_bed h_inn_dream h_inn_listens h_inn_name h_inn_nameSort h_inn_nameNumber : Nat) (v_thrown : Int32) (v_trouble : Int32) (v_where : Int32) (v_read : Option Nat) (v_taped : Int32) (v_size : Int32) (v_at : Int32) (v_sort : Int32) (v_place : Int32) (v_sign : Int32) (v_number : Int32) (v_fault : Int32) (v_wrongAt : Int32) (v_word : Int64) (v_marks : Int32) (v_notes : Int32) (v_inn_minutes : Int32) (v_inn_rooms : Int32) (v_inn_doors : Int32) (v_inn_things : Int32) (v_inn_dreams : Int32) (v_inn_sleepers : Int32) (v_inn_listeners : Int32) (v_inn_names : Int32) (v_inn_bed : Nat → Int32) (v_came : Nat → Int32) (v_inn_doorB : Nat → Int32) (v_walked : Nat → Int32) (v_inn_doorA : Nat → Int32) (v_inn_how : Nat → Int32) : va_W := [(h, .inr (11, [.int v_thrown, .int v_trouble, .int v_where, .ref h_inn, va_rf v_read, .ref h_tape, .int v_taped, .int v_size, .int v_at, .int v_sort, .int v_place, .int v_sign, .int v_number, .int v_fault, .int v_wrongAt, .long v_word, .ref h_far, .ref h_from, .ref h_real, .ref h_other, .ref h_kept, .ref h_set, .ref h_w, .int v_marks, .int v_notes, .ref h_book, .ref h_noteSort, .ref h_whose, .ref h_what, .ref h_noteIs, .ref h_fitting, .ref h_dawn, .ref h_likes, .ref h_walked, .ref h_came])), (h_inn, .inr (10, [.int v_inn_minutes, .int v_inn_rooms, .int v_inn_doors, .int v_inn_things, .int v_inn_dreams, .int v_inn_sleepers, .int v_inn_listeners, .int v_inn_names, .ref h_inn_creak, .ref h_inn_doorA, .ref h_inn_doorB, .ref h_inn_how, .ref h_inn_lies, .ref h_inn_isCold, .ref h_inn_falls, .ref h_inn_isFull, .ref h_inn_isTold, .ref h_inn_act, .ref h_inn_what, .ref h_inn_then, .ref h_inn_met, .ref h_inn_bed, .ref h_inn_dream, .ref h_inn_listens, .ref h_inn_name, .ref h_inn_nameSort, .ref h_inn_nameNumber])), (h_inn_bed, aI E 3 v_inn_bed), (h_came, aI E 8 v_came), (h_inn_doorB, aI E 10 v_inn_doorB), (h_walked, aI E 10 v_walked), (h_inn_doorA, aI E 10 v_inn_doorA), (h_inn_how, aI E 10 v_inn_how)]
def BX12_walks_57 (N : Nat) (p0 : Int32) (v_inn_doors : Int32) (v_inn_sleepers : Int32) (v_inn_doorB : Nat → Int32) (v_inn_doorA : Nat → Int32) (v_inn_how : Nat → Int32) (v_inn_bed : Nat → Int32) (rec57 : (Int32 × (Nat → Int32) × (Nat → Int32)) → Option (Int32 × Int32 × Int32 × Int32 × (Nat → Int32) × (Nat → Int32))) : (Int32 × (Nat → Int32) × (Nat → Int32)) → Option (Int32 × Int32 × Int32 × Int32 × (Nat → Int32) × (Nat → Int32)) := un3 fun (x57_2 : Int32) (x57_came : Nat → Int32) (x57_walked : Nat → Int32) => (fX12_walksMore N p0 v_inn_doors v_inn_sleepers x57_came v_inn_doorB x57_walked v_inn_doorA v_inn_how v_inn_bed).bind (un3 fun (r_59 : Int32) (v_came_59 : Nat → Int32) (v_walked_59 : Nat → Int32) => if r_59 = 0 then ((fX12_good N x57_2).bind (un3 fun (r_73 : Int32) (v_trouble_73 : Int32) (v_where_73 : Int32) => some (r_73, 0, v_trouble_73, v_where_73, v_came_59, v_walked_59))) else (rec57 (x57_2 + 1, v_came_59, v_walked_59)))
def BX12_walks_36 (K55 : ((Nat → Int32)) → Option (Int32 × Int32 × Int32 × Int32 × (Nat → Int32) × (Nat → Int32))) (rec36 : (Int32 × (Nat → Int32)) → Option (Int32 × Int32 × Int32 × Int32 × (Nat → Int32) × (Nat → Int32))) : (Int32 × (Nat → Int32)) → Option (Int32 × Int32 × Int32 × Int32 × (Nat → Int32) × (Nat → Int32)) := un2 fun (x36_2 : Int32) (x36_walked : Nat → Int32) => if 10 ≤ x36_2 then (K55 x36_walked) else (gd x36_2 10 (rec36 (x36_2 + 1, upd x36_walked x36_2.toNatClampNeg 0)))
def fX12_walks (N : Nat) (p0 : Int32) (v_inn_rooms : Int32) (v_inn_doors : Int32) (v_inn_sleepers : Int32) (v_inn_bed : Nat → Int32) (v_came : Nat → Int32) (v_inn_doorB : Nat → Int32) (v_walked : Nat → Int32) (v_inn_doorA : Nat → Int32) (v_inn_how : Nat → Int32) : Option (Int32 × Int32 × Int32 × Int32 × (Nat → Int32) × (Nat → Int32)) := (fX12_isRoom N p0 v_inn_rooms).bind (un1 fun (r_7 : Int32) => if r_7 = 0 then ((fX12_refused N 1).bind (un3 fun (r_15 : Int32) (v_trouble_15 : Int32) (v_where_15 : Int32) => some (r_15, 0, v_trouble_15, v_where_15, v_came, v_walked))) else ((fX12_isBed N p0 v_inn_sleepers v_inn_bed).bind (un1 fun (r_21 : Int32) => if r_21 = 0 then (lp (BX12_walks_36 (un1 fun (x55_walked : Nat → Int32) => lp (BX12_walks_57 N p0 v_inn_doors v_inn_sleepers v_inn_doorB v_inn_doorA v_inn_how v_inn_bed) N (0, v_came, x55_walked))) N (0, v_walked)) else ((fX12_good N (-2)).bind (un3 fun (r_30 : Int32) (v_trouble_30 : Int32) (v_where_30 : Int32) => some (r_30, 0, v_trouble_30, v_where_30, v_came, v_walked))))))
set_option maxHeartbeats 4000000 in
set_option maxRecDepth 100000 in
theorem ctX12_walks (l : Launch) (E : EN) (h h_inn h_tape h_far h_from h_real h_other h_kept h_set h_w h_book h_noteSort h_whose h_what h_noteIs h_fitting h_dawn h_likes h_walked h_came h_inn_creak h_inn_doorA h_inn_doorB h_inn_how h_inn_lies h_inn_isCold h_inn_falls h_inn_isFull h_inn_isTold h_inn_act h_inn_what h_inn_then h_inn_met h_inn_bed h_inn_dream h_inn_listens h_inn_name h_inn_nameSort h_inn_nameNumber : Nat) (v_thrown : Int32) (v_trouble : Int32) (v_where : Int32) (v_read : Option Nat) (v_taped : Int32) (v_size : Int32) (v_at : Int32) (v_sort : Int32) (v_place : Int32) (v_sign : Int32) (v_number : Int32) (v_fault : Int32) (v_wrongAt : Int32) (v_word : Int64) (v_marks : Int32) (v_notes : Int32) (v_inn_minutes : Int32) (v_inn_rooms : Int32) (v_inn_doors : Int32) (v_inn_things : Int32) (v_inn_dreams : Int32) (v_inn_sleepers : Int32) (v_inn_listeners : Int32) (v_inn_names : Int32) (v_inn_bed : Nat → Int32) (v_came : Nat → Int32) (v_inn_doorB : Nat → Int32) (v_walked : Nat → Int32) (v_inn_doorA : Nat → Int32) (v_inn_how : Nat → Int32) (N : Nat) (p0 : Int32) (z : Int32 × Int32 × Int32 × Int32 × (Nat → Int32) × (Nat → Int32)) (hf : fX12_walks N p0 v_inn_rooms v_inn_doors v_inn_sleepers v_inn_bed v_came v_inn_doorB v_walked v_inn_doorA v_inn_how = some z) : CTi l E yX12_walks cX12_walks 3 .int 1 26 [.ref h, .int p0] (wX12_walks E h h_inn h_tape h_far h_from h_real h_other h_kept h_set h_w h_book h_noteSort h_whose h_what h_noteIs h_fitting h_dawn h_likes h_walked h_came h_inn_creak h_inn_doorA h_inn_doorB h_inn_how h_inn_lies h_inn_isCold h_inn_falls h_inn_isFull h_inn_isTold h_inn_act h_inn_what h_inn_then h_inn_met h_inn_bed h_inn_dream h_inn_listens h_inn_name h_inn_nameSort h_inn_nameNumber v_thrown v_trouble v_where v_read v_taped v_size v_at v_sort v_place v_sign v_number v_fault v_wrongAt v_word v_marks v_notes v_inn_minutes v_inn_rooms v_inn_doors v_inn_things v_inn_dreams v_inn_sleepers v_inn_listeners v_inn_names v_inn_bed v_came v_inn_doorB v_walked v_inn_doorA v_inn_how) (z.1) (wX12_walks E h h_inn h_tape h_far h_from h_real h_other h_kept h_set h_w h_book h_noteSort h_whose h_what h_noteIs h_fitting h_dawn h_likes h_walked h_came h_inn_creak h_inn_doorA h_inn_doorB h_inn_how h_inn_lies h_inn_isCold h_inn_falls h_inn_isFull h_inn_isTold h_inn_act h_inn_what h_inn_then h_inn_met h_inn_bed h_inn_dream h_inn_listens h_inn_name h_inn_nameSort h_inn_nameNumber z.2.1 z.2.2.1 z.2.2.2.1 v_read v_taped v_size v_at v_sort v_place v_sign v_number v_fault v_wrongAt v_word v_marks v_notes v_inn_minutes v_inn_rooms v_inn_doors v_inn_things v_inn_dreams v_inn_sleepers v_inn_listeners v_inn_names v_inn_bed z.2.2.2.2.1 v_inn_doorB z.2.2.2.2.2 v_inn_doorA v_inn_how) := by
  intro sz
  refine ct_body (by decide) (Nat.le_of_ble_eq_true rfl) ?_
  intro p e s m args below meth c A ls hAe C hr hin hP hD hS hl
  have C : CX p s m args meth c cX12_walks RX12 3 E A := C
  have hl : lv_has ls 3 [(0, .ref h), (1, .int p0)] := hl
  have hx := C.1
  have hb := C.2.1
  rw [hAe]
  clear hAe
  obtain ⟨Q, hQ⟩ : ∃ Q, Q = MQ below (Qi E A (z.1) (wX12_walks E h h_inn h_tape h_far h_from h_real h_other h_kept h_set h_w h_book h_noteSort h_whose h_what h_noteIs h_fitting h_dawn h_likes h_walked h_came h_inn_creak h_inn_doorA h_inn_doorB h_inn_how h_inn_lies h_inn_isCold h_inn_falls h_inn_isFull h_inn_isTold h_inn_act h_inn_what h_inn_then h_inn_met h_inn_bed h_inn_dream h_inn_listens h_inn_name h_inn_nameSort h_inn_nameNumber z.2.1 z.2.2.1 z.2.2.2.1 v_read v_taped v_size v_at v_sort v_place v_sign v_number v_fault v_wrongAt v_word v_marks v_notes v_inn_minutes v_inn_rooms v_inn_doors v_inn_things v_inn_dreams v_inn_sleepers v_inn_listeners v_inn_names v_inn_bed z.2.2.2.2.1 v_inn_doorB z.2.2.2.2.2 v_inn_doorA v_inn_how)) args s 0 0 A := ⟨_, rfl⟩
  rw [← hQ]
  unfold fX12_walks at hf
  refine lv_aload_n (pc := 0) hx hb dX12_walks_0 rfl (lv_at hl 0 rfl) ?_
  refine lv_iconst (pc := 1) (v := 0) hx hb dX12_walks_1 (by decide) ?_
  refine r_put (pc := 2) (ws' := (wX12_walks E h h_inn h_tape h_far h_from h_real h_other h_kept h_set h_w h_book h_noteSort h_whose h_what h_noteIs h_fitting h_dawn h_likes h_walked h_came h_inn_creak h_inn_doorA h_inn_doorB h_inn_how h_inn_lies h_inn_isCold h_inn_falls h_inn_isFull h_inn_isTold h_inn_act h_inn_what h_inn_then h_inn_met h_inn_bed h_inn_dream h_inn_listens h_inn_name h_inn_nameSort h_inn_nameNumber 0 v_trouble v_where v_read v_taped v_size v_at v_sort v_place v_sign v_number v_fault v_wrongAt v_word v_marks v_notes v_inn_minutes v_inn_rooms v_inn_doors v_inn_things v_inn_dreams v_inn_sleepers v_inn_listeners v_inn_names v_inn_bed v_came v_inn_doorB v_walked v_inn_doorA v_inn_how)) C hP hD hS 0 rfl fl_X12_71 rfl rfl (Nat.le_of_ble_eq_true rfl) rfl dX12_walks_2 ?_
  clear hP hD hS; intro H locs hP hD hS
  refine lv_aload_n (pc := 5) hx hb dX12_walks_5 rfl (lv_at hl 0 rfl) ?_
  refine lv_iload_n (pc := 6) hx hb dX12_walks_6 rfl (lv_at hl 1 rfl) ?_
  obtain ⟨r_7, hc_7, hf⟩ := bd1 hf
  refine r_dalVi (pc := 7) (ws' := (wX12_walks E h h_inn h_tape h_far h_from h_real h_other h_kept h_set h_w h_book h_noteSort h_whose h_what h_noteIs h_fitting h_dawn h_likes h_walked h_came h_inn_creak h_inn_doorA h_inn_doorB h_inn_how h_inn_lies h_inn_isCold h_inn_falls h_inn_isFull h_inn_isTold h_inn_act h_inn_what h_inn_then h_inn_met h_inn_bed h_inn_dream h_inn_listens h_inn_name h_inn_nameSort h_inn_nameNumber 0 v_trouble v_where v_read v_taped v_size v_at v_sort v_place v_sign v_number v_fault v_wrongAt v_word v_marks v_notes v_inn_minutes v_inn_rooms v_inn_doors v_inn_things v_inn_dreams v_inn_sleepers v_inn_listeners v_inn_names v_inn_bed v_came v_inn_doorB v_walked v_inn_doorA v_inn_how)) (As := [.int p0]) (rest := []) C (ctX12_isRoom l E h h_inn h_tape h_far h_from h_real h_other h_kept h_set h_w h_book h_noteSort h_whose h_what h_noteIs h_fitting h_dawn h_likes h_walked h_came h_inn_creak h_inn_doorA h_inn_doorB h_inn_how h_inn_lies h_inn_isCold h_inn_falls h_inn_isFull h_inn_isTold h_inn_act h_inn_what h_inn_then h_inn_met h_inn_bed h_inn_dream h_inn_listens h_inn_name h_inn_nameSort h_inn_nameNumber 0 v_trouble v_where v_read v_taped v_size v_at v_sort v_place v_sign v_number v_fault v_wrongAt v_word v_marks v_notes v_inn_minutes v_inn_rooms v_inn_doors v_inn_things v_inn_dreams v_inn_sleepers v_inn_listeners v_inn_names N p0 r_7 hc_7) ml_X12_379 ⟨Nat.le_of_ble_eq_true rfl, Nat.le_of_ble_eq_true rfl⟩ hP hD hS 0 rfl rfl rfl [0, 1] [8, 9, 2, 3, 4, 5, 6, 7] 8 rfl rfl rfl rfl rfl rfl rfl hl.1 rfl (Nat.le_of_ble_eq_true rfl) ⟨Nat.zero_le _, Nat.zero_le _⟩ dX12_walks_7 ?_
  clear hP hD hS; intro H locs hP hD hS
  refine lv_if_ne (pc := 10) (tgt := 19) hx hb dX12_walks_10 (by decide) (fun c_10 => ?_) (fun c_10 => ?_)
  · replace hf := it_f c_10 hf
    refine lv_aload_n (pc := 19) hx hb dX12_walks_19 rfl (lv_at hl 0 rfl) ?_
    refine lv_iload_n (pc := 20) hx hb dX12_walks_20 rfl (lv_at hl 1 rfl) ?_
    obtain ⟨r_21, hc_21, hf⟩ := bd1 hf
    refine r_dalVi (pc := 21) (ws' := (wX12_walks E h h_inn h_tape h_far h_from h_real h_other h_kept h_set h_w h_book h_noteSort h_whose h_what h_noteIs h_fitting h_dawn h_likes h_walked h_came h_inn_creak h_inn_doorA h_inn_doorB h_inn_how h_inn_lies h_inn_isCold h_inn_falls h_inn_isFull h_inn_isTold h_inn_act h_inn_what h_inn_then h_inn_met h_inn_bed h_inn_dream h_inn_listens h_inn_name h_inn_nameSort h_inn_nameNumber 0 v_trouble v_where v_read v_taped v_size v_at v_sort v_place v_sign v_number v_fault v_wrongAt v_word v_marks v_notes v_inn_minutes v_inn_rooms v_inn_doors v_inn_things v_inn_dreams v_inn_sleepers v_inn_listeners v_inn_names v_inn_bed v_came v_inn_doorB v_walked v_inn_doorA v_inn_how)) (As := [.int p0]) (rest := []) C (ctX12_isBed l E h h_inn h_tape h_far h_from h_real h_other h_kept h_set h_w h_book h_noteSort h_whose h_what h_noteIs h_fitting h_dawn h_likes h_walked h_came h_inn_creak h_inn_doorA h_inn_doorB h_inn_how h_inn_lies h_inn_isCold h_inn_falls h_inn_isFull h_inn_isTold h_inn_act h_inn_what h_inn_then h_inn_met h_inn_bed h_inn_dream h_inn_listens h_inn_name h_inn_nameSort h_inn_nameNumber 0 v_trouble v_where v_read v_taped v_size v_at v_sort v_place v_sign v_number v_fault v_wrongAt v_word v_marks v_notes v_inn_minutes v_inn_rooms v_inn_doors v_inn_things v_inn_dreams v_inn_sleepers v_inn_listeners v_inn_names v_inn_bed N p0 r_21 hc_21) ml_X12_486 ⟨Nat.le_of_ble_eq_true rfl, Nat.le_of_ble_eq_true rfl⟩ hP hD hS 0 rfl rfl rfl [0, 1, 2] [8, 9, 10, 3, 4, 5, 6, 7] 8 rfl rfl rfl rfl rfl rfl rfl hl.1 rfl (Nat.le_of_ble_eq_true rfl) ⟨Nat.zero_le _, Nat.zero_le _⟩ dX12_walks_21 ?_
    clear hP hD hS; intro H locs hP hD hS
    refine lv_if_eq (pc := 24) (tgt := 34) hx hb dX12_walks_24 (by decide) (fun c_24 => ?_) (fun c_24 => ?_)
    · replace hf := it_t c_24 hf
      refine lv_iconst (pc := 34) (v := 0) hx hb dX12_walks_34 (by decide) ?_
      refine lv_istore_n (pc := 35) (lv' := [(2, .int 0), (0, .ref h), (1, .int p0)]) hx hb dX12_walks_35 rfl hl (by decide) rfl (fun ls hl => ?_)
      refine lpK hf (fun K55 eK55 hf => ?_)
      have hK55 : ∀ (x55_walked : Nat → Int32) , K55 x55_walked = some z → AT p l e (rmOf 1 26) s m args below meth c E A Q 0 0 3 [(0, .ref h), (1, .int p0)] (wX12_walks E h h_inn h_tape h_far h_from h_real h_other h_kept h_set h_w h_book h_noteSort h_whose h_what h_noteIs h_fitting h_dawn h_likes h_walked h_came h_inn_creak h_inn_doorA h_inn_doorB h_inn_how h_inn_lies h_inn_isCold h_inn_falls h_inn_isFull h_inn_isTold h_inn_act h_inn_what h_inn_then h_inn_met h_inn_bed h_inn_dream h_inn_listens h_inn_name h_inn_nameSort h_inn_nameNumber 0 v_trouble v_where v_read v_taped v_size v_at v_sort v_place v_sign v_number v_fault v_wrongAt v_word v_marks v_notes v_inn_minutes v_inn_rooms v_inn_doors v_inn_things v_inn_dreams v_inn_sleepers v_inn_listeners v_inn_names v_inn_bed v_came v_inn_doorB x55_walked v_inn_doorA v_inn_how) 55 [] := by
        intro x55_walked hf H locs ls hl hP hD hS
        rw [eK55] at hf
        replace hf := un1_s hf
        refine lv_iconst (pc := 55) (v := 0) hx hb dX12_walks_55 (by decide) ?_
        refine lv_istore_n (pc := 56) (lv' := [(2, .int 0), (0, .ref h), (1, .int p0)]) hx hb dX12_walks_56 rfl hl (by decide) rfl (fun ls hl => ?_)
        have key57 : ∀ (n : Nat) (x57_2 : Int32) (x57_came : Nat → Int32) (x57_walked : Nat → Int32) , lp (BX12_walks_57 N p0 v_inn_doors v_inn_sleepers v_inn_doorB v_inn_doorA v_inn_how v_inn_bed) n (x57_2, x57_came, x57_walked) = some z → AT p l e (rmOf 1 26) s m args below meth c E A Q 0 0 3 [(0, .ref h), (1, .int p0), (2, .int x57_2)] (wX12_walks E h h_inn h_tape h_far h_from h_real h_other h_kept h_set h_w h_book h_noteSort h_whose h_what h_noteIs h_fitting h_dawn h_likes h_walked h_came h_inn_creak h_inn_doorA h_inn_doorB h_inn_how h_inn_lies h_inn_isCold h_inn_falls h_inn_isFull h_inn_isTold h_inn_act h_inn_what h_inn_then h_inn_met h_inn_bed h_inn_dream h_inn_listens h_inn_name h_inn_nameSort h_inn_nameNumber 0 v_trouble v_where v_read v_taped v_size v_at v_sort v_place v_sign v_number v_fault v_wrongAt v_word v_marks v_notes v_inn_minutes v_inn_rooms v_inn_doors v_inn_things v_inn_dreams v_inn_sleepers v_inn_listeners v_inn_names v_inn_bed x57_came v_inn_doorB x57_walked v_inn_doorA v_inn_how) 57 [] := by
          intro n
          induction n with
          | zero => intro x57_2 x57_came x57_walked hf; exact (lp_0 hf).elim
          | succ n ih57 =>
            intro x57_2 x57_came x57_walked hf H locs ls hl hP hD hS
            replace hf := lp_s hf
            generalize lp (BX12_walks_57 N p0 v_inn_doors v_inn_sleepers v_inn_doorB v_inn_doorA v_inn_how v_inn_bed) n = rec57 at ih57 hf
            unfold BX12_walks_57 at hf
            replace hf := un3_s hf
            refine lv_aload_n (pc := 57) hx hb dX12_walks_57 rfl (lv_at hl 0 rfl) ?_
            refine lv_iload_n (pc := 58) hx hb dX12_walks_58 rfl (lv_at hl 1 rfl) ?_
            obtain ⟨r_59, v_came_59, v_walked_59, hc_59, hf⟩ := bd3 hf
            refine r_dalVi (pc := 59) (ws' := (wX12_walks E h h_inn h_tape h_far h_from h_real h_other h_kept h_set h_w h_book h_noteSort h_whose h_what h_noteIs h_fitting h_dawn h_likes h_walked h_came h_inn_creak h_inn_doorA h_inn_doorB h_inn_how h_inn_lies h_inn_isCold h_inn_falls h_inn_isFull h_inn_isTold h_inn_act h_inn_what h_inn_then h_inn_met h_inn_bed h_inn_dream h_inn_listens h_inn_name h_inn_nameSort h_inn_nameNumber 0 v_trouble v_where v_read v_taped v_size v_at v_sort v_place v_sign v_number v_fault v_wrongAt v_word v_marks v_notes v_inn_minutes v_inn_rooms v_inn_doors v_inn_things v_inn_dreams v_inn_sleepers v_inn_listeners v_inn_names v_inn_bed v_came_59 v_inn_doorB v_walked_59 v_inn_doorA v_inn_how)) (As := [.int p0]) (rest := []) C (ctX12_walksMore l E h h_inn h_tape h_far h_from h_real h_other h_kept h_set h_w h_book h_noteSort h_whose h_what h_noteIs h_fitting h_dawn h_likes h_walked h_came h_inn_creak h_inn_doorA h_inn_doorB h_inn_how h_inn_lies h_inn_isCold h_inn_falls h_inn_isFull h_inn_isTold h_inn_act h_inn_what h_inn_then h_inn_met h_inn_bed h_inn_dream h_inn_listens h_inn_name h_inn_nameSort h_inn_nameNumber 0 v_trouble v_where v_read v_taped v_size v_at v_sort v_place v_sign v_number v_fault v_wrongAt v_word v_marks v_notes v_inn_minutes v_inn_rooms v_inn_doors v_inn_things v_inn_dreams v_inn_sleepers v_inn_listeners v_inn_names x57_came v_inn_doorB x57_walked v_inn_doorA v_inn_how v_inn_bed N p0 (r_59, v_came_59, v_walked_59) hc_59) ml_X12_498 ⟨Nat.le_of_ble_eq_true rfl, Nat.le_of_ble_eq_true rfl⟩ hP hD hS 0 rfl rfl rfl [0, 1, 3, 4, 5, 6, 7, 2] [8, 9, 15, 10, 11, 12, 13, 14] 8 rfl rfl rfl rfl rfl rfl rfl hl.1 rfl (Nat.le_of_ble_eq_true rfl) ⟨Nat.zero_le _, Nat.zero_le _⟩ dX12_walks_59 ?_
            clear hP hD hS; intro H locs hP hD hS
            refine lv_if_eq (pc := 62) (tgt := 71) hx hb dX12_walks_62 (by decide) (fun c_62 => ?_) (fun c_62 => ?_)
            · replace hf := it_t c_62 hf
              refine lv_aload_n (pc := 71) hx hb dX12_walks_71 rfl (lv_at hl 0 rfl) ?_
              refine lv_iload_n (pc := 72) hx hb dX12_walks_72 rfl (lv_at hl 2 rfl) ?_
              obtain ⟨r_73, v_trouble_73, v_where_73, hc_73, hf⟩ := bd3 hf
              refine r_dalVi (pc := 73) (ws' := (wX12_walks E h h_inn h_tape h_far h_from h_real h_other h_kept h_set h_w h_book h_noteSort h_whose h_what h_noteIs h_fitting h_dawn h_likes h_walked h_came h_inn_creak h_inn_doorA h_inn_doorB h_inn_how h_inn_lies h_inn_isCold h_inn_falls h_inn_isFull h_inn_isTold h_inn_act h_inn_what h_inn_then h_inn_met h_inn_bed h_inn_dream h_inn_listens h_inn_name h_inn_nameSort h_inn_nameNumber 0 v_trouble_73 v_where_73 v_read v_taped v_size v_at v_sort v_place v_sign v_number v_fault v_wrongAt v_word v_marks v_notes v_inn_minutes v_inn_rooms v_inn_doors v_inn_things v_inn_dreams v_inn_sleepers v_inn_listeners v_inn_names v_inn_bed v_came_59 v_inn_doorB v_walked_59 v_inn_doorA v_inn_how)) (As := [.int x57_2]) (rest := []) C (ctX12_good l E h h_tape h_far h_from h_real h_other h_kept h_set h_w h_book h_noteSort h_whose h_what h_noteIs h_fitting h_dawn h_likes h_walked h_came 0 v_trouble v_where (some h_inn) v_read v_taped v_size v_at v_sort v_place v_sign v_number v_fault v_wrongAt v_word v_marks v_notes N x57_2 (r_73, v_trouble_73, v_where_73) hc_73) ml_X12_81 ⟨Nat.le_of_ble_eq_true rfl, Nat.le_of_ble_eq_true rfl⟩ hP hD hS 0 rfl rfl rfl [0] [8, 1, 2, 3, 4, 5, 6, 7] 8 rfl rfl rfl rfl rfl rfl rfl hl.1 rfl (Nat.le_of_ble_eq_true rfl) ⟨Nat.zero_le _, Nat.zero_le _⟩ dX12_walks_73 ?_
              clear hP hD hS; intro H locs hP hD hS
              cases hf
              rw [hQ]
              exact r_iret C hr hP hD hS rfl dX12_walks_76
            · replace hf := it_f c_62 hf
              refine lv_iinc (pc := 65) (v := x57_2 + 1) (lv' := [(2, .int (x57_2 + 1)), (0, .ref h), (1, .int p0)]) hx hb dX12_walks_65 hl (k := 2) rfl rfl (by decide) rfl (fun ls hl => ?_)
              refine lv_goto (pc := 68) (tgt := 57) hx hb dX12_walks_68 (by decide) ?_
              exact ih57 (x57_2 + 1) v_came_59 v_walked_59 hf _ _ _ (lv_sub hl [1, 2, 0] rfl) hP hD hS
        exact key57 _ 0 v_came x55_walked hf _ _ _ (lv_sub hl [1, 2, 0] rfl) hP hD hS
      clear eK55
      have key36 : ∀ (n : Nat) (x36_2 : Int32) (x36_walked : Nat → Int32) , lp (BX12_walks_36 K55) n (x36_2, x36_walked) = some z → AT p l e (rmOf 1 26) s m args below meth c E A Q 0 0 3 [(0, .ref h), (1, .int p0), (2, .int x36_2)] (wX12_walks E h h_inn h_tape h_far h_from h_real h_other h_kept h_set h_w h_book h_noteSort h_whose h_what h_noteIs h_fitting h_dawn h_likes h_walked h_came h_inn_creak h_inn_doorA h_inn_doorB h_inn_how h_inn_lies h_inn_isCold h_inn_falls h_inn_isFull h_inn_isTold h_inn_act h_inn_what h_inn_then h_inn_met h_inn_bed h_inn_dream h_inn_listens h_inn_name h_inn_nameSort h_inn_nameNumber 0 v_trouble v_where v_read v_taped v_size v_at v_sort v_place v_sign v_number v_fault v_wrongAt v_word v_marks v_notes v_inn_minutes v_inn_rooms v_inn_doors v_inn_things v_inn_dreams v_inn_sleepers v_inn_listeners v_inn_names v_inn_bed v_came v_inn_doorB x36_walked v_inn_doorA v_inn_how) 36 [] := by
        intro n
        induction n with
        | zero => intro x36_2 x36_walked hf; exact (lp_0 hf).elim
        | succ n ih36 =>
          intro x36_2 x36_walked hf H locs ls hl hP hD hS
          replace hf := lp_s hf
          generalize lp (BX12_walks_36 K55) n = rec36 at ih36 hf
          unfold BX12_walks_36 at hf
          replace hf := un2_s hf
          refine lv_iload_n (pc := 36) hx hb dX12_walks_36 rfl (lv_at hl 2 rfl) ?_
          refine lv_bipush (pc := 37) (v := 10) hx hb dX12_walks_37 (by decide) ?_
          refine lv_icmp_ge (pc := 39) (tgt := 55) hx hb dX12_walks_39 (by decide) (fun c_39 => ?_) (fun c_39 => ?_)
          · replace hf := it_t c_39 hf
            exact hK55 x36_walked hf _ _ _ (lv_sub hl [0, 1] rfl) hP hD hS
          · replace hf := it_f c_39 hf
            refine lv_aload_n (pc := 42) hx hb dX12_walks_42 rfl (lv_at hl 0 rfl) ?_
            refine r_get (pc := 43) C hP 0 rfl fl_X12_65 rfl dX12_walks_43 ?_
            refine lv_iload_n (pc := 46) hx hb dX12_walks_46 rfl (lv_at hl 2 rfl) ?_
            refine lv_iconst (pc := 47) (v := 0) hx hb dX12_walks_47 (by decide) ?_
            obtain ⟨hi_48, hf⟩ := gd_s hf
            refine r_iast (pc := 48) (ws' := (wX12_walks E h h_inn h_tape h_far h_from h_real h_other h_kept h_set h_w h_book h_noteSort h_whose h_what h_noteIs h_fitting h_dawn h_likes h_walked h_came h_inn_creak h_inn_doorA h_inn_doorB h_inn_how h_inn_lies h_inn_isCold h_inn_falls h_inn_isFull h_inn_isTold h_inn_act h_inn_what h_inn_then h_inn_met h_inn_bed h_inn_dream h_inn_listens h_inn_name h_inn_nameSort h_inn_nameNumber 0 v_trouble v_where v_read v_taped v_size v_at v_sort v_place v_sign v_number v_fault v_wrongAt v_word v_marks v_notes v_inn_minutes v_inn_rooms v_inn_doors v_inn_things v_inn_dreams v_inn_sleepers v_inn_listeners v_inn_names v_inn_bed v_came v_inn_doorB (upd x36_walked x36_2.toNatClampNeg 0) v_inn_doorA v_inn_how)) C hP hD hS 5 rfl hi_48 rfl dX12_walks_48 ?_
            clear hP hD hS; intro H locs hP hD hS
            refine lv_iinc (pc := 49) (v := x36_2 + 1) (lv' := [(2, .int (x36_2 + 1)), (0, .ref h), (1, .int p0)]) hx hb dX12_walks_49 hl (k := 2) rfl rfl (by decide) rfl (fun ls hl => ?_)
            refine lv_goto (pc := 52) (tgt := 36) hx hb dX12_walks_52 (by decide) ?_
            exact ih36 (x36_2 + 1) (upd x36_walked x36_2.toNatClampNeg 0) hf _ _ _ (lv_sub hl [1, 2, 0] rfl) hP hD hS
      exact key36 _ 0 v_walked hf _ _ _ (lv_sub hl [1, 2, 0] rfl) hP hD hS
    · replace hf := it_f c_24 hf
      refine lv_aload_n (pc := 27) hx hb dX12_walks_27 rfl (lv_at hl 0 rfl) ?_
      refine lv_bipush (pc := 28) (v := (-2)) hx hb dX12_walks_28 (by decide) ?_
      obtain ⟨r_30, v_trouble_30, v_where_30, hc_30, hf⟩ := bd3 hf
      refine r_dalVi (pc := 30) (ws' := (wX12_walks E h h_inn h_tape h_far h_from h_real h_other h_kept h_set h_w h_book h_noteSort h_whose h_what h_noteIs h_fitting h_dawn h_likes h_walked h_came h_inn_creak h_inn_doorA h_inn_doorB h_inn_how h_inn_lies h_inn_isCold h_inn_falls h_inn_isFull h_inn_isTold h_inn_act h_inn_what h_inn_then h_inn_met h_inn_bed h_inn_dream h_inn_listens h_inn_name h_inn_nameSort h_inn_nameNumber 0 v_trouble_30 v_where_30 v_read v_taped v_size v_at v_sort v_place v_sign v_number v_fault v_wrongAt v_word v_marks v_notes v_inn_minutes v_inn_rooms v_inn_doors v_inn_things v_inn_dreams v_inn_sleepers v_inn_listeners v_inn_names v_inn_bed v_came v_inn_doorB v_walked v_inn_doorA v_inn_how)) (As := [.int (-2)]) (rest := []) C (ctX12_good l E h h_tape h_far h_from h_real h_other h_kept h_set h_w h_book h_noteSort h_whose h_what h_noteIs h_fitting h_dawn h_likes h_walked h_came 0 v_trouble v_where (some h_inn) v_read v_taped v_size v_at v_sort v_place v_sign v_number v_fault v_wrongAt v_word v_marks v_notes N (-2) (r_30, v_trouble_30, v_where_30) hc_30) ml_X12_81 ⟨Nat.le_of_ble_eq_true rfl, Nat.le_of_ble_eq_true rfl⟩ hP hD hS 0 rfl rfl rfl [0] [8, 1, 2, 3, 4, 5, 6, 7] 8 rfl rfl rfl rfl rfl rfl rfl hl.1 rfl (Nat.le_of_ble_eq_true rfl) ⟨Nat.zero_le _, Nat.zero_le _⟩ dX12_walks_30 ?_
      clear hP hD hS; intro H locs hP hD hS
      cases hf
      rw [hQ]
      exact r_iret C hr hP hD hS rfl dX12_walks_33
  · replace hf := it_t c_10 hf
    refine lv_aload_n (pc := 13) hx hb dX12_walks_13 rfl (lv_at hl 0 rfl) ?_
    refine lv_iconst (pc := 14) (v := 1) hx hb dX12_walks_14 (by decide) ?_
    obtain ⟨r_15, v_trouble_15, v_where_15, hc_15, hf⟩ := bd3 hf
    refine r_dalVi (pc := 15) (ws' := (wX12_walks E h h_inn h_tape h_far h_from h_real h_other h_kept h_set h_w h_book h_noteSort h_whose h_what h_noteIs h_fitting h_dawn h_likes h_walked h_came h_inn_creak h_inn_doorA h_inn_doorB h_inn_how h_inn_lies h_inn_isCold h_inn_falls h_inn_isFull h_inn_isTold h_inn_act h_inn_what h_inn_then h_inn_met h_inn_bed h_inn_dream h_inn_listens h_inn_name h_inn_nameSort h_inn_nameNumber 0 v_trouble_15 v_where_15 v_read v_taped v_size v_at v_sort v_place v_sign v_number v_fault v_wrongAt v_word v_marks v_notes v_inn_minutes v_inn_rooms v_inn_doors v_inn_things v_inn_dreams v_inn_sleepers v_inn_listeners v_inn_names v_inn_bed v_came v_inn_doorB v_walked v_inn_doorA v_inn_how)) (As := [.int 1]) (rest := []) C (ctX12_refused l E h h_tape h_far h_from h_real h_other h_kept h_set h_w h_book h_noteSort h_whose h_what h_noteIs h_fitting h_dawn h_likes h_walked h_came 0 v_trouble v_where (some h_inn) v_read v_taped v_size v_at v_sort v_place v_sign v_number v_fault v_wrongAt v_word v_marks v_notes N 1 (r_15, v_trouble_15, v_where_15) hc_15) ml_X12_77 ⟨Nat.le_of_ble_eq_true rfl, Nat.le_of_ble_eq_true rfl⟩ hP hD hS 0 rfl rfl rfl [0] [8, 1, 2, 3, 4, 5, 6, 7] 8 rfl rfl rfl rfl rfl rfl rfl hl.1 rfl (Nat.le_of_ble_eq_true rfl) ⟨Nat.zero_le _, Nat.zero_le _⟩ dX12_walks_15 ?_
    clear hP hD hS; intro H locs hP hD hS
    cases hf
    rw [hQ]
    exact r_iret C hr hP hD hS rfl dX12_walks_18
def wX12_walks0 (E : EN) (h h_tape h_far h_from h_real h_other h_kept h_set h_w h_book h_noteSort h_whose h_what h_noteIs h_fitting h_dawn h_likes h_walked h_came : Nat) (v_thrown : Int32) (v_trouble : Int32) (v_where : Int32) (v_read : Option Nat) (v_taped : Int32) (v_size : Int32) (v_at : Int32) (v_sort : Int32) (v_place : Int32) (v_sign : Int32) (v_number : Int32) (v_fault : Int32) (v_wrongAt : Int32) (v_word : Int64) (v_marks : Int32) (v_notes : Int32) : va_W := [(h, .inr (11, [.int v_thrown, .int v_trouble, .int v_where, .null, va_rf v_read, .ref h_tape, .int v_taped, .int v_size, .int v_at, .int v_sort, .int v_place, .int v_sign, .int v_number, .int v_fault, .int v_wrongAt, .long v_word, .ref h_far, .ref h_from, .ref h_real, .ref h_other, .ref h_kept, .ref h_set, .ref h_w, .int v_marks, .int v_notes, .ref h_book, .ref h_noteSort, .ref h_whose, .ref h_what, .ref h_noteIs, .ref h_fitting, .ref h_dawn, .ref h_likes, .ref h_walked, .ref h_came]))]
def fX12_walks0 (N : Nat) : Option (Int32 × Int32 × Int32 × Int32) := (fX12_isRoom0 N).bind (un1 fun (r_7 : Int32) => if r_7 = 0 then ((fX12_refused N 1).bind (un3 fun (r_15 : Int32) (v_trouble_15 : Int32) (v_where_15 : Int32) => some (r_15, 0, v_trouble_15, v_where_15))) else (none))
set_option maxHeartbeats 4000000 in
set_option maxRecDepth 100000 in
theorem ctX12_walks0 (l : Launch) (E : EN) (h h_tape h_far h_from h_real h_other h_kept h_set h_w h_book h_noteSort h_whose h_what h_noteIs h_fitting h_dawn h_likes h_walked h_came : Nat) (v_thrown : Int32) (v_trouble : Int32) (v_where : Int32) (v_read : Option Nat) (v_taped : Int32) (v_size : Int32) (v_at : Int32) (v_sort : Int32) (v_place : Int32) (v_sign : Int32) (v_number : Int32) (v_fault : Int32) (v_wrongAt : Int32) (v_word : Int64) (v_marks : Int32) (v_notes : Int32) (N : Nat) (p0 : Int32) (z : Int32 × Int32 × Int32 × Int32) (hf : fX12_walks0 N  = some z) : CTi l E yX12_walks cX12_walks 3 .int 1 21 [.ref h, .int p0] (wX12_walks0 E h h_tape h_far h_from h_real h_other h_kept h_set h_w h_book h_noteSort h_whose h_what h_noteIs h_fitting h_dawn h_likes h_walked h_came v_thrown v_trouble v_where v_read v_taped v_size v_at v_sort v_place v_sign v_number v_fault v_wrongAt v_word v_marks v_notes) (z.1) (wX12_walks0 E h h_tape h_far h_from h_real h_other h_kept h_set h_w h_book h_noteSort h_whose h_what h_noteIs h_fitting h_dawn h_likes h_walked h_came z.2.1 z.2.2.1 z.2.2.2 v_read v_taped v_size v_at v_sort v_place v_sign v_number v_fault v_wrongAt v_word v_marks v_notes) := by
  intro sz
  refine ct_body (by decide) (Nat.le_of_ble_eq_true rfl) ?_
  intro p e s m args below meth c A ls hAe C hr hin hP hD hS hl
  have C : CX p s m args meth c cX12_walks RX12 3 E A := C
  have hl : lv_has ls 3 [(0, .ref h), (1, .int p0)] := hl
  have hx := C.1
  have hb := C.2.1
  rw [hAe]
  clear hAe
  obtain ⟨Q, hQ⟩ : ∃ Q, Q = MQ below (Qi E A (z.1) (wX12_walks0 E h h_tape h_far h_from h_real h_other h_kept h_set h_w h_book h_noteSort h_whose h_what h_noteIs h_fitting h_dawn h_likes h_walked h_came z.2.1 z.2.2.1 z.2.2.2 v_read v_taped v_size v_at v_sort v_place v_sign v_number v_fault v_wrongAt v_word v_marks v_notes)) args s 0 0 A := ⟨_, rfl⟩
  rw [← hQ]
  unfold fX12_walks0 at hf
  refine lv_aload_n (pc := 0) hx hb dX12_walks_0 rfl (lv_at hl 0 rfl) ?_
  refine lv_iconst (pc := 1) (v := 0) hx hb dX12_walks_1 (by decide) ?_
  refine r_put (pc := 2) (ws' := (wX12_walks0 E h h_tape h_far h_from h_real h_other h_kept h_set h_w h_book h_noteSort h_whose h_what h_noteIs h_fitting h_dawn h_likes h_walked h_came 0 v_trouble v_where v_read v_taped v_size v_at v_sort v_place v_sign v_number v_fault v_wrongAt v_word v_marks v_notes)) C hP hD hS 0 rfl fl_X12_71 rfl rfl (Nat.le_of_ble_eq_true rfl) rfl dX12_walks_2 ?_
  clear hP hD hS; intro H locs hP hD hS
  refine lv_aload_n (pc := 5) hx hb dX12_walks_5 rfl (lv_at hl 0 rfl) ?_
  refine lv_iload_n (pc := 6) hx hb dX12_walks_6 rfl (lv_at hl 1 rfl) ?_
  obtain ⟨r_7, hc_7, hf⟩ := bd1 hf
  refine r_dalVi (pc := 7) (ws' := (wX12_walks0 E h h_tape h_far h_from h_real h_other h_kept h_set h_w h_book h_noteSort h_whose h_what h_noteIs h_fitting h_dawn h_likes h_walked h_came 0 v_trouble v_where v_read v_taped v_size v_at v_sort v_place v_sign v_number v_fault v_wrongAt v_word v_marks v_notes)) (As := [.int p0]) (rest := []) C (ctX12_isRoom0 l E h h_tape h_far h_from h_real h_other h_kept h_set h_w h_book h_noteSort h_whose h_what h_noteIs h_fitting h_dawn h_likes h_walked h_came 0 v_trouble v_where v_read v_taped v_size v_at v_sort v_place v_sign v_number v_fault v_wrongAt v_word v_marks v_notes N p0 r_7 hc_7) ml_X12_379 ⟨Nat.le_of_ble_eq_true rfl, Nat.le_of_ble_eq_true rfl⟩ hP hD hS 0 rfl rfl rfl [0] [1] 1 rfl rfl rfl rfl rfl rfl rfl hl.1 rfl (Nat.le_of_ble_eq_true rfl) ⟨Nat.zero_le _, Nat.zero_le _⟩ dX12_walks_7 ?_
  clear hP hD hS; intro H locs hP hD hS
  refine lv_if_ne (pc := 10) (tgt := 19) hx hb dX12_walks_10 (by decide) (fun c_10 => ?_) (fun c_10 => ?_)
  · replace hf := it_f c_10 hf
    refine lv_aload_n (pc := 19) hx hb dX12_walks_19 rfl (lv_at hl 0 rfl) ?_
    refine lv_iload_n (pc := 20) hx hb dX12_walks_20 rfl (lv_at hl 1 rfl) ?_
    cases hf
  · replace hf := it_t c_10 hf
    refine lv_aload_n (pc := 13) hx hb dX12_walks_13 rfl (lv_at hl 0 rfl) ?_
    refine lv_iconst (pc := 14) (v := 1) hx hb dX12_walks_14 (by decide) ?_
    obtain ⟨r_15, v_trouble_15, v_where_15, hc_15, hf⟩ := bd3 hf
    refine r_dalVi (pc := 15) (ws' := (wX12_walks0 E h h_tape h_far h_from h_real h_other h_kept h_set h_w h_book h_noteSort h_whose h_what h_noteIs h_fitting h_dawn h_likes h_walked h_came 0 v_trouble_15 v_where_15 v_read v_taped v_size v_at v_sort v_place v_sign v_number v_fault v_wrongAt v_word v_marks v_notes)) (As := [.int 1]) (rest := []) C (ctX12_refused l E h h_tape h_far h_from h_real h_other h_kept h_set h_w h_book h_noteSort h_whose h_what h_noteIs h_fitting h_dawn h_likes h_walked h_came 0 v_trouble v_where none v_read v_taped v_size v_at v_sort v_place v_sign v_number v_fault v_wrongAt v_word v_marks v_notes N 1 (r_15, v_trouble_15, v_where_15) hc_15) ml_X12_77 ⟨Nat.le_of_ble_eq_true rfl, Nat.le_of_ble_eq_true rfl⟩ hP hD hS 0 rfl rfl rfl [0] [1] 1 rfl rfl rfl rfl rfl rfl rfl hl.1 rfl (Nat.le_of_ble_eq_true rfl) ⟨Nat.zero_le _, Nat.zero_le _⟩ dX12_walks_15 ?_
    clear hP hD hS; intro H locs hP hD hS
    cases hf
    rw [hQ]
    exact r_iret C hr hP hD hS rfl dX12_walks_18
def wX12_led (E : EN) (h h_inn h_tape h_far h_from h_real h_other h_kept h_set h_w h_book h_noteSort h_whose h_what h_noteIs h_fitting h_dawn h_likes h_walked h_came h_inn_creak h_inn_doorA h_inn_doorB h_inn_how h_inn_lies h_inn_isCold h_inn_falls h_inn_isFull h_inn_isTold h_inn_act h_inn_what h_inn_then h_inn_met h_inn_bed h_inn_dream h_inn_listens h_inn_name h_inn_nameSort h_inn_nameNumber : Nat) (v_thrown : Int32) (v_trouble : Int32) (v_where : Int32) (v_read : Option Nat) (v_taped : Int32) (v_size : Int32) (v_at : Int32) (v_sort : Int32) (v_place : Int32) (v_sign : Int32) (v_number : Int32) (v_fault : Int32) (v_wrongAt : Int32) (v_word : Int64) (v_marks : Int32) (v_notes : Int32) (v_inn_minutes : Int32) (v_inn_rooms : Int32) (v_inn_doors : Int32) (v_inn_things : Int32) (v_inn_dreams : Int32) (v_inn_sleepers : Int32) (v_inn_listeners : Int32) (v_inn_names : Int32) (v_w : Nat → Int32) (v_inn_bed : Nat → Int32) : va_W := [(h, .inr (11, [.int v_thrown, .int v_trouble, .int v_where, .ref h_inn, va_rf v_read, .ref h_tape, .int v_taped, .int v_size, .int v_at, .int v_sort, .int v_place, .int v_sign, .int v_number, .int v_fault, .int v_wrongAt, .long v_word, .ref h_far, .ref h_from, .ref h_real, .ref h_other, .ref h_kept, .ref h_set, .ref h_w, .int v_marks, .int v_notes, .ref h_book, .ref h_noteSort, .ref h_whose, .ref h_what, .ref h_noteIs, .ref h_fitting, .ref h_dawn, .ref h_likes, .ref h_walked, .ref h_came])), (h_inn, .inr (10, [.int v_inn_minutes, .int v_inn_rooms, .int v_inn_doors, .int v_inn_things, .int v_inn_dreams, .int v_inn_sleepers, .int v_inn_listeners, .int v_inn_names, .ref h_inn_creak, .ref h_inn_doorA, .ref h_inn_doorB, .ref h_inn_how, .ref h_inn_lies, .ref h_inn_isCold, .ref h_inn_falls, .ref h_inn_isFull, .ref h_inn_isTold, .ref h_inn_act, .ref h_inn_what, .ref h_inn_then, .ref h_inn_met, .ref h_inn_bed, .ref h_inn_dream, .ref h_inn_listens, .ref h_inn_name, .ref h_inn_nameSort, .ref h_inn_nameNumber])), (h_w, aI E 51 v_w), (h_inn_bed, aI E 3 v_inn_bed)]
def BX12_led_9 (v_inn_sleepers : Int32) (v_w : Nat → Int32) (v_inn_bed : Nat → Int32) (p0 : Int32) (K66 : (Unit) → Option (Int32 × Int32)) (rec9 : (Int32 × Int32) → Option (Int32 × Int32)) : (Int32 × Int32) → Option (Int32 × Int32) := un2 fun (x9_2 : Int32) (x9_3 : Int32) => if v_inn_sleepers ≤ x9_3 then (K66 ()) else (gd (0 + x9_3) 51 (gd x9_3 3 (jn (un1 fun (x60_2 : Int32) => rec9 (x60_2, x9_3 + 1)) (fun j60 => if (v_w (0 + x9_3).toNatClampNeg) = (v_inn_bed x9_3.toNatClampNeg) then (j60 x9_2) else (if x9_2 = p0 then (some (x9_3, 0)) else (j60 (x9_2 + 1)))))))
def fX12_led (N : Nat) (p0 : Int32) (v_inn_sleepers : Int32) (v_w : Nat → Int32) (v_inn_bed : Nat → Int32) : Option (Int32 × Int32) := lp (BX12_led_9 v_inn_sleepers v_w v_inn_bed p0 (un0 (some (0, 1)))) N (0, 0)
set_option maxHeartbeats 4000000 in
set_option maxRecDepth 100000 in
theorem ctX12_led (l : Launch) (E : EN) (h h_inn h_tape h_far h_from h_real h_other h_kept h_set h_w h_book h_noteSort h_whose h_what h_noteIs h_fitting h_dawn h_likes h_walked h_came h_inn_creak h_inn_doorA h_inn_doorB h_inn_how h_inn_lies h_inn_isCold h_inn_falls h_inn_isFull h_inn_isTold h_inn_act h_inn_what h_inn_then h_inn_met h_inn_bed h_inn_dream h_inn_listens h_inn_name h_inn_nameSort h_inn_nameNumber : Nat) (v_thrown : Int32) (v_trouble : Int32) (v_where : Int32) (v_read : Option Nat) (v_taped : Int32) (v_size : Int32) (v_at : Int32) (v_sort : Int32) (v_place : Int32) (v_sign : Int32) (v_number : Int32) (v_fault : Int32) (v_wrongAt : Int32) (v_word : Int64) (v_marks : Int32) (v_notes : Int32) (v_inn_minutes : Int32) (v_inn_rooms : Int32) (v_inn_doors : Int32) (v_inn_things : Int32) (v_inn_dreams : Int32) (v_inn_sleepers : Int32) (v_inn_listeners : Int32) (v_inn_names : Int32) (v_w : Nat → Int32) (v_inn_bed : Nat → Int32) (N : Nat) (p0 : Int32) (z : Int32 × Int32) (hf : fX12_led N p0 v_inn_sleepers v_w v_inn_bed = some z) : CTi l E yX12_led cX12_led 4 .int 0 0 [.ref h, .int p0] (wX12_led E h h_inn h_tape h_far h_from h_real h_other h_kept h_set h_w h_book h_noteSort h_whose h_what h_noteIs h_fitting h_dawn h_likes h_walked h_came h_inn_creak h_inn_doorA h_inn_doorB h_inn_how h_inn_lies h_inn_isCold h_inn_falls h_inn_isFull h_inn_isTold h_inn_act h_inn_what h_inn_then h_inn_met h_inn_bed h_inn_dream h_inn_listens h_inn_name h_inn_nameSort h_inn_nameNumber v_thrown v_trouble v_where v_read v_taped v_size v_at v_sort v_place v_sign v_number v_fault v_wrongAt v_word v_marks v_notes v_inn_minutes v_inn_rooms v_inn_doors v_inn_things v_inn_dreams v_inn_sleepers v_inn_listeners v_inn_names v_w v_inn_bed) (z.1) (wX12_led E h h_inn h_tape h_far h_from h_real h_other h_kept h_set h_w h_book h_noteSort h_whose h_what h_noteIs h_fitting h_dawn h_likes h_walked h_came h_inn_creak h_inn_doorA h_inn_doorB h_inn_how h_inn_lies h_inn_isCold h_inn_falls h_inn_isFull h_inn_isTold h_inn_act h_inn_what h_inn_then h_inn_met h_inn_bed h_inn_dream h_inn_listens h_inn_name h_inn_nameSort h_inn_nameNumber z.2 v_trouble v_where v_read v_taped v_size v_at v_sort v_place v_sign v_number v_fault v_wrongAt v_word v_marks v_notes v_inn_minutes v_inn_rooms v_inn_doors v_inn_things v_inn_dreams v_inn_sleepers v_inn_listeners v_inn_names v_w v_inn_bed) := by
  intro sz
  refine ct_body (by decide) (Nat.le_of_ble_eq_true rfl) ?_
  intro p e s m args below meth c A ls hAe C hr hin hP hD hS hl
  have C : CX p s m args meth c cX12_led RX12 4 E A := C
  have hl : lv_has ls 4 [(0, .ref h), (1, .int p0)] := hl
  have hx := C.1
  have hb := C.2.1
  rw [hAe]
  clear hAe
  obtain ⟨Q, hQ⟩ : ∃ Q, Q = MQ below (Qi E A (z.1) (wX12_led E h h_inn h_tape h_far h_from h_real h_other h_kept h_set h_w h_book h_noteSort h_whose h_what h_noteIs h_fitting h_dawn h_likes h_walked h_came h_inn_creak h_inn_doorA h_inn_doorB h_inn_how h_inn_lies h_inn_isCold h_inn_falls h_inn_isFull h_inn_isTold h_inn_act h_inn_what h_inn_then h_inn_met h_inn_bed h_inn_dream h_inn_listens h_inn_name h_inn_nameSort h_inn_nameNumber z.2 v_trouble v_where v_read v_taped v_size v_at v_sort v_place v_sign v_number v_fault v_wrongAt v_word v_marks v_notes v_inn_minutes v_inn_rooms v_inn_doors v_inn_things v_inn_dreams v_inn_sleepers v_inn_listeners v_inn_names v_w v_inn_bed)) args s 0 0 A := ⟨_, rfl⟩
  rw [← hQ]
  unfold fX12_led at hf
  refine lv_aload_n (pc := 0) hx hb dX12_led_0 rfl (lv_at hl 0 rfl) ?_
  refine lv_iconst (pc := 1) (v := 0) hx hb dX12_led_1 (by decide) ?_
  refine r_put (pc := 2) (ws' := (wX12_led E h h_inn h_tape h_far h_from h_real h_other h_kept h_set h_w h_book h_noteSort h_whose h_what h_noteIs h_fitting h_dawn h_likes h_walked h_came h_inn_creak h_inn_doorA h_inn_doorB h_inn_how h_inn_lies h_inn_isCold h_inn_falls h_inn_isFull h_inn_isTold h_inn_act h_inn_what h_inn_then h_inn_met h_inn_bed h_inn_dream h_inn_listens h_inn_name h_inn_nameSort h_inn_nameNumber 0 v_trouble v_where v_read v_taped v_size v_at v_sort v_place v_sign v_number v_fault v_wrongAt v_word v_marks v_notes v_inn_minutes v_inn_rooms v_inn_doors v_inn_things v_inn_dreams v_inn_sleepers v_inn_listeners v_inn_names v_w v_inn_bed)) C hP hD hS 0 rfl fl_X12_71 rfl rfl (Nat.le_of_ble_eq_true rfl) rfl dX12_led_2 ?_
  clear hP hD hS; intro H locs hP hD hS
  refine lv_iconst (pc := 5) (v := 0) hx hb dX12_led_5 (by decide) ?_
  refine lv_istore_n (pc := 6) (lv' := [(2, .int 0), (0, .ref h), (1, .int p0)]) hx hb dX12_led_6 rfl hl (by decide) rfl (fun ls hl => ?_)
  refine lv_iconst (pc := 7) (v := 0) hx hb dX12_led_7 (by decide) ?_
  refine lv_istore_n (pc := 8) (lv' := [(3, .int 0), (2, .int 0), (0, .ref h), (1, .int p0)]) hx hb dX12_led_8 rfl hl (by decide) rfl (fun ls hl => ?_)
  refine lpK hf (fun K66 eK66 hf => ?_)
  have hK66 : K66 () = some z → AT p l e (rmOf 0 0) s m args below meth c E A Q 0 0 4 [(0, .ref h)] (wX12_led E h h_inn h_tape h_far h_from h_real h_other h_kept h_set h_w h_book h_noteSort h_whose h_what h_noteIs h_fitting h_dawn h_likes h_walked h_came h_inn_creak h_inn_doorA h_inn_doorB h_inn_how h_inn_lies h_inn_isCold h_inn_falls h_inn_isFull h_inn_isTold h_inn_act h_inn_what h_inn_then h_inn_met h_inn_bed h_inn_dream h_inn_listens h_inn_name h_inn_nameSort h_inn_nameNumber 0 v_trouble v_where v_read v_taped v_size v_at v_sort v_place v_sign v_number v_fault v_wrongAt v_word v_marks v_notes v_inn_minutes v_inn_rooms v_inn_doors v_inn_things v_inn_dreams v_inn_sleepers v_inn_listeners v_inn_names v_w v_inn_bed) 66 [] := by
    intro  hf H locs ls hl hP hD hS
    rw [eK66] at hf
    replace hf := un0_s hf
    refine lv_aload_n (pc := 66) hx hb dX12_led_66 rfl (lv_at hl 0 rfl) ?_
    refine lv_iconst (pc := 67) (v := 1) hx hb dX12_led_67 (by decide) ?_
    refine r_put (pc := 68) (ws' := (wX12_led E h h_inn h_tape h_far h_from h_real h_other h_kept h_set h_w h_book h_noteSort h_whose h_what h_noteIs h_fitting h_dawn h_likes h_walked h_came h_inn_creak h_inn_doorA h_inn_doorB h_inn_how h_inn_lies h_inn_isCold h_inn_falls h_inn_isFull h_inn_isTold h_inn_act h_inn_what h_inn_then h_inn_met h_inn_bed h_inn_dream h_inn_listens h_inn_name h_inn_nameSort h_inn_nameNumber 1 v_trouble v_where v_read v_taped v_size v_at v_sort v_place v_sign v_number v_fault v_wrongAt v_word v_marks v_notes v_inn_minutes v_inn_rooms v_inn_doors v_inn_things v_inn_dreams v_inn_sleepers v_inn_listeners v_inn_names v_w v_inn_bed)) C hP hD hS 0 rfl fl_X12_71 rfl rfl (Nat.le_of_ble_eq_true rfl) rfl dX12_led_68 ?_
    clear hP hD hS; intro H locs hP hD hS
    refine lv_iconst (pc := 71) (v := 0) hx hb dX12_led_71 (by decide) ?_
    cases hf
    rw [hQ]
    exact r_iret C hr hP hD hS rfl dX12_led_72
  clear eK66
  have key9 : ∀ (n : Nat) (x9_2 : Int32) (x9_3 : Int32) , lp (BX12_led_9 v_inn_sleepers v_w v_inn_bed p0 K66) n (x9_2, x9_3) = some z → AT p l e (rmOf 0 0) s m args below meth c E A Q 0 0 4 [(0, .ref h), (1, .int p0), (2, .int x9_2), (3, .int x9_3)] (wX12_led E h h_inn h_tape h_far h_from h_real h_other h_kept h_set h_w h_book h_noteSort h_whose h_what h_noteIs h_fitting h_dawn h_likes h_walked h_came h_inn_creak h_inn_doorA h_inn_doorB h_inn_how h_inn_lies h_inn_isCold h_inn_falls h_inn_isFull h_inn_isTold h_inn_act h_inn_what h_inn_then h_inn_met h_inn_bed h_inn_dream h_inn_listens h_inn_name h_inn_nameSort h_inn_nameNumber 0 v_trouble v_where v_read v_taped v_size v_at v_sort v_place v_sign v_number v_fault v_wrongAt v_word v_marks v_notes v_inn_minutes v_inn_rooms v_inn_doors v_inn_things v_inn_dreams v_inn_sleepers v_inn_listeners v_inn_names v_w v_inn_bed) 9 [] := by
    intro n
    induction n with
    | zero => intro x9_2 x9_3 hf; exact (lp_0 hf).elim
    | succ n ih9 =>
      intro x9_2 x9_3 hf H locs ls hl hP hD hS
      replace hf := lp_s hf
      generalize lp (BX12_led_9 v_inn_sleepers v_w v_inn_bed p0 K66) n = rec9 at ih9 hf
      unfold BX12_led_9 at hf
      replace hf := un2_s hf
      refine lv_aload_n (pc := 9) hx hb dX12_led_9 rfl (lv_at hl 0 rfl) ?_
      refine r_get (pc := 10) C hP 0 rfl fl_X12_358 rfl dX12_led_10 ?_
      refine lv_ifnull (pc := 13) hx hb dX12_led_13 ?_
      refine lv_iload_n (pc := 16) hx hb dX12_led_16 rfl (lv_at hl 3 rfl) ?_
      refine lv_aload_n (pc := 17) hx hb dX12_led_17 rfl (lv_at hl 0 rfl) ?_
      refine r_get (pc := 18) C hP 0 rfl fl_X12_358 rfl dX12_led_18 ?_
      refine r_get (pc := 21) C hP 1 rfl fl_X12_247 rfl dX12_led_21 ?_
      refine lv_icmp_ge (pc := 24) (tgt := 66) hx hb dX12_led_24 (by decide) (fun c_24 => ?_) (fun c_24 => ?_)
      · replace hf := it_t c_24 hf
        exact hK66  hf _ _ _ (lv_sub hl [0] rfl) hP hD hS
      · replace hf := it_f c_24 hf
        refine lv_aload_n (pc := 27) hx hb dX12_led_27 rfl (lv_at hl 0 rfl) ?_
        refine r_get (pc := 28) C hP 0 rfl fl_X12_36 rfl dX12_led_28 ?_
        refine lv_iconst (pc := 31) (v := 0) hx hb dX12_led_31 (by decide) ?_
        refine lv_iload_n (pc := 32) hx hb dX12_led_32 rfl (lv_at hl 3 rfl) ?_
        refine lv_iadd (pc := 33) hx hb dX12_led_33 ?_
        obtain ⟨hi_34, hf⟩ := gd_s hf
        refine r_iald (pc := 34) C hP 2 rfl hi_34 dX12_led_34 ?_
        refine lv_aload_n (pc := 35) hx hb dX12_led_35 rfl (lv_at hl 0 rfl) ?_
        refine r_get (pc := 36) C hP 0 rfl fl_X12_358 rfl dX12_led_36 ?_
        refine r_get (pc := 39) C hP 1 rfl fl_X12_342 rfl dX12_led_39 ?_
        refine lv_iload_n (pc := 42) hx hb dX12_led_42 rfl (lv_at hl 3 rfl) ?_
        obtain ⟨hi_43, hf⟩ := gd_s hf
        refine r_iald (pc := 43) C hP 3 rfl hi_43 dX12_led_43 ?_
        refine jnK hf (fun j60 ej60 hf => ?_)
        have hj60 : ∀ (x60_2 : Int32) , j60 x60_2 = some z → AT p l e (rmOf 0 0) s m args below meth c E A Q 0 0 4 [(0, .ref h), (1, .int p0), (2, .int x60_2), (3, .int x9_3)] (wX12_led E h h_inn h_tape h_far h_from h_real h_other h_kept h_set h_w h_book h_noteSort h_whose h_what h_noteIs h_fitting h_dawn h_likes h_walked h_came h_inn_creak h_inn_doorA h_inn_doorB h_inn_how h_inn_lies h_inn_isCold h_inn_falls h_inn_isFull h_inn_isTold h_inn_act h_inn_what h_inn_then h_inn_met h_inn_bed h_inn_dream h_inn_listens h_inn_name h_inn_nameSort h_inn_nameNumber 0 v_trouble v_where v_read v_taped v_size v_at v_sort v_place v_sign v_number v_fault v_wrongAt v_word v_marks v_notes v_inn_minutes v_inn_rooms v_inn_doors v_inn_things v_inn_dreams v_inn_sleepers v_inn_listeners v_inn_names v_w v_inn_bed) 60 [] := by
          intro x60_2 hf H locs ls hl hP hD hS
          rw [ej60] at hf
          replace hf := un1_s hf
          refine lv_iinc (pc := 60) (v := x9_3 + 1) (lv' := [(3, .int (x9_3 + 1)), (0, .ref h), (1, .int p0), (2, .int x60_2)]) hx hb dX12_led_60 hl (k := 3) rfl rfl (by decide) rfl (fun ls hl => ?_)
          refine lv_goto (pc := 63) (tgt := 9) hx hb dX12_led_63 (by decide) ?_
          exact ih9 x60_2 (x9_3 + 1) hf _ _ _ (lv_sub hl [1, 2, 3, 0] rfl) hP hD hS
        clear ej60
        refine lv_icmp_ne (pc := 44) (tgt := 50) hx hb dX12_led_44 (by decide) (fun c_44 => ?_) (fun c_44 => ?_)
        · replace hf := it_f c_44 hf
          refine lv_iload_n (pc := 50) hx hb dX12_led_50 rfl (lv_at hl 2 rfl) ?_
          refine lv_iload_n (pc := 51) hx hb dX12_led_51 rfl (lv_at hl 1 rfl) ?_
          refine lv_icmp_ne (pc := 52) (tgt := 57) hx hb dX12_led_52 (by decide) (fun c_52 => ?_) (fun c_52 => ?_)
          · replace hf := it_f c_52 hf
            refine lv_iinc (pc := 57) (v := x9_2 + 1) (lv' := [(2, .int (x9_2 + 1)), (0, .ref h), (1, .int p0), (3, .int x9_3)]) hx hb dX12_led_57 hl (k := 2) rfl rfl (by decide) rfl (fun ls hl => ?_)
            exact hj60 (x9_2 + 1) hf _ _ _ (lv_sub hl [1, 2, 0, 3] rfl) hP hD hS
          · replace hf := it_t c_52 hf
            refine lv_iload_n (pc := 55) hx hb dX12_led_55 rfl (lv_at hl 3 rfl) ?_
            cases hf
            rw [hQ]
            exact r_iret C hr hP hD hS rfl dX12_led_56
        · replace hf := it_t c_44 hf
          refine lv_goto (pc := 47) (tgt := 60) hx hb dX12_led_47 (by decide) ?_
          exact hj60 x9_2 hf _ _ _ (lv_sub hl [0, 1, 2, 3] rfl) hP hD hS
  exact key9 _ 0 0 hf _ _ _ (lv_sub hl [2, 3, 1, 0] rfl) hP hD hS
def wX12_led0 (E : EN) (h h_tape h_far h_from h_real h_other h_kept h_set h_w h_book h_noteSort h_whose h_what h_noteIs h_fitting h_dawn h_likes h_walked h_came : Nat) (v_thrown : Int32) (v_trouble : Int32) (v_where : Int32) (v_read : Option Nat) (v_taped : Int32) (v_size : Int32) (v_at : Int32) (v_sort : Int32) (v_place : Int32) (v_sign : Int32) (v_number : Int32) (v_fault : Int32) (v_wrongAt : Int32) (v_word : Int64) (v_marks : Int32) (v_notes : Int32) : va_W := [(h, .inr (11, [.int v_thrown, .int v_trouble, .int v_where, .null, va_rf v_read, .ref h_tape, .int v_taped, .int v_size, .int v_at, .int v_sort, .int v_place, .int v_sign, .int v_number, .int v_fault, .int v_wrongAt, .long v_word, .ref h_far, .ref h_from, .ref h_real, .ref h_other, .ref h_kept, .ref h_set, .ref h_w, .int v_marks, .int v_notes, .ref h_book, .ref h_noteSort, .ref h_whose, .ref h_what, .ref h_noteIs, .ref h_fitting, .ref h_dawn, .ref h_likes, .ref h_walked, .ref h_came]))]
def BX12_led0_9 (K66 : (Unit) → Option (Int32 × Int32)) (rec9 : (Int32 × Int32) → Option (Int32 × Int32)) : (Int32 × Int32) → Option (Int32 × Int32) := un2 fun (x9_2 : Int32) (x9_3 : Int32) => K66 ()
def fX12_led0 (N : Nat) : Option (Int32 × Int32) := lp (BX12_led0_9 (un0 (some (0, 1)))) N (0, 0)
set_option maxHeartbeats 4000000 in
set_option maxRecDepth 100000 in
theorem ctX12_led0 (l : Launch) (E : EN) (h h_tape h_far h_from h_real h_other h_kept h_set h_w h_book h_noteSort h_whose h_what h_noteIs h_fitting h_dawn h_likes h_walked h_came : Nat) (v_thrown : Int32) (v_trouble : Int32) (v_where : Int32) (v_read : Option Nat) (v_taped : Int32) (v_size : Int32) (v_at : Int32) (v_sort : Int32) (v_place : Int32) (v_sign : Int32) (v_number : Int32) (v_fault : Int32) (v_wrongAt : Int32) (v_word : Int64) (v_marks : Int32) (v_notes : Int32) (N : Nat) (p0 : Int32) (z : Int32 × Int32) (hf : fX12_led0 N  = some z) : CTi l E yX12_led cX12_led 4 .int 0 0 [.ref h, .int p0] (wX12_led0 E h h_tape h_far h_from h_real h_other h_kept h_set h_w h_book h_noteSort h_whose h_what h_noteIs h_fitting h_dawn h_likes h_walked h_came v_thrown v_trouble v_where v_read v_taped v_size v_at v_sort v_place v_sign v_number v_fault v_wrongAt v_word v_marks v_notes) (z.1) (wX12_led0 E h h_tape h_far h_from h_real h_other h_kept h_set h_w h_book h_noteSort h_whose h_what h_noteIs h_fitting h_dawn h_likes h_walked h_came z.2 v_trouble v_where v_read v_taped v_size v_at v_sort v_place v_sign v_number v_fault v_wrongAt v_word v_marks v_notes) := by
  intro sz
  refine ct_body (by decide) (Nat.le_of_ble_eq_true rfl) ?_
  intro p e s m args below meth c A ls hAe C hr hin hP hD hS hl
  have C : CX p s m args meth c cX12_led RX12 4 E A := C
  have hl : lv_has ls 4 [(0, .ref h), (1, .int p0)] := hl
  have hx := C.1
  have hb := C.2.1
  rw [hAe]
  clear hAe
  obtain ⟨Q, hQ⟩ : ∃ Q, Q = MQ below (Qi E A (z.1) (wX12_led0 E h h_tape h_far h_from h_real h_other h_kept h_set h_w h_book h_noteSort h_whose h_what h_noteIs h_fitting h_dawn h_likes h_walked h_came z.2 v_trouble v_where v_read v_taped v_size v_at v_sort v_place v_sign v_number v_fault v_wrongAt v_word v_marks v_notes)) args s 0 0 A := ⟨_, rfl⟩
  rw [← hQ]
  unfold fX12_led0 at hf
  refine lv_aload_n (pc := 0) hx hb dX12_led_0 rfl (lv_at hl 0 rfl) ?_
  refine lv_iconst (pc := 1) (v := 0) hx hb dX12_led_1 (by decide) ?_
  refine r_put (pc := 2) (ws' := (wX12_led0 E h h_tape h_far h_from h_real h_other h_kept h_set h_w h_book h_noteSort h_whose h_what h_noteIs h_fitting h_dawn h_likes h_walked h_came 0 v_trouble v_where v_read v_taped v_size v_at v_sort v_place v_sign v_number v_fault v_wrongAt v_word v_marks v_notes)) C hP hD hS 0 rfl fl_X12_71 rfl rfl (Nat.le_of_ble_eq_true rfl) rfl dX12_led_2 ?_
  clear hP hD hS; intro H locs hP hD hS
  refine lv_iconst (pc := 5) (v := 0) hx hb dX12_led_5 (by decide) ?_
  refine lv_istore_n (pc := 6) (lv' := [(2, .int 0), (0, .ref h), (1, .int p0)]) hx hb dX12_led_6 rfl hl (by decide) rfl (fun ls hl => ?_)
  refine lv_iconst (pc := 7) (v := 0) hx hb dX12_led_7 (by decide) ?_
  refine lv_istore_n (pc := 8) (lv' := [(3, .int 0), (2, .int 0), (0, .ref h), (1, .int p0)]) hx hb dX12_led_8 rfl hl (by decide) rfl (fun ls hl => ?_)
  refine lpK hf (fun K66 eK66 hf => ?_)
  have hK66 : K66 () = some z → AT p l e (rmOf 0 0) s m args below meth c E A Q 0 0 4 [(0, .ref h)] (wX12_led0 E h h_tape h_far h_from h_real h_other h_kept h_set h_w h_book h_noteSort h_whose h_what h_noteIs h_fitting h_dawn h_likes h_walked h_came 0 v_trouble v_where v_read v_taped v_size v_at v_sort v_place v_sign v_number v_fault v_wrongAt v_word v_marks v_notes) 66 [] := by
    intro  hf H locs ls hl hP hD hS
    rw [eK66] at hf
    replace hf := un0_s hf
    refine lv_aload_n (pc := 66) hx hb dX12_led_66 rfl (lv_at hl 0 rfl) ?_
    refine lv_iconst (pc := 67) (v := 1) hx hb dX12_led_67 (by decide) ?_
    refine r_put (pc := 68) (ws' := (wX12_led0 E h h_tape h_far h_from h_real h_other h_kept h_set h_w h_book h_noteSort h_whose h_what h_noteIs h_fitting h_dawn h_likes h_walked h_came 1 v_trouble v_where v_read v_taped v_size v_at v_sort v_place v_sign v_number v_fault v_wrongAt v_word v_marks v_notes)) C hP hD hS 0 rfl fl_X12_71 rfl rfl (Nat.le_of_ble_eq_true rfl) rfl dX12_led_68 ?_
    clear hP hD hS; intro H locs hP hD hS
    refine lv_iconst (pc := 71) (v := 0) hx hb dX12_led_71 (by decide) ?_
    cases hf
    rw [hQ]
    exact r_iret C hr hP hD hS rfl dX12_led_72
  clear eK66
  have key9 : ∀ (n : Nat) (x9_2 : Int32) (x9_3 : Int32) , lp (BX12_led0_9 K66) n (x9_2, x9_3) = some z → AT p l e (rmOf 0 0) s m args below meth c E A Q 0 0 4 [(0, .ref h), (1, .int p0), (2, .int x9_2), (3, .int x9_3)] (wX12_led0 E h h_tape h_far h_from h_real h_other h_kept h_set h_w h_book h_noteSort h_whose h_what h_noteIs h_fitting h_dawn h_likes h_walked h_came 0 v_trouble v_where v_read v_taped v_size v_at v_sort v_place v_sign v_number v_fault v_wrongAt v_word v_marks v_notes) 9 [] := by
    intro n
    induction n with
    | zero => intro x9_2 x9_3 hf; exact (lp_0 hf).elim
    | succ n ih9 =>
      intro x9_2 x9_3 hf H locs ls hl hP hD hS
      replace hf := lp_s hf
      generalize lp (BX12_led0_9 K66) n = rec9 at ih9 hf
      unfold BX12_led0_9 at hf
      replace hf := un2_s hf
      refine lv_aload_n (pc := 9) hx hb dX12_led_9 rfl (lv_at hl 0 rfl) ?_
      refine r_get (pc := 10) C hP 0 rfl fl_X12_358 rfl dX12_led_10 ?_
      refine lv_ifnullN (pc := 13) (tgt := 66) hx hb dX12_led_13 (by decide) ?_
      exact hK66  hf _ _ _ (lv_sub hl [0] rfl) hP hD hS
  exact key9 _ 0 0 hf _ _ _ (lv_sub hl [2, 3, 1, 0] rfl) hP hD hS
def wX12_size (E : EN) (h h_inn h_tape h_far h_from h_real h_other h_kept h_set h_w h_book h_noteSort h_whose h_what h_noteIs h_fitting h_dawn h_likes h_walked h_came h_inn_creak h_inn_doorA h_inn_doorB h_inn_how h_inn_lies h_inn_isCold h_inn_falls h_inn_isFull h_inn_isTold h_inn_act h_inn_what h_inn_then h_inn_met h_inn_bed h_inn_dream h_inn_listens h_inn_name h_inn_nameSort h_inn_nameNumber : Nat) (v_thrown : Int32) (v_trouble : Int32) (v_where : Int32) (v_read : Option Nat) (v_taped : Int32) (v_size : Int32) (v_at : Int32) (v_sort : Int32) (v_place : Int32) (v_sign : Int32) (v_number : Int32) (v_fault : Int32) (v_wrongAt : Int32) (v_word : Int64) (v_marks : Int32) (v_notes : Int32) (v_w : Nat → Int32) (v_inn_minutes : Int32) (v_inn_rooms : Int32) (v_inn_doors : Int32) (v_inn_things : Int32) (v_inn_dreams : Int32) (v_inn_sleepers : Int32) (v_inn_listeners : Int32) (v_inn_names : Int32) : va_W := [(h, .inr (11, [.int v_thrown, .int v_trouble, .int v_where, .ref h_inn, va_rf v_read, .ref h_tape, .int v_taped, .int v_size, .int v_at, .int v_sort, .int v_place, .int v_sign, .int v_number, .int v_fault, .int v_wrongAt, .long v_word, .ref h_far, .ref h_from, .ref h_real, .ref h_other, .ref h_kept, .ref h_set, .ref h_w, .int v_marks, .int v_notes, .ref h_book, .ref h_noteSort, .ref h_whose, .ref h_what, .ref h_noteIs, .ref h_fitting, .ref h_dawn, .ref h_likes, .ref h_walked, .ref h_came])), (h_w, aI E 51 v_w), (h_inn, .inr (10, [.int v_inn_minutes, .int v_inn_rooms, .int v_inn_doors, .int v_inn_things, .int v_inn_dreams, .int v_inn_sleepers, .int v_inn_listeners, .int v_inn_names, .ref h_inn_creak, .ref h_inn_doorA, .ref h_inn_doorB, .ref h_inn_how, .ref h_inn_lies, .ref h_inn_isCold, .ref h_inn_falls, .ref h_inn_isFull, .ref h_inn_isTold, .ref h_inn_act, .ref h_inn_what, .ref h_inn_then, .ref h_inn_met, .ref h_inn_bed, .ref h_inn_dream, .ref h_inn_listens, .ref h_inn_name, .ref h_inn_nameSort, .ref h_inn_nameNumber]))]
def fX12_size (N : Nat) (p0 : Int32) (v_taped : Int32) (v_marks : Int32) (v_notes : Int32) (v_w : Nat → Int32) (v_inn_minutes : Int32) (v_inn_rooms : Int32) (v_inn_doors : Int32) (v_inn_things : Int32) (v_inn_dreams : Int32) (v_inn_sleepers : Int32) (v_inn_listeners : Int32) : Option (Int32 × Int32) := if p0 = 11 then (some (v_taped, 0)) else ((fX12_in N p0 0 10).bind (un1 fun (r_20 : Int32) => if r_20 = 0 then (some ((-1), 0)) else (if p0 = 0 then (some (v_inn_rooms, 0)) else (if p0 = 1 then (some (v_inn_doors, 0)) else (if p0 = 2 then (some (v_inn_things, 0)) else (if p0 = 3 then (some (v_inn_dreams, 0)) else (if p0 = 4 then (some (v_inn_sleepers, 0)) else (if p0 = 5 then (some (v_inn_listeners, 0)) else (if p0 = 6 then (some (v_inn_minutes, 0)) else (if p0 = 7 then (gd 49 51 (some (v_w (49 : Int32).toNatClampNeg, 0))) else (if p0 = 8 then (some (v_notes, 0)) else (if p0 = 9 then (some (v_marks, 0)) else (gd 50 51 (some (v_w (50 : Int32).toNatClampNeg, 0)))))))))))))))
set_option maxHeartbeats 4000000 in
set_option maxRecDepth 100000 in
theorem ctX12_size (l : Launch) (E : EN) (h h_inn h_tape h_far h_from h_real h_other h_kept h_set h_w h_book h_noteSort h_whose h_what h_noteIs h_fitting h_dawn h_likes h_walked h_came h_inn_creak h_inn_doorA h_inn_doorB h_inn_how h_inn_lies h_inn_isCold h_inn_falls h_inn_isFull h_inn_isTold h_inn_act h_inn_what h_inn_then h_inn_met h_inn_bed h_inn_dream h_inn_listens h_inn_name h_inn_nameSort h_inn_nameNumber : Nat) (v_thrown : Int32) (v_trouble : Int32) (v_where : Int32) (v_read : Option Nat) (v_taped : Int32) (v_size : Int32) (v_at : Int32) (v_sort : Int32) (v_place : Int32) (v_sign : Int32) (v_number : Int32) (v_fault : Int32) (v_wrongAt : Int32) (v_word : Int64) (v_marks : Int32) (v_notes : Int32) (v_w : Nat → Int32) (v_inn_minutes : Int32) (v_inn_rooms : Int32) (v_inn_doors : Int32) (v_inn_things : Int32) (v_inn_dreams : Int32) (v_inn_sleepers : Int32) (v_inn_listeners : Int32) (v_inn_names : Int32) (N : Nat) (p0 : Int32) (z : Int32 × Int32) (hf : fX12_size N p0 v_taped v_marks v_notes v_w v_inn_minutes v_inn_rooms v_inn_doors v_inn_things v_inn_dreams v_inn_sleepers v_inn_listeners = some z) : CTi l E yX12_size cX12_size 2 .int 1 22 [.ref h, .int p0] (wX12_size E h h_inn h_tape h_far h_from h_real h_other h_kept h_set h_w h_book h_noteSort h_whose h_what h_noteIs h_fitting h_dawn h_likes h_walked h_came h_inn_creak h_inn_doorA h_inn_doorB h_inn_how h_inn_lies h_inn_isCold h_inn_falls h_inn_isFull h_inn_isTold h_inn_act h_inn_what h_inn_then h_inn_met h_inn_bed h_inn_dream h_inn_listens h_inn_name h_inn_nameSort h_inn_nameNumber v_thrown v_trouble v_where v_read v_taped v_size v_at v_sort v_place v_sign v_number v_fault v_wrongAt v_word v_marks v_notes v_w v_inn_minutes v_inn_rooms v_inn_doors v_inn_things v_inn_dreams v_inn_sleepers v_inn_listeners v_inn_names) (z.1) (wX12_size E h h_inn h_tape h_far h_from h_real h_other h_kept h_set h_w h_book h_noteSort h_whose h_what h_noteIs h_fitting h_dawn h_likes h_walked h_came h_inn_creak h_inn_doorA h_inn_doorB h_inn_how h_inn_lies h_inn_isCold h_inn_falls h_inn_isFull h_inn_isTold h_inn_act h_inn_what h_inn_then h_inn_met h_inn_bed h_inn_dream h_inn_listens h_inn_name h_inn_nameSort h_inn_nameNumber z.2 v_trouble v_where v_read v_taped v_size v_at v_sort v_place v_sign v_number v_fault v_wrongAt v_word v_marks v_notes v_w v_inn_minutes v_inn_rooms v_inn_doors v_inn_things v_inn_dreams v_inn_sleepers v_inn_listeners v_inn_names) := by
  intro sz
  refine ct_body (by decide) (Nat.le_of_ble_eq_true rfl) ?_
  intro p e s m args below meth c A ls hAe C hr hin hP hD hS hl
  have C : CX p s m args meth c cX12_size RX12 2 E A := C
  have hl : lv_has ls 2 [(0, .ref h), (1, .int p0)] := hl
  have hx := C.1
  have hb := C.2.1
  rw [hAe]
  clear hAe
  obtain ⟨Q, hQ⟩ : ∃ Q, Q = MQ below (Qi E A (z.1) (wX12_size E h h_inn h_tape h_far h_from h_real h_other h_kept h_set h_w h_book h_noteSort h_whose h_what h_noteIs h_fitting h_dawn h_likes h_walked h_came h_inn_creak h_inn_doorA h_inn_doorB h_inn_how h_inn_lies h_inn_isCold h_inn_falls h_inn_isFull h_inn_isTold h_inn_act h_inn_what h_inn_then h_inn_met h_inn_bed h_inn_dream h_inn_listens h_inn_name h_inn_nameSort h_inn_nameNumber z.2 v_trouble v_where v_read v_taped v_size v_at v_sort v_place v_sign v_number v_fault v_wrongAt v_word v_marks v_notes v_w v_inn_minutes v_inn_rooms v_inn_doors v_inn_things v_inn_dreams v_inn_sleepers v_inn_listeners v_inn_names)) args s 0 0 A := ⟨_, rfl⟩
  rw [← hQ]
  unfold fX12_size at hf
  refine lv_aload_n (pc := 0) hx hb dX12_size_0 rfl (lv_at hl 0 rfl) ?_
  refine lv_iconst (pc := 1) (v := 0) hx hb dX12_size_1 (by decide) ?_
  refine r_put (pc := 2) (ws' := (wX12_size E h h_inn h_tape h_far h_from h_real h_other h_kept h_set h_w h_book h_noteSort h_whose h_what h_noteIs h_fitting h_dawn h_likes h_walked h_came h_inn_creak h_inn_doorA h_inn_doorB h_inn_how h_inn_lies h_inn_isCold h_inn_falls h_inn_isFull h_inn_isTold h_inn_act h_inn_what h_inn_then h_inn_met h_inn_bed h_inn_dream h_inn_listens h_inn_name h_inn_nameSort h_inn_nameNumber 0 v_trouble v_where v_read v_taped v_size v_at v_sort v_place v_sign v_number v_fault v_wrongAt v_word v_marks v_notes v_w v_inn_minutes v_inn_rooms v_inn_doors v_inn_things v_inn_dreams v_inn_sleepers v_inn_listeners v_inn_names)) C hP hD hS 0 rfl fl_X12_71 rfl rfl (Nat.le_of_ble_eq_true rfl) rfl dX12_size_2 ?_
  clear hP hD hS; intro H locs hP hD hS
  refine lv_iload_n (pc := 5) hx hb dX12_size_5 rfl (lv_at hl 1 rfl) ?_
  refine lv_bipush (pc := 6) (v := 11) hx hb dX12_size_6 (by decide) ?_
  refine lv_icmp_ne (pc := 8) (tgt := 16) hx hb dX12_size_8 (by decide) (fun c_8 => ?_) (fun c_8 => ?_)
  · replace hf := it_f c_8 hf
    refine lv_iload_n (pc := 16) hx hb dX12_size_16 rfl (lv_at hl 1 rfl) ?_
    refine lv_iconst (pc := 17) (v := 0) hx hb dX12_size_17 (by decide) ?_
    refine lv_bipush (pc := 18) (v := 10) hx hb dX12_size_18 (by decide) ?_
    obtain ⟨r_20, hc_20, hf⟩ := bd1 hf
    refine r_dalSi (pc := 20) (Cn := "") (h := 0) (ws' := (wX12_size E h h_inn h_tape h_far h_from h_real h_other h_kept h_set h_w h_book h_noteSort h_whose h_what h_noteIs h_fitting h_dawn h_likes h_walked h_came h_inn_creak h_inn_doorA h_inn_doorB h_inn_how h_inn_lies h_inn_isCold h_inn_falls h_inn_isFull h_inn_isTold h_inn_act h_inn_what h_inn_then h_inn_met h_inn_bed h_inn_dream h_inn_listens h_inn_name h_inn_nameSort h_inn_nameNumber 0 v_trouble v_where v_read v_taped v_size v_at v_sort v_place v_sign v_number v_fault v_wrongAt v_word v_marks v_notes v_w v_inn_minutes v_inn_rooms v_inn_doors v_inn_things v_inn_dreams v_inn_sleepers v_inn_listeners v_inn_names)) (As := [.int p0, .int 0, .int 10]) (rest := []) C (ctX12_in l E N p0 0 10 r_20 hc_20) ml_X12_149 ⟨Nat.le_of_ble_eq_true rfl, Nat.le_of_ble_eq_true rfl⟩ hP hD hS [] [0, 1, 2] 3 rfl rfl rfl rfl rfl rfl rfl hl.1 rfl (Nat.le_of_ble_eq_true rfl) ⟨Nat.zero_le _, Nat.zero_le _⟩ dX12_size_20 ?_
    clear hP hD hS; intro H locs hP hD hS
    refine lv_if_ne (pc := 23) (tgt := 28) hx hb dX12_size_23 (by decide) (fun c_23 => ?_) (fun c_23 => ?_)
    · replace hf := it_f c_23 hf
      refine lv_aload_n (pc := 28) hx hb dX12_size_28 rfl (lv_at hl 0 rfl) ?_
      refine r_get (pc := 29) C hP 0 rfl fl_X12_358 rfl dX12_size_29 ?_
      refine lv_ifnonnull (pc := 32) (tgt := 37) hx hb dX12_size_32 (by decide) ?_
      refine lv_iload_n (pc := 37) hx hb dX12_size_37 rfl (lv_at hl 1 rfl) ?_
      by_cases c_38_0 : p0 = 0
      · replace hf := it_t c_38_0 hf
        refine lv_tableIn (pc := 38) (off := 54) (tgt := 92) hx hb dX12_size_38 (by rw [c_38_0]; decide) (by rw [c_38_0]; decide) (by rw [c_38_0]; rfl) (by decide) ?_
        refine lv_aload_n (pc := 92) hx hb dX12_size_92 rfl (lv_at hl 0 rfl) ?_
        refine r_get (pc := 93) C hP 0 rfl fl_X12_358 rfl dX12_size_93 ?_
        refine r_get (pc := 96) C hP 2 rfl fl_X12_244 rfl dX12_size_96 ?_
        cases hf
        rw [hQ]
        exact r_iret C hr hP hD hS rfl dX12_size_99
      · replace hf := it_f c_38_0 hf
        by_cases c_38_1 : p0 = 1
        · replace hf := it_t c_38_1 hf
          refine lv_tableIn (pc := 38) (off := 62) (tgt := 100) hx hb dX12_size_38 (by rw [c_38_1]; decide) (by rw [c_38_1]; decide) (by rw [c_38_1]; rfl) (by decide) ?_
          refine lv_aload_n (pc := 100) hx hb dX12_size_100 rfl (lv_at hl 0 rfl) ?_
          refine r_get (pc := 101) C hP 0 rfl fl_X12_358 rfl dX12_size_101 ?_
          refine r_get (pc := 104) C hP 2 rfl fl_X12_292 rfl dX12_size_104 ?_
          cases hf
          rw [hQ]
          exact r_iret C hr hP hD hS rfl dX12_size_107
        · replace hf := it_f c_38_1 hf
          by_cases c_38_2 : p0 = 2
          · replace hf := it_t c_38_2 hf
            refine lv_tableIn (pc := 38) (off := 70) (tgt := 108) hx hb dX12_size_38 (by rw [c_38_2]; decide) (by rw [c_38_2]; decide) (by rw [c_38_2]; rfl) (by decide) ?_
            refine lv_aload_n (pc := 108) hx hb dX12_size_108 rfl (lv_at hl 0 rfl) ?_
            refine r_get (pc := 109) C hP 0 rfl fl_X12_358 rfl dX12_size_109 ?_
            refine r_get (pc := 112) C hP 2 rfl fl_X12_315 rfl dX12_size_112 ?_
            cases hf
            rw [hQ]
            exact r_iret C hr hP hD hS rfl dX12_size_115
          · replace hf := it_f c_38_2 hf
            by_cases c_38_3 : p0 = 3
            · replace hf := it_t c_38_3 hf
              refine lv_tableIn (pc := 38) (off := 78) (tgt := 116) hx hb dX12_size_38 (by rw [c_38_3]; decide) (by rw [c_38_3]; decide) (by rw [c_38_3]; rfl) (by decide) ?_
              refine lv_aload_n (pc := 116) hx hb dX12_size_116 rfl (lv_at hl 0 rfl) ?_
              refine r_get (pc := 117) C hP 0 rfl fl_X12_358 rfl dX12_size_117 ?_
              refine r_get (pc := 120) C hP 2 rfl fl_X12_325 rfl dX12_size_120 ?_
              cases hf
              rw [hQ]
              exact r_iret C hr hP hD hS rfl dX12_size_123
            · replace hf := it_f c_38_3 hf
              by_cases c_38_4 : p0 = 4
              · replace hf := it_t c_38_4 hf
                refine lv_tableIn (pc := 38) (off := 86) (tgt := 124) hx hb dX12_size_38 (by rw [c_38_4]; decide) (by rw [c_38_4]; decide) (by rw [c_38_4]; rfl) (by decide) ?_
                refine lv_aload_n (pc := 124) hx hb dX12_size_124 rfl (lv_at hl 0 rfl) ?_
                refine r_get (pc := 125) C hP 0 rfl fl_X12_358 rfl dX12_size_125 ?_
                refine r_get (pc := 128) C hP 2 rfl fl_X12_247 rfl dX12_size_128 ?_
                cases hf
                rw [hQ]
                exact r_iret C hr hP hD hS rfl dX12_size_131
              · replace hf := it_f c_38_4 hf
                by_cases c_38_5 : p0 = 5
                · replace hf := it_t c_38_5 hf
                  refine lv_tableIn (pc := 38) (off := 94) (tgt := 132) hx hb dX12_size_38 (by rw [c_38_5]; decide) (by rw [c_38_5]; decide) (by rw [c_38_5]; rfl) (by decide) ?_
                  refine lv_aload_n (pc := 132) hx hb dX12_size_132 rfl (lv_at hl 0 rfl) ?_
                  refine r_get (pc := 133) C hP 0 rfl fl_X12_358 rfl dX12_size_133 ?_
                  refine r_get (pc := 136) C hP 2 rfl fl_X12_346 rfl dX12_size_136 ?_
                  cases hf
                  rw [hQ]
                  exact r_iret C hr hP hD hS rfl dX12_size_139
                · replace hf := it_f c_38_5 hf
                  by_cases c_38_6 : p0 = 6
                  · replace hf := it_t c_38_6 hf
                    refine lv_tableIn (pc := 38) (off := 102) (tgt := 140) hx hb dX12_size_38 (by rw [c_38_6]; decide) (by rw [c_38_6]; decide) (by rw [c_38_6]; rfl) (by decide) ?_
                    refine lv_aload_n (pc := 140) hx hb dX12_size_140 rfl (lv_at hl 0 rfl) ?_
                    refine r_get (pc := 141) C hP 0 rfl fl_X12_358 rfl dX12_size_141 ?_
                    refine r_get (pc := 144) C hP 2 rfl fl_X12_241 rfl dX12_size_144 ?_
                    cases hf
                    rw [hQ]
                    exact r_iret C hr hP hD hS rfl dX12_size_147
                  · replace hf := it_f c_38_6 hf
                    by_cases c_38_7 : p0 = 7
                    · replace hf := it_t c_38_7 hf
                      refine lv_tableIn (pc := 38) (off := 110) (tgt := 148) hx hb dX12_size_38 (by rw [c_38_7]; decide) (by rw [c_38_7]; decide) (by rw [c_38_7]; rfl) (by decide) ?_
                      refine lv_aload_n (pc := 148) hx hb dX12_size_148 rfl (lv_at hl 0 rfl) ?_
                      refine r_get (pc := 149) C hP 0 rfl fl_X12_36 rfl dX12_size_149 ?_
                      refine lv_bipush (pc := 152) (v := 49) hx hb dX12_size_152 (by decide) ?_
                      obtain ⟨hi_154, hf⟩ := gd_s hf
                      refine r_iald (pc := 154) C hP 1 rfl hi_154 dX12_size_154 ?_
                      cases hf
                      rw [hQ]
                      exact r_iret C hr hP hD hS rfl dX12_size_155
                    · replace hf := it_f c_38_7 hf
                      by_cases c_38_8 : p0 = 8
                      · replace hf := it_t c_38_8 hf
                        refine lv_tableIn (pc := 38) (off := 118) (tgt := 156) hx hb dX12_size_38 (by rw [c_38_8]; decide) (by rw [c_38_8]; decide) (by rw [c_38_8]; rfl) (by decide) ?_
                        refine lv_aload_n (pc := 156) hx hb dX12_size_156 rfl (lv_at hl 0 rfl) ?_
                        refine r_get (pc := 157) C hP 0 rfl fl_X12_360 rfl dX12_size_157 ?_
                        cases hf
                        rw [hQ]
                        exact r_iret C hr hP hD hS rfl dX12_size_160
                      · replace hf := it_f c_38_8 hf
                        by_cases c_38_9 : p0 = 9
                        · replace hf := it_t c_38_9 hf
                          refine lv_tableIn (pc := 38) (off := 123) (tgt := 161) hx hb dX12_size_38 (by rw [c_38_9]; decide) (by rw [c_38_9]; decide) (by rw [c_38_9]; rfl) (by decide) ?_
                          refine lv_aload_n (pc := 161) hx hb dX12_size_161 rfl (lv_at hl 0 rfl) ?_
                          refine r_get (pc := 162) C hP 0 rfl fl_X12_363 rfl dX12_size_162 ?_
                          cases hf
                          rw [hQ]
                          exact r_iret C hr hP hD hS rfl dX12_size_165
                        · replace hf := it_f c_38_9 hf
                          refine lv_tableOut (pc := 38) (tgt := 166) hx hb dX12_size_38 (by have g0 := lv_neT (a := 0) c_38_0 (by decide); have g1 := lv_neT (a := 1) c_38_1 (by decide); have g2 := lv_neT (a := 2) c_38_2 (by decide); have g3 := lv_neT (a := 3) c_38_3 (by decide); have g4 := lv_neT (a := 4) c_38_4 (by decide); have g5 := lv_neT (a := 5) c_38_5 (by decide); have g6 := lv_neT (a := 6) c_38_6 (by decide); have g7 := lv_neT (a := 7) c_38_7 (by decide); have g8 := lv_neT (a := 8) c_38_8 (by decide); have g9 := lv_neT (a := 9) c_38_9 (by decide); omega) (by decide) ?_
                          refine lv_aload_n (pc := 166) hx hb dX12_size_166 rfl (lv_at hl 0 rfl) ?_
                          refine r_get (pc := 167) C hP 0 rfl fl_X12_36 rfl dX12_size_167 ?_
                          refine lv_bipush (pc := 170) (v := 50) hx hb dX12_size_170 (by decide) ?_
                          obtain ⟨hi_172, hf⟩ := gd_s hf
                          refine r_iald (pc := 172) C hP 1 rfl hi_172 dX12_size_172 ?_
                          cases hf
                          rw [hQ]
                          exact r_iret C hr hP hD hS rfl dX12_size_173
    · replace hf := it_t c_23 hf
      refine lv_iconst (pc := 26) (v := (-1)) hx hb dX12_size_26 (by decide) ?_
      cases hf
      rw [hQ]
      exact r_iret C hr hP hD hS rfl dX12_size_27
  · replace hf := it_t c_8 hf
    refine lv_aload_n (pc := 11) hx hb dX12_size_11 rfl (lv_at hl 0 rfl) ?_
    refine r_get (pc := 12) C hP 0 rfl fl_X12_351 rfl dX12_size_12 ?_
    cases hf
    rw [hQ]
    exact r_iret C hr hP hD hS rfl dX12_size_15
def wX12_size0 (E : EN) (h h_tape h_far h_from h_real h_other h_kept h_set h_w h_book h_noteSort h_whose h_what h_noteIs h_fitting h_dawn h_likes h_walked h_came : Nat) (v_thrown : Int32) (v_trouble : Int32) (v_where : Int32) (v_read : Option Nat) (v_taped : Int32) (v_size : Int32) (v_at : Int32) (v_sort : Int32) (v_place : Int32) (v_sign : Int32) (v_number : Int32) (v_fault : Int32) (v_wrongAt : Int32) (v_word : Int64) (v_marks : Int32) (v_notes : Int32) : va_W := [(h, .inr (11, [.int v_thrown, .int v_trouble, .int v_where, .null, va_rf v_read, .ref h_tape, .int v_taped, .int v_size, .int v_at, .int v_sort, .int v_place, .int v_sign, .int v_number, .int v_fault, .int v_wrongAt, .long v_word, .ref h_far, .ref h_from, .ref h_real, .ref h_other, .ref h_kept, .ref h_set, .ref h_w, .int v_marks, .int v_notes, .ref h_book, .ref h_noteSort, .ref h_whose, .ref h_what, .ref h_noteIs, .ref h_fitting, .ref h_dawn, .ref h_likes, .ref h_walked, .ref h_came]))]
def fX12_size0 (N : Nat) (p0 : Int32) (v_taped : Int32) : Option (Int32 × Int32) := if p0 = 11 then (some (v_taped, 0)) else ((fX12_in N p0 0 10).bind (un1 fun (r_20 : Int32) => if r_20 = 0 then (some ((-1), 0)) else (some (0, 0))))
set_option maxHeartbeats 4000000 in
set_option maxRecDepth 100000 in
theorem ctX12_size0 (l : Launch) (E : EN) (h h_tape h_far h_from h_real h_other h_kept h_set h_w h_book h_noteSort h_whose h_what h_noteIs h_fitting h_dawn h_likes h_walked h_came : Nat) (v_thrown : Int32) (v_trouble : Int32) (v_where : Int32) (v_read : Option Nat) (v_taped : Int32) (v_size : Int32) (v_at : Int32) (v_sort : Int32) (v_place : Int32) (v_sign : Int32) (v_number : Int32) (v_fault : Int32) (v_wrongAt : Int32) (v_word : Int64) (v_marks : Int32) (v_notes : Int32) (N : Nat) (p0 : Int32) (z : Int32 × Int32) (hf : fX12_size0 N p0 v_taped = some z) : CTi l E yX12_size cX12_size 2 .int 1 22 [.ref h, .int p0] (wX12_size0 E h h_tape h_far h_from h_real h_other h_kept h_set h_w h_book h_noteSort h_whose h_what h_noteIs h_fitting h_dawn h_likes h_walked h_came v_thrown v_trouble v_where v_read v_taped v_size v_at v_sort v_place v_sign v_number v_fault v_wrongAt v_word v_marks v_notes) (z.1) (wX12_size0 E h h_tape h_far h_from h_real h_other h_kept h_set h_w h_book h_noteSort h_whose h_what h_noteIs h_fitting h_dawn h_likes h_walked h_came z.2 v_trouble v_where v_read v_taped v_size v_at v_sort v_place v_sign v_number v_fault v_wrongAt v_word v_marks v_notes) := by
  intro sz
  refine ct_body (by decide) (Nat.le_of_ble_eq_true rfl) ?_
  intro p e s m args below meth c A ls hAe C hr hin hP hD hS hl
  have C : CX p s m args meth c cX12_size RX12 2 E A := C
  have hl : lv_has ls 2 [(0, .ref h), (1, .int p0)] := hl
  have hx := C.1
  have hb := C.2.1
  rw [hAe]
  clear hAe
  obtain ⟨Q, hQ⟩ : ∃ Q, Q = MQ below (Qi E A (z.1) (wX12_size0 E h h_tape h_far h_from h_real h_other h_kept h_set h_w h_book h_noteSort h_whose h_what h_noteIs h_fitting h_dawn h_likes h_walked h_came z.2 v_trouble v_where v_read v_taped v_size v_at v_sort v_place v_sign v_number v_fault v_wrongAt v_word v_marks v_notes)) args s 0 0 A := ⟨_, rfl⟩
  rw [← hQ]
  unfold fX12_size0 at hf
  refine lv_aload_n (pc := 0) hx hb dX12_size_0 rfl (lv_at hl 0 rfl) ?_
  refine lv_iconst (pc := 1) (v := 0) hx hb dX12_size_1 (by decide) ?_
  refine r_put (pc := 2) (ws' := (wX12_size0 E h h_tape h_far h_from h_real h_other h_kept h_set h_w h_book h_noteSort h_whose h_what h_noteIs h_fitting h_dawn h_likes h_walked h_came 0 v_trouble v_where v_read v_taped v_size v_at v_sort v_place v_sign v_number v_fault v_wrongAt v_word v_marks v_notes)) C hP hD hS 0 rfl fl_X12_71 rfl rfl (Nat.le_of_ble_eq_true rfl) rfl dX12_size_2 ?_
  clear hP hD hS; intro H locs hP hD hS
  refine lv_iload_n (pc := 5) hx hb dX12_size_5 rfl (lv_at hl 1 rfl) ?_
  refine lv_bipush (pc := 6) (v := 11) hx hb dX12_size_6 (by decide) ?_
  refine lv_icmp_ne (pc := 8) (tgt := 16) hx hb dX12_size_8 (by decide) (fun c_8 => ?_) (fun c_8 => ?_)
  · replace hf := it_f c_8 hf
    refine lv_iload_n (pc := 16) hx hb dX12_size_16 rfl (lv_at hl 1 rfl) ?_
    refine lv_iconst (pc := 17) (v := 0) hx hb dX12_size_17 (by decide) ?_
    refine lv_bipush (pc := 18) (v := 10) hx hb dX12_size_18 (by decide) ?_
    obtain ⟨r_20, hc_20, hf⟩ := bd1 hf
    refine r_dalSi (pc := 20) (Cn := "") (h := 0) (ws' := (wX12_size0 E h h_tape h_far h_from h_real h_other h_kept h_set h_w h_book h_noteSort h_whose h_what h_noteIs h_fitting h_dawn h_likes h_walked h_came 0 v_trouble v_where v_read v_taped v_size v_at v_sort v_place v_sign v_number v_fault v_wrongAt v_word v_marks v_notes)) (As := [.int p0, .int 0, .int 10]) (rest := []) C (ctX12_in l E N p0 0 10 r_20 hc_20) ml_X12_149 ⟨Nat.le_of_ble_eq_true rfl, Nat.le_of_ble_eq_true rfl⟩ hP hD hS [] [0] 1 rfl rfl rfl rfl rfl rfl rfl hl.1 rfl (Nat.le_of_ble_eq_true rfl) ⟨Nat.zero_le _, Nat.zero_le _⟩ dX12_size_20 ?_
    clear hP hD hS; intro H locs hP hD hS
    refine lv_if_ne (pc := 23) (tgt := 28) hx hb dX12_size_23 (by decide) (fun c_23 => ?_) (fun c_23 => ?_)
    · replace hf := it_f c_23 hf
      refine lv_aload_n (pc := 28) hx hb dX12_size_28 rfl (lv_at hl 0 rfl) ?_
      refine r_get (pc := 29) C hP 0 rfl fl_X12_358 rfl dX12_size_29 ?_
      refine lv_ifnonnullN (pc := 32) hx hb dX12_size_32 ?_
      refine lv_iconst (pc := 35) (v := 0) hx hb dX12_size_35 (by decide) ?_
      cases hf
      rw [hQ]
      exact r_iret C hr hP hD hS rfl dX12_size_36
    · replace hf := it_t c_23 hf
      refine lv_iconst (pc := 26) (v := (-1)) hx hb dX12_size_26 (by decide) ?_
      cases hf
      rw [hQ]
      exact r_iret C hr hP hD hS rfl dX12_size_27
  · replace hf := it_t c_8 hf
    refine lv_aload_n (pc := 11) hx hb dX12_size_11 rfl (lv_at hl 0 rfl) ?_
    refine r_get (pc := 12) C hP 0 rfl fl_X12_351 rfl dX12_size_12 ?_
    cases hf
    rw [hQ]
    exact r_iret C hr hP hD hS rfl dX12_size_15
def wX12_trouble (E : EN) (h h_tape h_far h_from h_real h_other h_kept h_set h_w h_book h_noteSort h_whose h_what h_noteIs h_fitting h_dawn h_likes h_walked h_came : Nat) (v_thrown : Int32) (v_trouble : Int32) (v_where : Int32) (v_inn : Option Nat) (v_read : Option Nat) (v_taped : Int32) (v_size : Int32) (v_at : Int32) (v_sort : Int32) (v_place : Int32) (v_sign : Int32) (v_number : Int32) (v_fault : Int32) (v_wrongAt : Int32) (v_word : Int64) (v_marks : Int32) (v_notes : Int32) : va_W := [(h, .inr (11, [.int v_thrown, .int v_trouble, .int v_where, va_rf v_inn, va_rf v_read, .ref h_tape, .int v_taped, .int v_size, .int v_at, .int v_sort, .int v_place, .int v_sign, .int v_number, .int v_fault, .int v_wrongAt, .long v_word, .ref h_far, .ref h_from, .ref h_real, .ref h_other, .ref h_kept, .ref h_set, .ref h_w, .int v_marks, .int v_notes, .ref h_book, .ref h_noteSort, .ref h_whose, .ref h_what, .ref h_noteIs, .ref h_fitting, .ref h_dawn, .ref h_likes, .ref h_walked, .ref h_came]))]
def fX12_trouble (N : Nat) (v_trouble : Int32) : Option (Int32 × Int32) := some (v_trouble, 0)
set_option maxHeartbeats 4000000 in
set_option maxRecDepth 100000 in
theorem ctX12_trouble (l : Launch) (E : EN) (h h_tape h_far h_from h_real h_other h_kept h_set h_w h_book h_noteSort h_whose h_what h_noteIs h_fitting h_dawn h_likes h_walked h_came : Nat) (v_thrown : Int32) (v_trouble : Int32) (v_where : Int32) (v_inn : Option Nat) (v_read : Option Nat) (v_taped : Int32) (v_size : Int32) (v_at : Int32) (v_sort : Int32) (v_place : Int32) (v_sign : Int32) (v_number : Int32) (v_fault : Int32) (v_wrongAt : Int32) (v_word : Int64) (v_marks : Int32) (v_notes : Int32) (N : Nat) (z : Int32 × Int32) (hf : fX12_trouble N v_trouble = some z) : CTi l E yX12_trouble cX12_trouble 1 .int 0 0 [.ref h] (wX12_trouble E h h_tape h_far h_from h_real h_other h_kept h_set h_w h_book h_noteSort h_whose h_what h_noteIs h_fitting h_dawn h_likes h_walked h_came v_thrown v_trouble v_where v_inn v_read v_taped v_size v_at v_sort v_place v_sign v_number v_fault v_wrongAt v_word v_marks v_notes) (z.1) (wX12_trouble E h h_tape h_far h_from h_real h_other h_kept h_set h_w h_book h_noteSort h_whose h_what h_noteIs h_fitting h_dawn h_likes h_walked h_came z.2 v_trouble v_where v_inn v_read v_taped v_size v_at v_sort v_place v_sign v_number v_fault v_wrongAt v_word v_marks v_notes) := by
  intro sz
  refine ct_body (by decide) (Nat.le_of_ble_eq_true rfl) ?_
  intro p e s m args below meth c A ls hAe C hr hin hP hD hS hl
  have C : CX p s m args meth c cX12_trouble RX12 1 E A := C
  have hl : lv_has ls 1 [(0, .ref h)] := hl
  have hx := C.1
  have hb := C.2.1
  rw [hAe]
  clear hAe
  obtain ⟨Q, hQ⟩ : ∃ Q, Q = MQ below (Qi E A (z.1) (wX12_trouble E h h_tape h_far h_from h_real h_other h_kept h_set h_w h_book h_noteSort h_whose h_what h_noteIs h_fitting h_dawn h_likes h_walked h_came z.2 v_trouble v_where v_inn v_read v_taped v_size v_at v_sort v_place v_sign v_number v_fault v_wrongAt v_word v_marks v_notes)) args s 0 0 A := ⟨_, rfl⟩
  rw [← hQ]
  unfold fX12_trouble at hf
  refine lv_aload_n (pc := 0) hx hb dX12_trouble_0 rfl (lv_at hl 0 rfl) ?_
  refine lv_iconst (pc := 1) (v := 0) hx hb dX12_trouble_1 (by decide) ?_
  refine r_put (pc := 2) (ws' := (wX12_trouble E h h_tape h_far h_from h_real h_other h_kept h_set h_w h_book h_noteSort h_whose h_what h_noteIs h_fitting h_dawn h_likes h_walked h_came 0 v_trouble v_where v_inn v_read v_taped v_size v_at v_sort v_place v_sign v_number v_fault v_wrongAt v_word v_marks v_notes)) C hP hD hS 0 rfl fl_X12_71 rfl rfl (Nat.le_of_ble_eq_true rfl) rfl dX12_trouble_2 ?_
  clear hP hD hS; intro H locs hP hD hS
  refine lv_aload_n (pc := 5) hx hb dX12_trouble_5 rfl (lv_at hl 0 rfl) ?_
  refine r_get (pc := 6) C hP 0 rfl fl_X12_74 rfl dX12_trouble_6 ?_
  cases hf
  rw [hQ]
  exact r_iret C hr hP hD hS rfl dX12_trouble_9
