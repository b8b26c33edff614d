theorem dX4_init_0 : decode cX4_init 0 = .ok (.aload_n 0, 1) := by decide +kernel
theorem dX4_init_1 : decode cX4_init 1 = .ok (.invokespecial 3, 3) := by decide +kernel
theorem dX4_init_4 : decode cX4_init 4 = .ok (.aload_n 0, 1) := by decide +kernel
theorem dX4_init_5 : decode cX4_init 5 = .ok (.iload_n 1, 1) := by decide +kernel
theorem dX4_init_6 : decode cX4_init 6 = .ok (.putfield 9, 3) := by decide +kernel
theorem dX4_init_9 : decode cX4_init 9 = .ok (.aload_n 0, 1) := by decide +kernel
theorem dX4_init_10 : decode cX4_init 10 = .ok (.iload_n 2, 1) := by decide +kernel
theorem dX4_init_11 : decode cX4_init 11 = .ok (.putfield 15, 3) := by decide +kernel
theorem dX4_init_14 : decode cX4_init 14 = .ok (.aload_n 0, 1) := by decide +kernel
theorem dX4_init_15 : decode cX4_init 15 = .ok (.iload_n 3, 1) := by decide +kernel
theorem dX4_init_16 : decode cX4_init 16 = .ok (.putfield 18, 3) := by decide +kernel
theorem dX4_init_19 : decode cX4_init 19 = .ok (.aload_n 0, 1) := by decide +kernel
theorem dX4_init_20 : decode cX4_init 20 = .ok (.bipush 120, 2) := by decide +kernel
theorem dX4_init_22 : decode cX4_init 22 = .ok (.newarray .int, 2) := by decide +kernel
theorem dX4_init_24 : decode cX4_init 24 = .ok (.putfield 21, 3) := by decide +kernel
theorem dX4_init_27 : decode cX4_init 27 = .ok (.aload_n 0, 1) := by decide +kernel
theorem dX4_init_28 : decode cX4_init 28 = .ok (.bipush 120, 2) := by decide +kernel
theorem dX4_init_30 : decode cX4_init 30 = .ok (.newarray .long, 2) := by decide +kernel
theorem dX4_init_32 : decode cX4_init 32 = .ok (.putfield 25, 3) := by decide +kernel
theorem dX4_init_35 : decode cX4_init 35 = .ok (.aload_n 0, 1) := by decide +kernel
theorem dX4_init_36 : decode cX4_init 36 = .ok (.bipush 120, 2) := by decide +kernel
theorem dX4_init_38 : decode cX4_init 38 = .ok (.newarray .int, 2) := by decide +kernel
theorem dX4_init_40 : decode cX4_init 40 = .ok (.putfield 29, 3) := by decide +kernel
theorem dX4_init_43 : decode cX4_init 43 = .ok (.aload_n 0, 1) := by decide +kernel
theorem dX4_init_44 : decode cX4_init 44 = .ok (.bipush 120, 2) := by decide +kernel
theorem dX4_init_46 : decode cX4_init 46 = .ok (.newarray .int, 2) := by decide +kernel
theorem dX4_init_48 : decode cX4_init 48 = .ok (.putfield 32, 3) := by decide +kernel
theorem dX4_init_51 : decode cX4_init 51 = .ok (.aload_n 0, 1) := by decide +kernel
theorem dX4_init_52 : decode cX4_init 52 = .ok (.iconst 0, 1) := by decide +kernel
theorem dX4_init_53 : decode cX4_init 53 = .ok (.putfield 35, 3) := by decide +kernel
theorem dX4_init_56 : decode cX4_init 56 = .ok (.aload_n 0, 1) := by decide +kernel
theorem dX4_init_57 : decode cX4_init 57 = .ok (.iconst 0, 1) := by decide +kernel
theorem dX4_init_58 : decode cX4_init 58 = .ok (.putfield 38, 3) := by decide +kernel
theorem dX4_init_61 : decode cX4_init 61 = .ok (.aload_n 0, 1) := by decide +kernel
theorem dX4_init_62 : decode cX4_init 62 = .ok (.iconst (-1), 1) := by decide +kernel
theorem dX4_init_63 : decode cX4_init 63 = .ok (.putfield 41, 3) := by decide +kernel
theorem dX4_init_66 : decode cX4_init 66 = .ok (.aload_n 0, 1) := by decide +kernel
theorem dX4_init_67 : decode cX4_init 67 = .ok (.iconst 0, 1) := by decide +kernel
theorem dX4_init_68 : decode cX4_init 68 = .ok (.putfield 44, 3) := by decide +kernel
theorem dX4_init_71 : decode cX4_init 71 = .ok (.return_, 1) := by decide +kernel
theorem dX4_has_0 : decode cX4_has 0 = .ok (.lload_n 1, 1) := by decide +kernel
theorem dX4_has_1 : decode cX4_has 1 = .ok (.lconst 0, 1) := by decide +kernel
theorem dX4_has_2 : decode cX4_has 2 = .ok (.lcmp, 1) := by decide +kernel
theorem dX4_has_3 : decode cX4_has 3 = .ok (.ifCond .lt 17, 3) := by decide +kernel
theorem dX4_has_6 : decode cX4_has 6 = .ok (.lload_n 1, 1) := by decide +kernel
theorem dX4_has_7 : decode cX4_has 7 = .ok (.aload_n 0, 1) := by decide +kernel
theorem dX4_has_8 : decode cX4_has 8 = .ok (.getfield 35, 3) := by decide +kernel
theorem dX4_has_11 : decode cX4_has 11 = .ok (.i2l, 1) := by decide +kernel
theorem dX4_has_12 : decode cX4_has 12 = .ok (.lcmp, 1) := by decide +kernel
theorem dX4_has_13 : decode cX4_has 13 = .ok (.ifCond .ge 7, 3) := by decide +kernel
theorem dX4_has_16 : decode cX4_has 16 = .ok (.iconst 1, 1) := by decide +kernel
theorem dX4_has_17 : decode cX4_has 17 = .ok (.goto 4, 3) := by decide +kernel
theorem dX4_has_20 : decode cX4_has 20 = .ok (.iconst 0, 1) := by decide +kernel
theorem dX4_has_21 : decode cX4_has 21 = .ok (.ireturn, 1) := by decide +kernel
theorem dX4_heightAt_0 : decode cX4_heightAt 0 = .ok (.aload_n 0, 1) := by decide +kernel
theorem dX4_heightAt_1 : decode cX4_heightAt 1 = .ok (.iload_n 1, 1) := by decide +kernel
theorem dX4_heightAt_2 : decode cX4_heightAt 2 = .ok (.i2l, 1) := by decide +kernel
theorem dX4_heightAt_3 : decode cX4_heightAt 3 = .ok (.invokevirtual 47, 3) := by decide +kernel
theorem dX4_heightAt_6 : decode cX4_heightAt 6 = .ok (.ifCond .eq 12, 3) := by decide +kernel
theorem dX4_heightAt_9 : decode cX4_heightAt 9 = .ok (.aload_n 0, 1) := by decide +kernel
theorem dX4_heightAt_10 : decode cX4_heightAt 10 = .ok (.getfield 32, 3) := by decide +kernel
theorem dX4_heightAt_13 : decode cX4_heightAt 13 = .ok (.iload_n 1, 1) := by decide +kernel
theorem dX4_heightAt_14 : decode cX4_heightAt 14 = .ok (.iaload, 1) := by decide +kernel
theorem dX4_heightAt_15 : decode cX4_heightAt 15 = .ok (.goto 4, 3) := by decide +kernel
theorem dX4_heightAt_18 : decode cX4_heightAt 18 = .ok (.iconst (-1), 1) := by decide +kernel
theorem dX4_heightAt_19 : decode cX4_heightAt 19 = .ok (.ireturn, 1) := by decide +kernel
theorem dX4_isMet_0 : decode cX4_isMet 0 = .ok (.aload_n 0, 1) := by decide +kernel
theorem dX4_isMet_1 : decode cX4_isMet 1 = .ok (.iload_n 1, 1) := by decide +kernel
theorem dX4_isMet_2 : decode cX4_isMet 2 = .ok (.invokevirtual 51, 3) := by decide +kernel
theorem dX4_isMet_5 : decode cX4_isMet 5 = .ok (.iconst (-1), 1) := by decide +kernel
theorem dX4_isMet_6 : decode cX4_isMet 6 = .ok (.if_icmp .eq 7, 3) := by decide +kernel
theorem dX4_isMet_9 : decode cX4_isMet 9 = .ok (.iconst 1, 1) := by decide +kernel
theorem dX4_isMet_10 : decode cX4_isMet 10 = .ok (.goto 4, 3) := by decide +kernel
theorem dX4_isMet_13 : decode cX4_isMet 13 = .ok (.iconst 0, 1) := by decide +kernel
theorem dX4_isMet_14 : decode cX4_isMet 14 = .ok (.ireturn, 1) := by decide +kernel
theorem dX4_isSound_0 : decode cX4_isSound 0 = .ok (.aload_n 0, 1) := by decide +kernel
theorem dX4_isSound_1 : decode cX4_isSound 1 = .ok (.getfield 38, 3) := by decide +kernel
theorem dX4_isSound_4 : decode cX4_isSound 4 = .ok (.ifCond .ne 7, 3) := by decide +kernel
theorem dX4_isSound_7 : decode cX4_isSound 7 = .ok (.iconst 1, 1) := by decide +kernel
theorem dX4_isSound_8 : decode cX4_isSound 8 = .ok (.goto 4, 3) := by decide +kernel
theorem dX4_isSound_11 : decode cX4_isSound 11 = .ok (.iconst 0, 1) := by decide +kernel
theorem dX4_isSound_12 : decode cX4_isSound 12 = .ok (.ireturn, 1) := by decide +kernel
theorem dX4_append_0 : decode cX4_append 0 = .ok (.aload_n 0, 1) := by decide +kernel
theorem dX4_append_1 : decode cX4_append 1 = .ok (.getfield 35, 3) := by decide +kernel
theorem dX4_append_4 : decode cX4_append 4 = .ok (.aload_n 0, 1) := by decide +kernel
theorem dX4_append_5 : decode cX4_append 5 = .ok (.getfield 21, 3) := by decide +kernel
theorem dX4_append_8 : decode cX4_append 8 = .ok (.arraylength, 1) := by decide +kernel
theorem dX4_append_9 : decode cX4_append 9 = .ok (.if_icmp .lt 5, 3) := by decide +kernel
theorem dX4_append_12 : decode cX4_append 12 = .ok (.iconst (-1), 1) := by decide +kernel
theorem dX4_append_13 : decode cX4_append 13 = .ok (.ireturn, 1) := by decide +kernel
theorem dX4_append_14 : decode cX4_append 14 = .ok (.aload_n 0, 1) := by decide +kernel
theorem dX4_append_15 : decode cX4_append 15 = .ok (.getfield 35, 3) := by decide +kernel
theorem dX4_append_18 : decode cX4_append 18 = .ok (.istore 4, 2) := by decide +kernel
theorem dX4_append_20 : decode cX4_append 20 = .ok (.aload_n 0, 1) := by decide +kernel
theorem dX4_append_21 : decode cX4_append 21 = .ok (.dup, 1) := by decide +kernel
theorem dX4_append_22 : decode cX4_append 22 = .ok (.getfield 35, 3) := by decide +kernel
theorem dX4_append_25 : decode cX4_append 25 = .ok (.iconst 1, 1) := by decide +kernel
theorem dX4_append_26 : decode cX4_append 26 = .ok (.iadd, 1) := by decide +kernel
theorem dX4_append_27 : decode cX4_append 27 = .ok (.putfield 35, 3) := by decide +kernel
theorem dX4_append_30 : decode cX4_append 30 = .ok (.aload_n 0, 1) := by decide +kernel
theorem dX4_append_31 : decode cX4_append 31 = .ok (.iload 4, 2) := by decide +kernel
theorem dX4_append_33 : decode cX4_append 33 = .ok (.iload_n 1, 1) := by decide +kernel
theorem dX4_append_34 : decode cX4_append 34 = .ok (.lload_n 2, 1) := by decide +kernel
theorem dX4_append_35 : decode cX4_append 35 = .ok (.invokevirtual 55, 3) := by decide +kernel
theorem dX4_append_38 : decode cX4_append 38 = .ok (.pop, 1) := by decide +kernel
theorem dX4_append_39 : decode cX4_append 39 = .ok (.iload 4, 2) := by decide +kernel
theorem dX4_append_41 : decode cX4_append 41 = .ok (.ireturn, 1) := by decide +kernel
theorem dX4_replace_0 : decode cX4_replace 0 = .ok (.aload_n 0, 1) := by decide +kernel
theorem dX4_replace_1 : decode cX4_replace 1 = .ok (.iload_n 1, 1) := by decide +kernel
theorem dX4_replace_2 : decode cX4_replace 2 = .ok (.i2l, 1) := by decide +kernel
theorem dX4_replace_3 : decode cX4_replace 3 = .ok (.invokevirtual 47, 3) := by decide +kernel
theorem dX4_replace_6 : decode cX4_replace 6 = .ok (.ifCond .ne 5, 3) := by decide +kernel
theorem dX4_replace_9 : decode cX4_replace 9 = .ok (.iconst (-1), 1) := by decide +kernel
theorem dX4_replace_10 : decode cX4_replace 10 = .ok (.ireturn, 1) := by decide +kernel
theorem dX4_replace_11 : decode cX4_replace 11 = .ok (.aload_n 0, 1) := by decide +kernel
theorem dX4_replace_12 : decode cX4_replace 12 = .ok (.getfield 21, 3) := by decide +kernel
theorem dX4_replace_15 : decode cX4_replace 15 = .ok (.iload_n 1, 1) := by decide +kernel
theorem dX4_replace_16 : decode cX4_replace 16 = .ok (.iaload, 1) := by decide +kernel
theorem dX4_replace_17 : decode cX4_replace 17 = .ok (.istore 5, 2) := by decide +kernel
theorem dX4_replace_19 : decode cX4_replace 19 = .ok (.aload_n 0, 1) := by decide +kernel
theorem dX4_replace_20 : decode cX4_replace 20 = .ok (.getfield 21, 3) := by decide +kernel
theorem dX4_replace_23 : decode cX4_replace 23 = .ok (.iload_n 1, 1) := by decide +kernel
theorem dX4_replace_24 : decode cX4_replace 24 = .ok (.iload_n 2, 1) := by decide +kernel
theorem dX4_replace_25 : decode cX4_replace 25 = .ok (.iastore, 1) := by decide +kernel
theorem dX4_replace_26 : decode cX4_replace 26 = .ok (.aload_n 0, 1) := by decide +kernel
theorem dX4_replace_27 : decode cX4_replace 27 = .ok (.getfield 25, 3) := by decide +kernel
theorem dX4_replace_30 : decode cX4_replace 30 = .ok (.iload_n 1, 1) := by decide +kernel
theorem dX4_replace_31 : decode cX4_replace 31 = .ok (.lload_n 3, 1) := by decide +kernel
theorem dX4_replace_32 : decode cX4_replace 32 = .ok (.lastore, 1) := by decide +kernel
theorem dX4_replace_33 : decode cX4_replace 33 = .ok (.aload_n 0, 1) := by decide +kernel
theorem dX4_replace_34 : decode cX4_replace 34 = .ok (.iconst 0, 1) := by decide +kernel
theorem dX4_replace_35 : decode cX4_replace 35 = .ok (.putfield 44, 3) := by decide +kernel
theorem dX4_replace_38 : decode cX4_replace 38 = .ok (.iload 5, 2) := by decide +kernel
theorem dX4_replace_40 : decode cX4_replace 40 = .ok (.ireturn, 1) := by decide +kernel
theorem dX4_fail_0 : decode cX4_fail 0 = .ok (.aload_n 0, 1) := by decide +kernel
theorem dX4_fail_1 : decode cX4_fail 1 = .ok (.iload_n 1, 1) := by decide +kernel
theorem dX4_fail_2 : decode cX4_fail 2 = .ok (.putfield 38, 3) := by decide +kernel
theorem dX4_fail_5 : decode cX4_fail 5 = .ok (.aload_n 0, 1) := by decide +kernel
theorem dX4_fail_6 : decode cX4_fail 6 = .ok (.iload_n 2, 1) := by decide +kernel
theorem dX4_fail_7 : decode cX4_fail 7 = .ok (.putfield 41, 3) := by decide +kernel
theorem dX4_fail_10 : decode cX4_fail 10 = .ok (.return_, 1) := by decide +kernel
theorem dX4_answer_0 : decode cX4_answer 0 = .ok (.iload_n 1, 1) := by decide +kernel
theorem dX4_answer_1 : decode cX4_answer 1 = .ok (.tableswitch 42 0 2 #[27, 32, 37], 27) := by decide +kernel
theorem dX4_answer_28 : decode cX4_answer 28 = .ok (.aload_n 0, 1) := by decide +kernel
theorem dX4_answer_29 : decode cX4_answer 29 = .ok (.getfield 9, 3) := by decide +kernel
theorem dX4_answer_32 : decode cX4_answer 32 = .ok (.ireturn, 1) := by decide +kernel
theorem dX4_answer_33 : decode cX4_answer 33 = .ok (.aload_n 0, 1) := by decide +kernel
theorem dX4_answer_34 : decode cX4_answer 34 = .ok (.getfield 15, 3) := by decide +kernel
theorem dX4_answer_37 : decode cX4_answer 37 = .ok (.ireturn, 1) := by decide +kernel
theorem dX4_answer_38 : decode cX4_answer 38 = .ok (.aload_n 0, 1) := by decide +kernel
theorem dX4_answer_39 : decode cX4_answer 39 = .ok (.getfield 18, 3) := by decide +kernel
theorem dX4_answer_42 : decode cX4_answer 42 = .ok (.ireturn, 1) := by decide +kernel
theorem dX4_answer_43 : decode cX4_answer 43 = .ok (.aload_n 0, 1) := by decide +kernel
theorem dX4_answer_44 : decode cX4_answer 44 = .ok (.getfield 35, 3) := by decide +kernel
theorem dX4_answer_47 : decode cX4_answer 47 = .ok (.ireturn, 1) := by decide +kernel
theorem dX5_init_0 : decode cX5_init 0 = .ok (.aload_n 0, 1) := by decide +kernel
theorem dX5_init_1 : decode cX5_init 1 = .ok (.invokespecial 3, 3) := by decide +kernel
theorem dX5_init_4 : decode cX5_init 4 = .ok (.aload_n 0, 1) := by decide +kernel
theorem dX5_init_5 : decode cX5_init 5 = .ok (.bipush 32, 2) := by decide +kernel
theorem dX5_init_7 : decode cX5_init 7 = .ok (.anewarray 9, 3) := by decide +kernel
theorem dX5_init_10 : decode cX5_init 10 = .ok (.putfield 11, 3) := by decide +kernel
theorem dX5_init_13 : decode cX5_init 13 = .ok (.aload_n 0, 1) := by decide +kernel
theorem dX5_init_14 : decode cX5_init 14 = .ok (.bipush 18, 2) := by decide +kernel
theorem dX5_init_16 : decode cX5_init 16 = .ok (.newarray .int, 2) := by decide +kernel
theorem dX5_init_18 : decode cX5_init 18 = .ok (.putfield 17, 3) := by decide +kernel
theorem dX5_init_21 : decode cX5_init 21 = .ok (.aload_n 0, 1) := by decide +kernel
theorem dX5_init_22 : decode cX5_init 22 = .ok (.getfield 17, 3) := by decide +kernel
theorem dX5_init_25 : decode cX5_init 25 = .ok (.iconst 1, 1) := by decide +kernel
theorem dX5_init_26 : decode cX5_init 26 = .ok (.invokestatic 21, 3) := by decide +kernel
theorem dX5_init_29 : decode cX5_init 29 = .ok (.aload_n 0, 1) := by decide +kernel
theorem dX5_init_30 : decode cX5_init 30 = .ok (.iconst 0, 1) := by decide +kernel
theorem dX5_init_31 : decode cX5_init 31 = .ok (.putfield 27, 3) := by decide +kernel
theorem dX5_init_34 : decode cX5_init 34 = .ok (.return_, 1) := by decide +kernel
theorem dX5_isFull_0 : decode cX5_isFull 0 = .ok (.aload_n 0, 1) := by decide +kernel
theorem dX5_isFull_1 : decode cX5_isFull 1 = .ok (.getfield 27, 3) := by decide +kernel
theorem dX5_isFull_4 : decode cX5_isFull 4 = .ok (.aload_n 0, 1) := by decide +kernel
theorem dX5_isFull_5 : decode cX5_isFull 5 = .ok (.getfield 11, 3) := by decide +kernel
theorem dX5_isFull_8 : decode cX5_isFull 8 = .ok (.arraylength, 1) := by decide +kernel
theorem dX5_isFull_9 : decode cX5_isFull 9 = .ok (.if_icmp .lt 7, 3) := by decide +kernel
theorem dX5_isFull_12 : decode cX5_isFull 12 = .ok (.iconst 1, 1) := by decide +kernel
theorem dX5_isFull_13 : decode cX5_isFull 13 = .ok (.goto 4, 3) := by decide +kernel
theorem dX5_isFull_16 : decode cX5_isFull 16 = .ok (.iconst 0, 1) := by decide +kernel
theorem dX5_isFull_17 : decode cX5_isFull 17 = .ok (.ireturn, 1) := by decide +kernel
theorem dX5_include_0 : decode cX5_include 0 = .ok (.aload_n 0, 1) := by decide +kernel
theorem dX5_include_1 : decode cX5_include 1 = .ok (.invokevirtual 31, 3) := by decide +kernel
theorem dX5_include_4 : decode cX5_include 4 = .ok (.ifCond .eq 5, 3) := by decide +kernel
theorem dX5_include_7 : decode cX5_include 7 = .ok (.iconst (-1), 1) := by decide +kernel
theorem dX5_include_8 : decode cX5_include 8 = .ok (.ireturn, 1) := by decide +kernel
theorem dX5_include_9 : decode cX5_include 9 = .ok (.aload_n 0, 1) := by decide +kernel
theorem dX5_include_10 : decode cX5_include 10 = .ok (.getfield 11, 3) := by decide +kernel
theorem dX5_include_13 : decode cX5_include 13 = .ok (.aload_n 0, 1) := by decide +kernel
theorem dX5_include_14 : decode cX5_include 14 = .ok (.getfield 27, 3) := by decide +kernel
theorem dX5_include_17 : decode cX5_include 17 = .ok (.aload_n 1, 1) := by decide +kernel
theorem dX5_include_18 : decode cX5_include 18 = .ok (.aastore, 1) := by decide +kernel
theorem dX5_include_19 : decode cX5_include 19 = .ok (.aload_n 0, 1) := by decide +kernel
theorem dX5_include_20 : decode cX5_include 20 = .ok (.dup, 1) := by decide +kernel
theorem dX5_include_21 : decode cX5_include 21 = .ok (.getfield 27, 3) := by decide +kernel
theorem dX5_include_24 : decode cX5_include 24 = .ok (.iconst 1, 1) := by decide +kernel
theorem dX5_include_25 : decode cX5_include 25 = .ok (.iadd, 1) := by decide +kernel
theorem dX5_include_26 : decode cX5_include 26 = .ok (.putfield 27, 3) := by decide +kernel
theorem dX5_include_29 : decode cX5_include 29 = .ok (.aload_n 0, 1) := by decide +kernel
theorem dX5_include_30 : decode cX5_include 30 = .ok (.getfield 27, 3) := by decide +kernel
theorem dX5_include_33 : decode cX5_include 33 = .ok (.iconst 1, 1) := by decide +kernel
theorem dX5_include_34 : decode cX5_include 34 = .ok (.isub, 1) := by decide +kernel
theorem dX5_include_35 : decode cX5_include 35 = .ok (.ireturn, 1) := by decide +kernel
theorem dX5_find_0 : decode cX5_find 0 = .ok (.lload_n 1, 1) := by decide +kernel
theorem dX5_find_1 : decode cX5_find 1 = .ok (.lconst 0, 1) := by decide +kernel
theorem dX5_find_2 : decode cX5_find 2 = .ok (.lcmp, 1) := by decide +kernel
theorem dX5_find_3 : decode cX5_find 3 = .ok (.ifCond .lt 23, 3) := by decide +kernel
theorem dX5_find_6 : decode cX5_find 6 = .ok (.lload_n 1, 1) := by decide +kernel
theorem dX5_find_7 : decode cX5_find 7 = .ok (.aload_n 0, 1) := by decide +kernel
theorem dX5_find_8 : decode cX5_find 8 = .ok (.getfield 27, 3) := by decide +kernel
theorem dX5_find_11 : decode cX5_find 11 = .ok (.i2l, 1) := by decide +kernel
theorem dX5_find_12 : decode cX5_find 12 = .ok (.lcmp, 1) := by decide +kernel
theorem dX5_find_13 : decode cX5_find 13 = .ok (.ifCond .ge 13, 3) := by decide +kernel
theorem dX5_find_16 : decode cX5_find 16 = .ok (.aload_n 0, 1) := by decide +kernel
theorem dX5_find_17 : decode cX5_find 17 = .ok (.getfield 11, 3) := by decide +kernel
theorem dX5_find_20 : decode cX5_find 20 = .ok (.lload_n 1, 1) := by decide +kernel
theorem dX5_find_21 : decode cX5_find 21 = .ok (.l2i, 1) := by decide +kernel
theorem dX5_find_22 : decode cX5_find 22 = .ok (.aaload, 1) := by decide +kernel
theorem dX5_find_23 : decode cX5_find 23 = .ok (.goto 4, 3) := by decide +kernel
theorem dX5_find_26 : decode cX5_find 26 = .ok (.aconst_null, 1) := by decide +kernel
theorem dX5_find_27 : decode cX5_find 27 = .ok (.areturn, 1) := by decide +kernel
theorem dX5_costOf_0 : decode cX5_costOf 0 = .ok (.iload_n 1, 1) := by decide +kernel
theorem dX5_costOf_1 : decode cX5_costOf 1 = .ok (.invokestatic 35, 3) := by decide +kernel
theorem dX5_costOf_4 : decode cX5_costOf 4 = .ok (.ifCond .eq 12, 3) := by decide +kernel
theorem dX5_costOf_7 : decode cX5_costOf 7 = .ok (.aload_n 0, 1) := by decide +kernel
theorem dX5_costOf_8 : decode cX5_costOf 8 = .ok (.getfield 17, 3) := by decide +kernel
theorem dX5_costOf_11 : decode cX5_costOf 11 = .ok (.iload_n 1, 1) := by decide +kernel
theorem dX5_costOf_12 : decode cX5_costOf 12 = .ok (.iaload, 1) := by decide +kernel
theorem dX5_costOf_13 : decode cX5_costOf 13 = .ok (.goto 4, 3) := by decide +kernel
theorem dX5_costOf_16 : decode cX5_costOf 16 = .ok (.iconst 0, 1) := by decide +kernel
theorem dX5_costOf_17 : decode cX5_costOf 17 = .ok (.ireturn, 1) := by decide +kernel
theorem dX5_price_0 : decode cX5_price 0 = .ok (.aload_n 0, 1) := by decide +kernel
theorem dX5_price_1 : decode cX5_price 1 = .ok (.iload_n 1, 1) := by decide +kernel
theorem dX5_price_2 : decode cX5_price 2 = .ok (.invokevirtual 39, 3) := by decide +kernel
theorem dX5_price_5 : decode cX5_price 5 = .ok (.istore_n 3, 1) := by decide +kernel
theorem dX5_price_6 : decode cX5_price 6 = .ok (.iload_n 1, 1) := by decide +kernel
theorem dX5_price_7 : decode cX5_price 7 = .ok (.invokestatic 35, 3) := by decide +kernel
theorem dX5_price_10 : decode cX5_price 10 = .ok (.ifCond .eq 10, 3) := by decide +kernel
theorem dX5_price_13 : decode cX5_price 13 = .ok (.aload_n 0, 1) := by decide +kernel
theorem dX5_price_14 : decode cX5_price 14 = .ok (.getfield 17, 3) := by decide +kernel
theorem dX5_price_17 : decode cX5_price 17 = .ok (.iload_n 1, 1) := by decide +kernel
theorem dX5_price_18 : decode cX5_price 18 = .ok (.iload_n 2, 1) := by decide +kernel
theorem dX5_price_19 : decode cX5_price 19 = .ok (.iastore, 1) := by decide +kernel
theorem dX5_price_20 : decode cX5_price 20 = .ok (.iload_n 3, 1) := by decide +kernel
theorem dX5_price_21 : decode cX5_price 21 = .ok (.ireturn, 1) := by decide +kernel
theorem dX6_init_0 : decode cX6_init 0 = .ok (.aload_n 0, 1) := by decide +kernel
theorem dX6_init_1 : decode cX6_init 1 = .ok (.invokespecial 1, 3) := by decide +kernel
theorem dX6_init_4 : decode cX6_init 4 = .ok (.aload_n 0, 1) := by decide +kernel
theorem dX6_init_5 : decode cX6_init 5 = .ok (.new 7, 3) := by decide +kernel
theorem dX6_init_8 : decode cX6_init 8 = .ok (.dup, 1) := by decide +kernel
theorem dX6_init_9 : decode cX6_init 9 = .ok (.invokespecial 9, 3) := by decide +kernel
theorem dX6_init_12 : decode cX6_init 12 = .ok (.putfield 10, 3) := by decide +kernel
theorem dX6_init_15 : decode cX6_init 15 = .ok (.aload_n 0, 1) := by decide +kernel
theorem dX6_init_16 : decode cX6_init 16 = .ok (.new 16, 3) := by decide +kernel
theorem dX6_init_19 : decode cX6_init 19 = .ok (.dup, 1) := by decide +kernel
theorem dX6_init_20 : decode cX6_init 20 = .ok (.aload_n 0, 1) := by decide +kernel
theorem dX6_init_21 : decode cX6_init 21 = .ok (.getfield 10, 3) := by decide +kernel
theorem dX6_init_24 : decode cX6_init 24 = .ok (.invokespecial 18, 3) := by decide +kernel
theorem dX6_init_27 : decode cX6_init 27 = .ok (.putfield 21, 3) := by decide +kernel
theorem dX6_init_30 : decode cX6_init 30 = .ok (.aload_n 0, 1) := by decide +kernel
theorem dX6_init_31 : decode cX6_init 31 = .ok (.new 25, 3) := by decide +kernel
theorem dX6_init_34 : decode cX6_init 34 = .ok (.dup, 1) := by decide +kernel
theorem dX6_init_35 : decode cX6_init 35 = .ok (.aload_n 0, 1) := by decide +kernel
theorem dX6_init_36 : decode cX6_init 36 = .ok (.getfield 10, 3) := by decide +kernel
theorem dX6_init_39 : decode cX6_init 39 = .ok (.invokespecial 27, 3) := by decide +kernel
theorem dX6_init_42 : decode cX6_init 42 = .ok (.putfield 28, 3) := by decide +kernel
theorem dX6_init_45 : decode cX6_init 45 = .ok (.aload_n 0, 1) := by decide +kernel
theorem dX6_init_46 : decode cX6_init 46 = .ok (.new 32, 3) := by decide +kernel
theorem dX6_init_49 : decode cX6_init 49 = .ok (.dup, 1) := by decide +kernel
theorem dX6_init_50 : decode cX6_init 50 = .ok (.aload_n 0, 1) := by decide +kernel
theorem dX6_init_51 : decode cX6_init 51 = .ok (.getfield 10, 3) := by decide +kernel
theorem dX6_init_54 : decode cX6_init 54 = .ok (.invokespecial 34, 3) := by decide +kernel
theorem dX6_init_57 : decode cX6_init 57 = .ok (.putfield 35, 3) := by decide +kernel
theorem dX6_init_60 : decode cX6_init 60 = .ok (.aload_n 0, 1) := by decide +kernel
theorem dX6_init_61 : decode cX6_init 61 = .ok (.bipush 8, 2) := by decide +kernel
theorem dX6_init_63 : decode cX6_init 63 = .ok (.newarray .long, 2) := by decide +kernel
theorem dX6_init_65 : decode cX6_init 65 = .ok (.putfield 39, 3) := by decide +kernel
theorem dX6_init_68 : decode cX6_init 68 = .ok (.aload_n 0, 1) := by decide +kernel
theorem dX6_init_69 : decode cX6_init 69 = .ok (.iconst 0, 1) := by decide +kernel
theorem dX6_init_70 : decode cX6_init 70 = .ok (.putfield 43, 3) := by decide +kernel
theorem dX6_init_73 : decode cX6_init 73 = .ok (.aload_n 0, 1) := by decide +kernel
theorem dX6_init_74 : decode cX6_init 74 = .ok (.iconst (-1), 1) := by decide +kernel
theorem dX6_init_75 : decode cX6_init 75 = .ok (.putfield 47, 3) := by decide +kernel
theorem dX6_init_78 : decode cX6_init 78 = .ok (.return_, 1) := by decide +kernel
theorem dX6_method_0 : decode cX6_method 0 = .ok (.iload_n 1, 1) := by decide +kernel
theorem dX6_method_1 : decode cX6_method 1 = .ok (.ifCond .lt 9, 3) := by decide +kernel
theorem dX6_method_4 : decode cX6_method 4 = .ok (.iload_n 1, 1) := by decide +kernel
theorem dX6_method_5 : decode cX6_method 5 = .ok (.bipush 8, 2) := by decide +kernel
theorem dX6_method_7 : decode cX6_method 7 = .ok (.if_icmp .le 13, 3) := by decide +kernel
theorem dX6_method_10 : decode cX6_method 10 = .ok (.new 50, 3) := by decide +kernel
theorem dX6_method_13 : decode cX6_method 13 = .ok (.dup, 1) := by decide +kernel
theorem dX6_method_14 : decode cX6_method 14 = .ok (.ldc 52, 2) := by decide +kernel
theorem dX6_method_16 : decode cX6_method 16 = .ok (.invokespecial 54, 3) := by decide +kernel
theorem dX6_method_19 : decode cX6_method 19 = .ok (.athrow, 1) := by decide +kernel
theorem dX6_method_20 : decode cX6_method 20 = .ok (.iload_n 2, 1) := by decide +kernel
theorem dX6_method_21 : decode cX6_method 21 = .ok (.ifCond .lt 8, 3) := by decide +kernel
theorem dX6_method_24 : decode cX6_method 24 = .ok (.iload_n 2, 1) := by decide +kernel
theorem dX6_method_25 : decode cX6_method 25 = .ok (.iconst 1, 1) := by decide +kernel
theorem dX6_method_26 : decode cX6_method 26 = .ok (.if_icmp .le 13, 3) := by decide +kernel
theorem dX6_method_29 : decode cX6_method 29 = .ok (.new 50, 3) := by decide +kernel
theorem dX6_method_32 : decode cX6_method 32 = .ok (.dup, 1) := by decide +kernel
theorem dX6_method_33 : decode cX6_method 33 = .ok (.ldc 57, 2) := by decide +kernel
theorem dX6_method_35 : decode cX6_method 35 = .ok (.invokespecial 54, 3) := by decide +kernel
theorem dX6_method_38 : decode cX6_method 38 = .ok (.athrow, 1) := by decide +kernel
theorem dX6_method_39 : decode cX6_method 39 = .ok (.iload_n 3, 1) := by decide +kernel
theorem dX6_method_40 : decode cX6_method 40 = .ok (.iload_n 1, 1) := by decide +kernel
theorem dX6_method_41 : decode cX6_method 41 = .ok (.if_icmp .lt 9, 3) := by decide +kernel
theorem dX6_method_44 : decode cX6_method 44 = .ok (.iload_n 3, 1) := by decide +kernel
theorem dX6_method_45 : decode cX6_method 45 = .ok (.bipush 16, 2) := by decide +kernel
theorem dX6_method_47 : decode cX6_method 47 = .ok (.if_icmp .le 13, 3) := by decide +kernel
theorem dX6_method_50 : decode cX6_method 50 = .ok (.new 50, 3) := by decide +kernel
theorem dX6_method_53 : decode cX6_method 53 = .ok (.dup, 1) := by decide +kernel
theorem dX6_method_54 : decode cX6_method 54 = .ok (.ldc 59, 2) := by decide +kernel
theorem dX6_method_56 : decode cX6_method 56 = .ok (.invokespecial 54, 3) := by decide +kernel
theorem dX6_method_59 : decode cX6_method 59 = .ok (.athrow, 1) := by decide +kernel
theorem dX6_method_60 : decode cX6_method 60 = .ok (.aload_n 0, 1) := by decide +kernel
theorem dX6_method_61 : decode cX6_method 61 = .ok (.getfield 10, 3) := by decide +kernel
theorem dX6_method_64 : decode cX6_method 64 = .ok (.invokevirtual 61, 3) := by decide +kernel
theorem dX6_method_67 : decode cX6_method 67 = .ok (.ifCond .eq 5, 3) := by decide +kernel
theorem dX6_method_70 : decode cX6_method 70 = .ok (.iconst (-1), 1) := by decide +kernel
theorem dX6_method_71 : decode cX6_method 71 = .ok (.ireturn, 1) := by decide +kernel
theorem dX6_method_72 : decode cX6_method 72 = .ok (.aload_n 0, 1) := by decide +kernel
theorem dX6_method_73 : decode cX6_method 73 = .ok (.getfield 10, 3) := by decide +kernel
theorem dX6_method_76 : decode cX6_method 76 = .ok (.new 65, 3) := by decide +kernel
theorem dX6_method_79 : decode cX6_method 79 = .ok (.dup, 1) := by decide +kernel
theorem dX6_method_80 : decode cX6_method 80 = .ok (.iload_n 1, 1) := by decide +kernel
theorem dX6_method_81 : decode cX6_method 81 = .ok (.iload_n 2, 1) := by decide +kernel
theorem dX6_method_82 : decode cX6_method 82 = .ok (.iload_n 3, 1) := by decide +kernel
theorem dX6_method_83 : decode cX6_method 83 = .ok (.invokespecial 67, 3) := by decide +kernel
theorem dX6_method_86 : decode cX6_method 86 = .ok (.invokevirtual 70, 3) := by decide +kernel
theorem dX6_method_89 : decode cX6_method 89 = .ok (.ireturn, 1) := by decide +kernel
theorem dX6_add_0 : decode cX6_add 0 = .ok (.aload_n 0, 1) := by decide +kernel
theorem dX6_add_1 : decode cX6_add 1 = .ok (.iload_n 1, 1) := by decide +kernel
theorem dX6_add_2 : decode cX6_add 2 = .ok (.invokevirtual 74, 3) := by decide +kernel
theorem dX6_add_5 : decode cX6_add 5 = .ok (.iload_n 2, 1) := by decide +kernel
theorem dX6_add_6 : decode cX6_add 6 = .ok (.lload_n 3, 1) := by decide +kernel
theorem dX6_add_7 : decode cX6_add 7 = .ok (.invokevirtual 78, 3) := by decide +kernel
theorem dX6_add_10 : decode cX6_add 10 = .ok (.ireturn, 1) := by decide +kernel
theorem dX6_change_0 : decode cX6_change 0 = .ok (.aload_n 0, 1) := by decide +kernel
theorem dX6_change_1 : decode cX6_change 1 = .ok (.iload_n 1, 1) := by decide +kernel
theorem dX6_change_2 : decode cX6_change 2 = .ok (.iload_n 2, 1) := by decide +kernel
theorem dX6_change_3 : decode cX6_change 3 = .ok (.invokevirtual 82, 3) := by decide +kernel
theorem dX6_change_6 : decode cX6_change 6 = .ok (.iload_n 2, 1) := by decide +kernel
theorem dX6_change_7 : decode cX6_change 7 = .ok (.iload_n 3, 1) := by decide +kernel
theorem dX6_change_8 : decode cX6_change 8 = .ok (.lload 4, 2) := by decide +kernel
theorem dX6_change_10 : decode cX6_change 10 = .ok (.invokevirtual 86, 3) := by decide +kernel
theorem dX6_change_13 : decode cX6_change 13 = .ok (.ireturn, 1) := by decide +kernel
theorem dX6_cost_0 : decode cX6_cost 0 = .ok (.iload_n 1, 1) := by decide +kernel
theorem dX6_cost_1 : decode cX6_cost 1 = .ok (.invokestatic 90, 3) := by decide +kernel
theorem dX6_cost_4 : decode cX6_cost 4 = .ok (.ifCond .ne 13, 3) := by decide +kernel
theorem dX6_cost_7 : decode cX6_cost 7 = .ok (.new 94, 3) := by decide +kernel
theorem dX6_cost_10 : decode cX6_cost 10 = .ok (.dup, 1) := by decide +kernel
theorem dX6_cost_11 : decode cX6_cost 11 = .ok (.ldc 96, 2) := by decide +kernel
theorem dX6_cost_13 : decode cX6_cost 13 = .ok (.invokespecial 98, 3) := by decide +kernel
theorem dX6_cost_16 : decode cX6_cost 16 = .ok (.athrow, 1) := by decide +kernel
theorem dX6_cost_17 : decode cX6_cost 17 = .ok (.iload_n 2, 1) := by decide +kernel
theorem dX6_cost_18 : decode cX6_cost 18 = .ok (.ifCond .lt 9, 3) := by decide +kernel
theorem dX6_cost_21 : decode cX6_cost 21 = .ok (.iload_n 2, 1) := by decide +kernel
theorem dX6_cost_22 : decode cX6_cost 22 = .ok (.ldc 99, 2) := by decide +kernel
theorem dX6_cost_24 : decode cX6_cost 24 = .ok (.if_icmp .le 13, 3) := by decide +kernel
theorem dX6_cost_27 : decode cX6_cost 27 = .ok (.new 50, 3) := by decide +kernel
theorem dX6_cost_30 : decode cX6_cost 30 = .ok (.dup, 1) := by decide +kernel
theorem dX6_cost_31 : decode cX6_cost 31 = .ok (.ldc 100, 2) := by decide +kernel
theorem dX6_cost_33 : decode cX6_cost 33 = .ok (.invokespecial 54, 3) := by decide +kernel
theorem dX6_cost_36 : decode cX6_cost 36 = .ok (.athrow, 1) := by decide +kernel
theorem dX6_cost_37 : decode cX6_cost 37 = .ok (.aload_n 0, 1) := by decide +kernel
theorem dX6_cost_38 : decode cX6_cost 38 = .ok (.getfield 10, 3) := by decide +kernel
theorem dX6_cost_41 : decode cX6_cost 41 = .ok (.iload_n 1, 1) := by decide +kernel
theorem dX6_cost_42 : decode cX6_cost 42 = .ok (.iload_n 2, 1) := by decide +kernel
theorem dX6_cost_43 : decode cX6_cost 43 = .ok (.invokevirtual 102, 3) := by decide +kernel
theorem dX6_cost_46 : decode cX6_cost 46 = .ok (.ireturn, 1) := by decide +kernel
theorem dX6_check_0 : decode cX6_check 0 = .ok (.aload_n 0, 1) := by decide +kernel
theorem dX6_check_1 : decode cX6_check 1 = .ok (.iload_n 1, 1) := by decide +kernel
theorem dX6_check_2 : decode cX6_check 2 = .ok (.invokevirtual 74, 3) := by decide +kernel
theorem dX6_check_5 : decode cX6_check 5 = .ok (.astore_n 2, 1) := by decide +kernel
theorem dX6_check_6 : decode cX6_check 6 = .ok (.aload_n 0, 1) := by decide +kernel
theorem dX6_check_7 : decode cX6_check 7 = .ok (.getfield 21, 3) := by decide +kernel
theorem dX6_check_10 : decode cX6_check 10 = .ok (.invokevirtual 106, 3) := by decide +kernel
theorem dX6_check_13 : decode cX6_check 13 = .ok (.aload_n 0, 1) := by decide +kernel
theorem dX6_check_14 : decode cX6_check 14 = .ok (.aload_n 2, 1) := by decide +kernel
theorem dX6_check_15 : decode cX6_check 15 = .ok (.getfield 109, 3) := by decide +kernel
theorem dX6_check_18 : decode cX6_check 18 = .ok (.putfield 47, 3) := by decide +kernel
theorem dX6_check_21 : decode cX6_check 21 = .ok (.aload_n 2, 1) := by decide +kernel
theorem dX6_check_22 : decode cX6_check 22 = .ok (.getfield 110, 3) := by decide +kernel
theorem dX6_check_25 : decode cX6_check 25 = .ok (.ireturn, 1) := by decide +kernel
theorem dX6_place_0 : decode cX6_place 0 = .ok (.aload_n 0, 1) := by decide +kernel
theorem dX6_place_1 : decode cX6_place 1 = .ok (.getfield 47, 3) := by decide +kernel
theorem dX6_place_4 : decode cX6_place 4 = .ok (.ireturn, 1) := by decide +kernel
theorem dX6_height_0 : decode cX6_height 0 = .ok (.aload_n 0, 1) := by decide +kernel
theorem dX6_height_1 : decode cX6_height 1 = .ok (.iload_n 1, 1) := by decide +kernel
theorem dX6_height_2 : decode cX6_height 2 = .ok (.iload_n 2, 1) := by decide +kernel
theorem dX6_height_3 : decode cX6_height 3 = .ok (.invokevirtual 82, 3) := by decide +kernel
theorem dX6_height_6 : decode cX6_height 6 = .ok (.astore_n 3, 1) := by decide +kernel
theorem dX6_height_7 : decode cX6_height 7 = .ok (.aload_n 0, 1) := by decide +kernel
theorem dX6_height_8 : decode cX6_height 8 = .ok (.getfield 21, 3) := by decide +kernel
theorem dX6_height_11 : decode cX6_height 11 = .ok (.invokevirtual 106, 3) := by decide +kernel
theorem dX6_height_14 : decode cX6_height 14 = .ok (.aload_n 3, 1) := by decide +kernel
theorem dX6_height_15 : decode cX6_height 15 = .ok (.invokevirtual 113, 3) := by decide +kernel
theorem dX6_height_18 : decode cX6_height 18 = .ok (.ifCond .eq 11, 3) := by decide +kernel
theorem dX6_height_21 : decode cX6_height 21 = .ok (.aload_n 3, 1) := by decide +kernel
theorem dX6_height_22 : decode cX6_height 22 = .ok (.iload_n 2, 1) := by decide +kernel
theorem dX6_height_23 : decode cX6_height 23 = .ok (.invokevirtual 116, 3) := by decide +kernel
theorem dX6_height_26 : decode cX6_height 26 = .ok (.goto 4, 3) := by decide +kernel
theorem dX6_height_29 : decode cX6_height 29 = .ok (.iconst (-1), 1) := by decide +kernel
theorem dX6_height_30 : decode cX6_height 30 = .ok (.ireturn, 1) := by decide +kernel
theorem dX6_analyse_0 : decode cX6_analyse 0 = .ok (.aload_n 0, 1) := by decide +kernel
theorem dX6_analyse_1 : decode cX6_analyse 1 = .ok (.iload_n 1, 1) := by decide +kernel
theorem dX6_analyse_2 : decode cX6_analyse 2 = .ok (.invokevirtual 74, 3) := by decide +kernel
theorem dX6_analyse_5 : decode cX6_analyse 5 = .ok (.pop, 1) := by decide +kernel
theorem dX6_analyse_6 : decode cX6_analyse 6 = .ok (.aload_n 0, 1) := by decide +kernel
theorem dX6_analyse_7 : decode cX6_analyse 7 = .ok (.getfield 21, 3) := by decide +kernel
theorem dX6_analyse_10 : decode cX6_analyse 10 = .ok (.invokevirtual 106, 3) := by decide +kernel
theorem dX6_analyse_13 : decode cX6_analyse 13 = .ok (.aload_n 0, 1) := by decide +kernel
theorem dX6_analyse_14 : decode cX6_analyse 14 = .ok (.getfield 28, 3) := by decide +kernel
theorem dX6_analyse_17 : decode cX6_analyse 17 = .ok (.iload_n 1, 1) := by decide +kernel
theorem dX6_analyse_18 : decode cX6_analyse 18 = .ok (.invokevirtual 120, 3) := by decide +kernel
theorem dX6_analyse_21 : decode cX6_analyse 21 = .ok (.ireturn, 1) := by decide +kernel
theorem dX6_told_0 : decode cX6_told 0 = .ok (.aload_n 0, 1) := by decide +kernel
theorem dX6_told_1 : decode cX6_told 1 = .ok (.iload_n 1, 1) := by decide +kernel
theorem dX6_told_2 : decode cX6_told 2 = .ok (.invokevirtual 74, 3) := by decide +kernel
theorem dX6_told_5 : decode cX6_told 5 = .ok (.pop, 1) := by decide +kernel
theorem dX6_told_6 : decode cX6_told 6 = .ok (.iload_n 2, 1) := by decide +kernel
theorem dX6_told_7 : decode cX6_told 7 = .ok (.ifCond .lt 8, 3) := by decide +kernel
theorem dX6_told_10 : decode cX6_told 10 = .ok (.iload_n 2, 1) := by decide +kernel
theorem dX6_told_11 : decode cX6_told 11 = .ok (.iconst 2, 1) := by decide +kernel
theorem dX6_told_12 : decode cX6_told 12 = .ok (.if_icmp .le 13, 3) := by decide +kernel
theorem dX6_told_15 : decode cX6_told 15 = .ok (.new 94, 3) := by decide +kernel
theorem dX6_told_18 : decode cX6_told 18 = .ok (.dup, 1) := by decide +kernel
theorem dX6_told_19 : decode cX6_told 19 = .ok (.ldc 123, 2) := by decide +kernel
theorem dX6_told_21 : decode cX6_told 21 = .ok (.invokespecial 98, 3) := by decide +kernel
theorem dX6_told_24 : decode cX6_told 24 = .ok (.athrow, 1) := by decide +kernel
theorem dX6_told_25 : decode cX6_told 25 = .ok (.aload_n 0, 1) := by decide +kernel
theorem dX6_told_26 : decode cX6_told 26 = .ok (.getfield 28, 3) := by decide +kernel
theorem dX6_told_29 : decode cX6_told 29 = .ok (.iload_n 1, 1) := by decide +kernel
theorem dX6_told_30 : decode cX6_told 30 = .ok (.iload_n 2, 1) := by decide +kernel
theorem dX6_told_31 : decode cX6_told 31 = .ok (.invokevirtual 125, 3) := by decide +kernel
theorem dX6_told_34 : decode cX6_told 34 = .ok (.ireturn, 1) := by decide +kernel
theorem dX6_bound_0 : decode cX6_bound 0 = .ok (.aload_n 0, 1) := by decide +kernel
theorem dX6_bound_1 : decode cX6_bound 1 = .ok (.iload_n 1, 1) := by decide +kernel
theorem dX6_bound_2 : decode cX6_bound 2 = .ok (.invokevirtual 74, 3) := by decide +kernel
theorem dX6_bound_5 : decode cX6_bound 5 = .ok (.pop, 1) := by decide +kernel
theorem dX6_bound_6 : decode cX6_bound 6 = .ok (.iload_n 2, 1) := by decide +kernel
theorem dX6_bound_7 : decode cX6_bound 7 = .ok (.ifCond .lt 8, 3) := by decide +kernel
theorem dX6_bound_10 : decode cX6_bound 10 = .ok (.iload_n 2, 1) := by decide +kernel
theorem dX6_bound_11 : decode cX6_bound 11 = .ok (.iconst 1, 1) := by decide +kernel
theorem dX6_bound_12 : decode cX6_bound 12 = .ok (.if_icmp .le 13, 3) := by decide +kernel
theorem dX6_bound_15 : decode cX6_bound 15 = .ok (.new 94, 3) := by decide +kernel
theorem dX6_bound_18 : decode cX6_bound 18 = .ok (.dup, 1) := by decide +kernel
theorem dX6_bound_19 : decode cX6_bound 19 = .ok (.ldc 128, 2) := by decide +kernel
theorem dX6_bound_21 : decode cX6_bound 21 = .ok (.invokespecial 98, 3) := by decide +kernel
theorem dX6_bound_24 : decode cX6_bound 24 = .ok (.athrow, 1) := by decide +kernel
theorem dX6_bound_25 : decode cX6_bound 25 = .ok (.aload_n 0, 1) := by decide +kernel
theorem dX6_bound_26 : decode cX6_bound 26 = .ok (.getfield 28, 3) := by decide +kernel
theorem dX6_bound_29 : decode cX6_bound 29 = .ok (.iload_n 1, 1) := by decide +kernel
theorem dX6_bound_30 : decode cX6_bound 30 = .ok (.iload_n 2, 1) := by decide +kernel
theorem dX6_bound_31 : decode cX6_bound 31 = .ok (.invokevirtual 130, 3) := by decide +kernel
theorem dX6_bound_34 : decode cX6_bound 34 = .ok (.lreturn, 1) := by decide +kernel
theorem dX6_argument_0 : decode cX6_argument 0 = .ok (.aload_n 0, 1) := by decide +kernel
theorem dX6_argument_1 : decode cX6_argument 1 = .ok (.getfield 43, 3) := by decide +kernel
theorem dX6_argument_4 : decode cX6_argument 4 = .ok (.aload_n 0, 1) := by decide +kernel
theorem dX6_argument_5 : decode cX6_argument 5 = .ok (.getfield 39, 3) := by decide +kernel
theorem dX6_argument_8 : decode cX6_argument 8 = .ok (.arraylength, 1) := by decide +kernel
theorem dX6_argument_9 : decode cX6_argument 9 = .ok (.if_icmp .lt 13, 3) := by decide +kernel
theorem dX6_argument_12 : decode cX6_argument 12 = .ok (.new 134, 3) := by decide +kernel
theorem dX6_argument_15 : decode cX6_argument 15 = .ok (.dup, 1) := by decide +kernel
theorem dX6_argument_16 : decode cX6_argument 16 = .ok (.ldc 136, 2) := by decide +kernel
theorem dX6_argument_18 : decode cX6_argument 18 = .ok (.invokespecial 138, 3) := by decide +kernel
theorem dX6_argument_21 : decode cX6_argument 21 = .ok (.athrow, 1) := by decide +kernel
theorem dX6_argument_22 : decode cX6_argument 22 = .ok (.aload_n 0, 1) := by decide +kernel
theorem dX6_argument_23 : decode cX6_argument 23 = .ok (.getfield 39, 3) := by decide +kernel
theorem dX6_argument_26 : decode cX6_argument 26 = .ok (.aload_n 0, 1) := by decide +kernel
theorem dX6_argument_27 : decode cX6_argument 27 = .ok (.getfield 43, 3) := by decide +kernel
theorem dX6_argument_30 : decode cX6_argument 30 = .ok (.lload_n 1, 1) := by decide +kernel
theorem dX6_argument_31 : decode cX6_argument 31 = .ok (.lastore, 1) := by decide +kernel
theorem dX6_argument_32 : decode cX6_argument 32 = .ok (.aload_n 0, 1) := by decide +kernel
theorem dX6_argument_33 : decode cX6_argument 33 = .ok (.dup, 1) := by decide +kernel
theorem dX6_argument_34 : decode cX6_argument 34 = .ok (.getfield 43, 3) := by decide +kernel
theorem dX6_argument_37 : decode cX6_argument 37 = .ok (.iconst 1, 1) := by decide +kernel
theorem dX6_argument_38 : decode cX6_argument 38 = .ok (.iadd, 1) := by decide +kernel
theorem dX6_argument_39 : decode cX6_argument 39 = .ok (.putfield 43, 3) := by decide +kernel
theorem dX6_argument_42 : decode cX6_argument 42 = .ok (.aload_n 0, 1) := by decide +kernel
theorem dX6_argument_43 : decode cX6_argument 43 = .ok (.getfield 43, 3) := by decide +kernel
theorem dX6_argument_46 : decode cX6_argument 46 = .ok (.ireturn, 1) := by decide +kernel
theorem dX6_run_0 : decode cX6_run 0 = .ok (.aload_n 0, 1) := by decide +kernel
theorem dX6_run_1 : decode cX6_run 1 = .ok (.iload_n 1, 1) := by decide +kernel
theorem dX6_run_2 : decode cX6_run 2 = .ok (.invokevirtual 74, 3) := by decide +kernel
theorem dX6_run_5 : decode cX6_run 5 = .ok (.astore_n 3, 1) := by decide +kernel
theorem dX6_run_6 : decode cX6_run 6 = .ok (.aload_n 0, 1) := by decide +kernel
theorem dX6_run_7 : decode cX6_run 7 = .ok (.getfield 43, 3) := by decide +kernel
theorem dX6_run_10 : decode cX6_run 10 = .ok (.aload_n 3, 1) := by decide +kernel
theorem dX6_run_11 : decode cX6_run 11 = .ok (.getfield 139, 3) := by decide +kernel
theorem dX6_run_14 : decode cX6_run 14 = .ok (.if_icmp .eq 13, 3) := by decide +kernel
theorem dX6_run_17 : decode cX6_run 17 = .ok (.new 50, 3) := by decide +kernel
theorem dX6_run_20 : decode cX6_run 20 = .ok (.dup, 1) := by decide +kernel
theorem dX6_run_21 : decode cX6_run 21 = .ok (.ldc 142, 2) := by decide +kernel
theorem dX6_run_23 : decode cX6_run 23 = .ok (.invokespecial 54, 3) := by decide +kernel
theorem dX6_run_26 : decode cX6_run 26 = .ok (.athrow, 1) := by decide +kernel
theorem dX6_run_27 : decode cX6_run 27 = .ok (.iload_n 2, 1) := by decide +kernel
theorem dX6_run_28 : decode cX6_run 28 = .ok (.ifCond .lt 9, 3) := by decide +kernel
theorem dX6_run_31 : decode cX6_run 31 = .ok (.iload_n 2, 1) := by decide +kernel
theorem dX6_run_32 : decode cX6_run 32 = .ok (.ldc 144, 2) := by decide +kernel
theorem dX6_run_34 : decode cX6_run 34 = .ok (.if_icmp .le 13, 3) := by decide +kernel
theorem dX6_run_37 : decode cX6_run 37 = .ok (.new 50, 3) := by decide +kernel
theorem dX6_run_40 : decode cX6_run 40 = .ok (.dup, 1) := by decide +kernel
theorem dX6_run_41 : decode cX6_run 41 = .ok (.ldc 145, 2) := by decide +kernel
theorem dX6_run_43 : decode cX6_run 43 = .ok (.invokespecial 54, 3) := by decide +kernel
theorem dX6_run_46 : decode cX6_run 46 = .ok (.athrow, 1) := by decide +kernel
theorem dX6_run_47 : decode cX6_run 47 = .ok (.aload_n 0, 1) := by decide +kernel
theorem dX6_run_48 : decode cX6_run 48 = .ok (.iconst 0, 1) := by decide +kernel
theorem dX6_run_49 : decode cX6_run 49 = .ok (.putfield 43, 3) := by decide +kernel
theorem dX6_run_52 : decode cX6_run 52 = .ok (.aload_n 0, 1) := by decide +kernel
theorem dX6_run_53 : decode cX6_run 53 = .ok (.getfield 21, 3) := by decide +kernel
theorem dX6_run_56 : decode cX6_run 56 = .ok (.invokevirtual 106, 3) := by decide +kernel
theorem dX6_run_59 : decode cX6_run 59 = .ok (.aload_n 0, 1) := by decide +kernel
theorem dX6_run_60 : decode cX6_run 60 = .ok (.getfield 35, 3) := by decide +kernel
theorem dX6_run_63 : decode cX6_run 63 = .ok (.aload_n 3, 1) := by decide +kernel
theorem dX6_run_64 : decode cX6_run 64 = .ok (.aload_n 0, 1) := by decide +kernel
theorem dX6_run_65 : decode cX6_run 65 = .ok (.getfield 39, 3) := by decide +kernel
theorem dX6_run_68 : decode cX6_run 68 = .ok (.iload_n 2, 1) := by decide +kernel
theorem dX6_run_69 : decode cX6_run 69 = .ok (.invokevirtual 147, 3) := by decide +kernel
theorem dX6_run_72 : decode cX6_run 72 = .ok (.ireturn, 1) := by decide +kernel
theorem dX6_ran_0 : decode cX6_ran 0 = .ok (.iload_n 1, 1) := by decide +kernel
theorem dX6_ran_1 : decode cX6_ran 1 = .ok (.ifCond .lt 8, 3) := by decide +kernel
theorem dX6_ran_4 : decode cX6_ran 4 = .ok (.iload_n 1, 1) := by decide +kernel
theorem dX6_ran_5 : decode cX6_ran 5 = .ok (.iconst 4, 1) := by decide +kernel
theorem dX6_ran_6 : decode cX6_ran 6 = .ok (.if_icmp .le 13, 3) := by decide +kernel
theorem dX6_ran_9 : decode cX6_ran 9 = .ok (.new 94, 3) := by decide +kernel
theorem dX6_ran_12 : decode cX6_ran 12 = .ok (.dup, 1) := by decide +kernel
theorem dX6_ran_13 : decode cX6_ran 13 = .ok (.ldc 151, 2) := by decide +kernel
theorem dX6_ran_15 : decode cX6_ran 15 = .ok (.invokespecial 98, 3) := by decide +kernel
theorem dX6_ran_18 : decode cX6_ran 18 = .ok (.athrow, 1) := by decide +kernel
theorem dX6_ran_19 : decode cX6_ran 19 = .ok (.aload_n 0, 1) := by decide +kernel
theorem dX6_ran_20 : decode cX6_ran 20 = .ok (.getfield 35, 3) := by decide +kernel
theorem dX6_ran_23 : decode cX6_ran 23 = .ok (.iload_n 1, 1) := by decide +kernel
theorem dX6_ran_24 : decode cX6_ran 24 = .ok (.invokevirtual 153, 3) := by decide +kernel
theorem dX6_ran_27 : decode cX6_ran 27 = .ok (.lreturn, 1) := by decide +kernel
theorem dX6_about_0 : decode cX6_about 0 = .ok (.aload_n 0, 1) := by decide +kernel
theorem dX6_about_1 : decode cX6_about 1 = .ok (.iload_n 1, 1) := by decide +kernel
theorem dX6_about_2 : decode cX6_about 2 = .ok (.invokevirtual 74, 3) := by decide +kernel
theorem dX6_about_5 : decode cX6_about 5 = .ok (.astore_n 3, 1) := by decide +kernel
theorem dX6_about_6 : decode cX6_about 6 = .ok (.iload_n 2, 1) := by decide +kernel
theorem dX6_about_7 : decode cX6_about 7 = .ok (.ifCond .lt 8, 3) := by decide +kernel
theorem dX6_about_10 : decode cX6_about 10 = .ok (.iload_n 2, 1) := by decide +kernel
theorem dX6_about_11 : decode cX6_about 11 = .ok (.iconst 3, 1) := by decide +kernel
theorem dX6_about_12 : decode cX6_about 12 = .ok (.if_icmp .le 13, 3) := by decide +kernel
theorem dX6_about_15 : decode cX6_about 15 = .ok (.new 94, 3) := by decide +kernel
theorem dX6_about_18 : decode cX6_about 18 = .ok (.dup, 1) := by decide +kernel
theorem dX6_about_19 : decode cX6_about 19 = .ok (.ldc 156, 2) := by decide +kernel
theorem dX6_about_21 : decode cX6_about 21 = .ok (.invokespecial 98, 3) := by decide +kernel
theorem dX6_about_24 : decode cX6_about 24 = .ok (.athrow, 1) := by decide +kernel
theorem dX6_about_25 : decode cX6_about 25 = .ok (.aload_n 3, 1) := by decide +kernel
theorem dX6_about_26 : decode cX6_about 26 = .ok (.iload_n 2, 1) := by decide +kernel
theorem dX6_about_27 : decode cX6_about 27 = .ok (.invokevirtual 158, 3) := by decide +kernel
theorem dX6_about_30 : decode cX6_about 30 = .ok (.ireturn, 1) := by decide +kernel
theorem dX6_known_0 : decode cX6_known 0 = .ok (.aload_n 0, 1) := by decide +kernel
theorem dX6_known_1 : decode cX6_known 1 = .ok (.getfield 10, 3) := by decide +kernel
theorem dX6_known_4 : decode cX6_known 4 = .ok (.iload_n 1, 1) := by decide +kernel
theorem dX6_known_5 : decode cX6_known 5 = .ok (.i2l, 1) := by decide +kernel
theorem dX6_known_6 : decode cX6_known 6 = .ok (.invokevirtual 160, 3) := by decide +kernel
theorem dX6_known_9 : decode cX6_known 9 = .ok (.astore_n 2, 1) := by decide +kernel
theorem dX6_known_10 : decode cX6_known 10 = .ok (.aload_n 2, 1) := by decide +kernel
theorem dX6_known_11 : decode cX6_known 11 = .ok (.ifnonnull 13, 3) := by decide +kernel
theorem dX6_known_14 : decode cX6_known 14 = .ok (.new 94, 3) := by decide +kernel
theorem dX6_known_17 : decode cX6_known 17 = .ok (.dup, 1) := by decide +kernel
theorem dX6_known_18 : decode cX6_known 18 = .ok (.ldc 164, 2) := by decide +kernel
theorem dX6_known_20 : decode cX6_known 20 = .ok (.invokespecial 98, 3) := by decide +kernel
theorem dX6_known_23 : decode cX6_known 23 = .ok (.athrow, 1) := by decide +kernel
theorem dX6_known_24 : decode cX6_known 24 = .ok (.aload_n 2, 1) := by decide +kernel
theorem dX6_known_25 : decode cX6_known 25 = .ok (.areturn, 1) := by decide +kernel
theorem dX6_knownWith_0 : decode cX6_knownWith 0 = .ok (.aload_n 0, 1) := by decide +kernel
theorem dX6_knownWith_1 : decode cX6_knownWith 1 = .ok (.iload_n 1, 1) := by decide +kernel
theorem dX6_knownWith_2 : decode cX6_knownWith 2 = .ok (.invokevirtual 74, 3) := by decide +kernel
theorem dX6_knownWith_5 : decode cX6_knownWith 5 = .ok (.astore_n 3, 1) := by decide +kernel
theorem dX6_knownWith_6 : decode cX6_knownWith 6 = .ok (.aload_n 3, 1) := by decide +kernel
theorem dX6_knownWith_7 : decode cX6_knownWith 7 = .ok (.iload_n 2, 1) := by decide +kernel
theorem dX6_knownWith_8 : decode cX6_knownWith 8 = .ok (.i2l, 1) := by decide +kernel
theorem dX6_knownWith_9 : decode cX6_knownWith 9 = .ok (.invokevirtual 166, 3) := by decide +kernel
theorem dX6_knownWith_12 : decode cX6_knownWith 12 = .ok (.ifCond .ne 13, 3) := by decide +kernel
theorem dX6_knownWith_15 : decode cX6_knownWith 15 = .ok (.new 94, 3) := by decide +kernel
theorem dX6_knownWith_18 : decode cX6_knownWith 18 = .ok (.dup, 1) := by decide +kernel
theorem dX6_knownWith_19 : decode cX6_knownWith 19 = .ok (.ldc 170, 2) := by decide +kernel
theorem dX6_knownWith_21 : decode cX6_knownWith 21 = .ok (.invokespecial 98, 3) := by decide +kernel
theorem dX6_knownWith_24 : decode cX6_knownWith 24 = .ok (.athrow, 1) := by decide +kernel
theorem dX6_knownWith_25 : decode cX6_knownWith 25 = .ok (.aload_n 3, 1) := by decide +kernel
theorem dX6_knownWith_26 : decode cX6_knownWith 26 = .ok (.areturn, 1) := by decide +kernel
theorem dX6_isOperation_0 : decode cX6_isOperation 0 = .ok (.iload_n 0, 1) := by decide +kernel
theorem dX6_isOperation_1 : decode cX6_isOperation 1 = .ok (.ifCond .lt 13, 3) := by decide +kernel
theorem dX6_isOperation_4 : decode cX6_isOperation 4 = .ok (.iload_n 0, 1) := by decide +kernel
theorem dX6_isOperation_5 : decode cX6_isOperation 5 = .ok (.bipush 18, 2) := by decide +kernel
theorem dX6_isOperation_7 : decode cX6_isOperation 7 = .ok (.if_icmp .ge 7, 3) := by decide +kernel
theorem dX6_isOperation_10 : decode cX6_isOperation 10 = .ok (.iconst 1, 1) := by decide +kernel
theorem dX6_isOperation_11 : decode cX6_isOperation 11 = .ok (.goto 4, 3) := by decide +kernel
theorem dX6_isOperation_14 : decode cX6_isOperation 14 = .ok (.iconst 0, 1) := by decide +kernel
theorem dX6_isOperation_15 : decode cX6_isOperation 15 = .ok (.ireturn, 1) := by decide +kernel
theorem dJ7_fill_53178_0 : decode cJ7_fill_53178 0 = .ok (.iconst 0, 1) := by decide +kernel
theorem dJ7_fill_53178_1 : decode cJ7_fill_53178 1 = .ok (.istore_n 2, 1) := by decide +kernel
theorem dJ7_fill_53178_2 : decode cJ7_fill_53178 2 = .ok (.aload_n 0, 1) := by decide +kernel
theorem dJ7_fill_53178_3 : decode cJ7_fill_53178 3 = .ok (.arraylength, 1) := by decide +kernel
theorem dJ7_fill_53178_4 : decode cJ7_fill_53178 4 = .ok (.istore_n 3, 1) := by decide +kernel
theorem dJ7_fill_53178_5 : decode cJ7_fill_53178 5 = .ok (.iload_n 2, 1) := by decide +kernel
theorem dJ7_fill_53178_6 : decode cJ7_fill_53178 6 = .ok (.iload_n 3, 1) := by decide +kernel
theorem dJ7_fill_53178_7 : decode cJ7_fill_53178 7 = .ok (.if_icmp .ge 13, 3) := by decide +kernel
theorem dJ7_fill_53178_10 : decode cJ7_fill_53178 10 = .ok (.aload_n 0, 1) := by decide +kernel
theorem dJ7_fill_53178_11 : decode cJ7_fill_53178 11 = .ok (.iload_n 2, 1) := by decide +kernel
theorem dJ7_fill_53178_12 : decode cJ7_fill_53178 12 = .ok (.iload_n 1, 1) := by decide +kernel
theorem dJ7_fill_53178_13 : decode cJ7_fill_53178 13 = .ok (.iastore, 1) := by decide +kernel
theorem dJ7_fill_53178_14 : decode cJ7_fill_53178 14 = .ok (.iinc 2 1, 3) := by decide +kernel
theorem dJ7_fill_53178_17 : decode cJ7_fill_53178 17 = .ok (.goto (-12), 3) := by decide +kernel
theorem dJ7_fill_53178_20 : decode cJ7_fill_53178 20 = .ok (.return_, 1) := by decide +kernel
theorem dJ9_max_7cf53_0 : decode cJ9_max_7cf53 0 = .ok (.iload_n 0, 1) := by decide +kernel
theorem dJ9_max_7cf53_1 : decode cJ9_max_7cf53 1 = .ok (.iload_n 1, 1) := by decide +kernel
theorem dJ9_max_7cf53_2 : decode cJ9_max_7cf53 2 = .ok (.if_icmp .lt 7, 3) := by decide +kernel
theorem dJ9_max_7cf53_5 : decode cJ9_max_7cf53 5 = .ok (.iload_n 0, 1) := by decide +kernel
theorem dJ9_max_7cf53_6 : decode cJ9_max_7cf53 6 = .ok (.goto 4, 3) := by decide +kernel
theorem dJ9_max_7cf53_9 : decode cJ9_max_7cf53 9 = .ok (.iload_n 1, 1) := by decide +kernel
theorem dJ9_max_7cf53_10 : decode cJ9_max_7cf53 10 = .ok (.ireturn, 1) := by decide +kernel
theorem dJ9_max_f86c9_0 : decode cJ9_max_f86c9 0 = .ok (.lload_n 0, 1) := by decide +kernel
theorem dJ9_max_f86c9_1 : decode cJ9_max_f86c9 1 = .ok (.lload_n 2, 1) := by decide +kernel
theorem dJ9_max_f86c9_2 : decode cJ9_max_f86c9 2 = .ok (.lcmp, 1) := by decide +kernel
theorem dJ9_max_f86c9_3 : decode cJ9_max_f86c9 3 = .ok (.ifCond .lt 7, 3) := by decide +kernel
theorem dJ9_max_f86c9_6 : decode cJ9_max_f86c9 6 = .ok (.lload_n 0, 1) := by decide +kernel
theorem dJ9_max_f86c9_7 : decode cJ9_max_f86c9 7 = .ok (.goto 4, 3) := by decide +kernel
theorem dJ9_max_f86c9_10 : decode cJ9_max_f86c9 10 = .ok (.lload_n 2, 1) := by decide +kernel
theorem dJ9_max_f86c9_11 : decode cJ9_max_f86c9 11 = .ok (.lreturn, 1) := by decide +kernel
