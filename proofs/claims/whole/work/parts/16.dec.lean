theorem dX7_about_64 : decode cX7_about 64 = .ok (.if_icmp .ne 12, 3) := by decide +kernel
theorem dX7_about_67 : decode cX7_about 67 = .ok (.aload_n 0, 1) := by decide +kernel
theorem dX7_about_68 : decode cX7_about 68 = .ok (.getfield 16, 3) := by decide +kernel
theorem dX7_about_71 : decode cX7_about 71 = .ok (.iload_n 1, 1) := by decide +kernel
theorem dX7_about_72 : decode cX7_about 72 = .ok (.iaload, 1) := by decide +kernel
theorem dX7_about_73 : decode cX7_about 73 = .ok (.goto 9, 3) := by decide +kernel
theorem dX7_about_76 : decode cX7_about 76 = .ok (.aload_n 0, 1) := by decide +kernel
theorem dX7_about_77 : decode cX7_about 77 = .ok (.getfield 19, 3) := by decide +kernel
theorem dX7_about_80 : decode cX7_about 80 = .ok (.iload_n 1, 1) := by decide +kernel
theorem dX7_about_81 : decode cX7_about 81 = .ok (.iaload, 1) := by decide +kernel
theorem dX7_about_82 : decode cX7_about 82 = .ok (.ireturn, 1) := by decide +kernel
