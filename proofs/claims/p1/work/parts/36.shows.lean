theorem dX11_answerCell_0 : decode cX11_answerCell 0 = .ok (.iload_n 1, 1) := by decide +kernel
theorem dX11_answerCell_1 : decode cX11_answerCell 1 = .ok (.ifCond .lt 23, 3) := by decide +kernel
theorem dX11_answerCell_4 : decode cX11_answerCell 4 = .ok (.iload_n 1, 1) := by decide +kernel
theorem dX11_answerCell_5 : decode cX11_answerCell 5 = .ok (.aload_n 0, 1) := by decide +kernel
theorem dX11_answerCell_6 : decode cX11_answerCell 6 = .ok (.getfield 162, 3) := by decide +kernel
theorem dX11_answerCell_9 : decode cX11_answerCell 9 = .ok (.if_icmp .ge 15, 3) := by decide +kernel
theorem dX11_answerCell_24 : decode cX11_answerCell 24 = .ok (.iconst (-1), 1) := by decide +kernel
theorem dX11_answerCell_25 : decode cX11_answerCell 25 = .ok (.ireturn, 1) := by decide +kernel
