/-! ===== the reference's methods, 331 ===== -/
def m_MD_walk : mr_T := (⟨"PlainMusicModel", "walk", "(I)Z"⟩, prog_14_method_39_code, 7, some .boolean)
theorem d_MD_walk_0 : decode prog_14_method_39_code 0 = .ok (.iconst 4, 1) := by decide +kernel
theorem d_MD_walk_1 : decode prog_14_method_39_code 1 = .ok (.aload_n 0, 1) := by decide +kernel
theorem d_MD_walk_2 : decode prog_14_method_39_code 2 = .ok (.getfield 17, 3) := by decide +kernel
theorem d_MD_walk_5 : decode prog_14_method_39_code 5 = .ok (.iconst 1, 1) := by decide +kernel
theorem d_MD_walk_6 : decode prog_14_method_39_code 6 = .ok (.iaload, 1) := by decide +kernel
theorem d_MD_walk_7 : decode prog_14_method_39_code 7 = .ok (.iadd, 1) := by decide +kernel
theorem d_MD_walk_8 : decode prog_14_method_39_code 8 = .ok (.istore_n 2, 1) := by decide +kernel
theorem d_MD_walk_9 : decode prog_14_method_39_code 9 = .ok (.aload_n 0, 1) := by decide +kernel
theorem d_MD_walk_10 : decode prog_14_method_39_code 10 = .ok (.iconst 0, 1) := by decide +kernel
theorem d_MD_walk_11 : decode prog_14_method_39_code 11 = .ok (.putfield 399, 3) := by decide +kernel
theorem d_MD_walk_14 : decode prog_14_method_39_code 14 = .ok (.aload_n 0, 1) := by decide +kernel
theorem d_MD_walk_15 : decode prog_14_method_39_code 15 = .ok (.iconst 0, 1) := by decide +kernel
theorem d_MD_walk_16 : decode prog_14_method_39_code 16 = .ok (.putfield 402, 3) := by decide +kernel
theorem d_MD_walk_19 : decode prog_14_method_39_code 19 = .ok (.aload_n 0, 1) := by decide +kernel
theorem d_MD_walk_20 : decode prog_14_method_39_code 20 = .ok (.iconst 0, 1) := by decide +kernel
theorem d_MD_walk_21 : decode prog_14_method_39_code 21 = .ok (.putfield 405, 3) := by decide +kernel
theorem d_MD_walk_24 : decode prog_14_method_39_code 24 = .ok (.aload_n 0, 1) := by decide +kernel
theorem d_MD_walk_25 : decode prog_14_method_39_code 25 = .ok (.iconst 0, 1) := by decide +kernel
theorem d_MD_walk_26 : decode prog_14_method_39_code 26 = .ok (.putfield 408, 3) := by decide +kernel
theorem d_MD_walk_29 : decode prog_14_method_39_code 29 = .ok (.aload_n 0, 1) := by decide +kernel
theorem d_MD_walk_30 : decode prog_14_method_39_code 30 = .ok (.iconst 0, 1) := by decide +kernel
theorem d_MD_walk_31 : decode prog_14_method_39_code 31 = .ok (.putfield 411, 3) := by decide +kernel
theorem d_MD_walk_34 : decode prog_14_method_39_code 34 = .ok (.aload_n 0, 1) := by decide +kernel
theorem d_MD_walk_35 : decode prog_14_method_39_code 35 = .ok (.lconst 0, 1) := by decide +kernel
theorem d_MD_walk_36 : decode prog_14_method_39_code 36 = .ok (.putfield 414, 3) := by decide +kernel
theorem d_MD_walk_39 : decode prog_14_method_39_code 39 = .ok (.aload_n 0, 1) := by decide +kernel
theorem d_MD_walk_40 : decode prog_14_method_39_code 40 = .ok (.lconst 1, 1) := by decide +kernel
theorem d_MD_walk_41 : decode prog_14_method_39_code 41 = .ok (.putfield 417, 3) := by decide +kernel
theorem d_MD_walk_44 : decode prog_14_method_39_code 44 = .ok (.aload_n 0, 1) := by decide +kernel
theorem d_MD_walk_45 : decode prog_14_method_39_code 45 = .ok (.lconst 1, 1) := by decide +kernel
theorem d_MD_walk_46 : decode prog_14_method_39_code 46 = .ok (.putfield 420, 3) := by decide +kernel
theorem d_MD_walk_49 : decode prog_14_method_39_code 49 = .ok (.aload_n 0, 1) := by decide +kernel
theorem d_MD_walk_50 : decode prog_14_method_39_code 50 = .ok (.lconst 1, 1) := by decide +kernel
theorem d_MD_walk_51 : decode prog_14_method_39_code 51 = .ok (.putfield 423, 3) := by decide +kernel
theorem d_MD_walk_54 : decode prog_14_method_39_code 54 = .ok (.aload_n 0, 1) := by decide +kernel
theorem d_MD_walk_55 : decode prog_14_method_39_code 55 = .ok (.getfield 100, 3) := by decide +kernel
theorem d_MD_walk_58 : decode prog_14_method_39_code 58 = .ok (.bipush 102, 2) := by decide +kernel
theorem d_MD_walk_60 : decode prog_14_method_39_code 60 = .ok (.iload_n 2, 1) := by decide +kernel
theorem d_MD_walk_61 : decode prog_14_method_39_code 61 = .ok (.imul, 1) := by decide +kernel
theorem d_MD_walk_62 : decode prog_14_method_39_code 62 = .ok (.lconst 0, 1) := by decide +kernel
theorem d_MD_walk_63 : decode prog_14_method_39_code 63 = .ok (.lastore, 1) := by decide +kernel
theorem d_MD_walk_64 : decode prog_14_method_39_code 64 = .ok (.aload_n 0, 1) := by decide +kernel
theorem d_MD_walk_65 : decode prog_14_method_39_code 65 = .ok (.getfield 103, 3) := by decide +kernel
theorem d_MD_walk_68 : decode prog_14_method_39_code 68 = .ok (.bipush 102, 2) := by decide +kernel
theorem d_MD_walk_70 : decode prog_14_method_39_code 70 = .ok (.iload_n 2, 1) := by decide +kernel
theorem d_MD_walk_71 : decode prog_14_method_39_code 71 = .ok (.imul, 1) := by decide +kernel
theorem d_MD_walk_72 : decode prog_14_method_39_code 72 = .ok (.lconst 1, 1) := by decide +kernel
theorem d_MD_walk_73 : decode prog_14_method_39_code 73 = .ok (.lastore, 1) := by decide +kernel
theorem d_MD_walk_74 : decode prog_14_method_39_code 74 = .ok (.iconst 0, 1) := by decide +kernel
theorem d_MD_walk_75 : decode prog_14_method_39_code 75 = .ok (.istore_n 3, 1) := by decide +kernel
theorem d_MD_walk_76 : decode prog_14_method_39_code 76 = .ok (.iconst 0, 1) := by decide +kernel
theorem d_MD_walk_77 : decode prog_14_method_39_code 77 = .ok (.istore 4, 2) := by decide +kernel
theorem d_MD_walk_79 : decode prog_14_method_39_code 79 = .ok (.iload_n 3, 1) := by decide +kernel
theorem d_MD_walk_80 : decode prog_14_method_39_code 80 = .ok (.aload_n 0, 1) := by decide +kernel
theorem d_MD_walk_81 : decode prog_14_method_39_code 81 = .ok (.getfield 354, 3) := by decide +kernel
theorem d_MD_walk_84 : decode prog_14_method_39_code 84 = .ok (.if_icmp .ge 446, 3) := by decide +kernel
theorem d_MD_walk_530 : decode prog_14_method_39_code 530 = .ok (.iload 4, 2) := by decide +kernel
theorem d_MD_walk_532 : decode prog_14_method_39_code 532 = .ok (.ifCond .eq 10, 3) := by decide +kernel
theorem d_MD_walk_542 : decode prog_14_method_39_code 542 = .ok (.aload_n 0, 1) := by decide +kernel
theorem d_MD_walk_543 : decode prog_14_method_39_code 543 = .ok (.getfield 411, 3) := by decide +kernel
theorem d_MD_walk_546 : decode prog_14_method_39_code 546 = .ok (.ifCond .eq 11, 3) := by decide +kernel
theorem d_MD_walk_557 : decode prog_14_method_39_code 557 = .ok (.aload_n 0, 1) := by decide +kernel
theorem d_MD_walk_558 : decode prog_14_method_39_code 558 = .ok (.getfield 57, 3) := by decide +kernel
theorem d_MD_walk_561 : decode prog_14_method_39_code 561 = .ok (.iload_n 2, 1) := by decide +kernel
theorem d_MD_walk_562 : decode prog_14_method_39_code 562 = .ok (.aload_n 0, 1) := by decide +kernel
theorem d_MD_walk_563 : decode prog_14_method_39_code 563 = .ok (.getfield 405, 3) := by decide +kernel
theorem d_MD_walk_566 : decode prog_14_method_39_code 566 = .ok (.iastore, 1) := by decide +kernel
theorem d_MD_walk_567 : decode prog_14_method_39_code 567 = .ok (.aload_n 0, 1) := by decide +kernel
theorem d_MD_walk_568 : decode prog_14_method_39_code 568 = .ok (.getfield 60, 3) := by decide +kernel
theorem d_MD_walk_571 : decode prog_14_method_39_code 571 = .ok (.iload_n 2, 1) := by decide +kernel
theorem d_MD_walk_572 : decode prog_14_method_39_code 572 = .ok (.aload_n 0, 1) := by decide +kernel
theorem d_MD_walk_573 : decode prog_14_method_39_code 573 = .ok (.getfield 408, 3) := by decide +kernel
theorem d_MD_walk_576 : decode prog_14_method_39_code 576 = .ok (.iconst 1, 1) := by decide +kernel
theorem d_MD_walk_577 : decode prog_14_method_39_code 577 = .ok (.iadd, 1) := by decide +kernel
theorem d_MD_walk_578 : decode prog_14_method_39_code 578 = .ok (.iastore, 1) := by decide +kernel
theorem d_MD_walk_579 : decode prog_14_method_39_code 579 = .ok (.aload_n 0, 1) := by decide +kernel
theorem d_MD_walk_580 : decode prog_14_method_39_code 580 = .ok (.getfield 100, 3) := by decide +kernel
theorem d_MD_walk_583 : decode prog_14_method_39_code 583 = .ok (.bipush 102, 2) := by decide +kernel
theorem d_MD_walk_585 : decode prog_14_method_39_code 585 = .ok (.iload_n 2, 1) := by decide +kernel
theorem d_MD_walk_586 : decode prog_14_method_39_code 586 = .ok (.imul, 1) := by decide +kernel
theorem d_MD_walk_587 : decode prog_14_method_39_code 587 = .ok (.aload_n 0, 1) := by decide +kernel
theorem d_MD_walk_588 : decode prog_14_method_39_code 588 = .ok (.getfield 408, 3) := by decide +kernel
theorem d_MD_walk_591 : decode prog_14_method_39_code 591 = .ok (.iadd, 1) := by decide +kernel
theorem d_MD_walk_592 : decode prog_14_method_39_code 592 = .ok (.iconst 1, 1) := by decide +kernel
theorem d_MD_walk_593 : decode prog_14_method_39_code 593 = .ok (.iadd, 1) := by decide +kernel
theorem d_MD_walk_594 : decode prog_14_method_39_code 594 = .ok (.aload_n 0, 1) := by decide +kernel
theorem d_MD_walk_595 : decode prog_14_method_39_code 595 = .ok (.getfield 414, 3) := by decide +kernel
theorem d_MD_walk_598 : decode prog_14_method_39_code 598 = .ok (.lastore, 1) := by decide +kernel
theorem d_MD_walk_599 : decode prog_14_method_39_code 599 = .ok (.aload_n 0, 1) := by decide +kernel
theorem d_MD_walk_600 : decode prog_14_method_39_code 600 = .ok (.getfield 103, 3) := by decide +kernel
theorem d_MD_walk_603 : decode prog_14_method_39_code 603 = .ok (.bipush 102, 2) := by decide +kernel
theorem d_MD_walk_605 : decode prog_14_method_39_code 605 = .ok (.iload_n 2, 1) := by decide +kernel
theorem d_MD_walk_606 : decode prog_14_method_39_code 606 = .ok (.imul, 1) := by decide +kernel
theorem d_MD_walk_607 : decode prog_14_method_39_code 607 = .ok (.aload_n 0, 1) := by decide +kernel
theorem d_MD_walk_608 : decode prog_14_method_39_code 608 = .ok (.getfield 408, 3) := by decide +kernel
theorem d_MD_walk_611 : decode prog_14_method_39_code 611 = .ok (.iadd, 1) := by decide +kernel
theorem d_MD_walk_612 : decode prog_14_method_39_code 612 = .ok (.iconst 1, 1) := by decide +kernel
theorem d_MD_walk_613 : decode prog_14_method_39_code 613 = .ok (.iadd, 1) := by decide +kernel
theorem d_MD_walk_614 : decode prog_14_method_39_code 614 = .ok (.aload_n 0, 1) := by decide +kernel
theorem d_MD_walk_615 : decode prog_14_method_39_code 615 = .ok (.getfield 417, 3) := by decide +kernel
theorem d_MD_walk_618 : decode prog_14_method_39_code 618 = .ok (.lastore, 1) := by decide +kernel
theorem d_MD_walk_619 : decode prog_14_method_39_code 619 = .ok (.iconst 1, 1) := by decide +kernel
theorem d_MD_walk_620 : decode prog_14_method_39_code 620 = .ok (.ireturn, 1) := by decide +kernel
theorem d_MD_walk_549 : decode prog_14_method_39_code 549 = .ok (.aload_n 0, 1) := by decide +kernel
theorem d_MD_walk_550 : decode prog_14_method_39_code 550 = .ok (.bipush 6, 2) := by decide +kernel
theorem d_MD_walk_552 : decode prog_14_method_39_code 552 = .ok (.iload_n 1, 1) := by decide +kernel
theorem d_MD_walk_553 : decode prog_14_method_39_code 553 = .ok (.invokevirtual 245, 3) := by decide +kernel
theorem d_MD_walk_556 : decode prog_14_method_39_code 556 = .ok (.ireturn, 1) := by decide +kernel
theorem d_MD_walk_535 : decode prog_14_method_39_code 535 = .ok (.aload_n 0, 1) := by decide +kernel
theorem d_MD_walk_536 : decode prog_14_method_39_code 536 = .ok (.iconst 3, 1) := by decide +kernel
theorem d_MD_walk_537 : decode prog_14_method_39_code 537 = .ok (.iload_n 1, 1) := by decide +kernel
theorem d_MD_walk_538 : decode prog_14_method_39_code 538 = .ok (.invokevirtual 245, 3) := by decide +kernel
theorem d_MD_walk_541 : decode prog_14_method_39_code 541 = .ok (.ireturn, 1) := by decide +kernel
theorem d_MD_walk_87 : decode prog_14_method_39_code 87 = .ok (.iload 4, 2) := by decide +kernel
theorem d_MD_walk_89 : decode prog_14_method_39_code 89 = .ok (.ifCond .ne 441, 3) := by decide +kernel
theorem d_MD_walk_92 : decode prog_14_method_39_code 92 = .ok (.aload_n 0, 1) := by decide +kernel
theorem d_MD_walk_93 : decode prog_14_method_39_code 93 = .ok (.getfield 106, 3) := by decide +kernel
theorem d_MD_walk_96 : decode prog_14_method_39_code 96 = .ok (.iload_n 3, 1) := by decide +kernel
theorem d_MD_walk_97 : decode prog_14_method_39_code 97 = .ok (.iaload, 1) := by decide +kernel
theorem d_MD_walk_98 : decode prog_14_method_39_code 98 = .ok (.istore 5, 2) := by decide +kernel
theorem d_MD_walk_100 : decode prog_14_method_39_code 100 = .ok (.iload 5, 2) := by decide +kernel
theorem d_MD_walk_102 : decode prog_14_method_39_code 102 = .ok (.ifCond .eq 21, 3) := by decide +kernel
theorem d_MD_walk_123 : decode prog_14_method_39_code 123 = .ok (.aload_n 0, 1) := by decide +kernel
theorem d_MD_walk_124 : decode prog_14_method_39_code 124 = .ok (.dup, 1) := by decide +kernel
theorem d_MD_walk_125 : decode prog_14_method_39_code 125 = .ok (.getfield 402, 3) := by decide +kernel
theorem d_MD_walk_128 : decode prog_14_method_39_code 128 = .ok (.iconst 1, 1) := by decide +kernel
theorem d_MD_walk_129 : decode prog_14_method_39_code 129 = .ok (.iadd, 1) := by decide +kernel
theorem d_MD_walk_130 : decode prog_14_method_39_code 130 = .ok (.putfield 402, 3) := by decide +kernel
theorem d_MD_walk_133 : decode prog_14_method_39_code 133 = .ok (.iload 5, 2) := by decide +kernel
theorem d_MD_walk_135 : decode prog_14_method_39_code 135 = .ok (.ifCond .ne 35, 3) := by decide +kernel
theorem d_MD_walk_138 : decode prog_14_method_39_code 138 = .ok (.aload_n 0, 1) := by decide +kernel
theorem d_MD_walk_139 : decode prog_14_method_39_code 139 = .ok (.getfield 405, 3) := by decide +kernel
theorem d_MD_walk_142 : decode prog_14_method_39_code 142 = .ok (.sipush 300, 3) := by decide +kernel
theorem d_MD_walk_145 : decode prog_14_method_39_code 145 = .ok (.if_icmp .ge 9, 3) := by decide +kernel
theorem d_MD_walk_154 : decode prog_14_method_39_code 154 = .ok (.aload_n 0, 1) := by decide +kernel
theorem d_MD_walk_155 : decode prog_14_method_39_code 155 = .ok (.dup, 1) := by decide +kernel
theorem d_MD_walk_156 : decode prog_14_method_39_code 156 = .ok (.getfield 405, 3) := by decide +kernel
theorem d_MD_walk_159 : decode prog_14_method_39_code 159 = .ok (.iconst 1, 1) := by decide +kernel
theorem d_MD_walk_160 : decode prog_14_method_39_code 160 = .ok (.iadd, 1) := by decide +kernel
theorem d_MD_walk_161 : decode prog_14_method_39_code 161 = .ok (.putfield 405, 3) := by decide +kernel
theorem d_MD_walk_164 : decode prog_14_method_39_code 164 = .ok (.iinc 3 1, 3) := by decide +kernel
theorem d_MD_walk_167 : decode prog_14_method_39_code 167 = .ok (.goto 324, 3) := by decide +kernel
theorem d_MD_walk_491 : decode prog_14_method_39_code 491 = .ok (.aload_n 0, 1) := by decide +kernel
theorem d_MD_walk_492 : decode prog_14_method_39_code 492 = .ok (.getfield 405, 3) := by decide +kernel
theorem d_MD_walk_495 : decode prog_14_method_39_code 495 = .ok (.sipush 300, 3) := by decide +kernel
theorem d_MD_walk_498 : decode prog_14_method_39_code 498 = .ok (.if_icmp .gt 22, 3) := by decide +kernel
theorem d_MD_walk_520 : decode prog_14_method_39_code 520 = .ok (.iconst 1, 1) := by decide +kernel
theorem d_MD_walk_521 : decode prog_14_method_39_code 521 = .ok (.goto 4, 3) := by decide +kernel
theorem d_MD_walk_525 : decode prog_14_method_39_code 525 = .ok (.istore 4, 2) := by decide +kernel
theorem d_MD_walk_527 : decode prog_14_method_39_code 527 = .ok (.goto (-448), 3) := by decide +kernel
theorem d_MD_walk_148 : decode prog_14_method_39_code 148 = .ok (.aload_n 0, 1) := by decide +kernel
theorem d_MD_walk_149 : decode prog_14_method_39_code 149 = .ok (.iload_n 2, 1) := by decide +kernel
theorem d_MD_walk_150 : decode prog_14_method_39_code 150 = .ok (.iload_n 3, 1) := by decide +kernel
theorem d_MD_walk_151 : decode prog_14_method_39_code 151 = .ok (.invokevirtual 426, 3) := by decide +kernel
theorem k_MD_event_IIV : mt_OK m_MD_event_IIV 2 1 := ⟨gwi_1933, gwi_146, ⟨by decide +kernel, by decide +kernel, by decide +kernel⟩, fun h => absurd h (by decide), fun _ => ⟨gwi_1932, gwi_83⟩, fun h => absurd h (by decide)⟩
theorem l_MD_426 : ml_OK "PlainMusicModel" 426 ⟨"PlainMusicModel", "event", "(II)V"⟩ := Or.inl gwi_1930
theorem d_MD_walk_501 : decode prog_14_method_39_code 501 = .ok (.aload_n 0, 1) := by decide +kernel
theorem d_MD_walk_502 : decode prog_14_method_39_code 502 = .ok (.getfield 408, 3) := by decide +kernel
theorem d_MD_walk_505 : decode prog_14_method_39_code 505 = .ok (.bipush 100, 2) := by decide +kernel
theorem d_MD_walk_507 : decode prog_14_method_39_code 507 = .ok (.if_icmp .gt 13, 3) := by decide +kernel
theorem d_MD_walk_510 : decode prog_14_method_39_code 510 = .ok (.aload_n 0, 1) := by decide +kernel
theorem d_MD_walk_511 : decode prog_14_method_39_code 511 = .ok (.getfield 402, 3) := by decide +kernel
theorem d_MD_walk_514 : decode prog_14_method_39_code 514 = .ok (.sipush 2000, 3) := by decide +kernel
theorem d_MD_walk_517 : decode prog_14_method_39_code 517 = .ok (.if_icmp .le 7, 3) := by decide +kernel
theorem d_MD_walk_524 : decode prog_14_method_39_code 524 = .ok (.iconst 0, 1) := by decide +kernel
theorem d_MD_walk_105 : decode prog_14_method_39_code 105 = .ok (.iload 5, 2) := by decide +kernel
theorem d_MD_walk_107 : decode prog_14_method_39_code 107 = .ok (.iconst 1, 1) := by decide +kernel
theorem d_MD_walk_108 : decode prog_14_method_39_code 108 = .ok (.if_icmp .eq 15, 3) := by decide +kernel
theorem d_MD_walk_170 : decode prog_14_method_39_code 170 = .ok (.iload 5, 2) := by decide +kernel
theorem d_MD_walk_172 : decode prog_14_method_39_code 172 = .ok (.iconst 1, 1) := by decide +kernel
theorem d_MD_walk_173 : decode prog_14_method_39_code 173 = .ok (.if_icmp .ne 64, 3) := by decide +kernel
theorem d_MD_walk_176 : decode prog_14_method_39_code 176 = .ok (.aload_n 0, 1) := by decide +kernel
theorem d_MD_walk_177 : decode prog_14_method_39_code 177 = .ok (.dup, 1) := by decide +kernel
theorem d_MD_walk_178 : decode prog_14_method_39_code 178 = .ok (.getfield 408, 3) := by decide +kernel
theorem d_MD_walk_181 : decode prog_14_method_39_code 181 = .ok (.iconst 1, 1) := by decide +kernel
theorem d_MD_walk_182 : decode prog_14_method_39_code 182 = .ok (.iadd, 1) := by decide +kernel
theorem d_MD_walk_183 : decode prog_14_method_39_code 183 = .ok (.putfield 408, 3) := by decide +kernel
theorem d_MD_walk_186 : decode prog_14_method_39_code 186 = .ok (.aload_n 0, 1) := by decide +kernel
theorem d_MD_walk_187 : decode prog_14_method_39_code 187 = .ok (.getfield 408, 3) := by decide +kernel
theorem d_MD_walk_190 : decode prog_14_method_39_code 190 = .ok (.bipush 100, 2) := by decide +kernel
theorem d_MD_walk_192 : decode prog_14_method_39_code 192 = .ok (.if_icmp .gt 39, 3) := by decide +kernel
theorem d_MD_walk_231 : decode prog_14_method_39_code 231 = .ok (.iinc 3 1, 3) := by decide +kernel
theorem d_MD_walk_234 : decode prog_14_method_39_code 234 = .ok (.goto 257, 3) := by decide +kernel
theorem d_MD_walk_195 : decode prog_14_method_39_code 195 = .ok (.aload_n 0, 1) := by decide +kernel
theorem d_MD_walk_196 : decode prog_14_method_39_code 196 = .ok (.getfield 100, 3) := by decide +kernel
theorem d_MD_walk_199 : decode prog_14_method_39_code 199 = .ok (.bipush 102, 2) := by decide +kernel
theorem d_MD_walk_201 : decode prog_14_method_39_code 201 = .ok (.iload_n 2, 1) := by decide +kernel
theorem d_MD_walk_202 : decode prog_14_method_39_code 202 = .ok (.imul, 1) := by decide +kernel
theorem d_MD_walk_203 : decode prog_14_method_39_code 203 = .ok (.aload_n 0, 1) := by decide +kernel
theorem d_MD_walk_204 : decode prog_14_method_39_code 204 = .ok (.getfield 408, 3) := by decide +kernel
theorem d_MD_walk_207 : decode prog_14_method_39_code 207 = .ok (.iadd, 1) := by decide +kernel
theorem d_MD_walk_208 : decode prog_14_method_39_code 208 = .ok (.aload_n 0, 1) := by decide +kernel
theorem d_MD_walk_209 : decode prog_14_method_39_code 209 = .ok (.getfield 414, 3) := by decide +kernel
theorem d_MD_walk_212 : decode prog_14_method_39_code 212 = .ok (.lastore, 1) := by decide +kernel
theorem d_MD_walk_213 : decode prog_14_method_39_code 213 = .ok (.aload_n 0, 1) := by decide +kernel
theorem d_MD_walk_214 : decode prog_14_method_39_code 214 = .ok (.getfield 103, 3) := by decide +kernel
theorem d_MD_walk_217 : decode prog_14_method_39_code 217 = .ok (.bipush 102, 2) := by decide +kernel
theorem d_MD_walk_219 : decode prog_14_method_39_code 219 = .ok (.iload_n 2, 1) := by decide +kernel
theorem d_MD_walk_220 : decode prog_14_method_39_code 220 = .ok (.imul, 1) := by decide +kernel
theorem d_MD_walk_221 : decode prog_14_method_39_code 221 = .ok (.aload_n 0, 1) := by decide +kernel
theorem d_MD_walk_222 : decode prog_14_method_39_code 222 = .ok (.getfield 408, 3) := by decide +kernel
theorem d_MD_walk_225 : decode prog_14_method_39_code 225 = .ok (.iadd, 1) := by decide +kernel
theorem d_MD_walk_226 : decode prog_14_method_39_code 226 = .ok (.aload_n 0, 1) := by decide +kernel
theorem d_MD_walk_227 : decode prog_14_method_39_code 227 = .ok (.getfield 417, 3) := by decide +kernel
theorem d_MD_walk_230 : decode prog_14_method_39_code 230 = .ok (.lastore, 1) := by decide +kernel
theorem d_MD_walk_111 : decode prog_14_method_39_code 111 = .ok (.iload 5, 2) := by decide +kernel
theorem d_MD_walk_113 : decode prog_14_method_39_code 113 = .ok (.iconst 2, 1) := by decide +kernel
theorem d_MD_walk_114 : decode prog_14_method_39_code 114 = .ok (.if_icmp .eq 9, 3) := by decide +kernel
theorem d_MD_walk_237 : decode prog_14_method_39_code 237 = .ok (.iload 5, 2) := by decide +kernel
theorem d_MD_walk_239 : decode prog_14_method_39_code 239 = .ok (.iconst 2, 1) := by decide +kernel
theorem d_MD_walk_240 : decode prog_14_method_39_code 240 = .ok (.if_icmp .ne 85, 3) := by decide +kernel
theorem d_MD_walk_243 : decode prog_14_method_39_code 243 = .ok (.aload_n 0, 1) := by decide +kernel
theorem d_MD_walk_244 : decode prog_14_method_39_code 244 = .ok (.getfield 154, 3) := by decide +kernel
theorem rfm_67 : (67, 217) ∈ mf_L := by decide +kernel
theorem d_MD_walk_247 : decode prog_14_method_39_code 247 = .ok (.aload_n 0, 1) := by decide +kernel
theorem d_MD_walk_248 : decode prog_14_method_39_code 248 = .ok (.getfield 399, 3) := by decide +kernel
theorem d_MD_walk_251 : decode prog_14_method_39_code 251 = .ok (.iload_n 3, 1) := by decide +kernel
theorem d_MD_walk_252 : decode prog_14_method_39_code 252 = .ok (.iastore, 1) := by decide +kernel
theorem sf_217 : sh_L[217]? = some (0, 10) := by decide +kernel
theorem mr_217 (k : Nat) : mr 217 k = (0, 2000) := rfl
theorem d_MD_walk_253 : decode prog_14_method_39_code 253 = .ok (.aload_n 0, 1) := by decide +kernel
theorem d_MD_walk_254 : decode prog_14_method_39_code 254 = .ok (.getfield 163, 3) := by decide +kernel
theorem d_MD_walk_257 : decode prog_14_method_39_code 257 = .ok (.aload_n 0, 1) := by decide +kernel
theorem d_MD_walk_258 : decode prog_14_method_39_code 258 = .ok (.getfield 399, 3) := by decide +kernel
theorem d_MD_walk_261 : decode prog_14_method_39_code 261 = .ok (.iconst 0, 1) := by decide +kernel
theorem d_MD_walk_262 : decode prog_14_method_39_code 262 = .ok (.bastore, 1) := by decide +kernel
theorem d_MD_walk_263 : decode prog_14_method_39_code 263 = .ok (.aload_n 0, 1) := by decide +kernel
theorem d_MD_walk_264 : decode prog_14_method_39_code 264 = .ok (.getfield 157, 3) := by decide +kernel
theorem d_MD_walk_267 : decode prog_14_method_39_code 267 = .ok (.aload_n 0, 1) := by decide +kernel
theorem d_MD_walk_268 : decode prog_14_method_39_code 268 = .ok (.getfield 399, 3) := by decide +kernel
theorem d_MD_walk_271 : decode prog_14_method_39_code 271 = .ok (.iconst 1, 1) := by decide +kernel
theorem d_MD_walk_272 : decode prog_14_method_39_code 272 = .ok (.iastore, 1) := by decide +kernel
theorem d_MD_walk_273 : decode prog_14_method_39_code 273 = .ok (.aload_n 0, 1) := by decide +kernel
theorem d_MD_walk_274 : decode prog_14_method_39_code 274 = .ok (.getfield 160, 3) := by decide +kernel
theorem d_MD_walk_277 : decode prog_14_method_39_code 277 = .ok (.aload_n 0, 1) := by decide +kernel
theorem d_MD_walk_278 : decode prog_14_method_39_code 278 = .ok (.getfield 399, 3) := by decide +kernel
theorem d_MD_walk_281 : decode prog_14_method_39_code 281 = .ok (.aload_n 0, 1) := by decide +kernel
theorem d_MD_walk_282 : decode prog_14_method_39_code 282 = .ok (.iload_n 3, 1) := by decide +kernel
theorem d_MD_walk_283 : decode prog_14_method_39_code 283 = .ok (.invokevirtual 430, 3) := by decide +kernel
theorem k_MD_colons : mt_OK m_MD_colons 1 1 := ⟨gwi_1956, gwi_146, ⟨by decide +kernel, by decide +kernel, by decide +kernel⟩, fun h => absurd h (by decide), fun _ => ⟨gwi_1955, gwi_88⟩, fun h => absurd h (by decide)⟩
theorem l_MD_430 : ml_OK "PlainMusicModel" 430 ⟨"PlainMusicModel", "colons", "(I)I"⟩ := Or.inl gwi_1953
theorem d_MD_walk_286 : decode prog_14_method_39_code 286 = .ok (.ifCond .ne 7, 3) := by decide +kernel
theorem d_MD_walk_293 : decode prog_14_method_39_code 293 = .ok (.aload_n 0, 1) := by decide +kernel
theorem d_MD_walk_294 : decode prog_14_method_39_code 294 = .ok (.iload_n 3, 1) := by decide +kernel
theorem d_MD_walk_295 : decode prog_14_method_39_code 295 = .ok (.invokevirtual 430, 3) := by decide +kernel
theorem d_MD_walk_298 : decode prog_14_method_39_code 298 = .ok (.iastore, 1) := by decide +kernel
theorem d_MD_walk_299 : decode prog_14_method_39_code 299 = .ok (.aload_n 0, 1) := by decide +kernel
theorem d_MD_walk_300 : decode prog_14_method_39_code 300 = .ok (.dup, 1) := by decide +kernel
theorem d_MD_walk_301 : decode prog_14_method_39_code 301 = .ok (.getfield 399, 3) := by decide +kernel
theorem d_MD_walk_304 : decode prog_14_method_39_code 304 = .ok (.iconst 1, 1) := by decide +kernel
theorem d_MD_walk_305 : decode prog_14_method_39_code 305 = .ok (.iadd, 1) := by decide +kernel
theorem d_MD_walk_306 : decode prog_14_method_39_code 306 = .ok (.putfield 399, 3) := by decide +kernel
theorem d_MD_walk_309 : decode prog_14_method_39_code 309 = .ok (.aload_n 0, 1) := by decide +kernel
theorem d_MD_walk_310 : decode prog_14_method_39_code 310 = .ok (.dup, 1) := by decide +kernel
theorem d_MD_walk_311 : decode prog_14_method_39_code 311 = .ok (.getfield 402, 3) := by decide +kernel
theorem d_MD_walk_314 : decode prog_14_method_39_code 314 = .ok (.iconst 1, 1) := by decide +kernel
theorem d_MD_walk_315 : decode prog_14_method_39_code 315 = .ok (.iadd, 1) := by decide +kernel
theorem d_MD_walk_316 : decode prog_14_method_39_code 316 = .ok (.putfield 402, 3) := by decide +kernel
theorem d_MD_walk_319 : decode prog_14_method_39_code 319 = .ok (.iinc 3 1, 3) := by decide +kernel
theorem d_MD_walk_322 : decode prog_14_method_39_code 322 = .ok (.goto 169, 3) := by decide +kernel
theorem d_MD_walk_289 : decode prog_14_method_39_code 289 = .ok (.iconst 2, 1) := by decide +kernel
theorem d_MD_walk_290 : decode prog_14_method_39_code 290 = .ok (.goto 8, 3) := by decide +kernel
theorem d_MD_walk_117 : decode prog_14_method_39_code 117 = .ok (.iload 5, 2) := by decide +kernel
theorem d_MD_walk_119 : decode prog_14_method_39_code 119 = .ok (.iconst 5, 1) := by decide +kernel
theorem d_MD_walk_120 : decode prog_14_method_39_code 120 = .ok (.if_icmp .ne 13, 3) := by decide +kernel
theorem d_MD_walk_325 : decode prog_14_method_39_code 325 = .ok (.iload 5, 2) := by decide +kernel
theorem d_MD_walk_327 : decode prog_14_method_39_code 327 = .ok (.iconst 5, 1) := by decide +kernel
theorem d_MD_walk_328 : decode prog_14_method_39_code 328 = .ok (.if_icmp .ne 25, 3) := by decide +kernel
theorem d_MD_walk_353 : decode prog_14_method_39_code 353 = .ok (.iload 5, 2) := by decide +kernel
theorem d_MD_walk_355 : decode prog_14_method_39_code 355 = .ok (.bipush 6, 2) := by decide +kernel
theorem d_MD_walk_357 : decode prog_14_method_39_code 357 = .ok (.if_icmp .ne 34, 3) := by decide +kernel
theorem d_MD_walk_391 : decode prog_14_method_39_code 391 = .ok (.iload 5, 2) := by decide +kernel
theorem d_MD_walk_393 : decode prog_14_method_39_code 393 = .ok (.iconst 3, 1) := by decide +kernel
theorem d_MD_walk_394 : decode prog_14_method_39_code 394 = .ok (.if_icmp .ne 81, 3) := by decide +kernel
theorem d_MD_walk_475 : decode prog_14_method_39_code 475 = .ok (.aload_n 0, 1) := by decide +kernel
theorem d_MD_walk_476 : decode prog_14_method_39_code 476 = .ok (.aload_n 0, 1) := by decide +kernel
theorem d_MD_walk_477 : decode prog_14_method_39_code 477 = .ok (.getfield 154, 3) := by decide +kernel
theorem d_MD_walk_480 : decode prog_14_method_39_code 480 = .ok (.aload_n 0, 1) := by decide +kernel
theorem d_MD_walk_481 : decode prog_14_method_39_code 481 = .ok (.getfield 399, 3) := by decide +kernel
theorem d_MD_walk_484 : decode prog_14_method_39_code 484 = .ok (.iconst 1, 1) := by decide +kernel
theorem d_MD_walk_485 : decode prog_14_method_39_code 485 = .ok (.isub, 1) := by decide +kernel
theorem d_MD_walk_486 : decode prog_14_method_39_code 486 = .ok (.iaload, 1) := by decide +kernel
theorem d_MD_walk_487 : decode prog_14_method_39_code 487 = .ok (.invokevirtual 446, 3) := by decide +kernel
theorem k_MD_turned : mt_OK m_MD_turned 1 1 := ⟨gwi_1976, gwi_146, ⟨by decide +kernel, by decide +kernel, by decide +kernel⟩, fun h => absurd h (by decide), fun _ => ⟨gwi_1975, gwi_93⟩, fun h => absurd h (by decide)⟩
theorem l_MD_446 : ml_OK "PlainMusicModel" 446 ⟨"PlainMusicModel", "turned", "(I)I"⟩ := Or.inl gwi_1973
theorem d_MD_walk_490 : decode prog_14_method_39_code 490 = .ok (.istore_n 3, 1) := by decide +kernel
theorem d_MD_walk_397 : decode prog_14_method_39_code 397 = .ok (.aload_n 0, 1) := by decide +kernel
theorem d_MD_walk_398 : decode prog_14_method_39_code 398 = .ok (.getfield 154, 3) := by decide +kernel
theorem d_MD_walk_401 : decode prog_14_method_39_code 401 = .ok (.aload_n 0, 1) := by decide +kernel
theorem d_MD_walk_402 : decode prog_14_method_39_code 402 = .ok (.getfield 399, 3) := by decide +kernel
theorem d_MD_walk_405 : decode prog_14_method_39_code 405 = .ok (.iconst 1, 1) := by decide +kernel
theorem d_MD_walk_406 : decode prog_14_method_39_code 406 = .ok (.isub, 1) := by decide +kernel
theorem d_MD_walk_407 : decode prog_14_method_39_code 407 = .ok (.iaload, 1) := by decide +kernel
theorem d_MD_walk_408 : decode prog_14_method_39_code 408 = .ok (.istore 6, 2) := by decide +kernel
theorem d_MD_walk_410 : decode prog_14_method_39_code 410 = .ok (.iload_n 3, 1) := by decide +kernel
theorem d_MD_walk_411 : decode prog_14_method_39_code 411 = .ok (.iconst 1, 1) := by decide +kernel
theorem d_MD_walk_412 : decode prog_14_method_39_code 412 = .ok (.iadd, 1) := by decide +kernel
theorem d_MD_walk_413 : decode prog_14_method_39_code 413 = .ok (.aload_n 0, 1) := by decide +kernel
theorem d_MD_walk_414 : decode prog_14_method_39_code 414 = .ok (.iload 6, 2) := by decide +kernel
theorem d_MD_walk_416 : decode prog_14_method_39_code 416 = .ok (.iconst 1, 1) := by decide +kernel
theorem d_MD_walk_417 : decode prog_14_method_39_code 417 = .ok (.invokevirtual 439, 3) := by decide +kernel
theorem k_MD_behindColon : mt_OK m_MD_behindColon 2 1 := ⟨gwi_1968, gwi_146, ⟨by decide +kernel, by decide +kernel, by decide +kernel⟩, fun h => absurd h (by decide), fun _ => ⟨gwi_1967, gwi_91⟩, fun h => absurd h (by decide)⟩
theorem l_MD_439 : ml_OK "PlainMusicModel" 439 ⟨"PlainMusicModel", "behindColon", "(II)I"⟩ := Or.inl gwi_1965
theorem d_MD_walk_420 : decode prog_14_method_39_code 420 = .ok (.if_icmp .ne 45, 3) := by decide +kernel
theorem d_MD_walk_465 : decode prog_14_method_39_code 465 = .ok (.aload_n 0, 1) := by decide +kernel
theorem d_MD_walk_466 : decode prog_14_method_39_code 466 = .ok (.iload 6, 2) := by decide +kernel
theorem d_MD_walk_468 : decode prog_14_method_39_code 468 = .ok (.invokevirtual 446, 3) := by decide +kernel
theorem d_MD_walk_471 : decode prog_14_method_39_code 471 = .ok (.istore_n 3, 1) := by decide +kernel
theorem d_MD_walk_472 : decode prog_14_method_39_code 472 = .ok (.goto 19, 3) := by decide +kernel
theorem d_MD_walk_423 : decode prog_14_method_39_code 423 = .ok (.aload_n 0, 1) := by decide +kernel
theorem d_MD_walk_424 : decode prog_14_method_39_code 424 = .ok (.iload 6, 2) := by decide +kernel
theorem d_MD_walk_426 : decode prog_14_method_39_code 426 = .ok (.invokevirtual 443, 3) := by decide +kernel
theorem k_MD_isIn : mt_OK m_MD_isIn 1 1 := ⟨gwi_1972, gwi_146, ⟨by decide +kernel, by decide +kernel, by decide +kernel⟩, fun h => absurd h (by decide), fun _ => ⟨gwi_1971, gwi_92⟩, fun h => absurd h (by decide)⟩
theorem l_MD_443 : ml_OK "PlainMusicModel" 443 ⟨"PlainMusicModel", "isIn", "(I)Z"⟩ := Or.inl gwi_1969
theorem d_MD_walk_429 : decode prog_14_method_39_code 429 = .ok (.ifCond .ne 36, 3) := by decide +kernel
theorem d_MD_walk_432 : decode prog_14_method_39_code 432 = .ok (.aload_n 0, 1) := by decide +kernel
theorem d_MD_walk_433 : decode prog_14_method_39_code 433 = .ok (.getfield 163, 3) := by decide +kernel
theorem d_MD_walk_436 : decode prog_14_method_39_code 436 = .ok (.aload_n 0, 1) := by decide +kernel
theorem d_MD_walk_437 : decode prog_14_method_39_code 437 = .ok (.getfield 399, 3) := by decide +kernel
theorem d_MD_walk_440 : decode prog_14_method_39_code 440 = .ok (.iconst 1, 1) := by decide +kernel
theorem d_MD_walk_441 : decode prog_14_method_39_code 441 = .ok (.isub, 1) := by decide +kernel
theorem d_MD_walk_442 : decode prog_14_method_39_code 442 = .ok (.iconst 1, 1) := by decide +kernel
theorem d_MD_walk_443 : decode prog_14_method_39_code 443 = .ok (.bastore, 1) := by decide +kernel
theorem d_MD_walk_444 : decode prog_14_method_39_code 444 = .ok (.aload_n 0, 1) := by decide +kernel
theorem d_MD_walk_445 : decode prog_14_method_39_code 445 = .ok (.iload 6, 2) := by decide +kernel
theorem d_MD_walk_447 : decode prog_14_method_39_code 447 = .ok (.aload_n 0, 1) := by decide +kernel
theorem d_MD_walk_448 : decode prog_14_method_39_code 448 = .ok (.getfield 157, 3) := by decide +kernel
theorem d_MD_walk_451 : decode prog_14_method_39_code 451 = .ok (.aload_n 0, 1) := by decide +kernel
theorem d_MD_walk_452 : decode prog_14_method_39_code 452 = .ok (.getfield 399, 3) := by decide +kernel
theorem d_MD_walk_455 : decode prog_14_method_39_code 455 = .ok (.iconst 1, 1) := by decide +kernel
theorem d_MD_walk_456 : decode prog_14_method_39_code 456 = .ok (.isub, 1) := by decide +kernel
theorem d_MD_walk_457 : decode prog_14_method_39_code 457 = .ok (.iaload, 1) := by decide +kernel
theorem d_MD_walk_458 : decode prog_14_method_39_code 458 = .ok (.invokevirtual 439, 3) := by decide +kernel
theorem d_MD_walk_461 : decode prog_14_method_39_code 461 = .ok (.istore_n 3, 1) := by decide +kernel
theorem d_MD_walk_462 : decode prog_14_method_39_code 462 = .ok (.goto 10, 3) := by decide +kernel
theorem d_MD_walk_360 : decode prog_14_method_39_code 360 = .ok (.aload_n 0, 1) := by decide +kernel
theorem d_MD_walk_361 : decode prog_14_method_39_code 361 = .ok (.iload_n 3, 1) := by decide +kernel
theorem d_MD_walk_362 : decode prog_14_method_39_code 362 = .ok (.invokevirtual 436, 3) := by decide +kernel
theorem k_MD_opening : mt_OK m_MD_opening 1 1 := ⟨gwi_1964, gwi_146, ⟨by decide +kernel, by decide +kernel, by decide +kernel⟩, fun h => absurd h (by decide), fun _ => ⟨gwi_1963, gwi_90⟩, fun h => absurd h (by decide)⟩
theorem l_MD_436 : ml_OK "PlainMusicModel" 436 ⟨"PlainMusicModel", "opening", "(I)I"⟩ := Or.inl gwi_1961
theorem d_MD_walk_365 : decode prog_14_method_39_code 365 = .ok (.istore 6, 2) := by decide +kernel
theorem d_MD_walk_367 : decode prog_14_method_39_code 367 = .ok (.aload_n 0, 1) := by decide +kernel
theorem d_MD_walk_368 : decode prog_14_method_39_code 368 = .ok (.aload_n 0, 1) := by decide +kernel
theorem d_MD_walk_369 : decode prog_14_method_39_code 369 = .ok (.getfield 109, 3) := by decide +kernel
theorem d_MD_walk_372 : decode prog_14_method_39_code 372 = .ok (.iload 6, 2) := by decide +kernel
theorem d_MD_walk_374 : decode prog_14_method_39_code 374 = .ok (.iaload, 1) := by decide +kernel
theorem d_MD_walk_375 : decode prog_14_method_39_code 375 = .ok (.aload_n 0, 1) := by decide +kernel
theorem d_MD_walk_376 : decode prog_14_method_39_code 376 = .ok (.getfield 112, 3) := by decide +kernel
theorem d_MD_walk_379 : decode prog_14_method_39_code 379 = .ok (.iload 6, 2) := by decide +kernel
theorem d_MD_walk_381 : decode prog_14_method_39_code 381 = .ok (.iaload, 1) := by decide +kernel
theorem d_MD_walk_382 : decode prog_14_method_39_code 382 = .ok (.invokevirtual 433, 3) := by decide +kernel
theorem k_MD_scale : mt_OK m_MD_scale 2 1 := ⟨gwi_1960, gwi_146, ⟨by decide +kernel, by decide +kernel, by decide +kernel⟩, fun h => absurd h (by decide), fun _ => ⟨gwi_1959, gwi_89⟩, fun h => absurd h (by decide)⟩
theorem l_MD_433 : ml_OK "PlainMusicModel" 433 ⟨"PlainMusicModel", "scale", "(II)V"⟩ := Or.inl gwi_1957
theorem d_MD_walk_385 : decode prog_14_method_39_code 385 = .ok (.iinc 3 1, 3) := by decide +kernel
theorem d_MD_walk_388 : decode prog_14_method_39_code 388 = .ok (.goto 103, 3) := by decide +kernel
theorem d_MD_walk_331 : decode prog_14_method_39_code 331 = .ok (.aload_n 0, 1) := by decide +kernel
theorem d_MD_walk_332 : decode prog_14_method_39_code 332 = .ok (.aload_n 0, 1) := by decide +kernel
theorem d_MD_walk_333 : decode prog_14_method_39_code 333 = .ok (.getfield 112, 3) := by decide +kernel
theorem d_MD_walk_336 : decode prog_14_method_39_code 336 = .ok (.iload_n 3, 1) := by decide +kernel
theorem d_MD_walk_337 : decode prog_14_method_39_code 337 = .ok (.iaload, 1) := by decide +kernel
theorem d_MD_walk_338 : decode prog_14_method_39_code 338 = .ok (.aload_n 0, 1) := by decide +kernel
theorem d_MD_walk_339 : decode prog_14_method_39_code 339 = .ok (.getfield 109, 3) := by decide +kernel
theorem d_MD_walk_342 : decode prog_14_method_39_code 342 = .ok (.iload_n 3, 1) := by decide +kernel
theorem d_MD_walk_343 : decode prog_14_method_39_code 343 = .ok (.iaload, 1) := by decide +kernel
theorem d_MD_walk_344 : decode prog_14_method_39_code 344 = .ok (.invokevirtual 433, 3) := by decide +kernel
theorem d_MD_walk_347 : decode prog_14_method_39_code 347 = .ok (.iinc 3 1, 3) := by decide +kernel
theorem d_MD_walk_350 : decode prog_14_method_39_code 350 = .ok (.goto 141, 3) := by decide +kernel
set_option maxHeartbeats 8000000 in
theorem s_MD_walk {G : cx_T} {h : ah_T} (hx : mi h) {a1 : Int} (la1 : 0 ≤ a1) (ua1 : a1 ≤ 2000) (hVH : VHx h) (hop : h.2.1 170 63 ≤ 0) (hpa : h.2.1 170 43 ≤ 2000) (hv3 : h.2.1 172 1 ≤ 3) : con G 4 0 0 m_MD_walk [av_R (some 170), av_I a1] h (fun r h' => ∃ z, r = some (av_I z) ∧ (z = 0 ∨ z = 1) ∧ (∀ v : Int, v = 4 + h.2.1 172 1 → LFr v h h' ∧ (z = 1 → GB h' v.toNat ∧ GO h' v.toNat)) ∧ kM (pm [11, 12, 65, 66, 70, 71, 72, 73, 74, 75, 76, 77, 78] [185, 186, 187, 188, 189, 190, 191, 192, 193, 194, 195, 196, 197, 198, 199, 200, 217, 218, 219, 220]) h h') := by
  refine con_of (L := [some (av_R (some 170)), some (av_I a1), none, none, none, none, none]) (by decide +kernel) (Nat.le_of_ble_eq_true rfl) rfl ?_
  have k0 : kM (pm [11, 12, 65, 66, 70, 71, 72, 73, 74, 75, 76, 77, 78] [185, 186, 187, 188, 189, 190, 191, 192, 193, 194, 195, 196, 197, 198, 199, 200, 217, 218, 219, 220]) h h := kM_0 hx
  obtain ⟨sd1, esd1⟩ : ∃ x, x = h.2.1 170 43 := ⟨_, rfl⟩
  have rsd1 : 0 ≤ sd1 ∧ sd1 ≤ 2001 := (by rw [esd1]; exact mi_g k0.1 (by decide) mr_170_43)
  obtain ⟨sd2, esd2⟩ : ∃ x, x = h.2.1 170 70 := ⟨_, rfl⟩
  have rsd2 : 0 ≤ sd2 ∧ sd2 ≤ 10 := (by rw [esd2]; exact mi_g k0.1 (by decide) mr_170_70)
  obtain ⟨sd3, esd3⟩ : ∃ x, x = h.2.1 170 71 := ⟨_, rfl⟩
  have rsd3 : 0 ≤ sd3 ∧ sd3 ≤ 2010 := (by rw [esd3]; exact mi_g k0.1 (by decide) mr_170_71)
  obtain ⟨sd4, esd4⟩ : ∃ x, x = h.2.1 170 72 := ⟨_, rfl⟩
  have rsd4 : 0 ≤ sd4 ∧ sd4 ≤ 301 := (by rw [esd4]; exact mi_g k0.1 (by decide) mr_170_72)
  obtain ⟨sd5, esd5⟩ : ∃ x, x = h.2.1 170 73 := ⟨_, rfl⟩
  have rsd5 : 0 ≤ sd5 ∧ sd5 ≤ 101 := (by rw [esd5]; exact mi_g k0.1 (by decide) mr_170_73)
  obtain ⟨sd6, esd6⟩ : ∃ x, x = h.2.1 170 74 := ⟨_, rfl⟩
  obtain ⟨sl7, esl7⟩ : ∃ x, x = h.2.2.1 170 75 := ⟨_, rfl⟩
  have rsl7 : 0 ≤ sl7 ∧ sl7 ≤ 2000000000000000 := (by rw [esl7]; exact mi_l k0.1 (by decide) mq_170_75)
  obtain ⟨sl8, esl8⟩ : ∃ x, x = h.2.2.1 170 76 := ⟨_, rfl⟩
  have rsl8 : 0 ≤ sl8 ∧ sl8 ≤ 1000000000000 := (by rw [esl8]; exact mi_l k0.1 (by decide) mq_170_76)
  obtain ⟨sl9, esl9⟩ : ∃ x, x = h.2.2.1 170 77 := ⟨_, rfl⟩
  have rsl9 : (-9223372036854775808) ≤ sl9 ∧ sl9 ≤ 9223372036854775807 := (by rw [esl9]; exact mi_l k0.1 (by decide) mq_170_77)
  obtain ⟨sl10, esl10⟩ : ∃ x, x = h.2.2.1 170 78 := ⟨_, rfl⟩
  have rsl10 : (-9223372036854775808) ≤ sl10 ∧ sl10 ≤ 9223372036854775807 := (by rw [esl10]; exact mi_l k0.1 (by decide) mq_170_78)
  obtain ⟨hp0, stk, hVS, -, hVL⟩ := hVH
  have hVQ : VQ h stk := hVS
  have hn : stk (h.2.1 170 43).toNat = [] := List.length_eq_zero_iff.mp (by omega)
  refine A_iconst d_MD_walk_0 rfl ?_
  refine A_aload_n 0 d_MD_walk_1 rfl rfl ?_
  refine A_getAv (z := some 172) T_ok d_MD_walk_2 f_MD_17 (mi_s k0.1 sf_170) (mi_r k0.1 rfm_14) ?_
  refine A_iconst d_MD_walk_5 rfl ?_
  refine A_ialoadn (lo := 0) (hi := 4) d_MD_walk_6 (mi_s k0.1 sf_172) (by decide) (by decide) (mi_g k0.1 (by decide) (mr_172 _)) (fun x12 ex12 _ _ => ?_)
  replace ex12 : x12 = h.2.1 172 1 := ex12
  have yx12 : x12 ≤ 3 := (by omega)
  refine A_pc (pc' := 7) rfl ?_
  refine A_iaddv (z := (x12 + 4)) d_MD_walk_7 (w32_to (by omega) (by unfold i32; omega)) ?_
  refine A_istore_n 2 (L' := [some (av_R (some 170)), some (av_I a1), some (av_I (x12 + 4)), none, none, none, none]) d_MD_walk_8 rfl (Nat.le_of_ble_eq_true rfl) rfl ?_
  refine A_aload_n 0 d_MD_walk_9 rfl rfl ?_
  refine A_iconst d_MD_walk_10 rfl ?_
  refine A_putIk (KR := kM (pm [11, 12, 65, 66, 70, 71, 72, 73, 74, 75, 76, 77, 78] [185, 186, 187, 188, 189, 190, 191, 192, 193, 194, 195, 196, 197, 198, 199, 200, 217, 218, 219, 220]) h) T_ok d_MD_walk_11 f_MD_399 (mi_s k0.1 sf_170) fin_f (kM_i k0 (by decide) (by decide) mr_170_70 (by omega) (by omega)) (fun h13 k14 eh13 => ?_)
  refine A_aload_n 0 d_MD_walk_14 rfl rfl ?_
  refine A_pc (pc' := 15) rfl ?_
  refine A_iconst d_MD_walk_15 rfl ?_
  refine A_putIk (KR := kM (pm [11, 12, 65, 66, 70, 71, 72, 73, 74, 75, 76, 77, 78] [185, 186, 187, 188, 189, 190, 191, 192, 193, 194, 195, 196, 197, 198, 199, 200, 217, 218, 219, 220]) h) T_ok d_MD_walk_16 f_MD_402 (mi_s k14.1 sf_170) fin_f (kM_i k14 (by decide) (by decide) mr_170_71 (by omega) (by omega)) (fun h15 k16 eh15 => ?_)
  refine A_aload_n 0 d_MD_walk_19 rfl rfl ?_
  refine A_iconst d_MD_walk_20 rfl ?_
  refine A_putIk (KR := kM (pm [11, 12, 65, 66, 70, 71, 72, 73, 74, 75, 76, 77, 78] [185, 186, 187, 188, 189, 190, 191, 192, 193, 194, 195, 196, 197, 198, 199, 200, 217, 218, 219, 220]) h) T_ok d_MD_walk_21 f_MD_405 (mi_s k16.1 sf_170) fin_f (kM_i k16 (by decide) (by decide) mr_170_72 (by omega) (by omega)) (fun h17 k18 eh17 => ?_)
  refine A_aload_n 0 d_MD_walk_24 rfl rfl ?_
  refine A_pc (pc' := 25) rfl ?_
  refine A_iconst d_MD_walk_25 rfl ?_
  refine A_putIk (KR := kM (pm [11, 12, 65, 66, 70, 71, 72, 73, 74, 75, 76, 77, 78] [185, 186, 187, 188, 189, 190, 191, 192, 193, 194, 195, 196, 197, 198, 199, 200, 217, 218, 219, 220]) h) T_ok d_MD_walk_26 f_MD_408 (mi_s k18.1 sf_170) fin_f (kM_i k18 (by decide) (by decide) mr_170_73 (by omega) (by omega)) (fun h19 k20 eh19 => ?_)
  refine A_aload_n 0 d_MD_walk_29 rfl rfl ?_
  refine A_iconst d_MD_walk_30 rfl ?_
  refine A_putZk (KR := kM (pm [11, 12, 65, 66, 70, 71, 72, 73, 74, 75, 76, 77, 78] [185, 186, 187, 188, 189, 190, 191, 192, 193, 194, 195, 196, 197, 198, 199, 200, 217, 218, 219, 220]) h) T_ok d_MD_walk_31 f_MD_411 (mi_s k20.1 sf_170) fin_f (by omega) (kM_i k20 (by decide) (by decide) mr_170_74 (by omega) (by omega)) (fun h21 k22 eh21 => ?_)
  refine A_aload_n 0 d_MD_walk_34 rfl rfl ?_
  refine A_pc (pc' := 35) rfl ?_
  refine A_lconst_0 d_MD_walk_35 ?_
  refine A_putLk (KR := kM (pm [11, 12, 65, 66, 70, 71, 72, 73, 74, 75, 76, 77, 78] [185, 186, 187, 188, 189, 190, 191, 192, 193, 194, 195, 196, 197, 198, 199, 200, 217, 218, 219, 220]) h) T_ok d_MD_walk_36 f_MD_414 (mi_s k22.1 sf_170) fin_f (kM_l k22 (by decide) (by decide) mq_170_75 (by omega) (by omega)) (fun h23 k24 eh23 => ?_)
  refine A_aload_n 0 d_MD_walk_39 rfl rfl ?_
  refine A_lconst_1 d_MD_walk_40 ?_
  refine A_putLk (KR := kM (pm [11, 12, 65, 66, 70, 71, 72, 73, 74, 75, 76, 77, 78] [185, 186, 187, 188, 189, 190, 191, 192, 193, 194, 195, 196, 197, 198, 199, 200, 217, 218, 219, 220]) h) T_ok d_MD_walk_41 f_MD_417 (mi_s k24.1 sf_170) fin_f (kM_l k24 (by decide) (by decide) mq_170_76 (by omega) (by omega)) (fun h25 k26 eh25 => ?_)
  refine A_aload_n 0 d_MD_walk_44 rfl rfl ?_
  refine A_pc (pc' := 45) rfl ?_
  refine A_lconst_1 d_MD_walk_45 ?_
  refine A_putLk (KR := kM (pm [11, 12, 65, 66, 70, 71, 72, 73, 74, 75, 76, 77, 78] [185, 186, 187, 188, 189, 190, 191, 192, 193, 194, 195, 196, 197, 198, 199, 200, 217, 218, 219, 220]) h) T_ok d_MD_walk_46 f_MD_420 (mi_s k26.1 sf_170) fin_f (kM_l k26 (by decide) (by decide) mq_170_77 (by omega) (by omega)) (fun h27 k28 eh27 => ?_)
  refine A_aload_n 0 d_MD_walk_49 rfl rfl ?_
  refine A_lconst_1 d_MD_walk_50 ?_
  refine A_putLk (KR := kM (pm [11, 12, 65, 66, 70, 71, 72, 73, 74, 75, 76, 77, 78] [185, 186, 187, 188, 189, 190, 191, 192, 193, 194, 195, 196, 197, 198, 199, 200, 217, 218, 219, 220]) h) T_ok d_MD_walk_51 f_MD_423 (mi_s k28.1 sf_170) fin_f (kM_l k28 (by decide) (by decide) mq_170_78 (by omega) (by omega)) (fun h29 k30 eh29 => ?_)
  refine A_aload_n 0 d_MD_walk_54 rfl rfl ?_
  refine A_pc (pc' := 55) rfl ?_
  refine A_getAv (z := some 199) T_ok d_MD_walk_55 f_MD_100 (mi_s k30.1 sf_170) (mi_r k30.1 rfm_41) ?_
  refine A_bipush d_MD_walk_58 rfl ?_
  refine A_iload_n 2 d_MD_walk_60 rfl rfl ?_
  refine A_imulv (z := (102 * x12 + 408)) d_MD_walk_61 (w32_to (by omega) (by unfold i32; omega)) ?_
  refine A_lconst_0 d_MD_walk_62 ?_
  refine A_lastorek (KR := kM (pm [11, 12, 65, 66, 70, 71, 72, 73, 74, 75, 76, 77, 78] [185, 186, 187, 188, 189, 190, 191, 192, 193, 194, 195, 196, 197, 198, 199, 200, 217, 218, 219, 220]) h) d_MD_walk_63 (mi_s k30.1 sf_199) (by omega) (by omega) (kM_l k30 (by decide) rfl (mq_199 _) (by omega) (by omega)) (fun h32 k33 eh32 => ?_)
  refine A_pc (pc' := 64) rfl ?_
  refine A_aload_n 0 d_MD_walk_64 rfl rfl ?_
  refine A_getAv (z := some 200) T_ok d_MD_walk_65 f_MD_103 (mi_s k33.1 sf_170) (mi_r k33.1 rfm_42) ?_
  refine A_bipush d_MD_walk_68 rfl ?_
  refine A_iload_n 2 d_MD_walk_70 rfl rfl ?_
  refine A_imulv (z := (102 * x12 + 408)) d_MD_walk_71 (w32_to (by omega) (by unfold i32; omega)) ?_
  refine A_lconst_1 d_MD_walk_72 ?_
  refine A_pc (pc' := 73) rfl ?_
  refine A_lastorek (KR := kM (pm [11, 12, 65, 66, 70, 71, 72, 73, 74, 75, 76, 77, 78] [185, 186, 187, 188, 189, 190, 191, 192, 193, 194, 195, 196, 197, 198, 199, 200, 217, 218, 219, 220]) h) d_MD_walk_73 (mi_s k33.1 sf_200) (by omega) (by omega) (kM_l k33 (by decide) rfl (mq_200 _) (by omega) (by omega)) (fun h35 k36 eh35 => ?_)
  refine A_iconst d_MD_walk_74 rfl ?_
  refine A_istore_n 3 (L' := [some (av_R (some 170)), some (av_I a1), some (av_I (x12 + 4)), some (av_I 0), none, none, none]) d_MD_walk_75 rfl (Nat.le_of_ble_eq_true rfl) rfl ?_
  refine A_iconst d_MD_walk_76 rfl ?_
  refine A_istore (L' := [some (av_R (some 170)), some (av_I a1), some (av_I (x12 + 4)), some (av_I 0), some (av_I 0), none, none]) d_MD_walk_77 (Nat.le_of_ble_eq_true rfl) rfl ?_
  have lp79 : ∀ (n : Nat) (i37 i38 : Int) (h39 : ah_T) , 0 ≤ i37 → i37 ≤ 2000 → 0 ≤ i38 → i38 ≤ 1 → (WB h stk (x12 + 4) i37 (h39.2.1 170 72) (h39.2.1 170 73) h39 ∧ (i38 = 0 → h39.2.1 170 72 ≤ 300 ∧ h39.2.1 170 73 ≤ 100 ∧ h39.2.1 170 71 ≤ 2000) ∧ h39.2.1 170 72 ≤ 301 ∧ h39.2.1 170 73 ≤ 101 ∧ h39.2.1 170 71 ≤ 2003) → kM (pm [11, 12, 65, 66, 70, 71, 72, 73, 74, 75, 76, 77, 78] [185, 186, 187, 188, 189, 190, 191, 192, 193, 194, 195, 196, 197, 198, 199, 200, 217, 218, 219, 220]) h h39 → ((2010 - h39.2.1 170 71) * 3000 + (2001 - i37)).toNat < n → aw G (rm_R 4 0 0) m_MD_walk 0 0 79 [some (av_R (some 170)), some (av_I a1), some (av_I (x12 + 4)), some (av_I i37), some (av_I i38), none, none] [] h39 (fun r h' => ∃ z, r = some (av_I z) ∧ (z = 0 ∨ z = 1) ∧ (∀ v : Int, v = 4 + h.2.1 172 1 → LFr v h h' ∧ (z = 1 → GB h' v.toNat ∧ GO h' v.toNat)) ∧ kM (pm [11, 12, 65, 66, 70, 71, 72, 73, 74, 75, 76, 77, 78] [185, 186, 187, 188, 189, 190, 191, 192, 193, 194, 195, 196, 197, 198, 199, 200, 217, 218, 219, 220]) h h') := by
    intro n
    induction n with
    | zero => intro i37 i38 h39 _ _ _ _ _ _ hm; omega
    | succ n ih79 =>
      intro i37 i38 h39 hl0 hl1 hl2 hl3 hinv k40 hm
      obtain ⟨sd41, esd41⟩ : ∃ x, x = h39.2.1 170 70 := ⟨_, rfl⟩
      have rsd41 : 0 ≤ sd41 ∧ sd41 ≤ 10 := (by rw [esd41]; exact mi_g k40.1 (by decide) mr_170_70)
      obtain ⟨sd42, esd42⟩ : ∃ x, x = h39.2.1 170 71 := ⟨_, rfl⟩
      have rsd42 : 0 ≤ sd42 ∧ sd42 ≤ 2010 := (by rw [esd42]; exact mi_g k40.1 (by decide) mr_170_71)
      obtain ⟨sd43, esd43⟩ : ∃ x, x = h39.2.1 170 72 := ⟨_, rfl⟩
      have rsd43 : 0 ≤ sd43 ∧ sd43 ≤ 301 := (by rw [esd43]; exact mi_g k40.1 (by decide) mr_170_72)
      obtain ⟨sd44, esd44⟩ : ∃ x, x = h39.2.1 170 73 := ⟨_, rfl⟩
      have rsd44 : 0 ≤ sd44 ∧ sd44 ≤ 101 := (by rw [esd44]; exact mi_g k40.1 (by decide) mr_170_73)
      obtain ⟨sd45, esd45⟩ : ∃ x, x = h39.2.1 170 74 := ⟨_, rfl⟩
      obtain ⟨sl46, esl46⟩ : ∃ x, x = h39.2.2.1 170 75 := ⟨_, rfl⟩
      have rsl46 : 0 ≤ sl46 ∧ sl46 ≤ 2000000000000000 := (by rw [esl46]; exact mi_l k40.1 (by decide) mq_170_75)
      obtain ⟨sl47, esl47⟩ : ∃ x, x = h39.2.2.1 170 76 := ⟨_, rfl⟩
      have rsl47 : 0 ≤ sl47 ∧ sl47 ≤ 1000000000000 := (by rw [esl47]; exact mi_l k40.1 (by decide) mq_170_76)
      obtain ⟨sl48, esl48⟩ : ∃ x, x = h39.2.2.1 170 77 := ⟨_, rfl⟩
      have rsl48 : (-9223372036854775808) ≤ sl48 ∧ sl48 ≤ 9223372036854775807 := (by rw [esl48]; exact mi_l k40.1 (by decide) mq_170_77)
      obtain ⟨sl49, esl49⟩ : ∃ x, x = h39.2.2.1 170 78 := ⟨_, rfl⟩
      have rsl49 : (-9223372036854775808) ≤ sl49 ∧ sl49 ≤ 9223372036854775807 := (by rw [esl49]; exact mi_l k40.1 (by decide) mq_170_78)
      refine A_iload_n 3 d_MD_walk_79 rfl rfl ?_
      refine A_aload_n 0 d_MD_walk_80 rfl rfl ?_
      refine A_getIv (z := sd1) T_ok d_MD_walk_81 f_MD_354 (mi_s k40.1 sf_170) ((k40.2.2.1 _ _ rfl).trans esd1.symm) ?_
      refine A_icmp_ge (tgt := 530) d_MD_walk_84 (by decide) (fun c51 => ?_) (fun c51 => ?_)
      · have hB : WB h stk (x12 + 4) i37 sd43 sd44 h39 := (by rw [esd43, esd44]; exact hinv.1)
        have yb : (0 ≤ sd41 ∧ sd41 ≤ 7) ∧ 1 ≤ sl48 ∧ sl48 ≤ 268435456 ∧ 1 ≤ sl49 ∧ sl49 ≤ 268435456 := (by rw [esd41, esl48, esl49]; exact WQ_b hVQ hB.1)
        have yn := hinv.2
        refine A_iload d_MD_walk_530 rfl ?_
        refine A_if_eq (tgt := 542) d_MD_walk_532 (by decide) (fun c52 => ?_) (fun c52 => ?_)
        · have yn2 : sd43 ≤ 300 ∧ sd44 ≤ 100 ∧ sd42 ≤ 2000 := (by omega)
          refine A_aload_n 0 d_MD_walk_542 rfl rfl ?_
          refine A_getZv (z := sd45) T_ok d_MD_walk_543 f_MD_411 (mi_s k40.1 sf_170) esd45.symm (fun _ => ?_)
          refine A_if_eq (tgt := 557) d_MD_walk_546 (by decide) (fun c54 => ?_) (fun c54 => ?_)
          · refine A_aload_n 0 d_MD_walk_557 rfl rfl ?_
            refine A_getAv (z := some 185) T_ok d_MD_walk_558 f_MD_57 (mi_s k40.1 sf_170) (mi_r k40.1 rfm_27) ?_
            refine A_iload_n 2 d_MD_walk_561 rfl rfl ?_
            refine A_aload_n 0 d_MD_walk_562 rfl rfl ?_
            refine A_getIv (z := sd43) T_ok d_MD_walk_563 f_MD_405 (mi_s k40.1 sf_170) esd43.symm ?_
            refine A_pc (pc' := 566) rfl ?_
            refine A_iastorek (KR := kM (pm [11, 12, 65, 66, 70, 71, 72, 73, 74, 75, 76, 77, 78] [185, 186, 187, 188, 189, 190, 191, 192, 193, 194, 195, 196, 197, 198, 199, 200, 217, 218, 219, 220]) h) d_MD_walk_566 (mi_s k40.1 sf_185) (by omega) (by omega) (kM_i k40 (by decide) rfl (mr_185 _) (by omega) (by omega)) (fun h57 k58 eh57 => ?_)
            refine A_aload_n 0 d_MD_walk_567 rfl rfl ?_
            refine A_getAv (z := some 186) T_ok d_MD_walk_568 f_MD_60 (mi_s k58.1 sf_170) (mi_r k58.1 rfm_28) ?_
            refine A_iload_n 2 d_MD_walk_571 rfl rfl ?_
            refine A_aload_n 0 d_MD_walk_572 rfl rfl ?_
            refine A_getIv (z := sd44) T_ok d_MD_walk_573 f_MD_408 (mi_s k58.1 sf_170) ((eh57.1 _ _ (fun q => absurd q (by decide))).trans esd44.symm) ?_
            refine A_pc (pc' := 576) rfl ?_
            refine A_iconst d_MD_walk_576 rfl ?_
            refine A_iaddv (z := (sd44 + 1)) d_MD_walk_577 (w32_to (by omega) (by unfold i32; omega)) ?_
            refine A_iastorek (KR := kM (pm [11, 12, 65, 66, 70, 71, 72, 73, 74, 75, 76, 77, 78] [185, 186, 187, 188, 189, 190, 191, 192, 193, 194, 195, 196, 197, 198, 199, 200, 217, 218, 219, 220]) h) d_MD_walk_578 (mi_s k58.1 sf_186) (by omega) (by omega) (kM_i k58 (by decide) rfl (mr_186 _) (by omega) (by omega)) (fun h61 k62 eh61 => ?_)
            refine A_aload_n 0 d_MD_walk_579 rfl rfl ?_
            refine A_getAv (z := some 199) T_ok d_MD_walk_580 f_MD_100 (mi_s k62.1 sf_170) (mi_r k62.1 rfm_41) ?_
            refine A_bipush d_MD_walk_583 rfl ?_
            refine A_pc (pc' := 585) rfl ?_
            refine A_iload_n 2 d_MD_walk_585 rfl rfl ?_
            refine A_imulv (z := (102 * x12 + 408)) d_MD_walk_586 (w32_to (by omega) (by unfold i32; omega)) ?_
            refine A_aload_n 0 d_MD_walk_587 rfl rfl ?_
            refine A_getIv (z := sd44) T_ok d_MD_walk_588 f_MD_408 (mi_s k62.1 sf_170) ((eh61.1 _ _ (fun q => absurd q (by decide))).trans ((eh57.1 _ _ (fun q => absurd q (by decide))).trans esd44.symm)) ?_
            refine A_iaddv (z := (102 * x12 + sd44 + 408)) d_MD_walk_591 (w32_to (by omega) (by unfold i32; omega)) ?_
            refine A_iconst d_MD_walk_592 rfl ?_
            refine A_pc (pc' := 593) rfl ?_
            refine A_iaddv (z := (102 * x12 + sd44 + 409)) d_MD_walk_593 (w32_to (by omega) (by unfold i32; omega)) ?_
            refine A_aload_n 0 d_MD_walk_594 rfl rfl ?_
            refine A_getLv (z := sl46) T_ok d_MD_walk_595 f_MD_414 (mi_s k62.1 sf_170) ((congrFun (congrFun eh61.2.2 _) _).trans ((congrFun (congrFun eh57.2.2 _) _).trans esl46.symm)) ?_
            refine A_lastorek (KR := kM (pm [11, 12, 65, 66, 70, 71, 72, 73, 74, 75, 76, 77, 78] [185, 186, 187, 188, 189, 190, 191, 192, 193, 194, 195, 196, 197, 198, 199, 200, 217, 218, 219, 220]) h) d_MD_walk_598 (mi_s k62.1 sf_199) (by omega) (by omega) (kM_l k62 (by decide) rfl (mq_199 _) (by omega) (by omega)) (fun h66 k67 eh66 => ?_)
            refine A_aload_n 0 d_MD_walk_599 rfl rfl ?_
            refine A_getAv (z := some 200) T_ok d_MD_walk_600 f_MD_103 (mi_s k67.1 sf_170) (mi_r k67.1 rfm_42) ?_
            refine A_pc (pc' := 603) rfl ?_
            refine A_bipush d_MD_walk_603 rfl ?_
            refine A_iload_n 2 d_MD_walk_605 rfl rfl ?_
            refine A_imulv (z := (102 * x12 + 408)) d_MD_walk_606 (w32_to (by omega) (by unfold i32; omega)) ?_
            refine A_aload_n 0 d_MD_walk_607 rfl rfl ?_
            refine A_getIv (z := sd44) T_ok d_MD_walk_608 f_MD_408 (mi_s k67.1 sf_170) ((congrFun (congrFun eh66.1 _) _).trans ((eh61.1 _ _ (fun q => absurd q (by decide))).trans ((eh57.1 _ _ (fun q => absurd q (by decide))).trans esd44.symm))) ?_
            refine A_iaddv (z := (102 * x12 + sd44 + 408)) d_MD_walk_611 (w32_to (by omega) (by unfold i32; omega)) ?_
            refine A_pc (pc' := 612) rfl ?_
            refine A_iconst d_MD_walk_612 rfl ?_
            refine A_iaddv (z := (102 * x12 + sd44 + 409)) d_MD_walk_613 (w32_to (by omega) (by unfold i32; omega)) ?_
            refine A_aload_n 0 d_MD_walk_614 rfl rfl ?_
            refine A_getLv (z := sl47) T_ok d_MD_walk_615 f_MD_417 (mi_s k67.1 sf_170) ((eh66.2.1 _ _ (fun q => absurd q (by decide))).trans ((congrFun (congrFun eh61.2.2 _) _).trans ((congrFun (congrFun eh57.2.2 _) _).trans esl47.symm))) ?_
            refine A_lastorek (KR := kM (pm [11, 12, 65, 66, 70, 71, 72, 73, 74, 75, 76, 77, 78] [185, 186, 187, 188, 189, 190, 191, 192, 193, 194, 195, 196, 197, 198, 199, 200, 217, 218, 219, 220]) h) d_MD_walk_618 (mi_s k67.1 sf_200) (by omega) (by omega) (kM_l k67 (by decide) rfl (mq_200 _) (by omega) (by omega)) (fun h71 k72 eh71 => ?_)
            refine A_iconst d_MD_walk_619 rfl ?_
            refine A_pc (pc' := 620) rfl ?_
            exact A_zret d_MD_walk_620 (by decide) rfl (by omega) ⟨_, rfl, by omega, (fun v hv => by obtain rfl : v = (x12 + 4) := (by omega); obtain ⟨z1, z2, z3⟩ := WB_z hB (w := ((x12 + 4)).toNat) (by omega) (by rw [← esd45]; omega) (by omega) (by omega) (by omega) (i0 := ((102 * x12 + sd44 + 409)).toNat) (by omega) ((congrFun (congrFun eh71.1 _) _).trans ((congrFun (congrFun eh66.1 _) _).trans ((eh61.1 _ _ (fun q => absurd q (by decide))).trans eh57.2.1))) ((congrFun (congrFun eh71.1 _) _).trans ((congrFun (congrFun eh66.1 _) _).trans eh61.2.1)) (fun k hk => ((congrFun (congrFun eh71.1 185) k).trans ((congrFun (congrFun eh66.1 185) k).trans ((eh61.1 185 k (fun q => absurd q (by decide))).trans (eh57.1 185 k (fun _ => hk)))))) (fun k hk => ((congrFun (congrFun eh71.1 186) k).trans ((congrFun (congrFun eh66.1 186) k).trans ((eh61.1 186 k (fun _ => hk)).trans (eh57.1 186 k (fun q => absurd q (by decide))))))) (by intro a ha; simp only [List.mem_cons, List.not_mem_nil, or_false] at ha; rcases ha with rfl | rfl | rfl | rfl ; exact (funext (fun k => ((eh71.2.1 187 k (fun q => absurd q (by decide))).trans ((eh66.2.1 187 k (fun q => absurd q (by decide))).trans ((congrFun (congrFun eh61.2.2 187) k).trans (congrFun (congrFun eh57.2.2 187) k)))))) ; exact (funext (fun k => ((eh71.2.1 188 k (fun q => absurd q (by decide))).trans ((eh66.2.1 188 k (fun q => absurd q (by decide))).trans ((congrFun (congrFun eh61.2.2 188) k).trans (congrFun (congrFun eh57.2.2 188) k)))))) ; exact (funext (fun k => ((eh71.2.1 189 k (fun q => absurd q (by decide))).trans ((eh66.2.1 189 k (fun q => absurd q (by decide))).trans ((congrFun (congrFun eh61.2.2 189) k).trans (congrFun (congrFun eh57.2.2 189) k)))))) ; exact (funext (fun k => ((eh71.2.1 190 k (fun q => absurd q (by decide))).trans ((eh66.2.1 190 k (fun q => absurd q (by decide))).trans ((congrFun (congrFun eh61.2.2 190) k).trans (congrFun (congrFun eh57.2.2 190) k))))))) (funext (fun k => ((congrFun (congrFun eh71.1 196) k).trans ((congrFun (congrFun eh66.1 196) k).trans ((eh61.1 196 k (fun q => absurd q (by decide))).trans (eh57.1 196 k (fun q => absurd q (by decide)))))))) (fun k hk => ((eh71.2.1 199 k (fun q => absurd q (by decide))).trans ((eh66.2.1 199 k (fun _ => hk)).trans ((congrFun (congrFun eh61.2.2 199) k).trans (congrFun (congrFun eh57.2.2 199) k))))) (fun k hk => ((eh71.2.1 200 k (fun _ => hk)).trans ((eh66.2.1 200 k (fun q => absurd q (by decide))).trans ((congrFun (congrFun eh61.2.2 200) k).trans (congrFun (congrFun eh57.2.2 200) k))))) (((eh71.2.1 _ _ (fun q => absurd q (by decide))).trans eh66.2.2).trans esl46) (eh71.2.2.trans esl47); exact ⟨z3, fun _ => ⟨z1, z2⟩⟩), k72⟩
          · refine A_aload_n 0 d_MD_walk_549 rfl rfl ?_
            refine A_bipush d_MD_walk_550 rfl ?_
            refine A_iload_n 1 d_MD_walk_552 rfl rfl ?_
            have zf74 := ((k40.2.2.1 _ _ rfl).trans esd1.symm)
            have zf75 := esd41.symm
            have zf76 := esd42.symm
            have zf77 := esd43.symm
            have zf78 := esd44.symm
            have zf79 := esd45.symm
            refine A_callV2 m_MD_wrong T_ok d_MD_walk_553 l_MD_245 k_MD_wrong (mi_s k40.1 sf_170) rfl (by decide +kernel) (by decide) (Nat.le_of_ble_eq_true rfl) (s_MD_wrong k40.1 (by omega) (by omega) (by omega) (by omega)) (fun r h73 hq => ?_)
            obtain ⟨x81, rfl, ⟨_, _⟩, k80⟩ := hq
            have k82 := kM_t k40 k80 (pm_s (by decide) (by decide))
            obtain rfl : x81 = 0 := by omega
            exact A_zret d_MD_walk_556 (by decide) rfl (by omega) ⟨_, rfl, by omega, (fun v hv => by obtain rfl : v = (x12 + 4) := (by omega); exact ⟨LF_t hB.2.2 (LF_s ⟨(((k80.2.2.1 _ _ rfl).trans esd45.symm).trans esd45.symm.symm), (((k80.2.2.2 _ _ rfl).trans esl46.symm).trans esl46.symm.symm), (((k80.2.2.2 _ _ rfl).trans esl47.symm).trans esl47.symm.symm), (by intro a ha; simp only [List.mem_cons, List.not_mem_nil, or_false] at ha; rcases ha with rfl | rfl | rfl | rfl | rfl | rfl ; exact (funext (fun k => (k80.2.2.2 187 k rfl))) ; exact (funext (fun k => (k80.2.2.2 188 k rfl))) ; exact (funext (fun k => (k80.2.2.2 189 k rfl))) ; exact (funext (fun k => (k80.2.2.2 190 k rfl))) ; exact (funext (fun k => (k80.2.2.2 199 k rfl))) ; exact (funext (fun k => (k80.2.2.2 200 k rfl)))), (by intro a ha; simp only [List.mem_cons, List.not_mem_nil, or_false] at ha; rcases ha with rfl | rfl | rfl ; exact (funext (fun k => (k80.2.2.1 185 k rfl))) ; exact (funext (fun k => (k80.2.2.1 186 k rfl))) ; exact (funext (fun k => (k80.2.2.1 196 k rfl))))⟩), fun q => absurd q (by decide)⟩), k82⟩
        · refine A_aload_n 0 d_MD_walk_535 rfl rfl ?_
          refine A_iconst d_MD_walk_536 rfl ?_
          refine A_iload_n 1 d_MD_walk_537 rfl rfl ?_
          have zf84 := ((k40.2.2.1 _ _ rfl).trans esd1.symm)
          have zf85 := esd41.symm
          have zf86 := esd42.symm
          have zf87 := esd43.symm
          have zf88 := esd44.symm
          have zf89 := esd45.symm
          refine A_callV2 m_MD_wrong T_ok d_MD_walk_538 l_MD_245 k_MD_wrong (mi_s k40.1 sf_170) rfl (by decide +kernel) (by decide) (Nat.le_of_ble_eq_true rfl) (s_MD_wrong k40.1 (by omega) (by omega) (by omega) (by omega)) (fun r h83 hq => ?_)
          obtain ⟨x91, rfl, ⟨_, _⟩, k90⟩ := hq
          have k92 := kM_t k40 k90 (pm_s (by decide) (by decide))
          obtain rfl : x91 = 0 := by omega
          exact A_zret d_MD_walk_541 (by decide) rfl (by omega) ⟨_, rfl, by omega, (fun v hv => by obtain rfl : v = (x12 + 4) := (by omega); exact ⟨LF_t hB.2.2 (LF_s ⟨(((k90.2.2.1 _ _ rfl).trans esd45.symm).trans esd45.symm.symm), (((k90.2.2.2 _ _ rfl).trans esl46.symm).trans esl46.symm.symm), (((k90.2.2.2 _ _ rfl).trans esl47.symm).trans esl47.symm.symm), (by intro a ha; simp only [List.mem_cons, List.not_mem_nil, or_false] at ha; rcases ha with rfl | rfl | rfl | rfl | rfl | rfl ; exact (funext (fun k => (k90.2.2.2 187 k rfl))) ; exact (funext (fun k => (k90.2.2.2 188 k rfl))) ; exact (funext (fun k => (k90.2.2.2 189 k rfl))) ; exact (funext (fun k => (k90.2.2.2 190 k rfl))) ; exact (funext (fun k => (k90.2.2.2 199 k rfl))) ; exact (funext (fun k => (k90.2.2.2 200 k rfl)))), (by intro a ha; simp only [List.mem_cons, List.not_mem_nil, or_false] at ha; rcases ha with rfl | rfl | rfl ; exact (funext (fun k => (k90.2.2.1 185 k rfl))) ; exact (funext (fun k => (k90.2.2.1 186 k rfl))) ; exact (funext (fun k => (k90.2.2.1 196 k rfl))))⟩), fun q => absurd q (by decide)⟩), k92⟩
      · refine A_iload d_MD_walk_87 rfl ?_
        refine A_if_ne (tgt := 530) d_MD_walk_89 (by decide) (fun c93 => ?_) (fun c93 => ?_)
        · have hB : WB h stk (x12 + 4) i37 sd43 sd44 h39 := (by rw [esd43, esd44]; exact hinv.1)
          have yb : (0 ≤ sd41 ∧ sd41 ≤ 7) ∧ 1 ≤ sl48 ∧ sl48 ≤ 268435456 ∧ 1 ≤ sl49 ∧ sl49 ≤ 268435456 := (by rw [esd41, esl48, esl49]; exact WQ_b hVQ hB.1)
          have yn := hinv.2
          refine A_iload d_MD_walk_530 rfl ?_
          refine A_if_eq (tgt := 542) d_MD_walk_532 (by decide) (fun c => False.elim (by omega)) (fun c94 => ?_)
          refine A_aload_n 0 d_MD_walk_535 rfl rfl ?_
          refine A_iconst d_MD_walk_536 rfl ?_
          refine A_iload_n 1 d_MD_walk_537 rfl rfl ?_
          have zf96 := ((k40.2.2.1 _ _ rfl).trans esd1.symm)
          have zf97 := esd41.symm
          have zf98 := esd42.symm
          have zf99 := esd43.symm
          have zf100 := esd44.symm
          have zf101 := esd45.symm
          refine A_callV2 m_MD_wrong T_ok d_MD_walk_538 l_MD_245 k_MD_wrong (mi_s k40.1 sf_170) rfl (by decide +kernel) (by decide) (Nat.le_of_ble_eq_true rfl) (s_MD_wrong k40.1 (by omega) (by omega) (by omega) (by omega)) (fun r h95 hq => ?_)
          obtain ⟨x103, rfl, ⟨_, _⟩, k102⟩ := hq
          have k104 := kM_t k40 k102 (pm_s (by decide) (by decide))
          obtain rfl : x103 = 0 := by omega
          exact A_zret d_MD_walk_541 (by decide) rfl (by omega) ⟨_, rfl, by omega, (fun v hv => by obtain rfl : v = (x12 + 4) := (by omega); exact ⟨LF_t hB.2.2 (LF_s ⟨(((k102.2.2.1 _ _ rfl).trans esd45.symm).trans esd45.symm.symm), (((k102.2.2.2 _ _ rfl).trans esl46.symm).trans esl46.symm.symm), (((k102.2.2.2 _ _ rfl).trans esl47.symm).trans esl47.symm.symm), (by intro a ha; simp only [List.mem_cons, List.not_mem_nil, or_false] at ha; rcases ha with rfl | rfl | rfl | rfl | rfl | rfl ; exact (funext (fun k => (k102.2.2.2 187 k rfl))) ; exact (funext (fun k => (k102.2.2.2 188 k rfl))) ; exact (funext (fun k => (k102.2.2.2 189 k rfl))) ; exact (funext (fun k => (k102.2.2.2 190 k rfl))) ; exact (funext (fun k => (k102.2.2.2 199 k rfl))) ; exact (funext (fun k => (k102.2.2.2 200 k rfl)))), (by intro a ha; simp only [List.mem_cons, List.not_mem_nil, or_false] at ha; rcases ha with rfl | rfl | rfl ; exact (funext (fun k => (k102.2.2.1 185 k rfl))) ; exact (funext (fun k => (k102.2.2.1 186 k rfl))) ; exact (funext (fun k => (k102.2.2.1 196 k rfl))))⟩), fun q => absurd q (by decide)⟩), k104⟩
        · have hB : WB h stk (x12 + 4) i37 sd43 sd44 h39 := (by rw [esd43, esd44]; exact hinv.1)
          have yb : (0 ≤ sd41 ∧ sd41 ≤ 7) ∧ 1 ≤ sl48 ∧ sl48 ≤ 268435456 ∧ 1 ≤ sl49 ∧ sl49 ≤ 268435456 := (by rw [esd41, esl48, esl49]; exact WQ_b hVQ hB.1)
          have yn : sd43 ≤ 300 ∧ sd44 ≤ 100 ∧ sd42 ≤ 2000 := (by have q1 := hinv.2; omega)
          refine A_aload_n 0 d_MD_walk_92 rfl rfl ?_
          refine A_getAv (z := some 201) T_ok d_MD_walk_93 f_MD_106 (mi_s k40.1 sf_170) (mi_r k40.1 rfm_44) ?_
          refine A_iload_n 3 d_MD_walk_96 rfl rfl ?_
          refine A_ialoadn (lo := 0) (hi := 6) d_MD_walk_97 (mi_s k40.1 sf_201) (by omega) (by omega) (mi_g k40.1 (by decide) (mr_201 _)) (fun x106 ex106 _ _ => ?_)
          have fx106 := ex106.trans (k40.2.2.1 201 _ rfl)
          refine A_istore (L' := [some (av_R (some 170)), some (av_I a1), some (av_I (x12 + 4)), some (av_I i37), some (av_I i38), some (av_I x106), none]) d_MD_walk_98 (Nat.le_of_ble_eq_true rfl) rfl ?_
          refine A_pc (pc' := 100) rfl ?_
          refine A_iload d_MD_walk_100 rfl ?_
          refine A_if_eq (tgt := 123) d_MD_walk_102 (by decide) (fun c107 => ?_) (fun c107 => ?_)
          · refine A_aload_n 0 d_MD_walk_123 rfl rfl ?_
            refine A_dupR d_MD_walk_124 ?_
            refine A_getIv (z := sd42) T_ok d_MD_walk_125 f_MD_402 (mi_s k40.1 sf_170) esd42.symm ?_
            refine A_iconst d_MD_walk_128 rfl ?_
            refine A_iaddv (z := (sd42 + 1)) d_MD_walk_129 (w32_to (by omega) (by unfold i32; omega)) ?_
            refine A_pc (pc' := 130) rfl ?_
            refine A_putIk (KR := kM (pm [11, 12, 65, 66, 70, 71, 72, 73, 74, 75, 76, 77, 78] [185, 186, 187, 188, 189, 190, 191, 192, 193, 194, 195, 196, 197, 198, 199, 200, 217, 218, 219, 220]) h) T_ok d_MD_walk_130 f_MD_402 (mi_s k40.1 sf_170) fin_f (kM_i k40 (by decide) (by decide) mr_170_71 (by omega) (by omega)) (fun h109 k110 eh109 => ?_)
            refine A_iload d_MD_walk_133 rfl ?_
            refine A_if_ne (tgt := 170) d_MD_walk_135 (by decide) (fun c => False.elim (by omega)) (fun c111 => ?_)
            refine A_aload_n 0 d_MD_walk_138 rfl rfl ?_
            refine A_getIv (z := sd43) T_ok d_MD_walk_139 f_MD_405 (mi_s k110.1 sf_170) ((eh109.1 _ _ (fun _ => by decide)).trans esd43.symm) ?_
            refine A_sipush d_MD_walk_142 rfl ?_
            refine A_icmp_ge (tgt := 154) d_MD_walk_145 (by decide) (fun c113 => ?_) (fun c113 => ?_)
            · refine A_aload_n 0 d_MD_walk_154 rfl rfl ?_
              refine A_dupR d_MD_walk_155 ?_
              refine A_getIv (z := sd43) T_ok d_MD_walk_156 f_MD_405 (mi_s k110.1 sf_170) ((eh109.1 _ _ (fun _ => by decide)).trans esd43.symm) ?_
              refine A_iconst d_MD_walk_159 rfl ?_
              refine A_iaddv (z := (sd43 + 1)) d_MD_walk_160 (w32_to (by omega) (by unfold i32; omega)) ?_
              refine A_pc (pc' := 161) rfl ?_
              refine A_putIk (KR := kM (pm [11, 12, 65, 66, 70, 71, 72, 73, 74, 75, 76, 77, 78] [185, 186, 187, 188, 189, 190, 191, 192, 193, 194, 195, 196, 197, 198, 199, 200, 217, 218, 219, 220]) h) T_ok d_MD_walk_161 f_MD_405 (mi_s k110.1 sf_170) fin_f (kM_i k110 (by decide) (by decide) mr_170_72 (by omega) (by omega)) (fun h115 k116 eh115 => ?_)
              have yp : h.2.1 201 (i37).toNat = 0 := (by omega)
              have yB : WB h stk (x12 + 4) (i37 + 1) (sd43 + 1) sd44 h115 := WB_s hVQ (WB_m hB ⟨(((eh115.1 _ _ (fun _ => by decide)).trans ((eh109.1 _ _ (fun _ => by decide)).trans esd41.symm)).trans esd41.symm.symm), (funext (fun k => ((eh115.1 217 k (fun q => absurd q (by decide))).trans (eh109.1 217 k (fun q => absurd q (by decide)))))), (funext (fun k => ((eh115.1 218 k (fun q => absurd q (by decide))).trans (eh109.1 218 k (fun q => absurd q (by decide)))))), (funext (fun k => ((eh115.1 219 k (fun q => absurd q (by decide))).trans (eh109.1 219 k (fun q => absurd q (by decide)))))), (((congrFun (congrFun eh115.2.2 _) _).trans ((congrFun (congrFun eh109.2.2 _) _).trans esl48.symm)).trans esl48.symm.symm), (((congrFun (congrFun eh115.2.2 _) _).trans ((congrFun (congrFun eh109.2.2 _) _).trans esl49.symm)).trans esl49.symm.symm)⟩ ⟨(((eh115.1 _ _ (fun _ => by decide)).trans ((eh109.1 _ _ (fun _ => by decide)).trans esd45.symm)).trans esd45.symm.symm), (((congrFun (congrFun eh115.2.2 _) _).trans ((congrFun (congrFun eh109.2.2 _) _).trans esl46.symm)).trans esl46.symm.symm), (((congrFun (congrFun eh115.2.2 _) _).trans ((congrFun (congrFun eh109.2.2 _) _).trans esl47.symm)).trans esl47.symm.symm), (by intro a ha; simp only [List.mem_cons, List.not_mem_nil, or_false] at ha; rcases ha with rfl | rfl | rfl | rfl | rfl | rfl ; exact (funext (fun k => ((congrFun (congrFun eh115.2.2 187) k).trans (congrFun (congrFun eh109.2.2 187) k)))) ; exact (funext (fun k => ((congrFun (congrFun eh115.2.2 188) k).trans (congrFun (congrFun eh109.2.2 188) k)))) ; exact (funext (fun k => ((congrFun (congrFun eh115.2.2 189) k).trans (congrFun (congrFun eh109.2.2 189) k)))) ; exact (funext (fun k => ((congrFun (congrFun eh115.2.2 190) k).trans (congrFun (congrFun eh109.2.2 190) k)))) ; exact (funext (fun k => ((congrFun (congrFun eh115.2.2 199) k).trans (congrFun (congrFun eh109.2.2 199) k)))) ; exact (funext (fun k => ((congrFun (congrFun eh115.2.2 200) k).trans (congrFun (congrFun eh109.2.2 200) k))))), (by intro a ha; simp only [List.mem_cons, List.not_mem_nil, or_false] at ha; rcases ha with rfl | rfl | rfl ; exact (funext (fun k => ((eh115.1 185 k (fun q => absurd q (by decide))).trans (eh109.1 185 k (fun q => absurd q (by decide)))))) ; exact (funext (fun k => ((eh115.1 186 k (fun q => absurd q (by decide))).trans (eh109.1 186 k (fun q => absurd q (by decide)))))) ; exact (funext (fun k => ((eh115.1 196 k (fun q => absurd q (by decide))).trans (eh109.1 196 k (fun q => absurd q (by decide)))))))⟩ (Or.inr (by omega)) (by omega) (Or.inl (by omega))) (by omega) (Or.inl yp)
              have yk := WQ_k yB.1 hp0
              refine A_iincv (z := (i37 + 1)) (L' := [some (av_R (some 170)), some (av_I a1), some (av_I (x12 + 4)), some (av_I (i37 + 1)), some (av_I i38), some (av_I x106), none]) d_MD_walk_164 rfl (w32_to (by omega) (by unfold i32; omega)) rfl ?_
              refine A_goto (tgt := 491) d_MD_walk_167 (by decide) ?_
              refine A_aload_n 0 d_MD_walk_491 rfl rfl ?_
              refine A_getIv (z := (sd43 + 1)) T_ok d_MD_walk_492 f_MD_405 (mi_s k116.1 sf_170) eh115.2.1 ?_
              refine A_sipush d_MD_walk_495 rfl ?_
              refine A_icmp_gt (tgt := 520) d_MD_walk_498 (by decide) (fun c118 => ?_) (fun c => False.elim (by omega))
              refine A_iconst d_MD_walk_520 rfl ?_
              refine A_goto (tgt := 525) d_MD_walk_521 (by decide) ?_
              refine A_istore (L' := [some (av_R (some 170)), some (av_I a1), some (av_I (x12 + 4)), some (av_I (i37 + 1)), some (av_I 1), some (av_I x106), none]) d_MD_walk_525 (Nat.le_of_ble_eq_true rfl) rfl ?_
              refine A_goto (tgt := 79) d_MD_walk_527 (by decide) ?_
              refine A_free (L' := [some (av_R (some 170)), some (av_I a1), some (av_I (x12 + 4)), some (av_I (i37 + 1)), some (av_I 1), none, none]) (And.intro rfl (And.intro rfl (And.intro rfl (And.intro rfl (And.intro rfl trivial))))) ?_
              exact ih79 (i37 + 1) 1 h115 (by omega) (by omega) (by omega) (by omega) ⟨(by rw [eh115.2.1, ((eh115.1 _ _ (fun _ => by decide)).trans ((eh109.1 _ _ (fun _ => by decide)).trans esd44.symm))]; exact yB), (by have qq0 := ((eh115.1 _ _ (fun _ => by decide)).trans eh109.2.1); have qq1 := eh115.2.1; have qq2 := ((eh115.1 _ _ (fun _ => by decide)).trans ((eh109.1 _ _ (fun _ => by decide)).trans esd44.symm)); exact ⟨by omega, by omega⟩)⟩ k116 (by have qq0 := ((eh115.1 _ _ (fun _ => by decide)).trans eh109.2.1); omega)
            · have yp : h.2.1 201 (i37).toNat = 0 := (by omega)
              have hB1 : WB h stk (x12 + 4) i37 sd43 sd44 h109 := WB_m hB ⟨(((eh109.1 _ _ (fun _ => by decide)).trans esd41.symm).trans esd41.symm.symm), (funext (fun k => (eh109.1 217 k (fun q => absurd q (by decide))))), (funext (fun k => (eh109.1 218 k (fun q => absurd q (by decide))))), (funext (fun k => (eh109.1 219 k (fun q => absurd q (by decide))))), (((congrFun (congrFun eh109.2.2 _) _).trans esl48.symm).trans esl48.symm.symm), (((congrFun (congrFun eh109.2.2 _) _).trans esl49.symm).trans esl49.symm.symm)⟩ ⟨(((eh109.1 _ _ (fun _ => by decide)).trans esd45.symm).trans esd45.symm.symm), (((congrFun (congrFun eh109.2.2 _) _).trans esl46.symm).trans esl46.symm.symm), (((congrFun (congrFun eh109.2.2 _) _).trans esl47.symm).trans esl47.symm.symm), (by intro a ha; simp only [List.mem_cons, List.not_mem_nil, or_false] at ha; rcases ha with rfl | rfl | rfl | rfl | rfl | rfl ; exact (funext (fun k => (congrFun (congrFun eh109.2.2 187) k))) ; exact (funext (fun k => (congrFun (congrFun eh109.2.2 188) k))) ; exact (funext (fun k => (congrFun (congrFun eh109.2.2 189) k))) ; exact (funext (fun k => (congrFun (congrFun eh109.2.2 190) k))) ; exact (funext (fun k => (congrFun (congrFun eh109.2.2 199) k))) ; exact (funext (fun k => (congrFun (congrFun eh109.2.2 200) k)))), (by intro a ha; simp only [List.mem_cons, List.not_mem_nil, or_false] at ha; rcases ha with rfl | rfl | rfl ; exact (funext (fun k => (eh109.1 185 k (fun q => absurd q (by decide))))) ; exact (funext (fun k => (eh109.1 186 k (fun q => absurd q (by decide))))) ; exact (funext (fun k => (eh109.1 196 k (fun q => absurd q (by decide))))))⟩ (Or.inl (by omega)) (by omega) (Or.inl (by omega))
              refine A_aload_n 0 d_MD_walk_148 rfl rfl ?_
              refine A_iload_n 2 d_MD_walk_149 rfl rfl ?_
              refine A_iload_n 3 d_MD_walk_150 rfl rfl ?_
              have zf120 := ((eh109.1 _ _ (fun _ => by decide)).trans ((k40.2.2.1 _ _ rfl).trans esd1.symm))
              have zf121 := ((eh109.1 _ _ (fun _ => by decide)).trans esd41.symm)
              have zf122 := eh109.2.1
              have zf123 := ((eh109.1 _ _ (fun _ => by decide)).trans esd43.symm)
              have zf124 := ((eh109.1 _ _ (fun _ => by decide)).trans esd44.symm)
              have zf125 := ((eh109.1 _ _ (fun _ => by decide)).trans esd45.symm)
              refine A_callV2 m_MD_event_IIV T_ok d_MD_walk_151 l_MD_426 k_MD_event_IIV (mi_s k110.1 sf_170) rfl (by decide +kernel) (by decide) (Nat.le_of_ble_eq_true rfl) (s_MD_event_IIV k110.1 (by omega) (by omega) (by omega) (by omega) (by have qq0 := ((eh109.1 _ _ (fun _ => by decide)).trans esd43.symm); omega) (by have qq0 := ((congrFun (congrFun eh109.2.2 _) _).trans esl48.symm); have qq1 := ((congrFun (congrFun eh109.2.2 _) _).trans esl49.symm); exact ⟨by omega, by omega, by omega, by omega⟩) (fun q => (hB1.2.1 q).1) (by rw [k110.2.2.1 202 _ rfl]; exact VQ_0 hVQ (by omega) yp)) (fun r h119 hq => ?_)
              obtain ⟨rfl, xk126, k126⟩ := hq
              have k127 := kM_t k110 k126 (pm_s (by decide) (by decide))
              obtain ⟨sd128, esd128⟩ : ∃ x, x = h119.2.1 170 74 := ⟨_, rfl⟩
              obtain ⟨sl129, esl129⟩ : ∃ x, x = h119.2.2.1 170 75 := ⟨_, rfl⟩
              have rsl129 : 0 ≤ sl129 ∧ sl129 ≤ 2000000000000000 := (by rw [esl129]; exact mi_l k127.1 (by decide) mq_170_75)
              obtain ⟨sl130, esl130⟩ : ∃ x, x = h119.2.2.1 170 76 := ⟨_, rfl⟩
              have rsl130 : 0 ≤ sl130 ∧ sl130 ≤ 1000000000000 := (by rw [esl130]; exact mi_l k127.1 (by decide) mq_170_76)
              have hB2 : WB h stk (x12 + 4) i37 (sd43 + 1) sd44 h119 := WB_e hB1 (by omega) (by omega) (by have qq0 := ((k126.2.2.1 _ _ rfl).trans ((eh109.1 _ _ (fun _ => by decide)).trans esd43.symm)); have q2 := xk126; omega) k126 ⟨xk126.1, xk126.2.1, xk126.2.2.1, xk126.2.2.2.1, xk126.2.2.2.2.1, xk126.2.2.2.2.2.1, xk126.2.2.2.2.2.2.trans ((eh109.1 _ _ (fun _ => by decide)).trans esd44.symm)⟩ ⟨rfl, rfl, rfl, fun _ => rfl, fun _ => rfl, fun _ => rfl, fun _ => rfl, fun _ => rfl, fun _ => rfl, fun _ => rfl⟩
              refine A_aload_n 0 d_MD_walk_154 rfl rfl ?_
              refine A_dupR d_MD_walk_155 ?_
              refine A_getIv (z := sd43) T_ok d_MD_walk_156 f_MD_405 (mi_s k127.1 sf_170) ((k126.2.2.1 _ _ rfl).trans ((eh109.1 _ _ (fun _ => by decide)).trans esd43.symm)) ?_
              refine A_iconst d_MD_walk_159 rfl ?_
              refine A_iaddv (z := (sd43 + 1)) d_MD_walk_160 (w32_to (by omega) (by unfold i32; omega)) ?_
              refine A_pc (pc' := 161) rfl ?_
              refine A_putIk (KR := kM (pm [11, 12, 65, 66, 70, 71, 72, 73, 74, 75, 76, 77, 78] [185, 186, 187, 188, 189, 190, 191, 192, 193, 194, 195, 196, 197, 198, 199, 200, 217, 218, 219, 220]) h) T_ok d_MD_walk_161 f_MD_405 (mi_s k127.1 sf_170) fin_f (kM_i k127 (by decide) (by decide) mr_170_72 (by omega) (by omega)) (fun h132 k133 eh132 => ?_)
              have yB : WB h stk (x12 + 4) (i37 + 1) (sd43 + 1) sd44 h132 := WB_s hVQ (WB_m hB2 ⟨(((eh132.1 _ _ (fun _ => by decide)).trans ((k126.2.2.1 _ _ rfl).trans ((eh109.1 _ _ (fun _ => by decide)).trans esd41.symm))).trans ((k126.2.2.1 _ _ rfl).trans ((eh109.1 _ _ (fun _ => by decide)).trans esd41.symm)).symm), (funext (fun k => (eh132.1 217 k (fun q => absurd q (by decide))))), (funext (fun k => (eh132.1 218 k (fun q => absurd q (by decide))))), (funext (fun k => (eh132.1 219 k (fun q => absurd q (by decide))))), (((congrFun (congrFun eh132.2.2 _) _).trans ((k126.2.2.2 _ _ rfl).trans ((congrFun (congrFun eh109.2.2 _) _).trans esl48.symm))).trans ((k126.2.2.2 _ _ rfl).trans ((congrFun (congrFun eh109.2.2 _) _).trans esl48.symm)).symm), (((congrFun (congrFun eh132.2.2 _) _).trans ((k126.2.2.2 _ _ rfl).trans ((congrFun (congrFun eh109.2.2 _) _).trans esl49.symm))).trans ((k126.2.2.2 _ _ rfl).trans ((congrFun (congrFun eh109.2.2 _) _).trans esl49.symm)).symm)⟩ ⟨(((eh132.1 _ _ (fun _ => by decide)).trans esd128.symm).trans esd128.symm.symm), (((congrFun (congrFun eh132.2.2 _) _).trans esl129.symm).trans esl129.symm.symm), (((congrFun (congrFun eh132.2.2 _) _).trans esl130.symm).trans esl130.symm.symm), (by intro a ha; simp only [List.mem_cons, List.not_mem_nil, or_false] at ha; rcases ha with rfl | rfl | rfl | rfl | rfl | rfl ; exact (funext (fun k => (congrFun (congrFun eh132.2.2 187) k))) ; exact (funext (fun k => (congrFun (congrFun eh132.2.2 188) k))) ; exact (funext (fun k => (congrFun (congrFun eh132.2.2 189) k))) ; exact (funext (fun k => (congrFun (congrFun eh132.2.2 190) k))) ; exact (funext (fun k => (congrFun (congrFun eh132.2.2 199) k))) ; exact (funext (fun k => (congrFun (congrFun eh132.2.2 200) k)))), (by intro a ha; simp only [List.mem_cons, List.not_mem_nil, or_false] at ha; rcases ha with rfl | rfl | rfl ; exact (funext (fun k => (eh132.1 185 k (fun q => absurd q (by decide))))) ; exact (funext (fun k => (eh132.1 186 k (fun q => absurd q (by decide))))) ; exact (funext (fun k => (eh132.1 196 k (fun q => absurd q (by decide))))))⟩ (Or.inl (by omega)) (by omega) (Or.inl (by omega))) (by omega) (Or.inl yp)
              have yk := WQ_k yB.1 hp0
              refine A_iincv (z := (i37 + 1)) (L' := [some (av_R (some 170)), some (av_I a1), some (av_I (x12 + 4)), some (av_I (i37 + 1)), some (av_I i38), some (av_I x106), none]) d_MD_walk_164 rfl (w32_to (by omega) (by unfold i32; omega)) rfl ?_
              refine A_goto (tgt := 491) d_MD_walk_167 (by decide) ?_
              refine A_aload_n 0 d_MD_walk_491 rfl rfl ?_
              refine A_getIv (z := (sd43 + 1)) T_ok d_MD_walk_492 f_MD_405 (mi_s k133.1 sf_170) eh132.2.1 ?_
              refine A_sipush d_MD_walk_495 rfl ?_
              refine A_icmp_gt (tgt := 520) d_MD_walk_498 (by decide) (fun c => False.elim (by omega)) (fun c135 => ?_)
              refine A_aload_n 0 d_MD_walk_501 rfl rfl ?_
              refine A_getIv (z := sd44) T_ok d_MD_walk_502 f_MD_408 (mi_s k133.1 sf_170) ((eh132.1 _ _ (fun _ => by decide)).trans ((k126.2.2.1 _ _ rfl).trans ((eh109.1 _ _ (fun _ => by decide)).trans esd44.symm))) ?_
              refine A_bipush d_MD_walk_505 rfl ?_
              refine A_icmp_gt (tgt := 520) d_MD_walk_507 (by decide) (fun c => False.elim (by omega)) (fun c137 => ?_)
              refine A_aload_n 0 d_MD_walk_510 rfl rfl ?_
              refine A_getIv (z := (sd42 + 1)) T_ok d_MD_walk_511 f_MD_402 (mi_s k133.1 sf_170) ((eh132.1 _ _ (fun _ => by decide)).trans ((k126.2.2.1 _ _ rfl).trans eh109.2.1)) ?_
              refine A_sipush d_MD_walk_514 rfl ?_
              refine A_icmp_le (tgt := 524) d_MD_walk_517 (by decide) (fun c139 => ?_) (fun c139 => ?_)
              · refine A_iconst d_MD_walk_524 rfl ?_
                refine A_istore (L' := [some (av_R (some 170)), some (av_I a1), some (av_I (x12 + 4)), some (av_I (i37 + 1)), some (av_I 0), some (av_I x106), none]) d_MD_walk_525 (Nat.le_of_ble_eq_true rfl) rfl ?_
                refine A_goto (tgt := 79) d_MD_walk_527 (by decide) ?_
                refine A_free (L' := [some (av_R (some 170)), some (av_I a1), some (av_I (x12 + 4)), some (av_I (i37 + 1)), some (av_I 0), none, none]) (And.intro rfl (And.intro rfl (And.intro rfl (And.intro rfl (And.intro rfl trivial))))) ?_
                exact ih79 (i37 + 1) 0 h132 (by omega) (by omega) (by omega) (by omega) ⟨(by rw [eh132.2.1, ((eh132.1 _ _ (fun _ => by decide)).trans ((k126.2.2.1 _ _ rfl).trans ((eh109.1 _ _ (fun _ => by decide)).trans esd44.symm)))]; exact yB), (by have qq0 := ((eh132.1 _ _ (fun _ => by decide)).trans ((k126.2.2.1 _ _ rfl).trans eh109.2.1)); have qq1 := eh132.2.1; have qq2 := ((eh132.1 _ _ (fun _ => by decide)).trans ((k126.2.2.1 _ _ rfl).trans ((eh109.1 _ _ (fun _ => by decide)).trans esd44.symm))); exact ⟨by omega, by omega⟩)⟩ k133 (by have qq0 := ((eh132.1 _ _ (fun _ => by decide)).trans ((k126.2.2.1 _ _ rfl).trans eh109.2.1)); omega)
              · refine A_iconst d_MD_walk_520 rfl ?_
                refine A_goto (tgt := 525) d_MD_walk_521 (by decide) ?_
                refine A_istore (L' := [some (av_R (some 170)), some (av_I a1), some (av_I (x12 + 4)), some (av_I (i37 + 1)), some (av_I 1), some (av_I x106), none]) d_MD_walk_525 (Nat.le_of_ble_eq_true rfl) rfl ?_
                refine A_goto (tgt := 79) d_MD_walk_527 (by decide) ?_
                refine A_free (L' := [some (av_R (some 170)), some (av_I a1), some (av_I (x12 + 4)), some (av_I (i37 + 1)), some (av_I 1), none, none]) (And.intro rfl (And.intro rfl (And.intro rfl (And.intro rfl (And.intro rfl trivial))))) ?_
                exact ih79 (i37 + 1) 1 h132 (by omega) (by omega) (by omega) (by omega) ⟨(by rw [eh132.2.1, ((eh132.1 _ _ (fun _ => by decide)).trans ((k126.2.2.1 _ _ rfl).trans ((eh109.1 _ _ (fun _ => by decide)).trans esd44.symm)))]; exact yB), (by have qq0 := ((eh132.1 _ _ (fun _ => by decide)).trans ((k126.2.2.1 _ _ rfl).trans eh109.2.1)); have qq1 := eh132.2.1; have qq2 := ((eh132.1 _ _ (fun _ => by decide)).trans ((k126.2.2.1 _ _ rfl).trans ((eh109.1 _ _ (fun _ => by decide)).trans esd44.symm))); exact ⟨by omega, by omega⟩)⟩ k133 (by have qq0 := ((eh132.1 _ _ (fun _ => by decide)).trans ((k126.2.2.1 _ _ rfl).trans eh109.2.1)); omega)
          · refine A_iload d_MD_walk_105 rfl ?_
            refine A_iconst d_MD_walk_107 rfl ?_
            refine A_icmp_eq (tgt := 123) d_MD_walk_108 (by decide) (fun c140 => ?_) (fun c140 => ?_)
            · refine A_aload_n 0 d_MD_walk_123 rfl rfl ?_
              refine A_dupR d_MD_walk_124 ?_
              refine A_getIv (z := sd42) T_ok d_MD_walk_125 f_MD_402 (mi_s k40.1 sf_170) esd42.symm ?_
              refine A_iconst d_MD_walk_128 rfl ?_
              refine A_iaddv (z := (sd42 + 1)) d_MD_walk_129 (w32_to (by omega) (by unfold i32; omega)) ?_
              refine A_pc (pc' := 130) rfl ?_
              refine A_putIk (KR := kM (pm [11, 12, 65, 66, 70, 71, 72, 73, 74, 75, 76, 77, 78] [185, 186, 187, 188, 189, 190, 191, 192, 193, 194, 195, 196, 197, 198, 199, 200, 217, 218, 219, 220]) h) T_ok d_MD_walk_130 f_MD_402 (mi_s k40.1 sf_170) fin_f (kM_i k40 (by decide) (by decide) mr_170_71 (by omega) (by omega)) (fun h142 k143 eh142 => ?_)
              refine A_iload d_MD_walk_133 rfl ?_
              refine A_if_ne (tgt := 170) d_MD_walk_135 (by decide) (fun c144 => ?_) (fun c => False.elim (by omega))
              refine A_iload d_MD_walk_170 rfl ?_
              refine A_iconst d_MD_walk_172 rfl ?_
              refine A_icmp_ne (tgt := 237) d_MD_walk_173 (by decide) (fun c => False.elim (by omega)) (fun c145 => ?_)
              refine A_aload_n 0 d_MD_walk_176 rfl rfl ?_
              refine A_dupR d_MD_walk_177 ?_
              refine A_getIv (z := sd44) T_ok d_MD_walk_178 f_MD_408 (mi_s k143.1 sf_170) ((eh142.1 _ _ (fun _ => by decide)).trans esd44.symm) ?_
              refine A_iconst d_MD_walk_181 rfl ?_
              refine A_iaddv (z := (sd44 + 1)) d_MD_walk_182 (w32_to (by omega) (by unfold i32; omega)) ?_
              refine A_pc (pc' := 183) rfl ?_
              refine A_putIk (KR := kM (pm [11, 12, 65, 66, 70, 71, 72, 73, 74, 75, 76, 77, 78] [185, 186, 187, 188, 189, 190, 191, 192, 193, 194, 195, 196, 197, 198, 199, 200, 217, 218, 219, 220]) h) T_ok d_MD_walk_183 f_MD_408 (mi_s k143.1 sf_170) fin_f (kM_i k143 (by decide) (by decide) mr_170_73 (by omega) (by omega)) (fun h147 k148 eh147 => ?_)
              refine A_aload_n 0 d_MD_walk_186 rfl rfl ?_
              refine A_getIv (z := (sd44 + 1)) T_ok d_MD_walk_187 f_MD_408 (mi_s k148.1 sf_170) eh147.2.1 ?_
              refine A_bipush d_MD_walk_190 rfl ?_
              refine A_icmp_gt (tgt := 231) d_MD_walk_192 (by decide) (fun c150 => ?_) (fun c150 => ?_)
              · have yp : h.2.1 201 (i37).toNat = 1 := (by omega)
                have yB : WB h stk (x12 + 4) (i37 + 1) sd43 (sd44 + 1) h147 := WB_s hVQ (WB_m hB ⟨(((eh147.1 _ _ (fun _ => by decide)).trans ((eh142.1 _ _ (fun _ => by decide)).trans esd41.symm)).trans esd41.symm.symm), (funext (fun k => ((eh147.1 217 k (fun q => absurd q (by decide))).trans (eh142.1 217 k (fun q => absurd q (by decide)))))), (funext (fun k => ((eh147.1 218 k (fun q => absurd q (by decide))).trans (eh142.1 218 k (fun q => absurd q (by decide)))))), (funext (fun k => ((eh147.1 219 k (fun q => absurd q (by decide))).trans (eh142.1 219 k (fun q => absurd q (by decide)))))), (((congrFun (congrFun eh147.2.2 _) _).trans ((congrFun (congrFun eh142.2.2 _) _).trans esl48.symm)).trans esl48.symm.symm), (((congrFun (congrFun eh147.2.2 _) _).trans ((congrFun (congrFun eh142.2.2 _) _).trans esl49.symm)).trans esl49.symm.symm)⟩ ⟨(((eh147.1 _ _ (fun _ => by decide)).trans ((eh142.1 _ _ (fun _ => by decide)).trans esd45.symm)).trans esd45.symm.symm), (((congrFun (congrFun eh147.2.2 _) _).trans ((congrFun (congrFun eh142.2.2 _) _).trans esl46.symm)).trans esl46.symm.symm), (((congrFun (congrFun eh147.2.2 _) _).trans ((congrFun (congrFun eh142.2.2 _) _).trans esl47.symm)).trans esl47.symm.symm), (by intro a ha; simp only [List.mem_cons, List.not_mem_nil, or_false] at ha; rcases ha with rfl | rfl | rfl | rfl | rfl | rfl ; exact (funext (fun k => ((congrFun (congrFun eh147.2.2 187) k).trans (congrFun (congrFun eh142.2.2 187) k)))) ; exact (funext (fun k => ((congrFun (congrFun eh147.2.2 188) k).trans (congrFun (congrFun eh142.2.2 188) k)))) ; exact (funext (fun k => ((congrFun (congrFun eh147.2.2 189) k).trans (congrFun (congrFun eh142.2.2 189) k)))) ; exact (funext (fun k => ((congrFun (congrFun eh147.2.2 190) k).trans (congrFun (congrFun eh142.2.2 190) k)))) ; exact (funext (fun k => ((congrFun (congrFun eh147.2.2 199) k).trans (congrFun (congrFun eh142.2.2 199) k)))) ; exact (funext (fun k => ((congrFun (congrFun eh147.2.2 200) k).trans (congrFun (congrFun eh142.2.2 200) k))))), (by intro a ha; simp only [List.mem_cons, List.not_mem_nil, or_false] at ha; rcases ha with rfl | rfl | rfl ; exact (funext (fun k => ((eh147.1 185 k (fun q => absurd q (by decide))).trans (eh142.1 185 k (fun q => absurd q (by decide)))))) ; exact (funext (fun k => ((eh147.1 186 k (fun q => absurd q (by decide))).trans (eh142.1 186 k (fun q => absurd q (by decide)))))) ; exact (funext (fun k => ((eh147.1 196 k (fun q => absurd q (by decide))).trans (eh142.1 196 k (fun q => absurd q (by decide)))))))⟩ (Or.inl (by omega)) (by omega) (Or.inr (by omega))) (by omega) (Or.inr yp)
                have yk := WQ_k yB.1 hp0
                refine A_iincv (z := (i37 + 1)) (L' := [some (av_R (some 170)), some (av_I a1), some (av_I (x12 + 4)), some (av_I (i37 + 1)), some (av_I i38), some (av_I x106), none]) d_MD_walk_231 rfl (w32_to (by omega) (by unfold i32; omega)) rfl ?_
                refine A_goto (tgt := 491) d_MD_walk_234 (by decide) ?_
                refine A_aload_n 0 d_MD_walk_491 rfl rfl ?_
                refine A_getIv (z := sd43) T_ok d_MD_walk_492 f_MD_405 (mi_s k148.1 sf_170) ((eh147.1 _ _ (fun _ => by decide)).trans ((eh142.1 _ _ (fun _ => by decide)).trans esd43.symm)) ?_
                refine A_sipush d_MD_walk_495 rfl ?_
                refine A_icmp_gt (tgt := 520) d_MD_walk_498 (by decide) (fun c => False.elim (by omega)) (fun c152 => ?_)
                refine A_aload_n 0 d_MD_walk_501 rfl rfl ?_
                refine A_getIv (z := (sd44 + 1)) T_ok d_MD_walk_502 f_MD_408 (mi_s k148.1 sf_170) eh147.2.1 ?_
                refine A_bipush d_MD_walk_505 rfl ?_
                refine A_icmp_gt (tgt := 520) d_MD_walk_507 (by decide) (fun c154 => ?_) (fun c => False.elim (by omega))
                refine A_iconst d_MD_walk_520 rfl ?_
                refine A_goto (tgt := 525) d_MD_walk_521 (by decide) ?_
                refine A_istore (L' := [some (av_R (some 170)), some (av_I a1), some (av_I (x12 + 4)), some (av_I (i37 + 1)), some (av_I 1), some (av_I x106), none]) d_MD_walk_525 (Nat.le_of_ble_eq_true rfl) rfl ?_
                refine A_goto (tgt := 79) d_MD_walk_527 (by decide) ?_
                refine A_free (L' := [some (av_R (some 170)), some (av_I a1), some (av_I (x12 + 4)), some (av_I (i37 + 1)), some (av_I 1), none, none]) (And.intro rfl (And.intro rfl (And.intro rfl (And.intro rfl (And.intro rfl trivial))))) ?_
                exact ih79 (i37 + 1) 1 h147 (by omega) (by omega) (by omega) (by omega) ⟨(by rw [((eh147.1 _ _ (fun _ => by decide)).trans ((eh142.1 _ _ (fun _ => by decide)).trans esd43.symm)), eh147.2.1]; exact yB), (by have qq0 := ((eh147.1 _ _ (fun _ => by decide)).trans eh142.2.1); have qq1 := ((eh147.1 _ _ (fun _ => by decide)).trans ((eh142.1 _ _ (fun _ => by decide)).trans esd43.symm)); have qq2 := eh147.2.1; exact ⟨by omega, by omega⟩)⟩ k148 (by have qq0 := ((eh147.1 _ _ (fun _ => by decide)).trans eh142.2.1); omega)
              · refine A_aload_n 0 d_MD_walk_195 rfl rfl ?_
                refine A_getAv (z := some 199) T_ok d_MD_walk_196 f_MD_100 (mi_s k148.1 sf_170) (mi_r k148.1 rfm_41) ?_
                refine A_bipush d_MD_walk_199 rfl ?_
                refine A_iload_n 2 d_MD_walk_201 rfl rfl ?_
                refine A_imulv (z := (102 * x12 + 408)) d_MD_walk_202 (w32_to (by omega) (by unfold i32; omega)) ?_
                refine A_pc (pc' := 203) rfl ?_
                refine A_aload_n 0 d_MD_walk_203 rfl rfl ?_
                refine A_getIv (z := (sd44 + 1)) T_ok d_MD_walk_204 f_MD_408 (mi_s k148.1 sf_170) eh147.2.1 ?_
                refine A_iaddv (z := (102 * x12 + sd44 + 409)) d_MD_walk_207 (w32_to (by omega) (by unfold i32; omega)) ?_
                refine A_aload_n 0 d_MD_walk_208 rfl rfl ?_
                refine A_getLv (z := sl46) T_ok d_MD_walk_209 f_MD_414 (mi_s k148.1 sf_170) ((congrFun (congrFun eh147.2.2 _) _).trans ((congrFun (congrFun eh142.2.2 _) _).trans esl46.symm)) ?_
                refine A_lastorek (KR := kM (pm [11, 12, 65, 66, 70, 71, 72, 73, 74, 75, 76, 77, 78] [185, 186, 187, 188, 189, 190, 191, 192, 193, 194, 195, 196, 197, 198, 199, 200, 217, 218, 219, 220]) h) d_MD_walk_212 (mi_s k148.1 sf_199) (by omega) (by omega) (kM_l k148 (by decide) rfl (mq_199 _) (by omega) (by omega)) (fun h158 k159 eh158 => ?_)
                refine A_pc (pc' := 213) rfl ?_
                refine A_aload_n 0 d_MD_walk_213 rfl rfl ?_
                refine A_getAv (z := some 200) T_ok d_MD_walk_214 f_MD_103 (mi_s k159.1 sf_170) (mi_r k159.1 rfm_42) ?_
                refine A_bipush d_MD_walk_217 rfl ?_
                refine A_iload_n 2 d_MD_walk_219 rfl rfl ?_
                refine A_imulv (z := (102 * x12 + 408)) d_MD_walk_220 (w32_to (by omega) (by unfold i32; omega)) ?_
                refine A_aload_n 0 d_MD_walk_221 rfl rfl ?_
                refine A_pc (pc' := 222) rfl ?_
                refine A_getIv (z := (sd44 + 1)) T_ok d_MD_walk_222 f_MD_408 (mi_s k159.1 sf_170) ((congrFun (congrFun eh158.1 _) _).trans eh147.2.1) ?_
                refine A_iaddv (z := (102 * x12 + sd44 + 409)) d_MD_walk_225 (w32_to (by omega) (by unfold i32; omega)) ?_
                refine A_aload_n 0 d_MD_walk_226 rfl rfl ?_
                refine A_getLv (z := sl47) T_ok d_MD_walk_227 f_MD_417 (mi_s k159.1 sf_170) ((eh158.2.1 _ _ (fun q => absurd q (by decide))).trans ((congrFun (congrFun eh147.2.2 _) _).trans ((congrFun (congrFun eh142.2.2 _) _).trans esl47.symm))) ?_
                refine A_lastorek (KR := kM (pm [11, 12, 65, 66, 70, 71, 72, 73, 74, 75, 76, 77, 78] [185, 186, 187, 188, 189, 190, 191, 192, 193, 194, 195, 196, 197, 198, 199, 200, 217, 218, 219, 220]) h) d_MD_walk_230 (mi_s k159.1 sf_200) (by omega) (by omega) (kM_l k159 (by decide) rfl (mq_200 _) (by omega) (by omega)) (fun h163 k164 eh163 => ?_)
                have yp : h.2.1 201 (i37).toNat = 1 := (by omega)
                have yB : WB h stk (x12 + 4) (i37 + 1) sd43 (sd44 + 1) h163 := WB_l hVQ hB (by omega) yp ⟨(((congrFun (congrFun eh163.1 _) _).trans ((congrFun (congrFun eh158.1 _) _).trans ((eh147.1 _ _ (fun _ => by decide)).trans ((eh142.1 _ _ (fun _ => by decide)).trans esd41.symm)))).trans esd41.symm.symm), (funext (fun k => ((congrFun (congrFun eh163.1 217) k).trans ((congrFun (congrFun eh158.1 217) k).trans ((eh147.1 217 k (fun q => absurd q (by decide))).trans (eh142.1 217 k (fun q => absurd q (by decide)))))))), (funext (fun k => ((congrFun (congrFun eh163.1 218) k).trans ((congrFun (congrFun eh158.1 218) k).trans ((eh147.1 218 k (fun q => absurd q (by decide))).trans (eh142.1 218 k (fun q => absurd q (by decide)))))))), (funext (fun k => ((congrFun (congrFun eh163.1 219) k).trans ((congrFun (congrFun eh158.1 219) k).trans ((eh147.1 219 k (fun q => absurd q (by decide))).trans (eh142.1 219 k (fun q => absurd q (by decide)))))))), (((eh163.2.1 _ _ (fun q => absurd q (by decide))).trans ((eh158.2.1 _ _ (fun q => absurd q (by decide))).trans ((congrFun (congrFun eh147.2.2 _) _).trans ((congrFun (congrFun eh142.2.2 _) _).trans esl48.symm)))).trans esl48.symm.symm), (((eh163.2.1 _ _ (fun q => absurd q (by decide))).trans ((eh158.2.1 _ _ (fun q => absurd q (by decide))).trans ((congrFun (congrFun eh147.2.2 _) _).trans ((congrFun (congrFun eh142.2.2 _) _).trans esl49.symm)))).trans esl49.symm.symm)⟩ (i0 := ((102 * x12 + sd44 + 409)).toNat) (by omega) (by omega) (((congrFun (congrFun eh163.1 _) _).trans ((congrFun (congrFun eh158.1 _) _).trans ((eh147.1 _ _ (fun _ => by decide)).trans ((eh142.1 _ _ (fun _ => by decide)).trans esd45.symm)))).trans esd45.symm.symm) (((eh163.2.1 _ _ (fun q => absurd q (by decide))).trans ((eh158.2.1 _ _ (fun q => absurd q (by decide))).trans ((congrFun (congrFun eh147.2.2 _) _).trans ((congrFun (congrFun eh142.2.2 _) _).trans esl46.symm)))).trans esl46.symm.symm) (((eh163.2.1 _ _ (fun q => absurd q (by decide))).trans ((eh158.2.1 _ _ (fun q => absurd q (by decide))).trans ((congrFun (congrFun eh147.2.2 _) _).trans ((congrFun (congrFun eh142.2.2 _) _).trans esl47.symm)))).trans esl47.symm.symm) (by intro a ha; simp only [List.mem_cons, List.not_mem_nil, or_false] at ha; rcases ha with rfl | rfl | rfl | rfl ; exact (funext (fun k => ((eh163.2.1 187 k (fun q => absurd q (by decide))).trans ((eh158.2.1 187 k (fun q => absurd q (by decide))).trans ((congrFun (congrFun eh147.2.2 187) k).trans (congrFun (congrFun eh142.2.2 187) k)))))) ; exact (funext (fun k => ((eh163.2.1 188 k (fun q => absurd q (by decide))).trans ((eh158.2.1 188 k (fun q => absurd q (by decide))).trans ((congrFun (congrFun eh147.2.2 188) k).trans (congrFun (congrFun eh142.2.2 188) k)))))) ; exact (funext (fun k => ((eh163.2.1 189 k (fun q => absurd q (by decide))).trans ((eh158.2.1 189 k (fun q => absurd q (by decide))).trans ((congrFun (congrFun eh147.2.2 189) k).trans (congrFun (congrFun eh142.2.2 189) k)))))) ; exact (funext (fun k => ((eh163.2.1 190 k (fun q => absurd q (by decide))).trans ((eh158.2.1 190 k (fun q => absurd q (by decide))).trans ((congrFun (congrFun eh147.2.2 190) k).trans (congrFun (congrFun eh142.2.2 190) k))))))) (by intro a ha; simp only [List.mem_cons, List.not_mem_nil, or_false] at ha; rcases ha with rfl | rfl | rfl ; exact (funext (fun k => ((congrFun (congrFun eh163.1 185) k).trans ((congrFun (congrFun eh158.1 185) k).trans ((eh147.1 185 k (fun q => absurd q (by decide))).trans (eh142.1 185 k (fun q => absurd q (by decide)))))))) ; exact (funext (fun k => ((congrFun (congrFun eh163.1 186) k).trans ((congrFun (congrFun eh158.1 186) k).trans ((eh147.1 186 k (fun q => absurd q (by decide))).trans (eh142.1 186 k (fun q => absurd q (by decide)))))))) ; exact (funext (fun k => ((congrFun (congrFun eh163.1 196) k).trans ((congrFun (congrFun eh158.1 196) k).trans ((eh147.1 196 k (fun q => absurd q (by decide))).trans (eh142.1 196 k (fun q => absurd q (by decide))))))))) (fun k hk => ((eh163.2.1 199 k (fun q => absurd q (by decide))).trans ((eh158.2.1 199 k (fun _ => hk)).trans ((congrFun (congrFun eh147.2.2 199) k).trans (congrFun (congrFun eh142.2.2 199) k))))) (fun k hk => ((eh163.2.1 200 k (fun _ => hk)).trans ((eh158.2.1 200 k (fun q => absurd q (by decide))).trans ((congrFun (congrFun eh147.2.2 200) k).trans (congrFun (congrFun eh142.2.2 200) k))))) (((eh163.2.1 _ _ (fun q => absurd q (by decide))).trans eh158.2.2).trans esl46) (eh163.2.2.trans esl47)
                have yk := WQ_k yB.1 hp0
                refine A_iincv (z := (i37 + 1)) (L' := [some (av_R (some 170)), some (av_I a1), some (av_I (x12 + 4)), some (av_I (i37 + 1)), some (av_I i38), some (av_I x106), none]) d_MD_walk_231 rfl (w32_to (by omega) (by unfold i32; omega)) rfl ?_
                refine A_pc (pc' := 234) rfl ?_
                refine A_goto (tgt := 491) d_MD_walk_234 (by decide) ?_
                refine A_aload_n 0 d_MD_walk_491 rfl rfl ?_
                refine A_getIv (z := sd43) T_ok d_MD_walk_492 f_MD_405 (mi_s k164.1 sf_170) ((congrFun (congrFun eh163.1 _) _).trans ((congrFun (congrFun eh158.1 _) _).trans ((eh147.1 _ _ (fun _ => by decide)).trans ((eh142.1 _ _ (fun _ => by decide)).trans esd43.symm)))) ?_
                refine A_sipush d_MD_walk_495 rfl ?_
                refine A_icmp_gt (tgt := 520) d_MD_walk_498 (by decide) (fun c => False.elim (by omega)) (fun c166 => ?_)
                refine A_aload_n 0 d_MD_walk_501 rfl rfl ?_
                refine A_getIv (z := (sd44 + 1)) T_ok d_MD_walk_502 f_MD_408 (mi_s k164.1 sf_170) ((congrFun (congrFun eh163.1 _) _).trans ((congrFun (congrFun eh158.1 _) _).trans eh147.2.1)) ?_
                refine A_bipush d_MD_walk_505 rfl ?_
                refine A_icmp_gt (tgt := 520) d_MD_walk_507 (by decide) (fun c => False.elim (by omega)) (fun c168 => ?_)
                refine A_aload_n 0 d_MD_walk_510 rfl rfl ?_
                refine A_getIv (z := (sd42 + 1)) T_ok d_MD_walk_511 f_MD_402 (mi_s k164.1 sf_170) ((congrFun (congrFun eh163.1 _) _).trans ((congrFun (congrFun eh158.1 _) _).trans ((eh147.1 _ _ (fun _ => by decide)).trans eh142.2.1))) ?_
                refine A_sipush d_MD_walk_514 rfl ?_
                refine A_icmp_le (tgt := 524) d_MD_walk_517 (by decide) (fun c170 => ?_) (fun c170 => ?_)
                · refine A_iconst d_MD_walk_524 rfl ?_
                  refine A_istore (L' := [some (av_R (some 170)), some (av_I a1), some (av_I (x12 + 4)), some (av_I (i37 + 1)), some (av_I 0), some (av_I x106), none]) d_MD_walk_525 (Nat.le_of_ble_eq_true rfl) rfl ?_
                  refine A_goto (tgt := 79) d_MD_walk_527 (by decide) ?_
                  refine A_free (L' := [some (av_R (some 170)), some (av_I a1), some (av_I (x12 + 4)), some (av_I (i37 + 1)), some (av_I 0), none, none]) (And.intro rfl (And.intro rfl (And.intro rfl (And.intro rfl (And.intro rfl trivial))))) ?_
                  exact ih79 (i37 + 1) 0 h163 (by omega) (by omega) (by omega) (by omega) ⟨(by rw [((congrFun (congrFun eh163.1 _) _).trans ((congrFun (congrFun eh158.1 _) _).trans ((eh147.1 _ _ (fun _ => by decide)).trans ((eh142.1 _ _ (fun _ => by decide)).trans esd43.symm)))), ((congrFun (congrFun eh163.1 _) _).trans ((congrFun (congrFun eh158.1 _) _).trans eh147.2.1))]; exact yB), (by have qq0 := ((congrFun (congrFun eh163.1 _) _).trans ((congrFun (congrFun eh158.1 _) _).trans ((eh147.1 _ _ (fun _ => by decide)).trans eh142.2.1))); have qq1 := ((congrFun (congrFun eh163.1 _) _).trans ((congrFun (congrFun eh158.1 _) _).trans ((eh147.1 _ _ (fun _ => by decide)).trans ((eh142.1 _ _ (fun _ => by decide)).trans esd43.symm)))); have qq2 := ((congrFun (congrFun eh163.1 _) _).trans ((congrFun (congrFun eh158.1 _) _).trans eh147.2.1)); exact ⟨by omega, by omega⟩)⟩ k164 (by have qq0 := ((congrFun (congrFun eh163.1 _) _).trans ((congrFun (congrFun eh158.1 _) _).trans ((eh147.1 _ _ (fun _ => by decide)).trans eh142.2.1))); omega)
                · refine A_iconst d_MD_walk_520 rfl ?_
                  refine A_goto (tgt := 525) d_MD_walk_521 (by decide) ?_
                  refine A_istore (L' := [some (av_R (some 170)), some (av_I a1), some (av_I (x12 + 4)), some (av_I (i37 + 1)), some (av_I 1), some (av_I x106), none]) d_MD_walk_525 (Nat.le_of_ble_eq_true rfl) rfl ?_
                  refine A_goto (tgt := 79) d_MD_walk_527 (by decide) ?_
                  refine A_free (L' := [some (av_R (some 170)), some (av_I a1), some (av_I (x12 + 4)), some (av_I (i37 + 1)), some (av_I 1), none, none]) (And.intro rfl (And.intro rfl (And.intro rfl (And.intro rfl (And.intro rfl trivial))))) ?_
                  exact ih79 (i37 + 1) 1 h163 (by omega) (by omega) (by omega) (by omega) ⟨(by rw [((congrFun (congrFun eh163.1 _) _).trans ((congrFun (congrFun eh158.1 _) _).trans ((eh147.1 _ _ (fun _ => by decide)).trans ((eh142.1 _ _ (fun _ => by decide)).trans esd43.symm)))), ((congrFun (congrFun eh163.1 _) _).trans ((congrFun (congrFun eh158.1 _) _).trans eh147.2.1))]; exact yB), (by have qq0 := ((congrFun (congrFun eh163.1 _) _).trans ((congrFun (congrFun eh158.1 _) _).trans ((eh147.1 _ _ (fun _ => by decide)).trans eh142.2.1))); have qq1 := ((congrFun (congrFun eh163.1 _) _).trans ((congrFun (congrFun eh158.1 _) _).trans ((eh147.1 _ _ (fun _ => by decide)).trans ((eh142.1 _ _ (fun _ => by decide)).trans esd43.symm)))); have qq2 := ((congrFun (congrFun eh163.1 _) _).trans ((congrFun (congrFun eh158.1 _) _).trans eh147.2.1)); exact ⟨by omega, by omega⟩)⟩ k164 (by have qq0 := ((congrFun (congrFun eh163.1 _) _).trans ((congrFun (congrFun eh158.1 _) _).trans ((eh147.1 _ _ (fun _ => by decide)).trans eh142.2.1))); omega)
            · refine A_iload d_MD_walk_111 rfl ?_
              refine A_iconst d_MD_walk_113 rfl ?_
              refine A_icmp_eq (tgt := 123) d_MD_walk_114 (by decide) (fun c171 => ?_) (fun c171 => ?_)
              · refine A_aload_n 0 d_MD_walk_123 rfl rfl ?_
                refine A_dupR d_MD_walk_124 ?_
                refine A_getIv (z := sd42) T_ok d_MD_walk_125 f_MD_402 (mi_s k40.1 sf_170) esd42.symm ?_
                refine A_iconst d_MD_walk_128 rfl ?_
                refine A_iaddv (z := (sd42 + 1)) d_MD_walk_129 (w32_to (by omega) (by unfold i32; omega)) ?_
                refine A_pc (pc' := 130) rfl ?_
                refine A_putIk (KR := kM (pm [11, 12, 65, 66, 70, 71, 72, 73, 74, 75, 76, 77, 78] [185, 186, 187, 188, 189, 190, 191, 192, 193, 194, 195, 196, 197, 198, 199, 200, 217, 218, 219, 220]) h) T_ok d_MD_walk_130 f_MD_402 (mi_s k40.1 sf_170) fin_f (kM_i k40 (by decide) (by decide) mr_170_71 (by omega) (by omega)) (fun h173 k174 eh173 => ?_)
                refine A_iload d_MD_walk_133 rfl ?_
                refine A_if_ne (tgt := 170) d_MD_walk_135 (by decide) (fun c175 => ?_) (fun c => False.elim (by omega))
                refine A_iload d_MD_walk_170 rfl ?_
                refine A_iconst d_MD_walk_172 rfl ?_
                refine A_icmp_ne (tgt := 237) d_MD_walk_173 (by decide) (fun c176 => ?_) (fun c => False.elim (by omega))
                refine A_iload d_MD_walk_237 rfl ?_
                refine A_iconst d_MD_walk_239 rfl ?_
                refine A_icmp_ne (tgt := 325) d_MD_walk_240 (by decide) (fun c => False.elim (by omega)) (fun c177 => ?_)
                refine A_aload_n 0 d_MD_walk_243 rfl rfl ?_
                refine A_getAv (z := some 217) T_ok d_MD_walk_244 f_MD_154 (mi_s k174.1 sf_170) (mi_r k174.1 rfm_67) ?_
                refine A_aload_n 0 d_MD_walk_247 rfl rfl ?_
                refine A_getIv (z := sd41) T_ok d_MD_walk_248 f_MD_399 (mi_s k174.1 sf_170) ((eh173.1 _ _ (fun _ => by decide)).trans esd41.symm) ?_
                refine A_iload_n 3 d_MD_walk_251 rfl rfl ?_
                refine A_pc (pc' := 252) rfl ?_
                refine A_iastorek (KR := kM (pm [11, 12, 65, 66, 70, 71, 72, 73, 74, 75, 76, 77, 78] [185, 186, 187, 188, 189, 190, 191, 192, 193, 194, 195, 196, 197, 198, 199, 200, 217, 218, 219, 220]) h) d_MD_walk_252 (mi_s k174.1 sf_217) (by omega) (by omega) (kM_i k174 (by decide) rfl (mr_217 _) (by omega) (by omega)) (fun h180 k181 eh180 => ?_)
                refine A_aload_n 0 d_MD_walk_253 rfl rfl ?_
                refine A_getAv (z := some 220) T_ok d_MD_walk_254 f_MD_163 (mi_s k181.1 sf_170) (mi_r k181.1 rfm_79) ?_
                refine A_aload_n 0 d_MD_walk_257 rfl rfl ?_
                refine A_getIv (z := sd41) T_ok d_MD_walk_258 f_MD_399 (mi_s k181.1 sf_170) ((eh180.1 _ _ (fun q => absurd q (by decide))).trans ((eh173.1 _ _ (fun _ => by decide)).trans esd41.symm)) ?_
                refine A_iconst d_MD_walk_261 rfl ?_
                refine A_pc (pc' := 262) rfl ?_
                refine A_zastorek (KR := kM (pm [11, 12, 65, 66, 70, 71, 72, 73, 74, 75, 76, 77, 78] [185, 186, 187, 188, 189, 190, 191, 192, 193, 194, 195, 196, 197, 198, 199, 200, 217, 218, 219, 220]) h) d_MD_walk_262 (mi_s k181.1 sf_220) (by omega) (by omega) (by omega) (kM_i k181 (by decide) rfl (mr_220 _) (by omega) (by omega)) (fun h184 k185 eh184 => ?_)
                refine A_aload_n 0 d_MD_walk_263 rfl rfl ?_
                refine A_getAv (z := some 218) T_ok d_MD_walk_264 f_MD_157 (mi_s k185.1 sf_170) (mi_r k185.1 rfm_68) ?_
                refine A_aload_n 0 d_MD_walk_267 rfl rfl ?_
                refine A_getIv (z := sd41) T_ok d_MD_walk_268 f_MD_399 (mi_s k185.1 sf_170) ((eh184.1 _ _ (fun q => absurd q (by decide))).trans ((eh180.1 _ _ (fun q => absurd q (by decide))).trans ((eh173.1 _ _ (fun _ => by decide)).trans esd41.symm))) ?_
                refine A_iconst d_MD_walk_271 rfl ?_
                refine A_pc (pc' := 272) rfl ?_
                refine A_iastorek (KR := kM (pm [11, 12, 65, 66, 70, 71, 72, 73, 74, 75, 76, 77, 78] [185, 186, 187, 188, 189, 190, 191, 192, 193, 194, 195, 196, 197, 198, 199, 200, 217, 218, 219, 220]) h) d_MD_walk_272 (mi_s k185.1 sf_218) (by omega) (by omega) (kM_i k185 (by decide) rfl (mr_218 _) (by omega) (by omega)) (fun h188 k189 eh188 => ?_)
                refine A_aload_n 0 d_MD_walk_273 rfl rfl ?_
                refine A_getAv (z := some 219) T_ok d_MD_walk_274 f_MD_160 (mi_s k189.1 sf_170) (mi_r k189.1 rfm_69) ?_
                refine A_aload_n 0 d_MD_walk_277 rfl rfl ?_
                refine A_getIv (z := sd41) T_ok d_MD_walk_278 f_MD_399 (mi_s k189.1 sf_170) ((eh188.1 _ _ (fun q => absurd q (by decide))).trans ((eh184.1 _ _ (fun q => absurd q (by decide))).trans ((eh180.1 _ _ (fun q => absurd q (by decide))).trans ((eh173.1 _ _ (fun _ => by decide)).trans esd41.symm)))) ?_
                refine A_aload_n 0 d_MD_walk_281 rfl rfl ?_
                refine A_pc (pc' := 282) rfl ?_
                refine A_iload_n 3 d_MD_walk_282 rfl rfl ?_
                have zf193 := ((eh188.1 _ _ (fun q => absurd q (by decide))).trans ((eh184.1 _ _ (fun q => absurd q (by decide))).trans ((eh180.1 _ _ (fun q => absurd q (by decide))).trans ((eh173.1 _ _ (fun _ => by decide)).trans ((k40.2.2.1 _ _ rfl).trans esd1.symm)))))
                have zf194 := ((eh188.1 _ _ (fun q => absurd q (by decide))).trans ((eh184.1 _ _ (fun q => absurd q (by decide))).trans ((eh180.1 _ _ (fun q => absurd q (by decide))).trans ((eh173.1 _ _ (fun _ => by decide)).trans esd41.symm))))
                have zf195 := ((eh188.1 _ _ (fun q => absurd q (by decide))).trans ((eh184.1 _ _ (fun q => absurd q (by decide))).trans ((eh180.1 _ _ (fun q => absurd q (by decide))).trans eh173.2.1)))
                have zf196 := ((eh188.1 _ _ (fun q => absurd q (by decide))).trans ((eh184.1 _ _ (fun q => absurd q (by decide))).trans ((eh180.1 _ _ (fun q => absurd q (by decide))).trans ((eh173.1 _ _ (fun _ => by decide)).trans esd43.symm))))
                have zf197 := ((eh188.1 _ _ (fun q => absurd q (by decide))).trans ((eh184.1 _ _ (fun q => absurd q (by decide))).trans ((eh180.1 _ _ (fun q => absurd q (by decide))).trans ((eh173.1 _ _ (fun _ => by decide)).trans esd44.symm))))
                have zf198 := ((eh188.1 _ _ (fun q => absurd q (by decide))).trans ((eh184.1 _ _ (fun q => absurd q (by decide))).trans ((eh180.1 _ _ (fun q => absurd q (by decide))).trans ((eh173.1 _ _ (fun _ => by decide)).trans esd45.symm))))
                refine A_callV1 m_MD_colons T_ok d_MD_walk_283 l_MD_430 k_MD_colons (mi_s k189.1 sf_170) rfl (by decide +kernel) (by decide) (Nat.le_of_ble_eq_true rfl) (s_MD_colons k189.1 (by omega) (by omega)) (fun r h192 hq => ?_)
                obtain ⟨x200, rfl, ⟨_, _⟩, xx200, rfl⟩ := hq
                have yc : x200 = h.2.1 214 (i37).toNat := xx200.trans (k189.2.2.1 214 _ rfl)
                refine A_if_ne (tgt := 293) d_MD_walk_286 (by decide) (fun c201 => ?_) (fun c201 => ?_)
                · refine A_aload_n 0 d_MD_walk_293 rfl rfl ?_
                  refine A_iload_n 3 d_MD_walk_294 rfl rfl ?_
                  have zf203 := ((eh188.1 _ _ (fun q => absurd q (by decide))).trans ((eh184.1 _ _ (fun q => absurd q (by decide))).trans ((eh180.1 _ _ (fun q => absurd q (by decide))).trans ((eh173.1 _ _ (fun _ => by decide)).trans ((k40.2.2.1 _ _ rfl).trans esd1.symm)))))
                  have zf204 := ((eh188.1 _ _ (fun q => absurd q (by decide))).trans ((eh184.1 _ _ (fun q => absurd q (by decide))).trans ((eh180.1 _ _ (fun q => absurd q (by decide))).trans ((eh173.1 _ _ (fun _ => by decide)).trans esd41.symm))))
                  have zf205 := ((eh188.1 _ _ (fun q => absurd q (by decide))).trans ((eh184.1 _ _ (fun q => absurd q (by decide))).trans ((eh180.1 _ _ (fun q => absurd q (by decide))).trans eh173.2.1)))
                  have zf206 := ((eh188.1 _ _ (fun q => absurd q (by decide))).trans ((eh184.1 _ _ (fun q => absurd q (by decide))).trans ((eh180.1 _ _ (fun q => absurd q (by decide))).trans ((eh173.1 _ _ (fun _ => by decide)).trans esd43.symm))))
                  have zf207 := ((eh188.1 _ _ (fun q => absurd q (by decide))).trans ((eh184.1 _ _ (fun q => absurd q (by decide))).trans ((eh180.1 _ _ (fun q => absurd q (by decide))).trans ((eh173.1 _ _ (fun _ => by decide)).trans esd44.symm))))
                  have zf208 := ((eh188.1 _ _ (fun q => absurd q (by decide))).trans ((eh184.1 _ _ (fun q => absurd q (by decide))).trans ((eh180.1 _ _ (fun q => absurd q (by decide))).trans ((eh173.1 _ _ (fun _ => by decide)).trans esd45.symm))))
                  refine A_callV1 m_MD_colons T_ok d_MD_walk_295 l_MD_430 k_MD_colons (mi_s k189.1 sf_170) rfl (by decide +kernel) (by decide) (Nat.le_of_ble_eq_true rfl) (s_MD_colons k189.1 (by omega) (by omega)) (fun r h202 hq => ?_)
                  obtain ⟨x210, rfl, ⟨_, _⟩, xx210, rfl⟩ := hq
                  have yc2 : x210 = h.2.1 214 (i37).toNat := xx210.trans (k189.2.2.1 214 _ rfl)
                  refine A_iastorek (KR := kM (pm [11, 12, 65, 66, 70, 71, 72, 73, 74, 75, 76, 77, 78] [185, 186, 187, 188, 189, 190, 191, 192, 193, 194, 195, 196, 197, 198, 199, 200, 217, 218, 219, 220]) h) d_MD_walk_298 (mi_s k189.1 sf_219) (by omega) (by omega) (kM_i k189 (by decide) rfl (mr_219 _) (by omega) (by omega)) (fun h211 k212 eh211 => ?_)
                  refine A_aload_n 0 d_MD_walk_299 rfl rfl ?_
                  refine A_dupR d_MD_walk_300 ?_
                  refine A_getIv (z := sd41) T_ok d_MD_walk_301 f_MD_399 (mi_s k212.1 sf_170) ((eh211.1 _ _ (fun q => absurd q (by decide))).trans ((eh188.1 _ _ (fun q => absurd q (by decide))).trans ((eh184.1 _ _ (fun q => absurd q (by decide))).trans ((eh180.1 _ _ (fun q => absurd q (by decide))).trans ((eh173.1 _ _ (fun _ => by decide)).trans esd41.symm))))) ?_
                  refine A_iconst d_MD_walk_304 rfl ?_
                  refine A_pc (pc' := 305) rfl ?_
                  refine A_iaddv (z := (sd41 + 1)) d_MD_walk_305 (w32_to (by omega) (by unfold i32; omega)) ?_
                  refine A_putIk (KR := kM (pm [11, 12, 65, 66, 70, 71, 72, 73, 74, 75, 76, 77, 78] [185, 186, 187, 188, 189, 190, 191, 192, 193, 194, 195, 196, 197, 198, 199, 200, 217, 218, 219, 220]) h) T_ok d_MD_walk_306 f_MD_399 (mi_s k212.1 sf_170) fin_f (kM_i k212 (by decide) (by decide) mr_170_70 (by omega) (by omega)) (fun h214 k215 eh214 => ?_)
                  refine A_aload_n 0 d_MD_walk_309 rfl rfl ?_
                  refine A_dupR d_MD_walk_310 ?_
                  refine A_getIv (z := (sd42 + 1)) T_ok d_MD_walk_311 f_MD_402 (mi_s k215.1 sf_170) ((eh214.1 _ _ (fun _ => by decide)).trans ((eh211.1 _ _ (fun q => absurd q (by decide))).trans ((eh188.1 _ _ (fun q => absurd q (by decide))).trans ((eh184.1 _ _ (fun q => absurd q (by decide))).trans ((eh180.1 _ _ (fun q => absurd q (by decide))).trans eh173.2.1))))) ?_
                  refine A_iconst d_MD_walk_314 rfl ?_
                  refine A_pc (pc' := 315) rfl ?_
                  refine A_iaddv (z := (sd42 + 2)) d_MD_walk_315 (w32_to (by omega) (by unfold i32; omega)) ?_
                  refine A_putIk (KR := kM (pm [11, 12, 65, 66, 70, 71, 72, 73, 74, 75, 76, 77, 78] [185, 186, 187, 188, 189, 190, 191, 192, 193, 194, 195, 196, 197, 198, 199, 200, 217, 218, 219, 220]) h) T_ok d_MD_walk_316 f_MD_402 (mi_s k215.1 sf_170) fin_f (kM_i k215 (by decide) (by decide) mr_170_71 (by omega) (by omega)) (fun h217 k218 eh217 => ?_)
                  have yp : h.2.1 201 (i37).toNat = 2 := (by omega)
                  have yB : WB h stk (x12 + 4) (i37 + 1) sd43 sd44 h217 := WB_2 hVQ hB (by omega) yp ⟨(((eh217.1 _ _ (fun _ => by decide)).trans ((eh214.1 _ _ (fun _ => by decide)).trans ((eh211.1 _ _ (fun q => absurd q (by decide))).trans ((eh188.1 _ _ (fun q => absurd q (by decide))).trans ((eh184.1 _ _ (fun q => absurd q (by decide))).trans ((eh180.1 _ _ (fun q => absurd q (by decide))).trans ((eh173.1 _ _ (fun _ => by decide)).trans esd45.symm))))))).trans esd45.symm.symm), (((congrFun (congrFun eh217.2.2 _) _).trans ((congrFun (congrFun eh214.2.2 _) _).trans ((congrFun (congrFun eh211.2.2 _) _).trans ((congrFun (congrFun eh188.2.2 _) _).trans ((congrFun (congrFun eh184.2.2 _) _).trans ((congrFun (congrFun eh180.2.2 _) _).trans ((congrFun (congrFun eh173.2.2 _) _).trans esl46.symm))))))).trans esl46.symm.symm), (((congrFun (congrFun eh217.2.2 _) _).trans ((congrFun (congrFun eh214.2.2 _) _).trans ((congrFun (congrFun eh211.2.2 _) _).trans ((congrFun (congrFun eh188.2.2 _) _).trans ((congrFun (congrFun eh184.2.2 _) _).trans ((congrFun (congrFun eh180.2.2 _) _).trans ((congrFun (congrFun eh173.2.2 _) _).trans esl47.symm))))))).trans esl47.symm.symm), (by intro a ha; simp only [List.mem_cons, List.not_mem_nil, or_false] at ha; rcases ha with rfl | rfl | rfl | rfl | rfl | rfl ; exact (funext (fun k => ((congrFun (congrFun eh217.2.2 187) k).trans ((congrFun (congrFun eh214.2.2 187) k).trans ((congrFun (congrFun eh211.2.2 187) k).trans ((congrFun (congrFun eh188.2.2 187) k).trans ((congrFun (congrFun eh184.2.2 187) k).trans ((congrFun (congrFun eh180.2.2 187) k).trans (congrFun (congrFun eh173.2.2 187) k))))))))) ; exact (funext (fun k => ((congrFun (congrFun eh217.2.2 188) k).trans ((congrFun (congrFun eh214.2.2 188) k).trans ((congrFun (congrFun eh211.2.2 188) k).trans ((congrFun (congrFun eh188.2.2 188) k).trans ((congrFun (congrFun eh184.2.2 188) k).trans ((congrFun (congrFun eh180.2.2 188) k).trans (congrFun (congrFun eh173.2.2 188) k))))))))) ; exact (funext (fun k => ((congrFun (congrFun eh217.2.2 189) k).trans ((congrFun (congrFun eh214.2.2 189) k).trans ((congrFun (congrFun eh211.2.2 189) k).trans ((congrFun (congrFun eh188.2.2 189) k).trans ((congrFun (congrFun eh184.2.2 189) k).trans ((congrFun (congrFun eh180.2.2 189) k).trans (congrFun (congrFun eh173.2.2 189) k))))))))) ; exact (funext (fun k => ((congrFun (congrFun eh217.2.2 190) k).trans ((congrFun (congrFun eh214.2.2 190) k).trans ((congrFun (congrFun eh211.2.2 190) k).trans ((congrFun (congrFun eh188.2.2 190) k).trans ((congrFun (congrFun eh184.2.2 190) k).trans ((congrFun (congrFun eh180.2.2 190) k).trans (congrFun (congrFun eh173.2.2 190) k))))))))) ; exact (funext (fun k => ((congrFun (congrFun eh217.2.2 199) k).trans ((congrFun (congrFun eh214.2.2 199) k).trans ((congrFun (congrFun eh211.2.2 199) k).trans ((congrFun (congrFun eh188.2.2 199) k).trans ((congrFun (congrFun eh184.2.2 199) k).trans ((congrFun (congrFun eh180.2.2 199) k).trans (congrFun (congrFun eh173.2.2 199) k))))))))) ; exact (funext (fun k => ((congrFun (congrFun eh217.2.2 200) k).trans ((congrFun (congrFun eh214.2.2 200) k).trans ((congrFun (congrFun eh211.2.2 200) k).trans ((congrFun (congrFun eh188.2.2 200) k).trans ((congrFun (congrFun eh184.2.2 200) k).trans ((congrFun (congrFun eh180.2.2 200) k).trans (congrFun (congrFun eh173.2.2 200) k)))))))))), (by intro a ha; simp only [List.mem_cons, List.not_mem_nil, or_false] at ha; rcases ha with rfl | rfl | rfl ; exact (funext (fun k => ((eh217.1 185 k (fun q => absurd q (by decide))).trans ((eh214.1 185 k (fun q => absurd q (by decide))).trans ((eh211.1 185 k (fun q => absurd q (by decide))).trans ((eh188.1 185 k (fun q => absurd q (by decide))).trans ((eh184.1 185 k (fun q => absurd q (by decide))).trans ((eh180.1 185 k (fun q => absurd q (by decide))).trans (eh173.1 185 k (fun q => absurd q (by decide))))))))))) ; exact (funext (fun k => ((eh217.1 186 k (fun q => absurd q (by decide))).trans ((eh214.1 186 k (fun q => absurd q (by decide))).trans ((eh211.1 186 k (fun q => absurd q (by decide))).trans ((eh188.1 186 k (fun q => absurd q (by decide))).trans ((eh184.1 186 k (fun q => absurd q (by decide))).trans ((eh180.1 186 k (fun q => absurd q (by decide))).trans (eh173.1 186 k (fun q => absurd q (by decide))))))))))) ; exact (funext (fun k => ((eh217.1 196 k (fun q => absurd q (by decide))).trans ((eh214.1 196 k (fun q => absurd q (by decide))).trans ((eh211.1 196 k (fun q => absurd q (by decide))).trans ((eh188.1 196 k (fun q => absurd q (by decide))).trans ((eh184.1 196 k (fun q => absurd q (by decide))).trans ((eh180.1 196 k (fun q => absurd q (by decide))).trans (eh173.1 196 k (fun q => absurd q (by decide))))))))))))⟩ esd41.symm ((eh217.1 _ _ (fun _ => by decide)).trans eh214.2.1) (fun k hk => ((eh217.1 217 k (fun q => absurd q (by decide))).trans ((eh214.1 217 k (fun q => absurd q (by decide))).trans ((eh211.1 217 k (fun q => absurd q (by decide))).trans ((eh188.1 217 k (fun q => absurd q (by decide))).trans ((eh184.1 217 k (fun q => absurd q (by decide))).trans ((eh180.1 217 k (fun _ => hk)).trans (eh173.1 217 k (fun q => absurd q (by decide)))))))))) (fun k hk => ((eh217.1 218 k (fun q => absurd q (by decide))).trans ((eh214.1 218 k (fun q => absurd q (by decide))).trans ((eh211.1 218 k (fun q => absurd q (by decide))).trans ((eh188.1 218 k (fun _ => hk)).trans ((eh184.1 218 k (fun q => absurd q (by decide))).trans ((eh180.1 218 k (fun q => absurd q (by decide))).trans (eh173.1 218 k (fun q => absurd q (by decide)))))))))) (fun k hk => ((eh217.1 219 k (fun q => absurd q (by decide))).trans ((eh214.1 219 k (fun q => absurd q (by decide))).trans ((eh211.1 219 k (fun _ => hk)).trans ((eh188.1 219 k (fun q => absurd q (by decide))).trans ((eh184.1 219 k (fun q => absurd q (by decide))).trans ((eh180.1 219 k (fun q => absurd q (by decide))).trans (eh173.1 219 k (fun q => absurd q (by decide)))))))))) (((congrFun (congrFun eh217.2.2 _) _).trans ((congrFun (congrFun eh214.2.2 _) _).trans ((congrFun (congrFun eh211.2.2 _) _).trans ((congrFun (congrFun eh188.2.2 _) _).trans ((congrFun (congrFun eh184.2.2 _) _).trans ((congrFun (congrFun eh180.2.2 _) _).trans ((congrFun (congrFun eh173.2.2 _) _).trans esl48.symm))))))).trans esl48.symm.symm) (((congrFun (congrFun eh217.2.2 _) _).trans ((congrFun (congrFun eh214.2.2 _) _).trans ((congrFun (congrFun eh211.2.2 _) _).trans ((congrFun (congrFun eh188.2.2 _) _).trans ((congrFun (congrFun eh184.2.2 _) _).trans ((congrFun (congrFun eh180.2.2 _) _).trans ((congrFun (congrFun eh173.2.2 _) _).trans esl49.symm))))))).trans esl49.symm.symm) ((eh217.1 _ _ (fun q => absurd q (by decide))).trans ((eh214.1 _ _ (fun q => absurd q (by decide))).trans ((eh211.1 _ _ (fun q => absurd q (by decide))).trans ((eh188.1 _ _ (fun q => absurd q (by decide))).trans ((eh184.1 _ _ (fun q => absurd q (by decide))).trans eh180.2.1))))) ((eh217.1 _ _ (fun q => absurd q (by decide))).trans ((eh214.1 _ _ (fun q => absurd q (by decide))).trans ((eh211.1 _ _ (fun q => absurd q (by decide))).trans eh188.2.1))) (Or.inr ⟨by omega, ((eh217.1 _ _ (fun q => absurd q (by decide))).trans ((eh214.1 _ _ (fun q => absurd q (by decide))).trans eh211.2.1)).trans yc2⟩)
                  have yk := WQ_k yB.1 hp0
                  refine A_iincv (z := (i37 + 1)) (L' := [some (av_R (some 170)), some (av_I a1), some (av_I (x12 + 4)), some (av_I (i37 + 1)), some (av_I i38), some (av_I x106), none]) d_MD_walk_319 rfl (w32_to (by omega) (by unfold i32; omega)) rfl ?_
                  refine A_goto (tgt := 491) d_MD_walk_322 (by decide) ?_
                  refine A_aload_n 0 d_MD_walk_491 rfl rfl ?_
                  refine A_getIv (z := sd43) T_ok d_MD_walk_492 f_MD_405 (mi_s k218.1 sf_170) ((eh217.1 _ _ (fun _ => by decide)).trans ((eh214.1 _ _ (fun _ => by decide)).trans ((eh211.1 _ _ (fun q => absurd q (by decide))).trans ((eh188.1 _ _ (fun q => absurd q (by decide))).trans ((eh184.1 _ _ (fun q => absurd q (by decide))).trans ((eh180.1 _ _ (fun q => absurd q (by decide))).trans ((eh173.1 _ _ (fun _ => by decide)).trans esd43.symm))))))) ?_
                  refine A_sipush d_MD_walk_495 rfl ?_
                  refine A_icmp_gt (tgt := 520) d_MD_walk_498 (by decide) (fun c => False.elim (by omega)) (fun c220 => ?_)
                  refine A_aload_n 0 d_MD_walk_501 rfl rfl ?_
                  refine A_getIv (z := sd44) T_ok d_MD_walk_502 f_MD_408 (mi_s k218.1 sf_170) ((eh217.1 _ _ (fun _ => by decide)).trans ((eh214.1 _ _ (fun _ => by decide)).trans ((eh211.1 _ _ (fun q => absurd q (by decide))).trans ((eh188.1 _ _ (fun q => absurd q (by decide))).trans ((eh184.1 _ _ (fun q => absurd q (by decide))).trans ((eh180.1 _ _ (fun q => absurd q (by decide))).trans ((eh173.1 _ _ (fun _ => by decide)).trans esd44.symm))))))) ?_
                  refine A_bipush d_MD_walk_505 rfl ?_
                  refine A_icmp_gt (tgt := 520) d_MD_walk_507 (by decide) (fun c => False.elim (by omega)) (fun c222 => ?_)
                  refine A_aload_n 0 d_MD_walk_510 rfl rfl ?_
                  refine A_getIv (z := (sd42 + 2)) T_ok d_MD_walk_511 f_MD_402 (mi_s k218.1 sf_170) eh217.2.1 ?_
                  refine A_sipush d_MD_walk_514 rfl ?_
                  refine A_icmp_le (tgt := 524) d_MD_walk_517 (by decide) (fun c224 => ?_) (fun c224 => ?_)
                  · refine A_iconst d_MD_walk_524 rfl ?_
                    refine A_istore (L' := [some (av_R (some 170)), some (av_I a1), some (av_I (x12 + 4)), some (av_I (i37 + 1)), some (av_I 0), some (av_I x106), none]) d_MD_walk_525 (Nat.le_of_ble_eq_true rfl) rfl ?_
                    refine A_goto (tgt := 79) d_MD_walk_527 (by decide) ?_
                    refine A_free (L' := [some (av_R (some 170)), some (av_I a1), some (av_I (x12 + 4)), some (av_I (i37 + 1)), some (av_I 0), none, none]) (And.intro rfl (And.intro rfl (And.intro rfl (And.intro rfl (And.intro rfl trivial))))) ?_
                    exact ih79 (i37 + 1) 0 h217 (by omega) (by omega) (by omega) (by omega) ⟨(by rw [((eh217.1 _ _ (fun _ => by decide)).trans ((eh214.1 _ _ (fun _ => by decide)).trans ((eh211.1 _ _ (fun q => absurd q (by decide))).trans ((eh188.1 _ _ (fun q => absurd q (by decide))).trans ((eh184.1 _ _ (fun q => absurd q (by decide))).trans ((eh180.1 _ _ (fun q => absurd q (by decide))).trans ((eh173.1 _ _ (fun _ => by decide)).trans esd43.symm))))))), ((eh217.1 _ _ (fun _ => by decide)).trans ((eh214.1 _ _ (fun _ => by decide)).trans ((eh211.1 _ _ (fun q => absurd q (by decide))).trans ((eh188.1 _ _ (fun q => absurd q (by decide))).trans ((eh184.1 _ _ (fun q => absurd q (by decide))).trans ((eh180.1 _ _ (fun q => absurd q (by decide))).trans ((eh173.1 _ _ (fun _ => by decide)).trans esd44.symm)))))))]; exact yB), (by have qq0 := eh217.2.1; have qq1 := ((eh217.1 _ _ (fun _ => by decide)).trans ((eh214.1 _ _ (fun _ => by decide)).trans ((eh211.1 _ _ (fun q => absurd q (by decide))).trans ((eh188.1 _ _ (fun q => absurd q (by decide))).trans ((eh184.1 _ _ (fun q => absurd q (by decide))).trans ((eh180.1 _ _ (fun q => absurd q (by decide))).trans ((eh173.1 _ _ (fun _ => by decide)).trans esd43.symm))))))); have qq2 := ((eh217.1 _ _ (fun _ => by decide)).trans ((eh214.1 _ _ (fun _ => by decide)).trans ((eh211.1 _ _ (fun q => absurd q (by decide))).trans ((eh188.1 _ _ (fun q => absurd q (by decide))).trans ((eh184.1 _ _ (fun q => absurd q (by decide))).trans ((eh180.1 _ _ (fun q => absurd q (by decide))).trans ((eh173.1 _ _ (fun _ => by decide)).trans esd44.symm))))))); exact ⟨by omega, by omega⟩)⟩ k218 (by have qq0 := eh217.2.1; omega)
                  · refine A_iconst d_MD_walk_520 rfl ?_
                    refine A_goto (tgt := 525) d_MD_walk_521 (by decide) ?_
                    refine A_istore (L' := [some (av_R (some 170)), some (av_I a1), some (av_I (x12 + 4)), some (av_I (i37 + 1)), some (av_I 1), some (av_I x106), none]) d_MD_walk_525 (Nat.le_of_ble_eq_true rfl) rfl ?_
                    refine A_goto (tgt := 79) d_MD_walk_527 (by decide) ?_
                    refine A_free (L' := [some (av_R (some 170)), some (av_I a1), some (av_I (x12 + 4)), some (av_I (i37 + 1)), some (av_I 1), none, none]) (And.intro rfl (And.intro rfl (And.intro rfl (And.intro rfl (And.intro rfl trivial))))) ?_
                    exact ih79 (i37 + 1) 1 h217 (by omega) (by omega) (by omega) (by omega) ⟨(by rw [((eh217.1 _ _ (fun _ => by decide)).trans ((eh214.1 _ _ (fun _ => by decide)).trans ((eh211.1 _ _ (fun q => absurd q (by decide))).trans ((eh188.1 _ _ (fun q => absurd q (by decide))).trans ((eh184.1 _ _ (fun q => absurd q (by decide))).trans ((eh180.1 _ _ (fun q => absurd q (by decide))).trans ((eh173.1 _ _ (fun _ => by decide)).trans esd43.symm))))))), ((eh217.1 _ _ (fun _ => by decide)).trans ((eh214.1 _ _ (fun _ => by decide)).trans ((eh211.1 _ _ (fun q => absurd q (by decide))).trans ((eh188.1 _ _ (fun q => absurd q (by decide))).trans ((eh184.1 _ _ (fun q => absurd q (by decide))).trans ((eh180.1 _ _ (fun q => absurd q (by decide))).trans ((eh173.1 _ _ (fun _ => by decide)).trans esd44.symm)))))))]; exact yB), (by have qq0 := eh217.2.1; have qq1 := ((eh217.1 _ _ (fun _ => by decide)).trans ((eh214.1 _ _ (fun _ => by decide)).trans ((eh211.1 _ _ (fun q => absurd q (by decide))).trans ((eh188.1 _ _ (fun q => absurd q (by decide))).trans ((eh184.1 _ _ (fun q => absurd q (by decide))).trans ((eh180.1 _ _ (fun q => absurd q (by decide))).trans ((eh173.1 _ _ (fun _ => by decide)).trans esd43.symm))))))); have qq2 := ((eh217.1 _ _ (fun _ => by decide)).trans ((eh214.1 _ _ (fun _ => by decide)).trans ((eh211.1 _ _ (fun q => absurd q (by decide))).trans ((eh188.1 _ _ (fun q => absurd q (by decide))).trans ((eh184.1 _ _ (fun q => absurd q (by decide))).trans ((eh180.1 _ _ (fun q => absurd q (by decide))).trans ((eh173.1 _ _ (fun _ => by decide)).trans esd44.symm))))))); exact ⟨by omega, by omega⟩)⟩ k218 (by have qq0 := eh217.2.1; omega)
                · refine A_iconst d_MD_walk_289 rfl ?_
                  refine A_goto (tgt := 298) d_MD_walk_290 (by decide) ?_
                  refine A_iastorek (KR := kM (pm [11, 12, 65, 66, 70, 71, 72, 73, 74, 75, 76, 77, 78] [185, 186, 187, 188, 189, 190, 191, 192, 193, 194, 195, 196, 197, 198, 199, 200, 217, 218, 219, 220]) h) d_MD_walk_298 (mi_s k189.1 sf_219) (by omega) (by omega) (kM_i k189 (by decide) rfl (mr_219 _) (by omega) (by omega)) (fun h225 k226 eh225 => ?_)
                  refine A_aload_n 0 d_MD_walk_299 rfl rfl ?_
                  refine A_dupR d_MD_walk_300 ?_
                  refine A_getIv (z := sd41) T_ok d_MD_walk_301 f_MD_399 (mi_s k226.1 sf_170) ((eh225.1 _ _ (fun q => absurd q (by decide))).trans ((eh188.1 _ _ (fun q => absurd q (by decide))).trans ((eh184.1 _ _ (fun q => absurd q (by decide))).trans ((eh180.1 _ _ (fun q => absurd q (by decide))).trans ((eh173.1 _ _ (fun _ => by decide)).trans esd41.symm))))) ?_
                  refine A_iconst d_MD_walk_304 rfl ?_
                  refine A_pc (pc' := 305) rfl ?_
                  refine A_iaddv (z := (sd41 + 1)) d_MD_walk_305 (w32_to (by omega) (by unfold i32; omega)) ?_
                  refine A_putIk (KR := kM (pm [11, 12, 65, 66, 70, 71, 72, 73, 74, 75, 76, 77, 78] [185, 186, 187, 188, 189, 190, 191, 192, 193, 194, 195, 196, 197, 198, 199, 200, 217, 218, 219, 220]) h) T_ok d_MD_walk_306 f_MD_399 (mi_s k226.1 sf_170) fin_f (kM_i k226 (by decide) (by decide) mr_170_70 (by omega) (by omega)) (fun h228 k229 eh228 => ?_)
                  refine A_aload_n 0 d_MD_walk_309 rfl rfl ?_
                  refine A_dupR d_MD_walk_310 ?_
                  refine A_getIv (z := (sd42 + 1)) T_ok d_MD_walk_311 f_MD_402 (mi_s k229.1 sf_170) ((eh228.1 _ _ (fun _ => by decide)).trans ((eh225.1 _ _ (fun q => absurd q (by decide))).trans ((eh188.1 _ _ (fun q => absurd q (by decide))).trans ((eh184.1 _ _ (fun q => absurd q (by decide))).trans ((eh180.1 _ _ (fun q => absurd q (by decide))).trans eh173.2.1))))) ?_
                  refine A_iconst d_MD_walk_314 rfl ?_
                  refine A_pc (pc' := 315) rfl ?_
                  refine A_iaddv (z := (sd42 + 2)) d_MD_walk_315 (w32_to (by omega) (by unfold i32; omega)) ?_
                  refine A_putIk (KR := kM (pm [11, 12, 65, 66, 70, 71, 72, 73, 74, 75, 76, 77, 78] [185, 186, 187, 188, 189, 190, 191, 192, 193, 194, 195, 196, 197, 198, 199, 200, 217, 218, 219, 220]) h) T_ok d_MD_walk_316 f_MD_402 (mi_s k229.1 sf_170) fin_f (kM_i k229 (by decide) (by decide) mr_170_71 (by omega) (by omega)) (fun h231 k232 eh231 => ?_)
                  have yp : h.2.1 201 (i37).toNat = 2 := (by omega)
                  have yB : WB h stk (x12 + 4) (i37 + 1) sd43 sd44 h231 := WB_2 hVQ hB (by omega) yp ⟨(((eh231.1 _ _ (fun _ => by decide)).trans ((eh228.1 _ _ (fun _ => by decide)).trans ((eh225.1 _ _ (fun q => absurd q (by decide))).trans ((eh188.1 _ _ (fun q => absurd q (by decide))).trans ((eh184.1 _ _ (fun q => absurd q (by decide))).trans ((eh180.1 _ _ (fun q => absurd q (by decide))).trans ((eh173.1 _ _ (fun _ => by decide)).trans esd45.symm))))))).trans esd45.symm.symm), (((congrFun (congrFun eh231.2.2 _) _).trans ((congrFun (congrFun eh228.2.2 _) _).trans ((congrFun (congrFun eh225.2.2 _) _).trans ((congrFun (congrFun eh188.2.2 _) _).trans ((congrFun (congrFun eh184.2.2 _) _).trans ((congrFun (congrFun eh180.2.2 _) _).trans ((congrFun (congrFun eh173.2.2 _) _).trans esl46.symm))))))).trans esl46.symm.symm), (((congrFun (congrFun eh231.2.2 _) _).trans ((congrFun (congrFun eh228.2.2 _) _).trans ((congrFun (congrFun eh225.2.2 _) _).trans ((congrFun (congrFun eh188.2.2 _) _).trans ((congrFun (congrFun eh184.2.2 _) _).trans ((congrFun (congrFun eh180.2.2 _) _).trans ((congrFun (congrFun eh173.2.2 _) _).trans esl47.symm))))))).trans esl47.symm.symm), (by intro a ha; simp only [List.mem_cons, List.not_mem_nil, or_false] at ha; rcases ha with rfl | rfl | rfl | rfl | rfl | rfl ; exact (funext (fun k => ((congrFun (congrFun eh231.2.2 187) k).trans ((congrFun (congrFun eh228.2.2 187) k).trans ((congrFun (congrFun eh225.2.2 187) k).trans ((congrFun (congrFun eh188.2.2 187) k).trans ((congrFun (congrFun eh184.2.2 187) k).trans ((congrFun (congrFun eh180.2.2 187) k).trans (congrFun (congrFun eh173.2.2 187) k))))))))) ; exact (funext (fun k => ((congrFun (congrFun eh231.2.2 188) k).trans ((congrFun (congrFun eh228.2.2 188) k).trans ((congrFun (congrFun eh225.2.2 188) k).trans ((congrFun (congrFun eh188.2.2 188) k).trans ((congrFun (congrFun eh184.2.2 188) k).trans ((congrFun (congrFun eh180.2.2 188) k).trans (congrFun (congrFun eh173.2.2 188) k))))))))) ; exact (funext (fun k => ((congrFun (congrFun eh231.2.2 189) k).trans ((congrFun (congrFun eh228.2.2 189) k).trans ((congrFun (congrFun eh225.2.2 189) k).trans ((congrFun (congrFun eh188.2.2 189) k).trans ((congrFun (congrFun eh184.2.2 189) k).trans ((congrFun (congrFun eh180.2.2 189) k).trans (congrFun (congrFun eh173.2.2 189) k))))))))) ; exact (funext (fun k => ((congrFun (congrFun eh231.2.2 190) k).trans ((congrFun (congrFun eh228.2.2 190) k).trans ((congrFun (congrFun eh225.2.2 190) k).trans ((congrFun (congrFun eh188.2.2 190) k).trans ((congrFun (congrFun eh184.2.2 190) k).trans ((congrFun (congrFun eh180.2.2 190) k).trans (congrFun (congrFun eh173.2.2 190) k))))))))) ; exact (funext (fun k => ((congrFun (congrFun eh231.2.2 199) k).trans ((congrFun (congrFun eh228.2.2 199) k).trans ((congrFun (congrFun eh225.2.2 199) k).trans ((congrFun (congrFun eh188.2.2 199) k).trans ((congrFun (congrFun eh184.2.2 199) k).trans ((congrFun (congrFun eh180.2.2 199) k).trans (congrFun (congrFun eh173.2.2 199) k))))))))) ; exact (funext (fun k => ((congrFun (congrFun eh231.2.2 200) k).trans ((congrFun (congrFun eh228.2.2 200) k).trans ((congrFun (congrFun eh225.2.2 200) k).trans ((congrFun (congrFun eh188.2.2 200) k).trans ((congrFun (congrFun eh184.2.2 200) k).trans ((congrFun (congrFun eh180.2.2 200) k).trans (congrFun (congrFun eh173.2.2 200) k)))))))))), (by intro a ha; simp only [List.mem_cons, List.not_mem_nil, or_false] at ha; rcases ha with rfl | rfl | rfl ; exact (funext (fun k => ((eh231.1 185 k (fun q => absurd q (by decide))).trans ((eh228.1 185 k (fun q => absurd q (by decide))).trans ((eh225.1 185 k (fun q => absurd q (by decide))).trans ((eh188.1 185 k (fun q => absurd q (by decide))).trans ((eh184.1 185 k (fun q => absurd q (by decide))).trans ((eh180.1 185 k (fun q => absurd q (by decide))).trans (eh173.1 185 k (fun q => absurd q (by decide))))))))))) ; exact (funext (fun k => ((eh231.1 186 k (fun q => absurd q (by decide))).trans ((eh228.1 186 k (fun q => absurd q (by decide))).trans ((eh225.1 186 k (fun q => absurd q (by decide))).trans ((eh188.1 186 k (fun q => absurd q (by decide))).trans ((eh184.1 186 k (fun q => absurd q (by decide))).trans ((eh180.1 186 k (fun q => absurd q (by decide))).trans (eh173.1 186 k (fun q => absurd q (by decide))))))))))) ; exact (funext (fun k => ((eh231.1 196 k (fun q => absurd q (by decide))).trans ((eh228.1 196 k (fun q => absurd q (by decide))).trans ((eh225.1 196 k (fun q => absurd q (by decide))).trans ((eh188.1 196 k (fun q => absurd q (by decide))).trans ((eh184.1 196 k (fun q => absurd q (by decide))).trans ((eh180.1 196 k (fun q => absurd q (by decide))).trans (eh173.1 196 k (fun q => absurd q (by decide))))))))))))⟩ esd41.symm ((eh231.1 _ _ (fun _ => by decide)).trans eh228.2.1) (fun k hk => ((eh231.1 217 k (fun q => absurd q (by decide))).trans ((eh228.1 217 k (fun q => absurd q (by decide))).trans ((eh225.1 217 k (fun q => absurd q (by decide))).trans ((eh188.1 217 k (fun q => absurd q (by decide))).trans ((eh184.1 217 k (fun q => absurd q (by decide))).trans ((eh180.1 217 k (fun _ => hk)).trans (eh173.1 217 k (fun q => absurd q (by decide)))))))))) (fun k hk => ((eh231.1 218 k (fun q => absurd q (by decide))).trans ((eh228.1 218 k (fun q => absurd q (by decide))).trans ((eh225.1 218 k (fun q => absurd q (by decide))).trans ((eh188.1 218 k (fun _ => hk)).trans ((eh184.1 218 k (fun q => absurd q (by decide))).trans ((eh180.1 218 k (fun q => absurd q (by decide))).trans (eh173.1 218 k (fun q => absurd q (by decide)))))))))) (fun k hk => ((eh231.1 219 k (fun q => absurd q (by decide))).trans ((eh228.1 219 k (fun q => absurd q (by decide))).trans ((eh225.1 219 k (fun _ => hk)).trans ((eh188.1 219 k (fun q => absurd q (by decide))).trans ((eh184.1 219 k (fun q => absurd q (by decide))).trans ((eh180.1 219 k (fun q => absurd q (by decide))).trans (eh173.1 219 k (fun q => absurd q (by decide)))))))))) (((congrFun (congrFun eh231.2.2 _) _).trans ((congrFun (congrFun eh228.2.2 _) _).trans ((congrFun (congrFun eh225.2.2 _) _).trans ((congrFun (congrFun eh188.2.2 _) _).trans ((congrFun (congrFun eh184.2.2 _) _).trans ((congrFun (congrFun eh180.2.2 _) _).trans ((congrFun (congrFun eh173.2.2 _) _).trans esl48.symm))))))).trans esl48.symm.symm) (((congrFun (congrFun eh231.2.2 _) _).trans ((congrFun (congrFun eh228.2.2 _) _).trans ((congrFun (congrFun eh225.2.2 _) _).trans ((congrFun (congrFun eh188.2.2 _) _).trans ((congrFun (congrFun eh184.2.2 _) _).trans ((congrFun (congrFun eh180.2.2 _) _).trans ((congrFun (congrFun eh173.2.2 _) _).trans esl49.symm))))))).trans esl49.symm.symm) ((eh231.1 _ _ (fun q => absurd q (by decide))).trans ((eh228.1 _ _ (fun q => absurd q (by decide))).trans ((eh225.1 _ _ (fun q => absurd q (by decide))).trans ((eh188.1 _ _ (fun q => absurd q (by decide))).trans ((eh184.1 _ _ (fun q => absurd q (by decide))).trans eh180.2.1))))) ((eh231.1 _ _ (fun q => absurd q (by decide))).trans ((eh228.1 _ _ (fun q => absurd q (by decide))).trans ((eh225.1 _ _ (fun q => absurd q (by decide))).trans eh188.2.1))) (Or.inl ⟨by omega, ((eh231.1 _ _ (fun q => absurd q (by decide))).trans ((eh228.1 _ _ (fun q => absurd q (by decide))).trans eh225.2.1))⟩)
                  have yk := WQ_k yB.1 hp0
                  refine A_iincv (z := (i37 + 1)) (L' := [some (av_R (some 170)), some (av_I a1), some (av_I (x12 + 4)), some (av_I (i37 + 1)), some (av_I i38), some (av_I x106), none]) d_MD_walk_319 rfl (w32_to (by omega) (by unfold i32; omega)) rfl ?_
                  refine A_goto (tgt := 491) d_MD_walk_322 (by decide) ?_
                  refine A_aload_n 0 d_MD_walk_491 rfl rfl ?_
                  refine A_getIv (z := sd43) T_ok d_MD_walk_492 f_MD_405 (mi_s k232.1 sf_170) ((eh231.1 _ _ (fun _ => by decide)).trans ((eh228.1 _ _ (fun _ => by decide)).trans ((eh225.1 _ _ (fun q => absurd q (by decide))).trans ((eh188.1 _ _ (fun q => absurd q (by decide))).trans ((eh184.1 _ _ (fun q => absurd q (by decide))).trans ((eh180.1 _ _ (fun q => absurd q (by decide))).trans ((eh173.1 _ _ (fun _ => by decide)).trans esd43.symm))))))) ?_
                  refine A_sipush d_MD_walk_495 rfl ?_
                  refine A_icmp_gt (tgt := 520) d_MD_walk_498 (by decide) (fun c => False.elim (by omega)) (fun c234 => ?_)
                  refine A_aload_n 0 d_MD_walk_501 rfl rfl ?_
                  refine A_getIv (z := sd44) T_ok d_MD_walk_502 f_MD_408 (mi_s k232.1 sf_170) ((eh231.1 _ _ (fun _ => by decide)).trans ((eh228.1 _ _ (fun _ => by decide)).trans ((eh225.1 _ _ (fun q => absurd q (by decide))).trans ((eh188.1 _ _ (fun q => absurd q (by decide))).trans ((eh184.1 _ _ (fun q => absurd q (by decide))).trans ((eh180.1 _ _ (fun q => absurd q (by decide))).trans ((eh173.1 _ _ (fun _ => by decide)).trans esd44.symm))))))) ?_
                  refine A_bipush d_MD_walk_505 rfl ?_
                  refine A_icmp_gt (tgt := 520) d_MD_walk_507 (by decide) (fun c => False.elim (by omega)) (fun c236 => ?_)
                  refine A_aload_n 0 d_MD_walk_510 rfl rfl ?_
                  refine A_getIv (z := (sd42 + 2)) T_ok d_MD_walk_511 f_MD_402 (mi_s k232.1 sf_170) eh231.2.1 ?_
                  refine A_sipush d_MD_walk_514 rfl ?_
                  refine A_icmp_le (tgt := 524) d_MD_walk_517 (by decide) (fun c238 => ?_) (fun c238 => ?_)
                  · refine A_iconst d_MD_walk_524 rfl ?_
                    refine A_istore (L' := [some (av_R (some 170)), some (av_I a1), some (av_I (x12 + 4)), some (av_I (i37 + 1)), some (av_I 0), some (av_I x106), none]) d_MD_walk_525 (Nat.le_of_ble_eq_true rfl) rfl ?_
                    refine A_goto (tgt := 79) d_MD_walk_527 (by decide) ?_
                    refine A_free (L' := [some (av_R (some 170)), some (av_I a1), some (av_I (x12 + 4)), some (av_I (i37 + 1)), some (av_I 0), none, none]) (And.intro rfl (And.intro rfl (And.intro rfl (And.intro rfl (And.intro rfl trivial))))) ?_
                    exact ih79 (i37 + 1) 0 h231 (by omega) (by omega) (by omega) (by omega) ⟨(by rw [((eh231.1 _ _ (fun _ => by decide)).trans ((eh228.1 _ _ (fun _ => by decide)).trans ((eh225.1 _ _ (fun q => absurd q (by decide))).trans ((eh188.1 _ _ (fun q => absurd q (by decide))).trans ((eh184.1 _ _ (fun q => absurd q (by decide))).trans ((eh180.1 _ _ (fun q => absurd q (by decide))).trans ((eh173.1 _ _ (fun _ => by decide)).trans esd43.symm))))))), ((eh231.1 _ _ (fun _ => by decide)).trans ((eh228.1 _ _ (fun _ => by decide)).trans ((eh225.1 _ _ (fun q => absurd q (by decide))).trans ((eh188.1 _ _ (fun q => absurd q (by decide))).trans ((eh184.1 _ _ (fun q => absurd q (by decide))).trans ((eh180.1 _ _ (fun q => absurd q (by decide))).trans ((eh173.1 _ _ (fun _ => by decide)).trans esd44.symm)))))))]; exact yB), (by have qq0 := eh231.2.1; have qq1 := ((eh231.1 _ _ (fun _ => by decide)).trans ((eh228.1 _ _ (fun _ => by decide)).trans ((eh225.1 _ _ (fun q => absurd q (by decide))).trans ((eh188.1 _ _ (fun q => absurd q (by decide))).trans ((eh184.1 _ _ (fun q => absurd q (by decide))).trans ((eh180.1 _ _ (fun q => absurd q (by decide))).trans ((eh173.1 _ _ (fun _ => by decide)).trans esd43.symm))))))); have qq2 := ((eh231.1 _ _ (fun _ => by decide)).trans ((eh228.1 _ _ (fun _ => by decide)).trans ((eh225.1 _ _ (fun q => absurd q (by decide))).trans ((eh188.1 _ _ (fun q => absurd q (by decide))).trans ((eh184.1 _ _ (fun q => absurd q (by decide))).trans ((eh180.1 _ _ (fun q => absurd q (by decide))).trans ((eh173.1 _ _ (fun _ => by decide)).trans esd44.symm))))))); exact ⟨by omega, by omega⟩)⟩ k232 (by have qq0 := eh231.2.1; omega)
                  · refine A_iconst d_MD_walk_520 rfl ?_
                    refine A_goto (tgt := 525) d_MD_walk_521 (by decide) ?_
                    refine A_istore (L' := [some (av_R (some 170)), some (av_I a1), some (av_I (x12 + 4)), some (av_I (i37 + 1)), some (av_I 1), some (av_I x106), none]) d_MD_walk_525 (Nat.le_of_ble_eq_true rfl) rfl ?_
                    refine A_goto (tgt := 79) d_MD_walk_527 (by decide) ?_
                    refine A_free (L' := [some (av_R (some 170)), some (av_I a1), some (av_I (x12 + 4)), some (av_I (i37 + 1)), some (av_I 1), none, none]) (And.intro rfl (And.intro rfl (And.intro rfl (And.intro rfl (And.intro rfl trivial))))) ?_
                    exact ih79 (i37 + 1) 1 h231 (by omega) (by omega) (by omega) (by omega) ⟨(by rw [((eh231.1 _ _ (fun _ => by decide)).trans ((eh228.1 _ _ (fun _ => by decide)).trans ((eh225.1 _ _ (fun q => absurd q (by decide))).trans ((eh188.1 _ _ (fun q => absurd q (by decide))).trans ((eh184.1 _ _ (fun q => absurd q (by decide))).trans ((eh180.1 _ _ (fun q => absurd q (by decide))).trans ((eh173.1 _ _ (fun _ => by decide)).trans esd43.symm))))))), ((eh231.1 _ _ (fun _ => by decide)).trans ((eh228.1 _ _ (fun _ => by decide)).trans ((eh225.1 _ _ (fun q => absurd q (by decide))).trans ((eh188.1 _ _ (fun q => absurd q (by decide))).trans ((eh184.1 _ _ (fun q => absurd q (by decide))).trans ((eh180.1 _ _ (fun q => absurd q (by decide))).trans ((eh173.1 _ _ (fun _ => by decide)).trans esd44.symm)))))))]; exact yB), (by have qq0 := eh231.2.1; have qq1 := ((eh231.1 _ _ (fun _ => by decide)).trans ((eh228.1 _ _ (fun _ => by decide)).trans ((eh225.1 _ _ (fun q => absurd q (by decide))).trans ((eh188.1 _ _ (fun q => absurd q (by decide))).trans ((eh184.1 _ _ (fun q => absurd q (by decide))).trans ((eh180.1 _ _ (fun q => absurd q (by decide))).trans ((eh173.1 _ _ (fun _ => by decide)).trans esd43.symm))))))); have qq2 := ((eh231.1 _ _ (fun _ => by decide)).trans ((eh228.1 _ _ (fun _ => by decide)).trans ((eh225.1 _ _ (fun q => absurd q (by decide))).trans ((eh188.1 _ _ (fun q => absurd q (by decide))).trans ((eh184.1 _ _ (fun q => absurd q (by decide))).trans ((eh180.1 _ _ (fun q => absurd q (by decide))).trans ((eh173.1 _ _ (fun _ => by decide)).trans esd44.symm))))))); exact ⟨by omega, by omega⟩)⟩ k232 (by have qq0 := eh231.2.1; omega)
              · refine A_iload d_MD_walk_117 rfl ?_
                refine A_iconst d_MD_walk_119 rfl ?_
                refine A_icmp_ne (tgt := 133) d_MD_walk_120 (by decide) (fun c239 => ?_) (fun c239 => ?_)
                · refine A_iload d_MD_walk_133 rfl ?_
                  refine A_if_ne (tgt := 170) d_MD_walk_135 (by decide) (fun c240 => ?_) (fun c => False.elim (by omega))
                  refine A_iload d_MD_walk_170 rfl ?_
                  refine A_iconst d_MD_walk_172 rfl ?_
                  refine A_icmp_ne (tgt := 237) d_MD_walk_173 (by decide) (fun c241 => ?_) (fun c => False.elim (by omega))
                  refine A_iload d_MD_walk_237 rfl ?_
                  refine A_iconst d_MD_walk_239 rfl ?_
                  refine A_icmp_ne (tgt := 325) d_MD_walk_240 (by decide) (fun c242 => ?_) (fun c => False.elim (by omega))
                  refine A_iload d_MD_walk_325 rfl ?_
                  refine A_iconst d_MD_walk_327 rfl ?_
                  refine A_icmp_ne (tgt := 353) d_MD_walk_328 (by decide) (fun c243 => ?_) (fun c243 => ?_)
                  · refine A_iload d_MD_walk_353 rfl ?_
                    refine A_bipush d_MD_walk_355 rfl ?_
                    refine A_icmp_ne (tgt := 391) d_MD_walk_357 (by decide) (fun c244 => ?_) (fun c244 => ?_)
                    · refine A_iload d_MD_walk_391 rfl ?_
                      refine A_iconst d_MD_walk_393 rfl ?_
                      refine A_icmp_ne (tgt := 475) d_MD_walk_394 (by decide) (fun c245 => ?_) (fun c245 => ?_)
                      · have yp : h.2.1 201 (i37).toNat = 4 := (by omega)
                        obtain ⟨pp, yt1, yt2, yt3, yt4, yt5, yt6⟩ := WB_top hVQ hn hB (by omega) (Or.inr yp) esd41.symm
                        refine A_aload_n 0 d_MD_walk_475 rfl rfl ?_
                        refine A_aload_n 0 d_MD_walk_476 rfl rfl ?_
                        refine A_getAv (z := some 217) T_ok d_MD_walk_477 f_MD_154 (mi_s k40.1 sf_170) (mi_r k40.1 rfm_67) ?_
                        refine A_aload_n 0 d_MD_walk_480 rfl rfl ?_
                        refine A_getIv (z := sd41) T_ok d_MD_walk_481 f_MD_399 (mi_s k40.1 sf_170) esd41.symm ?_
                        refine A_pc (pc' := 484) rfl ?_
                        refine A_iconst d_MD_walk_484 rfl ?_
                        refine A_isubv (z := (sd41 - 1)) d_MD_walk_485 (w32_to (by omega) (by unfold i32; omega)) ?_
                        refine A_ialoadn (lo := 0) (hi := 2000) d_MD_walk_486 (mi_s k40.1 sf_217) (by omega) (by omega) (mi_g k40.1 (by decide) (mr_217 _)) (fun x248 ex248 _ _ => ?_)
                        obtain rfl : pp = (x248).toNat := (by omega)
                        have yx : 0 ≤ x248 ∧ x248 ≤ 1999 := (by omega)
                        have zf250 := ((k40.2.2.1 _ _ rfl).trans esd1.symm)
                        have zf251 := esd41.symm
                        have zf252 := esd42.symm
                        have zf253 := esd43.symm
                        have zf254 := esd44.symm
                        have zf255 := esd45.symm
                        refine A_callV1 m_MD_turned T_ok d_MD_walk_487 l_MD_446 k_MD_turned (mi_s k40.1 sf_170) rfl (by decide +kernel) (by decide) (Nat.le_of_ble_eq_true rfl) (s_MD_turned k40.1 (by omega) (by omega) (by have qq0 := esd41.symm; exact ⟨by omega, by omega⟩) (by have qq0 := esd42.symm; omega)) (fun r h249 hq => ?_)
                        obtain ⟨x257, rfl, ⟨_, _⟩, xx257, k256⟩ := hq
                        have k258 := kM_t k40 k256 (pm_s (by decide) (by decide))
                        obtain ⟨sd259, esd259⟩ : ∃ x, x = h249.2.1 170 70 := ⟨_, rfl⟩
                        have rsd259 : 0 ≤ sd259 ∧ sd259 ≤ 10 := (by rw [esd259]; exact mi_g k258.1 (by decide) mr_170_70)
                        obtain ⟨sd260, esd260⟩ : ∃ x, x = h249.2.1 170 71 := ⟨_, rfl⟩
                        have rsd260 : 0 ≤ sd260 ∧ sd260 ≤ 2010 := (by rw [esd260]; exact mi_g k258.1 (by decide) mr_170_71)
                        have yx3 := xx257
                        rw [← esd41, ← esd42, show h39.2.1 210 = h.2.1 210 from funext (fun k => k40.2.2.1 210 k rfl)] at yx3
                        obtain ⟨yB, yM⟩ := WB_t hVQ hn hB (by omega) (Or.inr yp) ⟨(((k256.2.2.1 _ _ rfl).trans esd45.symm).trans esd45.symm.symm), (((k256.2.2.2 _ _ rfl).trans esl46.symm).trans esl46.symm.symm), (((k256.2.2.2 _ _ rfl).trans esl47.symm).trans esl47.symm.symm), (by intro a ha; simp only [List.mem_cons, List.not_mem_nil, or_false] at ha; rcases ha with rfl | rfl | rfl | rfl | rfl | rfl ; exact (funext (fun k => (k256.2.2.2 187 k rfl))) ; exact (funext (fun k => (k256.2.2.2 188 k rfl))) ; exact (funext (fun k => (k256.2.2.2 189 k rfl))) ; exact (funext (fun k => (k256.2.2.2 190 k rfl))) ; exact (funext (fun k => (k256.2.2.2 199 k rfl))) ; exact (funext (fun k => (k256.2.2.2 200 k rfl)))), (by intro a ha; simp only [List.mem_cons, List.not_mem_nil, or_false] at ha; rcases ha with rfl | rfl | rfl ; exact (funext (fun k => (k256.2.2.1 185 k rfl))) ; exact (funext (fun k => (k256.2.2.1 186 k rfl))) ; exact (funext (fun k => (k256.2.2.1 196 k rfl))))⟩ esd41.symm ex248.symm (funext (fun k => (k256.2.2.1 217 k rfl))) (funext (fun k => (k256.2.2.1 219 k rfl))) (((k256.2.2.2 _ _ rfl).trans esl48.symm).trans esl48.symm.symm) (((k256.2.2.2 _ _ rfl).trans esl49.symm).trans esl49.symm.symm) yx3
                        have yk := WQ_k yB.1 hp0
                        refine A_istore_n 3 (L' := [some (av_R (some 170)), some (av_I a1), some (av_I (x12 + 4)), some (av_I x257), some (av_I i38), some (av_I x106), none]) d_MD_walk_490 rfl (Nat.le_of_ble_eq_true rfl) rfl ?_
                        refine A_aload_n 0 d_MD_walk_491 rfl rfl ?_
                        refine A_getIv (z := sd43) T_ok d_MD_walk_492 f_MD_405 (mi_s k258.1 sf_170) ((k256.2.2.1 _ _ rfl).trans esd43.symm) ?_
                        refine A_sipush d_MD_walk_495 rfl ?_
                        refine A_icmp_gt (tgt := 520) d_MD_walk_498 (by decide) (fun c => False.elim (by omega)) (fun c262 => ?_)
                        refine A_aload_n 0 d_MD_walk_501 rfl rfl ?_
                        refine A_getIv (z := sd44) T_ok d_MD_walk_502 f_MD_408 (mi_s k258.1 sf_170) ((k256.2.2.1 _ _ rfl).trans esd44.symm) ?_
                        refine A_bipush d_MD_walk_505 rfl ?_
                        refine A_icmp_gt (tgt := 520) d_MD_walk_507 (by decide) (fun c => False.elim (by omega)) (fun c264 => ?_)
                        refine A_aload_n 0 d_MD_walk_510 rfl rfl ?_
                        refine A_getIv (z := sd260) T_ok d_MD_walk_511 f_MD_402 (mi_s k258.1 sf_170) esd260.symm ?_
                        refine A_sipush d_MD_walk_514 rfl ?_
                        refine A_icmp_le (tgt := 524) d_MD_walk_517 (by decide) (fun c266 => ?_) (fun c266 => ?_)
                        · refine A_iconst d_MD_walk_524 rfl ?_
                          refine A_istore (L' := [some (av_R (some 170)), some (av_I a1), some (av_I (x12 + 4)), some (av_I x257), some (av_I 0), some (av_I x106), none]) d_MD_walk_525 (Nat.le_of_ble_eq_true rfl) rfl ?_
                          refine A_goto (tgt := 79) d_MD_walk_527 (by decide) ?_
                          refine A_free (L' := [some (av_R (some 170)), some (av_I a1), some (av_I (x12 + 4)), some (av_I x257), some (av_I 0), none, none]) (And.intro rfl (And.intro rfl (And.intro rfl (And.intro rfl (And.intro rfl trivial))))) ?_
                          exact ih79 x257 0 h249 (by omega) (by omega) (by omega) (by omega) ⟨(by rw [((k256.2.2.1 _ _ rfl).trans esd43.symm), ((k256.2.2.1 _ _ rfl).trans esd44.symm)]; exact yB), (by have qq0 := esd260.symm; have qq1 := ((k256.2.2.1 _ _ rfl).trans esd43.symm); have qq2 := ((k256.2.2.1 _ _ rfl).trans esd44.symm); exact ⟨by omega, by omega⟩)⟩ k258 (by have qq0 := esd260.symm; omega)
                        · refine A_iconst d_MD_walk_520 rfl ?_
                          refine A_goto (tgt := 525) d_MD_walk_521 (by decide) ?_
                          refine A_istore (L' := [some (av_R (some 170)), some (av_I a1), some (av_I (x12 + 4)), some (av_I x257), some (av_I 1), some (av_I x106), none]) d_MD_walk_525 (Nat.le_of_ble_eq_true rfl) rfl ?_
                          refine A_goto (tgt := 79) d_MD_walk_527 (by decide) ?_
                          refine A_free (L' := [some (av_R (some 170)), some (av_I a1), some (av_I (x12 + 4)), some (av_I x257), some (av_I 1), none, none]) (And.intro rfl (And.intro rfl (And.intro rfl (And.intro rfl (And.intro rfl trivial))))) ?_
                          exact ih79 x257 1 h249 (by omega) (by omega) (by omega) (by omega) ⟨(by rw [((k256.2.2.1 _ _ rfl).trans esd43.symm), ((k256.2.2.1 _ _ rfl).trans esd44.symm)]; exact yB), (by have qq0 := esd260.symm; have qq1 := ((k256.2.2.1 _ _ rfl).trans esd43.symm); have qq2 := ((k256.2.2.1 _ _ rfl).trans esd44.symm); exact ⟨by omega, by omega⟩)⟩ k258 (by have qq0 := esd260.symm; omega)
                      · have yp : h.2.1 201 (i37).toNat = 3 := (by omega)
                        obtain ⟨pp, yt1, yt2, yt3, yt4, yt5, yt6⟩ := WB_top hVQ hn hB (by omega) (Or.inl yp) esd41.symm
                        refine A_aload_n 0 d_MD_walk_397 rfl rfl ?_
                        refine A_getAv (z := some 217) T_ok d_MD_walk_398 f_MD_154 (mi_s k40.1 sf_170) (mi_r k40.1 rfm_67) ?_
                        refine A_aload_n 0 d_MD_walk_401 rfl rfl ?_
                        refine A_getIv (z := sd41) T_ok d_MD_walk_402 f_MD_399 (mi_s k40.1 sf_170) esd41.symm ?_
                        refine A_iconst d_MD_walk_405 rfl ?_
                        refine A_pc (pc' := 406) rfl ?_
                        refine A_isubv (z := (sd41 - 1)) d_MD_walk_406 (w32_to (by omega) (by unfold i32; omega)) ?_
                        refine A_ialoadn (lo := 0) (hi := 2000) d_MD_walk_407 (mi_s k40.1 sf_217) (by omega) (by omega) (mi_g k40.1 (by decide) (mr_217 _)) (fun x269 ex269 _ _ => ?_)
                        refine A_istore (L' := [some (av_R (some 170)), some (av_I a1), some (av_I (x12 + 4)), some (av_I i37), some (av_I i38), some (av_I x106), some (av_I x269)]) d_MD_walk_408 (Nat.le_of_ble_eq_true rfl) rfl ?_
                        obtain rfl : pp = (x269).toNat := (by omega)
                        have yx : 0 ≤ x269 ∧ x269 ≤ 1999 := (by omega)
                        have yr := mi_g hx (by decide) (k := (x269).toNat) (mr_214 _)
                        obtain ⟨yu1, yu2⟩ := yt6 yp
                        refine A_iload_n 3 d_MD_walk_410 rfl rfl ?_
                        refine A_iconst d_MD_walk_411 rfl ?_
                        refine A_iaddv (z := (i37 + 1)) d_MD_walk_412 (w32_to (by omega) (by unfold i32; omega)) ?_
                        have za1 : h39.2.1 211 = h.2.1 211 := funext (fun k => k40.2.2.1 211 k rfl)
                        have za2 : h39.2.1 212 = h.2.1 212 := funext (fun k => k40.2.2.1 212 k rfl)
                        refine A_pc (pc' := 413) rfl ?_
                        refine A_aload_n 0 d_MD_walk_413 rfl rfl ?_
                        refine A_iload d_MD_walk_414 rfl ?_
                        refine A_iconst d_MD_walk_416 rfl ?_
                        have zf271 := ((k40.2.2.1 _ _ rfl).trans esd1.symm)
                        have zf272 := esd41.symm
                        have zf273 := esd42.symm
                        have zf274 := esd43.symm
                        have zf275 := esd44.symm
                        have zf276 := esd45.symm
                        refine A_callV2 m_MD_behindColon T_ok d_MD_walk_417 l_MD_439 k_MD_behindColon (mi_s k40.1 sf_170) rfl (by decide +kernel) (by decide) (Nat.le_of_ble_eq_true rfl) (s_MD_behindColon k40.1 (by omega) (by omega) (by omega) (by omega) (by rw [za1, za2]; intro j hj; have q1 := (yu2 j (by omega)).1; omega)) (fun r h270 hq => ?_)
                        obtain ⟨x278, rfl, ⟨_, _⟩, xx278, rfl⟩ := hq
                        refine A_icmp_ne (tgt := 465) d_MD_walk_420 (by decide) (fun c279 => ?_) (fun c279 => ?_)
                        · refine A_aload_n 0 d_MD_walk_465 rfl rfl ?_
                          refine A_iload d_MD_walk_466 rfl ?_
                          have zf281 := ((k40.2.2.1 _ _ rfl).trans esd1.symm)
                          have zf282 := esd41.symm
                          have zf283 := esd42.symm
                          have zf284 := esd43.symm
                          have zf285 := esd44.symm
                          have zf286 := esd45.symm
                          refine A_callV1 m_MD_turned T_ok d_MD_walk_468 l_MD_446 k_MD_turned (mi_s k40.1 sf_170) rfl (by decide +kernel) (by decide) (Nat.le_of_ble_eq_true rfl) (s_MD_turned k40.1 (by omega) (by omega) (by have qq0 := esd41.symm; exact ⟨by omega, by omega⟩) (by have qq0 := esd42.symm; omega)) (fun r h280 hq => ?_)
                          obtain ⟨x288, rfl, ⟨_, _⟩, xx288, k287⟩ := hq
                          have k289 := kM_t k40 k287 (pm_s (by decide) (by decide))
                          obtain ⟨sd290, esd290⟩ : ∃ x, x = h280.2.1 170 70 := ⟨_, rfl⟩
                          have rsd290 : 0 ≤ sd290 ∧ sd290 ≤ 10 := (by rw [esd290]; exact mi_g k289.1 (by decide) mr_170_70)
                          obtain ⟨sd291, esd291⟩ : ∃ x, x = h280.2.1 170 71 := ⟨_, rfl⟩
                          have rsd291 : 0 ≤ sd291 ∧ sd291 ≤ 2010 := (by rw [esd291]; exact mi_g k289.1 (by decide) mr_170_71)
                          have yx3 := xx288
                          rw [← esd41, ← esd42, show h39.2.1 210 = h.2.1 210 from funext (fun k => k40.2.2.1 210 k rfl)] at yx3
                          obtain ⟨yB, yM⟩ := WB_t hVQ hn hB (by omega) (Or.inl yp) ⟨(((k287.2.2.1 _ _ rfl).trans esd45.symm).trans esd45.symm.symm), (((k287.2.2.2 _ _ rfl).trans esl46.symm).trans esl46.symm.symm), (((k287.2.2.2 _ _ rfl).trans esl47.symm).trans esl47.symm.symm), (by intro a ha; simp only [List.mem_cons, List.not_mem_nil, or_false] at ha; rcases ha with rfl | rfl | rfl | rfl | rfl | rfl ; exact (funext (fun k => (k287.2.2.2 187 k rfl))) ; exact (funext (fun k => (k287.2.2.2 188 k rfl))) ; exact (funext (fun k => (k287.2.2.2 189 k rfl))) ; exact (funext (fun k => (k287.2.2.2 190 k rfl))) ; exact (funext (fun k => (k287.2.2.2 199 k rfl))) ; exact (funext (fun k => (k287.2.2.2 200 k rfl)))), (by intro a ha; simp only [List.mem_cons, List.not_mem_nil, or_false] at ha; rcases ha with rfl | rfl | rfl ; exact (funext (fun k => (k287.2.2.1 185 k rfl))) ; exact (funext (fun k => (k287.2.2.1 186 k rfl))) ; exact (funext (fun k => (k287.2.2.1 196 k rfl))))⟩ esd41.symm ex269.symm (funext (fun k => (k287.2.2.1 217 k rfl))) (funext (fun k => (k287.2.2.1 219 k rfl))) (((k287.2.2.2 _ _ rfl).trans esl48.symm).trans esl48.symm.symm) (((k287.2.2.2 _ _ rfl).trans esl49.symm).trans esl49.symm.symm) yx3
                          have yk := WQ_k yB.1 hp0
                          refine A_istore_n 3 (L' := [some (av_R (some 170)), some (av_I a1), some (av_I (x12 + 4)), some (av_I x288), some (av_I i38), some (av_I x106), some (av_I x269)]) d_MD_walk_471 rfl (Nat.le_of_ble_eq_true rfl) rfl ?_
                          refine A_goto (tgt := 491) d_MD_walk_472 (by decide) ?_
                          refine A_aload_n 0 d_MD_walk_491 rfl rfl ?_
                          refine A_getIv (z := sd43) T_ok d_MD_walk_492 f_MD_405 (mi_s k289.1 sf_170) ((k287.2.2.1 _ _ rfl).trans esd43.symm) ?_
                          refine A_sipush d_MD_walk_495 rfl ?_
                          refine A_icmp_gt (tgt := 520) d_MD_walk_498 (by decide) (fun c => False.elim (by omega)) (fun c293 => ?_)
                          refine A_aload_n 0 d_MD_walk_501 rfl rfl ?_
                          refine A_getIv (z := sd44) T_ok d_MD_walk_502 f_MD_408 (mi_s k289.1 sf_170) ((k287.2.2.1 _ _ rfl).trans esd44.symm) ?_
                          refine A_bipush d_MD_walk_505 rfl ?_
                          refine A_icmp_gt (tgt := 520) d_MD_walk_507 (by decide) (fun c => False.elim (by omega)) (fun c295 => ?_)
                          refine A_aload_n 0 d_MD_walk_510 rfl rfl ?_
                          refine A_getIv (z := sd291) T_ok d_MD_walk_511 f_MD_402 (mi_s k289.1 sf_170) esd291.symm ?_
                          refine A_sipush d_MD_walk_514 rfl ?_
                          refine A_icmp_le (tgt := 524) d_MD_walk_517 (by decide) (fun c297 => ?_) (fun c297 => ?_)
                          · refine A_iconst d_MD_walk_524 rfl ?_
                            refine A_istore (L' := [some (av_R (some 170)), some (av_I a1), some (av_I (x12 + 4)), some (av_I x288), some (av_I 0), some (av_I x106), some (av_I x269)]) d_MD_walk_525 (Nat.le_of_ble_eq_true rfl) rfl ?_
                            refine A_goto (tgt := 79) d_MD_walk_527 (by decide) ?_
                            refine A_free (L' := [some (av_R (some 170)), some (av_I a1), some (av_I (x12 + 4)), some (av_I x288), some (av_I 0), none, none]) (And.intro rfl (And.intro rfl (And.intro rfl (And.intro rfl (And.intro rfl trivial))))) ?_
                            exact ih79 x288 0 h280 (by omega) (by omega) (by omega) (by omega) ⟨(by rw [((k287.2.2.1 _ _ rfl).trans esd43.symm), ((k287.2.2.1 _ _ rfl).trans esd44.symm)]; exact yB), (by have qq0 := esd291.symm; have qq1 := ((k287.2.2.1 _ _ rfl).trans esd43.symm); have qq2 := ((k287.2.2.1 _ _ rfl).trans esd44.symm); exact ⟨by omega, by omega⟩)⟩ k289 (by have qq0 := esd291.symm; omega)
                          · refine A_iconst d_MD_walk_520 rfl ?_
                            refine A_goto (tgt := 525) d_MD_walk_521 (by decide) ?_
                            refine A_istore (L' := [some (av_R (some 170)), some (av_I a1), some (av_I (x12 + 4)), some (av_I x288), some (av_I 1), some (av_I x106), some (av_I x269)]) d_MD_walk_525 (Nat.le_of_ble_eq_true rfl) rfl ?_
                            refine A_goto (tgt := 79) d_MD_walk_527 (by decide) ?_
                            refine A_free (L' := [some (av_R (some 170)), some (av_I a1), some (av_I (x12 + 4)), some (av_I x288), some (av_I 1), none, none]) (And.intro rfl (And.intro rfl (And.intro rfl (And.intro rfl (And.intro rfl trivial))))) ?_
                            exact ih79 x288 1 h280 (by omega) (by omega) (by omega) (by omega) ⟨(by rw [((k287.2.2.1 _ _ rfl).trans esd43.symm), ((k287.2.2.1 _ _ rfl).trans esd44.symm)]; exact yB), (by have qq0 := esd291.symm; have qq1 := ((k287.2.2.1 _ _ rfl).trans esd43.symm); have qq2 := ((k287.2.2.1 _ _ rfl).trans esd44.symm); exact ⟨by omega, by omega⟩)⟩ k289 (by have qq0 := esd291.symm; omega)
                        · refine A_aload_n 0 d_MD_walk_423 rfl rfl ?_
                          refine A_iload d_MD_walk_424 rfl ?_
                          refine A_callV1 m_MD_isIn T_ok d_MD_walk_426 l_MD_443 k_MD_isIn (mi_s k40.1 sf_170) rfl (by decide +kernel) (by decide) (Nat.le_of_ble_eq_true rfl) (s_MD_isIn k40.1 (by have qq0 := esd41.symm; exact ⟨by omega, by omega⟩)) (fun r h298 hq => ?_)
                          obtain ⟨x300, rfl, bx300, rfl⟩ := hq
                          refine A_if_ne (tgt := 465) d_MD_walk_429 (by decide) (fun c301 => ?_) (fun c301 => ?_)
                          · refine A_aload_n 0 d_MD_walk_465 rfl rfl ?_
                            refine A_iload d_MD_walk_466 rfl ?_
                            have zf303 := ((k40.2.2.1 _ _ rfl).trans esd1.symm)
                            have zf304 := esd41.symm
                            have zf305 := esd42.symm
                            have zf306 := esd43.symm
                            have zf307 := esd44.symm
                            have zf308 := esd45.symm
                            refine A_callV1 m_MD_turned T_ok d_MD_walk_468 l_MD_446 k_MD_turned (mi_s k40.1 sf_170) rfl (by decide +kernel) (by decide) (Nat.le_of_ble_eq_true rfl) (s_MD_turned k40.1 (by omega) (by omega) (by have qq0 := esd41.symm; exact ⟨by omega, by omega⟩) (by have qq0 := esd42.symm; omega)) (fun r h302 hq => ?_)
                            obtain ⟨x310, rfl, ⟨_, _⟩, xx310, k309⟩ := hq
                            have k311 := kM_t k40 k309 (pm_s (by decide) (by decide))
                            obtain ⟨sd312, esd312⟩ : ∃ x, x = h302.2.1 170 70 := ⟨_, rfl⟩
                            have rsd312 : 0 ≤ sd312 ∧ sd312 ≤ 10 := (by rw [esd312]; exact mi_g k311.1 (by decide) mr_170_70)
                            obtain ⟨sd313, esd313⟩ : ∃ x, x = h302.2.1 170 71 := ⟨_, rfl⟩
                            have rsd313 : 0 ≤ sd313 ∧ sd313 ≤ 2010 := (by rw [esd313]; exact mi_g k311.1 (by decide) mr_170_71)
                            have yx3 := xx310
                            rw [← esd41, ← esd42, show h39.2.1 210 = h.2.1 210 from funext (fun k => k40.2.2.1 210 k rfl)] at yx3
                            obtain ⟨yB, yM⟩ := WB_t hVQ hn hB (by omega) (Or.inl yp) ⟨(((k309.2.2.1 _ _ rfl).trans esd45.symm).trans esd45.symm.symm), (((k309.2.2.2 _ _ rfl).trans esl46.symm).trans esl46.symm.symm), (((k309.2.2.2 _ _ rfl).trans esl47.symm).trans esl47.symm.symm), (by intro a ha; simp only [List.mem_cons, List.not_mem_nil, or_false] at ha; rcases ha with rfl | rfl | rfl | rfl | rfl | rfl ; exact (funext (fun k => (k309.2.2.2 187 k rfl))) ; exact (funext (fun k => (k309.2.2.2 188 k rfl))) ; exact (funext (fun k => (k309.2.2.2 189 k rfl))) ; exact (funext (fun k => (k309.2.2.2 190 k rfl))) ; exact (funext (fun k => (k309.2.2.2 199 k rfl))) ; exact (funext (fun k => (k309.2.2.2 200 k rfl)))), (by intro a ha; simp only [List.mem_cons, List.not_mem_nil, or_false] at ha; rcases ha with rfl | rfl | rfl ; exact (funext (fun k => (k309.2.2.1 185 k rfl))) ; exact (funext (fun k => (k309.2.2.1 186 k rfl))) ; exact (funext (fun k => (k309.2.2.1 196 k rfl))))⟩ esd41.symm ex269.symm (funext (fun k => (k309.2.2.1 217 k rfl))) (funext (fun k => (k309.2.2.1 219 k rfl))) (((k309.2.2.2 _ _ rfl).trans esl48.symm).trans esl48.symm.symm) (((k309.2.2.2 _ _ rfl).trans esl49.symm).trans esl49.symm.symm) yx3
                            have yk := WQ_k yB.1 hp0
                            refine A_istore_n 3 (L' := [some (av_R (some 170)), some (av_I a1), some (av_I (x12 + 4)), some (av_I x310), some (av_I i38), some (av_I x106), some (av_I x269)]) d_MD_walk_471 rfl (Nat.le_of_ble_eq_true rfl) rfl ?_
                            refine A_goto (tgt := 491) d_MD_walk_472 (by decide) ?_
                            refine A_aload_n 0 d_MD_walk_491 rfl rfl ?_
                            refine A_getIv (z := sd43) T_ok d_MD_walk_492 f_MD_405 (mi_s k311.1 sf_170) ((k309.2.2.1 _ _ rfl).trans esd43.symm) ?_
                            refine A_sipush d_MD_walk_495 rfl ?_
                            refine A_icmp_gt (tgt := 520) d_MD_walk_498 (by decide) (fun c => False.elim (by omega)) (fun c315 => ?_)
                            refine A_aload_n 0 d_MD_walk_501 rfl rfl ?_
                            refine A_getIv (z := sd44) T_ok d_MD_walk_502 f_MD_408 (mi_s k311.1 sf_170) ((k309.2.2.1 _ _ rfl).trans esd44.symm) ?_
                            refine A_bipush d_MD_walk_505 rfl ?_
                            refine A_icmp_gt (tgt := 520) d_MD_walk_507 (by decide) (fun c => False.elim (by omega)) (fun c317 => ?_)
                            refine A_aload_n 0 d_MD_walk_510 rfl rfl ?_
                            refine A_getIv (z := sd313) T_ok d_MD_walk_511 f_MD_402 (mi_s k311.1 sf_170) esd313.symm ?_
                            refine A_sipush d_MD_walk_514 rfl ?_
                            refine A_icmp_le (tgt := 524) d_MD_walk_517 (by decide) (fun c319 => ?_) (fun c319 => ?_)
                            · refine A_iconst d_MD_walk_524 rfl ?_
                              refine A_istore (L' := [some (av_R (some 170)), some (av_I a1), some (av_I (x12 + 4)), some (av_I x310), some (av_I 0), some (av_I x106), some (av_I x269)]) d_MD_walk_525 (Nat.le_of_ble_eq_true rfl) rfl ?_
                              refine A_goto (tgt := 79) d_MD_walk_527 (by decide) ?_
                              refine A_free (L' := [some (av_R (some 170)), some (av_I a1), some (av_I (x12 + 4)), some (av_I x310), some (av_I 0), none, none]) (And.intro rfl (And.intro rfl (And.intro rfl (And.intro rfl (And.intro rfl trivial))))) ?_
                              exact ih79 x310 0 h302 (by omega) (by omega) (by omega) (by omega) ⟨(by rw [((k309.2.2.1 _ _ rfl).trans esd43.symm), ((k309.2.2.1 _ _ rfl).trans esd44.symm)]; exact yB), (by have qq0 := esd313.symm; have qq1 := ((k309.2.2.1 _ _ rfl).trans esd43.symm); have qq2 := ((k309.2.2.1 _ _ rfl).trans esd44.symm); exact ⟨by omega, by omega⟩)⟩ k311 (by have qq0 := esd313.symm; omega)
                            · refine A_iconst d_MD_walk_520 rfl ?_
                              refine A_goto (tgt := 525) d_MD_walk_521 (by decide) ?_
                              refine A_istore (L' := [some (av_R (some 170)), some (av_I a1), some (av_I (x12 + 4)), some (av_I x310), some (av_I 1), some (av_I x106), some (av_I x269)]) d_MD_walk_525 (Nat.le_of_ble_eq_true rfl) rfl ?_
                              refine A_goto (tgt := 79) d_MD_walk_527 (by decide) ?_
                              refine A_free (L' := [some (av_R (some 170)), some (av_I a1), some (av_I (x12 + 4)), some (av_I x310), some (av_I 1), none, none]) (And.intro rfl (And.intro rfl (And.intro rfl (And.intro rfl (And.intro rfl trivial))))) ?_
                              exact ih79 x310 1 h302 (by omega) (by omega) (by omega) (by omega) ⟨(by rw [((k309.2.2.1 _ _ rfl).trans esd43.symm), ((k309.2.2.1 _ _ rfl).trans esd44.symm)]; exact yB), (by have qq0 := esd313.symm; have qq1 := ((k309.2.2.1 _ _ rfl).trans esd43.symm); have qq2 := ((k309.2.2.1 _ _ rfl).trans esd44.symm); exact ⟨by omega, by omega⟩)⟩ k311 (by have qq0 := esd313.symm; omega)
                          · refine A_aload_n 0 d_MD_walk_432 rfl rfl ?_
                            refine A_getAv (z := some 220) T_ok d_MD_walk_433 f_MD_163 (mi_s k40.1 sf_170) (mi_r k40.1 rfm_79) ?_
                            refine A_aload_n 0 d_MD_walk_436 rfl rfl ?_
                            refine A_getIv (z := sd41) T_ok d_MD_walk_437 f_MD_399 (mi_s k40.1 sf_170) esd41.symm ?_
                            refine A_iconst d_MD_walk_440 rfl ?_
                            refine A_pc (pc' := 441) rfl ?_
                            refine A_isubv (z := (sd41 - 1)) d_MD_walk_441 (w32_to (by omega) (by unfold i32; omega)) ?_
                            refine A_iconst d_MD_walk_442 rfl ?_
                            refine A_zastorek (KR := kM (pm [11, 12, 65, 66, 70, 71, 72, 73, 74, 75, 76, 77, 78] [185, 186, 187, 188, 189, 190, 191, 192, 193, 194, 195, 196, 197, 198, 199, 200, 217, 218, 219, 220]) h) d_MD_walk_443 (mi_s k40.1 sf_220) (by omega) (by omega) (by omega) (kM_i k40 (by decide) rfl (mr_220 _) (by omega) (by omega)) (fun h322 k323 eh322 => ?_)
                            have zb1 : h322.2.1 211 = h.2.1 211 := funext (fun k => k323.2.2.1 211 k rfl)
                            have zb2 : h322.2.1 212 = h.2.1 212 := funext (fun k => k323.2.2.1 212 k rfl)
                            refine A_aload_n 0 d_MD_walk_444 rfl rfl ?_
                            refine A_iload d_MD_walk_445 rfl ?_
                            refine A_aload_n 0 d_MD_walk_447 rfl rfl ?_
                            refine A_pc (pc' := 448) rfl ?_
                            refine A_getAv (z := some 218) T_ok d_MD_walk_448 f_MD_157 (mi_s k323.1 sf_170) (mi_r k323.1 rfm_68) ?_
                            refine A_aload_n 0 d_MD_walk_451 rfl rfl ?_
                            refine A_getIv (z := sd41) T_ok d_MD_walk_452 f_MD_399 (mi_s k323.1 sf_170) ((eh322.1 _ _ (fun q => absurd q (by decide))).trans esd41.symm) ?_
                            refine A_iconst d_MD_walk_455 rfl ?_
                            refine A_isubv (z := (sd41 - 1)) d_MD_walk_456 (w32_to (by omega) (by unfold i32; omega)) ?_
                            refine A_ialoadn (lo := 0) (hi := 2001) d_MD_walk_457 (mi_s k323.1 sf_218) (by omega) (by omega) (mi_g k323.1 (by decide) (mr_218 _)) (fun x326 ex326 _ _ => ?_)
                            have fx326 := ex326.trans ((eh322.1 218 ((sd41 - 1)).toNat (fun q => absurd q (by decide))))
                            have yx326 : 1 ≤ x326 ∧ x326 ≤ 2000 := (by omega)
                            refine A_pc (pc' := 458) rfl ?_
                            have zf328 := ((eh322.1 _ _ (fun q => absurd q (by decide))).trans ((k40.2.2.1 _ _ rfl).trans esd1.symm))
                            have zf329 := ((eh322.1 _ _ (fun q => absurd q (by decide))).trans esd41.symm)
                            have zf330 := ((eh322.1 _ _ (fun q => absurd q (by decide))).trans esd42.symm)
                            have zf331 := ((eh322.1 _ _ (fun q => absurd q (by decide))).trans esd43.symm)
                            have zf332 := ((eh322.1 _ _ (fun q => absurd q (by decide))).trans esd44.symm)
                            have zf333 := ((eh322.1 _ _ (fun q => absurd q (by decide))).trans esd45.symm)
                            refine A_callV2 m_MD_behindColon T_ok d_MD_walk_458 l_MD_439 k_MD_behindColon (mi_s k323.1 sf_170) rfl (by decide +kernel) (by decide) (Nat.le_of_ble_eq_true rfl) (s_MD_behindColon k323.1 (by omega) (by omega) (by omega) (by omega) (by rw [zb1, zb2]; intro j hj; have q1 := (yu2 j (by omega)).1; omega)) (fun r h327 hq => ?_)
                            obtain ⟨x335, rfl, ⟨_, _⟩, xx335, rfl⟩ := hq
                            refine A_istore_n 3 (L' := [some (av_R (some 170)), some (av_I a1), some (av_I (x12 + 4)), some (av_I x335), some (av_I i38), some (av_I x106), some (av_I x269)]) d_MD_walk_461 rfl (Nat.le_of_ble_eq_true rfl) rfl ?_
                            have yq1 := xx278
                            have yq2 := xx335
                            rw [za1, za2, show ((1 : Int) - 1).toNat = 0 from rfl] at yq1
                            rw [zb1, zb2] at yq2
                            have yq3 := (yu2 (x326 - 1).toNat (by omega)).2
                            have yM : i37 + 1 ≤ x335 := (by omega)
                            have yB : WB h stk (x12 + 4) x335 sd43 sd44 h322 := WB_3 hVQ hn hB (by omega) yp ⟨(((eh322.1 _ _ (fun q => absurd q (by decide))).trans esd41.symm).trans esd41.symm.symm), (funext (fun k => (eh322.1 217 k (fun q => absurd q (by decide))))), (funext (fun k => (eh322.1 218 k (fun q => absurd q (by decide))))), (funext (fun k => (eh322.1 219 k (fun q => absurd q (by decide))))), (((congrFun (congrFun eh322.2.2 _) _).trans esl48.symm).trans esl48.symm.symm), (((congrFun (congrFun eh322.2.2 _) _).trans esl49.symm).trans esl49.symm.symm)⟩ ⟨(((eh322.1 _ _ (fun q => absurd q (by decide))).trans esd45.symm).trans esd45.symm.symm), (((congrFun (congrFun eh322.2.2 _) _).trans esl46.symm).trans esl46.symm.symm), (((congrFun (congrFun eh322.2.2 _) _).trans esl47.symm).trans esl47.symm.symm), (by intro a ha; simp only [List.mem_cons, List.not_mem_nil, or_false] at ha; rcases ha with rfl | rfl | rfl | rfl | rfl | rfl ; exact (funext (fun k => (congrFun (congrFun eh322.2.2 187) k))) ; exact (funext (fun k => (congrFun (congrFun eh322.2.2 188) k))) ; exact (funext (fun k => (congrFun (congrFun eh322.2.2 189) k))) ; exact (funext (fun k => (congrFun (congrFun eh322.2.2 190) k))) ; exact (funext (fun k => (congrFun (congrFun eh322.2.2 199) k))) ; exact (funext (fun k => (congrFun (congrFun eh322.2.2 200) k)))), (by intro a ha; simp only [List.mem_cons, List.not_mem_nil, or_false] at ha; rcases ha with rfl | rfl | rfl ; exact (funext (fun k => (eh322.1 185 k (fun q => absurd q (by decide))))) ; exact (funext (fun k => (eh322.1 186 k (fun q => absurd q (by decide))))) ; exact (funext (fun k => (eh322.1 196 k (fun q => absurd q (by decide))))))⟩ esd41.symm ex269.symm fx326.symm yq2
                            have yk := WQ_k yB.1 hp0
                            refine A_goto (tgt := 472) d_MD_walk_462 (by decide) ?_
                            refine A_goto (tgt := 491) d_MD_walk_472 (by decide) ?_
                            refine A_aload_n 0 d_MD_walk_491 rfl rfl ?_
                            refine A_getIv (z := sd43) T_ok d_MD_walk_492 f_MD_405 (mi_s k323.1 sf_170) ((eh322.1 _ _ (fun q => absurd q (by decide))).trans esd43.symm) ?_
                            refine A_sipush d_MD_walk_495 rfl ?_
                            refine A_icmp_gt (tgt := 520) d_MD_walk_498 (by decide) (fun c => False.elim (by omega)) (fun c337 => ?_)
                            refine A_aload_n 0 d_MD_walk_501 rfl rfl ?_
                            refine A_getIv (z := sd44) T_ok d_MD_walk_502 f_MD_408 (mi_s k323.1 sf_170) ((eh322.1 _ _ (fun q => absurd q (by decide))).trans esd44.symm) ?_
                            refine A_bipush d_MD_walk_505 rfl ?_
                            refine A_icmp_gt (tgt := 520) d_MD_walk_507 (by decide) (fun c => False.elim (by omega)) (fun c339 => ?_)
                            refine A_aload_n 0 d_MD_walk_510 rfl rfl ?_
                            refine A_getIv (z := sd42) T_ok d_MD_walk_511 f_MD_402 (mi_s k323.1 sf_170) ((eh322.1 _ _ (fun q => absurd q (by decide))).trans esd42.symm) ?_
                            refine A_sipush d_MD_walk_514 rfl ?_
                            refine A_icmp_le (tgt := 524) d_MD_walk_517 (by decide) (fun c341 => ?_) (fun c => False.elim (by omega))
                            refine A_iconst d_MD_walk_524 rfl ?_
                            refine A_istore (L' := [some (av_R (some 170)), some (av_I a1), some (av_I (x12 + 4)), some (av_I x335), some (av_I 0), some (av_I x106), some (av_I x269)]) d_MD_walk_525 (Nat.le_of_ble_eq_true rfl) rfl ?_
                            refine A_goto (tgt := 79) d_MD_walk_527 (by decide) ?_
                            refine A_free (L' := [some (av_R (some 170)), some (av_I a1), some (av_I (x12 + 4)), some (av_I x335), some (av_I 0), none, none]) (And.intro rfl (And.intro rfl (And.intro rfl (And.intro rfl (And.intro rfl trivial))))) ?_
                            exact ih79 x335 0 h322 (by omega) (by omega) (by omega) (by omega) ⟨(by rw [((eh322.1 _ _ (fun q => absurd q (by decide))).trans esd43.symm), ((eh322.1 _ _ (fun q => absurd q (by decide))).trans esd44.symm)]; exact yB), (by have qq0 := ((eh322.1 _ _ (fun q => absurd q (by decide))).trans esd42.symm); have qq1 := ((eh322.1 _ _ (fun q => absurd q (by decide))).trans esd43.symm); have qq2 := ((eh322.1 _ _ (fun q => absurd q (by decide))).trans esd44.symm); exact ⟨by omega, by omega⟩)⟩ k323 (by have qq0 := ((eh322.1 _ _ (fun q => absurd q (by decide))).trans esd42.symm); omega)
                    · refine A_aload_n 0 d_MD_walk_360 rfl rfl ?_
                      refine A_iload_n 3 d_MD_walk_361 rfl rfl ?_
                      have zf343 := ((k40.2.2.1 _ _ rfl).trans esd1.symm)
                      have zf344 := esd41.symm
                      have zf345 := esd42.symm
                      have zf346 := esd43.symm
                      have zf347 := esd44.symm
                      have zf348 := esd45.symm
                      refine A_callV1 m_MD_opening T_ok d_MD_walk_362 l_MD_436 k_MD_opening (mi_s k40.1 sf_170) rfl (by decide +kernel) (by decide) (Nat.le_of_ble_eq_true rfl) (s_MD_opening k40.1 (by omega) (by omega)) (fun r h342 hq => ?_)
                      obtain ⟨x350, rfl, ⟨_, _⟩, xx350, rfl⟩ := hq
                      have yp : h.2.1 201 (i37).toNat = 6 := (by omega)
                      obtain ⟨pp, yp1, yp2, yp3, yp4⟩ := WB_6p hVQ hB (by omega) yp
                      have ym : x350 = (pp : Int) := xx350.trans ((k40.2.2.1 210 _ rfl).trans yp1)
                      obtain rfl : pp = (x350).toNat := (by omega)
                      refine A_istore (L' := [some (av_R (some 170)), some (av_I a1), some (av_I (x12 + 4)), some (av_I i37), some (av_I i38), some (av_I x106), some (av_I x350)]) d_MD_walk_365 (Nat.le_of_ble_eq_true rfl) rfl ?_
                      refine A_aload_n 0 d_MD_walk_367 rfl rfl ?_
                      refine A_aload_n 0 d_MD_walk_368 rfl rfl ?_
                      refine A_getAv (z := some 202) T_ok d_MD_walk_369 f_MD_109 (mi_s k40.1 sf_170) (mi_r k40.1 rfm_45) ?_
                      refine A_iload d_MD_walk_372 rfl ?_
                      refine A_pc (pc' := 374) rfl ?_
                      refine A_ialoadn (lo := 0) (hi := 64) d_MD_walk_374 (mi_s k40.1 sf_202) (by omega) (by omega) (mi_g k40.1 (by decide) (mr_202 _)) (fun x352 ex352 _ _ => ?_)
                      have fx352 := ex352.trans (k40.2.2.1 202 _ rfl)
                      have yx352 : 1 ≤ x352 ∧ x352 ≤ 16 := (by omega)
                      refine A_aload_n 0 d_MD_walk_375 rfl rfl ?_
                      refine A_getAv (z := some 203) T_ok d_MD_walk_376 f_MD_112 (mi_s k40.1 sf_170) (mi_r k40.1 rfm_46) ?_
                      refine A_iload d_MD_walk_379 rfl ?_
                      refine A_ialoadn (lo := 0) (hi := 16) d_MD_walk_381 (mi_s k40.1 sf_203) (by omega) (by omega) (mi_g k40.1 (by decide) (mr_203 _)) (fun x354 ex354 _ _ => ?_)
                      have fx354 := ex354.trans (k40.2.2.1 203 _ rfl)
                      have yx354 : 1 ≤ x354 ∧ x354 ≤ 16 := (by omega)
                      have zf356 := ((k40.2.2.1 _ _ rfl).trans esd1.symm)
                      have zf357 := esd41.symm
                      have zf358 := esd42.symm
                      have zf359 := esd43.symm
                      have zf360 := esd44.symm
                      have zf361 := esd45.symm
                      refine A_callV2 m_MD_scale T_ok d_MD_walk_382 l_MD_433 k_MD_scale (mi_s k40.1 sf_170) rfl (by decide +kernel) (by decide) (Nat.le_of_ble_eq_true rfl) (s_MD_scale k40.1 (by omega) (by omega) (by omega) (by omega) (by have qq0 := esl48.symm; have qq1 := esl49.symm; exact ⟨by omega, by omega, by omega, by omega⟩)) (fun r h355 hq => ?_)
                      obtain ⟨rfl, xk362, k362⟩ := hq
                      have k363 := kM_t k40 k362 (pm_s (by decide) (by decide))
                      obtain ⟨sl364, esl364⟩ : ∃ x, x = h355.2.2.1 170 77 := ⟨_, rfl⟩
                      have rsl364 : (-9223372036854775808) ≤ sl364 ∧ sl364 ≤ 9223372036854775807 := (by rw [esl364]; exact mi_l k363.1 (by decide) mq_170_77)
                      obtain ⟨sl365, esl365⟩ : ∃ x, x = h355.2.2.1 170 78 := ⟨_, rfl⟩
                      have rsl365 : (-9223372036854775808) ≤ sl365 ∧ sl365 ≤ 9223372036854775807 := (by rw [esl365]; exact mi_l k363.1 (by decide) mq_170_78)
                      have yB : WB h stk (x12 + 4) (i37 + 1) sd43 sd44 h355 := WB_6 hVQ hB (by omega) yp ⟨(((k362.2.2.1 _ _ rfl).trans esd45.symm).trans esd45.symm.symm), (((k362.2.2.2 _ _ rfl).trans esl46.symm).trans esl46.symm.symm), (((k362.2.2.2 _ _ rfl).trans esl47.symm).trans esl47.symm.symm), (by intro a ha; simp only [List.mem_cons, List.not_mem_nil, or_false] at ha; rcases ha with rfl | rfl | rfl | rfl | rfl | rfl ; exact (funext (fun k => (k362.2.2.2 187 k rfl))) ; exact (funext (fun k => (k362.2.2.2 188 k rfl))) ; exact (funext (fun k => (k362.2.2.2 189 k rfl))) ; exact (funext (fun k => (k362.2.2.2 190 k rfl))) ; exact (funext (fun k => (k362.2.2.2 199 k rfl))) ; exact (funext (fun k => (k362.2.2.2 200 k rfl)))), (by intro a ha; simp only [List.mem_cons, List.not_mem_nil, or_false] at ha; rcases ha with rfl | rfl | rfl ; exact (funext (fun k => (k362.2.2.1 185 k rfl))) ; exact (funext (fun k => (k362.2.2.1 186 k rfl))) ; exact (funext (fun k => (k362.2.2.1 196 k rfl))))⟩ (((k362.2.2.1 _ _ rfl).trans esd41.symm).trans esd41.symm.symm) (funext (fun k => (k362.2.2.1 217 k rfl))) (funext (fun k => (k362.2.2.1 218 k rfl))) (funext (fun k => (k362.2.2.1 219 k rfl))) yp1 rfl rfl fx352 fx354 xk362
                      have yk := WQ_k yB.1 hp0
                      refine A_iincv (z := (i37 + 1)) (L' := [some (av_R (some 170)), some (av_I a1), some (av_I (x12 + 4)), some (av_I (i37 + 1)), some (av_I i38), some (av_I x106), some (av_I x350)]) d_MD_walk_385 rfl (w32_to (by omega) (by unfold i32; omega)) rfl ?_
                      refine A_goto (tgt := 491) d_MD_walk_388 (by decide) ?_
                      refine A_aload_n 0 d_MD_walk_491 rfl rfl ?_
                      refine A_getIv (z := sd43) T_ok d_MD_walk_492 f_MD_405 (mi_s k363.1 sf_170) ((k362.2.2.1 _ _ rfl).trans esd43.symm) ?_
                      refine A_sipush d_MD_walk_495 rfl ?_
                      refine A_icmp_gt (tgt := 520) d_MD_walk_498 (by decide) (fun c => False.elim (by omega)) (fun c367 => ?_)
                      refine A_aload_n 0 d_MD_walk_501 rfl rfl ?_
                      refine A_getIv (z := sd44) T_ok d_MD_walk_502 f_MD_408 (mi_s k363.1 sf_170) ((k362.2.2.1 _ _ rfl).trans esd44.symm) ?_
                      refine A_bipush d_MD_walk_505 rfl ?_
                      refine A_icmp_gt (tgt := 520) d_MD_walk_507 (by decide) (fun c => False.elim (by omega)) (fun c369 => ?_)
                      refine A_aload_n 0 d_MD_walk_510 rfl rfl ?_
                      refine A_getIv (z := sd42) T_ok d_MD_walk_511 f_MD_402 (mi_s k363.1 sf_170) ((k362.2.2.1 _ _ rfl).trans esd42.symm) ?_
                      refine A_sipush d_MD_walk_514 rfl ?_
                      refine A_icmp_le (tgt := 524) d_MD_walk_517 (by decide) (fun c371 => ?_) (fun c => False.elim (by omega))
                      refine A_iconst d_MD_walk_524 rfl ?_
                      refine A_istore (L' := [some (av_R (some 170)), some (av_I a1), some (av_I (x12 + 4)), some (av_I (i37 + 1)), some (av_I 0), some (av_I x106), some (av_I x350)]) d_MD_walk_525 (Nat.le_of_ble_eq_true rfl) rfl ?_
                      refine A_goto (tgt := 79) d_MD_walk_527 (by decide) ?_
                      refine A_free (L' := [some (av_R (some 170)), some (av_I a1), some (av_I (x12 + 4)), some (av_I (i37 + 1)), some (av_I 0), none, none]) (And.intro rfl (And.intro rfl (And.intro rfl (And.intro rfl (And.intro rfl trivial))))) ?_
                      exact ih79 (i37 + 1) 0 h355 (by omega) (by omega) (by omega) (by omega) ⟨(by rw [((k362.2.2.1 _ _ rfl).trans esd43.symm), ((k362.2.2.1 _ _ rfl).trans esd44.symm)]; exact yB), (by have qq0 := ((k362.2.2.1 _ _ rfl).trans esd42.symm); have qq1 := ((k362.2.2.1 _ _ rfl).trans esd43.symm); have qq2 := ((k362.2.2.1 _ _ rfl).trans esd44.symm); exact ⟨by omega, by omega⟩)⟩ k363 (by have qq0 := ((k362.2.2.1 _ _ rfl).trans esd42.symm); omega)
                  · have yp : h.2.1 201 (i37).toNat = 5 := (by omega)
                    have yv := VQ_5 hVQ (k := (i37).toNat) (by omega) yp
                    refine A_aload_n 0 d_MD_walk_331 rfl rfl ?_
                    refine A_aload_n 0 d_MD_walk_332 rfl rfl ?_
                    refine A_getAv (z := some 203) T_ok d_MD_walk_333 f_MD_112 (mi_s k40.1 sf_170) (mi_r k40.1 rfm_46) ?_
                    refine A_iload_n 3 d_MD_walk_336 rfl rfl ?_
                    refine A_ialoadn (lo := 0) (hi := 16) d_MD_walk_337 (mi_s k40.1 sf_203) (by omega) (by omega) (mi_g k40.1 (by decide) (mr_203 _)) (fun x373 ex373 _ _ => ?_)
                    have fx373 := ex373.trans (k40.2.2.1 203 _ rfl)
                    have yx373 : 1 ≤ x373 ∧ x373 ≤ 16 := (by omega)
                    refine A_pc (pc' := 338) rfl ?_
                    refine A_aload_n 0 d_MD_walk_338 rfl rfl ?_
                    refine A_getAv (z := some 202) T_ok d_MD_walk_339 f_MD_109 (mi_s k40.1 sf_170) (mi_r k40.1 rfm_45) ?_
                    refine A_iload_n 3 d_MD_walk_342 rfl rfl ?_
                    refine A_ialoadn (lo := 0) (hi := 64) d_MD_walk_343 (mi_s k40.1 sf_202) (by omega) (by omega) (mi_g k40.1 (by decide) (mr_202 _)) (fun x375 ex375 _ _ => ?_)
                    have fx375 := ex375.trans (k40.2.2.1 202 _ rfl)
                    have yx375 : 1 ≤ x375 ∧ x375 ≤ 16 := (by omega)
                    have hB1 : WB h stk (x12 + 4) i37 sd43 sd44 h39 := WB_m hB ⟨(esd41.symm.trans esd41.symm.symm), (funext (fun k => rfl)), (funext (fun k => rfl)), (funext (fun k => rfl)), (esl48.symm.trans esl48.symm.symm), (esl49.symm.trans esl49.symm.symm)⟩ ⟨(esd45.symm.trans esd45.symm.symm), (esl46.symm.trans esl46.symm.symm), (esl47.symm.trans esl47.symm.symm), (by intro a ha; simp only [List.mem_cons, List.not_mem_nil, or_false] at ha; rcases ha with rfl | rfl | rfl | rfl | rfl | rfl ; exact (funext (fun k => rfl)) ; exact (funext (fun k => rfl)) ; exact (funext (fun k => rfl)) ; exact (funext (fun k => rfl)) ; exact (funext (fun k => rfl)) ; exact (funext (fun k => rfl))), (by intro a ha; simp only [List.mem_cons, List.not_mem_nil, or_false] at ha; rcases ha with rfl | rfl | rfl ; exact (funext (fun k => rfl)) ; exact (funext (fun k => rfl)) ; exact (funext (fun k => rfl)))⟩ (Or.inl (by omega)) (by omega) (Or.inl (by omega))
                    have zf377 := ((k40.2.2.1 _ _ rfl).trans esd1.symm)
                    have zf378 := esd41.symm
                    have zf379 := esd42.symm
                    have zf380 := esd43.symm
                    have zf381 := esd44.symm
                    have zf382 := esd45.symm
                    refine A_callV2 m_MD_scale T_ok d_MD_walk_344 l_MD_433 k_MD_scale (mi_s k40.1 sf_170) rfl (by decide +kernel) (by decide) (Nat.le_of_ble_eq_true rfl) (s_MD_scale k40.1 (by omega) (by omega) (by omega) (by omega) (by have qq0 := esl48.symm; have qq1 := esl49.symm; exact ⟨by omega, by omega, by omega, by omega⟩)) (fun r h376 hq => ?_)
                    obtain ⟨rfl, xk383, k383⟩ := hq
                    have k384 := kM_t k40 k383 (pm_s (by decide) (by decide))
                    obtain ⟨sl385, esl385⟩ : ∃ x, x = h376.2.2.1 170 77 := ⟨_, rfl⟩
                    have rsl385 : (-9223372036854775808) ≤ sl385 ∧ sl385 ≤ 9223372036854775807 := (by rw [esl385]; exact mi_l k384.1 (by decide) mq_170_77)
                    obtain ⟨sl386, esl386⟩ : ∃ x, x = h376.2.2.1 170 78 := ⟨_, rfl⟩
                    have rsl386 : (-9223372036854775808) ≤ sl386 ∧ sl386 ≤ 9223372036854775807 := (by rw [esl386]; exact mi_l k384.1 (by decide) mq_170_78)
                    have yB : WB h stk (x12 + 4) (i37 + 1) sd43 sd44 h376 := WB_5 hVQ hB1 (by omega) yp ⟨(((k383.2.2.1 _ _ rfl).trans esd45.symm).trans esd45.symm.symm), (((k383.2.2.2 _ _ rfl).trans esl46.symm).trans esl46.symm.symm), (((k383.2.2.2 _ _ rfl).trans esl47.symm).trans esl47.symm.symm), (by intro a ha; simp only [List.mem_cons, List.not_mem_nil, or_false] at ha; rcases ha with rfl | rfl | rfl | rfl | rfl | rfl ; exact (funext (fun k => (k383.2.2.2 187 k rfl))) ; exact (funext (fun k => (k383.2.2.2 188 k rfl))) ; exact (funext (fun k => (k383.2.2.2 189 k rfl))) ; exact (funext (fun k => (k383.2.2.2 190 k rfl))) ; exact (funext (fun k => (k383.2.2.2 199 k rfl))) ; exact (funext (fun k => (k383.2.2.2 200 k rfl)))), (by intro a ha; simp only [List.mem_cons, List.not_mem_nil, or_false] at ha; rcases ha with rfl | rfl | rfl ; exact (funext (fun k => (k383.2.2.1 185 k rfl))) ; exact (funext (fun k => (k383.2.2.1 186 k rfl))) ; exact (funext (fun k => (k383.2.2.1 196 k rfl))))⟩ (((k383.2.2.1 _ _ rfl).trans esd41.symm).trans esd41.symm.symm) (funext (fun k => (k383.2.2.1 217 k rfl))) (funext (fun k => (k383.2.2.1 218 k rfl))) (funext (fun k => (k383.2.2.1 219 k rfl))) rfl rfl fx373 fx375 xk383
                    have yk := WQ_k yB.1 hp0
                    refine A_iincv (z := (i37 + 1)) (L' := [some (av_R (some 170)), some (av_I a1), some (av_I (x12 + 4)), some (av_I (i37 + 1)), some (av_I i38), some (av_I x106), none]) d_MD_walk_347 rfl (w32_to (by omega) (by unfold i32; omega)) rfl ?_
                    refine A_goto (tgt := 491) d_MD_walk_350 (by decide) ?_
                    refine A_aload_n 0 d_MD_walk_491 rfl rfl ?_
                    refine A_getIv (z := sd43) T_ok d_MD_walk_492 f_MD_405 (mi_s k384.1 sf_170) ((k383.2.2.1 _ _ rfl).trans esd43.symm) ?_
                    refine A_sipush d_MD_walk_495 rfl ?_
                    refine A_icmp_gt (tgt := 520) d_MD_walk_498 (by decide) (fun c => False.elim (by omega)) (fun c388 => ?_)
                    refine A_aload_n 0 d_MD_walk_501 rfl rfl ?_
                    refine A_getIv (z := sd44) T_ok d_MD_walk_502 f_MD_408 (mi_s k384.1 sf_170) ((k383.2.2.1 _ _ rfl).trans esd44.symm) ?_
                    refine A_bipush d_MD_walk_505 rfl ?_
                    refine A_icmp_gt (tgt := 520) d_MD_walk_507 (by decide) (fun c => False.elim (by omega)) (fun c390 => ?_)
                    refine A_aload_n 0 d_MD_walk_510 rfl rfl ?_
                    refine A_getIv (z := sd42) T_ok d_MD_walk_511 f_MD_402 (mi_s k384.1 sf_170) ((k383.2.2.1 _ _ rfl).trans esd42.symm) ?_
                    refine A_sipush d_MD_walk_514 rfl ?_
                    refine A_icmp_le (tgt := 524) d_MD_walk_517 (by decide) (fun c392 => ?_) (fun c => False.elim (by omega))
                    refine A_iconst d_MD_walk_524 rfl ?_
                    refine A_istore (L' := [some (av_R (some 170)), some (av_I a1), some (av_I (x12 + 4)), some (av_I (i37 + 1)), some (av_I 0), some (av_I x106), none]) d_MD_walk_525 (Nat.le_of_ble_eq_true rfl) rfl ?_
                    refine A_goto (tgt := 79) d_MD_walk_527 (by decide) ?_
                    refine A_free (L' := [some (av_R (some 170)), some (av_I a1), some (av_I (x12 + 4)), some (av_I (i37 + 1)), some (av_I 0), none, none]) (And.intro rfl (And.intro rfl (And.intro rfl (And.intro rfl (And.intro rfl trivial))))) ?_
                    exact ih79 (i37 + 1) 0 h376 (by omega) (by omega) (by omega) (by omega) ⟨(by rw [((k383.2.2.1 _ _ rfl).trans esd43.symm), ((k383.2.2.1 _ _ rfl).trans esd44.symm)]; exact yB), (by have qq0 := ((k383.2.2.1 _ _ rfl).trans esd42.symm); have qq1 := ((k383.2.2.1 _ _ rfl).trans esd43.symm); have qq2 := ((k383.2.2.1 _ _ rfl).trans esd44.symm); exact ⟨by omega, by omega⟩)⟩ k384 (by have qq0 := ((k383.2.2.1 _ _ rfl).trans esd42.symm); omega)
                · refine A_aload_n 0 d_MD_walk_123 rfl rfl ?_
                  refine A_dupR d_MD_walk_124 ?_
                  refine A_getIv (z := sd42) T_ok d_MD_walk_125 f_MD_402 (mi_s k40.1 sf_170) esd42.symm ?_
                  refine A_iconst d_MD_walk_128 rfl ?_
                  refine A_iaddv (z := (sd42 + 1)) d_MD_walk_129 (w32_to (by omega) (by unfold i32; omega)) ?_
                  refine A_pc (pc' := 130) rfl ?_
                  refine A_putIk (KR := kM (pm [11, 12, 65, 66, 70, 71, 72, 73, 74, 75, 76, 77, 78] [185, 186, 187, 188, 189, 190, 191, 192, 193, 194, 195, 196, 197, 198, 199, 200, 217, 218, 219, 220]) h) T_ok d_MD_walk_130 f_MD_402 (mi_s k40.1 sf_170) fin_f (kM_i k40 (by decide) (by decide) mr_170_71 (by omega) (by omega)) (fun h394 k395 eh394 => ?_)
                  refine A_iload d_MD_walk_133 rfl ?_
                  refine A_if_ne (tgt := 170) d_MD_walk_135 (by decide) (fun c396 => ?_) (fun c => False.elim (by omega))
                  refine A_iload d_MD_walk_170 rfl ?_
                  refine A_iconst d_MD_walk_172 rfl ?_
                  refine A_icmp_ne (tgt := 237) d_MD_walk_173 (by decide) (fun c397 => ?_) (fun c => False.elim (by omega))
                  refine A_iload d_MD_walk_237 rfl ?_
                  refine A_iconst d_MD_walk_239 rfl ?_
                  refine A_icmp_ne (tgt := 325) d_MD_walk_240 (by decide) (fun c398 => ?_) (fun c => False.elim (by omega))
                  refine A_iload d_MD_walk_325 rfl ?_
                  refine A_iconst d_MD_walk_327 rfl ?_
                  refine A_icmp_ne (tgt := 353) d_MD_walk_328 (by decide) (fun c => False.elim (by omega)) (fun c399 => ?_)
                  have yp : h.2.1 201 (i37).toNat = 5 := (by omega)
                  have yv := VQ_5 hVQ (k := (i37).toNat) (by omega) yp
                  refine A_aload_n 0 d_MD_walk_331 rfl rfl ?_
                  refine A_aload_n 0 d_MD_walk_332 rfl rfl ?_
                  refine A_getAv (z := some 203) T_ok d_MD_walk_333 f_MD_112 (mi_s k395.1 sf_170) (mi_r k395.1 rfm_46) ?_
                  refine A_iload_n 3 d_MD_walk_336 rfl rfl ?_
                  refine A_ialoadn (lo := 0) (hi := 16) d_MD_walk_337 (mi_s k395.1 sf_203) (by omega) (by omega) (mi_g k395.1 (by decide) (mr_203 _)) (fun x401 ex401 _ _ => ?_)
                  have fx401 := ex401.trans (k395.2.2.1 203 _ rfl)
                  have yx401 : 1 ≤ x401 ∧ x401 ≤ 16 := (by omega)
                  refine A_pc (pc' := 338) rfl ?_
                  refine A_aload_n 0 d_MD_walk_338 rfl rfl ?_
                  refine A_getAv (z := some 202) T_ok d_MD_walk_339 f_MD_109 (mi_s k395.1 sf_170) (mi_r k395.1 rfm_45) ?_
                  refine A_iload_n 3 d_MD_walk_342 rfl rfl ?_
                  refine A_ialoadn (lo := 0) (hi := 64) d_MD_walk_343 (mi_s k395.1 sf_202) (by omega) (by omega) (mi_g k395.1 (by decide) (mr_202 _)) (fun x403 ex403 _ _ => ?_)
                  have fx403 := ex403.trans (k395.2.2.1 202 _ rfl)
                  have yx403 : 1 ≤ x403 ∧ x403 ≤ 16 := (by omega)
                  have hB1 : WB h stk (x12 + 4) i37 sd43 sd44 h394 := WB_m hB ⟨(((eh394.1 _ _ (fun _ => by decide)).trans esd41.symm).trans esd41.symm.symm), (funext (fun k => (eh394.1 217 k (fun q => absurd q (by decide))))), (funext (fun k => (eh394.1 218 k (fun q => absurd q (by decide))))), (funext (fun k => (eh394.1 219 k (fun q => absurd q (by decide))))), (((congrFun (congrFun eh394.2.2 _) _).trans esl48.symm).trans esl48.symm.symm), (((congrFun (congrFun eh394.2.2 _) _).trans esl49.symm).trans esl49.symm.symm)⟩ ⟨(((eh394.1 _ _ (fun _ => by decide)).trans esd45.symm).trans esd45.symm.symm), (((congrFun (congrFun eh394.2.2 _) _).trans esl46.symm).trans esl46.symm.symm), (((congrFun (congrFun eh394.2.2 _) _).trans esl47.symm).trans esl47.symm.symm), (by intro a ha; simp only [List.mem_cons, List.not_mem_nil, or_false] at ha; rcases ha with rfl | rfl | rfl | rfl | rfl | rfl ; exact (funext (fun k => (congrFun (congrFun eh394.2.2 187) k))) ; exact (funext (fun k => (congrFun (congrFun eh394.2.2 188) k))) ; exact (funext (fun k => (congrFun (congrFun eh394.2.2 189) k))) ; exact (funext (fun k => (congrFun (congrFun eh394.2.2 190) k))) ; exact (funext (fun k => (congrFun (congrFun eh394.2.2 199) k))) ; exact (funext (fun k => (congrFun (congrFun eh394.2.2 200) k)))), (by intro a ha; simp only [List.mem_cons, List.not_mem_nil, or_false] at ha; rcases ha with rfl | rfl | rfl ; exact (funext (fun k => (eh394.1 185 k (fun q => absurd q (by decide))))) ; exact (funext (fun k => (eh394.1 186 k (fun q => absurd q (by decide))))) ; exact (funext (fun k => (eh394.1 196 k (fun q => absurd q (by decide))))))⟩ (Or.inl (by omega)) (by omega) (Or.inl (by omega))
                  have zf405 := ((eh394.1 _ _ (fun _ => by decide)).trans ((k40.2.2.1 _ _ rfl).trans esd1.symm))
                  have zf406 := ((eh394.1 _ _ (fun _ => by decide)).trans esd41.symm)
                  have zf407 := eh394.2.1
                  have zf408 := ((eh394.1 _ _ (fun _ => by decide)).trans esd43.symm)
                  have zf409 := ((eh394.1 _ _ (fun _ => by decide)).trans esd44.symm)
                  have zf410 := ((eh394.1 _ _ (fun _ => by decide)).trans esd45.symm)
                  refine A_callV2 m_MD_scale T_ok d_MD_walk_344 l_MD_433 k_MD_scale (mi_s k395.1 sf_170) rfl (by decide +kernel) (by decide) (Nat.le_of_ble_eq_true rfl) (s_MD_scale k395.1 (by omega) (by omega) (by omega) (by omega) (by have qq0 := ((congrFun (congrFun eh394.2.2 _) _).trans esl48.symm); have qq1 := ((congrFun (congrFun eh394.2.2 _) _).trans esl49.symm); exact ⟨by omega, by omega, by omega, by omega⟩)) (fun r h404 hq => ?_)
                  obtain ⟨rfl, xk411, k411⟩ := hq
                  have k412 := kM_t k395 k411 (pm_s (by decide) (by decide))
                  obtain ⟨sl413, esl413⟩ : ∃ x, x = h404.2.2.1 170 77 := ⟨_, rfl⟩
                  have rsl413 : (-9223372036854775808) ≤ sl413 ∧ sl413 ≤ 9223372036854775807 := (by rw [esl413]; exact mi_l k412.1 (by decide) mq_170_77)
                  obtain ⟨sl414, esl414⟩ : ∃ x, x = h404.2.2.1 170 78 := ⟨_, rfl⟩
                  have rsl414 : (-9223372036854775808) ≤ sl414 ∧ sl414 ≤ 9223372036854775807 := (by rw [esl414]; exact mi_l k412.1 (by decide) mq_170_78)
                  have yB : WB h stk (x12 + 4) (i37 + 1) sd43 sd44 h404 := WB_5 hVQ hB1 (by omega) yp ⟨(((k411.2.2.1 _ _ rfl).trans ((eh394.1 _ _ (fun _ => by decide)).trans esd45.symm)).trans ((eh394.1 _ _ (fun _ => by decide)).trans esd45.symm).symm), (((k411.2.2.2 _ _ rfl).trans ((congrFun (congrFun eh394.2.2 _) _).trans esl46.symm)).trans ((congrFun (congrFun eh394.2.2 _) _).trans esl46.symm).symm), (((k411.2.2.2 _ _ rfl).trans ((congrFun (congrFun eh394.2.2 _) _).trans esl47.symm)).trans ((congrFun (congrFun eh394.2.2 _) _).trans esl47.symm).symm), (by intro a ha; simp only [List.mem_cons, List.not_mem_nil, or_false] at ha; rcases ha with rfl | rfl | rfl | rfl | rfl | rfl ; exact (funext (fun k => (k411.2.2.2 187 k rfl))) ; exact (funext (fun k => (k411.2.2.2 188 k rfl))) ; exact (funext (fun k => (k411.2.2.2 189 k rfl))) ; exact (funext (fun k => (k411.2.2.2 190 k rfl))) ; exact (funext (fun k => (k411.2.2.2 199 k rfl))) ; exact (funext (fun k => (k411.2.2.2 200 k rfl)))), (by intro a ha; simp only [List.mem_cons, List.not_mem_nil, or_false] at ha; rcases ha with rfl | rfl | rfl ; exact (funext (fun k => (k411.2.2.1 185 k rfl))) ; exact (funext (fun k => (k411.2.2.1 186 k rfl))) ; exact (funext (fun k => (k411.2.2.1 196 k rfl))))⟩ (((k411.2.2.1 _ _ rfl).trans ((eh394.1 _ _ (fun _ => by decide)).trans esd41.symm)).trans ((eh394.1 _ _ (fun _ => by decide)).trans esd41.symm).symm) (funext (fun k => (k411.2.2.1 217 k rfl))) (funext (fun k => (k411.2.2.1 218 k rfl))) (funext (fun k => (k411.2.2.1 219 k rfl))) rfl rfl fx401 fx403 xk411
                  have yk := WQ_k yB.1 hp0
                  refine A_iincv (z := (i37 + 1)) (L' := [some (av_R (some 170)), some (av_I a1), some (av_I (x12 + 4)), some (av_I (i37 + 1)), some (av_I i38), some (av_I x106), none]) d_MD_walk_347 rfl (w32_to (by omega) (by unfold i32; omega)) rfl ?_
                  refine A_goto (tgt := 491) d_MD_walk_350 (by decide) ?_
                  refine A_aload_n 0 d_MD_walk_491 rfl rfl ?_
                  refine A_getIv (z := sd43) T_ok d_MD_walk_492 f_MD_405 (mi_s k412.1 sf_170) ((k411.2.2.1 _ _ rfl).trans ((eh394.1 _ _ (fun _ => by decide)).trans esd43.symm)) ?_
                  refine A_sipush d_MD_walk_495 rfl ?_
                  refine A_icmp_gt (tgt := 520) d_MD_walk_498 (by decide) (fun c => False.elim (by omega)) (fun c416 => ?_)
                  refine A_aload_n 0 d_MD_walk_501 rfl rfl ?_
                  refine A_getIv (z := sd44) T_ok d_MD_walk_502 f_MD_408 (mi_s k412.1 sf_170) ((k411.2.2.1 _ _ rfl).trans ((eh394.1 _ _ (fun _ => by decide)).trans esd44.symm)) ?_
                  refine A_bipush d_MD_walk_505 rfl ?_
                  refine A_icmp_gt (tgt := 520) d_MD_walk_507 (by decide) (fun c => False.elim (by omega)) (fun c418 => ?_)
                  refine A_aload_n 0 d_MD_walk_510 rfl rfl ?_
                  refine A_getIv (z := (sd42 + 1)) T_ok d_MD_walk_511 f_MD_402 (mi_s k412.1 sf_170) ((k411.2.2.1 _ _ rfl).trans eh394.2.1) ?_
                  refine A_sipush d_MD_walk_514 rfl ?_
                  refine A_icmp_le (tgt := 524) d_MD_walk_517 (by decide) (fun c420 => ?_) (fun c420 => ?_)
                  · refine A_iconst d_MD_walk_524 rfl ?_
                    refine A_istore (L' := [some (av_R (some 170)), some (av_I a1), some (av_I (x12 + 4)), some (av_I (i37 + 1)), some (av_I 0), some (av_I x106), none]) d_MD_walk_525 (Nat.le_of_ble_eq_true rfl) rfl ?_
                    refine A_goto (tgt := 79) d_MD_walk_527 (by decide) ?_
                    refine A_free (L' := [some (av_R (some 170)), some (av_I a1), some (av_I (x12 + 4)), some (av_I (i37 + 1)), some (av_I 0), none, none]) (And.intro rfl (And.intro rfl (And.intro rfl (And.intro rfl (And.intro rfl trivial))))) ?_
                    exact ih79 (i37 + 1) 0 h404 (by omega) (by omega) (by omega) (by omega) ⟨(by rw [((k411.2.2.1 _ _ rfl).trans ((eh394.1 _ _ (fun _ => by decide)).trans esd43.symm)), ((k411.2.2.1 _ _ rfl).trans ((eh394.1 _ _ (fun _ => by decide)).trans esd44.symm))]; exact yB), (by have qq0 := ((k411.2.2.1 _ _ rfl).trans eh394.2.1); have qq1 := ((k411.2.2.1 _ _ rfl).trans ((eh394.1 _ _ (fun _ => by decide)).trans esd43.symm)); have qq2 := ((k411.2.2.1 _ _ rfl).trans ((eh394.1 _ _ (fun _ => by decide)).trans esd44.symm)); exact ⟨by omega, by omega⟩)⟩ k412 (by have qq0 := ((k411.2.2.1 _ _ rfl).trans eh394.2.1); omega)
                  · refine A_iconst d_MD_walk_520 rfl ?_
                    refine A_goto (tgt := 525) d_MD_walk_521 (by decide) ?_
                    refine A_istore (L' := [some (av_R (some 170)), some (av_I a1), some (av_I (x12 + 4)), some (av_I (i37 + 1)), some (av_I 1), some (av_I x106), none]) d_MD_walk_525 (Nat.le_of_ble_eq_true rfl) rfl ?_
                    refine A_goto (tgt := 79) d_MD_walk_527 (by decide) ?_
                    refine A_free (L' := [some (av_R (some 170)), some (av_I a1), some (av_I (x12 + 4)), some (av_I (i37 + 1)), some (av_I 1), none, none]) (And.intro rfl (And.intro rfl (And.intro rfl (And.intro rfl (And.intro rfl trivial))))) ?_
                    exact ih79 (i37 + 1) 1 h404 (by omega) (by omega) (by omega) (by omega) ⟨(by rw [((k411.2.2.1 _ _ rfl).trans ((eh394.1 _ _ (fun _ => by decide)).trans esd43.symm)), ((k411.2.2.1 _ _ rfl).trans ((eh394.1 _ _ (fun _ => by decide)).trans esd44.symm))]; exact yB), (by have qq0 := ((k411.2.2.1 _ _ rfl).trans eh394.2.1); have qq1 := ((k411.2.2.1 _ _ rfl).trans ((eh394.1 _ _ (fun _ => by decide)).trans esd43.symm)); have qq2 := ((k411.2.2.1 _ _ rfl).trans ((eh394.1 _ _ (fun _ => by decide)).trans esd44.symm)); exact ⟨by omega, by omega⟩)⟩ k412 (by have qq0 := ((k411.2.2.1 _ _ rfl).trans eh394.2.1); omega)
  exact lp79 _ 0 0 h35 (by omega) (by omega) (by omega) (by omega) ⟨(by rw [((congrFun (congrFun eh35.1 _) _).trans ((congrFun (congrFun eh32.1 _) _).trans ((congrFun (congrFun eh29.1 _) _).trans ((congrFun (congrFun eh27.1 _) _).trans ((congrFun (congrFun eh25.1 _) _).trans ((congrFun (congrFun eh23.1 _) _).trans ((eh21.1 _ _ (fun _ => by decide)).trans ((eh19.1 _ _ (fun _ => by decide)).trans eh17.2.1)))))))), ((congrFun (congrFun eh35.1 _) _).trans ((congrFun (congrFun eh32.1 _) _).trans ((congrFun (congrFun eh29.1 _) _).trans ((congrFun (congrFun eh27.1 _) _).trans ((congrFun (congrFun eh25.1 _) _).trans ((congrFun (congrFun eh23.1 _) _).trans ((eh21.1 _ _ (fun _ => by decide)).trans eh19.2.1)))))))]; exact WB_0 hVQ ((congrFun (congrFun eh35.1 _) _).trans ((congrFun (congrFun eh32.1 _) _).trans ((congrFun (congrFun eh29.1 _) _).trans ((congrFun (congrFun eh27.1 _) _).trans ((congrFun (congrFun eh25.1 _) _).trans ((congrFun (congrFun eh23.1 _) _).trans ((eh21.1 _ _ (fun _ => by decide)).trans ((eh19.1 _ _ (fun _ => by decide)).trans ((eh17.1 _ _ (fun _ => by decide)).trans ((eh15.1 _ _ (fun _ => by decide)).trans eh13.2.1)))))))))) ((eh35.2.1 _ _ (fun q => absurd q (by decide))).trans ((eh32.2.1 _ _ (fun q => absurd q (by decide))).trans ((eh29.2.1 _ _ (fun _ => by decide)).trans eh27.2.2))) ((eh35.2.1 _ _ (fun q => absurd q (by decide))).trans ((eh32.2.1 _ _ (fun q => absurd q (by decide))).trans eh29.2.2)) ((eh35.2.1 _ _ (fun q => absurd q (by decide))).trans ((eh32.2.1 _ _ (fun q => absurd q (by decide))).trans ((eh29.2.1 _ _ (fun _ => by decide)).trans ((eh27.2.1 _ _ (fun _ => by decide)).trans ((eh25.2.1 _ _ (fun _ => by decide)).trans eh23.2.2))))) ((eh35.2.1 _ _ (fun q => absurd q (by decide))).trans ((eh32.2.1 _ _ (fun q => absurd q (by decide))).trans ((eh29.2.1 _ _ (fun _ => by decide)).trans ((eh27.2.1 _ _ (fun _ => by decide)).trans eh25.2.2)))) (by rw [show (102 * (x12 + 4)).toNat = ((102 * x12 + 408)).toNat by omega]; exact ((eh35.2.1 _ _ (fun q => absurd q (by decide))).trans eh32.2.2)) (by rw [show (102 * (x12 + 4)).toNat = ((102 * x12 + 408)).toNat by omega]; exact eh35.2.2) ⟨fun e he => ⟨(by intro a ha; simp only [List.mem_cons, List.not_mem_nil, or_false] at ha; rcases ha with rfl | rfl | rfl | rfl ; exact ((eh35.2.1 187 e (fun q => absurd q (by decide))).trans ((eh32.2.1 187 e (fun q => absurd q (by decide))).trans ((eh29.2.1 187 e (fun q => absurd q (by decide))).trans ((eh27.2.1 187 e (fun q => absurd q (by decide))).trans ((eh25.2.1 187 e (fun q => absurd q (by decide))).trans ((eh23.2.1 187 e (fun q => absurd q (by decide))).trans ((congrFun (congrFun eh21.2.2 187) e).trans ((congrFun (congrFun eh19.2.2 187) e).trans ((congrFun (congrFun eh17.2.2 187) e).trans ((congrFun (congrFun eh15.2.2 187) e).trans (congrFun (congrFun eh13.2.2 187) e))))))))))) ; exact ((eh35.2.1 188 e (fun q => absurd q (by decide))).trans ((eh32.2.1 188 e (fun q => absurd q (by decide))).trans ((eh29.2.1 188 e (fun q => absurd q (by decide))).trans ((eh27.2.1 188 e (fun q => absurd q (by decide))).trans ((eh25.2.1 188 e (fun q => absurd q (by decide))).trans ((eh23.2.1 188 e (fun q => absurd q (by decide))).trans ((congrFun (congrFun eh21.2.2 188) e).trans ((congrFun (congrFun eh19.2.2 188) e).trans ((congrFun (congrFun eh17.2.2 188) e).trans ((congrFun (congrFun eh15.2.2 188) e).trans (congrFun (congrFun eh13.2.2 188) e))))))))))) ; exact ((eh35.2.1 189 e (fun q => absurd q (by decide))).trans ((eh32.2.1 189 e (fun q => absurd q (by decide))).trans ((eh29.2.1 189 e (fun q => absurd q (by decide))).trans ((eh27.2.1 189 e (fun q => absurd q (by decide))).trans ((eh25.2.1 189 e (fun q => absurd q (by decide))).trans ((eh23.2.1 189 e (fun q => absurd q (by decide))).trans ((congrFun (congrFun eh21.2.2 189) e).trans ((congrFun (congrFun eh19.2.2 189) e).trans ((congrFun (congrFun eh17.2.2 189) e).trans ((congrFun (congrFun eh15.2.2 189) e).trans (congrFun (congrFun eh13.2.2 189) e))))))))))) ; exact ((eh35.2.1 190 e (fun q => absurd q (by decide))).trans ((eh32.2.1 190 e (fun q => absurd q (by decide))).trans ((eh29.2.1 190 e (fun q => absurd q (by decide))).trans ((eh27.2.1 190 e (fun q => absurd q (by decide))).trans ((eh25.2.1 190 e (fun q => absurd q (by decide))).trans ((eh23.2.1 190 e (fun q => absurd q (by decide))).trans ((congrFun (congrFun eh21.2.2 190) e).trans ((congrFun (congrFun eh19.2.2 190) e).trans ((congrFun (congrFun eh17.2.2 190) e).trans ((congrFun (congrFun eh15.2.2 190) e).trans (congrFun (congrFun eh13.2.2 190) e)))))))))))), ((congrFun (congrFun eh35.1 196) e).trans ((congrFun (congrFun eh32.1 196) e).trans ((congrFun (congrFun eh29.1 196) e).trans ((congrFun (congrFun eh27.1 196) e).trans ((congrFun (congrFun eh25.1 196) e).trans ((congrFun (congrFun eh23.1 196) e).trans ((eh21.1 196 e (fun q => absurd q (by decide))).trans ((eh19.1 196 e (fun q => absurd q (by decide))).trans ((eh17.1 196 e (fun q => absurd q (by decide))).trans ((eh15.1 196 e (fun q => absurd q (by decide))).trans (eh13.1 196 e (fun q => absurd q (by decide)))))))))))))⟩, fun i hi => (by intro a ha; simp only [List.mem_cons, List.not_mem_nil, or_false] at ha; rcases ha with rfl | rfl ; exact ((eh35.2.1 199 i (fun q => absurd q (by decide))).trans ((eh32.2.1 199 i (fun _ => by omega)).trans ((eh29.2.1 199 i (fun q => absurd q (by decide))).trans ((eh27.2.1 199 i (fun q => absurd q (by decide))).trans ((eh25.2.1 199 i (fun q => absurd q (by decide))).trans ((eh23.2.1 199 i (fun q => absurd q (by decide))).trans ((congrFun (congrFun eh21.2.2 199) i).trans ((congrFun (congrFun eh19.2.2 199) i).trans ((congrFun (congrFun eh17.2.2 199) i).trans ((congrFun (congrFun eh15.2.2 199) i).trans (congrFun (congrFun eh13.2.2 199) i))))))))))) ; exact ((eh35.2.1 200 i (fun _ => by omega)).trans ((eh32.2.1 200 i (fun q => absurd q (by decide))).trans ((eh29.2.1 200 i (fun q => absurd q (by decide))).trans ((eh27.2.1 200 i (fun q => absurd q (by decide))).trans ((eh25.2.1 200 i (fun q => absurd q (by decide))).trans ((eh23.2.1 200 i (fun q => absurd q (by decide))).trans ((congrFun (congrFun eh21.2.2 200) i).trans ((congrFun (congrFun eh19.2.2 200) i).trans ((congrFun (congrFun eh17.2.2 200) i).trans ((congrFun (congrFun eh15.2.2 200) i).trans (congrFun (congrFun eh13.2.2 200) i)))))))))))), fun w hw => ⟨((congrFun (congrFun eh35.1 185) w).trans ((congrFun (congrFun eh32.1 185) w).trans ((congrFun (congrFun eh29.1 185) w).trans ((congrFun (congrFun eh27.1 185) w).trans ((congrFun (congrFun eh25.1 185) w).trans ((congrFun (congrFun eh23.1 185) w).trans ((eh21.1 185 w (fun q => absurd q (by decide))).trans ((eh19.1 185 w (fun q => absurd q (by decide))).trans ((eh17.1 185 w (fun q => absurd q (by decide))).trans ((eh15.1 185 w (fun q => absurd q (by decide))).trans (eh13.1 185 w (fun q => absurd q (by decide))))))))))))), ((congrFun (congrFun eh35.1 186) w).trans ((congrFun (congrFun eh32.1 186) w).trans ((congrFun (congrFun eh29.1 186) w).trans ((congrFun (congrFun eh27.1 186) w).trans ((congrFun (congrFun eh25.1 186) w).trans ((congrFun (congrFun eh23.1 186) w).trans ((eh21.1 186 w (fun q => absurd q (by decide))).trans ((eh19.1 186 w (fun q => absurd q (by decide))).trans ((eh17.1 186 w (fun q => absurd q (by decide))).trans ((eh15.1 186 w (fun q => absurd q (by decide))).trans (eh13.1 186 w (fun q => absurd q (by decide)))))))))))))⟩⟩ (by omega)), (by have qq0 := ((congrFun (congrFun eh35.1 _) _).trans ((congrFun (congrFun eh32.1 _) _).trans ((congrFun (congrFun eh29.1 _) _).trans ((congrFun (congrFun eh27.1 _) _).trans ((congrFun (congrFun eh25.1 _) _).trans ((congrFun (congrFun eh23.1 _) _).trans ((eh21.1 _ _ (fun _ => by decide)).trans ((eh19.1 _ _ (fun _ => by decide)).trans ((eh17.1 _ _ (fun _ => by decide)).trans eh15.2.1))))))))); have qq1 := ((congrFun (congrFun eh35.1 _) _).trans ((congrFun (congrFun eh32.1 _) _).trans ((congrFun (congrFun eh29.1 _) _).trans ((congrFun (congrFun eh27.1 _) _).trans ((congrFun (congrFun eh25.1 _) _).trans ((congrFun (congrFun eh23.1 _) _).trans ((eh21.1 _ _ (fun _ => by decide)).trans ((eh19.1 _ _ (fun _ => by decide)).trans eh17.2.1)))))))); have qq2 := ((congrFun (congrFun eh35.1 _) _).trans ((congrFun (congrFun eh32.1 _) _).trans ((congrFun (congrFun eh29.1 _) _).trans ((congrFun (congrFun eh27.1 _) _).trans ((congrFun (congrFun eh25.1 _) _).trans ((congrFun (congrFun eh23.1 _) _).trans ((eh21.1 _ _ (fun _ => by decide)).trans eh19.2.1))))))); exact ⟨by omega, by omega⟩)⟩ k36 (Nat.lt_succ_self _)
