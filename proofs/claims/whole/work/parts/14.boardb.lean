theorem dX11_pour_0 : decode cX11_pour 0 = .ok (.aload_n 0, 1) := by decide +kernel
theorem dX11_pour_1 : decode cX11_pour 1 = .ok (.iload_n 1, 1) := by decide +kernel
theorem dX11_pour_2 : decode cX11_pour 2 = .ok (.invokevirtual 111, 3) := by decide +kernel
theorem dX11_pour_5 : decode cX11_pour 5 = .ok (.astore 6, 2) := by decide +kernel
theorem dX11_pour_7 : decode cX11_pour 7 = .ok (.aload_n 0, 1) := by decide +kernel
theorem dX11_pour_8 : decode cX11_pour 8 = .ok (.iload_n 3, 1) := by decide +kernel
theorem dX11_pour_9 : decode cX11_pour 9 = .ok (.invokevirtual 111, 3) := by decide +kernel
theorem dX11_pour_12 : decode cX11_pour 12 = .ok (.astore 7, 2) := by decide +kernel
theorem dX11_pour_14 : decode cX11_pour 14 = .ok (.aload 6, 2) := by decide +kernel
theorem dX11_pour_16 : decode cX11_pour 16 = .ok (.ifnull 22, 3) := by decide +kernel
theorem dX11_pour_19 : decode cX11_pour 19 = .ok (.aload 7, 2) := by decide +kernel
theorem dX11_pour_21 : decode cX11_pour 21 = .ok (.ifnull 17, 3) := by decide +kernel
theorem dX11_pour_24 : decode cX11_pour 24 = .ok (.iload_n 2, 1) := by decide +kernel
theorem dX11_pour_25 : decode cX11_pour 25 = .ok (.ifCond .lt 13, 3) := by decide +kernel
theorem dX11_pour_28 : decode cX11_pour 28 = .ok (.iload 4, 2) := by decide +kernel
theorem dX11_pour_30 : decode cX11_pour 30 = .ok (.ifCond .lt 8, 3) := by decide +kernel
theorem dX11_pour_33 : decode cX11_pour 33 = .ok (.iload 5, 2) := by decide +kernel
theorem dX11_pour_35 : decode cX11_pour 35 = .ok (.ifCond .ge 9, 3) := by decide +kernel
theorem dX11_pour_38 : decode cX11_pour 38 = .ok (.aload_n 0, 1) := by decide +kernel
theorem dX11_pour_39 : decode cX11_pour 39 = .ok (.iconst 1, 1) := by decide +kernel
theorem dX11_pour_40 : decode cX11_pour 40 = .ok (.invokevirtual 119, 3) := by decide +kernel
theorem dX11_pour_43 : decode cX11_pour 43 = .ok (.ireturn, 1) := by decide +kernel
theorem dX11_pour_44 : decode cX11_pour 44 = .ok (.aload 6, 2) := by decide +kernel
theorem dX11_pour_46 : decode cX11_pour 46 = .ok (.getfield 131, 3) := by decide +kernel
theorem dX11_pour_49 : decode cX11_pour 49 = .ok (.ifCond .ne 11, 3) := by decide +kernel
theorem dX11_pour_52 : decode cX11_pour 52 = .ok (.aload 7, 2) := by decide +kernel
theorem dX11_pour_54 : decode cX11_pour 54 = .ok (.getfield 131, 3) := by decide +kernel
theorem dX11_pour_57 : decode cX11_pour 57 = .ok (.ifCond .eq 9, 3) := by decide +kernel
theorem dX11_pour_60 : decode cX11_pour 60 = .ok (.aload_n 0, 1) := by decide +kernel
theorem dX11_pour_61 : decode cX11_pour 61 = .ok (.iconst 2, 1) := by decide +kernel
theorem dX11_pour_62 : decode cX11_pour 62 = .ok (.invokevirtual 119, 3) := by decide +kernel
theorem dX11_pour_65 : decode cX11_pour 65 = .ok (.ireturn, 1) := by decide +kernel
theorem dX11_pour_66 : decode cX11_pour 66 = .ok (.aload 6, 2) := by decide +kernel
theorem dX11_pour_68 : decode cX11_pour 68 = .ok (.getfield 151, 3) := by decide +kernel
theorem dX11_pour_71 : decode cX11_pour 71 = .ok (.aload 7, 2) := by decide +kernel
theorem dX11_pour_73 : decode cX11_pour 73 = .ok (.getfield 151, 3) := by decide +kernel
theorem dX11_pour_76 : decode cX11_pour 76 = .ok (.if_icmp .eq 10, 3) := by decide +kernel
theorem dX11_pour_79 : decode cX11_pour 79 = .ok (.aload_n 0, 1) := by decide +kernel
theorem dX11_pour_80 : decode cX11_pour 80 = .ok (.bipush 8, 2) := by decide +kernel
theorem dX11_pour_82 : decode cX11_pour 82 = .ok (.invokevirtual 119, 3) := by decide +kernel
theorem dX11_pour_85 : decode cX11_pour 85 = .ok (.ireturn, 1) := by decide +kernel
theorem dX11_pour_86 : decode cX11_pour 86 = .ok (.aload 6, 2) := by decide +kernel
theorem dX11_pour_88 : decode cX11_pour 88 = .ok (.iload_n 2, 1) := by decide +kernel
theorem dX11_pour_89 : decode cX11_pour 89 = .ok (.iload 5, 2) := by decide +kernel
theorem dX11_pour_91 : decode cX11_pour 91 = .ok (.invokevirtual 135, 3) := by decide +kernel
theorem dX11_pour_94 : decode cX11_pour 94 = .ok (.ifCond .eq 15, 3) := by decide +kernel
theorem dX11_pour_97 : decode cX11_pour 97 = .ok (.aload 7, 2) := by decide +kernel
theorem dX11_pour_99 : decode cX11_pour 99 = .ok (.iload 4, 2) := by decide +kernel
theorem dX11_pour_101 : decode cX11_pour 101 = .ok (.iload 5, 2) := by decide +kernel
theorem dX11_pour_103 : decode cX11_pour 103 = .ok (.invokevirtual 135, 3) := by decide +kernel
theorem dX11_pour_106 : decode cX11_pour 106 = .ok (.ifCond .ne 9, 3) := by decide +kernel
theorem dX11_pour_109 : decode cX11_pour 109 = .ok (.aload_n 0, 1) := by decide +kernel
theorem dX11_pour_110 : decode cX11_pour 110 = .ok (.iconst 3, 1) := by decide +kernel
theorem dX11_pour_111 : decode cX11_pour 111 = .ok (.invokevirtual 119, 3) := by decide +kernel
theorem dX11_pour_114 : decode cX11_pour 114 = .ok (.ireturn, 1) := by decide +kernel
theorem dX11_pour_115 : decode cX11_pour 115 = .ok (.aload 6, 2) := by decide +kernel
theorem dX11_pour_117 : decode cX11_pour 117 = .ok (.getfield 154, 3) := by decide +kernel
theorem dX11_pour_120 : decode cX11_pour 120 = .ok (.iload_n 2, 1) := by decide +kernel
theorem dX11_pour_121 : decode cX11_pour 121 = .ok (.aload 7, 2) := by decide +kernel
theorem dX11_pour_123 : decode cX11_pour 123 = .ok (.getfield 154, 3) := by decide +kernel
theorem dX11_pour_126 : decode cX11_pour 126 = .ok (.iload 4, 2) := by decide +kernel
theorem dX11_pour_128 : decode cX11_pour 128 = .ok (.iload 5, 2) := by decide +kernel
theorem dX11_pour_130 : decode cX11_pour 130 = .ok (.invokestatic 158, 3) := by decide +kernel
theorem dX11_pour_133 : decode cX11_pour 133 = .ok (.aload_n 0, 1) := by decide +kernel
theorem dX11_pour_134 : decode cX11_pour 134 = .ok (.invokevirtual 127, 3) := by decide +kernel
theorem dX11_pour_137 : decode cX11_pour 137 = .ok (.ireturn, 1) := by decide +kernel
theorem mv_X11_pour : MV yX11_pour RX11 cX11_pour 8 (some .boolean) 5 := ⟨tb_554, tb_552, tb_553, tb_1, by decide +kernel, by decide +kernel, by decide +kernel⟩
def f_X11_pour (fu : Nat) (b_latestStatus : Int32) (y0_row : Nat → Int64) (y0_missing : Int32) (y0_sort : Int32) (y0_many : Int32) (y1_row : Nat → Int64) (y1_missing : Int32) (y1_sort : Int32) (y1_many : Int32) (y2_row : Nat → Int64) (y2_missing : Int32) (y2_sort : Int32) (y2_many : Int32) (y3_row : Nat → Int64) (y3_missing : Int32) (y3_sort : Int32) (y3_many : Int32) (x1 : Int32) (x2 : Int32) (x3 : Int32) (x4 : Int32) (x5 : Int32) : Option (Int32 × Int32 × (Nat → Int64) × (Nat → Int64) × (Nat → Int64) × (Nat → Int64)) := (if x1 = 0 then (if x3 = 0 then (if x2 < 0 then (f_X11_deny fu b_latestStatus 1).bind fun z_510 => (bz z_510.1).bind fun _ => some (z_510.1, z_510.2, y0_row, y1_row, y2_row, y3_row) else (if x4 < 0 then (f_X11_deny fu b_latestStatus 1).bind fun z_513 => (bz z_513.1).bind fun _ => some (z_513.1, z_513.2, y0_row, y1_row, y2_row, y3_row) else (if 0 ≤ x5 then (if y0_missing = 0 then (if y0_missing = 0 then (if y0_sort = y0_sort then (f_X8_hasPlaces fu y0_many x2 x5).bind fun z_521 => (if z_521 = 0 then (f_X11_deny fu b_latestStatus 3).bind fun z_523 => (bz z_523.1).bind fun _ => some (z_523.1, z_523.2, y0_row, y1_row, y2_row, y3_row) else (f_X8_hasPlaces fu y0_many x4 x5).bind fun z_525 => (if z_525 = 0 then (f_X11_deny fu b_latestStatus 3).bind fun z_530 => (bz z_530.1).bind fun _ => some (z_530.1, z_530.2, y0_row, y1_row, y2_row, y3_row) else (cpJ y0_row 60 y0_row 60 x2 x4 x5).bind fun y0_row_527 => (f_X11_allow fu b_latestStatus).bind fun z_528 => (bz z_528.1).bind fun _ => some (z_528.1, z_528.2, y0_row_527, y1_row, y2_row, y3_row))) else (f_X11_deny fu b_latestStatus 8).bind fun z_532 => (bz z_532.1).bind fun _ => some (z_532.1, z_532.2, y0_row, y1_row, y2_row, y3_row)) else (f_X11_deny fu b_latestStatus 2).bind fun z_534 => (bz z_534.1).bind fun _ => some (z_534.1, z_534.2, y0_row, y1_row, y2_row, y3_row)) else (f_X11_deny fu b_latestStatus 2).bind fun z_517 => (bz z_517.1).bind fun _ => some (z_517.1, z_517.2, y0_row, y1_row, y2_row, y3_row)) else (f_X11_deny fu b_latestStatus 1).bind fun z_536 => (bz z_536.1).bind fun _ => some (z_536.1, z_536.2, y0_row, y1_row, y2_row, y3_row)))) else (if x3 = 1 then (if x2 < 0 then (f_X11_deny fu b_latestStatus 1).bind fun z_540 => (bz z_540.1).bind fun _ => some (z_540.1, z_540.2, y0_row, y1_row, y2_row, y3_row) else (if x4 < 0 then (f_X11_deny fu b_latestStatus 1).bind fun z_543 => (bz z_543.1).bind fun _ => some (z_543.1, z_543.2, y0_row, y1_row, y2_row, y3_row) else (if 0 ≤ x5 then (if y0_missing = 0 then (if y1_missing = 0 then (if y0_sort = y1_sort then (f_X8_hasPlaces fu y0_many x2 x5).bind fun z_551 => (if z_551 = 0 then (f_X11_deny fu b_latestStatus 3).bind fun z_553 => (bz z_553.1).bind fun _ => some (z_553.1, z_553.2, y0_row, y1_row, y2_row, y3_row) else (f_X8_hasPlaces fu y1_many x4 x5).bind fun z_555 => (if z_555 = 0 then (f_X11_deny fu b_latestStatus 3).bind fun z_560 => (bz z_560.1).bind fun _ => some (z_560.1, z_560.2, y0_row, y1_row, y2_row, y3_row) else (cpJ y0_row 60 y1_row 60 x2 x4 x5).bind fun y1_row_557 => (f_X11_allow fu b_latestStatus).bind fun z_558 => (bz z_558.1).bind fun _ => some (z_558.1, z_558.2, y0_row, y1_row_557, y2_row, y3_row))) else (f_X11_deny fu b_latestStatus 8).bind fun z_562 => (bz z_562.1).bind fun _ => some (z_562.1, z_562.2, y0_row, y1_row, y2_row, y3_row)) else (f_X11_deny fu b_latestStatus 2).bind fun z_564 => (bz z_564.1).bind fun _ => some (z_564.1, z_564.2, y0_row, y1_row, y2_row, y3_row)) else (f_X11_deny fu b_latestStatus 2).bind fun z_547 => (bz z_547.1).bind fun _ => some (z_547.1, z_547.2, y0_row, y1_row, y2_row, y3_row)) else (f_X11_deny fu b_latestStatus 1).bind fun z_566 => (bz z_566.1).bind fun _ => some (z_566.1, z_566.2, y0_row, y1_row, y2_row, y3_row)))) else (if x3 = 2 then (if x2 < 0 then (f_X11_deny fu b_latestStatus 1).bind fun z_570 => (bz z_570.1).bind fun _ => some (z_570.1, z_570.2, y0_row, y1_row, y2_row, y3_row) else (if x4 < 0 then (f_X11_deny fu b_latestStatus 1).bind fun z_573 => (bz z_573.1).bind fun _ => some (z_573.1, z_573.2, y0_row, y1_row, y2_row, y3_row) else (if 0 ≤ x5 then (if y0_missing = 0 then (if y2_missing = 0 then (if y0_sort = y2_sort then (f_X8_hasPlaces fu y0_many x2 x5).bind fun z_581 => (if z_581 = 0 then (f_X11_deny fu b_latestStatus 3).bind fun z_583 => (bz z_583.1).bind fun _ => some (z_583.1, z_583.2, y0_row, y1_row, y2_row, y3_row) else (f_X8_hasPlaces fu y2_many x4 x5).bind fun z_585 => (if z_585 = 0 then (f_X11_deny fu b_latestStatus 3).bind fun z_590 => (bz z_590.1).bind fun _ => some (z_590.1, z_590.2, y0_row, y1_row, y2_row, y3_row) else (cpJ y0_row 60 y2_row 60 x2 x4 x5).bind fun y2_row_587 => (f_X11_allow fu b_latestStatus).bind fun z_588 => (bz z_588.1).bind fun _ => some (z_588.1, z_588.2, y0_row, y1_row, y2_row_587, y3_row))) else (f_X11_deny fu b_latestStatus 8).bind fun z_592 => (bz z_592.1).bind fun _ => some (z_592.1, z_592.2, y0_row, y1_row, y2_row, y3_row)) else (f_X11_deny fu b_latestStatus 2).bind fun z_594 => (bz z_594.1).bind fun _ => some (z_594.1, z_594.2, y0_row, y1_row, y2_row, y3_row)) else (f_X11_deny fu b_latestStatus 2).bind fun z_577 => (bz z_577.1).bind fun _ => some (z_577.1, z_577.2, y0_row, y1_row, y2_row, y3_row)) else (f_X11_deny fu b_latestStatus 1).bind fun z_596 => (bz z_596.1).bind fun _ => some (z_596.1, z_596.2, y0_row, y1_row, y2_row, y3_row)))) else (if x3 = 3 then (if x2 < 0 then (f_X11_deny fu b_latestStatus 1).bind fun z_600 => (bz z_600.1).bind fun _ => some (z_600.1, z_600.2, y0_row, y1_row, y2_row, y3_row) else (if x4 < 0 then (f_X11_deny fu b_latestStatus 1).bind fun z_603 => (bz z_603.1).bind fun _ => some (z_603.1, z_603.2, y0_row, y1_row, y2_row, y3_row) else (if 0 ≤ x5 then (if y0_missing = 0 then (if y3_missing = 0 then (if y0_sort = y3_sort then (f_X8_hasPlaces fu y0_many x2 x5).bind fun z_611 => (if z_611 = 0 then (f_X11_deny fu b_latestStatus 3).bind fun z_613 => (bz z_613.1).bind fun _ => some (z_613.1, z_613.2, y0_row, y1_row, y2_row, y3_row) else (f_X8_hasPlaces fu y3_many x4 x5).bind fun z_615 => (if z_615 = 0 then (f_X11_deny fu b_latestStatus 3).bind fun z_620 => (bz z_620.1).bind fun _ => some (z_620.1, z_620.2, y0_row, y1_row, y2_row, y3_row) else (cpJ y0_row 60 y3_row 60 x2 x4 x5).bind fun y3_row_617 => (f_X11_allow fu b_latestStatus).bind fun z_618 => (bz z_618.1).bind fun _ => some (z_618.1, z_618.2, y0_row, y1_row, y2_row, y3_row_617))) else (f_X11_deny fu b_latestStatus 8).bind fun z_622 => (bz z_622.1).bind fun _ => some (z_622.1, z_622.2, y0_row, y1_row, y2_row, y3_row)) else (f_X11_deny fu b_latestStatus 2).bind fun z_624 => (bz z_624.1).bind fun _ => some (z_624.1, z_624.2, y0_row, y1_row, y2_row, y3_row)) else (f_X11_deny fu b_latestStatus 2).bind fun z_607 => (bz z_607.1).bind fun _ => some (z_607.1, z_607.2, y0_row, y1_row, y2_row, y3_row)) else (f_X11_deny fu b_latestStatus 1).bind fun z_626 => (bz z_626.1).bind fun _ => some (z_626.1, z_626.2, y0_row, y1_row, y2_row, y3_row)))) else (f_X11_deny fu b_latestStatus 1).bind fun z_628 => (bz z_628.1).bind fun _ => some (z_628.1, z_628.2, y0_row, y1_row, y2_row, y3_row))))) else (if x1 = 1 then (if x3 = 0 then (if x2 < 0 then (f_X11_deny fu b_latestStatus 1).bind fun z_633 => (bz z_633.1).bind fun _ => some (z_633.1, z_633.2, y0_row, y1_row, y2_row, y3_row) else (if x4 < 0 then (f_X11_deny fu b_latestStatus 1).bind fun z_636 => (bz z_636.1).bind fun _ => some (z_636.1, z_636.2, y0_row, y1_row, y2_row, y3_row) else (if 0 ≤ x5 then (if y1_missing = 0 then (if y0_missing = 0 then (if y1_sort = y0_sort then (f_X8_hasPlaces fu y1_many x2 x5).bind fun z_644 => (if z_644 = 0 then (f_X11_deny fu b_latestStatus 3).bind fun z_646 => (bz z_646.1).bind fun _ => some (z_646.1, z_646.2, y0_row, y1_row, y2_row, y3_row) else (f_X8_hasPlaces fu y0_many x4 x5).bind fun z_648 => (if z_648 = 0 then (f_X11_deny fu b_latestStatus 3).bind fun z_653 => (bz z_653.1).bind fun _ => some (z_653.1, z_653.2, y0_row, y1_row, y2_row, y3_row) else (cpJ y1_row 60 y0_row 60 x2 x4 x5).bind fun y0_row_650 => (f_X11_allow fu b_latestStatus).bind fun z_651 => (bz z_651.1).bind fun _ => some (z_651.1, z_651.2, y0_row_650, y1_row, y2_row, y3_row))) else (f_X11_deny fu b_latestStatus 8).bind fun z_655 => (bz z_655.1).bind fun _ => some (z_655.1, z_655.2, y0_row, y1_row, y2_row, y3_row)) else (f_X11_deny fu b_latestStatus 2).bind fun z_657 => (bz z_657.1).bind fun _ => some (z_657.1, z_657.2, y0_row, y1_row, y2_row, y3_row)) else (f_X11_deny fu b_latestStatus 2).bind fun z_640 => (bz z_640.1).bind fun _ => some (z_640.1, z_640.2, y0_row, y1_row, y2_row, y3_row)) else (f_X11_deny fu b_latestStatus 1).bind fun z_659 => (bz z_659.1).bind fun _ => some (z_659.1, z_659.2, y0_row, y1_row, y2_row, y3_row)))) else (if x3 = 1 then (if x2 < 0 then (f_X11_deny fu b_latestStatus 1).bind fun z_663 => (bz z_663.1).bind fun _ => some (z_663.1, z_663.2, y0_row, y1_row, y2_row, y3_row) else (if x4 < 0 then (f_X11_deny fu b_latestStatus 1).bind fun z_666 => (bz z_666.1).bind fun _ => some (z_666.1, z_666.2, y0_row, y1_row, y2_row, y3_row) else (if 0 ≤ x5 then (if y1_missing = 0 then (if y1_missing = 0 then (if y1_sort = y1_sort then (f_X8_hasPlaces fu y1_many x2 x5).bind fun z_674 => (if z_674 = 0 then (f_X11_deny fu b_latestStatus 3).bind fun z_676 => (bz z_676.1).bind fun _ => some (z_676.1, z_676.2, y0_row, y1_row, y2_row, y3_row) else (f_X8_hasPlaces fu y1_many x4 x5).bind fun z_678 => (if z_678 = 0 then (f_X11_deny fu b_latestStatus 3).bind fun z_683 => (bz z_683.1).bind fun _ => some (z_683.1, z_683.2, y0_row, y1_row, y2_row, y3_row) else (cpJ y1_row 60 y1_row 60 x2 x4 x5).bind fun y1_row_680 => (f_X11_allow fu b_latestStatus).bind fun z_681 => (bz z_681.1).bind fun _ => some (z_681.1, z_681.2, y0_row, y1_row_680, y2_row, y3_row))) else (f_X11_deny fu b_latestStatus 8).bind fun z_685 => (bz z_685.1).bind fun _ => some (z_685.1, z_685.2, y0_row, y1_row, y2_row, y3_row)) else (f_X11_deny fu b_latestStatus 2).bind fun z_687 => (bz z_687.1).bind fun _ => some (z_687.1, z_687.2, y0_row, y1_row, y2_row, y3_row)) else (f_X11_deny fu b_latestStatus 2).bind fun z_670 => (bz z_670.1).bind fun _ => some (z_670.1, z_670.2, y0_row, y1_row, y2_row, y3_row)) else (f_X11_deny fu b_latestStatus 1).bind fun z_689 => (bz z_689.1).bind fun _ => some (z_689.1, z_689.2, y0_row, y1_row, y2_row, y3_row)))) else (if x3 = 2 then (if x2 < 0 then (f_X11_deny fu b_latestStatus 1).bind fun z_693 => (bz z_693.1).bind fun _ => some (z_693.1, z_693.2, y0_row, y1_row, y2_row, y3_row) else (if x4 < 0 then (f_X11_deny fu b_latestStatus 1).bind fun z_696 => (bz z_696.1).bind fun _ => some (z_696.1, z_696.2, y0_row, y1_row, y2_row, y3_row) else (if 0 ≤ x5 then (if y1_missing = 0 then (if y2_missing = 0 then (if y1_sort = y2_sort then (f_X8_hasPlaces fu y1_many x2 x5).bind fun z_704 => (if z_704 = 0 then (f_X11_deny fu b_latestStatus 3).bind fun z_706 => (bz z_706.1).bind fun _ => some (z_706.1, z_706.2, y0_row, y1_row, y2_row, y3_row) else (f_X8_hasPlaces fu y2_many x4 x5).bind fun z_708 => (if z_708 = 0 then (f_X11_deny fu b_latestStatus 3).bind fun z_713 => (bz z_713.1).bind fun _ => some (z_713.1, z_713.2, y0_row, y1_row, y2_row, y3_row) else (cpJ y1_row 60 y2_row 60 x2 x4 x5).bind fun y2_row_710 => (f_X11_allow fu b_latestStatus).bind fun z_711 => (bz z_711.1).bind fun _ => some (z_711.1, z_711.2, y0_row, y1_row, y2_row_710, y3_row))) else (f_X11_deny fu b_latestStatus 8).bind fun z_715 => (bz z_715.1).bind fun _ => some (z_715.1, z_715.2, y0_row, y1_row, y2_row, y3_row)) else (f_X11_deny fu b_latestStatus 2).bind fun z_717 => (bz z_717.1).bind fun _ => some (z_717.1, z_717.2, y0_row, y1_row, y2_row, y3_row)) else (f_X11_deny fu b_latestStatus 2).bind fun z_700 => (bz z_700.1).bind fun _ => some (z_700.1, z_700.2, y0_row, y1_row, y2_row, y3_row)) else (f_X11_deny fu b_latestStatus 1).bind fun z_719 => (bz z_719.1).bind fun _ => some (z_719.1, z_719.2, y0_row, y1_row, y2_row, y3_row)))) else (if x3 = 3 then (if x2 < 0 then (f_X11_deny fu b_latestStatus 1).bind fun z_723 => (bz z_723.1).bind fun _ => some (z_723.1, z_723.2, y0_row, y1_row, y2_row, y3_row) else (if x4 < 0 then (f_X11_deny fu b_latestStatus 1).bind fun z_726 => (bz z_726.1).bind fun _ => some (z_726.1, z_726.2, y0_row, y1_row, y2_row, y3_row) else (if 0 ≤ x5 then (if y1_missing = 0 then (if y3_missing = 0 then (if y1_sort = y3_sort then (f_X8_hasPlaces fu y1_many x2 x5).bind fun z_734 => (if z_734 = 0 then (f_X11_deny fu b_latestStatus 3).bind fun z_736 => (bz z_736.1).bind fun _ => some (z_736.1, z_736.2, y0_row, y1_row, y2_row, y3_row) else (f_X8_hasPlaces fu y3_many x4 x5).bind fun z_738 => (if z_738 = 0 then (f_X11_deny fu b_latestStatus 3).bind fun z_743 => (bz z_743.1).bind fun _ => some (z_743.1, z_743.2, y0_row, y1_row, y2_row, y3_row) else (cpJ y1_row 60 y3_row 60 x2 x4 x5).bind fun y3_row_740 => (f_X11_allow fu b_latestStatus).bind fun z_741 => (bz z_741.1).bind fun _ => some (z_741.1, z_741.2, y0_row, y1_row, y2_row, y3_row_740))) else (f_X11_deny fu b_latestStatus 8).bind fun z_745 => (bz z_745.1).bind fun _ => some (z_745.1, z_745.2, y0_row, y1_row, y2_row, y3_row)) else (f_X11_deny fu b_latestStatus 2).bind fun z_747 => (bz z_747.1).bind fun _ => some (z_747.1, z_747.2, y0_row, y1_row, y2_row, y3_row)) else (f_X11_deny fu b_latestStatus 2).bind fun z_730 => (bz z_730.1).bind fun _ => some (z_730.1, z_730.2, y0_row, y1_row, y2_row, y3_row)) else (f_X11_deny fu b_latestStatus 1).bind fun z_749 => (bz z_749.1).bind fun _ => some (z_749.1, z_749.2, y0_row, y1_row, y2_row, y3_row)))) else (f_X11_deny fu b_latestStatus 1).bind fun z_751 => (bz z_751.1).bind fun _ => some (z_751.1, z_751.2, y0_row, y1_row, y2_row, y3_row))))) else (if x1 = 2 then (if x3 = 0 then (if x2 < 0 then (f_X11_deny fu b_latestStatus 1).bind fun z_756 => (bz z_756.1).bind fun _ => some (z_756.1, z_756.2, y0_row, y1_row, y2_row, y3_row) else (if x4 < 0 then (f_X11_deny fu b_latestStatus 1).bind fun z_759 => (bz z_759.1).bind fun _ => some (z_759.1, z_759.2, y0_row, y1_row, y2_row, y3_row) else (if 0 ≤ x5 then (if y2_missing = 0 then (if y0_missing = 0 then (if y2_sort = y0_sort then (f_X8_hasPlaces fu y2_many x2 x5).bind fun z_767 => (if z_767 = 0 then (f_X11_deny fu b_latestStatus 3).bind fun z_769 => (bz z_769.1).bind fun _ => some (z_769.1, z_769.2, y0_row, y1_row, y2_row, y3_row) else (f_X8_hasPlaces fu y0_many x4 x5).bind fun z_771 => (if z_771 = 0 then (f_X11_deny fu b_latestStatus 3).bind fun z_776 => (bz z_776.1).bind fun _ => some (z_776.1, z_776.2, y0_row, y1_row, y2_row, y3_row) else (cpJ y2_row 60 y0_row 60 x2 x4 x5).bind fun y0_row_773 => (f_X11_allow fu b_latestStatus).bind fun z_774 => (bz z_774.1).bind fun _ => some (z_774.1, z_774.2, y0_row_773, y1_row, y2_row, y3_row))) else (f_X11_deny fu b_latestStatus 8).bind fun z_778 => (bz z_778.1).bind fun _ => some (z_778.1, z_778.2, y0_row, y1_row, y2_row, y3_row)) else (f_X11_deny fu b_latestStatus 2).bind fun z_780 => (bz z_780.1).bind fun _ => some (z_780.1, z_780.2, y0_row, y1_row, y2_row, y3_row)) else (f_X11_deny fu b_latestStatus 2).bind fun z_763 => (bz z_763.1).bind fun _ => some (z_763.1, z_763.2, y0_row, y1_row, y2_row, y3_row)) else (f_X11_deny fu b_latestStatus 1).bind fun z_782 => (bz z_782.1).bind fun _ => some (z_782.1, z_782.2, y0_row, y1_row, y2_row, y3_row)))) else (if x3 = 1 then (if x2 < 0 then (f_X11_deny fu b_latestStatus 1).bind fun z_786 => (bz z_786.1).bind fun _ => some (z_786.1, z_786.2, y0_row, y1_row, y2_row, y3_row) else (if x4 < 0 then (f_X11_deny fu b_latestStatus 1).bind fun z_789 => (bz z_789.1).bind fun _ => some (z_789.1, z_789.2, y0_row, y1_row, y2_row, y3_row) else (if 0 ≤ x5 then (if y2_missing = 0 then (if y1_missing = 0 then (if y2_sort = y1_sort then (f_X8_hasPlaces fu y2_many x2 x5).bind fun z_797 => (if z_797 = 0 then (f_X11_deny fu b_latestStatus 3).bind fun z_799 => (bz z_799.1).bind fun _ => some (z_799.1, z_799.2, y0_row, y1_row, y2_row, y3_row) else (f_X8_hasPlaces fu y1_many x4 x5).bind fun z_801 => (if z_801 = 0 then (f_X11_deny fu b_latestStatus 3).bind fun z_806 => (bz z_806.1).bind fun _ => some (z_806.1, z_806.2, y0_row, y1_row, y2_row, y3_row) else (cpJ y2_row 60 y1_row 60 x2 x4 x5).bind fun y1_row_803 => (f_X11_allow fu b_latestStatus).bind fun z_804 => (bz z_804.1).bind fun _ => some (z_804.1, z_804.2, y0_row, y1_row_803, y2_row, y3_row))) else (f_X11_deny fu b_latestStatus 8).bind fun z_808 => (bz z_808.1).bind fun _ => some (z_808.1, z_808.2, y0_row, y1_row, y2_row, y3_row)) else (f_X11_deny fu b_latestStatus 2).bind fun z_810 => (bz z_810.1).bind fun _ => some (z_810.1, z_810.2, y0_row, y1_row, y2_row, y3_row)) else (f_X11_deny fu b_latestStatus 2).bind fun z_793 => (bz z_793.1).bind fun _ => some (z_793.1, z_793.2, y0_row, y1_row, y2_row, y3_row)) else (f_X11_deny fu b_latestStatus 1).bind fun z_812 => (bz z_812.1).bind fun _ => some (z_812.1, z_812.2, y0_row, y1_row, y2_row, y3_row)))) else (if x3 = 2 then (if x2 < 0 then (f_X11_deny fu b_latestStatus 1).bind fun z_816 => (bz z_816.1).bind fun _ => some (z_816.1, z_816.2, y0_row, y1_row, y2_row, y3_row) else (if x4 < 0 then (f_X11_deny fu b_latestStatus 1).bind fun z_819 => (bz z_819.1).bind fun _ => some (z_819.1, z_819.2, y0_row, y1_row, y2_row, y3_row) else (if 0 ≤ x5 then (if y2_missing = 0 then (if y2_missing = 0 then (if y2_sort = y2_sort then (f_X8_hasPlaces fu y2_many x2 x5).bind fun z_827 => (if z_827 = 0 then (f_X11_deny fu b_latestStatus 3).bind fun z_829 => (bz z_829.1).bind fun _ => some (z_829.1, z_829.2, y0_row, y1_row, y2_row, y3_row) else (f_X8_hasPlaces fu y2_many x4 x5).bind fun z_831 => (if z_831 = 0 then (f_X11_deny fu b_latestStatus 3).bind fun z_836 => (bz z_836.1).bind fun _ => some (z_836.1, z_836.2, y0_row, y1_row, y2_row, y3_row) else (cpJ y2_row 60 y2_row 60 x2 x4 x5).bind fun y2_row_833 => (f_X11_allow fu b_latestStatus).bind fun z_834 => (bz z_834.1).bind fun _ => some (z_834.1, z_834.2, y0_row, y1_row, y2_row_833, y3_row))) else (f_X11_deny fu b_latestStatus 8).bind fun z_838 => (bz z_838.1).bind fun _ => some (z_838.1, z_838.2, y0_row, y1_row, y2_row, y3_row)) else (f_X11_deny fu b_latestStatus 2).bind fun z_840 => (bz z_840.1).bind fun _ => some (z_840.1, z_840.2, y0_row, y1_row, y2_row, y3_row)) else (f_X11_deny fu b_latestStatus 2).bind fun z_823 => (bz z_823.1).bind fun _ => some (z_823.1, z_823.2, y0_row, y1_row, y2_row, y3_row)) else (f_X11_deny fu b_latestStatus 1).bind fun z_842 => (bz z_842.1).bind fun _ => some (z_842.1, z_842.2, y0_row, y1_row, y2_row, y3_row)))) else (if x3 = 3 then (if x2 < 0 then (f_X11_deny fu b_latestStatus 1).bind fun z_846 => (bz z_846.1).bind fun _ => some (z_846.1, z_846.2, y0_row, y1_row, y2_row, y3_row) else (if x4 < 0 then (f_X11_deny fu b_latestStatus 1).bind fun z_849 => (bz z_849.1).bind fun _ => some (z_849.1, z_849.2, y0_row, y1_row, y2_row, y3_row) else (if 0 ≤ x5 then (if y2_missing = 0 then (if y3_missing = 0 then (if y2_sort = y3_sort then (f_X8_hasPlaces fu y2_many x2 x5).bind fun z_857 => (if z_857 = 0 then (f_X11_deny fu b_latestStatus 3).bind fun z_859 => (bz z_859.1).bind fun _ => some (z_859.1, z_859.2, y0_row, y1_row, y2_row, y3_row) else (f_X8_hasPlaces fu y3_many x4 x5).bind fun z_861 => (if z_861 = 0 then (f_X11_deny fu b_latestStatus 3).bind fun z_866 => (bz z_866.1).bind fun _ => some (z_866.1, z_866.2, y0_row, y1_row, y2_row, y3_row) else (cpJ y2_row 60 y3_row 60 x2 x4 x5).bind fun y3_row_863 => (f_X11_allow fu b_latestStatus).bind fun z_864 => (bz z_864.1).bind fun _ => some (z_864.1, z_864.2, y0_row, y1_row, y2_row, y3_row_863))) else (f_X11_deny fu b_latestStatus 8).bind fun z_868 => (bz z_868.1).bind fun _ => some (z_868.1, z_868.2, y0_row, y1_row, y2_row, y3_row)) else (f_X11_deny fu b_latestStatus 2).bind fun z_870 => (bz z_870.1).bind fun _ => some (z_870.1, z_870.2, y0_row, y1_row, y2_row, y3_row)) else (f_X11_deny fu b_latestStatus 2).bind fun z_853 => (bz z_853.1).bind fun _ => some (z_853.1, z_853.2, y0_row, y1_row, y2_row, y3_row)) else (f_X11_deny fu b_latestStatus 1).bind fun z_872 => (bz z_872.1).bind fun _ => some (z_872.1, z_872.2, y0_row, y1_row, y2_row, y3_row)))) else (f_X11_deny fu b_latestStatus 1).bind fun z_874 => (bz z_874.1).bind fun _ => some (z_874.1, z_874.2, y0_row, y1_row, y2_row, y3_row))))) else (if x1 = 3 then (if x3 = 0 then (if x2 < 0 then (f_X11_deny fu b_latestStatus 1).bind fun z_879 => (bz z_879.1).bind fun _ => some (z_879.1, z_879.2, y0_row, y1_row, y2_row, y3_row) else (if x4 < 0 then (f_X11_deny fu b_latestStatus 1).bind fun z_882 => (bz z_882.1).bind fun _ => some (z_882.1, z_882.2, y0_row, y1_row, y2_row, y3_row) else (if 0 ≤ x5 then (if y3_missing = 0 then (if y0_missing = 0 then (if y3_sort = y0_sort then (f_X8_hasPlaces fu y3_many x2 x5).bind fun z_890 => (if z_890 = 0 then (f_X11_deny fu b_latestStatus 3).bind fun z_892 => (bz z_892.1).bind fun _ => some (z_892.1, z_892.2, y0_row, y1_row, y2_row, y3_row) else (f_X8_hasPlaces fu y0_many x4 x5).bind fun z_894 => (if z_894 = 0 then (f_X11_deny fu b_latestStatus 3).bind fun z_899 => (bz z_899.1).bind fun _ => some (z_899.1, z_899.2, y0_row, y1_row, y2_row, y3_row) else (cpJ y3_row 60 y0_row 60 x2 x4 x5).bind fun y0_row_896 => (f_X11_allow fu b_latestStatus).bind fun z_897 => (bz z_897.1).bind fun _ => some (z_897.1, z_897.2, y0_row_896, y1_row, y2_row, y3_row))) else (f_X11_deny fu b_latestStatus 8).bind fun z_901 => (bz z_901.1).bind fun _ => some (z_901.1, z_901.2, y0_row, y1_row, y2_row, y3_row)) else (f_X11_deny fu b_latestStatus 2).bind fun z_903 => (bz z_903.1).bind fun _ => some (z_903.1, z_903.2, y0_row, y1_row, y2_row, y3_row)) else (f_X11_deny fu b_latestStatus 2).bind fun z_886 => (bz z_886.1).bind fun _ => some (z_886.1, z_886.2, y0_row, y1_row, y2_row, y3_row)) else (f_X11_deny fu b_latestStatus 1).bind fun z_905 => (bz z_905.1).bind fun _ => some (z_905.1, z_905.2, y0_row, y1_row, y2_row, y3_row)))) else (if x3 = 1 then (if x2 < 0 then (f_X11_deny fu b_latestStatus 1).bind fun z_909 => (bz z_909.1).bind fun _ => some (z_909.1, z_909.2, y0_row, y1_row, y2_row, y3_row) else (if x4 < 0 then (f_X11_deny fu b_latestStatus 1).bind fun z_912 => (bz z_912.1).bind fun _ => some (z_912.1, z_912.2, y0_row, y1_row, y2_row, y3_row) else (if 0 ≤ x5 then (if y3_missing = 0 then (if y1_missing = 0 then (if y3_sort = y1_sort then (f_X8_hasPlaces fu y3_many x2 x5).bind fun z_920 => (if z_920 = 0 then (f_X11_deny fu b_latestStatus 3).bind fun z_922 => (bz z_922.1).bind fun _ => some (z_922.1, z_922.2, y0_row, y1_row, y2_row, y3_row) else (f_X8_hasPlaces fu y1_many x4 x5).bind fun z_924 => (if z_924 = 0 then (f_X11_deny fu b_latestStatus 3).bind fun z_929 => (bz z_929.1).bind fun _ => some (z_929.1, z_929.2, y0_row, y1_row, y2_row, y3_row) else (cpJ y3_row 60 y1_row 60 x2 x4 x5).bind fun y1_row_926 => (f_X11_allow fu b_latestStatus).bind fun z_927 => (bz z_927.1).bind fun _ => some (z_927.1, z_927.2, y0_row, y1_row_926, y2_row, y3_row))) else (f_X11_deny fu b_latestStatus 8).bind fun z_931 => (bz z_931.1).bind fun _ => some (z_931.1, z_931.2, y0_row, y1_row, y2_row, y3_row)) else (f_X11_deny fu b_latestStatus 2).bind fun z_933 => (bz z_933.1).bind fun _ => some (z_933.1, z_933.2, y0_row, y1_row, y2_row, y3_row)) else (f_X11_deny fu b_latestStatus 2).bind fun z_916 => (bz z_916.1).bind fun _ => some (z_916.1, z_916.2, y0_row, y1_row, y2_row, y3_row)) else (f_X11_deny fu b_latestStatus 1).bind fun z_935 => (bz z_935.1).bind fun _ => some (z_935.1, z_935.2, y0_row, y1_row, y2_row, y3_row)))) else (if x3 = 2 then (if x2 < 0 then (f_X11_deny fu b_latestStatus 1).bind fun z_939 => (bz z_939.1).bind fun _ => some (z_939.1, z_939.2, y0_row, y1_row, y2_row, y3_row) else (if x4 < 0 then (f_X11_deny fu b_latestStatus 1).bind fun z_942 => (bz z_942.1).bind fun _ => some (z_942.1, z_942.2, y0_row, y1_row, y2_row, y3_row) else (if 0 ≤ x5 then (if y3_missing = 0 then (if y2_missing = 0 then (if y3_sort = y2_sort then (f_X8_hasPlaces fu y3_many x2 x5).bind fun z_950 => (if z_950 = 0 then (f_X11_deny fu b_latestStatus 3).bind fun z_952 => (bz z_952.1).bind fun _ => some (z_952.1, z_952.2, y0_row, y1_row, y2_row, y3_row) else (f_X8_hasPlaces fu y2_many x4 x5).bind fun z_954 => (if z_954 = 0 then (f_X11_deny fu b_latestStatus 3).bind fun z_959 => (bz z_959.1).bind fun _ => some (z_959.1, z_959.2, y0_row, y1_row, y2_row, y3_row) else (cpJ y3_row 60 y2_row 60 x2 x4 x5).bind fun y2_row_956 => (f_X11_allow fu b_latestStatus).bind fun z_957 => (bz z_957.1).bind fun _ => some (z_957.1, z_957.2, y0_row, y1_row, y2_row_956, y3_row))) else (f_X11_deny fu b_latestStatus 8).bind fun z_961 => (bz z_961.1).bind fun _ => some (z_961.1, z_961.2, y0_row, y1_row, y2_row, y3_row)) else (f_X11_deny fu b_latestStatus 2).bind fun z_963 => (bz z_963.1).bind fun _ => some (z_963.1, z_963.2, y0_row, y1_row, y2_row, y3_row)) else (f_X11_deny fu b_latestStatus 2).bind fun z_946 => (bz z_946.1).bind fun _ => some (z_946.1, z_946.2, y0_row, y1_row, y2_row, y3_row)) else (f_X11_deny fu b_latestStatus 1).bind fun z_965 => (bz z_965.1).bind fun _ => some (z_965.1, z_965.2, y0_row, y1_row, y2_row, y3_row)))) else (if x3 = 3 then (if x2 < 0 then (f_X11_deny fu b_latestStatus 1).bind fun z_969 => (bz z_969.1).bind fun _ => some (z_969.1, z_969.2, y0_row, y1_row, y2_row, y3_row) else (if x4 < 0 then (f_X11_deny fu b_latestStatus 1).bind fun z_972 => (bz z_972.1).bind fun _ => some (z_972.1, z_972.2, y0_row, y1_row, y2_row, y3_row) else (if 0 ≤ x5 then (if y3_missing = 0 then (if y3_missing = 0 then (if y3_sort = y3_sort then (f_X8_hasPlaces fu y3_many x2 x5).bind fun z_980 => (if z_980 = 0 then (f_X11_deny fu b_latestStatus 3).bind fun z_982 => (bz z_982.1).bind fun _ => some (z_982.1, z_982.2, y0_row, y1_row, y2_row, y3_row) else (f_X8_hasPlaces fu y3_many x4 x5).bind fun z_984 => (if z_984 = 0 then (f_X11_deny fu b_latestStatus 3).bind fun z_989 => (bz z_989.1).bind fun _ => some (z_989.1, z_989.2, y0_row, y1_row, y2_row, y3_row) else (cpJ y3_row 60 y3_row 60 x2 x4 x5).bind fun y3_row_986 => (f_X11_allow fu b_latestStatus).bind fun z_987 => (bz z_987.1).bind fun _ => some (z_987.1, z_987.2, y0_row, y1_row, y2_row, y3_row_986))) else (f_X11_deny fu b_latestStatus 8).bind fun z_991 => (bz z_991.1).bind fun _ => some (z_991.1, z_991.2, y0_row, y1_row, y2_row, y3_row)) else (f_X11_deny fu b_latestStatus 2).bind fun z_993 => (bz z_993.1).bind fun _ => some (z_993.1, z_993.2, y0_row, y1_row, y2_row, y3_row)) else (f_X11_deny fu b_latestStatus 2).bind fun z_976 => (bz z_976.1).bind fun _ => some (z_976.1, z_976.2, y0_row, y1_row, y2_row, y3_row)) else (f_X11_deny fu b_latestStatus 1).bind fun z_995 => (bz z_995.1).bind fun _ => some (z_995.1, z_995.2, y0_row, y1_row, y2_row, y3_row)))) else (f_X11_deny fu b_latestStatus 1).bind fun z_997 => (bz z_997.1).bind fun _ => some (z_997.1, z_997.2, y0_row, y1_row, y2_row, y3_row))))) else (if x3 = 0 then (f_X11_deny fu b_latestStatus 1).bind fun z_1000 => (bz z_1000.1).bind fun _ => some (z_1000.1, z_1000.2, y0_row, y1_row, y2_row, y3_row) else (if x3 = 1 then (f_X11_deny fu b_latestStatus 1).bind fun z_1003 => (bz z_1003.1).bind fun _ => some (z_1003.1, z_1003.2, y0_row, y1_row, y2_row, y3_row) else (if x3 = 2 then (f_X11_deny fu b_latestStatus 1).bind fun z_1006 => (bz z_1006.1).bind fun _ => some (z_1006.1, z_1006.2, y0_row, y1_row, y2_row, y3_row) else (if x3 = 3 then (f_X11_deny fu b_latestStatus 1).bind fun z_1009 => (bz z_1009.1).bind fun _ => some (z_1009.1, z_1009.2, y0_row, y1_row, y2_row, y3_row) else (f_X11_deny fu b_latestStatus 1).bind fun z_1011 => (bz z_1011.1).bind fun _ => some (z_1011.1, z_1011.2, y0_row, y1_row, y2_row, y3_row)))))))))
abbrev rm_X11_pour : Room := { frames := 2, cells := 0, slots := 0, locals := 60 }
set_option maxHeartbeats 4000000 in
set_option maxRecDepth 100000 in
theorem c_X11_pour (l : Launch) (D : va_G) (cy : Nat → ClassId) (fu : Nat) (A_b : Nat → Nat) (r_b_army : Nat) (r_b_war : Nat) (r_b_draftArmy : Nat) (r_b_draftWar : Nat) (r_b_reader : Nat) (r_b_armyReader : Nat) (r_b_warReader : Nat) (r_b_markedArmies : Nat) (r_b_markedWars : Nat) (r_b_latest : Nat) (r_b_trial : Nat) (r_b_foresight : Nat) (r_b_pairs : Nat) (b_latestStatus : Int32) (b_fractionTop : Int64) (b_fractionBottom : Int64) (b_marks : Int32) (A_T : Nat → Nat) (A_y0 : Nat → Nat) (y0_row : Nat → Int64) (y0_missing : Int32) (y0_sort : Int32) (y0_many : Int32) (A_y1 : Nat → Nat) (y1_row : Nat → Int64) (y1_missing : Int32) (y1_sort : Int32) (y1_many : Int32) (A_y2 : Nat → Nat) (y2_row : Nat → Int64) (y2_missing : Int32) (y2_sort : Int32) (y2_many : Int32) (A_y3 : Nat → Nat) (y3_row : Nat → Int64) (y3_missing : Int32) (y3_sort : Int32) (y3_many : Int32) (x1 : Int32) (x2 : Int32) (x3 : Int32) (x4 : Int32) (x5 : Int32) (res : Int32 × Int32 × (Nat → Int64) × (Nat → Int64) × (Nat → Int64) × (Nat → Int64)) (h : f_X11_pour fu b_latestStatus y0_row y0_missing y0_sort y0_many y1_row y1_missing y1_sort y1_many y2_row y2_missing y2_sort y2_many y3_row y3_missing y3_sort y3_many x1 x2 x3 x4 x5 = some res) (A : Nat → Prop) (hA : A = adr [bl_X11 cy A_b (A_T 0) r_b_army r_b_war r_b_draftArmy r_b_draftWar r_b_reader r_b_armyReader r_b_warReader r_b_markedArmies r_b_markedWars r_b_latest r_b_trial r_b_foresight r_b_pairs b_latestStatus b_fractionTop b_fractionBottom b_marks, [(A_T 0, .inl (cy 4, 4, .inr (.inr (.inr (.inr (trf4 (A_y0 0) (A_y1 0) (A_y2 0) (A_y3 0)))))))], bl_X8 cy A_y0 y0_row y0_missing y0_sort y0_many, bl_X8 cy A_y1 y1_row y1_missing y1_sort y1_many, bl_X8 cy A_y2 y2_row y2_missing y2_sort y2_many, bl_X8 cy A_y3 y3_row y3_missing y3_sort y3_many]) (W1 : List va_W) (hW1 : W1 = [bl_X11 cy A_b (A_T 0) r_b_army r_b_war r_b_draftArmy r_b_draftWar r_b_reader r_b_armyReader r_b_warReader r_b_markedArmies r_b_markedWars r_b_latest r_b_trial r_b_foresight r_b_pairs res.2.1 b_fractionTop b_fractionBottom b_marks, [(A_T 0, .inl (cy 4, 4, .inr (.inr (.inr (.inr (trf4 (A_y0 0) (A_y1 0) (A_y2 0) (A_y3 0)))))))], bl_X8 cy A_y0 res.2.2.1 y0_missing y0_sort y0_many, bl_X8 cy A_y1 res.2.2.2.1 y1_missing y1_sort y1_many, bl_X8 cy A_y2 res.2.2.2.2.1 y2_missing y2_sort y2_many, bl_X8 cy A_y3 res.2.2.2.2.2 y3_missing y3_sort y3_many]) : Met l yX11_pour (WW yX11_pour cX11_pour 8 (some .boolean)) rm_X11_pour (Ed D cy [.ref (A_b 0), .int x1, .int x2, .int x3, .int x4, .int x5] [bl_X11 cy A_b (A_T 0) r_b_army r_b_war r_b_draftArmy r_b_draftWar r_b_reader r_b_armyReader r_b_warReader r_b_markedArmies r_b_markedWars r_b_latest r_b_trial r_b_foresight r_b_pairs b_latestStatus b_fractionTop b_fractionBottom b_marks, [(A_T 0, .inl (cy 4, 4, .inr (.inr (.inr (.inr (trf4 (A_y0 0) (A_y1 0) (A_y2 0) (A_y3 0)))))))], bl_X8 cy A_y0 y0_row y0_missing y0_sort y0_many, bl_X8 cy A_y1 y1_row y1_missing y1_sort y1_many, bl_X8 cy A_y2 y2_row y2_missing y2_sort y2_many, bl_X8 cy A_y3 y3_row y3_missing y3_sort y3_many]) (Qei D res.1 A W1) 0 0 A := by
  refine Met.ofW (cc := cX11_pour) (maxL := 8) (ret := (some .boolean)) (by decide) rfl ?_
  intro p e s m args below meth c s₁ B hml hv
  obtain ⟨hargs, hP, hX, hD0⟩ := hv
  have hx := B.exec
  have hb := B.bytes
  have hr := B.returns
  have ht : ∀ w ∈ lw_gd, w.before args s = true := fun w hw => atoms_spec (ws := WW yX11_pour cX11_pour 8 (some .boolean)) B.pre w (List.mem_cons_of_mem _ hw)
  have hown : s.vm.findClass RX11 = some m.cls := findClass_of_methodNamed B.named
  have hlocks := B.notSynchronized
  have hP : PD D A [bl_X11 cy A_b (A_T 0) r_b_army r_b_war r_b_draftArmy r_b_draftWar r_b_reader r_b_armyReader r_b_warReader r_b_markedArmies r_b_markedWars r_b_latest r_b_trial r_b_foresight r_b_pairs b_latestStatus b_fractionTop b_fractionBottom b_marks, [(A_T 0, .inl (cy 4, 4, .inr (.inr (.inr (.inr (trf4 (A_y0 0) (A_y1 0) (A_y2 0) (A_y3 0)))))))], bl_X8 cy A_y0 y0_row y0_missing y0_sort y0_many, bl_X8 cy A_y1 y1_row y1_missing y1_sort y1_many, bl_X8 cy A_y2 y2_row y2_missing y2_sort y2_many, bl_X8 cy A_y3 y3_row y3_missing y3_sort y3_many] s.heap := ⟨hP, by rw [hA]; exact hD0.own⟩
  have hS : va_S A s.heap s.heap [] := va_S.rf
  obtain ⟨ls, hl, hent⟩ := ent (m := m) (n := 8) hargs (Nat.le_of_ble_eq_true rfl) (lv := [(0, .ref (A_b 0)), (1, .int x1), (2, .int x2), (3, .int x3), (4, .int x4), (5, .int x5)]) rfl
  rw [hent]
  clear hent
  unfold f_X11_pour at h
  refine lv_aload_n hx hb dX11_pour_0 rfl (lv_at hl 0 rfl) ?_
  refine lv_iload_n hx hb dX11_pour_1 rfl (lv_at hl 1 rfl) ?_
  by_cases c_507 : x1 = 0
  · have h := it c_507 h
    refine roVq (rest := []) ⟨hx, hb, hml, hown, ht⟩ (c_X11_trayAt l D cy fu A_b r_b_army r_b_war r_b_draftArmy r_b_draftWar r_b_reader r_b_armyReader r_b_warReader r_b_markedArmies r_b_markedWars r_b_latest r_b_trial r_b_foresight r_b_pairs b_latestStatus b_fractionTop b_fractionBottom b_marks A_T (trf4 (A_y0 0) (A_y1 0) (A_y2 0) (A_y3 0)) x1 (some (A_y0 0)) (tray_0 c_507)) (cV ht mv_X11_trayAt tb_500 rfl rfl ⟨Nat.le_of_ble_eq_true rfl, Nat.le_of_ble_eq_true rfl⟩) (P_sub hP.1 [0, 1] rfl) hX rfl rfl rfl hl.1 rfl (Nat.le_of_ble_eq_true rfl) dX11_pour_2 ⟨Nat.le_of_ble_eq_true rfl, Nat.le_of_ble_eq_true rfl⟩ ?_
    refine lv_astore (lv' := [(6, .ref (A_y0 0)), (0, .ref (A_b 0)), (1, .int x1), (2, .int x2), (3, .int x3), (4, .int x4), (5, .int x5)]) hx hb dX11_pour_5 hl (by decide) rfl (fun ls hl => ?_)
    refine lv_aload_n hx hb dX11_pour_7 rfl (lv_at hl 1 rfl) ?_
    refine lv_iload_n hx hb dX11_pour_8 rfl (lv_at hl 4 rfl) ?_
    by_cases c_508 : x3 = 0
    · have h := it c_508 h
      refine roVq (rest := []) ⟨hx, hb, hml, hown, ht⟩ (c_X11_trayAt l D cy fu A_b r_b_army r_b_war r_b_draftArmy r_b_draftWar r_b_reader r_b_armyReader r_b_warReader r_b_markedArmies r_b_markedWars r_b_latest r_b_trial r_b_foresight r_b_pairs b_latestStatus b_fractionTop b_fractionBottom b_marks A_T (trf4 (A_y0 0) (A_y1 0) (A_y2 0) (A_y3 0)) x3 (some (A_y0 0)) (tray_0 c_508)) (cV ht mv_X11_trayAt tb_500 rfl rfl ⟨Nat.le_of_ble_eq_true rfl, Nat.le_of_ble_eq_true rfl⟩) (P_sub hP.1 [0, 1] rfl) hX rfl rfl rfl hl.1 rfl (Nat.le_of_ble_eq_true rfl) dX11_pour_9 ⟨Nat.le_of_ble_eq_true rfl, Nat.le_of_ble_eq_true rfl⟩ ?_
      refine lv_astore (lv' := [(7, .ref (A_y0 0)), (6, .ref (A_y0 0)), (0, .ref (A_b 0)), (1, .int x1), (2, .int x2), (3, .int x3), (4, .int x4), (5, .int x5)]) hx hb dX11_pour_12 hl (by decide) rfl (fun ls hl => ?_)
      refine lv_aload hx hb dX11_pour_14 (lv_at hl 1 rfl) ?_
      refine lv_ifnull hx hb dX11_pour_16 ?_
      refine lv_aload hx hb dX11_pour_19 (lv_at hl 0 rfl) ?_
      refine lv_ifnull hx hb dX11_pour_21 ?_
      refine lv_iload_n hx hb dX11_pour_24 rfl (lv_at hl 4 rfl) ?_
      refine lv_if_lt (tgt := 38) hx hb dX11_pour_25 (by decide) (fun c_509 => ?_) (fun c_509 => ?_)
      · have h := it c_509 h
        refine lv_aload_n hx hb dX11_pour_38 rfl (lv_at hl 2 rfl) ?_
        refine lv_iconst (v := 1) hx hb dX11_pour_39 (by decide) ?_
        obtain ⟨z_510, e_z_510, h⟩ := bi h
        refine efVi (rest := []) ⟨hx, hb, hml, hown, ht⟩ (c_X11_deny l D cy fu A_b (A_T 0) r_b_army r_b_war r_b_draftArmy r_b_draftWar r_b_reader r_b_armyReader r_b_warReader r_b_markedArmies r_b_markedWars r_b_latest r_b_trial r_b_foresight r_b_pairs b_latestStatus b_fractionTop b_fractionBottom b_marks 1 z_510 e_z_510 _ rfl _ rfl) (cV ht mv_X11_deny tb_507 rfl rfl ⟨Nat.le_of_ble_eq_true rfl, Nat.le_of_ble_eq_true rfl⟩) hP hS hX [0] rfl rfl rfl rfl rfl rfl hl.1 rfl (Nat.le_of_ble_eq_true rfl) dX11_pour_40 ⟨Nat.le_of_ble_eq_true rfl, Nat.le_of_ble_eq_true rfl⟩ (fun H locs hP hS => ?_)
        have hP : PD D A [bl_X11 cy A_b (A_T 0) r_b_army r_b_war r_b_draftArmy r_b_draftWar r_b_reader r_b_armyReader r_b_warReader r_b_markedArmies r_b_markedWars r_b_latest r_b_trial r_b_foresight r_b_pairs z_510.2 b_fractionTop b_fractionBottom b_marks, [(A_T 0, .inl (cy 4, 4, .inr (.inr (.inr (.inr (trf4 (A_y0 0) (A_y1 0) (A_y2 0) (A_y3 0)))))))], bl_X8 cy A_y0 y0_row y0_missing y0_sort y0_many, bl_X8 cy A_y1 y1_row y1_missing y1_sort y1_many, bl_X8 cy A_y2 y2_row y2_missing y2_sort y2_many, bl_X8 cy A_y3 y3_row y3_missing y3_sort y3_many] H := hP
        obtain ⟨b_511, e_b_511, h⟩ := bi h
        obtain ⟨-, n_b_511, -⟩ := bz_ok e_b_511
        cases h
        subst hW1
        exact W.zret hx hb hr n_b_511 (fun _ ht9 _ => ⟨⟨_, (), rfl, rfl, hPt ht9 hP.1⟩, hS.F ht9⟩) hS.2.2 dX11_pour_43
      · have h := ie c_509 h
        refine lv_iload hx hb dX11_pour_28 (lv_at hl 6 rfl) ?_
        refine lv_if_lt (tgt := 38) hx hb dX11_pour_30 (by decide) (fun c_512 => ?_) (fun c_512 => ?_)
        · have h := it c_512 h
          refine lv_aload_n hx hb dX11_pour_38 rfl (lv_at hl 2 rfl) ?_
          refine lv_iconst (v := 1) hx hb dX11_pour_39 (by decide) ?_
          obtain ⟨z_513, e_z_513, h⟩ := bi h
          refine efVi (rest := []) ⟨hx, hb, hml, hown, ht⟩ (c_X11_deny l D cy fu A_b (A_T 0) r_b_army r_b_war r_b_draftArmy r_b_draftWar r_b_reader r_b_armyReader r_b_warReader r_b_markedArmies r_b_markedWars r_b_latest r_b_trial r_b_foresight r_b_pairs b_latestStatus b_fractionTop b_fractionBottom b_marks 1 z_513 e_z_513 _ rfl _ rfl) (cV ht mv_X11_deny tb_507 rfl rfl ⟨Nat.le_of_ble_eq_true rfl, Nat.le_of_ble_eq_true rfl⟩) hP hS hX [0] rfl rfl rfl rfl rfl rfl hl.1 rfl (Nat.le_of_ble_eq_true rfl) dX11_pour_40 ⟨Nat.le_of_ble_eq_true rfl, Nat.le_of_ble_eq_true rfl⟩ (fun H locs hP hS => ?_)
          have hP : PD D A [bl_X11 cy A_b (A_T 0) r_b_army r_b_war r_b_draftArmy r_b_draftWar r_b_reader r_b_armyReader r_b_warReader r_b_markedArmies r_b_markedWars r_b_latest r_b_trial r_b_foresight r_b_pairs z_513.2 b_fractionTop b_fractionBottom b_marks, [(A_T 0, .inl (cy 4, 4, .inr (.inr (.inr (.inr (trf4 (A_y0 0) (A_y1 0) (A_y2 0) (A_y3 0)))))))], bl_X8 cy A_y0 y0_row y0_missing y0_sort y0_many, bl_X8 cy A_y1 y1_row y1_missing y1_sort y1_many, bl_X8 cy A_y2 y2_row y2_missing y2_sort y2_many, bl_X8 cy A_y3 y3_row y3_missing y3_sort y3_many] H := hP
          obtain ⟨b_514, e_b_514, h⟩ := bi h
          obtain ⟨-, n_b_514, -⟩ := bz_ok e_b_514
          cases h
          subst hW1
          exact W.zret hx hb hr n_b_514 (fun _ ht9 _ => ⟨⟨_, (), rfl, rfl, hPt ht9 hP.1⟩, hS.F ht9⟩) hS.2.2 dX11_pour_43
        · have h := ie c_512 h
          refine lv_iload hx hb dX11_pour_33 (lv_at hl 7 rfl) ?_
          refine lv_if_ge (tgt := 44) hx hb dX11_pour_35 (by decide) (fun c_515 => ?_) (fun c_515 => ?_)
          · have h := it c_515 h
            refine lv_aload hx hb dX11_pour_44 (lv_at hl 1 rfl) ?_
            refine xget (i := 2) (j := 0) (k := 1) (T := TX8) hx hb ht tb_iX8 hown hX hP.1 rfl rfl rfl (by decide) tb_416 rfl dX11_pour_46 ?_
            refine lv_if_ne (tgt := 60) hx hb dX11_pour_49 (by decide) (fun c_516 => ?_) (fun c_516 => ?_)
            · have h := ie c_516 h
              refine lv_aload_n hx hb dX11_pour_60 rfl (lv_at hl 2 rfl) ?_
              refine lv_iconst (v := 2) hx hb dX11_pour_61 (by decide) ?_
              obtain ⟨z_517, e_z_517, h⟩ := bi h
              refine efVi (rest := []) ⟨hx, hb, hml, hown, ht⟩ (c_X11_deny l D cy fu A_b (A_T 0) r_b_army r_b_war r_b_draftArmy r_b_draftWar r_b_reader r_b_armyReader r_b_warReader r_b_markedArmies r_b_markedWars r_b_latest r_b_trial r_b_foresight r_b_pairs b_latestStatus b_fractionTop b_fractionBottom b_marks 2 z_517 e_z_517 _ rfl _ rfl) (cV ht mv_X11_deny tb_507 rfl rfl ⟨Nat.le_of_ble_eq_true rfl, Nat.le_of_ble_eq_true rfl⟩) hP hS hX [0] rfl rfl rfl rfl rfl rfl hl.1 rfl (Nat.le_of_ble_eq_true rfl) dX11_pour_62 ⟨Nat.le_of_ble_eq_true rfl, Nat.le_of_ble_eq_true rfl⟩ (fun H locs hP hS => ?_)
              have hP : PD D A [bl_X11 cy A_b (A_T 0) r_b_army r_b_war r_b_draftArmy r_b_draftWar r_b_reader r_b_armyReader r_b_warReader r_b_markedArmies r_b_markedWars r_b_latest r_b_trial r_b_foresight r_b_pairs z_517.2 b_fractionTop b_fractionBottom b_marks, [(A_T 0, .inl (cy 4, 4, .inr (.inr (.inr (.inr (trf4 (A_y0 0) (A_y1 0) (A_y2 0) (A_y3 0)))))))], bl_X8 cy A_y0 y0_row y0_missing y0_sort y0_many, bl_X8 cy A_y1 y1_row y1_missing y1_sort y1_many, bl_X8 cy A_y2 y2_row y2_missing y2_sort y2_many, bl_X8 cy A_y3 y3_row y3_missing y3_sort y3_many] H := hP
              obtain ⟨b_518, e_b_518, h⟩ := bi h
              obtain ⟨-, n_b_518, -⟩ := bz_ok e_b_518
              cases h
              subst hW1
              exact W.zret hx hb hr n_b_518 (fun _ ht9 _ => ⟨⟨_, (), rfl, rfl, hPt ht9 hP.1⟩, hS.F ht9⟩) hS.2.2 dX11_pour_65
            · have h := it c_516 h
              refine lv_aload hx hb dX11_pour_52 (lv_at hl 0 rfl) ?_
              refine xget (i := 2) (j := 0) (k := 1) (T := TX8) hx hb ht tb_iX8 hown hX hP.1 rfl rfl rfl (by decide) tb_416 rfl dX11_pour_54 ?_
              refine lv_if_eq (tgt := 66) hx hb dX11_pour_57 (by decide) (fun c_519 => ?_) (fun c_519 => ?_)
              · have h := it c_519 h
                refine lv_aload hx hb dX11_pour_66 (lv_at hl 1 rfl) ?_
                refine xget (i := 2) (j := 0) (k := 2) (T := TX8) hx hb ht tb_iX8 hown hX hP.1 rfl rfl rfl (by decide) tb_418 rfl dX11_pour_68 ?_
                refine lv_aload hx hb dX11_pour_71 (lv_at hl 0 rfl) ?_
                refine xget (i := 2) (j := 0) (k := 2) (T := TX8) hx hb ht tb_iX8 hown hX hP.1 rfl rfl rfl (by decide) tb_418 rfl dX11_pour_73 ?_
                refine lv_icmp_eq (tgt := 86) hx hb dX11_pour_76 (by decide) (fun c_520 => ?_) (fun c_520 => ?_)
                · have h := it c_520 h
                  refine lv_aload hx hb dX11_pour_86 (lv_at hl 1 rfl) ?_
                  refine lv_iload_n hx hb dX11_pour_88 rfl (lv_at hl 4 rfl) ?_
                  refine lv_iload hx hb dX11_pour_89 (lv_at hl 7 rfl) ?_
                  obtain ⟨z_521, e_z_521, h⟩ := bi h
                  refine roVi (rest := []) ⟨hx, hb, hml, hown, ht⟩ (c_X8_hasPlaces l D cy fu A_y0 y0_row y0_missing y0_sort y0_many x2 x5 z_521 e_z_521) (cV ht mv_X8_hasPlaces tb_526 rfl rfl ⟨Nat.le_of_ble_eq_true rfl, Nat.le_of_ble_eq_true rfl⟩) (P_sub hP.1 [2] rfl) hX rfl rfl rfl hl.1 rfl (Nat.le_of_ble_eq_true rfl) dX11_pour_91 ⟨Nat.le_of_ble_eq_true rfl, Nat.le_of_ble_eq_true rfl⟩ ?_
                  refine lv_if_eq (tgt := 109) hx hb dX11_pour_94 (by decide) (fun c_522 => ?_) (fun c_522 => ?_)
                  · have h := it c_522 h
                    refine lv_aload_n hx hb dX11_pour_109 rfl (lv_at hl 2 rfl) ?_
                    refine lv_iconst (v := 3) hx hb dX11_pour_110 (by decide) ?_
                    obtain ⟨z_523, e_z_523, h⟩ := bi h
                    refine efVi (rest := []) ⟨hx, hb, hml, hown, ht⟩ (c_X11_deny l D cy fu A_b (A_T 0) r_b_army r_b_war r_b_draftArmy r_b_draftWar r_b_reader r_b_armyReader r_b_warReader r_b_markedArmies r_b_markedWars r_b_latest r_b_trial r_b_foresight r_b_pairs b_latestStatus b_fractionTop b_fractionBottom b_marks 3 z_523 e_z_523 _ rfl _ rfl) (cV ht mv_X11_deny tb_507 rfl rfl ⟨Nat.le_of_ble_eq_true rfl, Nat.le_of_ble_eq_true rfl⟩) hP hS hX [0] rfl rfl rfl rfl rfl rfl hl.1 rfl (Nat.le_of_ble_eq_true rfl) dX11_pour_111 ⟨Nat.le_of_ble_eq_true rfl, Nat.le_of_ble_eq_true rfl⟩ (fun H locs hP hS => ?_)
                    have hP : PD D A [bl_X11 cy A_b (A_T 0) r_b_army r_b_war r_b_draftArmy r_b_draftWar r_b_reader r_b_armyReader r_b_warReader r_b_markedArmies r_b_markedWars r_b_latest r_b_trial r_b_foresight r_b_pairs z_523.2 b_fractionTop b_fractionBottom b_marks, [(A_T 0, .inl (cy 4, 4, .inr (.inr (.inr (.inr (trf4 (A_y0 0) (A_y1 0) (A_y2 0) (A_y3 0)))))))], bl_X8 cy A_y0 y0_row y0_missing y0_sort y0_many, bl_X8 cy A_y1 y1_row y1_missing y1_sort y1_many, bl_X8 cy A_y2 y2_row y2_missing y2_sort y2_many, bl_X8 cy A_y3 y3_row y3_missing y3_sort y3_many] H := hP
                    obtain ⟨b_524, e_b_524, h⟩ := bi h
                    obtain ⟨-, n_b_524, -⟩ := bz_ok e_b_524
                    cases h
                    subst hW1
                    exact W.zret hx hb hr n_b_524 (fun _ ht9 _ => ⟨⟨_, (), rfl, rfl, hPt ht9 hP.1⟩, hS.F ht9⟩) hS.2.2 dX11_pour_114
                  · have h := ie c_522 h
                    refine lv_aload hx hb dX11_pour_97 (lv_at hl 0 rfl) ?_
                    refine lv_iload hx hb dX11_pour_99 (lv_at hl 6 rfl) ?_
                    refine lv_iload hx hb dX11_pour_101 (lv_at hl 7 rfl) ?_
                    obtain ⟨z_525, e_z_525, h⟩ := bi h
                    refine roVi (rest := []) ⟨hx, hb, hml, hown, ht⟩ (c_X8_hasPlaces l D cy fu A_y0 y0_row y0_missing y0_sort y0_many x4 x5 z_525 e_z_525) (cV ht mv_X8_hasPlaces tb_526 rfl rfl ⟨Nat.le_of_ble_eq_true rfl, Nat.le_of_ble_eq_true rfl⟩) (P_sub hP.1 [2] rfl) hX rfl rfl rfl hl.1 rfl (Nat.le_of_ble_eq_true rfl) dX11_pour_103 ⟨Nat.le_of_ble_eq_true rfl, Nat.le_of_ble_eq_true rfl⟩ ?_
                    refine lv_if_ne (tgt := 115) hx hb dX11_pour_106 (by decide) (fun c_526 => ?_) (fun c_526 => ?_)
                    · have h := ie c_526 h
                      refine lv_aload hx hb dX11_pour_115 (lv_at hl 1 rfl) ?_
                      refine xget (i := 2) (j := 0) (k := 0) (T := TX8) hx hb ht tb_iX8 hown hX hP.1 rfl rfl rfl (by decide) tb_414 rfl dX11_pour_117 ?_
                      refine lv_iload_n hx hb dX11_pour_120 rfl (lv_at hl 4 rfl) ?_
                      refine lv_aload hx hb dX11_pour_121 (lv_at hl 0 rfl) ?_
                      refine xget (i := 2) (j := 0) (k := 0) (T := TX8) hx hb ht tb_iX8 hown hX hP.1 rfl rfl rfl (by decide) tb_414 rfl dX11_pour_123 ?_
                      refine lv_iload hx hb dX11_pour_126 (lv_at hl 6 rfl) ?_
                      refine lv_iload hx hb dX11_pour_128 (lv_at hl 7 rfl) ?_
                      obtain ⟨y0_row_527, e_y0_row_527, h⟩ := bi h
                      refine xcpJ (i0 := 2) (j0 := 1) (i1 := 2) (j1 := 1) hx hb (hml.trans hl.1.symm) hown (ht _ tb_555) (ht _ tb_557) (ht _ tb_556) (ht _ tb_18) hX hP hS rfl rfl rfl rfl e_y0_row_527 (Nat.le_of_ble_eq_true rfl) (Nat.le_of_ble_eq_true rfl) dX11_pour_130 (fun H locs hP hS => ?_)
                      have hP : PD D A [bl_X11 cy A_b (A_T 0) r_b_army r_b_war r_b_draftArmy r_b_draftWar r_b_reader r_b_armyReader r_b_warReader r_b_markedArmies r_b_markedWars r_b_latest r_b_trial r_b_foresight r_b_pairs b_latestStatus b_fractionTop b_fractionBottom b_marks, [(A_T 0, .inl (cy 4, 4, .inr (.inr (.inr (.inr (trf4 (A_y0 0) (A_y1 0) (A_y2 0) (A_y3 0)))))))], bl_X8 cy A_y0 y0_row_527 y0_missing y0_sort y0_many, bl_X8 cy A_y1 y1_row y1_missing y1_sort y1_many, bl_X8 cy A_y2 y2_row y2_missing y2_sort y2_many, bl_X8 cy A_y3 y3_row y3_missing y3_sort y3_many] H := hP
                      refine lv_aload_n hx hb dX11_pour_133 rfl (lv_at hl 2 rfl) ?_
                      obtain ⟨z_528, e_z_528, h⟩ := bi h
                      refine efVi (rest := []) ⟨hx, hb, hml, hown, ht⟩ (c_X11_allow l D cy fu A_b (A_T 0) r_b_army r_b_war r_b_draftArmy r_b_draftWar r_b_reader r_b_armyReader r_b_warReader r_b_markedArmies r_b_markedWars r_b_latest r_b_trial r_b_foresight r_b_pairs b_latestStatus b_fractionTop b_fractionBottom b_marks z_528 e_z_528 _ rfl _ rfl) (cV ht mv_X11_allow tb_518 rfl rfl ⟨Nat.le_of_ble_eq_true rfl, Nat.le_of_ble_eq_true rfl⟩) hP hS hX [0] rfl rfl rfl rfl rfl rfl hl.1 rfl (Nat.le_of_ble_eq_true rfl) dX11_pour_134 ⟨Nat.le_of_ble_eq_true rfl, Nat.le_of_ble_eq_true rfl⟩ (fun H locs hP hS => ?_)
                      have hP : PD D A [bl_X11 cy A_b (A_T 0) r_b_army r_b_war r_b_draftArmy r_b_draftWar r_b_reader r_b_armyReader r_b_warReader r_b_markedArmies r_b_markedWars r_b_latest r_b_trial r_b_foresight r_b_pairs z_528.2 b_fractionTop b_fractionBottom b_marks, [(A_T 0, .inl (cy 4, 4, .inr (.inr (.inr (.inr (trf4 (A_y0 0) (A_y1 0) (A_y2 0) (A_y3 0)))))))], bl_X8 cy A_y0 y0_row_527 y0_missing y0_sort y0_many, bl_X8 cy A_y1 y1_row y1_missing y1_sort y1_many, bl_X8 cy A_y2 y2_row y2_missing y2_sort y2_many, bl_X8 cy A_y3 y3_row y3_missing y3_sort y3_many] H := hP
                      obtain ⟨b_529, e_b_529, h⟩ := bi h
                      obtain ⟨-, n_b_529, -⟩ := bz_ok e_b_529
                      cases h
                      subst hW1
                      exact W.zret hx hb hr n_b_529 (fun _ ht9 _ => ⟨⟨_, (), rfl, rfl, hPt ht9 hP.1⟩, hS.F ht9⟩) hS.2.2 dX11_pour_137
                    · have h := it c_526 h
                      refine lv_aload_n hx hb dX11_pour_109 rfl (lv_at hl 2 rfl) ?_
                      refine lv_iconst (v := 3) hx hb dX11_pour_110 (by decide) ?_
                      obtain ⟨z_530, e_z_530, h⟩ := bi h
                      refine efVi (rest := []) ⟨hx, hb, hml, hown, ht⟩ (c_X11_deny l D cy fu A_b (A_T 0) r_b_army r_b_war r_b_draftArmy r_b_draftWar r_b_reader r_b_armyReader r_b_warReader r_b_markedArmies r_b_markedWars r_b_latest r_b_trial r_b_foresight r_b_pairs b_latestStatus b_fractionTop b_fractionBottom b_marks 3 z_530 e_z_530 _ rfl _ rfl) (cV ht mv_X11_deny tb_507 rfl rfl ⟨Nat.le_of_ble_eq_true rfl, Nat.le_of_ble_eq_true rfl⟩) hP hS hX [0] rfl rfl rfl rfl rfl rfl hl.1 rfl (Nat.le_of_ble_eq_true rfl) dX11_pour_111 ⟨Nat.le_of_ble_eq_true rfl, Nat.le_of_ble_eq_true rfl⟩ (fun H locs hP hS => ?_)
                      have hP : PD D A [bl_X11 cy A_b (A_T 0) r_b_army r_b_war r_b_draftArmy r_b_draftWar r_b_reader r_b_armyReader r_b_warReader r_b_markedArmies r_b_markedWars r_b_latest r_b_trial r_b_foresight r_b_pairs z_530.2 b_fractionTop b_fractionBottom b_marks, [(A_T 0, .inl (cy 4, 4, .inr (.inr (.inr (.inr (trf4 (A_y0 0) (A_y1 0) (A_y2 0) (A_y3 0)))))))], bl_X8 cy A_y0 y0_row y0_missing y0_sort y0_many, bl_X8 cy A_y1 y1_row y1_missing y1_sort y1_many, bl_X8 cy A_y2 y2_row y2_missing y2_sort y2_many, bl_X8 cy A_y3 y3_row y3_missing y3_sort y3_many] H := hP
                      obtain ⟨b_531, e_b_531, h⟩ := bi h
                      obtain ⟨-, n_b_531, -⟩ := bz_ok e_b_531
                      cases h
                      subst hW1
                      exact W.zret hx hb hr n_b_531 (fun _ ht9 _ => ⟨⟨_, (), rfl, rfl, hPt ht9 hP.1⟩, hS.F ht9⟩) hS.2.2 dX11_pour_114
                · have h := ie c_520 h
                  refine lv_aload_n hx hb dX11_pour_79 rfl (lv_at hl 2 rfl) ?_
                  refine lv_bipush (v := 8) hx hb dX11_pour_80 (by decide) ?_
                  obtain ⟨z_532, e_z_532, h⟩ := bi h
                  refine efVi (rest := []) ⟨hx, hb, hml, hown, ht⟩ (c_X11_deny l D cy fu A_b (A_T 0) r_b_army r_b_war r_b_draftArmy r_b_draftWar r_b_reader r_b_armyReader r_b_warReader r_b_markedArmies r_b_markedWars r_b_latest r_b_trial r_b_foresight r_b_pairs b_latestStatus b_fractionTop b_fractionBottom b_marks 8 z_532 e_z_532 _ rfl _ rfl) (cV ht mv_X11_deny tb_507 rfl rfl ⟨Nat.le_of_ble_eq_true rfl, Nat.le_of_ble_eq_true rfl⟩) hP hS hX [0] rfl rfl rfl rfl rfl rfl hl.1 rfl (Nat.le_of_ble_eq_true rfl) dX11_pour_82 ⟨Nat.le_of_ble_eq_true rfl, Nat.le_of_ble_eq_true rfl⟩ (fun H locs hP hS => ?_)
                  have hP : PD D A [bl_X11 cy A_b (A_T 0) r_b_army r_b_war r_b_draftArmy r_b_draftWar r_b_reader r_b_armyReader r_b_warReader r_b_markedArmies r_b_markedWars r_b_latest r_b_trial r_b_foresight r_b_pairs z_532.2 b_fractionTop b_fractionBottom b_marks, [(A_T 0, .inl (cy 4, 4, .inr (.inr (.inr (.inr (trf4 (A_y0 0) (A_y1 0) (A_y2 0) (A_y3 0)))))))], bl_X8 cy A_y0 y0_row y0_missing y0_sort y0_many, bl_X8 cy A_y1 y1_row y1_missing y1_sort y1_many, bl_X8 cy A_y2 y2_row y2_missing y2_sort y2_many, bl_X8 cy A_y3 y3_row y3_missing y3_sort y3_many] H := hP
                  obtain ⟨b_533, e_b_533, h⟩ := bi h
                  obtain ⟨-, n_b_533, -⟩ := bz_ok e_b_533
                  cases h
                  subst hW1
                  exact W.zret hx hb hr n_b_533 (fun _ ht9 _ => ⟨⟨_, (), rfl, rfl, hPt ht9 hP.1⟩, hS.F ht9⟩) hS.2.2 dX11_pour_85
              · have h := ie c_519 h
                refine lv_aload_n hx hb dX11_pour_60 rfl (lv_at hl 2 rfl) ?_
                refine lv_iconst (v := 2) hx hb dX11_pour_61 (by decide) ?_
                obtain ⟨z_534, e_z_534, h⟩ := bi h
                refine efVi (rest := []) ⟨hx, hb, hml, hown, ht⟩ (c_X11_deny l D cy fu A_b (A_T 0) r_b_army r_b_war r_b_draftArmy r_b_draftWar r_b_reader r_b_armyReader r_b_warReader r_b_markedArmies r_b_markedWars r_b_latest r_b_trial r_b_foresight r_b_pairs b_latestStatus b_fractionTop b_fractionBottom b_marks 2 z_534 e_z_534 _ rfl _ rfl) (cV ht mv_X11_deny tb_507 rfl rfl ⟨Nat.le_of_ble_eq_true rfl, Nat.le_of_ble_eq_true rfl⟩) hP hS hX [0] rfl rfl rfl rfl rfl rfl hl.1 rfl (Nat.le_of_ble_eq_true rfl) dX11_pour_62 ⟨Nat.le_of_ble_eq_true rfl, Nat.le_of_ble_eq_true rfl⟩ (fun H locs hP hS => ?_)
                have hP : PD D A [bl_X11 cy A_b (A_T 0) r_b_army r_b_war r_b_draftArmy r_b_draftWar r_b_reader r_b_armyReader r_b_warReader r_b_markedArmies r_b_markedWars r_b_latest r_b_trial r_b_foresight r_b_pairs z_534.2 b_fractionTop b_fractionBottom b_marks, [(A_T 0, .inl (cy 4, 4, .inr (.inr (.inr (.inr (trf4 (A_y0 0) (A_y1 0) (A_y2 0) (A_y3 0)))))))], bl_X8 cy A_y0 y0_row y0_missing y0_sort y0_many, bl_X8 cy A_y1 y1_row y1_missing y1_sort y1_many, bl_X8 cy A_y2 y2_row y2_missing y2_sort y2_many, bl_X8 cy A_y3 y3_row y3_missing y3_sort y3_many] H := hP
                obtain ⟨b_535, e_b_535, h⟩ := bi h
                obtain ⟨-, n_b_535, -⟩ := bz_ok e_b_535
                cases h
                subst hW1
                exact W.zret hx hb hr n_b_535 (fun _ ht9 _ => ⟨⟨_, (), rfl, rfl, hPt ht9 hP.1⟩, hS.F ht9⟩) hS.2.2 dX11_pour_65
          · have h := ie c_515 h
            refine lv_aload_n hx hb dX11_pour_38 rfl (lv_at hl 2 rfl) ?_
            refine lv_iconst (v := 1) hx hb dX11_pour_39 (by decide) ?_
            obtain ⟨z_536, e_z_536, h⟩ := bi h
            refine efVi (rest := []) ⟨hx, hb, hml, hown, ht⟩ (c_X11_deny l D cy fu A_b (A_T 0) r_b_army r_b_war r_b_draftArmy r_b_draftWar r_b_reader r_b_armyReader r_b_warReader r_b_markedArmies r_b_markedWars r_b_latest r_b_trial r_b_foresight r_b_pairs b_latestStatus b_fractionTop b_fractionBottom b_marks 1 z_536 e_z_536 _ rfl _ rfl) (cV ht mv_X11_deny tb_507 rfl rfl ⟨Nat.le_of_ble_eq_true rfl, Nat.le_of_ble_eq_true rfl⟩) hP hS hX [0] rfl rfl rfl rfl rfl rfl hl.1 rfl (Nat.le_of_ble_eq_true rfl) dX11_pour_40 ⟨Nat.le_of_ble_eq_true rfl, Nat.le_of_ble_eq_true rfl⟩ (fun H locs hP hS => ?_)
            have hP : PD D A [bl_X11 cy A_b (A_T 0) r_b_army r_b_war r_b_draftArmy r_b_draftWar r_b_reader r_b_armyReader r_b_warReader r_b_markedArmies r_b_markedWars r_b_latest r_b_trial r_b_foresight r_b_pairs z_536.2 b_fractionTop b_fractionBottom b_marks, [(A_T 0, .inl (cy 4, 4, .inr (.inr (.inr (.inr (trf4 (A_y0 0) (A_y1 0) (A_y2 0) (A_y3 0)))))))], bl_X8 cy A_y0 y0_row y0_missing y0_sort y0_many, bl_X8 cy A_y1 y1_row y1_missing y1_sort y1_many, bl_X8 cy A_y2 y2_row y2_missing y2_sort y2_many, bl_X8 cy A_y3 y3_row y3_missing y3_sort y3_many] H := hP
            obtain ⟨b_537, e_b_537, h⟩ := bi h
            obtain ⟨-, n_b_537, -⟩ := bz_ok e_b_537
            cases h
            subst hW1
            exact W.zret hx hb hr n_b_537 (fun _ ht9 _ => ⟨⟨_, (), rfl, rfl, hPt ht9 hP.1⟩, hS.F ht9⟩) hS.2.2 dX11_pour_43
    have h := ie c_508 h
    by_cases c_538 : x3 = 1
    · have h := it c_538 h
      refine roVq (rest := []) ⟨hx, hb, hml, hown, ht⟩ (c_X11_trayAt l D cy fu A_b r_b_army r_b_war r_b_draftArmy r_b_draftWar r_b_reader r_b_armyReader r_b_warReader r_b_markedArmies r_b_markedWars r_b_latest r_b_trial r_b_foresight r_b_pairs b_latestStatus b_fractionTop b_fractionBottom b_marks A_T (trf4 (A_y0 0) (A_y1 0) (A_y2 0) (A_y3 0)) x3 (some (A_y1 0)) (tray_1 c_538)) (cV ht mv_X11_trayAt tb_500 rfl rfl ⟨Nat.le_of_ble_eq_true rfl, Nat.le_of_ble_eq_true rfl⟩) (P_sub hP.1 [0, 1] rfl) hX rfl rfl rfl hl.1 rfl (Nat.le_of_ble_eq_true rfl) dX11_pour_9 ⟨Nat.le_of_ble_eq_true rfl, Nat.le_of_ble_eq_true rfl⟩ ?_
      refine lv_astore (lv' := [(7, .ref (A_y1 0)), (6, .ref (A_y0 0)), (0, .ref (A_b 0)), (1, .int x1), (2, .int x2), (3, .int x3), (4, .int x4), (5, .int x5)]) hx hb dX11_pour_12 hl (by decide) rfl (fun ls hl => ?_)
      refine lv_aload hx hb dX11_pour_14 (lv_at hl 1 rfl) ?_
      refine lv_ifnull hx hb dX11_pour_16 ?_
      refine lv_aload hx hb dX11_pour_19 (lv_at hl 0 rfl) ?_
      refine lv_ifnull hx hb dX11_pour_21 ?_
      refine lv_iload_n hx hb dX11_pour_24 rfl (lv_at hl 4 rfl) ?_
      refine lv_if_lt (tgt := 38) hx hb dX11_pour_25 (by decide) (fun c_539 => ?_) (fun c_539 => ?_)
      · have h := it c_539 h
        refine lv_aload_n hx hb dX11_pour_38 rfl (lv_at hl 2 rfl) ?_
        refine lv_iconst (v := 1) hx hb dX11_pour_39 (by decide) ?_
        obtain ⟨z_540, e_z_540, h⟩ := bi h
        refine efVi (rest := []) ⟨hx, hb, hml, hown, ht⟩ (c_X11_deny l D cy fu A_b (A_T 0) r_b_army r_b_war r_b_draftArmy r_b_draftWar r_b_reader r_b_armyReader r_b_warReader r_b_markedArmies r_b_markedWars r_b_latest r_b_trial r_b_foresight r_b_pairs b_latestStatus b_fractionTop b_fractionBottom b_marks 1 z_540 e_z_540 _ rfl _ rfl) (cV ht mv_X11_deny tb_507 rfl rfl ⟨Nat.le_of_ble_eq_true rfl, Nat.le_of_ble_eq_true rfl⟩) hP hS hX [0] rfl rfl rfl rfl rfl rfl hl.1 rfl (Nat.le_of_ble_eq_true rfl) dX11_pour_40 ⟨Nat.le_of_ble_eq_true rfl, Nat.le_of_ble_eq_true rfl⟩ (fun H locs hP hS => ?_)
        have hP : PD D A [bl_X11 cy A_b (A_T 0) r_b_army r_b_war r_b_draftArmy r_b_draftWar r_b_reader r_b_armyReader r_b_warReader r_b_markedArmies r_b_markedWars r_b_latest r_b_trial r_b_foresight r_b_pairs z_540.2 b_fractionTop b_fractionBottom b_marks, [(A_T 0, .inl (cy 4, 4, .inr (.inr (.inr (.inr (trf4 (A_y0 0) (A_y1 0) (A_y2 0) (A_y3 0)))))))], bl_X8 cy A_y0 y0_row y0_missing y0_sort y0_many, bl_X8 cy A_y1 y1_row y1_missing y1_sort y1_many, bl_X8 cy A_y2 y2_row y2_missing y2_sort y2_many, bl_X8 cy A_y3 y3_row y3_missing y3_sort y3_many] H := hP
        obtain ⟨b_541, e_b_541, h⟩ := bi h
        obtain ⟨-, n_b_541, -⟩ := bz_ok e_b_541
        cases h
        subst hW1
        exact W.zret hx hb hr n_b_541 (fun _ ht9 _ => ⟨⟨_, (), rfl, rfl, hPt ht9 hP.1⟩, hS.F ht9⟩) hS.2.2 dX11_pour_43
      · have h := ie c_539 h
        refine lv_iload hx hb dX11_pour_28 (lv_at hl 6 rfl) ?_
        refine lv_if_lt (tgt := 38) hx hb dX11_pour_30 (by decide) (fun c_542 => ?_) (fun c_542 => ?_)
        · have h := it c_542 h
          refine lv_aload_n hx hb dX11_pour_38 rfl (lv_at hl 2 rfl) ?_
          refine lv_iconst (v := 1) hx hb dX11_pour_39 (by decide) ?_
          obtain ⟨z_543, e_z_543, h⟩ := bi h
          refine efVi (rest := []) ⟨hx, hb, hml, hown, ht⟩ (c_X11_deny l D cy fu A_b (A_T 0) r_b_army r_b_war r_b_draftArmy r_b_draftWar r_b_reader r_b_armyReader r_b_warReader r_b_markedArmies r_b_markedWars r_b_latest r_b_trial r_b_foresight r_b_pairs b_latestStatus b_fractionTop b_fractionBottom b_marks 1 z_543 e_z_543 _ rfl _ rfl) (cV ht mv_X11_deny tb_507 rfl rfl ⟨Nat.le_of_ble_eq_true rfl, Nat.le_of_ble_eq_true rfl⟩) hP hS hX [0] rfl rfl rfl rfl rfl rfl hl.1 rfl (Nat.le_of_ble_eq_true rfl) dX11_pour_40 ⟨Nat.le_of_ble_eq_true rfl, Nat.le_of_ble_eq_true rfl⟩ (fun H locs hP hS => ?_)
          have hP : PD D A [bl_X11 cy A_b (A_T 0) r_b_army r_b_war r_b_draftArmy r_b_draftWar r_b_reader r_b_armyReader r_b_warReader r_b_markedArmies r_b_markedWars r_b_latest r_b_trial r_b_foresight r_b_pairs z_543.2 b_fractionTop b_fractionBottom b_marks, [(A_T 0, .inl (cy 4, 4, .inr (.inr (.inr (.inr (trf4 (A_y0 0) (A_y1 0) (A_y2 0) (A_y3 0)))))))], bl_X8 cy A_y0 y0_row y0_missing y0_sort y0_many, bl_X8 cy A_y1 y1_row y1_missing y1_sort y1_many, bl_X8 cy A_y2 y2_row y2_missing y2_sort y2_many, bl_X8 cy A_y3 y3_row y3_missing y3_sort y3_many] H := hP
          obtain ⟨b_544, e_b_544, h⟩ := bi h
          obtain ⟨-, n_b_544, -⟩ := bz_ok e_b_544
          cases h
          subst hW1
          exact W.zret hx hb hr n_b_544 (fun _ ht9 _ => ⟨⟨_, (), rfl, rfl, hPt ht9 hP.1⟩, hS.F ht9⟩) hS.2.2 dX11_pour_43
        · have h := ie c_542 h
          refine lv_iload hx hb dX11_pour_33 (lv_at hl 7 rfl) ?_
          refine lv_if_ge (tgt := 44) hx hb dX11_pour_35 (by decide) (fun c_545 => ?_) (fun c_545 => ?_)
          · have h := it c_545 h
            refine lv_aload hx hb dX11_pour_44 (lv_at hl 1 rfl) ?_
            refine xget (i := 2) (j := 0) (k := 1) (T := TX8) hx hb ht tb_iX8 hown hX hP.1 rfl rfl rfl (by decide) tb_416 rfl dX11_pour_46 ?_
            refine lv_if_ne (tgt := 60) hx hb dX11_pour_49 (by decide) (fun c_546 => ?_) (fun c_546 => ?_)
            · have h := ie c_546 h
              refine lv_aload_n hx hb dX11_pour_60 rfl (lv_at hl 2 rfl) ?_
              refine lv_iconst (v := 2) hx hb dX11_pour_61 (by decide) ?_
              obtain ⟨z_547, e_z_547, h⟩ := bi h
              refine efVi (rest := []) ⟨hx, hb, hml, hown, ht⟩ (c_X11_deny l D cy fu A_b (A_T 0) r_b_army r_b_war r_b_draftArmy r_b_draftWar r_b_reader r_b_armyReader r_b_warReader r_b_markedArmies r_b_markedWars r_b_latest r_b_trial r_b_foresight r_b_pairs b_latestStatus b_fractionTop b_fractionBottom b_marks 2 z_547 e_z_547 _ rfl _ rfl) (cV ht mv_X11_deny tb_507 rfl rfl ⟨Nat.le_of_ble_eq_true rfl, Nat.le_of_ble_eq_true rfl⟩) hP hS hX [0] rfl rfl rfl rfl rfl rfl hl.1 rfl (Nat.le_of_ble_eq_true rfl) dX11_pour_62 ⟨Nat.le_of_ble_eq_true rfl, Nat.le_of_ble_eq_true rfl⟩ (fun H locs hP hS => ?_)
              have hP : PD D A [bl_X11 cy A_b (A_T 0) r_b_army r_b_war r_b_draftArmy r_b_draftWar r_b_reader r_b_armyReader r_b_warReader r_b_markedArmies r_b_markedWars r_b_latest r_b_trial r_b_foresight r_b_pairs z_547.2 b_fractionTop b_fractionBottom b_marks, [(A_T 0, .inl (cy 4, 4, .inr (.inr (.inr (.inr (trf4 (A_y0 0) (A_y1 0) (A_y2 0) (A_y3 0)))))))], bl_X8 cy A_y0 y0_row y0_missing y0_sort y0_many, bl_X8 cy A_y1 y1_row y1_missing y1_sort y1_many, bl_X8 cy A_y2 y2_row y2_missing y2_sort y2_many, bl_X8 cy A_y3 y3_row y3_missing y3_sort y3_many] H := hP
              obtain ⟨b_548, e_b_548, h⟩ := bi h
              obtain ⟨-, n_b_548, -⟩ := bz_ok e_b_548
              cases h
              subst hW1
              exact W.zret hx hb hr n_b_548 (fun _ ht9 _ => ⟨⟨_, (), rfl, rfl, hPt ht9 hP.1⟩, hS.F ht9⟩) hS.2.2 dX11_pour_65
            · have h := it c_546 h
              refine lv_aload hx hb dX11_pour_52 (lv_at hl 0 rfl) ?_
              refine xget (i := 3) (j := 0) (k := 1) (T := TX8) hx hb ht tb_iX8 hown hX hP.1 rfl rfl rfl (by decide) tb_416 rfl dX11_pour_54 ?_
              refine lv_if_eq (tgt := 66) hx hb dX11_pour_57 (by decide) (fun c_549 => ?_) (fun c_549 => ?_)
              · have h := it c_549 h
                refine lv_aload hx hb dX11_pour_66 (lv_at hl 1 rfl) ?_
                refine xget (i := 2) (j := 0) (k := 2) (T := TX8) hx hb ht tb_iX8 hown hX hP.1 rfl rfl rfl (by decide) tb_418 rfl dX11_pour_68 ?_
                refine lv_aload hx hb dX11_pour_71 (lv_at hl 0 rfl) ?_
                refine xget (i := 3) (j := 0) (k := 2) (T := TX8) hx hb ht tb_iX8 hown hX hP.1 rfl rfl rfl (by decide) tb_418 rfl dX11_pour_73 ?_
                refine lv_icmp_eq (tgt := 86) hx hb dX11_pour_76 (by decide) (fun c_550 => ?_) (fun c_550 => ?_)
                · have h := it c_550 h
                  refine lv_aload hx hb dX11_pour_86 (lv_at hl 1 rfl) ?_
                  refine lv_iload_n hx hb dX11_pour_88 rfl (lv_at hl 4 rfl) ?_
                  refine lv_iload hx hb dX11_pour_89 (lv_at hl 7 rfl) ?_
                  obtain ⟨z_551, e_z_551, h⟩ := bi h
                  refine roVi (rest := []) ⟨hx, hb, hml, hown, ht⟩ (c_X8_hasPlaces l D cy fu A_y0 y0_row y0_missing y0_sort y0_many x2 x5 z_551 e_z_551) (cV ht mv_X8_hasPlaces tb_526 rfl rfl ⟨Nat.le_of_ble_eq_true rfl, Nat.le_of_ble_eq_true rfl⟩) (P_sub hP.1 [2] rfl) hX rfl rfl rfl hl.1 rfl (Nat.le_of_ble_eq_true rfl) dX11_pour_91 ⟨Nat.le_of_ble_eq_true rfl, Nat.le_of_ble_eq_true rfl⟩ ?_
                  refine lv_if_eq (tgt := 109) hx hb dX11_pour_94 (by decide) (fun c_552 => ?_) (fun c_552 => ?_)
                  · have h := it c_552 h
                    refine lv_aload_n hx hb dX11_pour_109 rfl (lv_at hl 2 rfl) ?_
                    refine lv_iconst (v := 3) hx hb dX11_pour_110 (by decide) ?_
                    obtain ⟨z_553, e_z_553, h⟩ := bi h
                    refine efVi (rest := []) ⟨hx, hb, hml, hown, ht⟩ (c_X11_deny l D cy fu A_b (A_T 0) r_b_army r_b_war r_b_draftArmy r_b_draftWar r_b_reader r_b_armyReader r_b_warReader r_b_markedArmies r_b_markedWars r_b_latest r_b_trial r_b_foresight r_b_pairs b_latestStatus b_fractionTop b_fractionBottom b_marks 3 z_553 e_z_553 _ rfl _ rfl) (cV ht mv_X11_deny tb_507 rfl rfl ⟨Nat.le_of_ble_eq_true rfl, Nat.le_of_ble_eq_true rfl⟩) hP hS hX [0] rfl rfl rfl rfl rfl rfl hl.1 rfl (Nat.le_of_ble_eq_true rfl) dX11_pour_111 ⟨Nat.le_of_ble_eq_true rfl, Nat.le_of_ble_eq_true rfl⟩ (fun H locs hP hS => ?_)
                    have hP : PD D A [bl_X11 cy A_b (A_T 0) r_b_army r_b_war r_b_draftArmy r_b_draftWar r_b_reader r_b_armyReader r_b_warReader r_b_markedArmies r_b_markedWars r_b_latest r_b_trial r_b_foresight r_b_pairs z_553.2 b_fractionTop b_fractionBottom b_marks, [(A_T 0, .inl (cy 4, 4, .inr (.inr (.inr (.inr (trf4 (A_y0 0) (A_y1 0) (A_y2 0) (A_y3 0)))))))], bl_X8 cy A_y0 y0_row y0_missing y0_sort y0_many, bl_X8 cy A_y1 y1_row y1_missing y1_sort y1_many, bl_X8 cy A_y2 y2_row y2_missing y2_sort y2_many, bl_X8 cy A_y3 y3_row y3_missing y3_sort y3_many] H := hP
                    obtain ⟨b_554, e_b_554, h⟩ := bi h
                    obtain ⟨-, n_b_554, -⟩ := bz_ok e_b_554
                    cases h
                    subst hW1
                    exact W.zret hx hb hr n_b_554 (fun _ ht9 _ => ⟨⟨_, (), rfl, rfl, hPt ht9 hP.1⟩, hS.F ht9⟩) hS.2.2 dX11_pour_114
                  · have h := ie c_552 h
                    refine lv_aload hx hb dX11_pour_97 (lv_at hl 0 rfl) ?_
                    refine lv_iload hx hb dX11_pour_99 (lv_at hl 6 rfl) ?_
                    refine lv_iload hx hb dX11_pour_101 (lv_at hl 7 rfl) ?_
                    obtain ⟨z_555, e_z_555, h⟩ := bi h
                    refine roVi (rest := []) ⟨hx, hb, hml, hown, ht⟩ (c_X8_hasPlaces l D cy fu A_y1 y1_row y1_missing y1_sort y1_many x4 x5 z_555 e_z_555) (cV ht mv_X8_hasPlaces tb_526 rfl rfl ⟨Nat.le_of_ble_eq_true rfl, Nat.le_of_ble_eq_true rfl⟩) (P_sub hP.1 [3] rfl) hX rfl rfl rfl hl.1 rfl (Nat.le_of_ble_eq_true rfl) dX11_pour_103 ⟨Nat.le_of_ble_eq_true rfl, Nat.le_of_ble_eq_true rfl⟩ ?_
                    refine lv_if_ne (tgt := 115) hx hb dX11_pour_106 (by decide) (fun c_556 => ?_) (fun c_556 => ?_)
                    · have h := ie c_556 h
                      refine lv_aload hx hb dX11_pour_115 (lv_at hl 1 rfl) ?_
                      refine xget (i := 2) (j := 0) (k := 0) (T := TX8) hx hb ht tb_iX8 hown hX hP.1 rfl rfl rfl (by decide) tb_414 rfl dX11_pour_117 ?_
                      refine lv_iload_n hx hb dX11_pour_120 rfl (lv_at hl 4 rfl) ?_
                      refine lv_aload hx hb dX11_pour_121 (lv_at hl 0 rfl) ?_
                      refine xget (i := 3) (j := 0) (k := 0) (T := TX8) hx hb ht tb_iX8 hown hX hP.1 rfl rfl rfl (by decide) tb_414 rfl dX11_pour_123 ?_
                      refine lv_iload hx hb dX11_pour_126 (lv_at hl 6 rfl) ?_
                      refine lv_iload hx hb dX11_pour_128 (lv_at hl 7 rfl) ?_
                      obtain ⟨y1_row_557, e_y1_row_557, h⟩ := bi h
                      refine xcpJ (i0 := 2) (j0 := 1) (i1 := 3) (j1 := 1) hx hb (hml.trans hl.1.symm) hown (ht _ tb_555) (ht _ tb_557) (ht _ tb_556) (ht _ tb_18) hX hP hS rfl rfl rfl rfl e_y1_row_557 (Nat.le_of_ble_eq_true rfl) (Nat.le_of_ble_eq_true rfl) dX11_pour_130 (fun H locs hP hS => ?_)
                      have hP : PD D A [bl_X11 cy A_b (A_T 0) r_b_army r_b_war r_b_draftArmy r_b_draftWar r_b_reader r_b_armyReader r_b_warReader r_b_markedArmies r_b_markedWars r_b_latest r_b_trial r_b_foresight r_b_pairs b_latestStatus b_fractionTop b_fractionBottom b_marks, [(A_T 0, .inl (cy 4, 4, .inr (.inr (.inr (.inr (trf4 (A_y0 0) (A_y1 0) (A_y2 0) (A_y3 0)))))))], bl_X8 cy A_y0 y0_row y0_missing y0_sort y0_many, bl_X8 cy A_y1 y1_row_557 y1_missing y1_sort y1_many, bl_X8 cy A_y2 y2_row y2_missing y2_sort y2_many, bl_X8 cy A_y3 y3_row y3_missing y3_sort y3_many] H := hP
                      refine lv_aload_n hx hb dX11_pour_133 rfl (lv_at hl 2 rfl) ?_
                      obtain ⟨z_558, e_z_558, h⟩ := bi h
                      refine efVi (rest := []) ⟨hx, hb, hml, hown, ht⟩ (c_X11_allow l D cy fu A_b (A_T 0) r_b_army r_b_war r_b_draftArmy r_b_draftWar r_b_reader r_b_armyReader r_b_warReader r_b_markedArmies r_b_markedWars r_b_latest r_b_trial r_b_foresight r_b_pairs b_latestStatus b_fractionTop b_fractionBottom b_marks z_558 e_z_558 _ rfl _ rfl) (cV ht mv_X11_allow tb_518 rfl rfl ⟨Nat.le_of_ble_eq_true rfl, Nat.le_of_ble_eq_true rfl⟩) hP hS hX [0] rfl rfl rfl rfl rfl rfl hl.1 rfl (Nat.le_of_ble_eq_true rfl) dX11_pour_134 ⟨Nat.le_of_ble_eq_true rfl, Nat.le_of_ble_eq_true rfl⟩ (fun H locs hP hS => ?_)
                      have hP : PD D A [bl_X11 cy A_b (A_T 0) r_b_army r_b_war r_b_draftArmy r_b_draftWar r_b_reader r_b_armyReader r_b_warReader r_b_markedArmies r_b_markedWars r_b_latest r_b_trial r_b_foresight r_b_pairs z_558.2 b_fractionTop b_fractionBottom b_marks, [(A_T 0, .inl (cy 4, 4, .inr (.inr (.inr (.inr (trf4 (A_y0 0) (A_y1 0) (A_y2 0) (A_y3 0)))))))], bl_X8 cy A_y0 y0_row y0_missing y0_sort y0_many, bl_X8 cy A_y1 y1_row_557 y1_missing y1_sort y1_many, bl_X8 cy A_y2 y2_row y2_missing y2_sort y2_many, bl_X8 cy A_y3 y3_row y3_missing y3_sort y3_many] H := hP
                      obtain ⟨b_559, e_b_559, h⟩ := bi h
                      obtain ⟨-, n_b_559, -⟩ := bz_ok e_b_559
                      cases h
                      subst hW1
                      exact W.zret hx hb hr n_b_559 (fun _ ht9 _ => ⟨⟨_, (), rfl, rfl, hPt ht9 hP.1⟩, hS.F ht9⟩) hS.2.2 dX11_pour_137
                    · have h := it c_556 h
                      refine lv_aload_n hx hb dX11_pour_109 rfl (lv_at hl 2 rfl) ?_
                      refine lv_iconst (v := 3) hx hb dX11_pour_110 (by decide) ?_
                      obtain ⟨z_560, e_z_560, h⟩ := bi h
                      refine efVi (rest := []) ⟨hx, hb, hml, hown, ht⟩ (c_X11_deny l D cy fu A_b (A_T 0) r_b_army r_b_war r_b_draftArmy r_b_draftWar r_b_reader r_b_armyReader r_b_warReader r_b_markedArmies r_b_markedWars r_b_latest r_b_trial r_b_foresight r_b_pairs b_latestStatus b_fractionTop b_fractionBottom b_marks 3 z_560 e_z_560 _ rfl _ rfl) (cV ht mv_X11_deny tb_507 rfl rfl ⟨Nat.le_of_ble_eq_true rfl, Nat.le_of_ble_eq_true rfl⟩) hP hS hX [0] rfl rfl rfl rfl rfl rfl hl.1 rfl (Nat.le_of_ble_eq_true rfl) dX11_pour_111 ⟨Nat.le_of_ble_eq_true rfl, Nat.le_of_ble_eq_true rfl⟩ (fun H locs hP hS => ?_)
                      have hP : PD D A [bl_X11 cy A_b (A_T 0) r_b_army r_b_war r_b_draftArmy r_b_draftWar r_b_reader r_b_armyReader r_b_warReader r_b_markedArmies r_b_markedWars r_b_latest r_b_trial r_b_foresight r_b_pairs z_560.2 b_fractionTop b_fractionBottom b_marks, [(A_T 0, .inl (cy 4, 4, .inr (.inr (.inr (.inr (trf4 (A_y0 0) (A_y1 0) (A_y2 0) (A_y3 0)))))))], bl_X8 cy A_y0 y0_row y0_missing y0_sort y0_many, bl_X8 cy A_y1 y1_row y1_missing y1_sort y1_many, bl_X8 cy A_y2 y2_row y2_missing y2_sort y2_many, bl_X8 cy A_y3 y3_row y3_missing y3_sort y3_many] H := hP
                      obtain ⟨b_561, e_b_561, h⟩ := bi h
                      obtain ⟨-, n_b_561, -⟩ := bz_ok e_b_561
                      cases h
                      subst hW1
                      exact W.zret hx hb hr n_b_561 (fun _ ht9 _ => ⟨⟨_, (), rfl, rfl, hPt ht9 hP.1⟩, hS.F ht9⟩) hS.2.2 dX11_pour_114
                · have h := ie c_550 h
                  refine lv_aload_n hx hb dX11_pour_79 rfl (lv_at hl 2 rfl) ?_
                  refine lv_bipush (v := 8) hx hb dX11_pour_80 (by decide) ?_
                  obtain ⟨z_562, e_z_562, h⟩ := bi h
                  refine efVi (rest := []) ⟨hx, hb, hml, hown, ht⟩ (c_X11_deny l D cy fu A_b (A_T 0) r_b_army r_b_war r_b_draftArmy r_b_draftWar r_b_reader r_b_armyReader r_b_warReader r_b_markedArmies r_b_markedWars r_b_latest r_b_trial r_b_foresight r_b_pairs b_latestStatus b_fractionTop b_fractionBottom b_marks 8 z_562 e_z_562 _ rfl _ rfl) (cV ht mv_X11_deny tb_507 rfl rfl ⟨Nat.le_of_ble_eq_true rfl, Nat.le_of_ble_eq_true rfl⟩) hP hS hX [0] rfl rfl rfl rfl rfl rfl hl.1 rfl (Nat.le_of_ble_eq_true rfl) dX11_pour_82 ⟨Nat.le_of_ble_eq_true rfl, Nat.le_of_ble_eq_true rfl⟩ (fun H locs hP hS => ?_)
                  have hP : PD D A [bl_X11 cy A_b (A_T 0) r_b_army r_b_war r_b_draftArmy r_b_draftWar r_b_reader r_b_armyReader r_b_warReader r_b_markedArmies r_b_markedWars r_b_latest r_b_trial r_b_foresight r_b_pairs z_562.2 b_fractionTop b_fractionBottom b_marks, [(A_T 0, .inl (cy 4, 4, .inr (.inr (.inr (.inr (trf4 (A_y0 0) (A_y1 0) (A_y2 0) (A_y3 0)))))))], bl_X8 cy A_y0 y0_row y0_missing y0_sort y0_many, bl_X8 cy A_y1 y1_row y1_missing y1_sort y1_many, bl_X8 cy A_y2 y2_row y2_missing y2_sort y2_many, bl_X8 cy A_y3 y3_row y3_missing y3_sort y3_many] H := hP
                  obtain ⟨b_563, e_b_563, h⟩ := bi h
                  obtain ⟨-, n_b_563, -⟩ := bz_ok e_b_563
                  cases h
                  subst hW1
                  exact W.zret hx hb hr n_b_563 (fun _ ht9 _ => ⟨⟨_, (), rfl, rfl, hPt ht9 hP.1⟩, hS.F ht9⟩) hS.2.2 dX11_pour_85
              · have h := ie c_549 h
                refine lv_aload_n hx hb dX11_pour_60 rfl (lv_at hl 2 rfl) ?_
                refine lv_iconst (v := 2) hx hb dX11_pour_61 (by decide) ?_
                obtain ⟨z_564, e_z_564, h⟩ := bi h
                refine efVi (rest := []) ⟨hx, hb, hml, hown, ht⟩ (c_X11_deny l D cy fu A_b (A_T 0) r_b_army r_b_war r_b_draftArmy r_b_draftWar r_b_reader r_b_armyReader r_b_warReader r_b_markedArmies r_b_markedWars r_b_latest r_b_trial r_b_foresight r_b_pairs b_latestStatus b_fractionTop b_fractionBottom b_marks 2 z_564 e_z_564 _ rfl _ rfl) (cV ht mv_X11_deny tb_507 rfl rfl ⟨Nat.le_of_ble_eq_true rfl, Nat.le_of_ble_eq_true rfl⟩) hP hS hX [0] rfl rfl rfl rfl rfl rfl hl.1 rfl (Nat.le_of_ble_eq_true rfl) dX11_pour_62 ⟨Nat.le_of_ble_eq_true rfl, Nat.le_of_ble_eq_true rfl⟩ (fun H locs hP hS => ?_)
                have hP : PD D A [bl_X11 cy A_b (A_T 0) r_b_army r_b_war r_b_draftArmy r_b_draftWar r_b_reader r_b_armyReader r_b_warReader r_b_markedArmies r_b_markedWars r_b_latest r_b_trial r_b_foresight r_b_pairs z_564.2 b_fractionTop b_fractionBottom b_marks, [(A_T 0, .inl (cy 4, 4, .inr (.inr (.inr (.inr (trf4 (A_y0 0) (A_y1 0) (A_y2 0) (A_y3 0)))))))], bl_X8 cy A_y0 y0_row y0_missing y0_sort y0_many, bl_X8 cy A_y1 y1_row y1_missing y1_sort y1_many, bl_X8 cy A_y2 y2_row y2_missing y2_sort y2_many, bl_X8 cy A_y3 y3_row y3_missing y3_sort y3_many] H := hP
                obtain ⟨b_565, e_b_565, h⟩ := bi h
                obtain ⟨-, n_b_565, -⟩ := bz_ok e_b_565
                cases h
                subst hW1
                exact W.zret hx hb hr n_b_565 (fun _ ht9 _ => ⟨⟨_, (), rfl, rfl, hPt ht9 hP.1⟩, hS.F ht9⟩) hS.2.2 dX11_pour_65
          · have h := ie c_545 h
            refine lv_aload_n hx hb dX11_pour_38 rfl (lv_at hl 2 rfl) ?_
            refine lv_iconst (v := 1) hx hb dX11_pour_39 (by decide) ?_
            obtain ⟨z_566, e_z_566, h⟩ := bi h
            refine efVi (rest := []) ⟨hx, hb, hml, hown, ht⟩ (c_X11_deny l D cy fu A_b (A_T 0) r_b_army r_b_war r_b_draftArmy r_b_draftWar r_b_reader r_b_armyReader r_b_warReader r_b_markedArmies r_b_markedWars r_b_latest r_b_trial r_b_foresight r_b_pairs b_latestStatus b_fractionTop b_fractionBottom b_marks 1 z_566 e_z_566 _ rfl _ rfl) (cV ht mv_X11_deny tb_507 rfl rfl ⟨Nat.le_of_ble_eq_true rfl, Nat.le_of_ble_eq_true rfl⟩) hP hS hX [0] rfl rfl rfl rfl rfl rfl hl.1 rfl (Nat.le_of_ble_eq_true rfl) dX11_pour_40 ⟨Nat.le_of_ble_eq_true rfl, Nat.le_of_ble_eq_true rfl⟩ (fun H locs hP hS => ?_)
            have hP : PD D A [bl_X11 cy A_b (A_T 0) r_b_army r_b_war r_b_draftArmy r_b_draftWar r_b_reader r_b_armyReader r_b_warReader r_b_markedArmies r_b_markedWars r_b_latest r_b_trial r_b_foresight r_b_pairs z_566.2 b_fractionTop b_fractionBottom b_marks, [(A_T 0, .inl (cy 4, 4, .inr (.inr (.inr (.inr (trf4 (A_y0 0) (A_y1 0) (A_y2 0) (A_y3 0)))))))], bl_X8 cy A_y0 y0_row y0_missing y0_sort y0_many, bl_X8 cy A_y1 y1_row y1_missing y1_sort y1_many, bl_X8 cy A_y2 y2_row y2_missing y2_sort y2_many, bl_X8 cy A_y3 y3_row y3_missing y3_sort y3_many] H := hP
            obtain ⟨b_567, e_b_567, h⟩ := bi h
            obtain ⟨-, n_b_567, -⟩ := bz_ok e_b_567
            cases h
            subst hW1
            exact W.zret hx hb hr n_b_567 (fun _ ht9 _ => ⟨⟨_, (), rfl, rfl, hPt ht9 hP.1⟩, hS.F ht9⟩) hS.2.2 dX11_pour_43
    have h := ie c_538 h
    by_cases c_568 : x3 = 2
    · have h := it c_568 h
      refine roVq (rest := []) ⟨hx, hb, hml, hown, ht⟩ (c_X11_trayAt l D cy fu A_b r_b_army r_b_war r_b_draftArmy r_b_draftWar r_b_reader r_b_armyReader r_b_warReader r_b_markedArmies r_b_markedWars r_b_latest r_b_trial r_b_foresight r_b_pairs b_latestStatus b_fractionTop b_fractionBottom b_marks A_T (trf4 (A_y0 0) (A_y1 0) (A_y2 0) (A_y3 0)) x3 (some (A_y2 0)) (tray_2 c_568)) (cV ht mv_X11_trayAt tb_500 rfl rfl ⟨Nat.le_of_ble_eq_true rfl, Nat.le_of_ble_eq_true rfl⟩) (P_sub hP.1 [0, 1] rfl) hX rfl rfl rfl hl.1 rfl (Nat.le_of_ble_eq_true rfl) dX11_pour_9 ⟨Nat.le_of_ble_eq_true rfl, Nat.le_of_ble_eq_true rfl⟩ ?_
      refine lv_astore (lv' := [(7, .ref (A_y2 0)), (6, .ref (A_y0 0)), (0, .ref (A_b 0)), (1, .int x1), (2, .int x2), (3, .int x3), (4, .int x4), (5, .int x5)]) hx hb dX11_pour_12 hl (by decide) rfl (fun ls hl => ?_)
      refine lv_aload hx hb dX11_pour_14 (lv_at hl 1 rfl) ?_
      refine lv_ifnull hx hb dX11_pour_16 ?_
      refine lv_aload hx hb dX11_pour_19 (lv_at hl 0 rfl) ?_
      refine lv_ifnull hx hb dX11_pour_21 ?_
      refine lv_iload_n hx hb dX11_pour_24 rfl (lv_at hl 4 rfl) ?_
      refine lv_if_lt (tgt := 38) hx hb dX11_pour_25 (by decide) (fun c_569 => ?_) (fun c_569 => ?_)
      · have h := it c_569 h
        refine lv_aload_n hx hb dX11_pour_38 rfl (lv_at hl 2 rfl) ?_
        refine lv_iconst (v := 1) hx hb dX11_pour_39 (by decide) ?_
        obtain ⟨z_570, e_z_570, h⟩ := bi h
        refine efVi (rest := []) ⟨hx, hb, hml, hown, ht⟩ (c_X11_deny l D cy fu A_b (A_T 0) r_b_army r_b_war r_b_draftArmy r_b_draftWar r_b_reader r_b_armyReader r_b_warReader r_b_markedArmies r_b_markedWars r_b_latest r_b_trial r_b_foresight r_b_pairs b_latestStatus b_fractionTop b_fractionBottom b_marks 1 z_570 e_z_570 _ rfl _ rfl) (cV ht mv_X11_deny tb_507 rfl rfl ⟨Nat.le_of_ble_eq_true rfl, Nat.le_of_ble_eq_true rfl⟩) hP hS hX [0] rfl rfl rfl rfl rfl rfl hl.1 rfl (Nat.le_of_ble_eq_true rfl) dX11_pour_40 ⟨Nat.le_of_ble_eq_true rfl, Nat.le_of_ble_eq_true rfl⟩ (fun H locs hP hS => ?_)
        have hP : PD D A [bl_X11 cy A_b (A_T 0) r_b_army r_b_war r_b_draftArmy r_b_draftWar r_b_reader r_b_armyReader r_b_warReader r_b_markedArmies r_b_markedWars r_b_latest r_b_trial r_b_foresight r_b_pairs z_570.2 b_fractionTop b_fractionBottom b_marks, [(A_T 0, .inl (cy 4, 4, .inr (.inr (.inr (.inr (trf4 (A_y0 0) (A_y1 0) (A_y2 0) (A_y3 0)))))))], bl_X8 cy A_y0 y0_row y0_missing y0_sort y0_many, bl_X8 cy A_y1 y1_row y1_missing y1_sort y1_many, bl_X8 cy A_y2 y2_row y2_missing y2_sort y2_many, bl_X8 cy A_y3 y3_row y3_missing y3_sort y3_many] H := hP
        obtain ⟨b_571, e_b_571, h⟩ := bi h
        obtain ⟨-, n_b_571, -⟩ := bz_ok e_b_571
        cases h
        subst hW1
        exact W.zret hx hb hr n_b_571 (fun _ ht9 _ => ⟨⟨_, (), rfl, rfl, hPt ht9 hP.1⟩, hS.F ht9⟩) hS.2.2 dX11_pour_43
      · have h := ie c_569 h
        refine lv_iload hx hb dX11_pour_28 (lv_at hl 6 rfl) ?_
        refine lv_if_lt (tgt := 38) hx hb dX11_pour_30 (by decide) (fun c_572 => ?_) (fun c_572 => ?_)
        · have h := it c_572 h
          refine lv_aload_n hx hb dX11_pour_38 rfl (lv_at hl 2 rfl) ?_
          refine lv_iconst (v := 1) hx hb dX11_pour_39 (by decide) ?_
          obtain ⟨z_573, e_z_573, h⟩ := bi h
          refine efVi (rest := []) ⟨hx, hb, hml, hown, ht⟩ (c_X11_deny l D cy fu A_b (A_T 0) r_b_army r_b_war r_b_draftArmy r_b_draftWar r_b_reader r_b_armyReader r_b_warReader r_b_markedArmies r_b_markedWars r_b_latest r_b_trial r_b_foresight r_b_pairs b_latestStatus b_fractionTop b_fractionBottom b_marks 1 z_573 e_z_573 _ rfl _ rfl) (cV ht mv_X11_deny tb_507 rfl rfl ⟨Nat.le_of_ble_eq_true rfl, Nat.le_of_ble_eq_true rfl⟩) hP hS hX [0] rfl rfl rfl rfl rfl rfl hl.1 rfl (Nat.le_of_ble_eq_true rfl) dX11_pour_40 ⟨Nat.le_of_ble_eq_true rfl, Nat.le_of_ble_eq_true rfl⟩ (fun H locs hP hS => ?_)
          have hP : PD D A [bl_X11 cy A_b (A_T 0) r_b_army r_b_war r_b_draftArmy r_b_draftWar r_b_reader r_b_armyReader r_b_warReader r_b_markedArmies r_b_markedWars r_b_latest r_b_trial r_b_foresight r_b_pairs z_573.2 b_fractionTop b_fractionBottom b_marks, [(A_T 0, .inl (cy 4, 4, .inr (.inr (.inr (.inr (trf4 (A_y0 0) (A_y1 0) (A_y2 0) (A_y3 0)))))))], bl_X8 cy A_y0 y0_row y0_missing y0_sort y0_many, bl_X8 cy A_y1 y1_row y1_missing y1_sort y1_many, bl_X8 cy A_y2 y2_row y2_missing y2_sort y2_many, bl_X8 cy A_y3 y3_row y3_missing y3_sort y3_many] H := hP
          obtain ⟨b_574, e_b_574, h⟩ := bi h
          obtain ⟨-, n_b_574, -⟩ := bz_ok e_b_574
          cases h
          subst hW1
          exact W.zret hx hb hr n_b_574 (fun _ ht9 _ => ⟨⟨_, (), rfl, rfl, hPt ht9 hP.1⟩, hS.F ht9⟩) hS.2.2 dX11_pour_43
        · have h := ie c_572 h
          refine lv_iload hx hb dX11_pour_33 (lv_at hl 7 rfl) ?_
          refine lv_if_ge (tgt := 44) hx hb dX11_pour_35 (by decide) (fun c_575 => ?_) (fun c_575 => ?_)
          · have h := it c_575 h
            refine lv_aload hx hb dX11_pour_44 (lv_at hl 1 rfl) ?_
            refine xget (i := 2) (j := 0) (k := 1) (T := TX8) hx hb ht tb_iX8 hown hX hP.1 rfl rfl rfl (by decide) tb_416 rfl dX11_pour_46 ?_
            refine lv_if_ne (tgt := 60) hx hb dX11_pour_49 (by decide) (fun c_576 => ?_) (fun c_576 => ?_)
            · have h := ie c_576 h
              refine lv_aload_n hx hb dX11_pour_60 rfl (lv_at hl 2 rfl) ?_
              refine lv_iconst (v := 2) hx hb dX11_pour_61 (by decide) ?_
              obtain ⟨z_577, e_z_577, h⟩ := bi h
              refine efVi (rest := []) ⟨hx, hb, hml, hown, ht⟩ (c_X11_deny l D cy fu A_b (A_T 0) r_b_army r_b_war r_b_draftArmy r_b_draftWar r_b_reader r_b_armyReader r_b_warReader r_b_markedArmies r_b_markedWars r_b_latest r_b_trial r_b_foresight r_b_pairs b_latestStatus b_fractionTop b_fractionBottom b_marks 2 z_577 e_z_577 _ rfl _ rfl) (cV ht mv_X11_deny tb_507 rfl rfl ⟨Nat.le_of_ble_eq_true rfl, Nat.le_of_ble_eq_true rfl⟩) hP hS hX [0] rfl rfl rfl rfl rfl rfl hl.1 rfl (Nat.le_of_ble_eq_true rfl) dX11_pour_62 ⟨Nat.le_of_ble_eq_true rfl, Nat.le_of_ble_eq_true rfl⟩ (fun H locs hP hS => ?_)
              have hP : PD D A [bl_X11 cy A_b (A_T 0) r_b_army r_b_war r_b_draftArmy r_b_draftWar r_b_reader r_b_armyReader r_b_warReader r_b_markedArmies r_b_markedWars r_b_latest r_b_trial r_b_foresight r_b_pairs z_577.2 b_fractionTop b_fractionBottom b_marks, [(A_T 0, .inl (cy 4, 4, .inr (.inr (.inr (.inr (trf4 (A_y0 0) (A_y1 0) (A_y2 0) (A_y3 0)))))))], bl_X8 cy A_y0 y0_row y0_missing y0_sort y0_many, bl_X8 cy A_y1 y1_row y1_missing y1_sort y1_many, bl_X8 cy A_y2 y2_row y2_missing y2_sort y2_many, bl_X8 cy A_y3 y3_row y3_missing y3_sort y3_many] H := hP
              obtain ⟨b_578, e_b_578, h⟩ := bi h
              obtain ⟨-, n_b_578, -⟩ := bz_ok e_b_578
              cases h
              subst hW1
              exact W.zret hx hb hr n_b_578 (fun _ ht9 _ => ⟨⟨_, (), rfl, rfl, hPt ht9 hP.1⟩, hS.F ht9⟩) hS.2.2 dX11_pour_65
            · have h := it c_576 h
              refine lv_aload hx hb dX11_pour_52 (lv_at hl 0 rfl) ?_
              refine xget (i := 4) (j := 0) (k := 1) (T := TX8) hx hb ht tb_iX8 hown hX hP.1 rfl rfl rfl (by decide) tb_416 rfl dX11_pour_54 ?_
              refine lv_if_eq (tgt := 66) hx hb dX11_pour_57 (by decide) (fun c_579 => ?_) (fun c_579 => ?_)
              · have h := it c_579 h
                refine lv_aload hx hb dX11_pour_66 (lv_at hl 1 rfl) ?_
                refine xget (i := 2) (j := 0) (k := 2) (T := TX8) hx hb ht tb_iX8 hown hX hP.1 rfl rfl rfl (by decide) tb_418 rfl dX11_pour_68 ?_
                refine lv_aload hx hb dX11_pour_71 (lv_at hl 0 rfl) ?_
                refine xget (i := 4) (j := 0) (k := 2) (T := TX8) hx hb ht tb_iX8 hown hX hP.1 rfl rfl rfl (by decide) tb_418 rfl dX11_pour_73 ?_
                refine lv_icmp_eq (tgt := 86) hx hb dX11_pour_76 (by decide) (fun c_580 => ?_) (fun c_580 => ?_)
                · have h := it c_580 h
                  refine lv_aload hx hb dX11_pour_86 (lv_at hl 1 rfl) ?_
                  refine lv_iload_n hx hb dX11_pour_88 rfl (lv_at hl 4 rfl) ?_
                  refine lv_iload hx hb dX11_pour_89 (lv_at hl 7 rfl) ?_
                  obtain ⟨z_581, e_z_581, h⟩ := bi h
                  refine roVi (rest := []) ⟨hx, hb, hml, hown, ht⟩ (c_X8_hasPlaces l D cy fu A_y0 y0_row y0_missing y0_sort y0_many x2 x5 z_581 e_z_581) (cV ht mv_X8_hasPlaces tb_526 rfl rfl ⟨Nat.le_of_ble_eq_true rfl, Nat.le_of_ble_eq_true rfl⟩) (P_sub hP.1 [2] rfl) hX rfl rfl rfl hl.1 rfl (Nat.le_of_ble_eq_true rfl) dX11_pour_91 ⟨Nat.le_of_ble_eq_true rfl, Nat.le_of_ble_eq_true rfl⟩ ?_
                  refine lv_if_eq (tgt := 109) hx hb dX11_pour_94 (by decide) (fun c_582 => ?_) (fun c_582 => ?_)
                  · have h := it c_582 h
                    refine lv_aload_n hx hb dX11_pour_109 rfl (lv_at hl 2 rfl) ?_
                    refine lv_iconst (v := 3) hx hb dX11_pour_110 (by decide) ?_
                    obtain ⟨z_583, e_z_583, h⟩ := bi h
                    refine efVi (rest := []) ⟨hx, hb, hml, hown, ht⟩ (c_X11_deny l D cy fu A_b (A_T 0) r_b_army r_b_war r_b_draftArmy r_b_draftWar r_b_reader r_b_armyReader r_b_warReader r_b_markedArmies r_b_markedWars r_b_latest r_b_trial r_b_foresight r_b_pairs b_latestStatus b_fractionTop b_fractionBottom b_marks 3 z_583 e_z_583 _ rfl _ rfl) (cV ht mv_X11_deny tb_507 rfl rfl ⟨Nat.le_of_ble_eq_true rfl, Nat.le_of_ble_eq_true rfl⟩) hP hS hX [0] rfl rfl rfl rfl rfl rfl hl.1 rfl (Nat.le_of_ble_eq_true rfl) dX11_pour_111 ⟨Nat.le_of_ble_eq_true rfl, Nat.le_of_ble_eq_true rfl⟩ (fun H locs hP hS => ?_)
                    have hP : PD D A [bl_X11 cy A_b (A_T 0) r_b_army r_b_war r_b_draftArmy r_b_draftWar r_b_reader r_b_armyReader r_b_warReader r_b_markedArmies r_b_markedWars r_b_latest r_b_trial r_b_foresight r_b_pairs z_583.2 b_fractionTop b_fractionBottom b_marks, [(A_T 0, .inl (cy 4, 4, .inr (.inr (.inr (.inr (trf4 (A_y0 0) (A_y1 0) (A_y2 0) (A_y3 0)))))))], bl_X8 cy A_y0 y0_row y0_missing y0_sort y0_many, bl_X8 cy A_y1 y1_row y1_missing y1_sort y1_many, bl_X8 cy A_y2 y2_row y2_missing y2_sort y2_many, bl_X8 cy A_y3 y3_row y3_missing y3_sort y3_many] H := hP
                    obtain ⟨b_584, e_b_584, h⟩ := bi h
                    obtain ⟨-, n_b_584, -⟩ := bz_ok e_b_584
                    cases h
                    subst hW1
                    exact W.zret hx hb hr n_b_584 (fun _ ht9 _ => ⟨⟨_, (), rfl, rfl, hPt ht9 hP.1⟩, hS.F ht9⟩) hS.2.2 dX11_pour_114
                  · have h := ie c_582 h
                    refine lv_aload hx hb dX11_pour_97 (lv_at hl 0 rfl) ?_
                    refine lv_iload hx hb dX11_pour_99 (lv_at hl 6 rfl) ?_
                    refine lv_iload hx hb dX11_pour_101 (lv_at hl 7 rfl) ?_
                    obtain ⟨z_585, e_z_585, h⟩ := bi h
                    refine roVi (rest := []) ⟨hx, hb, hml, hown, ht⟩ (c_X8_hasPlaces l D cy fu A_y2 y2_row y2_missing y2_sort y2_many x4 x5 z_585 e_z_585) (cV ht mv_X8_hasPlaces tb_526 rfl rfl ⟨Nat.le_of_ble_eq_true rfl, Nat.le_of_ble_eq_true rfl⟩) (P_sub hP.1 [4] rfl) hX rfl rfl rfl hl.1 rfl (Nat.le_of_ble_eq_true rfl) dX11_pour_103 ⟨Nat.le_of_ble_eq_true rfl, Nat.le_of_ble_eq_true rfl⟩ ?_
                    refine lv_if_ne (tgt := 115) hx hb dX11_pour_106 (by decide) (fun c_586 => ?_) (fun c_586 => ?_)
                    · have h := ie c_586 h
                      refine lv_aload hx hb dX11_pour_115 (lv_at hl 1 rfl) ?_
                      refine xget (i := 2) (j := 0) (k := 0) (T := TX8) hx hb ht tb_iX8 hown hX hP.1 rfl rfl rfl (by decide) tb_414 rfl dX11_pour_117 ?_
                      refine lv_iload_n hx hb dX11_pour_120 rfl (lv_at hl 4 rfl) ?_
                      refine lv_aload hx hb dX11_pour_121 (lv_at hl 0 rfl) ?_
                      refine xget (i := 4) (j := 0) (k := 0) (T := TX8) hx hb ht tb_iX8 hown hX hP.1 rfl rfl rfl (by decide) tb_414 rfl dX11_pour_123 ?_
                      refine lv_iload hx hb dX11_pour_126 (lv_at hl 6 rfl) ?_
                      refine lv_iload hx hb dX11_pour_128 (lv_at hl 7 rfl) ?_
                      obtain ⟨y2_row_587, e_y2_row_587, h⟩ := bi h
                      refine xcpJ (i0 := 2) (j0 := 1) (i1 := 4) (j1 := 1) hx hb (hml.trans hl.1.symm) hown (ht _ tb_555) (ht _ tb_557) (ht _ tb_556) (ht _ tb_18) hX hP hS rfl rfl rfl rfl e_y2_row_587 (Nat.le_of_ble_eq_true rfl) (Nat.le_of_ble_eq_true rfl) dX11_pour_130 (fun H locs hP hS => ?_)
                      have hP : PD D A [bl_X11 cy A_b (A_T 0) r_b_army r_b_war r_b_draftArmy r_b_draftWar r_b_reader r_b_armyReader r_b_warReader r_b_markedArmies r_b_markedWars r_b_latest r_b_trial r_b_foresight r_b_pairs b_latestStatus b_fractionTop b_fractionBottom b_marks, [(A_T 0, .inl (cy 4, 4, .inr (.inr (.inr (.inr (trf4 (A_y0 0) (A_y1 0) (A_y2 0) (A_y3 0)))))))], bl_X8 cy A_y0 y0_row y0_missing y0_sort y0_many, bl_X8 cy A_y1 y1_row y1_missing y1_sort y1_many, bl_X8 cy A_y2 y2_row_587 y2_missing y2_sort y2_many, bl_X8 cy A_y3 y3_row y3_missing y3_sort y3_many] H := hP
                      refine lv_aload_n hx hb dX11_pour_133 rfl (lv_at hl 2 rfl) ?_
                      obtain ⟨z_588, e_z_588, h⟩ := bi h
                      refine efVi (rest := []) ⟨hx, hb, hml, hown, ht⟩ (c_X11_allow l D cy fu A_b (A_T 0) r_b_army r_b_war r_b_draftArmy r_b_draftWar r_b_reader r_b_armyReader r_b_warReader r_b_markedArmies r_b_markedWars r_b_latest r_b_trial r_b_foresight r_b_pairs b_latestStatus b_fractionTop b_fractionBottom b_marks z_588 e_z_588 _ rfl _ rfl) (cV ht mv_X11_allow tb_518 rfl rfl ⟨Nat.le_of_ble_eq_true rfl, Nat.le_of_ble_eq_true rfl⟩) hP hS hX [0] rfl rfl rfl rfl rfl rfl hl.1 rfl (Nat.le_of_ble_eq_true rfl) dX11_pour_134 ⟨Nat.le_of_ble_eq_true rfl, Nat.le_of_ble_eq_true rfl⟩ (fun H locs hP hS => ?_)
                      have hP : PD D A [bl_X11 cy A_b (A_T 0) r_b_army r_b_war r_b_draftArmy r_b_draftWar r_b_reader r_b_armyReader r_b_warReader r_b_markedArmies r_b_markedWars r_b_latest r_b_trial r_b_foresight r_b_pairs z_588.2 b_fractionTop b_fractionBottom b_marks, [(A_T 0, .inl (cy 4, 4, .inr (.inr (.inr (.inr (trf4 (A_y0 0) (A_y1 0) (A_y2 0) (A_y3 0)))))))], bl_X8 cy A_y0 y0_row y0_missing y0_sort y0_many, bl_X8 cy A_y1 y1_row y1_missing y1_sort y1_many, bl_X8 cy A_y2 y2_row_587 y2_missing y2_sort y2_many, bl_X8 cy A_y3 y3_row y3_missing y3_sort y3_many] H := hP
                      obtain ⟨b_589, e_b_589, h⟩ := bi h
                      obtain ⟨-, n_b_589, -⟩ := bz_ok e_b_589
                      cases h
                      subst hW1
                      exact W.zret hx hb hr n_b_589 (fun _ ht9 _ => ⟨⟨_, (), rfl, rfl, hPt ht9 hP.1⟩, hS.F ht9⟩) hS.2.2 dX11_pour_137
                    · have h := it c_586 h
                      refine lv_aload_n hx hb dX11_pour_109 rfl (lv_at hl 2 rfl) ?_
                      refine lv_iconst (v := 3) hx hb dX11_pour_110 (by decide) ?_
                      obtain ⟨z_590, e_z_590, h⟩ := bi h
                      refine efVi (rest := []) ⟨hx, hb, hml, hown, ht⟩ (c_X11_deny l D cy fu A_b (A_T 0) r_b_army r_b_war r_b_draftArmy r_b_draftWar r_b_reader r_b_armyReader r_b_warReader r_b_markedArmies r_b_markedWars r_b_latest r_b_trial r_b_foresight r_b_pairs b_latestStatus b_fractionTop b_fractionBottom b_marks 3 z_590 e_z_590 _ rfl _ rfl) (cV ht mv_X11_deny tb_507 rfl rfl ⟨Nat.le_of_ble_eq_true rfl, Nat.le_of_ble_eq_true rfl⟩) hP hS hX [0] rfl rfl rfl rfl rfl rfl hl.1 rfl (Nat.le_of_ble_eq_true rfl) dX11_pour_111 ⟨Nat.le_of_ble_eq_true rfl, Nat.le_of_ble_eq_true rfl⟩ (fun H locs hP hS => ?_)
                      have hP : PD D A [bl_X11 cy A_b (A_T 0) r_b_army r_b_war r_b_draftArmy r_b_draftWar r_b_reader r_b_armyReader r_b_warReader r_b_markedArmies r_b_markedWars r_b_latest r_b_trial r_b_foresight r_b_pairs z_590.2 b_fractionTop b_fractionBottom b_marks, [(A_T 0, .inl (cy 4, 4, .inr (.inr (.inr (.inr (trf4 (A_y0 0) (A_y1 0) (A_y2 0) (A_y3 0)))))))], bl_X8 cy A_y0 y0_row y0_missing y0_sort y0_many, bl_X8 cy A_y1 y1_row y1_missing y1_sort y1_many, bl_X8 cy A_y2 y2_row y2_missing y2_sort y2_many, bl_X8 cy A_y3 y3_row y3_missing y3_sort y3_many] H := hP
                      obtain ⟨b_591, e_b_591, h⟩ := bi h
                      obtain ⟨-, n_b_591, -⟩ := bz_ok e_b_591
                      cases h
                      subst hW1
                      exact W.zret hx hb hr n_b_591 (fun _ ht9 _ => ⟨⟨_, (), rfl, rfl, hPt ht9 hP.1⟩, hS.F ht9⟩) hS.2.2 dX11_pour_114
                · have h := ie c_580 h
                  refine lv_aload_n hx hb dX11_pour_79 rfl (lv_at hl 2 rfl) ?_
                  refine lv_bipush (v := 8) hx hb dX11_pour_80 (by decide) ?_
                  obtain ⟨z_592, e_z_592, h⟩ := bi h
                  refine efVi (rest := []) ⟨hx, hb, hml, hown, ht⟩ (c_X11_deny l D cy fu A_b (A_T 0) r_b_army r_b_war r_b_draftArmy r_b_draftWar r_b_reader r_b_armyReader r_b_warReader r_b_markedArmies r_b_markedWars r_b_latest r_b_trial r_b_foresight r_b_pairs b_latestStatus b_fractionTop b_fractionBottom b_marks 8 z_592 e_z_592 _ rfl _ rfl) (cV ht mv_X11_deny tb_507 rfl rfl ⟨Nat.le_of_ble_eq_true rfl, Nat.le_of_ble_eq_true rfl⟩) hP hS hX [0] rfl rfl rfl rfl rfl rfl hl.1 rfl (Nat.le_of_ble_eq_true rfl) dX11_pour_82 ⟨Nat.le_of_ble_eq_true rfl, Nat.le_of_ble_eq_true rfl⟩ (fun H locs hP hS => ?_)
                  have hP : PD D A [bl_X11 cy A_b (A_T 0) r_b_army r_b_war r_b_draftArmy r_b_draftWar r_b_reader r_b_armyReader r_b_warReader r_b_markedArmies r_b_markedWars r_b_latest r_b_trial r_b_foresight r_b_pairs z_592.2 b_fractionTop b_fractionBottom b_marks, [(A_T 0, .inl (cy 4, 4, .inr (.inr (.inr (.inr (trf4 (A_y0 0) (A_y1 0) (A_y2 0) (A_y3 0)))))))], bl_X8 cy A_y0 y0_row y0_missing y0_sort y0_many, bl_X8 cy A_y1 y1_row y1_missing y1_sort y1_many, bl_X8 cy A_y2 y2_row y2_missing y2_sort y2_many, bl_X8 cy A_y3 y3_row y3_missing y3_sort y3_many] H := hP
                  obtain ⟨b_593, e_b_593, h⟩ := bi h
                  obtain ⟨-, n_b_593, -⟩ := bz_ok e_b_593
                  cases h
                  subst hW1
                  exact W.zret hx hb hr n_b_593 (fun _ ht9 _ => ⟨⟨_, (), rfl, rfl, hPt ht9 hP.1⟩, hS.F ht9⟩) hS.2.2 dX11_pour_85
              · have h := ie c_579 h
                refine lv_aload_n hx hb dX11_pour_60 rfl (lv_at hl 2 rfl) ?_
                refine lv_iconst (v := 2) hx hb dX11_pour_61 (by decide) ?_
                obtain ⟨z_594, e_z_594, h⟩ := bi h
                refine efVi (rest := []) ⟨hx, hb, hml, hown, ht⟩ (c_X11_deny l D cy fu A_b (A_T 0) r_b_army r_b_war r_b_draftArmy r_b_draftWar r_b_reader r_b_armyReader r_b_warReader r_b_markedArmies r_b_markedWars r_b_latest r_b_trial r_b_foresight r_b_pairs b_latestStatus b_fractionTop b_fractionBottom b_marks 2 z_594 e_z_594 _ rfl _ rfl) (cV ht mv_X11_deny tb_507 rfl rfl ⟨Nat.le_of_ble_eq_true rfl, Nat.le_of_ble_eq_true rfl⟩) hP hS hX [0] rfl rfl rfl rfl rfl rfl hl.1 rfl (Nat.le_of_ble_eq_true rfl) dX11_pour_62 ⟨Nat.le_of_ble_eq_true rfl, Nat.le_of_ble_eq_true rfl⟩ (fun H locs hP hS => ?_)
                have hP : PD D A [bl_X11 cy A_b (A_T 0) r_b_army r_b_war r_b_draftArmy r_b_draftWar r_b_reader r_b_armyReader r_b_warReader r_b_markedArmies r_b_markedWars r_b_latest r_b_trial r_b_foresight r_b_pairs z_594.2 b_fractionTop b_fractionBottom b_marks, [(A_T 0, .inl (cy 4, 4, .inr (.inr (.inr (.inr (trf4 (A_y0 0) (A_y1 0) (A_y2 0) (A_y3 0)))))))], bl_X8 cy A_y0 y0_row y0_missing y0_sort y0_many, bl_X8 cy A_y1 y1_row y1_missing y1_sort y1_many, bl_X8 cy A_y2 y2_row y2_missing y2_sort y2_many, bl_X8 cy A_y3 y3_row y3_missing y3_sort y3_many] H := hP
                obtain ⟨b_595, e_b_595, h⟩ := bi h
                obtain ⟨-, n_b_595, -⟩ := bz_ok e_b_595
                cases h
                subst hW1
                exact W.zret hx hb hr n_b_595 (fun _ ht9 _ => ⟨⟨_, (), rfl, rfl, hPt ht9 hP.1⟩, hS.F ht9⟩) hS.2.2 dX11_pour_65
          · have h := ie c_575 h
            refine lv_aload_n hx hb dX11_pour_38 rfl (lv_at hl 2 rfl) ?_
            refine lv_iconst (v := 1) hx hb dX11_pour_39 (by decide) ?_
            obtain ⟨z_596, e_z_596, h⟩ := bi h
            refine efVi (rest := []) ⟨hx, hb, hml, hown, ht⟩ (c_X11_deny l D cy fu A_b (A_T 0) r_b_army r_b_war r_b_draftArmy r_b_draftWar r_b_reader r_b_armyReader r_b_warReader r_b_markedArmies r_b_markedWars r_b_latest r_b_trial r_b_foresight r_b_pairs b_latestStatus b_fractionTop b_fractionBottom b_marks 1 z_596 e_z_596 _ rfl _ rfl) (cV ht mv_X11_deny tb_507 rfl rfl ⟨Nat.le_of_ble_eq_true rfl, Nat.le_of_ble_eq_true rfl⟩) hP hS hX [0] rfl rfl rfl rfl rfl rfl hl.1 rfl (Nat.le_of_ble_eq_true rfl) dX11_pour_40 ⟨Nat.le_of_ble_eq_true rfl, Nat.le_of_ble_eq_true rfl⟩ (fun H locs hP hS => ?_)
            have hP : PD D A [bl_X11 cy A_b (A_T 0) r_b_army r_b_war r_b_draftArmy r_b_draftWar r_b_reader r_b_armyReader r_b_warReader r_b_markedArmies r_b_markedWars r_b_latest r_b_trial r_b_foresight r_b_pairs z_596.2 b_fractionTop b_fractionBottom b_marks, [(A_T 0, .inl (cy 4, 4, .inr (.inr (.inr (.inr (trf4 (A_y0 0) (A_y1 0) (A_y2 0) (A_y3 0)))))))], bl_X8 cy A_y0 y0_row y0_missing y0_sort y0_many, bl_X8 cy A_y1 y1_row y1_missing y1_sort y1_many, bl_X8 cy A_y2 y2_row y2_missing y2_sort y2_many, bl_X8 cy A_y3 y3_row y3_missing y3_sort y3_many] H := hP
            obtain ⟨b_597, e_b_597, h⟩ := bi h
            obtain ⟨-, n_b_597, -⟩ := bz_ok e_b_597
            cases h
            subst hW1
            exact W.zret hx hb hr n_b_597 (fun _ ht9 _ => ⟨⟨_, (), rfl, rfl, hPt ht9 hP.1⟩, hS.F ht9⟩) hS.2.2 dX11_pour_43
    have h := ie c_568 h
    by_cases c_598 : x3 = 3
    · have h := it c_598 h
      refine roVq (rest := []) ⟨hx, hb, hml, hown, ht⟩ (c_X11_trayAt l D cy fu A_b r_b_army r_b_war r_b_draftArmy r_b_draftWar r_b_reader r_b_armyReader r_b_warReader r_b_markedArmies r_b_markedWars r_b_latest r_b_trial r_b_foresight r_b_pairs b_latestStatus b_fractionTop b_fractionBottom b_marks A_T (trf4 (A_y0 0) (A_y1 0) (A_y2 0) (A_y3 0)) x3 (some (A_y3 0)) (tray_3 c_598)) (cV ht mv_X11_trayAt tb_500 rfl rfl ⟨Nat.le_of_ble_eq_true rfl, Nat.le_of_ble_eq_true rfl⟩) (P_sub hP.1 [0, 1] rfl) hX rfl rfl rfl hl.1 rfl (Nat.le_of_ble_eq_true rfl) dX11_pour_9 ⟨Nat.le_of_ble_eq_true rfl, Nat.le_of_ble_eq_true rfl⟩ ?_
      refine lv_astore (lv' := [(7, .ref (A_y3 0)), (6, .ref (A_y0 0)), (0, .ref (A_b 0)), (1, .int x1), (2, .int x2), (3, .int x3), (4, .int x4), (5, .int x5)]) hx hb dX11_pour_12 hl (by decide) rfl (fun ls hl => ?_)
      refine lv_aload hx hb dX11_pour_14 (lv_at hl 1 rfl) ?_
      refine lv_ifnull hx hb dX11_pour_16 ?_
      refine lv_aload hx hb dX11_pour_19 (lv_at hl 0 rfl) ?_
      refine lv_ifnull hx hb dX11_pour_21 ?_
      refine lv_iload_n hx hb dX11_pour_24 rfl (lv_at hl 4 rfl) ?_
      refine lv_if_lt (tgt := 38) hx hb dX11_pour_25 (by decide) (fun c_599 => ?_) (fun c_599 => ?_)
      · have h := it c_599 h
        refine lv_aload_n hx hb dX11_pour_38 rfl (lv_at hl 2 rfl) ?_
        refine lv_iconst (v := 1) hx hb dX11_pour_39 (by decide) ?_
        obtain ⟨z_600, e_z_600, h⟩ := bi h
        refine efVi (rest := []) ⟨hx, hb, hml, hown, ht⟩ (c_X11_deny l D cy fu A_b (A_T 0) r_b_army r_b_war r_b_draftArmy r_b_draftWar r_b_reader r_b_armyReader r_b_warReader r_b_markedArmies r_b_markedWars r_b_latest r_b_trial r_b_foresight r_b_pairs b_latestStatus b_fractionTop b_fractionBottom b_marks 1 z_600 e_z_600 _ rfl _ rfl) (cV ht mv_X11_deny tb_507 rfl rfl ⟨Nat.le_of_ble_eq_true rfl, Nat.le_of_ble_eq_true rfl⟩) hP hS hX [0] rfl rfl rfl rfl rfl rfl hl.1 rfl (Nat.le_of_ble_eq_true rfl) dX11_pour_40 ⟨Nat.le_of_ble_eq_true rfl, Nat.le_of_ble_eq_true rfl⟩ (fun H locs hP hS => ?_)
        have hP : PD D A [bl_X11 cy A_b (A_T 0) r_b_army r_b_war r_b_draftArmy r_b_draftWar r_b_reader r_b_armyReader r_b_warReader r_b_markedArmies r_b_markedWars r_b_latest r_b_trial r_b_foresight r_b_pairs z_600.2 b_fractionTop b_fractionBottom b_marks, [(A_T 0, .inl (cy 4, 4, .inr (.inr (.inr (.inr (trf4 (A_y0 0) (A_y1 0) (A_y2 0) (A_y3 0)))))))], bl_X8 cy A_y0 y0_row y0_missing y0_sort y0_many, bl_X8 cy A_y1 y1_row y1_missing y1_sort y1_many, bl_X8 cy A_y2 y2_row y2_missing y2_sort y2_many, bl_X8 cy A_y3 y3_row y3_missing y3_sort y3_many] H := hP
        obtain ⟨b_601, e_b_601, h⟩ := bi h
        obtain ⟨-, n_b_601, -⟩ := bz_ok e_b_601
        cases h
        subst hW1
        exact W.zret hx hb hr n_b_601 (fun _ ht9 _ => ⟨⟨_, (), rfl, rfl, hPt ht9 hP.1⟩, hS.F ht9⟩) hS.2.2 dX11_pour_43
      · have h := ie c_599 h
        refine lv_iload hx hb dX11_pour_28 (lv_at hl 6 rfl) ?_
        refine lv_if_lt (tgt := 38) hx hb dX11_pour_30 (by decide) (fun c_602 => ?_) (fun c_602 => ?_)
        · have h := it c_602 h
          refine lv_aload_n hx hb dX11_pour_38 rfl (lv_at hl 2 rfl) ?_
          refine lv_iconst (v := 1) hx hb dX11_pour_39 (by decide) ?_
          obtain ⟨z_603, e_z_603, h⟩ := bi h
          refine efVi (rest := []) ⟨hx, hb, hml, hown, ht⟩ (c_X11_deny l D cy fu A_b (A_T 0) r_b_army r_b_war r_b_draftArmy r_b_draftWar r_b_reader r_b_armyReader r_b_warReader r_b_markedArmies r_b_markedWars r_b_latest r_b_trial r_b_foresight r_b_pairs b_latestStatus b_fractionTop b_fractionBottom b_marks 1 z_603 e_z_603 _ rfl _ rfl) (cV ht mv_X11_deny tb_507 rfl rfl ⟨Nat.le_of_ble_eq_true rfl, Nat.le_of_ble_eq_true rfl⟩) hP hS hX [0] rfl rfl rfl rfl rfl rfl hl.1 rfl (Nat.le_of_ble_eq_true rfl) dX11_pour_40 ⟨Nat.le_of_ble_eq_true rfl, Nat.le_of_ble_eq_true rfl⟩ (fun H locs hP hS => ?_)
          have hP : PD D A [bl_X11 cy A_b (A_T 0) r_b_army r_b_war r_b_draftArmy r_b_draftWar r_b_reader r_b_armyReader r_b_warReader r_b_markedArmies r_b_markedWars r_b_latest r_b_trial r_b_foresight r_b_pairs z_603.2 b_fractionTop b_fractionBottom b_marks, [(A_T 0, .inl (cy 4, 4, .inr (.inr (.inr (.inr (trf4 (A_y0 0) (A_y1 0) (A_y2 0) (A_y3 0)))))))], bl_X8 cy A_y0 y0_row y0_missing y0_sort y0_many, bl_X8 cy A_y1 y1_row y1_missing y1_sort y1_many, bl_X8 cy A_y2 y2_row y2_missing y2_sort y2_many, bl_X8 cy A_y3 y3_row y3_missing y3_sort y3_many] H := hP
          obtain ⟨b_604, e_b_604, h⟩ := bi h
          obtain ⟨-, n_b_604, -⟩ := bz_ok e_b_604
          cases h
          subst hW1
          exact W.zret hx hb hr n_b_604 (fun _ ht9 _ => ⟨⟨_, (), rfl, rfl, hPt ht9 hP.1⟩, hS.F ht9⟩) hS.2.2 dX11_pour_43
        · have h := ie c_602 h
          refine lv_iload hx hb dX11_pour_33 (lv_at hl 7 rfl) ?_
          refine lv_if_ge (tgt := 44) hx hb dX11_pour_35 (by decide) (fun c_605 => ?_) (fun c_605 => ?_)
          · have h := it c_605 h
            refine lv_aload hx hb dX11_pour_44 (lv_at hl 1 rfl) ?_
            refine xget (i := 2) (j := 0) (k := 1) (T := TX8) hx hb ht tb_iX8 hown hX hP.1 rfl rfl rfl (by decide) tb_416 rfl dX11_pour_46 ?_
            refine lv_if_ne (tgt := 60) hx hb dX11_pour_49 (by decide) (fun c_606 => ?_) (fun c_606 => ?_)
            · have h := ie c_606 h
              refine lv_aload_n hx hb dX11_pour_60 rfl (lv_at hl 2 rfl) ?_
              refine lv_iconst (v := 2) hx hb dX11_pour_61 (by decide) ?_
              obtain ⟨z_607, e_z_607, h⟩ := bi h
              refine efVi (rest := []) ⟨hx, hb, hml, hown, ht⟩ (c_X11_deny l D cy fu A_b (A_T 0) r_b_army r_b_war r_b_draftArmy r_b_draftWar r_b_reader r_b_armyReader r_b_warReader r_b_markedArmies r_b_markedWars r_b_latest r_b_trial r_b_foresight r_b_pairs b_latestStatus b_fractionTop b_fractionBottom b_marks 2 z_607 e_z_607 _ rfl _ rfl) (cV ht mv_X11_deny tb_507 rfl rfl ⟨Nat.le_of_ble_eq_true rfl, Nat.le_of_ble_eq_true rfl⟩) hP hS hX [0] rfl rfl rfl rfl rfl rfl hl.1 rfl (Nat.le_of_ble_eq_true rfl) dX11_pour_62 ⟨Nat.le_of_ble_eq_true rfl, Nat.le_of_ble_eq_true rfl⟩ (fun H locs hP hS => ?_)
              have hP : PD D A [bl_X11 cy A_b (A_T 0) r_b_army r_b_war r_b_draftArmy r_b_draftWar r_b_reader r_b_armyReader r_b_warReader r_b_markedArmies r_b_markedWars r_b_latest r_b_trial r_b_foresight r_b_pairs z_607.2 b_fractionTop b_fractionBottom b_marks, [(A_T 0, .inl (cy 4, 4, .inr (.inr (.inr (.inr (trf4 (A_y0 0) (A_y1 0) (A_y2 0) (A_y3 0)))))))], bl_X8 cy A_y0 y0_row y0_missing y0_sort y0_many, bl_X8 cy A_y1 y1_row y1_missing y1_sort y1_many, bl_X8 cy A_y2 y2_row y2_missing y2_sort y2_many, bl_X8 cy A_y3 y3_row y3_missing y3_sort y3_many] H := hP
              obtain ⟨b_608, e_b_608, h⟩ := bi h
              obtain ⟨-, n_b_608, -⟩ := bz_ok e_b_608
              cases h
              subst hW1
              exact W.zret hx hb hr n_b_608 (fun _ ht9 _ => ⟨⟨_, (), rfl, rfl, hPt ht9 hP.1⟩, hS.F ht9⟩) hS.2.2 dX11_pour_65
            · have h := it c_606 h
              refine lv_aload hx hb dX11_pour_52 (lv_at hl 0 rfl) ?_
              refine xget (i := 5) (j := 0) (k := 1) (T := TX8) hx hb ht tb_iX8 hown hX hP.1 rfl rfl rfl (by decide) tb_416 rfl dX11_pour_54 ?_
              refine lv_if_eq (tgt := 66) hx hb dX11_pour_57 (by decide) (fun c_609 => ?_) (fun c_609 => ?_)
              · have h := it c_609 h
                refine lv_aload hx hb dX11_pour_66 (lv_at hl 1 rfl) ?_
                refine xget (i := 2) (j := 0) (k := 2) (T := TX8) hx hb ht tb_iX8 hown hX hP.1 rfl rfl rfl (by decide) tb_418 rfl dX11_pour_68 ?_
                refine lv_aload hx hb dX11_pour_71 (lv_at hl 0 rfl) ?_
                refine xget (i := 5) (j := 0) (k := 2) (T := TX8) hx hb ht tb_iX8 hown hX hP.1 rfl rfl rfl (by decide) tb_418 rfl dX11_pour_73 ?_
                refine lv_icmp_eq (tgt := 86) hx hb dX11_pour_76 (by decide) (fun c_610 => ?_) (fun c_610 => ?_)
                · have h := it c_610 h
                  refine lv_aload hx hb dX11_pour_86 (lv_at hl 1 rfl) ?_
                  refine lv_iload_n hx hb dX11_pour_88 rfl (lv_at hl 4 rfl) ?_
                  refine lv_iload hx hb dX11_pour_89 (lv_at hl 7 rfl) ?_
                  obtain ⟨z_611, e_z_611, h⟩ := bi h
                  refine roVi (rest := []) ⟨hx, hb, hml, hown, ht⟩ (c_X8_hasPlaces l D cy fu A_y0 y0_row y0_missing y0_sort y0_many x2 x5 z_611 e_z_611) (cV ht mv_X8_hasPlaces tb_526 rfl rfl ⟨Nat.le_of_ble_eq_true rfl, Nat.le_of_ble_eq_true rfl⟩) (P_sub hP.1 [2] rfl) hX rfl rfl rfl hl.1 rfl (Nat.le_of_ble_eq_true rfl) dX11_pour_91 ⟨Nat.le_of_ble_eq_true rfl, Nat.le_of_ble_eq_true rfl⟩ ?_
                  refine lv_if_eq (tgt := 109) hx hb dX11_pour_94 (by decide) (fun c_612 => ?_) (fun c_612 => ?_)
                  · have h := it c_612 h
                    refine lv_aload_n hx hb dX11_pour_109 rfl (lv_at hl 2 rfl) ?_
                    refine lv_iconst (v := 3) hx hb dX11_pour_110 (by decide) ?_
                    obtain ⟨z_613, e_z_613, h⟩ := bi h
                    refine efVi (rest := []) ⟨hx, hb, hml, hown, ht⟩ (c_X11_deny l D cy fu A_b (A_T 0) r_b_army r_b_war r_b_draftArmy r_b_draftWar r_b_reader r_b_armyReader r_b_warReader r_b_markedArmies r_b_markedWars r_b_latest r_b_trial r_b_foresight r_b_pairs b_latestStatus b_fractionTop b_fractionBottom b_marks 3 z_613 e_z_613 _ rfl _ rfl) (cV ht mv_X11_deny tb_507 rfl rfl ⟨Nat.le_of_ble_eq_true rfl, Nat.le_of_ble_eq_true rfl⟩) hP hS hX [0] rfl rfl rfl rfl rfl rfl hl.1 rfl (Nat.le_of_ble_eq_true rfl) dX11_pour_111 ⟨Nat.le_of_ble_eq_true rfl, Nat.le_of_ble_eq_true rfl⟩ (fun H locs hP hS => ?_)
                    have hP : PD D A [bl_X11 cy A_b (A_T 0) r_b_army r_b_war r_b_draftArmy r_b_draftWar r_b_reader r_b_armyReader r_b_warReader r_b_markedArmies r_b_markedWars r_b_latest r_b_trial r_b_foresight r_b_pairs z_613.2 b_fractionTop b_fractionBottom b_marks, [(A_T 0, .inl (cy 4, 4, .inr (.inr (.inr (.inr (trf4 (A_y0 0) (A_y1 0) (A_y2 0) (A_y3 0)))))))], bl_X8 cy A_y0 y0_row y0_missing y0_sort y0_many, bl_X8 cy A_y1 y1_row y1_missing y1_sort y1_many, bl_X8 cy A_y2 y2_row y2_missing y2_sort y2_many, bl_X8 cy A_y3 y3_row y3_missing y3_sort y3_many] H := hP
                    obtain ⟨b_614, e_b_614, h⟩ := bi h
                    obtain ⟨-, n_b_614, -⟩ := bz_ok e_b_614
                    cases h
                    subst hW1
                    exact W.zret hx hb hr n_b_614 (fun _ ht9 _ => ⟨⟨_, (), rfl, rfl, hPt ht9 hP.1⟩, hS.F ht9⟩) hS.2.2 dX11_pour_114
                  · have h := ie c_612 h
                    refine lv_aload hx hb dX11_pour_97 (lv_at hl 0 rfl) ?_
                    refine lv_iload hx hb dX11_pour_99 (lv_at hl 6 rfl) ?_
                    refine lv_iload hx hb dX11_pour_101 (lv_at hl 7 rfl) ?_
                    obtain ⟨z_615, e_z_615, h⟩ := bi h
                    refine roVi (rest := []) ⟨hx, hb, hml, hown, ht⟩ (c_X8_hasPlaces l D cy fu A_y3 y3_row y3_missing y3_sort y3_many x4 x5 z_615 e_z_615) (cV ht mv_X8_hasPlaces tb_526 rfl rfl ⟨Nat.le_of_ble_eq_true rfl, Nat.le_of_ble_eq_true rfl⟩) (P_sub hP.1 [5] rfl) hX rfl rfl rfl hl.1 rfl (Nat.le_of_ble_eq_true rfl) dX11_pour_103 ⟨Nat.le_of_ble_eq_true rfl, Nat.le_of_ble_eq_true rfl⟩ ?_
                    refine lv_if_ne (tgt := 115) hx hb dX11_pour_106 (by decide) (fun c_616 => ?_) (fun c_616 => ?_)
                    · have h := ie c_616 h
                      refine lv_aload hx hb dX11_pour_115 (lv_at hl 1 rfl) ?_
                      refine xget (i := 2) (j := 0) (k := 0) (T := TX8) hx hb ht tb_iX8 hown hX hP.1 rfl rfl rfl (by decide) tb_414 rfl dX11_pour_117 ?_
                      refine lv_iload_n hx hb dX11_pour_120 rfl (lv_at hl 4 rfl) ?_
                      refine lv_aload hx hb dX11_pour_121 (lv_at hl 0 rfl) ?_
                      refine xget (i := 5) (j := 0) (k := 0) (T := TX8) hx hb ht tb_iX8 hown hX hP.1 rfl rfl rfl (by decide) tb_414 rfl dX11_pour_123 ?_
                      refine lv_iload hx hb dX11_pour_126 (lv_at hl 6 rfl) ?_
                      refine lv_iload hx hb dX11_pour_128 (lv_at hl 7 rfl) ?_
                      obtain ⟨y3_row_617, e_y3_row_617, h⟩ := bi h
                      refine xcpJ (i0 := 2) (j0 := 1) (i1 := 5) (j1 := 1) hx hb (hml.trans hl.1.symm) hown (ht _ tb_555) (ht _ tb_557) (ht _ tb_556) (ht _ tb_18) hX hP hS rfl rfl rfl rfl e_y3_row_617 (Nat.le_of_ble_eq_true rfl) (Nat.le_of_ble_eq_true rfl) dX11_pour_130 (fun H locs hP hS => ?_)
                      have hP : PD D A [bl_X11 cy A_b (A_T 0) r_b_army r_b_war r_b_draftArmy r_b_draftWar r_b_reader r_b_armyReader r_b_warReader r_b_markedArmies r_b_markedWars r_b_latest r_b_trial r_b_foresight r_b_pairs b_latestStatus b_fractionTop b_fractionBottom b_marks, [(A_T 0, .inl (cy 4, 4, .inr (.inr (.inr (.inr (trf4 (A_y0 0) (A_y1 0) (A_y2 0) (A_y3 0)))))))], bl_X8 cy A_y0 y0_row y0_missing y0_sort y0_many, bl_X8 cy A_y1 y1_row y1_missing y1_sort y1_many, bl_X8 cy A_y2 y2_row y2_missing y2_sort y2_many, bl_X8 cy A_y3 y3_row_617 y3_missing y3_sort y3_many] H := hP
                      refine lv_aload_n hx hb dX11_pour_133 rfl (lv_at hl 2 rfl) ?_
                      obtain ⟨z_618, e_z_618, h⟩ := bi h
                      refine efVi (rest := []) ⟨hx, hb, hml, hown, ht⟩ (c_X11_allow l D cy fu A_b (A_T 0) r_b_army r_b_war r_b_draftArmy r_b_draftWar r_b_reader r_b_armyReader r_b_warReader r_b_markedArmies r_b_markedWars r_b_latest r_b_trial r_b_foresight r_b_pairs b_latestStatus b_fractionTop b_fractionBottom b_marks z_618 e_z_618 _ rfl _ rfl) (cV ht mv_X11_allow tb_518 rfl rfl ⟨Nat.le_of_ble_eq_true rfl, Nat.le_of_ble_eq_true rfl⟩) hP hS hX [0] rfl rfl rfl rfl rfl rfl hl.1 rfl (Nat.le_of_ble_eq_true rfl) dX11_pour_134 ⟨Nat.le_of_ble_eq_true rfl, Nat.le_of_ble_eq_true rfl⟩ (fun H locs hP hS => ?_)
                      have hP : PD D A [bl_X11 cy A_b (A_T 0) r_b_army r_b_war r_b_draftArmy r_b_draftWar r_b_reader r_b_armyReader r_b_warReader r_b_markedArmies r_b_markedWars r_b_latest r_b_trial r_b_foresight r_b_pairs z_618.2 b_fractionTop b_fractionBottom b_marks, [(A_T 0, .inl (cy 4, 4, .inr (.inr (.inr (.inr (trf4 (A_y0 0) (A_y1 0) (A_y2 0) (A_y3 0)))))))], bl_X8 cy A_y0 y0_row y0_missing y0_sort y0_many, bl_X8 cy A_y1 y1_row y1_missing y1_sort y1_many, bl_X8 cy A_y2 y2_row y2_missing y2_sort y2_many, bl_X8 cy A_y3 y3_row_617 y3_missing y3_sort y3_many] H := hP
                      obtain ⟨b_619, e_b_619, h⟩ := bi h
                      obtain ⟨-, n_b_619, -⟩ := bz_ok e_b_619
                      cases h
                      subst hW1
                      exact W.zret hx hb hr n_b_619 (fun _ ht9 _ => ⟨⟨_, (), rfl, rfl, hPt ht9 hP.1⟩, hS.F ht9⟩) hS.2.2 dX11_pour_137
                    · have h := it c_616 h
                      refine lv_aload_n hx hb dX11_pour_109 rfl (lv_at hl 2 rfl) ?_
                      refine lv_iconst (v := 3) hx hb dX11_pour_110 (by decide) ?_
                      obtain ⟨z_620, e_z_620, h⟩ := bi h
                      refine efVi (rest := []) ⟨hx, hb, hml, hown, ht⟩ (c_X11_deny l D cy fu A_b (A_T 0) r_b_army r_b_war r_b_draftArmy r_b_draftWar r_b_reader r_b_armyReader r_b_warReader r_b_markedArmies r_b_markedWars r_b_latest r_b_trial r_b_foresight r_b_pairs b_latestStatus b_fractionTop b_fractionBottom b_marks 3 z_620 e_z_620 _ rfl _ rfl) (cV ht mv_X11_deny tb_507 rfl rfl ⟨Nat.le_of_ble_eq_true rfl, Nat.le_of_ble_eq_true rfl⟩) hP hS hX [0] rfl rfl rfl rfl rfl rfl hl.1 rfl (Nat.le_of_ble_eq_true rfl) dX11_pour_111 ⟨Nat.le_of_ble_eq_true rfl, Nat.le_of_ble_eq_true rfl⟩ (fun H locs hP hS => ?_)
                      have hP : PD D A [bl_X11 cy A_b (A_T 0) r_b_army r_b_war r_b_draftArmy r_b_draftWar r_b_reader r_b_armyReader r_b_warReader r_b_markedArmies r_b_markedWars r_b_latest r_b_trial r_b_foresight r_b_pairs z_620.2 b_fractionTop b_fractionBottom b_marks, [(A_T 0, .inl (cy 4, 4, .inr (.inr (.inr (.inr (trf4 (A_y0 0) (A_y1 0) (A_y2 0) (A_y3 0)))))))], bl_X8 cy A_y0 y0_row y0_missing y0_sort y0_many, bl_X8 cy A_y1 y1_row y1_missing y1_sort y1_many, bl_X8 cy A_y2 y2_row y2_missing y2_sort y2_many, bl_X8 cy A_y3 y3_row y3_missing y3_sort y3_many] H := hP
                      obtain ⟨b_621, e_b_621, h⟩ := bi h
                      obtain ⟨-, n_b_621, -⟩ := bz_ok e_b_621
                      cases h
                      subst hW1
                      exact W.zret hx hb hr n_b_621 (fun _ ht9 _ => ⟨⟨_, (), rfl, rfl, hPt ht9 hP.1⟩, hS.F ht9⟩) hS.2.2 dX11_pour_114
                · have h := ie c_610 h
                  refine lv_aload_n hx hb dX11_pour_79 rfl (lv_at hl 2 rfl) ?_
                  refine lv_bipush (v := 8) hx hb dX11_pour_80 (by decide) ?_
                  obtain ⟨z_622, e_z_622, h⟩ := bi h
                  refine efVi (rest := []) ⟨hx, hb, hml, hown, ht⟩ (c_X11_deny l D cy fu A_b (A_T 0) r_b_army r_b_war r_b_draftArmy r_b_draftWar r_b_reader r_b_armyReader r_b_warReader r_b_markedArmies r_b_markedWars r_b_latest r_b_trial r_b_foresight r_b_pairs b_latestStatus b_fractionTop b_fractionBottom b_marks 8 z_622 e_z_622 _ rfl _ rfl) (cV ht mv_X11_deny tb_507 rfl rfl ⟨Nat.le_of_ble_eq_true rfl, Nat.le_of_ble_eq_true rfl⟩) hP hS hX [0] rfl rfl rfl rfl rfl rfl hl.1 rfl (Nat.le_of_ble_eq_true rfl) dX11_pour_82 ⟨Nat.le_of_ble_eq_true rfl, Nat.le_of_ble_eq_true rfl⟩ (fun H locs hP hS => ?_)
                  have hP : PD D A [bl_X11 cy A_b (A_T 0) r_b_army r_b_war r_b_draftArmy r_b_draftWar r_b_reader r_b_armyReader r_b_warReader r_b_markedArmies r_b_markedWars r_b_latest r_b_trial r_b_foresight r_b_pairs z_622.2 b_fractionTop b_fractionBottom b_marks, [(A_T 0, .inl (cy 4, 4, .inr (.inr (.inr (.inr (trf4 (A_y0 0) (A_y1 0) (A_y2 0) (A_y3 0)))))))], bl_X8 cy A_y0 y0_row y0_missing y0_sort y0_many, bl_X8 cy A_y1 y1_row y1_missing y1_sort y1_many, bl_X8 cy A_y2 y2_row y2_missing y2_sort y2_many, bl_X8 cy A_y3 y3_row y3_missing y3_sort y3_many] H := hP
                  obtain ⟨b_623, e_b_623, h⟩ := bi h
                  obtain ⟨-, n_b_623, -⟩ := bz_ok e_b_623
                  cases h
                  subst hW1
                  exact W.zret hx hb hr n_b_623 (fun _ ht9 _ => ⟨⟨_, (), rfl, rfl, hPt ht9 hP.1⟩, hS.F ht9⟩) hS.2.2 dX11_pour_85
              · have h := ie c_609 h
                refine lv_aload_n hx hb dX11_pour_60 rfl (lv_at hl 2 rfl) ?_
                refine lv_iconst (v := 2) hx hb dX11_pour_61 (by decide) ?_
                obtain ⟨z_624, e_z_624, h⟩ := bi h
                refine efVi (rest := []) ⟨hx, hb, hml, hown, ht⟩ (c_X11_deny l D cy fu A_b (A_T 0) r_b_army r_b_war r_b_draftArmy r_b_draftWar r_b_reader r_b_armyReader r_b_warReader r_b_markedArmies r_b_markedWars r_b_latest r_b_trial r_b_foresight r_b_pairs b_latestStatus b_fractionTop b_fractionBottom b_marks 2 z_624 e_z_624 _ rfl _ rfl) (cV ht mv_X11_deny tb_507 rfl rfl ⟨Nat.le_of_ble_eq_true rfl, Nat.le_of_ble_eq_true rfl⟩) hP hS hX [0] rfl rfl rfl rfl rfl rfl hl.1 rfl (Nat.le_of_ble_eq_true rfl) dX11_pour_62 ⟨Nat.le_of_ble_eq_true rfl, Nat.le_of_ble_eq_true rfl⟩ (fun H locs hP hS => ?_)
                have hP : PD D A [bl_X11 cy A_b (A_T 0) r_b_army r_b_war r_b_draftArmy r_b_draftWar r_b_reader r_b_armyReader r_b_warReader r_b_markedArmies r_b_markedWars r_b_latest r_b_trial r_b_foresight r_b_pairs z_624.2 b_fractionTop b_fractionBottom b_marks, [(A_T 0, .inl (cy 4, 4, .inr (.inr (.inr (.inr (trf4 (A_y0 0) (A_y1 0) (A_y2 0) (A_y3 0)))))))], bl_X8 cy A_y0 y0_row y0_missing y0_sort y0_many, bl_X8 cy A_y1 y1_row y1_missing y1_sort y1_many, bl_X8 cy A_y2 y2_row y2_missing y2_sort y2_many, bl_X8 cy A_y3 y3_row y3_missing y3_sort y3_many] H := hP
                obtain ⟨b_625, e_b_625, h⟩ := bi h
                obtain ⟨-, n_b_625, -⟩ := bz_ok e_b_625
                cases h
                subst hW1
                exact W.zret hx hb hr n_b_625 (fun _ ht9 _ => ⟨⟨_, (), rfl, rfl, hPt ht9 hP.1⟩, hS.F ht9⟩) hS.2.2 dX11_pour_65
          · have h := ie c_605 h
            refine lv_aload_n hx hb dX11_pour_38 rfl (lv_at hl 2 rfl) ?_
            refine lv_iconst (v := 1) hx hb dX11_pour_39 (by decide) ?_
            obtain ⟨z_626, e_z_626, h⟩ := bi h
            refine efVi (rest := []) ⟨hx, hb, hml, hown, ht⟩ (c_X11_deny l D cy fu A_b (A_T 0) r_b_army r_b_war r_b_draftArmy r_b_draftWar r_b_reader r_b_armyReader r_b_warReader r_b_markedArmies r_b_markedWars r_b_latest r_b_trial r_b_foresight r_b_pairs b_latestStatus b_fractionTop b_fractionBottom b_marks 1 z_626 e_z_626 _ rfl _ rfl) (cV ht mv_X11_deny tb_507 rfl rfl ⟨Nat.le_of_ble_eq_true rfl, Nat.le_of_ble_eq_true rfl⟩) hP hS hX [0] rfl rfl rfl rfl rfl rfl hl.1 rfl (Nat.le_of_ble_eq_true rfl) dX11_pour_40 ⟨Nat.le_of_ble_eq_true rfl, Nat.le_of_ble_eq_true rfl⟩ (fun H locs hP hS => ?_)
            have hP : PD D A [bl_X11 cy A_b (A_T 0) r_b_army r_b_war r_b_draftArmy r_b_draftWar r_b_reader r_b_armyReader r_b_warReader r_b_markedArmies r_b_markedWars r_b_latest r_b_trial r_b_foresight r_b_pairs z_626.2 b_fractionTop b_fractionBottom b_marks, [(A_T 0, .inl (cy 4, 4, .inr (.inr (.inr (.inr (trf4 (A_y0 0) (A_y1 0) (A_y2 0) (A_y3 0)))))))], bl_X8 cy A_y0 y0_row y0_missing y0_sort y0_many, bl_X8 cy A_y1 y1_row y1_missing y1_sort y1_many, bl_X8 cy A_y2 y2_row y2_missing y2_sort y2_many, bl_X8 cy A_y3 y3_row y3_missing y3_sort y3_many] H := hP
            obtain ⟨b_627, e_b_627, h⟩ := bi h
            obtain ⟨-, n_b_627, -⟩ := bz_ok e_b_627
            cases h
            subst hW1
            exact W.zret hx hb hr n_b_627 (fun _ ht9 _ => ⟨⟨_, (), rfl, rfl, hPt ht9 hP.1⟩, hS.F ht9⟩) hS.2.2 dX11_pour_43
    have h := ie c_598 h
    refine roVq (rest := []) ⟨hx, hb, hml, hown, ht⟩ (c_X11_trayAt l D cy fu A_b r_b_army r_b_war r_b_draftArmy r_b_draftWar r_b_reader r_b_armyReader r_b_warReader r_b_markedArmies r_b_markedWars r_b_latest r_b_trial r_b_foresight r_b_pairs b_latestStatus b_fractionTop b_fractionBottom b_marks A_T (trf4 (A_y0 0) (A_y1 0) (A_y2 0) (A_y3 0)) x3 (none) (tray_out ⟨c_508, c_538, c_568, c_598⟩)) (cV ht mv_X11_trayAt tb_500 rfl rfl ⟨Nat.le_of_ble_eq_true rfl, Nat.le_of_ble_eq_true rfl⟩) (P_sub hP.1 [0, 1] rfl) hX rfl rfl rfl hl.1 rfl (Nat.le_of_ble_eq_true rfl) dX11_pour_9 ⟨Nat.le_of_ble_eq_true rfl, Nat.le_of_ble_eq_true rfl⟩ ?_
    refine lv_astoreN (lv' := [(7, .null), (6, .ref (A_y0 0)), (0, .ref (A_b 0)), (1, .int x1), (2, .int x2), (3, .int x3), (4, .int x4), (5, .int x5)]) hx hb dX11_pour_12 hl (by decide) rfl (fun ls hl => ?_)
    refine lv_aload hx hb dX11_pour_14 (lv_at hl 1 rfl) ?_
    refine lv_ifnull hx hb dX11_pour_16 ?_
    refine lv_aloadN hx hb dX11_pour_19 (lv_at hl 0 rfl) ?_
    refine lv_ifnullN (tgt := 38) hx hb dX11_pour_21 (by decide) ?_
    refine lv_aload_n hx hb dX11_pour_38 rfl (lv_at hl 2 rfl) ?_
    refine lv_iconst (v := 1) hx hb dX11_pour_39 (by decide) ?_
    obtain ⟨z_628, e_z_628, h⟩ := bi h
    refine efVi (rest := []) ⟨hx, hb, hml, hown, ht⟩ (c_X11_deny l D cy fu A_b (A_T 0) r_b_army r_b_war r_b_draftArmy r_b_draftWar r_b_reader r_b_armyReader r_b_warReader r_b_markedArmies r_b_markedWars r_b_latest r_b_trial r_b_foresight r_b_pairs b_latestStatus b_fractionTop b_fractionBottom b_marks 1 z_628 e_z_628 _ rfl _ rfl) (cV ht mv_X11_deny tb_507 rfl rfl ⟨Nat.le_of_ble_eq_true rfl, Nat.le_of_ble_eq_true rfl⟩) hP hS hX [0] rfl rfl rfl rfl rfl rfl hl.1 rfl (Nat.le_of_ble_eq_true rfl) dX11_pour_40 ⟨Nat.le_of_ble_eq_true rfl, Nat.le_of_ble_eq_true rfl⟩ (fun H locs hP hS => ?_)
    have hP : PD D A [bl_X11 cy A_b (A_T 0) r_b_army r_b_war r_b_draftArmy r_b_draftWar r_b_reader r_b_armyReader r_b_warReader r_b_markedArmies r_b_markedWars r_b_latest r_b_trial r_b_foresight r_b_pairs z_628.2 b_fractionTop b_fractionBottom b_marks, [(A_T 0, .inl (cy 4, 4, .inr (.inr (.inr (.inr (trf4 (A_y0 0) (A_y1 0) (A_y2 0) (A_y3 0)))))))], bl_X8 cy A_y0 y0_row y0_missing y0_sort y0_many, bl_X8 cy A_y1 y1_row y1_missing y1_sort y1_many, bl_X8 cy A_y2 y2_row y2_missing y2_sort y2_many, bl_X8 cy A_y3 y3_row y3_missing y3_sort y3_many] H := hP
    obtain ⟨b_629, e_b_629, h⟩ := bi h
    obtain ⟨-, n_b_629, -⟩ := bz_ok e_b_629
    cases h
    subst hW1
    exact W.zret hx hb hr n_b_629 (fun _ ht9 _ => ⟨⟨_, (), rfl, rfl, hPt ht9 hP.1⟩, hS.F ht9⟩) hS.2.2 dX11_pour_43
  have h := ie c_507 h
  by_cases c_630 : x1 = 1
  · have h := it c_630 h
    refine roVq (rest := []) ⟨hx, hb, hml, hown, ht⟩ (c_X11_trayAt l D cy fu A_b r_b_army r_b_war r_b_draftArmy r_b_draftWar r_b_reader r_b_armyReader r_b_warReader r_b_markedArmies r_b_markedWars r_b_latest r_b_trial r_b_foresight r_b_pairs b_latestStatus b_fractionTop b_fractionBottom b_marks A_T (trf4 (A_y0 0) (A_y1 0) (A_y2 0) (A_y3 0)) x1 (some (A_y1 0)) (tray_1 c_630)) (cV ht mv_X11_trayAt tb_500 rfl rfl ⟨Nat.le_of_ble_eq_true rfl, Nat.le_of_ble_eq_true rfl⟩) (P_sub hP.1 [0, 1] rfl) hX rfl rfl rfl hl.1 rfl (Nat.le_of_ble_eq_true rfl) dX11_pour_2 ⟨Nat.le_of_ble_eq_true rfl, Nat.le_of_ble_eq_true rfl⟩ ?_
    refine lv_astore (lv' := [(6, .ref (A_y1 0)), (0, .ref (A_b 0)), (1, .int x1), (2, .int x2), (3, .int x3), (4, .int x4), (5, .int x5)]) hx hb dX11_pour_5 hl (by decide) rfl (fun ls hl => ?_)
    refine lv_aload_n hx hb dX11_pour_7 rfl (lv_at hl 1 rfl) ?_
    refine lv_iload_n hx hb dX11_pour_8 rfl (lv_at hl 4 rfl) ?_
    by_cases c_631 : x3 = 0
    · have h := it c_631 h
      refine roVq (rest := []) ⟨hx, hb, hml, hown, ht⟩ (c_X11_trayAt l D cy fu A_b r_b_army r_b_war r_b_draftArmy r_b_draftWar r_b_reader r_b_armyReader r_b_warReader r_b_markedArmies r_b_markedWars r_b_latest r_b_trial r_b_foresight r_b_pairs b_latestStatus b_fractionTop b_fractionBottom b_marks A_T (trf4 (A_y0 0) (A_y1 0) (A_y2 0) (A_y3 0)) x3 (some (A_y0 0)) (tray_0 c_631)) (cV ht mv_X11_trayAt tb_500 rfl rfl ⟨Nat.le_of_ble_eq_true rfl, Nat.le_of_ble_eq_true rfl⟩) (P_sub hP.1 [0, 1] rfl) hX rfl rfl rfl hl.1 rfl (Nat.le_of_ble_eq_true rfl) dX11_pour_9 ⟨Nat.le_of_ble_eq_true rfl, Nat.le_of_ble_eq_true rfl⟩ ?_
      refine lv_astore (lv' := [(7, .ref (A_y0 0)), (6, .ref (A_y1 0)), (0, .ref (A_b 0)), (1, .int x1), (2, .int x2), (3, .int x3), (4, .int x4), (5, .int x5)]) hx hb dX11_pour_12 hl (by decide) rfl (fun ls hl => ?_)
      refine lv_aload hx hb dX11_pour_14 (lv_at hl 1 rfl) ?_
      refine lv_ifnull hx hb dX11_pour_16 ?_
      refine lv_aload hx hb dX11_pour_19 (lv_at hl 0 rfl) ?_
      refine lv_ifnull hx hb dX11_pour_21 ?_
      refine lv_iload_n hx hb dX11_pour_24 rfl (lv_at hl 4 rfl) ?_
      refine lv_if_lt (tgt := 38) hx hb dX11_pour_25 (by decide) (fun c_632 => ?_) (fun c_632 => ?_)
      · have h := it c_632 h
        refine lv_aload_n hx hb dX11_pour_38 rfl (lv_at hl 2 rfl) ?_
        refine lv_iconst (v := 1) hx hb dX11_pour_39 (by decide) ?_
        obtain ⟨z_633, e_z_633, h⟩ := bi h
        refine efVi (rest := []) ⟨hx, hb, hml, hown, ht⟩ (c_X11_deny l D cy fu A_b (A_T 0) r_b_army r_b_war r_b_draftArmy r_b_draftWar r_b_reader r_b_armyReader r_b_warReader r_b_markedArmies r_b_markedWars r_b_latest r_b_trial r_b_foresight r_b_pairs b_latestStatus b_fractionTop b_fractionBottom b_marks 1 z_633 e_z_633 _ rfl _ rfl) (cV ht mv_X11_deny tb_507 rfl rfl ⟨Nat.le_of_ble_eq_true rfl, Nat.le_of_ble_eq_true rfl⟩) hP hS hX [0] rfl rfl rfl rfl rfl rfl hl.1 rfl (Nat.le_of_ble_eq_true rfl) dX11_pour_40 ⟨Nat.le_of_ble_eq_true rfl, Nat.le_of_ble_eq_true rfl⟩ (fun H locs hP hS => ?_)
        have hP : PD D A [bl_X11 cy A_b (A_T 0) r_b_army r_b_war r_b_draftArmy r_b_draftWar r_b_reader r_b_armyReader r_b_warReader r_b_markedArmies r_b_markedWars r_b_latest r_b_trial r_b_foresight r_b_pairs z_633.2 b_fractionTop b_fractionBottom b_marks, [(A_T 0, .inl (cy 4, 4, .inr (.inr (.inr (.inr (trf4 (A_y0 0) (A_y1 0) (A_y2 0) (A_y3 0)))))))], bl_X8 cy A_y0 y0_row y0_missing y0_sort y0_many, bl_X8 cy A_y1 y1_row y1_missing y1_sort y1_many, bl_X8 cy A_y2 y2_row y2_missing y2_sort y2_many, bl_X8 cy A_y3 y3_row y3_missing y3_sort y3_many] H := hP
        obtain ⟨b_634, e_b_634, h⟩ := bi h
        obtain ⟨-, n_b_634, -⟩ := bz_ok e_b_634
        cases h
        subst hW1
        exact W.zret hx hb hr n_b_634 (fun _ ht9 _ => ⟨⟨_, (), rfl, rfl, hPt ht9 hP.1⟩, hS.F ht9⟩) hS.2.2 dX11_pour_43
      · have h := ie c_632 h
        refine lv_iload hx hb dX11_pour_28 (lv_at hl 6 rfl) ?_
        refine lv_if_lt (tgt := 38) hx hb dX11_pour_30 (by decide) (fun c_635 => ?_) (fun c_635 => ?_)
        · have h := it c_635 h
          refine lv_aload_n hx hb dX11_pour_38 rfl (lv_at hl 2 rfl) ?_
          refine lv_iconst (v := 1) hx hb dX11_pour_39 (by decide) ?_
          obtain ⟨z_636, e_z_636, h⟩ := bi h
          refine efVi (rest := []) ⟨hx, hb, hml, hown, ht⟩ (c_X11_deny l D cy fu A_b (A_T 0) r_b_army r_b_war r_b_draftArmy r_b_draftWar r_b_reader r_b_armyReader r_b_warReader r_b_markedArmies r_b_markedWars r_b_latest r_b_trial r_b_foresight r_b_pairs b_latestStatus b_fractionTop b_fractionBottom b_marks 1 z_636 e_z_636 _ rfl _ rfl) (cV ht mv_X11_deny tb_507 rfl rfl ⟨Nat.le_of_ble_eq_true rfl, Nat.le_of_ble_eq_true rfl⟩) hP hS hX [0] rfl rfl rfl rfl rfl rfl hl.1 rfl (Nat.le_of_ble_eq_true rfl) dX11_pour_40 ⟨Nat.le_of_ble_eq_true rfl, Nat.le_of_ble_eq_true rfl⟩ (fun H locs hP hS => ?_)
          have hP : PD D A [bl_X11 cy A_b (A_T 0) r_b_army r_b_war r_b_draftArmy r_b_draftWar r_b_reader r_b_armyReader r_b_warReader r_b_markedArmies r_b_markedWars r_b_latest r_b_trial r_b_foresight r_b_pairs z_636.2 b_fractionTop b_fractionBottom b_marks, [(A_T 0, .inl (cy 4, 4, .inr (.inr (.inr (.inr (trf4 (A_y0 0) (A_y1 0) (A_y2 0) (A_y3 0)))))))], bl_X8 cy A_y0 y0_row y0_missing y0_sort y0_many, bl_X8 cy A_y1 y1_row y1_missing y1_sort y1_many, bl_X8 cy A_y2 y2_row y2_missing y2_sort y2_many, bl_X8 cy A_y3 y3_row y3_missing y3_sort y3_many] H := hP
          obtain ⟨b_637, e_b_637, h⟩ := bi h
          obtain ⟨-, n_b_637, -⟩ := bz_ok e_b_637
          cases h
          subst hW1
          exact W.zret hx hb hr n_b_637 (fun _ ht9 _ => ⟨⟨_, (), rfl, rfl, hPt ht9 hP.1⟩, hS.F ht9⟩) hS.2.2 dX11_pour_43
        · have h := ie c_635 h
          refine lv_iload hx hb dX11_pour_33 (lv_at hl 7 rfl) ?_
          refine lv_if_ge (tgt := 44) hx hb dX11_pour_35 (by decide) (fun c_638 => ?_) (fun c_638 => ?_)
          · have h := it c_638 h
            refine lv_aload hx hb dX11_pour_44 (lv_at hl 1 rfl) ?_
            refine xget (i := 3) (j := 0) (k := 1) (T := TX8) hx hb ht tb_iX8 hown hX hP.1 rfl rfl rfl (by decide) tb_416 rfl dX11_pour_46 ?_
            refine lv_if_ne (tgt := 60) hx hb dX11_pour_49 (by decide) (fun c_639 => ?_) (fun c_639 => ?_)
            · have h := ie c_639 h
              refine lv_aload_n hx hb dX11_pour_60 rfl (lv_at hl 2 rfl) ?_
              refine lv_iconst (v := 2) hx hb dX11_pour_61 (by decide) ?_
              obtain ⟨z_640, e_z_640, h⟩ := bi h
              refine efVi (rest := []) ⟨hx, hb, hml, hown, ht⟩ (c_X11_deny l D cy fu A_b (A_T 0) r_b_army r_b_war r_b_draftArmy r_b_draftWar r_b_reader r_b_armyReader r_b_warReader r_b_markedArmies r_b_markedWars r_b_latest r_b_trial r_b_foresight r_b_pairs b_latestStatus b_fractionTop b_fractionBottom b_marks 2 z_640 e_z_640 _ rfl _ rfl) (cV ht mv_X11_deny tb_507 rfl rfl ⟨Nat.le_of_ble_eq_true rfl, Nat.le_of_ble_eq_true rfl⟩) hP hS hX [0] rfl rfl rfl rfl rfl rfl hl.1 rfl (Nat.le_of_ble_eq_true rfl) dX11_pour_62 ⟨Nat.le_of_ble_eq_true rfl, Nat.le_of_ble_eq_true rfl⟩ (fun H locs hP hS => ?_)
              have hP : PD D A [bl_X11 cy A_b (A_T 0) r_b_army r_b_war r_b_draftArmy r_b_draftWar r_b_reader r_b_armyReader r_b_warReader r_b_markedArmies r_b_markedWars r_b_latest r_b_trial r_b_foresight r_b_pairs z_640.2 b_fractionTop b_fractionBottom b_marks, [(A_T 0, .inl (cy 4, 4, .inr (.inr (.inr (.inr (trf4 (A_y0 0) (A_y1 0) (A_y2 0) (A_y3 0)))))))], bl_X8 cy A_y0 y0_row y0_missing y0_sort y0_many, bl_X8 cy A_y1 y1_row y1_missing y1_sort y1_many, bl_X8 cy A_y2 y2_row y2_missing y2_sort y2_many, bl_X8 cy A_y3 y3_row y3_missing y3_sort y3_many] H := hP
              obtain ⟨b_641, e_b_641, h⟩ := bi h
              obtain ⟨-, n_b_641, -⟩ := bz_ok e_b_641
              cases h
              subst hW1
              exact W.zret hx hb hr n_b_641 (fun _ ht9 _ => ⟨⟨_, (), rfl, rfl, hPt ht9 hP.1⟩, hS.F ht9⟩) hS.2.2 dX11_pour_65
            · have h := it c_639 h
              refine lv_aload hx hb dX11_pour_52 (lv_at hl 0 rfl) ?_
              refine xget (i := 2) (j := 0) (k := 1) (T := TX8) hx hb ht tb_iX8 hown hX hP.1 rfl rfl rfl (by decide) tb_416 rfl dX11_pour_54 ?_
              refine lv_if_eq (tgt := 66) hx hb dX11_pour_57 (by decide) (fun c_642 => ?_) (fun c_642 => ?_)
              · have h := it c_642 h
                refine lv_aload hx hb dX11_pour_66 (lv_at hl 1 rfl) ?_
                refine xget (i := 3) (j := 0) (k := 2) (T := TX8) hx hb ht tb_iX8 hown hX hP.1 rfl rfl rfl (by decide) tb_418 rfl dX11_pour_68 ?_
                refine lv_aload hx hb dX11_pour_71 (lv_at hl 0 rfl) ?_
                refine xget (i := 2) (j := 0) (k := 2) (T := TX8) hx hb ht tb_iX8 hown hX hP.1 rfl rfl rfl (by decide) tb_418 rfl dX11_pour_73 ?_
                refine lv_icmp_eq (tgt := 86) hx hb dX11_pour_76 (by decide) (fun c_643 => ?_) (fun c_643 => ?_)
                · have h := it c_643 h
                  refine lv_aload hx hb dX11_pour_86 (lv_at hl 1 rfl) ?_
                  refine lv_iload_n hx hb dX11_pour_88 rfl (lv_at hl 4 rfl) ?_
                  refine lv_iload hx hb dX11_pour_89 (lv_at hl 7 rfl) ?_
                  obtain ⟨z_644, e_z_644, h⟩ := bi h
                  refine roVi (rest := []) ⟨hx, hb, hml, hown, ht⟩ (c_X8_hasPlaces l D cy fu A_y1 y1_row y1_missing y1_sort y1_many x2 x5 z_644 e_z_644) (cV ht mv_X8_hasPlaces tb_526 rfl rfl ⟨Nat.le_of_ble_eq_true rfl, Nat.le_of_ble_eq_true rfl⟩) (P_sub hP.1 [3] rfl) hX rfl rfl rfl hl.1 rfl (Nat.le_of_ble_eq_true rfl) dX11_pour_91 ⟨Nat.le_of_ble_eq_true rfl, Nat.le_of_ble_eq_true rfl⟩ ?_
                  refine lv_if_eq (tgt := 109) hx hb dX11_pour_94 (by decide) (fun c_645 => ?_) (fun c_645 => ?_)
                  · have h := it c_645 h
                    refine lv_aload_n hx hb dX11_pour_109 rfl (lv_at hl 2 rfl) ?_
                    refine lv_iconst (v := 3) hx hb dX11_pour_110 (by decide) ?_
                    obtain ⟨z_646, e_z_646, h⟩ := bi h
                    refine efVi (rest := []) ⟨hx, hb, hml, hown, ht⟩ (c_X11_deny l D cy fu A_b (A_T 0) r_b_army r_b_war r_b_draftArmy r_b_draftWar r_b_reader r_b_armyReader r_b_warReader r_b_markedArmies r_b_markedWars r_b_latest r_b_trial r_b_foresight r_b_pairs b_latestStatus b_fractionTop b_fractionBottom b_marks 3 z_646 e_z_646 _ rfl _ rfl) (cV ht mv_X11_deny tb_507 rfl rfl ⟨Nat.le_of_ble_eq_true rfl, Nat.le_of_ble_eq_true rfl⟩) hP hS hX [0] rfl rfl rfl rfl rfl rfl hl.1 rfl (Nat.le_of_ble_eq_true rfl) dX11_pour_111 ⟨Nat.le_of_ble_eq_true rfl, Nat.le_of_ble_eq_true rfl⟩ (fun H locs hP hS => ?_)
                    have hP : PD D A [bl_X11 cy A_b (A_T 0) r_b_army r_b_war r_b_draftArmy r_b_draftWar r_b_reader r_b_armyReader r_b_warReader r_b_markedArmies r_b_markedWars r_b_latest r_b_trial r_b_foresight r_b_pairs z_646.2 b_fractionTop b_fractionBottom b_marks, [(A_T 0, .inl (cy 4, 4, .inr (.inr (.inr (.inr (trf4 (A_y0 0) (A_y1 0) (A_y2 0) (A_y3 0)))))))], bl_X8 cy A_y0 y0_row y0_missing y0_sort y0_many, bl_X8 cy A_y1 y1_row y1_missing y1_sort y1_many, bl_X8 cy A_y2 y2_row y2_missing y2_sort y2_many, bl_X8 cy A_y3 y3_row y3_missing y3_sort y3_many] H := hP
                    obtain ⟨b_647, e_b_647, h⟩ := bi h
                    obtain ⟨-, n_b_647, -⟩ := bz_ok e_b_647
                    cases h
                    subst hW1
                    exact W.zret hx hb hr n_b_647 (fun _ ht9 _ => ⟨⟨_, (), rfl, rfl, hPt ht9 hP.1⟩, hS.F ht9⟩) hS.2.2 dX11_pour_114
                  · have h := ie c_645 h
                    refine lv_aload hx hb dX11_pour_97 (lv_at hl 0 rfl) ?_
                    refine lv_iload hx hb dX11_pour_99 (lv_at hl 6 rfl) ?_
                    refine lv_iload hx hb dX11_pour_101 (lv_at hl 7 rfl) ?_
                    obtain ⟨z_648, e_z_648, h⟩ := bi h
                    refine roVi (rest := []) ⟨hx, hb, hml, hown, ht⟩ (c_X8_hasPlaces l D cy fu A_y0 y0_row y0_missing y0_sort y0_many x4 x5 z_648 e_z_648) (cV ht mv_X8_hasPlaces tb_526 rfl rfl ⟨Nat.le_of_ble_eq_true rfl, Nat.le_of_ble_eq_true rfl⟩) (P_sub hP.1 [2] rfl) hX rfl rfl rfl hl.1 rfl (Nat.le_of_ble_eq_true rfl) dX11_pour_103 ⟨Nat.le_of_ble_eq_true rfl, Nat.le_of_ble_eq_true rfl⟩ ?_
                    refine lv_if_ne (tgt := 115) hx hb dX11_pour_106 (by decide) (fun c_649 => ?_) (fun c_649 => ?_)
                    · have h := ie c_649 h
                      refine lv_aload hx hb dX11_pour_115 (lv_at hl 1 rfl) ?_
                      refine xget (i := 3) (j := 0) (k := 0) (T := TX8) hx hb ht tb_iX8 hown hX hP.1 rfl rfl rfl (by decide) tb_414 rfl dX11_pour_117 ?_
                      refine lv_iload_n hx hb dX11_pour_120 rfl (lv_at hl 4 rfl) ?_
                      refine lv_aload hx hb dX11_pour_121 (lv_at hl 0 rfl) ?_
                      refine xget (i := 2) (j := 0) (k := 0) (T := TX8) hx hb ht tb_iX8 hown hX hP.1 rfl rfl rfl (by decide) tb_414 rfl dX11_pour_123 ?_
                      refine lv_iload hx hb dX11_pour_126 (lv_at hl 6 rfl) ?_
                      refine lv_iload hx hb dX11_pour_128 (lv_at hl 7 rfl) ?_
                      obtain ⟨y0_row_650, e_y0_row_650, h⟩ := bi h
                      refine xcpJ (i0 := 3) (j0 := 1) (i1 := 2) (j1 := 1) hx hb (hml.trans hl.1.symm) hown (ht _ tb_555) (ht _ tb_557) (ht _ tb_556) (ht _ tb_18) hX hP hS rfl rfl rfl rfl e_y0_row_650 (Nat.le_of_ble_eq_true rfl) (Nat.le_of_ble_eq_true rfl) dX11_pour_130 (fun H locs hP hS => ?_)
                      have hP : PD D A [bl_X11 cy A_b (A_T 0) r_b_army r_b_war r_b_draftArmy r_b_draftWar r_b_reader r_b_armyReader r_b_warReader r_b_markedArmies r_b_markedWars r_b_latest r_b_trial r_b_foresight r_b_pairs b_latestStatus b_fractionTop b_fractionBottom b_marks, [(A_T 0, .inl (cy 4, 4, .inr (.inr (.inr (.inr (trf4 (A_y0 0) (A_y1 0) (A_y2 0) (A_y3 0)))))))], bl_X8 cy A_y0 y0_row_650 y0_missing y0_sort y0_many, bl_X8 cy A_y1 y1_row y1_missing y1_sort y1_many, bl_X8 cy A_y2 y2_row y2_missing y2_sort y2_many, bl_X8 cy A_y3 y3_row y3_missing y3_sort y3_many] H := hP
                      refine lv_aload_n hx hb dX11_pour_133 rfl (lv_at hl 2 rfl) ?_
                      obtain ⟨z_651, e_z_651, h⟩ := bi h
                      refine efVi (rest := []) ⟨hx, hb, hml, hown, ht⟩ (c_X11_allow l D cy fu A_b (A_T 0) r_b_army r_b_war r_b_draftArmy r_b_draftWar r_b_reader r_b_armyReader r_b_warReader r_b_markedArmies r_b_markedWars r_b_latest r_b_trial r_b_foresight r_b_pairs b_latestStatus b_fractionTop b_fractionBottom b_marks z_651 e_z_651 _ rfl _ rfl) (cV ht mv_X11_allow tb_518 rfl rfl ⟨Nat.le_of_ble_eq_true rfl, Nat.le_of_ble_eq_true rfl⟩) hP hS hX [0] rfl rfl rfl rfl rfl rfl hl.1 rfl (Nat.le_of_ble_eq_true rfl) dX11_pour_134 ⟨Nat.le_of_ble_eq_true rfl, Nat.le_of_ble_eq_true rfl⟩ (fun H locs hP hS => ?_)
                      have hP : PD D A [bl_X11 cy A_b (A_T 0) r_b_army r_b_war r_b_draftArmy r_b_draftWar r_b_reader r_b_armyReader r_b_warReader r_b_markedArmies r_b_markedWars r_b_latest r_b_trial r_b_foresight r_b_pairs z_651.2 b_fractionTop b_fractionBottom b_marks, [(A_T 0, .inl (cy 4, 4, .inr (.inr (.inr (.inr (trf4 (A_y0 0) (A_y1 0) (A_y2 0) (A_y3 0)))))))], bl_X8 cy A_y0 y0_row_650 y0_missing y0_sort y0_many, bl_X8 cy A_y1 y1_row y1_missing y1_sort y1_many, bl_X8 cy A_y2 y2_row y2_missing y2_sort y2_many, bl_X8 cy A_y3 y3_row y3_missing y3_sort y3_many] H := hP
                      obtain ⟨b_652, e_b_652, h⟩ := bi h
                      obtain ⟨-, n_b_652, -⟩ := bz_ok e_b_652
                      cases h
                      subst hW1
                      exact W.zret hx hb hr n_b_652 (fun _ ht9 _ => ⟨⟨_, (), rfl, rfl, hPt ht9 hP.1⟩, hS.F ht9⟩) hS.2.2 dX11_pour_137
                    · have h := it c_649 h
                      refine lv_aload_n hx hb dX11_pour_109 rfl (lv_at hl 2 rfl) ?_
                      refine lv_iconst (v := 3) hx hb dX11_pour_110 (by decide) ?_
                      obtain ⟨z_653, e_z_653, h⟩ := bi h
                      refine efVi (rest := []) ⟨hx, hb, hml, hown, ht⟩ (c_X11_deny l D cy fu A_b (A_T 0) r_b_army r_b_war r_b_draftArmy r_b_draftWar r_b_reader r_b_armyReader r_b_warReader r_b_markedArmies r_b_markedWars r_b_latest r_b_trial r_b_foresight r_b_pairs b_latestStatus b_fractionTop b_fractionBottom b_marks 3 z_653 e_z_653 _ rfl _ rfl) (cV ht mv_X11_deny tb_507 rfl rfl ⟨Nat.le_of_ble_eq_true rfl, Nat.le_of_ble_eq_true rfl⟩) hP hS hX [0] rfl rfl rfl rfl rfl rfl hl.1 rfl (Nat.le_of_ble_eq_true rfl) dX11_pour_111 ⟨Nat.le_of_ble_eq_true rfl, Nat.le_of_ble_eq_true rfl⟩ (fun H locs hP hS => ?_)
                      have hP : PD D A [bl_X11 cy A_b (A_T 0) r_b_army r_b_war r_b_draftArmy r_b_draftWar r_b_reader r_b_armyReader r_b_warReader r_b_markedArmies r_b_markedWars r_b_latest r_b_trial r_b_foresight r_b_pairs z_653.2 b_fractionTop b_fractionBottom b_marks, [(A_T 0, .inl (cy 4, 4, .inr (.inr (.inr (.inr (trf4 (A_y0 0) (A_y1 0) (A_y2 0) (A_y3 0)))))))], bl_X8 cy A_y0 y0_row y0_missing y0_sort y0_many, bl_X8 cy A_y1 y1_row y1_missing y1_sort y1_many, bl_X8 cy A_y2 y2_row y2_missing y2_sort y2_many, bl_X8 cy A_y3 y3_row y3_missing y3_sort y3_many] H := hP
                      obtain ⟨b_654, e_b_654, h⟩ := bi h
                      obtain ⟨-, n_b_654, -⟩ := bz_ok e_b_654
                      cases h
                      subst hW1
                      exact W.zret hx hb hr n_b_654 (fun _ ht9 _ => ⟨⟨_, (), rfl, rfl, hPt ht9 hP.1⟩, hS.F ht9⟩) hS.2.2 dX11_pour_114
                · have h := ie c_643 h
                  refine lv_aload_n hx hb dX11_pour_79 rfl (lv_at hl 2 rfl) ?_
                  refine lv_bipush (v := 8) hx hb dX11_pour_80 (by decide) ?_
                  obtain ⟨z_655, e_z_655, h⟩ := bi h
                  refine efVi (rest := []) ⟨hx, hb, hml, hown, ht⟩ (c_X11_deny l D cy fu A_b (A_T 0) r_b_army r_b_war r_b_draftArmy r_b_draftWar r_b_reader r_b_armyReader r_b_warReader r_b_markedArmies r_b_markedWars r_b_latest r_b_trial r_b_foresight r_b_pairs b_latestStatus b_fractionTop b_fractionBottom b_marks 8 z_655 e_z_655 _ rfl _ rfl) (cV ht mv_X11_deny tb_507 rfl rfl ⟨Nat.le_of_ble_eq_true rfl, Nat.le_of_ble_eq_true rfl⟩) hP hS hX [0] rfl rfl rfl rfl rfl rfl hl.1 rfl (Nat.le_of_ble_eq_true rfl) dX11_pour_82 ⟨Nat.le_of_ble_eq_true rfl, Nat.le_of_ble_eq_true rfl⟩ (fun H locs hP hS => ?_)
                  have hP : PD D A [bl_X11 cy A_b (A_T 0) r_b_army r_b_war r_b_draftArmy r_b_draftWar r_b_reader r_b_armyReader r_b_warReader r_b_markedArmies r_b_markedWars r_b_latest r_b_trial r_b_foresight r_b_pairs z_655.2 b_fractionTop b_fractionBottom b_marks, [(A_T 0, .inl (cy 4, 4, .inr (.inr (.inr (.inr (trf4 (A_y0 0) (A_y1 0) (A_y2 0) (A_y3 0)))))))], bl_X8 cy A_y0 y0_row y0_missing y0_sort y0_many, bl_X8 cy A_y1 y1_row y1_missing y1_sort y1_many, bl_X8 cy A_y2 y2_row y2_missing y2_sort y2_many, bl_X8 cy A_y3 y3_row y3_missing y3_sort y3_many] H := hP
                  obtain ⟨b_656, e_b_656, h⟩ := bi h
                  obtain ⟨-, n_b_656, -⟩ := bz_ok e_b_656
                  cases h
                  subst hW1
                  exact W.zret hx hb hr n_b_656 (fun _ ht9 _ => ⟨⟨_, (), rfl, rfl, hPt ht9 hP.1⟩, hS.F ht9⟩) hS.2.2 dX11_pour_85
              · have h := ie c_642 h
                refine lv_aload_n hx hb dX11_pour_60 rfl (lv_at hl 2 rfl) ?_
                refine lv_iconst (v := 2) hx hb dX11_pour_61 (by decide) ?_
                obtain ⟨z_657, e_z_657, h⟩ := bi h
                refine efVi (rest := []) ⟨hx, hb, hml, hown, ht⟩ (c_X11_deny l D cy fu A_b (A_T 0) r_b_army r_b_war r_b_draftArmy r_b_draftWar r_b_reader r_b_armyReader r_b_warReader r_b_markedArmies r_b_markedWars r_b_latest r_b_trial r_b_foresight r_b_pairs b_latestStatus b_fractionTop b_fractionBottom b_marks 2 z_657 e_z_657 _ rfl _ rfl) (cV ht mv_X11_deny tb_507 rfl rfl ⟨Nat.le_of_ble_eq_true rfl, Nat.le_of_ble_eq_true rfl⟩) hP hS hX [0] rfl rfl rfl rfl rfl rfl hl.1 rfl (Nat.le_of_ble_eq_true rfl) dX11_pour_62 ⟨Nat.le_of_ble_eq_true rfl, Nat.le_of_ble_eq_true rfl⟩ (fun H locs hP hS => ?_)
                have hP : PD D A [bl_X11 cy A_b (A_T 0) r_b_army r_b_war r_b_draftArmy r_b_draftWar r_b_reader r_b_armyReader r_b_warReader r_b_markedArmies r_b_markedWars r_b_latest r_b_trial r_b_foresight r_b_pairs z_657.2 b_fractionTop b_fractionBottom b_marks, [(A_T 0, .inl (cy 4, 4, .inr (.inr (.inr (.inr (trf4 (A_y0 0) (A_y1 0) (A_y2 0) (A_y3 0)))))))], bl_X8 cy A_y0 y0_row y0_missing y0_sort y0_many, bl_X8 cy A_y1 y1_row y1_missing y1_sort y1_many, bl_X8 cy A_y2 y2_row y2_missing y2_sort y2_many, bl_X8 cy A_y3 y3_row y3_missing y3_sort y3_many] H := hP
                obtain ⟨b_658, e_b_658, h⟩ := bi h
                obtain ⟨-, n_b_658, -⟩ := bz_ok e_b_658
                cases h
                subst hW1
                exact W.zret hx hb hr n_b_658 (fun _ ht9 _ => ⟨⟨_, (), rfl, rfl, hPt ht9 hP.1⟩, hS.F ht9⟩) hS.2.2 dX11_pour_65
          · have h := ie c_638 h
            refine lv_aload_n hx hb dX11_pour_38 rfl (lv_at hl 2 rfl) ?_
            refine lv_iconst (v := 1) hx hb dX11_pour_39 (by decide) ?_
            obtain ⟨z_659, e_z_659, h⟩ := bi h
            refine efVi (rest := []) ⟨hx, hb, hml, hown, ht⟩ (c_X11_deny l D cy fu A_b (A_T 0) r_b_army r_b_war r_b_draftArmy r_b_draftWar r_b_reader r_b_armyReader r_b_warReader r_b_markedArmies r_b_markedWars r_b_latest r_b_trial r_b_foresight r_b_pairs b_latestStatus b_fractionTop b_fractionBottom b_marks 1 z_659 e_z_659 _ rfl _ rfl) (cV ht mv_X11_deny tb_507 rfl rfl ⟨Nat.le_of_ble_eq_true rfl, Nat.le_of_ble_eq_true rfl⟩) hP hS hX [0] rfl rfl rfl rfl rfl rfl hl.1 rfl (Nat.le_of_ble_eq_true rfl) dX11_pour_40 ⟨Nat.le_of_ble_eq_true rfl, Nat.le_of_ble_eq_true rfl⟩ (fun H locs hP hS => ?_)
            have hP : PD D A [bl_X11 cy A_b (A_T 0) r_b_army r_b_war r_b_draftArmy r_b_draftWar r_b_reader r_b_armyReader r_b_warReader r_b_markedArmies r_b_markedWars r_b_latest r_b_trial r_b_foresight r_b_pairs z_659.2 b_fractionTop b_fractionBottom b_marks, [(A_T 0, .inl (cy 4, 4, .inr (.inr (.inr (.inr (trf4 (A_y0 0) (A_y1 0) (A_y2 0) (A_y3 0)))))))], bl_X8 cy A_y0 y0_row y0_missing y0_sort y0_many, bl_X8 cy A_y1 y1_row y1_missing y1_sort y1_many, bl_X8 cy A_y2 y2_row y2_missing y2_sort y2_many, bl_X8 cy A_y3 y3_row y3_missing y3_sort y3_many] H := hP
            obtain ⟨b_660, e_b_660, h⟩ := bi h
            obtain ⟨-, n_b_660, -⟩ := bz_ok e_b_660
            cases h
            subst hW1
            exact W.zret hx hb hr n_b_660 (fun _ ht9 _ => ⟨⟨_, (), rfl, rfl, hPt ht9 hP.1⟩, hS.F ht9⟩) hS.2.2 dX11_pour_43
    have h := ie c_631 h
    by_cases c_661 : x3 = 1
    · have h := it c_661 h
      refine roVq (rest := []) ⟨hx, hb, hml, hown, ht⟩ (c_X11_trayAt l D cy fu A_b r_b_army r_b_war r_b_draftArmy r_b_draftWar r_b_reader r_b_armyReader r_b_warReader r_b_markedArmies r_b_markedWars r_b_latest r_b_trial r_b_foresight r_b_pairs b_latestStatus b_fractionTop b_fractionBottom b_marks A_T (trf4 (A_y0 0) (A_y1 0) (A_y2 0) (A_y3 0)) x3 (some (A_y1 0)) (tray_1 c_661)) (cV ht mv_X11_trayAt tb_500 rfl rfl ⟨Nat.le_of_ble_eq_true rfl, Nat.le_of_ble_eq_true rfl⟩) (P_sub hP.1 [0, 1] rfl) hX rfl rfl rfl hl.1 rfl (Nat.le_of_ble_eq_true rfl) dX11_pour_9 ⟨Nat.le_of_ble_eq_true rfl, Nat.le_of_ble_eq_true rfl⟩ ?_
      refine lv_astore (lv' := [(7, .ref (A_y1 0)), (6, .ref (A_y1 0)), (0, .ref (A_b 0)), (1, .int x1), (2, .int x2), (3, .int x3), (4, .int x4), (5, .int x5)]) hx hb dX11_pour_12 hl (by decide) rfl (fun ls hl => ?_)
      refine lv_aload hx hb dX11_pour_14 (lv_at hl 1 rfl) ?_
      refine lv_ifnull hx hb dX11_pour_16 ?_
      refine lv_aload hx hb dX11_pour_19 (lv_at hl 0 rfl) ?_
      refine lv_ifnull hx hb dX11_pour_21 ?_
      refine lv_iload_n hx hb dX11_pour_24 rfl (lv_at hl 4 rfl) ?_
      refine lv_if_lt (tgt := 38) hx hb dX11_pour_25 (by decide) (fun c_662 => ?_) (fun c_662 => ?_)
      · have h := it c_662 h
        refine lv_aload_n hx hb dX11_pour_38 rfl (lv_at hl 2 rfl) ?_
        refine lv_iconst (v := 1) hx hb dX11_pour_39 (by decide) ?_
        obtain ⟨z_663, e_z_663, h⟩ := bi h
        refine efVi (rest := []) ⟨hx, hb, hml, hown, ht⟩ (c_X11_deny l D cy fu A_b (A_T 0) r_b_army r_b_war r_b_draftArmy r_b_draftWar r_b_reader r_b_armyReader r_b_warReader r_b_markedArmies r_b_markedWars r_b_latest r_b_trial r_b_foresight r_b_pairs b_latestStatus b_fractionTop b_fractionBottom b_marks 1 z_663 e_z_663 _ rfl _ rfl) (cV ht mv_X11_deny tb_507 rfl rfl ⟨Nat.le_of_ble_eq_true rfl, Nat.le_of_ble_eq_true rfl⟩) hP hS hX [0] rfl rfl rfl rfl rfl rfl hl.1 rfl (Nat.le_of_ble_eq_true rfl) dX11_pour_40 ⟨Nat.le_of_ble_eq_true rfl, Nat.le_of_ble_eq_true rfl⟩ (fun H locs hP hS => ?_)
        have hP : PD D A [bl_X11 cy A_b (A_T 0) r_b_army r_b_war r_b_draftArmy r_b_draftWar r_b_reader r_b_armyReader r_b_warReader r_b_markedArmies r_b_markedWars r_b_latest r_b_trial r_b_foresight r_b_pairs z_663.2 b_fractionTop b_fractionBottom b_marks, [(A_T 0, .inl (cy 4, 4, .inr (.inr (.inr (.inr (trf4 (A_y0 0) (A_y1 0) (A_y2 0) (A_y3 0)))))))], bl_X8 cy A_y0 y0_row y0_missing y0_sort y0_many, bl_X8 cy A_y1 y1_row y1_missing y1_sort y1_many, bl_X8 cy A_y2 y2_row y2_missing y2_sort y2_many, bl_X8 cy A_y3 y3_row y3_missing y3_sort y3_many] H := hP
        obtain ⟨b_664, e_b_664, h⟩ := bi h
        obtain ⟨-, n_b_664, -⟩ := bz_ok e_b_664
        cases h
        subst hW1
        exact W.zret hx hb hr n_b_664 (fun _ ht9 _ => ⟨⟨_, (), rfl, rfl, hPt ht9 hP.1⟩, hS.F ht9⟩) hS.2.2 dX11_pour_43
      · have h := ie c_662 h
        refine lv_iload hx hb dX11_pour_28 (lv_at hl 6 rfl) ?_
        refine lv_if_lt (tgt := 38) hx hb dX11_pour_30 (by decide) (fun c_665 => ?_) (fun c_665 => ?_)
        · have h := it c_665 h
          refine lv_aload_n hx hb dX11_pour_38 rfl (lv_at hl 2 rfl) ?_
          refine lv_iconst (v := 1) hx hb dX11_pour_39 (by decide) ?_
          obtain ⟨z_666, e_z_666, h⟩ := bi h
          refine efVi (rest := []) ⟨hx, hb, hml, hown, ht⟩ (c_X11_deny l D cy fu A_b (A_T 0) r_b_army r_b_war r_b_draftArmy r_b_draftWar r_b_reader r_b_armyReader r_b_warReader r_b_markedArmies r_b_markedWars r_b_latest r_b_trial r_b_foresight r_b_pairs b_latestStatus b_fractionTop b_fractionBottom b_marks 1 z_666 e_z_666 _ rfl _ rfl) (cV ht mv_X11_deny tb_507 rfl rfl ⟨Nat.le_of_ble_eq_true rfl, Nat.le_of_ble_eq_true rfl⟩) hP hS hX [0] rfl rfl rfl rfl rfl rfl hl.1 rfl (Nat.le_of_ble_eq_true rfl) dX11_pour_40 ⟨Nat.le_of_ble_eq_true rfl, Nat.le_of_ble_eq_true rfl⟩ (fun H locs hP hS => ?_)
          have hP : PD D A [bl_X11 cy A_b (A_T 0) r_b_army r_b_war r_b_draftArmy r_b_draftWar r_b_reader r_b_armyReader r_b_warReader r_b_markedArmies r_b_markedWars r_b_latest r_b_trial r_b_foresight r_b_pairs z_666.2 b_fractionTop b_fractionBottom b_marks, [(A_T 0, .inl (cy 4, 4, .inr (.inr (.inr (.inr (trf4 (A_y0 0) (A_y1 0) (A_y2 0) (A_y3 0)))))))], bl_X8 cy A_y0 y0_row y0_missing y0_sort y0_many, bl_X8 cy A_y1 y1_row y1_missing y1_sort y1_many, bl_X8 cy A_y2 y2_row y2_missing y2_sort y2_many, bl_X8 cy A_y3 y3_row y3_missing y3_sort y3_many] H := hP
          obtain ⟨b_667, e_b_667, h⟩ := bi h
          obtain ⟨-, n_b_667, -⟩ := bz_ok e_b_667
          cases h
          subst hW1
          exact W.zret hx hb hr n_b_667 (fun _ ht9 _ => ⟨⟨_, (), rfl, rfl, hPt ht9 hP.1⟩, hS.F ht9⟩) hS.2.2 dX11_pour_43
        · have h := ie c_665 h
          refine lv_iload hx hb dX11_pour_33 (lv_at hl 7 rfl) ?_
          refine lv_if_ge (tgt := 44) hx hb dX11_pour_35 (by decide) (fun c_668 => ?_) (fun c_668 => ?_)
          · have h := it c_668 h
            refine lv_aload hx hb dX11_pour_44 (lv_at hl 1 rfl) ?_
            refine xget (i := 3) (j := 0) (k := 1) (T := TX8) hx hb ht tb_iX8 hown hX hP.1 rfl rfl rfl (by decide) tb_416 rfl dX11_pour_46 ?_
            refine lv_if_ne (tgt := 60) hx hb dX11_pour_49 (by decide) (fun c_669 => ?_) (fun c_669 => ?_)
            · have h := ie c_669 h
              refine lv_aload_n hx hb dX11_pour_60 rfl (lv_at hl 2 rfl) ?_
              refine lv_iconst (v := 2) hx hb dX11_pour_61 (by decide) ?_
              obtain ⟨z_670, e_z_670, h⟩ := bi h
              refine efVi (rest := []) ⟨hx, hb, hml, hown, ht⟩ (c_X11_deny l D cy fu A_b (A_T 0) r_b_army r_b_war r_b_draftArmy r_b_draftWar r_b_reader r_b_armyReader r_b_warReader r_b_markedArmies r_b_markedWars r_b_latest r_b_trial r_b_foresight r_b_pairs b_latestStatus b_fractionTop b_fractionBottom b_marks 2 z_670 e_z_670 _ rfl _ rfl) (cV ht mv_X11_deny tb_507 rfl rfl ⟨Nat.le_of_ble_eq_true rfl, Nat.le_of_ble_eq_true rfl⟩) hP hS hX [0] rfl rfl rfl rfl rfl rfl hl.1 rfl (Nat.le_of_ble_eq_true rfl) dX11_pour_62 ⟨Nat.le_of_ble_eq_true rfl, Nat.le_of_ble_eq_true rfl⟩ (fun H locs hP hS => ?_)
              have hP : PD D A [bl_X11 cy A_b (A_T 0) r_b_army r_b_war r_b_draftArmy r_b_draftWar r_b_reader r_b_armyReader r_b_warReader r_b_markedArmies r_b_markedWars r_b_latest r_b_trial r_b_foresight r_b_pairs z_670.2 b_fractionTop b_fractionBottom b_marks, [(A_T 0, .inl (cy 4, 4, .inr (.inr (.inr (.inr (trf4 (A_y0 0) (A_y1 0) (A_y2 0) (A_y3 0)))))))], bl_X8 cy A_y0 y0_row y0_missing y0_sort y0_many, bl_X8 cy A_y1 y1_row y1_missing y1_sort y1_many, bl_X8 cy A_y2 y2_row y2_missing y2_sort y2_many, bl_X8 cy A_y3 y3_row y3_missing y3_sort y3_many] H := hP
              obtain ⟨b_671, e_b_671, h⟩ := bi h
              obtain ⟨-, n_b_671, -⟩ := bz_ok e_b_671
              cases h
              subst hW1
              exact W.zret hx hb hr n_b_671 (fun _ ht9 _ => ⟨⟨_, (), rfl, rfl, hPt ht9 hP.1⟩, hS.F ht9⟩) hS.2.2 dX11_pour_65
            · have h := it c_669 h
              refine lv_aload hx hb dX11_pour_52 (lv_at hl 0 rfl) ?_
              refine xget (i := 3) (j := 0) (k := 1) (T := TX8) hx hb ht tb_iX8 hown hX hP.1 rfl rfl rfl (by decide) tb_416 rfl dX11_pour_54 ?_
              refine lv_if_eq (tgt := 66) hx hb dX11_pour_57 (by decide) (fun c_672 => ?_) (fun c_672 => ?_)
              · have h := it c_672 h
                refine lv_aload hx hb dX11_pour_66 (lv_at hl 1 rfl) ?_
                refine xget (i := 3) (j := 0) (k := 2) (T := TX8) hx hb ht tb_iX8 hown hX hP.1 rfl rfl rfl (by decide) tb_418 rfl dX11_pour_68 ?_
                refine lv_aload hx hb dX11_pour_71 (lv_at hl 0 rfl) ?_
                refine xget (i := 3) (j := 0) (k := 2) (T := TX8) hx hb ht tb_iX8 hown hX hP.1 rfl rfl rfl (by decide) tb_418 rfl dX11_pour_73 ?_
                refine lv_icmp_eq (tgt := 86) hx hb dX11_pour_76 (by decide) (fun c_673 => ?_) (fun c_673 => ?_)
                · have h := it c_673 h
                  refine lv_aload hx hb dX11_pour_86 (lv_at hl 1 rfl) ?_
                  refine lv_iload_n hx hb dX11_pour_88 rfl (lv_at hl 4 rfl) ?_
                  refine lv_iload hx hb dX11_pour_89 (lv_at hl 7 rfl) ?_
                  obtain ⟨z_674, e_z_674, h⟩ := bi h
                  refine roVi (rest := []) ⟨hx, hb, hml, hown, ht⟩ (c_X8_hasPlaces l D cy fu A_y1 y1_row y1_missing y1_sort y1_many x2 x5 z_674 e_z_674) (cV ht mv_X8_hasPlaces tb_526 rfl rfl ⟨Nat.le_of_ble_eq_true rfl, Nat.le_of_ble_eq_true rfl⟩) (P_sub hP.1 [3] rfl) hX rfl rfl rfl hl.1 rfl (Nat.le_of_ble_eq_true rfl) dX11_pour_91 ⟨Nat.le_of_ble_eq_true rfl, Nat.le_of_ble_eq_true rfl⟩ ?_
                  refine lv_if_eq (tgt := 109) hx hb dX11_pour_94 (by decide) (fun c_675 => ?_) (fun c_675 => ?_)
                  · have h := it c_675 h
                    refine lv_aload_n hx hb dX11_pour_109 rfl (lv_at hl 2 rfl) ?_
                    refine lv_iconst (v := 3) hx hb dX11_pour_110 (by decide) ?_
                    obtain ⟨z_676, e_z_676, h⟩ := bi h
                    refine efVi (rest := []) ⟨hx, hb, hml, hown, ht⟩ (c_X11_deny l D cy fu A_b (A_T 0) r_b_army r_b_war r_b_draftArmy r_b_draftWar r_b_reader r_b_armyReader r_b_warReader r_b_markedArmies r_b_markedWars r_b_latest r_b_trial r_b_foresight r_b_pairs b_latestStatus b_fractionTop b_fractionBottom b_marks 3 z_676 e_z_676 _ rfl _ rfl) (cV ht mv_X11_deny tb_507 rfl rfl ⟨Nat.le_of_ble_eq_true rfl, Nat.le_of_ble_eq_true rfl⟩) hP hS hX [0] rfl rfl rfl rfl rfl rfl hl.1 rfl (Nat.le_of_ble_eq_true rfl) dX11_pour_111 ⟨Nat.le_of_ble_eq_true rfl, Nat.le_of_ble_eq_true rfl⟩ (fun H locs hP hS => ?_)
                    have hP : PD D A [bl_X11 cy A_b (A_T 0) r_b_army r_b_war r_b_draftArmy r_b_draftWar r_b_reader r_b_armyReader r_b_warReader r_b_markedArmies r_b_markedWars r_b_latest r_b_trial r_b_foresight r_b_pairs z_676.2 b_fractionTop b_fractionBottom b_marks, [(A_T 0, .inl (cy 4, 4, .inr (.inr (.inr (.inr (trf4 (A_y0 0) (A_y1 0) (A_y2 0) (A_y3 0)))))))], bl_X8 cy A_y0 y0_row y0_missing y0_sort y0_many, bl_X8 cy A_y1 y1_row y1_missing y1_sort y1_many, bl_X8 cy A_y2 y2_row y2_missing y2_sort y2_many, bl_X8 cy A_y3 y3_row y3_missing y3_sort y3_many] H := hP
                    obtain ⟨b_677, e_b_677, h⟩ := bi h
                    obtain ⟨-, n_b_677, -⟩ := bz_ok e_b_677
                    cases h
                    subst hW1
                    exact W.zret hx hb hr n_b_677 (fun _ ht9 _ => ⟨⟨_, (), rfl, rfl, hPt ht9 hP.1⟩, hS.F ht9⟩) hS.2.2 dX11_pour_114
                  · have h := ie c_675 h
                    refine lv_aload hx hb dX11_pour_97 (lv_at hl 0 rfl) ?_
                    refine lv_iload hx hb dX11_pour_99 (lv_at hl 6 rfl) ?_
                    refine lv_iload hx hb dX11_pour_101 (lv_at hl 7 rfl) ?_
                    obtain ⟨z_678, e_z_678, h⟩ := bi h
                    refine roVi (rest := []) ⟨hx, hb, hml, hown, ht⟩ (c_X8_hasPlaces l D cy fu A_y1 y1_row y1_missing y1_sort y1_many x4 x5 z_678 e_z_678) (cV ht mv_X8_hasPlaces tb_526 rfl rfl ⟨Nat.le_of_ble_eq_true rfl, Nat.le_of_ble_eq_true rfl⟩) (P_sub hP.1 [3] rfl) hX rfl rfl rfl hl.1 rfl (Nat.le_of_ble_eq_true rfl) dX11_pour_103 ⟨Nat.le_of_ble_eq_true rfl, Nat.le_of_ble_eq_true rfl⟩ ?_
                    refine lv_if_ne (tgt := 115) hx hb dX11_pour_106 (by decide) (fun c_679 => ?_) (fun c_679 => ?_)
                    · have h := ie c_679 h
                      refine lv_aload hx hb dX11_pour_115 (lv_at hl 1 rfl) ?_
                      refine xget (i := 3) (j := 0) (k := 0) (T := TX8) hx hb ht tb_iX8 hown hX hP.1 rfl rfl rfl (by decide) tb_414 rfl dX11_pour_117 ?_
                      refine lv_iload_n hx hb dX11_pour_120 rfl (lv_at hl 4 rfl) ?_
                      refine lv_aload hx hb dX11_pour_121 (lv_at hl 0 rfl) ?_
                      refine xget (i := 3) (j := 0) (k := 0) (T := TX8) hx hb ht tb_iX8 hown hX hP.1 rfl rfl rfl (by decide) tb_414 rfl dX11_pour_123 ?_
                      refine lv_iload hx hb dX11_pour_126 (lv_at hl 6 rfl) ?_
                      refine lv_iload hx hb dX11_pour_128 (lv_at hl 7 rfl) ?_
                      obtain ⟨y1_row_680, e_y1_row_680, h⟩ := bi h
                      refine xcpJ (i0 := 3) (j0 := 1) (i1 := 3) (j1 := 1) hx hb (hml.trans hl.1.symm) hown (ht _ tb_555) (ht _ tb_557) (ht _ tb_556) (ht _ tb_18) hX hP hS rfl rfl rfl rfl e_y1_row_680 (Nat.le_of_ble_eq_true rfl) (Nat.le_of_ble_eq_true rfl) dX11_pour_130 (fun H locs hP hS => ?_)
                      have hP : PD D A [bl_X11 cy A_b (A_T 0) r_b_army r_b_war r_b_draftArmy r_b_draftWar r_b_reader r_b_armyReader r_b_warReader r_b_markedArmies r_b_markedWars r_b_latest r_b_trial r_b_foresight r_b_pairs b_latestStatus b_fractionTop b_fractionBottom b_marks, [(A_T 0, .inl (cy 4, 4, .inr (.inr (.inr (.inr (trf4 (A_y0 0) (A_y1 0) (A_y2 0) (A_y3 0)))))))], bl_X8 cy A_y0 y0_row y0_missing y0_sort y0_many, bl_X8 cy A_y1 y1_row_680 y1_missing y1_sort y1_many, bl_X8 cy A_y2 y2_row y2_missing y2_sort y2_many, bl_X8 cy A_y3 y3_row y3_missing y3_sort y3_many] H := hP
                      refine lv_aload_n hx hb dX11_pour_133 rfl (lv_at hl 2 rfl) ?_
                      obtain ⟨z_681, e_z_681, h⟩ := bi h
                      refine efVi (rest := []) ⟨hx, hb, hml, hown, ht⟩ (c_X11_allow l D cy fu A_b (A_T 0) r_b_army r_b_war r_b_draftArmy r_b_draftWar r_b_reader r_b_armyReader r_b_warReader r_b_markedArmies r_b_markedWars r_b_latest r_b_trial r_b_foresight r_b_pairs b_latestStatus b_fractionTop b_fractionBottom b_marks z_681 e_z_681 _ rfl _ rfl) (cV ht mv_X11_allow tb_518 rfl rfl ⟨Nat.le_of_ble_eq_true rfl, Nat.le_of_ble_eq_true rfl⟩) hP hS hX [0] rfl rfl rfl rfl rfl rfl hl.1 rfl (Nat.le_of_ble_eq_true rfl) dX11_pour_134 ⟨Nat.le_of_ble_eq_true rfl, Nat.le_of_ble_eq_true rfl⟩ (fun H locs hP hS => ?_)
                      have hP : PD D A [bl_X11 cy A_b (A_T 0) r_b_army r_b_war r_b_draftArmy r_b_draftWar r_b_reader r_b_armyReader r_b_warReader r_b_markedArmies r_b_markedWars r_b_latest r_b_trial r_b_foresight r_b_pairs z_681.2 b_fractionTop b_fractionBottom b_marks, [(A_T 0, .inl (cy 4, 4, .inr (.inr (.inr (.inr (trf4 (A_y0 0) (A_y1 0) (A_y2 0) (A_y3 0)))))))], bl_X8 cy A_y0 y0_row y0_missing y0_sort y0_many, bl_X8 cy A_y1 y1_row_680 y1_missing y1_sort y1_many, bl_X8 cy A_y2 y2_row y2_missing y2_sort y2_many, bl_X8 cy A_y3 y3_row y3_missing y3_sort y3_many] H := hP
                      obtain ⟨b_682, e_b_682, h⟩ := bi h
                      obtain ⟨-, n_b_682, -⟩ := bz_ok e_b_682
                      cases h
                      subst hW1
                      exact W.zret hx hb hr n_b_682 (fun _ ht9 _ => ⟨⟨_, (), rfl, rfl, hPt ht9 hP.1⟩, hS.F ht9⟩) hS.2.2 dX11_pour_137
                    · have h := it c_679 h
                      refine lv_aload_n hx hb dX11_pour_109 rfl (lv_at hl 2 rfl) ?_
                      refine lv_iconst (v := 3) hx hb dX11_pour_110 (by decide) ?_
                      obtain ⟨z_683, e_z_683, h⟩ := bi h
                      refine efVi (rest := []) ⟨hx, hb, hml, hown, ht⟩ (c_X11_deny l D cy fu A_b (A_T 0) r_b_army r_b_war r_b_draftArmy r_b_draftWar r_b_reader r_b_armyReader r_b_warReader r_b_markedArmies r_b_markedWars r_b_latest r_b_trial r_b_foresight r_b_pairs b_latestStatus b_fractionTop b_fractionBottom b_marks 3 z_683 e_z_683 _ rfl _ rfl) (cV ht mv_X11_deny tb_507 rfl rfl ⟨Nat.le_of_ble_eq_true rfl, Nat.le_of_ble_eq_true rfl⟩) hP hS hX [0] rfl rfl rfl rfl rfl rfl hl.1 rfl (Nat.le_of_ble_eq_true rfl) dX11_pour_111 ⟨Nat.le_of_ble_eq_true rfl, Nat.le_of_ble_eq_true rfl⟩ (fun H locs hP hS => ?_)
                      have hP : PD D A [bl_X11 cy A_b (A_T 0) r_b_army r_b_war r_b_draftArmy r_b_draftWar r_b_reader r_b_armyReader r_b_warReader r_b_markedArmies r_b_markedWars r_b_latest r_b_trial r_b_foresight r_b_pairs z_683.2 b_fractionTop b_fractionBottom b_marks, [(A_T 0, .inl (cy 4, 4, .inr (.inr (.inr (.inr (trf4 (A_y0 0) (A_y1 0) (A_y2 0) (A_y3 0)))))))], bl_X8 cy A_y0 y0_row y0_missing y0_sort y0_many, bl_X8 cy A_y1 y1_row y1_missing y1_sort y1_many, bl_X8 cy A_y2 y2_row y2_missing y2_sort y2_many, bl_X8 cy A_y3 y3_row y3_missing y3_sort y3_many] H := hP
                      obtain ⟨b_684, e_b_684, h⟩ := bi h
                      obtain ⟨-, n_b_684, -⟩ := bz_ok e_b_684
                      cases h
                      subst hW1
                      exact W.zret hx hb hr n_b_684 (fun _ ht9 _ => ⟨⟨_, (), rfl, rfl, hPt ht9 hP.1⟩, hS.F ht9⟩) hS.2.2 dX11_pour_114
                · have h := ie c_673 h
                  refine lv_aload_n hx hb dX11_pour_79 rfl (lv_at hl 2 rfl) ?_
                  refine lv_bipush (v := 8) hx hb dX11_pour_80 (by decide) ?_
                  obtain ⟨z_685, e_z_685, h⟩ := bi h
                  refine efVi (rest := []) ⟨hx, hb, hml, hown, ht⟩ (c_X11_deny l D cy fu A_b (A_T 0) r_b_army r_b_war r_b_draftArmy r_b_draftWar r_b_reader r_b_armyReader r_b_warReader r_b_markedArmies r_b_markedWars r_b_latest r_b_trial r_b_foresight r_b_pairs b_latestStatus b_fractionTop b_fractionBottom b_marks 8 z_685 e_z_685 _ rfl _ rfl) (cV ht mv_X11_deny tb_507 rfl rfl ⟨Nat.le_of_ble_eq_true rfl, Nat.le_of_ble_eq_true rfl⟩) hP hS hX [0] rfl rfl rfl rfl rfl rfl hl.1 rfl (Nat.le_of_ble_eq_true rfl) dX11_pour_82 ⟨Nat.le_of_ble_eq_true rfl, Nat.le_of_ble_eq_true rfl⟩ (fun H locs hP hS => ?_)
                  have hP : PD D A [bl_X11 cy A_b (A_T 0) r_b_army r_b_war r_b_draftArmy r_b_draftWar r_b_reader r_b_armyReader r_b_warReader r_b_markedArmies r_b_markedWars r_b_latest r_b_trial r_b_foresight r_b_pairs z_685.2 b_fractionTop b_fractionBottom b_marks, [(A_T 0, .inl (cy 4, 4, .inr (.inr (.inr (.inr (trf4 (A_y0 0) (A_y1 0) (A_y2 0) (A_y3 0)))))))], bl_X8 cy A_y0 y0_row y0_missing y0_sort y0_many, bl_X8 cy A_y1 y1_row y1_missing y1_sort y1_many, bl_X8 cy A_y2 y2_row y2_missing y2_sort y2_many, bl_X8 cy A_y3 y3_row y3_missing y3_sort y3_many] H := hP
                  obtain ⟨b_686, e_b_686, h⟩ := bi h
                  obtain ⟨-, n_b_686, -⟩ := bz_ok e_b_686
                  cases h
                  subst hW1
                  exact W.zret hx hb hr n_b_686 (fun _ ht9 _ => ⟨⟨_, (), rfl, rfl, hPt ht9 hP.1⟩, hS.F ht9⟩) hS.2.2 dX11_pour_85
              · have h := ie c_672 h
                refine lv_aload_n hx hb dX11_pour_60 rfl (lv_at hl 2 rfl) ?_
                refine lv_iconst (v := 2) hx hb dX11_pour_61 (by decide) ?_
                obtain ⟨z_687, e_z_687, h⟩ := bi h
                refine efVi (rest := []) ⟨hx, hb, hml, hown, ht⟩ (c_X11_deny l D cy fu A_b (A_T 0) r_b_army r_b_war r_b_draftArmy r_b_draftWar r_b_reader r_b_armyReader r_b_warReader r_b_markedArmies r_b_markedWars r_b_latest r_b_trial r_b_foresight r_b_pairs b_latestStatus b_fractionTop b_fractionBottom b_marks 2 z_687 e_z_687 _ rfl _ rfl) (cV ht mv_X11_deny tb_507 rfl rfl ⟨Nat.le_of_ble_eq_true rfl, Nat.le_of_ble_eq_true rfl⟩) hP hS hX [0] rfl rfl rfl rfl rfl rfl hl.1 rfl (Nat.le_of_ble_eq_true rfl) dX11_pour_62 ⟨Nat.le_of_ble_eq_true rfl, Nat.le_of_ble_eq_true rfl⟩ (fun H locs hP hS => ?_)
                have hP : PD D A [bl_X11 cy A_b (A_T 0) r_b_army r_b_war r_b_draftArmy r_b_draftWar r_b_reader r_b_armyReader r_b_warReader r_b_markedArmies r_b_markedWars r_b_latest r_b_trial r_b_foresight r_b_pairs z_687.2 b_fractionTop b_fractionBottom b_marks, [(A_T 0, .inl (cy 4, 4, .inr (.inr (.inr (.inr (trf4 (A_y0 0) (A_y1 0) (A_y2 0) (A_y3 0)))))))], bl_X8 cy A_y0 y0_row y0_missing y0_sort y0_many, bl_X8 cy A_y1 y1_row y1_missing y1_sort y1_many, bl_X8 cy A_y2 y2_row y2_missing y2_sort y2_many, bl_X8 cy A_y3 y3_row y3_missing y3_sort y3_many] H := hP
                obtain ⟨b_688, e_b_688, h⟩ := bi h
                obtain ⟨-, n_b_688, -⟩ := bz_ok e_b_688
                cases h
                subst hW1
                exact W.zret hx hb hr n_b_688 (fun _ ht9 _ => ⟨⟨_, (), rfl, rfl, hPt ht9 hP.1⟩, hS.F ht9⟩) hS.2.2 dX11_pour_65
          · have h := ie c_668 h
            refine lv_aload_n hx hb dX11_pour_38 rfl (lv_at hl 2 rfl) ?_
            refine lv_iconst (v := 1) hx hb dX11_pour_39 (by decide) ?_
            obtain ⟨z_689, e_z_689, h⟩ := bi h
            refine efVi (rest := []) ⟨hx, hb, hml, hown, ht⟩ (c_X11_deny l D cy fu A_b (A_T 0) r_b_army r_b_war r_b_draftArmy r_b_draftWar r_b_reader r_b_armyReader r_b_warReader r_b_markedArmies r_b_markedWars r_b_latest r_b_trial r_b_foresight r_b_pairs b_latestStatus b_fractionTop b_fractionBottom b_marks 1 z_689 e_z_689 _ rfl _ rfl) (cV ht mv_X11_deny tb_507 rfl rfl ⟨Nat.le_of_ble_eq_true rfl, Nat.le_of_ble_eq_true rfl⟩) hP hS hX [0] rfl rfl rfl rfl rfl rfl hl.1 rfl (Nat.le_of_ble_eq_true rfl) dX11_pour_40 ⟨Nat.le_of_ble_eq_true rfl, Nat.le_of_ble_eq_true rfl⟩ (fun H locs hP hS => ?_)
            have hP : PD D A [bl_X11 cy A_b (A_T 0) r_b_army r_b_war r_b_draftArmy r_b_draftWar r_b_reader r_b_armyReader r_b_warReader r_b_markedArmies r_b_markedWars r_b_latest r_b_trial r_b_foresight r_b_pairs z_689.2 b_fractionTop b_fractionBottom b_marks, [(A_T 0, .inl (cy 4, 4, .inr (.inr (.inr (.inr (trf4 (A_y0 0) (A_y1 0) (A_y2 0) (A_y3 0)))))))], bl_X8 cy A_y0 y0_row y0_missing y0_sort y0_many, bl_X8 cy A_y1 y1_row y1_missing y1_sort y1_many, bl_X8 cy A_y2 y2_row y2_missing y2_sort y2_many, bl_X8 cy A_y3 y3_row y3_missing y3_sort y3_many] H := hP
            obtain ⟨b_690, e_b_690, h⟩ := bi h
            obtain ⟨-, n_b_690, -⟩ := bz_ok e_b_690
            cases h
            subst hW1
            exact W.zret hx hb hr n_b_690 (fun _ ht9 _ => ⟨⟨_, (), rfl, rfl, hPt ht9 hP.1⟩, hS.F ht9⟩) hS.2.2 dX11_pour_43
    have h := ie c_661 h
    by_cases c_691 : x3 = 2
    · have h := it c_691 h
      refine roVq (rest := []) ⟨hx, hb, hml, hown, ht⟩ (c_X11_trayAt l D cy fu A_b r_b_army r_b_war r_b_draftArmy r_b_draftWar r_b_reader r_b_armyReader r_b_warReader r_b_markedArmies r_b_markedWars r_b_latest r_b_trial r_b_foresight r_b_pairs b_latestStatus b_fractionTop b_fractionBottom b_marks A_T (trf4 (A_y0 0) (A_y1 0) (A_y2 0) (A_y3 0)) x3 (some (A_y2 0)) (tray_2 c_691)) (cV ht mv_X11_trayAt tb_500 rfl rfl ⟨Nat.le_of_ble_eq_true rfl, Nat.le_of_ble_eq_true rfl⟩) (P_sub hP.1 [0, 1] rfl) hX rfl rfl rfl hl.1 rfl (Nat.le_of_ble_eq_true rfl) dX11_pour_9 ⟨Nat.le_of_ble_eq_true rfl, Nat.le_of_ble_eq_true rfl⟩ ?_
      refine lv_astore (lv' := [(7, .ref (A_y2 0)), (6, .ref (A_y1 0)), (0, .ref (A_b 0)), (1, .int x1), (2, .int x2), (3, .int x3), (4, .int x4), (5, .int x5)]) hx hb dX11_pour_12 hl (by decide) rfl (fun ls hl => ?_)
      refine lv_aload hx hb dX11_pour_14 (lv_at hl 1 rfl) ?_
      refine lv_ifnull hx hb dX11_pour_16 ?_
      refine lv_aload hx hb dX11_pour_19 (lv_at hl 0 rfl) ?_
      refine lv_ifnull hx hb dX11_pour_21 ?_
      refine lv_iload_n hx hb dX11_pour_24 rfl (lv_at hl 4 rfl) ?_
      refine lv_if_lt (tgt := 38) hx hb dX11_pour_25 (by decide) (fun c_692 => ?_) (fun c_692 => ?_)
      · have h := it c_692 h
        refine lv_aload_n hx hb dX11_pour_38 rfl (lv_at hl 2 rfl) ?_
        refine lv_iconst (v := 1) hx hb dX11_pour_39 (by decide) ?_
        obtain ⟨z_693, e_z_693, h⟩ := bi h
        refine efVi (rest := []) ⟨hx, hb, hml, hown, ht⟩ (c_X11_deny l D cy fu A_b (A_T 0) r_b_army r_b_war r_b_draftArmy r_b_draftWar r_b_reader r_b_armyReader r_b_warReader r_b_markedArmies r_b_markedWars r_b_latest r_b_trial r_b_foresight r_b_pairs b_latestStatus b_fractionTop b_fractionBottom b_marks 1 z_693 e_z_693 _ rfl _ rfl) (cV ht mv_X11_deny tb_507 rfl rfl ⟨Nat.le_of_ble_eq_true rfl, Nat.le_of_ble_eq_true rfl⟩) hP hS hX [0] rfl rfl rfl rfl rfl rfl hl.1 rfl (Nat.le_of_ble_eq_true rfl) dX11_pour_40 ⟨Nat.le_of_ble_eq_true rfl, Nat.le_of_ble_eq_true rfl⟩ (fun H locs hP hS => ?_)
        have hP : PD D A [bl_X11 cy A_b (A_T 0) r_b_army r_b_war r_b_draftArmy r_b_draftWar r_b_reader r_b_armyReader r_b_warReader r_b_markedArmies r_b_markedWars r_b_latest r_b_trial r_b_foresight r_b_pairs z_693.2 b_fractionTop b_fractionBottom b_marks, [(A_T 0, .inl (cy 4, 4, .inr (.inr (.inr (.inr (trf4 (A_y0 0) (A_y1 0) (A_y2 0) (A_y3 0)))))))], bl_X8 cy A_y0 y0_row y0_missing y0_sort y0_many, bl_X8 cy A_y1 y1_row y1_missing y1_sort y1_many, bl_X8 cy A_y2 y2_row y2_missing y2_sort y2_many, bl_X8 cy A_y3 y3_row y3_missing y3_sort y3_many] H := hP
        obtain ⟨b_694, e_b_694, h⟩ := bi h
        obtain ⟨-, n_b_694, -⟩ := bz_ok e_b_694
        cases h
        subst hW1
        exact W.zret hx hb hr n_b_694 (fun _ ht9 _ => ⟨⟨_, (), rfl, rfl, hPt ht9 hP.1⟩, hS.F ht9⟩) hS.2.2 dX11_pour_43
      · have h := ie c_692 h
        refine lv_iload hx hb dX11_pour_28 (lv_at hl 6 rfl) ?_
        refine lv_if_lt (tgt := 38) hx hb dX11_pour_30 (by decide) (fun c_695 => ?_) (fun c_695 => ?_)
        · have h := it c_695 h
          refine lv_aload_n hx hb dX11_pour_38 rfl (lv_at hl 2 rfl) ?_
          refine lv_iconst (v := 1) hx hb dX11_pour_39 (by decide) ?_
          obtain ⟨z_696, e_z_696, h⟩ := bi h
          refine efVi (rest := []) ⟨hx, hb, hml, hown, ht⟩ (c_X11_deny l D cy fu A_b (A_T 0) r_b_army r_b_war r_b_draftArmy r_b_draftWar r_b_reader r_b_armyReader r_b_warReader r_b_markedArmies r_b_markedWars r_b_latest r_b_trial r_b_foresight r_b_pairs b_latestStatus b_fractionTop b_fractionBottom b_marks 1 z_696 e_z_696 _ rfl _ rfl) (cV ht mv_X11_deny tb_507 rfl rfl ⟨Nat.le_of_ble_eq_true rfl, Nat.le_of_ble_eq_true rfl⟩) hP hS hX [0] rfl rfl rfl rfl rfl rfl hl.1 rfl (Nat.le_of_ble_eq_true rfl) dX11_pour_40 ⟨Nat.le_of_ble_eq_true rfl, Nat.le_of_ble_eq_true rfl⟩ (fun H locs hP hS => ?_)
          have hP : PD D A [bl_X11 cy A_b (A_T 0) r_b_army r_b_war r_b_draftArmy r_b_draftWar r_b_reader r_b_armyReader r_b_warReader r_b_markedArmies r_b_markedWars r_b_latest r_b_trial r_b_foresight r_b_pairs z_696.2 b_fractionTop b_fractionBottom b_marks, [(A_T 0, .inl (cy 4, 4, .inr (.inr (.inr (.inr (trf4 (A_y0 0) (A_y1 0) (A_y2 0) (A_y3 0)))))))], bl_X8 cy A_y0 y0_row y0_missing y0_sort y0_many, bl_X8 cy A_y1 y1_row y1_missing y1_sort y1_many, bl_X8 cy A_y2 y2_row y2_missing y2_sort y2_many, bl_X8 cy A_y3 y3_row y3_missing y3_sort y3_many] H := hP
          obtain ⟨b_697, e_b_697, h⟩ := bi h
          obtain ⟨-, n_b_697, -⟩ := bz_ok e_b_697
          cases h
          subst hW1
          exact W.zret hx hb hr n_b_697 (fun _ ht9 _ => ⟨⟨_, (), rfl, rfl, hPt ht9 hP.1⟩, hS.F ht9⟩) hS.2.2 dX11_pour_43
        · have h := ie c_695 h
          refine lv_iload hx hb dX11_pour_33 (lv_at hl 7 rfl) ?_
          refine lv_if_ge (tgt := 44) hx hb dX11_pour_35 (by decide) (fun c_698 => ?_) (fun c_698 => ?_)
          · have h := it c_698 h
            refine lv_aload hx hb dX11_pour_44 (lv_at hl 1 rfl) ?_
            refine xget (i := 3) (j := 0) (k := 1) (T := TX8) hx hb ht tb_iX8 hown hX hP.1 rfl rfl rfl (by decide) tb_416 rfl dX11_pour_46 ?_
            refine lv_if_ne (tgt := 60) hx hb dX11_pour_49 (by decide) (fun c_699 => ?_) (fun c_699 => ?_)
            · have h := ie c_699 h
              refine lv_aload_n hx hb dX11_pour_60 rfl (lv_at hl 2 rfl) ?_
              refine lv_iconst (v := 2) hx hb dX11_pour_61 (by decide) ?_
              obtain ⟨z_700, e_z_700, h⟩ := bi h
              refine efVi (rest := []) ⟨hx, hb, hml, hown, ht⟩ (c_X11_deny l D cy fu A_b (A_T 0) r_b_army r_b_war r_b_draftArmy r_b_draftWar r_b_reader r_b_armyReader r_b_warReader r_b_markedArmies r_b_markedWars r_b_latest r_b_trial r_b_foresight r_b_pairs b_latestStatus b_fractionTop b_fractionBottom b_marks 2 z_700 e_z_700 _ rfl _ rfl) (cV ht mv_X11_deny tb_507 rfl rfl ⟨Nat.le_of_ble_eq_true rfl, Nat.le_of_ble_eq_true rfl⟩) hP hS hX [0] rfl rfl rfl rfl rfl rfl hl.1 rfl (Nat.le_of_ble_eq_true rfl) dX11_pour_62 ⟨Nat.le_of_ble_eq_true rfl, Nat.le_of_ble_eq_true rfl⟩ (fun H locs hP hS => ?_)
              have hP : PD D A [bl_X11 cy A_b (A_T 0) r_b_army r_b_war r_b_draftArmy r_b_draftWar r_b_reader r_b_armyReader r_b_warReader r_b_markedArmies r_b_markedWars r_b_latest r_b_trial r_b_foresight r_b_pairs z_700.2 b_fractionTop b_fractionBottom b_marks, [(A_T 0, .inl (cy 4, 4, .inr (.inr (.inr (.inr (trf4 (A_y0 0) (A_y1 0) (A_y2 0) (A_y3 0)))))))], bl_X8 cy A_y0 y0_row y0_missing y0_sort y0_many, bl_X8 cy A_y1 y1_row y1_missing y1_sort y1_many, bl_X8 cy A_y2 y2_row y2_missing y2_sort y2_many, bl_X8 cy A_y3 y3_row y3_missing y3_sort y3_many] H := hP
              obtain ⟨b_701, e_b_701, h⟩ := bi h
              obtain ⟨-, n_b_701, -⟩ := bz_ok e_b_701
              cases h
              subst hW1
              exact W.zret hx hb hr n_b_701 (fun _ ht9 _ => ⟨⟨_, (), rfl, rfl, hPt ht9 hP.1⟩, hS.F ht9⟩) hS.2.2 dX11_pour_65
            · have h := it c_699 h
              refine lv_aload hx hb dX11_pour_52 (lv_at hl 0 rfl) ?_
              refine xget (i := 4) (j := 0) (k := 1) (T := TX8) hx hb ht tb_iX8 hown hX hP.1 rfl rfl rfl (by decide) tb_416 rfl dX11_pour_54 ?_
              refine lv_if_eq (tgt := 66) hx hb dX11_pour_57 (by decide) (fun c_702 => ?_) (fun c_702 => ?_)
              · have h := it c_702 h
                refine lv_aload hx hb dX11_pour_66 (lv_at hl 1 rfl) ?_
                refine xget (i := 3) (j := 0) (k := 2) (T := TX8) hx hb ht tb_iX8 hown hX hP.1 rfl rfl rfl (by decide) tb_418 rfl dX11_pour_68 ?_
                refine lv_aload hx hb dX11_pour_71 (lv_at hl 0 rfl) ?_
                refine xget (i := 4) (j := 0) (k := 2) (T := TX8) hx hb ht tb_iX8 hown hX hP.1 rfl rfl rfl (by decide) tb_418 rfl dX11_pour_73 ?_
                refine lv_icmp_eq (tgt := 86) hx hb dX11_pour_76 (by decide) (fun c_703 => ?_) (fun c_703 => ?_)
                · have h := it c_703 h
                  refine lv_aload hx hb dX11_pour_86 (lv_at hl 1 rfl) ?_
                  refine lv_iload_n hx hb dX11_pour_88 rfl (lv_at hl 4 rfl) ?_
                  refine lv_iload hx hb dX11_pour_89 (lv_at hl 7 rfl) ?_
                  obtain ⟨z_704, e_z_704, h⟩ := bi h
                  refine roVi (rest := []) ⟨hx, hb, hml, hown, ht⟩ (c_X8_hasPlaces l D cy fu A_y1 y1_row y1_missing y1_sort y1_many x2 x5 z_704 e_z_704) (cV ht mv_X8_hasPlaces tb_526 rfl rfl ⟨Nat.le_of_ble_eq_true rfl, Nat.le_of_ble_eq_true rfl⟩) (P_sub hP.1 [3] rfl) hX rfl rfl rfl hl.1 rfl (Nat.le_of_ble_eq_true rfl) dX11_pour_91 ⟨Nat.le_of_ble_eq_true rfl, Nat.le_of_ble_eq_true rfl⟩ ?_
                  refine lv_if_eq (tgt := 109) hx hb dX11_pour_94 (by decide) (fun c_705 => ?_) (fun c_705 => ?_)
                  · have h := it c_705 h
                    refine lv_aload_n hx hb dX11_pour_109 rfl (lv_at hl 2 rfl) ?_
                    refine lv_iconst (v := 3) hx hb dX11_pour_110 (by decide) ?_
                    obtain ⟨z_706, e_z_706, h⟩ := bi h
                    refine efVi (rest := []) ⟨hx, hb, hml, hown, ht⟩ (c_X11_deny l D cy fu A_b (A_T 0) r_b_army r_b_war r_b_draftArmy r_b_draftWar r_b_reader r_b_armyReader r_b_warReader r_b_markedArmies r_b_markedWars r_b_latest r_b_trial r_b_foresight r_b_pairs b_latestStatus b_fractionTop b_fractionBottom b_marks 3 z_706 e_z_706 _ rfl _ rfl) (cV ht mv_X11_deny tb_507 rfl rfl ⟨Nat.le_of_ble_eq_true rfl, Nat.le_of_ble_eq_true rfl⟩) hP hS hX [0] rfl rfl rfl rfl rfl rfl hl.1 rfl (Nat.le_of_ble_eq_true rfl) dX11_pour_111 ⟨Nat.le_of_ble_eq_true rfl, Nat.le_of_ble_eq_true rfl⟩ (fun H locs hP hS => ?_)
                    have hP : PD D A [bl_X11 cy A_b (A_T 0) r_b_army r_b_war r_b_draftArmy r_b_draftWar r_b_reader r_b_armyReader r_b_warReader r_b_markedArmies r_b_markedWars r_b_latest r_b_trial r_b_foresight r_b_pairs z_706.2 b_fractionTop b_fractionBottom b_marks, [(A_T 0, .inl (cy 4, 4, .inr (.inr (.inr (.inr (trf4 (A_y0 0) (A_y1 0) (A_y2 0) (A_y3 0)))))))], bl_X8 cy A_y0 y0_row y0_missing y0_sort y0_many, bl_X8 cy A_y1 y1_row y1_missing y1_sort y1_many, bl_X8 cy A_y2 y2_row y2_missing y2_sort y2_many, bl_X8 cy A_y3 y3_row y3_missing y3_sort y3_many] H := hP
                    obtain ⟨b_707, e_b_707, h⟩ := bi h
                    obtain ⟨-, n_b_707, -⟩ := bz_ok e_b_707
                    cases h
                    subst hW1
                    exact W.zret hx hb hr n_b_707 (fun _ ht9 _ => ⟨⟨_, (), rfl, rfl, hPt ht9 hP.1⟩, hS.F ht9⟩) hS.2.2 dX11_pour_114
                  · have h := ie c_705 h
                    refine lv_aload hx hb dX11_pour_97 (lv_at hl 0 rfl) ?_
                    refine lv_iload hx hb dX11_pour_99 (lv_at hl 6 rfl) ?_
                    refine lv_iload hx hb dX11_pour_101 (lv_at hl 7 rfl) ?_
                    obtain ⟨z_708, e_z_708, h⟩ := bi h
                    refine roVi (rest := []) ⟨hx, hb, hml, hown, ht⟩ (c_X8_hasPlaces l D cy fu A_y2 y2_row y2_missing y2_sort y2_many x4 x5 z_708 e_z_708) (cV ht mv_X8_hasPlaces tb_526 rfl rfl ⟨Nat.le_of_ble_eq_true rfl, Nat.le_of_ble_eq_true rfl⟩) (P_sub hP.1 [4] rfl) hX rfl rfl rfl hl.1 rfl (Nat.le_of_ble_eq_true rfl) dX11_pour_103 ⟨Nat.le_of_ble_eq_true rfl, Nat.le_of_ble_eq_true rfl⟩ ?_
                    refine lv_if_ne (tgt := 115) hx hb dX11_pour_106 (by decide) (fun c_709 => ?_) (fun c_709 => ?_)
                    · have h := ie c_709 h
                      refine lv_aload hx hb dX11_pour_115 (lv_at hl 1 rfl) ?_
                      refine xget (i := 3) (j := 0) (k := 0) (T := TX8) hx hb ht tb_iX8 hown hX hP.1 rfl rfl rfl (by decide) tb_414 rfl dX11_pour_117 ?_
                      refine lv_iload_n hx hb dX11_pour_120 rfl (lv_at hl 4 rfl) ?_
                      refine lv_aload hx hb dX11_pour_121 (lv_at hl 0 rfl) ?_
                      refine xget (i := 4) (j := 0) (k := 0) (T := TX8) hx hb ht tb_iX8 hown hX hP.1 rfl rfl rfl (by decide) tb_414 rfl dX11_pour_123 ?_
                      refine lv_iload hx hb dX11_pour_126 (lv_at hl 6 rfl) ?_
                      refine lv_iload hx hb dX11_pour_128 (lv_at hl 7 rfl) ?_
                      obtain ⟨y2_row_710, e_y2_row_710, h⟩ := bi h
                      refine xcpJ (i0 := 3) (j0 := 1) (i1 := 4) (j1 := 1) hx hb (hml.trans hl.1.symm) hown (ht _ tb_555) (ht _ tb_557) (ht _ tb_556) (ht _ tb_18) hX hP hS rfl rfl rfl rfl e_y2_row_710 (Nat.le_of_ble_eq_true rfl) (Nat.le_of_ble_eq_true rfl) dX11_pour_130 (fun H locs hP hS => ?_)
                      have hP : PD D A [bl_X11 cy A_b (A_T 0) r_b_army r_b_war r_b_draftArmy r_b_draftWar r_b_reader r_b_armyReader r_b_warReader r_b_markedArmies r_b_markedWars r_b_latest r_b_trial r_b_foresight r_b_pairs b_latestStatus b_fractionTop b_fractionBottom b_marks, [(A_T 0, .inl (cy 4, 4, .inr (.inr (.inr (.inr (trf4 (A_y0 0) (A_y1 0) (A_y2 0) (A_y3 0)))))))], bl_X8 cy A_y0 y0_row y0_missing y0_sort y0_many, bl_X8 cy A_y1 y1_row y1_missing y1_sort y1_many, bl_X8 cy A_y2 y2_row_710 y2_missing y2_sort y2_many, bl_X8 cy A_y3 y3_row y3_missing y3_sort y3_many] H := hP
                      refine lv_aload_n hx hb dX11_pour_133 rfl (lv_at hl 2 rfl) ?_
                      obtain ⟨z_711, e_z_711, h⟩ := bi h
                      refine efVi (rest := []) ⟨hx, hb, hml, hown, ht⟩ (c_X11_allow l D cy fu A_b (A_T 0) r_b_army r_b_war r_b_draftArmy r_b_draftWar r_b_reader r_b_armyReader r_b_warReader r_b_markedArmies r_b_markedWars r_b_latest r_b_trial r_b_foresight r_b_pairs b_latestStatus b_fractionTop b_fractionBottom b_marks z_711 e_z_711 _ rfl _ rfl) (cV ht mv_X11_allow tb_518 rfl rfl ⟨Nat.le_of_ble_eq_true rfl, Nat.le_of_ble_eq_true rfl⟩) hP hS hX [0] rfl rfl rfl rfl rfl rfl hl.1 rfl (Nat.le_of_ble_eq_true rfl) dX11_pour_134 ⟨Nat.le_of_ble_eq_true rfl, Nat.le_of_ble_eq_true rfl⟩ (fun H locs hP hS => ?_)
                      have hP : PD D A [bl_X11 cy A_b (A_T 0) r_b_army r_b_war r_b_draftArmy r_b_draftWar r_b_reader r_b_armyReader r_b_warReader r_b_markedArmies r_b_markedWars r_b_latest r_b_trial r_b_foresight r_b_pairs z_711.2 b_fractionTop b_fractionBottom b_marks, [(A_T 0, .inl (cy 4, 4, .inr (.inr (.inr (.inr (trf4 (A_y0 0) (A_y1 0) (A_y2 0) (A_y3 0)))))))], bl_X8 cy A_y0 y0_row y0_missing y0_sort y0_many, bl_X8 cy A_y1 y1_row y1_missing y1_sort y1_many, bl_X8 cy A_y2 y2_row_710 y2_missing y2_sort y2_many, bl_X8 cy A_y3 y3_row y3_missing y3_sort y3_many] H := hP
                      obtain ⟨b_712, e_b_712, h⟩ := bi h
                      obtain ⟨-, n_b_712, -⟩ := bz_ok e_b_712
                      cases h
                      subst hW1
                      exact W.zret hx hb hr n_b_712 (fun _ ht9 _ => ⟨⟨_, (), rfl, rfl, hPt ht9 hP.1⟩, hS.F ht9⟩) hS.2.2 dX11_pour_137
                    · have h := it c_709 h
                      refine lv_aload_n hx hb dX11_pour_109 rfl (lv_at hl 2 rfl) ?_
                      refine lv_iconst (v := 3) hx hb dX11_pour_110 (by decide) ?_
                      obtain ⟨z_713, e_z_713, h⟩ := bi h
                      refine efVi (rest := []) ⟨hx, hb, hml, hown, ht⟩ (c_X11_deny l D cy fu A_b (A_T 0) r_b_army r_b_war r_b_draftArmy r_b_draftWar r_b_reader r_b_armyReader r_b_warReader r_b_markedArmies r_b_markedWars r_b_latest r_b_trial r_b_foresight r_b_pairs b_latestStatus b_fractionTop b_fractionBottom b_marks 3 z_713 e_z_713 _ rfl _ rfl) (cV ht mv_X11_deny tb_507 rfl rfl ⟨Nat.le_of_ble_eq_true rfl, Nat.le_of_ble_eq_true rfl⟩) hP hS hX [0] rfl rfl rfl rfl rfl rfl hl.1 rfl (Nat.le_of_ble_eq_true rfl) dX11_pour_111 ⟨Nat.le_of_ble_eq_true rfl, Nat.le_of_ble_eq_true rfl⟩ (fun H locs hP hS => ?_)
                      have hP : PD D A [bl_X11 cy A_b (A_T 0) r_b_army r_b_war r_b_draftArmy r_b_draftWar r_b_reader r_b_armyReader r_b_warReader r_b_markedArmies r_b_markedWars r_b_latest r_b_trial r_b_foresight r_b_pairs z_713.2 b_fractionTop b_fractionBottom b_marks, [(A_T 0, .inl (cy 4, 4, .inr (.inr (.inr (.inr (trf4 (A_y0 0) (A_y1 0) (A_y2 0) (A_y3 0)))))))], bl_X8 cy A_y0 y0_row y0_missing y0_sort y0_many, bl_X8 cy A_y1 y1_row y1_missing y1_sort y1_many, bl_X8 cy A_y2 y2_row y2_missing y2_sort y2_many, bl_X8 cy A_y3 y3_row y3_missing y3_sort y3_many] H := hP
                      obtain ⟨b_714, e_b_714, h⟩ := bi h
                      obtain ⟨-, n_b_714, -⟩ := bz_ok e_b_714
                      cases h
                      subst hW1
                      exact W.zret hx hb hr n_b_714 (fun _ ht9 _ => ⟨⟨_, (), rfl, rfl, hPt ht9 hP.1⟩, hS.F ht9⟩) hS.2.2 dX11_pour_114
                · have h := ie c_703 h
                  refine lv_aload_n hx hb dX11_pour_79 rfl (lv_at hl 2 rfl) ?_
                  refine lv_bipush (v := 8) hx hb dX11_pour_80 (by decide) ?_
                  obtain ⟨z_715, e_z_715, h⟩ := bi h
                  refine efVi (rest := []) ⟨hx, hb, hml, hown, ht⟩ (c_X11_deny l D cy fu A_b (A_T 0) r_b_army r_b_war r_b_draftArmy r_b_draftWar r_b_reader r_b_armyReader r_b_warReader r_b_markedArmies r_b_markedWars r_b_latest r_b_trial r_b_foresight r_b_pairs b_latestStatus b_fractionTop b_fractionBottom b_marks 8 z_715 e_z_715 _ rfl _ rfl) (cV ht mv_X11_deny tb_507 rfl rfl ⟨Nat.le_of_ble_eq_true rfl, Nat.le_of_ble_eq_true rfl⟩) hP hS hX [0] rfl rfl rfl rfl rfl rfl hl.1 rfl (Nat.le_of_ble_eq_true rfl) dX11_pour_82 ⟨Nat.le_of_ble_eq_true rfl, Nat.le_of_ble_eq_true rfl⟩ (fun H locs hP hS => ?_)
                  have hP : PD D A [bl_X11 cy A_b (A_T 0) r_b_army r_b_war r_b_draftArmy r_b_draftWar r_b_reader r_b_armyReader r_b_warReader r_b_markedArmies r_b_markedWars r_b_latest r_b_trial r_b_foresight r_b_pairs z_715.2 b_fractionTop b_fractionBottom b_marks, [(A_T 0, .inl (cy 4, 4, .inr (.inr (.inr (.inr (trf4 (A_y0 0) (A_y1 0) (A_y2 0) (A_y3 0)))))))], bl_X8 cy A_y0 y0_row y0_missing y0_sort y0_many, bl_X8 cy A_y1 y1_row y1_missing y1_sort y1_many, bl_X8 cy A_y2 y2_row y2_missing y2_sort y2_many, bl_X8 cy A_y3 y3_row y3_missing y3_sort y3_many] H := hP
                  obtain ⟨b_716, e_b_716, h⟩ := bi h
                  obtain ⟨-, n_b_716, -⟩ := bz_ok e_b_716
                  cases h
                  subst hW1
                  exact W.zret hx hb hr n_b_716 (fun _ ht9 _ => ⟨⟨_, (), rfl, rfl, hPt ht9 hP.1⟩, hS.F ht9⟩) hS.2.2 dX11_pour_85
              · have h := ie c_702 h
                refine lv_aload_n hx hb dX11_pour_60 rfl (lv_at hl 2 rfl) ?_
                refine lv_iconst (v := 2) hx hb dX11_pour_61 (by decide) ?_
                obtain ⟨z_717, e_z_717, h⟩ := bi h
                refine efVi (rest := []) ⟨hx, hb, hml, hown, ht⟩ (c_X11_deny l D cy fu A_b (A_T 0) r_b_army r_b_war r_b_draftArmy r_b_draftWar r_b_reader r_b_armyReader r_b_warReader r_b_markedArmies r_b_markedWars r_b_latest r_b_trial r_b_foresight r_b_pairs b_latestStatus b_fractionTop b_fractionBottom b_marks 2 z_717 e_z_717 _ rfl _ rfl) (cV ht mv_X11_deny tb_507 rfl rfl ⟨Nat.le_of_ble_eq_true rfl, Nat.le_of_ble_eq_true rfl⟩) hP hS hX [0] rfl rfl rfl rfl rfl rfl hl.1 rfl (Nat.le_of_ble_eq_true rfl) dX11_pour_62 ⟨Nat.le_of_ble_eq_true rfl, Nat.le_of_ble_eq_true rfl⟩ (fun H locs hP hS => ?_)
                have hP : PD D A [bl_X11 cy A_b (A_T 0) r_b_army r_b_war r_b_draftArmy r_b_draftWar r_b_reader r_b_armyReader r_b_warReader r_b_markedArmies r_b_markedWars r_b_latest r_b_trial r_b_foresight r_b_pairs z_717.2 b_fractionTop b_fractionBottom b_marks, [(A_T 0, .inl (cy 4, 4, .inr (.inr (.inr (.inr (trf4 (A_y0 0) (A_y1 0) (A_y2 0) (A_y3 0)))))))], bl_X8 cy A_y0 y0_row y0_missing y0_sort y0_many, bl_X8 cy A_y1 y1_row y1_missing y1_sort y1_many, bl_X8 cy A_y2 y2_row y2_missing y2_sort y2_many, bl_X8 cy A_y3 y3_row y3_missing y3_sort y3_many] H := hP
                obtain ⟨b_718, e_b_718, h⟩ := bi h
                obtain ⟨-, n_b_718, -⟩ := bz_ok e_b_718
                cases h
                subst hW1
                exact W.zret hx hb hr n_b_718 (fun _ ht9 _ => ⟨⟨_, (), rfl, rfl, hPt ht9 hP.1⟩, hS.F ht9⟩) hS.2.2 dX11_pour_65
          · have h := ie c_698 h
            refine lv_aload_n hx hb dX11_pour_38 rfl (lv_at hl 2 rfl) ?_
            refine lv_iconst (v := 1) hx hb dX11_pour_39 (by decide) ?_
            obtain ⟨z_719, e_z_719, h⟩ := bi h
            refine efVi (rest := []) ⟨hx, hb, hml, hown, ht⟩ (c_X11_deny l D cy fu A_b (A_T 0) r_b_army r_b_war r_b_draftArmy r_b_draftWar r_b_reader r_b_armyReader r_b_warReader r_b_markedArmies r_b_markedWars r_b_latest r_b_trial r_b_foresight r_b_pairs b_latestStatus b_fractionTop b_fractionBottom b_marks 1 z_719 e_z_719 _ rfl _ rfl) (cV ht mv_X11_deny tb_507 rfl rfl ⟨Nat.le_of_ble_eq_true rfl, Nat.le_of_ble_eq_true rfl⟩) hP hS hX [0] rfl rfl rfl rfl rfl rfl hl.1 rfl (Nat.le_of_ble_eq_true rfl) dX11_pour_40 ⟨Nat.le_of_ble_eq_true rfl, Nat.le_of_ble_eq_true rfl⟩ (fun H locs hP hS => ?_)
            have hP : PD D A [bl_X11 cy A_b (A_T 0) r_b_army r_b_war r_b_draftArmy r_b_draftWar r_b_reader r_b_armyReader r_b_warReader r_b_markedArmies r_b_markedWars r_b_latest r_b_trial r_b_foresight r_b_pairs z_719.2 b_fractionTop b_fractionBottom b_marks, [(A_T 0, .inl (cy 4, 4, .inr (.inr (.inr (.inr (trf4 (A_y0 0) (A_y1 0) (A_y2 0) (A_y3 0)))))))], bl_X8 cy A_y0 y0_row y0_missing y0_sort y0_many, bl_X8 cy A_y1 y1_row y1_missing y1_sort y1_many, bl_X8 cy A_y2 y2_row y2_missing y2_sort y2_many, bl_X8 cy A_y3 y3_row y3_missing y3_sort y3_many] H := hP
            obtain ⟨b_720, e_b_720, h⟩ := bi h
            obtain ⟨-, n_b_720, -⟩ := bz_ok e_b_720
            cases h
            subst hW1
            exact W.zret hx hb hr n_b_720 (fun _ ht9 _ => ⟨⟨_, (), rfl, rfl, hPt ht9 hP.1⟩, hS.F ht9⟩) hS.2.2 dX11_pour_43
    have h := ie c_691 h
    by_cases c_721 : x3 = 3
    · have h := it c_721 h
      refine roVq (rest := []) ⟨hx, hb, hml, hown, ht⟩ (c_X11_trayAt l D cy fu A_b r_b_army r_b_war r_b_draftArmy r_b_draftWar r_b_reader r_b_armyReader r_b_warReader r_b_markedArmies r_b_markedWars r_b_latest r_b_trial r_b_foresight r_b_pairs b_latestStatus b_fractionTop b_fractionBottom b_marks A_T (trf4 (A_y0 0) (A_y1 0) (A_y2 0) (A_y3 0)) x3 (some (A_y3 0)) (tray_3 c_721)) (cV ht mv_X11_trayAt tb_500 rfl rfl ⟨Nat.le_of_ble_eq_true rfl, Nat.le_of_ble_eq_true rfl⟩) (P_sub hP.1 [0, 1] rfl) hX rfl rfl rfl hl.1 rfl (Nat.le_of_ble_eq_true rfl) dX11_pour_9 ⟨Nat.le_of_ble_eq_true rfl, Nat.le_of_ble_eq_true rfl⟩ ?_
      refine lv_astore (lv' := [(7, .ref (A_y3 0)), (6, .ref (A_y1 0)), (0, .ref (A_b 0)), (1, .int x1), (2, .int x2), (3, .int x3), (4, .int x4), (5, .int x5)]) hx hb dX11_pour_12 hl (by decide) rfl (fun ls hl => ?_)
      refine lv_aload hx hb dX11_pour_14 (lv_at hl 1 rfl) ?_
      refine lv_ifnull hx hb dX11_pour_16 ?_
      refine lv_aload hx hb dX11_pour_19 (lv_at hl 0 rfl) ?_
      refine lv_ifnull hx hb dX11_pour_21 ?_
      refine lv_iload_n hx hb dX11_pour_24 rfl (lv_at hl 4 rfl) ?_
      refine lv_if_lt (tgt := 38) hx hb dX11_pour_25 (by decide) (fun c_722 => ?_) (fun c_722 => ?_)
      · have h := it c_722 h
        refine lv_aload_n hx hb dX11_pour_38 rfl (lv_at hl 2 rfl) ?_
        refine lv_iconst (v := 1) hx hb dX11_pour_39 (by decide) ?_
        obtain ⟨z_723, e_z_723, h⟩ := bi h
        refine efVi (rest := []) ⟨hx, hb, hml, hown, ht⟩ (c_X11_deny l D cy fu A_b (A_T 0) r_b_army r_b_war r_b_draftArmy r_b_draftWar r_b_reader r_b_armyReader r_b_warReader r_b_markedArmies r_b_markedWars r_b_latest r_b_trial r_b_foresight r_b_pairs b_latestStatus b_fractionTop b_fractionBottom b_marks 1 z_723 e_z_723 _ rfl _ rfl) (cV ht mv_X11_deny tb_507 rfl rfl ⟨Nat.le_of_ble_eq_true rfl, Nat.le_of_ble_eq_true rfl⟩) hP hS hX [0] rfl rfl rfl rfl rfl rfl hl.1 rfl (Nat.le_of_ble_eq_true rfl) dX11_pour_40 ⟨Nat.le_of_ble_eq_true rfl, Nat.le_of_ble_eq_true rfl⟩ (fun H locs hP hS => ?_)
        have hP : PD D A [bl_X11 cy A_b (A_T 0) r_b_army r_b_war r_b_draftArmy r_b_draftWar r_b_reader r_b_armyReader r_b_warReader r_b_markedArmies r_b_markedWars r_b_latest r_b_trial r_b_foresight r_b_pairs z_723.2 b_fractionTop b_fractionBottom b_marks, [(A_T 0, .inl (cy 4, 4, .inr (.inr (.inr (.inr (trf4 (A_y0 0) (A_y1 0) (A_y2 0) (A_y3 0)))))))], bl_X8 cy A_y0 y0_row y0_missing y0_sort y0_many, bl_X8 cy A_y1 y1_row y1_missing y1_sort y1_many, bl_X8 cy A_y2 y2_row y2_missing y2_sort y2_many, bl_X8 cy A_y3 y3_row y3_missing y3_sort y3_many] H := hP
        obtain ⟨b_724, e_b_724, h⟩ := bi h
        obtain ⟨-, n_b_724, -⟩ := bz_ok e_b_724
        cases h
        subst hW1
        exact W.zret hx hb hr n_b_724 (fun _ ht9 _ => ⟨⟨_, (), rfl, rfl, hPt ht9 hP.1⟩, hS.F ht9⟩) hS.2.2 dX11_pour_43
      · have h := ie c_722 h
        refine lv_iload hx hb dX11_pour_28 (lv_at hl 6 rfl) ?_
        refine lv_if_lt (tgt := 38) hx hb dX11_pour_30 (by decide) (fun c_725 => ?_) (fun c_725 => ?_)
        · have h := it c_725 h
          refine lv_aload_n hx hb dX11_pour_38 rfl (lv_at hl 2 rfl) ?_
          refine lv_iconst (v := 1) hx hb dX11_pour_39 (by decide) ?_
          obtain ⟨z_726, e_z_726, h⟩ := bi h
          refine efVi (rest := []) ⟨hx, hb, hml, hown, ht⟩ (c_X11_deny l D cy fu A_b (A_T 0) r_b_army r_b_war r_b_draftArmy r_b_draftWar r_b_reader r_b_armyReader r_b_warReader r_b_markedArmies r_b_markedWars r_b_latest r_b_trial r_b_foresight r_b_pairs b_latestStatus b_fractionTop b_fractionBottom b_marks 1 z_726 e_z_726 _ rfl _ rfl) (cV ht mv_X11_deny tb_507 rfl rfl ⟨Nat.le_of_ble_eq_true rfl, Nat.le_of_ble_eq_true rfl⟩) hP hS hX [0] rfl rfl rfl rfl rfl rfl hl.1 rfl (Nat.le_of_ble_eq_true rfl) dX11_pour_40 ⟨Nat.le_of_ble_eq_true rfl, Nat.le_of_ble_eq_true rfl⟩ (fun H locs hP hS => ?_)
          have hP : PD D A [bl_X11 cy A_b (A_T 0) r_b_army r_b_war r_b_draftArmy r_b_draftWar r_b_reader r_b_armyReader r_b_warReader r_b_markedArmies r_b_markedWars r_b_latest r_b_trial r_b_foresight r_b_pairs z_726.2 b_fractionTop b_fractionBottom b_marks, [(A_T 0, .inl (cy 4, 4, .inr (.inr (.inr (.inr (trf4 (A_y0 0) (A_y1 0) (A_y2 0) (A_y3 0)))))))], bl_X8 cy A_y0 y0_row y0_missing y0_sort y0_many, bl_X8 cy A_y1 y1_row y1_missing y1_sort y1_many, bl_X8 cy A_y2 y2_row y2_missing y2_sort y2_many, bl_X8 cy A_y3 y3_row y3_missing y3_sort y3_many] H := hP
          obtain ⟨b_727, e_b_727, h⟩ := bi h
          obtain ⟨-, n_b_727, -⟩ := bz_ok e_b_727
          cases h
          subst hW1
          exact W.zret hx hb hr n_b_727 (fun _ ht9 _ => ⟨⟨_, (), rfl, rfl, hPt ht9 hP.1⟩, hS.F ht9⟩) hS.2.2 dX11_pour_43
        · have h := ie c_725 h
          refine lv_iload hx hb dX11_pour_33 (lv_at hl 7 rfl) ?_
          refine lv_if_ge (tgt := 44) hx hb dX11_pour_35 (by decide) (fun c_728 => ?_) (fun c_728 => ?_)
          · have h := it c_728 h
            refine lv_aload hx hb dX11_pour_44 (lv_at hl 1 rfl) ?_
            refine xget (i := 3) (j := 0) (k := 1) (T := TX8) hx hb ht tb_iX8 hown hX hP.1 rfl rfl rfl (by decide) tb_416 rfl dX11_pour_46 ?_
            refine lv_if_ne (tgt := 60) hx hb dX11_pour_49 (by decide) (fun c_729 => ?_) (fun c_729 => ?_)
            · have h := ie c_729 h
              refine lv_aload_n hx hb dX11_pour_60 rfl (lv_at hl 2 rfl) ?_
              refine lv_iconst (v := 2) hx hb dX11_pour_61 (by decide) ?_
              obtain ⟨z_730, e_z_730, h⟩ := bi h
              refine efVi (rest := []) ⟨hx, hb, hml, hown, ht⟩ (c_X11_deny l D cy fu A_b (A_T 0) r_b_army r_b_war r_b_draftArmy r_b_draftWar r_b_reader r_b_armyReader r_b_warReader r_b_markedArmies r_b_markedWars r_b_latest r_b_trial r_b_foresight r_b_pairs b_latestStatus b_fractionTop b_fractionBottom b_marks 2 z_730 e_z_730 _ rfl _ rfl) (cV ht mv_X11_deny tb_507 rfl rfl ⟨Nat.le_of_ble_eq_true rfl, Nat.le_of_ble_eq_true rfl⟩) hP hS hX [0] rfl rfl rfl rfl rfl rfl hl.1 rfl (Nat.le_of_ble_eq_true rfl) dX11_pour_62 ⟨Nat.le_of_ble_eq_true rfl, Nat.le_of_ble_eq_true rfl⟩ (fun H locs hP hS => ?_)
              have hP : PD D A [bl_X11 cy A_b (A_T 0) r_b_army r_b_war r_b_draftArmy r_b_draftWar r_b_reader r_b_armyReader r_b_warReader r_b_markedArmies r_b_markedWars r_b_latest r_b_trial r_b_foresight r_b_pairs z_730.2 b_fractionTop b_fractionBottom b_marks, [(A_T 0, .inl (cy 4, 4, .inr (.inr (.inr (.inr (trf4 (A_y0 0) (A_y1 0) (A_y2 0) (A_y3 0)))))))], bl_X8 cy A_y0 y0_row y0_missing y0_sort y0_many, bl_X8 cy A_y1 y1_row y1_missing y1_sort y1_many, bl_X8 cy A_y2 y2_row y2_missing y2_sort y2_many, bl_X8 cy A_y3 y3_row y3_missing y3_sort y3_many] H := hP
              obtain ⟨b_731, e_b_731, h⟩ := bi h
              obtain ⟨-, n_b_731, -⟩ := bz_ok e_b_731
              cases h
              subst hW1
              exact W.zret hx hb hr n_b_731 (fun _ ht9 _ => ⟨⟨_, (), rfl, rfl, hPt ht9 hP.1⟩, hS.F ht9⟩) hS.2.2 dX11_pour_65
            · have h := it c_729 h
              refine lv_aload hx hb dX11_pour_52 (lv_at hl 0 rfl) ?_
              refine xget (i := 5) (j := 0) (k := 1) (T := TX8) hx hb ht tb_iX8 hown hX hP.1 rfl rfl rfl (by decide) tb_416 rfl dX11_pour_54 ?_
              refine lv_if_eq (tgt := 66) hx hb dX11_pour_57 (by decide) (fun c_732 => ?_) (fun c_732 => ?_)
              · have h := it c_732 h
                refine lv_aload hx hb dX11_pour_66 (lv_at hl 1 rfl) ?_
                refine xget (i := 3) (j := 0) (k := 2) (T := TX8) hx hb ht tb_iX8 hown hX hP.1 rfl rfl rfl (by decide) tb_418 rfl dX11_pour_68 ?_
                refine lv_aload hx hb dX11_pour_71 (lv_at hl 0 rfl) ?_
                refine xget (i := 5) (j := 0) (k := 2) (T := TX8) hx hb ht tb_iX8 hown hX hP.1 rfl rfl rfl (by decide) tb_418 rfl dX11_pour_73 ?_
                refine lv_icmp_eq (tgt := 86) hx hb dX11_pour_76 (by decide) (fun c_733 => ?_) (fun c_733 => ?_)
                · have h := it c_733 h
                  refine lv_aload hx hb dX11_pour_86 (lv_at hl 1 rfl) ?_
                  refine lv_iload_n hx hb dX11_pour_88 rfl (lv_at hl 4 rfl) ?_
                  refine lv_iload hx hb dX11_pour_89 (lv_at hl 7 rfl) ?_
                  obtain ⟨z_734, e_z_734, h⟩ := bi h
                  refine roVi (rest := []) ⟨hx, hb, hml, hown, ht⟩ (c_X8_hasPlaces l D cy fu A_y1 y1_row y1_missing y1_sort y1_many x2 x5 z_734 e_z_734) (cV ht mv_X8_hasPlaces tb_526 rfl rfl ⟨Nat.le_of_ble_eq_true rfl, Nat.le_of_ble_eq_true rfl⟩) (P_sub hP.1 [3] rfl) hX rfl rfl rfl hl.1 rfl (Nat.le_of_ble_eq_true rfl) dX11_pour_91 ⟨Nat.le_of_ble_eq_true rfl, Nat.le_of_ble_eq_true rfl⟩ ?_
                  refine lv_if_eq (tgt := 109) hx hb dX11_pour_94 (by decide) (fun c_735 => ?_) (fun c_735 => ?_)
                  · have h := it c_735 h
                    refine lv_aload_n hx hb dX11_pour_109 rfl (lv_at hl 2 rfl) ?_
                    refine lv_iconst (v := 3) hx hb dX11_pour_110 (by decide) ?_
                    obtain ⟨z_736, e_z_736, h⟩ := bi h
                    refine efVi (rest := []) ⟨hx, hb, hml, hown, ht⟩ (c_X11_deny l D cy fu A_b (A_T 0) r_b_army r_b_war r_b_draftArmy r_b_draftWar r_b_reader r_b_armyReader r_b_warReader r_b_markedArmies r_b_markedWars r_b_latest r_b_trial r_b_foresight r_b_pairs b_latestStatus b_fractionTop b_fractionBottom b_marks 3 z_736 e_z_736 _ rfl _ rfl) (cV ht mv_X11_deny tb_507 rfl rfl ⟨Nat.le_of_ble_eq_true rfl, Nat.le_of_ble_eq_true rfl⟩) hP hS hX [0] rfl rfl rfl rfl rfl rfl hl.1 rfl (Nat.le_of_ble_eq_true rfl) dX11_pour_111 ⟨Nat.le_of_ble_eq_true rfl, Nat.le_of_ble_eq_true rfl⟩ (fun H locs hP hS => ?_)
                    have hP : PD D A [bl_X11 cy A_b (A_T 0) r_b_army r_b_war r_b_draftArmy r_b_draftWar r_b_reader r_b_armyReader r_b_warReader r_b_markedArmies r_b_markedWars r_b_latest r_b_trial r_b_foresight r_b_pairs z_736.2 b_fractionTop b_fractionBottom b_marks, [(A_T 0, .inl (cy 4, 4, .inr (.inr (.inr (.inr (trf4 (A_y0 0) (A_y1 0) (A_y2 0) (A_y3 0)))))))], bl_X8 cy A_y0 y0_row y0_missing y0_sort y0_many, bl_X8 cy A_y1 y1_row y1_missing y1_sort y1_many, bl_X8 cy A_y2 y2_row y2_missing y2_sort y2_many, bl_X8 cy A_y3 y3_row y3_missing y3_sort y3_many] H := hP
                    obtain ⟨b_737, e_b_737, h⟩ := bi h
                    obtain ⟨-, n_b_737, -⟩ := bz_ok e_b_737
                    cases h
                    subst hW1
                    exact W.zret hx hb hr n_b_737 (fun _ ht9 _ => ⟨⟨_, (), rfl, rfl, hPt ht9 hP.1⟩, hS.F ht9⟩) hS.2.2 dX11_pour_114
                  · have h := ie c_735 h
                    refine lv_aload hx hb dX11_pour_97 (lv_at hl 0 rfl) ?_
                    refine lv_iload hx hb dX11_pour_99 (lv_at hl 6 rfl) ?_
                    refine lv_iload hx hb dX11_pour_101 (lv_at hl 7 rfl) ?_
                    obtain ⟨z_738, e_z_738, h⟩ := bi h
                    refine roVi (rest := []) ⟨hx, hb, hml, hown, ht⟩ (c_X8_hasPlaces l D cy fu A_y3 y3_row y3_missing y3_sort y3_many x4 x5 z_738 e_z_738) (cV ht mv_X8_hasPlaces tb_526 rfl rfl ⟨Nat.le_of_ble_eq_true rfl, Nat.le_of_ble_eq_true rfl⟩) (P_sub hP.1 [5] rfl) hX rfl rfl rfl hl.1 rfl (Nat.le_of_ble_eq_true rfl) dX11_pour_103 ⟨Nat.le_of_ble_eq_true rfl, Nat.le_of_ble_eq_true rfl⟩ ?_
                    refine lv_if_ne (tgt := 115) hx hb dX11_pour_106 (by decide) (fun c_739 => ?_) (fun c_739 => ?_)
                    · have h := ie c_739 h
                      refine lv_aload hx hb dX11_pour_115 (lv_at hl 1 rfl) ?_
                      refine xget (i := 3) (j := 0) (k := 0) (T := TX8) hx hb ht tb_iX8 hown hX hP.1 rfl rfl rfl (by decide) tb_414 rfl dX11_pour_117 ?_
                      refine lv_iload_n hx hb dX11_pour_120 rfl (lv_at hl 4 rfl) ?_
                      refine lv_aload hx hb dX11_pour_121 (lv_at hl 0 rfl) ?_
                      refine xget (i := 5) (j := 0) (k := 0) (T := TX8) hx hb ht tb_iX8 hown hX hP.1 rfl rfl rfl (by decide) tb_414 rfl dX11_pour_123 ?_
                      refine lv_iload hx hb dX11_pour_126 (lv_at hl 6 rfl) ?_
                      refine lv_iload hx hb dX11_pour_128 (lv_at hl 7 rfl) ?_
                      obtain ⟨y3_row_740, e_y3_row_740, h⟩ := bi h
                      refine xcpJ (i0 := 3) (j0 := 1) (i1 := 5) (j1 := 1) hx hb (hml.trans hl.1.symm) hown (ht _ tb_555) (ht _ tb_557) (ht _ tb_556) (ht _ tb_18) hX hP hS rfl rfl rfl rfl e_y3_row_740 (Nat.le_of_ble_eq_true rfl) (Nat.le_of_ble_eq_true rfl) dX11_pour_130 (fun H locs hP hS => ?_)
                      have hP : PD D A [bl_X11 cy A_b (A_T 0) r_b_army r_b_war r_b_draftArmy r_b_draftWar r_b_reader r_b_armyReader r_b_warReader r_b_markedArmies r_b_markedWars r_b_latest r_b_trial r_b_foresight r_b_pairs b_latestStatus b_fractionTop b_fractionBottom b_marks, [(A_T 0, .inl (cy 4, 4, .inr (.inr (.inr (.inr (trf4 (A_y0 0) (A_y1 0) (A_y2 0) (A_y3 0)))))))], bl_X8 cy A_y0 y0_row y0_missing y0_sort y0_many, bl_X8 cy A_y1 y1_row y1_missing y1_sort y1_many, bl_X8 cy A_y2 y2_row y2_missing y2_sort y2_many, bl_X8 cy A_y3 y3_row_740 y3_missing y3_sort y3_many] H := hP
                      refine lv_aload_n hx hb dX11_pour_133 rfl (lv_at hl 2 rfl) ?_
                      obtain ⟨z_741, e_z_741, h⟩ := bi h
                      refine efVi (rest := []) ⟨hx, hb, hml, hown, ht⟩ (c_X11_allow l D cy fu A_b (A_T 0) r_b_army r_b_war r_b_draftArmy r_b_draftWar r_b_reader r_b_armyReader r_b_warReader r_b_markedArmies r_b_markedWars r_b_latest r_b_trial r_b_foresight r_b_pairs b_latestStatus b_fractionTop b_fractionBottom b_marks z_741 e_z_741 _ rfl _ rfl) (cV ht mv_X11_allow tb_518 rfl rfl ⟨Nat.le_of_ble_eq_true rfl, Nat.le_of_ble_eq_true rfl⟩) hP hS hX [0] rfl rfl rfl rfl rfl rfl hl.1 rfl (Nat.le_of_ble_eq_true rfl) dX11_pour_134 ⟨Nat.le_of_ble_eq_true rfl, Nat.le_of_ble_eq_true rfl⟩ (fun H locs hP hS => ?_)
                      have hP : PD D A [bl_X11 cy A_b (A_T 0) r_b_army r_b_war r_b_draftArmy r_b_draftWar r_b_reader r_b_armyReader r_b_warReader r_b_markedArmies r_b_markedWars r_b_latest r_b_trial r_b_foresight r_b_pairs z_741.2 b_fractionTop b_fractionBottom b_marks, [(A_T 0, .inl (cy 4, 4, .inr (.inr (.inr (.inr (trf4 (A_y0 0) (A_y1 0) (A_y2 0) (A_y3 0)))))))], bl_X8 cy A_y0 y0_row y0_missing y0_sort y0_many, bl_X8 cy A_y1 y1_row y1_missing y1_sort y1_many, bl_X8 cy A_y2 y2_row y2_missing y2_sort y2_many, bl_X8 cy A_y3 y3_row_740 y3_missing y3_sort y3_many] H := hP
                      obtain ⟨b_742, e_b_742, h⟩ := bi h
                      obtain ⟨-, n_b_742, -⟩ := bz_ok e_b_742
                      cases h
                      subst hW1
                      exact W.zret hx hb hr n_b_742 (fun _ ht9 _ => ⟨⟨_, (), rfl, rfl, hPt ht9 hP.1⟩, hS.F ht9⟩) hS.2.2 dX11_pour_137
                    · have h := it c_739 h
                      refine lv_aload_n hx hb dX11_pour_109 rfl (lv_at hl 2 rfl) ?_
                      refine lv_iconst (v := 3) hx hb dX11_pour_110 (by decide) ?_
                      obtain ⟨z_743, e_z_743, h⟩ := bi h
                      refine efVi (rest := []) ⟨hx, hb, hml, hown, ht⟩ (c_X11_deny l D cy fu A_b (A_T 0) r_b_army r_b_war r_b_draftArmy r_b_draftWar r_b_reader r_b_armyReader r_b_warReader r_b_markedArmies r_b_markedWars r_b_latest r_b_trial r_b_foresight r_b_pairs b_latestStatus b_fractionTop b_fractionBottom b_marks 3 z_743 e_z_743 _ rfl _ rfl) (cV ht mv_X11_deny tb_507 rfl rfl ⟨Nat.le_of_ble_eq_true rfl, Nat.le_of_ble_eq_true rfl⟩) hP hS hX [0] rfl rfl rfl rfl rfl rfl hl.1 rfl (Nat.le_of_ble_eq_true rfl) dX11_pour_111 ⟨Nat.le_of_ble_eq_true rfl, Nat.le_of_ble_eq_true rfl⟩ (fun H locs hP hS => ?_)
                      have hP : PD D A [bl_X11 cy A_b (A_T 0) r_b_army r_b_war r_b_draftArmy r_b_draftWar r_b_reader r_b_armyReader r_b_warReader r_b_markedArmies r_b_markedWars r_b_latest r_b_trial r_b_foresight r_b_pairs z_743.2 b_fractionTop b_fractionBottom b_marks, [(A_T 0, .inl (cy 4, 4, .inr (.inr (.inr (.inr (trf4 (A_y0 0) (A_y1 0) (A_y2 0) (A_y3 0)))))))], bl_X8 cy A_y0 y0_row y0_missing y0_sort y0_many, bl_X8 cy A_y1 y1_row y1_missing y1_sort y1_many, bl_X8 cy A_y2 y2_row y2_missing y2_sort y2_many, bl_X8 cy A_y3 y3_row y3_missing y3_sort y3_many] H := hP
                      obtain ⟨b_744, e_b_744, h⟩ := bi h
                      obtain ⟨-, n_b_744, -⟩ := bz_ok e_b_744
                      cases h
                      subst hW1
                      exact W.zret hx hb hr n_b_744 (fun _ ht9 _ => ⟨⟨_, (), rfl, rfl, hPt ht9 hP.1⟩, hS.F ht9⟩) hS.2.2 dX11_pour_114
                · have h := ie c_733 h
                  refine lv_aload_n hx hb dX11_pour_79 rfl (lv_at hl 2 rfl) ?_
                  refine lv_bipush (v := 8) hx hb dX11_pour_80 (by decide) ?_
                  obtain ⟨z_745, e_z_745, h⟩ := bi h
                  refine efVi (rest := []) ⟨hx, hb, hml, hown, ht⟩ (c_X11_deny l D cy fu A_b (A_T 0) r_b_army r_b_war r_b_draftArmy r_b_draftWar r_b_reader r_b_armyReader r_b_warReader r_b_markedArmies r_b_markedWars r_b_latest r_b_trial r_b_foresight r_b_pairs b_latestStatus b_fractionTop b_fractionBottom b_marks 8 z_745 e_z_745 _ rfl _ rfl) (cV ht mv_X11_deny tb_507 rfl rfl ⟨Nat.le_of_ble_eq_true rfl, Nat.le_of_ble_eq_true rfl⟩) hP hS hX [0] rfl rfl rfl rfl rfl rfl hl.1 rfl (Nat.le_of_ble_eq_true rfl) dX11_pour_82 ⟨Nat.le_of_ble_eq_true rfl, Nat.le_of_ble_eq_true rfl⟩ (fun H locs hP hS => ?_)
                  have hP : PD D A [bl_X11 cy A_b (A_T 0) r_b_army r_b_war r_b_draftArmy r_b_draftWar r_b_reader r_b_armyReader r_b_warReader r_b_markedArmies r_b_markedWars r_b_latest r_b_trial r_b_foresight r_b_pairs z_745.2 b_fractionTop b_fractionBottom b_marks, [(A_T 0, .inl (cy 4, 4, .inr (.inr (.inr (.inr (trf4 (A_y0 0) (A_y1 0) (A_y2 0) (A_y3 0)))))))], bl_X8 cy A_y0 y0_row y0_missing y0_sort y0_many, bl_X8 cy A_y1 y1_row y1_missing y1_sort y1_many, bl_X8 cy A_y2 y2_row y2_missing y2_sort y2_many, bl_X8 cy A_y3 y3_row y3_missing y3_sort y3_many] H := hP
                  obtain ⟨b_746, e_b_746, h⟩ := bi h
                  obtain ⟨-, n_b_746, -⟩ := bz_ok e_b_746
                  cases h
                  subst hW1
                  exact W.zret hx hb hr n_b_746 (fun _ ht9 _ => ⟨⟨_, (), rfl, rfl, hPt ht9 hP.1⟩, hS.F ht9⟩) hS.2.2 dX11_pour_85
              · have h := ie c_732 h
                refine lv_aload_n hx hb dX11_pour_60 rfl (lv_at hl 2 rfl) ?_
                refine lv_iconst (v := 2) hx hb dX11_pour_61 (by decide) ?_
                obtain ⟨z_747, e_z_747, h⟩ := bi h
                refine efVi (rest := []) ⟨hx, hb, hml, hown, ht⟩ (c_X11_deny l D cy fu A_b (A_T 0) r_b_army r_b_war r_b_draftArmy r_b_draftWar r_b_reader r_b_armyReader r_b_warReader r_b_markedArmies r_b_markedWars r_b_latest r_b_trial r_b_foresight r_b_pairs b_latestStatus b_fractionTop b_fractionBottom b_marks 2 z_747 e_z_747 _ rfl _ rfl) (cV ht mv_X11_deny tb_507 rfl rfl ⟨Nat.le_of_ble_eq_true rfl, Nat.le_of_ble_eq_true rfl⟩) hP hS hX [0] rfl rfl rfl rfl rfl rfl hl.1 rfl (Nat.le_of_ble_eq_true rfl) dX11_pour_62 ⟨Nat.le_of_ble_eq_true rfl, Nat.le_of_ble_eq_true rfl⟩ (fun H locs hP hS => ?_)
                have hP : PD D A [bl_X11 cy A_b (A_T 0) r_b_army r_b_war r_b_draftArmy r_b_draftWar r_b_reader r_b_armyReader r_b_warReader r_b_markedArmies r_b_markedWars r_b_latest r_b_trial r_b_foresight r_b_pairs z_747.2 b_fractionTop b_fractionBottom b_marks, [(A_T 0, .inl (cy 4, 4, .inr (.inr (.inr (.inr (trf4 (A_y0 0) (A_y1 0) (A_y2 0) (A_y3 0)))))))], bl_X8 cy A_y0 y0_row y0_missing y0_sort y0_many, bl_X8 cy A_y1 y1_row y1_missing y1_sort y1_many, bl_X8 cy A_y2 y2_row y2_missing y2_sort y2_many, bl_X8 cy A_y3 y3_row y3_missing y3_sort y3_many] H := hP
                obtain ⟨b_748, e_b_748, h⟩ := bi h
                obtain ⟨-, n_b_748, -⟩ := bz_ok e_b_748
                cases h
                subst hW1
                exact W.zret hx hb hr n_b_748 (fun _ ht9 _ => ⟨⟨_, (), rfl, rfl, hPt ht9 hP.1⟩, hS.F ht9⟩) hS.2.2 dX11_pour_65
          · have h := ie c_728 h
            refine lv_aload_n hx hb dX11_pour_38 rfl (lv_at hl 2 rfl) ?_
            refine lv_iconst (v := 1) hx hb dX11_pour_39 (by decide) ?_
            obtain ⟨z_749, e_z_749, h⟩ := bi h
            refine efVi (rest := []) ⟨hx, hb, hml, hown, ht⟩ (c_X11_deny l D cy fu A_b (A_T 0) r_b_army r_b_war r_b_draftArmy r_b_draftWar r_b_reader r_b_armyReader r_b_warReader r_b_markedArmies r_b_markedWars r_b_latest r_b_trial r_b_foresight r_b_pairs b_latestStatus b_fractionTop b_fractionBottom b_marks 1 z_749 e_z_749 _ rfl _ rfl) (cV ht mv_X11_deny tb_507 rfl rfl ⟨Nat.le_of_ble_eq_true rfl, Nat.le_of_ble_eq_true rfl⟩) hP hS hX [0] rfl rfl rfl rfl rfl rfl hl.1 rfl (Nat.le_of_ble_eq_true rfl) dX11_pour_40 ⟨Nat.le_of_ble_eq_true rfl, Nat.le_of_ble_eq_true rfl⟩ (fun H locs hP hS => ?_)
            have hP : PD D A [bl_X11 cy A_b (A_T 0) r_b_army r_b_war r_b_draftArmy r_b_draftWar r_b_reader r_b_armyReader r_b_warReader r_b_markedArmies r_b_markedWars r_b_latest r_b_trial r_b_foresight r_b_pairs z_749.2 b_fractionTop b_fractionBottom b_marks, [(A_T 0, .inl (cy 4, 4, .inr (.inr (.inr (.inr (trf4 (A_y0 0) (A_y1 0) (A_y2 0) (A_y3 0)))))))], bl_X8 cy A_y0 y0_row y0_missing y0_sort y0_many, bl_X8 cy A_y1 y1_row y1_missing y1_sort y1_many, bl_X8 cy A_y2 y2_row y2_missing y2_sort y2_many, bl_X8 cy A_y3 y3_row y3_missing y3_sort y3_many] H := hP
            obtain ⟨b_750, e_b_750, h⟩ := bi h
            obtain ⟨-, n_b_750, -⟩ := bz_ok e_b_750
            cases h
            subst hW1
            exact W.zret hx hb hr n_b_750 (fun _ ht9 _ => ⟨⟨_, (), rfl, rfl, hPt ht9 hP.1⟩, hS.F ht9⟩) hS.2.2 dX11_pour_43
    have h := ie c_721 h
    refine roVq (rest := []) ⟨hx, hb, hml, hown, ht⟩ (c_X11_trayAt l D cy fu A_b r_b_army r_b_war r_b_draftArmy r_b_draftWar r_b_reader r_b_armyReader r_b_warReader r_b_markedArmies r_b_markedWars r_b_latest r_b_trial r_b_foresight r_b_pairs b_latestStatus b_fractionTop b_fractionBottom b_marks A_T (trf4 (A_y0 0) (A_y1 0) (A_y2 0) (A_y3 0)) x3 (none) (tray_out ⟨c_631, c_661, c_691, c_721⟩)) (cV ht mv_X11_trayAt tb_500 rfl rfl ⟨Nat.le_of_ble_eq_true rfl, Nat.le_of_ble_eq_true rfl⟩) (P_sub hP.1 [0, 1] rfl) hX rfl rfl rfl hl.1 rfl (Nat.le_of_ble_eq_true rfl) dX11_pour_9 ⟨Nat.le_of_ble_eq_true rfl, Nat.le_of_ble_eq_true rfl⟩ ?_
    refine lv_astoreN (lv' := [(7, .null), (6, .ref (A_y1 0)), (0, .ref (A_b 0)), (1, .int x1), (2, .int x2), (3, .int x3), (4, .int x4), (5, .int x5)]) hx hb dX11_pour_12 hl (by decide) rfl (fun ls hl => ?_)
    refine lv_aload hx hb dX11_pour_14 (lv_at hl 1 rfl) ?_
    refine lv_ifnull hx hb dX11_pour_16 ?_
    refine lv_aloadN hx hb dX11_pour_19 (lv_at hl 0 rfl) ?_
    refine lv_ifnullN (tgt := 38) hx hb dX11_pour_21 (by decide) ?_
    refine lv_aload_n hx hb dX11_pour_38 rfl (lv_at hl 2 rfl) ?_
    refine lv_iconst (v := 1) hx hb dX11_pour_39 (by decide) ?_
    obtain ⟨z_751, e_z_751, h⟩ := bi h
    refine efVi (rest := []) ⟨hx, hb, hml, hown, ht⟩ (c_X11_deny l D cy fu A_b (A_T 0) r_b_army r_b_war r_b_draftArmy r_b_draftWar r_b_reader r_b_armyReader r_b_warReader r_b_markedArmies r_b_markedWars r_b_latest r_b_trial r_b_foresight r_b_pairs b_latestStatus b_fractionTop b_fractionBottom b_marks 1 z_751 e_z_751 _ rfl _ rfl) (cV ht mv_X11_deny tb_507 rfl rfl ⟨Nat.le_of_ble_eq_true rfl, Nat.le_of_ble_eq_true rfl⟩) hP hS hX [0] rfl rfl rfl rfl rfl rfl hl.1 rfl (Nat.le_of_ble_eq_true rfl) dX11_pour_40 ⟨Nat.le_of_ble_eq_true rfl, Nat.le_of_ble_eq_true rfl⟩ (fun H locs hP hS => ?_)
    have hP : PD D A [bl_X11 cy A_b (A_T 0) r_b_army r_b_war r_b_draftArmy r_b_draftWar r_b_reader r_b_armyReader r_b_warReader r_b_markedArmies r_b_markedWars r_b_latest r_b_trial r_b_foresight r_b_pairs z_751.2 b_fractionTop b_fractionBottom b_marks, [(A_T 0, .inl (cy 4, 4, .inr (.inr (.inr (.inr (trf4 (A_y0 0) (A_y1 0) (A_y2 0) (A_y3 0)))))))], bl_X8 cy A_y0 y0_row y0_missing y0_sort y0_many, bl_X8 cy A_y1 y1_row y1_missing y1_sort y1_many, bl_X8 cy A_y2 y2_row y2_missing y2_sort y2_many, bl_X8 cy A_y3 y3_row y3_missing y3_sort y3_many] H := hP
    obtain ⟨b_752, e_b_752, h⟩ := bi h
    obtain ⟨-, n_b_752, -⟩ := bz_ok e_b_752
    cases h
    subst hW1
    exact W.zret hx hb hr n_b_752 (fun _ ht9 _ => ⟨⟨_, (), rfl, rfl, hPt ht9 hP.1⟩, hS.F ht9⟩) hS.2.2 dX11_pour_43
  have h := ie c_630 h
  by_cases c_753 : x1 = 2
  · have h := it c_753 h
    refine roVq (rest := []) ⟨hx, hb, hml, hown, ht⟩ (c_X11_trayAt l D cy fu A_b r_b_army r_b_war r_b_draftArmy r_b_draftWar r_b_reader r_b_armyReader r_b_warReader r_b_markedArmies r_b_markedWars r_b_latest r_b_trial r_b_foresight r_b_pairs b_latestStatus b_fractionTop b_fractionBottom b_marks A_T (trf4 (A_y0 0) (A_y1 0) (A_y2 0) (A_y3 0)) x1 (some (A_y2 0)) (tray_2 c_753)) (cV ht mv_X11_trayAt tb_500 rfl rfl ⟨Nat.le_of_ble_eq_true rfl, Nat.le_of_ble_eq_true rfl⟩) (P_sub hP.1 [0, 1] rfl) hX rfl rfl rfl hl.1 rfl (Nat.le_of_ble_eq_true rfl) dX11_pour_2 ⟨Nat.le_of_ble_eq_true rfl, Nat.le_of_ble_eq_true rfl⟩ ?_
    refine lv_astore (lv' := [(6, .ref (A_y2 0)), (0, .ref (A_b 0)), (1, .int x1), (2, .int x2), (3, .int x3), (4, .int x4), (5, .int x5)]) hx hb dX11_pour_5 hl (by decide) rfl (fun ls hl => ?_)
    refine lv_aload_n hx hb dX11_pour_7 rfl (lv_at hl 1 rfl) ?_
    refine lv_iload_n hx hb dX11_pour_8 rfl (lv_at hl 4 rfl) ?_
    by_cases c_754 : x3 = 0
    · have h := it c_754 h
      refine roVq (rest := []) ⟨hx, hb, hml, hown, ht⟩ (c_X11_trayAt l D cy fu A_b r_b_army r_b_war r_b_draftArmy r_b_draftWar r_b_reader r_b_armyReader r_b_warReader r_b_markedArmies r_b_markedWars r_b_latest r_b_trial r_b_foresight r_b_pairs b_latestStatus b_fractionTop b_fractionBottom b_marks A_T (trf4 (A_y0 0) (A_y1 0) (A_y2 0) (A_y3 0)) x3 (some (A_y0 0)) (tray_0 c_754)) (cV ht mv_X11_trayAt tb_500 rfl rfl ⟨Nat.le_of_ble_eq_true rfl, Nat.le_of_ble_eq_true rfl⟩) (P_sub hP.1 [0, 1] rfl) hX rfl rfl rfl hl.1 rfl (Nat.le_of_ble_eq_true rfl) dX11_pour_9 ⟨Nat.le_of_ble_eq_true rfl, Nat.le_of_ble_eq_true rfl⟩ ?_
      refine lv_astore (lv' := [(7, .ref (A_y0 0)), (6, .ref (A_y2 0)), (0, .ref (A_b 0)), (1, .int x1), (2, .int x2), (3, .int x3), (4, .int x4), (5, .int x5)]) hx hb dX11_pour_12 hl (by decide) rfl (fun ls hl => ?_)
      refine lv_aload hx hb dX11_pour_14 (lv_at hl 1 rfl) ?_
      refine lv_ifnull hx hb dX11_pour_16 ?_
      refine lv_aload hx hb dX11_pour_19 (lv_at hl 0 rfl) ?_
      refine lv_ifnull hx hb dX11_pour_21 ?_
      refine lv_iload_n hx hb dX11_pour_24 rfl (lv_at hl 4 rfl) ?_
      refine lv_if_lt (tgt := 38) hx hb dX11_pour_25 (by decide) (fun c_755 => ?_) (fun c_755 => ?_)
      · have h := it c_755 h
        refine lv_aload_n hx hb dX11_pour_38 rfl (lv_at hl 2 rfl) ?_
        refine lv_iconst (v := 1) hx hb dX11_pour_39 (by decide) ?_
        obtain ⟨z_756, e_z_756, h⟩ := bi h
        refine efVi (rest := []) ⟨hx, hb, hml, hown, ht⟩ (c_X11_deny l D cy fu A_b (A_T 0) r_b_army r_b_war r_b_draftArmy r_b_draftWar r_b_reader r_b_armyReader r_b_warReader r_b_markedArmies r_b_markedWars r_b_latest r_b_trial r_b_foresight r_b_pairs b_latestStatus b_fractionTop b_fractionBottom b_marks 1 z_756 e_z_756 _ rfl _ rfl) (cV ht mv_X11_deny tb_507 rfl rfl ⟨Nat.le_of_ble_eq_true rfl, Nat.le_of_ble_eq_true rfl⟩) hP hS hX [0] rfl rfl rfl rfl rfl rfl hl.1 rfl (Nat.le_of_ble_eq_true rfl) dX11_pour_40 ⟨Nat.le_of_ble_eq_true rfl, Nat.le_of_ble_eq_true rfl⟩ (fun H locs hP hS => ?_)
        have hP : PD D A [bl_X11 cy A_b (A_T 0) r_b_army r_b_war r_b_draftArmy r_b_draftWar r_b_reader r_b_armyReader r_b_warReader r_b_markedArmies r_b_markedWars r_b_latest r_b_trial r_b_foresight r_b_pairs z_756.2 b_fractionTop b_fractionBottom b_marks, [(A_T 0, .inl (cy 4, 4, .inr (.inr (.inr (.inr (trf4 (A_y0 0) (A_y1 0) (A_y2 0) (A_y3 0)))))))], bl_X8 cy A_y0 y0_row y0_missing y0_sort y0_many, bl_X8 cy A_y1 y1_row y1_missing y1_sort y1_many, bl_X8 cy A_y2 y2_row y2_missing y2_sort y2_many, bl_X8 cy A_y3 y3_row y3_missing y3_sort y3_many] H := hP
        obtain ⟨b_757, e_b_757, h⟩ := bi h
        obtain ⟨-, n_b_757, -⟩ := bz_ok e_b_757
        cases h
        subst hW1
        exact W.zret hx hb hr n_b_757 (fun _ ht9 _ => ⟨⟨_, (), rfl, rfl, hPt ht9 hP.1⟩, hS.F ht9⟩) hS.2.2 dX11_pour_43
      · have h := ie c_755 h
        refine lv_iload hx hb dX11_pour_28 (lv_at hl 6 rfl) ?_
        refine lv_if_lt (tgt := 38) hx hb dX11_pour_30 (by decide) (fun c_758 => ?_) (fun c_758 => ?_)
        · have h := it c_758 h
          refine lv_aload_n hx hb dX11_pour_38 rfl (lv_at hl 2 rfl) ?_
          refine lv_iconst (v := 1) hx hb dX11_pour_39 (by decide) ?_
          obtain ⟨z_759, e_z_759, h⟩ := bi h
          refine efVi (rest := []) ⟨hx, hb, hml, hown, ht⟩ (c_X11_deny l D cy fu A_b (A_T 0) r_b_army r_b_war r_b_draftArmy r_b_draftWar r_b_reader r_b_armyReader r_b_warReader r_b_markedArmies r_b_markedWars r_b_latest r_b_trial r_b_foresight r_b_pairs b_latestStatus b_fractionTop b_fractionBottom b_marks 1 z_759 e_z_759 _ rfl _ rfl) (cV ht mv_X11_deny tb_507 rfl rfl ⟨Nat.le_of_ble_eq_true rfl, Nat.le_of_ble_eq_true rfl⟩) hP hS hX [0] rfl rfl rfl rfl rfl rfl hl.1 rfl (Nat.le_of_ble_eq_true rfl) dX11_pour_40 ⟨Nat.le_of_ble_eq_true rfl, Nat.le_of_ble_eq_true rfl⟩ (fun H locs hP hS => ?_)
          have hP : PD D A [bl_X11 cy A_b (A_T 0) r_b_army r_b_war r_b_draftArmy r_b_draftWar r_b_reader r_b_armyReader r_b_warReader r_b_markedArmies r_b_markedWars r_b_latest r_b_trial r_b_foresight r_b_pairs z_759.2 b_fractionTop b_fractionBottom b_marks, [(A_T 0, .inl (cy 4, 4, .inr (.inr (.inr (.inr (trf4 (A_y0 0) (A_y1 0) (A_y2 0) (A_y3 0)))))))], bl_X8 cy A_y0 y0_row y0_missing y0_sort y0_many, bl_X8 cy A_y1 y1_row y1_missing y1_sort y1_many, bl_X8 cy A_y2 y2_row y2_missing y2_sort y2_many, bl_X8 cy A_y3 y3_row y3_missing y3_sort y3_many] H := hP
          obtain ⟨b_760, e_b_760, h⟩ := bi h
          obtain ⟨-, n_b_760, -⟩ := bz_ok e_b_760
          cases h
          subst hW1
          exact W.zret hx hb hr n_b_760 (fun _ ht9 _ => ⟨⟨_, (), rfl, rfl, hPt ht9 hP.1⟩, hS.F ht9⟩) hS.2.2 dX11_pour_43
        · have h := ie c_758 h
          refine lv_iload hx hb dX11_pour_33 (lv_at hl 7 rfl) ?_
          refine lv_if_ge (tgt := 44) hx hb dX11_pour_35 (by decide) (fun c_761 => ?_) (fun c_761 => ?_)
          · have h := it c_761 h
            refine lv_aload hx hb dX11_pour_44 (lv_at hl 1 rfl) ?_
            refine xget (i := 4) (j := 0) (k := 1) (T := TX8) hx hb ht tb_iX8 hown hX hP.1 rfl rfl rfl (by decide) tb_416 rfl dX11_pour_46 ?_
            refine lv_if_ne (tgt := 60) hx hb dX11_pour_49 (by decide) (fun c_762 => ?_) (fun c_762 => ?_)
            · have h := ie c_762 h
              refine lv_aload_n hx hb dX11_pour_60 rfl (lv_at hl 2 rfl) ?_
              refine lv_iconst (v := 2) hx hb dX11_pour_61 (by decide) ?_
              obtain ⟨z_763, e_z_763, h⟩ := bi h
              refine efVi (rest := []) ⟨hx, hb, hml, hown, ht⟩ (c_X11_deny l D cy fu A_b (A_T 0) r_b_army r_b_war r_b_draftArmy r_b_draftWar r_b_reader r_b_armyReader r_b_warReader r_b_markedArmies r_b_markedWars r_b_latest r_b_trial r_b_foresight r_b_pairs b_latestStatus b_fractionTop b_fractionBottom b_marks 2 z_763 e_z_763 _ rfl _ rfl) (cV ht mv_X11_deny tb_507 rfl rfl ⟨Nat.le_of_ble_eq_true rfl, Nat.le_of_ble_eq_true rfl⟩) hP hS hX [0] rfl rfl rfl rfl rfl rfl hl.1 rfl (Nat.le_of_ble_eq_true rfl) dX11_pour_62 ⟨Nat.le_of_ble_eq_true rfl, Nat.le_of_ble_eq_true rfl⟩ (fun H locs hP hS => ?_)
              have hP : PD D A [bl_X11 cy A_b (A_T 0) r_b_army r_b_war r_b_draftArmy r_b_draftWar r_b_reader r_b_armyReader r_b_warReader r_b_markedArmies r_b_markedWars r_b_latest r_b_trial r_b_foresight r_b_pairs z_763.2 b_fractionTop b_fractionBottom b_marks, [(A_T 0, .inl (cy 4, 4, .inr (.inr (.inr (.inr (trf4 (A_y0 0) (A_y1 0) (A_y2 0) (A_y3 0)))))))], bl_X8 cy A_y0 y0_row y0_missing y0_sort y0_many, bl_X8 cy A_y1 y1_row y1_missing y1_sort y1_many, bl_X8 cy A_y2 y2_row y2_missing y2_sort y2_many, bl_X8 cy A_y3 y3_row y3_missing y3_sort y3_many] H := hP
              obtain ⟨b_764, e_b_764, h⟩ := bi h
              obtain ⟨-, n_b_764, -⟩ := bz_ok e_b_764
              cases h
              subst hW1
              exact W.zret hx hb hr n_b_764 (fun _ ht9 _ => ⟨⟨_, (), rfl, rfl, hPt ht9 hP.1⟩, hS.F ht9⟩) hS.2.2 dX11_pour_65
            · have h := it c_762 h
              refine lv_aload hx hb dX11_pour_52 (lv_at hl 0 rfl) ?_
              refine xget (i := 2) (j := 0) (k := 1) (T := TX8) hx hb ht tb_iX8 hown hX hP.1 rfl rfl rfl (by decide) tb_416 rfl dX11_pour_54 ?_
              refine lv_if_eq (tgt := 66) hx hb dX11_pour_57 (by decide) (fun c_765 => ?_) (fun c_765 => ?_)
              · have h := it c_765 h
                refine lv_aload hx hb dX11_pour_66 (lv_at hl 1 rfl) ?_
                refine xget (i := 4) (j := 0) (k := 2) (T := TX8) hx hb ht tb_iX8 hown hX hP.1 rfl rfl rfl (by decide) tb_418 rfl dX11_pour_68 ?_
                refine lv_aload hx hb dX11_pour_71 (lv_at hl 0 rfl) ?_
                refine xget (i := 2) (j := 0) (k := 2) (T := TX8) hx hb ht tb_iX8 hown hX hP.1 rfl rfl rfl (by decide) tb_418 rfl dX11_pour_73 ?_
                refine lv_icmp_eq (tgt := 86) hx hb dX11_pour_76 (by decide) (fun c_766 => ?_) (fun c_766 => ?_)
                · have h := it c_766 h
                  refine lv_aload hx hb dX11_pour_86 (lv_at hl 1 rfl) ?_
                  refine lv_iload_n hx hb dX11_pour_88 rfl (lv_at hl 4 rfl) ?_
                  refine lv_iload hx hb dX11_pour_89 (lv_at hl 7 rfl) ?_
                  obtain ⟨z_767, e_z_767, h⟩ := bi h
                  refine roVi (rest := []) ⟨hx, hb, hml, hown, ht⟩ (c_X8_hasPlaces l D cy fu A_y2 y2_row y2_missing y2_sort y2_many x2 x5 z_767 e_z_767) (cV ht mv_X8_hasPlaces tb_526 rfl rfl ⟨Nat.le_of_ble_eq_true rfl, Nat.le_of_ble_eq_true rfl⟩) (P_sub hP.1 [4] rfl) hX rfl rfl rfl hl.1 rfl (Nat.le_of_ble_eq_true rfl) dX11_pour_91 ⟨Nat.le_of_ble_eq_true rfl, Nat.le_of_ble_eq_true rfl⟩ ?_
                  refine lv_if_eq (tgt := 109) hx hb dX11_pour_94 (by decide) (fun c_768 => ?_) (fun c_768 => ?_)
                  · have h := it c_768 h
                    refine lv_aload_n hx hb dX11_pour_109 rfl (lv_at hl 2 rfl) ?_
                    refine lv_iconst (v := 3) hx hb dX11_pour_110 (by decide) ?_
                    obtain ⟨z_769, e_z_769, h⟩ := bi h
                    refine efVi (rest := []) ⟨hx, hb, hml, hown, ht⟩ (c_X11_deny l D cy fu A_b (A_T 0) r_b_army r_b_war r_b_draftArmy r_b_draftWar r_b_reader r_b_armyReader r_b_warReader r_b_markedArmies r_b_markedWars r_b_latest r_b_trial r_b_foresight r_b_pairs b_latestStatus b_fractionTop b_fractionBottom b_marks 3 z_769 e_z_769 _ rfl _ rfl) (cV ht mv_X11_deny tb_507 rfl rfl ⟨Nat.le_of_ble_eq_true rfl, Nat.le_of_ble_eq_true rfl⟩) hP hS hX [0] rfl rfl rfl rfl rfl rfl hl.1 rfl (Nat.le_of_ble_eq_true rfl) dX11_pour_111 ⟨Nat.le_of_ble_eq_true rfl, Nat.le_of_ble_eq_true rfl⟩ (fun H locs hP hS => ?_)
                    have hP : PD D A [bl_X11 cy A_b (A_T 0) r_b_army r_b_war r_b_draftArmy r_b_draftWar r_b_reader r_b_armyReader r_b_warReader r_b_markedArmies r_b_markedWars r_b_latest r_b_trial r_b_foresight r_b_pairs z_769.2 b_fractionTop b_fractionBottom b_marks, [(A_T 0, .inl (cy 4, 4, .inr (.inr (.inr (.inr (trf4 (A_y0 0) (A_y1 0) (A_y2 0) (A_y3 0)))))))], bl_X8 cy A_y0 y0_row y0_missing y0_sort y0_many, bl_X8 cy A_y1 y1_row y1_missing y1_sort y1_many, bl_X8 cy A_y2 y2_row y2_missing y2_sort y2_many, bl_X8 cy A_y3 y3_row y3_missing y3_sort y3_many] H := hP
                    obtain ⟨b_770, e_b_770, h⟩ := bi h
                    obtain ⟨-, n_b_770, -⟩ := bz_ok e_b_770
                    cases h
                    subst hW1
                    exact W.zret hx hb hr n_b_770 (fun _ ht9 _ => ⟨⟨_, (), rfl, rfl, hPt ht9 hP.1⟩, hS.F ht9⟩) hS.2.2 dX11_pour_114
                  · have h := ie c_768 h
                    refine lv_aload hx hb dX11_pour_97 (lv_at hl 0 rfl) ?_
                    refine lv_iload hx hb dX11_pour_99 (lv_at hl 6 rfl) ?_
                    refine lv_iload hx hb dX11_pour_101 (lv_at hl 7 rfl) ?_
                    obtain ⟨z_771, e_z_771, h⟩ := bi h
                    refine roVi (rest := []) ⟨hx, hb, hml, hown, ht⟩ (c_X8_hasPlaces l D cy fu A_y0 y0_row y0_missing y0_sort y0_many x4 x5 z_771 e_z_771) (cV ht mv_X8_hasPlaces tb_526 rfl rfl ⟨Nat.le_of_ble_eq_true rfl, Nat.le_of_ble_eq_true rfl⟩) (P_sub hP.1 [2] rfl) hX rfl rfl rfl hl.1 rfl (Nat.le_of_ble_eq_true rfl) dX11_pour_103 ⟨Nat.le_of_ble_eq_true rfl, Nat.le_of_ble_eq_true rfl⟩ ?_
                    refine lv_if_ne (tgt := 115) hx hb dX11_pour_106 (by decide) (fun c_772 => ?_) (fun c_772 => ?_)
                    · have h := ie c_772 h
                      refine lv_aload hx hb dX11_pour_115 (lv_at hl 1 rfl) ?_
                      refine xget (i := 4) (j := 0) (k := 0) (T := TX8) hx hb ht tb_iX8 hown hX hP.1 rfl rfl rfl (by decide) tb_414 rfl dX11_pour_117 ?_
                      refine lv_iload_n hx hb dX11_pour_120 rfl (lv_at hl 4 rfl) ?_
                      refine lv_aload hx hb dX11_pour_121 (lv_at hl 0 rfl) ?_
                      refine xget (i := 2) (j := 0) (k := 0) (T := TX8) hx hb ht tb_iX8 hown hX hP.1 rfl rfl rfl (by decide) tb_414 rfl dX11_pour_123 ?_
                      refine lv_iload hx hb dX11_pour_126 (lv_at hl 6 rfl) ?_
                      refine lv_iload hx hb dX11_pour_128 (lv_at hl 7 rfl) ?_
                      obtain ⟨y0_row_773, e_y0_row_773, h⟩ := bi h
                      refine xcpJ (i0 := 4) (j0 := 1) (i1 := 2) (j1 := 1) hx hb (hml.trans hl.1.symm) hown (ht _ tb_555) (ht _ tb_557) (ht _ tb_556) (ht _ tb_18) hX hP hS rfl rfl rfl rfl e_y0_row_773 (Nat.le_of_ble_eq_true rfl) (Nat.le_of_ble_eq_true rfl) dX11_pour_130 (fun H locs hP hS => ?_)
                      have hP : PD D A [bl_X11 cy A_b (A_T 0) r_b_army r_b_war r_b_draftArmy r_b_draftWar r_b_reader r_b_armyReader r_b_warReader r_b_markedArmies r_b_markedWars r_b_latest r_b_trial r_b_foresight r_b_pairs b_latestStatus b_fractionTop b_fractionBottom b_marks, [(A_T 0, .inl (cy 4, 4, .inr (.inr (.inr (.inr (trf4 (A_y0 0) (A_y1 0) (A_y2 0) (A_y3 0)))))))], bl_X8 cy A_y0 y0_row_773 y0_missing y0_sort y0_many, bl_X8 cy A_y1 y1_row y1_missing y1_sort y1_many, bl_X8 cy A_y2 y2_row y2_missing y2_sort y2_many, bl_X8 cy A_y3 y3_row y3_missing y3_sort y3_many] H := hP
                      refine lv_aload_n hx hb dX11_pour_133 rfl (lv_at hl 2 rfl) ?_
                      obtain ⟨z_774, e_z_774, h⟩ := bi h
                      refine efVi (rest := []) ⟨hx, hb, hml, hown, ht⟩ (c_X11_allow l D cy fu A_b (A_T 0) r_b_army r_b_war r_b_draftArmy r_b_draftWar r_b_reader r_b_armyReader r_b_warReader r_b_markedArmies r_b_markedWars r_b_latest r_b_trial r_b_foresight r_b_pairs b_latestStatus b_fractionTop b_fractionBottom b_marks z_774 e_z_774 _ rfl _ rfl) (cV ht mv_X11_allow tb_518 rfl rfl ⟨Nat.le_of_ble_eq_true rfl, Nat.le_of_ble_eq_true rfl⟩) hP hS hX [0] rfl rfl rfl rfl rfl rfl hl.1 rfl (Nat.le_of_ble_eq_true rfl) dX11_pour_134 ⟨Nat.le_of_ble_eq_true rfl, Nat.le_of_ble_eq_true rfl⟩ (fun H locs hP hS => ?_)
                      have hP : PD D A [bl_X11 cy A_b (A_T 0) r_b_army r_b_war r_b_draftArmy r_b_draftWar r_b_reader r_b_armyReader r_b_warReader r_b_markedArmies r_b_markedWars r_b_latest r_b_trial r_b_foresight r_b_pairs z_774.2 b_fractionTop b_fractionBottom b_marks, [(A_T 0, .inl (cy 4, 4, .inr (.inr (.inr (.inr (trf4 (A_y0 0) (A_y1 0) (A_y2 0) (A_y3 0)))))))], bl_X8 cy A_y0 y0_row_773 y0_missing y0_sort y0_many, bl_X8 cy A_y1 y1_row y1_missing y1_sort y1_many, bl_X8 cy A_y2 y2_row y2_missing y2_sort y2_many, bl_X8 cy A_y3 y3_row y3_missing y3_sort y3_many] H := hP
                      obtain ⟨b_775, e_b_775, h⟩ := bi h
                      obtain ⟨-, n_b_775, -⟩ := bz_ok e_b_775
                      cases h
                      subst hW1
                      exact W.zret hx hb hr n_b_775 (fun _ ht9 _ => ⟨⟨_, (), rfl, rfl, hPt ht9 hP.1⟩, hS.F ht9⟩) hS.2.2 dX11_pour_137
                    · have h := it c_772 h
                      refine lv_aload_n hx hb dX11_pour_109 rfl (lv_at hl 2 rfl) ?_
                      refine lv_iconst (v := 3) hx hb dX11_pour_110 (by decide) ?_
                      obtain ⟨z_776, e_z_776, h⟩ := bi h
                      refine efVi (rest := []) ⟨hx, hb, hml, hown, ht⟩ (c_X11_deny l D cy fu A_b (A_T 0) r_b_army r_b_war r_b_draftArmy r_b_draftWar r_b_reader r_b_armyReader r_b_warReader r_b_markedArmies r_b_markedWars r_b_latest r_b_trial r_b_foresight r_b_pairs b_latestStatus b_fractionTop b_fractionBottom b_marks 3 z_776 e_z_776 _ rfl _ rfl) (cV ht mv_X11_deny tb_507 rfl rfl ⟨Nat.le_of_ble_eq_true rfl, Nat.le_of_ble_eq_true rfl⟩) hP hS hX [0] rfl rfl rfl rfl rfl rfl hl.1 rfl (Nat.le_of_ble_eq_true rfl) dX11_pour_111 ⟨Nat.le_of_ble_eq_true rfl, Nat.le_of_ble_eq_true rfl⟩ (fun H locs hP hS => ?_)
                      have hP : PD D A [bl_X11 cy A_b (A_T 0) r_b_army r_b_war r_b_draftArmy r_b_draftWar r_b_reader r_b_armyReader r_b_warReader r_b_markedArmies r_b_markedWars r_b_latest r_b_trial r_b_foresight r_b_pairs z_776.2 b_fractionTop b_fractionBottom b_marks, [(A_T 0, .inl (cy 4, 4, .inr (.inr (.inr (.inr (trf4 (A_y0 0) (A_y1 0) (A_y2 0) (A_y3 0)))))))], bl_X8 cy A_y0 y0_row y0_missing y0_sort y0_many, bl_X8 cy A_y1 y1_row y1_missing y1_sort y1_many, bl_X8 cy A_y2 y2_row y2_missing y2_sort y2_many, bl_X8 cy A_y3 y3_row y3_missing y3_sort y3_many] H := hP
                      obtain ⟨b_777, e_b_777, h⟩ := bi h
                      obtain ⟨-, n_b_777, -⟩ := bz_ok e_b_777
                      cases h
                      subst hW1
                      exact W.zret hx hb hr n_b_777 (fun _ ht9 _ => ⟨⟨_, (), rfl, rfl, hPt ht9 hP.1⟩, hS.F ht9⟩) hS.2.2 dX11_pour_114
                · have h := ie c_766 h
                  refine lv_aload_n hx hb dX11_pour_79 rfl (lv_at hl 2 rfl) ?_
                  refine lv_bipush (v := 8) hx hb dX11_pour_80 (by decide) ?_
                  obtain ⟨z_778, e_z_778, h⟩ := bi h
                  refine efVi (rest := []) ⟨hx, hb, hml, hown, ht⟩ (c_X11_deny l D cy fu A_b (A_T 0) r_b_army r_b_war r_b_draftArmy r_b_draftWar r_b_reader r_b_armyReader r_b_warReader r_b_markedArmies r_b_markedWars r_b_latest r_b_trial r_b_foresight r_b_pairs b_latestStatus b_fractionTop b_fractionBottom b_marks 8 z_778 e_z_778 _ rfl _ rfl) (cV ht mv_X11_deny tb_507 rfl rfl ⟨Nat.le_of_ble_eq_true rfl, Nat.le_of_ble_eq_true rfl⟩) hP hS hX [0] rfl rfl rfl rfl rfl rfl hl.1 rfl (Nat.le_of_ble_eq_true rfl) dX11_pour_82 ⟨Nat.le_of_ble_eq_true rfl, Nat.le_of_ble_eq_true rfl⟩ (fun H locs hP hS => ?_)
                  have hP : PD D A [bl_X11 cy A_b (A_T 0) r_b_army r_b_war r_b_draftArmy r_b_draftWar r_b_reader r_b_armyReader r_b_warReader r_b_markedArmies r_b_markedWars r_b_latest r_b_trial r_b_foresight r_b_pairs z_778.2 b_fractionTop b_fractionBottom b_marks, [(A_T 0, .inl (cy 4, 4, .inr (.inr (.inr (.inr (trf4 (A_y0 0) (A_y1 0) (A_y2 0) (A_y3 0)))))))], bl_X8 cy A_y0 y0_row y0_missing y0_sort y0_many, bl_X8 cy A_y1 y1_row y1_missing y1_sort y1_many, bl_X8 cy A_y2 y2_row y2_missing y2_sort y2_many, bl_X8 cy A_y3 y3_row y3_missing y3_sort y3_many] H := hP
                  obtain ⟨b_779, e_b_779, h⟩ := bi h
                  obtain ⟨-, n_b_779, -⟩ := bz_ok e_b_779
                  cases h
                  subst hW1
                  exact W.zret hx hb hr n_b_779 (fun _ ht9 _ => ⟨⟨_, (), rfl, rfl, hPt ht9 hP.1⟩, hS.F ht9⟩) hS.2.2 dX11_pour_85
              · have h := ie c_765 h
                refine lv_aload_n hx hb dX11_pour_60 rfl (lv_at hl 2 rfl) ?_
                refine lv_iconst (v := 2) hx hb dX11_pour_61 (by decide) ?_
                obtain ⟨z_780, e_z_780, h⟩ := bi h
                refine efVi (rest := []) ⟨hx, hb, hml, hown, ht⟩ (c_X11_deny l D cy fu A_b (A_T 0) r_b_army r_b_war r_b_draftArmy r_b_draftWar r_b_reader r_b_armyReader r_b_warReader r_b_markedArmies r_b_markedWars r_b_latest r_b_trial r_b_foresight r_b_pairs b_latestStatus b_fractionTop b_fractionBottom b_marks 2 z_780 e_z_780 _ rfl _ rfl) (cV ht mv_X11_deny tb_507 rfl rfl ⟨Nat.le_of_ble_eq_true rfl, Nat.le_of_ble_eq_true rfl⟩) hP hS hX [0] rfl rfl rfl rfl rfl rfl hl.1 rfl (Nat.le_of_ble_eq_true rfl) dX11_pour_62 ⟨Nat.le_of_ble_eq_true rfl, Nat.le_of_ble_eq_true rfl⟩ (fun H locs hP hS => ?_)
                have hP : PD D A [bl_X11 cy A_b (A_T 0) r_b_army r_b_war r_b_draftArmy r_b_draftWar r_b_reader r_b_armyReader r_b_warReader r_b_markedArmies r_b_markedWars r_b_latest r_b_trial r_b_foresight r_b_pairs z_780.2 b_fractionTop b_fractionBottom b_marks, [(A_T 0, .inl (cy 4, 4, .inr (.inr (.inr (.inr (trf4 (A_y0 0) (A_y1 0) (A_y2 0) (A_y3 0)))))))], bl_X8 cy A_y0 y0_row y0_missing y0_sort y0_many, bl_X8 cy A_y1 y1_row y1_missing y1_sort y1_many, bl_X8 cy A_y2 y2_row y2_missing y2_sort y2_many, bl_X8 cy A_y3 y3_row y3_missing y3_sort y3_many] H := hP
                obtain ⟨b_781, e_b_781, h⟩ := bi h
                obtain ⟨-, n_b_781, -⟩ := bz_ok e_b_781
                cases h
                subst hW1
                exact W.zret hx hb hr n_b_781 (fun _ ht9 _ => ⟨⟨_, (), rfl, rfl, hPt ht9 hP.1⟩, hS.F ht9⟩) hS.2.2 dX11_pour_65
          · have h := ie c_761 h
            refine lv_aload_n hx hb dX11_pour_38 rfl (lv_at hl 2 rfl) ?_
            refine lv_iconst (v := 1) hx hb dX11_pour_39 (by decide) ?_
            obtain ⟨z_782, e_z_782, h⟩ := bi h
            refine efVi (rest := []) ⟨hx, hb, hml, hown, ht⟩ (c_X11_deny l D cy fu A_b (A_T 0) r_b_army r_b_war r_b_draftArmy r_b_draftWar r_b_reader r_b_armyReader r_b_warReader r_b_markedArmies r_b_markedWars r_b_latest r_b_trial r_b_foresight r_b_pairs b_latestStatus b_fractionTop b_fractionBottom b_marks 1 z_782 e_z_782 _ rfl _ rfl) (cV ht mv_X11_deny tb_507 rfl rfl ⟨Nat.le_of_ble_eq_true rfl, Nat.le_of_ble_eq_true rfl⟩) hP hS hX [0] rfl rfl rfl rfl rfl rfl hl.1 rfl (Nat.le_of_ble_eq_true rfl) dX11_pour_40 ⟨Nat.le_of_ble_eq_true rfl, Nat.le_of_ble_eq_true rfl⟩ (fun H locs hP hS => ?_)
            have hP : PD D A [bl_X11 cy A_b (A_T 0) r_b_army r_b_war r_b_draftArmy r_b_draftWar r_b_reader r_b_armyReader r_b_warReader r_b_markedArmies r_b_markedWars r_b_latest r_b_trial r_b_foresight r_b_pairs z_782.2 b_fractionTop b_fractionBottom b_marks, [(A_T 0, .inl (cy 4, 4, .inr (.inr (.inr (.inr (trf4 (A_y0 0) (A_y1 0) (A_y2 0) (A_y3 0)))))))], bl_X8 cy A_y0 y0_row y0_missing y0_sort y0_many, bl_X8 cy A_y1 y1_row y1_missing y1_sort y1_many, bl_X8 cy A_y2 y2_row y2_missing y2_sort y2_many, bl_X8 cy A_y3 y3_row y3_missing y3_sort y3_many] H := hP
            obtain ⟨b_783, e_b_783, h⟩ := bi h
            obtain ⟨-, n_b_783, -⟩ := bz_ok e_b_783
            cases h
            subst hW1
            exact W.zret hx hb hr n_b_783 (fun _ ht9 _ => ⟨⟨_, (), rfl, rfl, hPt ht9 hP.1⟩, hS.F ht9⟩) hS.2.2 dX11_pour_43
    have h := ie c_754 h
    by_cases c_784 : x3 = 1
    · have h := it c_784 h
      refine roVq (rest := []) ⟨hx, hb, hml, hown, ht⟩ (c_X11_trayAt l D cy fu A_b r_b_army r_b_war r_b_draftArmy r_b_draftWar r_b_reader r_b_armyReader r_b_warReader r_b_markedArmies r_b_markedWars r_b_latest r_b_trial r_b_foresight r_b_pairs b_latestStatus b_fractionTop b_fractionBottom b_marks A_T (trf4 (A_y0 0) (A_y1 0) (A_y2 0) (A_y3 0)) x3 (some (A_y1 0)) (tray_1 c_784)) (cV ht mv_X11_trayAt tb_500 rfl rfl ⟨Nat.le_of_ble_eq_true rfl, Nat.le_of_ble_eq_true rfl⟩) (P_sub hP.1 [0, 1] rfl) hX rfl rfl rfl hl.1 rfl (Nat.le_of_ble_eq_true rfl) dX11_pour_9 ⟨Nat.le_of_ble_eq_true rfl, Nat.le_of_ble_eq_true rfl⟩ ?_
      refine lv_astore (lv' := [(7, .ref (A_y1 0)), (6, .ref (A_y2 0)), (0, .ref (A_b 0)), (1, .int x1), (2, .int x2), (3, .int x3), (4, .int x4), (5, .int x5)]) hx hb dX11_pour_12 hl (by decide) rfl (fun ls hl => ?_)
      refine lv_aload hx hb dX11_pour_14 (lv_at hl 1 rfl) ?_
      refine lv_ifnull hx hb dX11_pour_16 ?_
      refine lv_aload hx hb dX11_pour_19 (lv_at hl 0 rfl) ?_
      refine lv_ifnull hx hb dX11_pour_21 ?_
      refine lv_iload_n hx hb dX11_pour_24 rfl (lv_at hl 4 rfl) ?_
      refine lv_if_lt (tgt := 38) hx hb dX11_pour_25 (by decide) (fun c_785 => ?_) (fun c_785 => ?_)
      · have h := it c_785 h
        refine lv_aload_n hx hb dX11_pour_38 rfl (lv_at hl 2 rfl) ?_
        refine lv_iconst (v := 1) hx hb dX11_pour_39 (by decide) ?_
        obtain ⟨z_786, e_z_786, h⟩ := bi h
        refine efVi (rest := []) ⟨hx, hb, hml, hown, ht⟩ (c_X11_deny l D cy fu A_b (A_T 0) r_b_army r_b_war r_b_draftArmy r_b_draftWar r_b_reader r_b_armyReader r_b_warReader r_b_markedArmies r_b_markedWars r_b_latest r_b_trial r_b_foresight r_b_pairs b_latestStatus b_fractionTop b_fractionBottom b_marks 1 z_786 e_z_786 _ rfl _ rfl) (cV ht mv_X11_deny tb_507 rfl rfl ⟨Nat.le_of_ble_eq_true rfl, Nat.le_of_ble_eq_true rfl⟩) hP hS hX [0] rfl rfl rfl rfl rfl rfl hl.1 rfl (Nat.le_of_ble_eq_true rfl) dX11_pour_40 ⟨Nat.le_of_ble_eq_true rfl, Nat.le_of_ble_eq_true rfl⟩ (fun H locs hP hS => ?_)
        have hP : PD D A [bl_X11 cy A_b (A_T 0) r_b_army r_b_war r_b_draftArmy r_b_draftWar r_b_reader r_b_armyReader r_b_warReader r_b_markedArmies r_b_markedWars r_b_latest r_b_trial r_b_foresight r_b_pairs z_786.2 b_fractionTop b_fractionBottom b_marks, [(A_T 0, .inl (cy 4, 4, .inr (.inr (.inr (.inr (trf4 (A_y0 0) (A_y1 0) (A_y2 0) (A_y3 0)))))))], bl_X8 cy A_y0 y0_row y0_missing y0_sort y0_many, bl_X8 cy A_y1 y1_row y1_missing y1_sort y1_many, bl_X8 cy A_y2 y2_row y2_missing y2_sort y2_many, bl_X8 cy A_y3 y3_row y3_missing y3_sort y3_many] H := hP
        obtain ⟨b_787, e_b_787, h⟩ := bi h
        obtain ⟨-, n_b_787, -⟩ := bz_ok e_b_787
        cases h
        subst hW1
        exact W.zret hx hb hr n_b_787 (fun _ ht9 _ => ⟨⟨_, (), rfl, rfl, hPt ht9 hP.1⟩, hS.F ht9⟩) hS.2.2 dX11_pour_43
      · have h := ie c_785 h
        refine lv_iload hx hb dX11_pour_28 (lv_at hl 6 rfl) ?_
        refine lv_if_lt (tgt := 38) hx hb dX11_pour_30 (by decide) (fun c_788 => ?_) (fun c_788 => ?_)
        · have h := it c_788 h
          refine lv_aload_n hx hb dX11_pour_38 rfl (lv_at hl 2 rfl) ?_
          refine lv_iconst (v := 1) hx hb dX11_pour_39 (by decide) ?_
          obtain ⟨z_789, e_z_789, h⟩ := bi h
          refine efVi (rest := []) ⟨hx, hb, hml, hown, ht⟩ (c_X11_deny l D cy fu A_b (A_T 0) r_b_army r_b_war r_b_draftArmy r_b_draftWar r_b_reader r_b_armyReader r_b_warReader r_b_markedArmies r_b_markedWars r_b_latest r_b_trial r_b_foresight r_b_pairs b_latestStatus b_fractionTop b_fractionBottom b_marks 1 z_789 e_z_789 _ rfl _ rfl) (cV ht mv_X11_deny tb_507 rfl rfl ⟨Nat.le_of_ble_eq_true rfl, Nat.le_of_ble_eq_true rfl⟩) hP hS hX [0] rfl rfl rfl rfl rfl rfl hl.1 rfl (Nat.le_of_ble_eq_true rfl) dX11_pour_40 ⟨Nat.le_of_ble_eq_true rfl, Nat.le_of_ble_eq_true rfl⟩ (fun H locs hP hS => ?_)
          have hP : PD D A [bl_X11 cy A_b (A_T 0) r_b_army r_b_war r_b_draftArmy r_b_draftWar r_b_reader r_b_armyReader r_b_warReader r_b_markedArmies r_b_markedWars r_b_latest r_b_trial r_b_foresight r_b_pairs z_789.2 b_fractionTop b_fractionBottom b_marks, [(A_T 0, .inl (cy 4, 4, .inr (.inr (.inr (.inr (trf4 (A_y0 0) (A_y1 0) (A_y2 0) (A_y3 0)))))))], bl_X8 cy A_y0 y0_row y0_missing y0_sort y0_many, bl_X8 cy A_y1 y1_row y1_missing y1_sort y1_many, bl_X8 cy A_y2 y2_row y2_missing y2_sort y2_many, bl_X8 cy A_y3 y3_row y3_missing y3_sort y3_many] H := hP
          obtain ⟨b_790, e_b_790, h⟩ := bi h
          obtain ⟨-, n_b_790, -⟩ := bz_ok e_b_790
          cases h
          subst hW1
          exact W.zret hx hb hr n_b_790 (fun _ ht9 _ => ⟨⟨_, (), rfl, rfl, hPt ht9 hP.1⟩, hS.F ht9⟩) hS.2.2 dX11_pour_43
        · have h := ie c_788 h
          refine lv_iload hx hb dX11_pour_33 (lv_at hl 7 rfl) ?_
          refine lv_if_ge (tgt := 44) hx hb dX11_pour_35 (by decide) (fun c_791 => ?_) (fun c_791 => ?_)
          · have h := it c_791 h
            refine lv_aload hx hb dX11_pour_44 (lv_at hl 1 rfl) ?_
            refine xget (i := 4) (j := 0) (k := 1) (T := TX8) hx hb ht tb_iX8 hown hX hP.1 rfl rfl rfl (by decide) tb_416 rfl dX11_pour_46 ?_
            refine lv_if_ne (tgt := 60) hx hb dX11_pour_49 (by decide) (fun c_792 => ?_) (fun c_792 => ?_)
            · have h := ie c_792 h
              refine lv_aload_n hx hb dX11_pour_60 rfl (lv_at hl 2 rfl) ?_
              refine lv_iconst (v := 2) hx hb dX11_pour_61 (by decide) ?_
              obtain ⟨z_793, e_z_793, h⟩ := bi h
              refine efVi (rest := []) ⟨hx, hb, hml, hown, ht⟩ (c_X11_deny l D cy fu A_b (A_T 0) r_b_army r_b_war r_b_draftArmy r_b_draftWar r_b_reader r_b_armyReader r_b_warReader r_b_markedArmies r_b_markedWars r_b_latest r_b_trial r_b_foresight r_b_pairs b_latestStatus b_fractionTop b_fractionBottom b_marks 2 z_793 e_z_793 _ rfl _ rfl) (cV ht mv_X11_deny tb_507 rfl rfl ⟨Nat.le_of_ble_eq_true rfl, Nat.le_of_ble_eq_true rfl⟩) hP hS hX [0] rfl rfl rfl rfl rfl rfl hl.1 rfl (Nat.le_of_ble_eq_true rfl) dX11_pour_62 ⟨Nat.le_of_ble_eq_true rfl, Nat.le_of_ble_eq_true rfl⟩ (fun H locs hP hS => ?_)
              have hP : PD D A [bl_X11 cy A_b (A_T 0) r_b_army r_b_war r_b_draftArmy r_b_draftWar r_b_reader r_b_armyReader r_b_warReader r_b_markedArmies r_b_markedWars r_b_latest r_b_trial r_b_foresight r_b_pairs z_793.2 b_fractionTop b_fractionBottom b_marks, [(A_T 0, .inl (cy 4, 4, .inr (.inr (.inr (.inr (trf4 (A_y0 0) (A_y1 0) (A_y2 0) (A_y3 0)))))))], bl_X8 cy A_y0 y0_row y0_missing y0_sort y0_many, bl_X8 cy A_y1 y1_row y1_missing y1_sort y1_many, bl_X8 cy A_y2 y2_row y2_missing y2_sort y2_many, bl_X8 cy A_y3 y3_row y3_missing y3_sort y3_many] H := hP
              obtain ⟨b_794, e_b_794, h⟩ := bi h
              obtain ⟨-, n_b_794, -⟩ := bz_ok e_b_794
              cases h
              subst hW1
              exact W.zret hx hb hr n_b_794 (fun _ ht9 _ => ⟨⟨_, (), rfl, rfl, hPt ht9 hP.1⟩, hS.F ht9⟩) hS.2.2 dX11_pour_65
            · have h := it c_792 h
              refine lv_aload hx hb dX11_pour_52 (lv_at hl 0 rfl) ?_
              refine xget (i := 3) (j := 0) (k := 1) (T := TX8) hx hb ht tb_iX8 hown hX hP.1 rfl rfl rfl (by decide) tb_416 rfl dX11_pour_54 ?_
              refine lv_if_eq (tgt := 66) hx hb dX11_pour_57 (by decide) (fun c_795 => ?_) (fun c_795 => ?_)
              · have h := it c_795 h
                refine lv_aload hx hb dX11_pour_66 (lv_at hl 1 rfl) ?_
                refine xget (i := 4) (j := 0) (k := 2) (T := TX8) hx hb ht tb_iX8 hown hX hP.1 rfl rfl rfl (by decide) tb_418 rfl dX11_pour_68 ?_
                refine lv_aload hx hb dX11_pour_71 (lv_at hl 0 rfl) ?_
                refine xget (i := 3) (j := 0) (k := 2) (T := TX8) hx hb ht tb_iX8 hown hX hP.1 rfl rfl rfl (by decide) tb_418 rfl dX11_pour_73 ?_
                refine lv_icmp_eq (tgt := 86) hx hb dX11_pour_76 (by decide) (fun c_796 => ?_) (fun c_796 => ?_)
                · have h := it c_796 h
                  refine lv_aload hx hb dX11_pour_86 (lv_at hl 1 rfl) ?_
                  refine lv_iload_n hx hb dX11_pour_88 rfl (lv_at hl 4 rfl) ?_
                  refine lv_iload hx hb dX11_pour_89 (lv_at hl 7 rfl) ?_
                  obtain ⟨z_797, e_z_797, h⟩ := bi h
                  refine roVi (rest := []) ⟨hx, hb, hml, hown, ht⟩ (c_X8_hasPlaces l D cy fu A_y2 y2_row y2_missing y2_sort y2_many x2 x5 z_797 e_z_797) (cV ht mv_X8_hasPlaces tb_526 rfl rfl ⟨Nat.le_of_ble_eq_true rfl, Nat.le_of_ble_eq_true rfl⟩) (P_sub hP.1 [4] rfl) hX rfl rfl rfl hl.1 rfl (Nat.le_of_ble_eq_true rfl) dX11_pour_91 ⟨Nat.le_of_ble_eq_true rfl, Nat.le_of_ble_eq_true rfl⟩ ?_
                  refine lv_if_eq (tgt := 109) hx hb dX11_pour_94 (by decide) (fun c_798 => ?_) (fun c_798 => ?_)
                  · have h := it c_798 h
                    refine lv_aload_n hx hb dX11_pour_109 rfl (lv_at hl 2 rfl) ?_
                    refine lv_iconst (v := 3) hx hb dX11_pour_110 (by decide) ?_
                    obtain ⟨z_799, e_z_799, h⟩ := bi h
                    refine efVi (rest := []) ⟨hx, hb, hml, hown, ht⟩ (c_X11_deny l D cy fu A_b (A_T 0) r_b_army r_b_war r_b_draftArmy r_b_draftWar r_b_reader r_b_armyReader r_b_warReader r_b_markedArmies r_b_markedWars r_b_latest r_b_trial r_b_foresight r_b_pairs b_latestStatus b_fractionTop b_fractionBottom b_marks 3 z_799 e_z_799 _ rfl _ rfl) (cV ht mv_X11_deny tb_507 rfl rfl ⟨Nat.le_of_ble_eq_true rfl, Nat.le_of_ble_eq_true rfl⟩) hP hS hX [0] rfl rfl rfl rfl rfl rfl hl.1 rfl (Nat.le_of_ble_eq_true rfl) dX11_pour_111 ⟨Nat.le_of_ble_eq_true rfl, Nat.le_of_ble_eq_true rfl⟩ (fun H locs hP hS => ?_)
                    have hP : PD D A [bl_X11 cy A_b (A_T 0) r_b_army r_b_war r_b_draftArmy r_b_draftWar r_b_reader r_b_armyReader r_b_warReader r_b_markedArmies r_b_markedWars r_b_latest r_b_trial r_b_foresight r_b_pairs z_799.2 b_fractionTop b_fractionBottom b_marks, [(A_T 0, .inl (cy 4, 4, .inr (.inr (.inr (.inr (trf4 (A_y0 0) (A_y1 0) (A_y2 0) (A_y3 0)))))))], bl_X8 cy A_y0 y0_row y0_missing y0_sort y0_many, bl_X8 cy A_y1 y1_row y1_missing y1_sort y1_many, bl_X8 cy A_y2 y2_row y2_missing y2_sort y2_many, bl_X8 cy A_y3 y3_row y3_missing y3_sort y3_many] H := hP
                    obtain ⟨b_800, e_b_800, h⟩ := bi h
                    obtain ⟨-, n_b_800, -⟩ := bz_ok e_b_800
                    cases h
                    subst hW1
                    exact W.zret hx hb hr n_b_800 (fun _ ht9 _ => ⟨⟨_, (), rfl, rfl, hPt ht9 hP.1⟩, hS.F ht9⟩) hS.2.2 dX11_pour_114
                  · have h := ie c_798 h
                    refine lv_aload hx hb dX11_pour_97 (lv_at hl 0 rfl) ?_
                    refine lv_iload hx hb dX11_pour_99 (lv_at hl 6 rfl) ?_
                    refine lv_iload hx hb dX11_pour_101 (lv_at hl 7 rfl) ?_
                    obtain ⟨z_801, e_z_801, h⟩ := bi h
                    refine roVi (rest := []) ⟨hx, hb, hml, hown, ht⟩ (c_X8_hasPlaces l D cy fu A_y1 y1_row y1_missing y1_sort y1_many x4 x5 z_801 e_z_801) (cV ht mv_X8_hasPlaces tb_526 rfl rfl ⟨Nat.le_of_ble_eq_true rfl, Nat.le_of_ble_eq_true rfl⟩) (P_sub hP.1 [3] rfl) hX rfl rfl rfl hl.1 rfl (Nat.le_of_ble_eq_true rfl) dX11_pour_103 ⟨Nat.le_of_ble_eq_true rfl, Nat.le_of_ble_eq_true rfl⟩ ?_
                    refine lv_if_ne (tgt := 115) hx hb dX11_pour_106 (by decide) (fun c_802 => ?_) (fun c_802 => ?_)
                    · have h := ie c_802 h
                      refine lv_aload hx hb dX11_pour_115 (lv_at hl 1 rfl) ?_
                      refine xget (i := 4) (j := 0) (k := 0) (T := TX8) hx hb ht tb_iX8 hown hX hP.1 rfl rfl rfl (by decide) tb_414 rfl dX11_pour_117 ?_
                      refine lv_iload_n hx hb dX11_pour_120 rfl (lv_at hl 4 rfl) ?_
                      refine lv_aload hx hb dX11_pour_121 (lv_at hl 0 rfl) ?_
                      refine xget (i := 3) (j := 0) (k := 0) (T := TX8) hx hb ht tb_iX8 hown hX hP.1 rfl rfl rfl (by decide) tb_414 rfl dX11_pour_123 ?_
                      refine lv_iload hx hb dX11_pour_126 (lv_at hl 6 rfl) ?_
                      refine lv_iload hx hb dX11_pour_128 (lv_at hl 7 rfl) ?_
                      obtain ⟨y1_row_803, e_y1_row_803, h⟩ := bi h
                      refine xcpJ (i0 := 4) (j0 := 1) (i1 := 3) (j1 := 1) hx hb (hml.trans hl.1.symm) hown (ht _ tb_555) (ht _ tb_557) (ht _ tb_556) (ht _ tb_18) hX hP hS rfl rfl rfl rfl e_y1_row_803 (Nat.le_of_ble_eq_true rfl) (Nat.le_of_ble_eq_true rfl) dX11_pour_130 (fun H locs hP hS => ?_)
                      have hP : PD D A [bl_X11 cy A_b (A_T 0) r_b_army r_b_war r_b_draftArmy r_b_draftWar r_b_reader r_b_armyReader r_b_warReader r_b_markedArmies r_b_markedWars r_b_latest r_b_trial r_b_foresight r_b_pairs b_latestStatus b_fractionTop b_fractionBottom b_marks, [(A_T 0, .inl (cy 4, 4, .inr (.inr (.inr (.inr (trf4 (A_y0 0) (A_y1 0) (A_y2 0) (A_y3 0)))))))], bl_X8 cy A_y0 y0_row y0_missing y0_sort y0_many, bl_X8 cy A_y1 y1_row_803 y1_missing y1_sort y1_many, bl_X8 cy A_y2 y2_row y2_missing y2_sort y2_many, bl_X8 cy A_y3 y3_row y3_missing y3_sort y3_many] H := hP
                      refine lv_aload_n hx hb dX11_pour_133 rfl (lv_at hl 2 rfl) ?_
                      obtain ⟨z_804, e_z_804, h⟩ := bi h
                      refine efVi (rest := []) ⟨hx, hb, hml, hown, ht⟩ (c_X11_allow l D cy fu A_b (A_T 0) r_b_army r_b_war r_b_draftArmy r_b_draftWar r_b_reader r_b_armyReader r_b_warReader r_b_markedArmies r_b_markedWars r_b_latest r_b_trial r_b_foresight r_b_pairs b_latestStatus b_fractionTop b_fractionBottom b_marks z_804 e_z_804 _ rfl _ rfl) (cV ht mv_X11_allow tb_518 rfl rfl ⟨Nat.le_of_ble_eq_true rfl, Nat.le_of_ble_eq_true rfl⟩) hP hS hX [0] rfl rfl rfl rfl rfl rfl hl.1 rfl (Nat.le_of_ble_eq_true rfl) dX11_pour_134 ⟨Nat.le_of_ble_eq_true rfl, Nat.le_of_ble_eq_true rfl⟩ (fun H locs hP hS => ?_)
                      have hP : PD D A [bl_X11 cy A_b (A_T 0) r_b_army r_b_war r_b_draftArmy r_b_draftWar r_b_reader r_b_armyReader r_b_warReader r_b_markedArmies r_b_markedWars r_b_latest r_b_trial r_b_foresight r_b_pairs z_804.2 b_fractionTop b_fractionBottom b_marks, [(A_T 0, .inl (cy 4, 4, .inr (.inr (.inr (.inr (trf4 (A_y0 0) (A_y1 0) (A_y2 0) (A_y3 0)))))))], bl_X8 cy A_y0 y0_row y0_missing y0_sort y0_many, bl_X8 cy A_y1 y1_row_803 y1_missing y1_sort y1_many, bl_X8 cy A_y2 y2_row y2_missing y2_sort y2_many, bl_X8 cy A_y3 y3_row y3_missing y3_sort y3_many] H := hP
                      obtain ⟨b_805, e_b_805, h⟩ := bi h
                      obtain ⟨-, n_b_805, -⟩ := bz_ok e_b_805
                      cases h
                      subst hW1
                      exact W.zret hx hb hr n_b_805 (fun _ ht9 _ => ⟨⟨_, (), rfl, rfl, hPt ht9 hP.1⟩, hS.F ht9⟩) hS.2.2 dX11_pour_137
                    · have h := it c_802 h
                      refine lv_aload_n hx hb dX11_pour_109 rfl (lv_at hl 2 rfl) ?_
                      refine lv_iconst (v := 3) hx hb dX11_pour_110 (by decide) ?_
                      obtain ⟨z_806, e_z_806, h⟩ := bi h
                      refine efVi (rest := []) ⟨hx, hb, hml, hown, ht⟩ (c_X11_deny l D cy fu A_b (A_T 0) r_b_army r_b_war r_b_draftArmy r_b_draftWar r_b_reader r_b_armyReader r_b_warReader r_b_markedArmies r_b_markedWars r_b_latest r_b_trial r_b_foresight r_b_pairs b_latestStatus b_fractionTop b_fractionBottom b_marks 3 z_806 e_z_806 _ rfl _ rfl) (cV ht mv_X11_deny tb_507 rfl rfl ⟨Nat.le_of_ble_eq_true rfl, Nat.le_of_ble_eq_true rfl⟩) hP hS hX [0] rfl rfl rfl rfl rfl rfl hl.1 rfl (Nat.le_of_ble_eq_true rfl) dX11_pour_111 ⟨Nat.le_of_ble_eq_true rfl, Nat.le_of_ble_eq_true rfl⟩ (fun H locs hP hS => ?_)
                      have hP : PD D A [bl_X11 cy A_b (A_T 0) r_b_army r_b_war r_b_draftArmy r_b_draftWar r_b_reader r_b_armyReader r_b_warReader r_b_markedArmies r_b_markedWars r_b_latest r_b_trial r_b_foresight r_b_pairs z_806.2 b_fractionTop b_fractionBottom b_marks, [(A_T 0, .inl (cy 4, 4, .inr (.inr (.inr (.inr (trf4 (A_y0 0) (A_y1 0) (A_y2 0) (A_y3 0)))))))], bl_X8 cy A_y0 y0_row y0_missing y0_sort y0_many, bl_X8 cy A_y1 y1_row y1_missing y1_sort y1_many, bl_X8 cy A_y2 y2_row y2_missing y2_sort y2_many, bl_X8 cy A_y3 y3_row y3_missing y3_sort y3_many] H := hP
                      obtain ⟨b_807, e_b_807, h⟩ := bi h
                      obtain ⟨-, n_b_807, -⟩ := bz_ok e_b_807
                      cases h
                      subst hW1
                      exact W.zret hx hb hr n_b_807 (fun _ ht9 _ => ⟨⟨_, (), rfl, rfl, hPt ht9 hP.1⟩, hS.F ht9⟩) hS.2.2 dX11_pour_114
                · have h := ie c_796 h
                  refine lv_aload_n hx hb dX11_pour_79 rfl (lv_at hl 2 rfl) ?_
                  refine lv_bipush (v := 8) hx hb dX11_pour_80 (by decide) ?_
                  obtain ⟨z_808, e_z_808, h⟩ := bi h
                  refine efVi (rest := []) ⟨hx, hb, hml, hown, ht⟩ (c_X11_deny l D cy fu A_b (A_T 0) r_b_army r_b_war r_b_draftArmy r_b_draftWar r_b_reader r_b_armyReader r_b_warReader r_b_markedArmies r_b_markedWars r_b_latest r_b_trial r_b_foresight r_b_pairs b_latestStatus b_fractionTop b_fractionBottom b_marks 8 z_808 e_z_808 _ rfl _ rfl) (cV ht mv_X11_deny tb_507 rfl rfl ⟨Nat.le_of_ble_eq_true rfl, Nat.le_of_ble_eq_true rfl⟩) hP hS hX [0] rfl rfl rfl rfl rfl rfl hl.1 rfl (Nat.le_of_ble_eq_true rfl) dX11_pour_82 ⟨Nat.le_of_ble_eq_true rfl, Nat.le_of_ble_eq_true rfl⟩ (fun H locs hP hS => ?_)
                  have hP : PD D A [bl_X11 cy A_b (A_T 0) r_b_army r_b_war r_b_draftArmy r_b_draftWar r_b_reader r_b_armyReader r_b_warReader r_b_markedArmies r_b_markedWars r_b_latest r_b_trial r_b_foresight r_b_pairs z_808.2 b_fractionTop b_fractionBottom b_marks, [(A_T 0, .inl (cy 4, 4, .inr (.inr (.inr (.inr (trf4 (A_y0 0) (A_y1 0) (A_y2 0) (A_y3 0)))))))], bl_X8 cy A_y0 y0_row y0_missing y0_sort y0_many, bl_X8 cy A_y1 y1_row y1_missing y1_sort y1_many, bl_X8 cy A_y2 y2_row y2_missing y2_sort y2_many, bl_X8 cy A_y3 y3_row y3_missing y3_sort y3_many] H := hP
                  obtain ⟨b_809, e_b_809, h⟩ := bi h
                  obtain ⟨-, n_b_809, -⟩ := bz_ok e_b_809
                  cases h
                  subst hW1
                  exact W.zret hx hb hr n_b_809 (fun _ ht9 _ => ⟨⟨_, (), rfl, rfl, hPt ht9 hP.1⟩, hS.F ht9⟩) hS.2.2 dX11_pour_85
              · have h := ie c_795 h
                refine lv_aload_n hx hb dX11_pour_60 rfl (lv_at hl 2 rfl) ?_
                refine lv_iconst (v := 2) hx hb dX11_pour_61 (by decide) ?_
                obtain ⟨z_810, e_z_810, h⟩ := bi h
                refine efVi (rest := []) ⟨hx, hb, hml, hown, ht⟩ (c_X11_deny l D cy fu A_b (A_T 0) r_b_army r_b_war r_b_draftArmy r_b_draftWar r_b_reader r_b_armyReader r_b_warReader r_b_markedArmies r_b_markedWars r_b_latest r_b_trial r_b_foresight r_b_pairs b_latestStatus b_fractionTop b_fractionBottom b_marks 2 z_810 e_z_810 _ rfl _ rfl) (cV ht mv_X11_deny tb_507 rfl rfl ⟨Nat.le_of_ble_eq_true rfl, Nat.le_of_ble_eq_true rfl⟩) hP hS hX [0] rfl rfl rfl rfl rfl rfl hl.1 rfl (Nat.le_of_ble_eq_true rfl) dX11_pour_62 ⟨Nat.le_of_ble_eq_true rfl, Nat.le_of_ble_eq_true rfl⟩ (fun H locs hP hS => ?_)
                have hP : PD D A [bl_X11 cy A_b (A_T 0) r_b_army r_b_war r_b_draftArmy r_b_draftWar r_b_reader r_b_armyReader r_b_warReader r_b_markedArmies r_b_markedWars r_b_latest r_b_trial r_b_foresight r_b_pairs z_810.2 b_fractionTop b_fractionBottom b_marks, [(A_T 0, .inl (cy 4, 4, .inr (.inr (.inr (.inr (trf4 (A_y0 0) (A_y1 0) (A_y2 0) (A_y3 0)))))))], bl_X8 cy A_y0 y0_row y0_missing y0_sort y0_many, bl_X8 cy A_y1 y1_row y1_missing y1_sort y1_many, bl_X8 cy A_y2 y2_row y2_missing y2_sort y2_many, bl_X8 cy A_y3 y3_row y3_missing y3_sort y3_many] H := hP
                obtain ⟨b_811, e_b_811, h⟩ := bi h
                obtain ⟨-, n_b_811, -⟩ := bz_ok e_b_811
                cases h
                subst hW1
                exact W.zret hx hb hr n_b_811 (fun _ ht9 _ => ⟨⟨_, (), rfl, rfl, hPt ht9 hP.1⟩, hS.F ht9⟩) hS.2.2 dX11_pour_65
          · have h := ie c_791 h
            refine lv_aload_n hx hb dX11_pour_38 rfl (lv_at hl 2 rfl) ?_
            refine lv_iconst (v := 1) hx hb dX11_pour_39 (by decide) ?_
            obtain ⟨z_812, e_z_812, h⟩ := bi h
            refine efVi (rest := []) ⟨hx, hb, hml, hown, ht⟩ (c_X11_deny l D cy fu A_b (A_T 0) r_b_army r_b_war r_b_draftArmy r_b_draftWar r_b_reader r_b_armyReader r_b_warReader r_b_markedArmies r_b_markedWars r_b_latest r_b_trial r_b_foresight r_b_pairs b_latestStatus b_fractionTop b_fractionBottom b_marks 1 z_812 e_z_812 _ rfl _ rfl) (cV ht mv_X11_deny tb_507 rfl rfl ⟨Nat.le_of_ble_eq_true rfl, Nat.le_of_ble_eq_true rfl⟩) hP hS hX [0] rfl rfl rfl rfl rfl rfl hl.1 rfl (Nat.le_of_ble_eq_true rfl) dX11_pour_40 ⟨Nat.le_of_ble_eq_true rfl, Nat.le_of_ble_eq_true rfl⟩ (fun H locs hP hS => ?_)
            have hP : PD D A [bl_X11 cy A_b (A_T 0) r_b_army r_b_war r_b_draftArmy r_b_draftWar r_b_reader r_b_armyReader r_b_warReader r_b_markedArmies r_b_markedWars r_b_latest r_b_trial r_b_foresight r_b_pairs z_812.2 b_fractionTop b_fractionBottom b_marks, [(A_T 0, .inl (cy 4, 4, .inr (.inr (.inr (.inr (trf4 (A_y0 0) (A_y1 0) (A_y2 0) (A_y3 0)))))))], bl_X8 cy A_y0 y0_row y0_missing y0_sort y0_many, bl_X8 cy A_y1 y1_row y1_missing y1_sort y1_many, bl_X8 cy A_y2 y2_row y2_missing y2_sort y2_many, bl_X8 cy A_y3 y3_row y3_missing y3_sort y3_many] H := hP
            obtain ⟨b_813, e_b_813, h⟩ := bi h
            obtain ⟨-, n_b_813, -⟩ := bz_ok e_b_813
            cases h
            subst hW1
            exact W.zret hx hb hr n_b_813 (fun _ ht9 _ => ⟨⟨_, (), rfl, rfl, hPt ht9 hP.1⟩, hS.F ht9⟩) hS.2.2 dX11_pour_43
    have h := ie c_784 h
    by_cases c_814 : x3 = 2
    · have h := it c_814 h
      refine roVq (rest := []) ⟨hx, hb, hml, hown, ht⟩ (c_X11_trayAt l D cy fu A_b r_b_army r_b_war r_b_draftArmy r_b_draftWar r_b_reader r_b_armyReader r_b_warReader r_b_markedArmies r_b_markedWars r_b_latest r_b_trial r_b_foresight r_b_pairs b_latestStatus b_fractionTop b_fractionBottom b_marks A_T (trf4 (A_y0 0) (A_y1 0) (A_y2 0) (A_y3 0)) x3 (some (A_y2 0)) (tray_2 c_814)) (cV ht mv_X11_trayAt tb_500 rfl rfl ⟨Nat.le_of_ble_eq_true rfl, Nat.le_of_ble_eq_true rfl⟩) (P_sub hP.1 [0, 1] rfl) hX rfl rfl rfl hl.1 rfl (Nat.le_of_ble_eq_true rfl) dX11_pour_9 ⟨Nat.le_of_ble_eq_true rfl, Nat.le_of_ble_eq_true rfl⟩ ?_
      refine lv_astore (lv' := [(7, .ref (A_y2 0)), (6, .ref (A_y2 0)), (0, .ref (A_b 0)), (1, .int x1), (2, .int x2), (3, .int x3), (4, .int x4), (5, .int x5)]) hx hb dX11_pour_12 hl (by decide) rfl (fun ls hl => ?_)
      refine lv_aload hx hb dX11_pour_14 (lv_at hl 1 rfl) ?_
      refine lv_ifnull hx hb dX11_pour_16 ?_
      refine lv_aload hx hb dX11_pour_19 (lv_at hl 0 rfl) ?_
      refine lv_ifnull hx hb dX11_pour_21 ?_
      refine lv_iload_n hx hb dX11_pour_24 rfl (lv_at hl 4 rfl) ?_
      refine lv_if_lt (tgt := 38) hx hb dX11_pour_25 (by decide) (fun c_815 => ?_) (fun c_815 => ?_)
      · have h := it c_815 h
        refine lv_aload_n hx hb dX11_pour_38 rfl (lv_at hl 2 rfl) ?_
        refine lv_iconst (v := 1) hx hb dX11_pour_39 (by decide) ?_
        obtain ⟨z_816, e_z_816, h⟩ := bi h
        refine efVi (rest := []) ⟨hx, hb, hml, hown, ht⟩ (c_X11_deny l D cy fu A_b (A_T 0) r_b_army r_b_war r_b_draftArmy r_b_draftWar r_b_reader r_b_armyReader r_b_warReader r_b_markedArmies r_b_markedWars r_b_latest r_b_trial r_b_foresight r_b_pairs b_latestStatus b_fractionTop b_fractionBottom b_marks 1 z_816 e_z_816 _ rfl _ rfl) (cV ht mv_X11_deny tb_507 rfl rfl ⟨Nat.le_of_ble_eq_true rfl, Nat.le_of_ble_eq_true rfl⟩) hP hS hX [0] rfl rfl rfl rfl rfl rfl hl.1 rfl (Nat.le_of_ble_eq_true rfl) dX11_pour_40 ⟨Nat.le_of_ble_eq_true rfl, Nat.le_of_ble_eq_true rfl⟩ (fun H locs hP hS => ?_)
        have hP : PD D A [bl_X11 cy A_b (A_T 0) r_b_army r_b_war r_b_draftArmy r_b_draftWar r_b_reader r_b_armyReader r_b_warReader r_b_markedArmies r_b_markedWars r_b_latest r_b_trial r_b_foresight r_b_pairs z_816.2 b_fractionTop b_fractionBottom b_marks, [(A_T 0, .inl (cy 4, 4, .inr (.inr (.inr (.inr (trf4 (A_y0 0) (A_y1 0) (A_y2 0) (A_y3 0)))))))], bl_X8 cy A_y0 y0_row y0_missing y0_sort y0_many, bl_X8 cy A_y1 y1_row y1_missing y1_sort y1_many, bl_X8 cy A_y2 y2_row y2_missing y2_sort y2_many, bl_X8 cy A_y3 y3_row y3_missing y3_sort y3_many] H := hP
        obtain ⟨b_817, e_b_817, h⟩ := bi h
        obtain ⟨-, n_b_817, -⟩ := bz_ok e_b_817
        cases h
        subst hW1
        exact W.zret hx hb hr n_b_817 (fun _ ht9 _ => ⟨⟨_, (), rfl, rfl, hPt ht9 hP.1⟩, hS.F ht9⟩) hS.2.2 dX11_pour_43
      · have h := ie c_815 h
        refine lv_iload hx hb dX11_pour_28 (lv_at hl 6 rfl) ?_
        refine lv_if_lt (tgt := 38) hx hb dX11_pour_30 (by decide) (fun c_818 => ?_) (fun c_818 => ?_)
        · have h := it c_818 h
          refine lv_aload_n hx hb dX11_pour_38 rfl (lv_at hl 2 rfl) ?_
          refine lv_iconst (v := 1) hx hb dX11_pour_39 (by decide) ?_
          obtain ⟨z_819, e_z_819, h⟩ := bi h
          refine efVi (rest := []) ⟨hx, hb, hml, hown, ht⟩ (c_X11_deny l D cy fu A_b (A_T 0) r_b_army r_b_war r_b_draftArmy r_b_draftWar r_b_reader r_b_armyReader r_b_warReader r_b_markedArmies r_b_markedWars r_b_latest r_b_trial r_b_foresight r_b_pairs b_latestStatus b_fractionTop b_fractionBottom b_marks 1 z_819 e_z_819 _ rfl _ rfl) (cV ht mv_X11_deny tb_507 rfl rfl ⟨Nat.le_of_ble_eq_true rfl, Nat.le_of_ble_eq_true rfl⟩) hP hS hX [0] rfl rfl rfl rfl rfl rfl hl.1 rfl (Nat.le_of_ble_eq_true rfl) dX11_pour_40 ⟨Nat.le_of_ble_eq_true rfl, Nat.le_of_ble_eq_true rfl⟩ (fun H locs hP hS => ?_)
          have hP : PD D A [bl_X11 cy A_b (A_T 0) r_b_army r_b_war r_b_draftArmy r_b_draftWar r_b_reader r_b_armyReader r_b_warReader r_b_markedArmies r_b_markedWars r_b_latest r_b_trial r_b_foresight r_b_pairs z_819.2 b_fractionTop b_fractionBottom b_marks, [(A_T 0, .inl (cy 4, 4, .inr (.inr (.inr (.inr (trf4 (A_y0 0) (A_y1 0) (A_y2 0) (A_y3 0)))))))], bl_X8 cy A_y0 y0_row y0_missing y0_sort y0_many, bl_X8 cy A_y1 y1_row y1_missing y1_sort y1_many, bl_X8 cy A_y2 y2_row y2_missing y2_sort y2_many, bl_X8 cy A_y3 y3_row y3_missing y3_sort y3_many] H := hP
          obtain ⟨b_820, e_b_820, h⟩ := bi h
          obtain ⟨-, n_b_820, -⟩ := bz_ok e_b_820
          cases h
          subst hW1
          exact W.zret hx hb hr n_b_820 (fun _ ht9 _ => ⟨⟨_, (), rfl, rfl, hPt ht9 hP.1⟩, hS.F ht9⟩) hS.2.2 dX11_pour_43
        · have h := ie c_818 h
          refine lv_iload hx hb dX11_pour_33 (lv_at hl 7 rfl) ?_
          refine lv_if_ge (tgt := 44) hx hb dX11_pour_35 (by decide) (fun c_821 => ?_) (fun c_821 => ?_)
          · have h := it c_821 h
            refine lv_aload hx hb dX11_pour_44 (lv_at hl 1 rfl) ?_
            refine xget (i := 4) (j := 0) (k := 1) (T := TX8) hx hb ht tb_iX8 hown hX hP.1 rfl rfl rfl (by decide) tb_416 rfl dX11_pour_46 ?_
            refine lv_if_ne (tgt := 60) hx hb dX11_pour_49 (by decide) (fun c_822 => ?_) (fun c_822 => ?_)
            · have h := ie c_822 h
              refine lv_aload_n hx hb dX11_pour_60 rfl (lv_at hl 2 rfl) ?_
              refine lv_iconst (v := 2) hx hb dX11_pour_61 (by decide) ?_
              obtain ⟨z_823, e_z_823, h⟩ := bi h
              refine efVi (rest := []) ⟨hx, hb, hml, hown, ht⟩ (c_X11_deny l D cy fu A_b (A_T 0) r_b_army r_b_war r_b_draftArmy r_b_draftWar r_b_reader r_b_armyReader r_b_warReader r_b_markedArmies r_b_markedWars r_b_latest r_b_trial r_b_foresight r_b_pairs b_latestStatus b_fractionTop b_fractionBottom b_marks 2 z_823 e_z_823 _ rfl _ rfl) (cV ht mv_X11_deny tb_507 rfl rfl ⟨Nat.le_of_ble_eq_true rfl, Nat.le_of_ble_eq_true rfl⟩) hP hS hX [0] rfl rfl rfl rfl rfl rfl hl.1 rfl (Nat.le_of_ble_eq_true rfl) dX11_pour_62 ⟨Nat.le_of_ble_eq_true rfl, Nat.le_of_ble_eq_true rfl⟩ (fun H locs hP hS => ?_)
              have hP : PD D A [bl_X11 cy A_b (A_T 0) r_b_army r_b_war r_b_draftArmy r_b_draftWar r_b_reader r_b_armyReader r_b_warReader r_b_markedArmies r_b_markedWars r_b_latest r_b_trial r_b_foresight r_b_pairs z_823.2 b_fractionTop b_fractionBottom b_marks, [(A_T 0, .inl (cy 4, 4, .inr (.inr (.inr (.inr (trf4 (A_y0 0) (A_y1 0) (A_y2 0) (A_y3 0)))))))], bl_X8 cy A_y0 y0_row y0_missing y0_sort y0_many, bl_X8 cy A_y1 y1_row y1_missing y1_sort y1_many, bl_X8 cy A_y2 y2_row y2_missing y2_sort y2_many, bl_X8 cy A_y3 y3_row y3_missing y3_sort y3_many] H := hP
              obtain ⟨b_824, e_b_824, h⟩ := bi h
              obtain ⟨-, n_b_824, -⟩ := bz_ok e_b_824
              cases h
              subst hW1
              exact W.zret hx hb hr n_b_824 (fun _ ht9 _ => ⟨⟨_, (), rfl, rfl, hPt ht9 hP.1⟩, hS.F ht9⟩) hS.2.2 dX11_pour_65
            · have h := it c_822 h
              refine lv_aload hx hb dX11_pour_52 (lv_at hl 0 rfl) ?_
              refine xget (i := 4) (j := 0) (k := 1) (T := TX8) hx hb ht tb_iX8 hown hX hP.1 rfl rfl rfl (by decide) tb_416 rfl dX11_pour_54 ?_
              refine lv_if_eq (tgt := 66) hx hb dX11_pour_57 (by decide) (fun c_825 => ?_) (fun c_825 => ?_)
              · have h := it c_825 h
                refine lv_aload hx hb dX11_pour_66 (lv_at hl 1 rfl) ?_
                refine xget (i := 4) (j := 0) (k := 2) (T := TX8) hx hb ht tb_iX8 hown hX hP.1 rfl rfl rfl (by decide) tb_418 rfl dX11_pour_68 ?_
                refine lv_aload hx hb dX11_pour_71 (lv_at hl 0 rfl) ?_
                refine xget (i := 4) (j := 0) (k := 2) (T := TX8) hx hb ht tb_iX8 hown hX hP.1 rfl rfl rfl (by decide) tb_418 rfl dX11_pour_73 ?_
                refine lv_icmp_eq (tgt := 86) hx hb dX11_pour_76 (by decide) (fun c_826 => ?_) (fun c_826 => ?_)
                · have h := it c_826 h
                  refine lv_aload hx hb dX11_pour_86 (lv_at hl 1 rfl) ?_
                  refine lv_iload_n hx hb dX11_pour_88 rfl (lv_at hl 4 rfl) ?_
                  refine lv_iload hx hb dX11_pour_89 (lv_at hl 7 rfl) ?_
                  obtain ⟨z_827, e_z_827, h⟩ := bi h
                  refine roVi (rest := []) ⟨hx, hb, hml, hown, ht⟩ (c_X8_hasPlaces l D cy fu A_y2 y2_row y2_missing y2_sort y2_many x2 x5 z_827 e_z_827) (cV ht mv_X8_hasPlaces tb_526 rfl rfl ⟨Nat.le_of_ble_eq_true rfl, Nat.le_of_ble_eq_true rfl⟩) (P_sub hP.1 [4] rfl) hX rfl rfl rfl hl.1 rfl (Nat.le_of_ble_eq_true rfl) dX11_pour_91 ⟨Nat.le_of_ble_eq_true rfl, Nat.le_of_ble_eq_true rfl⟩ ?_
                  refine lv_if_eq (tgt := 109) hx hb dX11_pour_94 (by decide) (fun c_828 => ?_) (fun c_828 => ?_)
                  · have h := it c_828 h
                    refine lv_aload_n hx hb dX11_pour_109 rfl (lv_at hl 2 rfl) ?_
                    refine lv_iconst (v := 3) hx hb dX11_pour_110 (by decide) ?_
                    obtain ⟨z_829, e_z_829, h⟩ := bi h
                    refine efVi (rest := []) ⟨hx, hb, hml, hown, ht⟩ (c_X11_deny l D cy fu A_b (A_T 0) r_b_army r_b_war r_b_draftArmy r_b_draftWar r_b_reader r_b_armyReader r_b_warReader r_b_markedArmies r_b_markedWars r_b_latest r_b_trial r_b_foresight r_b_pairs b_latestStatus b_fractionTop b_fractionBottom b_marks 3 z_829 e_z_829 _ rfl _ rfl) (cV ht mv_X11_deny tb_507 rfl rfl ⟨Nat.le_of_ble_eq_true rfl, Nat.le_of_ble_eq_true rfl⟩) hP hS hX [0] rfl rfl rfl rfl rfl rfl hl.1 rfl (Nat.le_of_ble_eq_true rfl) dX11_pour_111 ⟨Nat.le_of_ble_eq_true rfl, Nat.le_of_ble_eq_true rfl⟩ (fun H locs hP hS => ?_)
                    have hP : PD D A [bl_X11 cy A_b (A_T 0) r_b_army r_b_war r_b_draftArmy r_b_draftWar r_b_reader r_b_armyReader r_b_warReader r_b_markedArmies r_b_markedWars r_b_latest r_b_trial r_b_foresight r_b_pairs z_829.2 b_fractionTop b_fractionBottom b_marks, [(A_T 0, .inl (cy 4, 4, .inr (.inr (.inr (.inr (trf4 (A_y0 0) (A_y1 0) (A_y2 0) (A_y3 0)))))))], bl_X8 cy A_y0 y0_row y0_missing y0_sort y0_many, bl_X8 cy A_y1 y1_row y1_missing y1_sort y1_many, bl_X8 cy A_y2 y2_row y2_missing y2_sort y2_many, bl_X8 cy A_y3 y3_row y3_missing y3_sort y3_many] H := hP
                    obtain ⟨b_830, e_b_830, h⟩ := bi h
                    obtain ⟨-, n_b_830, -⟩ := bz_ok e_b_830
                    cases h
                    subst hW1
                    exact W.zret hx hb hr n_b_830 (fun _ ht9 _ => ⟨⟨_, (), rfl, rfl, hPt ht9 hP.1⟩, hS.F ht9⟩) hS.2.2 dX11_pour_114
                  · have h := ie c_828 h
                    refine lv_aload hx hb dX11_pour_97 (lv_at hl 0 rfl) ?_
                    refine lv_iload hx hb dX11_pour_99 (lv_at hl 6 rfl) ?_
                    refine lv_iload hx hb dX11_pour_101 (lv_at hl 7 rfl) ?_
                    obtain ⟨z_831, e_z_831, h⟩ := bi h
                    refine roVi (rest := []) ⟨hx, hb, hml, hown, ht⟩ (c_X8_hasPlaces l D cy fu A_y2 y2_row y2_missing y2_sort y2_many x4 x5 z_831 e_z_831) (cV ht mv_X8_hasPlaces tb_526 rfl rfl ⟨Nat.le_of_ble_eq_true rfl, Nat.le_of_ble_eq_true rfl⟩) (P_sub hP.1 [4] rfl) hX rfl rfl rfl hl.1 rfl (Nat.le_of_ble_eq_true rfl) dX11_pour_103 ⟨Nat.le_of_ble_eq_true rfl, Nat.le_of_ble_eq_true rfl⟩ ?_
                    refine lv_if_ne (tgt := 115) hx hb dX11_pour_106 (by decide) (fun c_832 => ?_) (fun c_832 => ?_)
                    · have h := ie c_832 h
                      refine lv_aload hx hb dX11_pour_115 (lv_at hl 1 rfl) ?_
                      refine xget (i := 4) (j := 0) (k := 0) (T := TX8) hx hb ht tb_iX8 hown hX hP.1 rfl rfl rfl (by decide) tb_414 rfl dX11_pour_117 ?_
                      refine lv_iload_n hx hb dX11_pour_120 rfl (lv_at hl 4 rfl) ?_
                      refine lv_aload hx hb dX11_pour_121 (lv_at hl 0 rfl) ?_
                      refine xget (i := 4) (j := 0) (k := 0) (T := TX8) hx hb ht tb_iX8 hown hX hP.1 rfl rfl rfl (by decide) tb_414 rfl dX11_pour_123 ?_
                      refine lv_iload hx hb dX11_pour_126 (lv_at hl 6 rfl) ?_
                      refine lv_iload hx hb dX11_pour_128 (lv_at hl 7 rfl) ?_
                      obtain ⟨y2_row_833, e_y2_row_833, h⟩ := bi h
                      refine xcpJ (i0 := 4) (j0 := 1) (i1 := 4) (j1 := 1) hx hb (hml.trans hl.1.symm) hown (ht _ tb_555) (ht _ tb_557) (ht _ tb_556) (ht _ tb_18) hX hP hS rfl rfl rfl rfl e_y2_row_833 (Nat.le_of_ble_eq_true rfl) (Nat.le_of_ble_eq_true rfl) dX11_pour_130 (fun H locs hP hS => ?_)
                      have hP : PD D A [bl_X11 cy A_b (A_T 0) r_b_army r_b_war r_b_draftArmy r_b_draftWar r_b_reader r_b_armyReader r_b_warReader r_b_markedArmies r_b_markedWars r_b_latest r_b_trial r_b_foresight r_b_pairs b_latestStatus b_fractionTop b_fractionBottom b_marks, [(A_T 0, .inl (cy 4, 4, .inr (.inr (.inr (.inr (trf4 (A_y0 0) (A_y1 0) (A_y2 0) (A_y3 0)))))))], bl_X8 cy A_y0 y0_row y0_missing y0_sort y0_many, bl_X8 cy A_y1 y1_row y1_missing y1_sort y1_many, bl_X8 cy A_y2 y2_row_833 y2_missing y2_sort y2_many, bl_X8 cy A_y3 y3_row y3_missing y3_sort y3_many] H := hP
                      refine lv_aload_n hx hb dX11_pour_133 rfl (lv_at hl 2 rfl) ?_
                      obtain ⟨z_834, e_z_834, h⟩ := bi h
                      refine efVi (rest := []) ⟨hx, hb, hml, hown, ht⟩ (c_X11_allow l D cy fu A_b (A_T 0) r_b_army r_b_war r_b_draftArmy r_b_draftWar r_b_reader r_b_armyReader r_b_warReader r_b_markedArmies r_b_markedWars r_b_latest r_b_trial r_b_foresight r_b_pairs b_latestStatus b_fractionTop b_fractionBottom b_marks z_834 e_z_834 _ rfl _ rfl) (cV ht mv_X11_allow tb_518 rfl rfl ⟨Nat.le_of_ble_eq_true rfl, Nat.le_of_ble_eq_true rfl⟩) hP hS hX [0] rfl rfl rfl rfl rfl rfl hl.1 rfl (Nat.le_of_ble_eq_true rfl) dX11_pour_134 ⟨Nat.le_of_ble_eq_true rfl, Nat.le_of_ble_eq_true rfl⟩ (fun H locs hP hS => ?_)
                      have hP : PD D A [bl_X11 cy A_b (A_T 0) r_b_army r_b_war r_b_draftArmy r_b_draftWar r_b_reader r_b_armyReader r_b_warReader r_b_markedArmies r_b_markedWars r_b_latest r_b_trial r_b_foresight r_b_pairs z_834.2 b_fractionTop b_fractionBottom b_marks, [(A_T 0, .inl (cy 4, 4, .inr (.inr (.inr (.inr (trf4 (A_y0 0) (A_y1 0) (A_y2 0) (A_y3 0)))))))], bl_X8 cy A_y0 y0_row y0_missing y0_sort y0_many, bl_X8 cy A_y1 y1_row y1_missing y1_sort y1_many, bl_X8 cy A_y2 y2_row_833 y2_missing y2_sort y2_many, bl_X8 cy A_y3 y3_row y3_missing y3_sort y3_many] H := hP
                      obtain ⟨b_835, e_b_835, h⟩ := bi h
                      obtain ⟨-, n_b_835, -⟩ := bz_ok e_b_835
                      cases h
                      subst hW1
                      exact W.zret hx hb hr n_b_835 (fun _ ht9 _ => ⟨⟨_, (), rfl, rfl, hPt ht9 hP.1⟩, hS.F ht9⟩) hS.2.2 dX11_pour_137
                    · have h := it c_832 h
                      refine lv_aload_n hx hb dX11_pour_109 rfl (lv_at hl 2 rfl) ?_
                      refine lv_iconst (v := 3) hx hb dX11_pour_110 (by decide) ?_
                      obtain ⟨z_836, e_z_836, h⟩ := bi h
                      refine efVi (rest := []) ⟨hx, hb, hml, hown, ht⟩ (c_X11_deny l D cy fu A_b (A_T 0) r_b_army r_b_war r_b_draftArmy r_b_draftWar r_b_reader r_b_armyReader r_b_warReader r_b_markedArmies r_b_markedWars r_b_latest r_b_trial r_b_foresight r_b_pairs b_latestStatus b_fractionTop b_fractionBottom b_marks 3 z_836 e_z_836 _ rfl _ rfl) (cV ht mv_X11_deny tb_507 rfl rfl ⟨Nat.le_of_ble_eq_true rfl, Nat.le_of_ble_eq_true rfl⟩) hP hS hX [0] rfl rfl rfl rfl rfl rfl hl.1 rfl (Nat.le_of_ble_eq_true rfl) dX11_pour_111 ⟨Nat.le_of_ble_eq_true rfl, Nat.le_of_ble_eq_true rfl⟩ (fun H locs hP hS => ?_)
                      have hP : PD D A [bl_X11 cy A_b (A_T 0) r_b_army r_b_war r_b_draftArmy r_b_draftWar r_b_reader r_b_armyReader r_b_warReader r_b_markedArmies r_b_markedWars r_b_latest r_b_trial r_b_foresight r_b_pairs z_836.2 b_fractionTop b_fractionBottom b_marks, [(A_T 0, .inl (cy 4, 4, .inr (.inr (.inr (.inr (trf4 (A_y0 0) (A_y1 0) (A_y2 0) (A_y3 0)))))))], bl_X8 cy A_y0 y0_row y0_missing y0_sort y0_many, bl_X8 cy A_y1 y1_row y1_missing y1_sort y1_many, bl_X8 cy A_y2 y2_row y2_missing y2_sort y2_many, bl_X8 cy A_y3 y3_row y3_missing y3_sort y3_many] H := hP
                      obtain ⟨b_837, e_b_837, h⟩ := bi h
                      obtain ⟨-, n_b_837, -⟩ := bz_ok e_b_837
                      cases h
                      subst hW1
                      exact W.zret hx hb hr n_b_837 (fun _ ht9 _ => ⟨⟨_, (), rfl, rfl, hPt ht9 hP.1⟩, hS.F ht9⟩) hS.2.2 dX11_pour_114
                · have h := ie c_826 h
                  refine lv_aload_n hx hb dX11_pour_79 rfl (lv_at hl 2 rfl) ?_
                  refine lv_bipush (v := 8) hx hb dX11_pour_80 (by decide) ?_
                  obtain ⟨z_838, e_z_838, h⟩ := bi h
                  refine efVi (rest := []) ⟨hx, hb, hml, hown, ht⟩ (c_X11_deny l D cy fu A_b (A_T 0) r_b_army r_b_war r_b_draftArmy r_b_draftWar r_b_reader r_b_armyReader r_b_warReader r_b_markedArmies r_b_markedWars r_b_latest r_b_trial r_b_foresight r_b_pairs b_latestStatus b_fractionTop b_fractionBottom b_marks 8 z_838 e_z_838 _ rfl _ rfl) (cV ht mv_X11_deny tb_507 rfl rfl ⟨Nat.le_of_ble_eq_true rfl, Nat.le_of_ble_eq_true rfl⟩) hP hS hX [0] rfl rfl rfl rfl rfl rfl hl.1 rfl (Nat.le_of_ble_eq_true rfl) dX11_pour_82 ⟨Nat.le_of_ble_eq_true rfl, Nat.le_of_ble_eq_true rfl⟩ (fun H locs hP hS => ?_)
                  have hP : PD D A [bl_X11 cy A_b (A_T 0) r_b_army r_b_war r_b_draftArmy r_b_draftWar r_b_reader r_b_armyReader r_b_warReader r_b_markedArmies r_b_markedWars r_b_latest r_b_trial r_b_foresight r_b_pairs z_838.2 b_fractionTop b_fractionBottom b_marks, [(A_T 0, .inl (cy 4, 4, .inr (.inr (.inr (.inr (trf4 (A_y0 0) (A_y1 0) (A_y2 0) (A_y3 0)))))))], bl_X8 cy A_y0 y0_row y0_missing y0_sort y0_many, bl_X8 cy A_y1 y1_row y1_missing y1_sort y1_many, bl_X8 cy A_y2 y2_row y2_missing y2_sort y2_many, bl_X8 cy A_y3 y3_row y3_missing y3_sort y3_many] H := hP
                  obtain ⟨b_839, e_b_839, h⟩ := bi h
                  obtain ⟨-, n_b_839, -⟩ := bz_ok e_b_839
                  cases h
                  subst hW1
                  exact W.zret hx hb hr n_b_839 (fun _ ht9 _ => ⟨⟨_, (), rfl, rfl, hPt ht9 hP.1⟩, hS.F ht9⟩) hS.2.2 dX11_pour_85
              · have h := ie c_825 h
                refine lv_aload_n hx hb dX11_pour_60 rfl (lv_at hl 2 rfl) ?_
                refine lv_iconst (v := 2) hx hb dX11_pour_61 (by decide) ?_
                obtain ⟨z_840, e_z_840, h⟩ := bi h
                refine efVi (rest := []) ⟨hx, hb, hml, hown, ht⟩ (c_X11_deny l D cy fu A_b (A_T 0) r_b_army r_b_war r_b_draftArmy r_b_draftWar r_b_reader r_b_armyReader r_b_warReader r_b_markedArmies r_b_markedWars r_b_latest r_b_trial r_b_foresight r_b_pairs b_latestStatus b_fractionTop b_fractionBottom b_marks 2 z_840 e_z_840 _ rfl _ rfl) (cV ht mv_X11_deny tb_507 rfl rfl ⟨Nat.le_of_ble_eq_true rfl, Nat.le_of_ble_eq_true rfl⟩) hP hS hX [0] rfl rfl rfl rfl rfl rfl hl.1 rfl (Nat.le_of_ble_eq_true rfl) dX11_pour_62 ⟨Nat.le_of_ble_eq_true rfl, Nat.le_of_ble_eq_true rfl⟩ (fun H locs hP hS => ?_)
                have hP : PD D A [bl_X11 cy A_b (A_T 0) r_b_army r_b_war r_b_draftArmy r_b_draftWar r_b_reader r_b_armyReader r_b_warReader r_b_markedArmies r_b_markedWars r_b_latest r_b_trial r_b_foresight r_b_pairs z_840.2 b_fractionTop b_fractionBottom b_marks, [(A_T 0, .inl (cy 4, 4, .inr (.inr (.inr (.inr (trf4 (A_y0 0) (A_y1 0) (A_y2 0) (A_y3 0)))))))], bl_X8 cy A_y0 y0_row y0_missing y0_sort y0_many, bl_X8 cy A_y1 y1_row y1_missing y1_sort y1_many, bl_X8 cy A_y2 y2_row y2_missing y2_sort y2_many, bl_X8 cy A_y3 y3_row y3_missing y3_sort y3_many] H := hP
                obtain ⟨b_841, e_b_841, h⟩ := bi h
                obtain ⟨-, n_b_841, -⟩ := bz_ok e_b_841
                cases h
                subst hW1
                exact W.zret hx hb hr n_b_841 (fun _ ht9 _ => ⟨⟨_, (), rfl, rfl, hPt ht9 hP.1⟩, hS.F ht9⟩) hS.2.2 dX11_pour_65
          · have h := ie c_821 h
            refine lv_aload_n hx hb dX11_pour_38 rfl (lv_at hl 2 rfl) ?_
            refine lv_iconst (v := 1) hx hb dX11_pour_39 (by decide) ?_
            obtain ⟨z_842, e_z_842, h⟩ := bi h
            refine efVi (rest := []) ⟨hx, hb, hml, hown, ht⟩ (c_X11_deny l D cy fu A_b (A_T 0) r_b_army r_b_war r_b_draftArmy r_b_draftWar r_b_reader r_b_armyReader r_b_warReader r_b_markedArmies r_b_markedWars r_b_latest r_b_trial r_b_foresight r_b_pairs b_latestStatus b_fractionTop b_fractionBottom b_marks 1 z_842 e_z_842 _ rfl _ rfl) (cV ht mv_X11_deny tb_507 rfl rfl ⟨Nat.le_of_ble_eq_true rfl, Nat.le_of_ble_eq_true rfl⟩) hP hS hX [0] rfl rfl rfl rfl rfl rfl hl.1 rfl (Nat.le_of_ble_eq_true rfl) dX11_pour_40 ⟨Nat.le_of_ble_eq_true rfl, Nat.le_of_ble_eq_true rfl⟩ (fun H locs hP hS => ?_)
            have hP : PD D A [bl_X11 cy A_b (A_T 0) r_b_army r_b_war r_b_draftArmy r_b_draftWar r_b_reader r_b_armyReader r_b_warReader r_b_markedArmies r_b_markedWars r_b_latest r_b_trial r_b_foresight r_b_pairs z_842.2 b_fractionTop b_fractionBottom b_marks, [(A_T 0, .inl (cy 4, 4, .inr (.inr (.inr (.inr (trf4 (A_y0 0) (A_y1 0) (A_y2 0) (A_y3 0)))))))], bl_X8 cy A_y0 y0_row y0_missing y0_sort y0_many, bl_X8 cy A_y1 y1_row y1_missing y1_sort y1_many, bl_X8 cy A_y2 y2_row y2_missing y2_sort y2_many, bl_X8 cy A_y3 y3_row y3_missing y3_sort y3_many] H := hP
            obtain ⟨b_843, e_b_843, h⟩ := bi h
            obtain ⟨-, n_b_843, -⟩ := bz_ok e_b_843
            cases h
            subst hW1
            exact W.zret hx hb hr n_b_843 (fun _ ht9 _ => ⟨⟨_, (), rfl, rfl, hPt ht9 hP.1⟩, hS.F ht9⟩) hS.2.2 dX11_pour_43
    have h := ie c_814 h
    by_cases c_844 : x3 = 3
    · have h := it c_844 h
      refine roVq (rest := []) ⟨hx, hb, hml, hown, ht⟩ (c_X11_trayAt l D cy fu A_b r_b_army r_b_war r_b_draftArmy r_b_draftWar r_b_reader r_b_armyReader r_b_warReader r_b_markedArmies r_b_markedWars r_b_latest r_b_trial r_b_foresight r_b_pairs b_latestStatus b_fractionTop b_fractionBottom b_marks A_T (trf4 (A_y0 0) (A_y1 0) (A_y2 0) (A_y3 0)) x3 (some (A_y3 0)) (tray_3 c_844)) (cV ht mv_X11_trayAt tb_500 rfl rfl ⟨Nat.le_of_ble_eq_true rfl, Nat.le_of_ble_eq_true rfl⟩) (P_sub hP.1 [0, 1] rfl) hX rfl rfl rfl hl.1 rfl (Nat.le_of_ble_eq_true rfl) dX11_pour_9 ⟨Nat.le_of_ble_eq_true rfl, Nat.le_of_ble_eq_true rfl⟩ ?_
      refine lv_astore (lv' := [(7, .ref (A_y3 0)), (6, .ref (A_y2 0)), (0, .ref (A_b 0)), (1, .int x1), (2, .int x2), (3, .int x3), (4, .int x4), (5, .int x5)]) hx hb dX11_pour_12 hl (by decide) rfl (fun ls hl => ?_)
      refine lv_aload hx hb dX11_pour_14 (lv_at hl 1 rfl) ?_
      refine lv_ifnull hx hb dX11_pour_16 ?_
      refine lv_aload hx hb dX11_pour_19 (lv_at hl 0 rfl) ?_
      refine lv_ifnull hx hb dX11_pour_21 ?_
      refine lv_iload_n hx hb dX11_pour_24 rfl (lv_at hl 4 rfl) ?_
      refine lv_if_lt (tgt := 38) hx hb dX11_pour_25 (by decide) (fun c_845 => ?_) (fun c_845 => ?_)
      · have h := it c_845 h
        refine lv_aload_n hx hb dX11_pour_38 rfl (lv_at hl 2 rfl) ?_
        refine lv_iconst (v := 1) hx hb dX11_pour_39 (by decide) ?_
        obtain ⟨z_846, e_z_846, h⟩ := bi h
        refine efVi (rest := []) ⟨hx, hb, hml, hown, ht⟩ (c_X11_deny l D cy fu A_b (A_T 0) r_b_army r_b_war r_b_draftArmy r_b_draftWar r_b_reader r_b_armyReader r_b_warReader r_b_markedArmies r_b_markedWars r_b_latest r_b_trial r_b_foresight r_b_pairs b_latestStatus b_fractionTop b_fractionBottom b_marks 1 z_846 e_z_846 _ rfl _ rfl) (cV ht mv_X11_deny tb_507 rfl rfl ⟨Nat.le_of_ble_eq_true rfl, Nat.le_of_ble_eq_true rfl⟩) hP hS hX [0] rfl rfl rfl rfl rfl rfl hl.1 rfl (Nat.le_of_ble_eq_true rfl) dX11_pour_40 ⟨Nat.le_of_ble_eq_true rfl, Nat.le_of_ble_eq_true rfl⟩ (fun H locs hP hS => ?_)
        have hP : PD D A [bl_X11 cy A_b (A_T 0) r_b_army r_b_war r_b_draftArmy r_b_draftWar r_b_reader r_b_armyReader r_b_warReader r_b_markedArmies r_b_markedWars r_b_latest r_b_trial r_b_foresight r_b_pairs z_846.2 b_fractionTop b_fractionBottom b_marks, [(A_T 0, .inl (cy 4, 4, .inr (.inr (.inr (.inr (trf4 (A_y0 0) (A_y1 0) (A_y2 0) (A_y3 0)))))))], bl_X8 cy A_y0 y0_row y0_missing y0_sort y0_many, bl_X8 cy A_y1 y1_row y1_missing y1_sort y1_many, bl_X8 cy A_y2 y2_row y2_missing y2_sort y2_many, bl_X8 cy A_y3 y3_row y3_missing y3_sort y3_many] H := hP
        obtain ⟨b_847, e_b_847, h⟩ := bi h
        obtain ⟨-, n_b_847, -⟩ := bz_ok e_b_847
        cases h
        subst hW1
        exact W.zret hx hb hr n_b_847 (fun _ ht9 _ => ⟨⟨_, (), rfl, rfl, hPt ht9 hP.1⟩, hS.F ht9⟩) hS.2.2 dX11_pour_43
      · have h := ie c_845 h
        refine lv_iload hx hb dX11_pour_28 (lv_at hl 6 rfl) ?_
        refine lv_if_lt (tgt := 38) hx hb dX11_pour_30 (by decide) (fun c_848 => ?_) (fun c_848 => ?_)
        · have h := it c_848 h
          refine lv_aload_n hx hb dX11_pour_38 rfl (lv_at hl 2 rfl) ?_
          refine lv_iconst (v := 1) hx hb dX11_pour_39 (by decide) ?_
          obtain ⟨z_849, e_z_849, h⟩ := bi h
          refine efVi (rest := []) ⟨hx, hb, hml, hown, ht⟩ (c_X11_deny l D cy fu A_b (A_T 0) r_b_army r_b_war r_b_draftArmy r_b_draftWar r_b_reader r_b_armyReader r_b_warReader r_b_markedArmies r_b_markedWars r_b_latest r_b_trial r_b_foresight r_b_pairs b_latestStatus b_fractionTop b_fractionBottom b_marks 1 z_849 e_z_849 _ rfl _ rfl) (cV ht mv_X11_deny tb_507 rfl rfl ⟨Nat.le_of_ble_eq_true rfl, Nat.le_of_ble_eq_true rfl⟩) hP hS hX [0] rfl rfl rfl rfl rfl rfl hl.1 rfl (Nat.le_of_ble_eq_true rfl) dX11_pour_40 ⟨Nat.le_of_ble_eq_true rfl, Nat.le_of_ble_eq_true rfl⟩ (fun H locs hP hS => ?_)
          have hP : PD D A [bl_X11 cy A_b (A_T 0) r_b_army r_b_war r_b_draftArmy r_b_draftWar r_b_reader r_b_armyReader r_b_warReader r_b_markedArmies r_b_markedWars r_b_latest r_b_trial r_b_foresight r_b_pairs z_849.2 b_fractionTop b_fractionBottom b_marks, [(A_T 0, .inl (cy 4, 4, .inr (.inr (.inr (.inr (trf4 (A_y0 0) (A_y1 0) (A_y2 0) (A_y3 0)))))))], bl_X8 cy A_y0 y0_row y0_missing y0_sort y0_many, bl_X8 cy A_y1 y1_row y1_missing y1_sort y1_many, bl_X8 cy A_y2 y2_row y2_missing y2_sort y2_many, bl_X8 cy A_y3 y3_row y3_missing y3_sort y3_many] H := hP
          obtain ⟨b_850, e_b_850, h⟩ := bi h
          obtain ⟨-, n_b_850, -⟩ := bz_ok e_b_850
          cases h
          subst hW1
          exact W.zret hx hb hr n_b_850 (fun _ ht9 _ => ⟨⟨_, (), rfl, rfl, hPt ht9 hP.1⟩, hS.F ht9⟩) hS.2.2 dX11_pour_43
        · have h := ie c_848 h
          refine lv_iload hx hb dX11_pour_33 (lv_at hl 7 rfl) ?_
          refine lv_if_ge (tgt := 44) hx hb dX11_pour_35 (by decide) (fun c_851 => ?_) (fun c_851 => ?_)
          · have h := it c_851 h
            refine lv_aload hx hb dX11_pour_44 (lv_at hl 1 rfl) ?_
            refine xget (i := 4) (j := 0) (k := 1) (T := TX8) hx hb ht tb_iX8 hown hX hP.1 rfl rfl rfl (by decide) tb_416 rfl dX11_pour_46 ?_
            refine lv_if_ne (tgt := 60) hx hb dX11_pour_49 (by decide) (fun c_852 => ?_) (fun c_852 => ?_)
            · have h := ie c_852 h
              refine lv_aload_n hx hb dX11_pour_60 rfl (lv_at hl 2 rfl) ?_
              refine lv_iconst (v := 2) hx hb dX11_pour_61 (by decide) ?_
              obtain ⟨z_853, e_z_853, h⟩ := bi h
              refine efVi (rest := []) ⟨hx, hb, hml, hown, ht⟩ (c_X11_deny l D cy fu A_b (A_T 0) r_b_army r_b_war r_b_draftArmy r_b_draftWar r_b_reader r_b_armyReader r_b_warReader r_b_markedArmies r_b_markedWars r_b_latest r_b_trial r_b_foresight r_b_pairs b_latestStatus b_fractionTop b_fractionBottom b_marks 2 z_853 e_z_853 _ rfl _ rfl) (cV ht mv_X11_deny tb_507 rfl rfl ⟨Nat.le_of_ble_eq_true rfl, Nat.le_of_ble_eq_true rfl⟩) hP hS hX [0] rfl rfl rfl rfl rfl rfl hl.1 rfl (Nat.le_of_ble_eq_true rfl) dX11_pour_62 ⟨Nat.le_of_ble_eq_true rfl, Nat.le_of_ble_eq_true rfl⟩ (fun H locs hP hS => ?_)
              have hP : PD D A [bl_X11 cy A_b (A_T 0) r_b_army r_b_war r_b_draftArmy r_b_draftWar r_b_reader r_b_armyReader r_b_warReader r_b_markedArmies r_b_markedWars r_b_latest r_b_trial r_b_foresight r_b_pairs z_853.2 b_fractionTop b_fractionBottom b_marks, [(A_T 0, .inl (cy 4, 4, .inr (.inr (.inr (.inr (trf4 (A_y0 0) (A_y1 0) (A_y2 0) (A_y3 0)))))))], bl_X8 cy A_y0 y0_row y0_missing y0_sort y0_many, bl_X8 cy A_y1 y1_row y1_missing y1_sort y1_many, bl_X8 cy A_y2 y2_row y2_missing y2_sort y2_many, bl_X8 cy A_y3 y3_row y3_missing y3_sort y3_many] H := hP
              obtain ⟨b_854, e_b_854, h⟩ := bi h
              obtain ⟨-, n_b_854, -⟩ := bz_ok e_b_854
              cases h
              subst hW1
              exact W.zret hx hb hr n_b_854 (fun _ ht9 _ => ⟨⟨_, (), rfl, rfl, hPt ht9 hP.1⟩, hS.F ht9⟩) hS.2.2 dX11_pour_65
            · have h := it c_852 h
              refine lv_aload hx hb dX11_pour_52 (lv_at hl 0 rfl) ?_
              refine xget (i := 5) (j := 0) (k := 1) (T := TX8) hx hb ht tb_iX8 hown hX hP.1 rfl rfl rfl (by decide) tb_416 rfl dX11_pour_54 ?_
              refine lv_if_eq (tgt := 66) hx hb dX11_pour_57 (by decide) (fun c_855 => ?_) (fun c_855 => ?_)
              · have h := it c_855 h
                refine lv_aload hx hb dX11_pour_66 (lv_at hl 1 rfl) ?_
                refine xget (i := 4) (j := 0) (k := 2) (T := TX8) hx hb ht tb_iX8 hown hX hP.1 rfl rfl rfl (by decide) tb_418 rfl dX11_pour_68 ?_
                refine lv_aload hx hb dX11_pour_71 (lv_at hl 0 rfl) ?_
                refine xget (i := 5) (j := 0) (k := 2) (T := TX8) hx hb ht tb_iX8 hown hX hP.1 rfl rfl rfl (by decide) tb_418 rfl dX11_pour_73 ?_
                refine lv_icmp_eq (tgt := 86) hx hb dX11_pour_76 (by decide) (fun c_856 => ?_) (fun c_856 => ?_)
                · have h := it c_856 h
                  refine lv_aload hx hb dX11_pour_86 (lv_at hl 1 rfl) ?_
                  refine lv_iload_n hx hb dX11_pour_88 rfl (lv_at hl 4 rfl) ?_
                  refine lv_iload hx hb dX11_pour_89 (lv_at hl 7 rfl) ?_
                  obtain ⟨z_857, e_z_857, h⟩ := bi h
                  refine roVi (rest := []) ⟨hx, hb, hml, hown, ht⟩ (c_X8_hasPlaces l D cy fu A_y2 y2_row y2_missing y2_sort y2_many x2 x5 z_857 e_z_857) (cV ht mv_X8_hasPlaces tb_526 rfl rfl ⟨Nat.le_of_ble_eq_true rfl, Nat.le_of_ble_eq_true rfl⟩) (P_sub hP.1 [4] rfl) hX rfl rfl rfl hl.1 rfl (Nat.le_of_ble_eq_true rfl) dX11_pour_91 ⟨Nat.le_of_ble_eq_true rfl, Nat.le_of_ble_eq_true rfl⟩ ?_
                  refine lv_if_eq (tgt := 109) hx hb dX11_pour_94 (by decide) (fun c_858 => ?_) (fun c_858 => ?_)
                  · have h := it c_858 h
                    refine lv_aload_n hx hb dX11_pour_109 rfl (lv_at hl 2 rfl) ?_
                    refine lv_iconst (v := 3) hx hb dX11_pour_110 (by decide) ?_
                    obtain ⟨z_859, e_z_859, h⟩ := bi h
                    refine efVi (rest := []) ⟨hx, hb, hml, hown, ht⟩ (c_X11_deny l D cy fu A_b (A_T 0) r_b_army r_b_war r_b_draftArmy r_b_draftWar r_b_reader r_b_armyReader r_b_warReader r_b_markedArmies r_b_markedWars r_b_latest r_b_trial r_b_foresight r_b_pairs b_latestStatus b_fractionTop b_fractionBottom b_marks 3 z_859 e_z_859 _ rfl _ rfl) (cV ht mv_X11_deny tb_507 rfl rfl ⟨Nat.le_of_ble_eq_true rfl, Nat.le_of_ble_eq_true rfl⟩) hP hS hX [0] rfl rfl rfl rfl rfl rfl hl.1 rfl (Nat.le_of_ble_eq_true rfl) dX11_pour_111 ⟨Nat.le_of_ble_eq_true rfl, Nat.le_of_ble_eq_true rfl⟩ (fun H locs hP hS => ?_)
                    have hP : PD D A [bl_X11 cy A_b (A_T 0) r_b_army r_b_war r_b_draftArmy r_b_draftWar r_b_reader r_b_armyReader r_b_warReader r_b_markedArmies r_b_markedWars r_b_latest r_b_trial r_b_foresight r_b_pairs z_859.2 b_fractionTop b_fractionBottom b_marks, [(A_T 0, .inl (cy 4, 4, .inr (.inr (.inr (.inr (trf4 (A_y0 0) (A_y1 0) (A_y2 0) (A_y3 0)))))))], bl_X8 cy A_y0 y0_row y0_missing y0_sort y0_many, bl_X8 cy A_y1 y1_row y1_missing y1_sort y1_many, bl_X8 cy A_y2 y2_row y2_missing y2_sort y2_many, bl_X8 cy A_y3 y3_row y3_missing y3_sort y3_many] H := hP
                    obtain ⟨b_860, e_b_860, h⟩ := bi h
                    obtain ⟨-, n_b_860, -⟩ := bz_ok e_b_860
                    cases h
                    subst hW1
                    exact W.zret hx hb hr n_b_860 (fun _ ht9 _ => ⟨⟨_, (), rfl, rfl, hPt ht9 hP.1⟩, hS.F ht9⟩) hS.2.2 dX11_pour_114
                  · have h := ie c_858 h
                    refine lv_aload hx hb dX11_pour_97 (lv_at hl 0 rfl) ?_
                    refine lv_iload hx hb dX11_pour_99 (lv_at hl 6 rfl) ?_
                    refine lv_iload hx hb dX11_pour_101 (lv_at hl 7 rfl) ?_
                    obtain ⟨z_861, e_z_861, h⟩ := bi h
                    refine roVi (rest := []) ⟨hx, hb, hml, hown, ht⟩ (c_X8_hasPlaces l D cy fu A_y3 y3_row y3_missing y3_sort y3_many x4 x5 z_861 e_z_861) (cV ht mv_X8_hasPlaces tb_526 rfl rfl ⟨Nat.le_of_ble_eq_true rfl, Nat.le_of_ble_eq_true rfl⟩) (P_sub hP.1 [5] rfl) hX rfl rfl rfl hl.1 rfl (Nat.le_of_ble_eq_true rfl) dX11_pour_103 ⟨Nat.le_of_ble_eq_true rfl, Nat.le_of_ble_eq_true rfl⟩ ?_
                    refine lv_if_ne (tgt := 115) hx hb dX11_pour_106 (by decide) (fun c_862 => ?_) (fun c_862 => ?_)
                    · have h := ie c_862 h
                      refine lv_aload hx hb dX11_pour_115 (lv_at hl 1 rfl) ?_
                      refine xget (i := 4) (j := 0) (k := 0) (T := TX8) hx hb ht tb_iX8 hown hX hP.1 rfl rfl rfl (by decide) tb_414 rfl dX11_pour_117 ?_
                      refine lv_iload_n hx hb dX11_pour_120 rfl (lv_at hl 4 rfl) ?_
                      refine lv_aload hx hb dX11_pour_121 (lv_at hl 0 rfl) ?_
                      refine xget (i := 5) (j := 0) (k := 0) (T := TX8) hx hb ht tb_iX8 hown hX hP.1 rfl rfl rfl (by decide) tb_414 rfl dX11_pour_123 ?_
                      refine lv_iload hx hb dX11_pour_126 (lv_at hl 6 rfl) ?_
                      refine lv_iload hx hb dX11_pour_128 (lv_at hl 7 rfl) ?_
                      obtain ⟨y3_row_863, e_y3_row_863, h⟩ := bi h
                      refine xcpJ (i0 := 4) (j0 := 1) (i1 := 5) (j1 := 1) hx hb (hml.trans hl.1.symm) hown (ht _ tb_555) (ht _ tb_557) (ht _ tb_556) (ht _ tb_18) hX hP hS rfl rfl rfl rfl e_y3_row_863 (Nat.le_of_ble_eq_true rfl) (Nat.le_of_ble_eq_true rfl) dX11_pour_130 (fun H locs hP hS => ?_)
                      have hP : PD D A [bl_X11 cy A_b (A_T 0) r_b_army r_b_war r_b_draftArmy r_b_draftWar r_b_reader r_b_armyReader r_b_warReader r_b_markedArmies r_b_markedWars r_b_latest r_b_trial r_b_foresight r_b_pairs b_latestStatus b_fractionTop b_fractionBottom b_marks, [(A_T 0, .inl (cy 4, 4, .inr (.inr (.inr (.inr (trf4 (A_y0 0) (A_y1 0) (A_y2 0) (A_y3 0)))))))], bl_X8 cy A_y0 y0_row y0_missing y0_sort y0_many, bl_X8 cy A_y1 y1_row y1_missing y1_sort y1_many, bl_X8 cy A_y2 y2_row y2_missing y2_sort y2_many, bl_X8 cy A_y3 y3_row_863 y3_missing y3_sort y3_many] H := hP
                      refine lv_aload_n hx hb dX11_pour_133 rfl (lv_at hl 2 rfl) ?_
                      obtain ⟨z_864, e_z_864, h⟩ := bi h
                      refine efVi (rest := []) ⟨hx, hb, hml, hown, ht⟩ (c_X11_allow l D cy fu A_b (A_T 0) r_b_army r_b_war r_b_draftArmy r_b_draftWar r_b_reader r_b_armyReader r_b_warReader r_b_markedArmies r_b_markedWars r_b_latest r_b_trial r_b_foresight r_b_pairs b_latestStatus b_fractionTop b_fractionBottom b_marks z_864 e_z_864 _ rfl _ rfl) (cV ht mv_X11_allow tb_518 rfl rfl ⟨Nat.le_of_ble_eq_true rfl, Nat.le_of_ble_eq_true rfl⟩) hP hS hX [0] rfl rfl rfl rfl rfl rfl hl.1 rfl (Nat.le_of_ble_eq_true rfl) dX11_pour_134 ⟨Nat.le_of_ble_eq_true rfl, Nat.le_of_ble_eq_true rfl⟩ (fun H locs hP hS => ?_)
                      have hP : PD D A [bl_X11 cy A_b (A_T 0) r_b_army r_b_war r_b_draftArmy r_b_draftWar r_b_reader r_b_armyReader r_b_warReader r_b_markedArmies r_b_markedWars r_b_latest r_b_trial r_b_foresight r_b_pairs z_864.2 b_fractionTop b_fractionBottom b_marks, [(A_T 0, .inl (cy 4, 4, .inr (.inr (.inr (.inr (trf4 (A_y0 0) (A_y1 0) (A_y2 0) (A_y3 0)))))))], bl_X8 cy A_y0 y0_row y0_missing y0_sort y0_many, bl_X8 cy A_y1 y1_row y1_missing y1_sort y1_many, bl_X8 cy A_y2 y2_row y2_missing y2_sort y2_many, bl_X8 cy A_y3 y3_row_863 y3_missing y3_sort y3_many] H := hP
                      obtain ⟨b_865, e_b_865, h⟩ := bi h
                      obtain ⟨-, n_b_865, -⟩ := bz_ok e_b_865
                      cases h
                      subst hW1
                      exact W.zret hx hb hr n_b_865 (fun _ ht9 _ => ⟨⟨_, (), rfl, rfl, hPt ht9 hP.1⟩, hS.F ht9⟩) hS.2.2 dX11_pour_137
                    · have h := it c_862 h
                      refine lv_aload_n hx hb dX11_pour_109 rfl (lv_at hl 2 rfl) ?_
                      refine lv_iconst (v := 3) hx hb dX11_pour_110 (by decide) ?_
                      obtain ⟨z_866, e_z_866, h⟩ := bi h
                      refine efVi (rest := []) ⟨hx, hb, hml, hown, ht⟩ (c_X11_deny l D cy fu A_b (A_T 0) r_b_army r_b_war r_b_draftArmy r_b_draftWar r_b_reader r_b_armyReader r_b_warReader r_b_markedArmies r_b_markedWars r_b_latest r_b_trial r_b_foresight r_b_pairs b_latestStatus b_fractionTop b_fractionBottom b_marks 3 z_866 e_z_866 _ rfl _ rfl) (cV ht mv_X11_deny tb_507 rfl rfl ⟨Nat.le_of_ble_eq_true rfl, Nat.le_of_ble_eq_true rfl⟩) hP hS hX [0] rfl rfl rfl rfl rfl rfl hl.1 rfl (Nat.le_of_ble_eq_true rfl) dX11_pour_111 ⟨Nat.le_of_ble_eq_true rfl, Nat.le_of_ble_eq_true rfl⟩ (fun H locs hP hS => ?_)
                      have hP : PD D A [bl_X11 cy A_b (A_T 0) r_b_army r_b_war r_b_draftArmy r_b_draftWar r_b_reader r_b_armyReader r_b_warReader r_b_markedArmies r_b_markedWars r_b_latest r_b_trial r_b_foresight r_b_pairs z_866.2 b_fractionTop b_fractionBottom b_marks, [(A_T 0, .inl (cy 4, 4, .inr (.inr (.inr (.inr (trf4 (A_y0 0) (A_y1 0) (A_y2 0) (A_y3 0)))))))], bl_X8 cy A_y0 y0_row y0_missing y0_sort y0_many, bl_X8 cy A_y1 y1_row y1_missing y1_sort y1_many, bl_X8 cy A_y2 y2_row y2_missing y2_sort y2_many, bl_X8 cy A_y3 y3_row y3_missing y3_sort y3_many] H := hP
                      obtain ⟨b_867, e_b_867, h⟩ := bi h
                      obtain ⟨-, n_b_867, -⟩ := bz_ok e_b_867
                      cases h
                      subst hW1
                      exact W.zret hx hb hr n_b_867 (fun _ ht9 _ => ⟨⟨_, (), rfl, rfl, hPt ht9 hP.1⟩, hS.F ht9⟩) hS.2.2 dX11_pour_114
                · have h := ie c_856 h
                  refine lv_aload_n hx hb dX11_pour_79 rfl (lv_at hl 2 rfl) ?_
                  refine lv_bipush (v := 8) hx hb dX11_pour_80 (by decide) ?_
                  obtain ⟨z_868, e_z_868, h⟩ := bi h
                  refine efVi (rest := []) ⟨hx, hb, hml, hown, ht⟩ (c_X11_deny l D cy fu A_b (A_T 0) r_b_army r_b_war r_b_draftArmy r_b_draftWar r_b_reader r_b_armyReader r_b_warReader r_b_markedArmies r_b_markedWars r_b_latest r_b_trial r_b_foresight r_b_pairs b_latestStatus b_fractionTop b_fractionBottom b_marks 8 z_868 e_z_868 _ rfl _ rfl) (cV ht mv_X11_deny tb_507 rfl rfl ⟨Nat.le_of_ble_eq_true rfl, Nat.le_of_ble_eq_true rfl⟩) hP hS hX [0] rfl rfl rfl rfl rfl rfl hl.1 rfl (Nat.le_of_ble_eq_true rfl) dX11_pour_82 ⟨Nat.le_of_ble_eq_true rfl, Nat.le_of_ble_eq_true rfl⟩ (fun H locs hP hS => ?_)
                  have hP : PD D A [bl_X11 cy A_b (A_T 0) r_b_army r_b_war r_b_draftArmy r_b_draftWar r_b_reader r_b_armyReader r_b_warReader r_b_markedArmies r_b_markedWars r_b_latest r_b_trial r_b_foresight r_b_pairs z_868.2 b_fractionTop b_fractionBottom b_marks, [(A_T 0, .inl (cy 4, 4, .inr (.inr (.inr (.inr (trf4 (A_y0 0) (A_y1 0) (A_y2 0) (A_y3 0)))))))], bl_X8 cy A_y0 y0_row y0_missing y0_sort y0_many, bl_X8 cy A_y1 y1_row y1_missing y1_sort y1_many, bl_X8 cy A_y2 y2_row y2_missing y2_sort y2_many, bl_X8 cy A_y3 y3_row y3_missing y3_sort y3_many] H := hP
                  obtain ⟨b_869, e_b_869, h⟩ := bi h
                  obtain ⟨-, n_b_869, -⟩ := bz_ok e_b_869
                  cases h
                  subst hW1
                  exact W.zret hx hb hr n_b_869 (fun _ ht9 _ => ⟨⟨_, (), rfl, rfl, hPt ht9 hP.1⟩, hS.F ht9⟩) hS.2.2 dX11_pour_85
              · have h := ie c_855 h
                refine lv_aload_n hx hb dX11_pour_60 rfl (lv_at hl 2 rfl) ?_
                refine lv_iconst (v := 2) hx hb dX11_pour_61 (by decide) ?_
                obtain ⟨z_870, e_z_870, h⟩ := bi h
                refine efVi (rest := []) ⟨hx, hb, hml, hown, ht⟩ (c_X11_deny l D cy fu A_b (A_T 0) r_b_army r_b_war r_b_draftArmy r_b_draftWar r_b_reader r_b_armyReader r_b_warReader r_b_markedArmies r_b_markedWars r_b_latest r_b_trial r_b_foresight r_b_pairs b_latestStatus b_fractionTop b_fractionBottom b_marks 2 z_870 e_z_870 _ rfl _ rfl) (cV ht mv_X11_deny tb_507 rfl rfl ⟨Nat.le_of_ble_eq_true rfl, Nat.le_of_ble_eq_true rfl⟩) hP hS hX [0] rfl rfl rfl rfl rfl rfl hl.1 rfl (Nat.le_of_ble_eq_true rfl) dX11_pour_62 ⟨Nat.le_of_ble_eq_true rfl, Nat.le_of_ble_eq_true rfl⟩ (fun H locs hP hS => ?_)
                have hP : PD D A [bl_X11 cy A_b (A_T 0) r_b_army r_b_war r_b_draftArmy r_b_draftWar r_b_reader r_b_armyReader r_b_warReader r_b_markedArmies r_b_markedWars r_b_latest r_b_trial r_b_foresight r_b_pairs z_870.2 b_fractionTop b_fractionBottom b_marks, [(A_T 0, .inl (cy 4, 4, .inr (.inr (.inr (.inr (trf4 (A_y0 0) (A_y1 0) (A_y2 0) (A_y3 0)))))))], bl_X8 cy A_y0 y0_row y0_missing y0_sort y0_many, bl_X8 cy A_y1 y1_row y1_missing y1_sort y1_many, bl_X8 cy A_y2 y2_row y2_missing y2_sort y2_many, bl_X8 cy A_y3 y3_row y3_missing y3_sort y3_many] H := hP
                obtain ⟨b_871, e_b_871, h⟩ := bi h
                obtain ⟨-, n_b_871, -⟩ := bz_ok e_b_871
                cases h
                subst hW1
                exact W.zret hx hb hr n_b_871 (fun _ ht9 _ => ⟨⟨_, (), rfl, rfl, hPt ht9 hP.1⟩, hS.F ht9⟩) hS.2.2 dX11_pour_65
          · have h := ie c_851 h
            refine lv_aload_n hx hb dX11_pour_38 rfl (lv_at hl 2 rfl) ?_
            refine lv_iconst (v := 1) hx hb dX11_pour_39 (by decide) ?_
            obtain ⟨z_872, e_z_872, h⟩ := bi h
            refine efVi (rest := []) ⟨hx, hb, hml, hown, ht⟩ (c_X11_deny l D cy fu A_b (A_T 0) r_b_army r_b_war r_b_draftArmy r_b_draftWar r_b_reader r_b_armyReader r_b_warReader r_b_markedArmies r_b_markedWars r_b_latest r_b_trial r_b_foresight r_b_pairs b_latestStatus b_fractionTop b_fractionBottom b_marks 1 z_872 e_z_872 _ rfl _ rfl) (cV ht mv_X11_deny tb_507 rfl rfl ⟨Nat.le_of_ble_eq_true rfl, Nat.le_of_ble_eq_true rfl⟩) hP hS hX [0] rfl rfl rfl rfl rfl rfl hl.1 rfl (Nat.le_of_ble_eq_true rfl) dX11_pour_40 ⟨Nat.le_of_ble_eq_true rfl, Nat.le_of_ble_eq_true rfl⟩ (fun H locs hP hS => ?_)
            have hP : PD D A [bl_X11 cy A_b (A_T 0) r_b_army r_b_war r_b_draftArmy r_b_draftWar r_b_reader r_b_armyReader r_b_warReader r_b_markedArmies r_b_markedWars r_b_latest r_b_trial r_b_foresight r_b_pairs z_872.2 b_fractionTop b_fractionBottom b_marks, [(A_T 0, .inl (cy 4, 4, .inr (.inr (.inr (.inr (trf4 (A_y0 0) (A_y1 0) (A_y2 0) (A_y3 0)))))))], bl_X8 cy A_y0 y0_row y0_missing y0_sort y0_many, bl_X8 cy A_y1 y1_row y1_missing y1_sort y1_many, bl_X8 cy A_y2 y2_row y2_missing y2_sort y2_many, bl_X8 cy A_y3 y3_row y3_missing y3_sort y3_many] H := hP
            obtain ⟨b_873, e_b_873, h⟩ := bi h
            obtain ⟨-, n_b_873, -⟩ := bz_ok e_b_873
            cases h
            subst hW1
            exact W.zret hx hb hr n_b_873 (fun _ ht9 _ => ⟨⟨_, (), rfl, rfl, hPt ht9 hP.1⟩, hS.F ht9⟩) hS.2.2 dX11_pour_43
    have h := ie c_844 h
    refine roVq (rest := []) ⟨hx, hb, hml, hown, ht⟩ (c_X11_trayAt l D cy fu A_b r_b_army r_b_war r_b_draftArmy r_b_draftWar r_b_reader r_b_armyReader r_b_warReader r_b_markedArmies r_b_markedWars r_b_latest r_b_trial r_b_foresight r_b_pairs b_latestStatus b_fractionTop b_fractionBottom b_marks A_T (trf4 (A_y0 0) (A_y1 0) (A_y2 0) (A_y3 0)) x3 (none) (tray_out ⟨c_754, c_784, c_814, c_844⟩)) (cV ht mv_X11_trayAt tb_500 rfl rfl ⟨Nat.le_of_ble_eq_true rfl, Nat.le_of_ble_eq_true rfl⟩) (P_sub hP.1 [0, 1] rfl) hX rfl rfl rfl hl.1 rfl (Nat.le_of_ble_eq_true rfl) dX11_pour_9 ⟨Nat.le_of_ble_eq_true rfl, Nat.le_of_ble_eq_true rfl⟩ ?_
    refine lv_astoreN (lv' := [(7, .null), (6, .ref (A_y2 0)), (0, .ref (A_b 0)), (1, .int x1), (2, .int x2), (3, .int x3), (4, .int x4), (5, .int x5)]) hx hb dX11_pour_12 hl (by decide) rfl (fun ls hl => ?_)
    refine lv_aload hx hb dX11_pour_14 (lv_at hl 1 rfl) ?_
    refine lv_ifnull hx hb dX11_pour_16 ?_
    refine lv_aloadN hx hb dX11_pour_19 (lv_at hl 0 rfl) ?_
    refine lv_ifnullN (tgt := 38) hx hb dX11_pour_21 (by decide) ?_
    refine lv_aload_n hx hb dX11_pour_38 rfl (lv_at hl 2 rfl) ?_
    refine lv_iconst (v := 1) hx hb dX11_pour_39 (by decide) ?_
    obtain ⟨z_874, e_z_874, h⟩ := bi h
    refine efVi (rest := []) ⟨hx, hb, hml, hown, ht⟩ (c_X11_deny l D cy fu A_b (A_T 0) r_b_army r_b_war r_b_draftArmy r_b_draftWar r_b_reader r_b_armyReader r_b_warReader r_b_markedArmies r_b_markedWars r_b_latest r_b_trial r_b_foresight r_b_pairs b_latestStatus b_fractionTop b_fractionBottom b_marks 1 z_874 e_z_874 _ rfl _ rfl) (cV ht mv_X11_deny tb_507 rfl rfl ⟨Nat.le_of_ble_eq_true rfl, Nat.le_of_ble_eq_true rfl⟩) hP hS hX [0] rfl rfl rfl rfl rfl rfl hl.1 rfl (Nat.le_of_ble_eq_true rfl) dX11_pour_40 ⟨Nat.le_of_ble_eq_true rfl, Nat.le_of_ble_eq_true rfl⟩ (fun H locs hP hS => ?_)
    have hP : PD D A [bl_X11 cy A_b (A_T 0) r_b_army r_b_war r_b_draftArmy r_b_draftWar r_b_reader r_b_armyReader r_b_warReader r_b_markedArmies r_b_markedWars r_b_latest r_b_trial r_b_foresight r_b_pairs z_874.2 b_fractionTop b_fractionBottom b_marks, [(A_T 0, .inl (cy 4, 4, .inr (.inr (.inr (.inr (trf4 (A_y0 0) (A_y1 0) (A_y2 0) (A_y3 0)))))))], bl_X8 cy A_y0 y0_row y0_missing y0_sort y0_many, bl_X8 cy A_y1 y1_row y1_missing y1_sort y1_many, bl_X8 cy A_y2 y2_row y2_missing y2_sort y2_many, bl_X8 cy A_y3 y3_row y3_missing y3_sort y3_many] H := hP
    obtain ⟨b_875, e_b_875, h⟩ := bi h
    obtain ⟨-, n_b_875, -⟩ := bz_ok e_b_875
    cases h
    subst hW1
    exact W.zret hx hb hr n_b_875 (fun _ ht9 _ => ⟨⟨_, (), rfl, rfl, hPt ht9 hP.1⟩, hS.F ht9⟩) hS.2.2 dX11_pour_43
  have h := ie c_753 h
  by_cases c_876 : x1 = 3
  · have h := it c_876 h
    refine roVq (rest := []) ⟨hx, hb, hml, hown, ht⟩ (c_X11_trayAt l D cy fu A_b r_b_army r_b_war r_b_draftArmy r_b_draftWar r_b_reader r_b_armyReader r_b_warReader r_b_markedArmies r_b_markedWars r_b_latest r_b_trial r_b_foresight r_b_pairs b_latestStatus b_fractionTop b_fractionBottom b_marks A_T (trf4 (A_y0 0) (A_y1 0) (A_y2 0) (A_y3 0)) x1 (some (A_y3 0)) (tray_3 c_876)) (cV ht mv_X11_trayAt tb_500 rfl rfl ⟨Nat.le_of_ble_eq_true rfl, Nat.le_of_ble_eq_true rfl⟩) (P_sub hP.1 [0, 1] rfl) hX rfl rfl rfl hl.1 rfl (Nat.le_of_ble_eq_true rfl) dX11_pour_2 ⟨Nat.le_of_ble_eq_true rfl, Nat.le_of_ble_eq_true rfl⟩ ?_
    refine lv_astore (lv' := [(6, .ref (A_y3 0)), (0, .ref (A_b 0)), (1, .int x1), (2, .int x2), (3, .int x3), (4, .int x4), (5, .int x5)]) hx hb dX11_pour_5 hl (by decide) rfl (fun ls hl => ?_)
    refine lv_aload_n hx hb dX11_pour_7 rfl (lv_at hl 1 rfl) ?_
    refine lv_iload_n hx hb dX11_pour_8 rfl (lv_at hl 4 rfl) ?_
    by_cases c_877 : x3 = 0
    · have h := it c_877 h
      refine roVq (rest := []) ⟨hx, hb, hml, hown, ht⟩ (c_X11_trayAt l D cy fu A_b r_b_army r_b_war r_b_draftArmy r_b_draftWar r_b_reader r_b_armyReader r_b_warReader r_b_markedArmies r_b_markedWars r_b_latest r_b_trial r_b_foresight r_b_pairs b_latestStatus b_fractionTop b_fractionBottom b_marks A_T (trf4 (A_y0 0) (A_y1 0) (A_y2 0) (A_y3 0)) x3 (some (A_y0 0)) (tray_0 c_877)) (cV ht mv_X11_trayAt tb_500 rfl rfl ⟨Nat.le_of_ble_eq_true rfl, Nat.le_of_ble_eq_true rfl⟩) (P_sub hP.1 [0, 1] rfl) hX rfl rfl rfl hl.1 rfl (Nat.le_of_ble_eq_true rfl) dX11_pour_9 ⟨Nat.le_of_ble_eq_true rfl, Nat.le_of_ble_eq_true rfl⟩ ?_
      refine lv_astore (lv' := [(7, .ref (A_y0 0)), (6, .ref (A_y3 0)), (0, .ref (A_b 0)), (1, .int x1), (2, .int x2), (3, .int x3), (4, .int x4), (5, .int x5)]) hx hb dX11_pour_12 hl (by decide) rfl (fun ls hl => ?_)
      refine lv_aload hx hb dX11_pour_14 (lv_at hl 1 rfl) ?_
      refine lv_ifnull hx hb dX11_pour_16 ?_
      refine lv_aload hx hb dX11_pour_19 (lv_at hl 0 rfl) ?_
      refine lv_ifnull hx hb dX11_pour_21 ?_
      refine lv_iload_n hx hb dX11_pour_24 rfl (lv_at hl 4 rfl) ?_
      refine lv_if_lt (tgt := 38) hx hb dX11_pour_25 (by decide) (fun c_878 => ?_) (fun c_878 => ?_)
      · have h := it c_878 h
        refine lv_aload_n hx hb dX11_pour_38 rfl (lv_at hl 2 rfl) ?_
        refine lv_iconst (v := 1) hx hb dX11_pour_39 (by decide) ?_
        obtain ⟨z_879, e_z_879, h⟩ := bi h
        refine efVi (rest := []) ⟨hx, hb, hml, hown, ht⟩ (c_X11_deny l D cy fu A_b (A_T 0) r_b_army r_b_war r_b_draftArmy r_b_draftWar r_b_reader r_b_armyReader r_b_warReader r_b_markedArmies r_b_markedWars r_b_latest r_b_trial r_b_foresight r_b_pairs b_latestStatus b_fractionTop b_fractionBottom b_marks 1 z_879 e_z_879 _ rfl _ rfl) (cV ht mv_X11_deny tb_507 rfl rfl ⟨Nat.le_of_ble_eq_true rfl, Nat.le_of_ble_eq_true rfl⟩) hP hS hX [0] rfl rfl rfl rfl rfl rfl hl.1 rfl (Nat.le_of_ble_eq_true rfl) dX11_pour_40 ⟨Nat.le_of_ble_eq_true rfl, Nat.le_of_ble_eq_true rfl⟩ (fun H locs hP hS => ?_)
        have hP : PD D A [bl_X11 cy A_b (A_T 0) r_b_army r_b_war r_b_draftArmy r_b_draftWar r_b_reader r_b_armyReader r_b_warReader r_b_markedArmies r_b_markedWars r_b_latest r_b_trial r_b_foresight r_b_pairs z_879.2 b_fractionTop b_fractionBottom b_marks, [(A_T 0, .inl (cy 4, 4, .inr (.inr (.inr (.inr (trf4 (A_y0 0) (A_y1 0) (A_y2 0) (A_y3 0)))))))], bl_X8 cy A_y0 y0_row y0_missing y0_sort y0_many, bl_X8 cy A_y1 y1_row y1_missing y1_sort y1_many, bl_X8 cy A_y2 y2_row y2_missing y2_sort y2_many, bl_X8 cy A_y3 y3_row y3_missing y3_sort y3_many] H := hP
        obtain ⟨b_880, e_b_880, h⟩ := bi h
        obtain ⟨-, n_b_880, -⟩ := bz_ok e_b_880
        cases h
        subst hW1
        exact W.zret hx hb hr n_b_880 (fun _ ht9 _ => ⟨⟨_, (), rfl, rfl, hPt ht9 hP.1⟩, hS.F ht9⟩) hS.2.2 dX11_pour_43
      · have h := ie c_878 h
        refine lv_iload hx hb dX11_pour_28 (lv_at hl 6 rfl) ?_
        refine lv_if_lt (tgt := 38) hx hb dX11_pour_30 (by decide) (fun c_881 => ?_) (fun c_881 => ?_)
        · have h := it c_881 h
          refine lv_aload_n hx hb dX11_pour_38 rfl (lv_at hl 2 rfl) ?_
          refine lv_iconst (v := 1) hx hb dX11_pour_39 (by decide) ?_
          obtain ⟨z_882, e_z_882, h⟩ := bi h
          refine efVi (rest := []) ⟨hx, hb, hml, hown, ht⟩ (c_X11_deny l D cy fu A_b (A_T 0) r_b_army r_b_war r_b_draftArmy r_b_draftWar r_b_reader r_b_armyReader r_b_warReader r_b_markedArmies r_b_markedWars r_b_latest r_b_trial r_b_foresight r_b_pairs b_latestStatus b_fractionTop b_fractionBottom b_marks 1 z_882 e_z_882 _ rfl _ rfl) (cV ht mv_X11_deny tb_507 rfl rfl ⟨Nat.le_of_ble_eq_true rfl, Nat.le_of_ble_eq_true rfl⟩) hP hS hX [0] rfl rfl rfl rfl rfl rfl hl.1 rfl (Nat.le_of_ble_eq_true rfl) dX11_pour_40 ⟨Nat.le_of_ble_eq_true rfl, Nat.le_of_ble_eq_true rfl⟩ (fun H locs hP hS => ?_)
          have hP : PD D A [bl_X11 cy A_b (A_T 0) r_b_army r_b_war r_b_draftArmy r_b_draftWar r_b_reader r_b_armyReader r_b_warReader r_b_markedArmies r_b_markedWars r_b_latest r_b_trial r_b_foresight r_b_pairs z_882.2 b_fractionTop b_fractionBottom b_marks, [(A_T 0, .inl (cy 4, 4, .inr (.inr (.inr (.inr (trf4 (A_y0 0) (A_y1 0) (A_y2 0) (A_y3 0)))))))], bl_X8 cy A_y0 y0_row y0_missing y0_sort y0_many, bl_X8 cy A_y1 y1_row y1_missing y1_sort y1_many, bl_X8 cy A_y2 y2_row y2_missing y2_sort y2_many, bl_X8 cy A_y3 y3_row y3_missing y3_sort y3_many] H := hP
          obtain ⟨b_883, e_b_883, h⟩ := bi h
          obtain ⟨-, n_b_883, -⟩ := bz_ok e_b_883
          cases h
          subst hW1
          exact W.zret hx hb hr n_b_883 (fun _ ht9 _ => ⟨⟨_, (), rfl, rfl, hPt ht9 hP.1⟩, hS.F ht9⟩) hS.2.2 dX11_pour_43
        · have h := ie c_881 h
          refine lv_iload hx hb dX11_pour_33 (lv_at hl 7 rfl) ?_
          refine lv_if_ge (tgt := 44) hx hb dX11_pour_35 (by decide) (fun c_884 => ?_) (fun c_884 => ?_)
          · have h := it c_884 h
            refine lv_aload hx hb dX11_pour_44 (lv_at hl 1 rfl) ?_
            refine xget (i := 5) (j := 0) (k := 1) (T := TX8) hx hb ht tb_iX8 hown hX hP.1 rfl rfl rfl (by decide) tb_416 rfl dX11_pour_46 ?_
            refine lv_if_ne (tgt := 60) hx hb dX11_pour_49 (by decide) (fun c_885 => ?_) (fun c_885 => ?_)
            · have h := ie c_885 h
              refine lv_aload_n hx hb dX11_pour_60 rfl (lv_at hl 2 rfl) ?_
              refine lv_iconst (v := 2) hx hb dX11_pour_61 (by decide) ?_
              obtain ⟨z_886, e_z_886, h⟩ := bi h
              refine efVi (rest := []) ⟨hx, hb, hml, hown, ht⟩ (c_X11_deny l D cy fu A_b (A_T 0) r_b_army r_b_war r_b_draftArmy r_b_draftWar r_b_reader r_b_armyReader r_b_warReader r_b_markedArmies r_b_markedWars r_b_latest r_b_trial r_b_foresight r_b_pairs b_latestStatus b_fractionTop b_fractionBottom b_marks 2 z_886 e_z_886 _ rfl _ rfl) (cV ht mv_X11_deny tb_507 rfl rfl ⟨Nat.le_of_ble_eq_true rfl, Nat.le_of_ble_eq_true rfl⟩) hP hS hX [0] rfl rfl rfl rfl rfl rfl hl.1 rfl (Nat.le_of_ble_eq_true rfl) dX11_pour_62 ⟨Nat.le_of_ble_eq_true rfl, Nat.le_of_ble_eq_true rfl⟩ (fun H locs hP hS => ?_)
              have hP : PD D A [bl_X11 cy A_b (A_T 0) r_b_army r_b_war r_b_draftArmy r_b_draftWar r_b_reader r_b_armyReader r_b_warReader r_b_markedArmies r_b_markedWars r_b_latest r_b_trial r_b_foresight r_b_pairs z_886.2 b_fractionTop b_fractionBottom b_marks, [(A_T 0, .inl (cy 4, 4, .inr (.inr (.inr (.inr (trf4 (A_y0 0) (A_y1 0) (A_y2 0) (A_y3 0)))))))], bl_X8 cy A_y0 y0_row y0_missing y0_sort y0_many, bl_X8 cy A_y1 y1_row y1_missing y1_sort y1_many, bl_X8 cy A_y2 y2_row y2_missing y2_sort y2_many, bl_X8 cy A_y3 y3_row y3_missing y3_sort y3_many] H := hP
              obtain ⟨b_887, e_b_887, h⟩ := bi h
              obtain ⟨-, n_b_887, -⟩ := bz_ok e_b_887
              cases h
              subst hW1
              exact W.zret hx hb hr n_b_887 (fun _ ht9 _ => ⟨⟨_, (), rfl, rfl, hPt ht9 hP.1⟩, hS.F ht9⟩) hS.2.2 dX11_pour_65
            · have h := it c_885 h
              refine lv_aload hx hb dX11_pour_52 (lv_at hl 0 rfl) ?_
              refine xget (i := 2) (j := 0) (k := 1) (T := TX8) hx hb ht tb_iX8 hown hX hP.1 rfl rfl rfl (by decide) tb_416 rfl dX11_pour_54 ?_
              refine lv_if_eq (tgt := 66) hx hb dX11_pour_57 (by decide) (fun c_888 => ?_) (fun c_888 => ?_)
              · have h := it c_888 h
                refine lv_aload hx hb dX11_pour_66 (lv_at hl 1 rfl) ?_
                refine xget (i := 5) (j := 0) (k := 2) (T := TX8) hx hb ht tb_iX8 hown hX hP.1 rfl rfl rfl (by decide) tb_418 rfl dX11_pour_68 ?_
                refine lv_aload hx hb dX11_pour_71 (lv_at hl 0 rfl) ?_
                refine xget (i := 2) (j := 0) (k := 2) (T := TX8) hx hb ht tb_iX8 hown hX hP.1 rfl rfl rfl (by decide) tb_418 rfl dX11_pour_73 ?_
                refine lv_icmp_eq (tgt := 86) hx hb dX11_pour_76 (by decide) (fun c_889 => ?_) (fun c_889 => ?_)
                · have h := it c_889 h
                  refine lv_aload hx hb dX11_pour_86 (lv_at hl 1 rfl) ?_
                  refine lv_iload_n hx hb dX11_pour_88 rfl (lv_at hl 4 rfl) ?_
                  refine lv_iload hx hb dX11_pour_89 (lv_at hl 7 rfl) ?_
                  obtain ⟨z_890, e_z_890, h⟩ := bi h
                  refine roVi (rest := []) ⟨hx, hb, hml, hown, ht⟩ (c_X8_hasPlaces l D cy fu A_y3 y3_row y3_missing y3_sort y3_many x2 x5 z_890 e_z_890) (cV ht mv_X8_hasPlaces tb_526 rfl rfl ⟨Nat.le_of_ble_eq_true rfl, Nat.le_of_ble_eq_true rfl⟩) (P_sub hP.1 [5] rfl) hX rfl rfl rfl hl.1 rfl (Nat.le_of_ble_eq_true rfl) dX11_pour_91 ⟨Nat.le_of_ble_eq_true rfl, Nat.le_of_ble_eq_true rfl⟩ ?_
                  refine lv_if_eq (tgt := 109) hx hb dX11_pour_94 (by decide) (fun c_891 => ?_) (fun c_891 => ?_)
                  · have h := it c_891 h
                    refine lv_aload_n hx hb dX11_pour_109 rfl (lv_at hl 2 rfl) ?_
                    refine lv_iconst (v := 3) hx hb dX11_pour_110 (by decide) ?_
                    obtain ⟨z_892, e_z_892, h⟩ := bi h
                    refine efVi (rest := []) ⟨hx, hb, hml, hown, ht⟩ (c_X11_deny l D cy fu A_b (A_T 0) r_b_army r_b_war r_b_draftArmy r_b_draftWar r_b_reader r_b_armyReader r_b_warReader r_b_markedArmies r_b_markedWars r_b_latest r_b_trial r_b_foresight r_b_pairs b_latestStatus b_fractionTop b_fractionBottom b_marks 3 z_892 e_z_892 _ rfl _ rfl) (cV ht mv_X11_deny tb_507 rfl rfl ⟨Nat.le_of_ble_eq_true rfl, Nat.le_of_ble_eq_true rfl⟩) hP hS hX [0] rfl rfl rfl rfl rfl rfl hl.1 rfl (Nat.le_of_ble_eq_true rfl) dX11_pour_111 ⟨Nat.le_of_ble_eq_true rfl, Nat.le_of_ble_eq_true rfl⟩ (fun H locs hP hS => ?_)
                    have hP : PD D A [bl_X11 cy A_b (A_T 0) r_b_army r_b_war r_b_draftArmy r_b_draftWar r_b_reader r_b_armyReader r_b_warReader r_b_markedArmies r_b_markedWars r_b_latest r_b_trial r_b_foresight r_b_pairs z_892.2 b_fractionTop b_fractionBottom b_marks, [(A_T 0, .inl (cy 4, 4, .inr (.inr (.inr (.inr (trf4 (A_y0 0) (A_y1 0) (A_y2 0) (A_y3 0)))))))], bl_X8 cy A_y0 y0_row y0_missing y0_sort y0_many, bl_X8 cy A_y1 y1_row y1_missing y1_sort y1_many, bl_X8 cy A_y2 y2_row y2_missing y2_sort y2_many, bl_X8 cy A_y3 y3_row y3_missing y3_sort y3_many] H := hP
                    obtain ⟨b_893, e_b_893, h⟩ := bi h
                    obtain ⟨-, n_b_893, -⟩ := bz_ok e_b_893
                    cases h
                    subst hW1
                    exact W.zret hx hb hr n_b_893 (fun _ ht9 _ => ⟨⟨_, (), rfl, rfl, hPt ht9 hP.1⟩, hS.F ht9⟩) hS.2.2 dX11_pour_114
                  · have h := ie c_891 h
                    refine lv_aload hx hb dX11_pour_97 (lv_at hl 0 rfl) ?_
                    refine lv_iload hx hb dX11_pour_99 (lv_at hl 6 rfl) ?_
                    refine lv_iload hx hb dX11_pour_101 (lv_at hl 7 rfl) ?_
                    obtain ⟨z_894, e_z_894, h⟩ := bi h
                    refine roVi (rest := []) ⟨hx, hb, hml, hown, ht⟩ (c_X8_hasPlaces l D cy fu A_y0 y0_row y0_missing y0_sort y0_many x4 x5 z_894 e_z_894) (cV ht mv_X8_hasPlaces tb_526 rfl rfl ⟨Nat.le_of_ble_eq_true rfl, Nat.le_of_ble_eq_true rfl⟩) (P_sub hP.1 [2] rfl) hX rfl rfl rfl hl.1 rfl (Nat.le_of_ble_eq_true rfl) dX11_pour_103 ⟨Nat.le_of_ble_eq_true rfl, Nat.le_of_ble_eq_true rfl⟩ ?_
                    refine lv_if_ne (tgt := 115) hx hb dX11_pour_106 (by decide) (fun c_895 => ?_) (fun c_895 => ?_)
                    · have h := ie c_895 h
                      refine lv_aload hx hb dX11_pour_115 (lv_at hl 1 rfl) ?_
                      refine xget (i := 5) (j := 0) (k := 0) (T := TX8) hx hb ht tb_iX8 hown hX hP.1 rfl rfl rfl (by decide) tb_414 rfl dX11_pour_117 ?_
                      refine lv_iload_n hx hb dX11_pour_120 rfl (lv_at hl 4 rfl) ?_
                      refine lv_aload hx hb dX11_pour_121 (lv_at hl 0 rfl) ?_
                      refine xget (i := 2) (j := 0) (k := 0) (T := TX8) hx hb ht tb_iX8 hown hX hP.1 rfl rfl rfl (by decide) tb_414 rfl dX11_pour_123 ?_
                      refine lv_iload hx hb dX11_pour_126 (lv_at hl 6 rfl) ?_
                      refine lv_iload hx hb dX11_pour_128 (lv_at hl 7 rfl) ?_
                      obtain ⟨y0_row_896, e_y0_row_896, h⟩ := bi h
                      refine xcpJ (i0 := 5) (j0 := 1) (i1 := 2) (j1 := 1) hx hb (hml.trans hl.1.symm) hown (ht _ tb_555) (ht _ tb_557) (ht _ tb_556) (ht _ tb_18) hX hP hS rfl rfl rfl rfl e_y0_row_896 (Nat.le_of_ble_eq_true rfl) (Nat.le_of_ble_eq_true rfl) dX11_pour_130 (fun H locs hP hS => ?_)
                      have hP : PD D A [bl_X11 cy A_b (A_T 0) r_b_army r_b_war r_b_draftArmy r_b_draftWar r_b_reader r_b_armyReader r_b_warReader r_b_markedArmies r_b_markedWars r_b_latest r_b_trial r_b_foresight r_b_pairs b_latestStatus b_fractionTop b_fractionBottom b_marks, [(A_T 0, .inl (cy 4, 4, .inr (.inr (.inr (.inr (trf4 (A_y0 0) (A_y1 0) (A_y2 0) (A_y3 0)))))))], bl_X8 cy A_y0 y0_row_896 y0_missing y0_sort y0_many, bl_X8 cy A_y1 y1_row y1_missing y1_sort y1_many, bl_X8 cy A_y2 y2_row y2_missing y2_sort y2_many, bl_X8 cy A_y3 y3_row y3_missing y3_sort y3_many] H := hP
                      refine lv_aload_n hx hb dX11_pour_133 rfl (lv_at hl 2 rfl) ?_
                      obtain ⟨z_897, e_z_897, h⟩ := bi h
                      refine efVi (rest := []) ⟨hx, hb, hml, hown, ht⟩ (c_X11_allow l D cy fu A_b (A_T 0) r_b_army r_b_war r_b_draftArmy r_b_draftWar r_b_reader r_b_armyReader r_b_warReader r_b_markedArmies r_b_markedWars r_b_latest r_b_trial r_b_foresight r_b_pairs b_latestStatus b_fractionTop b_fractionBottom b_marks z_897 e_z_897 _ rfl _ rfl) (cV ht mv_X11_allow tb_518 rfl rfl ⟨Nat.le_of_ble_eq_true rfl, Nat.le_of_ble_eq_true rfl⟩) hP hS hX [0] rfl rfl rfl rfl rfl rfl hl.1 rfl (Nat.le_of_ble_eq_true rfl) dX11_pour_134 ⟨Nat.le_of_ble_eq_true rfl, Nat.le_of_ble_eq_true rfl⟩ (fun H locs hP hS => ?_)
                      have hP : PD D A [bl_X11 cy A_b (A_T 0) r_b_army r_b_war r_b_draftArmy r_b_draftWar r_b_reader r_b_armyReader r_b_warReader r_b_markedArmies r_b_markedWars r_b_latest r_b_trial r_b_foresight r_b_pairs z_897.2 b_fractionTop b_fractionBottom b_marks, [(A_T 0, .inl (cy 4, 4, .inr (.inr (.inr (.inr (trf4 (A_y0 0) (A_y1 0) (A_y2 0) (A_y3 0)))))))], bl_X8 cy A_y0 y0_row_896 y0_missing y0_sort y0_many, bl_X8 cy A_y1 y1_row y1_missing y1_sort y1_many, bl_X8 cy A_y2 y2_row y2_missing y2_sort y2_many, bl_X8 cy A_y3 y3_row y3_missing y3_sort y3_many] H := hP
                      obtain ⟨b_898, e_b_898, h⟩ := bi h
                      obtain ⟨-, n_b_898, -⟩ := bz_ok e_b_898
                      cases h
                      subst hW1
                      exact W.zret hx hb hr n_b_898 (fun _ ht9 _ => ⟨⟨_, (), rfl, rfl, hPt ht9 hP.1⟩, hS.F ht9⟩) hS.2.2 dX11_pour_137
                    · have h := it c_895 h
                      refine lv_aload_n hx hb dX11_pour_109 rfl (lv_at hl 2 rfl) ?_
                      refine lv_iconst (v := 3) hx hb dX11_pour_110 (by decide) ?_
                      obtain ⟨z_899, e_z_899, h⟩ := bi h
                      refine efVi (rest := []) ⟨hx, hb, hml, hown, ht⟩ (c_X11_deny l D cy fu A_b (A_T 0) r_b_army r_b_war r_b_draftArmy r_b_draftWar r_b_reader r_b_armyReader r_b_warReader r_b_markedArmies r_b_markedWars r_b_latest r_b_trial r_b_foresight r_b_pairs b_latestStatus b_fractionTop b_fractionBottom b_marks 3 z_899 e_z_899 _ rfl _ rfl) (cV ht mv_X11_deny tb_507 rfl rfl ⟨Nat.le_of_ble_eq_true rfl, Nat.le_of_ble_eq_true rfl⟩) hP hS hX [0] rfl rfl rfl rfl rfl rfl hl.1 rfl (Nat.le_of_ble_eq_true rfl) dX11_pour_111 ⟨Nat.le_of_ble_eq_true rfl, Nat.le_of_ble_eq_true rfl⟩ (fun H locs hP hS => ?_)
                      have hP : PD D A [bl_X11 cy A_b (A_T 0) r_b_army r_b_war r_b_draftArmy r_b_draftWar r_b_reader r_b_armyReader r_b_warReader r_b_markedArmies r_b_markedWars r_b_latest r_b_trial r_b_foresight r_b_pairs z_899.2 b_fractionTop b_fractionBottom b_marks, [(A_T 0, .inl (cy 4, 4, .inr (.inr (.inr (.inr (trf4 (A_y0 0) (A_y1 0) (A_y2 0) (A_y3 0)))))))], bl_X8 cy A_y0 y0_row y0_missing y0_sort y0_many, bl_X8 cy A_y1 y1_row y1_missing y1_sort y1_many, bl_X8 cy A_y2 y2_row y2_missing y2_sort y2_many, bl_X8 cy A_y3 y3_row y3_missing y3_sort y3_many] H := hP
                      obtain ⟨b_900, e_b_900, h⟩ := bi h
                      obtain ⟨-, n_b_900, -⟩ := bz_ok e_b_900
                      cases h
                      subst hW1
                      exact W.zret hx hb hr n_b_900 (fun _ ht9 _ => ⟨⟨_, (), rfl, rfl, hPt ht9 hP.1⟩, hS.F ht9⟩) hS.2.2 dX11_pour_114
                · have h := ie c_889 h
                  refine lv_aload_n hx hb dX11_pour_79 rfl (lv_at hl 2 rfl) ?_
                  refine lv_bipush (v := 8) hx hb dX11_pour_80 (by decide) ?_
                  obtain ⟨z_901, e_z_901, h⟩ := bi h
                  refine efVi (rest := []) ⟨hx, hb, hml, hown, ht⟩ (c_X11_deny l D cy fu A_b (A_T 0) r_b_army r_b_war r_b_draftArmy r_b_draftWar r_b_reader r_b_armyReader r_b_warReader r_b_markedArmies r_b_markedWars r_b_latest r_b_trial r_b_foresight r_b_pairs b_latestStatus b_fractionTop b_fractionBottom b_marks 8 z_901 e_z_901 _ rfl _ rfl) (cV ht mv_X11_deny tb_507 rfl rfl ⟨Nat.le_of_ble_eq_true rfl, Nat.le_of_ble_eq_true rfl⟩) hP hS hX [0] rfl rfl rfl rfl rfl rfl hl.1 rfl (Nat.le_of_ble_eq_true rfl) dX11_pour_82 ⟨Nat.le_of_ble_eq_true rfl, Nat.le_of_ble_eq_true rfl⟩ (fun H locs hP hS => ?_)
                  have hP : PD D A [bl_X11 cy A_b (A_T 0) r_b_army r_b_war r_b_draftArmy r_b_draftWar r_b_reader r_b_armyReader r_b_warReader r_b_markedArmies r_b_markedWars r_b_latest r_b_trial r_b_foresight r_b_pairs z_901.2 b_fractionTop b_fractionBottom b_marks, [(A_T 0, .inl (cy 4, 4, .inr (.inr (.inr (.inr (trf4 (A_y0 0) (A_y1 0) (A_y2 0) (A_y3 0)))))))], bl_X8 cy A_y0 y0_row y0_missing y0_sort y0_many, bl_X8 cy A_y1 y1_row y1_missing y1_sort y1_many, bl_X8 cy A_y2 y2_row y2_missing y2_sort y2_many, bl_X8 cy A_y3 y3_row y3_missing y3_sort y3_many] H := hP
                  obtain ⟨b_902, e_b_902, h⟩ := bi h
                  obtain ⟨-, n_b_902, -⟩ := bz_ok e_b_902
                  cases h
                  subst hW1
                  exact W.zret hx hb hr n_b_902 (fun _ ht9 _ => ⟨⟨_, (), rfl, rfl, hPt ht9 hP.1⟩, hS.F ht9⟩) hS.2.2 dX11_pour_85
              · have h := ie c_888 h
                refine lv_aload_n hx hb dX11_pour_60 rfl (lv_at hl 2 rfl) ?_
                refine lv_iconst (v := 2) hx hb dX11_pour_61 (by decide) ?_
                obtain ⟨z_903, e_z_903, h⟩ := bi h
                refine efVi (rest := []) ⟨hx, hb, hml, hown, ht⟩ (c_X11_deny l D cy fu A_b (A_T 0) r_b_army r_b_war r_b_draftArmy r_b_draftWar r_b_reader r_b_armyReader r_b_warReader r_b_markedArmies r_b_markedWars r_b_latest r_b_trial r_b_foresight r_b_pairs b_latestStatus b_fractionTop b_fractionBottom b_marks 2 z_903 e_z_903 _ rfl _ rfl) (cV ht mv_X11_deny tb_507 rfl rfl ⟨Nat.le_of_ble_eq_true rfl, Nat.le_of_ble_eq_true rfl⟩) hP hS hX [0] rfl rfl rfl rfl rfl rfl hl.1 rfl (Nat.le_of_ble_eq_true rfl) dX11_pour_62 ⟨Nat.le_of_ble_eq_true rfl, Nat.le_of_ble_eq_true rfl⟩ (fun H locs hP hS => ?_)
                have hP : PD D A [bl_X11 cy A_b (A_T 0) r_b_army r_b_war r_b_draftArmy r_b_draftWar r_b_reader r_b_armyReader r_b_warReader r_b_markedArmies r_b_markedWars r_b_latest r_b_trial r_b_foresight r_b_pairs z_903.2 b_fractionTop b_fractionBottom b_marks, [(A_T 0, .inl (cy 4, 4, .inr (.inr (.inr (.inr (trf4 (A_y0 0) (A_y1 0) (A_y2 0) (A_y3 0)))))))], bl_X8 cy A_y0 y0_row y0_missing y0_sort y0_many, bl_X8 cy A_y1 y1_row y1_missing y1_sort y1_many, bl_X8 cy A_y2 y2_row y2_missing y2_sort y2_many, bl_X8 cy A_y3 y3_row y3_missing y3_sort y3_many] H := hP
                obtain ⟨b_904, e_b_904, h⟩ := bi h
                obtain ⟨-, n_b_904, -⟩ := bz_ok e_b_904
                cases h
                subst hW1
                exact W.zret hx hb hr n_b_904 (fun _ ht9 _ => ⟨⟨_, (), rfl, rfl, hPt ht9 hP.1⟩, hS.F ht9⟩) hS.2.2 dX11_pour_65
          · have h := ie c_884 h
            refine lv_aload_n hx hb dX11_pour_38 rfl (lv_at hl 2 rfl) ?_
            refine lv_iconst (v := 1) hx hb dX11_pour_39 (by decide) ?_
            obtain ⟨z_905, e_z_905, h⟩ := bi h
            refine efVi (rest := []) ⟨hx, hb, hml, hown, ht⟩ (c_X11_deny l D cy fu A_b (A_T 0) r_b_army r_b_war r_b_draftArmy r_b_draftWar r_b_reader r_b_armyReader r_b_warReader r_b_markedArmies r_b_markedWars r_b_latest r_b_trial r_b_foresight r_b_pairs b_latestStatus b_fractionTop b_fractionBottom b_marks 1 z_905 e_z_905 _ rfl _ rfl) (cV ht mv_X11_deny tb_507 rfl rfl ⟨Nat.le_of_ble_eq_true rfl, Nat.le_of_ble_eq_true rfl⟩) hP hS hX [0] rfl rfl rfl rfl rfl rfl hl.1 rfl (Nat.le_of_ble_eq_true rfl) dX11_pour_40 ⟨Nat.le_of_ble_eq_true rfl, Nat.le_of_ble_eq_true rfl⟩ (fun H locs hP hS => ?_)
            have hP : PD D A [bl_X11 cy A_b (A_T 0) r_b_army r_b_war r_b_draftArmy r_b_draftWar r_b_reader r_b_armyReader r_b_warReader r_b_markedArmies r_b_markedWars r_b_latest r_b_trial r_b_foresight r_b_pairs z_905.2 b_fractionTop b_fractionBottom b_marks, [(A_T 0, .inl (cy 4, 4, .inr (.inr (.inr (.inr (trf4 (A_y0 0) (A_y1 0) (A_y2 0) (A_y3 0)))))))], bl_X8 cy A_y0 y0_row y0_missing y0_sort y0_many, bl_X8 cy A_y1 y1_row y1_missing y1_sort y1_many, bl_X8 cy A_y2 y2_row y2_missing y2_sort y2_many, bl_X8 cy A_y3 y3_row y3_missing y3_sort y3_many] H := hP
            obtain ⟨b_906, e_b_906, h⟩ := bi h
            obtain ⟨-, n_b_906, -⟩ := bz_ok e_b_906
            cases h
            subst hW1
            exact W.zret hx hb hr n_b_906 (fun _ ht9 _ => ⟨⟨_, (), rfl, rfl, hPt ht9 hP.1⟩, hS.F ht9⟩) hS.2.2 dX11_pour_43
    have h := ie c_877 h
    by_cases c_907 : x3 = 1
    · have h := it c_907 h
      refine roVq (rest := []) ⟨hx, hb, hml, hown, ht⟩ (c_X11_trayAt l D cy fu A_b r_b_army r_b_war r_b_draftArmy r_b_draftWar r_b_reader r_b_armyReader r_b_warReader r_b_markedArmies r_b_markedWars r_b_latest r_b_trial r_b_foresight r_b_pairs b_latestStatus b_fractionTop b_fractionBottom b_marks A_T (trf4 (A_y0 0) (A_y1 0) (A_y2 0) (A_y3 0)) x3 (some (A_y1 0)) (tray_1 c_907)) (cV ht mv_X11_trayAt tb_500 rfl rfl ⟨Nat.le_of_ble_eq_true rfl, Nat.le_of_ble_eq_true rfl⟩) (P_sub hP.1 [0, 1] rfl) hX rfl rfl rfl hl.1 rfl (Nat.le_of_ble_eq_true rfl) dX11_pour_9 ⟨Nat.le_of_ble_eq_true rfl, Nat.le_of_ble_eq_true rfl⟩ ?_
      refine lv_astore (lv' := [(7, .ref (A_y1 0)), (6, .ref (A_y3 0)), (0, .ref (A_b 0)), (1, .int x1), (2, .int x2), (3, .int x3), (4, .int x4), (5, .int x5)]) hx hb dX11_pour_12 hl (by decide) rfl (fun ls hl => ?_)
      refine lv_aload hx hb dX11_pour_14 (lv_at hl 1 rfl) ?_
      refine lv_ifnull hx hb dX11_pour_16 ?_
      refine lv_aload hx hb dX11_pour_19 (lv_at hl 0 rfl) ?_
      refine lv_ifnull hx hb dX11_pour_21 ?_
      refine lv_iload_n hx hb dX11_pour_24 rfl (lv_at hl 4 rfl) ?_
      refine lv_if_lt (tgt := 38) hx hb dX11_pour_25 (by decide) (fun c_908 => ?_) (fun c_908 => ?_)
      · have h := it c_908 h
        refine lv_aload_n hx hb dX11_pour_38 rfl (lv_at hl 2 rfl) ?_
        refine lv_iconst (v := 1) hx hb dX11_pour_39 (by decide) ?_
        obtain ⟨z_909, e_z_909, h⟩ := bi h
        refine efVi (rest := []) ⟨hx, hb, hml, hown, ht⟩ (c_X11_deny l D cy fu A_b (A_T 0) r_b_army r_b_war r_b_draftArmy r_b_draftWar r_b_reader r_b_armyReader r_b_warReader r_b_markedArmies r_b_markedWars r_b_latest r_b_trial r_b_foresight r_b_pairs b_latestStatus b_fractionTop b_fractionBottom b_marks 1 z_909 e_z_909 _ rfl _ rfl) (cV ht mv_X11_deny tb_507 rfl rfl ⟨Nat.le_of_ble_eq_true rfl, Nat.le_of_ble_eq_true rfl⟩) hP hS hX [0] rfl rfl rfl rfl rfl rfl hl.1 rfl (Nat.le_of_ble_eq_true rfl) dX11_pour_40 ⟨Nat.le_of_ble_eq_true rfl, Nat.le_of_ble_eq_true rfl⟩ (fun H locs hP hS => ?_)
        have hP : PD D A [bl_X11 cy A_b (A_T 0) r_b_army r_b_war r_b_draftArmy r_b_draftWar r_b_reader r_b_armyReader r_b_warReader r_b_markedArmies r_b_markedWars r_b_latest r_b_trial r_b_foresight r_b_pairs z_909.2 b_fractionTop b_fractionBottom b_marks, [(A_T 0, .inl (cy 4, 4, .inr (.inr (.inr (.inr (trf4 (A_y0 0) (A_y1 0) (A_y2 0) (A_y3 0)))))))], bl_X8 cy A_y0 y0_row y0_missing y0_sort y0_many, bl_X8 cy A_y1 y1_row y1_missing y1_sort y1_many, bl_X8 cy A_y2 y2_row y2_missing y2_sort y2_many, bl_X8 cy A_y3 y3_row y3_missing y3_sort y3_many] H := hP
        obtain ⟨b_910, e_b_910, h⟩ := bi h
        obtain ⟨-, n_b_910, -⟩ := bz_ok e_b_910
        cases h
        subst hW1
        exact W.zret hx hb hr n_b_910 (fun _ ht9 _ => ⟨⟨_, (), rfl, rfl, hPt ht9 hP.1⟩, hS.F ht9⟩) hS.2.2 dX11_pour_43
      · have h := ie c_908 h
        refine lv_iload hx hb dX11_pour_28 (lv_at hl 6 rfl) ?_
        refine lv_if_lt (tgt := 38) hx hb dX11_pour_30 (by decide) (fun c_911 => ?_) (fun c_911 => ?_)
        · have h := it c_911 h
          refine lv_aload_n hx hb dX11_pour_38 rfl (lv_at hl 2 rfl) ?_
          refine lv_iconst (v := 1) hx hb dX11_pour_39 (by decide) ?_
          obtain ⟨z_912, e_z_912, h⟩ := bi h
          refine efVi (rest := []) ⟨hx, hb, hml, hown, ht⟩ (c_X11_deny l D cy fu A_b (A_T 0) r_b_army r_b_war r_b_draftArmy r_b_draftWar r_b_reader r_b_armyReader r_b_warReader r_b_markedArmies r_b_markedWars r_b_latest r_b_trial r_b_foresight r_b_pairs b_latestStatus b_fractionTop b_fractionBottom b_marks 1 z_912 e_z_912 _ rfl _ rfl) (cV ht mv_X11_deny tb_507 rfl rfl ⟨Nat.le_of_ble_eq_true rfl, Nat.le_of_ble_eq_true rfl⟩) hP hS hX [0] rfl rfl rfl rfl rfl rfl hl.1 rfl (Nat.le_of_ble_eq_true rfl) dX11_pour_40 ⟨Nat.le_of_ble_eq_true rfl, Nat.le_of_ble_eq_true rfl⟩ (fun H locs hP hS => ?_)
          have hP : PD D A [bl_X11 cy A_b (A_T 0) r_b_army r_b_war r_b_draftArmy r_b_draftWar r_b_reader r_b_armyReader r_b_warReader r_b_markedArmies r_b_markedWars r_b_latest r_b_trial r_b_foresight r_b_pairs z_912.2 b_fractionTop b_fractionBottom b_marks, [(A_T 0, .inl (cy 4, 4, .inr (.inr (.inr (.inr (trf4 (A_y0 0) (A_y1 0) (A_y2 0) (A_y3 0)))))))], bl_X8 cy A_y0 y0_row y0_missing y0_sort y0_many, bl_X8 cy A_y1 y1_row y1_missing y1_sort y1_many, bl_X8 cy A_y2 y2_row y2_missing y2_sort y2_many, bl_X8 cy A_y3 y3_row y3_missing y3_sort y3_many] H := hP
          obtain ⟨b_913, e_b_913, h⟩ := bi h
          obtain ⟨-, n_b_913, -⟩ := bz_ok e_b_913
          cases h
          subst hW1
          exact W.zret hx hb hr n_b_913 (fun _ ht9 _ => ⟨⟨_, (), rfl, rfl, hPt ht9 hP.1⟩, hS.F ht9⟩) hS.2.2 dX11_pour_43
        · have h := ie c_911 h
          refine lv_iload hx hb dX11_pour_33 (lv_at hl 7 rfl) ?_
          refine lv_if_ge (tgt := 44) hx hb dX11_pour_35 (by decide) (fun c_914 => ?_) (fun c_914 => ?_)
          · have h := it c_914 h
            refine lv_aload hx hb dX11_pour_44 (lv_at hl 1 rfl) ?_
            refine xget (i := 5) (j := 0) (k := 1) (T := TX8) hx hb ht tb_iX8 hown hX hP.1 rfl rfl rfl (by decide) tb_416 rfl dX11_pour_46 ?_
            refine lv_if_ne (tgt := 60) hx hb dX11_pour_49 (by decide) (fun c_915 => ?_) (fun c_915 => ?_)
            · have h := ie c_915 h
              refine lv_aload_n hx hb dX11_pour_60 rfl (lv_at hl 2 rfl) ?_
              refine lv_iconst (v := 2) hx hb dX11_pour_61 (by decide) ?_
              obtain ⟨z_916, e_z_916, h⟩ := bi h
              refine efVi (rest := []) ⟨hx, hb, hml, hown, ht⟩ (c_X11_deny l D cy fu A_b (A_T 0) r_b_army r_b_war r_b_draftArmy r_b_draftWar r_b_reader r_b_armyReader r_b_warReader r_b_markedArmies r_b_markedWars r_b_latest r_b_trial r_b_foresight r_b_pairs b_latestStatus b_fractionTop b_fractionBottom b_marks 2 z_916 e_z_916 _ rfl _ rfl) (cV ht mv_X11_deny tb_507 rfl rfl ⟨Nat.le_of_ble_eq_true rfl, Nat.le_of_ble_eq_true rfl⟩) hP hS hX [0] rfl rfl rfl rfl rfl rfl hl.1 rfl (Nat.le_of_ble_eq_true rfl) dX11_pour_62 ⟨Nat.le_of_ble_eq_true rfl, Nat.le_of_ble_eq_true rfl⟩ (fun H locs hP hS => ?_)
              have hP : PD D A [bl_X11 cy A_b (A_T 0) r_b_army r_b_war r_b_draftArmy r_b_draftWar r_b_reader r_b_armyReader r_b_warReader r_b_markedArmies r_b_markedWars r_b_latest r_b_trial r_b_foresight r_b_pairs z_916.2 b_fractionTop b_fractionBottom b_marks, [(A_T 0, .inl (cy 4, 4, .inr (.inr (.inr (.inr (trf4 (A_y0 0) (A_y1 0) (A_y2 0) (A_y3 0)))))))], bl_X8 cy A_y0 y0_row y0_missing y0_sort y0_many, bl_X8 cy A_y1 y1_row y1_missing y1_sort y1_many, bl_X8 cy A_y2 y2_row y2_missing y2_sort y2_many, bl_X8 cy A_y3 y3_row y3_missing y3_sort y3_many] H := hP
              obtain ⟨b_917, e_b_917, h⟩ := bi h
              obtain ⟨-, n_b_917, -⟩ := bz_ok e_b_917
              cases h
              subst hW1
              exact W.zret hx hb hr n_b_917 (fun _ ht9 _ => ⟨⟨_, (), rfl, rfl, hPt ht9 hP.1⟩, hS.F ht9⟩) hS.2.2 dX11_pour_65
            · have h := it c_915 h
              refine lv_aload hx hb dX11_pour_52 (lv_at hl 0 rfl) ?_
              refine xget (i := 3) (j := 0) (k := 1) (T := TX8) hx hb ht tb_iX8 hown hX hP.1 rfl rfl rfl (by decide) tb_416 rfl dX11_pour_54 ?_
              refine lv_if_eq (tgt := 66) hx hb dX11_pour_57 (by decide) (fun c_918 => ?_) (fun c_918 => ?_)
              · have h := it c_918 h
                refine lv_aload hx hb dX11_pour_66 (lv_at hl 1 rfl) ?_
                refine xget (i := 5) (j := 0) (k := 2) (T := TX8) hx hb ht tb_iX8 hown hX hP.1 rfl rfl rfl (by decide) tb_418 rfl dX11_pour_68 ?_
                refine lv_aload hx hb dX11_pour_71 (lv_at hl 0 rfl) ?_
                refine xget (i := 3) (j := 0) (k := 2) (T := TX8) hx hb ht tb_iX8 hown hX hP.1 rfl rfl rfl (by decide) tb_418 rfl dX11_pour_73 ?_
                refine lv_icmp_eq (tgt := 86) hx hb dX11_pour_76 (by decide) (fun c_919 => ?_) (fun c_919 => ?_)
                · have h := it c_919 h
                  refine lv_aload hx hb dX11_pour_86 (lv_at hl 1 rfl) ?_
                  refine lv_iload_n hx hb dX11_pour_88 rfl (lv_at hl 4 rfl) ?_
                  refine lv_iload hx hb dX11_pour_89 (lv_at hl 7 rfl) ?_
                  obtain ⟨z_920, e_z_920, h⟩ := bi h
                  refine roVi (rest := []) ⟨hx, hb, hml, hown, ht⟩ (c_X8_hasPlaces l D cy fu A_y3 y3_row y3_missing y3_sort y3_many x2 x5 z_920 e_z_920) (cV ht mv_X8_hasPlaces tb_526 rfl rfl ⟨Nat.le_of_ble_eq_true rfl, Nat.le_of_ble_eq_true rfl⟩) (P_sub hP.1 [5] rfl) hX rfl rfl rfl hl.1 rfl (Nat.le_of_ble_eq_true rfl) dX11_pour_91 ⟨Nat.le_of_ble_eq_true rfl, Nat.le_of_ble_eq_true rfl⟩ ?_
                  refine lv_if_eq (tgt := 109) hx hb dX11_pour_94 (by decide) (fun c_921 => ?_) (fun c_921 => ?_)
                  · have h := it c_921 h
                    refine lv_aload_n hx hb dX11_pour_109 rfl (lv_at hl 2 rfl) ?_
                    refine lv_iconst (v := 3) hx hb dX11_pour_110 (by decide) ?_
                    obtain ⟨z_922, e_z_922, h⟩ := bi h
                    refine efVi (rest := []) ⟨hx, hb, hml, hown, ht⟩ (c_X11_deny l D cy fu A_b (A_T 0) r_b_army r_b_war r_b_draftArmy r_b_draftWar r_b_reader r_b_armyReader r_b_warReader r_b_markedArmies r_b_markedWars r_b_latest r_b_trial r_b_foresight r_b_pairs b_latestStatus b_fractionTop b_fractionBottom b_marks 3 z_922 e_z_922 _ rfl _ rfl) (cV ht mv_X11_deny tb_507 rfl rfl ⟨Nat.le_of_ble_eq_true rfl, Nat.le_of_ble_eq_true rfl⟩) hP hS hX [0] rfl rfl rfl rfl rfl rfl hl.1 rfl (Nat.le_of_ble_eq_true rfl) dX11_pour_111 ⟨Nat.le_of_ble_eq_true rfl, Nat.le_of_ble_eq_true rfl⟩ (fun H locs hP hS => ?_)
                    have hP : PD D A [bl_X11 cy A_b (A_T 0) r_b_army r_b_war r_b_draftArmy r_b_draftWar r_b_reader r_b_armyReader r_b_warReader r_b_markedArmies r_b_markedWars r_b_latest r_b_trial r_b_foresight r_b_pairs z_922.2 b_fractionTop b_fractionBottom b_marks, [(A_T 0, .inl (cy 4, 4, .inr (.inr (.inr (.inr (trf4 (A_y0 0) (A_y1 0) (A_y2 0) (A_y3 0)))))))], bl_X8 cy A_y0 y0_row y0_missing y0_sort y0_many, bl_X8 cy A_y1 y1_row y1_missing y1_sort y1_many, bl_X8 cy A_y2 y2_row y2_missing y2_sort y2_many, bl_X8 cy A_y3 y3_row y3_missing y3_sort y3_many] H := hP
                    obtain ⟨b_923, e_b_923, h⟩ := bi h
                    obtain ⟨-, n_b_923, -⟩ := bz_ok e_b_923
                    cases h
                    subst hW1
                    exact W.zret hx hb hr n_b_923 (fun _ ht9 _ => ⟨⟨_, (), rfl, rfl, hPt ht9 hP.1⟩, hS.F ht9⟩) hS.2.2 dX11_pour_114
                  · have h := ie c_921 h
                    refine lv_aload hx hb dX11_pour_97 (lv_at hl 0 rfl) ?_
                    refine lv_iload hx hb dX11_pour_99 (lv_at hl 6 rfl) ?_
                    refine lv_iload hx hb dX11_pour_101 (lv_at hl 7 rfl) ?_
                    obtain ⟨z_924, e_z_924, h⟩ := bi h
                    refine roVi (rest := []) ⟨hx, hb, hml, hown, ht⟩ (c_X8_hasPlaces l D cy fu A_y1 y1_row y1_missing y1_sort y1_many x4 x5 z_924 e_z_924) (cV ht mv_X8_hasPlaces tb_526 rfl rfl ⟨Nat.le_of_ble_eq_true rfl, Nat.le_of_ble_eq_true rfl⟩) (P_sub hP.1 [3] rfl) hX rfl rfl rfl hl.1 rfl (Nat.le_of_ble_eq_true rfl) dX11_pour_103 ⟨Nat.le_of_ble_eq_true rfl, Nat.le_of_ble_eq_true rfl⟩ ?_
                    refine lv_if_ne (tgt := 115) hx hb dX11_pour_106 (by decide) (fun c_925 => ?_) (fun c_925 => ?_)
                    · have h := ie c_925 h
                      refine lv_aload hx hb dX11_pour_115 (lv_at hl 1 rfl) ?_
                      refine xget (i := 5) (j := 0) (k := 0) (T := TX8) hx hb ht tb_iX8 hown hX hP.1 rfl rfl rfl (by decide) tb_414 rfl dX11_pour_117 ?_
                      refine lv_iload_n hx hb dX11_pour_120 rfl (lv_at hl 4 rfl) ?_
                      refine lv_aload hx hb dX11_pour_121 (lv_at hl 0 rfl) ?_
                      refine xget (i := 3) (j := 0) (k := 0) (T := TX8) hx hb ht tb_iX8 hown hX hP.1 rfl rfl rfl (by decide) tb_414 rfl dX11_pour_123 ?_
                      refine lv_iload hx hb dX11_pour_126 (lv_at hl 6 rfl) ?_
                      refine lv_iload hx hb dX11_pour_128 (lv_at hl 7 rfl) ?_
                      obtain ⟨y1_row_926, e_y1_row_926, h⟩ := bi h
                      refine xcpJ (i0 := 5) (j0 := 1) (i1 := 3) (j1 := 1) hx hb (hml.trans hl.1.symm) hown (ht _ tb_555) (ht _ tb_557) (ht _ tb_556) (ht _ tb_18) hX hP hS rfl rfl rfl rfl e_y1_row_926 (Nat.le_of_ble_eq_true rfl) (Nat.le_of_ble_eq_true rfl) dX11_pour_130 (fun H locs hP hS => ?_)
                      have hP : PD D A [bl_X11 cy A_b (A_T 0) r_b_army r_b_war r_b_draftArmy r_b_draftWar r_b_reader r_b_armyReader r_b_warReader r_b_markedArmies r_b_markedWars r_b_latest r_b_trial r_b_foresight r_b_pairs b_latestStatus b_fractionTop b_fractionBottom b_marks, [(A_T 0, .inl (cy 4, 4, .inr (.inr (.inr (.inr (trf4 (A_y0 0) (A_y1 0) (A_y2 0) (A_y3 0)))))))], bl_X8 cy A_y0 y0_row y0_missing y0_sort y0_many, bl_X8 cy A_y1 y1_row_926 y1_missing y1_sort y1_many, bl_X8 cy A_y2 y2_row y2_missing y2_sort y2_many, bl_X8 cy A_y3 y3_row y3_missing y3_sort y3_many] H := hP
                      refine lv_aload_n hx hb dX11_pour_133 rfl (lv_at hl 2 rfl) ?_
                      obtain ⟨z_927, e_z_927, h⟩ := bi h
                      refine efVi (rest := []) ⟨hx, hb, hml, hown, ht⟩ (c_X11_allow l D cy fu A_b (A_T 0) r_b_army r_b_war r_b_draftArmy r_b_draftWar r_b_reader r_b_armyReader r_b_warReader r_b_markedArmies r_b_markedWars r_b_latest r_b_trial r_b_foresight r_b_pairs b_latestStatus b_fractionTop b_fractionBottom b_marks z_927 e_z_927 _ rfl _ rfl) (cV ht mv_X11_allow tb_518 rfl rfl ⟨Nat.le_of_ble_eq_true rfl, Nat.le_of_ble_eq_true rfl⟩) hP hS hX [0] rfl rfl rfl rfl rfl rfl hl.1 rfl (Nat.le_of_ble_eq_true rfl) dX11_pour_134 ⟨Nat.le_of_ble_eq_true rfl, Nat.le_of_ble_eq_true rfl⟩ (fun H locs hP hS => ?_)
                      have hP : PD D A [bl_X11 cy A_b (A_T 0) r_b_army r_b_war r_b_draftArmy r_b_draftWar r_b_reader r_b_armyReader r_b_warReader r_b_markedArmies r_b_markedWars r_b_latest r_b_trial r_b_foresight r_b_pairs z_927.2 b_fractionTop b_fractionBottom b_marks, [(A_T 0, .inl (cy 4, 4, .inr (.inr (.inr (.inr (trf4 (A_y0 0) (A_y1 0) (A_y2 0) (A_y3 0)))))))], bl_X8 cy A_y0 y0_row y0_missing y0_sort y0_many, bl_X8 cy A_y1 y1_row_926 y1_missing y1_sort y1_many, bl_X8 cy A_y2 y2_row y2_missing y2_sort y2_many, bl_X8 cy A_y3 y3_row y3_missing y3_sort y3_many] H := hP
                      obtain ⟨b_928, e_b_928, h⟩ := bi h
                      obtain ⟨-, n_b_928, -⟩ := bz_ok e_b_928
                      cases h
                      subst hW1
                      exact W.zret hx hb hr n_b_928 (fun _ ht9 _ => ⟨⟨_, (), rfl, rfl, hPt ht9 hP.1⟩, hS.F ht9⟩) hS.2.2 dX11_pour_137
                    · have h := it c_925 h
                      refine lv_aload_n hx hb dX11_pour_109 rfl (lv_at hl 2 rfl) ?_
                      refine lv_iconst (v := 3) hx hb dX11_pour_110 (by decide) ?_
                      obtain ⟨z_929, e_z_929, h⟩ := bi h
                      refine efVi (rest := []) ⟨hx, hb, hml, hown, ht⟩ (c_X11_deny l D cy fu A_b (A_T 0) r_b_army r_b_war r_b_draftArmy r_b_draftWar r_b_reader r_b_armyReader r_b_warReader r_b_markedArmies r_b_markedWars r_b_latest r_b_trial r_b_foresight r_b_pairs b_latestStatus b_fractionTop b_fractionBottom b_marks 3 z_929 e_z_929 _ rfl _ rfl) (cV ht mv_X11_deny tb_507 rfl rfl ⟨Nat.le_of_ble_eq_true rfl, Nat.le_of_ble_eq_true rfl⟩) hP hS hX [0] rfl rfl rfl rfl rfl rfl hl.1 rfl (Nat.le_of_ble_eq_true rfl) dX11_pour_111 ⟨Nat.le_of_ble_eq_true rfl, Nat.le_of_ble_eq_true rfl⟩ (fun H locs hP hS => ?_)
                      have hP : PD D A [bl_X11 cy A_b (A_T 0) r_b_army r_b_war r_b_draftArmy r_b_draftWar r_b_reader r_b_armyReader r_b_warReader r_b_markedArmies r_b_markedWars r_b_latest r_b_trial r_b_foresight r_b_pairs z_929.2 b_fractionTop b_fractionBottom b_marks, [(A_T 0, .inl (cy 4, 4, .inr (.inr (.inr (.inr (trf4 (A_y0 0) (A_y1 0) (A_y2 0) (A_y3 0)))))))], bl_X8 cy A_y0 y0_row y0_missing y0_sort y0_many, bl_X8 cy A_y1 y1_row y1_missing y1_sort y1_many, bl_X8 cy A_y2 y2_row y2_missing y2_sort y2_many, bl_X8 cy A_y3 y3_row y3_missing y3_sort y3_many] H := hP
                      obtain ⟨b_930, e_b_930, h⟩ := bi h
                      obtain ⟨-, n_b_930, -⟩ := bz_ok e_b_930
                      cases h
                      subst hW1
                      exact W.zret hx hb hr n_b_930 (fun _ ht9 _ => ⟨⟨_, (), rfl, rfl, hPt ht9 hP.1⟩, hS.F ht9⟩) hS.2.2 dX11_pour_114
                · have h := ie c_919 h
                  refine lv_aload_n hx hb dX11_pour_79 rfl (lv_at hl 2 rfl) ?_
                  refine lv_bipush (v := 8) hx hb dX11_pour_80 (by decide) ?_
                  obtain ⟨z_931, e_z_931, h⟩ := bi h
                  refine efVi (rest := []) ⟨hx, hb, hml, hown, ht⟩ (c_X11_deny l D cy fu A_b (A_T 0) r_b_army r_b_war r_b_draftArmy r_b_draftWar r_b_reader r_b_armyReader r_b_warReader r_b_markedArmies r_b_markedWars r_b_latest r_b_trial r_b_foresight r_b_pairs b_latestStatus b_fractionTop b_fractionBottom b_marks 8 z_931 e_z_931 _ rfl _ rfl) (cV ht mv_X11_deny tb_507 rfl rfl ⟨Nat.le_of_ble_eq_true rfl, Nat.le_of_ble_eq_true rfl⟩) hP hS hX [0] rfl rfl rfl rfl rfl rfl hl.1 rfl (Nat.le_of_ble_eq_true rfl) dX11_pour_82 ⟨Nat.le_of_ble_eq_true rfl, Nat.le_of_ble_eq_true rfl⟩ (fun H locs hP hS => ?_)
                  have hP : PD D A [bl_X11 cy A_b (A_T 0) r_b_army r_b_war r_b_draftArmy r_b_draftWar r_b_reader r_b_armyReader r_b_warReader r_b_markedArmies r_b_markedWars r_b_latest r_b_trial r_b_foresight r_b_pairs z_931.2 b_fractionTop b_fractionBottom b_marks, [(A_T 0, .inl (cy 4, 4, .inr (.inr (.inr (.inr (trf4 (A_y0 0) (A_y1 0) (A_y2 0) (A_y3 0)))))))], bl_X8 cy A_y0 y0_row y0_missing y0_sort y0_many, bl_X8 cy A_y1 y1_row y1_missing y1_sort y1_many, bl_X8 cy A_y2 y2_row y2_missing y2_sort y2_many, bl_X8 cy A_y3 y3_row y3_missing y3_sort y3_many] H := hP
                  obtain ⟨b_932, e_b_932, h⟩ := bi h
                  obtain ⟨-, n_b_932, -⟩ := bz_ok e_b_932
                  cases h
                  subst hW1
                  exact W.zret hx hb hr n_b_932 (fun _ ht9 _ => ⟨⟨_, (), rfl, rfl, hPt ht9 hP.1⟩, hS.F ht9⟩) hS.2.2 dX11_pour_85
              · have h := ie c_918 h
                refine lv_aload_n hx hb dX11_pour_60 rfl (lv_at hl 2 rfl) ?_
                refine lv_iconst (v := 2) hx hb dX11_pour_61 (by decide) ?_
                obtain ⟨z_933, e_z_933, h⟩ := bi h
                refine efVi (rest := []) ⟨hx, hb, hml, hown, ht⟩ (c_X11_deny l D cy fu A_b (A_T 0) r_b_army r_b_war r_b_draftArmy r_b_draftWar r_b_reader r_b_armyReader r_b_warReader r_b_markedArmies r_b_markedWars r_b_latest r_b_trial r_b_foresight r_b_pairs b_latestStatus b_fractionTop b_fractionBottom b_marks 2 z_933 e_z_933 _ rfl _ rfl) (cV ht mv_X11_deny tb_507 rfl rfl ⟨Nat.le_of_ble_eq_true rfl, Nat.le_of_ble_eq_true rfl⟩) hP hS hX [0] rfl rfl rfl rfl rfl rfl hl.1 rfl (Nat.le_of_ble_eq_true rfl) dX11_pour_62 ⟨Nat.le_of_ble_eq_true rfl, Nat.le_of_ble_eq_true rfl⟩ (fun H locs hP hS => ?_)
                have hP : PD D A [bl_X11 cy A_b (A_T 0) r_b_army r_b_war r_b_draftArmy r_b_draftWar r_b_reader r_b_armyReader r_b_warReader r_b_markedArmies r_b_markedWars r_b_latest r_b_trial r_b_foresight r_b_pairs z_933.2 b_fractionTop b_fractionBottom b_marks, [(A_T 0, .inl (cy 4, 4, .inr (.inr (.inr (.inr (trf4 (A_y0 0) (A_y1 0) (A_y2 0) (A_y3 0)))))))], bl_X8 cy A_y0 y0_row y0_missing y0_sort y0_many, bl_X8 cy A_y1 y1_row y1_missing y1_sort y1_many, bl_X8 cy A_y2 y2_row y2_missing y2_sort y2_many, bl_X8 cy A_y3 y3_row y3_missing y3_sort y3_many] H := hP
                obtain ⟨b_934, e_b_934, h⟩ := bi h
                obtain ⟨-, n_b_934, -⟩ := bz_ok e_b_934
                cases h
                subst hW1
                exact W.zret hx hb hr n_b_934 (fun _ ht9 _ => ⟨⟨_, (), rfl, rfl, hPt ht9 hP.1⟩, hS.F ht9⟩) hS.2.2 dX11_pour_65
          · have h := ie c_914 h
            refine lv_aload_n hx hb dX11_pour_38 rfl (lv_at hl 2 rfl) ?_
            refine lv_iconst (v := 1) hx hb dX11_pour_39 (by decide) ?_
            obtain ⟨z_935, e_z_935, h⟩ := bi h
            refine efVi (rest := []) ⟨hx, hb, hml, hown, ht⟩ (c_X11_deny l D cy fu A_b (A_T 0) r_b_army r_b_war r_b_draftArmy r_b_draftWar r_b_reader r_b_armyReader r_b_warReader r_b_markedArmies r_b_markedWars r_b_latest r_b_trial r_b_foresight r_b_pairs b_latestStatus b_fractionTop b_fractionBottom b_marks 1 z_935 e_z_935 _ rfl _ rfl) (cV ht mv_X11_deny tb_507 rfl rfl ⟨Nat.le_of_ble_eq_true rfl, Nat.le_of_ble_eq_true rfl⟩) hP hS hX [0] rfl rfl rfl rfl rfl rfl hl.1 rfl (Nat.le_of_ble_eq_true rfl) dX11_pour_40 ⟨Nat.le_of_ble_eq_true rfl, Nat.le_of_ble_eq_true rfl⟩ (fun H locs hP hS => ?_)
            have hP : PD D A [bl_X11 cy A_b (A_T 0) r_b_army r_b_war r_b_draftArmy r_b_draftWar r_b_reader r_b_armyReader r_b_warReader r_b_markedArmies r_b_markedWars r_b_latest r_b_trial r_b_foresight r_b_pairs z_935.2 b_fractionTop b_fractionBottom b_marks, [(A_T 0, .inl (cy 4, 4, .inr (.inr (.inr (.inr (trf4 (A_y0 0) (A_y1 0) (A_y2 0) (A_y3 0)))))))], bl_X8 cy A_y0 y0_row y0_missing y0_sort y0_many, bl_X8 cy A_y1 y1_row y1_missing y1_sort y1_many, bl_X8 cy A_y2 y2_row y2_missing y2_sort y2_many, bl_X8 cy A_y3 y3_row y3_missing y3_sort y3_many] H := hP
            obtain ⟨b_936, e_b_936, h⟩ := bi h
            obtain ⟨-, n_b_936, -⟩ := bz_ok e_b_936
            cases h
            subst hW1
            exact W.zret hx hb hr n_b_936 (fun _ ht9 _ => ⟨⟨_, (), rfl, rfl, hPt ht9 hP.1⟩, hS.F ht9⟩) hS.2.2 dX11_pour_43
    have h := ie c_907 h
    by_cases c_937 : x3 = 2
    · have h := it c_937 h
      refine roVq (rest := []) ⟨hx, hb, hml, hown, ht⟩ (c_X11_trayAt l D cy fu A_b r_b_army r_b_war r_b_draftArmy r_b_draftWar r_b_reader r_b_armyReader r_b_warReader r_b_markedArmies r_b_markedWars r_b_latest r_b_trial r_b_foresight r_b_pairs b_latestStatus b_fractionTop b_fractionBottom b_marks A_T (trf4 (A_y0 0) (A_y1 0) (A_y2 0) (A_y3 0)) x3 (some (A_y2 0)) (tray_2 c_937)) (cV ht mv_X11_trayAt tb_500 rfl rfl ⟨Nat.le_of_ble_eq_true rfl, Nat.le_of_ble_eq_true rfl⟩) (P_sub hP.1 [0, 1] rfl) hX rfl rfl rfl hl.1 rfl (Nat.le_of_ble_eq_true rfl) dX11_pour_9 ⟨Nat.le_of_ble_eq_true rfl, Nat.le_of_ble_eq_true rfl⟩ ?_
      refine lv_astore (lv' := [(7, .ref (A_y2 0)), (6, .ref (A_y3 0)), (0, .ref (A_b 0)), (1, .int x1), (2, .int x2), (3, .int x3), (4, .int x4), (5, .int x5)]) hx hb dX11_pour_12 hl (by decide) rfl (fun ls hl => ?_)
      refine lv_aload hx hb dX11_pour_14 (lv_at hl 1 rfl) ?_
      refine lv_ifnull hx hb dX11_pour_16 ?_
      refine lv_aload hx hb dX11_pour_19 (lv_at hl 0 rfl) ?_
      refine lv_ifnull hx hb dX11_pour_21 ?_
      refine lv_iload_n hx hb dX11_pour_24 rfl (lv_at hl 4 rfl) ?_
      refine lv_if_lt (tgt := 38) hx hb dX11_pour_25 (by decide) (fun c_938 => ?_) (fun c_938 => ?_)
      · have h := it c_938 h
        refine lv_aload_n hx hb dX11_pour_38 rfl (lv_at hl 2 rfl) ?_
        refine lv_iconst (v := 1) hx hb dX11_pour_39 (by decide) ?_
        obtain ⟨z_939, e_z_939, h⟩ := bi h
        refine efVi (rest := []) ⟨hx, hb, hml, hown, ht⟩ (c_X11_deny l D cy fu A_b (A_T 0) r_b_army r_b_war r_b_draftArmy r_b_draftWar r_b_reader r_b_armyReader r_b_warReader r_b_markedArmies r_b_markedWars r_b_latest r_b_trial r_b_foresight r_b_pairs b_latestStatus b_fractionTop b_fractionBottom b_marks 1 z_939 e_z_939 _ rfl _ rfl) (cV ht mv_X11_deny tb_507 rfl rfl ⟨Nat.le_of_ble_eq_true rfl, Nat.le_of_ble_eq_true rfl⟩) hP hS hX [0] rfl rfl rfl rfl rfl rfl hl.1 rfl (Nat.le_of_ble_eq_true rfl) dX11_pour_40 ⟨Nat.le_of_ble_eq_true rfl, Nat.le_of_ble_eq_true rfl⟩ (fun H locs hP hS => ?_)
        have hP : PD D A [bl_X11 cy A_b (A_T 0) r_b_army r_b_war r_b_draftArmy r_b_draftWar r_b_reader r_b_armyReader r_b_warReader r_b_markedArmies r_b_markedWars r_b_latest r_b_trial r_b_foresight r_b_pairs z_939.2 b_fractionTop b_fractionBottom b_marks, [(A_T 0, .inl (cy 4, 4, .inr (.inr (.inr (.inr (trf4 (A_y0 0) (A_y1 0) (A_y2 0) (A_y3 0)))))))], bl_X8 cy A_y0 y0_row y0_missing y0_sort y0_many, bl_X8 cy A_y1 y1_row y1_missing y1_sort y1_many, bl_X8 cy A_y2 y2_row y2_missing y2_sort y2_many, bl_X8 cy A_y3 y3_row y3_missing y3_sort y3_many] H := hP
        obtain ⟨b_940, e_b_940, h⟩ := bi h
        obtain ⟨-, n_b_940, -⟩ := bz_ok e_b_940
        cases h
        subst hW1
        exact W.zret hx hb hr n_b_940 (fun _ ht9 _ => ⟨⟨_, (), rfl, rfl, hPt ht9 hP.1⟩, hS.F ht9⟩) hS.2.2 dX11_pour_43
      · have h := ie c_938 h
        refine lv_iload hx hb dX11_pour_28 (lv_at hl 6 rfl) ?_
        refine lv_if_lt (tgt := 38) hx hb dX11_pour_30 (by decide) (fun c_941 => ?_) (fun c_941 => ?_)
        · have h := it c_941 h
          refine lv_aload_n hx hb dX11_pour_38 rfl (lv_at hl 2 rfl) ?_
          refine lv_iconst (v := 1) hx hb dX11_pour_39 (by decide) ?_
          obtain ⟨z_942, e_z_942, h⟩ := bi h
          refine efVi (rest := []) ⟨hx, hb, hml, hown, ht⟩ (c_X11_deny l D cy fu A_b (A_T 0) r_b_army r_b_war r_b_draftArmy r_b_draftWar r_b_reader r_b_armyReader r_b_warReader r_b_markedArmies r_b_markedWars r_b_latest r_b_trial r_b_foresight r_b_pairs b_latestStatus b_fractionTop b_fractionBottom b_marks 1 z_942 e_z_942 _ rfl _ rfl) (cV ht mv_X11_deny tb_507 rfl rfl ⟨Nat.le_of_ble_eq_true rfl, Nat.le_of_ble_eq_true rfl⟩) hP hS hX [0] rfl rfl rfl rfl rfl rfl hl.1 rfl (Nat.le_of_ble_eq_true rfl) dX11_pour_40 ⟨Nat.le_of_ble_eq_true rfl, Nat.le_of_ble_eq_true rfl⟩ (fun H locs hP hS => ?_)
          have hP : PD D A [bl_X11 cy A_b (A_T 0) r_b_army r_b_war r_b_draftArmy r_b_draftWar r_b_reader r_b_armyReader r_b_warReader r_b_markedArmies r_b_markedWars r_b_latest r_b_trial r_b_foresight r_b_pairs z_942.2 b_fractionTop b_fractionBottom b_marks, [(A_T 0, .inl (cy 4, 4, .inr (.inr (.inr (.inr (trf4 (A_y0 0) (A_y1 0) (A_y2 0) (A_y3 0)))))))], bl_X8 cy A_y0 y0_row y0_missing y0_sort y0_many, bl_X8 cy A_y1 y1_row y1_missing y1_sort y1_many, bl_X8 cy A_y2 y2_row y2_missing y2_sort y2_many, bl_X8 cy A_y3 y3_row y3_missing y3_sort y3_many] H := hP
          obtain ⟨b_943, e_b_943, h⟩ := bi h
          obtain ⟨-, n_b_943, -⟩ := bz_ok e_b_943
          cases h
          subst hW1
          exact W.zret hx hb hr n_b_943 (fun _ ht9 _ => ⟨⟨_, (), rfl, rfl, hPt ht9 hP.1⟩, hS.F ht9⟩) hS.2.2 dX11_pour_43
        · have h := ie c_941 h
          refine lv_iload hx hb dX11_pour_33 (lv_at hl 7 rfl) ?_
          refine lv_if_ge (tgt := 44) hx hb dX11_pour_35 (by decide) (fun c_944 => ?_) (fun c_944 => ?_)
          · have h := it c_944 h
            refine lv_aload hx hb dX11_pour_44 (lv_at hl 1 rfl) ?_
            refine xget (i := 5) (j := 0) (k := 1) (T := TX8) hx hb ht tb_iX8 hown hX hP.1 rfl rfl rfl (by decide) tb_416 rfl dX11_pour_46 ?_
            refine lv_if_ne (tgt := 60) hx hb dX11_pour_49 (by decide) (fun c_945 => ?_) (fun c_945 => ?_)
            · have h := ie c_945 h
              refine lv_aload_n hx hb dX11_pour_60 rfl (lv_at hl 2 rfl) ?_
              refine lv_iconst (v := 2) hx hb dX11_pour_61 (by decide) ?_
              obtain ⟨z_946, e_z_946, h⟩ := bi h
              refine efVi (rest := []) ⟨hx, hb, hml, hown, ht⟩ (c_X11_deny l D cy fu A_b (A_T 0) r_b_army r_b_war r_b_draftArmy r_b_draftWar r_b_reader r_b_armyReader r_b_warReader r_b_markedArmies r_b_markedWars r_b_latest r_b_trial r_b_foresight r_b_pairs b_latestStatus b_fractionTop b_fractionBottom b_marks 2 z_946 e_z_946 _ rfl _ rfl) (cV ht mv_X11_deny tb_507 rfl rfl ⟨Nat.le_of_ble_eq_true rfl, Nat.le_of_ble_eq_true rfl⟩) hP hS hX [0] rfl rfl rfl rfl rfl rfl hl.1 rfl (Nat.le_of_ble_eq_true rfl) dX11_pour_62 ⟨Nat.le_of_ble_eq_true rfl, Nat.le_of_ble_eq_true rfl⟩ (fun H locs hP hS => ?_)
              have hP : PD D A [bl_X11 cy A_b (A_T 0) r_b_army r_b_war r_b_draftArmy r_b_draftWar r_b_reader r_b_armyReader r_b_warReader r_b_markedArmies r_b_markedWars r_b_latest r_b_trial r_b_foresight r_b_pairs z_946.2 b_fractionTop b_fractionBottom b_marks, [(A_T 0, .inl (cy 4, 4, .inr (.inr (.inr (.inr (trf4 (A_y0 0) (A_y1 0) (A_y2 0) (A_y3 0)))))))], bl_X8 cy A_y0 y0_row y0_missing y0_sort y0_many, bl_X8 cy A_y1 y1_row y1_missing y1_sort y1_many, bl_X8 cy A_y2 y2_row y2_missing y2_sort y2_many, bl_X8 cy A_y3 y3_row y3_missing y3_sort y3_many] H := hP
              obtain ⟨b_947, e_b_947, h⟩ := bi h
              obtain ⟨-, n_b_947, -⟩ := bz_ok e_b_947
              cases h
              subst hW1
              exact W.zret hx hb hr n_b_947 (fun _ ht9 _ => ⟨⟨_, (), rfl, rfl, hPt ht9 hP.1⟩, hS.F ht9⟩) hS.2.2 dX11_pour_65
            · have h := it c_945 h
              refine lv_aload hx hb dX11_pour_52 (lv_at hl 0 rfl) ?_
              refine xget (i := 4) (j := 0) (k := 1) (T := TX8) hx hb ht tb_iX8 hown hX hP.1 rfl rfl rfl (by decide) tb_416 rfl dX11_pour_54 ?_
              refine lv_if_eq (tgt := 66) hx hb dX11_pour_57 (by decide) (fun c_948 => ?_) (fun c_948 => ?_)
              · have h := it c_948 h
                refine lv_aload hx hb dX11_pour_66 (lv_at hl 1 rfl) ?_
                refine xget (i := 5) (j := 0) (k := 2) (T := TX8) hx hb ht tb_iX8 hown hX hP.1 rfl rfl rfl (by decide) tb_418 rfl dX11_pour_68 ?_
                refine lv_aload hx hb dX11_pour_71 (lv_at hl 0 rfl) ?_
                refine xget (i := 4) (j := 0) (k := 2) (T := TX8) hx hb ht tb_iX8 hown hX hP.1 rfl rfl rfl (by decide) tb_418 rfl dX11_pour_73 ?_
                refine lv_icmp_eq (tgt := 86) hx hb dX11_pour_76 (by decide) (fun c_949 => ?_) (fun c_949 => ?_)
                · have h := it c_949 h
                  refine lv_aload hx hb dX11_pour_86 (lv_at hl 1 rfl) ?_
                  refine lv_iload_n hx hb dX11_pour_88 rfl (lv_at hl 4 rfl) ?_
                  refine lv_iload hx hb dX11_pour_89 (lv_at hl 7 rfl) ?_
                  obtain ⟨z_950, e_z_950, h⟩ := bi h
                  refine roVi (rest := []) ⟨hx, hb, hml, hown, ht⟩ (c_X8_hasPlaces l D cy fu A_y3 y3_row y3_missing y3_sort y3_many x2 x5 z_950 e_z_950) (cV ht mv_X8_hasPlaces tb_526 rfl rfl ⟨Nat.le_of_ble_eq_true rfl, Nat.le_of_ble_eq_true rfl⟩) (P_sub hP.1 [5] rfl) hX rfl rfl rfl hl.1 rfl (Nat.le_of_ble_eq_true rfl) dX11_pour_91 ⟨Nat.le_of_ble_eq_true rfl, Nat.le_of_ble_eq_true rfl⟩ ?_
                  refine lv_if_eq (tgt := 109) hx hb dX11_pour_94 (by decide) (fun c_951 => ?_) (fun c_951 => ?_)
                  · have h := it c_951 h
                    refine lv_aload_n hx hb dX11_pour_109 rfl (lv_at hl 2 rfl) ?_
                    refine lv_iconst (v := 3) hx hb dX11_pour_110 (by decide) ?_
                    obtain ⟨z_952, e_z_952, h⟩ := bi h
                    refine efVi (rest := []) ⟨hx, hb, hml, hown, ht⟩ (c_X11_deny l D cy fu A_b (A_T 0) r_b_army r_b_war r_b_draftArmy r_b_draftWar r_b_reader r_b_armyReader r_b_warReader r_b_markedArmies r_b_markedWars r_b_latest r_b_trial r_b_foresight r_b_pairs b_latestStatus b_fractionTop b_fractionBottom b_marks 3 z_952 e_z_952 _ rfl _ rfl) (cV ht mv_X11_deny tb_507 rfl rfl ⟨Nat.le_of_ble_eq_true rfl, Nat.le_of_ble_eq_true rfl⟩) hP hS hX [0] rfl rfl rfl rfl rfl rfl hl.1 rfl (Nat.le_of_ble_eq_true rfl) dX11_pour_111 ⟨Nat.le_of_ble_eq_true rfl, Nat.le_of_ble_eq_true rfl⟩ (fun H locs hP hS => ?_)
                    have hP : PD D A [bl_X11 cy A_b (A_T 0) r_b_army r_b_war r_b_draftArmy r_b_draftWar r_b_reader r_b_armyReader r_b_warReader r_b_markedArmies r_b_markedWars r_b_latest r_b_trial r_b_foresight r_b_pairs z_952.2 b_fractionTop b_fractionBottom b_marks, [(A_T 0, .inl (cy 4, 4, .inr (.inr (.inr (.inr (trf4 (A_y0 0) (A_y1 0) (A_y2 0) (A_y3 0)))))))], bl_X8 cy A_y0 y0_row y0_missing y0_sort y0_many, bl_X8 cy A_y1 y1_row y1_missing y1_sort y1_many, bl_X8 cy A_y2 y2_row y2_missing y2_sort y2_many, bl_X8 cy A_y3 y3_row y3_missing y3_sort y3_many] H := hP
                    obtain ⟨b_953, e_b_953, h⟩ := bi h
                    obtain ⟨-, n_b_953, -⟩ := bz_ok e_b_953
                    cases h
                    subst hW1
                    exact W.zret hx hb hr n_b_953 (fun _ ht9 _ => ⟨⟨_, (), rfl, rfl, hPt ht9 hP.1⟩, hS.F ht9⟩) hS.2.2 dX11_pour_114
                  · have h := ie c_951 h
                    refine lv_aload hx hb dX11_pour_97 (lv_at hl 0 rfl) ?_
                    refine lv_iload hx hb dX11_pour_99 (lv_at hl 6 rfl) ?_
                    refine lv_iload hx hb dX11_pour_101 (lv_at hl 7 rfl) ?_
                    obtain ⟨z_954, e_z_954, h⟩ := bi h
                    refine roVi (rest := []) ⟨hx, hb, hml, hown, ht⟩ (c_X8_hasPlaces l D cy fu A_y2 y2_row y2_missing y2_sort y2_many x4 x5 z_954 e_z_954) (cV ht mv_X8_hasPlaces tb_526 rfl rfl ⟨Nat.le_of_ble_eq_true rfl, Nat.le_of_ble_eq_true rfl⟩) (P_sub hP.1 [4] rfl) hX rfl rfl rfl hl.1 rfl (Nat.le_of_ble_eq_true rfl) dX11_pour_103 ⟨Nat.le_of_ble_eq_true rfl, Nat.le_of_ble_eq_true rfl⟩ ?_
                    refine lv_if_ne (tgt := 115) hx hb dX11_pour_106 (by decide) (fun c_955 => ?_) (fun c_955 => ?_)
                    · have h := ie c_955 h
                      refine lv_aload hx hb dX11_pour_115 (lv_at hl 1 rfl) ?_
                      refine xget (i := 5) (j := 0) (k := 0) (T := TX8) hx hb ht tb_iX8 hown hX hP.1 rfl rfl rfl (by decide) tb_414 rfl dX11_pour_117 ?_
                      refine lv_iload_n hx hb dX11_pour_120 rfl (lv_at hl 4 rfl) ?_
                      refine lv_aload hx hb dX11_pour_121 (lv_at hl 0 rfl) ?_
                      refine xget (i := 4) (j := 0) (k := 0) (T := TX8) hx hb ht tb_iX8 hown hX hP.1 rfl rfl rfl (by decide) tb_414 rfl dX11_pour_123 ?_
                      refine lv_iload hx hb dX11_pour_126 (lv_at hl 6 rfl) ?_
                      refine lv_iload hx hb dX11_pour_128 (lv_at hl 7 rfl) ?_
                      obtain ⟨y2_row_956, e_y2_row_956, h⟩ := bi h
                      refine xcpJ (i0 := 5) (j0 := 1) (i1 := 4) (j1 := 1) hx hb (hml.trans hl.1.symm) hown (ht _ tb_555) (ht _ tb_557) (ht _ tb_556) (ht _ tb_18) hX hP hS rfl rfl rfl rfl e_y2_row_956 (Nat.le_of_ble_eq_true rfl) (Nat.le_of_ble_eq_true rfl) dX11_pour_130 (fun H locs hP hS => ?_)
                      have hP : PD D A [bl_X11 cy A_b (A_T 0) r_b_army r_b_war r_b_draftArmy r_b_draftWar r_b_reader r_b_armyReader r_b_warReader r_b_markedArmies r_b_markedWars r_b_latest r_b_trial r_b_foresight r_b_pairs b_latestStatus b_fractionTop b_fractionBottom b_marks, [(A_T 0, .inl (cy 4, 4, .inr (.inr (.inr (.inr (trf4 (A_y0 0) (A_y1 0) (A_y2 0) (A_y3 0)))))))], bl_X8 cy A_y0 y0_row y0_missing y0_sort y0_many, bl_X8 cy A_y1 y1_row y1_missing y1_sort y1_many, bl_X8 cy A_y2 y2_row_956 y2_missing y2_sort y2_many, bl_X8 cy A_y3 y3_row y3_missing y3_sort y3_many] H := hP
                      refine lv_aload_n hx hb dX11_pour_133 rfl (lv_at hl 2 rfl) ?_
                      obtain ⟨z_957, e_z_957, h⟩ := bi h
                      refine efVi (rest := []) ⟨hx, hb, hml, hown, ht⟩ (c_X11_allow l D cy fu A_b (A_T 0) r_b_army r_b_war r_b_draftArmy r_b_draftWar r_b_reader r_b_armyReader r_b_warReader r_b_markedArmies r_b_markedWars r_b_latest r_b_trial r_b_foresight r_b_pairs b_latestStatus b_fractionTop b_fractionBottom b_marks z_957 e_z_957 _ rfl _ rfl) (cV ht mv_X11_allow tb_518 rfl rfl ⟨Nat.le_of_ble_eq_true rfl, Nat.le_of_ble_eq_true rfl⟩) hP hS hX [0] rfl rfl rfl rfl rfl rfl hl.1 rfl (Nat.le_of_ble_eq_true rfl) dX11_pour_134 ⟨Nat.le_of_ble_eq_true rfl, Nat.le_of_ble_eq_true rfl⟩ (fun H locs hP hS => ?_)
                      have hP : PD D A [bl_X11 cy A_b (A_T 0) r_b_army r_b_war r_b_draftArmy r_b_draftWar r_b_reader r_b_armyReader r_b_warReader r_b_markedArmies r_b_markedWars r_b_latest r_b_trial r_b_foresight r_b_pairs z_957.2 b_fractionTop b_fractionBottom b_marks, [(A_T 0, .inl (cy 4, 4, .inr (.inr (.inr (.inr (trf4 (A_y0 0) (A_y1 0) (A_y2 0) (A_y3 0)))))))], bl_X8 cy A_y0 y0_row y0_missing y0_sort y0_many, bl_X8 cy A_y1 y1_row y1_missing y1_sort y1_many, bl_X8 cy A_y2 y2_row_956 y2_missing y2_sort y2_many, bl_X8 cy A_y3 y3_row y3_missing y3_sort y3_many] H := hP
                      obtain ⟨b_958, e_b_958, h⟩ := bi h
                      obtain ⟨-, n_b_958, -⟩ := bz_ok e_b_958
                      cases h
                      subst hW1
                      exact W.zret hx hb hr n_b_958 (fun _ ht9 _ => ⟨⟨_, (), rfl, rfl, hPt ht9 hP.1⟩, hS.F ht9⟩) hS.2.2 dX11_pour_137
                    · have h := it c_955 h
                      refine lv_aload_n hx hb dX11_pour_109 rfl (lv_at hl 2 rfl) ?_
                      refine lv_iconst (v := 3) hx hb dX11_pour_110 (by decide) ?_
                      obtain ⟨z_959, e_z_959, h⟩ := bi h
                      refine efVi (rest := []) ⟨hx, hb, hml, hown, ht⟩ (c_X11_deny l D cy fu A_b (A_T 0) r_b_army r_b_war r_b_draftArmy r_b_draftWar r_b_reader r_b_armyReader r_b_warReader r_b_markedArmies r_b_markedWars r_b_latest r_b_trial r_b_foresight r_b_pairs b_latestStatus b_fractionTop b_fractionBottom b_marks 3 z_959 e_z_959 _ rfl _ rfl) (cV ht mv_X11_deny tb_507 rfl rfl ⟨Nat.le_of_ble_eq_true rfl, Nat.le_of_ble_eq_true rfl⟩) hP hS hX [0] rfl rfl rfl rfl rfl rfl hl.1 rfl (Nat.le_of_ble_eq_true rfl) dX11_pour_111 ⟨Nat.le_of_ble_eq_true rfl, Nat.le_of_ble_eq_true rfl⟩ (fun H locs hP hS => ?_)
                      have hP : PD D A [bl_X11 cy A_b (A_T 0) r_b_army r_b_war r_b_draftArmy r_b_draftWar r_b_reader r_b_armyReader r_b_warReader r_b_markedArmies r_b_markedWars r_b_latest r_b_trial r_b_foresight r_b_pairs z_959.2 b_fractionTop b_fractionBottom b_marks, [(A_T 0, .inl (cy 4, 4, .inr (.inr (.inr (.inr (trf4 (A_y0 0) (A_y1 0) (A_y2 0) (A_y3 0)))))))], bl_X8 cy A_y0 y0_row y0_missing y0_sort y0_many, bl_X8 cy A_y1 y1_row y1_missing y1_sort y1_many, bl_X8 cy A_y2 y2_row y2_missing y2_sort y2_many, bl_X8 cy A_y3 y3_row y3_missing y3_sort y3_many] H := hP
                      obtain ⟨b_960, e_b_960, h⟩ := bi h
                      obtain ⟨-, n_b_960, -⟩ := bz_ok e_b_960
                      cases h
                      subst hW1
                      exact W.zret hx hb hr n_b_960 (fun _ ht9 _ => ⟨⟨_, (), rfl, rfl, hPt ht9 hP.1⟩, hS.F ht9⟩) hS.2.2 dX11_pour_114
                · have h := ie c_949 h
                  refine lv_aload_n hx hb dX11_pour_79 rfl (lv_at hl 2 rfl) ?_
                  refine lv_bipush (v := 8) hx hb dX11_pour_80 (by decide) ?_
                  obtain ⟨z_961, e_z_961, h⟩ := bi h
                  refine efVi (rest := []) ⟨hx, hb, hml, hown, ht⟩ (c_X11_deny l D cy fu A_b (A_T 0) r_b_army r_b_war r_b_draftArmy r_b_draftWar r_b_reader r_b_armyReader r_b_warReader r_b_markedArmies r_b_markedWars r_b_latest r_b_trial r_b_foresight r_b_pairs b_latestStatus b_fractionTop b_fractionBottom b_marks 8 z_961 e_z_961 _ rfl _ rfl) (cV ht mv_X11_deny tb_507 rfl rfl ⟨Nat.le_of_ble_eq_true rfl, Nat.le_of_ble_eq_true rfl⟩) hP hS hX [0] rfl rfl rfl rfl rfl rfl hl.1 rfl (Nat.le_of_ble_eq_true rfl) dX11_pour_82 ⟨Nat.le_of_ble_eq_true rfl, Nat.le_of_ble_eq_true rfl⟩ (fun H locs hP hS => ?_)
                  have hP : PD D A [bl_X11 cy A_b (A_T 0) r_b_army r_b_war r_b_draftArmy r_b_draftWar r_b_reader r_b_armyReader r_b_warReader r_b_markedArmies r_b_markedWars r_b_latest r_b_trial r_b_foresight r_b_pairs z_961.2 b_fractionTop b_fractionBottom b_marks, [(A_T 0, .inl (cy 4, 4, .inr (.inr (.inr (.inr (trf4 (A_y0 0) (A_y1 0) (A_y2 0) (A_y3 0)))))))], bl_X8 cy A_y0 y0_row y0_missing y0_sort y0_many, bl_X8 cy A_y1 y1_row y1_missing y1_sort y1_many, bl_X8 cy A_y2 y2_row y2_missing y2_sort y2_many, bl_X8 cy A_y3 y3_row y3_missing y3_sort y3_many] H := hP
                  obtain ⟨b_962, e_b_962, h⟩ := bi h
                  obtain ⟨-, n_b_962, -⟩ := bz_ok e_b_962
                  cases h
                  subst hW1
                  exact W.zret hx hb hr n_b_962 (fun _ ht9 _ => ⟨⟨_, (), rfl, rfl, hPt ht9 hP.1⟩, hS.F ht9⟩) hS.2.2 dX11_pour_85
              · have h := ie c_948 h
                refine lv_aload_n hx hb dX11_pour_60 rfl (lv_at hl 2 rfl) ?_
                refine lv_iconst (v := 2) hx hb dX11_pour_61 (by decide) ?_
                obtain ⟨z_963, e_z_963, h⟩ := bi h
                refine efVi (rest := []) ⟨hx, hb, hml, hown, ht⟩ (c_X11_deny l D cy fu A_b (A_T 0) r_b_army r_b_war r_b_draftArmy r_b_draftWar r_b_reader r_b_armyReader r_b_warReader r_b_markedArmies r_b_markedWars r_b_latest r_b_trial r_b_foresight r_b_pairs b_latestStatus b_fractionTop b_fractionBottom b_marks 2 z_963 e_z_963 _ rfl _ rfl) (cV ht mv_X11_deny tb_507 rfl rfl ⟨Nat.le_of_ble_eq_true rfl, Nat.le_of_ble_eq_true rfl⟩) hP hS hX [0] rfl rfl rfl rfl rfl rfl hl.1 rfl (Nat.le_of_ble_eq_true rfl) dX11_pour_62 ⟨Nat.le_of_ble_eq_true rfl, Nat.le_of_ble_eq_true rfl⟩ (fun H locs hP hS => ?_)
                have hP : PD D A [bl_X11 cy A_b (A_T 0) r_b_army r_b_war r_b_draftArmy r_b_draftWar r_b_reader r_b_armyReader r_b_warReader r_b_markedArmies r_b_markedWars r_b_latest r_b_trial r_b_foresight r_b_pairs z_963.2 b_fractionTop b_fractionBottom b_marks, [(A_T 0, .inl (cy 4, 4, .inr (.inr (.inr (.inr (trf4 (A_y0 0) (A_y1 0) (A_y2 0) (A_y3 0)))))))], bl_X8 cy A_y0 y0_row y0_missing y0_sort y0_many, bl_X8 cy A_y1 y1_row y1_missing y1_sort y1_many, bl_X8 cy A_y2 y2_row y2_missing y2_sort y2_many, bl_X8 cy A_y3 y3_row y3_missing y3_sort y3_many] H := hP
                obtain ⟨b_964, e_b_964, h⟩ := bi h
                obtain ⟨-, n_b_964, -⟩ := bz_ok e_b_964
                cases h
                subst hW1
                exact W.zret hx hb hr n_b_964 (fun _ ht9 _ => ⟨⟨_, (), rfl, rfl, hPt ht9 hP.1⟩, hS.F ht9⟩) hS.2.2 dX11_pour_65
          · have h := ie c_944 h
            refine lv_aload_n hx hb dX11_pour_38 rfl (lv_at hl 2 rfl) ?_
            refine lv_iconst (v := 1) hx hb dX11_pour_39 (by decide) ?_
            obtain ⟨z_965, e_z_965, h⟩ := bi h
            refine efVi (rest := []) ⟨hx, hb, hml, hown, ht⟩ (c_X11_deny l D cy fu A_b (A_T 0) r_b_army r_b_war r_b_draftArmy r_b_draftWar r_b_reader r_b_armyReader r_b_warReader r_b_markedArmies r_b_markedWars r_b_latest r_b_trial r_b_foresight r_b_pairs b_latestStatus b_fractionTop b_fractionBottom b_marks 1 z_965 e_z_965 _ rfl _ rfl) (cV ht mv_X11_deny tb_507 rfl rfl ⟨Nat.le_of_ble_eq_true rfl, Nat.le_of_ble_eq_true rfl⟩) hP hS hX [0] rfl rfl rfl rfl rfl rfl hl.1 rfl (Nat.le_of_ble_eq_true rfl) dX11_pour_40 ⟨Nat.le_of_ble_eq_true rfl, Nat.le_of_ble_eq_true rfl⟩ (fun H locs hP hS => ?_)
            have hP : PD D A [bl_X11 cy A_b (A_T 0) r_b_army r_b_war r_b_draftArmy r_b_draftWar r_b_reader r_b_armyReader r_b_warReader r_b_markedArmies r_b_markedWars r_b_latest r_b_trial r_b_foresight r_b_pairs z_965.2 b_fractionTop b_fractionBottom b_marks, [(A_T 0, .inl (cy 4, 4, .inr (.inr (.inr (.inr (trf4 (A_y0 0) (A_y1 0) (A_y2 0) (A_y3 0)))))))], bl_X8 cy A_y0 y0_row y0_missing y0_sort y0_many, bl_X8 cy A_y1 y1_row y1_missing y1_sort y1_many, bl_X8 cy A_y2 y2_row y2_missing y2_sort y2_many, bl_X8 cy A_y3 y3_row y3_missing y3_sort y3_many] H := hP
            obtain ⟨b_966, e_b_966, h⟩ := bi h
            obtain ⟨-, n_b_966, -⟩ := bz_ok e_b_966
            cases h
            subst hW1
            exact W.zret hx hb hr n_b_966 (fun _ ht9 _ => ⟨⟨_, (), rfl, rfl, hPt ht9 hP.1⟩, hS.F ht9⟩) hS.2.2 dX11_pour_43
    have h := ie c_937 h
    by_cases c_967 : x3 = 3
    · have h := it c_967 h
      refine roVq (rest := []) ⟨hx, hb, hml, hown, ht⟩ (c_X11_trayAt l D cy fu A_b r_b_army r_b_war r_b_draftArmy r_b_draftWar r_b_reader r_b_armyReader r_b_warReader r_b_markedArmies r_b_markedWars r_b_latest r_b_trial r_b_foresight r_b_pairs b_latestStatus b_fractionTop b_fractionBottom b_marks A_T (trf4 (A_y0 0) (A_y1 0) (A_y2 0) (A_y3 0)) x3 (some (A_y3 0)) (tray_3 c_967)) (cV ht mv_X11_trayAt tb_500 rfl rfl ⟨Nat.le_of_ble_eq_true rfl, Nat.le_of_ble_eq_true rfl⟩) (P_sub hP.1 [0, 1] rfl) hX rfl rfl rfl hl.1 rfl (Nat.le_of_ble_eq_true rfl) dX11_pour_9 ⟨Nat.le_of_ble_eq_true rfl, Nat.le_of_ble_eq_true rfl⟩ ?_
      refine lv_astore (lv' := [(7, .ref (A_y3 0)), (6, .ref (A_y3 0)), (0, .ref (A_b 0)), (1, .int x1), (2, .int x2), (3, .int x3), (4, .int x4), (5, .int x5)]) hx hb dX11_pour_12 hl (by decide) rfl (fun ls hl => ?_)
      refine lv_aload hx hb dX11_pour_14 (lv_at hl 1 rfl) ?_
      refine lv_ifnull hx hb dX11_pour_16 ?_
      refine lv_aload hx hb dX11_pour_19 (lv_at hl 0 rfl) ?_
      refine lv_ifnull hx hb dX11_pour_21 ?_
      refine lv_iload_n hx hb dX11_pour_24 rfl (lv_at hl 4 rfl) ?_
      refine lv_if_lt (tgt := 38) hx hb dX11_pour_25 (by decide) (fun c_968 => ?_) (fun c_968 => ?_)
      · have h := it c_968 h
        refine lv_aload_n hx hb dX11_pour_38 rfl (lv_at hl 2 rfl) ?_
        refine lv_iconst (v := 1) hx hb dX11_pour_39 (by decide) ?_
        obtain ⟨z_969, e_z_969, h⟩ := bi h
        refine efVi (rest := []) ⟨hx, hb, hml, hown, ht⟩ (c_X11_deny l D cy fu A_b (A_T 0) r_b_army r_b_war r_b_draftArmy r_b_draftWar r_b_reader r_b_armyReader r_b_warReader r_b_markedArmies r_b_markedWars r_b_latest r_b_trial r_b_foresight r_b_pairs b_latestStatus b_fractionTop b_fractionBottom b_marks 1 z_969 e_z_969 _ rfl _ rfl) (cV ht mv_X11_deny tb_507 rfl rfl ⟨Nat.le_of_ble_eq_true rfl, Nat.le_of_ble_eq_true rfl⟩) hP hS hX [0] rfl rfl rfl rfl rfl rfl hl.1 rfl (Nat.le_of_ble_eq_true rfl) dX11_pour_40 ⟨Nat.le_of_ble_eq_true rfl, Nat.le_of_ble_eq_true rfl⟩ (fun H locs hP hS => ?_)
        have hP : PD D A [bl_X11 cy A_b (A_T 0) r_b_army r_b_war r_b_draftArmy r_b_draftWar r_b_reader r_b_armyReader r_b_warReader r_b_markedArmies r_b_markedWars r_b_latest r_b_trial r_b_foresight r_b_pairs z_969.2 b_fractionTop b_fractionBottom b_marks, [(A_T 0, .inl (cy 4, 4, .inr (.inr (.inr (.inr (trf4 (A_y0 0) (A_y1 0) (A_y2 0) (A_y3 0)))))))], bl_X8 cy A_y0 y0_row y0_missing y0_sort y0_many, bl_X8 cy A_y1 y1_row y1_missing y1_sort y1_many, bl_X8 cy A_y2 y2_row y2_missing y2_sort y2_many, bl_X8 cy A_y3 y3_row y3_missing y3_sort y3_many] H := hP
        obtain ⟨b_970, e_b_970, h⟩ := bi h
        obtain ⟨-, n_b_970, -⟩ := bz_ok e_b_970
        cases h
        subst hW1
        exact W.zret hx hb hr n_b_970 (fun _ ht9 _ => ⟨⟨_, (), rfl, rfl, hPt ht9 hP.1⟩, hS.F ht9⟩) hS.2.2 dX11_pour_43
      · have h := ie c_968 h
        refine lv_iload hx hb dX11_pour_28 (lv_at hl 6 rfl) ?_
        refine lv_if_lt (tgt := 38) hx hb dX11_pour_30 (by decide) (fun c_971 => ?_) (fun c_971 => ?_)
        · have h := it c_971 h
          refine lv_aload_n hx hb dX11_pour_38 rfl (lv_at hl 2 rfl) ?_
          refine lv_iconst (v := 1) hx hb dX11_pour_39 (by decide) ?_
          obtain ⟨z_972, e_z_972, h⟩ := bi h
          refine efVi (rest := []) ⟨hx, hb, hml, hown, ht⟩ (c_X11_deny l D cy fu A_b (A_T 0) r_b_army r_b_war r_b_draftArmy r_b_draftWar r_b_reader r_b_armyReader r_b_warReader r_b_markedArmies r_b_markedWars r_b_latest r_b_trial r_b_foresight r_b_pairs b_latestStatus b_fractionTop b_fractionBottom b_marks 1 z_972 e_z_972 _ rfl _ rfl) (cV ht mv_X11_deny tb_507 rfl rfl ⟨Nat.le_of_ble_eq_true rfl, Nat.le_of_ble_eq_true rfl⟩) hP hS hX [0] rfl rfl rfl rfl rfl rfl hl.1 rfl (Nat.le_of_ble_eq_true rfl) dX11_pour_40 ⟨Nat.le_of_ble_eq_true rfl, Nat.le_of_ble_eq_true rfl⟩ (fun H locs hP hS => ?_)
          have hP : PD D A [bl_X11 cy A_b (A_T 0) r_b_army r_b_war r_b_draftArmy r_b_draftWar r_b_reader r_b_armyReader r_b_warReader r_b_markedArmies r_b_markedWars r_b_latest r_b_trial r_b_foresight r_b_pairs z_972.2 b_fractionTop b_fractionBottom b_marks, [(A_T 0, .inl (cy 4, 4, .inr (.inr (.inr (.inr (trf4 (A_y0 0) (A_y1 0) (A_y2 0) (A_y3 0)))))))], bl_X8 cy A_y0 y0_row y0_missing y0_sort y0_many, bl_X8 cy A_y1 y1_row y1_missing y1_sort y1_many, bl_X8 cy A_y2 y2_row y2_missing y2_sort y2_many, bl_X8 cy A_y3 y3_row y3_missing y3_sort y3_many] H := hP
          obtain ⟨b_973, e_b_973, h⟩ := bi h
          obtain ⟨-, n_b_973, -⟩ := bz_ok e_b_973
          cases h
          subst hW1
          exact W.zret hx hb hr n_b_973 (fun _ ht9 _ => ⟨⟨_, (), rfl, rfl, hPt ht9 hP.1⟩, hS.F ht9⟩) hS.2.2 dX11_pour_43
        · have h := ie c_971 h
          refine lv_iload hx hb dX11_pour_33 (lv_at hl 7 rfl) ?_
          refine lv_if_ge (tgt := 44) hx hb dX11_pour_35 (by decide) (fun c_974 => ?_) (fun c_974 => ?_)
          · have h := it c_974 h
            refine lv_aload hx hb dX11_pour_44 (lv_at hl 1 rfl) ?_
            refine xget (i := 5) (j := 0) (k := 1) (T := TX8) hx hb ht tb_iX8 hown hX hP.1 rfl rfl rfl (by decide) tb_416 rfl dX11_pour_46 ?_
            refine lv_if_ne (tgt := 60) hx hb dX11_pour_49 (by decide) (fun c_975 => ?_) (fun c_975 => ?_)
            · have h := ie c_975 h
              refine lv_aload_n hx hb dX11_pour_60 rfl (lv_at hl 2 rfl) ?_
              refine lv_iconst (v := 2) hx hb dX11_pour_61 (by decide) ?_
              obtain ⟨z_976, e_z_976, h⟩ := bi h
              refine efVi (rest := []) ⟨hx, hb, hml, hown, ht⟩ (c_X11_deny l D cy fu A_b (A_T 0) r_b_army r_b_war r_b_draftArmy r_b_draftWar r_b_reader r_b_armyReader r_b_warReader r_b_markedArmies r_b_markedWars r_b_latest r_b_trial r_b_foresight r_b_pairs b_latestStatus b_fractionTop b_fractionBottom b_marks 2 z_976 e_z_976 _ rfl _ rfl) (cV ht mv_X11_deny tb_507 rfl rfl ⟨Nat.le_of_ble_eq_true rfl, Nat.le_of_ble_eq_true rfl⟩) hP hS hX [0] rfl rfl rfl rfl rfl rfl hl.1 rfl (Nat.le_of_ble_eq_true rfl) dX11_pour_62 ⟨Nat.le_of_ble_eq_true rfl, Nat.le_of_ble_eq_true rfl⟩ (fun H locs hP hS => ?_)
              have hP : PD D A [bl_X11 cy A_b (A_T 0) r_b_army r_b_war r_b_draftArmy r_b_draftWar r_b_reader r_b_armyReader r_b_warReader r_b_markedArmies r_b_markedWars r_b_latest r_b_trial r_b_foresight r_b_pairs z_976.2 b_fractionTop b_fractionBottom b_marks, [(A_T 0, .inl (cy 4, 4, .inr (.inr (.inr (.inr (trf4 (A_y0 0) (A_y1 0) (A_y2 0) (A_y3 0)))))))], bl_X8 cy A_y0 y0_row y0_missing y0_sort y0_many, bl_X8 cy A_y1 y1_row y1_missing y1_sort y1_many, bl_X8 cy A_y2 y2_row y2_missing y2_sort y2_many, bl_X8 cy A_y3 y3_row y3_missing y3_sort y3_many] H := hP
              obtain ⟨b_977, e_b_977, h⟩ := bi h
              obtain ⟨-, n_b_977, -⟩ := bz_ok e_b_977
              cases h
              subst hW1
              exact W.zret hx hb hr n_b_977 (fun _ ht9 _ => ⟨⟨_, (), rfl, rfl, hPt ht9 hP.1⟩, hS.F ht9⟩) hS.2.2 dX11_pour_65
            · have h := it c_975 h
              refine lv_aload hx hb dX11_pour_52 (lv_at hl 0 rfl) ?_
              refine xget (i := 5) (j := 0) (k := 1) (T := TX8) hx hb ht tb_iX8 hown hX hP.1 rfl rfl rfl (by decide) tb_416 rfl dX11_pour_54 ?_
              refine lv_if_eq (tgt := 66) hx hb dX11_pour_57 (by decide) (fun c_978 => ?_) (fun c_978 => ?_)
              · have h := it c_978 h
                refine lv_aload hx hb dX11_pour_66 (lv_at hl 1 rfl) ?_
                refine xget (i := 5) (j := 0) (k := 2) (T := TX8) hx hb ht tb_iX8 hown hX hP.1 rfl rfl rfl (by decide) tb_418 rfl dX11_pour_68 ?_
                refine lv_aload hx hb dX11_pour_71 (lv_at hl 0 rfl) ?_
                refine xget (i := 5) (j := 0) (k := 2) (T := TX8) hx hb ht tb_iX8 hown hX hP.1 rfl rfl rfl (by decide) tb_418 rfl dX11_pour_73 ?_
                refine lv_icmp_eq (tgt := 86) hx hb dX11_pour_76 (by decide) (fun c_979 => ?_) (fun c_979 => ?_)
                · have h := it c_979 h
                  refine lv_aload hx hb dX11_pour_86 (lv_at hl 1 rfl) ?_
                  refine lv_iload_n hx hb dX11_pour_88 rfl (lv_at hl 4 rfl) ?_
                  refine lv_iload hx hb dX11_pour_89 (lv_at hl 7 rfl) ?_
                  obtain ⟨z_980, e_z_980, h⟩ := bi h
                  refine roVi (rest := []) ⟨hx, hb, hml, hown, ht⟩ (c_X8_hasPlaces l D cy fu A_y3 y3_row y3_missing y3_sort y3_many x2 x5 z_980 e_z_980) (cV ht mv_X8_hasPlaces tb_526 rfl rfl ⟨Nat.le_of_ble_eq_true rfl, Nat.le_of_ble_eq_true rfl⟩) (P_sub hP.1 [5] rfl) hX rfl rfl rfl hl.1 rfl (Nat.le_of_ble_eq_true rfl) dX11_pour_91 ⟨Nat.le_of_ble_eq_true rfl, Nat.le_of_ble_eq_true rfl⟩ ?_
                  refine lv_if_eq (tgt := 109) hx hb dX11_pour_94 (by decide) (fun c_981 => ?_) (fun c_981 => ?_)
                  · have h := it c_981 h
                    refine lv_aload_n hx hb dX11_pour_109 rfl (lv_at hl 2 rfl) ?_
                    refine lv_iconst (v := 3) hx hb dX11_pour_110 (by decide) ?_
                    obtain ⟨z_982, e_z_982, h⟩ := bi h
                    refine efVi (rest := []) ⟨hx, hb, hml, hown, ht⟩ (c_X11_deny l D cy fu A_b (A_T 0) r_b_army r_b_war r_b_draftArmy r_b_draftWar r_b_reader r_b_armyReader r_b_warReader r_b_markedArmies r_b_markedWars r_b_latest r_b_trial r_b_foresight r_b_pairs b_latestStatus b_fractionTop b_fractionBottom b_marks 3 z_982 e_z_982 _ rfl _ rfl) (cV ht mv_X11_deny tb_507 rfl rfl ⟨Nat.le_of_ble_eq_true rfl, Nat.le_of_ble_eq_true rfl⟩) hP hS hX [0] rfl rfl rfl rfl rfl rfl hl.1 rfl (Nat.le_of_ble_eq_true rfl) dX11_pour_111 ⟨Nat.le_of_ble_eq_true rfl, Nat.le_of_ble_eq_true rfl⟩ (fun H locs hP hS => ?_)
                    have hP : PD D A [bl_X11 cy A_b (A_T 0) r_b_army r_b_war r_b_draftArmy r_b_draftWar r_b_reader r_b_armyReader r_b_warReader r_b_markedArmies r_b_markedWars r_b_latest r_b_trial r_b_foresight r_b_pairs z_982.2 b_fractionTop b_fractionBottom b_marks, [(A_T 0, .inl (cy 4, 4, .inr (.inr (.inr (.inr (trf4 (A_y0 0) (A_y1 0) (A_y2 0) (A_y3 0)))))))], bl_X8 cy A_y0 y0_row y0_missing y0_sort y0_many, bl_X8 cy A_y1 y1_row y1_missing y1_sort y1_many, bl_X8 cy A_y2 y2_row y2_missing y2_sort y2_many, bl_X8 cy A_y3 y3_row y3_missing y3_sort y3_many] H := hP
                    obtain ⟨b_983, e_b_983, h⟩ := bi h
                    obtain ⟨-, n_b_983, -⟩ := bz_ok e_b_983
                    cases h
                    subst hW1
                    exact W.zret hx hb hr n_b_983 (fun _ ht9 _ => ⟨⟨_, (), rfl, rfl, hPt ht9 hP.1⟩, hS.F ht9⟩) hS.2.2 dX11_pour_114
                  · have h := ie c_981 h
                    refine lv_aload hx hb dX11_pour_97 (lv_at hl 0 rfl) ?_
                    refine lv_iload hx hb dX11_pour_99 (lv_at hl 6 rfl) ?_
                    refine lv_iload hx hb dX11_pour_101 (lv_at hl 7 rfl) ?_
                    obtain ⟨z_984, e_z_984, h⟩ := bi h
                    refine roVi (rest := []) ⟨hx, hb, hml, hown, ht⟩ (c_X8_hasPlaces l D cy fu A_y3 y3_row y3_missing y3_sort y3_many x4 x5 z_984 e_z_984) (cV ht mv_X8_hasPlaces tb_526 rfl rfl ⟨Nat.le_of_ble_eq_true rfl, Nat.le_of_ble_eq_true rfl⟩) (P_sub hP.1 [5] rfl) hX rfl rfl rfl hl.1 rfl (Nat.le_of_ble_eq_true rfl) dX11_pour_103 ⟨Nat.le_of_ble_eq_true rfl, Nat.le_of_ble_eq_true rfl⟩ ?_
                    refine lv_if_ne (tgt := 115) hx hb dX11_pour_106 (by decide) (fun c_985 => ?_) (fun c_985 => ?_)
                    · have h := ie c_985 h
                      refine lv_aload hx hb dX11_pour_115 (lv_at hl 1 rfl) ?_
                      refine xget (i := 5) (j := 0) (k := 0) (T := TX8) hx hb ht tb_iX8 hown hX hP.1 rfl rfl rfl (by decide) tb_414 rfl dX11_pour_117 ?_
                      refine lv_iload_n hx hb dX11_pour_120 rfl (lv_at hl 4 rfl) ?_
                      refine lv_aload hx hb dX11_pour_121 (lv_at hl 0 rfl) ?_
                      refine xget (i := 5) (j := 0) (k := 0) (T := TX8) hx hb ht tb_iX8 hown hX hP.1 rfl rfl rfl (by decide) tb_414 rfl dX11_pour_123 ?_
                      refine lv_iload hx hb dX11_pour_126 (lv_at hl 6 rfl) ?_
                      refine lv_iload hx hb dX11_pour_128 (lv_at hl 7 rfl) ?_
                      obtain ⟨y3_row_986, e_y3_row_986, h⟩ := bi h
                      refine xcpJ (i0 := 5) (j0 := 1) (i1 := 5) (j1 := 1) hx hb (hml.trans hl.1.symm) hown (ht _ tb_555) (ht _ tb_557) (ht _ tb_556) (ht _ tb_18) hX hP hS rfl rfl rfl rfl e_y3_row_986 (Nat.le_of_ble_eq_true rfl) (Nat.le_of_ble_eq_true rfl) dX11_pour_130 (fun H locs hP hS => ?_)
                      have hP : PD D A [bl_X11 cy A_b (A_T 0) r_b_army r_b_war r_b_draftArmy r_b_draftWar r_b_reader r_b_armyReader r_b_warReader r_b_markedArmies r_b_markedWars r_b_latest r_b_trial r_b_foresight r_b_pairs b_latestStatus b_fractionTop b_fractionBottom b_marks, [(A_T 0, .inl (cy 4, 4, .inr (.inr (.inr (.inr (trf4 (A_y0 0) (A_y1 0) (A_y2 0) (A_y3 0)))))))], bl_X8 cy A_y0 y0_row y0_missing y0_sort y0_many, bl_X8 cy A_y1 y1_row y1_missing y1_sort y1_many, bl_X8 cy A_y2 y2_row y2_missing y2_sort y2_many, bl_X8 cy A_y3 y3_row_986 y3_missing y3_sort y3_many] H := hP
                      refine lv_aload_n hx hb dX11_pour_133 rfl (lv_at hl 2 rfl) ?_
                      obtain ⟨z_987, e_z_987, h⟩ := bi h
                      refine efVi (rest := []) ⟨hx, hb, hml, hown, ht⟩ (c_X11_allow l D cy fu A_b (A_T 0) r_b_army r_b_war r_b_draftArmy r_b_draftWar r_b_reader r_b_armyReader r_b_warReader r_b_markedArmies r_b_markedWars r_b_latest r_b_trial r_b_foresight r_b_pairs b_latestStatus b_fractionTop b_fractionBottom b_marks z_987 e_z_987 _ rfl _ rfl) (cV ht mv_X11_allow tb_518 rfl rfl ⟨Nat.le_of_ble_eq_true rfl, Nat.le_of_ble_eq_true rfl⟩) hP hS hX [0] rfl rfl rfl rfl rfl rfl hl.1 rfl (Nat.le_of_ble_eq_true rfl) dX11_pour_134 ⟨Nat.le_of_ble_eq_true rfl, Nat.le_of_ble_eq_true rfl⟩ (fun H locs hP hS => ?_)
                      have hP : PD D A [bl_X11 cy A_b (A_T 0) r_b_army r_b_war r_b_draftArmy r_b_draftWar r_b_reader r_b_armyReader r_b_warReader r_b_markedArmies r_b_markedWars r_b_latest r_b_trial r_b_foresight r_b_pairs z_987.2 b_fractionTop b_fractionBottom b_marks, [(A_T 0, .inl (cy 4, 4, .inr (.inr (.inr (.inr (trf4 (A_y0 0) (A_y1 0) (A_y2 0) (A_y3 0)))))))], bl_X8 cy A_y0 y0_row y0_missing y0_sort y0_many, bl_X8 cy A_y1 y1_row y1_missing y1_sort y1_many, bl_X8 cy A_y2 y2_row y2_missing y2_sort y2_many, bl_X8 cy A_y3 y3_row_986 y3_missing y3_sort y3_many] H := hP
                      obtain ⟨b_988, e_b_988, h⟩ := bi h
                      obtain ⟨-, n_b_988, -⟩ := bz_ok e_b_988
                      cases h
                      subst hW1
                      exact W.zret hx hb hr n_b_988 (fun _ ht9 _ => ⟨⟨_, (), rfl, rfl, hPt ht9 hP.1⟩, hS.F ht9⟩) hS.2.2 dX11_pour_137
                    · have h := it c_985 h
                      refine lv_aload_n hx hb dX11_pour_109 rfl (lv_at hl 2 rfl) ?_
                      refine lv_iconst (v := 3) hx hb dX11_pour_110 (by decide) ?_
                      obtain ⟨z_989, e_z_989, h⟩ := bi h
                      refine efVi (rest := []) ⟨hx, hb, hml, hown, ht⟩ (c_X11_deny l D cy fu A_b (A_T 0) r_b_army r_b_war r_b_draftArmy r_b_draftWar r_b_reader r_b_armyReader r_b_warReader r_b_markedArmies r_b_markedWars r_b_latest r_b_trial r_b_foresight r_b_pairs b_latestStatus b_fractionTop b_fractionBottom b_marks 3 z_989 e_z_989 _ rfl _ rfl) (cV ht mv_X11_deny tb_507 rfl rfl ⟨Nat.le_of_ble_eq_true rfl, Nat.le_of_ble_eq_true rfl⟩) hP hS hX [0] rfl rfl rfl rfl rfl rfl hl.1 rfl (Nat.le_of_ble_eq_true rfl) dX11_pour_111 ⟨Nat.le_of_ble_eq_true rfl, Nat.le_of_ble_eq_true rfl⟩ (fun H locs hP hS => ?_)
                      have hP : PD D A [bl_X11 cy A_b (A_T 0) r_b_army r_b_war r_b_draftArmy r_b_draftWar r_b_reader r_b_armyReader r_b_warReader r_b_markedArmies r_b_markedWars r_b_latest r_b_trial r_b_foresight r_b_pairs z_989.2 b_fractionTop b_fractionBottom b_marks, [(A_T 0, .inl (cy 4, 4, .inr (.inr (.inr (.inr (trf4 (A_y0 0) (A_y1 0) (A_y2 0) (A_y3 0)))))))], bl_X8 cy A_y0 y0_row y0_missing y0_sort y0_many, bl_X8 cy A_y1 y1_row y1_missing y1_sort y1_many, bl_X8 cy A_y2 y2_row y2_missing y2_sort y2_many, bl_X8 cy A_y3 y3_row y3_missing y3_sort y3_many] H := hP
                      obtain ⟨b_990, e_b_990, h⟩ := bi h
                      obtain ⟨-, n_b_990, -⟩ := bz_ok e_b_990
                      cases h
                      subst hW1
                      exact W.zret hx hb hr n_b_990 (fun _ ht9 _ => ⟨⟨_, (), rfl, rfl, hPt ht9 hP.1⟩, hS.F ht9⟩) hS.2.2 dX11_pour_114
                · have h := ie c_979 h
                  refine lv_aload_n hx hb dX11_pour_79 rfl (lv_at hl 2 rfl) ?_
                  refine lv_bipush (v := 8) hx hb dX11_pour_80 (by decide) ?_
                  obtain ⟨z_991, e_z_991, h⟩ := bi h
                  refine efVi (rest := []) ⟨hx, hb, hml, hown, ht⟩ (c_X11_deny l D cy fu A_b (A_T 0) r_b_army r_b_war r_b_draftArmy r_b_draftWar r_b_reader r_b_armyReader r_b_warReader r_b_markedArmies r_b_markedWars r_b_latest r_b_trial r_b_foresight r_b_pairs b_latestStatus b_fractionTop b_fractionBottom b_marks 8 z_991 e_z_991 _ rfl _ rfl) (cV ht mv_X11_deny tb_507 rfl rfl ⟨Nat.le_of_ble_eq_true rfl, Nat.le_of_ble_eq_true rfl⟩) hP hS hX [0] rfl rfl rfl rfl rfl rfl hl.1 rfl (Nat.le_of_ble_eq_true rfl) dX11_pour_82 ⟨Nat.le_of_ble_eq_true rfl, Nat.le_of_ble_eq_true rfl⟩ (fun H locs hP hS => ?_)
                  have hP : PD D A [bl_X11 cy A_b (A_T 0) r_b_army r_b_war r_b_draftArmy r_b_draftWar r_b_reader r_b_armyReader r_b_warReader r_b_markedArmies r_b_markedWars r_b_latest r_b_trial r_b_foresight r_b_pairs z_991.2 b_fractionTop b_fractionBottom b_marks, [(A_T 0, .inl (cy 4, 4, .inr (.inr (.inr (.inr (trf4 (A_y0 0) (A_y1 0) (A_y2 0) (A_y3 0)))))))], bl_X8 cy A_y0 y0_row y0_missing y0_sort y0_many, bl_X8 cy A_y1 y1_row y1_missing y1_sort y1_many, bl_X8 cy A_y2 y2_row y2_missing y2_sort y2_many, bl_X8 cy A_y3 y3_row y3_missing y3_sort y3_many] H := hP
                  obtain ⟨b_992, e_b_992, h⟩ := bi h
                  obtain ⟨-, n_b_992, -⟩ := bz_ok e_b_992
                  cases h
                  subst hW1
                  exact W.zret hx hb hr n_b_992 (fun _ ht9 _ => ⟨⟨_, (), rfl, rfl, hPt ht9 hP.1⟩, hS.F ht9⟩) hS.2.2 dX11_pour_85
              · have h := ie c_978 h
                refine lv_aload_n hx hb dX11_pour_60 rfl (lv_at hl 2 rfl) ?_
                refine lv_iconst (v := 2) hx hb dX11_pour_61 (by decide) ?_
                obtain ⟨z_993, e_z_993, h⟩ := bi h
                refine efVi (rest := []) ⟨hx, hb, hml, hown, ht⟩ (c_X11_deny l D cy fu A_b (A_T 0) r_b_army r_b_war r_b_draftArmy r_b_draftWar r_b_reader r_b_armyReader r_b_warReader r_b_markedArmies r_b_markedWars r_b_latest r_b_trial r_b_foresight r_b_pairs b_latestStatus b_fractionTop b_fractionBottom b_marks 2 z_993 e_z_993 _ rfl _ rfl) (cV ht mv_X11_deny tb_507 rfl rfl ⟨Nat.le_of_ble_eq_true rfl, Nat.le_of_ble_eq_true rfl⟩) hP hS hX [0] rfl rfl rfl rfl rfl rfl hl.1 rfl (Nat.le_of_ble_eq_true rfl) dX11_pour_62 ⟨Nat.le_of_ble_eq_true rfl, Nat.le_of_ble_eq_true rfl⟩ (fun H locs hP hS => ?_)
                have hP : PD D A [bl_X11 cy A_b (A_T 0) r_b_army r_b_war r_b_draftArmy r_b_draftWar r_b_reader r_b_armyReader r_b_warReader r_b_markedArmies r_b_markedWars r_b_latest r_b_trial r_b_foresight r_b_pairs z_993.2 b_fractionTop b_fractionBottom b_marks, [(A_T 0, .inl (cy 4, 4, .inr (.inr (.inr (.inr (trf4 (A_y0 0) (A_y1 0) (A_y2 0) (A_y3 0)))))))], bl_X8 cy A_y0 y0_row y0_missing y0_sort y0_many, bl_X8 cy A_y1 y1_row y1_missing y1_sort y1_many, bl_X8 cy A_y2 y2_row y2_missing y2_sort y2_many, bl_X8 cy A_y3 y3_row y3_missing y3_sort y3_many] H := hP
                obtain ⟨b_994, e_b_994, h⟩ := bi h
                obtain ⟨-, n_b_994, -⟩ := bz_ok e_b_994
                cases h
                subst hW1
                exact W.zret hx hb hr n_b_994 (fun _ ht9 _ => ⟨⟨_, (), rfl, rfl, hPt ht9 hP.1⟩, hS.F ht9⟩) hS.2.2 dX11_pour_65
          · have h := ie c_974 h
            refine lv_aload_n hx hb dX11_pour_38 rfl (lv_at hl 2 rfl) ?_
            refine lv_iconst (v := 1) hx hb dX11_pour_39 (by decide) ?_
            obtain ⟨z_995, e_z_995, h⟩ := bi h
            refine efVi (rest := []) ⟨hx, hb, hml, hown, ht⟩ (c_X11_deny l D cy fu A_b (A_T 0) r_b_army r_b_war r_b_draftArmy r_b_draftWar r_b_reader r_b_armyReader r_b_warReader r_b_markedArmies r_b_markedWars r_b_latest r_b_trial r_b_foresight r_b_pairs b_latestStatus b_fractionTop b_fractionBottom b_marks 1 z_995 e_z_995 _ rfl _ rfl) (cV ht mv_X11_deny tb_507 rfl rfl ⟨Nat.le_of_ble_eq_true rfl, Nat.le_of_ble_eq_true rfl⟩) hP hS hX [0] rfl rfl rfl rfl rfl rfl hl.1 rfl (Nat.le_of_ble_eq_true rfl) dX11_pour_40 ⟨Nat.le_of_ble_eq_true rfl, Nat.le_of_ble_eq_true rfl⟩ (fun H locs hP hS => ?_)
            have hP : PD D A [bl_X11 cy A_b (A_T 0) r_b_army r_b_war r_b_draftArmy r_b_draftWar r_b_reader r_b_armyReader r_b_warReader r_b_markedArmies r_b_markedWars r_b_latest r_b_trial r_b_foresight r_b_pairs z_995.2 b_fractionTop b_fractionBottom b_marks, [(A_T 0, .inl (cy 4, 4, .inr (.inr (.inr (.inr (trf4 (A_y0 0) (A_y1 0) (A_y2 0) (A_y3 0)))))))], bl_X8 cy A_y0 y0_row y0_missing y0_sort y0_many, bl_X8 cy A_y1 y1_row y1_missing y1_sort y1_many, bl_X8 cy A_y2 y2_row y2_missing y2_sort y2_many, bl_X8 cy A_y3 y3_row y3_missing y3_sort y3_many] H := hP
            obtain ⟨b_996, e_b_996, h⟩ := bi h
            obtain ⟨-, n_b_996, -⟩ := bz_ok e_b_996
            cases h
            subst hW1
            exact W.zret hx hb hr n_b_996 (fun _ ht9 _ => ⟨⟨_, (), rfl, rfl, hPt ht9 hP.1⟩, hS.F ht9⟩) hS.2.2 dX11_pour_43
    have h := ie c_967 h
    refine roVq (rest := []) ⟨hx, hb, hml, hown, ht⟩ (c_X11_trayAt l D cy fu A_b r_b_army r_b_war r_b_draftArmy r_b_draftWar r_b_reader r_b_armyReader r_b_warReader r_b_markedArmies r_b_markedWars r_b_latest r_b_trial r_b_foresight r_b_pairs b_latestStatus b_fractionTop b_fractionBottom b_marks A_T (trf4 (A_y0 0) (A_y1 0) (A_y2 0) (A_y3 0)) x3 (none) (tray_out ⟨c_877, c_907, c_937, c_967⟩)) (cV ht mv_X11_trayAt tb_500 rfl rfl ⟨Nat.le_of_ble_eq_true rfl, Nat.le_of_ble_eq_true rfl⟩) (P_sub hP.1 [0, 1] rfl) hX rfl rfl rfl hl.1 rfl (Nat.le_of_ble_eq_true rfl) dX11_pour_9 ⟨Nat.le_of_ble_eq_true rfl, Nat.le_of_ble_eq_true rfl⟩ ?_
    refine lv_astoreN (lv' := [(7, .null), (6, .ref (A_y3 0)), (0, .ref (A_b 0)), (1, .int x1), (2, .int x2), (3, .int x3), (4, .int x4), (5, .int x5)]) hx hb dX11_pour_12 hl (by decide) rfl (fun ls hl => ?_)
    refine lv_aload hx hb dX11_pour_14 (lv_at hl 1 rfl) ?_
    refine lv_ifnull hx hb dX11_pour_16 ?_
    refine lv_aloadN hx hb dX11_pour_19 (lv_at hl 0 rfl) ?_
    refine lv_ifnullN (tgt := 38) hx hb dX11_pour_21 (by decide) ?_
    refine lv_aload_n hx hb dX11_pour_38 rfl (lv_at hl 2 rfl) ?_
    refine lv_iconst (v := 1) hx hb dX11_pour_39 (by decide) ?_
    obtain ⟨z_997, e_z_997, h⟩ := bi h
    refine efVi (rest := []) ⟨hx, hb, hml, hown, ht⟩ (c_X11_deny l D cy fu A_b (A_T 0) r_b_army r_b_war r_b_draftArmy r_b_draftWar r_b_reader r_b_armyReader r_b_warReader r_b_markedArmies r_b_markedWars r_b_latest r_b_trial r_b_foresight r_b_pairs b_latestStatus b_fractionTop b_fractionBottom b_marks 1 z_997 e_z_997 _ rfl _ rfl) (cV ht mv_X11_deny tb_507 rfl rfl ⟨Nat.le_of_ble_eq_true rfl, Nat.le_of_ble_eq_true rfl⟩) hP hS hX [0] rfl rfl rfl rfl rfl rfl hl.1 rfl (Nat.le_of_ble_eq_true rfl) dX11_pour_40 ⟨Nat.le_of_ble_eq_true rfl, Nat.le_of_ble_eq_true rfl⟩ (fun H locs hP hS => ?_)
    have hP : PD D A [bl_X11 cy A_b (A_T 0) r_b_army r_b_war r_b_draftArmy r_b_draftWar r_b_reader r_b_armyReader r_b_warReader r_b_markedArmies r_b_markedWars r_b_latest r_b_trial r_b_foresight r_b_pairs z_997.2 b_fractionTop b_fractionBottom b_marks, [(A_T 0, .inl (cy 4, 4, .inr (.inr (.inr (.inr (trf4 (A_y0 0) (A_y1 0) (A_y2 0) (A_y3 0)))))))], bl_X8 cy A_y0 y0_row y0_missing y0_sort y0_many, bl_X8 cy A_y1 y1_row y1_missing y1_sort y1_many, bl_X8 cy A_y2 y2_row y2_missing y2_sort y2_many, bl_X8 cy A_y3 y3_row y3_missing y3_sort y3_many] H := hP
    obtain ⟨b_998, e_b_998, h⟩ := bi h
    obtain ⟨-, n_b_998, -⟩ := bz_ok e_b_998
    cases h
    subst hW1
    exact W.zret hx hb hr n_b_998 (fun _ ht9 _ => ⟨⟨_, (), rfl, rfl, hPt ht9 hP.1⟩, hS.F ht9⟩) hS.2.2 dX11_pour_43
  have h := ie c_876 h
  refine roVq (rest := []) ⟨hx, hb, hml, hown, ht⟩ (c_X11_trayAt l D cy fu A_b r_b_army r_b_war r_b_draftArmy r_b_draftWar r_b_reader r_b_armyReader r_b_warReader r_b_markedArmies r_b_markedWars r_b_latest r_b_trial r_b_foresight r_b_pairs b_latestStatus b_fractionTop b_fractionBottom b_marks A_T (trf4 (A_y0 0) (A_y1 0) (A_y2 0) (A_y3 0)) x1 (none) (tray_out ⟨c_507, c_630, c_753, c_876⟩)) (cV ht mv_X11_trayAt tb_500 rfl rfl ⟨Nat.le_of_ble_eq_true rfl, Nat.le_of_ble_eq_true rfl⟩) (P_sub hP.1 [0, 1] rfl) hX rfl rfl rfl hl.1 rfl (Nat.le_of_ble_eq_true rfl) dX11_pour_2 ⟨Nat.le_of_ble_eq_true rfl, Nat.le_of_ble_eq_true rfl⟩ ?_
  refine lv_astoreN (lv' := [(6, .null), (0, .ref (A_b 0)), (1, .int x1), (2, .int x2), (3, .int x3), (4, .int x4), (5, .int x5)]) hx hb dX11_pour_5 hl (by decide) rfl (fun ls hl => ?_)
  refine lv_aload_n hx hb dX11_pour_7 rfl (lv_at hl 1 rfl) ?_
  refine lv_iload_n hx hb dX11_pour_8 rfl (lv_at hl 4 rfl) ?_
  by_cases c_999 : x3 = 0
  · have h := it c_999 h
    refine roVq (rest := []) ⟨hx, hb, hml, hown, ht⟩ (c_X11_trayAt l D cy fu A_b r_b_army r_b_war r_b_draftArmy r_b_draftWar r_b_reader r_b_armyReader r_b_warReader r_b_markedArmies r_b_markedWars r_b_latest r_b_trial r_b_foresight r_b_pairs b_latestStatus b_fractionTop b_fractionBottom b_marks A_T (trf4 (A_y0 0) (A_y1 0) (A_y2 0) (A_y3 0)) x3 (some (A_y0 0)) (tray_0 c_999)) (cV ht mv_X11_trayAt tb_500 rfl rfl ⟨Nat.le_of_ble_eq_true rfl, Nat.le_of_ble_eq_true rfl⟩) (P_sub hP.1 [0, 1] rfl) hX rfl rfl rfl hl.1 rfl (Nat.le_of_ble_eq_true rfl) dX11_pour_9 ⟨Nat.le_of_ble_eq_true rfl, Nat.le_of_ble_eq_true rfl⟩ ?_
    refine lv_astore (lv' := [(7, .ref (A_y0 0)), (6, .null), (0, .ref (A_b 0)), (1, .int x1), (2, .int x2), (3, .int x3), (4, .int x4), (5, .int x5)]) hx hb dX11_pour_12 hl (by decide) rfl (fun ls hl => ?_)
    refine lv_aloadN hx hb dX11_pour_14 (lv_at hl 1 rfl) ?_
    refine lv_ifnullN (tgt := 38) hx hb dX11_pour_16 (by decide) ?_
    refine lv_aload_n hx hb dX11_pour_38 rfl (lv_at hl 2 rfl) ?_
    refine lv_iconst (v := 1) hx hb dX11_pour_39 (by decide) ?_
    obtain ⟨z_1000, e_z_1000, h⟩ := bi h
    refine efVi (rest := []) ⟨hx, hb, hml, hown, ht⟩ (c_X11_deny l D cy fu A_b (A_T 0) r_b_army r_b_war r_b_draftArmy r_b_draftWar r_b_reader r_b_armyReader r_b_warReader r_b_markedArmies r_b_markedWars r_b_latest r_b_trial r_b_foresight r_b_pairs b_latestStatus b_fractionTop b_fractionBottom b_marks 1 z_1000 e_z_1000 _ rfl _ rfl) (cV ht mv_X11_deny tb_507 rfl rfl ⟨Nat.le_of_ble_eq_true rfl, Nat.le_of_ble_eq_true rfl⟩) hP hS hX [0] rfl rfl rfl rfl rfl rfl hl.1 rfl (Nat.le_of_ble_eq_true rfl) dX11_pour_40 ⟨Nat.le_of_ble_eq_true rfl, Nat.le_of_ble_eq_true rfl⟩ (fun H locs hP hS => ?_)
    have hP : PD D A [bl_X11 cy A_b (A_T 0) r_b_army r_b_war r_b_draftArmy r_b_draftWar r_b_reader r_b_armyReader r_b_warReader r_b_markedArmies r_b_markedWars r_b_latest r_b_trial r_b_foresight r_b_pairs z_1000.2 b_fractionTop b_fractionBottom b_marks, [(A_T 0, .inl (cy 4, 4, .inr (.inr (.inr (.inr (trf4 (A_y0 0) (A_y1 0) (A_y2 0) (A_y3 0)))))))], bl_X8 cy A_y0 y0_row y0_missing y0_sort y0_many, bl_X8 cy A_y1 y1_row y1_missing y1_sort y1_many, bl_X8 cy A_y2 y2_row y2_missing y2_sort y2_many, bl_X8 cy A_y3 y3_row y3_missing y3_sort y3_many] H := hP
    obtain ⟨b_1001, e_b_1001, h⟩ := bi h
    obtain ⟨-, n_b_1001, -⟩ := bz_ok e_b_1001
    cases h
    subst hW1
    exact W.zret hx hb hr n_b_1001 (fun _ ht9 _ => ⟨⟨_, (), rfl, rfl, hPt ht9 hP.1⟩, hS.F ht9⟩) hS.2.2 dX11_pour_43
  have h := ie c_999 h
  by_cases c_1002 : x3 = 1
  · have h := it c_1002 h
    refine roVq (rest := []) ⟨hx, hb, hml, hown, ht⟩ (c_X11_trayAt l D cy fu A_b r_b_army r_b_war r_b_draftArmy r_b_draftWar r_b_reader r_b_armyReader r_b_warReader r_b_markedArmies r_b_markedWars r_b_latest r_b_trial r_b_foresight r_b_pairs b_latestStatus b_fractionTop b_fractionBottom b_marks A_T (trf4 (A_y0 0) (A_y1 0) (A_y2 0) (A_y3 0)) x3 (some (A_y1 0)) (tray_1 c_1002)) (cV ht mv_X11_trayAt tb_500 rfl rfl ⟨Nat.le_of_ble_eq_true rfl, Nat.le_of_ble_eq_true rfl⟩) (P_sub hP.1 [0, 1] rfl) hX rfl rfl rfl hl.1 rfl (Nat.le_of_ble_eq_true rfl) dX11_pour_9 ⟨Nat.le_of_ble_eq_true rfl, Nat.le_of_ble_eq_true rfl⟩ ?_
    refine lv_astore (lv' := [(7, .ref (A_y1 0)), (6, .null), (0, .ref (A_b 0)), (1, .int x1), (2, .int x2), (3, .int x3), (4, .int x4), (5, .int x5)]) hx hb dX11_pour_12 hl (by decide) rfl (fun ls hl => ?_)
    refine lv_aloadN hx hb dX11_pour_14 (lv_at hl 1 rfl) ?_
    refine lv_ifnullN (tgt := 38) hx hb dX11_pour_16 (by decide) ?_
    refine lv_aload_n hx hb dX11_pour_38 rfl (lv_at hl 2 rfl) ?_
    refine lv_iconst (v := 1) hx hb dX11_pour_39 (by decide) ?_
    obtain ⟨z_1003, e_z_1003, h⟩ := bi h
    refine efVi (rest := []) ⟨hx, hb, hml, hown, ht⟩ (c_X11_deny l D cy fu A_b (A_T 0) r_b_army r_b_war r_b_draftArmy r_b_draftWar r_b_reader r_b_armyReader r_b_warReader r_b_markedArmies r_b_markedWars r_b_latest r_b_trial r_b_foresight r_b_pairs b_latestStatus b_fractionTop b_fractionBottom b_marks 1 z_1003 e_z_1003 _ rfl _ rfl) (cV ht mv_X11_deny tb_507 rfl rfl ⟨Nat.le_of_ble_eq_true rfl, Nat.le_of_ble_eq_true rfl⟩) hP hS hX [0] rfl rfl rfl rfl rfl rfl hl.1 rfl (Nat.le_of_ble_eq_true rfl) dX11_pour_40 ⟨Nat.le_of_ble_eq_true rfl, Nat.le_of_ble_eq_true rfl⟩ (fun H locs hP hS => ?_)
    have hP : PD D A [bl_X11 cy A_b (A_T 0) r_b_army r_b_war r_b_draftArmy r_b_draftWar r_b_reader r_b_armyReader r_b_warReader r_b_markedArmies r_b_markedWars r_b_latest r_b_trial r_b_foresight r_b_pairs z_1003.2 b_fractionTop b_fractionBottom b_marks, [(A_T 0, .inl (cy 4, 4, .inr (.inr (.inr (.inr (trf4 (A_y0 0) (A_y1 0) (A_y2 0) (A_y3 0)))))))], bl_X8 cy A_y0 y0_row y0_missing y0_sort y0_many, bl_X8 cy A_y1 y1_row y1_missing y1_sort y1_many, bl_X8 cy A_y2 y2_row y2_missing y2_sort y2_many, bl_X8 cy A_y3 y3_row y3_missing y3_sort y3_many] H := hP
    obtain ⟨b_1004, e_b_1004, h⟩ := bi h
    obtain ⟨-, n_b_1004, -⟩ := bz_ok e_b_1004
    cases h
    subst hW1
    exact W.zret hx hb hr n_b_1004 (fun _ ht9 _ => ⟨⟨_, (), rfl, rfl, hPt ht9 hP.1⟩, hS.F ht9⟩) hS.2.2 dX11_pour_43
  have h := ie c_1002 h
  by_cases c_1005 : x3 = 2
  · have h := it c_1005 h
    refine roVq (rest := []) ⟨hx, hb, hml, hown, ht⟩ (c_X11_trayAt l D cy fu A_b r_b_army r_b_war r_b_draftArmy r_b_draftWar r_b_reader r_b_armyReader r_b_warReader r_b_markedArmies r_b_markedWars r_b_latest r_b_trial r_b_foresight r_b_pairs b_latestStatus b_fractionTop b_fractionBottom b_marks A_T (trf4 (A_y0 0) (A_y1 0) (A_y2 0) (A_y3 0)) x3 (some (A_y2 0)) (tray_2 c_1005)) (cV ht mv_X11_trayAt tb_500 rfl rfl ⟨Nat.le_of_ble_eq_true rfl, Nat.le_of_ble_eq_true rfl⟩) (P_sub hP.1 [0, 1] rfl) hX rfl rfl rfl hl.1 rfl (Nat.le_of_ble_eq_true rfl) dX11_pour_9 ⟨Nat.le_of_ble_eq_true rfl, Nat.le_of_ble_eq_true rfl⟩ ?_
    refine lv_astore (lv' := [(7, .ref (A_y2 0)), (6, .null), (0, .ref (A_b 0)), (1, .int x1), (2, .int x2), (3, .int x3), (4, .int x4), (5, .int x5)]) hx hb dX11_pour_12 hl (by decide) rfl (fun ls hl => ?_)
    refine lv_aloadN hx hb dX11_pour_14 (lv_at hl 1 rfl) ?_
    refine lv_ifnullN (tgt := 38) hx hb dX11_pour_16 (by decide) ?_
    refine lv_aload_n hx hb dX11_pour_38 rfl (lv_at hl 2 rfl) ?_
    refine lv_iconst (v := 1) hx hb dX11_pour_39 (by decide) ?_
    obtain ⟨z_1006, e_z_1006, h⟩ := bi h
    refine efVi (rest := []) ⟨hx, hb, hml, hown, ht⟩ (c_X11_deny l D cy fu A_b (A_T 0) r_b_army r_b_war r_b_draftArmy r_b_draftWar r_b_reader r_b_armyReader r_b_warReader r_b_markedArmies r_b_markedWars r_b_latest r_b_trial r_b_foresight r_b_pairs b_latestStatus b_fractionTop b_fractionBottom b_marks 1 z_1006 e_z_1006 _ rfl _ rfl) (cV ht mv_X11_deny tb_507 rfl rfl ⟨Nat.le_of_ble_eq_true rfl, Nat.le_of_ble_eq_true rfl⟩) hP hS hX [0] rfl rfl rfl rfl rfl rfl hl.1 rfl (Nat.le_of_ble_eq_true rfl) dX11_pour_40 ⟨Nat.le_of_ble_eq_true rfl, Nat.le_of_ble_eq_true rfl⟩ (fun H locs hP hS => ?_)
    have hP : PD D A [bl_X11 cy A_b (A_T 0) r_b_army r_b_war r_b_draftArmy r_b_draftWar r_b_reader r_b_armyReader r_b_warReader r_b_markedArmies r_b_markedWars r_b_latest r_b_trial r_b_foresight r_b_pairs z_1006.2 b_fractionTop b_fractionBottom b_marks, [(A_T 0, .inl (cy 4, 4, .inr (.inr (.inr (.inr (trf4 (A_y0 0) (A_y1 0) (A_y2 0) (A_y3 0)))))))], bl_X8 cy A_y0 y0_row y0_missing y0_sort y0_many, bl_X8 cy A_y1 y1_row y1_missing y1_sort y1_many, bl_X8 cy A_y2 y2_row y2_missing y2_sort y2_many, bl_X8 cy A_y3 y3_row y3_missing y3_sort y3_many] H := hP
    obtain ⟨b_1007, e_b_1007, h⟩ := bi h
    obtain ⟨-, n_b_1007, -⟩ := bz_ok e_b_1007
    cases h
    subst hW1
    exact W.zret hx hb hr n_b_1007 (fun _ ht9 _ => ⟨⟨_, (), rfl, rfl, hPt ht9 hP.1⟩, hS.F ht9⟩) hS.2.2 dX11_pour_43
  have h := ie c_1005 h
  by_cases c_1008 : x3 = 3
  · have h := it c_1008 h
    refine roVq (rest := []) ⟨hx, hb, hml, hown, ht⟩ (c_X11_trayAt l D cy fu A_b r_b_army r_b_war r_b_draftArmy r_b_draftWar r_b_reader r_b_armyReader r_b_warReader r_b_markedArmies r_b_markedWars r_b_latest r_b_trial r_b_foresight r_b_pairs b_latestStatus b_fractionTop b_fractionBottom b_marks A_T (trf4 (A_y0 0) (A_y1 0) (A_y2 0) (A_y3 0)) x3 (some (A_y3 0)) (tray_3 c_1008)) (cV ht mv_X11_trayAt tb_500 rfl rfl ⟨Nat.le_of_ble_eq_true rfl, Nat.le_of_ble_eq_true rfl⟩) (P_sub hP.1 [0, 1] rfl) hX rfl rfl rfl hl.1 rfl (Nat.le_of_ble_eq_true rfl) dX11_pour_9 ⟨Nat.le_of_ble_eq_true rfl, Nat.le_of_ble_eq_true rfl⟩ ?_
    refine lv_astore (lv' := [(7, .ref (A_y3 0)), (6, .null), (0, .ref (A_b 0)), (1, .int x1), (2, .int x2), (3, .int x3), (4, .int x4), (5, .int x5)]) hx hb dX11_pour_12 hl (by decide) rfl (fun ls hl => ?_)
    refine lv_aloadN hx hb dX11_pour_14 (lv_at hl 1 rfl) ?_
    refine lv_ifnullN (tgt := 38) hx hb dX11_pour_16 (by decide) ?_
    refine lv_aload_n hx hb dX11_pour_38 rfl (lv_at hl 2 rfl) ?_
    refine lv_iconst (v := 1) hx hb dX11_pour_39 (by decide) ?_
    obtain ⟨z_1009, e_z_1009, h⟩ := bi h
    refine efVi (rest := []) ⟨hx, hb, hml, hown, ht⟩ (c_X11_deny l D cy fu A_b (A_T 0) r_b_army r_b_war r_b_draftArmy r_b_draftWar r_b_reader r_b_armyReader r_b_warReader r_b_markedArmies r_b_markedWars r_b_latest r_b_trial r_b_foresight r_b_pairs b_latestStatus b_fractionTop b_fractionBottom b_marks 1 z_1009 e_z_1009 _ rfl _ rfl) (cV ht mv_X11_deny tb_507 rfl rfl ⟨Nat.le_of_ble_eq_true rfl, Nat.le_of_ble_eq_true rfl⟩) hP hS hX [0] rfl rfl rfl rfl rfl rfl hl.1 rfl (Nat.le_of_ble_eq_true rfl) dX11_pour_40 ⟨Nat.le_of_ble_eq_true rfl, Nat.le_of_ble_eq_true rfl⟩ (fun H locs hP hS => ?_)
    have hP : PD D A [bl_X11 cy A_b (A_T 0) r_b_army r_b_war r_b_draftArmy r_b_draftWar r_b_reader r_b_armyReader r_b_warReader r_b_markedArmies r_b_markedWars r_b_latest r_b_trial r_b_foresight r_b_pairs z_1009.2 b_fractionTop b_fractionBottom b_marks, [(A_T 0, .inl (cy 4, 4, .inr (.inr (.inr (.inr (trf4 (A_y0 0) (A_y1 0) (A_y2 0) (A_y3 0)))))))], bl_X8 cy A_y0 y0_row y0_missing y0_sort y0_many, bl_X8 cy A_y1 y1_row y1_missing y1_sort y1_many, bl_X8 cy A_y2 y2_row y2_missing y2_sort y2_many, bl_X8 cy A_y3 y3_row y3_missing y3_sort y3_many] H := hP
    obtain ⟨b_1010, e_b_1010, h⟩ := bi h
    obtain ⟨-, n_b_1010, -⟩ := bz_ok e_b_1010
    cases h
    subst hW1
    exact W.zret hx hb hr n_b_1010 (fun _ ht9 _ => ⟨⟨_, (), rfl, rfl, hPt ht9 hP.1⟩, hS.F ht9⟩) hS.2.2 dX11_pour_43
  have h := ie c_1008 h
  refine roVq (rest := []) ⟨hx, hb, hml, hown, ht⟩ (c_X11_trayAt l D cy fu A_b r_b_army r_b_war r_b_draftArmy r_b_draftWar r_b_reader r_b_armyReader r_b_warReader r_b_markedArmies r_b_markedWars r_b_latest r_b_trial r_b_foresight r_b_pairs b_latestStatus b_fractionTop b_fractionBottom b_marks A_T (trf4 (A_y0 0) (A_y1 0) (A_y2 0) (A_y3 0)) x3 (none) (tray_out ⟨c_999, c_1002, c_1005, c_1008⟩)) (cV ht mv_X11_trayAt tb_500 rfl rfl ⟨Nat.le_of_ble_eq_true rfl, Nat.le_of_ble_eq_true rfl⟩) (P_sub hP.1 [0, 1] rfl) hX rfl rfl rfl hl.1 rfl (Nat.le_of_ble_eq_true rfl) dX11_pour_9 ⟨Nat.le_of_ble_eq_true rfl, Nat.le_of_ble_eq_true rfl⟩ ?_
  refine lv_astoreN (lv' := [(7, .null), (6, .null), (0, .ref (A_b 0)), (1, .int x1), (2, .int x2), (3, .int x3), (4, .int x4), (5, .int x5)]) hx hb dX11_pour_12 hl (by decide) rfl (fun ls hl => ?_)
  refine lv_aloadN hx hb dX11_pour_14 (lv_at hl 1 rfl) ?_
  refine lv_ifnullN (tgt := 38) hx hb dX11_pour_16 (by decide) ?_
  refine lv_aload_n hx hb dX11_pour_38 rfl (lv_at hl 2 rfl) ?_
  refine lv_iconst (v := 1) hx hb dX11_pour_39 (by decide) ?_
  obtain ⟨z_1011, e_z_1011, h⟩ := bi h
  refine efVi (rest := []) ⟨hx, hb, hml, hown, ht⟩ (c_X11_deny l D cy fu A_b (A_T 0) r_b_army r_b_war r_b_draftArmy r_b_draftWar r_b_reader r_b_armyReader r_b_warReader r_b_markedArmies r_b_markedWars r_b_latest r_b_trial r_b_foresight r_b_pairs b_latestStatus b_fractionTop b_fractionBottom b_marks 1 z_1011 e_z_1011 _ rfl _ rfl) (cV ht mv_X11_deny tb_507 rfl rfl ⟨Nat.le_of_ble_eq_true rfl, Nat.le_of_ble_eq_true rfl⟩) hP hS hX [0] rfl rfl rfl rfl rfl rfl hl.1 rfl (Nat.le_of_ble_eq_true rfl) dX11_pour_40 ⟨Nat.le_of_ble_eq_true rfl, Nat.le_of_ble_eq_true rfl⟩ (fun H locs hP hS => ?_)
  have hP : PD D A [bl_X11 cy A_b (A_T 0) r_b_army r_b_war r_b_draftArmy r_b_draftWar r_b_reader r_b_armyReader r_b_warReader r_b_markedArmies r_b_markedWars r_b_latest r_b_trial r_b_foresight r_b_pairs z_1011.2 b_fractionTop b_fractionBottom b_marks, [(A_T 0, .inl (cy 4, 4, .inr (.inr (.inr (.inr (trf4 (A_y0 0) (A_y1 0) (A_y2 0) (A_y3 0)))))))], bl_X8 cy A_y0 y0_row y0_missing y0_sort y0_many, bl_X8 cy A_y1 y1_row y1_missing y1_sort y1_many, bl_X8 cy A_y2 y2_row y2_missing y2_sort y2_many, bl_X8 cy A_y3 y3_row y3_missing y3_sort y3_many] H := hP
  obtain ⟨b_1012, e_b_1012, h⟩ := bi h
  obtain ⟨-, n_b_1012, -⟩ := bz_ok e_b_1012
  cases h
  subst hW1
  exact W.zret hx hb hr n_b_1012 (fun _ ht9 _ => ⟨⟨_, (), rfl, rfl, hPt ht9 hP.1⟩, hS.F ht9⟩) hS.2.2 dX11_pour_43
