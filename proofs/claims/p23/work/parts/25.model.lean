def tX12_parting_9 : List Nat := 167 :: 16 :: 247 :: 172 :: []
def tX12_parting_8 : List Nat := 13 :: 42 :: 27 :: 182 :: 0 :: 214 :: 153 :: 0 :: 5 :: 29 :: 172 :: 132 :: 3 :: 1 :: 167 :: 255 :: tX12_parting_9
def tX12_parting_7 : List Nat := 0 :: 56 :: 29 :: 42 :: 180 :: 0 :: 13 :: 7 :: 29 :: 104 :: 46 :: 79 :: 21 :: 4 :: 153 :: 0 :: tX12_parting_8
def tX12_parting_6 : List Nat := 128 :: 54 :: 4 :: 132 :: 5 :: 1 :: 167 :: 255 :: 221 :: 42 :: 4 :: 182 :: 0 :: 201 :: 42 :: 180 :: tX12_parting_7
def tX12_parting_5 : List Nat := 0 :: 38 :: 6 :: 21 :: 5 :: 104 :: 46 :: 29 :: 160 :: 0 :: 7 :: 4 :: 167 :: 0 :: 4 :: 3 :: tX12_parting_6
def tX12_parting_4 : List Nat := 3 :: 54 :: 5 :: 21 :: 5 :: 42 :: 180 :: 0 :: 188 :: 162 :: 0 :: 32 :: 21 :: 4 :: 42 :: 180 :: tX12_parting_5
def tX12_parting_3 : List Nat := 16 :: 247 :: 172 :: 3 :: 62 :: 29 :: 42 :: 180 :: 0 :: 166 :: 162 :: 0 :: 87 :: 3 :: 54 :: 4 :: tX12_parting_4
def tX12_parting_2 : List Nat := 3 :: 182 :: 0 :: 201 :: 28 :: 154 :: 0 :: 11 :: 42 :: 27 :: 182 :: 0 :: 214 :: 154 :: 0 :: 6 :: tX12_parting_3
def tX12_parting_1 : List Nat := 42 :: 182 :: 0 :: 198 :: 42 :: 4 :: 182 :: 0 :: 201 :: 42 :: 27 :: 182 :: 0 :: 214 :: 61 :: 42 :: tX12_parting_2
def tX12_parting_0 : List Nat := 42 :: 3 :: 181 :: 0 :: 78 :: 42 :: 27 :: 3 :: 182 :: 0 :: 178 :: 154 :: 0 :: 5 :: 2 :: 172 :: tX12_parting_1
theorem tX12_partingf_0 : (cX12_parting.data.toList.map UInt8.toNat).drop 0 = tX12_parting_0 := by decide +kernel
theorem tX12_partingf_1 : (cX12_parting.data.toList.map UInt8.toNat).drop 16 = tX12_parting_1 := fd_next (k := 0) tX12_partingf_0 rfl
theorem tX12_partingf_2 : (cX12_parting.data.toList.map UInt8.toNat).drop 32 = tX12_parting_2 := fd_next (k := 16) tX12_partingf_1 rfl
theorem tX12_partingf_3 : (cX12_parting.data.toList.map UInt8.toNat).drop 48 = tX12_parting_3 := fd_next (k := 32) tX12_partingf_2 rfl
theorem tX12_partingf_4 : (cX12_parting.data.toList.map UInt8.toNat).drop 64 = tX12_parting_4 := fd_next (k := 48) tX12_partingf_3 rfl
theorem tX12_partingf_5 : (cX12_parting.data.toList.map UInt8.toNat).drop 80 = tX12_parting_5 := fd_next (k := 64) tX12_partingf_4 rfl
theorem tX12_partingf_6 : (cX12_parting.data.toList.map UInt8.toNat).drop 96 = tX12_parting_6 := fd_next (k := 80) tX12_partingf_5 rfl
theorem tX12_partingf_7 : (cX12_parting.data.toList.map UInt8.toNat).drop 112 = tX12_parting_7 := fd_next (k := 96) tX12_partingf_6 rfl
theorem tX12_partingf_8 : (cX12_parting.data.toList.map UInt8.toNat).drop 128 = tX12_parting_8 := fd_next (k := 112) tX12_partingf_7 rfl
theorem tX12_partingf_9 : (cX12_parting.data.toList.map UInt8.toNat).drop 144 = tX12_parting_9 := fd_next (k := 128) tX12_partingf_8 rfl
theorem dX12_parting_0 : decode cX12_parting 0 = .ok (.aload_n 0, 1) := dk_42 (fdB_of (k := 0) tX12_partingf_0 0 42 rfl)
theorem dX12_parting_1 : decode cX12_parting 1 = .ok (.iconst 0, 1) := dk_3 (fdB_of (k := 0) tX12_partingf_0 1 3 rfl)
theorem dX12_parting_2 : decode cX12_parting 2 = .ok (.putfield 78, 3) := dk_181 (fdB_of (k := 0) tX12_partingf_0 2 181 rfl) (fdB_of (k := 0) tX12_partingf_0 3 0 rfl) (fdB_of (k := 0) tX12_partingf_0 4 78 rfl)
theorem dX12_parting_5 : decode cX12_parting 5 = .ok (.aload_n 0, 1) := dk_42 (fdB_of (k := 0) tX12_partingf_0 5 42 rfl)
theorem dX12_parting_6 : decode cX12_parting 6 = .ok (.iload_n 1, 1) := dk_27 (fdB_of (k := 0) tX12_partingf_0 6 27 rfl)
theorem dX12_parting_7 : decode cX12_parting 7 = .ok (.iconst 0, 1) := dk_3 (fdB_of (k := 0) tX12_partingf_0 7 3 rfl)
theorem dX12_parting_8 : decode cX12_parting 8 = .ok (.invokevirtual 178, 3) := dk_182 (fdB_of (k := 0) tX12_partingf_0 8 182 rfl) (fdB_of (k := 0) tX12_partingf_0 9 0 rfl) (fdB_of (k := 0) tX12_partingf_0 10 178 rfl)
theorem dX12_parting_11 : decode cX12_parting 11 = .ok (.ifCond .ne 5, 3) := dk_154 (fdB_of (k := 0) tX12_partingf_0 11 154 rfl) (fdB_of (k := 0) tX12_partingf_0 12 0 rfl) (fdB_of (k := 0) tX12_partingf_0 13 5 rfl) (by decide +kernel)
theorem dX12_parting_14 : decode cX12_parting 14 = .ok (.iconst (-1), 1) := dk_2 (fdB_of (k := 0) tX12_partingf_0 14 2 rfl)
theorem dX12_parting_15 : decode cX12_parting 15 = .ok (.ireturn, 1) := dk_172 (fdB_of (k := 0) tX12_partingf_0 15 172 rfl)
theorem dX12_parting_16 : decode cX12_parting 16 = .ok (.aload_n 0, 1) := dk_42 (fdB_of (k := 16) tX12_partingf_1 0 42 rfl)
theorem dX12_parting_17 : decode cX12_parting 17 = .ok (.invokevirtual 198, 3) := dk_182 (fdB_of (k := 16) tX12_partingf_1 1 182 rfl) (fdB_of (k := 16) tX12_partingf_1 2 0 rfl) (fdB_of (k := 16) tX12_partingf_1 3 198 rfl)
theorem dX12_parting_20 : decode cX12_parting 20 = .ok (.aload_n 0, 1) := dk_42 (fdB_of (k := 16) tX12_partingf_1 4 42 rfl)
theorem dX12_parting_21 : decode cX12_parting 21 = .ok (.iconst 1, 1) := dk_4 (fdB_of (k := 16) tX12_partingf_1 5 4 rfl)
theorem dX12_parting_22 : decode cX12_parting 22 = .ok (.invokevirtual 201, 3) := dk_182 (fdB_of (k := 16) tX12_partingf_1 6 182 rfl) (fdB_of (k := 16) tX12_partingf_1 7 0 rfl) (fdB_of (k := 16) tX12_partingf_1 8 201 rfl)
theorem dX12_parting_25 : decode cX12_parting 25 = .ok (.aload_n 0, 1) := dk_42 (fdB_of (k := 16) tX12_partingf_1 9 42 rfl)
theorem dX12_parting_26 : decode cX12_parting 26 = .ok (.iload_n 1, 1) := dk_27 (fdB_of (k := 16) tX12_partingf_1 10 27 rfl)
theorem dX12_parting_27 : decode cX12_parting 27 = .ok (.invokevirtual 214, 3) := dk_182 (fdB_of (k := 16) tX12_partingf_1 11 182 rfl) (fdB_of (k := 16) tX12_partingf_1 12 0 rfl) (fdB_of (k := 16) tX12_partingf_1 13 214 rfl)
theorem dX12_parting_30 : decode cX12_parting 30 = .ok (.istore_n 2, 1) := dk_61 (fdB_of (k := 16) tX12_partingf_1 14 61 rfl)
theorem dX12_parting_31 : decode cX12_parting 31 = .ok (.aload_n 0, 1) := dk_42 (fdB_of (k := 16) tX12_partingf_1 15 42 rfl)
theorem dX12_parting_32 : decode cX12_parting 32 = .ok (.iconst 0, 1) := dk_3 (fdB_of (k := 32) tX12_partingf_2 0 3 rfl)
theorem dX12_parting_33 : decode cX12_parting 33 = .ok (.invokevirtual 201, 3) := dk_182 (fdB_of (k := 32) tX12_partingf_2 1 182 rfl) (fdB_of (k := 32) tX12_partingf_2 2 0 rfl) (fdB_of (k := 32) tX12_partingf_2 3 201 rfl)
theorem dX12_parting_36 : decode cX12_parting 36 = .ok (.iload_n 2, 1) := dk_28 (fdB_of (k := 32) tX12_partingf_2 4 28 rfl)
theorem dX12_parting_37 : decode cX12_parting 37 = .ok (.ifCond .ne 11, 3) := dk_154 (fdB_of (k := 32) tX12_partingf_2 5 154 rfl) (fdB_of (k := 32) tX12_partingf_2 6 0 rfl) (fdB_of (k := 32) tX12_partingf_2 7 11 rfl) (by decide +kernel)
theorem dX12_parting_40 : decode cX12_parting 40 = .ok (.aload_n 0, 1) := dk_42 (fdB_of (k := 32) tX12_partingf_2 8 42 rfl)
theorem dX12_parting_41 : decode cX12_parting 41 = .ok (.iload_n 1, 1) := dk_27 (fdB_of (k := 32) tX12_partingf_2 9 27 rfl)
theorem dX12_parting_42 : decode cX12_parting 42 = .ok (.invokevirtual 214, 3) := dk_182 (fdB_of (k := 32) tX12_partingf_2 10 182 rfl) (fdB_of (k := 32) tX12_partingf_2 11 0 rfl) (fdB_of (k := 32) tX12_partingf_2 12 214 rfl)
theorem dX12_parting_45 : decode cX12_parting 45 = .ok (.ifCond .ne 6, 3) := dk_154 (fdB_of (k := 32) tX12_partingf_2 13 154 rfl) (fdB_of (k := 32) tX12_partingf_2 14 0 rfl) (fdB_of (k := 32) tX12_partingf_2 15 6 rfl) (by decide +kernel)
theorem dX12_parting_48 : decode cX12_parting 48 = .ok (.bipush (-9), 2) := dk_16 (fdB_of (k := 48) tX12_partingf_3 0 16 rfl) (fdB_of (k := 48) tX12_partingf_3 1 247 rfl) (by decide +kernel)
theorem dX12_parting_50 : decode cX12_parting 50 = .ok (.ireturn, 1) := dk_172 (fdB_of (k := 48) tX12_partingf_3 2 172 rfl)
theorem dX12_parting_51 : decode cX12_parting 51 = .ok (.iconst 0, 1) := dk_3 (fdB_of (k := 48) tX12_partingf_3 3 3 rfl)
theorem dX12_parting_52 : decode cX12_parting 52 = .ok (.istore_n 3, 1) := dk_62 (fdB_of (k := 48) tX12_partingf_3 4 62 rfl)
theorem dX12_parting_53 : decode cX12_parting 53 = .ok (.iload_n 3, 1) := dk_29 (fdB_of (k := 48) tX12_partingf_3 5 29 rfl)
theorem dX12_parting_54 : decode cX12_parting 54 = .ok (.aload_n 0, 1) := dk_42 (fdB_of (k := 48) tX12_partingf_3 6 42 rfl)
theorem dX12_parting_55 : decode cX12_parting 55 = .ok (.getfield 166, 3) := dk_180 (fdB_of (k := 48) tX12_partingf_3 7 180 rfl) (fdB_of (k := 48) tX12_partingf_3 8 0 rfl) (fdB_of (k := 48) tX12_partingf_3 9 166 rfl)
theorem dX12_parting_58 : decode cX12_parting 58 = .ok (.if_icmp .ge 87, 3) := dk_162 (fdB_of (k := 48) tX12_partingf_3 10 162 rfl) (fdB_of (k := 48) tX12_partingf_3 11 0 rfl) (fdB_of (k := 48) tX12_partingf_3 12 87 rfl) (by decide +kernel)
theorem dX12_parting_61 : decode cX12_parting 61 = .ok (.iconst 0, 1) := dk_3 (fdB_of (k := 48) tX12_partingf_3 13 3 rfl)
theorem dX12_parting_62 : decode cX12_parting 62 = .ok (.istore 4, 2) := dk_54 (fdB_of (k := 48) tX12_partingf_3 14 54 rfl) (fdB_of (k := 48) tX12_partingf_3 15 4 rfl)
theorem dX12_parting_64 : decode cX12_parting 64 = .ok (.iconst 0, 1) := dk_3 (fdB_of (k := 64) tX12_partingf_4 0 3 rfl)
theorem dX12_parting_65 : decode cX12_parting 65 = .ok (.istore 5, 2) := dk_54 (fdB_of (k := 64) tX12_partingf_4 1 54 rfl) (fdB_of (k := 64) tX12_partingf_4 2 5 rfl)
theorem dX12_parting_67 : decode cX12_parting 67 = .ok (.iload 5, 2) := dk_21 (fdB_of (k := 64) tX12_partingf_4 3 21 rfl) (fdB_of (k := 64) tX12_partingf_4 4 5 rfl)
theorem dX12_parting_69 : decode cX12_parting 69 = .ok (.aload_n 0, 1) := dk_42 (fdB_of (k := 64) tX12_partingf_4 5 42 rfl)
theorem dX12_parting_70 : decode cX12_parting 70 = .ok (.getfield 188, 3) := dk_180 (fdB_of (k := 64) tX12_partingf_4 6 180 rfl) (fdB_of (k := 64) tX12_partingf_4 7 0 rfl) (fdB_of (k := 64) tX12_partingf_4 8 188 rfl)
theorem dX12_parting_73 : decode cX12_parting 73 = .ok (.if_icmp .ge 32, 3) := dk_162 (fdB_of (k := 64) tX12_partingf_4 9 162 rfl) (fdB_of (k := 64) tX12_partingf_4 10 0 rfl) (fdB_of (k := 64) tX12_partingf_4 11 32 rfl) (by decide +kernel)
theorem dX12_parting_76 : decode cX12_parting 76 = .ok (.iload 4, 2) := dk_21 (fdB_of (k := 64) tX12_partingf_4 12 21 rfl) (fdB_of (k := 64) tX12_partingf_4 13 4 rfl)
theorem dX12_parting_78 : decode cX12_parting 78 = .ok (.aload_n 0, 1) := dk_42 (fdB_of (k := 64) tX12_partingf_4 14 42 rfl)
theorem dX12_parting_79 : decode cX12_parting 79 = .ok (.getfield 38, 3) := dk_180 (fdB_of (k := 64) tX12_partingf_4 15 180 rfl) (fdB_of (k := 80) tX12_partingf_5 0 0 rfl) (fdB_of (k := 80) tX12_partingf_5 1 38 rfl)
theorem dX12_parting_82 : decode cX12_parting 82 = .ok (.iconst 3, 1) := dk_6 (fdB_of (k := 80) tX12_partingf_5 2 6 rfl)
theorem dX12_parting_83 : decode cX12_parting 83 = .ok (.iload 5, 2) := dk_21 (fdB_of (k := 80) tX12_partingf_5 3 21 rfl) (fdB_of (k := 80) tX12_partingf_5 4 5 rfl)
theorem dX12_parting_85 : decode cX12_parting 85 = .ok (.imul, 1) := dk_104 (fdB_of (k := 80) tX12_partingf_5 5 104 rfl)
theorem dX12_parting_86 : decode cX12_parting 86 = .ok (.iaload, 1) := dk_46 (fdB_of (k := 80) tX12_partingf_5 6 46 rfl)
theorem dX12_parting_87 : decode cX12_parting 87 = .ok (.iload_n 3, 1) := dk_29 (fdB_of (k := 80) tX12_partingf_5 7 29 rfl)
theorem dX12_parting_88 : decode cX12_parting 88 = .ok (.if_icmp .ne 7, 3) := dk_160 (fdB_of (k := 80) tX12_partingf_5 8 160 rfl) (fdB_of (k := 80) tX12_partingf_5 9 0 rfl) (fdB_of (k := 80) tX12_partingf_5 10 7 rfl) (by decide +kernel)
theorem dX12_parting_91 : decode cX12_parting 91 = .ok (.iconst 1, 1) := dk_4 (fdB_of (k := 80) tX12_partingf_5 11 4 rfl)
theorem dX12_parting_92 : decode cX12_parting 92 = .ok (.goto 4, 3) := dk_167 (fdB_of (k := 80) tX12_partingf_5 12 167 rfl) (fdB_of (k := 80) tX12_partingf_5 13 0 rfl) (fdB_of (k := 80) tX12_partingf_5 14 4 rfl) (by decide +kernel)
theorem dX12_parting_95 : decode cX12_parting 95 = .ok (.iconst 0, 1) := dk_3 (fdB_of (k := 80) tX12_partingf_5 15 3 rfl)
theorem dX12_parting_96 : decode cX12_parting 96 = .ok (.ior, 1) := dk_128 (fdB_of (k := 96) tX12_partingf_6 0 128 rfl)
theorem dX12_parting_97 : decode cX12_parting 97 = .ok (.istore 4, 2) := dk_54 (fdB_of (k := 96) tX12_partingf_6 1 54 rfl) (fdB_of (k := 96) tX12_partingf_6 2 4 rfl)
theorem dX12_parting_99 : decode cX12_parting 99 = .ok (.iinc 5 1, 3) := dk_132 (fdB_of (k := 96) tX12_partingf_6 3 132 rfl) (fdB_of (k := 96) tX12_partingf_6 4 5 rfl) (fdB_of (k := 96) tX12_partingf_6 5 1 rfl) (by decide +kernel)
theorem dX12_parting_102 : decode cX12_parting 102 = .ok (.goto (-35), 3) := dk_167 (fdB_of (k := 96) tX12_partingf_6 6 167 rfl) (fdB_of (k := 96) tX12_partingf_6 7 255 rfl) (fdB_of (k := 96) tX12_partingf_6 8 221 rfl) (by decide +kernel)
theorem dX12_parting_105 : decode cX12_parting 105 = .ok (.aload_n 0, 1) := dk_42 (fdB_of (k := 96) tX12_partingf_6 9 42 rfl)
theorem dX12_parting_106 : decode cX12_parting 106 = .ok (.iconst 1, 1) := dk_4 (fdB_of (k := 96) tX12_partingf_6 10 4 rfl)
theorem dX12_parting_107 : decode cX12_parting 107 = .ok (.invokevirtual 201, 3) := dk_182 (fdB_of (k := 96) tX12_partingf_6 11 182 rfl) (fdB_of (k := 96) tX12_partingf_6 12 0 rfl) (fdB_of (k := 96) tX12_partingf_6 13 201 rfl)
theorem dX12_parting_110 : decode cX12_parting 110 = .ok (.aload_n 0, 1) := dk_42 (fdB_of (k := 96) tX12_partingf_6 14 42 rfl)
theorem dX12_parting_111 : decode cX12_parting 111 = .ok (.getfield 56, 3) := dk_180 (fdB_of (k := 96) tX12_partingf_6 15 180 rfl) (fdB_of (k := 112) tX12_partingf_7 0 0 rfl) (fdB_of (k := 112) tX12_partingf_7 1 56 rfl)
theorem dX12_parting_114 : decode cX12_parting 114 = .ok (.iload_n 3, 1) := dk_29 (fdB_of (k := 112) tX12_partingf_7 2 29 rfl)
theorem dX12_parting_115 : decode cX12_parting 115 = .ok (.aload_n 0, 1) := dk_42 (fdB_of (k := 112) tX12_partingf_7 3 42 rfl)
theorem dX12_parting_116 : decode cX12_parting 116 = .ok (.getfield 13, 3) := dk_180 (fdB_of (k := 112) tX12_partingf_7 4 180 rfl) (fdB_of (k := 112) tX12_partingf_7 5 0 rfl) (fdB_of (k := 112) tX12_partingf_7 6 13 rfl)
theorem dX12_parting_119 : decode cX12_parting 119 = .ok (.iconst 4, 1) := dk_7 (fdB_of (k := 112) tX12_partingf_7 7 7 rfl)
theorem dX12_parting_120 : decode cX12_parting 120 = .ok (.iload_n 3, 1) := dk_29 (fdB_of (k := 112) tX12_partingf_7 8 29 rfl)
theorem dX12_parting_121 : decode cX12_parting 121 = .ok (.imul, 1) := dk_104 (fdB_of (k := 112) tX12_partingf_7 9 104 rfl)
theorem dX12_parting_122 : decode cX12_parting 122 = .ok (.iaload, 1) := dk_46 (fdB_of (k := 112) tX12_partingf_7 10 46 rfl)
theorem dX12_parting_123 : decode cX12_parting 123 = .ok (.iastore, 1) := dk_79 (fdB_of (k := 112) tX12_partingf_7 11 79 rfl)
theorem dX12_parting_124 : decode cX12_parting 124 = .ok (.iload 4, 2) := dk_21 (fdB_of (k := 112) tX12_partingf_7 12 21 rfl) (fdB_of (k := 112) tX12_partingf_7 13 4 rfl)
theorem dX12_parting_126 : decode cX12_parting 126 = .ok (.ifCond .eq 13, 3) := dk_153 (fdB_of (k := 112) tX12_partingf_7 14 153 rfl) (fdB_of (k := 112) tX12_partingf_7 15 0 rfl) (fdB_of (k := 128) tX12_partingf_8 0 13 rfl) (by decide +kernel)
theorem dX12_parting_129 : decode cX12_parting 129 = .ok (.aload_n 0, 1) := dk_42 (fdB_of (k := 128) tX12_partingf_8 1 42 rfl)
theorem dX12_parting_130 : decode cX12_parting 130 = .ok (.iload_n 1, 1) := dk_27 (fdB_of (k := 128) tX12_partingf_8 2 27 rfl)
theorem dX12_parting_131 : decode cX12_parting 131 = .ok (.invokevirtual 214, 3) := dk_182 (fdB_of (k := 128) tX12_partingf_8 3 182 rfl) (fdB_of (k := 128) tX12_partingf_8 4 0 rfl) (fdB_of (k := 128) tX12_partingf_8 5 214 rfl)
theorem dX12_parting_134 : decode cX12_parting 134 = .ok (.ifCond .eq 5, 3) := dk_153 (fdB_of (k := 128) tX12_partingf_8 6 153 rfl) (fdB_of (k := 128) tX12_partingf_8 7 0 rfl) (fdB_of (k := 128) tX12_partingf_8 8 5 rfl) (by decide +kernel)
theorem dX12_parting_137 : decode cX12_parting 137 = .ok (.iload_n 3, 1) := dk_29 (fdB_of (k := 128) tX12_partingf_8 9 29 rfl)
theorem dX12_parting_138 : decode cX12_parting 138 = .ok (.ireturn, 1) := dk_172 (fdB_of (k := 128) tX12_partingf_8 10 172 rfl)
theorem dX12_parting_139 : decode cX12_parting 139 = .ok (.iinc 3 1, 3) := dk_132 (fdB_of (k := 128) tX12_partingf_8 11 132 rfl) (fdB_of (k := 128) tX12_partingf_8 12 3 rfl) (fdB_of (k := 128) tX12_partingf_8 13 1 rfl) (by decide +kernel)
theorem dX12_parting_142 : decode cX12_parting 142 = .ok (.goto (-89), 3) := dk_167 (fdB_of (k := 128) tX12_partingf_8 14 167 rfl) (fdB_of (k := 128) tX12_partingf_8 15 255 rfl) (fdB_of (k := 144) tX12_partingf_9 0 167 rfl) (by decide +kernel)
theorem dX12_parting_145 : decode cX12_parting 145 = .ok (.bipush (-9), 2) := dk_16 (fdB_of (k := 144) tX12_partingf_9 1 16 rfl) (fdB_of (k := 144) tX12_partingf_9 2 247 rfl) (by decide +kernel)
theorem dX12_parting_147 : decode cX12_parting 147 = .ok (.ireturn, 1) := dk_172 (fdB_of (k := 144) tX12_partingf_9 3 172 rfl)



def F_X12_parting_b96 (x1 : Int32) (K53 : Int32 → SM → Option (Int32 × SM)) (K67 : Int32 → Int32 → Int32 → SM → Option (Int32 × SM)) (v3 : Int32) (v5 : Int32) (zs_o : SM) (k0 : Int32) (k1 : Int32) : Option (Int32 × SM) := nm (k0 ||| k1) fun v4_1 => nm (v5 + 1) fun v5_2 => K67 v3 v4_1 v5_2 zs_o
def F_X12_parting_b139 (x1 : Int32) (K53 : Int32 → SM → Option (Int32 × SM)) (v3 : Int32) (zs_o : SM) : Option (Int32 × SM) := nm (v3 + 1) fun v3_3 => K53 v3_3 zs_o
def F_X12_parting_b67 (x1 : Int32) (K53 : Int32 → SM → Option (Int32 × SM)) : Nat → Int32 → Int32 → Int32 → SM → Option (Int32 × SM)
  | 0, _, _, _, _ => none
  | n + 1, v3, v4, v5, zs_o => (if (mI zs_o 25) ≤ v5 then (F_X12_hears zs_o 1).bind fun q_4 => (aget 128 (mA q_4 9) (4 * v3)).bind fun e_5 => (aset 16 (mA q_4 31) v3 e_5).bind fun f_6 => nm (mAs q_4 31 f_6) fun s_o_7 => (if v4 = 0 then F_X12_parting_b139 x1 K53 v3 s_o_7 else (F_X12_isLaw s_o_7 x1).bind fun q_8 => (if q_8.1 = 0 then F_X12_parting_b139 x1 K53 v3 q_8.2 else some (v3, q_8.2))) else (aget 27 (mA zs_o 24) (3 * v5)).bind fun e_9 => (if e_9 = v3 then F_X12_parting_b96 x1 K53 (F_X12_parting_b67 x1 K53 n) v3 v5 zs_o v4 1 else F_X12_parting_b96 x1 K53 (F_X12_parting_b67 x1 K53 n) v3 v5 zs_o v4 0))
def F_X12_parting_b53 (x1 : Int32) : Nat → Int32 → SM → Option (Int32 × SM)
  | 0, _, _ => none
  | n + 1, v3, zs_o => (if (mI zs_o 13) ≤ v3 then some ((-9), zs_o) else nm 0 fun v4_10 => nm 0 fun v5_11 => F_X12_parting_b67 x1 (F_X12_parting_b53 x1 n) fu v3 v4_10 v5_11 zs_o)
def F_X12_parting (s_o : SM) (x1 : Int32) : Option (Int32 × SM) := nm (mIs s_o 0 0) fun s_o_12 => (F_X12_isForm s_o_12 x1 0).bind fun q_13 => (if q_13 = 0 then some ((-1), s_o_12) else (F_X12_lays s_o_12).bind fun q_14 => (F_X12_hears q_14 1).bind fun q_15 => (F_X12_isLaw q_15 x1).bind fun q_16 => nm q_16.1 fun v2_17 => (F_X12_hears q_16.2 0).bind fun q_18 => (if v2_17 = 0 then (F_X12_isLaw q_18 x1).bind fun q_19 => (if q_19.1 = 0 then some ((-9), q_19.2) else nm 0 fun v3_20 => F_X12_parting_b53 x1 fu v3_20 q_19.2) else some ((-9), q_18)))

abbrev rm_X12_parting : Room := { frames := 4, cells := 0, slots := 0, locals := 93 }
set_option maxHeartbeats 4000000 in
set_option maxRecDepth 100000 in
theorem c_X12_parting (l : Launch) (D : gG) (cB cI cJ cZ : ClassId) (o : Nat → Nat) (s_o : SM) (x1 : Int32) (r : Int32 × SM) (hf : F_X12_parting s_o x1 = some r) : gM l D (tyL cB cI cJ cZ) yX12_parting cX12_parting 6 (some .int) rm_X12_parting [.ref (o 0), .int x1] (wX12 o cB cI cJ cZ s_o) (some (.int r.1)) (wX12 o cB cI cJ cZ r.2) := by
  refine met_of (by decide) (Nat.le_of_ble_eq_true rfl) ?_
  intro p e s m args below meth c A cx hr hA
  show gW p l e rm_X12_parting s m args below meth c D A 6 _ 0 0 _ [(0, .ref (o 0)), (1, .int x1)] 0 []
  have h96 : ∀ (K53 : Int32 → SM → Option (Int32 × SM)), (∀ (v3 : Int32) (zs_o : SM), K53 v3 zs_o = some r → gW p l e rm_X12_parting s m args below meth c D A 6 (MQ below (QM D (tyL cB cI cJ cZ) (some (.int r.1)) (wX12 o cB cI cJ cZ s_o) (wX12 o cB cI cJ cZ r.2) s.heap.size) args s 0 0 A) 0 0 (wX12 o cB cI cJ cZ zs_o) [(0, .ref (o 0)), (1, .int x1), (3, .int v3)] 53 []) → ∀ (K67 : Int32 → Int32 → Int32 → SM → Option (Int32 × SM)), (∀ (v3 : Int32) (v4 : Int32) (v5 : Int32) (zs_o : SM), K67 v3 v4 v5 zs_o = some r → gW p l e rm_X12_parting s m args below meth c D A 6 (MQ below (QM D (tyL cB cI cJ cZ) (some (.int r.1)) (wX12 o cB cI cJ cZ s_o) (wX12 o cB cI cJ cZ r.2) s.heap.size) args s 0 0 A) 0 0 (wX12 o cB cI cJ cZ zs_o) [(0, .ref (o 0)), (1, .int x1), (3, .int v3), (4, .int v4), (5, .int v5)] 67 []) → ∀ (v3 : Int32) (v5 : Int32) (zs_o : SM) (k0 : Int32) (k1 : Int32), F_X12_parting_b96 x1 K53 K67 v3 v5 zs_o k0 k1 = some r → gW p l e rm_X12_parting s m args below meth c D A 6 (MQ below (QM D (tyL cB cI cJ cZ) (some (.int r.1)) (wX12 o cB cI cJ cZ s_o) (wX12 o cB cI cJ cZ r.2) s.heap.size) args s 0 0 A) 0 0 (wX12 o cB cI cJ cZ zs_o) [(0, .ref (o 0)), (1, .int x1), (3, .int v3), (5, .int v5)] 96 [.int k1, .int k0] := by
    intro K53 kh53 K67 kh67 v3 v5 zs_o k0 k1 hf
    rw [F_X12_parting_b96] at hf
    refine g_ior cx dX12_parting_96 ?_
    refine g_is cx (L2 := fun v4_1 => [(4, .int v4_1), (0, .ref (o 0)), (1, .int x1), (3, .int v3), (5, .int v5)]) hf dX12_parting_97 (Nat.le_of_ble_eq_true rfl) (fun _ => rfl) (fun v4_1 hf => ?_)
    refine g_inc cx (L2 := fun v5_2 => [(5, .int v5_2), (4, .int v4_1), (0, .ref (o 0)), (1, .int x1), (3, .int v3)]) 4 hf dX12_parting_99 rfl (k_inc1 _) (Nat.le_of_ble_eq_true rfl) (fun _ => rfl) (fun v5_2 hf => ?_)
    refine g_goto (tgt := 67) cx dX12_parting_102 rfl ?_
    refine g_sub [2, 3, 4, 1, 0] rfl ?_
    exact kh67 _ _ _ _ hf
  have h139 : ∀ (K53 : Int32 → SM → Option (Int32 × SM)), (∀ (v3 : Int32) (zs_o : SM), K53 v3 zs_o = some r → gW p l e rm_X12_parting s m args below meth c D A 6 (MQ below (QM D (tyL cB cI cJ cZ) (some (.int r.1)) (wX12 o cB cI cJ cZ s_o) (wX12 o cB cI cJ cZ r.2) s.heap.size) args s 0 0 A) 0 0 (wX12 o cB cI cJ cZ zs_o) [(0, .ref (o 0)), (1, .int x1), (3, .int v3)] 53 []) → ∀ (v3 : Int32) (zs_o : SM), F_X12_parting_b139 x1 K53 v3 zs_o = some r → gW p l e rm_X12_parting s m args below meth c D A 6 (MQ below (QM D (tyL cB cI cJ cZ) (some (.int r.1)) (wX12 o cB cI cJ cZ s_o) (wX12 o cB cI cJ cZ r.2) s.heap.size) args s 0 0 A) 0 0 (wX12 o cB cI cJ cZ zs_o) [(0, .ref (o 0)), (1, .int x1), (3, .int v3)] 139 [] := by
    intro K53 kh53 v3 zs_o hf
    rw [F_X12_parting_b139] at hf
    refine g_inc cx (L2 := fun v3_3 => [(3, .int v3_3), (0, .ref (o 0)), (1, .int x1)]) 2 hf dX12_parting_139 rfl (k_inc1 _) (Nat.le_of_ble_eq_true rfl) (fun _ => rfl) (fun v3_3 hf => ?_)
    refine g_goto (tgt := 53) cx dX12_parting_142 rfl ?_
    refine g_sub [1, 2, 0] rfl ?_
    exact kh53 _ _ hf
  have h67 : ∀ (K53 : Int32 → SM → Option (Int32 × SM)), (∀ (v3 : Int32) (zs_o : SM), K53 v3 zs_o = some r → gW p l e rm_X12_parting s m args below meth c D A 6 (MQ below (QM D (tyL cB cI cJ cZ) (some (.int r.1)) (wX12 o cB cI cJ cZ s_o) (wX12 o cB cI cJ cZ r.2) s.heap.size) args s 0 0 A) 0 0 (wX12 o cB cI cJ cZ zs_o) [(0, .ref (o 0)), (1, .int x1), (3, .int v3)] 53 []) → ∀ (n : Nat) (v3 : Int32) (v4 : Int32) (v5 : Int32) (zs_o : SM), F_X12_parting_b67 x1 K53 n v3 v4 v5 zs_o = some r → gW p l e rm_X12_parting s m args below meth c D A 6 (MQ below (QM D (tyL cB cI cJ cZ) (some (.int r.1)) (wX12 o cB cI cJ cZ s_o) (wX12 o cB cI cJ cZ r.2) s.heap.size) args s 0 0 A) 0 0 (wX12 o cB cI cJ cZ zs_o) [(0, .ref (o 0)), (1, .int x1), (3, .int v3), (4, .int v4), (5, .int v5)] 67 [] := by
    intro K53 kh53 n
    induction n with
    | zero => intro v3 v4 v5 zs_o hf; rw [F_X12_parting_b67] at hf; cases hf
    | succ n ih =>
      intro v3 v4 v5 zs_o hf
      rw [F_X12_parting_b67] at hf
      refine g_il cx 4 dX12_parting_67 rfl ?_
      refine g_aln cx 0 dX12_parting_69 rfl ?_
      refine mg_many cx dX12_parting_70 ?_
      refine g_ic_ge (tgt := 105) cx hf dX12_parting_73 rfl (fun hf => ?_) (fun hf => ?_)
      · refine g_aln cx 0 dX12_parting_105 rfl ?_
        refine g_ic cx dX12_parting_106 k_ic1 ?_
        refine ob hf (fun q_4 hq_4 hf => ?_)
        refine g_callVFv cx lk_RX12_201 (c_X12_hears l D cB cI cJ cZ o zs_o 1 q_4 hq_4) rfl (ci := 10) (q1 := 0) rfl rfl rfl (Nat.le_of_ble_eq_true rfl) ⟨rfl, rfl, Nat.le_of_ble_eq_true rfl, Nat.le_of_ble_eq_true rfl⟩ dX12_parting_107 ?_
        refine g_aln cx 0 dX12_parting_110 rfl ?_
        refine mg_sound cx dX12_parting_111 ?_
        refine g_iln cx 2 dX12_parting_114 rfl ?_
        refine g_aln cx 0 dX12_parting_115 rfl ?_
        refine mg_word cx dX12_parting_116 ?_
        refine g_ic cx dX12_parting_119 k_ic4 ?_
        refine g_iln cx 2 dX12_parting_120 rfl ?_
        refine g_imul cx dX12_parting_121 ?_
        refine ml_word cx hf dX12_parting_122 (fun e_5 hf => ?_)
        refine ms_sound cx hf dX12_parting_123 (fun s_o_7 hf => ?_)
        refine g_il cx 3 dX12_parting_124 rfl ?_
        refine g_if_eq (tgt := 139) cx hf dX12_parting_126 rfl (fun hf => ?_) (fun hf => ?_)
        · refine g_sub [0, 1, 2] rfl ?_
          exact h139 _ kh53 _ _ hf
        · refine g_aln cx 0 dX12_parting_129 rfl ?_
          refine g_iln cx 1 dX12_parting_130 rfl ?_
          refine ob hf (fun q_8 hq_8 hf => ?_)
          refine g_callVFi cx lk_RX12_214 (c_X12_isLaw l D cB cI cJ cZ o s_o_7 x1 q_8 hq_8) rfl (ci := 10) (q1 := 0) rfl rfl rfl (Nat.le_of_ble_eq_true rfl) ⟨rfl, rfl, Nat.le_of_ble_eq_true rfl, Nat.le_of_ble_eq_true rfl⟩ dX12_parting_131 ?_
          refine g_if_eq (tgt := 139) cx hf dX12_parting_134 rfl (fun hf => ?_) (fun hf => ?_)
          · refine g_sub [0, 1, 2] rfl ?_
            exact h139 _ kh53 _ _ hf
          · refine g_iln cx 2 dX12_parting_137 rfl ?_
            exact g_iret (ovf := fun (r : Int32 × SM) => (some (.int r.1))) (wf := fun (r : Int32 × SM) => (wX12 o cB cI cJ cZ r.2)) cx hA hr hf rfl rfl dX12_parting_138
      · refine g_il cx 3 dX12_parting_76 rfl ?_
        refine g_aln cx 0 dX12_parting_78 rfl ?_
        refine mg_tried cx dX12_parting_79 ?_
        refine g_ic cx dX12_parting_82 k_ic3 ?_
        refine g_il cx 4 dX12_parting_83 rfl ?_
        refine g_imul cx dX12_parting_85 ?_
        refine ml_tried cx hf dX12_parting_86 (fun e_9 hf => ?_)
        refine g_iln cx 2 dX12_parting_87 rfl ?_
        refine g_ic_ne (tgt := 95) cx hf dX12_parting_88 rfl (fun hf => ?_) (fun hf => ?_)
        · refine g_ic cx dX12_parting_95 k_ic0 ?_
          refine g_sub [0, 1, 2, 4] rfl ?_
          exact h96 _ kh53 _ ih _ _ _ _ _ hf
        · refine g_ic cx dX12_parting_91 k_ic1 ?_
          refine g_goto (tgt := 96) cx dX12_parting_92 rfl ?_
          refine g_sub [0, 1, 2, 4] rfl ?_
          exact h96 _ kh53 _ ih _ _ _ _ _ hf
  have h53 : ∀ (n : Nat) (v3 : Int32) (zs_o : SM), F_X12_parting_b53 x1 n v3 zs_o = some r → gW p l e rm_X12_parting s m args below meth c D A 6 (MQ below (QM D (tyL cB cI cJ cZ) (some (.int r.1)) (wX12 o cB cI cJ cZ s_o) (wX12 o cB cI cJ cZ r.2) s.heap.size) args s 0 0 A) 0 0 (wX12 o cB cI cJ cZ zs_o) [(0, .ref (o 0)), (1, .int x1), (3, .int v3)] 53 [] := by
    intro n
    induction n with
    | zero => intro v3 zs_o hf; rw [F_X12_parting_b53] at hf; cases hf
    | succ n ih =>
      intro v3 zs_o hf
      rw [F_X12_parting_b53] at hf
      refine g_iln cx 2 dX12_parting_53 rfl ?_
      refine g_aln cx 0 dX12_parting_54 rfl ?_
      refine mg_words cx dX12_parting_55 ?_
      refine g_ic_ge (tgt := 145) cx hf dX12_parting_58 rfl (fun hf => ?_) (fun hf => ?_)
      · refine g_bp cx dX12_parting_145 k_bpm9 ?_
        exact g_iret (ovf := fun (r : Int32 × SM) => (some (.int r.1))) (wf := fun (r : Int32 × SM) => (wX12 o cB cI cJ cZ r.2)) cx hA hr hf rfl rfl dX12_parting_147
      · refine g_ic cx dX12_parting_61 k_ic0 ?_
        refine g_is cx (L2 := fun v4_10 => [(4, .int v4_10), (0, .ref (o 0)), (1, .int x1), (3, .int v3)]) hf dX12_parting_62 (Nat.le_of_ble_eq_true rfl) (fun _ => rfl) (fun v4_10 hf => ?_)
        refine g_ic cx dX12_parting_64 k_ic0 ?_
        refine g_is cx (L2 := fun v5_11 => [(5, .int v5_11), (4, .int v4_10), (0, .ref (o 0)), (1, .int x1), (3, .int v3)]) hf dX12_parting_65 (Nat.le_of_ble_eq_true rfl) (fun _ => rfl) (fun v5_11 hf => ?_)
        refine g_sub [2, 3, 4, 1, 0] rfl ?_
        exact h67 _ ih fu _ _ _ _ hf
  rw [F_X12_parting] at hf
  refine g_aln cx 0 dX12_parting_0 rfl ?_
  refine g_ic cx dX12_parting_1 k_ic0 ?_
  refine mp_thrown cx hf dX12_parting_2 (fun s_o_12 hf => ?_)
  refine g_aln cx 0 dX12_parting_5 rfl ?_
  refine g_iln cx 1 dX12_parting_6 rfl ?_
  refine g_ic cx dX12_parting_7 k_ic0 ?_
  refine ob hf (fun q_13 hq_13 hf => ?_)
  refine g_callVFi cx lk_RX12_178 (c_X12_isForm l D cB cI cJ cZ o s_o_12 x1 0 q_13 hq_13) rfl (ci := 10) (q1 := 0) rfl rfl rfl (Nat.le_of_ble_eq_true rfl) ⟨rfl, rfl, Nat.le_of_ble_eq_true rfl, Nat.le_of_ble_eq_true rfl⟩ dX12_parting_8 ?_
  refine g_if_ne (tgt := 16) cx hf dX12_parting_11 rfl (fun hf => ?_) (fun hf => ?_)
  · refine g_aln cx 0 dX12_parting_16 rfl ?_
    refine ob hf (fun q_14 hq_14 hf => ?_)
    refine g_callVFv cx lk_RX12_198 (c_X12_lays l D cB cI cJ cZ o s_o_12 q_14 hq_14) rfl (ci := 10) (q1 := 0) rfl rfl rfl (Nat.le_of_ble_eq_true rfl) ⟨rfl, rfl, Nat.le_of_ble_eq_true rfl, Nat.le_of_ble_eq_true rfl⟩ dX12_parting_17 ?_
    refine g_aln cx 0 dX12_parting_20 rfl ?_
    refine g_ic cx dX12_parting_21 k_ic1 ?_
    refine ob hf (fun q_15 hq_15 hf => ?_)
    refine g_callVFv cx lk_RX12_201 (c_X12_hears l D cB cI cJ cZ o q_14 1 q_15 hq_15) rfl (ci := 10) (q1 := 0) rfl rfl rfl (Nat.le_of_ble_eq_true rfl) ⟨rfl, rfl, Nat.le_of_ble_eq_true rfl, Nat.le_of_ble_eq_true rfl⟩ dX12_parting_22 ?_
    refine g_aln cx 0 dX12_parting_25 rfl ?_
    refine g_iln cx 1 dX12_parting_26 rfl ?_
    refine ob hf (fun q_16 hq_16 hf => ?_)
    refine g_callVFi cx lk_RX12_214 (c_X12_isLaw l D cB cI cJ cZ o q_15 x1 q_16 hq_16) rfl (ci := 10) (q1 := 0) rfl rfl rfl (Nat.le_of_ble_eq_true rfl) ⟨rfl, rfl, Nat.le_of_ble_eq_true rfl, Nat.le_of_ble_eq_true rfl⟩ dX12_parting_27 ?_
    refine g_isn cx (L2 := fun v2_17 => [(2, .int v2_17), (0, .ref (o 0)), (1, .int x1)]) hf dX12_parting_30 (Nat.le_of_ble_eq_true rfl) (fun _ => rfl) (fun v2_17 hf => ?_)
    refine g_aln cx 1 dX12_parting_31 rfl ?_
    refine g_ic cx dX12_parting_32 k_ic0 ?_
    refine ob hf (fun q_18 hq_18 hf => ?_)
    refine g_callVFv cx lk_RX12_201 (c_X12_hears l D cB cI cJ cZ o q_16.2 0 q_18 hq_18) rfl (ci := 10) (q1 := 0) rfl rfl rfl (Nat.le_of_ble_eq_true rfl) ⟨rfl, rfl, Nat.le_of_ble_eq_true rfl, Nat.le_of_ble_eq_true rfl⟩ dX12_parting_33 ?_
    refine g_iln cx 0 dX12_parting_36 rfl ?_
    refine g_if_ne (tgt := 48) cx hf dX12_parting_37 rfl (fun hf => ?_) (fun hf => ?_)
    · refine g_bp cx dX12_parting_48 k_bpm9 ?_
      exact g_iret (ovf := fun (r : Int32 × SM) => (some (.int r.1))) (wf := fun (r : Int32 × SM) => (wX12 o cB cI cJ cZ r.2)) cx hA hr hf rfl rfl dX12_parting_50
    · refine g_aln cx 1 dX12_parting_40 rfl ?_
      refine g_iln cx 2 dX12_parting_41 rfl ?_
      refine ob hf (fun q_19 hq_19 hf => ?_)
      refine g_callVFi cx lk_RX12_214 (c_X12_isLaw l D cB cI cJ cZ o q_18 x1 q_19 hq_19) rfl (ci := 10) (q1 := 0) rfl rfl rfl (Nat.le_of_ble_eq_true rfl) ⟨rfl, rfl, Nat.le_of_ble_eq_true rfl, Nat.le_of_ble_eq_true rfl⟩ dX12_parting_42 ?_
      refine g_if_ne (tgt := 51) cx hf dX12_parting_45 rfl (fun hf => ?_) (fun hf => ?_)
      · refine g_ic cx dX12_parting_51 k_ic0 ?_
        refine g_isn cx (L2 := fun v3_20 => [(3, .int v3_20), (2, .int v2_17), (0, .ref (o 0)), (1, .int x1)]) hf dX12_parting_52 (Nat.le_of_ble_eq_true rfl) (fun _ => rfl) (fun v3_20 hf => ?_)
        refine g_sub [2, 3, 0] rfl ?_
        exact h53 fu _ _ hf
      · refine g_bp cx dX12_parting_48 k_bpm9 ?_
        exact g_iret (ovf := fun (r : Int32 × SM) => (some (.int r.1))) (wf := fun (r : Int32 × SM) => (wX12 o cB cI cJ cZ r.2)) cx hA hr hf rfl rfl dX12_parting_50
  · refine g_ic cx dX12_parting_14 k_icm1 ?_
    exact g_iret (ovf := fun (r : Int32 × SM) => (some (.int r.1))) (wf := fun (r : Int32 × SM) => (wX12 o cB cI cJ cZ r.2)) cx hA hr hf rfl rfl dX12_parting_15
def tX12_forged_14 : List Nat := 132 :: 5 :: 1 :: 167 :: 255 :: 102 :: 132 :: 4 :: 1 :: 167 :: 255 :: 82 :: 16 :: 247 :: 172 :: []
def tX12_forged_13 : List Nat := 0 :: 4 :: 29 :: 51 :: 154 :: 0 :: 12 :: 16 :: 10 :: 21 :: 4 :: 104 :: 21 :: 5 :: 96 :: 172 :: tX12_forged_14
def tX12_forged_12 : List Nat := 0 :: 204 :: 42 :: 180 :: 0 :: 47 :: 21 :: 4 :: 29 :: 163 :: 0 :: 9 :: 29 :: 4 :: 96 :: 167 :: tX12_forged_13
def tX12_forged_11 : List Nat := 79 :: 132 :: 7 :: 1 :: 167 :: 255 :: 185 :: 132 :: 6 :: 1 :: 167 :: 255 :: 167 :: 42 :: 27 :: 182 :: tX12_forged_12
def tX12_forged_10 : List Nat := 8 :: 21 :: 6 :: 167 :: 0 :: 7 :: 21 :: 6 :: 4 :: 100 :: 104 :: 96 :: 21 :: 7 :: 96 :: 46 :: tX12_forged_11
def tX12_forged_9 : List Nat := 46 :: 167 :: 0 :: 31 :: 42 :: 180 :: 0 :: 28 :: 4 :: 6 :: 21 :: 6 :: 21 :: 4 :: 162 :: 0 :: tX12_forged_10
def tX12_forged_8 : List Nat := 21 :: 4 :: 160 :: 0 :: 18 :: 42 :: 180 :: 0 :: 22 :: 6 :: 21 :: 5 :: 104 :: 21 :: 7 :: 96 :: tX12_forged_9
def tX12_forged_7 : List Nat := 162 :: 0 :: 71 :: 42 :: 180 :: 0 :: 38 :: 6 :: 21 :: 6 :: 104 :: 21 :: 7 :: 96 :: 21 :: 6 :: tX12_forged_8
def tX12_forged_6 : List Nat := 6 :: 21 :: 6 :: 42 :: 180 :: 0 :: 188 :: 162 :: 0 :: 86 :: 3 :: 54 :: 7 :: 21 :: 7 :: 6 :: tX12_forged_7
def tX12_forged_5 : List Nat := 0 :: 151 :: 42 :: 42 :: 180 :: 0 :: 28 :: 3 :: 46 :: 4 :: 96 :: 181 :: 0 :: 188 :: 3 :: 54 :: tX12_forged_6
def tX12_forged_4 : List Nat := 28 :: 3 :: 46 :: 163 :: 0 :: 169 :: 3 :: 54 :: 5 :: 21 :: 5 :: 42 :: 180 :: 0 :: 172 :: 162 :: tX12_forged_5
def tX12_forged_3 : List Nat := 16 :: 8 :: 160 :: 0 :: 6 :: 16 :: 253 :: 172 :: 3 :: 54 :: 4 :: 21 :: 4 :: 42 :: 180 :: 0 :: tX12_forged_4
def tX12_forged_2 : List Nat := 0 :: 47 :: 29 :: 51 :: 154 :: 0 :: 6 :: 16 :: 254 :: 172 :: 42 :: 180 :: 0 :: 28 :: 3 :: 46 :: tX12_forged_3
def tX12_forged_1 : List Nat := 182 :: 0 :: 185 :: 154 :: 0 :: 5 :: 2 :: 172 :: 42 :: 27 :: 28 :: 182 :: 0 :: 210 :: 42 :: 180 :: tX12_forged_2
def tX12_forged_0 : List Nat := 42 :: 3 :: 181 :: 0 :: 78 :: 42 :: 27 :: 28 :: 182 :: 0 :: 178 :: 153 :: 0 :: 11 :: 42 :: 29 :: tX12_forged_1
theorem tX12_forgedf_0 : (cX12_forged.data.toList.map UInt8.toNat).drop 0 = tX12_forged_0 := by decide +kernel
theorem tX12_forgedf_1 : (cX12_forged.data.toList.map UInt8.toNat).drop 16 = tX12_forged_1 := fd_next (k := 0) tX12_forgedf_0 rfl
theorem tX12_forgedf_2 : (cX12_forged.data.toList.map UInt8.toNat).drop 32 = tX12_forged_2 := fd_next (k := 16) tX12_forgedf_1 rfl
theorem tX12_forgedf_3 : (cX12_forged.data.toList.map UInt8.toNat).drop 48 = tX12_forged_3 := fd_next (k := 32) tX12_forgedf_2 rfl
theorem tX12_forgedf_4 : (cX12_forged.data.toList.map UInt8.toNat).drop 64 = tX12_forged_4 := fd_next (k := 48) tX12_forgedf_3 rfl
theorem tX12_forgedf_5 : (cX12_forged.data.toList.map UInt8.toNat).drop 80 = tX12_forged_5 := fd_next (k := 64) tX12_forgedf_4 rfl
theorem tX12_forgedf_6 : (cX12_forged.data.toList.map UInt8.toNat).drop 96 = tX12_forged_6 := fd_next (k := 80) tX12_forgedf_5 rfl
theorem tX12_forgedf_7 : (cX12_forged.data.toList.map UInt8.toNat).drop 112 = tX12_forged_7 := fd_next (k := 96) tX12_forgedf_6 rfl
theorem tX12_forgedf_8 : (cX12_forged.data.toList.map UInt8.toNat).drop 128 = tX12_forged_8 := fd_next (k := 112) tX12_forgedf_7 rfl
theorem tX12_forgedf_9 : (cX12_forged.data.toList.map UInt8.toNat).drop 144 = tX12_forged_9 := fd_next (k := 128) tX12_forgedf_8 rfl
theorem tX12_forgedf_10 : (cX12_forged.data.toList.map UInt8.toNat).drop 160 = tX12_forged_10 := fd_next (k := 144) tX12_forgedf_9 rfl
theorem tX12_forgedf_11 : (cX12_forged.data.toList.map UInt8.toNat).drop 176 = tX12_forged_11 := fd_next (k := 160) tX12_forgedf_10 rfl
theorem tX12_forgedf_12 : (cX12_forged.data.toList.map UInt8.toNat).drop 192 = tX12_forged_12 := fd_next (k := 176) tX12_forgedf_11 rfl
theorem tX12_forgedf_13 : (cX12_forged.data.toList.map UInt8.toNat).drop 208 = tX12_forged_13 := fd_next (k := 192) tX12_forgedf_12 rfl
theorem tX12_forgedf_14 : (cX12_forged.data.toList.map UInt8.toNat).drop 224 = tX12_forged_14 := fd_next (k := 208) tX12_forgedf_13 rfl
theorem dX12_forged_0 : decode cX12_forged 0 = .ok (.aload_n 0, 1) := dk_42 (fdB_of (k := 0) tX12_forgedf_0 0 42 rfl)
theorem dX12_forged_1 : decode cX12_forged 1 = .ok (.iconst 0, 1) := dk_3 (fdB_of (k := 0) tX12_forgedf_0 1 3 rfl)
theorem dX12_forged_2 : decode cX12_forged 2 = .ok (.putfield 78, 3) := dk_181 (fdB_of (k := 0) tX12_forgedf_0 2 181 rfl) (fdB_of (k := 0) tX12_forgedf_0 3 0 rfl) (fdB_of (k := 0) tX12_forgedf_0 4 78 rfl)
theorem dX12_forged_5 : decode cX12_forged 5 = .ok (.aload_n 0, 1) := dk_42 (fdB_of (k := 0) tX12_forgedf_0 5 42 rfl)
theorem dX12_forged_6 : decode cX12_forged 6 = .ok (.iload_n 1, 1) := dk_27 (fdB_of (k := 0) tX12_forgedf_0 6 27 rfl)
theorem dX12_forged_7 : decode cX12_forged 7 = .ok (.iload_n 2, 1) := dk_28 (fdB_of (k := 0) tX12_forgedf_0 7 28 rfl)
theorem dX12_forged_8 : decode cX12_forged 8 = .ok (.invokevirtual 178, 3) := dk_182 (fdB_of (k := 0) tX12_forgedf_0 8 182 rfl) (fdB_of (k := 0) tX12_forgedf_0 9 0 rfl) (fdB_of (k := 0) tX12_forgedf_0 10 178 rfl)
theorem dX12_forged_11 : decode cX12_forged 11 = .ok (.ifCond .eq 11, 3) := dk_153 (fdB_of (k := 0) tX12_forgedf_0 11 153 rfl) (fdB_of (k := 0) tX12_forgedf_0 12 0 rfl) (fdB_of (k := 0) tX12_forgedf_0 13 11 rfl) (by decide +kernel)
theorem dX12_forged_14 : decode cX12_forged 14 = .ok (.aload_n 0, 1) := dk_42 (fdB_of (k := 0) tX12_forgedf_0 14 42 rfl)
theorem dX12_forged_15 : decode cX12_forged 15 = .ok (.iload_n 3, 1) := dk_29 (fdB_of (k := 0) tX12_forgedf_0 15 29 rfl)
theorem dX12_forged_16 : decode cX12_forged 16 = .ok (.invokevirtual 185, 3) := dk_182 (fdB_of (k := 16) tX12_forgedf_1 0 182 rfl) (fdB_of (k := 16) tX12_forgedf_1 1 0 rfl) (fdB_of (k := 16) tX12_forgedf_1 2 185 rfl)
theorem dX12_forged_19 : decode cX12_forged 19 = .ok (.ifCond .ne 5, 3) := dk_154 (fdB_of (k := 16) tX12_forgedf_1 3 154 rfl) (fdB_of (k := 16) tX12_forgedf_1 4 0 rfl) (fdB_of (k := 16) tX12_forgedf_1 5 5 rfl) (by decide +kernel)
theorem dX12_forged_22 : decode cX12_forged 22 = .ok (.iconst (-1), 1) := dk_2 (fdB_of (k := 16) tX12_forgedf_1 6 2 rfl)
theorem dX12_forged_23 : decode cX12_forged 23 = .ok (.ireturn, 1) := dk_172 (fdB_of (k := 16) tX12_forgedf_1 7 172 rfl)
theorem dX12_forged_24 : decode cX12_forged 24 = .ok (.aload_n 0, 1) := dk_42 (fdB_of (k := 16) tX12_forgedf_1 8 42 rfl)
theorem dX12_forged_25 : decode cX12_forged 25 = .ok (.iload_n 1, 1) := dk_27 (fdB_of (k := 16) tX12_forgedf_1 9 27 rfl)
theorem dX12_forged_26 : decode cX12_forged 26 = .ok (.iload_n 2, 1) := dk_28 (fdB_of (k := 16) tX12_forgedf_1 10 28 rfl)
theorem dX12_forged_27 : decode cX12_forged 27 = .ok (.invokevirtual 210, 3) := dk_182 (fdB_of (k := 16) tX12_forgedf_1 11 182 rfl) (fdB_of (k := 16) tX12_forgedf_1 12 0 rfl) (fdB_of (k := 16) tX12_forgedf_1 13 210 rfl)
theorem dX12_forged_30 : decode cX12_forged 30 = .ok (.aload_n 0, 1) := dk_42 (fdB_of (k := 16) tX12_forgedf_1 14 42 rfl)
theorem dX12_forged_31 : decode cX12_forged 31 = .ok (.getfield 47, 3) := dk_180 (fdB_of (k := 16) tX12_forgedf_1 15 180 rfl) (fdB_of (k := 32) tX12_forgedf_2 0 0 rfl) (fdB_of (k := 32) tX12_forgedf_2 1 47 rfl)
theorem dX12_forged_34 : decode cX12_forged 34 = .ok (.iload_n 3, 1) := dk_29 (fdB_of (k := 32) tX12_forgedf_2 2 29 rfl)
theorem dX12_forged_35 : decode cX12_forged 35 = .ok (.baload, 1) := dk_51 (fdB_of (k := 32) tX12_forgedf_2 3 51 rfl)
theorem dX12_forged_36 : decode cX12_forged 36 = .ok (.ifCond .ne 6, 3) := dk_154 (fdB_of (k := 32) tX12_forgedf_2 4 154 rfl) (fdB_of (k := 32) tX12_forgedf_2 5 0 rfl) (fdB_of (k := 32) tX12_forgedf_2 6 6 rfl) (by decide +kernel)
theorem dX12_forged_39 : decode cX12_forged 39 = .ok (.bipush (-2), 2) := dk_16 (fdB_of (k := 32) tX12_forgedf_2 7 16 rfl) (fdB_of (k := 32) tX12_forgedf_2 8 254 rfl) (by decide +kernel)
theorem dX12_forged_41 : decode cX12_forged 41 = .ok (.ireturn, 1) := dk_172 (fdB_of (k := 32) tX12_forgedf_2 9 172 rfl)
theorem dX12_forged_42 : decode cX12_forged 42 = .ok (.aload_n 0, 1) := dk_42 (fdB_of (k := 32) tX12_forgedf_2 10 42 rfl)
theorem dX12_forged_43 : decode cX12_forged 43 = .ok (.getfield 28, 3) := dk_180 (fdB_of (k := 32) tX12_forgedf_2 11 180 rfl) (fdB_of (k := 32) tX12_forgedf_2 12 0 rfl) (fdB_of (k := 32) tX12_forgedf_2 13 28 rfl)
theorem dX12_forged_46 : decode cX12_forged 46 = .ok (.iconst 0, 1) := dk_3 (fdB_of (k := 32) tX12_forgedf_2 14 3 rfl)
theorem dX12_forged_47 : decode cX12_forged 47 = .ok (.iaload, 1) := dk_46 (fdB_of (k := 32) tX12_forgedf_2 15 46 rfl)
theorem dX12_forged_48 : decode cX12_forged 48 = .ok (.bipush 8, 2) := dk_16 (fdB_of (k := 48) tX12_forgedf_3 0 16 rfl) (fdB_of (k := 48) tX12_forgedf_3 1 8 rfl) (by decide +kernel)
theorem dX12_forged_50 : decode cX12_forged 50 = .ok (.if_icmp .ne 6, 3) := dk_160 (fdB_of (k := 48) tX12_forgedf_3 2 160 rfl) (fdB_of (k := 48) tX12_forgedf_3 3 0 rfl) (fdB_of (k := 48) tX12_forgedf_3 4 6 rfl) (by decide +kernel)
theorem dX12_forged_53 : decode cX12_forged 53 = .ok (.bipush (-3), 2) := dk_16 (fdB_of (k := 48) tX12_forgedf_3 5 16 rfl) (fdB_of (k := 48) tX12_forgedf_3 6 253 rfl) (by decide +kernel)
theorem dX12_forged_55 : decode cX12_forged 55 = .ok (.ireturn, 1) := dk_172 (fdB_of (k := 48) tX12_forgedf_3 7 172 rfl)
theorem dX12_forged_56 : decode cX12_forged 56 = .ok (.iconst 0, 1) := dk_3 (fdB_of (k := 48) tX12_forgedf_3 8 3 rfl)
theorem dX12_forged_57 : decode cX12_forged 57 = .ok (.istore 4, 2) := dk_54 (fdB_of (k := 48) tX12_forgedf_3 9 54 rfl) (fdB_of (k := 48) tX12_forgedf_3 10 4 rfl)
theorem dX12_forged_59 : decode cX12_forged 59 = .ok (.iload 4, 2) := dk_21 (fdB_of (k := 48) tX12_forgedf_3 11 21 rfl) (fdB_of (k := 48) tX12_forgedf_3 12 4 rfl)
theorem dX12_forged_61 : decode cX12_forged 61 = .ok (.aload_n 0, 1) := dk_42 (fdB_of (k := 48) tX12_forgedf_3 13 42 rfl)
theorem dX12_forged_62 : decode cX12_forged 62 = .ok (.getfield 28, 3) := dk_180 (fdB_of (k := 48) tX12_forgedf_3 14 180 rfl) (fdB_of (k := 48) tX12_forgedf_3 15 0 rfl) (fdB_of (k := 64) tX12_forgedf_4 0 28 rfl)
theorem dX12_forged_65 : decode cX12_forged 65 = .ok (.iconst 0, 1) := dk_3 (fdB_of (k := 64) tX12_forgedf_4 1 3 rfl)
theorem dX12_forged_66 : decode cX12_forged 66 = .ok (.iaload, 1) := dk_46 (fdB_of (k := 64) tX12_forgedf_4 2 46 rfl)
theorem dX12_forged_67 : decode cX12_forged 67 = .ok (.if_icmp .gt 169, 3) := dk_163 (fdB_of (k := 64) tX12_forgedf_4 3 163 rfl) (fdB_of (k := 64) tX12_forgedf_4 4 0 rfl) (fdB_of (k := 64) tX12_forgedf_4 5 169 rfl) (by decide +kernel)
theorem dX12_forged_70 : decode cX12_forged 70 = .ok (.iconst 0, 1) := dk_3 (fdB_of (k := 64) tX12_forgedf_4 6 3 rfl)
theorem dX12_forged_71 : decode cX12_forged 71 = .ok (.istore 5, 2) := dk_54 (fdB_of (k := 64) tX12_forgedf_4 7 54 rfl) (fdB_of (k := 64) tX12_forgedf_4 8 5 rfl)
theorem dX12_forged_73 : decode cX12_forged 73 = .ok (.iload 5, 2) := dk_21 (fdB_of (k := 64) tX12_forgedf_4 9 21 rfl) (fdB_of (k := 64) tX12_forgedf_4 10 5 rfl)
theorem dX12_forged_75 : decode cX12_forged 75 = .ok (.aload_n 0, 1) := dk_42 (fdB_of (k := 64) tX12_forgedf_4 11 42 rfl)
theorem dX12_forged_76 : decode cX12_forged 76 = .ok (.getfield 172, 3) := dk_180 (fdB_of (k := 64) tX12_forgedf_4 12 180 rfl) (fdB_of (k := 64) tX12_forgedf_4 13 0 rfl) (fdB_of (k := 64) tX12_forgedf_4 14 172 rfl)
theorem dX12_forged_79 : decode cX12_forged 79 = .ok (.if_icmp .ge 151, 3) := dk_162 (fdB_of (k := 64) tX12_forgedf_4 15 162 rfl) (fdB_of (k := 80) tX12_forgedf_5 0 0 rfl) (fdB_of (k := 80) tX12_forgedf_5 1 151 rfl) (by decide +kernel)
theorem dX12_forged_82 : decode cX12_forged 82 = .ok (.aload_n 0, 1) := dk_42 (fdB_of (k := 80) tX12_forgedf_5 2 42 rfl)
theorem dX12_forged_83 : decode cX12_forged 83 = .ok (.aload_n 0, 1) := dk_42 (fdB_of (k := 80) tX12_forgedf_5 3 42 rfl)
theorem dX12_forged_84 : decode cX12_forged 84 = .ok (.getfield 28, 3) := dk_180 (fdB_of (k := 80) tX12_forgedf_5 4 180 rfl) (fdB_of (k := 80) tX12_forgedf_5 5 0 rfl) (fdB_of (k := 80) tX12_forgedf_5 6 28 rfl)
theorem dX12_forged_87 : decode cX12_forged 87 = .ok (.iconst 0, 1) := dk_3 (fdB_of (k := 80) tX12_forgedf_5 7 3 rfl)
theorem dX12_forged_88 : decode cX12_forged 88 = .ok (.iaload, 1) := dk_46 (fdB_of (k := 80) tX12_forgedf_5 8 46 rfl)
theorem dX12_forged_89 : decode cX12_forged 89 = .ok (.iconst 1, 1) := dk_4 (fdB_of (k := 80) tX12_forgedf_5 9 4 rfl)
theorem dX12_forged_90 : decode cX12_forged 90 = .ok (.iadd, 1) := dk_96 (fdB_of (k := 80) tX12_forgedf_5 10 96 rfl)
theorem dX12_forged_91 : decode cX12_forged 91 = .ok (.putfield 188, 3) := dk_181 (fdB_of (k := 80) tX12_forgedf_5 11 181 rfl) (fdB_of (k := 80) tX12_forgedf_5 12 0 rfl) (fdB_of (k := 80) tX12_forgedf_5 13 188 rfl)
theorem dX12_forged_94 : decode cX12_forged 94 = .ok (.iconst 0, 1) := dk_3 (fdB_of (k := 80) tX12_forgedf_5 14 3 rfl)
theorem dX12_forged_95 : decode cX12_forged 95 = .ok (.istore 6, 2) := dk_54 (fdB_of (k := 80) tX12_forgedf_5 15 54 rfl) (fdB_of (k := 96) tX12_forgedf_6 0 6 rfl)
theorem dX12_forged_97 : decode cX12_forged 97 = .ok (.iload 6, 2) := dk_21 (fdB_of (k := 96) tX12_forgedf_6 1 21 rfl) (fdB_of (k := 96) tX12_forgedf_6 2 6 rfl)
theorem dX12_forged_99 : decode cX12_forged 99 = .ok (.aload_n 0, 1) := dk_42 (fdB_of (k := 96) tX12_forgedf_6 3 42 rfl)
theorem dX12_forged_100 : decode cX12_forged 100 = .ok (.getfield 188, 3) := dk_180 (fdB_of (k := 96) tX12_forgedf_6 4 180 rfl) (fdB_of (k := 96) tX12_forgedf_6 5 0 rfl) (fdB_of (k := 96) tX12_forgedf_6 6 188 rfl)
theorem dX12_forged_103 : decode cX12_forged 103 = .ok (.if_icmp .ge 86, 3) := dk_162 (fdB_of (k := 96) tX12_forgedf_6 7 162 rfl) (fdB_of (k := 96) tX12_forgedf_6 8 0 rfl) (fdB_of (k := 96) tX12_forgedf_6 9 86 rfl) (by decide +kernel)
theorem dX12_forged_106 : decode cX12_forged 106 = .ok (.iconst 0, 1) := dk_3 (fdB_of (k := 96) tX12_forgedf_6 10 3 rfl)
theorem dX12_forged_107 : decode cX12_forged 107 = .ok (.istore 7, 2) := dk_54 (fdB_of (k := 96) tX12_forgedf_6 11 54 rfl) (fdB_of (k := 96) tX12_forgedf_6 12 7 rfl)
theorem dX12_forged_109 : decode cX12_forged 109 = .ok (.iload 7, 2) := dk_21 (fdB_of (k := 96) tX12_forgedf_6 13 21 rfl) (fdB_of (k := 96) tX12_forgedf_6 14 7 rfl)
theorem dX12_forged_111 : decode cX12_forged 111 = .ok (.iconst 3, 1) := dk_6 (fdB_of (k := 96) tX12_forgedf_6 15 6 rfl)
theorem dX12_forged_112 : decode cX12_forged 112 = .ok (.if_icmp .ge 71, 3) := dk_162 (fdB_of (k := 112) tX12_forgedf_7 0 162 rfl) (fdB_of (k := 112) tX12_forgedf_7 1 0 rfl) (fdB_of (k := 112) tX12_forgedf_7 2 71 rfl) (by decide +kernel)
theorem dX12_forged_115 : decode cX12_forged 115 = .ok (.aload_n 0, 1) := dk_42 (fdB_of (k := 112) tX12_forgedf_7 3 42 rfl)
theorem dX12_forged_116 : decode cX12_forged 116 = .ok (.getfield 38, 3) := dk_180 (fdB_of (k := 112) tX12_forgedf_7 4 180 rfl) (fdB_of (k := 112) tX12_forgedf_7 5 0 rfl) (fdB_of (k := 112) tX12_forgedf_7 6 38 rfl)
theorem dX12_forged_119 : decode cX12_forged 119 = .ok (.iconst 3, 1) := dk_6 (fdB_of (k := 112) tX12_forgedf_7 7 6 rfl)
theorem dX12_forged_120 : decode cX12_forged 120 = .ok (.iload 6, 2) := dk_21 (fdB_of (k := 112) tX12_forgedf_7 8 21 rfl) (fdB_of (k := 112) tX12_forgedf_7 9 6 rfl)
theorem dX12_forged_122 : decode cX12_forged 122 = .ok (.imul, 1) := dk_104 (fdB_of (k := 112) tX12_forgedf_7 10 104 rfl)
theorem dX12_forged_123 : decode cX12_forged 123 = .ok (.iload 7, 2) := dk_21 (fdB_of (k := 112) tX12_forgedf_7 11 21 rfl) (fdB_of (k := 112) tX12_forgedf_7 12 7 rfl)
theorem dX12_forged_125 : decode cX12_forged 125 = .ok (.iadd, 1) := dk_96 (fdB_of (k := 112) tX12_forgedf_7 13 96 rfl)
theorem dX12_forged_126 : decode cX12_forged 126 = .ok (.iload 6, 2) := dk_21 (fdB_of (k := 112) tX12_forgedf_7 14 21 rfl) (fdB_of (k := 112) tX12_forgedf_7 15 6 rfl)
theorem dX12_forged_128 : decode cX12_forged 128 = .ok (.iload 4, 2) := dk_21 (fdB_of (k := 128) tX12_forgedf_8 0 21 rfl) (fdB_of (k := 128) tX12_forgedf_8 1 4 rfl)
theorem dX12_forged_130 : decode cX12_forged 130 = .ok (.if_icmp .ne 18, 3) := dk_160 (fdB_of (k := 128) tX12_forgedf_8 2 160 rfl) (fdB_of (k := 128) tX12_forgedf_8 3 0 rfl) (fdB_of (k := 128) tX12_forgedf_8 4 18 rfl) (by decide +kernel)
theorem dX12_forged_133 : decode cX12_forged 133 = .ok (.aload_n 0, 1) := dk_42 (fdB_of (k := 128) tX12_forgedf_8 5 42 rfl)
theorem dX12_forged_134 : decode cX12_forged 134 = .ok (.getfield 22, 3) := dk_180 (fdB_of (k := 128) tX12_forgedf_8 6 180 rfl) (fdB_of (k := 128) tX12_forgedf_8 7 0 rfl) (fdB_of (k := 128) tX12_forgedf_8 8 22 rfl)
theorem dX12_forged_137 : decode cX12_forged 137 = .ok (.iconst 3, 1) := dk_6 (fdB_of (k := 128) tX12_forgedf_8 9 6 rfl)
theorem dX12_forged_138 : decode cX12_forged 138 = .ok (.iload 5, 2) := dk_21 (fdB_of (k := 128) tX12_forgedf_8 10 21 rfl) (fdB_of (k := 128) tX12_forgedf_8 11 5 rfl)
theorem dX12_forged_140 : decode cX12_forged 140 = .ok (.imul, 1) := dk_104 (fdB_of (k := 128) tX12_forgedf_8 12 104 rfl)
theorem dX12_forged_141 : decode cX12_forged 141 = .ok (.iload 7, 2) := dk_21 (fdB_of (k := 128) tX12_forgedf_8 13 21 rfl) (fdB_of (k := 128) tX12_forgedf_8 14 7 rfl)
theorem dX12_forged_143 : decode cX12_forged 143 = .ok (.iadd, 1) := dk_96 (fdB_of (k := 128) tX12_forgedf_8 15 96 rfl)
theorem dX12_forged_144 : decode cX12_forged 144 = .ok (.iaload, 1) := dk_46 (fdB_of (k := 144) tX12_forgedf_9 0 46 rfl)
theorem dX12_forged_145 : decode cX12_forged 145 = .ok (.goto 31, 3) := dk_167 (fdB_of (k := 144) tX12_forgedf_9 1 167 rfl) (fdB_of (k := 144) tX12_forgedf_9 2 0 rfl) (fdB_of (k := 144) tX12_forgedf_9 3 31 rfl) (by decide +kernel)
theorem dX12_forged_148 : decode cX12_forged 148 = .ok (.aload_n 0, 1) := dk_42 (fdB_of (k := 144) tX12_forgedf_9 4 42 rfl)
theorem dX12_forged_149 : decode cX12_forged 149 = .ok (.getfield 28, 3) := dk_180 (fdB_of (k := 144) tX12_forgedf_9 5 180 rfl) (fdB_of (k := 144) tX12_forgedf_9 6 0 rfl) (fdB_of (k := 144) tX12_forgedf_9 7 28 rfl)
theorem dX12_forged_152 : decode cX12_forged 152 = .ok (.iconst 1, 1) := dk_4 (fdB_of (k := 144) tX12_forgedf_9 8 4 rfl)
theorem dX12_forged_153 : decode cX12_forged 153 = .ok (.iconst 3, 1) := dk_6 (fdB_of (k := 144) tX12_forgedf_9 9 6 rfl)
theorem dX12_forged_154 : decode cX12_forged 154 = .ok (.iload 6, 2) := dk_21 (fdB_of (k := 144) tX12_forgedf_9 10 21 rfl) (fdB_of (k := 144) tX12_forgedf_9 11 6 rfl)
theorem dX12_forged_156 : decode cX12_forged 156 = .ok (.iload 4, 2) := dk_21 (fdB_of (k := 144) tX12_forgedf_9 12 21 rfl) (fdB_of (k := 144) tX12_forgedf_9 13 4 rfl)
theorem dX12_forged_158 : decode cX12_forged 158 = .ok (.if_icmp .ge 8, 3) := dk_162 (fdB_of (k := 144) tX12_forgedf_9 14 162 rfl) (fdB_of (k := 144) tX12_forgedf_9 15 0 rfl) (fdB_of (k := 160) tX12_forgedf_10 0 8 rfl) (by decide +kernel)
theorem dX12_forged_161 : decode cX12_forged 161 = .ok (.iload 6, 2) := dk_21 (fdB_of (k := 160) tX12_forgedf_10 1 21 rfl) (fdB_of (k := 160) tX12_forgedf_10 2 6 rfl)
theorem dX12_forged_163 : decode cX12_forged 163 = .ok (.goto 7, 3) := dk_167 (fdB_of (k := 160) tX12_forgedf_10 3 167 rfl) (fdB_of (k := 160) tX12_forgedf_10 4 0 rfl) (fdB_of (k := 160) tX12_forgedf_10 5 7 rfl) (by decide +kernel)
theorem dX12_forged_166 : decode cX12_forged 166 = .ok (.iload 6, 2) := dk_21 (fdB_of (k := 160) tX12_forgedf_10 6 21 rfl) (fdB_of (k := 160) tX12_forgedf_10 7 6 rfl)
theorem dX12_forged_168 : decode cX12_forged 168 = .ok (.iconst 1, 1) := dk_4 (fdB_of (k := 160) tX12_forgedf_10 8 4 rfl)
theorem dX12_forged_169 : decode cX12_forged 169 = .ok (.isub, 1) := dk_100 (fdB_of (k := 160) tX12_forgedf_10 9 100 rfl)
theorem dX12_forged_170 : decode cX12_forged 170 = .ok (.imul, 1) := dk_104 (fdB_of (k := 160) tX12_forgedf_10 10 104 rfl)
theorem dX12_forged_171 : decode cX12_forged 171 = .ok (.iadd, 1) := dk_96 (fdB_of (k := 160) tX12_forgedf_10 11 96 rfl)
theorem dX12_forged_172 : decode cX12_forged 172 = .ok (.iload 7, 2) := dk_21 (fdB_of (k := 160) tX12_forgedf_10 12 21 rfl) (fdB_of (k := 160) tX12_forgedf_10 13 7 rfl)
theorem dX12_forged_174 : decode cX12_forged 174 = .ok (.iadd, 1) := dk_96 (fdB_of (k := 160) tX12_forgedf_10 14 96 rfl)
theorem dX12_forged_175 : decode cX12_forged 175 = .ok (.iaload, 1) := dk_46 (fdB_of (k := 160) tX12_forgedf_10 15 46 rfl)
theorem dX12_forged_176 : decode cX12_forged 176 = .ok (.iastore, 1) := dk_79 (fdB_of (k := 176) tX12_forgedf_11 0 79 rfl)
theorem dX12_forged_177 : decode cX12_forged 177 = .ok (.iinc 7 1, 3) := dk_132 (fdB_of (k := 176) tX12_forgedf_11 1 132 rfl) (fdB_of (k := 176) tX12_forgedf_11 2 7 rfl) (fdB_of (k := 176) tX12_forgedf_11 3 1 rfl) (by decide +kernel)
theorem dX12_forged_180 : decode cX12_forged 180 = .ok (.goto (-71), 3) := dk_167 (fdB_of (k := 176) tX12_forgedf_11 4 167 rfl) (fdB_of (k := 176) tX12_forgedf_11 5 255 rfl) (fdB_of (k := 176) tX12_forgedf_11 6 185 rfl) (by decide +kernel)
theorem dX12_forged_183 : decode cX12_forged 183 = .ok (.iinc 6 1, 3) := dk_132 (fdB_of (k := 176) tX12_forgedf_11 7 132 rfl) (fdB_of (k := 176) tX12_forgedf_11 8 6 rfl) (fdB_of (k := 176) tX12_forgedf_11 9 1 rfl) (by decide +kernel)
theorem dX12_forged_186 : decode cX12_forged 186 = .ok (.goto (-89), 3) := dk_167 (fdB_of (k := 176) tX12_forgedf_11 10 167 rfl) (fdB_of (k := 176) tX12_forgedf_11 11 255 rfl) (fdB_of (k := 176) tX12_forgedf_11 12 167 rfl) (by decide +kernel)
theorem dX12_forged_189 : decode cX12_forged 189 = .ok (.aload_n 0, 1) := dk_42 (fdB_of (k := 176) tX12_forgedf_11 13 42 rfl)
theorem dX12_forged_190 : decode cX12_forged 190 = .ok (.iload_n 1, 1) := dk_27 (fdB_of (k := 176) tX12_forgedf_11 14 27 rfl)
theorem dX12_forged_191 : decode cX12_forged 191 = .ok (.invokevirtual 204, 3) := dk_182 (fdB_of (k := 176) tX12_forgedf_11 15 182 rfl) (fdB_of (k := 192) tX12_forgedf_12 0 0 rfl) (fdB_of (k := 192) tX12_forgedf_12 1 204 rfl)
theorem dX12_forged_194 : decode cX12_forged 194 = .ok (.aload_n 0, 1) := dk_42 (fdB_of (k := 192) tX12_forgedf_12 2 42 rfl)
theorem dX12_forged_195 : decode cX12_forged 195 = .ok (.getfield 47, 3) := dk_180 (fdB_of (k := 192) tX12_forgedf_12 3 180 rfl) (fdB_of (k := 192) tX12_forgedf_12 4 0 rfl) (fdB_of (k := 192) tX12_forgedf_12 5 47 rfl)
theorem dX12_forged_198 : decode cX12_forged 198 = .ok (.iload 4, 2) := dk_21 (fdB_of (k := 192) tX12_forgedf_12 6 21 rfl) (fdB_of (k := 192) tX12_forgedf_12 7 4 rfl)
theorem dX12_forged_200 : decode cX12_forged 200 = .ok (.iload_n 3, 1) := dk_29 (fdB_of (k := 192) tX12_forgedf_12 8 29 rfl)
theorem dX12_forged_201 : decode cX12_forged 201 = .ok (.if_icmp .gt 9, 3) := dk_163 (fdB_of (k := 192) tX12_forgedf_12 9 163 rfl) (fdB_of (k := 192) tX12_forgedf_12 10 0 rfl) (fdB_of (k := 192) tX12_forgedf_12 11 9 rfl) (by decide +kernel)
theorem dX12_forged_204 : decode cX12_forged 204 = .ok (.iload_n 3, 1) := dk_29 (fdB_of (k := 192) tX12_forgedf_12 12 29 rfl)
theorem dX12_forged_205 : decode cX12_forged 205 = .ok (.iconst 1, 1) := dk_4 (fdB_of (k := 192) tX12_forgedf_12 13 4 rfl)
theorem dX12_forged_206 : decode cX12_forged 206 = .ok (.iadd, 1) := dk_96 (fdB_of (k := 192) tX12_forgedf_12 14 96 rfl)
theorem dX12_forged_207 : decode cX12_forged 207 = .ok (.goto 4, 3) := dk_167 (fdB_of (k := 192) tX12_forgedf_12 15 167 rfl) (fdB_of (k := 208) tX12_forgedf_13 0 0 rfl) (fdB_of (k := 208) tX12_forgedf_13 1 4 rfl) (by decide +kernel)
theorem dX12_forged_210 : decode cX12_forged 210 = .ok (.iload_n 3, 1) := dk_29 (fdB_of (k := 208) tX12_forgedf_13 2 29 rfl)
theorem dX12_forged_211 : decode cX12_forged 211 = .ok (.baload, 1) := dk_51 (fdB_of (k := 208) tX12_forgedf_13 3 51 rfl)
theorem dX12_forged_212 : decode cX12_forged 212 = .ok (.ifCond .ne 12, 3) := dk_154 (fdB_of (k := 208) tX12_forgedf_13 4 154 rfl) (fdB_of (k := 208) tX12_forgedf_13 5 0 rfl) (fdB_of (k := 208) tX12_forgedf_13 6 12 rfl) (by decide +kernel)
theorem dX12_forged_215 : decode cX12_forged 215 = .ok (.bipush 10, 2) := dk_16 (fdB_of (k := 208) tX12_forgedf_13 7 16 rfl) (fdB_of (k := 208) tX12_forgedf_13 8 10 rfl) (by decide +kernel)
theorem dX12_forged_217 : decode cX12_forged 217 = .ok (.iload 4, 2) := dk_21 (fdB_of (k := 208) tX12_forgedf_13 9 21 rfl) (fdB_of (k := 208) tX12_forgedf_13 10 4 rfl)
theorem dX12_forged_219 : decode cX12_forged 219 = .ok (.imul, 1) := dk_104 (fdB_of (k := 208) tX12_forgedf_13 11 104 rfl)
theorem dX12_forged_220 : decode cX12_forged 220 = .ok (.iload 5, 2) := dk_21 (fdB_of (k := 208) tX12_forgedf_13 12 21 rfl) (fdB_of (k := 208) tX12_forgedf_13 13 5 rfl)
theorem dX12_forged_222 : decode cX12_forged 222 = .ok (.iadd, 1) := dk_96 (fdB_of (k := 208) tX12_forgedf_13 14 96 rfl)
theorem dX12_forged_223 : decode cX12_forged 223 = .ok (.ireturn, 1) := dk_172 (fdB_of (k := 208) tX12_forgedf_13 15 172 rfl)
theorem dX12_forged_224 : decode cX12_forged 224 = .ok (.iinc 5 1, 3) := dk_132 (fdB_of (k := 224) tX12_forgedf_14 0 132 rfl) (fdB_of (k := 224) tX12_forgedf_14 1 5 rfl) (fdB_of (k := 224) tX12_forgedf_14 2 1 rfl) (by decide +kernel)
theorem dX12_forged_227 : decode cX12_forged 227 = .ok (.goto (-154), 3) := dk_167 (fdB_of (k := 224) tX12_forgedf_14 3 167 rfl) (fdB_of (k := 224) tX12_forgedf_14 4 255 rfl) (fdB_of (k := 224) tX12_forgedf_14 5 102 rfl) (by decide +kernel)
theorem dX12_forged_230 : decode cX12_forged 230 = .ok (.iinc 4 1, 3) := dk_132 (fdB_of (k := 224) tX12_forgedf_14 6 132 rfl) (fdB_of (k := 224) tX12_forgedf_14 7 4 rfl) (fdB_of (k := 224) tX12_forgedf_14 8 1 rfl) (by decide +kernel)
theorem dX12_forged_233 : decode cX12_forged 233 = .ok (.goto (-174), 3) := dk_167 (fdB_of (k := 224) tX12_forgedf_14 9 167 rfl) (fdB_of (k := 224) tX12_forgedf_14 10 255 rfl) (fdB_of (k := 224) tX12_forgedf_14 11 82 rfl) (by decide +kernel)
theorem dX12_forged_236 : decode cX12_forged 236 = .ok (.bipush (-9), 2) := dk_16 (fdB_of (k := 224) tX12_forgedf_14 12 16 rfl) (fdB_of (k := 224) tX12_forgedf_14 13 247 rfl) (by decide +kernel)
theorem dX12_forged_238 : decode cX12_forged 238 = .ok (.ireturn, 1) := dk_172 (fdB_of (k := 224) tX12_forgedf_14 14 172 rfl)



def F_X12_forged_b176 (x1 : Int32) (x2 : Int32) (x3 : Int32) (K59 : Int32 → SM → Option (Int32 × SM)) (K73 : Int32 → Int32 → SM → Option (Int32 × SM)) (K97 : Int32 → Int32 → Int32 → SM → Option (Int32 × SM)) (K109 : Int32 → Int32 → Int32 → Int32 → SM → Option (Int32 × SM)) (v4 : Int32) (v5 : Int32) (v6 : Int32) (v7 : Int32) (zs_o : SM) (k1 : Int32) (k2 : Int32) : Option (Int32 × SM) := (aset 27 (mA zs_o 24) k1 k2).bind fun f_1 => nm (mAs zs_o 24 f_1) fun s_o_2 => nm (v7 + 1) fun v7_3 => K109 v4 v5 v6 v7_3 s_o_2
def F_X12_forged_b170 (x1 : Int32) (x2 : Int32) (x3 : Int32) (K59 : Int32 → SM → Option (Int32 × SM)) (K73 : Int32 → Int32 → SM → Option (Int32 × SM)) (K97 : Int32 → Int32 → Int32 → SM → Option (Int32 × SM)) (K109 : Int32 → Int32 → Int32 → Int32 → SM → Option (Int32 × SM)) (v4 : Int32) (v5 : Int32) (v6 : Int32) (v7 : Int32) (zs_o : SM) (k1 : Int32) (k3 : Int32) (k4 : Int32) (k5 : Int32) : Option (Int32 × SM) := (aget 25 (mA zs_o 21) ((k3 + (k4 * k5)) + v7)).bind fun e_4 => F_X12_forged_b176 x1 x2 x3 K59 K73 K97 K109 v4 v5 v6 v7 zs_o k1 e_4
def F_X12_forged_b109 (x1 : Int32) (x2 : Int32) (x3 : Int32) (K59 : Int32 → SM → Option (Int32 × SM)) (K73 : Int32 → Int32 → SM → Option (Int32 × SM)) (K97 : Int32 → Int32 → Int32 → SM → Option (Int32 × SM)) : Nat → Int32 → Int32 → Int32 → Int32 → SM → Option (Int32 × SM)
  | 0, _, _, _, _, _ => none
  | n + 1, v4, v5, v6, v7, zs_o => (if 3 ≤ v7 then nm (v6 + 1) fun v6_5 => K97 v4 v5 v6_5 zs_o else (if v6 = v4 then (aget 36 (mA zs_o 12) ((3 * v5) + v7)).bind fun e_6 => F_X12_forged_b176 x1 x2 x3 K59 K73 K97 (F_X12_forged_b109 x1 x2 x3 K59 K73 K97 n) v4 v5 v6 v7 zs_o ((3 * v6) + v7) e_6 else (if v4 ≤ v6 then F_X12_forged_b170 x1 x2 x3 K59 K73 K97 (F_X12_forged_b109 x1 x2 x3 K59 K73 K97 n) v4 v5 v6 v7 zs_o ((3 * v6) + v7) 1 3 (v6 - 1) else F_X12_forged_b170 x1 x2 x3 K59 K73 K97 (F_X12_forged_b109 x1 x2 x3 K59 K73 K97 n) v4 v5 v6 v7 zs_o ((3 * v6) + v7) 1 3 v6)))
def F_X12_forged_b211 (x1 : Int32) (x2 : Int32) (x3 : Int32) (K59 : Int32 → SM → Option (Int32 × SM)) (K73 : Int32 → Int32 → SM → Option (Int32 × SM)) (v4 : Int32) (v5 : Int32) (zs_o : SM) (k1 : Int32) : Option (Int32 × SM) := (aget 9 (mA zs_o 28) k1).bind fun e_7 => (if e_7 = 0 then some (((10 * v4) + v5), zs_o) else nm (v5 + 1) fun v5_8 => K73 v4 v5_8 zs_o)
def F_X12_forged_b97 (x1 : Int32) (x2 : Int32) (x3 : Int32) (K59 : Int32 → SM → Option (Int32 × SM)) (K73 : Int32 → Int32 → SM → Option (Int32 × SM)) : Nat → Int32 → Int32 → Int32 → SM → Option (Int32 × SM)
  | 0, _, _, _, _ => none
  | n + 1, v4, v5, v6, zs_o => (if (mI zs_o 25) ≤ v6 then (F_X12_judges zs_o x1).bind fun q_9 => (if x3 < v4 then F_X12_forged_b211 x1 x2 x3 K59 K73 v4 v5 q_9 x3 else F_X12_forged_b211 x1 x2 x3 K59 K73 v4 v5 q_9 (x3 + 1)) else nm 0 fun v7_10 => F_X12_forged_b109 x1 x2 x3 K59 K73 (F_X12_forged_b97 x1 x2 x3 K59 K73 n) fu v4 v5 v6 v7_10 zs_o)
def F_X12_forged_b73 (x1 : Int32) (x2 : Int32) (x3 : Int32) (K59 : Int32 → SM → Option (Int32 × SM)) : Nat → Int32 → Int32 → SM → Option (Int32 × SM)
  | 0, _, _, _ => none
  | n + 1, v4, v5, zs_o => (if (mI zs_o 15) ≤ v5 then nm (v4 + 1) fun v4_11 => K59 v4_11 zs_o else (aget 25 (mA zs_o 21) 0).bind fun e_12 => nm (mIs zs_o 25 (e_12 + 1)) fun s_o_13 => nm 0 fun v6_14 => F_X12_forged_b97 x1 x2 x3 K59 (F_X12_forged_b73 x1 x2 x3 K59 n) fu v4 v5 v6_14 s_o_13)
def F_X12_forged_b59 (x1 : Int32) (x2 : Int32) (x3 : Int32) : Nat → Int32 → SM → Option (Int32 × SM)
  | 0, _, _ => none
  | n + 1, v4, zs_o => (aget 25 (mA zs_o 21) 0).bind fun e_15 => (if e_15 < v4 then some ((-9), zs_o) else nm 0 fun v5_16 => F_X12_forged_b73 x1 x2 x3 (F_X12_forged_b59 x1 x2 x3 n) fu v4 v5_16 zs_o)
def F_X12_forged (s_o : SM) (x1 : Int32) (x2 : Int32) (x3 : Int32) : Option (Int32 × SM) := nm (mIs s_o 0 0) fun s_o_17 => (F_X12_isForm s_o_17 x1 x2).bind fun q_18 => (if q_18 = 0 then some ((-1), s_o_17) else (F_X12_isLine s_o_17 x3).bind fun q_19 => (if q_19 = 0 then some ((-1), s_o_17) else (F_X12_judgesPaper s_o_17 x1 x2).bind fun q_20 => (aget 9 (mA q_20 28) x3).bind fun e_21 => (if e_21 = 0 then some ((-2), q_20) else (aget 25 (mA q_20 21) 0).bind fun e_22 => (if e_22 = 8 then some ((-3), q_20) else nm 0 fun v4_23 => F_X12_forged_b59 x1 x2 x3 fu v4_23 q_20))))

abbrev rm_X12_forged : Room := { frames := 4, cells := 0, slots := 0, locals := 94 }
set_option maxHeartbeats 4000000 in
set_option maxRecDepth 100000 in
theorem c_X12_forged (l : Launch) (D : gG) (cB cI cJ cZ : ClassId) (o : Nat → Nat) (s_o : SM) (x1 : Int32) (x2 : Int32) (x3 : Int32) (r : Int32 × SM) (hf : F_X12_forged s_o x1 x2 x3 = some r) : gM l D (tyL cB cI cJ cZ) yX12_forged cX12_forged 8 (some .int) rm_X12_forged [.ref (o 0), .int x1, .int x2, .int x3] (wX12 o cB cI cJ cZ s_o) (some (.int r.1)) (wX12 o cB cI cJ cZ r.2) := by
  refine met_of (by decide) (Nat.le_of_ble_eq_true rfl) ?_
  intro p e s m args below meth c A cx hr hA
  show gW p l e rm_X12_forged s m args below meth c D A 8 _ 0 0 _ [(0, .ref (o 0)), (1, .int x1), (2, .int x2), (3, .int x3)] 0 []
  have h176 : ∀ (K59 : Int32 → SM → Option (Int32 × SM)), (∀ (v4 : Int32) (zs_o : SM), K59 v4 zs_o = some r → gW p l e rm_X12_forged s m args below meth c D A 8 (MQ below (QM D (tyL cB cI cJ cZ) (some (.int r.1)) (wX12 o cB cI cJ cZ s_o) (wX12 o cB cI cJ cZ r.2) s.heap.size) args s 0 0 A) 0 0 (wX12 o cB cI cJ cZ zs_o) [(0, .ref (o 0)), (1, .int x1), (3, .int x3), (4, .int v4)] 59 []) → ∀ (K73 : Int32 → Int32 → SM → Option (Int32 × SM)), (∀ (v4 : Int32) (v5 : Int32) (zs_o : SM), K73 v4 v5 zs_o = some r → gW p l e rm_X12_forged s m args below meth c D A 8 (MQ below (QM D (tyL cB cI cJ cZ) (some (.int r.1)) (wX12 o cB cI cJ cZ s_o) (wX12 o cB cI cJ cZ r.2) s.heap.size) args s 0 0 A) 0 0 (wX12 o cB cI cJ cZ zs_o) [(0, .ref (o 0)), (1, .int x1), (3, .int x3), (4, .int v4), (5, .int v5)] 73 []) → ∀ (K97 : Int32 → Int32 → Int32 → SM → Option (Int32 × SM)), (∀ (v4 : Int32) (v5 : Int32) (v6 : Int32) (zs_o : SM), K97 v4 v5 v6 zs_o = some r → gW p l e rm_X12_forged s m args below meth c D A 8 (MQ below (QM D (tyL cB cI cJ cZ) (some (.int r.1)) (wX12 o cB cI cJ cZ s_o) (wX12 o cB cI cJ cZ r.2) s.heap.size) args s 0 0 A) 0 0 (wX12 o cB cI cJ cZ zs_o) [(0, .ref (o 0)), (1, .int x1), (3, .int x3), (4, .int v4), (5, .int v5), (6, .int v6)] 97 []) → ∀ (K109 : Int32 → Int32 → Int32 → Int32 → SM → Option (Int32 × SM)), (∀ (v4 : Int32) (v5 : Int32) (v6 : Int32) (v7 : Int32) (zs_o : SM), K109 v4 v5 v6 v7 zs_o = some r → gW p l e rm_X12_forged s m args below meth c D A 8 (MQ below (QM D (tyL cB cI cJ cZ) (some (.int r.1)) (wX12 o cB cI cJ cZ s_o) (wX12 o cB cI cJ cZ r.2) s.heap.size) args s 0 0 A) 0 0 (wX12 o cB cI cJ cZ zs_o) [(0, .ref (o 0)), (1, .int x1), (3, .int x3), (4, .int v4), (5, .int v5), (6, .int v6), (7, .int v7)] 109 []) → ∀ (v4 : Int32) (v5 : Int32) (v6 : Int32) (v7 : Int32) (zs_o : SM) (k1 : Int32) (k2 : Int32), F_X12_forged_b176 x1 x2 x3 K59 K73 K97 K109 v4 v5 v6 v7 zs_o k1 k2 = some r → gW p l e rm_X12_forged s m args below meth c D A 8 (MQ below (QM D (tyL cB cI cJ cZ) (some (.int r.1)) (wX12 o cB cI cJ cZ s_o) (wX12 o cB cI cJ cZ r.2) s.heap.size) args s 0 0 A) 0 0 (wX12 o cB cI cJ cZ zs_o) [(0, .ref (o 0)), (1, .int x1), (3, .int x3), (4, .int v4), (5, .int v5), (6, .int v6), (7, .int v7)] 176 [.int k2, .int k1, .ref (o 10)] := by
    intro K59 kh59 K73 kh73 K97 kh97 K109 kh109 v4 v5 v6 v7 zs_o k1 k2 hf
    rw [F_X12_forged_b176] at hf
    refine ms_tried cx hf dX12_forged_176 (fun s_o_2 hf => ?_)
    refine g_inc cx (L2 := fun v7_3 => [(7, .int v7_3), (0, .ref (o 0)), (1, .int x1), (3, .int x3), (4, .int v4), (5, .int v5), (6, .int v6)]) 6 hf dX12_forged_177 rfl (k_inc1 _) (Nat.le_of_ble_eq_true rfl) (fun _ => rfl) (fun v7_3 hf => ?_)
    refine g_goto (tgt := 109) cx dX12_forged_180 rfl ?_
    refine g_sub [1, 2, 3, 4, 5, 6, 0] rfl ?_
    exact kh109 _ _ _ _ _ hf
  have h170 : ∀ (K59 : Int32 → SM → Option (Int32 × SM)), (∀ (v4 : Int32) (zs_o : SM), K59 v4 zs_o = some r → gW p l e rm_X12_forged s m args below meth c D A 8 (MQ below (QM D (tyL cB cI cJ cZ) (some (.int r.1)) (wX12 o cB cI cJ cZ s_o) (wX12 o cB cI cJ cZ r.2) s.heap.size) args s 0 0 A) 0 0 (wX12 o cB cI cJ cZ zs_o) [(0, .ref (o 0)), (1, .int x1), (3, .int x3), (4, .int v4)] 59 []) → ∀ (K73 : Int32 → Int32 → SM → Option (Int32 × SM)), (∀ (v4 : Int32) (v5 : Int32) (zs_o : SM), K73 v4 v5 zs_o = some r → gW p l e rm_X12_forged s m args below meth c D A 8 (MQ below (QM D (tyL cB cI cJ cZ) (some (.int r.1)) (wX12 o cB cI cJ cZ s_o) (wX12 o cB cI cJ cZ r.2) s.heap.size) args s 0 0 A) 0 0 (wX12 o cB cI cJ cZ zs_o) [(0, .ref (o 0)), (1, .int x1), (3, .int x3), (4, .int v4), (5, .int v5)] 73 []) → ∀ (K97 : Int32 → Int32 → Int32 → SM → Option (Int32 × SM)), (∀ (v4 : Int32) (v5 : Int32) (v6 : Int32) (zs_o : SM), K97 v4 v5 v6 zs_o = some r → gW p l e rm_X12_forged s m args below meth c D A 8 (MQ below (QM D (tyL cB cI cJ cZ) (some (.int r.1)) (wX12 o cB cI cJ cZ s_o) (wX12 o cB cI cJ cZ r.2) s.heap.size) args s 0 0 A) 0 0 (wX12 o cB cI cJ cZ zs_o) [(0, .ref (o 0)), (1, .int x1), (3, .int x3), (4, .int v4), (5, .int v5), (6, .int v6)] 97 []) → ∀ (K109 : Int32 → Int32 → Int32 → Int32 → SM → Option (Int32 × SM)), (∀ (v4 : Int32) (v5 : Int32) (v6 : Int32) (v7 : Int32) (zs_o : SM), K109 v4 v5 v6 v7 zs_o = some r → gW p l e rm_X12_forged s m args below meth c D A 8 (MQ below (QM D (tyL cB cI cJ cZ) (some (.int r.1)) (wX12 o cB cI cJ cZ s_o) (wX12 o cB cI cJ cZ r.2) s.heap.size) args s 0 0 A) 0 0 (wX12 o cB cI cJ cZ zs_o) [(0, .ref (o 0)), (1, .int x1), (3, .int x3), (4, .int v4), (5, .int v5), (6, .int v6), (7, .int v7)] 109 []) → ∀ (v4 : Int32) (v5 : Int32) (v6 : Int32) (v7 : Int32) (zs_o : SM) (k1 : Int32) (k3 : Int32) (k4 : Int32) (k5 : Int32), F_X12_forged_b170 x1 x2 x3 K59 K73 K97 K109 v4 v5 v6 v7 zs_o k1 k3 k4 k5 = some r → gW p l e rm_X12_forged s m args below meth c D A 8 (MQ below (QM D (tyL cB cI cJ cZ) (some (.int r.1)) (wX12 o cB cI cJ cZ s_o) (wX12 o cB cI cJ cZ r.2) s.heap.size) args s 0 0 A) 0 0 (wX12 o cB cI cJ cZ zs_o) [(0, .ref (o 0)), (1, .int x1), (3, .int x3), (4, .int v4), (5, .int v5), (6, .int v6), (7, .int v7)] 170 [.int k5, .int k4, .int k3, .ref (o 7), .int k1, .ref (o 10)] := by
    intro K59 kh59 K73 kh73 K97 kh97 K109 kh109 v4 v5 v6 v7 zs_o k1 k3 k4 k5 hf
    rw [F_X12_forged_b170] at hf
    refine g_imul cx dX12_forged_170 ?_
    refine g_iadd cx dX12_forged_171 ?_
    refine g_il cx 6 dX12_forged_172 rfl ?_
    refine g_iadd cx dX12_forged_174 ?_
    refine ml_s cx hf dX12_forged_175 (fun e_4 hf => ?_)
    exact h176 _ kh59 _ kh73 _ kh97 _ kh109 _ _ _ _ _ _ _ hf
  have h109 : ∀ (K59 : Int32 → SM → Option (Int32 × SM)), (∀ (v4 : Int32) (zs_o : SM), K59 v4 zs_o = some r → gW p l e rm_X12_forged s m args below meth c D A 8 (MQ below (QM D (tyL cB cI cJ cZ) (some (.int r.1)) (wX12 o cB cI cJ cZ s_o) (wX12 o cB cI cJ cZ r.2) s.heap.size) args s 0 0 A) 0 0 (wX12 o cB cI cJ cZ zs_o) [(0, .ref (o 0)), (1, .int x1), (3, .int x3), (4, .int v4)] 59 []) → ∀ (K73 : Int32 → Int32 → SM → Option (Int32 × SM)), (∀ (v4 : Int32) (v5 : Int32) (zs_o : SM), K73 v4 v5 zs_o = some r → gW p l e rm_X12_forged s m args below meth c D A 8 (MQ below (QM D (tyL cB cI cJ cZ) (some (.int r.1)) (wX12 o cB cI cJ cZ s_o) (wX12 o cB cI cJ cZ r.2) s.heap.size) args s 0 0 A) 0 0 (wX12 o cB cI cJ cZ zs_o) [(0, .ref (o 0)), (1, .int x1), (3, .int x3), (4, .int v4), (5, .int v5)] 73 []) → ∀ (K97 : Int32 → Int32 → Int32 → SM → Option (Int32 × SM)), (∀ (v4 : Int32) (v5 : Int32) (v6 : Int32) (zs_o : SM), K97 v4 v5 v6 zs_o = some r → gW p l e rm_X12_forged s m args below meth c D A 8 (MQ below (QM D (tyL cB cI cJ cZ) (some (.int r.1)) (wX12 o cB cI cJ cZ s_o) (wX12 o cB cI cJ cZ r.2) s.heap.size) args s 0 0 A) 0 0 (wX12 o cB cI cJ cZ zs_o) [(0, .ref (o 0)), (1, .int x1), (3, .int x3), (4, .int v4), (5, .int v5), (6, .int v6)] 97 []) → ∀ (n : Nat) (v4 : Int32) (v5 : Int32) (v6 : Int32) (v7 : Int32) (zs_o : SM), F_X12_forged_b109 x1 x2 x3 K59 K73 K97 n v4 v5 v6 v7 zs_o = some r → gW p l e rm_X12_forged s m args below meth c D A 8 (MQ below (QM D (tyL cB cI cJ cZ) (some (.int r.1)) (wX12 o cB cI cJ cZ s_o) (wX12 o cB cI cJ cZ r.2) s.heap.size) args s 0 0 A) 0 0 (wX12 o cB cI cJ cZ zs_o) [(0, .ref (o 0)), (1, .int x1), (3, .int x3), (4, .int v4), (5, .int v5), (6, .int v6), (7, .int v7)] 109 [] := by
    intro K59 kh59 K73 kh73 K97 kh97 n
    induction n with
    | zero => intro v4 v5 v6 v7 zs_o hf; rw [F_X12_forged_b109] at hf; cases hf
    | succ n ih =>
      intro v4 v5 v6 v7 zs_o hf
      rw [F_X12_forged_b109] at hf
      refine g_il cx 6 dX12_forged_109 rfl ?_
      refine g_ic cx dX12_forged_111 k_ic3 ?_
      refine g_ic_ge (tgt := 183) cx hf dX12_forged_112 rfl (fun hf => ?_) (fun hf => ?_)
      · refine g_inc cx (L2 := fun v6_5 => [(6, .int v6_5), (0, .ref (o 0)), (1, .int x1), (3, .int x3), (4, .int v4), (5, .int v5), (7, .int v7)]) 5 hf dX12_forged_183 rfl (k_inc1 _) (Nat.le_of_ble_eq_true rfl) (fun _ => rfl) (fun v6_5 hf => ?_)
        refine g_goto (tgt := 97) cx dX12_forged_186 rfl ?_
        refine g_sub [1, 2, 3, 4, 5, 0] rfl ?_
        exact kh97 _ _ _ _ hf
      · refine g_aln cx 0 dX12_forged_115 rfl ?_
        refine mg_tried cx dX12_forged_116 ?_
        refine g_ic cx dX12_forged_119 k_ic3 ?_
        refine g_il cx 5 dX12_forged_120 rfl ?_
        refine g_imul cx dX12_forged_122 ?_
        refine g_il cx 6 dX12_forged_123 rfl ?_
        refine g_iadd cx dX12_forged_125 ?_
        refine g_il cx 5 dX12_forged_126 rfl ?_
        refine g_il cx 3 dX12_forged_128 rfl ?_
        refine g_ic_ne (tgt := 148) cx hf dX12_forged_130 rfl (fun hf => ?_) (fun hf => ?_)
        · refine g_aln cx 0 dX12_forged_148 rfl ?_
          refine mg_s cx dX12_forged_149 ?_
          refine g_ic cx dX12_forged_152 k_ic1 ?_
          refine g_ic cx dX12_forged_153 k_ic3 ?_
          refine g_il cx 5 dX12_forged_154 rfl ?_
          refine g_il cx 3 dX12_forged_156 rfl ?_
          refine g_ic_ge (tgt := 166) cx hf dX12_forged_158 rfl (fun hf => ?_) (fun hf => ?_)
          · refine g_il cx 5 dX12_forged_166 rfl ?_
            refine g_ic cx dX12_forged_168 k_ic1 ?_
            refine g_isub cx dX12_forged_169 ?_
            exact h170 _ kh59 _ kh73 _ kh97 _ ih _ _ _ _ _ _ _ _ _ hf
          · refine g_il cx 5 dX12_forged_161 rfl ?_
            refine g_goto (tgt := 170) cx dX12_forged_163 rfl ?_
            exact h170 _ kh59 _ kh73 _ kh97 _ ih _ _ _ _ _ _ _ _ _ hf
        · refine g_aln cx 0 dX12_forged_133 rfl ?_
          refine mg_stock cx dX12_forged_134 ?_
          refine g_ic cx dX12_forged_137 k_ic3 ?_
          refine g_il cx 4 dX12_forged_138 rfl ?_
          refine g_imul cx dX12_forged_140 ?_
          refine g_il cx 6 dX12_forged_141 rfl ?_
          refine g_iadd cx dX12_forged_143 ?_
          refine ml_stock cx hf dX12_forged_144 (fun e_6 hf => ?_)
          refine g_goto (tgt := 176) cx dX12_forged_145 rfl ?_
          exact h176 _ kh59 _ kh73 _ kh97 _ ih _ _ _ _ _ _ _ hf
  have h211 : ∀ (K59 : Int32 → SM → Option (Int32 × SM)), (∀ (v4 : Int32) (zs_o : SM), K59 v4 zs_o = some r → gW p l e rm_X12_forged s m args below meth c D A 8 (MQ below (QM D (tyL cB cI cJ cZ) (some (.int r.1)) (wX12 o cB cI cJ cZ s_o) (wX12 o cB cI cJ cZ r.2) s.heap.size) args s 0 0 A) 0 0 (wX12 o cB cI cJ cZ zs_o) [(0, .ref (o 0)), (1, .int x1), (3, .int x3), (4, .int v4)] 59 []) → ∀ (K73 : Int32 → Int32 → SM → Option (Int32 × SM)), (∀ (v4 : Int32) (v5 : Int32) (zs_o : SM), K73 v4 v5 zs_o = some r → gW p l e rm_X12_forged s m args below meth c D A 8 (MQ below (QM D (tyL cB cI cJ cZ) (some (.int r.1)) (wX12 o cB cI cJ cZ s_o) (wX12 o cB cI cJ cZ r.2) s.heap.size) args s 0 0 A) 0 0 (wX12 o cB cI cJ cZ zs_o) [(0, .ref (o 0)), (1, .int x1), (3, .int x3), (4, .int v4), (5, .int v5)] 73 []) → ∀ (v4 : Int32) (v5 : Int32) (zs_o : SM) (k1 : Int32), F_X12_forged_b211 x1 x2 x3 K59 K73 v4 v5 zs_o k1 = some r → gW p l e rm_X12_forged s m args below meth c D A 8 (MQ below (QM D (tyL cB cI cJ cZ) (some (.int r.1)) (wX12 o cB cI cJ cZ s_o) (wX12 o cB cI cJ cZ r.2) s.heap.size) args s 0 0 A) 0 0 (wX12 o cB cI cJ cZ zs_o) [(0, .ref (o 0)), (1, .int x1), (3, .int x3), (4, .int v4), (5, .int v5)] 211 [.int k1, .ref (o 13)] := by
    intro K59 kh59 K73 kh73 v4 v5 zs_o k1 hf
    rw [F_X12_forged_b211] at hf
    refine ml_binds cx hf dX12_forged_211 (fun e_7 hf => ?_)
    refine g_if_ne (tgt := 224) cx hf dX12_forged_212 rfl (fun hf => ?_) (fun hf => ?_)
    · refine g_inc cx (L2 := fun v5_8 => [(5, .int v5_8), (0, .ref (o 0)), (1, .int x1), (3, .int x3), (4, .int v4)]) 4 hf dX12_forged_224 rfl (k_inc1 _) (Nat.le_of_ble_eq_true rfl) (fun _ => rfl) (fun v5_8 hf => ?_)
      refine g_goto (tgt := 73) cx dX12_forged_227 rfl ?_
      refine g_sub [1, 2, 3, 4, 0] rfl ?_
      exact kh73 _ _ _ hf
    · refine g_bp cx dX12_forged_215 k_bp10 ?_
      refine g_il cx 3 dX12_forged_217 rfl ?_
      refine g_imul cx dX12_forged_219 ?_
      refine g_il cx 4 dX12_forged_220 rfl ?_
      refine g_iadd cx dX12_forged_222 ?_
      exact g_iret (ovf := fun (r : Int32 × SM) => (some (.int r.1))) (wf := fun (r : Int32 × SM) => (wX12 o cB cI cJ cZ r.2)) cx hA hr hf rfl rfl dX12_forged_223
  have h97 : ∀ (K59 : Int32 → SM → Option (Int32 × SM)), (∀ (v4 : Int32) (zs_o : SM), K59 v4 zs_o = some r → gW p l e rm_X12_forged s m args below meth c D A 8 (MQ below (QM D (tyL cB cI cJ cZ) (some (.int r.1)) (wX12 o cB cI cJ cZ s_o) (wX12 o cB cI cJ cZ r.2) s.heap.size) args s 0 0 A) 0 0 (wX12 o cB cI cJ cZ zs_o) [(0, .ref (o 0)), (1, .int x1), (3, .int x3), (4, .int v4)] 59 []) → ∀ (K73 : Int32 → Int32 → SM → Option (Int32 × SM)), (∀ (v4 : Int32) (v5 : Int32) (zs_o : SM), K73 v4 v5 zs_o = some r → gW p l e rm_X12_forged s m args below meth c D A 8 (MQ below (QM D (tyL cB cI cJ cZ) (some (.int r.1)) (wX12 o cB cI cJ cZ s_o) (wX12 o cB cI cJ cZ r.2) s.heap.size) args s 0 0 A) 0 0 (wX12 o cB cI cJ cZ zs_o) [(0, .ref (o 0)), (1, .int x1), (3, .int x3), (4, .int v4), (5, .int v5)] 73 []) → ∀ (n : Nat) (v4 : Int32) (v5 : Int32) (v6 : Int32) (zs_o : SM), F_X12_forged_b97 x1 x2 x3 K59 K73 n v4 v5 v6 zs_o = some r → gW p l e rm_X12_forged s m args below meth c D A 8 (MQ below (QM D (tyL cB cI cJ cZ) (some (.int r.1)) (wX12 o cB cI cJ cZ s_o) (wX12 o cB cI cJ cZ r.2) s.heap.size) args s 0 0 A) 0 0 (wX12 o cB cI cJ cZ zs_o) [(0, .ref (o 0)), (1, .int x1), (3, .int x3), (4, .int v4), (5, .int v5), (6, .int v6)] 97 [] := by
    intro K59 kh59 K73 kh73 n
    induction n with
    | zero => intro v4 v5 v6 zs_o hf; rw [F_X12_forged_b97] at hf; cases hf
    | succ n ih =>
      intro v4 v5 v6 zs_o hf
      rw [F_X12_forged_b97] at hf
      refine g_il cx 5 dX12_forged_97 rfl ?_
      refine g_aln cx 0 dX12_forged_99 rfl ?_
      refine mg_many cx dX12_forged_100 ?_
      refine g_ic_ge (tgt := 189) cx hf dX12_forged_103 rfl (fun hf => ?_) (fun hf => ?_)
      · refine g_aln cx 0 dX12_forged_189 rfl ?_
        refine g_iln cx 1 dX12_forged_190 rfl ?_
        refine ob hf (fun q_9 hq_9 hf => ?_)
        refine g_callVFv cx lk_RX12_204 (c_X12_judges l D cB cI cJ cZ o zs_o x1 q_9 hq_9) rfl (ci := 10) (q1 := 0) rfl rfl rfl (Nat.le_of_ble_eq_true rfl) ⟨rfl, rfl, Nat.le_of_ble_eq_true rfl, Nat.le_of_ble_eq_true rfl⟩ dX12_forged_191 ?_
        refine g_aln cx 0 dX12_forged_194 rfl ?_
        refine mg_binds cx dX12_forged_195 ?_
        refine g_il cx 3 dX12_forged_198 rfl ?_
        refine g_iln cx 2 dX12_forged_200 rfl ?_
        refine g_ic_gt (tgt := 210) cx hf dX12_forged_201 rfl (fun hf => ?_) (fun hf => ?_)
        · refine g_iln cx 2 dX12_forged_210 rfl ?_
          refine g_sub [0, 1, 2, 3, 4] rfl ?_
          exact h211 _ kh59 _ kh73 _ _ _ _ hf
        · refine g_iln cx 2 dX12_forged_204 rfl ?_
          refine g_ic cx dX12_forged_205 k_ic1 ?_
          refine g_iadd cx dX12_forged_206 ?_
          refine g_goto (tgt := 211) cx dX12_forged_207 rfl ?_
          refine g_sub [0, 1, 2, 3, 4] rfl ?_
          exact h211 _ kh59 _ kh73 _ _ _ _ hf
      · refine g_ic cx dX12_forged_106 k_ic0 ?_
        refine g_is cx (L2 := fun v7_10 => [(7, .int v7_10), (0, .ref (o 0)), (1, .int x1), (3, .int x3), (4, .int v4), (5, .int v5), (6, .int v6)]) hf dX12_forged_107 (Nat.le_of_ble_eq_true rfl) (fun _ => rfl) (fun v7_10 hf => ?_)
        refine g_sub [1, 2, 3, 4, 5, 6, 0] rfl ?_
        exact h109 _ kh59 _ kh73 _ ih fu _ _ _ _ _ hf
  have h73 : ∀ (K59 : Int32 → SM → Option (Int32 × SM)), (∀ (v4 : Int32) (zs_o : SM), K59 v4 zs_o = some r → gW p l e rm_X12_forged s m args below meth c D A 8 (MQ below (QM D (tyL cB cI cJ cZ) (some (.int r.1)) (wX12 o cB cI cJ cZ s_o) (wX12 o cB cI cJ cZ r.2) s.heap.size) args s 0 0 A) 0 0 (wX12 o cB cI cJ cZ zs_o) [(0, .ref (o 0)), (1, .int x1), (3, .int x3), (4, .int v4)] 59 []) → ∀ (n : Nat) (v4 : Int32) (v5 : Int32) (zs_o : SM), F_X12_forged_b73 x1 x2 x3 K59 n v4 v5 zs_o = some r → gW p l e rm_X12_forged s m args below meth c D A 8 (MQ below (QM D (tyL cB cI cJ cZ) (some (.int r.1)) (wX12 o cB cI cJ cZ s_o) (wX12 o cB cI cJ cZ r.2) s.heap.size) args s 0 0 A) 0 0 (wX12 o cB cI cJ cZ zs_o) [(0, .ref (o 0)), (1, .int x1), (3, .int x3), (4, .int v4), (5, .int v5)] 73 [] := by
    intro K59 kh59 n
    induction n with
    | zero => intro v4 v5 zs_o hf; rw [F_X12_forged_b73] at hf; cases hf
    | succ n ih =>
      intro v4 v5 zs_o hf
      rw [F_X12_forged_b73] at hf
      refine g_il cx 4 dX12_forged_73 rfl ?_
      refine g_aln cx 0 dX12_forged_75 rfl ?_
      refine mg_stocks cx dX12_forged_76 ?_
      refine g_ic_ge (tgt := 230) cx hf dX12_forged_79 rfl (fun hf => ?_) (fun hf => ?_)
      · refine g_inc cx (L2 := fun v4_11 => [(4, .int v4_11), (0, .ref (o 0)), (1, .int x1), (3, .int x3), (5, .int v5)]) 3 hf dX12_forged_230 rfl (k_inc1 _) (Nat.le_of_ble_eq_true rfl) (fun _ => rfl) (fun v4_11 hf => ?_)
        refine g_goto (tgt := 59) cx dX12_forged_233 rfl ?_
        refine g_sub [1, 2, 3, 0] rfl ?_
        exact kh59 _ _ hf
      · refine g_aln cx 0 dX12_forged_82 rfl ?_
        refine g_aln cx 0 dX12_forged_83 rfl ?_
        refine mg_s cx dX12_forged_84 ?_
        refine g_ic cx dX12_forged_87 k_ic0 ?_
        refine ml_s cx hf dX12_forged_88 (fun e_12 hf => ?_)
        refine g_ic cx dX12_forged_89 k_ic1 ?_
        refine g_iadd cx dX12_forged_90 ?_
        refine mp_many cx hf dX12_forged_91 (fun s_o_13 hf => ?_)
        refine g_ic cx dX12_forged_94 k_ic0 ?_
        refine g_is cx (L2 := fun v6_14 => [(6, .int v6_14), (0, .ref (o 0)), (1, .int x1), (3, .int x3), (4, .int v4), (5, .int v5)]) hf dX12_forged_95 (Nat.le_of_ble_eq_true rfl) (fun _ => rfl) (fun v6_14 hf => ?_)
        refine g_sub [1, 2, 3, 4, 5, 0] rfl ?_
        exact h97 _ kh59 _ ih fu _ _ _ _ hf
  have h59 : ∀ (n : Nat) (v4 : Int32) (zs_o : SM), F_X12_forged_b59 x1 x2 x3 n v4 zs_o = some r → gW p l e rm_X12_forged s m args below meth c D A 8 (MQ below (QM D (tyL cB cI cJ cZ) (some (.int r.1)) (wX12 o cB cI cJ cZ s_o) (wX12 o cB cI cJ cZ r.2) s.heap.size) args s 0 0 A) 0 0 (wX12 o cB cI cJ cZ zs_o) [(0, .ref (o 0)), (1, .int x1), (3, .int x3), (4, .int v4)] 59 [] := by
    intro n
    induction n with
    | zero => intro v4 zs_o hf; rw [F_X12_forged_b59] at hf; cases hf
    | succ n ih =>
      intro v4 zs_o hf
      rw [F_X12_forged_b59] at hf
      refine g_il cx 3 dX12_forged_59 rfl ?_
      refine g_aln cx 0 dX12_forged_61 rfl ?_
      refine mg_s cx dX12_forged_62 ?_
      refine g_ic cx dX12_forged_65 k_ic0 ?_
      refine ml_s cx hf dX12_forged_66 (fun e_15 hf => ?_)
      refine g_ic_gt (tgt := 236) cx hf dX12_forged_67 rfl (fun hf => ?_) (fun hf => ?_)
      · refine g_bp cx dX12_forged_236 k_bpm9 ?_
        exact g_iret (ovf := fun (r : Int32 × SM) => (some (.int r.1))) (wf := fun (r : Int32 × SM) => (wX12 o cB cI cJ cZ r.2)) cx hA hr hf rfl rfl dX12_forged_238
      · refine g_ic cx dX12_forged_70 k_ic0 ?_
        refine g_is cx (L2 := fun v5_16 => [(5, .int v5_16), (0, .ref (o 0)), (1, .int x1), (3, .int x3), (4, .int v4)]) hf dX12_forged_71 (Nat.le_of_ble_eq_true rfl) (fun _ => rfl) (fun v5_16 hf => ?_)
        refine g_sub [1, 2, 3, 4, 0] rfl ?_
        exact h73 _ ih fu _ _ _ hf
  rw [F_X12_forged] at hf
  refine g_aln cx 0 dX12_forged_0 rfl ?_
  refine g_ic cx dX12_forged_1 k_ic0 ?_
  refine mp_thrown cx hf dX12_forged_2 (fun s_o_17 hf => ?_)
  refine g_aln cx 0 dX12_forged_5 rfl ?_
  refine g_iln cx 1 dX12_forged_6 rfl ?_
  refine g_iln cx 2 dX12_forged_7 rfl ?_
  refine ob hf (fun q_18 hq_18 hf => ?_)
  refine g_callVFi cx lk_RX12_178 (c_X12_isForm l D cB cI cJ cZ o s_o_17 x1 x2 q_18 hq_18) rfl (ci := 10) (q1 := 0) rfl rfl rfl (Nat.le_of_ble_eq_true rfl) ⟨rfl, rfl, Nat.le_of_ble_eq_true rfl, Nat.le_of_ble_eq_true rfl⟩ dX12_forged_8 ?_
  refine g_if_eq (tgt := 22) cx hf dX12_forged_11 rfl (fun hf => ?_) (fun hf => ?_)
  · refine g_ic cx dX12_forged_22 k_icm1 ?_
    exact g_iret (ovf := fun (r : Int32 × SM) => (some (.int r.1))) (wf := fun (r : Int32 × SM) => (wX12 o cB cI cJ cZ r.2)) cx hA hr hf rfl rfl dX12_forged_23
  · refine g_aln cx 0 dX12_forged_14 rfl ?_
    refine g_iln cx 3 dX12_forged_15 rfl ?_
    refine ob hf (fun q_19 hq_19 hf => ?_)
    refine g_callVFi cx lk_RX12_185 (c_X12_isLine l D cB cI cJ cZ o s_o_17 x3 q_19 hq_19) rfl (ci := 10) (q1 := 0) rfl rfl rfl (Nat.le_of_ble_eq_true rfl) ⟨rfl, rfl, Nat.le_of_ble_eq_true rfl, Nat.le_of_ble_eq_true rfl⟩ dX12_forged_16 ?_
    refine g_if_ne (tgt := 24) cx hf dX12_forged_19 rfl (fun hf => ?_) (fun hf => ?_)
    · refine g_aln cx 0 dX12_forged_24 rfl ?_
      refine g_iln cx 1 dX12_forged_25 rfl ?_
      refine g_iln cx 2 dX12_forged_26 rfl ?_
      refine ob hf (fun q_20 hq_20 hf => ?_)
      refine g_callVFv cx lk_RX12_210 (c_X12_judgesPaper l D cB cI cJ cZ o s_o_17 x1 x2 q_20 hq_20) rfl (ci := 10) (q1 := 0) rfl rfl rfl (Nat.le_of_ble_eq_true rfl) ⟨rfl, rfl, Nat.le_of_ble_eq_true rfl, Nat.le_of_ble_eq_true rfl⟩ dX12_forged_27 ?_
      refine g_aln cx 0 dX12_forged_30 rfl ?_
      refine mg_binds cx dX12_forged_31 ?_
      refine g_iln cx 3 dX12_forged_34 rfl ?_
      refine ml_binds cx hf dX12_forged_35 (fun e_21 hf => ?_)
      refine g_if_ne (tgt := 42) cx hf dX12_forged_36 rfl (fun hf => ?_) (fun hf => ?_)
      · refine g_aln cx 0 dX12_forged_42 rfl ?_
        refine mg_s cx dX12_forged_43 ?_
        refine g_ic cx dX12_forged_46 k_ic0 ?_
        refine ml_s cx hf dX12_forged_47 (fun e_22 hf => ?_)
        refine g_bp cx dX12_forged_48 k_bp8 ?_
        refine g_ic_ne (tgt := 56) cx hf dX12_forged_50 rfl (fun hf => ?_) (fun hf => ?_)
        · refine g_ic cx dX12_forged_56 k_ic0 ?_
          refine g_is cx (L2 := fun v4_23 => [(4, .int v4_23), (0, .ref (o 0)), (1, .int x1), (2, .int x2), (3, .int x3)]) hf dX12_forged_57 (Nat.le_of_ble_eq_true rfl) (fun _ => rfl) (fun v4_23 hf => ?_)
          refine g_sub [1, 2, 4, 0] rfl ?_
          exact h59 fu _ _ hf
        · refine g_bp cx dX12_forged_53 k_bpm3 ?_
          exact g_iret (ovf := fun (r : Int32 × SM) => (some (.int r.1))) (wf := fun (r : Int32 × SM) => (wX12 o cB cI cJ cZ r.2)) cx hA hr hf rfl rfl dX12_forged_55
      · refine g_bp cx dX12_forged_39 k_bpm2 ?_
        exact g_iret (ovf := fun (r : Int32 × SM) => (some (.int r.1))) (wf := fun (r : Int32 × SM) => (wX12 o cB cI cJ cZ r.2)) cx hA hr hf rfl rfl dX12_forged_41
    · refine g_ic cx dX12_forged_22 k_icm1 ?_
      exact g_iret (ovf := fun (r : Int32 × SM) => (some (.int r.1))) (wf := fun (r : Int32 × SM) => (wX12 o cB cI cJ cZ r.2)) cx hA hr hf rfl rfl dX12_forged_23
def tX12_waysOf_15 : List Nat := 5 :: 132 :: 7 :: 1 :: 167 :: 255 :: 226 :: 22 :: 5 :: 173 :: []
def tX12_waysOf_14 : List Nat := 4 :: 4 :: 164 :: 0 :: 21 :: 22 :: 5 :: 42 :: 180 :: 0 :: 65 :: 21 :: 7 :: 47 :: 97 :: 55 :: tX12_waysOf_15
def tX12_waysOf_13 : List Nat := 9 :: 55 :: 5 :: 3 :: 54 :: 7 :: 21 :: 7 :: 42 :: 180 :: 0 :: 166 :: 162 :: 0 :: 27 :: 21 :: tX12_waysOf_14
def tX12_waysOf_12 : List Nat := 80 :: 132 :: 8 :: 1 :: 167 :: 255 :: 230 :: 132 :: 4 :: 1 :: 132 :: 5 :: 1 :: 167 :: 255 :: 57 :: tX12_waysOf_13
def tX12_waysOf_11 : List Nat := 162 :: 0 :: 23 :: 42 :: 180 :: 0 :: 65 :: 21 :: 8 :: 42 :: 180 :: 0 :: 69 :: 21 :: 8 :: 47 :: tX12_waysOf_12
def tX12_waysOf_10 : List Nat := 80 :: 132 :: 8 :: 1 :: 167 :: 255 :: 163 :: 3 :: 54 :: 8 :: 21 :: 8 :: 42 :: 180 :: 0 :: 166 :: tX12_waysOf_11
def tX12_waysOf_9 : List Nat := 0 :: 7 :: 10 :: 167 :: 0 :: 13 :: 22 :: 6 :: 42 :: 180 :: 0 :: 65 :: 21 :: 8 :: 47 :: 101 :: tX12_waysOf_10
def tX12_waysOf_8 : List Nat := 0 :: 69 :: 21 :: 8 :: 21 :: 9 :: 154 :: 0 :: 7 :: 9 :: 167 :: 0 :: 22 :: 21 :: 4 :: 154 :: tX12_waysOf_9
def tX12_waysOf_7 : List Nat := 8 :: 182 :: 0 :: 191 :: 153 :: 0 :: 7 :: 4 :: 167 :: 0 :: 4 :: 3 :: 54 :: 9 :: 42 :: 180 :: tX12_waysOf_8
def tX12_waysOf_6 : List Nat := 42 :: 180 :: 0 :: 56 :: 21 :: 8 :: 46 :: 29 :: 160 :: 0 :: 19 :: 42 :: 27 :: 21 :: 5 :: 21 :: tX12_waysOf_7
def tX12_waysOf_5 : List Nat := 42 :: 180 :: 0 :: 59 :: 21 :: 5 :: 46 :: 21 :: 8 :: 122 :: 4 :: 126 :: 4 :: 160 :: 0 :: 30 :: tX12_waysOf_6
def tX12_waysOf_4 : List Nat := 1 :: 167 :: 255 :: 223 :: 3 :: 54 :: 8 :: 21 :: 8 :: 42 :: 180 :: 0 :: 166 :: 162 :: 0 :: 90 :: tX12_waysOf_5
def tX12_waysOf_3 : List Nat := 9 :: 167 :: 0 :: 10 :: 42 :: 180 :: 0 :: 65 :: 21 :: 8 :: 47 :: 97 :: 55 :: 6 :: 132 :: 8 :: tX12_waysOf_4
def tX12_waysOf_2 : List Nat := 21 :: 8 :: 42 :: 180 :: 0 :: 166 :: 162 :: 0 :: 30 :: 22 :: 6 :: 21 :: 4 :: 154 :: 0 :: 7 :: tX12_waysOf_3
def tX12_waysOf_1 : List Nat := 27 :: 21 :: 5 :: 182 :: 0 :: 182 :: 28 :: 160 :: 0 :: 179 :: 9 :: 55 :: 6 :: 3 :: 54 :: 8 :: tX12_waysOf_2
def tX12_waysOf_0 : List Nat := 3 :: 54 :: 4 :: 3 :: 54 :: 5 :: 21 :: 5 :: 42 :: 180 :: 0 :: 188 :: 162 :: 0 :: 196 :: 42 :: tX12_waysOf_1
theorem tX12_waysOff_0 : (cX12_waysOf.data.toList.map UInt8.toNat).drop 0 = tX12_waysOf_0 := by decide +kernel
theorem tX12_waysOff_1 : (cX12_waysOf.data.toList.map UInt8.toNat).drop 16 = tX12_waysOf_1 := fd_next (k := 0) tX12_waysOff_0 rfl
theorem tX12_waysOff_2 : (cX12_waysOf.data.toList.map UInt8.toNat).drop 32 = tX12_waysOf_2 := fd_next (k := 16) tX12_waysOff_1 rfl
theorem tX12_waysOff_3 : (cX12_waysOf.data.toList.map UInt8.toNat).drop 48 = tX12_waysOf_3 := fd_next (k := 32) tX12_waysOff_2 rfl
theorem tX12_waysOff_4 : (cX12_waysOf.data.toList.map UInt8.toNat).drop 64 = tX12_waysOf_4 := fd_next (k := 48) tX12_waysOff_3 rfl
theorem tX12_waysOff_5 : (cX12_waysOf.data.toList.map UInt8.toNat).drop 80 = tX12_waysOf_5 := fd_next (k := 64) tX12_waysOff_4 rfl
theorem tX12_waysOff_6 : (cX12_waysOf.data.toList.map UInt8.toNat).drop 96 = tX12_waysOf_6 := fd_next (k := 80) tX12_waysOff_5 rfl
theorem tX12_waysOff_7 : (cX12_waysOf.data.toList.map UInt8.toNat).drop 112 = tX12_waysOf_7 := fd_next (k := 96) tX12_waysOff_6 rfl
theorem tX12_waysOff_8 : (cX12_waysOf.data.toList.map UInt8.toNat).drop 128 = tX12_waysOf_8 := fd_next (k := 112) tX12_waysOff_7 rfl
theorem tX12_waysOff_9 : (cX12_waysOf.data.toList.map UInt8.toNat).drop 144 = tX12_waysOf_9 := fd_next (k := 128) tX12_waysOff_8 rfl
theorem tX12_waysOff_10 : (cX12_waysOf.data.toList.map UInt8.toNat).drop 160 = tX12_waysOf_10 := fd_next (k := 144) tX12_waysOff_9 rfl
theorem tX12_waysOff_11 : (cX12_waysOf.data.toList.map UInt8.toNat).drop 176 = tX12_waysOf_11 := fd_next (k := 160) tX12_waysOff_10 rfl
theorem tX12_waysOff_12 : (cX12_waysOf.data.toList.map UInt8.toNat).drop 192 = tX12_waysOf_12 := fd_next (k := 176) tX12_waysOff_11 rfl
theorem tX12_waysOff_13 : (cX12_waysOf.data.toList.map UInt8.toNat).drop 208 = tX12_waysOf_13 := fd_next (k := 192) tX12_waysOff_12 rfl
theorem tX12_waysOff_14 : (cX12_waysOf.data.toList.map UInt8.toNat).drop 224 = tX12_waysOf_14 := fd_next (k := 208) tX12_waysOff_13 rfl
theorem tX12_waysOff_15 : (cX12_waysOf.data.toList.map UInt8.toNat).drop 240 = tX12_waysOf_15 := fd_next (k := 224) tX12_waysOff_14 rfl
theorem dX12_waysOf_0 : decode cX12_waysOf 0 = .ok (.iconst 0, 1) := dk_3 (fdB_of (k := 0) tX12_waysOff_0 0 3 rfl)
theorem dX12_waysOf_1 : decode cX12_waysOf 1 = .ok (.istore 4, 2) := dk_54 (fdB_of (k := 0) tX12_waysOff_0 1 54 rfl) (fdB_of (k := 0) tX12_waysOff_0 2 4 rfl)
theorem dX12_waysOf_3 : decode cX12_waysOf 3 = .ok (.iconst 0, 1) := dk_3 (fdB_of (k := 0) tX12_waysOff_0 3 3 rfl)
theorem dX12_waysOf_4 : decode cX12_waysOf 4 = .ok (.istore 5, 2) := dk_54 (fdB_of (k := 0) tX12_waysOff_0 4 54 rfl) (fdB_of (k := 0) tX12_waysOff_0 5 5 rfl)
theorem dX12_waysOf_6 : decode cX12_waysOf 6 = .ok (.iload 5, 2) := dk_21 (fdB_of (k := 0) tX12_waysOff_0 6 21 rfl) (fdB_of (k := 0) tX12_waysOff_0 7 5 rfl)
theorem dX12_waysOf_8 : decode cX12_waysOf 8 = .ok (.aload_n 0, 1) := dk_42 (fdB_of (k := 0) tX12_waysOff_0 8 42 rfl)
theorem dX12_waysOf_9 : decode cX12_waysOf 9 = .ok (.getfield 188, 3) := dk_180 (fdB_of (k := 0) tX12_waysOff_0 9 180 rfl) (fdB_of (k := 0) tX12_waysOff_0 10 0 rfl) (fdB_of (k := 0) tX12_waysOff_0 11 188 rfl)
theorem dX12_waysOf_12 : decode cX12_waysOf 12 = .ok (.if_icmp .ge 196, 3) := dk_162 (fdB_of (k := 0) tX12_waysOff_0 12 162 rfl) (fdB_of (k := 0) tX12_waysOff_0 13 0 rfl) (fdB_of (k := 0) tX12_waysOff_0 14 196 rfl) (by decide +kernel)
theorem dX12_waysOf_15 : decode cX12_waysOf 15 = .ok (.aload_n 0, 1) := dk_42 (fdB_of (k := 0) tX12_waysOff_0 15 42 rfl)
theorem dX12_waysOf_16 : decode cX12_waysOf 16 = .ok (.iload_n 1, 1) := dk_27 (fdB_of (k := 16) tX12_waysOff_1 0 27 rfl)
theorem dX12_waysOf_17 : decode cX12_waysOf 17 = .ok (.iload 5, 2) := dk_21 (fdB_of (k := 16) tX12_waysOff_1 1 21 rfl) (fdB_of (k := 16) tX12_waysOff_1 2 5 rfl)
theorem dX12_waysOf_19 : decode cX12_waysOf 19 = .ok (.invokevirtual 182, 3) := dk_182 (fdB_of (k := 16) tX12_waysOff_1 3 182 rfl) (fdB_of (k := 16) tX12_waysOff_1 4 0 rfl) (fdB_of (k := 16) tX12_waysOff_1 5 182 rfl)
theorem dX12_waysOf_22 : decode cX12_waysOf 22 = .ok (.iload_n 2, 1) := dk_28 (fdB_of (k := 16) tX12_waysOff_1 6 28 rfl)
theorem dX12_waysOf_23 : decode cX12_waysOf 23 = .ok (.if_icmp .ne 179, 3) := dk_160 (fdB_of (k := 16) tX12_waysOff_1 7 160 rfl) (fdB_of (k := 16) tX12_waysOff_1 8 0 rfl) (fdB_of (k := 16) tX12_waysOff_1 9 179 rfl) (by decide +kernel)
theorem dX12_waysOf_26 : decode cX12_waysOf 26 = .ok (.lconst 0, 1) := dk_9 (fdB_of (k := 16) tX12_waysOff_1 10 9 rfl)
theorem dX12_waysOf_27 : decode cX12_waysOf 27 = .ok (.lstore 6, 2) := dk_55 (fdB_of (k := 16) tX12_waysOff_1 11 55 rfl) (fdB_of (k := 16) tX12_waysOff_1 12 6 rfl)
theorem dX12_waysOf_29 : decode cX12_waysOf 29 = .ok (.iconst 0, 1) := dk_3 (fdB_of (k := 16) tX12_waysOff_1 13 3 rfl)
theorem dX12_waysOf_30 : decode cX12_waysOf 30 = .ok (.istore 8, 2) := dk_54 (fdB_of (k := 16) tX12_waysOff_1 14 54 rfl) (fdB_of (k := 16) tX12_waysOff_1 15 8 rfl)
theorem dX12_waysOf_32 : decode cX12_waysOf 32 = .ok (.iload 8, 2) := dk_21 (fdB_of (k := 32) tX12_waysOff_2 0 21 rfl) (fdB_of (k := 32) tX12_waysOff_2 1 8 rfl)
theorem dX12_waysOf_34 : decode cX12_waysOf 34 = .ok (.aload_n 0, 1) := dk_42 (fdB_of (k := 32) tX12_waysOff_2 2 42 rfl)
theorem dX12_waysOf_35 : decode cX12_waysOf 35 = .ok (.getfield 166, 3) := dk_180 (fdB_of (k := 32) tX12_waysOff_2 3 180 rfl) (fdB_of (k := 32) tX12_waysOff_2 4 0 rfl) (fdB_of (k := 32) tX12_waysOff_2 5 166 rfl)
theorem dX12_waysOf_38 : decode cX12_waysOf 38 = .ok (.if_icmp .ge 30, 3) := dk_162 (fdB_of (k := 32) tX12_waysOff_2 6 162 rfl) (fdB_of (k := 32) tX12_waysOff_2 7 0 rfl) (fdB_of (k := 32) tX12_waysOff_2 8 30 rfl) (by decide +kernel)
theorem dX12_waysOf_41 : decode cX12_waysOf 41 = .ok (.lload 6, 2) := dk_22 (fdB_of (k := 32) tX12_waysOff_2 9 22 rfl) (fdB_of (k := 32) tX12_waysOff_2 10 6 rfl)
theorem dX12_waysOf_43 : decode cX12_waysOf 43 = .ok (.iload 4, 2) := dk_21 (fdB_of (k := 32) tX12_waysOff_2 11 21 rfl) (fdB_of (k := 32) tX12_waysOff_2 12 4 rfl)
theorem dX12_waysOf_45 : decode cX12_waysOf 45 = .ok (.ifCond .ne 7, 3) := dk_154 (fdB_of (k := 32) tX12_waysOff_2 13 154 rfl) (fdB_of (k := 32) tX12_waysOff_2 14 0 rfl) (fdB_of (k := 32) tX12_waysOff_2 15 7 rfl) (by decide +kernel)
theorem dX12_waysOf_48 : decode cX12_waysOf 48 = .ok (.lconst 0, 1) := dk_9 (fdB_of (k := 48) tX12_waysOff_3 0 9 rfl)
theorem dX12_waysOf_49 : decode cX12_waysOf 49 = .ok (.goto 10, 3) := dk_167 (fdB_of (k := 48) tX12_waysOff_3 1 167 rfl) (fdB_of (k := 48) tX12_waysOff_3 2 0 rfl) (fdB_of (k := 48) tX12_waysOff_3 3 10 rfl) (by decide +kernel)
theorem dX12_waysOf_52 : decode cX12_waysOf 52 = .ok (.aload_n 0, 1) := dk_42 (fdB_of (k := 48) tX12_waysOff_3 4 42 rfl)
theorem dX12_waysOf_53 : decode cX12_waysOf 53 = .ok (.getfield 65, 3) := dk_180 (fdB_of (k := 48) tX12_waysOff_3 5 180 rfl) (fdB_of (k := 48) tX12_waysOff_3 6 0 rfl) (fdB_of (k := 48) tX12_waysOff_3 7 65 rfl)
theorem dX12_waysOf_56 : decode cX12_waysOf 56 = .ok (.iload 8, 2) := dk_21 (fdB_of (k := 48) tX12_waysOff_3 8 21 rfl) (fdB_of (k := 48) tX12_waysOff_3 9 8 rfl)
theorem dX12_waysOf_58 : decode cX12_waysOf 58 = .ok (.laload, 1) := dk_47 (fdB_of (k := 48) tX12_waysOff_3 10 47 rfl)
theorem dX12_waysOf_59 : decode cX12_waysOf 59 = .ok (.ladd, 1) := dk_97 (fdB_of (k := 48) tX12_waysOff_3 11 97 rfl)
theorem dX12_waysOf_60 : decode cX12_waysOf 60 = .ok (.lstore 6, 2) := dk_55 (fdB_of (k := 48) tX12_waysOff_3 12 55 rfl) (fdB_of (k := 48) tX12_waysOff_3 13 6 rfl)
theorem dX12_waysOf_62 : decode cX12_waysOf 62 = .ok (.iinc 8 1, 3) := dk_132 (fdB_of (k := 48) tX12_waysOff_3 14 132 rfl) (fdB_of (k := 48) tX12_waysOff_3 15 8 rfl) (fdB_of (k := 64) tX12_waysOff_4 0 1 rfl) (by decide +kernel)
theorem dX12_waysOf_65 : decode cX12_waysOf 65 = .ok (.goto (-33), 3) := dk_167 (fdB_of (k := 64) tX12_waysOff_4 1 167 rfl) (fdB_of (k := 64) tX12_waysOff_4 2 255 rfl) (fdB_of (k := 64) tX12_waysOff_4 3 223 rfl) (by decide +kernel)
theorem dX12_waysOf_68 : decode cX12_waysOf 68 = .ok (.iconst 0, 1) := dk_3 (fdB_of (k := 64) tX12_waysOff_4 4 3 rfl)
theorem dX12_waysOf_69 : decode cX12_waysOf 69 = .ok (.istore 8, 2) := dk_54 (fdB_of (k := 64) tX12_waysOff_4 5 54 rfl) (fdB_of (k := 64) tX12_waysOff_4 6 8 rfl)
theorem dX12_waysOf_71 : decode cX12_waysOf 71 = .ok (.iload 8, 2) := dk_21 (fdB_of (k := 64) tX12_waysOff_4 7 21 rfl) (fdB_of (k := 64) tX12_waysOff_4 8 8 rfl)
theorem dX12_waysOf_73 : decode cX12_waysOf 73 = .ok (.aload_n 0, 1) := dk_42 (fdB_of (k := 64) tX12_waysOff_4 9 42 rfl)
theorem dX12_waysOf_74 : decode cX12_waysOf 74 = .ok (.getfield 166, 3) := dk_180 (fdB_of (k := 64) tX12_waysOff_4 10 180 rfl) (fdB_of (k := 64) tX12_waysOff_4 11 0 rfl) (fdB_of (k := 64) tX12_waysOff_4 12 166 rfl)
theorem dX12_waysOf_77 : decode cX12_waysOf 77 = .ok (.if_icmp .ge 90, 3) := dk_162 (fdB_of (k := 64) tX12_waysOff_4 13 162 rfl) (fdB_of (k := 64) tX12_waysOff_4 14 0 rfl) (fdB_of (k := 64) tX12_waysOff_4 15 90 rfl) (by decide +kernel)
theorem dX12_waysOf_80 : decode cX12_waysOf 80 = .ok (.aload_n 0, 1) := dk_42 (fdB_of (k := 80) tX12_waysOff_5 0 42 rfl)
theorem dX12_waysOf_81 : decode cX12_waysOf 81 = .ok (.getfield 59, 3) := dk_180 (fdB_of (k := 80) tX12_waysOff_5 1 180 rfl) (fdB_of (k := 80) tX12_waysOff_5 2 0 rfl) (fdB_of (k := 80) tX12_waysOff_5 3 59 rfl)
theorem dX12_waysOf_84 : decode cX12_waysOf 84 = .ok (.iload 5, 2) := dk_21 (fdB_of (k := 80) tX12_waysOff_5 4 21 rfl) (fdB_of (k := 80) tX12_waysOff_5 5 5 rfl)
theorem dX12_waysOf_86 : decode cX12_waysOf 86 = .ok (.iaload, 1) := dk_46 (fdB_of (k := 80) tX12_waysOff_5 6 46 rfl)
theorem dX12_waysOf_87 : decode cX12_waysOf 87 = .ok (.iload 8, 2) := dk_21 (fdB_of (k := 80) tX12_waysOff_5 7 21 rfl) (fdB_of (k := 80) tX12_waysOff_5 8 8 rfl)
theorem dX12_waysOf_89 : decode cX12_waysOf 89 = .ok (.ishr, 1) := dk_122 (fdB_of (k := 80) tX12_waysOff_5 9 122 rfl)
theorem dX12_waysOf_90 : decode cX12_waysOf 90 = .ok (.iconst 1, 1) := dk_4 (fdB_of (k := 80) tX12_waysOff_5 10 4 rfl)
theorem dX12_waysOf_91 : decode cX12_waysOf 91 = .ok (.iand, 1) := dk_126 (fdB_of (k := 80) tX12_waysOff_5 11 126 rfl)
theorem dX12_waysOf_92 : decode cX12_waysOf 92 = .ok (.iconst 1, 1) := dk_4 (fdB_of (k := 80) tX12_waysOff_5 12 4 rfl)
theorem dX12_waysOf_93 : decode cX12_waysOf 93 = .ok (.if_icmp .ne 30, 3) := dk_160 (fdB_of (k := 80) tX12_waysOff_5 13 160 rfl) (fdB_of (k := 80) tX12_waysOff_5 14 0 rfl) (fdB_of (k := 80) tX12_waysOff_5 15 30 rfl) (by decide +kernel)
theorem dX12_waysOf_96 : decode cX12_waysOf 96 = .ok (.aload_n 0, 1) := dk_42 (fdB_of (k := 96) tX12_waysOff_6 0 42 rfl)
theorem dX12_waysOf_97 : decode cX12_waysOf 97 = .ok (.getfield 56, 3) := dk_180 (fdB_of (k := 96) tX12_waysOff_6 1 180 rfl) (fdB_of (k := 96) tX12_waysOff_6 2 0 rfl) (fdB_of (k := 96) tX12_waysOff_6 3 56 rfl)
theorem dX12_waysOf_100 : decode cX12_waysOf 100 = .ok (.iload 8, 2) := dk_21 (fdB_of (k := 96) tX12_waysOff_6 4 21 rfl) (fdB_of (k := 96) tX12_waysOff_6 5 8 rfl)
theorem dX12_waysOf_102 : decode cX12_waysOf 102 = .ok (.iaload, 1) := dk_46 (fdB_of (k := 96) tX12_waysOff_6 6 46 rfl)
theorem dX12_waysOf_103 : decode cX12_waysOf 103 = .ok (.iload_n 3, 1) := dk_29 (fdB_of (k := 96) tX12_waysOff_6 7 29 rfl)
theorem dX12_waysOf_104 : decode cX12_waysOf 104 = .ok (.if_icmp .ne 19, 3) := dk_160 (fdB_of (k := 96) tX12_waysOff_6 8 160 rfl) (fdB_of (k := 96) tX12_waysOff_6 9 0 rfl) (fdB_of (k := 96) tX12_waysOff_6 10 19 rfl) (by decide +kernel)
theorem dX12_waysOf_107 : decode cX12_waysOf 107 = .ok (.aload_n 0, 1) := dk_42 (fdB_of (k := 96) tX12_waysOff_6 11 42 rfl)
theorem dX12_waysOf_108 : decode cX12_waysOf 108 = .ok (.iload_n 1, 1) := dk_27 (fdB_of (k := 96) tX12_waysOff_6 12 27 rfl)
theorem dX12_waysOf_109 : decode cX12_waysOf 109 = .ok (.iload 5, 2) := dk_21 (fdB_of (k := 96) tX12_waysOff_6 13 21 rfl) (fdB_of (k := 96) tX12_waysOff_6 14 5 rfl)
theorem dX12_waysOf_111 : decode cX12_waysOf 111 = .ok (.iload 8, 2) := dk_21 (fdB_of (k := 96) tX12_waysOff_6 15 21 rfl) (fdB_of (k := 112) tX12_waysOff_7 0 8 rfl)
theorem dX12_waysOf_113 : decode cX12_waysOf 113 = .ok (.invokevirtual 191, 3) := dk_182 (fdB_of (k := 112) tX12_waysOff_7 1 182 rfl) (fdB_of (k := 112) tX12_waysOff_7 2 0 rfl) (fdB_of (k := 112) tX12_waysOff_7 3 191 rfl)
theorem dX12_waysOf_116 : decode cX12_waysOf 116 = .ok (.ifCond .eq 7, 3) := dk_153 (fdB_of (k := 112) tX12_waysOff_7 4 153 rfl) (fdB_of (k := 112) tX12_waysOff_7 5 0 rfl) (fdB_of (k := 112) tX12_waysOff_7 6 7 rfl) (by decide +kernel)
theorem dX12_waysOf_119 : decode cX12_waysOf 119 = .ok (.iconst 1, 1) := dk_4 (fdB_of (k := 112) tX12_waysOff_7 7 4 rfl)
theorem dX12_waysOf_120 : decode cX12_waysOf 120 = .ok (.goto 4, 3) := dk_167 (fdB_of (k := 112) tX12_waysOff_7 8 167 rfl) (fdB_of (k := 112) tX12_waysOff_7 9 0 rfl) (fdB_of (k := 112) tX12_waysOff_7 10 4 rfl) (by decide +kernel)
theorem dX12_waysOf_123 : decode cX12_waysOf 123 = .ok (.iconst 0, 1) := dk_3 (fdB_of (k := 112) tX12_waysOff_7 11 3 rfl)
theorem dX12_waysOf_124 : decode cX12_waysOf 124 = .ok (.istore 9, 2) := dk_54 (fdB_of (k := 112) tX12_waysOff_7 12 54 rfl) (fdB_of (k := 112) tX12_waysOff_7 13 9 rfl)
theorem dX12_waysOf_126 : decode cX12_waysOf 126 = .ok (.aload_n 0, 1) := dk_42 (fdB_of (k := 112) tX12_waysOff_7 14 42 rfl)
theorem dX12_waysOf_127 : decode cX12_waysOf 127 = .ok (.getfield 69, 3) := dk_180 (fdB_of (k := 112) tX12_waysOff_7 15 180 rfl) (fdB_of (k := 128) tX12_waysOff_8 0 0 rfl) (fdB_of (k := 128) tX12_waysOff_8 1 69 rfl)
theorem dX12_waysOf_130 : decode cX12_waysOf 130 = .ok (.iload 8, 2) := dk_21 (fdB_of (k := 128) tX12_waysOff_8 2 21 rfl) (fdB_of (k := 128) tX12_waysOff_8 3 8 rfl)
theorem dX12_waysOf_132 : decode cX12_waysOf 132 = .ok (.iload 9, 2) := dk_21 (fdB_of (k := 128) tX12_waysOff_8 4 21 rfl) (fdB_of (k := 128) tX12_waysOff_8 5 9 rfl)
theorem dX12_waysOf_134 : decode cX12_waysOf 134 = .ok (.ifCond .ne 7, 3) := dk_154 (fdB_of (k := 128) tX12_waysOff_8 6 154 rfl) (fdB_of (k := 128) tX12_waysOff_8 7 0 rfl) (fdB_of (k := 128) tX12_waysOff_8 8 7 rfl) (by decide +kernel)
theorem dX12_waysOf_137 : decode cX12_waysOf 137 = .ok (.lconst 0, 1) := dk_9 (fdB_of (k := 128) tX12_waysOff_8 9 9 rfl)
theorem dX12_waysOf_138 : decode cX12_waysOf 138 = .ok (.goto 22, 3) := dk_167 (fdB_of (k := 128) tX12_waysOff_8 10 167 rfl) (fdB_of (k := 128) tX12_waysOff_8 11 0 rfl) (fdB_of (k := 128) tX12_waysOff_8 12 22 rfl) (by decide +kernel)
theorem dX12_waysOf_141 : decode cX12_waysOf 141 = .ok (.iload 4, 2) := dk_21 (fdB_of (k := 128) tX12_waysOff_8 13 21 rfl) (fdB_of (k := 128) tX12_waysOff_8 14 4 rfl)
theorem dX12_waysOf_143 : decode cX12_waysOf 143 = .ok (.ifCond .ne 7, 3) := dk_154 (fdB_of (k := 128) tX12_waysOff_8 15 154 rfl) (fdB_of (k := 144) tX12_waysOff_9 0 0 rfl) (fdB_of (k := 144) tX12_waysOff_9 1 7 rfl) (by decide +kernel)
theorem dX12_waysOf_146 : decode cX12_waysOf 146 = .ok (.lconst 1, 1) := dk_10 (fdB_of (k := 144) tX12_waysOff_9 2 10 rfl)
theorem dX12_waysOf_147 : decode cX12_waysOf 147 = .ok (.goto 13, 3) := dk_167 (fdB_of (k := 144) tX12_waysOff_9 3 167 rfl) (fdB_of (k := 144) tX12_waysOff_9 4 0 rfl) (fdB_of (k := 144) tX12_waysOff_9 5 13 rfl) (by decide +kernel)
theorem dX12_waysOf_150 : decode cX12_waysOf 150 = .ok (.lload 6, 2) := dk_22 (fdB_of (k := 144) tX12_waysOff_9 6 22 rfl) (fdB_of (k := 144) tX12_waysOff_9 7 6 rfl)
theorem dX12_waysOf_152 : decode cX12_waysOf 152 = .ok (.aload_n 0, 1) := dk_42 (fdB_of (k := 144) tX12_waysOff_9 8 42 rfl)
theorem dX12_waysOf_153 : decode cX12_waysOf 153 = .ok (.getfield 65, 3) := dk_180 (fdB_of (k := 144) tX12_waysOff_9 9 180 rfl) (fdB_of (k := 144) tX12_waysOff_9 10 0 rfl) (fdB_of (k := 144) tX12_waysOff_9 11 65 rfl)
theorem dX12_waysOf_156 : decode cX12_waysOf 156 = .ok (.iload 8, 2) := dk_21 (fdB_of (k := 144) tX12_waysOff_9 12 21 rfl) (fdB_of (k := 144) tX12_waysOff_9 13 8 rfl)
theorem dX12_waysOf_158 : decode cX12_waysOf 158 = .ok (.laload, 1) := dk_47 (fdB_of (k := 144) tX12_waysOff_9 14 47 rfl)
theorem dX12_waysOf_159 : decode cX12_waysOf 159 = .ok (.lsub, 1) := dk_101 (fdB_of (k := 144) tX12_waysOff_9 15 101 rfl)
theorem dX12_waysOf_160 : decode cX12_waysOf 160 = .ok (.lastore, 1) := dk_80 (fdB_of (k := 160) tX12_waysOff_10 0 80 rfl)
theorem dX12_waysOf_161 : decode cX12_waysOf 161 = .ok (.iinc 8 1, 3) := dk_132 (fdB_of (k := 160) tX12_waysOff_10 1 132 rfl) (fdB_of (k := 160) tX12_waysOff_10 2 8 rfl) (fdB_of (k := 160) tX12_waysOff_10 3 1 rfl) (by decide +kernel)
theorem dX12_waysOf_164 : decode cX12_waysOf 164 = .ok (.goto (-93), 3) := dk_167 (fdB_of (k := 160) tX12_waysOff_10 4 167 rfl) (fdB_of (k := 160) tX12_waysOff_10 5 255 rfl) (fdB_of (k := 160) tX12_waysOff_10 6 163 rfl) (by decide +kernel)
theorem dX12_waysOf_167 : decode cX12_waysOf 167 = .ok (.iconst 0, 1) := dk_3 (fdB_of (k := 160) tX12_waysOff_10 7 3 rfl)
theorem dX12_waysOf_168 : decode cX12_waysOf 168 = .ok (.istore 8, 2) := dk_54 (fdB_of (k := 160) tX12_waysOff_10 8 54 rfl) (fdB_of (k := 160) tX12_waysOff_10 9 8 rfl)
theorem dX12_waysOf_170 : decode cX12_waysOf 170 = .ok (.iload 8, 2) := dk_21 (fdB_of (k := 160) tX12_waysOff_10 10 21 rfl) (fdB_of (k := 160) tX12_waysOff_10 11 8 rfl)
theorem dX12_waysOf_172 : decode cX12_waysOf 172 = .ok (.aload_n 0, 1) := dk_42 (fdB_of (k := 160) tX12_waysOff_10 12 42 rfl)
theorem dX12_waysOf_173 : decode cX12_waysOf 173 = .ok (.getfield 166, 3) := dk_180 (fdB_of (k := 160) tX12_waysOff_10 13 180 rfl) (fdB_of (k := 160) tX12_waysOff_10 14 0 rfl) (fdB_of (k := 160) tX12_waysOff_10 15 166 rfl)
theorem dX12_waysOf_176 : decode cX12_waysOf 176 = .ok (.if_icmp .ge 23, 3) := dk_162 (fdB_of (k := 176) tX12_waysOff_11 0 162 rfl) (fdB_of (k := 176) tX12_waysOff_11 1 0 rfl) (fdB_of (k := 176) tX12_waysOff_11 2 23 rfl) (by decide +kernel)
theorem dX12_waysOf_179 : decode cX12_waysOf 179 = .ok (.aload_n 0, 1) := dk_42 (fdB_of (k := 176) tX12_waysOff_11 3 42 rfl)
theorem dX12_waysOf_180 : decode cX12_waysOf 180 = .ok (.getfield 65, 3) := dk_180 (fdB_of (k := 176) tX12_waysOff_11 4 180 rfl) (fdB_of (k := 176) tX12_waysOff_11 5 0 rfl) (fdB_of (k := 176) tX12_waysOff_11 6 65 rfl)
theorem dX12_waysOf_183 : decode cX12_waysOf 183 = .ok (.iload 8, 2) := dk_21 (fdB_of (k := 176) tX12_waysOff_11 7 21 rfl) (fdB_of (k := 176) tX12_waysOff_11 8 8 rfl)
theorem dX12_waysOf_185 : decode cX12_waysOf 185 = .ok (.aload_n 0, 1) := dk_42 (fdB_of (k := 176) tX12_waysOff_11 9 42 rfl)
theorem dX12_waysOf_186 : decode cX12_waysOf 186 = .ok (.getfield 69, 3) := dk_180 (fdB_of (k := 176) tX12_waysOff_11 10 180 rfl) (fdB_of (k := 176) tX12_waysOff_11 11 0 rfl) (fdB_of (k := 176) tX12_waysOff_11 12 69 rfl)
theorem dX12_waysOf_189 : decode cX12_waysOf 189 = .ok (.iload 8, 2) := dk_21 (fdB_of (k := 176) tX12_waysOff_11 13 21 rfl) (fdB_of (k := 176) tX12_waysOff_11 14 8 rfl)
theorem dX12_waysOf_191 : decode cX12_waysOf 191 = .ok (.laload, 1) := dk_47 (fdB_of (k := 176) tX12_waysOff_11 15 47 rfl)
theorem dX12_waysOf_192 : decode cX12_waysOf 192 = .ok (.lastore, 1) := dk_80 (fdB_of (k := 192) tX12_waysOff_12 0 80 rfl)
theorem dX12_waysOf_193 : decode cX12_waysOf 193 = .ok (.iinc 8 1, 3) := dk_132 (fdB_of (k := 192) tX12_waysOff_12 1 132 rfl) (fdB_of (k := 192) tX12_waysOff_12 2 8 rfl) (fdB_of (k := 192) tX12_waysOff_12 3 1 rfl) (by decide +kernel)
theorem dX12_waysOf_196 : decode cX12_waysOf 196 = .ok (.goto (-26), 3) := dk_167 (fdB_of (k := 192) tX12_waysOff_12 4 167 rfl) (fdB_of (k := 192) tX12_waysOff_12 5 255 rfl) (fdB_of (k := 192) tX12_waysOff_12 6 230 rfl) (by decide +kernel)
theorem dX12_waysOf_199 : decode cX12_waysOf 199 = .ok (.iinc 4 1, 3) := dk_132 (fdB_of (k := 192) tX12_waysOff_12 7 132 rfl) (fdB_of (k := 192) tX12_waysOff_12 8 4 rfl) (fdB_of (k := 192) tX12_waysOff_12 9 1 rfl) (by decide +kernel)
theorem dX12_waysOf_202 : decode cX12_waysOf 202 = .ok (.iinc 5 1, 3) := dk_132 (fdB_of (k := 192) tX12_waysOff_12 10 132 rfl) (fdB_of (k := 192) tX12_waysOff_12 11 5 rfl) (fdB_of (k := 192) tX12_waysOff_12 12 1 rfl) (by decide +kernel)
theorem dX12_waysOf_205 : decode cX12_waysOf 205 = .ok (.goto (-199), 3) := dk_167 (fdB_of (k := 192) tX12_waysOff_12 13 167 rfl) (fdB_of (k := 192) tX12_waysOff_12 14 255 rfl) (fdB_of (k := 192) tX12_waysOff_12 15 57 rfl) (by decide +kernel)
theorem dX12_waysOf_208 : decode cX12_waysOf 208 = .ok (.lconst 0, 1) := dk_9 (fdB_of (k := 208) tX12_waysOff_13 0 9 rfl)
theorem dX12_waysOf_209 : decode cX12_waysOf 209 = .ok (.lstore 5, 2) := dk_55 (fdB_of (k := 208) tX12_waysOff_13 1 55 rfl) (fdB_of (k := 208) tX12_waysOff_13 2 5 rfl)
theorem dX12_waysOf_211 : decode cX12_waysOf 211 = .ok (.iconst 0, 1) := dk_3 (fdB_of (k := 208) tX12_waysOff_13 3 3 rfl)
theorem dX12_waysOf_212 : decode cX12_waysOf 212 = .ok (.istore 7, 2) := dk_54 (fdB_of (k := 208) tX12_waysOff_13 4 54 rfl) (fdB_of (k := 208) tX12_waysOff_13 5 7 rfl)
theorem dX12_waysOf_214 : decode cX12_waysOf 214 = .ok (.iload 7, 2) := dk_21 (fdB_of (k := 208) tX12_waysOff_13 6 21 rfl) (fdB_of (k := 208) tX12_waysOff_13 7 7 rfl)
theorem dX12_waysOf_216 : decode cX12_waysOf 216 = .ok (.aload_n 0, 1) := dk_42 (fdB_of (k := 208) tX12_waysOff_13 8 42 rfl)
theorem dX12_waysOf_217 : decode cX12_waysOf 217 = .ok (.getfield 166, 3) := dk_180 (fdB_of (k := 208) tX12_waysOff_13 9 180 rfl) (fdB_of (k := 208) tX12_waysOff_13 10 0 rfl) (fdB_of (k := 208) tX12_waysOff_13 11 166 rfl)
theorem dX12_waysOf_220 : decode cX12_waysOf 220 = .ok (.if_icmp .ge 27, 3) := dk_162 (fdB_of (k := 208) tX12_waysOff_13 12 162 rfl) (fdB_of (k := 208) tX12_waysOff_13 13 0 rfl) (fdB_of (k := 208) tX12_waysOff_13 14 27 rfl) (by decide +kernel)
theorem dX12_waysOf_223 : decode cX12_waysOf 223 = .ok (.iload 4, 2) := dk_21 (fdB_of (k := 208) tX12_waysOff_13 15 21 rfl) (fdB_of (k := 224) tX12_waysOff_14 0 4 rfl)
theorem dX12_waysOf_225 : decode cX12_waysOf 225 = .ok (.iconst 1, 1) := dk_4 (fdB_of (k := 224) tX12_waysOff_14 1 4 rfl)
theorem dX12_waysOf_226 : decode cX12_waysOf 226 = .ok (.if_icmp .le 21, 3) := dk_164 (fdB_of (k := 224) tX12_waysOff_14 2 164 rfl) (fdB_of (k := 224) tX12_waysOff_14 3 0 rfl) (fdB_of (k := 224) tX12_waysOff_14 4 21 rfl) (by decide +kernel)
theorem dX12_waysOf_229 : decode cX12_waysOf 229 = .ok (.lload 5, 2) := dk_22 (fdB_of (k := 224) tX12_waysOff_14 5 22 rfl) (fdB_of (k := 224) tX12_waysOff_14 6 5 rfl)
theorem dX12_waysOf_231 : decode cX12_waysOf 231 = .ok (.aload_n 0, 1) := dk_42 (fdB_of (k := 224) tX12_waysOff_14 7 42 rfl)
theorem dX12_waysOf_232 : decode cX12_waysOf 232 = .ok (.getfield 65, 3) := dk_180 (fdB_of (k := 224) tX12_waysOff_14 8 180 rfl) (fdB_of (k := 224) tX12_waysOff_14 9 0 rfl) (fdB_of (k := 224) tX12_waysOff_14 10 65 rfl)
theorem dX12_waysOf_235 : decode cX12_waysOf 235 = .ok (.iload 7, 2) := dk_21 (fdB_of (k := 224) tX12_waysOff_14 11 21 rfl) (fdB_of (k := 224) tX12_waysOff_14 12 7 rfl)
theorem dX12_waysOf_237 : decode cX12_waysOf 237 = .ok (.laload, 1) := dk_47 (fdB_of (k := 224) tX12_waysOff_14 13 47 rfl)
theorem dX12_waysOf_238 : decode cX12_waysOf 238 = .ok (.ladd, 1) := dk_97 (fdB_of (k := 224) tX12_waysOff_14 14 97 rfl)
theorem dX12_waysOf_239 : decode cX12_waysOf 239 = .ok (.lstore 5, 2) := dk_55 (fdB_of (k := 224) tX12_waysOff_14 15 55 rfl) (fdB_of (k := 240) tX12_waysOff_15 0 5 rfl)
theorem dX12_waysOf_241 : decode cX12_waysOf 241 = .ok (.iinc 7 1, 3) := dk_132 (fdB_of (k := 240) tX12_waysOff_15 1 132 rfl) (fdB_of (k := 240) tX12_waysOff_15 2 7 rfl) (fdB_of (k := 240) tX12_waysOff_15 3 1 rfl) (by decide +kernel)
theorem dX12_waysOf_244 : decode cX12_waysOf 244 = .ok (.goto (-30), 3) := dk_167 (fdB_of (k := 240) tX12_waysOff_15 4 167 rfl) (fdB_of (k := 240) tX12_waysOff_15 5 255 rfl) (fdB_of (k := 240) tX12_waysOff_15 6 226 rfl) (by decide +kernel)
theorem dX12_waysOf_247 : decode cX12_waysOf 247 = .ok (.lload 5, 2) := dk_22 (fdB_of (k := 240) tX12_waysOff_15 7 22 rfl) (fdB_of (k := 240) tX12_waysOff_15 8 5 rfl)
theorem dX12_waysOf_249 : decode cX12_waysOf 249 = .ok (.lreturn, 1) := dk_173 (fdB_of (k := 240) tX12_waysOff_15 9 173 rfl)

theorem q5_17 : Cond.fieldLink RX12 65 "RhymeLawModel" "ways" "[J" ∈ TT := tq5 17 rfl rfl
theorem q5_18 : Cond.fieldLink RX12 69 "RhymeLawModel" "waysThen" "[J" ∈ TT := tq5 18 rfl rfl
theorem ms_waysThen {p : Program} {l : Launch} {e : Env} {R : Room} {s : State} {m : MethodId} {args : Array Value} {below : List Frame} {meth : Method} {c : Code} {D : gG} {A : Nat → Prop} {nL : Nat} {Q : State → Prop} {cells slots : Nat} {cc : ByteArray} {L : List (Nat × Value)} {pc : Nat} {stk : List Value} {β : Type} {r : β} {o : Nat → Nat} {cB cI cJ cZ : ClassId} {z : SM} (cx : gX p s m args meth c cc nL RX12 D (tyL cB cI cJ cZ) A) {i : Int32} {x : Int64} {kf : SM → Option β} (hf : ((asetL 16 (mJ z 35) i x).bind fun f => nm (mJs z 35 f) kf) = some r) (hd : decode cc pc = .ok (.lastore, 1)) (kk : ∀ y : SM, kf y = some r → gW p l e R s m args below meth c D A nL Q cells slots (wX12 o cB cI cJ cZ y) L (pc + 1) stk) : gW p l e R s m args below meth c D A nL Q cells slots (wX12 o cB cI cJ cZ z) L pc (.long x :: .int i :: .ref (o 20) :: stk) :=
  g_last cx 20 2 (ws' := fun f => wX12 o cB cI cJ cZ (mJs z 35 f)) hf rfl rfl (fun _ => rfl) hd (fun _ hf => kk _ hf)
theorem fg_RX12_69 {p : Program} {l : Launch} {e : Env} {R : Room} {s : State} {m : MethodId} {args : Array Value} {below : List Frame} {meth : Method} {c : Code} {D : gG} {tys : List (ClassId × FieldType)} {A : Nat → Prop} {nL : Nat} {Q : State → Prop} {cells slots : Nat} {cc : ByteArray} {ws : va_W} {L : List (Nat × Value)} {pc : Nat} {stk : List Value} (cx : gX p s m args meth c cc nL RX12 D tys A) {a : Nat} {fs : List Value} {v : Value} (q0 : Nat) (he : ws[q0]? = some (a, .inr (10, fs))) (hv : fs[35]? = some v) (hd : decode cc pc = .ok (.getfield 69, 3)) (kk : gW p l e R s m args below meth c D A nL Q cells slots ws L (pc + 3) (v :: stk)) : gW p l e R s m args below meth c D A nL Q cells slots ws L pc (.ref a :: stk) :=
  g_get cx (C := RX12) (T := TX12) (N := 38) inT12 rfl 35 (Nat.le_of_ble_eq_true rfl) q5_18 rfl q0 he hv hd kk
theorem mg_waysThen {p : Program} {l : Launch} {e : Env} {R : Room} {s : State} {m : MethodId} {args : Array Value} {below : List Frame} {meth : Method} {c : Code} {D : gG} {A : Nat → Prop} {nL : Nat} {Q : State → Prop} {cells slots : Nat} {cc : ByteArray} {L : List (Nat × Value)} {pc : Nat} {stk : List Value} {o : Nat → Nat} {cB cI cJ cZ : ClassId} {z : SM} (cx : gX p s m args meth c cc nL RX12 D (tyL cB cI cJ cZ) A) (hd : decode cc pc = .ok (.getfield 69, 3)) (kk : gW p l e R s m args below meth c D A nL Q cells slots (wX12 o cB cI cJ cZ z) L (pc + 3) (.ref (o 20) :: stk)) : gW p l e R s m args below meth c D A nL Q cells slots (wX12 o cB cI cJ cZ z) L pc (.ref (o 0) :: stk) :=
  fg_RX12_69 cx 0 rfl rfl hd kk
theorem fg_RX12_65 {p : Program} {l : Launch} {e : Env} {R : Room} {s : State} {m : MethodId} {args : Array Value} {below : List Frame} {meth : Method} {c : Code} {D : gG} {tys : List (ClassId × FieldType)} {A : Nat → Prop} {nL : Nat} {Q : State → Prop} {cells slots : Nat} {cc : ByteArray} {ws : va_W} {L : List (Nat × Value)} {pc : Nat} {stk : List Value} (cx : gX p s m args meth c cc nL RX12 D tys A) {a : Nat} {fs : List Value} {v : Value} (q0 : Nat) (he : ws[q0]? = some (a, .inr (10, fs))) (hv : fs[34]? = some v) (hd : decode cc pc = .ok (.getfield 65, 3)) (kk : gW p l e R s m args below meth c D A nL Q cells slots ws L (pc + 3) (v :: stk)) : gW p l e R s m args below meth c D A nL Q cells slots ws L pc (.ref a :: stk) :=
  g_get cx (C := RX12) (T := TX12) (N := 38) inT12 rfl 34 (Nat.le_of_ble_eq_true rfl) q5_17 rfl q0 he hv hd kk
theorem mg_ways {p : Program} {l : Launch} {e : Env} {R : Room} {s : State} {m : MethodId} {args : Array Value} {below : List Frame} {meth : Method} {c : Code} {D : gG} {A : Nat → Prop} {nL : Nat} {Q : State → Prop} {cells slots : Nat} {cc : ByteArray} {L : List (Nat × Value)} {pc : Nat} {stk : List Value} {o : Nat → Nat} {cB cI cJ cZ : ClassId} {z : SM} (cx : gX p s m args meth c cc nL RX12 D (tyL cB cI cJ cZ) A) (hd : decode cc pc = .ok (.getfield 65, 3)) (kk : gW p l e R s m args below meth c D A nL Q cells slots (wX12 o cB cI cJ cZ z) L (pc + 3) (.ref (o 19) :: stk)) : gW p l e R s m args below meth c D A nL Q cells slots (wX12 o cB cI cJ cZ z) L pc (.ref (o 0) :: stk) :=
  fg_RX12_65 cx 0 rfl rfl hd kk
theorem ml_ways {p : Program} {l : Launch} {e : Env} {R : Room} {s : State} {m : MethodId} {args : Array Value} {below : List Frame} {meth : Method} {c : Code} {D : gG} {A : Nat → Prop} {nL : Nat} {Q : State → Prop} {cells slots : Nat} {cc : ByteArray} {L : List (Nat × Value)} {pc : Nat} {stk : List Value} {β : Type} {r : β} {o : Nat → Nat} {cB cI cJ cZ : ClassId} {z : SM} (cx : gX p s m args meth c cc nL RX12 D (tyL cB cI cJ cZ) A) {i : Int32} {kf : Int64 → Option β} (hf : (agetL 16 (mJ z 34) i).bind kf = some r) (hd : decode cc pc = .ok (.laload, 1)) (kk : ∀ v : Int64, kf v = some r → gW p l e R s m args below meth c D A nL Q cells slots (wX12 o cB cI cJ cZ z) L (pc + 1) (.long v :: stk)) : gW p l e R s m args below meth c D A nL Q cells slots (wX12 o cB cI cJ cZ z) L pc (.int i :: .ref (o 19) :: stk) :=
  g_lald cx 19 2 hf rfl rfl hd kk
theorem ms_ways {p : Program} {l : Launch} {e : Env} {R : Room} {s : State} {m : MethodId} {args : Array Value} {below : List Frame} {meth : Method} {c : Code} {D : gG} {A : Nat → Prop} {nL : Nat} {Q : State → Prop} {cells slots : Nat} {cc : ByteArray} {L : List (Nat × Value)} {pc : Nat} {stk : List Value} {β : Type} {r : β} {o : Nat → Nat} {cB cI cJ cZ : ClassId} {z : SM} (cx : gX p s m args meth c cc nL RX12 D (tyL cB cI cJ cZ) A) {i : Int32} {x : Int64} {kf : SM → Option β} (hf : ((asetL 16 (mJ z 34) i x).bind fun f => nm (mJs z 34 f) kf) = some r) (hd : decode cc pc = .ok (.lastore, 1)) (kk : ∀ y : SM, kf y = some r → gW p l e R s m args below meth c D A nL Q cells slots (wX12 o cB cI cJ cZ y) L (pc + 1) stk) : gW p l e R s m args below meth c D A nL Q cells slots (wX12 o cB cI cJ cZ z) L pc (.long x :: .int i :: .ref (o 19) :: stk) :=
  g_last cx 19 2 (ws' := fun f => wX12 o cB cI cJ cZ (mJs z 34 f)) hf rfl rfl (fun _ => rfl) hd (fun _ hf => kk _ hf)
theorem ml_waysThen {p : Program} {l : Launch} {e : Env} {R : Room} {s : State} {m : MethodId} {args : Array Value} {below : List Frame} {meth : Method} {c : Code} {D : gG} {A : Nat → Prop} {nL : Nat} {Q : State → Prop} {cells slots : Nat} {cc : ByteArray} {L : List (Nat × Value)} {pc : Nat} {stk : List Value} {β : Type} {r : β} {o : Nat → Nat} {cB cI cJ cZ : ClassId} {z : SM} (cx : gX p s m args meth c cc nL RX12 D (tyL cB cI cJ cZ) A) {i : Int32} {kf : Int64 → Option β} (hf : (agetL 16 (mJ z 35) i).bind kf = some r) (hd : decode cc pc = .ok (.laload, 1)) (kk : ∀ v : Int64, kf v = some r → gW p l e R s m args below meth c D A nL Q cells slots (wX12 o cB cI cJ cZ z) L (pc + 1) (.long v :: stk)) : gW p l e R s m args below meth c D A nL Q cells slots (wX12 o cB cI cJ cZ z) L pc (.int i :: .ref (o 20) :: stk) :=
  g_lald cx 20 2 hf rfl rfl hd kk
def F_X12_waysOf_b202 (x1 : Int32) (x2 : Int32) (x3 : Int32) (K6 : Int32 → Int32 → SM → Option (Int64 × SM)) (v4 : Int32) (v5 : Int32) (zs_o : SM) : Option (Int64 × SM) := nm (v5 + 1) fun v5_1 => K6 v4 v5_1 zs_o
def F_X12_waysOf_b59 (x1 : Int32) (x2 : Int32) (x3 : Int32) (K6 : Int32 → Int32 → SM → Option (Int64 × SM)) (K32 : Int32 → Int32 → Int64 → Int32 → SM → Option (Int64 × SM)) (v4 : Int32) (v5 : Int32) (v8 : Int32) (zs_o : SM) (k0 : Int64) (k1 : Int64) : Option (Int64 × SM) := nm (k0 + k1) fun v6_2 => nm (v8 + 1) fun v8_3 => K32 v4 v5 v6_2 v8_3 zs_o
def F_X12_waysOf_b160 (x1 : Int32) (x2 : Int32) (x3 : Int32) (K6 : Int32 → Int32 → SM → Option (Int64 × SM)) (K71 : Int32 → Int32 → Int64 → Int32 → SM → Option (Int64 × SM)) (v4 : Int32) (v5 : Int32) (v6 : Int64) (v8 : Int32) (zs_o : SM) (k1 : Int32) (k2 : Int64) : Option (Int64 × SM) := (asetL 16 (mJ zs_o 35) k1 k2).bind fun f_4 => nm (mJs zs_o 35 f_4) fun s_o_5 => nm (v8 + 1) fun v8_6 => K71 v4 v5 v6 v8_6 s_o_5
def F_X12_waysOf_b124 (x1 : Int32) (x2 : Int32) (x3 : Int32) (K6 : Int32 → Int32 → SM → Option (Int64 × SM)) (K71 : Int32 → Int32 → Int64 → Int32 → SM → Option (Int64 × SM)) (v4 : Int32) (v5 : Int32) (v6 : Int64) (v8 : Int32) (zs_o : SM) (k0 : Int32) : Option (Int64 × SM) := nm k0 fun v9_7 => (if v9_7 = 0 then F_X12_waysOf_b160 x1 x2 x3 K6 K71 v4 v5 v6 v8 zs_o v8 0 else (if v4 = 0 then F_X12_waysOf_b160 x1 x2 x3 K6 K71 v4 v5 v6 v8 zs_o v8 1 else (agetL 16 (mJ zs_o 34) v8).bind fun e_8 => F_X12_waysOf_b160 x1 x2 x3 K6 K71 v4 v5 v6 v8 zs_o v8 (v6 - e_8)))
def F_X12_waysOf_b123 (x1 : Int32) (x2 : Int32) (x3 : Int32) (K6 : Int32 → Int32 → SM → Option (Int64 × SM)) (K71 : Int32 → Int32 → Int64 → Int32 → SM → Option (Int64 × SM)) (v4 : Int32) (v5 : Int32) (v6 : Int64) (v8 : Int32) (zs_o : SM) : Option (Int64 × SM) := F_X12_waysOf_b124 x1 x2 x3 K6 K71 v4 v5 v6 v8 zs_o 0
def F_X12_waysOf_b170 (x1 : Int32) (x2 : Int32) (x3 : Int32) (K6 : Int32 → Int32 → SM → Option (Int64 × SM)) : Nat → Int32 → Int32 → Int32 → SM → Option (Int64 × SM)
  | 0, _, _, _, _ => none
  | n + 1, v4, v5, v8, zs_o => (if (mI zs_o 13) ≤ v8 then nm (v4 + 1) fun v4_9 => F_X12_waysOf_b202 x1 x2 x3 K6 v4_9 v5 zs_o else (agetL 16 (mJ zs_o 35) v8).bind fun e_10 => (asetL 16 (mJ zs_o 34) v8 e_10).bind fun f_11 => nm (mJs zs_o 34 f_11) fun s_o_12 => nm (v8 + 1) fun v8_13 => (F_X12_waysOf_b170 x1 x2 x3 K6 n) v4 v5 v8_13 s_o_12)
def F_X12_waysOf_b71 (x1 : Int32) (x2 : Int32) (x3 : Int32) (K6 : Int32 → Int32 → SM → Option (Int64 × SM)) : Nat → Int32 → Int32 → Int64 → Int32 → SM → Option (Int64 × SM)
  | 0, _, _, _, _, _ => none
  | n + 1, v4, v5, v6, v8, zs_o => (if (mI zs_o 13) ≤ v8 then nm 0 fun v8_14 => F_X12_waysOf_b170 x1 x2 x3 K6 fu v4 v5 v8_14 zs_o else (aget 9 (mA zs_o 32) v5).bind fun e_15 => (if ((e_15 >>> (v8 &&& 31)) &&& 1) = 1 then (aget 16 (mA zs_o 31) v8).bind fun e_16 => (if e_16 = x3 then (F_X12_isMetre zs_o x1 v5 v8).bind fun q_17 => (if q_17 = 0 then F_X12_waysOf_b123 x1 x2 x3 K6 (F_X12_waysOf_b71 x1 x2 x3 K6 n) v4 v5 v6 v8 zs_o else F_X12_waysOf_b124 x1 x2 x3 K6 (F_X12_waysOf_b71 x1 x2 x3 K6 n) v4 v5 v6 v8 zs_o 1) else F_X12_waysOf_b123 x1 x2 x3 K6 (F_X12_waysOf_b71 x1 x2 x3 K6 n) v4 v5 v6 v8 zs_o) else F_X12_waysOf_b123 x1 x2 x3 K6 (F_X12_waysOf_b71 x1 x2 x3 K6 n) v4 v5 v6 v8 zs_o))
def F_X12_waysOf_b32 (x1 : Int32) (x2 : Int32) (x3 : Int32) (K6 : Int32 → Int32 → SM → Option (Int64 × SM)) : Nat → Int32 → Int32 → Int64 → Int32 → SM → Option (Int64 × SM)
  | 0, _, _, _, _, _ => none
  | n + 1, v4, v5, v6, v8, zs_o => (if (mI zs_o 13) ≤ v8 then nm 0 fun v8_18 => F_X12_waysOf_b71 x1 x2 x3 K6 fu v4 v5 v6 v8_18 zs_o else (if v4 = 0 then F_X12_waysOf_b59 x1 x2 x3 K6 (F_X12_waysOf_b32 x1 x2 x3 K6 n) v4 v5 v8 zs_o v6 0 else (agetL 16 (mJ zs_o 34) v8).bind fun e_19 => F_X12_waysOf_b59 x1 x2 x3 K6 (F_X12_waysOf_b32 x1 x2 x3 K6 n) v4 v5 v8 zs_o v6 e_19))
def F_X12_waysOf_b247 (x1 : Int32) (x2 : Int32) (x3 : Int32) (v5 : Int64) (zs_o : SM) : Option (Int64 × SM) := some (v5, zs_o)
def F_X12_waysOf_b214 (x1 : Int32) (x2 : Int32) (x3 : Int32) : Nat → Int32 → Int64 → Int32 → SM → Option (Int64 × SM)
  | 0, _, _, _, _ => none
  | n + 1, v4, v5, v7, zs_o => (if (mI zs_o 13) ≤ v7 then F_X12_waysOf_b247 x1 x2 x3 v5 zs_o else (if v4 ≤ 1 then F_X12_waysOf_b247 x1 x2 x3 v5 zs_o else (agetL 16 (mJ zs_o 34) v7).bind fun e_20 => nm (v5 + e_20) fun v5_21 => nm (v7 + 1) fun v7_22 => (F_X12_waysOf_b214 x1 x2 x3 n) v4 v5_21 v7_22 zs_o))
def F_X12_waysOf_b6 (x1 : Int32) (x2 : Int32) (x3 : Int32) : Nat → Int32 → Int32 → SM → Option (Int64 × SM)
  | 0, _, _, _ => none
  | n + 1, v4, v5, zs_o => (if (mI zs_o 25) ≤ v5 then nm 0 fun v5_23 => nm 0 fun v7_24 => F_X12_waysOf_b214 x1 x2 x3 fu v4 v5_23 v7_24 zs_o else (F_X12_letterOf zs_o x1 v5).bind fun q_25 => (if q_25 = x2 then nm 0 fun v6_26 => nm 0 fun v8_27 => F_X12_waysOf_b32 x1 x2 x3 (F_X12_waysOf_b6 x1 x2 x3 n) fu v4 v5 v6_26 v8_27 zs_o else F_X12_waysOf_b202 x1 x2 x3 (F_X12_waysOf_b6 x1 x2 x3 n) v4 v5 zs_o))
def F_X12_waysOf (s_o : SM) (x1 : Int32) (x2 : Int32) (x3 : Int32) : Option (Int64 × SM) := nm 0 fun v4_28 => nm 0 fun v5_29 => F_X12_waysOf_b6 x1 x2 x3 fu v4_28 v5_29 s_o

abbrev rm_X12_waysOf : Room := { frames := 2, cells := 0, slots := 0, locals := 46 }
set_option maxHeartbeats 4000000 in
set_option maxRecDepth 100000 in
theorem c_X12_waysOf (l : Launch) (D : gG) (cB cI cJ cZ : ClassId) (o : Nat → Nat) (s_o : SM) (x1 : Int32) (x2 : Int32) (x3 : Int32) (r : Int64 × SM) (hf : F_X12_waysOf s_o x1 x2 x3 = some r) : gM l D (tyL cB cI cJ cZ) yX12_waysOf cX12_waysOf 10 (some .long) rm_X12_waysOf [.ref (o 0), .int x1, .int x2, .int x3] (wX12 o cB cI cJ cZ s_o) (some (.long r.1)) (wX12 o cB cI cJ cZ r.2) := by
  refine met_of (by decide) (Nat.le_of_ble_eq_true rfl) ?_
  intro p e s m args below meth c A cx hr hA
  show gW p l e rm_X12_waysOf s m args below meth c D A 10 _ 0 0 _ [(0, .ref (o 0)), (1, .int x1), (2, .int x2), (3, .int x3)] 0 []
  have h202 : ∀ (K6 : Int32 → Int32 → SM → Option (Int64 × SM)), (∀ (v4 : Int32) (v5 : Int32) (zs_o : SM), K6 v4 v5 zs_o = some r → gW p l e rm_X12_waysOf s m args below meth c D A 10 (MQ below (QM D (tyL cB cI cJ cZ) (some (.long r.1)) (wX12 o cB cI cJ cZ s_o) (wX12 o cB cI cJ cZ r.2) s.heap.size) args s 0 0 A) 0 0 (wX12 o cB cI cJ cZ zs_o) [(0, .ref (o 0)), (1, .int x1), (2, .int x2), (3, .int x3), (4, .int v4), (5, .int v5)] 6 []) → ∀ (v4 : Int32) (v5 : Int32) (zs_o : SM), F_X12_waysOf_b202 x1 x2 x3 K6 v4 v5 zs_o = some r → gW p l e rm_X12_waysOf s m args below meth c D A 10 (MQ below (QM D (tyL cB cI cJ cZ) (some (.long r.1)) (wX12 o cB cI cJ cZ s_o) (wX12 o cB cI cJ cZ r.2) s.heap.size) args s 0 0 A) 0 0 (wX12 o cB cI cJ cZ zs_o) [(0, .ref (o 0)), (1, .int x1), (2, .int x2), (3, .int x3), (4, .int v4), (5, .int v5)] 202 [] := by
    intro K6 kh6 v4 v5 zs_o hf
    rw [F_X12_waysOf_b202] at hf
    refine g_inc cx (L2 := fun v5_1 => [(5, .int v5_1), (0, .ref (o 0)), (1, .int x1), (2, .int x2), (3, .int x3), (4, .int v4)]) 5 hf dX12_waysOf_202 rfl (k_inc1 _) (Nat.le_of_ble_eq_true rfl) (fun _ => rfl) (fun v5_1 hf => ?_)
    refine g_goto (tgt := 6) cx dX12_waysOf_205 rfl ?_
    refine g_sub [1, 2, 3, 4, 5, 0] rfl ?_
    exact kh6 _ _ _ hf
  have h59 : ∀ (K6 : Int32 → Int32 → SM → Option (Int64 × SM)), (∀ (v4 : Int32) (v5 : Int32) (zs_o : SM), K6 v4 v5 zs_o = some r → gW p l e rm_X12_waysOf s m args below meth c D A 10 (MQ below (QM D (tyL cB cI cJ cZ) (some (.long r.1)) (wX12 o cB cI cJ cZ s_o) (wX12 o cB cI cJ cZ r.2) s.heap.size) args s 0 0 A) 0 0 (wX12 o cB cI cJ cZ zs_o) [(0, .ref (o 0)), (1, .int x1), (2, .int x2), (3, .int x3), (4, .int v4), (5, .int v5)] 6 []) → ∀ (K32 : Int32 → Int32 → Int64 → Int32 → SM → Option (Int64 × SM)), (∀ (v4 : Int32) (v5 : Int32) (v6 : Int64) (v8 : Int32) (zs_o : SM), K32 v4 v5 v6 v8 zs_o = some r → gW p l e rm_X12_waysOf s m args below meth c D A 10 (MQ below (QM D (tyL cB cI cJ cZ) (some (.long r.1)) (wX12 o cB cI cJ cZ s_o) (wX12 o cB cI cJ cZ r.2) s.heap.size) args s 0 0 A) 0 0 (wX12 o cB cI cJ cZ zs_o) [(0, .ref (o 0)), (1, .int x1), (2, .int x2), (3, .int x3), (4, .int v4), (5, .int v5), (6, .long v6), (8, .int v8)] 32 []) → ∀ (v4 : Int32) (v5 : Int32) (v8 : Int32) (zs_o : SM) (k0 : Int64) (k1 : Int64), F_X12_waysOf_b59 x1 x2 x3 K6 K32 v4 v5 v8 zs_o k0 k1 = some r → gW p l e rm_X12_waysOf s m args below meth c D A 10 (MQ below (QM D (tyL cB cI cJ cZ) (some (.long r.1)) (wX12 o cB cI cJ cZ s_o) (wX12 o cB cI cJ cZ r.2) s.heap.size) args s 0 0 A) 0 0 (wX12 o cB cI cJ cZ zs_o) [(0, .ref (o 0)), (1, .int x1), (2, .int x2), (3, .int x3), (4, .int v4), (5, .int v5), (8, .int v8)] 59 [.long k1, .long k0] := by
    intro K6 kh6 K32 kh32 v4 v5 v8 zs_o k0 k1 hf
    rw [F_X12_waysOf_b59] at hf
    refine g_ladd cx dX12_waysOf_59 ?_
    refine g_ls cx (L2 := fun v6_2 => [(6, .long v6_2), (0, .ref (o 0)), (1, .int x1), (2, .int x2), (3, .int x3), (4, .int v4), (5, .int v5), (8, .int v8)]) hf dX12_waysOf_60 (Nat.le_of_ble_eq_true rfl) (fun _ => rfl) (fun v6_2 hf => ?_)
    refine g_inc cx (L2 := fun v8_3 => [(8, .int v8_3), (6, .long v6_2), (0, .ref (o 0)), (1, .int x1), (2, .int x2), (3, .int x3), (4, .int v4), (5, .int v5)]) 7 hf dX12_waysOf_62 rfl (k_inc1 _) (Nat.le_of_ble_eq_true rfl) (fun _ => rfl) (fun v8_3 hf => ?_)
    refine g_goto (tgt := 32) cx dX12_waysOf_65 rfl ?_
    refine g_sub [2, 3, 4, 5, 6, 7, 1, 0] rfl ?_
    exact kh32 _ _ _ _ _ hf
  have h160 : ∀ (K6 : Int32 → Int32 → SM → Option (Int64 × SM)), (∀ (v4 : Int32) (v5 : Int32) (zs_o : SM), K6 v4 v5 zs_o = some r → gW p l e rm_X12_waysOf s m args below meth c D A 10 (MQ below (QM D (tyL cB cI cJ cZ) (some (.long r.1)) (wX12 o cB cI cJ cZ s_o) (wX12 o cB cI cJ cZ r.2) s.heap.size) args s 0 0 A) 0 0 (wX12 o cB cI cJ cZ zs_o) [(0, .ref (o 0)), (1, .int x1), (2, .int x2), (3, .int x3), (4, .int v4), (5, .int v5)] 6 []) → ∀ (K71 : Int32 → Int32 → Int64 → Int32 → SM → Option (Int64 × SM)), (∀ (v4 : Int32) (v5 : Int32) (v6 : Int64) (v8 : Int32) (zs_o : SM), K71 v4 v5 v6 v8 zs_o = some r → gW p l e rm_X12_waysOf s m args below meth c D A 10 (MQ below (QM D (tyL cB cI cJ cZ) (some (.long r.1)) (wX12 o cB cI cJ cZ s_o) (wX12 o cB cI cJ cZ r.2) s.heap.size) args s 0 0 A) 0 0 (wX12 o cB cI cJ cZ zs_o) [(0, .ref (o 0)), (1, .int x1), (2, .int x2), (3, .int x3), (4, .int v4), (5, .int v5), (6, .long v6), (8, .int v8)] 71 []) → ∀ (v4 : Int32) (v5 : Int32) (v6 : Int64) (v8 : Int32) (zs_o : SM) (k1 : Int32) (k2 : Int64), F_X12_waysOf_b160 x1 x2 x3 K6 K71 v4 v5 v6 v8 zs_o k1 k2 = some r → gW p l e rm_X12_waysOf s m args below meth c D A 10 (MQ below (QM D (tyL cB cI cJ cZ) (some (.long r.1)) (wX12 o cB cI cJ cZ s_o) (wX12 o cB cI cJ cZ r.2) s.heap.size) args s 0 0 A) 0 0 (wX12 o cB cI cJ cZ zs_o) [(0, .ref (o 0)), (1, .int x1), (2, .int x2), (3, .int x3), (4, .int v4), (5, .int v5), (6, .long v6), (8, .int v8)] 160 [.long k2, .int k1, .ref (o 20)] := by
    intro K6 kh6 K71 kh71 v4 v5 v6 v8 zs_o k1 k2 hf
    rw [F_X12_waysOf_b160] at hf
    refine ms_waysThen cx hf dX12_waysOf_160 (fun s_o_5 hf => ?_)
    refine g_inc cx (L2 := fun v8_6 => [(8, .int v8_6), (0, .ref (o 0)), (1, .int x1), (2, .int x2), (3, .int x3), (4, .int v4), (5, .int v5), (6, .long v6)]) 7 hf dX12_waysOf_161 rfl (k_inc1 _) (Nat.le_of_ble_eq_true rfl) (fun _ => rfl) (fun v8_6 hf => ?_)
    refine g_goto (tgt := 71) cx dX12_waysOf_164 rfl ?_
    refine g_sub [1, 2, 3, 4, 5, 6, 7, 0] rfl ?_
    exact kh71 _ _ _ _ _ hf
  have h124 : ∀ (K6 : Int32 → Int32 → SM → Option (Int64 × SM)), (∀ (v4 : Int32) (v5 : Int32) (zs_o : SM), K6 v4 v5 zs_o = some r → gW p l e rm_X12_waysOf s m args below meth c D A 10 (MQ below (QM D (tyL cB cI cJ cZ) (some (.long r.1)) (wX12 o cB cI cJ cZ s_o) (wX12 o cB cI cJ cZ r.2) s.heap.size) args s 0 0 A) 0 0 (wX12 o cB cI cJ cZ zs_o) [(0, .ref (o 0)), (1, .int x1), (2, .int x2), (3, .int x3), (4, .int v4), (5, .int v5)] 6 []) → ∀ (K71 : Int32 → Int32 → Int64 → Int32 → SM → Option (Int64 × SM)), (∀ (v4 : Int32) (v5 : Int32) (v6 : Int64) (v8 : Int32) (zs_o : SM), K71 v4 v5 v6 v8 zs_o = some r → gW p l e rm_X12_waysOf s m args below meth c D A 10 (MQ below (QM D (tyL cB cI cJ cZ) (some (.long r.1)) (wX12 o cB cI cJ cZ s_o) (wX12 o cB cI cJ cZ r.2) s.heap.size) args s 0 0 A) 0 0 (wX12 o cB cI cJ cZ zs_o) [(0, .ref (o 0)), (1, .int x1), (2, .int x2), (3, .int x3), (4, .int v4), (5, .int v5), (6, .long v6), (8, .int v8)] 71 []) → ∀ (v4 : Int32) (v5 : Int32) (v6 : Int64) (v8 : Int32) (zs_o : SM) (k0 : Int32), F_X12_waysOf_b124 x1 x2 x3 K6 K71 v4 v5 v6 v8 zs_o k0 = some r → gW p l e rm_X12_waysOf s m args below meth c D A 10 (MQ below (QM D (tyL cB cI cJ cZ) (some (.long r.1)) (wX12 o cB cI cJ cZ s_o) (wX12 o cB cI cJ cZ r.2) s.heap.size) args s 0 0 A) 0 0 (wX12 o cB cI cJ cZ zs_o) [(0, .ref (o 0)), (1, .int x1), (2, .int x2), (3, .int x3), (4, .int v4), (5, .int v5), (6, .long v6), (8, .int v8)] 124 [.int k0] := by
    intro K6 kh6 K71 kh71 v4 v5 v6 v8 zs_o k0 hf
    rw [F_X12_waysOf_b124] at hf
    refine g_is cx (L2 := fun v9_7 => [(9, .int v9_7), (0, .ref (o 0)), (1, .int x1), (2, .int x2), (3, .int x3), (4, .int v4), (5, .int v5), (6, .long v6), (8, .int v8)]) hf dX12_waysOf_124 (Nat.le_of_ble_eq_true rfl) (fun _ => rfl) (fun v9_7 hf => ?_)
    refine g_aln cx 1 dX12_waysOf_126 rfl ?_
    refine mg_waysThen cx dX12_waysOf_127 ?_
    refine g_il cx 8 dX12_waysOf_130 rfl ?_
    refine g_il cx 0 dX12_waysOf_132 rfl ?_
    refine g_if_ne (tgt := 141) cx hf dX12_waysOf_134 rfl (fun hf => ?_) (fun hf => ?_)
    · refine g_il cx 5 dX12_waysOf_141 rfl ?_
      refine g_if_ne (tgt := 150) cx hf dX12_waysOf_143 rfl (fun hf => ?_) (fun hf => ?_)
      · refine g_ll cx 7 dX12_waysOf_150 rfl ?_
        refine g_aln cx 1 dX12_waysOf_152 rfl ?_
        refine mg_ways cx dX12_waysOf_153 ?_
        refine g_il cx 8 dX12_waysOf_156 rfl ?_
        refine ml_ways cx hf dX12_waysOf_158 (fun e_8 hf => ?_)
        refine g_lsub cx dX12_waysOf_159 ?_
        refine g_sub [1, 2, 3, 4, 5, 6, 7, 8] rfl ?_
        exact h160 _ kh6 _ kh71 _ _ _ _ _ _ _ hf
      · refine g_lc cx dX12_waysOf_146 rfl ?_
        refine g_goto (tgt := 160) cx dX12_waysOf_147 rfl ?_
        refine g_sub [1, 2, 3, 4, 5, 6, 7, 8] rfl ?_
        exact h160 _ kh6 _ kh71 _ _ _ _ _ _ _ hf
    · refine g_lc cx dX12_waysOf_137 rfl ?_
      refine g_goto (tgt := 160) cx dX12_waysOf_138 rfl ?_
      refine g_sub [1, 2, 3, 4, 5, 6, 7, 8] rfl ?_
      exact h160 _ kh6 _ kh71 _ _ _ _ _ _ _ hf
  have h123 : ∀ (K6 : Int32 → Int32 → SM → Option (Int64 × SM)), (∀ (v4 : Int32) (v5 : Int32) (zs_o : SM), K6 v4 v5 zs_o = some r → gW p l e rm_X12_waysOf s m args below meth c D A 10 (MQ below (QM D (tyL cB cI cJ cZ) (some (.long r.1)) (wX12 o cB cI cJ cZ s_o) (wX12 o cB cI cJ cZ r.2) s.heap.size) args s 0 0 A) 0 0 (wX12 o cB cI cJ cZ zs_o) [(0, .ref (o 0)), (1, .int x1), (2, .int x2), (3, .int x3), (4, .int v4), (5, .int v5)] 6 []) → ∀ (K71 : Int32 → Int32 → Int64 → Int32 → SM → Option (Int64 × SM)), (∀ (v4 : Int32) (v5 : Int32) (v6 : Int64) (v8 : Int32) (zs_o : SM), K71 v4 v5 v6 v8 zs_o = some r → gW p l e rm_X12_waysOf s m args below meth c D A 10 (MQ below (QM D (tyL cB cI cJ cZ) (some (.long r.1)) (wX12 o cB cI cJ cZ s_o) (wX12 o cB cI cJ cZ r.2) s.heap.size) args s 0 0 A) 0 0 (wX12 o cB cI cJ cZ zs_o) [(0, .ref (o 0)), (1, .int x1), (2, .int x2), (3, .int x3), (4, .int v4), (5, .int v5), (6, .long v6), (8, .int v8)] 71 []) → ∀ (v4 : Int32) (v5 : Int32) (v6 : Int64) (v8 : Int32) (zs_o : SM), F_X12_waysOf_b123 x1 x2 x3 K6 K71 v4 v5 v6 v8 zs_o = some r → gW p l e rm_X12_waysOf s m args below meth c D A 10 (MQ below (QM D (tyL cB cI cJ cZ) (some (.long r.1)) (wX12 o cB cI cJ cZ s_o) (wX12 o cB cI cJ cZ r.2) s.heap.size) args s 0 0 A) 0 0 (wX12 o cB cI cJ cZ zs_o) [(0, .ref (o 0)), (1, .int x1), (2, .int x2), (3, .int x3), (4, .int v4), (5, .int v5), (6, .long v6), (8, .int v8)] 123 [] := by
    intro K6 kh6 K71 kh71 v4 v5 v6 v8 zs_o hf
    rw [F_X12_waysOf_b123] at hf
    refine g_ic cx dX12_waysOf_123 k_ic0 ?_
    exact h124 _ kh6 _ kh71 _ _ _ _ _ _ hf
  have h170 : ∀ (K6 : Int32 → Int32 → SM → Option (Int64 × SM)), (∀ (v4 : Int32) (v5 : Int32) (zs_o : SM), K6 v4 v5 zs_o = some r → gW p l e rm_X12_waysOf s m args below meth c D A 10 (MQ below (QM D (tyL cB cI cJ cZ) (some (.long r.1)) (wX12 o cB cI cJ cZ s_o) (wX12 o cB cI cJ cZ r.2) s.heap.size) args s 0 0 A) 0 0 (wX12 o cB cI cJ cZ zs_o) [(0, .ref (o 0)), (1, .int x1), (2, .int x2), (3, .int x3), (4, .int v4), (5, .int v5)] 6 []) → ∀ (n : Nat) (v4 : Int32) (v5 : Int32) (v8 : Int32) (zs_o : SM), F_X12_waysOf_b170 x1 x2 x3 K6 n v4 v5 v8 zs_o = some r → gW p l e rm_X12_waysOf s m args below meth c D A 10 (MQ below (QM D (tyL cB cI cJ cZ) (some (.long r.1)) (wX12 o cB cI cJ cZ s_o) (wX12 o cB cI cJ cZ r.2) s.heap.size) args s 0 0 A) 0 0 (wX12 o cB cI cJ cZ zs_o) [(0, .ref (o 0)), (1, .int x1), (2, .int x2), (3, .int x3), (4, .int v4), (5, .int v5), (8, .int v8)] 170 [] := by
    intro K6 kh6 n
    induction n with
    | zero => intro v4 v5 v8 zs_o hf; rw [F_X12_waysOf_b170] at hf; cases hf
    | succ n ih =>
      intro v4 v5 v8 zs_o hf
      rw [F_X12_waysOf_b170] at hf
      refine g_il cx 6 dX12_waysOf_170 rfl ?_
      refine g_aln cx 0 dX12_waysOf_172 rfl ?_
      refine mg_words cx dX12_waysOf_173 ?_
      refine g_ic_ge (tgt := 199) cx hf dX12_waysOf_176 rfl (fun hf => ?_) (fun hf => ?_)
      · refine g_inc cx (L2 := fun v4_9 => [(4, .int v4_9), (0, .ref (o 0)), (1, .int x1), (2, .int x2), (3, .int x3), (5, .int v5), (8, .int v8)]) 4 hf dX12_waysOf_199 rfl (k_inc1 _) (Nat.le_of_ble_eq_true rfl) (fun _ => rfl) (fun v4_9 hf => ?_)
        refine g_sub [1, 2, 3, 4, 0, 5] rfl ?_
        exact h202 _ kh6 _ _ _ hf
      · refine g_aln cx 0 dX12_waysOf_179 rfl ?_
        refine mg_ways cx dX12_waysOf_180 ?_
        refine g_il cx 6 dX12_waysOf_183 rfl ?_
        refine g_aln cx 0 dX12_waysOf_185 rfl ?_
        refine mg_waysThen cx dX12_waysOf_186 ?_
        refine g_il cx 6 dX12_waysOf_189 rfl ?_
        refine ml_waysThen cx hf dX12_waysOf_191 (fun e_10 hf => ?_)
        refine ms_ways cx hf dX12_waysOf_192 (fun s_o_12 hf => ?_)
        refine g_inc cx (L2 := fun v8_13 => [(8, .int v8_13), (0, .ref (o 0)), (1, .int x1), (2, .int x2), (3, .int x3), (4, .int v4), (5, .int v5)]) 6 hf dX12_waysOf_193 rfl (k_inc1 _) (Nat.le_of_ble_eq_true rfl) (fun _ => rfl) (fun v8_13 hf => ?_)
        refine g_goto (tgt := 170) cx dX12_waysOf_196 rfl ?_
        refine g_sub [1, 2, 3, 4, 5, 6, 0] rfl ?_
        exact ih _ _ _ _ hf
  have h71 : ∀ (K6 : Int32 → Int32 → SM → Option (Int64 × SM)), (∀ (v4 : Int32) (v5 : Int32) (zs_o : SM), K6 v4 v5 zs_o = some r → gW p l e rm_X12_waysOf s m args below meth c D A 10 (MQ below (QM D (tyL cB cI cJ cZ) (some (.long r.1)) (wX12 o cB cI cJ cZ s_o) (wX12 o cB cI cJ cZ r.2) s.heap.size) args s 0 0 A) 0 0 (wX12 o cB cI cJ cZ zs_o) [(0, .ref (o 0)), (1, .int x1), (2, .int x2), (3, .int x3), (4, .int v4), (5, .int v5)] 6 []) → ∀ (n : Nat) (v4 : Int32) (v5 : Int32) (v6 : Int64) (v8 : Int32) (zs_o : SM), F_X12_waysOf_b71 x1 x2 x3 K6 n v4 v5 v6 v8 zs_o = some r → gW p l e rm_X12_waysOf s m args below meth c D A 10 (MQ below (QM D (tyL cB cI cJ cZ) (some (.long r.1)) (wX12 o cB cI cJ cZ s_o) (wX12 o cB cI cJ cZ r.2) s.heap.size) args s 0 0 A) 0 0 (wX12 o cB cI cJ cZ zs_o) [(0, .ref (o 0)), (1, .int x1), (2, .int x2), (3, .int x3), (4, .int v4), (5, .int v5), (6, .long v6), (8, .int v8)] 71 [] := by
    intro K6 kh6 n
    induction n with
    | zero => intro v4 v5 v6 v8 zs_o hf; rw [F_X12_waysOf_b71] at hf; cases hf
    | succ n ih =>
      intro v4 v5 v6 v8 zs_o hf
      rw [F_X12_waysOf_b71] at hf
      refine g_il cx 7 dX12_waysOf_71 rfl ?_
      refine g_aln cx 0 dX12_waysOf_73 rfl ?_
      refine mg_words cx dX12_waysOf_74 ?_
      refine g_ic_ge (tgt := 167) cx hf dX12_waysOf_77 rfl (fun hf => ?_) (fun hf => ?_)
      · refine g_ic cx dX12_waysOf_167 k_ic0 ?_
        refine g_is cx (L2 := fun v8_14 => [(8, .int v8_14), (0, .ref (o 0)), (1, .int x1), (2, .int x2), (3, .int x3), (4, .int v4), (5, .int v5), (6, .long v6)]) hf dX12_waysOf_168 (Nat.le_of_ble_eq_true rfl) (fun _ => rfl) (fun v8_14 hf => ?_)
        refine g_sub [1, 2, 3, 4, 5, 6, 0] rfl ?_
        exact h170 _ kh6 fu _ _ _ _ hf
      · refine g_aln cx 0 dX12_waysOf_80 rfl ?_
        refine mg_may cx dX12_waysOf_81 ?_
        refine g_il cx 5 dX12_waysOf_84 rfl ?_
        refine ml_may cx hf dX12_waysOf_86 (fun e_15 hf => ?_)
        refine g_il cx 7 dX12_waysOf_87 rfl ?_
        refine g_ishr cx dX12_waysOf_89 ?_
        refine g_ic cx dX12_waysOf_90 k_ic1 ?_
        refine g_iand cx dX12_waysOf_91 ?_
        refine g_ic cx dX12_waysOf_92 k_ic1 ?_
        refine g_ic_ne (tgt := 123) cx hf dX12_waysOf_93 rfl (fun hf => ?_) (fun hf => ?_)
        · exact h123 _ kh6 _ ih _ _ _ _ _ hf
        · refine g_aln cx 0 dX12_waysOf_96 rfl ?_
          refine mg_sound cx dX12_waysOf_97 ?_
          refine g_il cx 7 dX12_waysOf_100 rfl ?_
          refine ml_sound cx hf dX12_waysOf_102 (fun e_16 hf => ?_)
          refine g_iln cx 3 dX12_waysOf_103 rfl ?_
          refine g_ic_ne (tgt := 123) cx hf dX12_waysOf_104 rfl (fun hf => ?_) (fun hf => ?_)
          · exact h123 _ kh6 _ ih _ _ _ _ _ hf
          · refine g_aln cx 0 dX12_waysOf_107 rfl ?_
            refine g_iln cx 1 dX12_waysOf_108 rfl ?_
            refine g_il cx 5 dX12_waysOf_109 rfl ?_
            refine g_il cx 7 dX12_waysOf_111 rfl ?_
            refine ob hf (fun q_17 hq_17 hf => ?_)
            refine g_callVFi cx lk_RX12_191 (c_X12_isMetre l D cB cI cJ cZ o zs_o x1 v5 v8 q_17 hq_17) rfl (ci := 10) (q1 := 0) rfl rfl rfl (Nat.le_of_ble_eq_true rfl) ⟨rfl, rfl, Nat.le_of_ble_eq_true rfl, Nat.le_of_ble_eq_true rfl⟩ dX12_waysOf_113 ?_
            refine g_if_eq (tgt := 123) cx hf dX12_waysOf_116 rfl (fun hf => ?_) (fun hf => ?_)
            · exact h123 _ kh6 _ ih _ _ _ _ _ hf
            · refine g_ic cx dX12_waysOf_119 k_ic1 ?_
              refine g_goto (tgt := 124) cx dX12_waysOf_120 rfl ?_
              exact h124 _ kh6 _ ih _ _ _ _ _ _ hf
  have h32 : ∀ (K6 : Int32 → Int32 → SM → Option (Int64 × SM)), (∀ (v4 : Int32) (v5 : Int32) (zs_o : SM), K6 v4 v5 zs_o = some r → gW p l e rm_X12_waysOf s m args below meth c D A 10 (MQ below (QM D (tyL cB cI cJ cZ) (some (.long r.1)) (wX12 o cB cI cJ cZ s_o) (wX12 o cB cI cJ cZ r.2) s.heap.size) args s 0 0 A) 0 0 (wX12 o cB cI cJ cZ zs_o) [(0, .ref (o 0)), (1, .int x1), (2, .int x2), (3, .int x3), (4, .int v4), (5, .int v5)] 6 []) → ∀ (n : Nat) (v4 : Int32) (v5 : Int32) (v6 : Int64) (v8 : Int32) (zs_o : SM), F_X12_waysOf_b32 x1 x2 x3 K6 n v4 v5 v6 v8 zs_o = some r → gW p l e rm_X12_waysOf s m args below meth c D A 10 (MQ below (QM D (tyL cB cI cJ cZ) (some (.long r.1)) (wX12 o cB cI cJ cZ s_o) (wX12 o cB cI cJ cZ r.2) s.heap.size) args s 0 0 A) 0 0 (wX12 o cB cI cJ cZ zs_o) [(0, .ref (o 0)), (1, .int x1), (2, .int x2), (3, .int x3), (4, .int v4), (5, .int v5), (6, .long v6), (8, .int v8)] 32 [] := by
    intro K6 kh6 n
    induction n with
    | zero => intro v4 v5 v6 v8 zs_o hf; rw [F_X12_waysOf_b32] at hf; cases hf
    | succ n ih =>
      intro v4 v5 v6 v8 zs_o hf
      rw [F_X12_waysOf_b32] at hf
      refine g_il cx 7 dX12_waysOf_32 rfl ?_
      refine g_aln cx 0 dX12_waysOf_34 rfl ?_
      refine mg_words cx dX12_waysOf_35 ?_
      refine g_ic_ge (tgt := 68) cx hf dX12_waysOf_38 rfl (fun hf => ?_) (fun hf => ?_)
      · refine g_ic cx dX12_waysOf_68 k_ic0 ?_
        refine g_is cx (L2 := fun v8_18 => [(8, .int v8_18), (0, .ref (o 0)), (1, .int x1), (2, .int x2), (3, .int x3), (4, .int v4), (5, .int v5), (6, .long v6)]) hf dX12_waysOf_69 (Nat.le_of_ble_eq_true rfl) (fun _ => rfl) (fun v8_18 hf => ?_)
        refine g_sub [1, 2, 3, 4, 5, 6, 7, 0] rfl ?_
        exact h71 _ kh6 fu _ _ _ _ _ hf
      · refine g_ll cx 6 dX12_waysOf_41 rfl ?_
        refine g_il cx 4 dX12_waysOf_43 rfl ?_
        refine g_if_ne (tgt := 52) cx hf dX12_waysOf_45 rfl (fun hf => ?_) (fun hf => ?_)
        · refine g_aln cx 0 dX12_waysOf_52 rfl ?_
          refine mg_ways cx dX12_waysOf_53 ?_
          refine g_il cx 7 dX12_waysOf_56 rfl ?_
          refine ml_ways cx hf dX12_waysOf_58 (fun e_19 hf => ?_)
          refine g_sub [0, 1, 2, 3, 4, 5, 7] rfl ?_
          exact h59 _ kh6 _ ih _ _ _ _ _ _ hf
        · refine g_lc cx dX12_waysOf_48 rfl ?_
          refine g_goto (tgt := 59) cx dX12_waysOf_49 rfl ?_
          refine g_sub [0, 1, 2, 3, 4, 5, 7] rfl ?_
          exact h59 _ kh6 _ ih _ _ _ _ _ _ hf
  have h247 : ∀ (v5 : Int64) (zs_o : SM), F_X12_waysOf_b247 x1 x2 x3 v5 zs_o = some r → gW p l e rm_X12_waysOf s m args below meth c D A 10 (MQ below (QM D (tyL cB cI cJ cZ) (some (.long r.1)) (wX12 o cB cI cJ cZ s_o) (wX12 o cB cI cJ cZ r.2) s.heap.size) args s 0 0 A) 0 0 (wX12 o cB cI cJ cZ zs_o) [(5, .long v5)] 247 [] := by
    intro v5 zs_o hf
    rw [F_X12_waysOf_b247] at hf
    refine g_ll cx 0 dX12_waysOf_247 rfl ?_
    exact g_lret (ovf := fun (r : Int64 × SM) => (some (.long r.1))) (wf := fun (r : Int64 × SM) => (wX12 o cB cI cJ cZ r.2)) cx hA hr hf rfl rfl dX12_waysOf_249
  have h214 : ∀ (n : Nat) (v4 : Int32) (v5 : Int64) (v7 : Int32) (zs_o : SM), F_X12_waysOf_b214 x1 x2 x3 n v4 v5 v7 zs_o = some r → gW p l e rm_X12_waysOf s m args below meth c D A 10 (MQ below (QM D (tyL cB cI cJ cZ) (some (.long r.1)) (wX12 o cB cI cJ cZ s_o) (wX12 o cB cI cJ cZ r.2) s.heap.size) args s 0 0 A) 0 0 (wX12 o cB cI cJ cZ zs_o) [(0, .ref (o 0)), (4, .int v4), (5, .long v5), (7, .int v7)] 214 [] := by
    intro n
    induction n with
    | zero => intro v4 v5 v7 zs_o hf; rw [F_X12_waysOf_b214] at hf; cases hf
    | succ n ih =>
      intro v4 v5 v7 zs_o hf
      rw [F_X12_waysOf_b214] at hf
      refine g_il cx 3 dX12_waysOf_214 rfl ?_
      refine g_aln cx 0 dX12_waysOf_216 rfl ?_
      refine mg_words cx dX12_waysOf_217 ?_
      refine g_ic_ge (tgt := 247) cx hf dX12_waysOf_220 rfl (fun hf => ?_) (fun hf => ?_)
      · refine g_sub [2] rfl ?_
        exact h247 _ _ hf
      · refine g_il cx 1 dX12_waysOf_223 rfl ?_
        refine g_ic cx dX12_waysOf_225 k_ic1 ?_
        refine g_ic_le (tgt := 247) cx hf dX12_waysOf_226 rfl (fun hf => ?_) (fun hf => ?_)
        · refine g_sub [2] rfl ?_
          exact h247 _ _ hf
        · refine g_ll cx 2 dX12_waysOf_229 rfl ?_
          refine g_aln cx 0 dX12_waysOf_231 rfl ?_
          refine mg_ways cx dX12_waysOf_232 ?_
          refine g_il cx 3 dX12_waysOf_235 rfl ?_
          refine ml_ways cx hf dX12_waysOf_237 (fun e_20 hf => ?_)
          refine g_ladd cx dX12_waysOf_238 ?_
          refine g_ls cx (L2 := fun v5_21 => [(5, .long v5_21), (0, .ref (o 0)), (4, .int v4), (7, .int v7)]) hf dX12_waysOf_239 (Nat.le_of_ble_eq_true rfl) (fun _ => rfl) (fun v5_21 hf => ?_)
          refine g_inc cx (L2 := fun v7_22 => [(7, .int v7_22), (5, .long v5_21), (0, .ref (o 0)), (4, .int v4)]) 3 hf dX12_waysOf_241 rfl (k_inc1 _) (Nat.le_of_ble_eq_true rfl) (fun _ => rfl) (fun v7_22 hf => ?_)
          refine g_goto (tgt := 214) cx dX12_waysOf_244 rfl ?_
          refine g_sub [2, 3, 1, 0] rfl ?_
          exact ih _ _ _ _ hf
  have h6 : ∀ (n : Nat) (v4 : Int32) (v5 : Int32) (zs_o : SM), F_X12_waysOf_b6 x1 x2 x3 n v4 v5 zs_o = some r → gW p l e rm_X12_waysOf s m args below meth c D A 10 (MQ below (QM D (tyL cB cI cJ cZ) (some (.long r.1)) (wX12 o cB cI cJ cZ s_o) (wX12 o cB cI cJ cZ r.2) s.heap.size) args s 0 0 A) 0 0 (wX12 o cB cI cJ cZ zs_o) [(0, .ref (o 0)), (1, .int x1), (2, .int x2), (3, .int x3), (4, .int v4), (5, .int v5)] 6 [] := by
    intro n
    induction n with
    | zero => intro v4 v5 zs_o hf; rw [F_X12_waysOf_b6] at hf; cases hf
    | succ n ih =>
      intro v4 v5 zs_o hf
      rw [F_X12_waysOf_b6] at hf
      refine g_il cx 5 dX12_waysOf_6 rfl ?_
      refine g_aln cx 0 dX12_waysOf_8 rfl ?_
      refine mg_many cx dX12_waysOf_9 ?_
      refine g_ic_ge (tgt := 208) cx hf dX12_waysOf_12 rfl (fun hf => ?_) (fun hf => ?_)
      · refine g_lc cx dX12_waysOf_208 rfl ?_
        refine g_ls cx (L2 := fun v5_23 => [(5, .long v5_23), (0, .ref (o 0)), (1, .int x1), (2, .int x2), (3, .int x3), (4, .int v4)]) hf dX12_waysOf_209 (Nat.le_of_ble_eq_true rfl) (fun _ => rfl) (fun v5_23 hf => ?_)
        refine g_ic cx dX12_waysOf_211 k_ic0 ?_
        refine g_is cx (L2 := fun v7_24 => [(7, .int v7_24), (5, .long v5_23), (0, .ref (o 0)), (1, .int x1), (2, .int x2), (3, .int x3), (4, .int v4)]) hf dX12_waysOf_212 (Nat.le_of_ble_eq_true rfl) (fun _ => rfl) (fun v7_24 hf => ?_)
        refine g_sub [2, 6, 1, 0] rfl ?_
        exact h214 fu _ _ _ _ hf
      · refine g_aln cx 0 dX12_waysOf_15 rfl ?_
        refine g_iln cx 1 dX12_waysOf_16 rfl ?_
        refine g_il cx 5 dX12_waysOf_17 rfl ?_
        refine ob hf (fun q_25 hq_25 hf => ?_)
        refine g_callVFi cx lk_RX12_182 (c_X12_letterOf l D cB cI cJ cZ o zs_o x1 v5 q_25 hq_25) rfl (ci := 10) (q1 := 0) rfl rfl rfl (Nat.le_of_ble_eq_true rfl) ⟨rfl, rfl, Nat.le_of_ble_eq_true rfl, Nat.le_of_ble_eq_true rfl⟩ dX12_waysOf_19 ?_
        refine g_iln cx 2 dX12_waysOf_22 rfl ?_
        refine g_ic_ne (tgt := 202) cx hf dX12_waysOf_23 rfl (fun hf => ?_) (fun hf => ?_)
        · exact h202 _ ih _ _ _ hf
        · refine g_lc cx dX12_waysOf_26 rfl ?_
          refine g_ls cx (L2 := fun v6_26 => [(6, .long v6_26), (0, .ref (o 0)), (1, .int x1), (2, .int x2), (3, .int x3), (4, .int v4), (5, .int v5)]) hf dX12_waysOf_27 (Nat.le_of_ble_eq_true rfl) (fun _ => rfl) (fun v6_26 hf => ?_)
          refine g_ic cx dX12_waysOf_29 k_ic0 ?_
          refine g_is cx (L2 := fun v8_27 => [(8, .int v8_27), (6, .long v6_26), (0, .ref (o 0)), (1, .int x1), (2, .int x2), (3, .int x3), (4, .int v4), (5, .int v5)]) hf dX12_waysOf_30 (Nat.le_of_ble_eq_true rfl) (fun _ => rfl) (fun v8_27 hf => ?_)
          refine g_sub [2, 3, 4, 5, 6, 7, 1, 0] rfl ?_
          exact h32 _ ih fu _ _ _ _ _ hf
  rw [F_X12_waysOf] at hf
  refine g_ic cx dX12_waysOf_0 k_ic0 ?_
  refine g_is cx (L2 := fun v4_28 => [(4, .int v4_28), (0, .ref (o 0)), (1, .int x1), (2, .int x2), (3, .int x3)]) hf dX12_waysOf_1 (Nat.le_of_ble_eq_true rfl) (fun _ => rfl) (fun v4_28 hf => ?_)
  refine g_ic cx dX12_waysOf_3 k_ic0 ?_
  refine g_is cx (L2 := fun v5_29 => [(5, .int v5_29), (4, .int v4_28), (0, .ref (o 0)), (1, .int x1), (2, .int x2), (3, .int x3)]) hf dX12_waysOf_4 (Nat.le_of_ble_eq_true rfl) (fun _ => rfl) (fun v5_29 hf => ?_)
  refine g_sub [2, 3, 4, 5, 1, 0] rfl ?_
  exact h6 fu _ _ _ hf
def tX12_waysAll_7 : List Nat := 151 :: 42 :: 180 :: 0 :: 188 :: 154 :: 0 :: 7 :: 9 :: 167 :: 0 :: 4 :: 32 :: 173 :: []
def tX12_waysAll_6 : List Nat := 153 :: 0 :: 8 :: 22 :: 6 :: 167 :: 0 :: 4 :: 10 :: 105 :: 65 :: 132 :: 4 :: 1 :: 167 :: 255 :: tX12_waysAll_7
def tX12_waysAll_5 : List Nat := 8 :: 182 :: 0 :: 245 :: 97 :: 55 :: 6 :: 132 :: 8 :: 1 :: 167 :: 255 :: 227 :: 32 :: 21 :: 5 :: tX12_waysAll_6
def tX12_waysAll_4 : List Nat := 26 :: 162 :: 0 :: 28 :: 21 :: 5 :: 153 :: 0 :: 23 :: 22 :: 6 :: 42 :: 27 :: 21 :: 4 :: 21 :: tX12_waysAll_5
def tX12_waysAll_3 : List Nat := 5 :: 132 :: 6 :: 1 :: 167 :: 255 :: 222 :: 9 :: 55 :: 6 :: 3 :: 54 :: 8 :: 21 :: 8 :: 16 :: tX12_waysAll_4
def tX12_waysAll_2 : List Nat := 6 :: 182 :: 0 :: 182 :: 21 :: 4 :: 160 :: 0 :: 7 :: 4 :: 167 :: 0 :: 4 :: 3 :: 128 :: 54 :: tX12_waysAll_3
def tX12_waysAll_1 : List Nat := 54 :: 6 :: 21 :: 6 :: 42 :: 180 :: 0 :: 188 :: 162 :: 0 :: 31 :: 21 :: 5 :: 42 :: 27 :: 21 :: tX12_waysAll_2
def tX12_waysAll_0 : List Nat := 10 :: 65 :: 3 :: 54 :: 4 :: 21 :: 4 :: 16 :: 8 :: 162 :: 0 :: 104 :: 3 :: 54 :: 5 :: 3 :: tX12_waysAll_1
theorem tX12_waysAllf_0 : (cX12_waysAll.data.toList.map UInt8.toNat).drop 0 = tX12_waysAll_0 := by decide +kernel
theorem tX12_waysAllf_1 : (cX12_waysAll.data.toList.map UInt8.toNat).drop 16 = tX12_waysAll_1 := fd_next (k := 0) tX12_waysAllf_0 rfl
theorem tX12_waysAllf_2 : (cX12_waysAll.data.toList.map UInt8.toNat).drop 32 = tX12_waysAll_2 := fd_next (k := 16) tX12_waysAllf_1 rfl
theorem tX12_waysAllf_3 : (cX12_waysAll.data.toList.map UInt8.toNat).drop 48 = tX12_waysAll_3 := fd_next (k := 32) tX12_waysAllf_2 rfl
theorem tX12_waysAllf_4 : (cX12_waysAll.data.toList.map UInt8.toNat).drop 64 = tX12_waysAll_4 := fd_next (k := 48) tX12_waysAllf_3 rfl
theorem tX12_waysAllf_5 : (cX12_waysAll.data.toList.map UInt8.toNat).drop 80 = tX12_waysAll_5 := fd_next (k := 64) tX12_waysAllf_4 rfl
theorem tX12_waysAllf_6 : (cX12_waysAll.data.toList.map UInt8.toNat).drop 96 = tX12_waysAll_6 := fd_next (k := 80) tX12_waysAllf_5 rfl
theorem tX12_waysAllf_7 : (cX12_waysAll.data.toList.map UInt8.toNat).drop 112 = tX12_waysAll_7 := fd_next (k := 96) tX12_waysAllf_6 rfl
theorem dX12_waysAll_0 : decode cX12_waysAll 0 = .ok (.lconst 1, 1) := dk_10 (fdB_of (k := 0) tX12_waysAllf_0 0 10 rfl)
theorem dX12_waysAll_1 : decode cX12_waysAll 1 = .ok (.lstore_n 2, 1) := dk_65 (fdB_of (k := 0) tX12_waysAllf_0 1 65 rfl)
theorem dX12_waysAll_2 : decode cX12_waysAll 2 = .ok (.iconst 0, 1) := dk_3 (fdB_of (k := 0) tX12_waysAllf_0 2 3 rfl)
theorem dX12_waysAll_3 : decode cX12_waysAll 3 = .ok (.istore 4, 2) := dk_54 (fdB_of (k := 0) tX12_waysAllf_0 3 54 rfl) (fdB_of (k := 0) tX12_waysAllf_0 4 4 rfl)
theorem dX12_waysAll_5 : decode cX12_waysAll 5 = .ok (.iload 4, 2) := dk_21 (fdB_of (k := 0) tX12_waysAllf_0 5 21 rfl) (fdB_of (k := 0) tX12_waysAllf_0 6 4 rfl)
theorem dX12_waysAll_7 : decode cX12_waysAll 7 = .ok (.bipush 8, 2) := dk_16 (fdB_of (k := 0) tX12_waysAllf_0 7 16 rfl) (fdB_of (k := 0) tX12_waysAllf_0 8 8 rfl) (by decide +kernel)
theorem dX12_waysAll_9 : decode cX12_waysAll 9 = .ok (.if_icmp .ge 104, 3) := dk_162 (fdB_of (k := 0) tX12_waysAllf_0 9 162 rfl) (fdB_of (k := 0) tX12_waysAllf_0 10 0 rfl) (fdB_of (k := 0) tX12_waysAllf_0 11 104 rfl) (by decide +kernel)
theorem dX12_waysAll_12 : decode cX12_waysAll 12 = .ok (.iconst 0, 1) := dk_3 (fdB_of (k := 0) tX12_waysAllf_0 12 3 rfl)
theorem dX12_waysAll_13 : decode cX12_waysAll 13 = .ok (.istore 5, 2) := dk_54 (fdB_of (k := 0) tX12_waysAllf_0 13 54 rfl) (fdB_of (k := 0) tX12_waysAllf_0 14 5 rfl)
theorem dX12_waysAll_15 : decode cX12_waysAll 15 = .ok (.iconst 0, 1) := dk_3 (fdB_of (k := 0) tX12_waysAllf_0 15 3 rfl)
theorem dX12_waysAll_16 : decode cX12_waysAll 16 = .ok (.istore 6, 2) := dk_54 (fdB_of (k := 16) tX12_waysAllf_1 0 54 rfl) (fdB_of (k := 16) tX12_waysAllf_1 1 6 rfl)
theorem dX12_waysAll_18 : decode cX12_waysAll 18 = .ok (.iload 6, 2) := dk_21 (fdB_of (k := 16) tX12_waysAllf_1 2 21 rfl) (fdB_of (k := 16) tX12_waysAllf_1 3 6 rfl)
theorem dX12_waysAll_20 : decode cX12_waysAll 20 = .ok (.aload_n 0, 1) := dk_42 (fdB_of (k := 16) tX12_waysAllf_1 4 42 rfl)
theorem dX12_waysAll_21 : decode cX12_waysAll 21 = .ok (.getfield 188, 3) := dk_180 (fdB_of (k := 16) tX12_waysAllf_1 5 180 rfl) (fdB_of (k := 16) tX12_waysAllf_1 6 0 rfl) (fdB_of (k := 16) tX12_waysAllf_1 7 188 rfl)
theorem dX12_waysAll_24 : decode cX12_waysAll 24 = .ok (.if_icmp .ge 31, 3) := dk_162 (fdB_of (k := 16) tX12_waysAllf_1 8 162 rfl) (fdB_of (k := 16) tX12_waysAllf_1 9 0 rfl) (fdB_of (k := 16) tX12_waysAllf_1 10 31 rfl) (by decide +kernel)
theorem dX12_waysAll_27 : decode cX12_waysAll 27 = .ok (.iload 5, 2) := dk_21 (fdB_of (k := 16) tX12_waysAllf_1 11 21 rfl) (fdB_of (k := 16) tX12_waysAllf_1 12 5 rfl)
theorem dX12_waysAll_29 : decode cX12_waysAll 29 = .ok (.aload_n 0, 1) := dk_42 (fdB_of (k := 16) tX12_waysAllf_1 13 42 rfl)
theorem dX12_waysAll_30 : decode cX12_waysAll 30 = .ok (.iload_n 1, 1) := dk_27 (fdB_of (k := 16) tX12_waysAllf_1 14 27 rfl)
theorem dX12_waysAll_31 : decode cX12_waysAll 31 = .ok (.iload 6, 2) := dk_21 (fdB_of (k := 16) tX12_waysAllf_1 15 21 rfl) (fdB_of (k := 32) tX12_waysAllf_2 0 6 rfl)
theorem dX12_waysAll_33 : decode cX12_waysAll 33 = .ok (.invokevirtual 182, 3) := dk_182 (fdB_of (k := 32) tX12_waysAllf_2 1 182 rfl) (fdB_of (k := 32) tX12_waysAllf_2 2 0 rfl) (fdB_of (k := 32) tX12_waysAllf_2 3 182 rfl)
theorem dX12_waysAll_36 : decode cX12_waysAll 36 = .ok (.iload 4, 2) := dk_21 (fdB_of (k := 32) tX12_waysAllf_2 4 21 rfl) (fdB_of (k := 32) tX12_waysAllf_2 5 4 rfl)
theorem dX12_waysAll_38 : decode cX12_waysAll 38 = .ok (.if_icmp .ne 7, 3) := dk_160 (fdB_of (k := 32) tX12_waysAllf_2 6 160 rfl) (fdB_of (k := 32) tX12_waysAllf_2 7 0 rfl) (fdB_of (k := 32) tX12_waysAllf_2 8 7 rfl) (by decide +kernel)
theorem dX12_waysAll_41 : decode cX12_waysAll 41 = .ok (.iconst 1, 1) := dk_4 (fdB_of (k := 32) tX12_waysAllf_2 9 4 rfl)
theorem dX12_waysAll_42 : decode cX12_waysAll 42 = .ok (.goto 4, 3) := dk_167 (fdB_of (k := 32) tX12_waysAllf_2 10 167 rfl) (fdB_of (k := 32) tX12_waysAllf_2 11 0 rfl) (fdB_of (k := 32) tX12_waysAllf_2 12 4 rfl) (by decide +kernel)
theorem dX12_waysAll_45 : decode cX12_waysAll 45 = .ok (.iconst 0, 1) := dk_3 (fdB_of (k := 32) tX12_waysAllf_2 13 3 rfl)
theorem dX12_waysAll_46 : decode cX12_waysAll 46 = .ok (.ior, 1) := dk_128 (fdB_of (k := 32) tX12_waysAllf_2 14 128 rfl)
theorem dX12_waysAll_47 : decode cX12_waysAll 47 = .ok (.istore 5, 2) := dk_54 (fdB_of (k := 32) tX12_waysAllf_2 15 54 rfl) (fdB_of (k := 48) tX12_waysAllf_3 0 5 rfl)
theorem dX12_waysAll_49 : decode cX12_waysAll 49 = .ok (.iinc 6 1, 3) := dk_132 (fdB_of (k := 48) tX12_waysAllf_3 1 132 rfl) (fdB_of (k := 48) tX12_waysAllf_3 2 6 rfl) (fdB_of (k := 48) tX12_waysAllf_3 3 1 rfl) (by decide +kernel)
theorem dX12_waysAll_52 : decode cX12_waysAll 52 = .ok (.goto (-34), 3) := dk_167 (fdB_of (k := 48) tX12_waysAllf_3 4 167 rfl) (fdB_of (k := 48) tX12_waysAllf_3 5 255 rfl) (fdB_of (k := 48) tX12_waysAllf_3 6 222 rfl) (by decide +kernel)
theorem dX12_waysAll_55 : decode cX12_waysAll 55 = .ok (.lconst 0, 1) := dk_9 (fdB_of (k := 48) tX12_waysAllf_3 7 9 rfl)
theorem dX12_waysAll_56 : decode cX12_waysAll 56 = .ok (.lstore 6, 2) := dk_55 (fdB_of (k := 48) tX12_waysAllf_3 8 55 rfl) (fdB_of (k := 48) tX12_waysAllf_3 9 6 rfl)
theorem dX12_waysAll_58 : decode cX12_waysAll 58 = .ok (.iconst 0, 1) := dk_3 (fdB_of (k := 48) tX12_waysAllf_3 10 3 rfl)
theorem dX12_waysAll_59 : decode cX12_waysAll 59 = .ok (.istore 8, 2) := dk_54 (fdB_of (k := 48) tX12_waysAllf_3 11 54 rfl) (fdB_of (k := 48) tX12_waysAllf_3 12 8 rfl)
theorem dX12_waysAll_61 : decode cX12_waysAll 61 = .ok (.iload 8, 2) := dk_21 (fdB_of (k := 48) tX12_waysAllf_3 13 21 rfl) (fdB_of (k := 48) tX12_waysAllf_3 14 8 rfl)
theorem dX12_waysAll_63 : decode cX12_waysAll 63 = .ok (.bipush 26, 2) := dk_16 (fdB_of (k := 48) tX12_waysAllf_3 15 16 rfl) (fdB_of (k := 64) tX12_waysAllf_4 0 26 rfl) (by decide +kernel)
theorem dX12_waysAll_65 : decode cX12_waysAll 65 = .ok (.if_icmp .ge 28, 3) := dk_162 (fdB_of (k := 64) tX12_waysAllf_4 1 162 rfl) (fdB_of (k := 64) tX12_waysAllf_4 2 0 rfl) (fdB_of (k := 64) tX12_waysAllf_4 3 28 rfl) (by decide +kernel)
theorem dX12_waysAll_68 : decode cX12_waysAll 68 = .ok (.iload 5, 2) := dk_21 (fdB_of (k := 64) tX12_waysAllf_4 4 21 rfl) (fdB_of (k := 64) tX12_waysAllf_4 5 5 rfl)
theorem dX12_waysAll_70 : decode cX12_waysAll 70 = .ok (.ifCond .eq 23, 3) := dk_153 (fdB_of (k := 64) tX12_waysAllf_4 6 153 rfl) (fdB_of (k := 64) tX12_waysAllf_4 7 0 rfl) (fdB_of (k := 64) tX12_waysAllf_4 8 23 rfl) (by decide +kernel)
theorem dX12_waysAll_73 : decode cX12_waysAll 73 = .ok (.lload 6, 2) := dk_22 (fdB_of (k := 64) tX12_waysAllf_4 9 22 rfl) (fdB_of (k := 64) tX12_waysAllf_4 10 6 rfl)
theorem dX12_waysAll_75 : decode cX12_waysAll 75 = .ok (.aload_n 0, 1) := dk_42 (fdB_of (k := 64) tX12_waysAllf_4 11 42 rfl)
theorem dX12_waysAll_76 : decode cX12_waysAll 76 = .ok (.iload_n 1, 1) := dk_27 (fdB_of (k := 64) tX12_waysAllf_4 12 27 rfl)
theorem dX12_waysAll_77 : decode cX12_waysAll 77 = .ok (.iload 4, 2) := dk_21 (fdB_of (k := 64) tX12_waysAllf_4 13 21 rfl) (fdB_of (k := 64) tX12_waysAllf_4 14 4 rfl)
theorem dX12_waysAll_79 : decode cX12_waysAll 79 = .ok (.iload 8, 2) := dk_21 (fdB_of (k := 64) tX12_waysAllf_4 15 21 rfl) (fdB_of (k := 80) tX12_waysAllf_5 0 8 rfl)
theorem dX12_waysAll_81 : decode cX12_waysAll 81 = .ok (.invokevirtual 245, 3) := dk_182 (fdB_of (k := 80) tX12_waysAllf_5 1 182 rfl) (fdB_of (k := 80) tX12_waysAllf_5 2 0 rfl) (fdB_of (k := 80) tX12_waysAllf_5 3 245 rfl)
theorem dX12_waysAll_84 : decode cX12_waysAll 84 = .ok (.ladd, 1) := dk_97 (fdB_of (k := 80) tX12_waysAllf_5 4 97 rfl)
theorem dX12_waysAll_85 : decode cX12_waysAll 85 = .ok (.lstore 6, 2) := dk_55 (fdB_of (k := 80) tX12_waysAllf_5 5 55 rfl) (fdB_of (k := 80) tX12_waysAllf_5 6 6 rfl)
theorem dX12_waysAll_87 : decode cX12_waysAll 87 = .ok (.iinc 8 1, 3) := dk_132 (fdB_of (k := 80) tX12_waysAllf_5 7 132 rfl) (fdB_of (k := 80) tX12_waysAllf_5 8 8 rfl) (fdB_of (k := 80) tX12_waysAllf_5 9 1 rfl) (by decide +kernel)
theorem dX12_waysAll_90 : decode cX12_waysAll 90 = .ok (.goto (-29), 3) := dk_167 (fdB_of (k := 80) tX12_waysAllf_5 10 167 rfl) (fdB_of (k := 80) tX12_waysAllf_5 11 255 rfl) (fdB_of (k := 80) tX12_waysAllf_5 12 227 rfl) (by decide +kernel)
theorem dX12_waysAll_93 : decode cX12_waysAll 93 = .ok (.lload_n 2, 1) := dk_32 (fdB_of (k := 80) tX12_waysAllf_5 13 32 rfl)
theorem dX12_waysAll_94 : decode cX12_waysAll 94 = .ok (.iload 5, 2) := dk_21 (fdB_of (k := 80) tX12_waysAllf_5 14 21 rfl) (fdB_of (k := 80) tX12_waysAllf_5 15 5 rfl)
theorem dX12_waysAll_96 : decode cX12_waysAll 96 = .ok (.ifCond .eq 8, 3) := dk_153 (fdB_of (k := 96) tX12_waysAllf_6 0 153 rfl) (fdB_of (k := 96) tX12_waysAllf_6 1 0 rfl) (fdB_of (k := 96) tX12_waysAllf_6 2 8 rfl) (by decide +kernel)
theorem dX12_waysAll_99 : decode cX12_waysAll 99 = .ok (.lload 6, 2) := dk_22 (fdB_of (k := 96) tX12_waysAllf_6 3 22 rfl) (fdB_of (k := 96) tX12_waysAllf_6 4 6 rfl)
theorem dX12_waysAll_101 : decode cX12_waysAll 101 = .ok (.goto 4, 3) := dk_167 (fdB_of (k := 96) tX12_waysAllf_6 5 167 rfl) (fdB_of (k := 96) tX12_waysAllf_6 6 0 rfl) (fdB_of (k := 96) tX12_waysAllf_6 7 4 rfl) (by decide +kernel)
theorem dX12_waysAll_104 : decode cX12_waysAll 104 = .ok (.lconst 1, 1) := dk_10 (fdB_of (k := 96) tX12_waysAllf_6 8 10 rfl)
theorem dX12_waysAll_105 : decode cX12_waysAll 105 = .ok (.lmul, 1) := dk_105 (fdB_of (k := 96) tX12_waysAllf_6 9 105 rfl)
theorem dX12_waysAll_106 : decode cX12_waysAll 106 = .ok (.lstore_n 2, 1) := dk_65 (fdB_of (k := 96) tX12_waysAllf_6 10 65 rfl)
theorem dX12_waysAll_107 : decode cX12_waysAll 107 = .ok (.iinc 4 1, 3) := dk_132 (fdB_of (k := 96) tX12_waysAllf_6 11 132 rfl) (fdB_of (k := 96) tX12_waysAllf_6 12 4 rfl) (fdB_of (k := 96) tX12_waysAllf_6 13 1 rfl) (by decide +kernel)
theorem dX12_waysAll_110 : decode cX12_waysAll 110 = .ok (.goto (-105), 3) := dk_167 (fdB_of (k := 96) tX12_waysAllf_6 14 167 rfl) (fdB_of (k := 96) tX12_waysAllf_6 15 255 rfl) (fdB_of (k := 112) tX12_waysAllf_7 0 151 rfl) (by decide +kernel)
theorem dX12_waysAll_113 : decode cX12_waysAll 113 = .ok (.aload_n 0, 1) := dk_42 (fdB_of (k := 112) tX12_waysAllf_7 1 42 rfl)
theorem dX12_waysAll_114 : decode cX12_waysAll 114 = .ok (.getfield 188, 3) := dk_180 (fdB_of (k := 112) tX12_waysAllf_7 2 180 rfl) (fdB_of (k := 112) tX12_waysAllf_7 3 0 rfl) (fdB_of (k := 112) tX12_waysAllf_7 4 188 rfl)
theorem dX12_waysAll_117 : decode cX12_waysAll 117 = .ok (.ifCond .ne 7, 3) := dk_154 (fdB_of (k := 112) tX12_waysAllf_7 5 154 rfl) (fdB_of (k := 112) tX12_waysAllf_7 6 0 rfl) (fdB_of (k := 112) tX12_waysAllf_7 7 7 rfl) (by decide +kernel)
theorem dX12_waysAll_120 : decode cX12_waysAll 120 = .ok (.lconst 0, 1) := dk_9 (fdB_of (k := 112) tX12_waysAllf_7 8 9 rfl)
theorem dX12_waysAll_121 : decode cX12_waysAll 121 = .ok (.goto 4, 3) := dk_167 (fdB_of (k := 112) tX12_waysAllf_7 9 167 rfl) (fdB_of (k := 112) tX12_waysAllf_7 10 0 rfl) (fdB_of (k := 112) tX12_waysAllf_7 11 4 rfl) (by decide +kernel)
theorem dX12_waysAll_124 : decode cX12_waysAll 124 = .ok (.lload_n 2, 1) := dk_32 (fdB_of (k := 112) tX12_waysAllf_7 12 32 rfl)
theorem dX12_waysAll_125 : decode cX12_waysAll 125 = .ok (.lreturn, 1) := dk_173 (fdB_of (k := 112) tX12_waysAllf_7 13 173 rfl)

theorem q0_61 : Cond.selects RX12 yX12_waysOf yX12_waysOf ∈ TT := tq0 61 rfl rfl
theorem q6_95 : Cond.methodLink RX12 245 yX12_waysOf ∈ TT := tq6 95 rfl rfl
theorem q6_97 : Cond.instanceMethod yX12_waysOf ∈ TT := tq6 97 rfl rfl
theorem q6_98 : Cond.code yX12_waysOf cX12_waysOf 10 (some .long) ∈ TT := tq6 98 rfl rfl
theorem lk_RX12_245 : vlk RX12 245 yX12_waysOf cX12_waysOf 10 (some .long) 3 := ⟨List.forall_mem_cons.mpr ⟨q6_95, List.forall_mem_cons.mpr ⟨q6_97, List.forall_mem_cons.mpr ⟨q0_61, List.forall_mem_cons.mpr ⟨q1_12, fun _ h => absurd h List.not_mem_nil⟩⟩⟩⟩, q6_98, by decide, by decide, by decide +kernel⟩
def F_X12_waysAll_b46 (x1 : Int32) (K5 : Int64 → Int32 → SM → Option (Int64 × SM)) (K18 : Int64 → Int32 → Int32 → Int32 → SM → Option (Int64 × SM)) (v2 : Int64) (v4 : Int32) (v6 : Int32) (zs_o : SM) (k0 : Int32) (k1 : Int32) : Option (Int64 × SM) := nm (k0 ||| k1) fun v5_1 => nm (v6 + 1) fun v6_2 => K18 v2 v4 v5_1 v6_2 zs_o
def F_X12_waysAll_b105 (x1 : Int32) (K5 : Int64 → Int32 → SM → Option (Int64 × SM)) (v4 : Int32) (zs_o : SM) (k0 : Int64) (k1 : Int64) : Option (Int64 × SM) := nm (k0 * k1) fun v2_3 => nm (v4 + 1) fun v4_4 => K5 v2_3 v4_4 zs_o
def F_X12_waysAll_b93 (x1 : Int32) (K5 : Int64 → Int32 → SM → Option (Int64 × SM)) (v2 : Int64) (v4 : Int32) (v5 : Int32) (v6 : Int64) (zs_o : SM) : Option (Int64 × SM) := (if v5 = 0 then F_X12_waysAll_b105 x1 K5 v4 zs_o v2 1 else F_X12_waysAll_b105 x1 K5 v4 zs_o v2 v6)
def F_X12_waysAll_b61 (x1 : Int32) (K5 : Int64 → Int32 → SM → Option (Int64 × SM)) : Nat → Int64 → Int32 → Int32 → Int64 → Int32 → SM → Option (Int64 × SM)
  | 0, _, _, _, _, _, _ => none
  | n + 1, v2, v4, v5, v6, v8, zs_o => (if 26 ≤ v8 then F_X12_waysAll_b93 x1 K5 v2 v4 v5 v6 zs_o else (if v5 = 0 then F_X12_waysAll_b93 x1 K5 v2 v4 v5 v6 zs_o else (F_X12_waysOf zs_o x1 v4 v8).bind fun q_5 => nm (v6 + q_5.1) fun v6_6 => nm (v8 + 1) fun v8_7 => (F_X12_waysAll_b61 x1 K5 n) v2 v4 v5 v6_6 v8_7 q_5.2))
def F_X12_waysAll_b18 (x1 : Int32) (K5 : Int64 → Int32 → SM → Option (Int64 × SM)) : Nat → Int64 → Int32 → Int32 → Int32 → SM → Option (Int64 × SM)
  | 0, _, _, _, _, _ => none
  | n + 1, v2, v4, v5, v6, zs_o => (if (mI zs_o 25) ≤ v6 then nm 0 fun v6_8 => nm 0 fun v8_9 => F_X12_waysAll_b61 x1 K5 fu v2 v4 v5 v6_8 v8_9 zs_o else (F_X12_letterOf zs_o x1 v6).bind fun q_10 => (if q_10 = v4 then F_X12_waysAll_b46 x1 K5 (F_X12_waysAll_b18 x1 K5 n) v2 v4 v6 zs_o v5 1 else F_X12_waysAll_b46 x1 K5 (F_X12_waysAll_b18 x1 K5 n) v2 v4 v6 zs_o v5 0))
def F_X12_waysAll_b5 (x1 : Int32) : Nat → Int64 → Int32 → SM → Option (Int64 × SM)
  | 0, _, _, _ => none
  | n + 1, v2, v4, zs_o => (if 8 ≤ v4 then (if (mI zs_o 25) = 0 then some (0, zs_o) else some (v2, zs_o)) else nm 0 fun v5_11 => nm 0 fun v6_12 => F_X12_waysAll_b18 x1 (F_X12_waysAll_b5 x1 n) fu v2 v4 v5_11 v6_12 zs_o)
def F_X12_waysAll (s_o : SM) (x1 : Int32) : Option (Int64 × SM) := nm 1 fun v2_13 => nm 0 fun v4_14 => F_X12_waysAll_b5 x1 fu v2_13 v4_14 s_o

abbrev rm_X12_waysAll : Room := { frames := 3, cells := 0, slots := 0, locals := 75 }
set_option maxHeartbeats 4000000 in
set_option maxRecDepth 100000 in
theorem c_X12_waysAll (l : Launch) (D : gG) (cB cI cJ cZ : ClassId) (o : Nat → Nat) (s_o : SM) (x1 : Int32) (r : Int64 × SM) (hf : F_X12_waysAll s_o x1 = some r) : gM l D (tyL cB cI cJ cZ) yX12_waysAll cX12_waysAll 9 (some .long) rm_X12_waysAll [.ref (o 0), .int x1] (wX12 o cB cI cJ cZ s_o) (some (.long r.1)) (wX12 o cB cI cJ cZ r.2) := by
  refine met_of (by decide) (Nat.le_of_ble_eq_true rfl) ?_
  intro p e s m args below meth c A cx hr hA
  show gW p l e rm_X12_waysAll s m args below meth c D A 9 _ 0 0 _ [(0, .ref (o 0)), (1, .int x1)] 0 []
  have h46 : ∀ (K5 : Int64 → Int32 → SM → Option (Int64 × SM)), (∀ (v2 : Int64) (v4 : Int32) (zs_o : SM), K5 v2 v4 zs_o = some r → gW p l e rm_X12_waysAll s m args below meth c D A 9 (MQ below (QM D (tyL cB cI cJ cZ) (some (.long r.1)) (wX12 o cB cI cJ cZ s_o) (wX12 o cB cI cJ cZ r.2) s.heap.size) args s 0 0 A) 0 0 (wX12 o cB cI cJ cZ zs_o) [(0, .ref (o 0)), (1, .int x1), (2, .long v2), (4, .int v4)] 5 []) → ∀ (K18 : Int64 → Int32 → Int32 → Int32 → SM → Option (Int64 × SM)), (∀ (v2 : Int64) (v4 : Int32) (v5 : Int32) (v6 : Int32) (zs_o : SM), K18 v2 v4 v5 v6 zs_o = some r → gW p l e rm_X12_waysAll s m args below meth c D A 9 (MQ below (QM D (tyL cB cI cJ cZ) (some (.long r.1)) (wX12 o cB cI cJ cZ s_o) (wX12 o cB cI cJ cZ r.2) s.heap.size) args s 0 0 A) 0 0 (wX12 o cB cI cJ cZ zs_o) [(0, .ref (o 0)), (1, .int x1), (2, .long v2), (4, .int v4), (5, .int v5), (6, .int v6)] 18 []) → ∀ (v2 : Int64) (v4 : Int32) (v6 : Int32) (zs_o : SM) (k0 : Int32) (k1 : Int32), F_X12_waysAll_b46 x1 K5 K18 v2 v4 v6 zs_o k0 k1 = some r → gW p l e rm_X12_waysAll s m args below meth c D A 9 (MQ below (QM D (tyL cB cI cJ cZ) (some (.long r.1)) (wX12 o cB cI cJ cZ s_o) (wX12 o cB cI cJ cZ r.2) s.heap.size) args s 0 0 A) 0 0 (wX12 o cB cI cJ cZ zs_o) [(0, .ref (o 0)), (1, .int x1), (2, .long v2), (4, .int v4), (6, .int v6)] 46 [.int k1, .int k0] := by
    intro K5 kh5 K18 kh18 v2 v4 v6 zs_o k0 k1 hf
    rw [F_X12_waysAll_b46] at hf
    refine g_ior cx dX12_waysAll_46 ?_
    refine g_is cx (L2 := fun v5_1 => [(5, .int v5_1), (0, .ref (o 0)), (1, .int x1), (2, .long v2), (4, .int v4), (6, .int v6)]) hf dX12_waysAll_47 (Nat.le_of_ble_eq_true rfl) (fun _ => rfl) (fun v5_1 hf => ?_)
    refine g_inc cx (L2 := fun v6_2 => [(6, .int v6_2), (5, .int v5_1), (0, .ref (o 0)), (1, .int x1), (2, .long v2), (4, .int v4)]) 5 hf dX12_waysAll_49 rfl (k_inc1 _) (Nat.le_of_ble_eq_true rfl) (fun _ => rfl) (fun v6_2 hf => ?_)
    refine g_goto (tgt := 18) cx dX12_waysAll_52 rfl ?_
    refine g_sub [2, 3, 4, 5, 1, 0] rfl ?_
    exact kh18 _ _ _ _ _ hf
  have h105 : ∀ (K5 : Int64 → Int32 → SM → Option (Int64 × SM)), (∀ (v2 : Int64) (v4 : Int32) (zs_o : SM), K5 v2 v4 zs_o = some r → gW p l e rm_X12_waysAll s m args below meth c D A 9 (MQ below (QM D (tyL cB cI cJ cZ) (some (.long r.1)) (wX12 o cB cI cJ cZ s_o) (wX12 o cB cI cJ cZ r.2) s.heap.size) args s 0 0 A) 0 0 (wX12 o cB cI cJ cZ zs_o) [(0, .ref (o 0)), (1, .int x1), (2, .long v2), (4, .int v4)] 5 []) → ∀ (v4 : Int32) (zs_o : SM) (k0 : Int64) (k1 : Int64), F_X12_waysAll_b105 x1 K5 v4 zs_o k0 k1 = some r → gW p l e rm_X12_waysAll s m args below meth c D A 9 (MQ below (QM D (tyL cB cI cJ cZ) (some (.long r.1)) (wX12 o cB cI cJ cZ s_o) (wX12 o cB cI cJ cZ r.2) s.heap.size) args s 0 0 A) 0 0 (wX12 o cB cI cJ cZ zs_o) [(0, .ref (o 0)), (1, .int x1), (4, .int v4)] 105 [.long k1, .long k0] := by
    intro K5 kh5 v4 zs_o k0 k1 hf
    rw [F_X12_waysAll_b105] at hf
    refine g_lmul cx dX12_waysAll_105 ?_
    refine g_lsn cx (L2 := fun v2_3 => [(2, .long v2_3), (0, .ref (o 0)), (1, .int x1), (4, .int v4)]) hf dX12_waysAll_106 (Nat.le_of_ble_eq_true rfl) (fun _ => rfl) (fun v2_3 hf => ?_)
    refine g_inc cx (L2 := fun v4_4 => [(4, .int v4_4), (2, .long v2_3), (0, .ref (o 0)), (1, .int x1)]) 3 hf dX12_waysAll_107 rfl (k_inc1 _) (Nat.le_of_ble_eq_true rfl) (fun _ => rfl) (fun v4_4 hf => ?_)
    refine g_goto (tgt := 5) cx dX12_waysAll_110 rfl ?_
    refine g_sub [2, 3, 1, 0] rfl ?_
    exact kh5 _ _ _ hf
  have h93 : ∀ (K5 : Int64 → Int32 → SM → Option (Int64 × SM)), (∀ (v2 : Int64) (v4 : Int32) (zs_o : SM), K5 v2 v4 zs_o = some r → gW p l e rm_X12_waysAll s m args below meth c D A 9 (MQ below (QM D (tyL cB cI cJ cZ) (some (.long r.1)) (wX12 o cB cI cJ cZ s_o) (wX12 o cB cI cJ cZ r.2) s.heap.size) args s 0 0 A) 0 0 (wX12 o cB cI cJ cZ zs_o) [(0, .ref (o 0)), (1, .int x1), (2, .long v2), (4, .int v4)] 5 []) → ∀ (v2 : Int64) (v4 : Int32) (v5 : Int32) (v6 : Int64) (zs_o : SM), F_X12_waysAll_b93 x1 K5 v2 v4 v5 v6 zs_o = some r → gW p l e rm_X12_waysAll s m args below meth c D A 9 (MQ below (QM D (tyL cB cI cJ cZ) (some (.long r.1)) (wX12 o cB cI cJ cZ s_o) (wX12 o cB cI cJ cZ r.2) s.heap.size) args s 0 0 A) 0 0 (wX12 o cB cI cJ cZ zs_o) [(0, .ref (o 0)), (1, .int x1), (2, .long v2), (4, .int v4), (5, .int v5), (6, .long v6)] 93 [] := by
    intro K5 kh5 v2 v4 v5 v6 zs_o hf
    rw [F_X12_waysAll_b93] at hf
    refine g_lln cx 2 dX12_waysAll_93 rfl ?_
    refine g_il cx 4 dX12_waysAll_94 rfl ?_
    refine g_if_eq (tgt := 104) cx hf dX12_waysAll_96 rfl (fun hf => ?_) (fun hf => ?_)
    · refine g_lc cx dX12_waysAll_104 rfl ?_
      refine g_sub [0, 1, 3] rfl ?_
      exact h105 _ kh5 _ _ _ _ hf
    · refine g_ll cx 5 dX12_waysAll_99 rfl ?_
      refine g_goto (tgt := 105) cx dX12_waysAll_101 rfl ?_
      refine g_sub [0, 1, 3] rfl ?_
      exact h105 _ kh5 _ _ _ _ hf
  have h61 : ∀ (K5 : Int64 → Int32 → SM → Option (Int64 × SM)), (∀ (v2 : Int64) (v4 : Int32) (zs_o : SM), K5 v2 v4 zs_o = some r → gW p l e rm_X12_waysAll s m args below meth c D A 9 (MQ below (QM D (tyL cB cI cJ cZ) (some (.long r.1)) (wX12 o cB cI cJ cZ s_o) (wX12 o cB cI cJ cZ r.2) s.heap.size) args s 0 0 A) 0 0 (wX12 o cB cI cJ cZ zs_o) [(0, .ref (o 0)), (1, .int x1), (2, .long v2), (4, .int v4)] 5 []) → ∀ (n : Nat) (v2 : Int64) (v4 : Int32) (v5 : Int32) (v6 : Int64) (v8 : Int32) (zs_o : SM), F_X12_waysAll_b61 x1 K5 n v2 v4 v5 v6 v8 zs_o = some r → gW p l e rm_X12_waysAll s m args below meth c D A 9 (MQ below (QM D (tyL cB cI cJ cZ) (some (.long r.1)) (wX12 o cB cI cJ cZ s_o) (wX12 o cB cI cJ cZ r.2) s.heap.size) args s 0 0 A) 0 0 (wX12 o cB cI cJ cZ zs_o) [(0, .ref (o 0)), (1, .int x1), (2, .long v2), (4, .int v4), (5, .int v5), (6, .long v6), (8, .int v8)] 61 [] := by
    intro K5 kh5 n
    induction n with
    | zero => intro v2 v4 v5 v6 v8 zs_o hf; rw [F_X12_waysAll_b61] at hf; cases hf
    | succ n ih =>
      intro v2 v4 v5 v6 v8 zs_o hf
      rw [F_X12_waysAll_b61] at hf
      refine g_il cx 6 dX12_waysAll_61 rfl ?_
      refine g_bp cx dX12_waysAll_63 k_bp26 ?_
      refine g_ic_ge (tgt := 93) cx hf dX12_waysAll_65 rfl (fun hf => ?_) (fun hf => ?_)
      · refine g_sub [0, 1, 2, 3, 4, 5] rfl ?_
        exact h93 _ kh5 _ _ _ _ _ hf
      · refine g_il cx 4 dX12_waysAll_68 rfl ?_
        refine g_if_eq (tgt := 93) cx hf dX12_waysAll_70 rfl (fun hf => ?_) (fun hf => ?_)
        · refine g_sub [0, 1, 2, 3, 4, 5] rfl ?_
          exact h93 _ kh5 _ _ _ _ _ hf
        · refine g_ll cx 5 dX12_waysAll_73 rfl ?_
          refine g_aln cx 0 dX12_waysAll_75 rfl ?_
          refine g_iln cx 1 dX12_waysAll_76 rfl ?_
          refine g_il cx 3 dX12_waysAll_77 rfl ?_
          refine g_il cx 6 dX12_waysAll_79 rfl ?_
          refine ob hf (fun q_5 hq_5 hf => ?_)
          refine g_callVFl cx lk_RX12_245 (c_X12_waysOf l D cB cI cJ cZ o zs_o x1 v4 v8 q_5 hq_5) rfl (ci := 10) (q1 := 0) rfl rfl rfl (Nat.le_of_ble_eq_true rfl) ⟨rfl, rfl, Nat.le_of_ble_eq_true rfl, Nat.le_of_ble_eq_true rfl⟩ dX12_waysAll_81 ?_
          refine g_ladd cx dX12_waysAll_84 ?_
          refine g_ls cx (L2 := fun v6_6 => [(6, .long v6_6), (0, .ref (o 0)), (1, .int x1), (2, .long v2), (4, .int v4), (5, .int v5), (8, .int v8)]) hf dX12_waysAll_85 (Nat.le_of_ble_eq_true rfl) (fun _ => rfl) (fun v6_6 hf => ?_)
          refine g_inc cx (L2 := fun v8_7 => [(8, .int v8_7), (6, .long v6_6), (0, .ref (o 0)), (1, .int x1), (2, .long v2), (4, .int v4), (5, .int v5)]) 6 hf dX12_waysAll_87 rfl (k_inc1 _) (Nat.le_of_ble_eq_true rfl) (fun _ => rfl) (fun v8_7 hf => ?_)
          refine g_goto (tgt := 61) cx dX12_waysAll_90 rfl ?_
          refine g_sub [2, 3, 4, 5, 6, 1, 0] rfl ?_
          exact ih _ _ _ _ _ _ hf
  have h18 : ∀ (K5 : Int64 → Int32 → SM → Option (Int64 × SM)), (∀ (v2 : Int64) (v4 : Int32) (zs_o : SM), K5 v2 v4 zs_o = some r → gW p l e rm_X12_waysAll s m args below meth c D A 9 (MQ below (QM D (tyL cB cI cJ cZ) (some (.long r.1)) (wX12 o cB cI cJ cZ s_o) (wX12 o cB cI cJ cZ r.2) s.heap.size) args s 0 0 A) 0 0 (wX12 o cB cI cJ cZ zs_o) [(0, .ref (o 0)), (1, .int x1), (2, .long v2), (4, .int v4)] 5 []) → ∀ (n : Nat) (v2 : Int64) (v4 : Int32) (v5 : Int32) (v6 : Int32) (zs_o : SM), F_X12_waysAll_b18 x1 K5 n v2 v4 v5 v6 zs_o = some r → gW p l e rm_X12_waysAll s m args below meth c D A 9 (MQ below (QM D (tyL cB cI cJ cZ) (some (.long r.1)) (wX12 o cB cI cJ cZ s_o) (wX12 o cB cI cJ cZ r.2) s.heap.size) args s 0 0 A) 0 0 (wX12 o cB cI cJ cZ zs_o) [(0, .ref (o 0)), (1, .int x1), (2, .long v2), (4, .int v4), (5, .int v5), (6, .int v6)] 18 [] := by
    intro K5 kh5 n
    induction n with
    | zero => intro v2 v4 v5 v6 zs_o hf; rw [F_X12_waysAll_b18] at hf; cases hf
    | succ n ih =>
      intro v2 v4 v5 v6 zs_o hf
      rw [F_X12_waysAll_b18] at hf
      refine g_il cx 5 dX12_waysAll_18 rfl ?_
      refine g_aln cx 0 dX12_waysAll_20 rfl ?_
      refine mg_many cx dX12_waysAll_21 ?_
      refine g_ic_ge (tgt := 55) cx hf dX12_waysAll_24 rfl (fun hf => ?_) (fun hf => ?_)
      · refine g_lc cx dX12_waysAll_55 rfl ?_
        refine g_ls cx (L2 := fun v6_8 => [(6, .long v6_8), (0, .ref (o 0)), (1, .int x1), (2, .long v2), (4, .int v4), (5, .int v5)]) hf dX12_waysAll_56 (Nat.le_of_ble_eq_true rfl) (fun _ => rfl) (fun v6_8 hf => ?_)
        refine g_ic cx dX12_waysAll_58 k_ic0 ?_
        refine g_is cx (L2 := fun v8_9 => [(8, .int v8_9), (6, .long v6_8), (0, .ref (o 0)), (1, .int x1), (2, .long v2), (4, .int v4), (5, .int v5)]) hf dX12_waysAll_59 (Nat.le_of_ble_eq_true rfl) (fun _ => rfl) (fun v8_9 hf => ?_)
        refine g_sub [2, 3, 4, 5, 6, 1, 0] rfl ?_
        exact h61 _ kh5 fu _ _ _ _ _ _ hf
      · refine g_il cx 4 dX12_waysAll_27 rfl ?_
        refine g_aln cx 0 dX12_waysAll_29 rfl ?_
        refine g_iln cx 1 dX12_waysAll_30 rfl ?_
        refine g_il cx 5 dX12_waysAll_31 rfl ?_
        refine ob hf (fun q_10 hq_10 hf => ?_)
        refine g_callVFi cx lk_RX12_182 (c_X12_letterOf l D cB cI cJ cZ o zs_o x1 v6 q_10 hq_10) rfl (ci := 10) (q1 := 0) rfl rfl rfl (Nat.le_of_ble_eq_true rfl) ⟨rfl, rfl, Nat.le_of_ble_eq_true rfl, Nat.le_of_ble_eq_true rfl⟩ dX12_waysAll_33 ?_
        refine g_il cx 3 dX12_waysAll_36 rfl ?_
        refine g_ic_ne (tgt := 45) cx hf dX12_waysAll_38 rfl (fun hf => ?_) (fun hf => ?_)
        · refine g_ic cx dX12_waysAll_45 k_ic0 ?_
          refine g_sub [0, 1, 2, 3, 5] rfl ?_
          exact h46 _ kh5 _ ih _ _ _ _ _ _ hf
        · refine g_ic cx dX12_waysAll_41 k_ic1 ?_
          refine g_goto (tgt := 46) cx dX12_waysAll_42 rfl ?_
          refine g_sub [0, 1, 2, 3, 5] rfl ?_
          exact h46 _ kh5 _ ih _ _ _ _ _ _ hf
  have h5 : ∀ (n : Nat) (v2 : Int64) (v4 : Int32) (zs_o : SM), F_X12_waysAll_b5 x1 n v2 v4 zs_o = some r → gW p l e rm_X12_waysAll s m args below meth c D A 9 (MQ below (QM D (tyL cB cI cJ cZ) (some (.long r.1)) (wX12 o cB cI cJ cZ s_o) (wX12 o cB cI cJ cZ r.2) s.heap.size) args s 0 0 A) 0 0 (wX12 o cB cI cJ cZ zs_o) [(0, .ref (o 0)), (1, .int x1), (2, .long v2), (4, .int v4)] 5 [] := by
    intro n
    induction n with
    | zero => intro v2 v4 zs_o hf; rw [F_X12_waysAll_b5] at hf; cases hf
    | succ n ih =>
      intro v2 v4 zs_o hf
      rw [F_X12_waysAll_b5] at hf
      refine g_il cx 3 dX12_waysAll_5 rfl ?_
      refine g_bp cx dX12_waysAll_7 k_bp8 ?_
      refine g_ic_ge (tgt := 113) cx hf dX12_waysAll_9 rfl (fun hf => ?_) (fun hf => ?_)
      · refine g_aln cx 0 dX12_waysAll_113 rfl ?_
        refine mg_many cx dX12_waysAll_114 ?_
        refine g_if_ne (tgt := 124) cx hf dX12_waysAll_117 rfl (fun hf => ?_) (fun hf => ?_)
        · refine g_lln cx 2 dX12_waysAll_124 rfl ?_
          exact g_lret (ovf := fun (r : Int64 × SM) => (some (.long r.1))) (wf := fun (r : Int64 × SM) => (wX12 o cB cI cJ cZ r.2)) cx hA hr hf rfl rfl dX12_waysAll_125
        · refine g_lc cx dX12_waysAll_120 rfl ?_
          refine g_goto (tgt := 125) cx dX12_waysAll_121 rfl ?_
          exact g_lret (ovf := fun (r : Int64 × SM) => (some (.long r.1))) (wf := fun (r : Int64 × SM) => (wX12 o cB cI cJ cZ r.2)) cx hA hr hf rfl rfl dX12_waysAll_125
      · refine g_ic cx dX12_waysAll_12 k_ic0 ?_
        refine g_is cx (L2 := fun v5_11 => [(5, .int v5_11), (0, .ref (o 0)), (1, .int x1), (2, .long v2), (4, .int v4)]) hf dX12_waysAll_13 (Nat.le_of_ble_eq_true rfl) (fun _ => rfl) (fun v5_11 hf => ?_)
        refine g_ic cx dX12_waysAll_15 k_ic0 ?_
        refine g_is cx (L2 := fun v6_12 => [(6, .int v6_12), (5, .int v5_11), (0, .ref (o 0)), (1, .int x1), (2, .long v2), (4, .int v4)]) hf dX12_waysAll_16 (Nat.le_of_ble_eq_true rfl) (fun _ => rfl) (fun v6_12 hf => ?_)
        refine g_sub [2, 3, 4, 5, 1, 0] rfl ?_
        exact h18 _ ih fu _ _ _ _ _ hf
  rw [F_X12_waysAll] at hf
  refine g_lc cx dX12_waysAll_0 rfl ?_
  refine g_lsn cx (L2 := fun v2_13 => [(2, .long v2_13), (0, .ref (o 0)), (1, .int x1)]) hf dX12_waysAll_1 (Nat.le_of_ble_eq_true rfl) (fun _ => rfl) (fun v2_13 hf => ?_)
  refine g_ic cx dX12_waysAll_2 k_ic0 ?_
  refine g_is cx (L2 := fun v4_14 => [(4, .int v4_14), (2, .long v2_13), (0, .ref (o 0)), (1, .int x1)]) hf dX12_waysAll_3 (Nat.le_of_ble_eq_true rfl) (fun _ => rfl) (fun v4_14 hf => ?_)
  refine g_sub [2, 3, 1, 0] rfl ?_
  exact h5 fu _ _ _ hf
def tX12_burnt_11 : List Nat := 9 :: 97 :: 55 :: 6 :: 132 :: 8 :: 1 :: 167 :: 255 :: 200 :: 22 :: 6 :: 173 :: []
def tX12_burnt_10 : List Nat := 0 :: 17 :: 42 :: 27 :: 182 :: 0 :: 251 :: 9 :: 148 :: 158 :: 0 :: 7 :: 10 :: 167 :: 0 :: 4 :: tX12_burnt_11
def tX12_burnt_9 : List Nat := 4 :: 21 :: 8 :: 120 :: 126 :: 79 :: 22 :: 6 :: 42 :: 180 :: 0 :: 59 :: 21 :: 4 :: 46 :: 153 :: tX12_burnt_10
def tX12_burnt_8 : List Nat := 8 :: 42 :: 180 :: 0 :: 166 :: 162 :: 0 :: 53 :: 42 :: 180 :: 0 :: 59 :: 21 :: 4 :: 21 :: 5 :: tX12_burnt_9
def tX12_burnt_7 : List Nat := 42 :: 180 :: 0 :: 59 :: 21 :: 4 :: 46 :: 54 :: 5 :: 9 :: 55 :: 6 :: 3 :: 54 :: 8 :: 21 :: tX12_burnt_8
def tX12_burnt_6 : List Nat := 5 :: 1 :: 167 :: 255 :: 203 :: 21 :: 4 :: 156 :: 0 :: 9 :: 42 :: 27 :: 182 :: 0 :: 251 :: 173 :: tX12_burnt_7
def tX12_burnt_5 : List Nat := 16 :: 4 :: 42 :: 180 :: 0 :: 28 :: 4 :: 6 :: 21 :: 5 :: 104 :: 96 :: 46 :: 120 :: 79 :: 132 :: tX12_burnt_6
def tX12_burnt_4 : List Nat := 4 :: 126 :: 4 :: 160 :: 0 :: 14 :: 4 :: 42 :: 180 :: 0 :: 166 :: 120 :: 4 :: 100 :: 167 :: 0 :: tX12_burnt_5
def tX12_burnt_3 : List Nat := 180 :: 0 :: 188 :: 162 :: 0 :: 50 :: 42 :: 180 :: 0 :: 59 :: 21 :: 5 :: 29 :: 21 :: 5 :: 122 :: tX12_burnt_4
def tX12_burnt_2 : List Nat := 173 :: 42 :: 182 :: 0 :: 198 :: 42 :: 28 :: 182 :: 0 :: 201 :: 3 :: 54 :: 5 :: 21 :: 5 :: 42 :: tX12_burnt_3
def tX12_burnt_1 : List Nat := 2 :: 159 :: 0 :: 16 :: 42 :: 21 :: 4 :: 182 :: 0 :: 185 :: 154 :: 0 :: 7 :: 20 :: 0 :: 249 :: tX12_burnt_2
def tX12_burnt_0 : List Nat := 42 :: 3 :: 181 :: 0 :: 78 :: 42 :: 27 :: 28 :: 182 :: 0 :: 178 :: 153 :: 0 :: 18 :: 21 :: 4 :: tX12_burnt_1
theorem tX12_burntf_0 : (cX12_burnt.data.toList.map UInt8.toNat).drop 0 = tX12_burnt_0 := by decide +kernel
theorem tX12_burntf_1 : (cX12_burnt.data.toList.map UInt8.toNat).drop 16 = tX12_burnt_1 := fd_next (k := 0) tX12_burntf_0 rfl
theorem tX12_burntf_2 : (cX12_burnt.data.toList.map UInt8.toNat).drop 32 = tX12_burnt_2 := fd_next (k := 16) tX12_burntf_1 rfl
theorem tX12_burntf_3 : (cX12_burnt.data.toList.map UInt8.toNat).drop 48 = tX12_burnt_3 := fd_next (k := 32) tX12_burntf_2 rfl
theorem tX12_burntf_4 : (cX12_burnt.data.toList.map UInt8.toNat).drop 64 = tX12_burnt_4 := fd_next (k := 48) tX12_burntf_3 rfl
theorem tX12_burntf_5 : (cX12_burnt.data.toList.map UInt8.toNat).drop 80 = tX12_burnt_5 := fd_next (k := 64) tX12_burntf_4 rfl
theorem tX12_burntf_6 : (cX12_burnt.data.toList.map UInt8.toNat).drop 96 = tX12_burnt_6 := fd_next (k := 80) tX12_burntf_5 rfl
theorem tX12_burntf_7 : (cX12_burnt.data.toList.map UInt8.toNat).drop 112 = tX12_burnt_7 := fd_next (k := 96) tX12_burntf_6 rfl
theorem tX12_burntf_8 : (cX12_burnt.data.toList.map UInt8.toNat).drop 128 = tX12_burnt_8 := fd_next (k := 112) tX12_burntf_7 rfl
theorem tX12_burntf_9 : (cX12_burnt.data.toList.map UInt8.toNat).drop 144 = tX12_burnt_9 := fd_next (k := 128) tX12_burntf_8 rfl
theorem tX12_burntf_10 : (cX12_burnt.data.toList.map UInt8.toNat).drop 160 = tX12_burnt_10 := fd_next (k := 144) tX12_burntf_9 rfl
theorem tX12_burntf_11 : (cX12_burnt.data.toList.map UInt8.toNat).drop 176 = tX12_burnt_11 := fd_next (k := 160) tX12_burntf_10 rfl
theorem dX12_burnt_0 : decode cX12_burnt 0 = .ok (.aload_n 0, 1) := dk_42 (fdB_of (k := 0) tX12_burntf_0 0 42 rfl)
theorem dX12_burnt_1 : decode cX12_burnt 1 = .ok (.iconst 0, 1) := dk_3 (fdB_of (k := 0) tX12_burntf_0 1 3 rfl)
theorem dX12_burnt_2 : decode cX12_burnt 2 = .ok (.putfield 78, 3) := dk_181 (fdB_of (k := 0) tX12_burntf_0 2 181 rfl) (fdB_of (k := 0) tX12_burntf_0 3 0 rfl) (fdB_of (k := 0) tX12_burntf_0 4 78 rfl)
theorem dX12_burnt_5 : decode cX12_burnt 5 = .ok (.aload_n 0, 1) := dk_42 (fdB_of (k := 0) tX12_burntf_0 5 42 rfl)
theorem dX12_burnt_6 : decode cX12_burnt 6 = .ok (.iload_n 1, 1) := dk_27 (fdB_of (k := 0) tX12_burntf_0 6 27 rfl)
theorem dX12_burnt_7 : decode cX12_burnt 7 = .ok (.iload_n 2, 1) := dk_28 (fdB_of (k := 0) tX12_burntf_0 7 28 rfl)
theorem dX12_burnt_8 : decode cX12_burnt 8 = .ok (.invokevirtual 178, 3) := dk_182 (fdB_of (k := 0) tX12_burntf_0 8 182 rfl) (fdB_of (k := 0) tX12_burntf_0 9 0 rfl) (fdB_of (k := 0) tX12_burntf_0 10 178 rfl)
theorem dX12_burnt_11 : decode cX12_burnt 11 = .ok (.ifCond .eq 18, 3) := dk_153 (fdB_of (k := 0) tX12_burntf_0 11 153 rfl) (fdB_of (k := 0) tX12_burntf_0 12 0 rfl) (fdB_of (k := 0) tX12_burntf_0 13 18 rfl) (by decide +kernel)
theorem dX12_burnt_14 : decode cX12_burnt 14 = .ok (.iload 4, 2) := dk_21 (fdB_of (k := 0) tX12_burntf_0 14 21 rfl) (fdB_of (k := 0) tX12_burntf_0 15 4 rfl)
theorem dX12_burnt_16 : decode cX12_burnt 16 = .ok (.iconst (-1), 1) := dk_2 (fdB_of (k := 16) tX12_burntf_1 0 2 rfl)
theorem dX12_burnt_17 : decode cX12_burnt 17 = .ok (.if_icmp .eq 16, 3) := dk_159 (fdB_of (k := 16) tX12_burntf_1 1 159 rfl) (fdB_of (k := 16) tX12_burntf_1 2 0 rfl) (fdB_of (k := 16) tX12_burntf_1 3 16 rfl) (by decide +kernel)
theorem dX12_burnt_20 : decode cX12_burnt 20 = .ok (.aload_n 0, 1) := dk_42 (fdB_of (k := 16) tX12_burntf_1 4 42 rfl)
theorem dX12_burnt_21 : decode cX12_burnt 21 = .ok (.iload 4, 2) := dk_21 (fdB_of (k := 16) tX12_burntf_1 5 21 rfl) (fdB_of (k := 16) tX12_burntf_1 6 4 rfl)
theorem dX12_burnt_23 : decode cX12_burnt 23 = .ok (.invokevirtual 185, 3) := dk_182 (fdB_of (k := 16) tX12_burntf_1 7 182 rfl) (fdB_of (k := 16) tX12_burntf_1 8 0 rfl) (fdB_of (k := 16) tX12_burntf_1 9 185 rfl)
theorem dX12_burnt_26 : decode cX12_burnt 26 = .ok (.ifCond .ne 7, 3) := dk_154 (fdB_of (k := 16) tX12_burntf_1 10 154 rfl) (fdB_of (k := 16) tX12_burntf_1 11 0 rfl) (fdB_of (k := 16) tX12_burntf_1 12 7 rfl) (by decide +kernel)
theorem dX12_burnt_29 : decode cX12_burnt 29 = .ok (.ldc2_w 249, 3) := dk_20 (fdB_of (k := 16) tX12_burntf_1 13 20 rfl) (fdB_of (k := 16) tX12_burntf_1 14 0 rfl) (fdB_of (k := 16) tX12_burntf_1 15 249 rfl)
theorem dX12_burnt_32 : decode cX12_burnt 32 = .ok (.lreturn, 1) := dk_173 (fdB_of (k := 32) tX12_burntf_2 0 173 rfl)
theorem dX12_burnt_33 : decode cX12_burnt 33 = .ok (.aload_n 0, 1) := dk_42 (fdB_of (k := 32) tX12_burntf_2 1 42 rfl)
theorem dX12_burnt_34 : decode cX12_burnt 34 = .ok (.invokevirtual 198, 3) := dk_182 (fdB_of (k := 32) tX12_burntf_2 2 182 rfl) (fdB_of (k := 32) tX12_burntf_2 3 0 rfl) (fdB_of (k := 32) tX12_burntf_2 4 198 rfl)
theorem dX12_burnt_37 : decode cX12_burnt 37 = .ok (.aload_n 0, 1) := dk_42 (fdB_of (k := 32) tX12_burntf_2 5 42 rfl)
theorem dX12_burnt_38 : decode cX12_burnt 38 = .ok (.iload_n 2, 1) := dk_28 (fdB_of (k := 32) tX12_burntf_2 6 28 rfl)
theorem dX12_burnt_39 : decode cX12_burnt 39 = .ok (.invokevirtual 201, 3) := dk_182 (fdB_of (k := 32) tX12_burntf_2 7 182 rfl) (fdB_of (k := 32) tX12_burntf_2 8 0 rfl) (fdB_of (k := 32) tX12_burntf_2 9 201 rfl)
theorem dX12_burnt_42 : decode cX12_burnt 42 = .ok (.iconst 0, 1) := dk_3 (fdB_of (k := 32) tX12_burntf_2 10 3 rfl)
theorem dX12_burnt_43 : decode cX12_burnt 43 = .ok (.istore 5, 2) := dk_54 (fdB_of (k := 32) tX12_burntf_2 11 54 rfl) (fdB_of (k := 32) tX12_burntf_2 12 5 rfl)
theorem dX12_burnt_45 : decode cX12_burnt 45 = .ok (.iload 5, 2) := dk_21 (fdB_of (k := 32) tX12_burntf_2 13 21 rfl) (fdB_of (k := 32) tX12_burntf_2 14 5 rfl)
theorem dX12_burnt_47 : decode cX12_burnt 47 = .ok (.aload_n 0, 1) := dk_42 (fdB_of (k := 32) tX12_burntf_2 15 42 rfl)
theorem dX12_burnt_48 : decode cX12_burnt 48 = .ok (.getfield 188, 3) := dk_180 (fdB_of (k := 48) tX12_burntf_3 0 180 rfl) (fdB_of (k := 48) tX12_burntf_3 1 0 rfl) (fdB_of (k := 48) tX12_burntf_3 2 188 rfl)
theorem dX12_burnt_51 : decode cX12_burnt 51 = .ok (.if_icmp .ge 50, 3) := dk_162 (fdB_of (k := 48) tX12_burntf_3 3 162 rfl) (fdB_of (k := 48) tX12_burntf_3 4 0 rfl) (fdB_of (k := 48) tX12_burntf_3 5 50 rfl) (by decide +kernel)
theorem dX12_burnt_54 : decode cX12_burnt 54 = .ok (.aload_n 0, 1) := dk_42 (fdB_of (k := 48) tX12_burntf_3 6 42 rfl)
theorem dX12_burnt_55 : decode cX12_burnt 55 = .ok (.getfield 59, 3) := dk_180 (fdB_of (k := 48) tX12_burntf_3 7 180 rfl) (fdB_of (k := 48) tX12_burntf_3 8 0 rfl) (fdB_of (k := 48) tX12_burntf_3 9 59 rfl)
theorem dX12_burnt_58 : decode cX12_burnt 58 = .ok (.iload 5, 2) := dk_21 (fdB_of (k := 48) tX12_burntf_3 10 21 rfl) (fdB_of (k := 48) tX12_burntf_3 11 5 rfl)
theorem dX12_burnt_60 : decode cX12_burnt 60 = .ok (.iload_n 3, 1) := dk_29 (fdB_of (k := 48) tX12_burntf_3 12 29 rfl)
theorem dX12_burnt_61 : decode cX12_burnt 61 = .ok (.iload 5, 2) := dk_21 (fdB_of (k := 48) tX12_burntf_3 13 21 rfl) (fdB_of (k := 48) tX12_burntf_3 14 5 rfl)
theorem dX12_burnt_63 : decode cX12_burnt 63 = .ok (.ishr, 1) := dk_122 (fdB_of (k := 48) tX12_burntf_3 15 122 rfl)
theorem dX12_burnt_64 : decode cX12_burnt 64 = .ok (.iconst 1, 1) := dk_4 (fdB_of (k := 64) tX12_burntf_4 0 4 rfl)
theorem dX12_burnt_65 : decode cX12_burnt 65 = .ok (.iand, 1) := dk_126 (fdB_of (k := 64) tX12_burntf_4 1 126 rfl)
theorem dX12_burnt_66 : decode cX12_burnt 66 = .ok (.iconst 1, 1) := dk_4 (fdB_of (k := 64) tX12_burntf_4 2 4 rfl)
theorem dX12_burnt_67 : decode cX12_burnt 67 = .ok (.if_icmp .ne 14, 3) := dk_160 (fdB_of (k := 64) tX12_burntf_4 3 160 rfl) (fdB_of (k := 64) tX12_burntf_4 4 0 rfl) (fdB_of (k := 64) tX12_burntf_4 5 14 rfl) (by decide +kernel)
theorem dX12_burnt_70 : decode cX12_burnt 70 = .ok (.iconst 1, 1) := dk_4 (fdB_of (k := 64) tX12_burntf_4 6 4 rfl)
theorem dX12_burnt_71 : decode cX12_burnt 71 = .ok (.aload_n 0, 1) := dk_42 (fdB_of (k := 64) tX12_burntf_4 7 42 rfl)
theorem dX12_burnt_72 : decode cX12_burnt 72 = .ok (.getfield 166, 3) := dk_180 (fdB_of (k := 64) tX12_burntf_4 8 180 rfl) (fdB_of (k := 64) tX12_burntf_4 9 0 rfl) (fdB_of (k := 64) tX12_burntf_4 10 166 rfl)
theorem dX12_burnt_75 : decode cX12_burnt 75 = .ok (.ishl, 1) := dk_120 (fdB_of (k := 64) tX12_burntf_4 11 120 rfl)
theorem dX12_burnt_76 : decode cX12_burnt 76 = .ok (.iconst 1, 1) := dk_4 (fdB_of (k := 64) tX12_burntf_4 12 4 rfl)
theorem dX12_burnt_77 : decode cX12_burnt 77 = .ok (.isub, 1) := dk_100 (fdB_of (k := 64) tX12_burntf_4 13 100 rfl)
theorem dX12_burnt_78 : decode cX12_burnt 78 = .ok (.goto 16, 3) := dk_167 (fdB_of (k := 64) tX12_burntf_4 14 167 rfl) (fdB_of (k := 64) tX12_burntf_4 15 0 rfl) (fdB_of (k := 80) tX12_burntf_5 0 16 rfl) (by decide +kernel)
theorem dX12_burnt_81 : decode cX12_burnt 81 = .ok (.iconst 1, 1) := dk_4 (fdB_of (k := 80) tX12_burntf_5 1 4 rfl)
theorem dX12_burnt_82 : decode cX12_burnt 82 = .ok (.aload_n 0, 1) := dk_42 (fdB_of (k := 80) tX12_burntf_5 2 42 rfl)
theorem dX12_burnt_83 : decode cX12_burnt 83 = .ok (.getfield 28, 3) := dk_180 (fdB_of (k := 80) tX12_burntf_5 3 180 rfl) (fdB_of (k := 80) tX12_burntf_5 4 0 rfl) (fdB_of (k := 80) tX12_burntf_5 5 28 rfl)
theorem dX12_burnt_86 : decode cX12_burnt 86 = .ok (.iconst 1, 1) := dk_4 (fdB_of (k := 80) tX12_burntf_5 6 4 rfl)
theorem dX12_burnt_87 : decode cX12_burnt 87 = .ok (.iconst 3, 1) := dk_6 (fdB_of (k := 80) tX12_burntf_5 7 6 rfl)
theorem dX12_burnt_88 : decode cX12_burnt 88 = .ok (.iload 5, 2) := dk_21 (fdB_of (k := 80) tX12_burntf_5 8 21 rfl) (fdB_of (k := 80) tX12_burntf_5 9 5 rfl)
theorem dX12_burnt_90 : decode cX12_burnt 90 = .ok (.imul, 1) := dk_104 (fdB_of (k := 80) tX12_burntf_5 10 104 rfl)
theorem dX12_burnt_91 : decode cX12_burnt 91 = .ok (.iadd, 1) := dk_96 (fdB_of (k := 80) tX12_burntf_5 11 96 rfl)
theorem dX12_burnt_92 : decode cX12_burnt 92 = .ok (.iaload, 1) := dk_46 (fdB_of (k := 80) tX12_burntf_5 12 46 rfl)
theorem dX12_burnt_93 : decode cX12_burnt 93 = .ok (.ishl, 1) := dk_120 (fdB_of (k := 80) tX12_burntf_5 13 120 rfl)
theorem dX12_burnt_94 : decode cX12_burnt 94 = .ok (.iastore, 1) := dk_79 (fdB_of (k := 80) tX12_burntf_5 14 79 rfl)
theorem dX12_burnt_95 : decode cX12_burnt 95 = .ok (.iinc 5 1, 3) := dk_132 (fdB_of (k := 80) tX12_burntf_5 15 132 rfl) (fdB_of (k := 96) tX12_burntf_6 0 5 rfl) (fdB_of (k := 96) tX12_burntf_6 1 1 rfl) (by decide +kernel)
theorem dX12_burnt_98 : decode cX12_burnt 98 = .ok (.goto (-53), 3) := dk_167 (fdB_of (k := 96) tX12_burntf_6 2 167 rfl) (fdB_of (k := 96) tX12_burntf_6 3 255 rfl) (fdB_of (k := 96) tX12_burntf_6 4 203 rfl) (by decide +kernel)
theorem dX12_burnt_101 : decode cX12_burnt 101 = .ok (.iload 4, 2) := dk_21 (fdB_of (k := 96) tX12_burntf_6 5 21 rfl) (fdB_of (k := 96) tX12_burntf_6 6 4 rfl)
theorem dX12_burnt_103 : decode cX12_burnt 103 = .ok (.ifCond .ge 9, 3) := dk_156 (fdB_of (k := 96) tX12_burntf_6 7 156 rfl) (fdB_of (k := 96) tX12_burntf_6 8 0 rfl) (fdB_of (k := 96) tX12_burntf_6 9 9 rfl) (by decide +kernel)
theorem dX12_burnt_106 : decode cX12_burnt 106 = .ok (.aload_n 0, 1) := dk_42 (fdB_of (k := 96) tX12_burntf_6 10 42 rfl)
theorem dX12_burnt_107 : decode cX12_burnt 107 = .ok (.iload_n 1, 1) := dk_27 (fdB_of (k := 96) tX12_burntf_6 11 27 rfl)
theorem dX12_burnt_108 : decode cX12_burnt 108 = .ok (.invokevirtual 251, 3) := dk_182 (fdB_of (k := 96) tX12_burntf_6 12 182 rfl) (fdB_of (k := 96) tX12_burntf_6 13 0 rfl) (fdB_of (k := 96) tX12_burntf_6 14 251 rfl)
theorem dX12_burnt_111 : decode cX12_burnt 111 = .ok (.lreturn, 1) := dk_173 (fdB_of (k := 96) tX12_burntf_6 15 173 rfl)
theorem dX12_burnt_112 : decode cX12_burnt 112 = .ok (.aload_n 0, 1) := dk_42 (fdB_of (k := 112) tX12_burntf_7 0 42 rfl)
theorem dX12_burnt_113 : decode cX12_burnt 113 = .ok (.getfield 59, 3) := dk_180 (fdB_of (k := 112) tX12_burntf_7 1 180 rfl) (fdB_of (k := 112) tX12_burntf_7 2 0 rfl) (fdB_of (k := 112) tX12_burntf_7 3 59 rfl)
theorem dX12_burnt_116 : decode cX12_burnt 116 = .ok (.iload 4, 2) := dk_21 (fdB_of (k := 112) tX12_burntf_7 4 21 rfl) (fdB_of (k := 112) tX12_burntf_7 5 4 rfl)
theorem dX12_burnt_118 : decode cX12_burnt 118 = .ok (.iaload, 1) := dk_46 (fdB_of (k := 112) tX12_burntf_7 6 46 rfl)
theorem dX12_burnt_119 : decode cX12_burnt 119 = .ok (.istore 5, 2) := dk_54 (fdB_of (k := 112) tX12_burntf_7 7 54 rfl) (fdB_of (k := 112) tX12_burntf_7 8 5 rfl)
theorem dX12_burnt_121 : decode cX12_burnt 121 = .ok (.lconst 0, 1) := dk_9 (fdB_of (k := 112) tX12_burntf_7 9 9 rfl)
theorem dX12_burnt_122 : decode cX12_burnt 122 = .ok (.lstore 6, 2) := dk_55 (fdB_of (k := 112) tX12_burntf_7 10 55 rfl) (fdB_of (k := 112) tX12_burntf_7 11 6 rfl)
theorem dX12_burnt_124 : decode cX12_burnt 124 = .ok (.iconst 0, 1) := dk_3 (fdB_of (k := 112) tX12_burntf_7 12 3 rfl)
theorem dX12_burnt_125 : decode cX12_burnt 125 = .ok (.istore 8, 2) := dk_54 (fdB_of (k := 112) tX12_burntf_7 13 54 rfl) (fdB_of (k := 112) tX12_burntf_7 14 8 rfl)
theorem dX12_burnt_127 : decode cX12_burnt 127 = .ok (.iload 8, 2) := dk_21 (fdB_of (k := 112) tX12_burntf_7 15 21 rfl) (fdB_of (k := 128) tX12_burntf_8 0 8 rfl)
theorem dX12_burnt_129 : decode cX12_burnt 129 = .ok (.aload_n 0, 1) := dk_42 (fdB_of (k := 128) tX12_burntf_8 1 42 rfl)
theorem dX12_burnt_130 : decode cX12_burnt 130 = .ok (.getfield 166, 3) := dk_180 (fdB_of (k := 128) tX12_burntf_8 2 180 rfl) (fdB_of (k := 128) tX12_burntf_8 3 0 rfl) (fdB_of (k := 128) tX12_burntf_8 4 166 rfl)
theorem dX12_burnt_133 : decode cX12_burnt 133 = .ok (.if_icmp .ge 53, 3) := dk_162 (fdB_of (k := 128) tX12_burntf_8 5 162 rfl) (fdB_of (k := 128) tX12_burntf_8 6 0 rfl) (fdB_of (k := 128) tX12_burntf_8 7 53 rfl) (by decide +kernel)
theorem dX12_burnt_136 : decode cX12_burnt 136 = .ok (.aload_n 0, 1) := dk_42 (fdB_of (k := 128) tX12_burntf_8 8 42 rfl)
theorem dX12_burnt_137 : decode cX12_burnt 137 = .ok (.getfield 59, 3) := dk_180 (fdB_of (k := 128) tX12_burntf_8 9 180 rfl) (fdB_of (k := 128) tX12_burntf_8 10 0 rfl) (fdB_of (k := 128) tX12_burntf_8 11 59 rfl)
theorem dX12_burnt_140 : decode cX12_burnt 140 = .ok (.iload 4, 2) := dk_21 (fdB_of (k := 128) tX12_burntf_8 12 21 rfl) (fdB_of (k := 128) tX12_burntf_8 13 4 rfl)
theorem dX12_burnt_142 : decode cX12_burnt 142 = .ok (.iload 5, 2) := dk_21 (fdB_of (k := 128) tX12_burntf_8 14 21 rfl) (fdB_of (k := 128) tX12_burntf_8 15 5 rfl)
theorem dX12_burnt_144 : decode cX12_burnt 144 = .ok (.iconst 1, 1) := dk_4 (fdB_of (k := 144) tX12_burntf_9 0 4 rfl)
theorem dX12_burnt_145 : decode cX12_burnt 145 = .ok (.iload 8, 2) := dk_21 (fdB_of (k := 144) tX12_burntf_9 1 21 rfl) (fdB_of (k := 144) tX12_burntf_9 2 8 rfl)
theorem dX12_burnt_147 : decode cX12_burnt 147 = .ok (.ishl, 1) := dk_120 (fdB_of (k := 144) tX12_burntf_9 3 120 rfl)
theorem dX12_burnt_148 : decode cX12_burnt 148 = .ok (.iand, 1) := dk_126 (fdB_of (k := 144) tX12_burntf_9 4 126 rfl)
theorem dX12_burnt_149 : decode cX12_burnt 149 = .ok (.iastore, 1) := dk_79 (fdB_of (k := 144) tX12_burntf_9 5 79 rfl)
theorem dX12_burnt_150 : decode cX12_burnt 150 = .ok (.lload 6, 2) := dk_22 (fdB_of (k := 144) tX12_burntf_9 6 22 rfl) (fdB_of (k := 144) tX12_burntf_9 7 6 rfl)
theorem dX12_burnt_152 : decode cX12_burnt 152 = .ok (.aload_n 0, 1) := dk_42 (fdB_of (k := 144) tX12_burntf_9 8 42 rfl)
theorem dX12_burnt_153 : decode cX12_burnt 153 = .ok (.getfield 59, 3) := dk_180 (fdB_of (k := 144) tX12_burntf_9 9 180 rfl) (fdB_of (k := 144) tX12_burntf_9 10 0 rfl) (fdB_of (k := 144) tX12_burntf_9 11 59 rfl)
theorem dX12_burnt_156 : decode cX12_burnt 156 = .ok (.iload 4, 2) := dk_21 (fdB_of (k := 144) tX12_burntf_9 12 21 rfl) (fdB_of (k := 144) tX12_burntf_9 13 4 rfl)
theorem dX12_burnt_158 : decode cX12_burnt 158 = .ok (.iaload, 1) := dk_46 (fdB_of (k := 144) tX12_burntf_9 14 46 rfl)
theorem dX12_burnt_159 : decode cX12_burnt 159 = .ok (.ifCond .eq 17, 3) := dk_153 (fdB_of (k := 144) tX12_burntf_9 15 153 rfl) (fdB_of (k := 160) tX12_burntf_10 0 0 rfl) (fdB_of (k := 160) tX12_burntf_10 1 17 rfl) (by decide +kernel)
theorem dX12_burnt_162 : decode cX12_burnt 162 = .ok (.aload_n 0, 1) := dk_42 (fdB_of (k := 160) tX12_burntf_10 2 42 rfl)
theorem dX12_burnt_163 : decode cX12_burnt 163 = .ok (.iload_n 1, 1) := dk_27 (fdB_of (k := 160) tX12_burntf_10 3 27 rfl)
theorem dX12_burnt_164 : decode cX12_burnt 164 = .ok (.invokevirtual 251, 3) := dk_182 (fdB_of (k := 160) tX12_burntf_10 4 182 rfl) (fdB_of (k := 160) tX12_burntf_10 5 0 rfl) (fdB_of (k := 160) tX12_burntf_10 6 251 rfl)
theorem dX12_burnt_167 : decode cX12_burnt 167 = .ok (.lconst 0, 1) := dk_9 (fdB_of (k := 160) tX12_burntf_10 7 9 rfl)
theorem dX12_burnt_168 : decode cX12_burnt 168 = .ok (.lcmp, 1) := dk_148 (fdB_of (k := 160) tX12_burntf_10 8 148 rfl)
theorem dX12_burnt_169 : decode cX12_burnt 169 = .ok (.ifCond .le 7, 3) := dk_158 (fdB_of (k := 160) tX12_burntf_10 9 158 rfl) (fdB_of (k := 160) tX12_burntf_10 10 0 rfl) (fdB_of (k := 160) tX12_burntf_10 11 7 rfl) (by decide +kernel)
theorem dX12_burnt_172 : decode cX12_burnt 172 = .ok (.lconst 1, 1) := dk_10 (fdB_of (k := 160) tX12_burntf_10 12 10 rfl)
theorem dX12_burnt_173 : decode cX12_burnt 173 = .ok (.goto 4, 3) := dk_167 (fdB_of (k := 160) tX12_burntf_10 13 167 rfl) (fdB_of (k := 160) tX12_burntf_10 14 0 rfl) (fdB_of (k := 160) tX12_burntf_10 15 4 rfl) (by decide +kernel)
theorem dX12_burnt_176 : decode cX12_burnt 176 = .ok (.lconst 0, 1) := dk_9 (fdB_of (k := 176) tX12_burntf_11 0 9 rfl)
theorem dX12_burnt_177 : decode cX12_burnt 177 = .ok (.ladd, 1) := dk_97 (fdB_of (k := 176) tX12_burntf_11 1 97 rfl)
theorem dX12_burnt_178 : decode cX12_burnt 178 = .ok (.lstore 6, 2) := dk_55 (fdB_of (k := 176) tX12_burntf_11 2 55 rfl) (fdB_of (k := 176) tX12_burntf_11 3 6 rfl)
theorem dX12_burnt_180 : decode cX12_burnt 180 = .ok (.iinc 8 1, 3) := dk_132 (fdB_of (k := 176) tX12_burntf_11 4 132 rfl) (fdB_of (k := 176) tX12_burntf_11 5 8 rfl) (fdB_of (k := 176) tX12_burntf_11 6 1 rfl) (by decide +kernel)
theorem dX12_burnt_183 : decode cX12_burnt 183 = .ok (.goto (-56), 3) := dk_167 (fdB_of (k := 176) tX12_burntf_11 7 167 rfl) (fdB_of (k := 176) tX12_burntf_11 8 255 rfl) (fdB_of (k := 176) tX12_burntf_11 9 200 rfl) (by decide +kernel)
theorem dX12_burnt_186 : decode cX12_burnt 186 = .ok (.lload 6, 2) := dk_22 (fdB_of (k := 176) tX12_burntf_11 10 22 rfl) (fdB_of (k := 176) tX12_burntf_11 11 6 rfl)
theorem dX12_burnt_188 : decode cX12_burnt 188 = .ok (.lreturn, 1) := dk_173 (fdB_of (k := 176) tX12_burntf_11 12 173 rfl)

theorem q0_60 : Cond.selects RX12 yX12_waysAll yX12_waysAll ∈ TT := tq0 60 rfl rfl
theorem q6_90 : Cond.constantLong RX12 249 (-1) ∈ TT := tq6 90 rfl rfl
theorem q6_91 : Cond.methodLink RX12 251 yX12_waysAll ∈ TT := tq6 91 rfl rfl
theorem q6_93 : Cond.instanceMethod yX12_waysAll ∈ TT := tq6 93 rfl rfl
theorem q6_94 : Cond.code yX12_waysAll cX12_waysAll 9 (some .long) ∈ TT := tq6 94 rfl rfl
theorem lk_RX12_251 : vlk RX12 251 yX12_waysAll cX12_waysAll 9 (some .long) 1 := ⟨List.forall_mem_cons.mpr ⟨q6_91, List.forall_mem_cons.mpr ⟨q6_93, List.forall_mem_cons.mpr ⟨q0_60, List.forall_mem_cons.mpr ⟨q1_12, fun _ h => absurd h List.not_mem_nil⟩⟩⟩⟩, q6_94, by decide, by decide, by decide +kernel⟩
def F_X12_burnt_b29 (x1 : Int32) (x2 : Int32) (x3 : Int32) (x4 : Int32) (zs_o : SM) : Option (Int64 × SM) := some ((-1), zs_o)
def F_X12_burnt_b94 (x1 : Int32) (x2 : Int32) (x3 : Int32) (x4 : Int32) (K45 : Int32 → SM → Option (Int64 × SM)) (v5 : Int32) (zs_o : SM) (k1 : Int32) (k2 : Int32) : Option (Int64 × SM) := (aset 9 (mA zs_o 32) k1 k2).bind fun f_1 => nm (mAs zs_o 32 f_1) fun s_o_2 => nm (v5 + 1) fun v5_3 => K45 v5_3 s_o_2
def F_X12_burnt_b177 (x1 : Int32) (x2 : Int32) (x3 : Int32) (x4 : Int32) (K127 : Int32 → Int64 → Int32 → SM → Option (Int64 × SM)) (v5 : Int32) (v8 : Int32) (zs_o : SM) (k0 : Int64) (k1 : Int64) : Option (Int64 × SM) := nm (k0 + k1) fun v6_4 => nm (v8 + 1) fun v8_5 => K127 v5 v6_4 v8_5 zs_o
def F_X12_burnt_b176 (x1 : Int32) (x2 : Int32) (x3 : Int32) (x4 : Int32) (K127 : Int32 → Int64 → Int32 → SM → Option (Int64 × SM)) (v5 : Int32) (v8 : Int32) (zs_o : SM) (k0 : Int64) : Option (Int64 × SM) := F_X12_burnt_b177 x1 x2 x3 x4 K127 v5 v8 zs_o k0 0
def F_X12_burnt_b127 (x1 : Int32) (x2 : Int32) (x3 : Int32) (x4 : Int32) : Nat → Int32 → Int64 → Int32 → SM → Option (Int64 × SM)
  | 0, _, _, _, _ => none
  | n + 1, v5, v6, v8, zs_o => (if (mI zs_o 13) ≤ v8 then some (v6, zs_o) else (aset 9 (mA zs_o 32) x4 (v5 &&& (1 <<< (v8 &&& 31)))).bind fun f_6 => nm (mAs zs_o 32 f_6) fun s_o_7 => (aget 9 (mA s_o_7 32) x4).bind fun e_8 => (if e_8 = 0 then F_X12_burnt_b176 x1 x2 x3 x4 (F_X12_burnt_b127 x1 x2 x3 x4 n) v5 v8 s_o_7 v6 else (F_X12_waysAll s_o_7 x1).bind fun q_9 => (if (lg_cmp q_9.1 0) ≤ 0 then F_X12_burnt_b176 x1 x2 x3 x4 (F_X12_burnt_b127 x1 x2 x3 x4 n) v5 v8 q_9.2 v6 else F_X12_burnt_b177 x1 x2 x3 x4 (F_X12_burnt_b127 x1 x2 x3 x4 n) v5 v8 q_9.2 v6 1)))
def F_X12_burnt_b45 (x1 : Int32) (x2 : Int32) (x3 : Int32) (x4 : Int32) : Nat → Int32 → SM → Option (Int64 × SM)
  | 0, _, _ => none
  | n + 1, v5, zs_o => (if (mI zs_o 25) ≤ v5 then (if 0 ≤ x4 then (aget 9 (mA zs_o 32) x4).bind fun e_10 => nm e_10 fun v5_11 => nm 0 fun v6_12 => nm 0 fun v8_13 => F_X12_burnt_b127 x1 x2 x3 x4 fu v5_11 v6_12 v8_13 zs_o else (F_X12_waysAll zs_o x1).bind fun q_14 => some (q_14.1, q_14.2)) else (if ((x3 >>> (v5 &&& 31)) &&& 1) = 1 then F_X12_burnt_b94 x1 x2 x3 x4 (F_X12_burnt_b45 x1 x2 x3 x4 n) v5 zs_o v5 ((1 <<< ((mI zs_o 13) &&& 31)) - 1) else (aget 25 (mA zs_o 21) (1 + (3 * v5))).bind fun e_15 => F_X12_burnt_b94 x1 x2 x3 x4 (F_X12_burnt_b45 x1 x2 x3 x4 n) v5 zs_o v5 (1 <<< (e_15 &&& 31))))
def F_X12_burnt_b33 (x1 : Int32) (x2 : Int32) (x3 : Int32) (x4 : Int32) (zs_o : SM) : Option (Int64 × SM) := (F_X12_lays zs_o).bind fun q_16 => (F_X12_hears q_16 x2).bind fun q_17 => nm 0 fun v5_18 => F_X12_burnt_b45 x1 x2 x3 x4 fu v5_18 q_17
def F_X12_burnt (s_o : SM) (x1 : Int32) (x2 : Int32) (x3 : Int32) (x4 : Int32) : Option (Int64 × SM) := nm (mIs s_o 0 0) fun s_o_19 => (F_X12_isForm s_o_19 x1 x2).bind fun q_20 => (if q_20 = 0 then F_X12_burnt_b29 x1 x2 x3 x4 s_o_19 else (if x4 = (-1) then F_X12_burnt_b33 x1 x2 x3 x4 s_o_19 else (F_X12_isLine s_o_19 x4).bind fun q_21 => (if q_21 = 0 then F_X12_burnt_b29 x1 x2 x3 x4 s_o_19 else F_X12_burnt_b33 x1 x2 x3 x4 s_o_19)))

abbrev rm_X12_burnt : Room := { frames := 4, cells := 0, slots := 0, locals := 103 }
set_option maxHeartbeats 4000000 in
set_option maxRecDepth 100000 in
theorem c_X12_burnt (l : Launch) (D : gG) (cB cI cJ cZ : ClassId) (o : Nat → Nat) (s_o : SM) (x1 : Int32) (x2 : Int32) (x3 : Int32) (x4 : Int32) (r : Int64 × SM) (hf : F_X12_burnt s_o x1 x2 x3 x4 = some r) : gM l D (tyL cB cI cJ cZ) yX12_burnt cX12_burnt 9 (some .long) rm_X12_burnt [.ref (o 0), .int x1, .int x2, .int x3, .int x4] (wX12 o cB cI cJ cZ s_o) (some (.long r.1)) (wX12 o cB cI cJ cZ r.2) := by
  refine met_of (by decide) (Nat.le_of_ble_eq_true rfl) ?_
  intro p e s m args below meth c A cx hr hA
  show gW p l e rm_X12_burnt s m args below meth c D A 9 _ 0 0 _ [(0, .ref (o 0)), (1, .int x1), (2, .int x2), (3, .int x3), (4, .int x4)] 0 []
  have h29 : ∀ (zs_o : SM), F_X12_burnt_b29 x1 x2 x3 x4 zs_o = some r → gW p l e rm_X12_burnt s m args below meth c D A 9 (MQ below (QM D (tyL cB cI cJ cZ) (some (.long r.1)) (wX12 o cB cI cJ cZ s_o) (wX12 o cB cI cJ cZ r.2) s.heap.size) args s 0 0 A) 0 0 (wX12 o cB cI cJ cZ zs_o) [] 29 [] := by
    intro zs_o hf
    rw [F_X12_burnt_b29] at hf
    refine g_ldc2 cx q6_90 dX12_burnt_29 ?_
    exact g_lret (ovf := fun (r : Int64 × SM) => (some (.long r.1))) (wf := fun (r : Int64 × SM) => (wX12 o cB cI cJ cZ r.2)) cx hA hr hf rfl rfl dX12_burnt_32
  have h94 : ∀ (K45 : Int32 → SM → Option (Int64 × SM)), (∀ (v5 : Int32) (zs_o : SM), K45 v5 zs_o = some r → gW p l e rm_X12_burnt s m args below meth c D A 9 (MQ below (QM D (tyL cB cI cJ cZ) (some (.long r.1)) (wX12 o cB cI cJ cZ s_o) (wX12 o cB cI cJ cZ r.2) s.heap.size) args s 0 0 A) 0 0 (wX12 o cB cI cJ cZ zs_o) [(0, .ref (o 0)), (1, .int x1), (3, .int x3), (4, .int x4), (5, .int v5)] 45 []) → ∀ (v5 : Int32) (zs_o : SM) (k1 : Int32) (k2 : Int32), F_X12_burnt_b94 x1 x2 x3 x4 K45 v5 zs_o k1 k2 = some r → gW p l e rm_X12_burnt s m args below meth c D A 9 (MQ below (QM D (tyL cB cI cJ cZ) (some (.long r.1)) (wX12 o cB cI cJ cZ s_o) (wX12 o cB cI cJ cZ r.2) s.heap.size) args s 0 0 A) 0 0 (wX12 o cB cI cJ cZ zs_o) [(0, .ref (o 0)), (1, .int x1), (3, .int x3), (4, .int x4), (5, .int v5)] 94 [.int k2, .int k1, .ref (o 17)] := by
    intro K45 kh45 v5 zs_o k1 k2 hf
    rw [F_X12_burnt_b94] at hf
    refine ms_may cx hf dX12_burnt_94 (fun s_o_2 hf => ?_)
    refine g_inc cx (L2 := fun v5_3 => [(5, .int v5_3), (0, .ref (o 0)), (1, .int x1), (3, .int x3), (4, .int x4)]) 4 hf dX12_burnt_95 rfl (k_inc1 _) (Nat.le_of_ble_eq_true rfl) (fun _ => rfl) (fun v5_3 hf => ?_)
    refine g_goto (tgt := 45) cx dX12_burnt_98 rfl ?_
    refine g_sub [1, 2, 3, 4, 0] rfl ?_
    exact kh45 _ _ hf
  have h177 : ∀ (K127 : Int32 → Int64 → Int32 → SM → Option (Int64 × SM)), (∀ (v5 : Int32) (v6 : Int64) (v8 : Int32) (zs_o : SM), K127 v5 v6 v8 zs_o = some r → gW p l e rm_X12_burnt s m args below meth c D A 9 (MQ below (QM D (tyL cB cI cJ cZ) (some (.long r.1)) (wX12 o cB cI cJ cZ s_o) (wX12 o cB cI cJ cZ r.2) s.heap.size) args s 0 0 A) 0 0 (wX12 o cB cI cJ cZ zs_o) [(0, .ref (o 0)), (1, .int x1), (4, .int x4), (5, .int v5), (6, .long v6), (8, .int v8)] 127 []) → ∀ (v5 : Int32) (v8 : Int32) (zs_o : SM) (k0 : Int64) (k1 : Int64), F_X12_burnt_b177 x1 x2 x3 x4 K127 v5 v8 zs_o k0 k1 = some r → gW p l e rm_X12_burnt s m args below meth c D A 9 (MQ below (QM D (tyL cB cI cJ cZ) (some (.long r.1)) (wX12 o cB cI cJ cZ s_o) (wX12 o cB cI cJ cZ r.2) s.heap.size) args s 0 0 A) 0 0 (wX12 o cB cI cJ cZ zs_o) [(0, .ref (o 0)), (1, .int x1), (4, .int x4), (5, .int v5), (8, .int v8)] 177 [.long k1, .long k0] := by
    intro K127 kh127 v5 v8 zs_o k0 k1 hf
    rw [F_X12_burnt_b177] at hf
    refine g_ladd cx dX12_burnt_177 ?_
    refine g_ls cx (L2 := fun v6_4 => [(6, .long v6_4), (0, .ref (o 0)), (1, .int x1), (4, .int x4), (5, .int v5), (8, .int v8)]) hf dX12_burnt_178 (Nat.le_of_ble_eq_true rfl) (fun _ => rfl) (fun v6_4 hf => ?_)
    refine g_inc cx (L2 := fun v8_5 => [(8, .int v8_5), (6, .long v6_4), (0, .ref (o 0)), (1, .int x1), (4, .int x4), (5, .int v5)]) 5 hf dX12_burnt_180 rfl (k_inc1 _) (Nat.le_of_ble_eq_true rfl) (fun _ => rfl) (fun v8_5 hf => ?_)
    refine g_goto (tgt := 127) cx dX12_burnt_183 rfl ?_
    refine g_sub [2, 3, 4, 5, 1, 0] rfl ?_
    exact kh127 _ _ _ _ hf
  have h176 : ∀ (K127 : Int32 → Int64 → Int32 → SM → Option (Int64 × SM)), (∀ (v5 : Int32) (v6 : Int64) (v8 : Int32) (zs_o : SM), K127 v5 v6 v8 zs_o = some r → gW p l e rm_X12_burnt s m args below meth c D A 9 (MQ below (QM D (tyL cB cI cJ cZ) (some (.long r.1)) (wX12 o cB cI cJ cZ s_o) (wX12 o cB cI cJ cZ r.2) s.heap.size) args s 0 0 A) 0 0 (wX12 o cB cI cJ cZ zs_o) [(0, .ref (o 0)), (1, .int x1), (4, .int x4), (5, .int v5), (6, .long v6), (8, .int v8)] 127 []) → ∀ (v5 : Int32) (v8 : Int32) (zs_o : SM) (k0 : Int64), F_X12_burnt_b176 x1 x2 x3 x4 K127 v5 v8 zs_o k0 = some r → gW p l e rm_X12_burnt s m args below meth c D A 9 (MQ below (QM D (tyL cB cI cJ cZ) (some (.long r.1)) (wX12 o cB cI cJ cZ s_o) (wX12 o cB cI cJ cZ r.2) s.heap.size) args s 0 0 A) 0 0 (wX12 o cB cI cJ cZ zs_o) [(0, .ref (o 0)), (1, .int x1), (4, .int x4), (5, .int v5), (8, .int v8)] 176 [.long k0] := by
    intro K127 kh127 v5 v8 zs_o k0 hf
    rw [F_X12_burnt_b176] at hf
    refine g_lc cx dX12_burnt_176 rfl ?_
    exact h177 _ kh127 _ _ _ _ _ hf
  have h127 : ∀ (n : Nat) (v5 : Int32) (v6 : Int64) (v8 : Int32) (zs_o : SM), F_X12_burnt_b127 x1 x2 x3 x4 n v5 v6 v8 zs_o = some r → gW p l e rm_X12_burnt s m args below meth c D A 9 (MQ below (QM D (tyL cB cI cJ cZ) (some (.long r.1)) (wX12 o cB cI cJ cZ s_o) (wX12 o cB cI cJ cZ r.2) s.heap.size) args s 0 0 A) 0 0 (wX12 o cB cI cJ cZ zs_o) [(0, .ref (o 0)), (1, .int x1), (4, .int x4), (5, .int v5), (6, .long v6), (8, .int v8)] 127 [] := by
    intro n
    induction n with
    | zero => intro v5 v6 v8 zs_o hf; rw [F_X12_burnt_b127] at hf; cases hf
    | succ n ih =>
      intro v5 v6 v8 zs_o hf
      rw [F_X12_burnt_b127] at hf
      refine g_il cx 5 dX12_burnt_127 rfl ?_
      refine g_aln cx 0 dX12_burnt_129 rfl ?_
      refine mg_words cx dX12_burnt_130 ?_
      refine g_ic_ge (tgt := 186) cx hf dX12_burnt_133 rfl (fun hf => ?_) (fun hf => ?_)
      · refine g_ll cx 4 dX12_burnt_186 rfl ?_
        exact g_lret (ovf := fun (r : Int64 × SM) => (some (.long r.1))) (wf := fun (r : Int64 × SM) => (wX12 o cB cI cJ cZ r.2)) cx hA hr hf rfl rfl dX12_burnt_188
      · refine g_aln cx 0 dX12_burnt_136 rfl ?_
        refine mg_may cx dX12_burnt_137 ?_
        refine g_il cx 2 dX12_burnt_140 rfl ?_
        refine g_il cx 3 dX12_burnt_142 rfl ?_
        refine g_ic cx dX12_burnt_144 k_ic1 ?_
        refine g_il cx 5 dX12_burnt_145 rfl ?_
        refine g_ishl cx dX12_burnt_147 ?_
        refine g_iand cx dX12_burnt_148 ?_
        refine ms_may cx hf dX12_burnt_149 (fun s_o_7 hf => ?_)
        refine g_ll cx 4 dX12_burnt_150 rfl ?_
        refine g_aln cx 0 dX12_burnt_152 rfl ?_
        refine mg_may cx dX12_burnt_153 ?_
        refine g_il cx 2 dX12_burnt_156 rfl ?_
        refine ml_may cx hf dX12_burnt_158 (fun e_8 hf => ?_)
        refine g_if_eq (tgt := 176) cx hf dX12_burnt_159 rfl (fun hf => ?_) (fun hf => ?_)
        · refine g_sub [0, 1, 2, 3, 5] rfl ?_
          exact h176 _ ih _ _ _ _ hf
        · refine g_aln cx 0 dX12_burnt_162 rfl ?_
          refine g_iln cx 1 dX12_burnt_163 rfl ?_
          refine ob hf (fun q_9 hq_9 hf => ?_)
          refine g_callVFl cx lk_RX12_251 (c_X12_waysAll l D cB cI cJ cZ o s_o_7 x1 q_9 hq_9) rfl (ci := 10) (q1 := 0) rfl rfl rfl (Nat.le_of_ble_eq_true rfl) ⟨rfl, rfl, Nat.le_of_ble_eq_true rfl, Nat.le_of_ble_eq_true rfl⟩ dX12_burnt_164 ?_
          refine g_lc cx dX12_burnt_167 rfl ?_
          refine g_lcmp cx dX12_burnt_168 ?_
          refine g_if_le (tgt := 176) cx hf dX12_burnt_169 rfl (fun hf => ?_) (fun hf => ?_)
          · refine g_sub [0, 1, 2, 3, 5] rfl ?_
            exact h176 _ ih _ _ _ _ hf
          · refine g_lc cx dX12_burnt_172 rfl ?_
            refine g_goto (tgt := 177) cx dX12_burnt_173 rfl ?_
            refine g_sub [0, 1, 2, 3, 5] rfl ?_
            exact h177 _ ih _ _ _ _ _ hf
  have h45 : ∀ (n : Nat) (v5 : Int32) (zs_o : SM), F_X12_burnt_b45 x1 x2 x3 x4 n v5 zs_o = some r → gW p l e rm_X12_burnt s m args below meth c D A 9 (MQ below (QM D (tyL cB cI cJ cZ) (some (.long r.1)) (wX12 o cB cI cJ cZ s_o) (wX12 o cB cI cJ cZ r.2) s.heap.size) args s 0 0 A) 0 0 (wX12 o cB cI cJ cZ zs_o) [(0, .ref (o 0)), (1, .int x1), (3, .int x3), (4, .int x4), (5, .int v5)] 45 [] := by
    intro n
    induction n with
    | zero => intro v5 zs_o hf; rw [F_X12_burnt_b45] at hf; cases hf
    | succ n ih =>
      intro v5 zs_o hf
      rw [F_X12_burnt_b45] at hf
      refine g_il cx 4 dX12_burnt_45 rfl ?_
      refine g_aln cx 0 dX12_burnt_47 rfl ?_
      refine mg_many cx dX12_burnt_48 ?_
      refine g_ic_ge (tgt := 101) cx hf dX12_burnt_51 rfl (fun hf => ?_) (fun hf => ?_)
      · refine g_il cx 3 dX12_burnt_101 rfl ?_
        refine g_if_ge (tgt := 112) cx hf dX12_burnt_103 rfl (fun hf => ?_) (fun hf => ?_)
        · refine g_aln cx 0 dX12_burnt_112 rfl ?_
          refine mg_may cx dX12_burnt_113 ?_
          refine g_il cx 3 dX12_burnt_116 rfl ?_
          refine ml_may cx hf dX12_burnt_118 (fun e_10 hf => ?_)
          refine g_is cx (L2 := fun v5_11 => [(5, .int v5_11), (0, .ref (o 0)), (1, .int x1), (3, .int x3), (4, .int x4)]) hf dX12_burnt_119 (Nat.le_of_ble_eq_true rfl) (fun _ => rfl) (fun v5_11 hf => ?_)
          refine g_lc cx dX12_burnt_121 rfl ?_
          refine g_ls cx (L2 := fun v6_12 => [(6, .long v6_12), (5, .int v5_11), (0, .ref (o 0)), (1, .int x1), (3, .int x3), (4, .int x4)]) hf dX12_burnt_122 (Nat.le_of_ble_eq_true rfl) (fun _ => rfl) (fun v6_12 hf => ?_)
          refine g_ic cx dX12_burnt_124 k_ic0 ?_
          refine g_is cx (L2 := fun v8_13 => [(8, .int v8_13), (6, .long v6_12), (5, .int v5_11), (0, .ref (o 0)), (1, .int x1), (3, .int x3), (4, .int x4)]) hf dX12_burnt_125 (Nat.le_of_ble_eq_true rfl) (fun _ => rfl) (fun v8_13 hf => ?_)
          refine g_sub [3, 4, 6, 2, 1, 0] rfl ?_
          exact h127 fu _ _ _ _ hf
        · refine g_aln cx 0 dX12_burnt_106 rfl ?_
          refine g_iln cx 1 dX12_burnt_107 rfl ?_
          refine ob hf (fun q_14 hq_14 hf => ?_)
          refine g_callVFl cx lk_RX12_251 (c_X12_waysAll l D cB cI cJ cZ o zs_o x1 q_14 hq_14) rfl (ci := 10) (q1 := 0) rfl rfl rfl (Nat.le_of_ble_eq_true rfl) ⟨rfl, rfl, Nat.le_of_ble_eq_true rfl, Nat.le_of_ble_eq_true rfl⟩ dX12_burnt_108 ?_
          exact g_lret (ovf := fun (r : Int64 × SM) => (some (.long r.1))) (wf := fun (r : Int64 × SM) => (wX12 o cB cI cJ cZ r.2)) cx hA hr hf rfl rfl dX12_burnt_111
      · refine g_aln cx 0 dX12_burnt_54 rfl ?_
        refine mg_may cx dX12_burnt_55 ?_
        refine g_il cx 4 dX12_burnt_58 rfl ?_
        refine g_iln cx 2 dX12_burnt_60 rfl ?_
        refine g_il cx 4 dX12_burnt_61 rfl ?_
        refine g_ishr cx dX12_burnt_63 ?_
        refine g_ic cx dX12_burnt_64 k_ic1 ?_
        refine g_iand cx dX12_burnt_65 ?_
        refine g_ic cx dX12_burnt_66 k_ic1 ?_
        refine g_ic_ne (tgt := 81) cx hf dX12_burnt_67 rfl (fun hf => ?_) (fun hf => ?_)
        · refine g_ic cx dX12_burnt_81 k_ic1 ?_
          refine g_aln cx 0 dX12_burnt_82 rfl ?_
          refine mg_s cx dX12_burnt_83 ?_
          refine g_ic cx dX12_burnt_86 k_ic1 ?_
          refine g_ic cx dX12_burnt_87 k_ic3 ?_
          refine g_il cx 4 dX12_burnt_88 rfl ?_
          refine g_imul cx dX12_burnt_90 ?_
          refine g_iadd cx dX12_burnt_91 ?_
          refine ml_s cx hf dX12_burnt_92 (fun e_15 hf => ?_)
          refine g_ishl cx dX12_burnt_93 ?_
          exact h94 _ ih _ _ _ _ hf
        · refine g_ic cx dX12_burnt_70 k_ic1 ?_
          refine g_aln cx 0 dX12_burnt_71 rfl ?_
          refine mg_words cx dX12_burnt_72 ?_
          refine g_ishl cx dX12_burnt_75 ?_
          refine g_ic cx dX12_burnt_76 k_ic1 ?_
          refine g_isub cx dX12_burnt_77 ?_
          refine g_goto (tgt := 94) cx dX12_burnt_78 rfl ?_
          exact h94 _ ih _ _ _ _ hf
  have h33 : ∀ (zs_o : SM), F_X12_burnt_b33 x1 x2 x3 x4 zs_o = some r → gW p l e rm_X12_burnt s m args below meth c D A 9 (MQ below (QM D (tyL cB cI cJ cZ) (some (.long r.1)) (wX12 o cB cI cJ cZ s_o) (wX12 o cB cI cJ cZ r.2) s.heap.size) args s 0 0 A) 0 0 (wX12 o cB cI cJ cZ zs_o) [(0, .ref (o 0)), (1, .int x1), (2, .int x2), (3, .int x3), (4, .int x4)] 33 [] := by
    intro zs_o hf
    rw [F_X12_burnt_b33] at hf
    refine g_aln cx 0 dX12_burnt_33 rfl ?_
    refine ob hf (fun q_16 hq_16 hf => ?_)
    refine g_callVFv cx lk_RX12_198 (c_X12_lays l D cB cI cJ cZ o zs_o q_16 hq_16) rfl (ci := 10) (q1 := 0) rfl rfl rfl (Nat.le_of_ble_eq_true rfl) ⟨rfl, rfl, Nat.le_of_ble_eq_true rfl, Nat.le_of_ble_eq_true rfl⟩ dX12_burnt_34 ?_
    refine g_aln cx 0 dX12_burnt_37 rfl ?_
    refine g_iln cx 2 dX12_burnt_38 rfl ?_
    refine ob hf (fun q_17 hq_17 hf => ?_)
    refine g_callVFv cx lk_RX12_201 (c_X12_hears l D cB cI cJ cZ o q_16 x2 q_17 hq_17) rfl (ci := 10) (q1 := 0) rfl rfl rfl (Nat.le_of_ble_eq_true rfl) ⟨rfl, rfl, Nat.le_of_ble_eq_true rfl, Nat.le_of_ble_eq_true rfl⟩ dX12_burnt_39 ?_
    refine g_ic cx dX12_burnt_42 k_ic0 ?_
    refine g_is cx (L2 := fun v5_18 => [(5, .int v5_18), (0, .ref (o 0)), (1, .int x1), (2, .int x2), (3, .int x3), (4, .int x4)]) hf dX12_burnt_43 (Nat.le_of_ble_eq_true rfl) (fun _ => rfl) (fun v5_18 hf => ?_)
    refine g_sub [1, 2, 4, 5, 0] rfl ?_
    exact h45 fu _ _ hf
  rw [F_X12_burnt] at hf
  refine g_aln cx 0 dX12_burnt_0 rfl ?_
  refine g_ic cx dX12_burnt_1 k_ic0 ?_
  refine mp_thrown cx hf dX12_burnt_2 (fun s_o_19 hf => ?_)
  refine g_aln cx 0 dX12_burnt_5 rfl ?_
  refine g_iln cx 1 dX12_burnt_6 rfl ?_
  refine g_iln cx 2 dX12_burnt_7 rfl ?_
  refine ob hf (fun q_20 hq_20 hf => ?_)
  refine g_callVFi cx lk_RX12_178 (c_X12_isForm l D cB cI cJ cZ o s_o_19 x1 x2 q_20 hq_20) rfl (ci := 10) (q1 := 0) rfl rfl rfl (Nat.le_of_ble_eq_true rfl) ⟨rfl, rfl, Nat.le_of_ble_eq_true rfl, Nat.le_of_ble_eq_true rfl⟩ dX12_burnt_8 ?_
  refine g_if_eq (tgt := 29) cx hf dX12_burnt_11 rfl (fun hf => ?_) (fun hf => ?_)
  · refine g_sub [] rfl ?_
    exact h29 _ hf
  · refine g_il cx 4 dX12_burnt_14 rfl ?_
    refine g_ic cx dX12_burnt_16 k_icm1 ?_
    refine g_ic_eq (tgt := 33) cx hf dX12_burnt_17 rfl (fun hf => ?_) (fun hf => ?_)
    · exact h33 _ hf
    · refine g_aln cx 0 dX12_burnt_20 rfl ?_
      refine g_il cx 4 dX12_burnt_21 rfl ?_
      refine ob hf (fun q_21 hq_21 hf => ?_)
      refine g_callVFi cx lk_RX12_185 (c_X12_isLine l D cB cI cJ cZ o s_o_19 x4 q_21 hq_21) rfl (ci := 10) (q1 := 0) rfl rfl rfl (Nat.le_of_ble_eq_true rfl) ⟨rfl, rfl, Nat.le_of_ble_eq_true rfl, Nat.le_of_ble_eq_true rfl⟩ dX12_burnt_23 ?_
      refine g_if_ne (tgt := 33) cx hf dX12_burnt_26 rfl (fun hf => ?_) (fun hf => ?_)
      · exact h33 _ hf
      · refine g_sub [] rfl ?_
        exact h29 _ hf
def tX12_rate_13 : List Nat := 172 :: []
def tX12_rate_12 : List Nat := 167 :: 0 :: 16 :: 21 :: 4 :: 42 :: 180 :: 0 :: 13 :: 7 :: 29 :: 104 :: 5 :: 96 :: 46 :: 100 :: tX12_rate_13
def tX12_rate_11 : List Nat := 5 :: 21 :: 6 :: 104 :: 167 :: 0 :: 28 :: 27 :: 7 :: 160 :: 0 :: 10 :: 21 :: 5 :: 28 :: 96 :: tX12_rate_12
def tX12_rate_10 : List Nat := 50 :: 27 :: 5 :: 160 :: 0 :: 8 :: 21 :: 6 :: 167 :: 0 :: 40 :: 27 :: 6 :: 160 :: 0 :: 10 :: tX12_rate_11
def tX12_rate_9 : List Nat := 0 :: 8 :: 21 :: 4 :: 167 :: 0 :: 60 :: 27 :: 4 :: 160 :: 0 :: 8 :: 21 :: 5 :: 167 :: 0 :: tX12_rate_10
def tX12_rate_8 : List Nat := 9 :: 20 :: 1 :: 10 :: 167 :: 0 :: 6 :: 20 :: 1 :: 12 :: 97 :: 181 :: 1 :: 0 :: 27 :: 154 :: tX12_rate_9
def tX12_rate_7 : List Nat := 28 :: 27 :: 6 :: 160 :: 0 :: 9 :: 20 :: 1 :: 8 :: 167 :: 0 :: 17 :: 27 :: 7 :: 160 :: 0 :: tX12_rate_8
def tX12_rate_6 : List Nat := 20 :: 1 :: 4 :: 167 :: 0 :: 39 :: 27 :: 5 :: 160 :: 0 :: 9 :: 20 :: 1 :: 6 :: 167 :: 0 :: tX12_rate_7
def tX12_rate_5 : List Nat := 180 :: 1 :: 0 :: 27 :: 154 :: 0 :: 7 :: 10 :: 167 :: 0 :: 50 :: 27 :: 4 :: 160 :: 0 :: 9 :: tX12_rate_6
def tX12_rate_4 : List Nat := 4 :: 42 :: 180 :: 0 :: 28 :: 6 :: 6 :: 28 :: 104 :: 96 :: 46 :: 96 :: 54 :: 6 :: 42 :: 89 :: tX12_rate_5
def tX12_rate_3 : List Nat := 21 :: 4 :: 42 :: 180 :: 0 :: 13 :: 7 :: 29 :: 104 :: 6 :: 96 :: 46 :: 96 :: 54 :: 5 :: 21 :: tX12_rate_4
def tX12_rate_2 : List Nat := 104 :: 96 :: 46 :: 62 :: 42 :: 180 :: 0 :: 28 :: 5 :: 6 :: 28 :: 104 :: 96 :: 46 :: 54 :: 4 :: tX12_rate_3
def tX12_rate_1 : List Nat := 182 :: 0 :: 185 :: 154 :: 0 :: 6 :: 18 :: 255 :: 172 :: 42 :: 180 :: 0 :: 28 :: 4 :: 6 :: 28 :: tX12_rate_2
def tX12_rate_0 : List Nat := 42 :: 3 :: 181 :: 0 :: 78 :: 27 :: 3 :: 8 :: 184 :: 0 :: 82 :: 153 :: 0 :: 11 :: 42 :: 28 :: tX12_rate_1
theorem tX12_ratef_0 : (cX12_rate.data.toList.map UInt8.toNat).drop 0 = tX12_rate_0 := by decide +kernel
theorem tX12_ratef_1 : (cX12_rate.data.toList.map UInt8.toNat).drop 16 = tX12_rate_1 := fd_next (k := 0) tX12_ratef_0 rfl
theorem tX12_ratef_2 : (cX12_rate.data.toList.map UInt8.toNat).drop 32 = tX12_rate_2 := fd_next (k := 16) tX12_ratef_1 rfl
theorem tX12_ratef_3 : (cX12_rate.data.toList.map UInt8.toNat).drop 48 = tX12_rate_3 := fd_next (k := 32) tX12_ratef_2 rfl
theorem tX12_ratef_4 : (cX12_rate.data.toList.map UInt8.toNat).drop 64 = tX12_rate_4 := fd_next (k := 48) tX12_ratef_3 rfl
theorem tX12_ratef_5 : (cX12_rate.data.toList.map UInt8.toNat).drop 80 = tX12_rate_5 := fd_next (k := 64) tX12_ratef_4 rfl
theorem tX12_ratef_6 : (cX12_rate.data.toList.map UInt8.toNat).drop 96 = tX12_rate_6 := fd_next (k := 80) tX12_ratef_5 rfl
theorem tX12_ratef_7 : (cX12_rate.data.toList.map UInt8.toNat).drop 112 = tX12_rate_7 := fd_next (k := 96) tX12_ratef_6 rfl
theorem tX12_ratef_8 : (cX12_rate.data.toList.map UInt8.toNat).drop 128 = tX12_rate_8 := fd_next (k := 112) tX12_ratef_7 rfl
theorem tX12_ratef_9 : (cX12_rate.data.toList.map UInt8.toNat).drop 144 = tX12_rate_9 := fd_next (k := 128) tX12_ratef_8 rfl
theorem tX12_ratef_10 : (cX12_rate.data.toList.map UInt8.toNat).drop 160 = tX12_rate_10 := fd_next (k := 144) tX12_ratef_9 rfl
theorem tX12_ratef_11 : (cX12_rate.data.toList.map UInt8.toNat).drop 176 = tX12_rate_11 := fd_next (k := 160) tX12_ratef_10 rfl
theorem tX12_ratef_12 : (cX12_rate.data.toList.map UInt8.toNat).drop 192 = tX12_rate_12 := fd_next (k := 176) tX12_ratef_11 rfl
theorem tX12_ratef_13 : (cX12_rate.data.toList.map UInt8.toNat).drop 208 = tX12_rate_13 := fd_next (k := 192) tX12_ratef_12 rfl
theorem dX12_rate_0 : decode cX12_rate 0 = .ok (.aload_n 0, 1) := dk_42 (fdB_of (k := 0) tX12_ratef_0 0 42 rfl)
theorem dX12_rate_1 : decode cX12_rate 1 = .ok (.iconst 0, 1) := dk_3 (fdB_of (k := 0) tX12_ratef_0 1 3 rfl)
theorem dX12_rate_2 : decode cX12_rate 2 = .ok (.putfield 78, 3) := dk_181 (fdB_of (k := 0) tX12_ratef_0 2 181 rfl) (fdB_of (k := 0) tX12_ratef_0 3 0 rfl) (fdB_of (k := 0) tX12_ratef_0 4 78 rfl)
theorem dX12_rate_5 : decode cX12_rate 5 = .ok (.iload_n 1, 1) := dk_27 (fdB_of (k := 0) tX12_ratef_0 5 27 rfl)
theorem dX12_rate_6 : decode cX12_rate 6 = .ok (.iconst 0, 1) := dk_3 (fdB_of (k := 0) tX12_ratef_0 6 3 rfl)
theorem dX12_rate_7 : decode cX12_rate 7 = .ok (.iconst 5, 1) := dk_8 (fdB_of (k := 0) tX12_ratef_0 7 8 rfl)
theorem dX12_rate_8 : decode cX12_rate 8 = .ok (.invokestatic 82, 3) := dk_184 (fdB_of (k := 0) tX12_ratef_0 8 184 rfl) (fdB_of (k := 0) tX12_ratef_0 9 0 rfl) (fdB_of (k := 0) tX12_ratef_0 10 82 rfl)
theorem dX12_rate_11 : decode cX12_rate 11 = .ok (.ifCond .eq 11, 3) := dk_153 (fdB_of (k := 0) tX12_ratef_0 11 153 rfl) (fdB_of (k := 0) tX12_ratef_0 12 0 rfl) (fdB_of (k := 0) tX12_ratef_0 13 11 rfl) (by decide +kernel)
theorem dX12_rate_14 : decode cX12_rate 14 = .ok (.aload_n 0, 1) := dk_42 (fdB_of (k := 0) tX12_ratef_0 14 42 rfl)
theorem dX12_rate_15 : decode cX12_rate 15 = .ok (.iload_n 2, 1) := dk_28 (fdB_of (k := 0) tX12_ratef_0 15 28 rfl)
theorem dX12_rate_16 : decode cX12_rate 16 = .ok (.invokevirtual 185, 3) := dk_182 (fdB_of (k := 16) tX12_ratef_1 0 182 rfl) (fdB_of (k := 16) tX12_ratef_1 1 0 rfl) (fdB_of (k := 16) tX12_ratef_1 2 185 rfl)
theorem dX12_rate_19 : decode cX12_rate 19 = .ok (.ifCond .ne 6, 3) := dk_154 (fdB_of (k := 16) tX12_ratef_1 3 154 rfl) (fdB_of (k := 16) tX12_ratef_1 4 0 rfl) (fdB_of (k := 16) tX12_ratef_1 5 6 rfl) (by decide +kernel)
theorem dX12_rate_22 : decode cX12_rate 22 = .ok (.ldc 255, 2) := dk_18 (fdB_of (k := 16) tX12_ratef_1 6 18 rfl) (fdB_of (k := 16) tX12_ratef_1 7 255 rfl)
theorem dX12_rate_24 : decode cX12_rate 24 = .ok (.ireturn, 1) := dk_172 (fdB_of (k := 16) tX12_ratef_1 8 172 rfl)
theorem dX12_rate_25 : decode cX12_rate 25 = .ok (.aload_n 0, 1) := dk_42 (fdB_of (k := 16) tX12_ratef_1 9 42 rfl)
theorem dX12_rate_26 : decode cX12_rate 26 = .ok (.getfield 28, 3) := dk_180 (fdB_of (k := 16) tX12_ratef_1 10 180 rfl) (fdB_of (k := 16) tX12_ratef_1 11 0 rfl) (fdB_of (k := 16) tX12_ratef_1 12 28 rfl)
theorem dX12_rate_29 : decode cX12_rate 29 = .ok (.iconst 1, 1) := dk_4 (fdB_of (k := 16) tX12_ratef_1 13 4 rfl)
theorem dX12_rate_30 : decode cX12_rate 30 = .ok (.iconst 3, 1) := dk_6 (fdB_of (k := 16) tX12_ratef_1 14 6 rfl)
theorem dX12_rate_31 : decode cX12_rate 31 = .ok (.iload_n 2, 1) := dk_28 (fdB_of (k := 16) tX12_ratef_1 15 28 rfl)
theorem dX12_rate_32 : decode cX12_rate 32 = .ok (.imul, 1) := dk_104 (fdB_of (k := 32) tX12_ratef_2 0 104 rfl)
theorem dX12_rate_33 : decode cX12_rate 33 = .ok (.iadd, 1) := dk_96 (fdB_of (k := 32) tX12_ratef_2 1 96 rfl)
theorem dX12_rate_34 : decode cX12_rate 34 = .ok (.iaload, 1) := dk_46 (fdB_of (k := 32) tX12_ratef_2 2 46 rfl)
theorem dX12_rate_35 : decode cX12_rate 35 = .ok (.istore_n 3, 1) := dk_62 (fdB_of (k := 32) tX12_ratef_2 3 62 rfl)
theorem dX12_rate_36 : decode cX12_rate 36 = .ok (.aload_n 0, 1) := dk_42 (fdB_of (k := 32) tX12_ratef_2 4 42 rfl)
theorem dX12_rate_37 : decode cX12_rate 37 = .ok (.getfield 28, 3) := dk_180 (fdB_of (k := 32) tX12_ratef_2 5 180 rfl) (fdB_of (k := 32) tX12_ratef_2 6 0 rfl) (fdB_of (k := 32) tX12_ratef_2 7 28 rfl)
theorem dX12_rate_40 : decode cX12_rate 40 = .ok (.iconst 2, 1) := dk_5 (fdB_of (k := 32) tX12_ratef_2 8 5 rfl)
theorem dX12_rate_41 : decode cX12_rate 41 = .ok (.iconst 3, 1) := dk_6 (fdB_of (k := 32) tX12_ratef_2 9 6 rfl)
theorem dX12_rate_42 : decode cX12_rate 42 = .ok (.iload_n 2, 1) := dk_28 (fdB_of (k := 32) tX12_ratef_2 10 28 rfl)
theorem dX12_rate_43 : decode cX12_rate 43 = .ok (.imul, 1) := dk_104 (fdB_of (k := 32) tX12_ratef_2 11 104 rfl)
theorem dX12_rate_44 : decode cX12_rate 44 = .ok (.iadd, 1) := dk_96 (fdB_of (k := 32) tX12_ratef_2 12 96 rfl)
theorem dX12_rate_45 : decode cX12_rate 45 = .ok (.iaload, 1) := dk_46 (fdB_of (k := 32) tX12_ratef_2 13 46 rfl)
theorem dX12_rate_46 : decode cX12_rate 46 = .ok (.istore 4, 2) := dk_54 (fdB_of (k := 32) tX12_ratef_2 14 54 rfl) (fdB_of (k := 32) tX12_ratef_2 15 4 rfl)
theorem dX12_rate_48 : decode cX12_rate 48 = .ok (.iload 4, 2) := dk_21 (fdB_of (k := 48) tX12_ratef_3 0 21 rfl) (fdB_of (k := 48) tX12_ratef_3 1 4 rfl)
theorem dX12_rate_50 : decode cX12_rate 50 = .ok (.aload_n 0, 1) := dk_42 (fdB_of (k := 48) tX12_ratef_3 2 42 rfl)
theorem dX12_rate_51 : decode cX12_rate 51 = .ok (.getfield 13, 3) := dk_180 (fdB_of (k := 48) tX12_ratef_3 3 180 rfl) (fdB_of (k := 48) tX12_ratef_3 4 0 rfl) (fdB_of (k := 48) tX12_ratef_3 5 13 rfl)
theorem dX12_rate_54 : decode cX12_rate 54 = .ok (.iconst 4, 1) := dk_7 (fdB_of (k := 48) tX12_ratef_3 6 7 rfl)
theorem dX12_rate_55 : decode cX12_rate 55 = .ok (.iload_n 3, 1) := dk_29 (fdB_of (k := 48) tX12_ratef_3 7 29 rfl)
theorem dX12_rate_56 : decode cX12_rate 56 = .ok (.imul, 1) := dk_104 (fdB_of (k := 48) tX12_ratef_3 8 104 rfl)
theorem dX12_rate_57 : decode cX12_rate 57 = .ok (.iconst 3, 1) := dk_6 (fdB_of (k := 48) tX12_ratef_3 9 6 rfl)
theorem dX12_rate_58 : decode cX12_rate 58 = .ok (.iadd, 1) := dk_96 (fdB_of (k := 48) tX12_ratef_3 10 96 rfl)
theorem dX12_rate_59 : decode cX12_rate 59 = .ok (.iaload, 1) := dk_46 (fdB_of (k := 48) tX12_ratef_3 11 46 rfl)
theorem dX12_rate_60 : decode cX12_rate 60 = .ok (.iadd, 1) := dk_96 (fdB_of (k := 48) tX12_ratef_3 12 96 rfl)
theorem dX12_rate_61 : decode cX12_rate 61 = .ok (.istore 5, 2) := dk_54 (fdB_of (k := 48) tX12_ratef_3 13 54 rfl) (fdB_of (k := 48) tX12_ratef_3 14 5 rfl)
theorem dX12_rate_63 : decode cX12_rate 63 = .ok (.iload 4, 2) := dk_21 (fdB_of (k := 48) tX12_ratef_3 15 21 rfl) (fdB_of (k := 64) tX12_ratef_4 0 4 rfl)
theorem dX12_rate_65 : decode cX12_rate 65 = .ok (.aload_n 0, 1) := dk_42 (fdB_of (k := 64) tX12_ratef_4 1 42 rfl)
theorem dX12_rate_66 : decode cX12_rate 66 = .ok (.getfield 28, 3) := dk_180 (fdB_of (k := 64) tX12_ratef_4 2 180 rfl) (fdB_of (k := 64) tX12_ratef_4 3 0 rfl) (fdB_of (k := 64) tX12_ratef_4 4 28 rfl)
theorem dX12_rate_69 : decode cX12_rate 69 = .ok (.iconst 3, 1) := dk_6 (fdB_of (k := 64) tX12_ratef_4 5 6 rfl)
theorem dX12_rate_70 : decode cX12_rate 70 = .ok (.iconst 3, 1) := dk_6 (fdB_of (k := 64) tX12_ratef_4 6 6 rfl)
theorem dX12_rate_71 : decode cX12_rate 71 = .ok (.iload_n 2, 1) := dk_28 (fdB_of (k := 64) tX12_ratef_4 7 28 rfl)
theorem dX12_rate_72 : decode cX12_rate 72 = .ok (.imul, 1) := dk_104 (fdB_of (k := 64) tX12_ratef_4 8 104 rfl)
theorem dX12_rate_73 : decode cX12_rate 73 = .ok (.iadd, 1) := dk_96 (fdB_of (k := 64) tX12_ratef_4 9 96 rfl)
theorem dX12_rate_74 : decode cX12_rate 74 = .ok (.iaload, 1) := dk_46 (fdB_of (k := 64) tX12_ratef_4 10 46 rfl)
theorem dX12_rate_75 : decode cX12_rate 75 = .ok (.iadd, 1) := dk_96 (fdB_of (k := 64) tX12_ratef_4 11 96 rfl)
theorem dX12_rate_76 : decode cX12_rate 76 = .ok (.istore 6, 2) := dk_54 (fdB_of (k := 64) tX12_ratef_4 12 54 rfl) (fdB_of (k := 64) tX12_ratef_4 13 6 rfl)
theorem dX12_rate_78 : decode cX12_rate 78 = .ok (.aload_n 0, 1) := dk_42 (fdB_of (k := 64) tX12_ratef_4 14 42 rfl)
theorem dX12_rate_79 : decode cX12_rate 79 = .ok (.dup, 1) := dk_89 (fdB_of (k := 64) tX12_ratef_4 15 89 rfl)
theorem dX12_rate_80 : decode cX12_rate 80 = .ok (.getfield 256, 3) := dk_180 (fdB_of (k := 80) tX12_ratef_5 0 180 rfl) (fdB_of (k := 80) tX12_ratef_5 1 1 rfl) (fdB_of (k := 80) tX12_ratef_5 2 0 rfl)
theorem dX12_rate_83 : decode cX12_rate 83 = .ok (.iload_n 1, 1) := dk_27 (fdB_of (k := 80) tX12_ratef_5 3 27 rfl)
theorem dX12_rate_84 : decode cX12_rate 84 = .ok (.ifCond .ne 7, 3) := dk_154 (fdB_of (k := 80) tX12_ratef_5 4 154 rfl) (fdB_of (k := 80) tX12_ratef_5 5 0 rfl) (fdB_of (k := 80) tX12_ratef_5 6 7 rfl) (by decide +kernel)
theorem dX12_rate_87 : decode cX12_rate 87 = .ok (.lconst 1, 1) := dk_10 (fdB_of (k := 80) tX12_ratef_5 7 10 rfl)
theorem dX12_rate_88 : decode cX12_rate 88 = .ok (.goto 50, 3) := dk_167 (fdB_of (k := 80) tX12_ratef_5 8 167 rfl) (fdB_of (k := 80) tX12_ratef_5 9 0 rfl) (fdB_of (k := 80) tX12_ratef_5 10 50 rfl) (by decide +kernel)
theorem dX12_rate_91 : decode cX12_rate 91 = .ok (.iload_n 1, 1) := dk_27 (fdB_of (k := 80) tX12_ratef_5 11 27 rfl)
theorem dX12_rate_92 : decode cX12_rate 92 = .ok (.iconst 1, 1) := dk_4 (fdB_of (k := 80) tX12_ratef_5 12 4 rfl)
theorem dX12_rate_93 : decode cX12_rate 93 = .ok (.if_icmp .ne 9, 3) := dk_160 (fdB_of (k := 80) tX12_ratef_5 13 160 rfl) (fdB_of (k := 80) tX12_ratef_5 14 0 rfl) (fdB_of (k := 80) tX12_ratef_5 15 9 rfl) (by decide +kernel)
theorem dX12_rate_96 : decode cX12_rate 96 = .ok (.ldc2_w 260, 3) := dk_20 (fdB_of (k := 96) tX12_ratef_6 0 20 rfl) (fdB_of (k := 96) tX12_ratef_6 1 1 rfl) (fdB_of (k := 96) tX12_ratef_6 2 4 rfl)
theorem dX12_rate_99 : decode cX12_rate 99 = .ok (.goto 39, 3) := dk_167 (fdB_of (k := 96) tX12_ratef_6 3 167 rfl) (fdB_of (k := 96) tX12_ratef_6 4 0 rfl) (fdB_of (k := 96) tX12_ratef_6 5 39 rfl) (by decide +kernel)
theorem dX12_rate_102 : decode cX12_rate 102 = .ok (.iload_n 1, 1) := dk_27 (fdB_of (k := 96) tX12_ratef_6 6 27 rfl)
theorem dX12_rate_103 : decode cX12_rate 103 = .ok (.iconst 2, 1) := dk_5 (fdB_of (k := 96) tX12_ratef_6 7 5 rfl)
theorem dX12_rate_104 : decode cX12_rate 104 = .ok (.if_icmp .ne 9, 3) := dk_160 (fdB_of (k := 96) tX12_ratef_6 8 160 rfl) (fdB_of (k := 96) tX12_ratef_6 9 0 rfl) (fdB_of (k := 96) tX12_ratef_6 10 9 rfl) (by decide +kernel)
theorem dX12_rate_107 : decode cX12_rate 107 = .ok (.ldc2_w 262, 3) := dk_20 (fdB_of (k := 96) tX12_ratef_6 11 20 rfl) (fdB_of (k := 96) tX12_ratef_6 12 1 rfl) (fdB_of (k := 96) tX12_ratef_6 13 6 rfl)
theorem dX12_rate_110 : decode cX12_rate 110 = .ok (.goto 28, 3) := dk_167 (fdB_of (k := 96) tX12_ratef_6 14 167 rfl) (fdB_of (k := 96) tX12_ratef_6 15 0 rfl) (fdB_of (k := 112) tX12_ratef_7 0 28 rfl) (by decide +kernel)
theorem dX12_rate_113 : decode cX12_rate 113 = .ok (.iload_n 1, 1) := dk_27 (fdB_of (k := 112) tX12_ratef_7 1 27 rfl)
theorem dX12_rate_114 : decode cX12_rate 114 = .ok (.iconst 3, 1) := dk_6 (fdB_of (k := 112) tX12_ratef_7 2 6 rfl)
theorem dX12_rate_115 : decode cX12_rate 115 = .ok (.if_icmp .ne 9, 3) := dk_160 (fdB_of (k := 112) tX12_ratef_7 3 160 rfl) (fdB_of (k := 112) tX12_ratef_7 4 0 rfl) (fdB_of (k := 112) tX12_ratef_7 5 9 rfl) (by decide +kernel)
theorem dX12_rate_118 : decode cX12_rate 118 = .ok (.ldc2_w 264, 3) := dk_20 (fdB_of (k := 112) tX12_ratef_7 6 20 rfl) (fdB_of (k := 112) tX12_ratef_7 7 1 rfl) (fdB_of (k := 112) tX12_ratef_7 8 8 rfl)
theorem dX12_rate_121 : decode cX12_rate 121 = .ok (.goto 17, 3) := dk_167 (fdB_of (k := 112) tX12_ratef_7 9 167 rfl) (fdB_of (k := 112) tX12_ratef_7 10 0 rfl) (fdB_of (k := 112) tX12_ratef_7 11 17 rfl) (by decide +kernel)
theorem dX12_rate_124 : decode cX12_rate 124 = .ok (.iload_n 1, 1) := dk_27 (fdB_of (k := 112) tX12_ratef_7 12 27 rfl)
theorem dX12_rate_125 : decode cX12_rate 125 = .ok (.iconst 4, 1) := dk_7 (fdB_of (k := 112) tX12_ratef_7 13 7 rfl)
theorem dX12_rate_126 : decode cX12_rate 126 = .ok (.if_icmp .ne 9, 3) := dk_160 (fdB_of (k := 112) tX12_ratef_7 14 160 rfl) (fdB_of (k := 112) tX12_ratef_7 15 0 rfl) (fdB_of (k := 128) tX12_ratef_8 0 9 rfl) (by decide +kernel)
theorem dX12_rate_129 : decode cX12_rate 129 = .ok (.ldc2_w 266, 3) := dk_20 (fdB_of (k := 128) tX12_ratef_8 1 20 rfl) (fdB_of (k := 128) tX12_ratef_8 2 1 rfl) (fdB_of (k := 128) tX12_ratef_8 3 10 rfl)
theorem dX12_rate_132 : decode cX12_rate 132 = .ok (.goto 6, 3) := dk_167 (fdB_of (k := 128) tX12_ratef_8 4 167 rfl) (fdB_of (k := 128) tX12_ratef_8 5 0 rfl) (fdB_of (k := 128) tX12_ratef_8 6 6 rfl) (by decide +kernel)
theorem dX12_rate_135 : decode cX12_rate 135 = .ok (.ldc2_w 268, 3) := dk_20 (fdB_of (k := 128) tX12_ratef_8 7 20 rfl) (fdB_of (k := 128) tX12_ratef_8 8 1 rfl) (fdB_of (k := 128) tX12_ratef_8 9 12 rfl)
theorem dX12_rate_138 : decode cX12_rate 138 = .ok (.ladd, 1) := dk_97 (fdB_of (k := 128) tX12_ratef_8 10 97 rfl)
theorem dX12_rate_139 : decode cX12_rate 139 = .ok (.putfield 256, 3) := dk_181 (fdB_of (k := 128) tX12_ratef_8 11 181 rfl) (fdB_of (k := 128) tX12_ratef_8 12 1 rfl) (fdB_of (k := 128) tX12_ratef_8 13 0 rfl)
theorem dX12_rate_142 : decode cX12_rate 142 = .ok (.iload_n 1, 1) := dk_27 (fdB_of (k := 128) tX12_ratef_8 14 27 rfl)
theorem dX12_rate_143 : decode cX12_rate 143 = .ok (.ifCond .ne 8, 3) := dk_154 (fdB_of (k := 128) tX12_ratef_8 15 154 rfl) (fdB_of (k := 144) tX12_ratef_9 0 0 rfl) (fdB_of (k := 144) tX12_ratef_9 1 8 rfl) (by decide +kernel)
theorem dX12_rate_146 : decode cX12_rate 146 = .ok (.iload 4, 2) := dk_21 (fdB_of (k := 144) tX12_ratef_9 2 21 rfl) (fdB_of (k := 144) tX12_ratef_9 3 4 rfl)
theorem dX12_rate_148 : decode cX12_rate 148 = .ok (.goto 60, 3) := dk_167 (fdB_of (k := 144) tX12_ratef_9 4 167 rfl) (fdB_of (k := 144) tX12_ratef_9 5 0 rfl) (fdB_of (k := 144) tX12_ratef_9 6 60 rfl) (by decide +kernel)
theorem dX12_rate_151 : decode cX12_rate 151 = .ok (.iload_n 1, 1) := dk_27 (fdB_of (k := 144) tX12_ratef_9 7 27 rfl)
theorem dX12_rate_152 : decode cX12_rate 152 = .ok (.iconst 1, 1) := dk_4 (fdB_of (k := 144) tX12_ratef_9 8 4 rfl)
theorem dX12_rate_153 : decode cX12_rate 153 = .ok (.if_icmp .ne 8, 3) := dk_160 (fdB_of (k := 144) tX12_ratef_9 9 160 rfl) (fdB_of (k := 144) tX12_ratef_9 10 0 rfl) (fdB_of (k := 144) tX12_ratef_9 11 8 rfl) (by decide +kernel)
theorem dX12_rate_156 : decode cX12_rate 156 = .ok (.iload 5, 2) := dk_21 (fdB_of (k := 144) tX12_ratef_9 12 21 rfl) (fdB_of (k := 144) tX12_ratef_9 13 5 rfl)
theorem dX12_rate_158 : decode cX12_rate 158 = .ok (.goto 50, 3) := dk_167 (fdB_of (k := 144) tX12_ratef_9 14 167 rfl) (fdB_of (k := 144) tX12_ratef_9 15 0 rfl) (fdB_of (k := 160) tX12_ratef_10 0 50 rfl) (by decide +kernel)
theorem dX12_rate_161 : decode cX12_rate 161 = .ok (.iload_n 1, 1) := dk_27 (fdB_of (k := 160) tX12_ratef_10 1 27 rfl)
theorem dX12_rate_162 : decode cX12_rate 162 = .ok (.iconst 2, 1) := dk_5 (fdB_of (k := 160) tX12_ratef_10 2 5 rfl)
theorem dX12_rate_163 : decode cX12_rate 163 = .ok (.if_icmp .ne 8, 3) := dk_160 (fdB_of (k := 160) tX12_ratef_10 3 160 rfl) (fdB_of (k := 160) tX12_ratef_10 4 0 rfl) (fdB_of (k := 160) tX12_ratef_10 5 8 rfl) (by decide +kernel)
theorem dX12_rate_166 : decode cX12_rate 166 = .ok (.iload 6, 2) := dk_21 (fdB_of (k := 160) tX12_ratef_10 6 21 rfl) (fdB_of (k := 160) tX12_ratef_10 7 6 rfl)
theorem dX12_rate_168 : decode cX12_rate 168 = .ok (.goto 40, 3) := dk_167 (fdB_of (k := 160) tX12_ratef_10 8 167 rfl) (fdB_of (k := 160) tX12_ratef_10 9 0 rfl) (fdB_of (k := 160) tX12_ratef_10 10 40 rfl) (by decide +kernel)
theorem dX12_rate_171 : decode cX12_rate 171 = .ok (.iload_n 1, 1) := dk_27 (fdB_of (k := 160) tX12_ratef_10 11 27 rfl)
theorem dX12_rate_172 : decode cX12_rate 172 = .ok (.iconst 3, 1) := dk_6 (fdB_of (k := 160) tX12_ratef_10 12 6 rfl)
theorem dX12_rate_173 : decode cX12_rate 173 = .ok (.if_icmp .ne 10, 3) := dk_160 (fdB_of (k := 160) tX12_ratef_10 13 160 rfl) (fdB_of (k := 160) tX12_ratef_10 14 0 rfl) (fdB_of (k := 160) tX12_ratef_10 15 10 rfl) (by decide +kernel)
theorem dX12_rate_176 : decode cX12_rate 176 = .ok (.iconst 2, 1) := dk_5 (fdB_of (k := 176) tX12_ratef_11 0 5 rfl)
theorem dX12_rate_177 : decode cX12_rate 177 = .ok (.iload 6, 2) := dk_21 (fdB_of (k := 176) tX12_ratef_11 1 21 rfl) (fdB_of (k := 176) tX12_ratef_11 2 6 rfl)
theorem dX12_rate_179 : decode cX12_rate 179 = .ok (.imul, 1) := dk_104 (fdB_of (k := 176) tX12_ratef_11 3 104 rfl)
theorem dX12_rate_180 : decode cX12_rate 180 = .ok (.goto 28, 3) := dk_167 (fdB_of (k := 176) tX12_ratef_11 4 167 rfl) (fdB_of (k := 176) tX12_ratef_11 5 0 rfl) (fdB_of (k := 176) tX12_ratef_11 6 28 rfl) (by decide +kernel)
theorem dX12_rate_183 : decode cX12_rate 183 = .ok (.iload_n 1, 1) := dk_27 (fdB_of (k := 176) tX12_ratef_11 7 27 rfl)
theorem dX12_rate_184 : decode cX12_rate 184 = .ok (.iconst 4, 1) := dk_7 (fdB_of (k := 176) tX12_ratef_11 8 7 rfl)
theorem dX12_rate_185 : decode cX12_rate 185 = .ok (.if_icmp .ne 10, 3) := dk_160 (fdB_of (k := 176) tX12_ratef_11 9 160 rfl) (fdB_of (k := 176) tX12_ratef_11 10 0 rfl) (fdB_of (k := 176) tX12_ratef_11 11 10 rfl) (by decide +kernel)
theorem dX12_rate_188 : decode cX12_rate 188 = .ok (.iload 5, 2) := dk_21 (fdB_of (k := 176) tX12_ratef_11 12 21 rfl) (fdB_of (k := 176) tX12_ratef_11 13 5 rfl)
theorem dX12_rate_190 : decode cX12_rate 190 = .ok (.iload_n 2, 1) := dk_28 (fdB_of (k := 176) tX12_ratef_11 14 28 rfl)
theorem dX12_rate_191 : decode cX12_rate 191 = .ok (.iadd, 1) := dk_96 (fdB_of (k := 176) tX12_ratef_11 15 96 rfl)
theorem dX12_rate_192 : decode cX12_rate 192 = .ok (.goto 16, 3) := dk_167 (fdB_of (k := 192) tX12_ratef_12 0 167 rfl) (fdB_of (k := 192) tX12_ratef_12 1 0 rfl) (fdB_of (k := 192) tX12_ratef_12 2 16 rfl) (by decide +kernel)
theorem dX12_rate_195 : decode cX12_rate 195 = .ok (.iload 4, 2) := dk_21 (fdB_of (k := 192) tX12_ratef_12 3 21 rfl) (fdB_of (k := 192) tX12_ratef_12 4 4 rfl)
theorem dX12_rate_197 : decode cX12_rate 197 = .ok (.aload_n 0, 1) := dk_42 (fdB_of (k := 192) tX12_ratef_12 5 42 rfl)
theorem dX12_rate_198 : decode cX12_rate 198 = .ok (.getfield 13, 3) := dk_180 (fdB_of (k := 192) tX12_ratef_12 6 180 rfl) (fdB_of (k := 192) tX12_ratef_12 7 0 rfl) (fdB_of (k := 192) tX12_ratef_12 8 13 rfl)
theorem dX12_rate_201 : decode cX12_rate 201 = .ok (.iconst 4, 1) := dk_7 (fdB_of (k := 192) tX12_ratef_12 9 7 rfl)
theorem dX12_rate_202 : decode cX12_rate 202 = .ok (.iload_n 3, 1) := dk_29 (fdB_of (k := 192) tX12_ratef_12 10 29 rfl)
theorem dX12_rate_203 : decode cX12_rate 203 = .ok (.imul, 1) := dk_104 (fdB_of (k := 192) tX12_ratef_12 11 104 rfl)
theorem dX12_rate_204 : decode cX12_rate 204 = .ok (.iconst 2, 1) := dk_5 (fdB_of (k := 192) tX12_ratef_12 12 5 rfl)
theorem dX12_rate_205 : decode cX12_rate 205 = .ok (.iadd, 1) := dk_96 (fdB_of (k := 192) tX12_ratef_12 13 96 rfl)
theorem dX12_rate_206 : decode cX12_rate 206 = .ok (.iaload, 1) := dk_46 (fdB_of (k := 192) tX12_ratef_12 14 46 rfl)
theorem dX12_rate_207 : decode cX12_rate 207 = .ok (.isub, 1) := dk_100 (fdB_of (k := 192) tX12_ratef_12 15 100 rfl)
theorem dX12_rate_208 : decode cX12_rate 208 = .ok (.ireturn, 1) := dk_172 (fdB_of (k := 208) tX12_ratef_13 0 172 rfl)

theorem q4_224 : Cond.fieldLink RX12 256 "RhymeLawModel" "trace" "J" ∈ TT := tq4 224 rfl rfl
theorem q6_103 : Cond.constant RX12 255 (-1000000) ∈ TT := tq6 103 rfl rfl
theorem q6_104 : Cond.constantLong RX12 260 (11) ∈ TT := tq6 104 rfl rfl
theorem q6_105 : Cond.constantLong RX12 262 (101) ∈ TT := tq6 105 rfl rfl
theorem q6_106 : Cond.constantLong RX12 264 (1101) ∈ TT := tq6 106 rfl rfl
theorem q6_107 : Cond.constantLong RX12 266 (10011) ∈ TT := tq6 107 rfl rfl
theorem q6_108 : Cond.constantLong RX12 268 (100001) ∈ TT := tq6 108 rfl rfl
theorem fp_RX12_256 {p : Program} {l : Launch} {e : Env} {R : Room} {s : State} {m : MethodId} {args : Array Value} {below : List Frame} {meth : Method} {c : Code} {D : gG} {tys : List (ClassId × FieldType)} {A : Nat → Prop} {nL : Nat} {Q : State → Prop} {cells slots : Nat} {cc : ByteArray} {ws : va_W} {L : List (Nat × Value)} {pc : Nat} {stk : List Value} (cx : gX p s m args meth c cc nL RX12 D tys A) {a : Nat} {fs : List Value} {x : Int64} (q0 : Nat) (he : ws[q0]? = some (a, .inr (10, fs))) (hl : 1 < fs.length) {ws' : va_W} (hw : ws.set q0 (a, .inr (10, fs.set 1 (.long x))) = ws') (hd : decode cc pc = .ok (.putfield 256, 3)) (kk : gW p l e R s m args below meth c D A nL Q cells slots ws' L (pc + 3) stk) : gW p l e R s m args below meth c D A nL Q cells slots ws L pc (.long x :: .ref a :: stk) :=
  g_put cx (C := RX12) (T := TX12) (N := 38) (ty0 := tyX12) (ty := .long) inT12 tyX12_ok nmX12 rfl 1 (Nat.le_of_ble_eq_true rfl) q4_224 rfl rfl rfl rfl rfl q0 he hl hw hd kk
theorem mp_trace {p : Program} {l : Launch} {e : Env} {R : Room} {s : State} {m : MethodId} {args : Array Value} {below : List Frame} {meth : Method} {c : Code} {D : gG} {A : Nat → Prop} {nL : Nat} {Q : State → Prop} {cells slots : Nat} {cc : ByteArray} {L : List (Nat × Value)} {pc : Nat} {stk : List Value} {β : Type} {r : β} {o : Nat → Nat} {cB cI cJ cZ : ClassId} {z : SM} (cx : gX p s m args meth c cc nL RX12 D (tyL cB cI cJ cZ) A) {x : Int64} {kf : SM → Option β} (hf : nm (mTs z x) kf = some r) (hd : decode cc pc = .ok (.putfield 256, 3)) (kk : ∀ y : SM, kf y = some r → gW p l e R s m args below meth c D A nL Q cells slots (wX12 o cB cI cJ cZ y) L (pc + 3) stk) : gW p l e R s m args below meth c D A nL Q cells slots (wX12 o cB cI cJ cZ z) L pc (.long x :: .ref (o 0) :: stk) :=
  fp_RX12_256 cx 0 rfl (Nat.le_of_ble_eq_true rfl) (ws' := wX12 o cB cI cJ cZ (mTs z x)) rfl hd (kk _ hf)
theorem fg_RX12_256 {p : Program} {l : Launch} {e : Env} {R : Room} {s : State} {m : MethodId} {args : Array Value} {below : List Frame} {meth : Method} {c : Code} {D : gG} {tys : List (ClassId × FieldType)} {A : Nat → Prop} {nL : Nat} {Q : State → Prop} {cells slots : Nat} {cc : ByteArray} {ws : va_W} {L : List (Nat × Value)} {pc : Nat} {stk : List Value} (cx : gX p s m args meth c cc nL RX12 D tys A) {a : Nat} {fs : List Value} {v : Value} (q0 : Nat) (he : ws[q0]? = some (a, .inr (10, fs))) (hv : fs[1]? = some v) (hd : decode cc pc = .ok (.getfield 256, 3)) (kk : gW p l e R s m args below meth c D A nL Q cells slots ws L (pc + 3) (v :: stk)) : gW p l e R s m args below meth c D A nL Q cells slots ws L pc (.ref a :: stk) :=
  g_get cx (C := RX12) (T := TX12) (N := 38) inT12 rfl 1 (Nat.le_of_ble_eq_true rfl) q4_224 rfl q0 he hv hd kk
theorem mg_trace {p : Program} {l : Launch} {e : Env} {R : Room} {s : State} {m : MethodId} {args : Array Value} {below : List Frame} {meth : Method} {c : Code} {D : gG} {A : Nat → Prop} {nL : Nat} {Q : State → Prop} {cells slots : Nat} {cc : ByteArray} {L : List (Nat × Value)} {pc : Nat} {stk : List Value} {o : Nat → Nat} {cB cI cJ cZ : ClassId} {z : SM} (cx : gX p s m args meth c cc nL RX12 D (tyL cB cI cJ cZ) A) (hd : decode cc pc = .ok (.getfield 256, 3)) (kk : gW p l e R s m args below meth c D A nL Q cells slots (wX12 o cB cI cJ cZ z) L (pc + 3) (.long (mT z) :: stk)) : gW p l e R s m args below meth c D A nL Q cells slots (wX12 o cB cI cJ cZ z) L pc (.ref (o 0) :: stk) :=
  fg_RX12_256 cx 0 rfl rfl hd kk
def F_X12_rate_b22 (x1 : Int32) (x2 : Int32) (zs_o : SM) : Option (Int32 × SM) := some ((-1000000), zs_o)
def F_X12_rate_b138 (x1 : Int32) (x2 : Int32) (v3 : Int32) (v4 : Int32) (v5 : Int32) (v6 : Int32) (zs_o : SM) (k1 : Int64) (k2 : Int64) : Option (Int32 × SM) := nm (mTs zs_o (k1 + k2)) fun s_o_1 => (if x1 = 0 then some (v4, s_o_1) else (if x1 = 1 then some (v5, s_o_1) else (if x1 = 2 then some (v6, s_o_1) else (if x1 = 3 then some ((2 * v6), s_o_1) else (if x1 = 4 then some ((v5 + x2), s_o_1) else (aget 128 (mA s_o_1 9) ((4 * v3) + 2)).bind fun e_2 => some ((v4 - e_2), s_o_1))))))
def F_X12_rate (s_o : SM) (x1 : Int32) (x2 : Int32) : Option (Int32 × SM) := nm (mIs s_o 0 0) fun s_o_3 => (F_X12_in x1 0 5).bind fun q_4 => (if q_4 = 0 then F_X12_rate_b22 x1 x2 s_o_3 else (F_X12_isLine s_o_3 x2).bind fun q_5 => (if q_5 = 0 then F_X12_rate_b22 x1 x2 s_o_3 else (aget 25 (mA s_o_3 21) (1 + (3 * x2))).bind fun e_6 => nm e_6 fun v3_7 => (aget 25 (mA s_o_3 21) (2 + (3 * x2))).bind fun e_8 => nm e_8 fun v4_9 => (aget 128 (mA s_o_3 9) ((4 * v3_7) + 3)).bind fun e_10 => nm (v4_9 + e_10) fun v5_11 => (aget 25 (mA s_o_3 21) (3 + (3 * x2))).bind fun e_12 => nm (v4_9 + e_12) fun v6_13 => (if x1 = 0 then F_X12_rate_b138 x1 x2 v3_7 v4_9 v5_11 v6_13 s_o_3 (mT s_o_3) 1 else (if x1 = 1 then F_X12_rate_b138 x1 x2 v3_7 v4_9 v5_11 v6_13 s_o_3 (mT s_o_3) (11) else (if x1 = 2 then F_X12_rate_b138 x1 x2 v3_7 v4_9 v5_11 v6_13 s_o_3 (mT s_o_3) (101) else (if x1 = 3 then F_X12_rate_b138 x1 x2 v3_7 v4_9 v5_11 v6_13 s_o_3 (mT s_o_3) (1101) else (if x1 = 4 then F_X12_rate_b138 x1 x2 v3_7 v4_9 v5_11 v6_13 s_o_3 (mT s_o_3) (10011) else F_X12_rate_b138 x1 x2 v3_7 v4_9 v5_11 v6_13 s_o_3 (mT s_o_3) (100001))))))))

abbrev rm_X12_rate : Room := { frames := 2, cells := 0, slots := 0, locals := 43 }
set_option maxHeartbeats 4000000 in
set_option maxRecDepth 100000 in
theorem c_X12_rate (l : Launch) (D : gG) (cB cI cJ cZ : ClassId) (o : Nat → Nat) (s_o : SM) (x1 : Int32) (x2 : Int32) (r : Int32 × SM) (hf : F_X12_rate s_o x1 x2 = some r) : gM l D (tyL cB cI cJ cZ) yX12_rate cX12_rate 7 (some .int) rm_X12_rate [.ref (o 0), .int x1, .int x2] (wX12 o cB cI cJ cZ s_o) (some (.int r.1)) (wX12 o cB cI cJ cZ r.2) := by
  refine met_of (by decide) (Nat.le_of_ble_eq_true rfl) ?_
  intro p e s m args below meth c A cx hr hA
  show gW p l e rm_X12_rate s m args below meth c D A 7 _ 0 0 _ [(0, .ref (o 0)), (1, .int x1), (2, .int x2)] 0 []
  have h22 : ∀ (zs_o : SM), F_X12_rate_b22 x1 x2 zs_o = some r → gW p l e rm_X12_rate s m args below meth c D A 7 (MQ below (QM D (tyL cB cI cJ cZ) (some (.int r.1)) (wX12 o cB cI cJ cZ s_o) (wX12 o cB cI cJ cZ r.2) s.heap.size) args s 0 0 A) 0 0 (wX12 o cB cI cJ cZ zs_o) [] 22 [] := by
    intro zs_o hf
    rw [F_X12_rate_b22] at hf
    refine g_ldc cx q6_103 dX12_rate_22 ?_
    exact g_iret (ovf := fun (r : Int32 × SM) => (some (.int r.1))) (wf := fun (r : Int32 × SM) => (wX12 o cB cI cJ cZ r.2)) cx hA hr hf rfl rfl dX12_rate_24
  have h138 : ∀ (v3 : Int32) (v4 : Int32) (v5 : Int32) (v6 : Int32) (zs_o : SM) (k1 : Int64) (k2 : Int64), F_X12_rate_b138 x1 x2 v3 v4 v5 v6 zs_o k1 k2 = some r → gW p l e rm_X12_rate s m args below meth c D A 7 (MQ below (QM D (tyL cB cI cJ cZ) (some (.int r.1)) (wX12 o cB cI cJ cZ s_o) (wX12 o cB cI cJ cZ r.2) s.heap.size) args s 0 0 A) 0 0 (wX12 o cB cI cJ cZ zs_o) [(0, .ref (o 0)), (1, .int x1), (2, .int x2), (3, .int v3), (4, .int v4), (5, .int v5), (6, .int v6)] 138 [.long k2, .long k1, .ref (o 0)] := by
    intro v3 v4 v5 v6 zs_o k1 k2 hf
    rw [F_X12_rate_b138] at hf
    refine g_ladd cx dX12_rate_138 ?_
    refine mp_trace cx hf dX12_rate_139 (fun s_o_1 hf => ?_)
    refine g_iln cx 1 dX12_rate_142 rfl ?_
    refine g_if_ne (tgt := 151) cx hf dX12_rate_143 rfl (fun hf => ?_) (fun hf => ?_)
    · refine g_iln cx 1 dX12_rate_151 rfl ?_
      refine g_ic cx dX12_rate_152 k_ic1 ?_
      refine g_ic_ne (tgt := 161) cx hf dX12_rate_153 rfl (fun hf => ?_) (fun hf => ?_)
      · refine g_iln cx 1 dX12_rate_161 rfl ?_
        refine g_ic cx dX12_rate_162 k_ic2 ?_
        refine g_ic_ne (tgt := 171) cx hf dX12_rate_163 rfl (fun hf => ?_) (fun hf => ?_)
        · refine g_iln cx 1 dX12_rate_171 rfl ?_
          refine g_ic cx dX12_rate_172 k_ic3 ?_
          refine g_ic_ne (tgt := 183) cx hf dX12_rate_173 rfl (fun hf => ?_) (fun hf => ?_)
          · refine g_iln cx 1 dX12_rate_183 rfl ?_
            refine g_ic cx dX12_rate_184 k_ic4 ?_
            refine g_ic_ne (tgt := 195) cx hf dX12_rate_185 rfl (fun hf => ?_) (fun hf => ?_)
            · refine g_il cx 4 dX12_rate_195 rfl ?_
              refine g_aln cx 0 dX12_rate_197 rfl ?_
              refine mg_word cx dX12_rate_198 ?_
              refine g_ic cx dX12_rate_201 k_ic4 ?_
              refine g_iln cx 3 dX12_rate_202 rfl ?_
              refine g_imul cx dX12_rate_203 ?_
              refine g_ic cx dX12_rate_204 k_ic2 ?_
              refine g_iadd cx dX12_rate_205 ?_
              refine ml_word cx hf dX12_rate_206 (fun e_2 hf => ?_)
              refine g_isub cx dX12_rate_207 ?_
              exact g_iret (ovf := fun (r : Int32 × SM) => (some (.int r.1))) (wf := fun (r : Int32 × SM) => (wX12 o cB cI cJ cZ r.2)) cx hA hr hf rfl rfl dX12_rate_208
            · refine g_il cx 5 dX12_rate_188 rfl ?_
              refine g_iln cx 2 dX12_rate_190 rfl ?_
              refine g_iadd cx dX12_rate_191 ?_
              refine g_goto (tgt := 208) cx dX12_rate_192 rfl ?_
              exact g_iret (ovf := fun (r : Int32 × SM) => (some (.int r.1))) (wf := fun (r : Int32 × SM) => (wX12 o cB cI cJ cZ r.2)) cx hA hr hf rfl rfl dX12_rate_208
          · refine g_ic cx dX12_rate_176 k_ic2 ?_
            refine g_il cx 6 dX12_rate_177 rfl ?_
            refine g_imul cx dX12_rate_179 ?_
            refine g_goto (tgt := 208) cx dX12_rate_180 rfl ?_
            exact g_iret (ovf := fun (r : Int32 × SM) => (some (.int r.1))) (wf := fun (r : Int32 × SM) => (wX12 o cB cI cJ cZ r.2)) cx hA hr hf rfl rfl dX12_rate_208
        · refine g_il cx 6 dX12_rate_166 rfl ?_
          refine g_goto (tgt := 208) cx dX12_rate_168 rfl ?_
          exact g_iret (ovf := fun (r : Int32 × SM) => (some (.int r.1))) (wf := fun (r : Int32 × SM) => (wX12 o cB cI cJ cZ r.2)) cx hA hr hf rfl rfl dX12_rate_208
      · refine g_il cx 5 dX12_rate_156 rfl ?_
        refine g_goto (tgt := 208) cx dX12_rate_158 rfl ?_
        exact g_iret (ovf := fun (r : Int32 × SM) => (some (.int r.1))) (wf := fun (r : Int32 × SM) => (wX12 o cB cI cJ cZ r.2)) cx hA hr hf rfl rfl dX12_rate_208
    · refine g_il cx 4 dX12_rate_146 rfl ?_
      refine g_goto (tgt := 208) cx dX12_rate_148 rfl ?_
      exact g_iret (ovf := fun (r : Int32 × SM) => (some (.int r.1))) (wf := fun (r : Int32 × SM) => (wX12 o cB cI cJ cZ r.2)) cx hA hr hf rfl rfl dX12_rate_208
  rw [F_X12_rate] at hf
  refine g_aln cx 0 dX12_rate_0 rfl ?_
  refine g_ic cx dX12_rate_1 k_ic0 ?_
  refine mp_thrown cx hf dX12_rate_2 (fun s_o_3 hf => ?_)
  refine g_iln cx 1 dX12_rate_5 rfl ?_
  refine g_ic cx dX12_rate_6 k_ic0 ?_
  refine g_ic cx dX12_rate_7 k_ic5 ?_
  refine ob hf (fun q_4 hq_4 hf => ?_)
  refine g_callSiR cx lk_RX12_82 (c_X12_in l D cB cI cJ cZ x1 0 5 q_4 hq_4) rfl [] rfl rfl rfl (Nat.le_of_ble_eq_true rfl) ⟨rfl, rfl, Nat.le_of_ble_eq_true rfl, Nat.le_of_ble_eq_true rfl⟩ dX12_rate_8 ?_
  refine g_if_eq (tgt := 22) cx hf dX12_rate_11 rfl (fun hf => ?_) (fun hf => ?_)
  · refine g_sub [] rfl ?_
    exact h22 _ hf
  · refine g_aln cx 0 dX12_rate_14 rfl ?_
    refine g_iln cx 2 dX12_rate_15 rfl ?_
    refine ob hf (fun q_5 hq_5 hf => ?_)
    refine g_callVFi cx lk_RX12_185 (c_X12_isLine l D cB cI cJ cZ o s_o_3 x2 q_5 hq_5) rfl (ci := 10) (q1 := 0) rfl rfl rfl (Nat.le_of_ble_eq_true rfl) ⟨rfl, rfl, Nat.le_of_ble_eq_true rfl, Nat.le_of_ble_eq_true rfl⟩ dX12_rate_16 ?_
    refine g_if_ne (tgt := 25) cx hf dX12_rate_19 rfl (fun hf => ?_) (fun hf => ?_)
    · refine g_aln cx 0 dX12_rate_25 rfl ?_
      refine mg_s cx dX12_rate_26 ?_
      refine g_ic cx dX12_rate_29 k_ic1 ?_
      refine g_ic cx dX12_rate_30 k_ic3 ?_
      refine g_iln cx 2 dX12_rate_31 rfl ?_
      refine g_imul cx dX12_rate_32 ?_
      refine g_iadd cx dX12_rate_33 ?_
      refine ml_s cx hf dX12_rate_34 (fun e_6 hf => ?_)
      refine g_isn cx (L2 := fun v3_7 => [(3, .int v3_7), (0, .ref (o 0)), (1, .int x1), (2, .int x2)]) hf dX12_rate_35 (Nat.le_of_ble_eq_true rfl) (fun _ => rfl) (fun v3_7 hf => ?_)
      refine g_aln cx 1 dX12_rate_36 rfl ?_
      refine mg_s cx dX12_rate_37 ?_
      refine g_ic cx dX12_rate_40 k_ic2 ?_
      refine g_ic cx dX12_rate_41 k_ic3 ?_
      refine g_iln cx 3 dX12_rate_42 rfl ?_
      refine g_imul cx dX12_rate_43 ?_
      refine g_iadd cx dX12_rate_44 ?_
      refine ml_s cx hf dX12_rate_45 (fun e_8 hf => ?_)
      refine g_is cx (L2 := fun v4_9 => [(4, .int v4_9), (3, .int v3_7), (0, .ref (o 0)), (1, .int x1), (2, .int x2)]) hf dX12_rate_46 (Nat.le_of_ble_eq_true rfl) (fun _ => rfl) (fun v4_9 hf => ?_)
      refine g_il cx 0 dX12_rate_48 rfl ?_
      refine g_aln cx 2 dX12_rate_50 rfl ?_
      refine mg_word cx dX12_rate_51 ?_
      refine g_ic cx dX12_rate_54 k_ic4 ?_
      refine g_iln cx 1 dX12_rate_55 rfl ?_
      refine g_imul cx dX12_rate_56 ?_
      refine g_ic cx dX12_rate_57 k_ic3 ?_
      refine g_iadd cx dX12_rate_58 ?_
      refine ml_word cx hf dX12_rate_59 (fun e_10 hf => ?_)
      refine g_iadd cx dX12_rate_60 ?_
      refine g_is cx (L2 := fun v5_11 => [(5, .int v5_11), (4, .int v4_9), (3, .int v3_7), (0, .ref (o 0)), (1, .int x1), (2, .int x2)]) hf dX12_rate_61 (Nat.le_of_ble_eq_true rfl) (fun _ => rfl) (fun v5_11 hf => ?_)
      refine g_il cx 1 dX12_rate_63 rfl ?_
      refine g_aln cx 3 dX12_rate_65 rfl ?_
      refine mg_s cx dX12_rate_66 ?_
      refine g_ic cx dX12_rate_69 k_ic3 ?_
      refine g_ic cx dX12_rate_70 k_ic3 ?_
      refine g_iln cx 5 dX12_rate_71 rfl ?_
      refine g_imul cx dX12_rate_72 ?_
      refine g_iadd cx dX12_rate_73 ?_
      refine ml_s cx hf dX12_rate_74 (fun e_12 hf => ?_)
      refine g_iadd cx dX12_rate_75 ?_
      refine g_is cx (L2 := fun v6_13 => [(6, .int v6_13), (5, .int v5_11), (4, .int v4_9), (3, .int v3_7), (0, .ref (o 0)), (1, .int x1), (2, .int x2)]) hf dX12_rate_76 (Nat.le_of_ble_eq_true rfl) (fun _ => rfl) (fun v6_13 hf => ?_)
      refine g_aln cx 4 dX12_rate_78 rfl ?_
      refine g_dup cx dX12_rate_79 rfl ?_
      refine mg_trace cx dX12_rate_80 ?_
      refine g_iln cx 5 dX12_rate_83 rfl ?_
      refine g_if_ne (tgt := 91) cx hf dX12_rate_84 rfl (fun hf => ?_) (fun hf => ?_)
      · refine g_iln cx 5 dX12_rate_91 rfl ?_
        refine g_ic cx dX12_rate_92 k_ic1 ?_
        refine g_ic_ne (tgt := 102) cx hf dX12_rate_93 rfl (fun hf => ?_) (fun hf => ?_)
        · refine g_iln cx 5 dX12_rate_102 rfl ?_
          refine g_ic cx dX12_rate_103 k_ic2 ?_
          refine g_ic_ne (tgt := 113) cx hf dX12_rate_104 rfl (fun hf => ?_) (fun hf => ?_)
          · refine g_iln cx 5 dX12_rate_113 rfl ?_
            refine g_ic cx dX12_rate_114 k_ic3 ?_
            refine g_ic_ne (tgt := 124) cx hf dX12_rate_115 rfl (fun hf => ?_) (fun hf => ?_)
            · refine g_iln cx 5 dX12_rate_124 rfl ?_
              refine g_ic cx dX12_rate_125 k_ic4 ?_
              refine g_ic_ne (tgt := 135) cx hf dX12_rate_126 rfl (fun hf => ?_) (fun hf => ?_)
              · refine g_ldc2 cx q6_108 dX12_rate_135 ?_
                refine g_sub [4, 5, 6, 3, 2, 1, 0] rfl ?_
                exact h138 _ _ _ _ _ _ _ hf
              · refine g_ldc2 cx q6_107 dX12_rate_129 ?_
                refine g_goto (tgt := 138) cx dX12_rate_132 rfl ?_
                refine g_sub [4, 5, 6, 3, 2, 1, 0] rfl ?_
                exact h138 _ _ _ _ _ _ _ hf
            · refine g_ldc2 cx q6_106 dX12_rate_118 ?_
              refine g_goto (tgt := 138) cx dX12_rate_121 rfl ?_
              refine g_sub [4, 5, 6, 3, 2, 1, 0] rfl ?_
              exact h138 _ _ _ _ _ _ _ hf
          · refine g_ldc2 cx q6_105 dX12_rate_107 ?_
            refine g_goto (tgt := 138) cx dX12_rate_110 rfl ?_
            refine g_sub [4, 5, 6, 3, 2, 1, 0] rfl ?_
            exact h138 _ _ _ _ _ _ _ hf
        · refine g_ldc2 cx q6_104 dX12_rate_96 ?_
          refine g_goto (tgt := 138) cx dX12_rate_99 rfl ?_
          refine g_sub [4, 5, 6, 3, 2, 1, 0] rfl ?_
          exact h138 _ _ _ _ _ _ _ hf
      · refine g_lc cx dX12_rate_87 rfl ?_
        refine g_goto (tgt := 138) cx dX12_rate_88 rfl ?_
        refine g_sub [4, 5, 6, 3, 2, 1, 0] rfl ?_
        exact h138 _ _ _ _ _ _ _ hf
    · refine g_sub [] rfl ?_
      exact h22 _ hf
theorem dX12_keep_0 : decode cX12_keep 0 = .ok (.aload_n 0, 1) := by decide +kernel
theorem dX12_keep_1 : decode cX12_keep 1 = .ok (.iconst 0, 1) := by decide +kernel
theorem dX12_keep_2 : decode cX12_keep 2 = .ok (.putfield 78, 3) := by decide +kernel
theorem dX12_keep_5 : decode cX12_keep 5 = .ok (.iload_n 1, 1) := by decide +kernel
theorem dX12_keep_6 : decode cX12_keep 6 = .ok (.iconst 0, 1) := by decide +kernel
theorem dX12_keep_7 : decode cX12_keep 7 = .ok (.iconst 1, 1) := by decide +kernel
theorem dX12_keep_8 : decode cX12_keep 8 = .ok (.invokestatic 82, 3) := by decide +kernel
theorem dX12_keep_11 : decode cX12_keep 11 = .ok (.ifCond .ne 5, 3) := by decide +kernel
theorem dX12_keep_14 : decode cX12_keep 14 = .ok (.iconst (-1), 1) := by decide +kernel
theorem dX12_keep_15 : decode cX12_keep 15 = .ok (.ireturn, 1) := by decide +kernel
theorem dX12_keep_16 : decode cX12_keep 16 = .ok (.iconst 0, 1) := by decide +kernel
theorem dX12_keep_17 : decode cX12_keep 17 = .ok (.istore_n 2, 1) := by decide +kernel
theorem dX12_keep_18 : decode cX12_keep 18 = .ok (.iload_n 2, 1) := by decide +kernel
theorem dX12_keep_19 : decode cX12_keep 19 = .ok (.bipush 25, 2) := by decide +kernel
theorem dX12_keep_21 : decode cX12_keep 21 = .ok (.if_icmp .ge 26, 3) := by decide +kernel
theorem dX12_keep_24 : decode cX12_keep 24 = .ok (.aload_n 0, 1) := by decide +kernel
theorem dX12_keep_25 : decode cX12_keep 25 = .ok (.getfield 31, 3) := by decide +kernel
theorem dX12_keep_28 : decode cX12_keep 28 = .ok (.bipush 25, 2) := by decide +kernel
theorem dX12_keep_30 : decode cX12_keep 30 = .ok (.iload_n 1, 1) := by decide +kernel
theorem dX12_keep_31 : decode cX12_keep 31 = .ok (.imul, 1) := by decide +kernel
theorem dX12_keep_32 : decode cX12_keep 32 = .ok (.iload_n 2, 1) := by decide +kernel
theorem dX12_keep_33 : decode cX12_keep 33 = .ok (.iadd, 1) := by decide +kernel
theorem dX12_keep_34 : decode cX12_keep 34 = .ok (.aload_n 0, 1) := by decide +kernel
theorem dX12_keep_35 : decode cX12_keep 35 = .ok (.getfield 28, 3) := by decide +kernel
theorem dX12_keep_38 : decode cX12_keep 38 = .ok (.iload_n 2, 1) := by decide +kernel
theorem dX12_keep_39 : decode cX12_keep 39 = .ok (.iaload, 1) := by decide +kernel
theorem dX12_keep_40 : decode cX12_keep 40 = .ok (.iastore, 1) := by decide +kernel
theorem dX12_keep_41 : decode cX12_keep 41 = .ok (.iinc 2 1, 3) := by decide +kernel
theorem dX12_keep_44 : decode cX12_keep 44 = .ok (.goto (-26), 3) := by decide +kernel
theorem dX12_keep_47 : decode cX12_keep 47 = .ok (.aload_n 0, 1) := by decide +kernel
theorem dX12_keep_48 : decode cX12_keep 48 = .ok (.getfield 34, 3) := by decide +kernel
theorem dX12_keep_51 : decode cX12_keep 51 = .ok (.iload_n 1, 1) := by decide +kernel
theorem dX12_keep_52 : decode cX12_keep 52 = .ok (.iconst 1, 1) := by decide +kernel
theorem dX12_keep_53 : decode cX12_keep 53 = .ok (.bastore, 1) := by decide +kernel
theorem dX12_keep_54 : decode cX12_keep 54 = .ok (.aload_n 0, 1) := by decide +kernel
theorem dX12_keep_55 : decode cX12_keep 55 = .ok (.getfield 28, 3) := by decide +kernel
theorem dX12_keep_58 : decode cX12_keep 58 = .ok (.iconst 0, 1) := by decide +kernel
theorem dX12_keep_59 : decode cX12_keep 59 = .ok (.iaload, 1) := by decide +kernel
theorem dX12_keep_60 : decode cX12_keep 60 = .ok (.ireturn, 1) := by decide +kernel
theorem q5_5 : Cond.fieldLink RX12 31 "RhymeLawModel" "kept" "[I" ∈ TT := tq5 5 rfl rfl
theorem fg_RX12_31 {p : Program} {l : Launch} {e : Env} {R : Room} {s : State} {m : MethodId} {args : Array Value} {below : List Frame} {meth : Method} {c : Code} {D : gG} {tys : List (ClassId × FieldType)} {A : Nat → Prop} {nL : Nat} {Q : State → Prop} {cells slots : Nat} {cc : ByteArray} {ws : va_W} {L : List (Nat × Value)} {pc : Nat} {stk : List Value} (cx : gX p s m args meth c cc nL RX12 D tys A) {a : Nat} {fs : List Value} {v : Value} (q0 : Nat) (he : ws[q0]? = some (a, .inr (10, fs))) (hv : fs[22]? = some v) (hd : decode cc pc = .ok (.getfield 31, 3)) (kk : gW p l e R s m args below meth c D A nL Q cells slots ws L (pc + 3) (v :: stk)) : gW p l e R s m args below meth c D A nL Q cells slots ws L pc (.ref a :: stk) :=
  g_get cx (C := RX12) (T := TX12) (N := 38) inT12 rfl 22 (Nat.le_of_ble_eq_true rfl) q5_5 rfl q0 he hv hd kk
theorem mg_kept {p : Program} {l : Launch} {e : Env} {R : Room} {s : State} {m : MethodId} {args : Array Value} {below : List Frame} {meth : Method} {c : Code} {D : gG} {A : Nat → Prop} {nL : Nat} {Q : State → Prop} {cells slots : Nat} {cc : ByteArray} {L : List (Nat × Value)} {pc : Nat} {stk : List Value} {o : Nat → Nat} {cB cI cJ cZ : ClassId} {z : SM} (cx : gX p s m args meth c cc nL RX12 D (tyL cB cI cJ cZ) A) (hd : decode cc pc = .ok (.getfield 31, 3)) (kk : gW p l e R s m args below meth c D A nL Q cells slots (wX12 o cB cI cJ cZ z) L (pc + 3) (.ref (o 8) :: stk)) : gW p l e R s m args below meth c D A nL Q cells slots (wX12 o cB cI cJ cZ z) L pc (.ref (o 0) :: stk) :=
  fg_RX12_31 cx 0 rfl rfl hd kk
theorem ms_kept {p : Program} {l : Launch} {e : Env} {R : Room} {s : State} {m : MethodId} {args : Array Value} {below : List Frame} {meth : Method} {c : Code} {D : gG} {A : Nat → Prop} {nL : Nat} {Q : State → Prop} {cells slots : Nat} {cc : ByteArray} {L : List (Nat × Value)} {pc : Nat} {stk : List Value} {β : Type} {r : β} {o : Nat → Nat} {cB cI cJ cZ : ClassId} {z : SM} (cx : gX p s m args meth c cc nL RX12 D (tyL cB cI cJ cZ) A) {i : Int32} {x : Int32} {kf : SM → Option β} (hf : ((aset 50 (mA z 22) i x).bind fun f => nm (mAs z 22 f) kf) = some r) (hd : decode cc pc = .ok (.iastore, 1)) (kk : ∀ y : SM, kf y = some r → gW p l e R s m args below meth c D A nL Q cells slots (wX12 o cB cI cJ cZ y) L (pc + 1) stk) : gW p l e R s m args below meth c D A nL Q cells slots (wX12 o cB cI cJ cZ z) L pc (.int x :: .int i :: .ref (o 8) :: stk) :=
  g_iast cx 8 1 (ws' := fun f => wX12 o cB cI cJ cZ (mAs z 22 f)) hf rfl rfl (fun _ => rfl) hd (fun _ hf => kk _ hf)
def F_X12_keep_b18 (x1 : Int32) : Nat → Int32 → SM → Option (Int32 × SM)
  | 0, _, _ => none
  | n + 1, v2, zs_o => (if 25 ≤ v2 then (aset 2 (mA zs_o 23) x1 (vp_nar .boolean 1)).bind fun f_1 => nm (mAs zs_o 23 f_1) fun s_o_2 => (aget 25 (mA s_o_2 21) 0).bind fun e_3 => some (e_3, s_o_2) else (aget 25 (mA zs_o 21) v2).bind fun e_4 => (aset 50 (mA zs_o 22) ((25 * x1) + v2) e_4).bind fun f_5 => nm (mAs zs_o 22 f_5) fun s_o_6 => nm (v2 + 1) fun v2_7 => (F_X12_keep_b18 x1 n) v2_7 s_o_6)
def F_X12_keep (s_o : SM) (x1 : Int32) : Option (Int32 × SM) := nm (mIs s_o 0 0) fun s_o_8 => (F_X12_in x1 0 1).bind fun q_9 => (if q_9 = 0 then some ((-1), s_o_8) else nm 0 fun v2_10 => F_X12_keep_b18 x1 fu v2_10 s_o_8)

abbrev rm_X12_keep : Room := { frames := 1, cells := 0, slots := 0, locals := 22 }
set_option maxHeartbeats 4000000 in
set_option maxRecDepth 100000 in
theorem c_X12_keep (l : Launch) (D : gG) (cB cI cJ cZ : ClassId) (o : Nat → Nat) (s_o : SM) (x1 : Int32) (r : Int32 × SM) (hf : F_X12_keep s_o x1 = some r) : gM l D (tyL cB cI cJ cZ) yX12_keep cX12_keep 3 (some .int) rm_X12_keep [.ref (o 0), .int x1] (wX12 o cB cI cJ cZ s_o) (some (.int r.1)) (wX12 o cB cI cJ cZ r.2) := by
  refine met_of (by decide) (Nat.le_of_ble_eq_true rfl) ?_
  intro p e s m args below meth c A cx hr hA
  show gW p l e rm_X12_keep s m args below meth c D A 3 _ 0 0 _ [(0, .ref (o 0)), (1, .int x1)] 0 []
  have h18 : ∀ (n : Nat) (v2 : Int32) (zs_o : SM), F_X12_keep_b18 x1 n v2 zs_o = some r → gW p l e rm_X12_keep s m args below meth c D A 3 (MQ below (QM D (tyL cB cI cJ cZ) (some (.int r.1)) (wX12 o cB cI cJ cZ s_o) (wX12 o cB cI cJ cZ r.2) s.heap.size) args s 0 0 A) 0 0 (wX12 o cB cI cJ cZ zs_o) [(0, .ref (o 0)), (1, .int x1), (2, .int v2)] 18 [] := by
    intro n
    induction n with
    | zero => intro v2 zs_o hf; rw [F_X12_keep_b18] at hf; cases hf
    | succ n ih =>
      intro v2 zs_o hf
      rw [F_X12_keep_b18] at hf
      refine g_iln cx 2 dX12_keep_18 rfl ?_
      refine g_bp cx dX12_keep_19 k_bp25 ?_
      refine g_ic_ge (tgt := 47) cx hf dX12_keep_21 rfl (fun hf => ?_) (fun hf => ?_)
      · refine g_aln cx 0 dX12_keep_47 rfl ?_
        refine mg_isKept cx dX12_keep_48 ?_
        refine g_iln cx 1 dX12_keep_51 rfl ?_
        refine g_ic cx dX12_keep_52 k_ic1 ?_
        refine ms_isKept cx hf dX12_keep_53 (fun s_o_2 hf => ?_)
        refine g_aln cx 0 dX12_keep_54 rfl ?_
        refine mg_s cx dX12_keep_55 ?_
        refine g_ic cx dX12_keep_58 k_ic0 ?_
        refine ml_s cx hf dX12_keep_59 (fun e_3 hf => ?_)
        exact g_iret (ovf := fun (r : Int32 × SM) => (some (.int r.1))) (wf := fun (r : Int32 × SM) => (wX12 o cB cI cJ cZ r.2)) cx hA hr hf rfl rfl dX12_keep_60
      · refine g_aln cx 0 dX12_keep_24 rfl ?_
        refine mg_kept cx dX12_keep_25 ?_
        refine g_bp cx dX12_keep_28 k_bp25 ?_
        refine g_iln cx 1 dX12_keep_30 rfl ?_
        refine g_imul cx dX12_keep_31 ?_
        refine g_iln cx 2 dX12_keep_32 rfl ?_
        refine g_iadd cx dX12_keep_33 ?_
        refine g_aln cx 0 dX12_keep_34 rfl ?_
        refine mg_s cx dX12_keep_35 ?_
        refine g_iln cx 2 dX12_keep_38 rfl ?_
        refine ml_s cx hf dX12_keep_39 (fun e_4 hf => ?_)
        refine ms_kept cx hf dX12_keep_40 (fun s_o_6 hf => ?_)
        refine g_inc cx (L2 := fun v2_7 => [(2, .int v2_7), (0, .ref (o 0)), (1, .int x1)]) 2 hf dX12_keep_41 rfl (k_inc1 _) (Nat.le_of_ble_eq_true rfl) (fun _ => rfl) (fun v2_7 hf => ?_)
        refine g_goto (tgt := 18) cx dX12_keep_44 rfl ?_
        refine g_sub [1, 2, 0] rfl ?_
        exact ih _ _ hf
  rw [F_X12_keep] at hf
  refine g_aln cx 0 dX12_keep_0 rfl ?_
  refine g_ic cx dX12_keep_1 k_ic0 ?_
  refine mp_thrown cx hf dX12_keep_2 (fun s_o_8 hf => ?_)
  refine g_iln cx 1 dX12_keep_5 rfl ?_
  refine g_ic cx dX12_keep_6 k_ic0 ?_
  refine g_ic cx dX12_keep_7 k_ic1 ?_
  refine ob hf (fun q_9 hq_9 hf => ?_)
  refine g_callSiR cx lk_RX12_82 (c_X12_in l D cB cI cJ cZ x1 0 1 q_9 hq_9) rfl [] rfl rfl rfl (Nat.le_of_ble_eq_true rfl) ⟨rfl, rfl, Nat.le_of_ble_eq_true rfl, Nat.le_of_ble_eq_true rfl⟩ dX12_keep_8 ?_
  refine g_if_ne (tgt := 16) cx hf dX12_keep_11 rfl (fun hf => ?_) (fun hf => ?_)
  · refine g_ic cx dX12_keep_16 k_ic0 ?_
    refine g_isn cx (L2 := fun v2_10 => [(2, .int v2_10), (0, .ref (o 0)), (1, .int x1)]) hf dX12_keep_17 (Nat.le_of_ble_eq_true rfl) (fun _ => rfl) (fun v2_10 hf => ?_)
    refine g_sub [1, 2, 0] rfl ?_
    exact h18 fu _ _ hf
  · refine g_ic cx dX12_keep_14 k_icm1 ?_
    exact g_iret (ovf := fun (r : Int32 × SM) => (some (.int r.1))) (wf := fun (r : Int32 × SM) => (wX12 o cB cI cJ cZ r.2)) cx hA hr hf rfl rfl dX12_keep_15
theorem dX12_back_0 : decode cX12_back 0 = .ok (.aload_n 0, 1) := by decide +kernel
theorem dX12_back_1 : decode cX12_back 1 = .ok (.iconst 0, 1) := by decide +kernel
theorem dX12_back_2 : decode cX12_back 2 = .ok (.putfield 78, 3) := by decide +kernel
theorem dX12_back_5 : decode cX12_back 5 = .ok (.iload_n 1, 1) := by decide +kernel
theorem dX12_back_6 : decode cX12_back 6 = .ok (.iconst 0, 1) := by decide +kernel
theorem dX12_back_7 : decode cX12_back 7 = .ok (.iconst 1, 1) := by decide +kernel
theorem dX12_back_8 : decode cX12_back 8 = .ok (.invokestatic 82, 3) := by decide +kernel
theorem dX12_back_11 : decode cX12_back 11 = .ok (.ifCond .ne 5, 3) := by decide +kernel
theorem dX12_back_14 : decode cX12_back 14 = .ok (.iconst (-1), 1) := by decide +kernel
theorem dX12_back_15 : decode cX12_back 15 = .ok (.ireturn, 1) := by decide +kernel
theorem dX12_back_16 : decode cX12_back 16 = .ok (.aload_n 0, 1) := by decide +kernel
theorem dX12_back_17 : decode cX12_back 17 = .ok (.getfield 34, 3) := by decide +kernel
theorem dX12_back_20 : decode cX12_back 20 = .ok (.iload_n 1, 1) := by decide +kernel
theorem dX12_back_21 : decode cX12_back 21 = .ok (.baload, 1) := by decide +kernel
theorem dX12_back_22 : decode cX12_back 22 = .ok (.ifCond .ne 6, 3) := by decide +kernel
theorem dX12_back_25 : decode cX12_back 25 = .ok (.bipush (-2), 2) := by decide +kernel
theorem dX12_back_27 : decode cX12_back 27 = .ok (.ireturn, 1) := by decide +kernel
theorem dX12_back_28 : decode cX12_back 28 = .ok (.iconst 0, 1) := by decide +kernel
theorem dX12_back_29 : decode cX12_back 29 = .ok (.istore_n 2, 1) := by decide +kernel
theorem dX12_back_30 : decode cX12_back 30 = .ok (.iload_n 2, 1) := by decide +kernel
theorem dX12_back_31 : decode cX12_back 31 = .ok (.bipush 25, 2) := by decide +kernel
theorem dX12_back_33 : decode cX12_back 33 = .ok (.if_icmp .ge 26, 3) := by decide +kernel
theorem dX12_back_36 : decode cX12_back 36 = .ok (.aload_n 0, 1) := by decide +kernel
theorem dX12_back_37 : decode cX12_back 37 = .ok (.getfield 28, 3) := by decide +kernel
theorem dX12_back_40 : decode cX12_back 40 = .ok (.iload_n 2, 1) := by decide +kernel
theorem dX12_back_41 : decode cX12_back 41 = .ok (.aload_n 0, 1) := by decide +kernel
theorem dX12_back_42 : decode cX12_back 42 = .ok (.getfield 31, 3) := by decide +kernel
theorem dX12_back_45 : decode cX12_back 45 = .ok (.bipush 25, 2) := by decide +kernel
theorem dX12_back_47 : decode cX12_back 47 = .ok (.iload_n 1, 1) := by decide +kernel
theorem dX12_back_48 : decode cX12_back 48 = .ok (.imul, 1) := by decide +kernel
theorem dX12_back_49 : decode cX12_back 49 = .ok (.iload_n 2, 1) := by decide +kernel
theorem dX12_back_50 : decode cX12_back 50 = .ok (.iadd, 1) := by decide +kernel
theorem dX12_back_51 : decode cX12_back 51 = .ok (.iaload, 1) := by decide +kernel
theorem dX12_back_52 : decode cX12_back 52 = .ok (.iastore, 1) := by decide +kernel
theorem dX12_back_53 : decode cX12_back 53 = .ok (.iinc 2 1, 3) := by decide +kernel
theorem dX12_back_56 : decode cX12_back 56 = .ok (.goto (-26), 3) := by decide +kernel
theorem dX12_back_59 : decode cX12_back 59 = .ok (.aload_n 0, 1) := by decide +kernel
theorem dX12_back_60 : decode cX12_back 60 = .ok (.getfield 28, 3) := by decide +kernel
theorem dX12_back_63 : decode cX12_back 63 = .ok (.iconst 0, 1) := by decide +kernel
theorem dX12_back_64 : decode cX12_back 64 = .ok (.iaload, 1) := by decide +kernel
theorem dX12_back_65 : decode cX12_back 65 = .ok (.ireturn, 1) := by decide +kernel

theorem ml_kept {p : Program} {l : Launch} {e : Env} {R : Room} {s : State} {m : MethodId} {args : Array Value} {below : List Frame} {meth : Method} {c : Code} {D : gG} {A : Nat → Prop} {nL : Nat} {Q : State → Prop} {cells slots : Nat} {cc : ByteArray} {L : List (Nat × Value)} {pc : Nat} {stk : List Value} {β : Type} {r : β} {o : Nat → Nat} {cB cI cJ cZ : ClassId} {z : SM} (cx : gX p s m args meth c cc nL RX12 D (tyL cB cI cJ cZ) A) {i : Int32} {kf : Int32 → Option β} (hf : (aget 50 (mA z 22) i).bind kf = some r) (hd : decode cc pc = .ok (.iaload, 1)) (kk : ∀ v : Int32, kf v = some r → gW p l e R s m args below meth c D A nL Q cells slots (wX12 o cB cI cJ cZ z) L (pc + 1) (.int v :: stk)) : gW p l e R s m args below meth c D A nL Q cells slots (wX12 o cB cI cJ cZ z) L pc (.int i :: .ref (o 8) :: stk) :=
  g_iald cx 8 1 hf rfl rfl hd kk
theorem ml_isKept {p : Program} {l : Launch} {e : Env} {R : Room} {s : State} {m : MethodId} {args : Array Value} {below : List Frame} {meth : Method} {c : Code} {D : gG} {A : Nat → Prop} {nL : Nat} {Q : State → Prop} {cells slots : Nat} {cc : ByteArray} {L : List (Nat × Value)} {pc : Nat} {stk : List Value} {β : Type} {r : β} {o : Nat → Nat} {cB cI cJ cZ : ClassId} {z : SM} (cx : gX p s m args meth c cc nL RX12 D (tyL cB cI cJ cZ) A) {i : Int32} {kf : Int32 → Option β} (hf : (aget 2 (mA z 23) i).bind kf = some r) (hd : decode cc pc = .ok (.baload, 1)) (kk : ∀ v : Int32, kf v = some r → gW p l e R s m args below meth c D A nL Q cells slots (wX12 o cB cI cJ cZ z) L (pc + 1) (.int v :: stk)) : gW p l e R s m args below meth c D A nL Q cells slots (wX12 o cB cI cJ cZ z) L pc (.int i :: .ref (o 9) :: stk) :=
  g_zald cx 9 3 hf rfl rfl hd kk
def F_X12_back_b30 (x1 : Int32) : Nat → Int32 → SM → Option (Int32 × SM)
  | 0, _, _ => none
  | n + 1, v2, zs_o => (if 25 ≤ v2 then (aget 25 (mA zs_o 21) 0).bind fun e_1 => some (e_1, zs_o) else (aget 50 (mA zs_o 22) ((25 * x1) + v2)).bind fun e_2 => (aset 25 (mA zs_o 21) v2 e_2).bind fun f_3 => nm (mAs zs_o 21 f_3) fun s_o_4 => nm (v2 + 1) fun v2_5 => (F_X12_back_b30 x1 n) v2_5 s_o_4)
def F_X12_back (s_o : SM) (x1 : Int32) : Option (Int32 × SM) := nm (mIs s_o 0 0) fun s_o_6 => (F_X12_in x1 0 1).bind fun q_7 => (if q_7 = 0 then some ((-1), s_o_6) else (aget 2 (mA s_o_6 23) x1).bind fun e_8 => (if e_8 = 0 then some ((-2), s_o_6) else nm 0 fun v2_9 => F_X12_back_b30 x1 fu v2_9 s_o_6))

abbrev rm_X12_back : Room := { frames := 1, cells := 0, slots := 0, locals := 22 }
set_option maxHeartbeats 4000000 in
set_option maxRecDepth 100000 in
theorem c_X12_back (l : Launch) (D : gG) (cB cI cJ cZ : ClassId) (o : Nat → Nat) (s_o : SM) (x1 : Int32) (r : Int32 × SM) (hf : F_X12_back s_o x1 = some r) : gM l D (tyL cB cI cJ cZ) yX12_back cX12_back 3 (some .int) rm_X12_back [.ref (o 0), .int x1] (wX12 o cB cI cJ cZ s_o) (some (.int r.1)) (wX12 o cB cI cJ cZ r.2) := by
  refine met_of (by decide) (Nat.le_of_ble_eq_true rfl) ?_
  intro p e s m args below meth c A cx hr hA
  show gW p l e rm_X12_back s m args below meth c D A 3 _ 0 0 _ [(0, .ref (o 0)), (1, .int x1)] 0 []
  have h30 : ∀ (n : Nat) (v2 : Int32) (zs_o : SM), F_X12_back_b30 x1 n v2 zs_o = some r → gW p l e rm_X12_back s m args below meth c D A 3 (MQ below (QM D (tyL cB cI cJ cZ) (some (.int r.1)) (wX12 o cB cI cJ cZ s_o) (wX12 o cB cI cJ cZ r.2) s.heap.size) args s 0 0 A) 0 0 (wX12 o cB cI cJ cZ zs_o) [(0, .ref (o 0)), (1, .int x1), (2, .int v2)] 30 [] := by
    intro n
    induction n with
    | zero => intro v2 zs_o hf; rw [F_X12_back_b30] at hf; cases hf
    | succ n ih =>
      intro v2 zs_o hf
      rw [F_X12_back_b30] at hf
      refine g_iln cx 2 dX12_back_30 rfl ?_
      refine g_bp cx dX12_back_31 k_bp25 ?_
      refine g_ic_ge (tgt := 59) cx hf dX12_back_33 rfl (fun hf => ?_) (fun hf => ?_)
      · refine g_aln cx 0 dX12_back_59 rfl ?_
        refine mg_s cx dX12_back_60 ?_
        refine g_ic cx dX12_back_63 k_ic0 ?_
        refine ml_s cx hf dX12_back_64 (fun e_1 hf => ?_)
        exact g_iret (ovf := fun (r : Int32 × SM) => (some (.int r.1))) (wf := fun (r : Int32 × SM) => (wX12 o cB cI cJ cZ r.2)) cx hA hr hf rfl rfl dX12_back_65
      · refine g_aln cx 0 dX12_back_36 rfl ?_
        refine mg_s cx dX12_back_37 ?_
        refine g_iln cx 2 dX12_back_40 rfl ?_
        refine g_aln cx 0 dX12_back_41 rfl ?_
        refine mg_kept cx dX12_back_42 ?_
        refine g_bp cx dX12_back_45 k_bp25 ?_
        refine g_iln cx 1 dX12_back_47 rfl ?_
        refine g_imul cx dX12_back_48 ?_
        refine g_iln cx 2 dX12_back_49 rfl ?_
        refine g_iadd cx dX12_back_50 ?_
        refine ml_kept cx hf dX12_back_51 (fun e_2 hf => ?_)
        refine ms_s cx hf dX12_back_52 (fun s_o_4 hf => ?_)
        refine g_inc cx (L2 := fun v2_5 => [(2, .int v2_5), (0, .ref (o 0)), (1, .int x1)]) 2 hf dX12_back_53 rfl (k_inc1 _) (Nat.le_of_ble_eq_true rfl) (fun _ => rfl) (fun v2_5 hf => ?_)
        refine g_goto (tgt := 30) cx dX12_back_56 rfl ?_
        refine g_sub [1, 2, 0] rfl ?_
        exact ih _ _ hf
  rw [F_X12_back] at hf
  refine g_aln cx 0 dX12_back_0 rfl ?_
  refine g_ic cx dX12_back_1 k_ic0 ?_
  refine mp_thrown cx hf dX12_back_2 (fun s_o_6 hf => ?_)
  refine g_iln cx 1 dX12_back_5 rfl ?_
  refine g_ic cx dX12_back_6 k_ic0 ?_
  refine g_ic cx dX12_back_7 k_ic1 ?_
  refine ob hf (fun q_7 hq_7 hf => ?_)
  refine g_callSiR cx lk_RX12_82 (c_X12_in l D cB cI cJ cZ x1 0 1 q_7 hq_7) rfl [] rfl rfl rfl (Nat.le_of_ble_eq_true rfl) ⟨rfl, rfl, Nat.le_of_ble_eq_true rfl, Nat.le_of_ble_eq_true rfl⟩ dX12_back_8 ?_
  refine g_if_ne (tgt := 16) cx hf dX12_back_11 rfl (fun hf => ?_) (fun hf => ?_)
  · refine g_aln cx 0 dX12_back_16 rfl ?_
    refine mg_isKept cx dX12_back_17 ?_
    refine g_iln cx 1 dX12_back_20 rfl ?_
    refine ml_isKept cx hf dX12_back_21 (fun e_8 hf => ?_)
    refine g_if_ne (tgt := 28) cx hf dX12_back_22 rfl (fun hf => ?_) (fun hf => ?_)
    · refine g_ic cx dX12_back_28 k_ic0 ?_
      refine g_isn cx (L2 := fun v2_9 => [(2, .int v2_9), (0, .ref (o 0)), (1, .int x1)]) hf dX12_back_29 (Nat.le_of_ble_eq_true rfl) (fun _ => rfl) (fun v2_9 hf => ?_)
      refine g_sub [1, 2, 0] rfl ?_
      exact h30 fu _ _ hf
    · refine g_bp cx dX12_back_25 k_bpm2 ?_
      exact g_iret (ovf := fun (r : Int32 × SM) => (some (.int r.1))) (wf := fun (r : Int32 × SM) => (wX12 o cB cI cJ cZ r.2)) cx hA hr hf rfl rfl dX12_back_27
  · refine g_ic cx dX12_back_14 k_icm1 ?_
    exact g_iret (ovf := fun (r : Int32 × SM) => (some (.int r.1))) (wf := fun (r : Int32 × SM) => (wX12 o cB cI cJ cZ r.2)) cx hA hr hf rfl rfl dX12_back_15
theorem dX12_count_0 : decode cX12_count 0 = .ok (.aload_n 0, 1) := by decide +kernel
theorem dX12_count_1 : decode cX12_count 1 = .ok (.iconst 0, 1) := by decide +kernel
theorem dX12_count_2 : decode cX12_count 2 = .ok (.putfield 78, 3) := by decide +kernel
theorem dX12_count_5 : decode cX12_count 5 = .ok (.iload_n 1, 1) := by decide +kernel
theorem dX12_count_6 : decode cX12_count 6 = .ok (.ifCond .ne 10, 3) := by decide +kernel
theorem dX12_count_9 : decode cX12_count 9 = .ok (.aload_n 0, 1) := by decide +kernel
theorem dX12_count_10 : decode cX12_count 10 = .ok (.getfield 166, 3) := by decide +kernel
theorem dX12_count_13 : decode cX12_count 13 = .ok (.goto 54, 3) := by decide +kernel
theorem dX12_count_16 : decode cX12_count 16 = .ok (.iload_n 1, 1) := by decide +kernel
theorem dX12_count_17 : decode cX12_count 17 = .ok (.iconst 1, 1) := by decide +kernel
theorem dX12_count_18 : decode cX12_count 18 = .ok (.if_icmp .ne 10, 3) := by decide +kernel
theorem dX12_count_21 : decode cX12_count 21 = .ok (.aload_n 0, 1) := by decide +kernel
theorem dX12_count_22 : decode cX12_count 22 = .ok (.getfield 169, 3) := by decide +kernel
theorem dX12_count_25 : decode cX12_count 25 = .ok (.goto 42, 3) := by decide +kernel
theorem dX12_count_28 : decode cX12_count 28 = .ok (.iload_n 1, 1) := by decide +kernel
theorem dX12_count_29 : decode cX12_count 29 = .ok (.iconst 2, 1) := by decide +kernel
theorem dX12_count_30 : decode cX12_count 30 = .ok (.if_icmp .ne 12, 3) := by decide +kernel
theorem dX12_count_33 : decode cX12_count 33 = .ok (.aload_n 0, 1) := by decide +kernel
theorem dX12_count_34 : decode cX12_count 34 = .ok (.getfield 28, 3) := by decide +kernel
theorem dX12_count_37 : decode cX12_count 37 = .ok (.iconst 0, 1) := by decide +kernel
theorem dX12_count_38 : decode cX12_count 38 = .ok (.iaload, 1) := by decide +kernel
theorem dX12_count_39 : decode cX12_count 39 = .ok (.goto 28, 3) := by decide +kernel
theorem dX12_count_42 : decode cX12_count 42 = .ok (.iload_n 1, 1) := by decide +kernel
theorem dX12_count_43 : decode cX12_count 43 = .ok (.iconst 3, 1) := by decide +kernel
theorem dX12_count_44 : decode cX12_count 44 = .ok (.if_icmp .ne 10, 3) := by decide +kernel
theorem dX12_count_47 : decode cX12_count 47 = .ok (.aload_n 0, 1) := by decide +kernel
theorem dX12_count_48 : decode cX12_count 48 = .ok (.getfield 172, 3) := by decide +kernel
theorem dX12_count_51 : decode cX12_count 51 = .ok (.goto 16, 3) := by decide +kernel
theorem dX12_count_54 : decode cX12_count 54 = .ok (.iload_n 1, 1) := by decide +kernel
theorem dX12_count_55 : decode cX12_count 55 = .ok (.iconst 4, 1) := by decide +kernel
theorem dX12_count_56 : decode cX12_count 56 = .ok (.if_icmp .ne 10, 3) := by decide +kernel
theorem dX12_count_59 : decode cX12_count 59 = .ok (.aload_n 0, 1) := by decide +kernel
theorem dX12_count_60 : decode cX12_count 60 = .ok (.getfield 86, 3) := by decide +kernel
theorem dX12_count_63 : decode cX12_count 63 = .ok (.goto 4, 3) := by decide +kernel
theorem dX12_count_66 : decode cX12_count 66 = .ok (.iconst (-1), 1) := by decide +kernel
theorem dX12_count_67 : decode cX12_count 67 = .ok (.ireturn, 1) := by decide +kernel


def F_X12_count (s_o : SM) (x1 : Int32) : Option (Int32 × SM) := nm (mIs s_o 0 0) fun s_o_1 => (if x1 = 0 then some ((mI s_o_1 13), s_o_1) else (if x1 = 1 then some ((mI s_o_1 14), s_o_1) else (if x1 = 2 then (aget 25 (mA s_o_1 21) 0).bind fun e_2 => some (e_2, s_o_1) else (if x1 = 3 then some ((mI s_o_1 15), s_o_1) else (if x1 = 4 then some ((mI s_o_1 3), s_o_1) else some ((-1), s_o_1))))))

abbrev rm_X12_count : Room := { frames := 0, cells := 0, slots := 0, locals := 0 }
set_option maxHeartbeats 4000000 in
set_option maxRecDepth 100000 in
theorem c_X12_count (l : Launch) (D : gG) (cB cI cJ cZ : ClassId) (o : Nat → Nat) (s_o : SM) (x1 : Int32) (r : Int32 × SM) (hf : F_X12_count s_o x1 = some r) : gM l D (tyL cB cI cJ cZ) yX12_count cX12_count 2 (some .int) rm_X12_count [.ref (o 0), .int x1] (wX12 o cB cI cJ cZ s_o) (some (.int r.1)) (wX12 o cB cI cJ cZ r.2) := by
  refine met_of (by decide) (Nat.le_of_ble_eq_true rfl) ?_
  intro p e s m args below meth c A cx hr hA
  show gW p l e rm_X12_count s m args below meth c D A 2 _ 0 0 _ [(0, .ref (o 0)), (1, .int x1)] 0 []
  rw [F_X12_count] at hf
  refine g_aln cx 0 dX12_count_0 rfl ?_
  refine g_ic cx dX12_count_1 k_ic0 ?_
  refine mp_thrown cx hf dX12_count_2 (fun s_o_1 hf => ?_)
  refine g_iln cx 1 dX12_count_5 rfl ?_
  refine g_if_ne (tgt := 16) cx hf dX12_count_6 rfl (fun hf => ?_) (fun hf => ?_)
  · refine g_iln cx 1 dX12_count_16 rfl ?_
    refine g_ic cx dX12_count_17 k_ic1 ?_
    refine g_ic_ne (tgt := 28) cx hf dX12_count_18 rfl (fun hf => ?_) (fun hf => ?_)
    · refine g_iln cx 1 dX12_count_28 rfl ?_
      refine g_ic cx dX12_count_29 k_ic2 ?_
      refine g_ic_ne (tgt := 42) cx hf dX12_count_30 rfl (fun hf => ?_) (fun hf => ?_)
      · refine g_iln cx 1 dX12_count_42 rfl ?_
        refine g_ic cx dX12_count_43 k_ic3 ?_
        refine g_ic_ne (tgt := 54) cx hf dX12_count_44 rfl (fun hf => ?_) (fun hf => ?_)
        · refine g_iln cx 1 dX12_count_54 rfl ?_
          refine g_ic cx dX12_count_55 k_ic4 ?_
          refine g_ic_ne (tgt := 66) cx hf dX12_count_56 rfl (fun hf => ?_) (fun hf => ?_)
          · refine g_ic cx dX12_count_66 k_icm1 ?_
            exact g_iret (ovf := fun (r : Int32 × SM) => (some (.int r.1))) (wf := fun (r : Int32 × SM) => (wX12 o cB cI cJ cZ r.2)) cx hA hr hf rfl rfl dX12_count_67
          · refine g_aln cx 0 dX12_count_59 rfl ?_
            refine mg_typed cx dX12_count_60 ?_
            refine g_goto (tgt := 67) cx dX12_count_63 rfl ?_
            exact g_iret (ovf := fun (r : Int32 × SM) => (some (.int r.1))) (wf := fun (r : Int32 × SM) => (wX12 o cB cI cJ cZ r.2)) cx hA hr hf rfl rfl dX12_count_67
        · refine g_aln cx 0 dX12_count_47 rfl ?_
          refine mg_stocks cx dX12_count_48 ?_
          refine g_goto (tgt := 67) cx dX12_count_51 rfl ?_
          exact g_iret (ovf := fun (r : Int32 × SM) => (some (.int r.1))) (wf := fun (r : Int32 × SM) => (wX12 o cB cI cJ cZ r.2)) cx hA hr hf rfl rfl dX12_count_67
      · refine g_aln cx 0 dX12_count_33 rfl ?_
        refine mg_s cx dX12_count_34 ?_
        refine g_ic cx dX12_count_37 k_ic0 ?_
        refine ml_s cx hf dX12_count_38 (fun e_2 hf => ?_)
        refine g_goto (tgt := 67) cx dX12_count_39 rfl ?_
        exact g_iret (ovf := fun (r : Int32 × SM) => (some (.int r.1))) (wf := fun (r : Int32 × SM) => (wX12 o cB cI cJ cZ r.2)) cx hA hr hf rfl rfl dX12_count_67
    · refine g_aln cx 0 dX12_count_21 rfl ?_
      refine mg_forms cx dX12_count_22 ?_
      refine g_goto (tgt := 67) cx dX12_count_25 rfl ?_
      exact g_iret (ovf := fun (r : Int32 × SM) => (some (.int r.1))) (wf := fun (r : Int32 × SM) => (wX12 o cB cI cJ cZ r.2)) cx hA hr hf rfl rfl dX12_count_67
  · refine g_aln cx 0 dX12_count_9 rfl ?_
    refine mg_words cx dX12_count_10 ?_
    refine g_goto (tgt := 67) cx dX12_count_13 rfl ?_
    exact g_iret (ovf := fun (r : Int32 × SM) => (some (.int r.1))) (wf := fun (r : Int32 × SM) => (wX12 o cB cI cJ cZ r.2)) cx hA hr hf rfl rfl dX12_count_67
theorem dX12_trace_0 : decode cX12_trace 0 = .ok (.aload_n 0, 1) := by decide +kernel
theorem dX12_trace_1 : decode cX12_trace 1 = .ok (.iconst 0, 1) := by decide +kernel
theorem dX12_trace_2 : decode cX12_trace 2 = .ok (.putfield 78, 3) := by decide +kernel
theorem dX12_trace_5 : decode cX12_trace 5 = .ok (.aload_n 0, 1) := by decide +kernel
theorem dX12_trace_6 : decode cX12_trace 6 = .ok (.getfield 256, 3) := by decide +kernel
theorem dX12_trace_9 : decode cX12_trace 9 = .ok (.lreturn, 1) := by decide +kernel


def F_X12_trace (s_o : SM) : Option (Int64 × SM) := nm (mIs s_o 0 0) fun s_o_1 => some ((mT s_o_1), s_o_1)

abbrev rm_X12_trace : Room := { frames := 0, cells := 0, slots := 0, locals := 0 }
set_option maxHeartbeats 4000000 in
set_option maxRecDepth 100000 in
theorem c_X12_trace (l : Launch) (D : gG) (cB cI cJ cZ : ClassId) (o : Nat → Nat) (s_o : SM) (r : Int64 × SM) (hf : F_X12_trace s_o = some r) : gM l D (tyL cB cI cJ cZ) yX12_trace cX12_trace 1 (some .long) rm_X12_trace [.ref (o 0)] (wX12 o cB cI cJ cZ s_o) (some (.long r.1)) (wX12 o cB cI cJ cZ r.2) := by
  refine met_of (by decide) (Nat.le_of_ble_eq_true rfl) ?_
  intro p e s m args below meth c A cx hr hA
  show gW p l e rm_X12_trace s m args below meth c D A 1 _ 0 0 _ [(0, .ref (o 0))] 0 []
  rw [F_X12_trace] at hf
  refine g_aln cx 0 dX12_trace_0 rfl ?_
  refine g_ic cx dX12_trace_1 k_ic0 ?_
  refine mp_thrown cx hf dX12_trace_2 (fun s_o_1 hf => ?_)
  refine g_aln cx 0 dX12_trace_5 rfl ?_
  refine mg_trace cx dX12_trace_6 ?_
  exact g_lret (ovf := fun (r : Int64 × SM) => (some (.long r.1))) (wf := fun (r : Int64 × SM) => (wX12 o cB cI cJ cZ r.2)) cx hA hr hf rfl rfl dX12_trace_9
