def tX12_judges_15 : List Nat := 153 :: 0 :: 7 :: 4 :: 167 :: 0 :: 4 :: 3 :: 84 :: 132 :: 2 :: 1 :: 167 :: 255 :: 205 :: 177 :: []
def tX12_judges_14 : List Nat := 21 :: 42 :: 180 :: 0 :: 44 :: 28 :: 51 :: 153 :: 0 :: 16 :: 42 :: 28 :: 3 :: 182 :: 0 :: 194 :: tX12_judges_15
def tX12_judges_13 : List Nat := 49 :: 42 :: 180 :: 0 :: 47 :: 28 :: 42 :: 180 :: 0 :: 50 :: 28 :: 46 :: 16 :: 247 :: 160 :: 0 :: tX12_judges_14
def tX12_judges_12 : List Nat := 84 :: 132 :: 2 :: 1 :: 167 :: 255 :: 62 :: 3 :: 61 :: 28 :: 42 :: 180 :: 0 :: 188 :: 162 :: 0 :: tX12_judges_13
def tX12_judges_11 : List Nat := 42 :: 180 :: 0 :: 50 :: 28 :: 46 :: 16 :: 247 :: 159 :: 0 :: 7 :: 4 :: 167 :: 0 :: 4 :: 3 :: tX12_judges_12
def tX12_judges_10 : List Nat := 247 :: 79 :: 42 :: 180 :: 0 :: 41 :: 28 :: 42 :: 180 :: 0 :: 44 :: 28 :: 51 :: 154 :: 0 :: 14 :: tX12_judges_11
def tX12_judges_9 : List Nat := 21 :: 5 :: 153 :: 0 :: 13 :: 21 :: 6 :: 153 :: 0 :: 8 :: 21 :: 4 :: 167 :: 0 :: 5 :: 16 :: tX12_judges_10
def tX12_judges_8 : List Nat := 21 :: 4 :: 156 :: 0 :: 7 :: 4 :: 167 :: 0 :: 4 :: 3 :: 84 :: 42 :: 180 :: 0 :: 50 :: 28 :: tX12_judges_9
def tX12_judges_7 : List Nat := 167 :: 0 :: 4 :: 3 :: 54 :: 6 :: 42 :: 180 :: 0 :: 44 :: 28 :: 21 :: 5 :: 153 :: 0 :: 12 :: tX12_judges_8
def tX12_judges_6 : List Nat := 6 :: 21 :: 4 :: 104 :: 46 :: 46 :: 42 :: 180 :: 0 :: 56 :: 29 :: 46 :: 160 :: 0 :: 7 :: 4 :: tX12_judges_7
def tX12_judges_5 : List Nat := 21 :: 4 :: 104 :: 46 :: 29 :: 159 :: 0 :: 30 :: 42 :: 180 :: 0 :: 56 :: 42 :: 180 :: 0 :: 38 :: tX12_judges_6
def tX12_judges_4 : List Nat := 29 :: 182 :: 0 :: 191 :: 54 :: 5 :: 21 :: 4 :: 155 :: 0 :: 43 :: 42 :: 180 :: 0 :: 38 :: 6 :: tX12_judges_5
def tX12_judges_3 : List Nat := 28 :: 182 :: 0 :: 182 :: 159 :: 0 :: 9 :: 132 :: 4 :: 255 :: 167 :: 255 :: 222 :: 42 :: 27 :: 28 :: tX12_judges_4
def tX12_judges_2 : List Nat := 41 :: 21 :: 4 :: 51 :: 153 :: 0 :: 19 :: 42 :: 27 :: 21 :: 4 :: 182 :: 0 :: 182 :: 42 :: 27 :: tX12_judges_3
def tX12_judges_1 : List Nat := 104 :: 46 :: 62 :: 28 :: 4 :: 100 :: 54 :: 4 :: 21 :: 4 :: 155 :: 0 :: 35 :: 42 :: 180 :: 0 :: tX12_judges_2
def tX12_judges_0 : List Nat := 3 :: 61 :: 28 :: 42 :: 180 :: 0 :: 188 :: 162 :: 0 :: 192 :: 42 :: 180 :: 0 :: 38 :: 6 :: 28 :: tX12_judges_1
theorem tX12_judgesf_0 : (cX12_judges.data.toList.map UInt8.toNat).drop 0 = tX12_judges_0 := by decide +kernel
theorem tX12_judgesf_1 : (cX12_judges.data.toList.map UInt8.toNat).drop 16 = tX12_judges_1 := fd_next (k := 0) tX12_judgesf_0 rfl
theorem tX12_judgesf_2 : (cX12_judges.data.toList.map UInt8.toNat).drop 32 = tX12_judges_2 := fd_next (k := 16) tX12_judgesf_1 rfl
theorem tX12_judgesf_3 : (cX12_judges.data.toList.map UInt8.toNat).drop 48 = tX12_judges_3 := fd_next (k := 32) tX12_judgesf_2 rfl
theorem tX12_judgesf_4 : (cX12_judges.data.toList.map UInt8.toNat).drop 64 = tX12_judges_4 := fd_next (k := 48) tX12_judgesf_3 rfl
theorem tX12_judgesf_5 : (cX12_judges.data.toList.map UInt8.toNat).drop 80 = tX12_judges_5 := fd_next (k := 64) tX12_judgesf_4 rfl
theorem tX12_judgesf_6 : (cX12_judges.data.toList.map UInt8.toNat).drop 96 = tX12_judges_6 := fd_next (k := 80) tX12_judgesf_5 rfl
theorem tX12_judgesf_7 : (cX12_judges.data.toList.map UInt8.toNat).drop 112 = tX12_judges_7 := fd_next (k := 96) tX12_judgesf_6 rfl
theorem tX12_judgesf_8 : (cX12_judges.data.toList.map UInt8.toNat).drop 128 = tX12_judges_8 := fd_next (k := 112) tX12_judgesf_7 rfl
theorem tX12_judgesf_9 : (cX12_judges.data.toList.map UInt8.toNat).drop 144 = tX12_judges_9 := fd_next (k := 128) tX12_judgesf_8 rfl
theorem tX12_judgesf_10 : (cX12_judges.data.toList.map UInt8.toNat).drop 160 = tX12_judges_10 := fd_next (k := 144) tX12_judgesf_9 rfl
theorem tX12_judgesf_11 : (cX12_judges.data.toList.map UInt8.toNat).drop 176 = tX12_judges_11 := fd_next (k := 160) tX12_judgesf_10 rfl
theorem tX12_judgesf_12 : (cX12_judges.data.toList.map UInt8.toNat).drop 192 = tX12_judges_12 := fd_next (k := 176) tX12_judgesf_11 rfl
theorem tX12_judgesf_13 : (cX12_judges.data.toList.map UInt8.toNat).drop 208 = tX12_judges_13 := fd_next (k := 192) tX12_judgesf_12 rfl
theorem tX12_judgesf_14 : (cX12_judges.data.toList.map UInt8.toNat).drop 224 = tX12_judges_14 := fd_next (k := 208) tX12_judgesf_13 rfl
theorem tX12_judgesf_15 : (cX12_judges.data.toList.map UInt8.toNat).drop 240 = tX12_judges_15 := fd_next (k := 224) tX12_judgesf_14 rfl
theorem dX12_judges_0 : decode cX12_judges 0 = .ok (.iconst 0, 1) := dk_3 (fdB_of (k := 0) tX12_judgesf_0 0 3 rfl)
theorem dX12_judges_1 : decode cX12_judges 1 = .ok (.istore_n 2, 1) := dk_61 (fdB_of (k := 0) tX12_judgesf_0 1 61 rfl)
theorem dX12_judges_2 : decode cX12_judges 2 = .ok (.iload_n 2, 1) := dk_28 (fdB_of (k := 0) tX12_judgesf_0 2 28 rfl)
theorem dX12_judges_3 : decode cX12_judges 3 = .ok (.aload_n 0, 1) := dk_42 (fdB_of (k := 0) tX12_judgesf_0 3 42 rfl)
theorem dX12_judges_4 : decode cX12_judges 4 = .ok (.getfield 188, 3) := dk_180 (fdB_of (k := 0) tX12_judgesf_0 4 180 rfl) (fdB_of (k := 0) tX12_judgesf_0 5 0 rfl) (fdB_of (k := 0) tX12_judgesf_0 6 188 rfl)
theorem dX12_judges_7 : decode cX12_judges 7 = .ok (.if_icmp .ge 192, 3) := dk_162 (fdB_of (k := 0) tX12_judgesf_0 7 162 rfl) (fdB_of (k := 0) tX12_judgesf_0 8 0 rfl) (fdB_of (k := 0) tX12_judgesf_0 9 192 rfl) (by decide +kernel)
theorem dX12_judges_10 : decode cX12_judges 10 = .ok (.aload_n 0, 1) := dk_42 (fdB_of (k := 0) tX12_judgesf_0 10 42 rfl)
theorem dX12_judges_11 : decode cX12_judges 11 = .ok (.getfield 38, 3) := dk_180 (fdB_of (k := 0) tX12_judgesf_0 11 180 rfl) (fdB_of (k := 0) tX12_judgesf_0 12 0 rfl) (fdB_of (k := 0) tX12_judgesf_0 13 38 rfl)
theorem dX12_judges_14 : decode cX12_judges 14 = .ok (.iconst 3, 1) := dk_6 (fdB_of (k := 0) tX12_judgesf_0 14 6 rfl)
theorem dX12_judges_15 : decode cX12_judges 15 = .ok (.iload_n 2, 1) := dk_28 (fdB_of (k := 0) tX12_judgesf_0 15 28 rfl)
theorem dX12_judges_16 : decode cX12_judges 16 = .ok (.imul, 1) := dk_104 (fdB_of (k := 16) tX12_judgesf_1 0 104 rfl)
theorem dX12_judges_17 : decode cX12_judges 17 = .ok (.iaload, 1) := dk_46 (fdB_of (k := 16) tX12_judgesf_1 1 46 rfl)
theorem dX12_judges_18 : decode cX12_judges 18 = .ok (.istore_n 3, 1) := dk_62 (fdB_of (k := 16) tX12_judgesf_1 2 62 rfl)
theorem dX12_judges_19 : decode cX12_judges 19 = .ok (.iload_n 2, 1) := dk_28 (fdB_of (k := 16) tX12_judgesf_1 3 28 rfl)
theorem dX12_judges_20 : decode cX12_judges 20 = .ok (.iconst 1, 1) := dk_4 (fdB_of (k := 16) tX12_judgesf_1 4 4 rfl)
theorem dX12_judges_21 : decode cX12_judges 21 = .ok (.isub, 1) := dk_100 (fdB_of (k := 16) tX12_judgesf_1 5 100 rfl)
theorem dX12_judges_22 : decode cX12_judges 22 = .ok (.istore 4, 2) := dk_54 (fdB_of (k := 16) tX12_judgesf_1 6 54 rfl) (fdB_of (k := 16) tX12_judgesf_1 7 4 rfl)
theorem dX12_judges_24 : decode cX12_judges 24 = .ok (.iload 4, 2) := dk_21 (fdB_of (k := 16) tX12_judgesf_1 8 21 rfl) (fdB_of (k := 16) tX12_judgesf_1 9 4 rfl)
theorem dX12_judges_26 : decode cX12_judges 26 = .ok (.ifCond .lt 35, 3) := dk_155 (fdB_of (k := 16) tX12_judgesf_1 10 155 rfl) (fdB_of (k := 16) tX12_judgesf_1 11 0 rfl) (fdB_of (k := 16) tX12_judgesf_1 12 35 rfl) (by decide +kernel)
theorem dX12_judges_29 : decode cX12_judges 29 = .ok (.aload_n 0, 1) := dk_42 (fdB_of (k := 16) tX12_judgesf_1 13 42 rfl)
theorem dX12_judges_30 : decode cX12_judges 30 = .ok (.getfield 41, 3) := dk_180 (fdB_of (k := 16) tX12_judgesf_1 14 180 rfl) (fdB_of (k := 16) tX12_judgesf_1 15 0 rfl) (fdB_of (k := 32) tX12_judgesf_2 0 41 rfl)
theorem dX12_judges_33 : decode cX12_judges 33 = .ok (.iload 4, 2) := dk_21 (fdB_of (k := 32) tX12_judgesf_2 1 21 rfl) (fdB_of (k := 32) tX12_judgesf_2 2 4 rfl)
theorem dX12_judges_35 : decode cX12_judges 35 = .ok (.baload, 1) := dk_51 (fdB_of (k := 32) tX12_judgesf_2 3 51 rfl)
theorem dX12_judges_36 : decode cX12_judges 36 = .ok (.ifCond .eq 19, 3) := dk_153 (fdB_of (k := 32) tX12_judgesf_2 4 153 rfl) (fdB_of (k := 32) tX12_judgesf_2 5 0 rfl) (fdB_of (k := 32) tX12_judgesf_2 6 19 rfl) (by decide +kernel)
theorem dX12_judges_39 : decode cX12_judges 39 = .ok (.aload_n 0, 1) := dk_42 (fdB_of (k := 32) tX12_judgesf_2 7 42 rfl)
theorem dX12_judges_40 : decode cX12_judges 40 = .ok (.iload_n 1, 1) := dk_27 (fdB_of (k := 32) tX12_judgesf_2 8 27 rfl)
theorem dX12_judges_41 : decode cX12_judges 41 = .ok (.iload 4, 2) := dk_21 (fdB_of (k := 32) tX12_judgesf_2 9 21 rfl) (fdB_of (k := 32) tX12_judgesf_2 10 4 rfl)
theorem dX12_judges_43 : decode cX12_judges 43 = .ok (.invokevirtual 182, 3) := dk_182 (fdB_of (k := 32) tX12_judgesf_2 11 182 rfl) (fdB_of (k := 32) tX12_judgesf_2 12 0 rfl) (fdB_of (k := 32) tX12_judgesf_2 13 182 rfl)
theorem dX12_judges_46 : decode cX12_judges 46 = .ok (.aload_n 0, 1) := dk_42 (fdB_of (k := 32) tX12_judgesf_2 14 42 rfl)
theorem dX12_judges_47 : decode cX12_judges 47 = .ok (.iload_n 1, 1) := dk_27 (fdB_of (k := 32) tX12_judgesf_2 15 27 rfl)
theorem dX12_judges_48 : decode cX12_judges 48 = .ok (.iload_n 2, 1) := dk_28 (fdB_of (k := 48) tX12_judgesf_3 0 28 rfl)
theorem dX12_judges_49 : decode cX12_judges 49 = .ok (.invokevirtual 182, 3) := dk_182 (fdB_of (k := 48) tX12_judgesf_3 1 182 rfl) (fdB_of (k := 48) tX12_judgesf_3 2 0 rfl) (fdB_of (k := 48) tX12_judgesf_3 3 182 rfl)
theorem dX12_judges_52 : decode cX12_judges 52 = .ok (.if_icmp .eq 9, 3) := dk_159 (fdB_of (k := 48) tX12_judgesf_3 4 159 rfl) (fdB_of (k := 48) tX12_judgesf_3 5 0 rfl) (fdB_of (k := 48) tX12_judgesf_3 6 9 rfl) (by decide +kernel)
theorem dX12_judges_55 : decode cX12_judges 55 = .ok (.iinc 4 (-1), 3) := dk_132 (fdB_of (k := 48) tX12_judgesf_3 7 132 rfl) (fdB_of (k := 48) tX12_judgesf_3 8 4 rfl) (fdB_of (k := 48) tX12_judgesf_3 9 255 rfl) (by decide +kernel)
theorem dX12_judges_58 : decode cX12_judges 58 = .ok (.goto (-34), 3) := dk_167 (fdB_of (k := 48) tX12_judgesf_3 10 167 rfl) (fdB_of (k := 48) tX12_judgesf_3 11 255 rfl) (fdB_of (k := 48) tX12_judgesf_3 12 222 rfl) (by decide +kernel)
theorem dX12_judges_61 : decode cX12_judges 61 = .ok (.aload_n 0, 1) := dk_42 (fdB_of (k := 48) tX12_judgesf_3 13 42 rfl)
theorem dX12_judges_62 : decode cX12_judges 62 = .ok (.iload_n 1, 1) := dk_27 (fdB_of (k := 48) tX12_judgesf_3 14 27 rfl)
theorem dX12_judges_63 : decode cX12_judges 63 = .ok (.iload_n 2, 1) := dk_28 (fdB_of (k := 48) tX12_judgesf_3 15 28 rfl)
theorem dX12_judges_64 : decode cX12_judges 64 = .ok (.iload_n 3, 1) := dk_29 (fdB_of (k := 64) tX12_judgesf_4 0 29 rfl)
theorem dX12_judges_65 : decode cX12_judges 65 = .ok (.invokevirtual 191, 3) := dk_182 (fdB_of (k := 64) tX12_judgesf_4 1 182 rfl) (fdB_of (k := 64) tX12_judgesf_4 2 0 rfl) (fdB_of (k := 64) tX12_judgesf_4 3 191 rfl)
theorem dX12_judges_68 : decode cX12_judges 68 = .ok (.istore 5, 2) := dk_54 (fdB_of (k := 64) tX12_judgesf_4 4 54 rfl) (fdB_of (k := 64) tX12_judgesf_4 5 5 rfl)
theorem dX12_judges_70 : decode cX12_judges 70 = .ok (.iload 4, 2) := dk_21 (fdB_of (k := 64) tX12_judgesf_4 6 21 rfl) (fdB_of (k := 64) tX12_judgesf_4 7 4 rfl)
theorem dX12_judges_72 : decode cX12_judges 72 = .ok (.ifCond .lt 43, 3) := dk_155 (fdB_of (k := 64) tX12_judgesf_4 8 155 rfl) (fdB_of (k := 64) tX12_judgesf_4 9 0 rfl) (fdB_of (k := 64) tX12_judgesf_4 10 43 rfl) (by decide +kernel)
theorem dX12_judges_75 : decode cX12_judges 75 = .ok (.aload_n 0, 1) := dk_42 (fdB_of (k := 64) tX12_judgesf_4 11 42 rfl)
theorem dX12_judges_76 : decode cX12_judges 76 = .ok (.getfield 38, 3) := dk_180 (fdB_of (k := 64) tX12_judgesf_4 12 180 rfl) (fdB_of (k := 64) tX12_judgesf_4 13 0 rfl) (fdB_of (k := 64) tX12_judgesf_4 14 38 rfl)
theorem dX12_judges_79 : decode cX12_judges 79 = .ok (.iconst 3, 1) := dk_6 (fdB_of (k := 64) tX12_judgesf_4 15 6 rfl)
theorem dX12_judges_80 : decode cX12_judges 80 = .ok (.iload 4, 2) := dk_21 (fdB_of (k := 80) tX12_judgesf_5 0 21 rfl) (fdB_of (k := 80) tX12_judgesf_5 1 4 rfl)
theorem dX12_judges_82 : decode cX12_judges 82 = .ok (.imul, 1) := dk_104 (fdB_of (k := 80) tX12_judgesf_5 2 104 rfl)
theorem dX12_judges_83 : decode cX12_judges 83 = .ok (.iaload, 1) := dk_46 (fdB_of (k := 80) tX12_judgesf_5 3 46 rfl)
theorem dX12_judges_84 : decode cX12_judges 84 = .ok (.iload_n 3, 1) := dk_29 (fdB_of (k := 80) tX12_judgesf_5 4 29 rfl)
theorem dX12_judges_85 : decode cX12_judges 85 = .ok (.if_icmp .eq 30, 3) := dk_159 (fdB_of (k := 80) tX12_judgesf_5 5 159 rfl) (fdB_of (k := 80) tX12_judgesf_5 6 0 rfl) (fdB_of (k := 80) tX12_judgesf_5 7 30 rfl) (by decide +kernel)
theorem dX12_judges_88 : decode cX12_judges 88 = .ok (.aload_n 0, 1) := dk_42 (fdB_of (k := 80) tX12_judgesf_5 8 42 rfl)
theorem dX12_judges_89 : decode cX12_judges 89 = .ok (.getfield 56, 3) := dk_180 (fdB_of (k := 80) tX12_judgesf_5 9 180 rfl) (fdB_of (k := 80) tX12_judgesf_5 10 0 rfl) (fdB_of (k := 80) tX12_judgesf_5 11 56 rfl)
theorem dX12_judges_92 : decode cX12_judges 92 = .ok (.aload_n 0, 1) := dk_42 (fdB_of (k := 80) tX12_judgesf_5 12 42 rfl)
theorem dX12_judges_93 : decode cX12_judges 93 = .ok (.getfield 38, 3) := dk_180 (fdB_of (k := 80) tX12_judgesf_5 13 180 rfl) (fdB_of (k := 80) tX12_judgesf_5 14 0 rfl) (fdB_of (k := 80) tX12_judgesf_5 15 38 rfl)
theorem dX12_judges_96 : decode cX12_judges 96 = .ok (.iconst 3, 1) := dk_6 (fdB_of (k := 96) tX12_judgesf_6 0 6 rfl)
theorem dX12_judges_97 : decode cX12_judges 97 = .ok (.iload 4, 2) := dk_21 (fdB_of (k := 96) tX12_judgesf_6 1 21 rfl) (fdB_of (k := 96) tX12_judgesf_6 2 4 rfl)
theorem dX12_judges_99 : decode cX12_judges 99 = .ok (.imul, 1) := dk_104 (fdB_of (k := 96) tX12_judgesf_6 3 104 rfl)
theorem dX12_judges_100 : decode cX12_judges 100 = .ok (.iaload, 1) := dk_46 (fdB_of (k := 96) tX12_judgesf_6 4 46 rfl)
theorem dX12_judges_101 : decode cX12_judges 101 = .ok (.iaload, 1) := dk_46 (fdB_of (k := 96) tX12_judgesf_6 5 46 rfl)
theorem dX12_judges_102 : decode cX12_judges 102 = .ok (.aload_n 0, 1) := dk_42 (fdB_of (k := 96) tX12_judgesf_6 6 42 rfl)
theorem dX12_judges_103 : decode cX12_judges 103 = .ok (.getfield 56, 3) := dk_180 (fdB_of (k := 96) tX12_judgesf_6 7 180 rfl) (fdB_of (k := 96) tX12_judgesf_6 8 0 rfl) (fdB_of (k := 96) tX12_judgesf_6 9 56 rfl)
theorem dX12_judges_106 : decode cX12_judges 106 = .ok (.iload_n 3, 1) := dk_29 (fdB_of (k := 96) tX12_judgesf_6 10 29 rfl)
theorem dX12_judges_107 : decode cX12_judges 107 = .ok (.iaload, 1) := dk_46 (fdB_of (k := 96) tX12_judgesf_6 11 46 rfl)
theorem dX12_judges_108 : decode cX12_judges 108 = .ok (.if_icmp .ne 7, 3) := dk_160 (fdB_of (k := 96) tX12_judgesf_6 12 160 rfl) (fdB_of (k := 96) tX12_judgesf_6 13 0 rfl) (fdB_of (k := 96) tX12_judgesf_6 14 7 rfl) (by decide +kernel)
theorem dX12_judges_111 : decode cX12_judges 111 = .ok (.iconst 1, 1) := dk_4 (fdB_of (k := 96) tX12_judgesf_6 15 4 rfl)
theorem dX12_judges_112 : decode cX12_judges 112 = .ok (.goto 4, 3) := dk_167 (fdB_of (k := 112) tX12_judgesf_7 0 167 rfl) (fdB_of (k := 112) tX12_judgesf_7 1 0 rfl) (fdB_of (k := 112) tX12_judgesf_7 2 4 rfl) (by decide +kernel)
theorem dX12_judges_115 : decode cX12_judges 115 = .ok (.iconst 0, 1) := dk_3 (fdB_of (k := 112) tX12_judgesf_7 3 3 rfl)
theorem dX12_judges_116 : decode cX12_judges 116 = .ok (.istore 6, 2) := dk_54 (fdB_of (k := 112) tX12_judgesf_7 4 54 rfl) (fdB_of (k := 112) tX12_judgesf_7 5 6 rfl)
theorem dX12_judges_118 : decode cX12_judges 118 = .ok (.aload_n 0, 1) := dk_42 (fdB_of (k := 112) tX12_judgesf_7 6 42 rfl)
theorem dX12_judges_119 : decode cX12_judges 119 = .ok (.getfield 44, 3) := dk_180 (fdB_of (k := 112) tX12_judgesf_7 7 180 rfl) (fdB_of (k := 112) tX12_judgesf_7 8 0 rfl) (fdB_of (k := 112) tX12_judgesf_7 9 44 rfl)
theorem dX12_judges_122 : decode cX12_judges 122 = .ok (.iload_n 2, 1) := dk_28 (fdB_of (k := 112) tX12_judgesf_7 10 28 rfl)
theorem dX12_judges_123 : decode cX12_judges 123 = .ok (.iload 5, 2) := dk_21 (fdB_of (k := 112) tX12_judgesf_7 11 21 rfl) (fdB_of (k := 112) tX12_judgesf_7 12 5 rfl)
theorem dX12_judges_125 : decode cX12_judges 125 = .ok (.ifCond .eq 12, 3) := dk_153 (fdB_of (k := 112) tX12_judgesf_7 13 153 rfl) (fdB_of (k := 112) tX12_judgesf_7 14 0 rfl) (fdB_of (k := 112) tX12_judgesf_7 15 12 rfl) (by decide +kernel)
theorem dX12_judges_128 : decode cX12_judges 128 = .ok (.iload 4, 2) := dk_21 (fdB_of (k := 128) tX12_judgesf_8 0 21 rfl) (fdB_of (k := 128) tX12_judgesf_8 1 4 rfl)
theorem dX12_judges_130 : decode cX12_judges 130 = .ok (.ifCond .ge 7, 3) := dk_156 (fdB_of (k := 128) tX12_judgesf_8 2 156 rfl) (fdB_of (k := 128) tX12_judgesf_8 3 0 rfl) (fdB_of (k := 128) tX12_judgesf_8 4 7 rfl) (by decide +kernel)
theorem dX12_judges_133 : decode cX12_judges 133 = .ok (.iconst 1, 1) := dk_4 (fdB_of (k := 128) tX12_judgesf_8 5 4 rfl)
theorem dX12_judges_134 : decode cX12_judges 134 = .ok (.goto 4, 3) := dk_167 (fdB_of (k := 128) tX12_judgesf_8 6 167 rfl) (fdB_of (k := 128) tX12_judgesf_8 7 0 rfl) (fdB_of (k := 128) tX12_judgesf_8 8 4 rfl) (by decide +kernel)
theorem dX12_judges_137 : decode cX12_judges 137 = .ok (.iconst 0, 1) := dk_3 (fdB_of (k := 128) tX12_judgesf_8 9 3 rfl)
theorem dX12_judges_138 : decode cX12_judges 138 = .ok (.bastore, 1) := dk_84 (fdB_of (k := 128) tX12_judgesf_8 10 84 rfl)
theorem dX12_judges_139 : decode cX12_judges 139 = .ok (.aload_n 0, 1) := dk_42 (fdB_of (k := 128) tX12_judgesf_8 11 42 rfl)
theorem dX12_judges_140 : decode cX12_judges 140 = .ok (.getfield 50, 3) := dk_180 (fdB_of (k := 128) tX12_judgesf_8 12 180 rfl) (fdB_of (k := 128) tX12_judgesf_8 13 0 rfl) (fdB_of (k := 128) tX12_judgesf_8 14 50 rfl)
theorem dX12_judges_143 : decode cX12_judges 143 = .ok (.iload_n 2, 1) := dk_28 (fdB_of (k := 128) tX12_judgesf_8 15 28 rfl)
theorem dX12_judges_144 : decode cX12_judges 144 = .ok (.iload 5, 2) := dk_21 (fdB_of (k := 144) tX12_judgesf_9 0 21 rfl) (fdB_of (k := 144) tX12_judgesf_9 1 5 rfl)
theorem dX12_judges_146 : decode cX12_judges 146 = .ok (.ifCond .eq 13, 3) := dk_153 (fdB_of (k := 144) tX12_judgesf_9 2 153 rfl) (fdB_of (k := 144) tX12_judgesf_9 3 0 rfl) (fdB_of (k := 144) tX12_judgesf_9 4 13 rfl) (by decide +kernel)
theorem dX12_judges_149 : decode cX12_judges 149 = .ok (.iload 6, 2) := dk_21 (fdB_of (k := 144) tX12_judgesf_9 5 21 rfl) (fdB_of (k := 144) tX12_judgesf_9 6 6 rfl)
theorem dX12_judges_151 : decode cX12_judges 151 = .ok (.ifCond .eq 8, 3) := dk_153 (fdB_of (k := 144) tX12_judgesf_9 7 153 rfl) (fdB_of (k := 144) tX12_judgesf_9 8 0 rfl) (fdB_of (k := 144) tX12_judgesf_9 9 8 rfl) (by decide +kernel)
theorem dX12_judges_154 : decode cX12_judges 154 = .ok (.iload 4, 2) := dk_21 (fdB_of (k := 144) tX12_judgesf_9 10 21 rfl) (fdB_of (k := 144) tX12_judgesf_9 11 4 rfl)
theorem dX12_judges_156 : decode cX12_judges 156 = .ok (.goto 5, 3) := dk_167 (fdB_of (k := 144) tX12_judgesf_9 12 167 rfl) (fdB_of (k := 144) tX12_judgesf_9 13 0 rfl) (fdB_of (k := 144) tX12_judgesf_9 14 5 rfl) (by decide +kernel)
theorem dX12_judges_159 : decode cX12_judges 159 = .ok (.bipush (-9), 2) := dk_16 (fdB_of (k := 144) tX12_judgesf_9 15 16 rfl) (fdB_of (k := 160) tX12_judgesf_10 0 247 rfl) (by decide +kernel)
theorem dX12_judges_161 : decode cX12_judges 161 = .ok (.iastore, 1) := dk_79 (fdB_of (k := 160) tX12_judgesf_10 1 79 rfl)
theorem dX12_judges_162 : decode cX12_judges 162 = .ok (.aload_n 0, 1) := dk_42 (fdB_of (k := 160) tX12_judgesf_10 2 42 rfl)
theorem dX12_judges_163 : decode cX12_judges 163 = .ok (.getfield 41, 3) := dk_180 (fdB_of (k := 160) tX12_judgesf_10 3 180 rfl) (fdB_of (k := 160) tX12_judgesf_10 4 0 rfl) (fdB_of (k := 160) tX12_judgesf_10 5 41 rfl)
theorem dX12_judges_166 : decode cX12_judges 166 = .ok (.iload_n 2, 1) := dk_28 (fdB_of (k := 160) tX12_judgesf_10 6 28 rfl)
theorem dX12_judges_167 : decode cX12_judges 167 = .ok (.aload_n 0, 1) := dk_42 (fdB_of (k := 160) tX12_judgesf_10 7 42 rfl)
theorem dX12_judges_168 : decode cX12_judges 168 = .ok (.getfield 44, 3) := dk_180 (fdB_of (k := 160) tX12_judgesf_10 8 180 rfl) (fdB_of (k := 160) tX12_judgesf_10 9 0 rfl) (fdB_of (k := 160) tX12_judgesf_10 10 44 rfl)
theorem dX12_judges_171 : decode cX12_judges 171 = .ok (.iload_n 2, 1) := dk_28 (fdB_of (k := 160) tX12_judgesf_10 11 28 rfl)
theorem dX12_judges_172 : decode cX12_judges 172 = .ok (.baload, 1) := dk_51 (fdB_of (k := 160) tX12_judgesf_10 12 51 rfl)
theorem dX12_judges_173 : decode cX12_judges 173 = .ok (.ifCond .ne 14, 3) := dk_154 (fdB_of (k := 160) tX12_judgesf_10 13 154 rfl) (fdB_of (k := 160) tX12_judgesf_10 14 0 rfl) (fdB_of (k := 160) tX12_judgesf_10 15 14 rfl) (by decide +kernel)
theorem dX12_judges_176 : decode cX12_judges 176 = .ok (.aload_n 0, 1) := dk_42 (fdB_of (k := 176) tX12_judgesf_11 0 42 rfl)
theorem dX12_judges_177 : decode cX12_judges 177 = .ok (.getfield 50, 3) := dk_180 (fdB_of (k := 176) tX12_judgesf_11 1 180 rfl) (fdB_of (k := 176) tX12_judgesf_11 2 0 rfl) (fdB_of (k := 176) tX12_judgesf_11 3 50 rfl)
theorem dX12_judges_180 : decode cX12_judges 180 = .ok (.iload_n 2, 1) := dk_28 (fdB_of (k := 176) tX12_judgesf_11 4 28 rfl)
theorem dX12_judges_181 : decode cX12_judges 181 = .ok (.iaload, 1) := dk_46 (fdB_of (k := 176) tX12_judgesf_11 5 46 rfl)
theorem dX12_judges_182 : decode cX12_judges 182 = .ok (.bipush (-9), 2) := dk_16 (fdB_of (k := 176) tX12_judgesf_11 6 16 rfl) (fdB_of (k := 176) tX12_judgesf_11 7 247 rfl) (by decide +kernel)
theorem dX12_judges_184 : decode cX12_judges 184 = .ok (.if_icmp .eq 7, 3) := dk_159 (fdB_of (k := 176) tX12_judgesf_11 8 159 rfl) (fdB_of (k := 176) tX12_judgesf_11 9 0 rfl) (fdB_of (k := 176) tX12_judgesf_11 10 7 rfl) (by decide +kernel)
theorem dX12_judges_187 : decode cX12_judges 187 = .ok (.iconst 1, 1) := dk_4 (fdB_of (k := 176) tX12_judgesf_11 11 4 rfl)
theorem dX12_judges_188 : decode cX12_judges 188 = .ok (.goto 4, 3) := dk_167 (fdB_of (k := 176) tX12_judgesf_11 12 167 rfl) (fdB_of (k := 176) tX12_judgesf_11 13 0 rfl) (fdB_of (k := 176) tX12_judgesf_11 14 4 rfl) (by decide +kernel)
theorem dX12_judges_191 : decode cX12_judges 191 = .ok (.iconst 0, 1) := dk_3 (fdB_of (k := 176) tX12_judgesf_11 15 3 rfl)
theorem dX12_judges_192 : decode cX12_judges 192 = .ok (.bastore, 1) := dk_84 (fdB_of (k := 192) tX12_judgesf_12 0 84 rfl)
theorem dX12_judges_193 : decode cX12_judges 193 = .ok (.iinc 2 1, 3) := dk_132 (fdB_of (k := 192) tX12_judgesf_12 1 132 rfl) (fdB_of (k := 192) tX12_judgesf_12 2 2 rfl) (fdB_of (k := 192) tX12_judgesf_12 3 1 rfl) (by decide +kernel)
theorem dX12_judges_196 : decode cX12_judges 196 = .ok (.goto (-194), 3) := dk_167 (fdB_of (k := 192) tX12_judgesf_12 4 167 rfl) (fdB_of (k := 192) tX12_judgesf_12 5 255 rfl) (fdB_of (k := 192) tX12_judgesf_12 6 62 rfl) (by decide +kernel)
theorem dX12_judges_199 : decode cX12_judges 199 = .ok (.iconst 0, 1) := dk_3 (fdB_of (k := 192) tX12_judgesf_12 7 3 rfl)
theorem dX12_judges_200 : decode cX12_judges 200 = .ok (.istore_n 2, 1) := dk_61 (fdB_of (k := 192) tX12_judgesf_12 8 61 rfl)
theorem dX12_judges_201 : decode cX12_judges 201 = .ok (.iload_n 2, 1) := dk_28 (fdB_of (k := 192) tX12_judgesf_12 9 28 rfl)
theorem dX12_judges_202 : decode cX12_judges 202 = .ok (.aload_n 0, 1) := dk_42 (fdB_of (k := 192) tX12_judgesf_12 10 42 rfl)
theorem dX12_judges_203 : decode cX12_judges 203 = .ok (.getfield 188, 3) := dk_180 (fdB_of (k := 192) tX12_judgesf_12 11 180 rfl) (fdB_of (k := 192) tX12_judgesf_12 12 0 rfl) (fdB_of (k := 192) tX12_judgesf_12 13 188 rfl)
theorem dX12_judges_206 : decode cX12_judges 206 = .ok (.if_icmp .ge 49, 3) := dk_162 (fdB_of (k := 192) tX12_judgesf_12 14 162 rfl) (fdB_of (k := 192) tX12_judgesf_12 15 0 rfl) (fdB_of (k := 208) tX12_judgesf_13 0 49 rfl) (by decide +kernel)
theorem dX12_judges_209 : decode cX12_judges 209 = .ok (.aload_n 0, 1) := dk_42 (fdB_of (k := 208) tX12_judgesf_13 1 42 rfl)
theorem dX12_judges_210 : decode cX12_judges 210 = .ok (.getfield 47, 3) := dk_180 (fdB_of (k := 208) tX12_judgesf_13 2 180 rfl) (fdB_of (k := 208) tX12_judgesf_13 3 0 rfl) (fdB_of (k := 208) tX12_judgesf_13 4 47 rfl)
theorem dX12_judges_213 : decode cX12_judges 213 = .ok (.iload_n 2, 1) := dk_28 (fdB_of (k := 208) tX12_judgesf_13 5 28 rfl)
theorem dX12_judges_214 : decode cX12_judges 214 = .ok (.aload_n 0, 1) := dk_42 (fdB_of (k := 208) tX12_judgesf_13 6 42 rfl)
theorem dX12_judges_215 : decode cX12_judges 215 = .ok (.getfield 50, 3) := dk_180 (fdB_of (k := 208) tX12_judgesf_13 7 180 rfl) (fdB_of (k := 208) tX12_judgesf_13 8 0 rfl) (fdB_of (k := 208) tX12_judgesf_13 9 50 rfl)
theorem dX12_judges_218 : decode cX12_judges 218 = .ok (.iload_n 2, 1) := dk_28 (fdB_of (k := 208) tX12_judgesf_13 10 28 rfl)
theorem dX12_judges_219 : decode cX12_judges 219 = .ok (.iaload, 1) := dk_46 (fdB_of (k := 208) tX12_judgesf_13 11 46 rfl)
theorem dX12_judges_220 : decode cX12_judges 220 = .ok (.bipush (-9), 2) := dk_16 (fdB_of (k := 208) tX12_judgesf_13 12 16 rfl) (fdB_of (k := 208) tX12_judgesf_13 13 247 rfl) (by decide +kernel)
theorem dX12_judges_222 : decode cX12_judges 222 = .ok (.if_icmp .ne 21, 3) := dk_160 (fdB_of (k := 208) tX12_judgesf_13 14 160 rfl) (fdB_of (k := 208) tX12_judgesf_13 15 0 rfl) (fdB_of (k := 224) tX12_judgesf_14 0 21 rfl) (by decide +kernel)
theorem dX12_judges_225 : decode cX12_judges 225 = .ok (.aload_n 0, 1) := dk_42 (fdB_of (k := 224) tX12_judgesf_14 1 42 rfl)
theorem dX12_judges_226 : decode cX12_judges 226 = .ok (.getfield 44, 3) := dk_180 (fdB_of (k := 224) tX12_judgesf_14 2 180 rfl) (fdB_of (k := 224) tX12_judgesf_14 3 0 rfl) (fdB_of (k := 224) tX12_judgesf_14 4 44 rfl)
theorem dX12_judges_229 : decode cX12_judges 229 = .ok (.iload_n 2, 1) := dk_28 (fdB_of (k := 224) tX12_judgesf_14 5 28 rfl)
theorem dX12_judges_230 : decode cX12_judges 230 = .ok (.baload, 1) := dk_51 (fdB_of (k := 224) tX12_judgesf_14 6 51 rfl)
theorem dX12_judges_231 : decode cX12_judges 231 = .ok (.ifCond .eq 16, 3) := dk_153 (fdB_of (k := 224) tX12_judgesf_14 7 153 rfl) (fdB_of (k := 224) tX12_judgesf_14 8 0 rfl) (fdB_of (k := 224) tX12_judgesf_14 9 16 rfl) (by decide +kernel)
theorem dX12_judges_234 : decode cX12_judges 234 = .ok (.aload_n 0, 1) := dk_42 (fdB_of (k := 224) tX12_judgesf_14 10 42 rfl)
theorem dX12_judges_235 : decode cX12_judges 235 = .ok (.iload_n 2, 1) := dk_28 (fdB_of (k := 224) tX12_judgesf_14 11 28 rfl)
theorem dX12_judges_236 : decode cX12_judges 236 = .ok (.iconst 0, 1) := dk_3 (fdB_of (k := 224) tX12_judgesf_14 12 3 rfl)
theorem dX12_judges_237 : decode cX12_judges 237 = .ok (.invokevirtual 194, 3) := dk_182 (fdB_of (k := 224) tX12_judgesf_14 13 182 rfl) (fdB_of (k := 224) tX12_judgesf_14 14 0 rfl) (fdB_of (k := 224) tX12_judgesf_14 15 194 rfl)
theorem dX12_judges_240 : decode cX12_judges 240 = .ok (.ifCond .eq 7, 3) := dk_153 (fdB_of (k := 240) tX12_judgesf_15 0 153 rfl) (fdB_of (k := 240) tX12_judgesf_15 1 0 rfl) (fdB_of (k := 240) tX12_judgesf_15 2 7 rfl) (by decide +kernel)
theorem dX12_judges_243 : decode cX12_judges 243 = .ok (.iconst 1, 1) := dk_4 (fdB_of (k := 240) tX12_judgesf_15 3 4 rfl)
theorem dX12_judges_244 : decode cX12_judges 244 = .ok (.goto 4, 3) := dk_167 (fdB_of (k := 240) tX12_judgesf_15 4 167 rfl) (fdB_of (k := 240) tX12_judgesf_15 5 0 rfl) (fdB_of (k := 240) tX12_judgesf_15 6 4 rfl) (by decide +kernel)
theorem dX12_judges_247 : decode cX12_judges 247 = .ok (.iconst 0, 1) := dk_3 (fdB_of (k := 240) tX12_judgesf_15 7 3 rfl)
theorem dX12_judges_248 : decode cX12_judges 248 = .ok (.bastore, 1) := dk_84 (fdB_of (k := 240) tX12_judgesf_15 8 84 rfl)
theorem dX12_judges_249 : decode cX12_judges 249 = .ok (.iinc 2 1, 3) := dk_132 (fdB_of (k := 240) tX12_judgesf_15 9 132 rfl) (fdB_of (k := 240) tX12_judgesf_15 10 2 rfl) (fdB_of (k := 240) tX12_judgesf_15 11 1 rfl) (by decide +kernel)
theorem dX12_judges_252 : decode cX12_judges 252 = .ok (.goto (-51), 3) := dk_167 (fdB_of (k := 240) tX12_judgesf_15 12 167 rfl) (fdB_of (k := 240) tX12_judgesf_15 13 255 rfl) (fdB_of (k := 240) tX12_judgesf_15 14 205 rfl) (by decide +kernel)
theorem dX12_judges_255 : decode cX12_judges 255 = .ok (.return_, 1) := dk_177 (fdB_of (k := 240) tX12_judgesf_15 15 177 rfl)

theorem q0_48 : Cond.selects RX12 yX12_isMetre yX12_isMetre ∈ TT := tq0 48 rfl rfl
theorem q0_49 : Cond.selects RX12 yX12_holds yX12_holds ∈ TT := tq0 49 rfl rfl
theorem q5_9 : Cond.fieldLink RX12 41 "RhymeLawModel" "stands" "[Z" ∈ TT := tq5 9 rfl rfl
theorem q5_10 : Cond.fieldLink RX12 44 "RhymeLawModel" "opens" "[Z" ∈ TT := tq5 10 rfl rfl
theorem q5_11 : Cond.fieldLink RX12 47 "RhymeLawModel" "binds" "[Z" ∈ TT := tq5 11 rfl rfl
theorem q5_235 : Cond.methodLink RX12 191 yX12_isMetre ∈ TT := tq5 235 rfl rfl
theorem q5_237 : Cond.instanceMethod yX12_isMetre ∈ TT := tq5 237 rfl rfl
theorem q5_238 : Cond.code yX12_isMetre cX12_isMetre 5 (some .boolean) ∈ TT := tq5 238 rfl rfl
theorem q5_239 : Cond.methodLink RX12 194 yX12_holds ∈ TT := tq5 239 rfl rfl
theorem q6_1 : Cond.instanceMethod yX12_holds ∈ TT := tq6 1 rfl rfl
theorem q6_2 : Cond.code yX12_holds cX12_holds 5 (some .boolean) ∈ TT := tq6 2 rfl rfl
theorem ms_stands {p : Program} {l : Launch} {e : Env} {R : Room} {s : State} {m : MethodId} {args : Array Value} {below : List Frame} {meth : Method} {c : Code} {D : gG} {A : Nat → Prop} {nL : Nat} {Q : State → Prop} {cells slots : Nat} {cc : ByteArray} {L : List (Nat × Value)} {pc : Nat} {stk : List Value} {β : Type} {r : β} {o : Nat → Nat} {cB cI cJ cZ : ClassId} {z : SM} (cx : gX p s m args meth c cc nL RX12 D (tyL cB cI cJ cZ) A) {i : Int32} {x : Int32} {kf : SM → Option β} (hf : ((aset 9 (mA z 26) i (vp_nar .boolean x)).bind fun f => nm (mAs z 26 f) kf) = some r) (hd : decode cc pc = .ok (.bastore, 1)) (kk : ∀ y : SM, kf y = some r → gW p l e R s m args below meth c D A nL Q cells slots (wX12 o cB cI cJ cZ y) L (pc + 1) stk) : gW p l e R s m args below meth c D A nL Q cells slots (wX12 o cB cI cJ cZ z) L pc (.int x :: .int i :: .ref (o 11) :: stk) :=
  g_zast cx 11 3 (ws' := fun f => wX12 o cB cI cJ cZ (mAs z 26 f)) hf rfl rfl (fun _ => rfl) hd (fun _ hf => kk _ hf)
theorem fg_RX12_41 {p : Program} {l : Launch} {e : Env} {R : Room} {s : State} {m : MethodId} {args : Array Value} {below : List Frame} {meth : Method} {c : Code} {D : gG} {tys : List (ClassId × FieldType)} {A : Nat → Prop} {nL : Nat} {Q : State → Prop} {cells slots : Nat} {cc : ByteArray} {ws : va_W} {L : List (Nat × Value)} {pc : Nat} {stk : List Value} (cx : gX p s m args meth c cc nL RX12 D tys A) {a : Nat} {fs : List Value} {v : Value} (q0 : Nat) (he : ws[q0]? = some (a, .inr (10, fs))) (hv : fs[26]? = some v) (hd : decode cc pc = .ok (.getfield 41, 3)) (kk : gW p l e R s m args below meth c D A nL Q cells slots ws L (pc + 3) (v :: stk)) : gW p l e R s m args below meth c D A nL Q cells slots ws L pc (.ref a :: stk) :=
  g_get cx (C := RX12) (T := TX12) (N := 38) inT12 rfl 26 (Nat.le_of_ble_eq_true rfl) q5_9 rfl q0 he hv hd kk
theorem mg_stands {p : Program} {l : Launch} {e : Env} {R : Room} {s : State} {m : MethodId} {args : Array Value} {below : List Frame} {meth : Method} {c : Code} {D : gG} {A : Nat → Prop} {nL : Nat} {Q : State → Prop} {cells slots : Nat} {cc : ByteArray} {L : List (Nat × Value)} {pc : Nat} {stk : List Value} {o : Nat → Nat} {cB cI cJ cZ : ClassId} {z : SM} (cx : gX p s m args meth c cc nL RX12 D (tyL cB cI cJ cZ) A) (hd : decode cc pc = .ok (.getfield 41, 3)) (kk : gW p l e R s m args below meth c D A nL Q cells slots (wX12 o cB cI cJ cZ z) L (pc + 3) (.ref (o 11) :: stk)) : gW p l e R s m args below meth c D A nL Q cells slots (wX12 o cB cI cJ cZ z) L pc (.ref (o 0) :: stk) :=
  fg_RX12_41 cx 0 rfl rfl hd kk
theorem fg_RX12_44 {p : Program} {l : Launch} {e : Env} {R : Room} {s : State} {m : MethodId} {args : Array Value} {below : List Frame} {meth : Method} {c : Code} {D : gG} {tys : List (ClassId × FieldType)} {A : Nat → Prop} {nL : Nat} {Q : State → Prop} {cells slots : Nat} {cc : ByteArray} {ws : va_W} {L : List (Nat × Value)} {pc : Nat} {stk : List Value} (cx : gX p s m args meth c cc nL RX12 D tys A) {a : Nat} {fs : List Value} {v : Value} (q0 : Nat) (he : ws[q0]? = some (a, .inr (10, fs))) (hv : fs[27]? = some v) (hd : decode cc pc = .ok (.getfield 44, 3)) (kk : gW p l e R s m args below meth c D A nL Q cells slots ws L (pc + 3) (v :: stk)) : gW p l e R s m args below meth c D A nL Q cells slots ws L pc (.ref a :: stk) :=
  g_get cx (C := RX12) (T := TX12) (N := 38) inT12 rfl 27 (Nat.le_of_ble_eq_true rfl) q5_10 rfl q0 he hv hd kk
theorem mg_opens {p : Program} {l : Launch} {e : Env} {R : Room} {s : State} {m : MethodId} {args : Array Value} {below : List Frame} {meth : Method} {c : Code} {D : gG} {A : Nat → Prop} {nL : Nat} {Q : State → Prop} {cells slots : Nat} {cc : ByteArray} {L : List (Nat × Value)} {pc : Nat} {stk : List Value} {o : Nat → Nat} {cB cI cJ cZ : ClassId} {z : SM} (cx : gX p s m args meth c cc nL RX12 D (tyL cB cI cJ cZ) A) (hd : decode cc pc = .ok (.getfield 44, 3)) (kk : gW p l e R s m args below meth c D A nL Q cells slots (wX12 o cB cI cJ cZ z) L (pc + 3) (.ref (o 12) :: stk)) : gW p l e R s m args below meth c D A nL Q cells slots (wX12 o cB cI cJ cZ z) L pc (.ref (o 0) :: stk) :=
  fg_RX12_44 cx 0 rfl rfl hd kk
theorem ml_opens {p : Program} {l : Launch} {e : Env} {R : Room} {s : State} {m : MethodId} {args : Array Value} {below : List Frame} {meth : Method} {c : Code} {D : gG} {A : Nat → Prop} {nL : Nat} {Q : State → Prop} {cells slots : Nat} {cc : ByteArray} {L : List (Nat × Value)} {pc : Nat} {stk : List Value} {β : Type} {r : β} {o : Nat → Nat} {cB cI cJ cZ : ClassId} {z : SM} (cx : gX p s m args meth c cc nL RX12 D (tyL cB cI cJ cZ) A) {i : Int32} {kf : Int32 → Option β} (hf : (aget 9 (mA z 27) i).bind kf = some r) (hd : decode cc pc = .ok (.baload, 1)) (kk : ∀ v : Int32, kf v = some r → gW p l e R s m args below meth c D A nL Q cells slots (wX12 o cB cI cJ cZ z) L (pc + 1) (.int v :: stk)) : gW p l e R s m args below meth c D A nL Q cells slots (wX12 o cB cI cJ cZ z) L pc (.int i :: .ref (o 12) :: stk) :=
  g_zald cx 12 3 hf rfl rfl hd kk
theorem ms_anchor {p : Program} {l : Launch} {e : Env} {R : Room} {s : State} {m : MethodId} {args : Array Value} {below : List Frame} {meth : Method} {c : Code} {D : gG} {A : Nat → Prop} {nL : Nat} {Q : State → Prop} {cells slots : Nat} {cc : ByteArray} {L : List (Nat × Value)} {pc : Nat} {stk : List Value} {β : Type} {r : β} {o : Nat → Nat} {cB cI cJ cZ : ClassId} {z : SM} (cx : gX p s m args meth c cc nL RX12 D (tyL cB cI cJ cZ) A) {i : Int32} {x : Int32} {kf : SM → Option β} (hf : ((aset 9 (mA z 29) i x).bind fun f => nm (mAs z 29 f) kf) = some r) (hd : decode cc pc = .ok (.iastore, 1)) (kk : ∀ y : SM, kf y = some r → gW p l e R s m args below meth c D A nL Q cells slots (wX12 o cB cI cJ cZ y) L (pc + 1) stk) : gW p l e R s m args below meth c D A nL Q cells slots (wX12 o cB cI cJ cZ z) L pc (.int x :: .int i :: .ref (o 14) :: stk) :=
  g_iast cx 14 1 (ws' := fun f => wX12 o cB cI cJ cZ (mAs z 29 f)) hf rfl rfl (fun _ => rfl) hd (fun _ hf => kk _ hf)
theorem ms_opens {p : Program} {l : Launch} {e : Env} {R : Room} {s : State} {m : MethodId} {args : Array Value} {below : List Frame} {meth : Method} {c : Code} {D : gG} {A : Nat → Prop} {nL : Nat} {Q : State → Prop} {cells slots : Nat} {cc : ByteArray} {L : List (Nat × Value)} {pc : Nat} {stk : List Value} {β : Type} {r : β} {o : Nat → Nat} {cB cI cJ cZ : ClassId} {z : SM} (cx : gX p s m args meth c cc nL RX12 D (tyL cB cI cJ cZ) A) {i : Int32} {x : Int32} {kf : SM → Option β} (hf : ((aset 9 (mA z 27) i (vp_nar .boolean x)).bind fun f => nm (mAs z 27 f) kf) = some r) (hd : decode cc pc = .ok (.bastore, 1)) (kk : ∀ y : SM, kf y = some r → gW p l e R s m args below meth c D A nL Q cells slots (wX12 o cB cI cJ cZ y) L (pc + 1) stk) : gW p l e R s m args below meth c D A nL Q cells slots (wX12 o cB cI cJ cZ z) L pc (.int x :: .int i :: .ref (o 12) :: stk) :=
  g_zast cx 12 3 (ws' := fun f => wX12 o cB cI cJ cZ (mAs z 27 f)) hf rfl rfl (fun _ => rfl) hd (fun _ hf => kk _ hf)
theorem lk_RX12_191 : vlk RX12 191 yX12_isMetre cX12_isMetre 5 (some .boolean) 3 := ⟨List.forall_mem_cons.mpr ⟨q5_235, List.forall_mem_cons.mpr ⟨q5_237, List.forall_mem_cons.mpr ⟨q0_48, List.forall_mem_cons.mpr ⟨q1_12, fun _ h => absurd h List.not_mem_nil⟩⟩⟩⟩, q5_238, by decide, by decide, by decide +kernel⟩
theorem ml_sound {p : Program} {l : Launch} {e : Env} {R : Room} {s : State} {m : MethodId} {args : Array Value} {below : List Frame} {meth : Method} {c : Code} {D : gG} {A : Nat → Prop} {nL : Nat} {Q : State → Prop} {cells slots : Nat} {cc : ByteArray} {L : List (Nat × Value)} {pc : Nat} {stk : List Value} {β : Type} {r : β} {o : Nat → Nat} {cB cI cJ cZ : ClassId} {z : SM} (cx : gX p s m args meth c cc nL RX12 D (tyL cB cI cJ cZ) A) {i : Int32} {kf : Int32 → Option β} (hf : (aget 16 (mA z 31) i).bind kf = some r) (hd : decode cc pc = .ok (.iaload, 1)) (kk : ∀ v : Int32, kf v = some r → gW p l e R s m args below meth c D A nL Q cells slots (wX12 o cB cI cJ cZ z) L (pc + 1) (.int v :: stk)) : gW p l e R s m args below meth c D A nL Q cells slots (wX12 o cB cI cJ cZ z) L pc (.int i :: .ref (o 16) :: stk) :=
  g_iald cx 16 1 hf rfl rfl hd kk
theorem ml_stands {p : Program} {l : Launch} {e : Env} {R : Room} {s : State} {m : MethodId} {args : Array Value} {below : List Frame} {meth : Method} {c : Code} {D : gG} {A : Nat → Prop} {nL : Nat} {Q : State → Prop} {cells slots : Nat} {cc : ByteArray} {L : List (Nat × Value)} {pc : Nat} {stk : List Value} {β : Type} {r : β} {o : Nat → Nat} {cB cI cJ cZ : ClassId} {z : SM} (cx : gX p s m args meth c cc nL RX12 D (tyL cB cI cJ cZ) A) {i : Int32} {kf : Int32 → Option β} (hf : (aget 9 (mA z 26) i).bind kf = some r) (hd : decode cc pc = .ok (.baload, 1)) (kk : ∀ v : Int32, kf v = some r → gW p l e R s m args below meth c D A nL Q cells slots (wX12 o cB cI cJ cZ z) L (pc + 1) (.int v :: stk)) : gW p l e R s m args below meth c D A nL Q cells slots (wX12 o cB cI cJ cZ z) L pc (.int i :: .ref (o 11) :: stk) :=
  g_zald cx 11 3 hf rfl rfl hd kk
theorem ms_binds {p : Program} {l : Launch} {e : Env} {R : Room} {s : State} {m : MethodId} {args : Array Value} {below : List Frame} {meth : Method} {c : Code} {D : gG} {A : Nat → Prop} {nL : Nat} {Q : State → Prop} {cells slots : Nat} {cc : ByteArray} {L : List (Nat × Value)} {pc : Nat} {stk : List Value} {β : Type} {r : β} {o : Nat → Nat} {cB cI cJ cZ : ClassId} {z : SM} (cx : gX p s m args meth c cc nL RX12 D (tyL cB cI cJ cZ) A) {i : Int32} {x : Int32} {kf : SM → Option β} (hf : ((aset 9 (mA z 28) i (vp_nar .boolean x)).bind fun f => nm (mAs z 28 f) kf) = some r) (hd : decode cc pc = .ok (.bastore, 1)) (kk : ∀ y : SM, kf y = some r → gW p l e R s m args below meth c D A nL Q cells slots (wX12 o cB cI cJ cZ y) L (pc + 1) stk) : gW p l e R s m args below meth c D A nL Q cells slots (wX12 o cB cI cJ cZ z) L pc (.int x :: .int i :: .ref (o 13) :: stk) :=
  g_zast cx 13 3 (ws' := fun f => wX12 o cB cI cJ cZ (mAs z 28 f)) hf rfl rfl (fun _ => rfl) hd (fun _ hf => kk _ hf)
theorem fg_RX12_47 {p : Program} {l : Launch} {e : Env} {R : Room} {s : State} {m : MethodId} {args : Array Value} {below : List Frame} {meth : Method} {c : Code} {D : gG} {tys : List (ClassId × FieldType)} {A : Nat → Prop} {nL : Nat} {Q : State → Prop} {cells slots : Nat} {cc : ByteArray} {ws : va_W} {L : List (Nat × Value)} {pc : Nat} {stk : List Value} (cx : gX p s m args meth c cc nL RX12 D tys A) {a : Nat} {fs : List Value} {v : Value} (q0 : Nat) (he : ws[q0]? = some (a, .inr (10, fs))) (hv : fs[28]? = some v) (hd : decode cc pc = .ok (.getfield 47, 3)) (kk : gW p l e R s m args below meth c D A nL Q cells slots ws L (pc + 3) (v :: stk)) : gW p l e R s m args below meth c D A nL Q cells slots ws L pc (.ref a :: stk) :=
  g_get cx (C := RX12) (T := TX12) (N := 38) inT12 rfl 28 (Nat.le_of_ble_eq_true rfl) q5_11 rfl q0 he hv hd kk
theorem mg_binds {p : Program} {l : Launch} {e : Env} {R : Room} {s : State} {m : MethodId} {args : Array Value} {below : List Frame} {meth : Method} {c : Code} {D : gG} {A : Nat → Prop} {nL : Nat} {Q : State → Prop} {cells slots : Nat} {cc : ByteArray} {L : List (Nat × Value)} {pc : Nat} {stk : List Value} {o : Nat → Nat} {cB cI cJ cZ : ClassId} {z : SM} (cx : gX p s m args meth c cc nL RX12 D (tyL cB cI cJ cZ) A) (hd : decode cc pc = .ok (.getfield 47, 3)) (kk : gW p l e R s m args below meth c D A nL Q cells slots (wX12 o cB cI cJ cZ z) L (pc + 3) (.ref (o 13) :: stk)) : gW p l e R s m args below meth c D A nL Q cells slots (wX12 o cB cI cJ cZ z) L pc (.ref (o 0) :: stk) :=
  fg_RX12_47 cx 0 rfl rfl hd kk
theorem lk_RX12_194 : vlk RX12 194 yX12_holds cX12_holds 5 (some .boolean) 2 := ⟨List.forall_mem_cons.mpr ⟨q5_239, List.forall_mem_cons.mpr ⟨q6_1, List.forall_mem_cons.mpr ⟨q0_49, List.forall_mem_cons.mpr ⟨q1_12, fun _ h => absurd h List.not_mem_nil⟩⟩⟩⟩, q6_2, by decide, by decide, by decide +kernel⟩
def F_X12_judges_b192 (x1 : Int32) (K2 : Int32 → SM → Option (SM)) (v2 : Int32) (zs_o : SM) (k1 : Int32) (k2 : Int32) : Option (SM) := (aset 9 (mA zs_o 26) k1 (vp_nar .boolean k2)).bind fun f_1 => nm (mAs zs_o 26 f_1) fun s_o_2 => nm (v2 + 1) fun v2_3 => K2 v2_3 s_o_2
def F_X12_judges_b187 (x1 : Int32) (K2 : Int32 → SM → Option (SM)) (v2 : Int32) (zs_o : SM) (k1 : Int32) : Option (SM) := F_X12_judges_b192 x1 K2 v2 zs_o k1 1
def F_X12_judges_b161 (x1 : Int32) (K2 : Int32 → SM → Option (SM)) (v2 : Int32) (zs_o : SM) (k1 : Int32) (k2 : Int32) : Option (SM) := (aset 9 (mA zs_o 29) k1 k2).bind fun f_4 => nm (mAs zs_o 29 f_4) fun s_o_5 => (aget 9 (mA s_o_5 27) v2).bind fun e_6 => (if e_6 = 0 then (aget 9 (mA s_o_5 29) v2).bind fun e_7 => (if e_7 = (-9) then F_X12_judges_b192 x1 K2 v2 s_o_5 v2 0 else F_X12_judges_b187 x1 K2 v2 s_o_5 v2) else F_X12_judges_b187 x1 K2 v2 s_o_5 v2)
def F_X12_judges_b159 (x1 : Int32) (K2 : Int32 → SM → Option (SM)) (v2 : Int32) (zs_o : SM) (k1 : Int32) : Option (SM) := F_X12_judges_b161 x1 K2 v2 zs_o k1 (-9)
def F_X12_judges_b138 (x1 : Int32) (K2 : Int32 → SM → Option (SM)) (v2 : Int32) (v4 : Int32) (v5 : Int32) (v6 : Int32) (zs_o : SM) (k1 : Int32) (k2 : Int32) : Option (SM) := (aset 9 (mA zs_o 27) k1 (vp_nar .boolean k2)).bind fun f_8 => nm (mAs zs_o 27 f_8) fun s_o_9 => (if v5 = 0 then F_X12_judges_b159 x1 K2 v2 s_o_9 v2 else (if v6 = 0 then F_X12_judges_b159 x1 K2 v2 s_o_9 v2 else F_X12_judges_b161 x1 K2 v2 s_o_9 v2 v4))
def F_X12_judges_b137 (x1 : Int32) (K2 : Int32 → SM → Option (SM)) (v2 : Int32) (v4 : Int32) (v5 : Int32) (v6 : Int32) (zs_o : SM) (k1 : Int32) : Option (SM) := F_X12_judges_b138 x1 K2 v2 v4 v5 v6 zs_o k1 0
def F_X12_judges_b116 (x1 : Int32) (K2 : Int32 → SM → Option (SM)) (v2 : Int32) (v4 : Int32) (v5 : Int32) (zs_o : SM) (k0 : Int32) : Option (SM) := nm k0 fun v6_10 => (if v5 = 0 then F_X12_judges_b137 x1 K2 v2 v4 v5 v6_10 zs_o v2 else (if 0 ≤ v4 then F_X12_judges_b137 x1 K2 v2 v4 v5 v6_10 zs_o v2 else F_X12_judges_b138 x1 K2 v2 v4 v5 v6_10 zs_o v2 1))
def F_X12_judges_b115 (x1 : Int32) (K2 : Int32 → SM → Option (SM)) (v2 : Int32) (v4 : Int32) (v5 : Int32) (zs_o : SM) : Option (SM) := F_X12_judges_b116 x1 K2 v2 v4 v5 zs_o 0
def F_X12_judges_b61 (x1 : Int32) (K2 : Int32 → SM → Option (SM)) (v2 : Int32) (v3 : Int32) (v4 : Int32) (zs_o : SM) : Option (SM) := (F_X12_isMetre zs_o x1 v2 v3).bind fun q_11 => nm q_11 fun v5_12 => (if v4 < 0 then F_X12_judges_b115 x1 K2 v2 v4 v5_12 zs_o else (aget 27 (mA zs_o 24) (3 * v4)).bind fun e_13 => (if e_13 = v3 then F_X12_judges_b115 x1 K2 v2 v4 v5_12 zs_o else (aget 27 (mA zs_o 24) (3 * v4)).bind fun e_14 => (aget 16 (mA zs_o 31) e_14).bind fun e_15 => (aget 16 (mA zs_o 31) v3).bind fun e_16 => (if e_15 = e_16 then F_X12_judges_b116 x1 K2 v2 v4 v5_12 zs_o 1 else F_X12_judges_b115 x1 K2 v2 v4 v5_12 zs_o)))
def F_X12_judges_b55 (x1 : Int32) (K2 : Int32 → SM → Option (SM)) (K24 : Int32 → Int32 → Int32 → SM → Option (SM)) (v2 : Int32) (v3 : Int32) (v4 : Int32) (zs_o : SM) : Option (SM) := nm (v4 - 1) fun v4_17 => K24 v2 v3 v4_17 zs_o
def F_X12_judges_b24 (x1 : Int32) (K2 : Int32 → SM → Option (SM)) : Nat → Int32 → Int32 → Int32 → SM → Option (SM)
  | 0, _, _, _, _ => none
  | n + 1, v2, v3, v4, zs_o => (if v4 < 0 then F_X12_judges_b61 x1 K2 v2 v3 v4 zs_o else (aget 9 (mA zs_o 26) v4).bind fun e_18 => (if e_18 = 0 then F_X12_judges_b55 x1 K2 (F_X12_judges_b24 x1 K2 n) v2 v3 v4 zs_o else (F_X12_letterOf zs_o x1 v4).bind fun q_19 => (F_X12_letterOf zs_o x1 v2).bind fun q_20 => (if q_19 = q_20 then F_X12_judges_b61 x1 K2 v2 v3 v4 zs_o else F_X12_judges_b55 x1 K2 (F_X12_judges_b24 x1 K2 n) v2 v3 v4 zs_o)))
def F_X12_judges_b248 (x1 : Int32) (K201 : Int32 → SM → Option (SM)) (v2 : Int32) (zs_o : SM) (k1 : Int32) (k2 : Int32) : Option (SM) := (aset 9 (mA zs_o 28) k1 (vp_nar .boolean k2)).bind fun f_21 => nm (mAs zs_o 28 f_21) fun s_o_22 => nm (v2 + 1) fun v2_23 => K201 v2_23 s_o_22
def F_X12_judges_b243 (x1 : Int32) (K201 : Int32 → SM → Option (SM)) (v2 : Int32) (zs_o : SM) (k1 : Int32) : Option (SM) := F_X12_judges_b248 x1 K201 v2 zs_o k1 1
def F_X12_judges_b247 (x1 : Int32) (K201 : Int32 → SM → Option (SM)) (v2 : Int32) (zs_o : SM) (k1 : Int32) : Option (SM) := F_X12_judges_b248 x1 K201 v2 zs_o k1 0
def F_X12_judges_b201 (x1 : Int32) : Nat → Int32 → SM → Option (SM)
  | 0, _, _ => none
  | n + 1, v2, zs_o => (if (mI zs_o 25) ≤ v2 then some (zs_o) else (aget 9 (mA zs_o 29) v2).bind fun e_24 => (if e_24 = (-9) then (aget 9 (mA zs_o 27) v2).bind fun e_25 => (if e_25 = 0 then F_X12_judges_b247 x1 (F_X12_judges_b201 x1 n) v2 zs_o v2 else (F_X12_holds zs_o v2 0).bind fun q_26 => (if q_26 = 0 then F_X12_judges_b247 x1 (F_X12_judges_b201 x1 n) v2 zs_o v2 else F_X12_judges_b243 x1 (F_X12_judges_b201 x1 n) v2 zs_o v2)) else F_X12_judges_b243 x1 (F_X12_judges_b201 x1 n) v2 zs_o v2))
def F_X12_judges_b2 (x1 : Int32) : Nat → Int32 → SM → Option (SM)
  | 0, _, _ => none
  | n + 1, v2, zs_o => (if (mI zs_o 25) ≤ v2 then nm 0 fun v2_27 => F_X12_judges_b201 x1 fu v2_27 zs_o else (aget 27 (mA zs_o 24) (3 * v2)).bind fun e_28 => nm e_28 fun v3_29 => nm (v2 - 1) fun v4_30 => F_X12_judges_b24 x1 (F_X12_judges_b2 x1 n) fu v2 v3_29 v4_30 zs_o)
def F_X12_judges (s_o : SM) (x1 : Int32) : Option (SM) := nm 0 fun v2_31 => F_X12_judges_b2 x1 fu v2_31 s_o

abbrev rm_X12_judges : Room := { frames := 2, cells := 0, slots := 0, locals := 46 }
set_option maxHeartbeats 4000000 in
set_option maxRecDepth 100000 in
theorem c_X12_judges (l : Launch) (D : gG) (cB cI cJ cZ : ClassId) (o : Nat → Nat) (s_o : SM) (x1 : Int32) (r : SM) (hf : F_X12_judges s_o x1 = some r) : gM l D (tyL cB cI cJ cZ) yX12_judges cX12_judges 7 none rm_X12_judges [.ref (o 0), .int x1] (wX12 o cB cI cJ cZ s_o) none (wX12 o cB cI cJ cZ r) := by
  refine met_of (by decide) (Nat.le_of_ble_eq_true rfl) ?_
  intro p e s m args below meth c A cx hr hA
  show gW p l e rm_X12_judges s m args below meth c D A 7 _ 0 0 _ [(0, .ref (o 0)), (1, .int x1)] 0 []
  have h192 : ∀ (K2 : Int32 → SM → Option (SM)), (∀ (v2 : Int32) (zs_o : SM), K2 v2 zs_o = some r → gW p l e rm_X12_judges s m args below meth c D A 7 (MQ below (QM D (tyL cB cI cJ cZ) none (wX12 o cB cI cJ cZ s_o) (wX12 o cB cI cJ cZ r) s.heap.size) args s 0 0 A) 0 0 (wX12 o cB cI cJ cZ zs_o) [(0, .ref (o 0)), (1, .int x1), (2, .int v2)] 2 []) → ∀ (v2 : Int32) (zs_o : SM) (k1 : Int32) (k2 : Int32), F_X12_judges_b192 x1 K2 v2 zs_o k1 k2 = some r → gW p l e rm_X12_judges s m args below meth c D A 7 (MQ below (QM D (tyL cB cI cJ cZ) none (wX12 o cB cI cJ cZ s_o) (wX12 o cB cI cJ cZ r) s.heap.size) args s 0 0 A) 0 0 (wX12 o cB cI cJ cZ zs_o) [(0, .ref (o 0)), (1, .int x1), (2, .int v2)] 192 [.int k2, .int k1, .ref (o 11)] := by
    intro K2 kh2 v2 zs_o k1 k2 hf
    rw [F_X12_judges_b192] at hf
    refine ms_stands cx hf dX12_judges_192 (fun s_o_2 hf => ?_)
    refine g_inc cx (L2 := fun v2_3 => [(2, .int v2_3), (0, .ref (o 0)), (1, .int x1)]) 2 hf dX12_judges_193 rfl (k_inc1 _) (Nat.le_of_ble_eq_true rfl) (fun _ => rfl) (fun v2_3 hf => ?_)
    refine g_goto (tgt := 2) cx dX12_judges_196 rfl ?_
    refine g_sub [1, 2, 0] rfl ?_
    exact kh2 _ _ hf
  have h187 : ∀ (K2 : Int32 → SM → Option (SM)), (∀ (v2 : Int32) (zs_o : SM), K2 v2 zs_o = some r → gW p l e rm_X12_judges s m args below meth c D A 7 (MQ below (QM D (tyL cB cI cJ cZ) none (wX12 o cB cI cJ cZ s_o) (wX12 o cB cI cJ cZ r) s.heap.size) args s 0 0 A) 0 0 (wX12 o cB cI cJ cZ zs_o) [(0, .ref (o 0)), (1, .int x1), (2, .int v2)] 2 []) → ∀ (v2 : Int32) (zs_o : SM) (k1 : Int32), F_X12_judges_b187 x1 K2 v2 zs_o k1 = some r → gW p l e rm_X12_judges s m args below meth c D A 7 (MQ below (QM D (tyL cB cI cJ cZ) none (wX12 o cB cI cJ cZ s_o) (wX12 o cB cI cJ cZ r) s.heap.size) args s 0 0 A) 0 0 (wX12 o cB cI cJ cZ zs_o) [(0, .ref (o 0)), (1, .int x1), (2, .int v2)] 187 [.int k1, .ref (o 11)] := by
    intro K2 kh2 v2 zs_o k1 hf
    rw [F_X12_judges_b187] at hf
    refine g_ic cx dX12_judges_187 k_ic1 ?_
    refine g_goto (tgt := 192) cx dX12_judges_188 rfl ?_
    exact h192 _ kh2 _ _ _ _ hf
  have h161 : ∀ (K2 : Int32 → SM → Option (SM)), (∀ (v2 : Int32) (zs_o : SM), K2 v2 zs_o = some r → gW p l e rm_X12_judges s m args below meth c D A 7 (MQ below (QM D (tyL cB cI cJ cZ) none (wX12 o cB cI cJ cZ s_o) (wX12 o cB cI cJ cZ r) s.heap.size) args s 0 0 A) 0 0 (wX12 o cB cI cJ cZ zs_o) [(0, .ref (o 0)), (1, .int x1), (2, .int v2)] 2 []) → ∀ (v2 : Int32) (zs_o : SM) (k1 : Int32) (k2 : Int32), F_X12_judges_b161 x1 K2 v2 zs_o k1 k2 = some r → gW p l e rm_X12_judges s m args below meth c D A 7 (MQ below (QM D (tyL cB cI cJ cZ) none (wX12 o cB cI cJ cZ s_o) (wX12 o cB cI cJ cZ r) s.heap.size) args s 0 0 A) 0 0 (wX12 o cB cI cJ cZ zs_o) [(0, .ref (o 0)), (1, .int x1), (2, .int v2)] 161 [.int k2, .int k1, .ref (o 14)] := by
    intro K2 kh2 v2 zs_o k1 k2 hf
    rw [F_X12_judges_b161] at hf
    refine ms_anchor cx hf dX12_judges_161 (fun s_o_5 hf => ?_)
    refine g_aln cx 0 dX12_judges_162 rfl ?_
    refine mg_stands cx dX12_judges_163 ?_
    refine g_iln cx 2 dX12_judges_166 rfl ?_
    refine g_aln cx 0 dX12_judges_167 rfl ?_
    refine mg_opens cx dX12_judges_168 ?_
    refine g_iln cx 2 dX12_judges_171 rfl ?_
    refine ml_opens cx hf dX12_judges_172 (fun e_6 hf => ?_)
    refine g_if_ne (tgt := 187) cx hf dX12_judges_173 rfl (fun hf => ?_) (fun hf => ?_)
    · exact h187 _ kh2 _ _ _ hf
    · refine g_aln cx 0 dX12_judges_176 rfl ?_
      refine mg_anchor cx dX12_judges_177 ?_
      refine g_iln cx 2 dX12_judges_180 rfl ?_
      refine ml_anchor cx hf dX12_judges_181 (fun e_7 hf => ?_)
      refine g_bp cx dX12_judges_182 k_bpm9 ?_
      refine g_ic_eq (tgt := 191) cx hf dX12_judges_184 rfl (fun hf => ?_) (fun hf => ?_)
      · refine g_ic cx dX12_judges_191 k_ic0 ?_
        exact h192 _ kh2 _ _ _ _ hf
      · exact h187 _ kh2 _ _ _ hf
  have h159 : ∀ (K2 : Int32 → SM → Option (SM)), (∀ (v2 : Int32) (zs_o : SM), K2 v2 zs_o = some r → gW p l e rm_X12_judges s m args below meth c D A 7 (MQ below (QM D (tyL cB cI cJ cZ) none (wX12 o cB cI cJ cZ s_o) (wX12 o cB cI cJ cZ r) s.heap.size) args s 0 0 A) 0 0 (wX12 o cB cI cJ cZ zs_o) [(0, .ref (o 0)), (1, .int x1), (2, .int v2)] 2 []) → ∀ (v2 : Int32) (zs_o : SM) (k1 : Int32), F_X12_judges_b159 x1 K2 v2 zs_o k1 = some r → gW p l e rm_X12_judges s m args below meth c D A 7 (MQ below (QM D (tyL cB cI cJ cZ) none (wX12 o cB cI cJ cZ s_o) (wX12 o cB cI cJ cZ r) s.heap.size) args s 0 0 A) 0 0 (wX12 o cB cI cJ cZ zs_o) [(0, .ref (o 0)), (1, .int x1), (2, .int v2)] 159 [.int k1, .ref (o 14)] := by
    intro K2 kh2 v2 zs_o k1 hf
    rw [F_X12_judges_b159] at hf
    refine g_bp cx dX12_judges_159 k_bpm9 ?_
    exact h161 _ kh2 _ _ _ _ hf
  have h138 : ∀ (K2 : Int32 → SM → Option (SM)), (∀ (v2 : Int32) (zs_o : SM), K2 v2 zs_o = some r → gW p l e rm_X12_judges s m args below meth c D A 7 (MQ below (QM D (tyL cB cI cJ cZ) none (wX12 o cB cI cJ cZ s_o) (wX12 o cB cI cJ cZ r) s.heap.size) args s 0 0 A) 0 0 (wX12 o cB cI cJ cZ zs_o) [(0, .ref (o 0)), (1, .int x1), (2, .int v2)] 2 []) → ∀ (v2 : Int32) (v4 : Int32) (v5 : Int32) (v6 : Int32) (zs_o : SM) (k1 : Int32) (k2 : Int32), F_X12_judges_b138 x1 K2 v2 v4 v5 v6 zs_o k1 k2 = some r → gW p l e rm_X12_judges s m args below meth c D A 7 (MQ below (QM D (tyL cB cI cJ cZ) none (wX12 o cB cI cJ cZ s_o) (wX12 o cB cI cJ cZ r) s.heap.size) args s 0 0 A) 0 0 (wX12 o cB cI cJ cZ zs_o) [(0, .ref (o 0)), (1, .int x1), (2, .int v2), (4, .int v4), (5, .int v5), (6, .int v6)] 138 [.int k2, .int k1, .ref (o 12)] := by
    intro K2 kh2 v2 v4 v5 v6 zs_o k1 k2 hf
    rw [F_X12_judges_b138] at hf
    refine ms_opens cx hf dX12_judges_138 (fun s_o_9 hf => ?_)
    refine g_aln cx 0 dX12_judges_139 rfl ?_
    refine mg_anchor cx dX12_judges_140 ?_
    refine g_iln cx 2 dX12_judges_143 rfl ?_
    refine g_il cx 4 dX12_judges_144 rfl ?_
    refine g_if_eq (tgt := 159) cx hf dX12_judges_146 rfl (fun hf => ?_) (fun hf => ?_)
    · refine g_sub [0, 1, 2] rfl ?_
      exact h159 _ kh2 _ _ _ hf
    · refine g_il cx 5 dX12_judges_149 rfl ?_
      refine g_if_eq (tgt := 159) cx hf dX12_judges_151 rfl (fun hf => ?_) (fun hf => ?_)
      · refine g_sub [0, 1, 2] rfl ?_
        exact h159 _ kh2 _ _ _ hf
      · refine g_il cx 3 dX12_judges_154 rfl ?_
        refine g_goto (tgt := 161) cx dX12_judges_156 rfl ?_
        refine g_sub [0, 1, 2] rfl ?_
        exact h161 _ kh2 _ _ _ _ hf
  have h137 : ∀ (K2 : Int32 → SM → Option (SM)), (∀ (v2 : Int32) (zs_o : SM), K2 v2 zs_o = some r → gW p l e rm_X12_judges s m args below meth c D A 7 (MQ below (QM D (tyL cB cI cJ cZ) none (wX12 o cB cI cJ cZ s_o) (wX12 o cB cI cJ cZ r) s.heap.size) args s 0 0 A) 0 0 (wX12 o cB cI cJ cZ zs_o) [(0, .ref (o 0)), (1, .int x1), (2, .int v2)] 2 []) → ∀ (v2 : Int32) (v4 : Int32) (v5 : Int32) (v6 : Int32) (zs_o : SM) (k1 : Int32), F_X12_judges_b137 x1 K2 v2 v4 v5 v6 zs_o k1 = some r → gW p l e rm_X12_judges s m args below meth c D A 7 (MQ below (QM D (tyL cB cI cJ cZ) none (wX12 o cB cI cJ cZ s_o) (wX12 o cB cI cJ cZ r) s.heap.size) args s 0 0 A) 0 0 (wX12 o cB cI cJ cZ zs_o) [(0, .ref (o 0)), (1, .int x1), (2, .int v2), (4, .int v4), (5, .int v5), (6, .int v6)] 137 [.int k1, .ref (o 12)] := by
    intro K2 kh2 v2 v4 v5 v6 zs_o k1 hf
    rw [F_X12_judges_b137] at hf
    refine g_ic cx dX12_judges_137 k_ic0 ?_
    exact h138 _ kh2 _ _ _ _ _ _ _ hf
  have h116 : ∀ (K2 : Int32 → SM → Option (SM)), (∀ (v2 : Int32) (zs_o : SM), K2 v2 zs_o = some r → gW p l e rm_X12_judges s m args below meth c D A 7 (MQ below (QM D (tyL cB cI cJ cZ) none (wX12 o cB cI cJ cZ s_o) (wX12 o cB cI cJ cZ r) s.heap.size) args s 0 0 A) 0 0 (wX12 o cB cI cJ cZ zs_o) [(0, .ref (o 0)), (1, .int x1), (2, .int v2)] 2 []) → ∀ (v2 : Int32) (v4 : Int32) (v5 : Int32) (zs_o : SM) (k0 : Int32), F_X12_judges_b116 x1 K2 v2 v4 v5 zs_o k0 = some r → gW p l e rm_X12_judges s m args below meth c D A 7 (MQ below (QM D (tyL cB cI cJ cZ) none (wX12 o cB cI cJ cZ s_o) (wX12 o cB cI cJ cZ r) s.heap.size) args s 0 0 A) 0 0 (wX12 o cB cI cJ cZ zs_o) [(0, .ref (o 0)), (1, .int x1), (2, .int v2), (4, .int v4), (5, .int v5)] 116 [.int k0] := by
    intro K2 kh2 v2 v4 v5 zs_o k0 hf
    rw [F_X12_judges_b116] at hf
    refine g_is cx (L2 := fun v6_10 => [(6, .int v6_10), (0, .ref (o 0)), (1, .int x1), (2, .int v2), (4, .int v4), (5, .int v5)]) hf dX12_judges_116 (Nat.le_of_ble_eq_true rfl) (fun _ => rfl) (fun v6_10 hf => ?_)
    refine g_aln cx 1 dX12_judges_118 rfl ?_
    refine mg_opens cx dX12_judges_119 ?_
    refine g_iln cx 3 dX12_judges_122 rfl ?_
    refine g_il cx 5 dX12_judges_123 rfl ?_
    refine g_if_eq (tgt := 137) cx hf dX12_judges_125 rfl (fun hf => ?_) (fun hf => ?_)
    · refine g_sub [1, 2, 3, 4, 5, 0] rfl ?_
      exact h137 _ kh2 _ _ _ _ _ _ hf
    · refine g_il cx 4 dX12_judges_128 rfl ?_
      refine g_if_ge (tgt := 137) cx hf dX12_judges_130 rfl (fun hf => ?_) (fun hf => ?_)
      · refine g_sub [1, 2, 3, 4, 5, 0] rfl ?_
        exact h137 _ kh2 _ _ _ _ _ _ hf
      · refine g_ic cx dX12_judges_133 k_ic1 ?_
        refine g_goto (tgt := 138) cx dX12_judges_134 rfl ?_
        refine g_sub [1, 2, 3, 4, 5, 0] rfl ?_
        exact h138 _ kh2 _ _ _ _ _ _ _ hf
  have h115 : ∀ (K2 : Int32 → SM → Option (SM)), (∀ (v2 : Int32) (zs_o : SM), K2 v2 zs_o = some r → gW p l e rm_X12_judges s m args below meth c D A 7 (MQ below (QM D (tyL cB cI cJ cZ) none (wX12 o cB cI cJ cZ s_o) (wX12 o cB cI cJ cZ r) s.heap.size) args s 0 0 A) 0 0 (wX12 o cB cI cJ cZ zs_o) [(0, .ref (o 0)), (1, .int x1), (2, .int v2)] 2 []) → ∀ (v2 : Int32) (v4 : Int32) (v5 : Int32) (zs_o : SM), F_X12_judges_b115 x1 K2 v2 v4 v5 zs_o = some r → gW p l e rm_X12_judges s m args below meth c D A 7 (MQ below (QM D (tyL cB cI cJ cZ) none (wX12 o cB cI cJ cZ s_o) (wX12 o cB cI cJ cZ r) s.heap.size) args s 0 0 A) 0 0 (wX12 o cB cI cJ cZ zs_o) [(0, .ref (o 0)), (1, .int x1), (2, .int v2), (4, .int v4), (5, .int v5)] 115 [] := by
    intro K2 kh2 v2 v4 v5 zs_o hf
    rw [F_X12_judges_b115] at hf
    refine g_ic cx dX12_judges_115 k_ic0 ?_
    exact h116 _ kh2 _ _ _ _ _ hf
  have h61 : ∀ (K2 : Int32 → SM → Option (SM)), (∀ (v2 : Int32) (zs_o : SM), K2 v2 zs_o = some r → gW p l e rm_X12_judges s m args below meth c D A 7 (MQ below (QM D (tyL cB cI cJ cZ) none (wX12 o cB cI cJ cZ s_o) (wX12 o cB cI cJ cZ r) s.heap.size) args s 0 0 A) 0 0 (wX12 o cB cI cJ cZ zs_o) [(0, .ref (o 0)), (1, .int x1), (2, .int v2)] 2 []) → ∀ (v2 : Int32) (v3 : Int32) (v4 : Int32) (zs_o : SM), F_X12_judges_b61 x1 K2 v2 v3 v4 zs_o = some r → gW p l e rm_X12_judges s m args below meth c D A 7 (MQ below (QM D (tyL cB cI cJ cZ) none (wX12 o cB cI cJ cZ s_o) (wX12 o cB cI cJ cZ r) s.heap.size) args s 0 0 A) 0 0 (wX12 o cB cI cJ cZ zs_o) [(0, .ref (o 0)), (1, .int x1), (2, .int v2), (3, .int v3), (4, .int v4)] 61 [] := by
    intro K2 kh2 v2 v3 v4 zs_o hf
    rw [F_X12_judges_b61] at hf
    refine g_aln cx 0 dX12_judges_61 rfl ?_
    refine g_iln cx 1 dX12_judges_62 rfl ?_
    refine g_iln cx 2 dX12_judges_63 rfl ?_
    refine g_iln cx 3 dX12_judges_64 rfl ?_
    refine ob hf (fun q_11 hq_11 hf => ?_)
    refine g_callVFi cx lk_RX12_191 (c_X12_isMetre l D cB cI cJ cZ o zs_o x1 v2 v3 q_11 hq_11) rfl (ci := 10) (q1 := 0) rfl rfl rfl (Nat.le_of_ble_eq_true rfl) ⟨rfl, rfl, Nat.le_of_ble_eq_true rfl, Nat.le_of_ble_eq_true rfl⟩ dX12_judges_65 ?_
    refine g_is cx (L2 := fun v5_12 => [(5, .int v5_12), (0, .ref (o 0)), (1, .int x1), (2, .int v2), (3, .int v3), (4, .int v4)]) hf dX12_judges_68 (Nat.le_of_ble_eq_true rfl) (fun _ => rfl) (fun v5_12 hf => ?_)
    refine g_il cx 5 dX12_judges_70 rfl ?_
    refine g_if_lt (tgt := 115) cx hf dX12_judges_72 rfl (fun hf => ?_) (fun hf => ?_)
    · refine g_sub [1, 2, 3, 5, 0] rfl ?_
      exact h115 _ kh2 _ _ _ _ hf
    · refine g_aln cx 1 dX12_judges_75 rfl ?_
      refine mg_tried cx dX12_judges_76 ?_
      refine g_ic cx dX12_judges_79 k_ic3 ?_
      refine g_il cx 5 dX12_judges_80 rfl ?_
      refine g_imul cx dX12_judges_82 ?_
      refine ml_tried cx hf dX12_judges_83 (fun e_13 hf => ?_)
      refine g_iln cx 4 dX12_judges_84 rfl ?_
      refine g_ic_eq (tgt := 115) cx hf dX12_judges_85 rfl (fun hf => ?_) (fun hf => ?_)
      · refine g_sub [1, 2, 3, 5, 0] rfl ?_
        exact h115 _ kh2 _ _ _ _ hf
      · refine g_aln cx 1 dX12_judges_88 rfl ?_
        refine mg_sound cx dX12_judges_89 ?_
        refine g_aln cx 1 dX12_judges_92 rfl ?_
        refine mg_tried cx dX12_judges_93 ?_
        refine g_ic cx dX12_judges_96 k_ic3 ?_
        refine g_il cx 5 dX12_judges_97 rfl ?_
        refine g_imul cx dX12_judges_99 ?_
        refine ml_tried cx hf dX12_judges_100 (fun e_14 hf => ?_)
        refine ml_sound cx hf dX12_judges_101 (fun e_15 hf => ?_)
        refine g_aln cx 1 dX12_judges_102 rfl ?_
        refine mg_sound cx dX12_judges_103 ?_
        refine g_iln cx 4 dX12_judges_106 rfl ?_
        refine ml_sound cx hf dX12_judges_107 (fun e_16 hf => ?_)
        refine g_ic_ne (tgt := 115) cx hf dX12_judges_108 rfl (fun hf => ?_) (fun hf => ?_)
        · refine g_sub [1, 2, 3, 5, 0] rfl ?_
          exact h115 _ kh2 _ _ _ _ hf
        · refine g_ic cx dX12_judges_111 k_ic1 ?_
          refine g_goto (tgt := 116) cx dX12_judges_112 rfl ?_
          refine g_sub [1, 2, 3, 5, 0] rfl ?_
          exact h116 _ kh2 _ _ _ _ _ hf
  have h55 : ∀ (K2 : Int32 → SM → Option (SM)), (∀ (v2 : Int32) (zs_o : SM), K2 v2 zs_o = some r → gW p l e rm_X12_judges s m args below meth c D A 7 (MQ below (QM D (tyL cB cI cJ cZ) none (wX12 o cB cI cJ cZ s_o) (wX12 o cB cI cJ cZ r) s.heap.size) args s 0 0 A) 0 0 (wX12 o cB cI cJ cZ zs_o) [(0, .ref (o 0)), (1, .int x1), (2, .int v2)] 2 []) → ∀ (K24 : Int32 → Int32 → Int32 → SM → Option (SM)), (∀ (v2 : Int32) (v3 : Int32) (v4 : Int32) (zs_o : SM), K24 v2 v3 v4 zs_o = some r → gW p l e rm_X12_judges s m args below meth c D A 7 (MQ below (QM D (tyL cB cI cJ cZ) none (wX12 o cB cI cJ cZ s_o) (wX12 o cB cI cJ cZ r) s.heap.size) args s 0 0 A) 0 0 (wX12 o cB cI cJ cZ zs_o) [(0, .ref (o 0)), (1, .int x1), (2, .int v2), (3, .int v3), (4, .int v4)] 24 []) → ∀ (v2 : Int32) (v3 : Int32) (v4 : Int32) (zs_o : SM), F_X12_judges_b55 x1 K2 K24 v2 v3 v4 zs_o = some r → gW p l e rm_X12_judges s m args below meth c D A 7 (MQ below (QM D (tyL cB cI cJ cZ) none (wX12 o cB cI cJ cZ s_o) (wX12 o cB cI cJ cZ r) s.heap.size) args s 0 0 A) 0 0 (wX12 o cB cI cJ cZ zs_o) [(0, .ref (o 0)), (1, .int x1), (2, .int v2), (3, .int v3), (4, .int v4)] 55 [] := by
    intro K2 kh2 K24 kh24 v2 v3 v4 zs_o hf
    rw [F_X12_judges_b55] at hf
    refine g_inc cx (L2 := fun v4_17 => [(4, .int v4_17), (0, .ref (o 0)), (1, .int x1), (2, .int v2), (3, .int v3)]) 4 hf dX12_judges_55 rfl (k_incm1 _) (Nat.le_of_ble_eq_true rfl) (fun _ => rfl) (fun v4_17 hf => ?_)
    refine g_goto (tgt := 24) cx dX12_judges_58 rfl ?_
    refine g_sub [1, 2, 3, 4, 0] rfl ?_
    exact kh24 _ _ _ _ hf
  have h24 : ∀ (K2 : Int32 → SM → Option (SM)), (∀ (v2 : Int32) (zs_o : SM), K2 v2 zs_o = some r → gW p l e rm_X12_judges s m args below meth c D A 7 (MQ below (QM D (tyL cB cI cJ cZ) none (wX12 o cB cI cJ cZ s_o) (wX12 o cB cI cJ cZ r) s.heap.size) args s 0 0 A) 0 0 (wX12 o cB cI cJ cZ zs_o) [(0, .ref (o 0)), (1, .int x1), (2, .int v2)] 2 []) → ∀ (n : Nat) (v2 : Int32) (v3 : Int32) (v4 : Int32) (zs_o : SM), F_X12_judges_b24 x1 K2 n v2 v3 v4 zs_o = some r → gW p l e rm_X12_judges s m args below meth c D A 7 (MQ below (QM D (tyL cB cI cJ cZ) none (wX12 o cB cI cJ cZ s_o) (wX12 o cB cI cJ cZ r) s.heap.size) args s 0 0 A) 0 0 (wX12 o cB cI cJ cZ zs_o) [(0, .ref (o 0)), (1, .int x1), (2, .int v2), (3, .int v3), (4, .int v4)] 24 [] := by
    intro K2 kh2 n
    induction n with
    | zero => intro v2 v3 v4 zs_o hf; rw [F_X12_judges_b24] at hf; cases hf
    | succ n ih =>
      intro v2 v3 v4 zs_o hf
      rw [F_X12_judges_b24] at hf
      refine g_il cx 4 dX12_judges_24 rfl ?_
      refine g_if_lt (tgt := 61) cx hf dX12_judges_26 rfl (fun hf => ?_) (fun hf => ?_)
      · exact h61 _ kh2 _ _ _ _ hf
      · refine g_aln cx 0 dX12_judges_29 rfl ?_
        refine mg_stands cx dX12_judges_30 ?_
        refine g_il cx 4 dX12_judges_33 rfl ?_
        refine ml_stands cx hf dX12_judges_35 (fun e_18 hf => ?_)
        refine g_if_eq (tgt := 55) cx hf dX12_judges_36 rfl (fun hf => ?_) (fun hf => ?_)
        · exact h55 _ kh2 _ ih _ _ _ _ hf
        · refine g_aln cx 0 dX12_judges_39 rfl ?_
          refine g_iln cx 1 dX12_judges_40 rfl ?_
          refine g_il cx 4 dX12_judges_41 rfl ?_
          refine ob hf (fun q_19 hq_19 hf => ?_)
          refine g_callVFi cx lk_RX12_182 (c_X12_letterOf l D cB cI cJ cZ o zs_o x1 v4 q_19 hq_19) rfl (ci := 10) (q1 := 0) rfl rfl rfl (Nat.le_of_ble_eq_true rfl) ⟨rfl, rfl, Nat.le_of_ble_eq_true rfl, Nat.le_of_ble_eq_true rfl⟩ dX12_judges_43 ?_
          refine g_aln cx 0 dX12_judges_46 rfl ?_
          refine g_iln cx 1 dX12_judges_47 rfl ?_
          refine g_iln cx 2 dX12_judges_48 rfl ?_
          refine ob hf (fun q_20 hq_20 hf => ?_)
          refine g_callVFi cx lk_RX12_182 (c_X12_letterOf l D cB cI cJ cZ o zs_o x1 v2 q_20 hq_20) rfl (ci := 10) (q1 := 0) rfl rfl rfl (Nat.le_of_ble_eq_true rfl) ⟨rfl, rfl, Nat.le_of_ble_eq_true rfl, Nat.le_of_ble_eq_true rfl⟩ dX12_judges_49 ?_
          refine g_ic_eq (tgt := 61) cx hf dX12_judges_52 rfl (fun hf => ?_) (fun hf => ?_)
          · exact h61 _ kh2 _ _ _ _ hf
          · exact h55 _ kh2 _ ih _ _ _ _ hf
  have h248 : ∀ (K201 : Int32 → SM → Option (SM)), (∀ (v2 : Int32) (zs_o : SM), K201 v2 zs_o = some r → gW p l e rm_X12_judges s m args below meth c D A 7 (MQ below (QM D (tyL cB cI cJ cZ) none (wX12 o cB cI cJ cZ s_o) (wX12 o cB cI cJ cZ r) s.heap.size) args s 0 0 A) 0 0 (wX12 o cB cI cJ cZ zs_o) [(0, .ref (o 0)), (2, .int v2)] 201 []) → ∀ (v2 : Int32) (zs_o : SM) (k1 : Int32) (k2 : Int32), F_X12_judges_b248 x1 K201 v2 zs_o k1 k2 = some r → gW p l e rm_X12_judges s m args below meth c D A 7 (MQ below (QM D (tyL cB cI cJ cZ) none (wX12 o cB cI cJ cZ s_o) (wX12 o cB cI cJ cZ r) s.heap.size) args s 0 0 A) 0 0 (wX12 o cB cI cJ cZ zs_o) [(0, .ref (o 0)), (2, .int v2)] 248 [.int k2, .int k1, .ref (o 13)] := by
    intro K201 kh201 v2 zs_o k1 k2 hf
    rw [F_X12_judges_b248] at hf
    refine ms_binds cx hf dX12_judges_248 (fun s_o_22 hf => ?_)
    refine g_inc cx (L2 := fun v2_23 => [(2, .int v2_23), (0, .ref (o 0))]) 1 hf dX12_judges_249 rfl (k_inc1 _) (Nat.le_of_ble_eq_true rfl) (fun _ => rfl) (fun v2_23 hf => ?_)
    refine g_goto (tgt := 201) cx dX12_judges_252 rfl ?_
    refine g_sub [1, 0] rfl ?_
    exact kh201 _ _ hf
  have h243 : ∀ (K201 : Int32 → SM → Option (SM)), (∀ (v2 : Int32) (zs_o : SM), K201 v2 zs_o = some r → gW p l e rm_X12_judges s m args below meth c D A 7 (MQ below (QM D (tyL cB cI cJ cZ) none (wX12 o cB cI cJ cZ s_o) (wX12 o cB cI cJ cZ r) s.heap.size) args s 0 0 A) 0 0 (wX12 o cB cI cJ cZ zs_o) [(0, .ref (o 0)), (2, .int v2)] 201 []) → ∀ (v2 : Int32) (zs_o : SM) (k1 : Int32), F_X12_judges_b243 x1 K201 v2 zs_o k1 = some r → gW p l e rm_X12_judges s m args below meth c D A 7 (MQ below (QM D (tyL cB cI cJ cZ) none (wX12 o cB cI cJ cZ s_o) (wX12 o cB cI cJ cZ r) s.heap.size) args s 0 0 A) 0 0 (wX12 o cB cI cJ cZ zs_o) [(0, .ref (o 0)), (2, .int v2)] 243 [.int k1, .ref (o 13)] := by
    intro K201 kh201 v2 zs_o k1 hf
    rw [F_X12_judges_b243] at hf
    refine g_ic cx dX12_judges_243 k_ic1 ?_
    refine g_goto (tgt := 248) cx dX12_judges_244 rfl ?_
    exact h248 _ kh201 _ _ _ _ hf
  have h247 : ∀ (K201 : Int32 → SM → Option (SM)), (∀ (v2 : Int32) (zs_o : SM), K201 v2 zs_o = some r → gW p l e rm_X12_judges s m args below meth c D A 7 (MQ below (QM D (tyL cB cI cJ cZ) none (wX12 o cB cI cJ cZ s_o) (wX12 o cB cI cJ cZ r) s.heap.size) args s 0 0 A) 0 0 (wX12 o cB cI cJ cZ zs_o) [(0, .ref (o 0)), (2, .int v2)] 201 []) → ∀ (v2 : Int32) (zs_o : SM) (k1 : Int32), F_X12_judges_b247 x1 K201 v2 zs_o k1 = some r → gW p l e rm_X12_judges s m args below meth c D A 7 (MQ below (QM D (tyL cB cI cJ cZ) none (wX12 o cB cI cJ cZ s_o) (wX12 o cB cI cJ cZ r) s.heap.size) args s 0 0 A) 0 0 (wX12 o cB cI cJ cZ zs_o) [(0, .ref (o 0)), (2, .int v2)] 247 [.int k1, .ref (o 13)] := by
    intro K201 kh201 v2 zs_o k1 hf
    rw [F_X12_judges_b247] at hf
    refine g_ic cx dX12_judges_247 k_ic0 ?_
    exact h248 _ kh201 _ _ _ _ hf
  have h201 : ∀ (n : Nat) (v2 : Int32) (zs_o : SM), F_X12_judges_b201 x1 n v2 zs_o = some r → gW p l e rm_X12_judges s m args below meth c D A 7 (MQ below (QM D (tyL cB cI cJ cZ) none (wX12 o cB cI cJ cZ s_o) (wX12 o cB cI cJ cZ r) s.heap.size) args s 0 0 A) 0 0 (wX12 o cB cI cJ cZ zs_o) [(0, .ref (o 0)), (2, .int v2)] 201 [] := by
    intro n
    induction n with
    | zero => intro v2 zs_o hf; rw [F_X12_judges_b201] at hf; cases hf
    | succ n ih =>
      intro v2 zs_o hf
      rw [F_X12_judges_b201] at hf
      refine g_iln cx 1 dX12_judges_201 rfl ?_
      refine g_aln cx 0 dX12_judges_202 rfl ?_
      refine mg_many cx dX12_judges_203 ?_
      refine g_ic_ge (tgt := 255) cx hf dX12_judges_206 rfl (fun hf => ?_) (fun hf => ?_)
      · exact g_vret (ovf := fun (r : SM) => none) (wf := fun (r : SM) => (wX12 o cB cI cJ cZ r)) cx hA hr hf rfl rfl dX12_judges_255
      · refine g_aln cx 0 dX12_judges_209 rfl ?_
        refine mg_binds cx dX12_judges_210 ?_
        refine g_iln cx 1 dX12_judges_213 rfl ?_
        refine g_aln cx 0 dX12_judges_214 rfl ?_
        refine mg_anchor cx dX12_judges_215 ?_
        refine g_iln cx 1 dX12_judges_218 rfl ?_
        refine ml_anchor cx hf dX12_judges_219 (fun e_24 hf => ?_)
        refine g_bp cx dX12_judges_220 k_bpm9 ?_
        refine g_ic_ne (tgt := 243) cx hf dX12_judges_222 rfl (fun hf => ?_) (fun hf => ?_)
        · exact h243 _ ih _ _ _ hf
        · refine g_aln cx 0 dX12_judges_225 rfl ?_
          refine mg_opens cx dX12_judges_226 ?_
          refine g_iln cx 1 dX12_judges_229 rfl ?_
          refine ml_opens cx hf dX12_judges_230 (fun e_25 hf => ?_)
          refine g_if_eq (tgt := 247) cx hf dX12_judges_231 rfl (fun hf => ?_) (fun hf => ?_)
          · exact h247 _ ih _ _ _ hf
          · refine g_aln cx 0 dX12_judges_234 rfl ?_
            refine g_iln cx 1 dX12_judges_235 rfl ?_
            refine g_ic cx dX12_judges_236 k_ic0 ?_
            refine ob hf (fun q_26 hq_26 hf => ?_)
            refine g_callVFi cx lk_RX12_194 (c_X12_holds l D cB cI cJ cZ o zs_o v2 0 q_26 hq_26) rfl (ci := 10) (q1 := 0) rfl rfl rfl (Nat.le_of_ble_eq_true rfl) ⟨rfl, rfl, Nat.le_of_ble_eq_true rfl, Nat.le_of_ble_eq_true rfl⟩ dX12_judges_237 ?_
            refine g_if_eq (tgt := 247) cx hf dX12_judges_240 rfl (fun hf => ?_) (fun hf => ?_)
            · exact h247 _ ih _ _ _ hf
            · exact h243 _ ih _ _ _ hf
  have h2 : ∀ (n : Nat) (v2 : Int32) (zs_o : SM), F_X12_judges_b2 x1 n v2 zs_o = some r → gW p l e rm_X12_judges s m args below meth c D A 7 (MQ below (QM D (tyL cB cI cJ cZ) none (wX12 o cB cI cJ cZ s_o) (wX12 o cB cI cJ cZ r) s.heap.size) args s 0 0 A) 0 0 (wX12 o cB cI cJ cZ zs_o) [(0, .ref (o 0)), (1, .int x1), (2, .int v2)] 2 [] := by
    intro n
    induction n with
    | zero => intro v2 zs_o hf; rw [F_X12_judges_b2] at hf; cases hf
    | succ n ih =>
      intro v2 zs_o hf
      rw [F_X12_judges_b2] at hf
      refine g_iln cx 2 dX12_judges_2 rfl ?_
      refine g_aln cx 0 dX12_judges_3 rfl ?_
      refine mg_many cx dX12_judges_4 ?_
      refine g_ic_ge (tgt := 199) cx hf dX12_judges_7 rfl (fun hf => ?_) (fun hf => ?_)
      · refine g_ic cx dX12_judges_199 k_ic0 ?_
        refine g_isn cx (L2 := fun v2_27 => [(2, .int v2_27), (0, .ref (o 0)), (1, .int x1)]) hf dX12_judges_200 (Nat.le_of_ble_eq_true rfl) (fun _ => rfl) (fun v2_27 hf => ?_)
        refine g_sub [1, 0] rfl ?_
        exact h201 fu _ _ hf
      · refine g_aln cx 0 dX12_judges_10 rfl ?_
        refine mg_tried cx dX12_judges_11 ?_
        refine g_ic cx dX12_judges_14 k_ic3 ?_
        refine g_iln cx 2 dX12_judges_15 rfl ?_
        refine g_imul cx dX12_judges_16 ?_
        refine ml_tried cx hf dX12_judges_17 (fun e_28 hf => ?_)
        refine g_isn cx (L2 := fun v3_29 => [(3, .int v3_29), (0, .ref (o 0)), (1, .int x1), (2, .int v2)]) hf dX12_judges_18 (Nat.le_of_ble_eq_true rfl) (fun _ => rfl) (fun v3_29 hf => ?_)
        refine g_iln cx 3 dX12_judges_19 rfl ?_
        refine g_ic cx dX12_judges_20 k_ic1 ?_
        refine g_isub cx dX12_judges_21 ?_
        refine g_is cx (L2 := fun v4_30 => [(4, .int v4_30), (3, .int v3_29), (0, .ref (o 0)), (1, .int x1), (2, .int v2)]) hf dX12_judges_22 (Nat.le_of_ble_eq_true rfl) (fun _ => rfl) (fun v4_30 hf => ?_)
        refine g_sub [2, 3, 4, 1, 0] rfl ?_
        exact h24 _ ih fu _ _ _ _ hf
  rw [F_X12_judges] at hf
  refine g_ic cx dX12_judges_0 k_ic0 ?_
  refine g_isn cx (L2 := fun v2_31 => [(2, .int v2_31), (0, .ref (o 0)), (1, .int x1)]) hf dX12_judges_1 (Nat.le_of_ble_eq_true rfl) (fun _ => rfl) (fun v2_31 hf => ?_)
  refine g_sub [1, 2, 0] rfl ?_
  exact h2 fu _ _ hf
theorem dX12_judgesPaper_0 : decode cX12_judgesPaper 0 = .ok (.aload_n 0, 1) := by decide +kernel
theorem dX12_judgesPaper_1 : decode cX12_judgesPaper 1 = .ok (.invokevirtual 198, 3) := by decide +kernel
theorem dX12_judgesPaper_4 : decode cX12_judgesPaper 4 = .ok (.aload_n 0, 1) := by decide +kernel
theorem dX12_judgesPaper_5 : decode cX12_judgesPaper 5 = .ok (.iload_n 2, 1) := by decide +kernel
theorem dX12_judgesPaper_6 : decode cX12_judgesPaper 6 = .ok (.invokevirtual 201, 3) := by decide +kernel
theorem dX12_judgesPaper_9 : decode cX12_judgesPaper 9 = .ok (.aload_n 0, 1) := by decide +kernel
theorem dX12_judgesPaper_10 : decode cX12_judgesPaper 10 = .ok (.iload_n 1, 1) := by decide +kernel
theorem dX12_judgesPaper_11 : decode cX12_judgesPaper 11 = .ok (.invokevirtual 204, 3) := by decide +kernel
theorem dX12_judgesPaper_14 : decode cX12_judgesPaper 14 = .ok (.return_, 1) := by decide +kernel
theorem q0_45 : Cond.selects RX12 yX12_lays yX12_lays ∈ TT := tq0 45 rfl rfl
theorem q0_46 : Cond.selects RX12 yX12_hears yX12_hears ∈ TT := tq0 46 rfl rfl
theorem q0_47 : Cond.selects RX12 yX12_judges yX12_judges ∈ TT := tq0 47 rfl rfl
theorem q5_223 : Cond.methodLink RX12 198 yX12_lays ∈ TT := tq5 223 rfl rfl
theorem q5_225 : Cond.instanceMethod yX12_lays ∈ TT := tq5 225 rfl rfl
theorem q5_226 : Cond.code yX12_lays cX12_lays 2 none ∈ TT := tq5 226 rfl rfl
theorem q5_227 : Cond.methodLink RX12 201 yX12_hears ∈ TT := tq5 227 rfl rfl
theorem q5_229 : Cond.instanceMethod yX12_hears ∈ TT := tq5 229 rfl rfl
theorem q5_230 : Cond.code yX12_hears cX12_hears 3 none ∈ TT := tq5 230 rfl rfl
theorem q5_231 : Cond.methodLink RX12 204 yX12_judges ∈ TT := tq5 231 rfl rfl
theorem q5_233 : Cond.instanceMethod yX12_judges ∈ TT := tq5 233 rfl rfl
theorem q5_234 : Cond.code yX12_judges cX12_judges 7 none ∈ TT := tq5 234 rfl rfl
theorem lk_RX12_198 : vlk RX12 198 yX12_lays cX12_lays 2 none 0 := ⟨List.forall_mem_cons.mpr ⟨q5_223, List.forall_mem_cons.mpr ⟨q5_225, List.forall_mem_cons.mpr ⟨q0_45, List.forall_mem_cons.mpr ⟨q1_12, fun _ h => absurd h List.not_mem_nil⟩⟩⟩⟩, q5_226, by decide, by decide, by decide +kernel⟩
theorem lk_RX12_201 : vlk RX12 201 yX12_hears cX12_hears 3 none 1 := ⟨List.forall_mem_cons.mpr ⟨q5_227, List.forall_mem_cons.mpr ⟨q5_229, List.forall_mem_cons.mpr ⟨q0_46, List.forall_mem_cons.mpr ⟨q1_12, fun _ h => absurd h List.not_mem_nil⟩⟩⟩⟩, q5_230, by decide, by decide, by decide +kernel⟩
theorem lk_RX12_204 : vlk RX12 204 yX12_judges cX12_judges 7 none 1 := ⟨List.forall_mem_cons.mpr ⟨q5_231, List.forall_mem_cons.mpr ⟨q5_233, List.forall_mem_cons.mpr ⟨q0_47, List.forall_mem_cons.mpr ⟨q1_12, fun _ h => absurd h List.not_mem_nil⟩⟩⟩⟩, q5_234, by decide, by decide, by decide +kernel⟩
def F_X12_judgesPaper (s_o : SM) (x1 : Int32) (x2 : Int32) : Option (SM) := (F_X12_lays s_o).bind fun q_1 => (F_X12_hears q_1 x2).bind fun q_2 => (F_X12_judges q_2 x1).bind fun q_3 => some (q_3)

abbrev rm_X12_judgesPaper : Room := { frames := 3, cells := 0, slots := 0, locals := 72 }
set_option maxHeartbeats 4000000 in
set_option maxRecDepth 100000 in
theorem c_X12_judgesPaper (l : Launch) (D : gG) (cB cI cJ cZ : ClassId) (o : Nat → Nat) (s_o : SM) (x1 : Int32) (x2 : Int32) (r : SM) (hf : F_X12_judgesPaper s_o x1 x2 = some r) : gM l D (tyL cB cI cJ cZ) yX12_judgesPaper cX12_judgesPaper 3 none rm_X12_judgesPaper [.ref (o 0), .int x1, .int x2] (wX12 o cB cI cJ cZ s_o) none (wX12 o cB cI cJ cZ r) := by
  refine met_of (by decide) (Nat.le_of_ble_eq_true rfl) ?_
  intro p e s m args below meth c A cx hr hA
  show gW p l e rm_X12_judgesPaper s m args below meth c D A 3 _ 0 0 _ [(0, .ref (o 0)), (1, .int x1), (2, .int x2)] 0 []
  rw [F_X12_judgesPaper] at hf
  refine g_aln cx 0 dX12_judgesPaper_0 rfl ?_
  refine ob hf (fun q_1 hq_1 hf => ?_)
  refine g_callVFv cx lk_RX12_198 (c_X12_lays l D cB cI cJ cZ o s_o q_1 hq_1) rfl (ci := 10) (q1 := 0) rfl rfl rfl (Nat.le_of_ble_eq_true rfl) ⟨rfl, rfl, Nat.le_of_ble_eq_true rfl, Nat.le_of_ble_eq_true rfl⟩ dX12_judgesPaper_1 ?_
  refine g_aln cx 0 dX12_judgesPaper_4 rfl ?_
  refine g_iln cx 2 dX12_judgesPaper_5 rfl ?_
  refine ob hf (fun q_2 hq_2 hf => ?_)
  refine g_callVFv cx lk_RX12_201 (c_X12_hears l D cB cI cJ cZ o q_1 x2 q_2 hq_2) rfl (ci := 10) (q1 := 0) rfl rfl rfl (Nat.le_of_ble_eq_true rfl) ⟨rfl, rfl, Nat.le_of_ble_eq_true rfl, Nat.le_of_ble_eq_true rfl⟩ dX12_judgesPaper_6 ?_
  refine g_aln cx 0 dX12_judgesPaper_9 rfl ?_
  refine g_iln cx 1 dX12_judgesPaper_10 rfl ?_
  refine ob hf (fun q_3 hq_3 hf => ?_)
  refine g_callVFv cx lk_RX12_204 (c_X12_judges l D cB cI cJ cZ o q_2 x1 q_3 hq_3) rfl (ci := 10) (q1 := 0) rfl rfl rfl (Nat.le_of_ble_eq_true rfl) ⟨rfl, rfl, Nat.le_of_ble_eq_true rfl, Nat.le_of_ble_eq_true rfl⟩ dX12_judgesPaper_11 ?_
  exact g_vret (ovf := fun (r : SM) => none) (wf := fun (r : SM) => (wX12 o cB cI cJ cZ r)) cx hA hr hf rfl rfl dX12_judgesPaper_14
theorem dX12_emptyLine_0 : decode cX12_emptyLine 0 = .ok (.iconst 0, 1) := by decide +kernel
theorem dX12_emptyLine_1 : decode cX12_emptyLine 1 = .ok (.istore_n 1, 1) := by decide +kernel
theorem dX12_emptyLine_2 : decode cX12_emptyLine 2 = .ok (.iload_n 1, 1) := by decide +kernel
theorem dX12_emptyLine_3 : decode cX12_emptyLine 3 = .ok (.aload_n 0, 1) := by decide +kernel
theorem dX12_emptyLine_4 : decode cX12_emptyLine 4 = .ok (.getfield 188, 3) := by decide +kernel
theorem dX12_emptyLine_7 : decode cX12_emptyLine 7 = .ok (.if_icmp .ge 20, 3) := by decide +kernel
theorem dX12_emptyLine_10 : decode cX12_emptyLine 10 = .ok (.aload_n 0, 1) := by decide +kernel
theorem dX12_emptyLine_11 : decode cX12_emptyLine 11 = .ok (.getfield 47, 3) := by decide +kernel
theorem dX12_emptyLine_14 : decode cX12_emptyLine 14 = .ok (.iload_n 1, 1) := by decide +kernel
theorem dX12_emptyLine_15 : decode cX12_emptyLine 15 = .ok (.baload, 1) := by decide +kernel
theorem dX12_emptyLine_16 : decode cX12_emptyLine 16 = .ok (.ifCond .ne 5, 3) := by decide +kernel
theorem dX12_emptyLine_19 : decode cX12_emptyLine 19 = .ok (.iload_n 1, 1) := by decide +kernel
theorem dX12_emptyLine_20 : decode cX12_emptyLine 20 = .ok (.ireturn, 1) := by decide +kernel
theorem dX12_emptyLine_21 : decode cX12_emptyLine 21 = .ok (.iinc 1 1, 3) := by decide +kernel
theorem dX12_emptyLine_24 : decode cX12_emptyLine 24 = .ok (.goto (-22), 3) := by decide +kernel
theorem dX12_emptyLine_27 : decode cX12_emptyLine 27 = .ok (.bipush (-9), 2) := by decide +kernel
theorem dX12_emptyLine_29 : decode cX12_emptyLine 29 = .ok (.ireturn, 1) := by decide +kernel

theorem ml_binds {p : Program} {l : Launch} {e : Env} {R : Room} {s : State} {m : MethodId} {args : Array Value} {below : List Frame} {meth : Method} {c : Code} {D : gG} {A : Nat → Prop} {nL : Nat} {Q : State → Prop} {cells slots : Nat} {cc : ByteArray} {L : List (Nat × Value)} {pc : Nat} {stk : List Value} {β : Type} {r : β} {o : Nat → Nat} {cB cI cJ cZ : ClassId} {z : SM} (cx : gX p s m args meth c cc nL RX12 D (tyL cB cI cJ cZ) A) {i : Int32} {kf : Int32 → Option β} (hf : (aget 9 (mA z 28) i).bind kf = some r) (hd : decode cc pc = .ok (.baload, 1)) (kk : ∀ v : Int32, kf v = some r → gW p l e R s m args below meth c D A nL Q cells slots (wX12 o cB cI cJ cZ z) L (pc + 1) (.int v :: stk)) : gW p l e R s m args below meth c D A nL Q cells slots (wX12 o cB cI cJ cZ z) L pc (.int i :: .ref (o 13) :: stk) :=
  g_zald cx 13 3 hf rfl rfl hd kk
def F_X12_emptyLine_b2 (s_o : SM) : Nat → Int32 → Option (Int32)
  | 0, _ => none
  | n + 1, v1 => (if (mI s_o 25) ≤ v1 then some ((-9)) else (aget 9 (mA s_o 28) v1).bind fun e_1 => (if e_1 = 0 then some (v1) else nm (v1 + 1) fun v1_2 => (F_X12_emptyLine_b2 s_o n) v1_2))
def F_X12_emptyLine (s_o : SM) : Option (Int32) := nm 0 fun v1_3 => F_X12_emptyLine_b2 s_o fu v1_3

abbrev rm_X12_emptyLine : Room := { frames := 0, cells := 0, slots := 0, locals := 0 }
set_option maxHeartbeats 4000000 in
set_option maxRecDepth 100000 in
theorem c_X12_emptyLine (l : Launch) (D : gG) (cB cI cJ cZ : ClassId) (o : Nat → Nat) (s_o : SM) (r : Int32) (hf : F_X12_emptyLine s_o = some r) : gM l D (tyL cB cI cJ cZ) yX12_emptyLine cX12_emptyLine 2 (some .int) rm_X12_emptyLine [.ref (o 0)] (wX12 o cB cI cJ cZ s_o) (some (.int r)) (wX12 o cB cI cJ cZ s_o) := by
  refine met_of (by decide) (Nat.le_of_ble_eq_true rfl) ?_
  intro p e s m args below meth c A cx hr hA
  show gW p l e rm_X12_emptyLine s m args below meth c D A 2 _ 0 0 _ [(0, .ref (o 0))] 0 []
  have h2 : ∀ (n : Nat) (v1 : Int32), F_X12_emptyLine_b2 s_o n v1 = some r → gW p l e rm_X12_emptyLine s m args below meth c D A 2 (MQ below (QM D (tyL cB cI cJ cZ) (some (.int r)) (wX12 o cB cI cJ cZ s_o) (wX12 o cB cI cJ cZ s_o) s.heap.size) args s 0 0 A) 0 0 (wX12 o cB cI cJ cZ s_o) [(0, .ref (o 0)), (1, .int v1)] 2 [] := by
    intro n
    induction n with
    | zero => intro v1 hf; rw [F_X12_emptyLine_b2] at hf; cases hf
    | succ n ih =>
      intro v1 hf
      rw [F_X12_emptyLine_b2] at hf
      refine g_iln cx 1 dX12_emptyLine_2 rfl ?_
      refine g_aln cx 0 dX12_emptyLine_3 rfl ?_
      refine mg_many cx dX12_emptyLine_4 ?_
      refine g_ic_ge (tgt := 27) cx hf dX12_emptyLine_7 rfl (fun hf => ?_) (fun hf => ?_)
      · refine g_bp cx dX12_emptyLine_27 k_bpm9 ?_
        exact g_iret (ovf := fun (r : Int32) => (some (.int r))) (wf := fun (r : Int32) => (wX12 o cB cI cJ cZ s_o)) cx hA hr hf rfl rfl dX12_emptyLine_29
      · refine g_aln cx 0 dX12_emptyLine_10 rfl ?_
        refine mg_binds cx dX12_emptyLine_11 ?_
        refine g_iln cx 1 dX12_emptyLine_14 rfl ?_
        refine ml_binds cx hf dX12_emptyLine_15 (fun e_1 hf => ?_)
        refine g_if_ne (tgt := 21) cx hf dX12_emptyLine_16 rfl (fun hf => ?_) (fun hf => ?_)
        · refine g_inc cx (L2 := fun v1_2 => [(1, .int v1_2), (0, .ref (o 0))]) 1 hf dX12_emptyLine_21 rfl (k_inc1 _) (Nat.le_of_ble_eq_true rfl) (fun _ => rfl) (fun v1_2 hf => ?_)
          refine g_goto (tgt := 2) cx dX12_emptyLine_24 rfl ?_
          refine g_sub [1, 0] rfl ?_
          exact ih _ hf
        · refine g_iln cx 1 dX12_emptyLine_19 rfl ?_
          exact g_iret (ovf := fun (r : Int32) => (some (.int r))) (wf := fun (r : Int32) => (wX12 o cB cI cJ cZ s_o)) cx hA hr hf rfl rfl dX12_emptyLine_20
  rw [F_X12_emptyLine] at hf
  refine g_ic cx dX12_emptyLine_0 k_ic0 ?_
  refine g_isn cx (L2 := fun v1_3 => [(1, .int v1_3), (0, .ref (o 0))]) hf dX12_emptyLine_1 (Nat.le_of_ble_eq_true rfl) (fun _ => rfl) (fun v1_3 hf => ?_)
  refine g_sub [1, 0] rfl ?_
  exact h2 fu _ hf
theorem dX12_isLaw_0 : decode cX12_isLaw 0 = .ok (.aload_n 0, 1) := by decide +kernel
theorem dX12_isLaw_1 : decode cX12_isLaw 1 = .ok (.iload_n 1, 1) := by decide +kernel
theorem dX12_isLaw_2 : decode cX12_isLaw 2 = .ok (.invokevirtual 204, 3) := by decide +kernel
theorem dX12_isLaw_5 : decode cX12_isLaw 5 = .ok (.aload_n 0, 1) := by decide +kernel
theorem dX12_isLaw_6 : decode cX12_isLaw 6 = .ok (.getfield 188, 3) := by decide +kernel
theorem dX12_isLaw_9 : decode cX12_isLaw 9 = .ok (.ifCond .le 16, 3) := by decide +kernel
theorem dX12_isLaw_12 : decode cX12_isLaw 12 = .ok (.aload_n 0, 1) := by decide +kernel
theorem dX12_isLaw_13 : decode cX12_isLaw 13 = .ok (.invokevirtual 207, 3) := by decide +kernel
theorem dX12_isLaw_16 : decode cX12_isLaw 16 = .ok (.bipush (-9), 2) := by decide +kernel
theorem dX12_isLaw_18 : decode cX12_isLaw 18 = .ok (.if_icmp .ne 7, 3) := by decide +kernel
theorem dX12_isLaw_21 : decode cX12_isLaw 21 = .ok (.iconst 1, 1) := by decide +kernel
theorem dX12_isLaw_22 : decode cX12_isLaw 22 = .ok (.goto 4, 3) := by decide +kernel
theorem dX12_isLaw_25 : decode cX12_isLaw 25 = .ok (.iconst 0, 1) := by decide +kernel
theorem dX12_isLaw_26 : decode cX12_isLaw 26 = .ok (.ireturn, 1) := by decide +kernel
theorem q0_51 : Cond.selects RX12 yX12_emptyLine yX12_emptyLine ∈ TT := tq0 51 rfl rfl
theorem q6_11 : Cond.methodLink RX12 207 yX12_emptyLine ∈ TT := tq6 11 rfl rfl
theorem q6_13 : Cond.instanceMethod yX12_emptyLine ∈ TT := tq6 13 rfl rfl
theorem q6_14 : Cond.code yX12_emptyLine cX12_emptyLine 2 (some .int) ∈ TT := tq6 14 rfl rfl
theorem lk_RX12_207 : vlk RX12 207 yX12_emptyLine cX12_emptyLine 2 (some .int) 0 := ⟨List.forall_mem_cons.mpr ⟨q6_11, List.forall_mem_cons.mpr ⟨q6_13, List.forall_mem_cons.mpr ⟨q0_51, List.forall_mem_cons.mpr ⟨q1_12, fun _ h => absurd h List.not_mem_nil⟩⟩⟩⟩, q6_14, by decide, by decide, by decide +kernel⟩
def F_X12_isLaw (s_o : SM) (x1 : Int32) : Option (Int32 × SM) := (F_X12_judges s_o x1).bind fun q_1 => (if (mI q_1 25) ≤ 0 then some (0, q_1) else (F_X12_emptyLine q_1).bind fun q_2 => (if q_2 = (-9) then some (1, q_1) else some (0, q_1)))

abbrev rm_X12_isLaw : Room := { frames := 3, cells := 0, slots := 0, locals := 72 }
set_option maxHeartbeats 4000000 in
set_option maxRecDepth 100000 in
theorem c_X12_isLaw (l : Launch) (D : gG) (cB cI cJ cZ : ClassId) (o : Nat → Nat) (s_o : SM) (x1 : Int32) (r : Int32 × SM) (hf : F_X12_isLaw s_o x1 = some r) : gM l D (tyL cB cI cJ cZ) yX12_isLaw cX12_isLaw 2 (some .boolean) rm_X12_isLaw [.ref (o 0), .int x1] (wX12 o cB cI cJ cZ s_o) (some (.int r.1)) (wX12 o cB cI cJ cZ r.2) := by
  refine met_of (by decide) (Nat.le_of_ble_eq_true rfl) ?_
  intro p e s m args below meth c A cx hr hA
  show gW p l e rm_X12_isLaw s m args below meth c D A 2 _ 0 0 _ [(0, .ref (o 0)), (1, .int x1)] 0 []
  rw [F_X12_isLaw] at hf
  refine g_aln cx 0 dX12_isLaw_0 rfl ?_
  refine g_iln cx 1 dX12_isLaw_1 rfl ?_
  refine ob hf (fun q_1 hq_1 hf => ?_)
  refine g_callVFv cx lk_RX12_204 (c_X12_judges l D cB cI cJ cZ o s_o x1 q_1 hq_1) rfl (ci := 10) (q1 := 0) rfl rfl rfl (Nat.le_of_ble_eq_true rfl) ⟨rfl, rfl, Nat.le_of_ble_eq_true rfl, Nat.le_of_ble_eq_true rfl⟩ dX12_isLaw_2 ?_
  refine g_aln cx 0 dX12_isLaw_5 rfl ?_
  refine mg_many cx dX12_isLaw_6 ?_
  refine g_if_le (tgt := 25) cx hf dX12_isLaw_9 rfl (fun hf => ?_) (fun hf => ?_)
  · refine g_ic cx dX12_isLaw_25 k_ic0 ?_
    exact g_zret (ovf := fun (r : Int32 × SM) => (some (.int r.1))) (wf := fun (r : Int32 × SM) => (wX12 o cB cI cJ cZ r.2)) cx hA hr rfl hf rfl rfl dX12_isLaw_26
  · refine g_aln cx 0 dX12_isLaw_12 rfl ?_
    refine ob hf (fun q_2 hq_2 hf => ?_)
    refine g_callVFi cx lk_RX12_207 (c_X12_emptyLine l D cB cI cJ cZ o q_1 q_2 hq_2) rfl (ci := 10) (q1 := 0) rfl rfl rfl (Nat.le_of_ble_eq_true rfl) ⟨rfl, rfl, Nat.le_of_ble_eq_true rfl, Nat.le_of_ble_eq_true rfl⟩ dX12_isLaw_13 ?_
    refine g_bp cx dX12_isLaw_16 k_bpm9 ?_
    refine g_ic_ne (tgt := 25) cx hf dX12_isLaw_18 rfl (fun hf => ?_) (fun hf => ?_)
    · refine g_ic cx dX12_isLaw_25 k_ic0 ?_
      exact g_zret (ovf := fun (r : Int32 × SM) => (some (.int r.1))) (wf := fun (r : Int32 × SM) => (wX12 o cB cI cJ cZ r.2)) cx hA hr rfl hf rfl rfl dX12_isLaw_26
    · refine g_ic cx dX12_isLaw_21 k_ic1 ?_
      refine g_goto (tgt := 26) cx dX12_isLaw_22 rfl ?_
      exact g_zret (ovf := fun (r : Int32 × SM) => (some (.int r.1))) (wf := fun (r : Int32 × SM) => (wX12 o cB cI cJ cZ r.2)) cx hA hr rfl hf rfl rfl dX12_isLaw_26
theorem dX12_judged_0 : decode cX12_judged 0 = .ok (.aload_n 0, 1) := by decide +kernel
theorem dX12_judged_1 : decode cX12_judged 1 = .ok (.iconst 0, 1) := by decide +kernel
theorem dX12_judged_2 : decode cX12_judged 2 = .ok (.putfield 78, 3) := by decide +kernel
theorem dX12_judged_5 : decode cX12_judged 5 = .ok (.aload_n 0, 1) := by decide +kernel
theorem dX12_judged_6 : decode cX12_judged 6 = .ok (.iload_n 1, 1) := by decide +kernel
theorem dX12_judged_7 : decode cX12_judged 7 = .ok (.iload_n 2, 1) := by decide +kernel
theorem dX12_judged_8 : decode cX12_judged 8 = .ok (.invokevirtual 178, 3) := by decide +kernel
theorem dX12_judged_11 : decode cX12_judged 11 = .ok (.ifCond .eq 21, 3) := by decide +kernel
theorem dX12_judged_14 : decode cX12_judged 14 = .ok (.aload_n 0, 1) := by decide +kernel
theorem dX12_judged_15 : decode cX12_judged 15 = .ok (.iload_n 3, 1) := by decide +kernel
theorem dX12_judged_16 : decode cX12_judged 16 = .ok (.invokevirtual 185, 3) := by decide +kernel
theorem dX12_judged_19 : decode cX12_judged 19 = .ok (.ifCond .eq 13, 3) := by decide +kernel
theorem dX12_judged_22 : decode cX12_judged 22 = .ok (.iload 4, 2) := by decide +kernel
theorem dX12_judged_24 : decode cX12_judged 24 = .ok (.iconst 0, 1) := by decide +kernel
theorem dX12_judged_25 : decode cX12_judged 25 = .ok (.iconst 3, 1) := by decide +kernel
theorem dX12_judged_26 : decode cX12_judged 26 = .ok (.invokestatic 82, 3) := by decide +kernel
theorem dX12_judged_29 : decode cX12_judged 29 = .ok (.ifCond .ne 5, 3) := by decide +kernel
theorem dX12_judged_32 : decode cX12_judged 32 = .ok (.iconst (-1), 1) := by decide +kernel
theorem dX12_judged_33 : decode cX12_judged 33 = .ok (.ireturn, 1) := by decide +kernel
theorem dX12_judged_34 : decode cX12_judged 34 = .ok (.aload_n 0, 1) := by decide +kernel
theorem dX12_judged_35 : decode cX12_judged 35 = .ok (.iload_n 1, 1) := by decide +kernel
theorem dX12_judged_36 : decode cX12_judged 36 = .ok (.iload_n 2, 1) := by decide +kernel
theorem dX12_judged_37 : decode cX12_judged 37 = .ok (.invokevirtual 210, 3) := by decide +kernel
theorem dX12_judged_40 : decode cX12_judged 40 = .ok (.iload 4, 2) := by decide +kernel
theorem dX12_judged_42 : decode cX12_judged 42 = .ok (.iconst 3, 1) := by decide +kernel
theorem dX12_judged_43 : decode cX12_judged 43 = .ok (.if_icmp .ne 12, 3) := by decide +kernel
theorem dX12_judged_46 : decode cX12_judged 46 = .ok (.aload_n 0, 1) := by decide +kernel
theorem dX12_judged_47 : decode cX12_judged 47 = .ok (.getfield 50, 3) := by decide +kernel
theorem dX12_judged_50 : decode cX12_judged 50 = .ok (.iload_n 3, 1) := by decide +kernel
theorem dX12_judged_51 : decode cX12_judged 51 = .ok (.iaload, 1) := by decide +kernel
theorem dX12_judged_52 : decode cX12_judged 52 = .ok (.goto 52, 3) := by decide +kernel
theorem dX12_judged_55 : decode cX12_judged 55 = .ok (.iload 4, 2) := by decide +kernel
theorem dX12_judged_57 : decode cX12_judged 57 = .ok (.ifCond .ne 15, 3) := by decide +kernel
theorem dX12_judged_60 : decode cX12_judged 60 = .ok (.aload_n 0, 1) := by decide +kernel
theorem dX12_judged_61 : decode cX12_judged 61 = .ok (.getfield 41, 3) := by decide +kernel
theorem dX12_judged_64 : decode cX12_judged 64 = .ok (.iload_n 3, 1) := by decide +kernel
theorem dX12_judged_65 : decode cX12_judged 65 = .ok (.baload, 1) := by decide +kernel
theorem dX12_judged_66 : decode cX12_judged 66 = .ok (.ifCond .eq 37, 3) := by decide +kernel
theorem dX12_judged_69 : decode cX12_judged 69 = .ok (.goto 30, 3) := by decide +kernel
theorem dX12_judged_72 : decode cX12_judged 72 = .ok (.iload 4, 2) := by decide +kernel
theorem dX12_judged_74 : decode cX12_judged 74 = .ok (.iconst 1, 1) := by decide +kernel
theorem dX12_judged_75 : decode cX12_judged 75 = .ok (.if_icmp .ne 15, 3) := by decide +kernel
theorem dX12_judged_78 : decode cX12_judged 78 = .ok (.aload_n 0, 1) := by decide +kernel
theorem dX12_judged_79 : decode cX12_judged 79 = .ok (.getfield 44, 3) := by decide +kernel
theorem dX12_judged_82 : decode cX12_judged 82 = .ok (.iload_n 3, 1) := by decide +kernel
theorem dX12_judged_83 : decode cX12_judged 83 = .ok (.baload, 1) := by decide +kernel
theorem dX12_judged_84 : decode cX12_judged 84 = .ok (.ifCond .eq 19, 3) := by decide +kernel
theorem dX12_judged_87 : decode cX12_judged 87 = .ok (.goto 12, 3) := by decide +kernel
theorem dX12_judged_90 : decode cX12_judged 90 = .ok (.aload_n 0, 1) := by decide +kernel
theorem dX12_judged_91 : decode cX12_judged 91 = .ok (.getfield 47, 3) := by decide +kernel
theorem dX12_judged_94 : decode cX12_judged 94 = .ok (.iload_n 3, 1) := by decide +kernel
theorem dX12_judged_95 : decode cX12_judged 95 = .ok (.baload, 1) := by decide +kernel
theorem dX12_judged_96 : decode cX12_judged 96 = .ok (.ifCond .eq 7, 3) := by decide +kernel
theorem dX12_judged_99 : decode cX12_judged 99 = .ok (.iconst 1, 1) := by decide +kernel
theorem dX12_judged_100 : decode cX12_judged 100 = .ok (.goto 4, 3) := by decide +kernel
theorem dX12_judged_103 : decode cX12_judged 103 = .ok (.iconst 0, 1) := by decide +kernel
theorem dX12_judged_104 : decode cX12_judged 104 = .ok (.ireturn, 1) := by decide +kernel
theorem q0_44 : Cond.selects RX12 yX12_judgesPaper yX12_judgesPaper ∈ TT := tq0 44 rfl rfl
theorem q5_219 : Cond.methodLink RX12 210 yX12_judgesPaper ∈ TT := tq5 219 rfl rfl
theorem q5_221 : Cond.instanceMethod yX12_judgesPaper ∈ TT := tq5 221 rfl rfl
theorem q5_222 : Cond.code yX12_judgesPaper cX12_judgesPaper 3 none ∈ TT := tq5 222 rfl rfl
theorem lk_RX12_210 : vlk RX12 210 yX12_judgesPaper cX12_judgesPaper 3 none 2 := ⟨List.forall_mem_cons.mpr ⟨q5_219, List.forall_mem_cons.mpr ⟨q5_221, List.forall_mem_cons.mpr ⟨q0_44, List.forall_mem_cons.mpr ⟨q1_12, fun _ h => absurd h List.not_mem_nil⟩⟩⟩⟩, q5_222, by decide, by decide, by decide +kernel⟩
def F_X12_judged (s_o : SM) (x1 : Int32) (x2 : Int32) (x3 : Int32) (x4 : Int32) : Option (Int32 × SM) := nm (mIs s_o 0 0) fun s_o_1 => (F_X12_isForm s_o_1 x1 x2).bind fun q_2 => (if q_2 = 0 then some ((-1), s_o_1) else (F_X12_isLine s_o_1 x3).bind fun q_3 => (if q_3 = 0 then some ((-1), s_o_1) else (F_X12_in x4 0 3).bind fun q_4 => (if q_4 = 0 then some ((-1), s_o_1) else (F_X12_judgesPaper s_o_1 x1 x2).bind fun q_5 => (if x4 = 3 then (aget 9 (mA q_5 29) x3).bind fun e_9 => some (e_9, q_5) else (if x4 = 0 then (aget 9 (mA q_5 26) x3).bind fun e_8 => (if e_8 = 0 then some (0, q_5) else some (1, q_5)) else (if x4 = 1 then (aget 9 (mA q_5 27) x3).bind fun e_7 => (if e_7 = 0 then some (0, q_5) else some (1, q_5)) else (aget 9 (mA q_5 28) x3).bind fun e_6 => (if e_6 = 0 then some (0, q_5) else some (1, q_5))))))))

abbrev rm_X12_judged : Room := { frames := 4, cells := 0, slots := 0, locals := 94 }
set_option maxHeartbeats 4000000 in
set_option maxRecDepth 100000 in
theorem c_X12_judged (l : Launch) (D : gG) (cB cI cJ cZ : ClassId) (o : Nat → Nat) (s_o : SM) (x1 : Int32) (x2 : Int32) (x3 : Int32) (x4 : Int32) (r : Int32 × SM) (hf : F_X12_judged s_o x1 x2 x3 x4 = some r) : gM l D (tyL cB cI cJ cZ) yX12_judged cX12_judged 5 (some .int) rm_X12_judged [.ref (o 0), .int x1, .int x2, .int x3, .int x4] (wX12 o cB cI cJ cZ s_o) (some (.int r.1)) (wX12 o cB cI cJ cZ r.2) := by
  refine met_of (by decide) (Nat.le_of_ble_eq_true rfl) ?_
  intro p e s m args below meth c A cx hr hA
  show gW p l e rm_X12_judged s m args below meth c D A 5 _ 0 0 _ [(0, .ref (o 0)), (1, .int x1), (2, .int x2), (3, .int x3), (4, .int x4)] 0 []
  rw [F_X12_judged] at hf
  refine g_aln cx 0 dX12_judged_0 rfl ?_
  refine g_ic cx dX12_judged_1 k_ic0 ?_
  refine mp_thrown cx hf dX12_judged_2 (fun s_o_1 hf => ?_)
  refine g_aln cx 0 dX12_judged_5 rfl ?_
  refine g_iln cx 1 dX12_judged_6 rfl ?_
  refine g_iln cx 2 dX12_judged_7 rfl ?_
  refine ob hf (fun q_2 hq_2 hf => ?_)
  refine g_callVFi cx lk_RX12_178 (c_X12_isForm l D cB cI cJ cZ o s_o_1 x1 x2 q_2 hq_2) rfl (ci := 10) (q1 := 0) rfl rfl rfl (Nat.le_of_ble_eq_true rfl) ⟨rfl, rfl, Nat.le_of_ble_eq_true rfl, Nat.le_of_ble_eq_true rfl⟩ dX12_judged_8 ?_
  refine g_if_eq (tgt := 32) cx hf dX12_judged_11 rfl (fun hf => ?_) (fun hf => ?_)
  · refine g_ic cx dX12_judged_32 k_icm1 ?_
    exact g_iret (ovf := fun (r : Int32 × SM) => (some (.int r.1))) (wf := fun (r : Int32 × SM) => (wX12 o cB cI cJ cZ r.2)) cx hA hr hf rfl rfl dX12_judged_33
  · refine g_aln cx 0 dX12_judged_14 rfl ?_
    refine g_iln cx 3 dX12_judged_15 rfl ?_
    refine ob hf (fun q_3 hq_3 hf => ?_)
    refine g_callVFi cx lk_RX12_185 (c_X12_isLine l D cB cI cJ cZ o s_o_1 x3 q_3 hq_3) rfl (ci := 10) (q1 := 0) rfl rfl rfl (Nat.le_of_ble_eq_true rfl) ⟨rfl, rfl, Nat.le_of_ble_eq_true rfl, Nat.le_of_ble_eq_true rfl⟩ dX12_judged_16 ?_
    refine g_if_eq (tgt := 32) cx hf dX12_judged_19 rfl (fun hf => ?_) (fun hf => ?_)
    · refine g_ic cx dX12_judged_32 k_icm1 ?_
      exact g_iret (ovf := fun (r : Int32 × SM) => (some (.int r.1))) (wf := fun (r : Int32 × SM) => (wX12 o cB cI cJ cZ r.2)) cx hA hr hf rfl rfl dX12_judged_33
    · refine g_il cx 4 dX12_judged_22 rfl ?_
      refine g_ic cx dX12_judged_24 k_ic0 ?_
      refine g_ic cx dX12_judged_25 k_ic3 ?_
      refine ob hf (fun q_4 hq_4 hf => ?_)
      refine g_callSiR cx lk_RX12_82 (c_X12_in l D cB cI cJ cZ x4 0 3 q_4 hq_4) rfl [] rfl rfl rfl (Nat.le_of_ble_eq_true rfl) ⟨rfl, rfl, Nat.le_of_ble_eq_true rfl, Nat.le_of_ble_eq_true rfl⟩ dX12_judged_26 ?_
      refine g_if_ne (tgt := 34) cx hf dX12_judged_29 rfl (fun hf => ?_) (fun hf => ?_)
      · refine g_aln cx 0 dX12_judged_34 rfl ?_
        refine g_iln cx 1 dX12_judged_35 rfl ?_
        refine g_iln cx 2 dX12_judged_36 rfl ?_
        refine ob hf (fun q_5 hq_5 hf => ?_)
        refine g_callVFv cx lk_RX12_210 (c_X12_judgesPaper l D cB cI cJ cZ o s_o_1 x1 x2 q_5 hq_5) rfl (ci := 10) (q1 := 0) rfl rfl rfl (Nat.le_of_ble_eq_true rfl) ⟨rfl, rfl, Nat.le_of_ble_eq_true rfl, Nat.le_of_ble_eq_true rfl⟩ dX12_judged_37 ?_
        refine g_il cx 4 dX12_judged_40 rfl ?_
        refine g_ic cx dX12_judged_42 k_ic3 ?_
        refine g_ic_ne (tgt := 55) cx hf dX12_judged_43 rfl (fun hf => ?_) (fun hf => ?_)
        · refine g_il cx 4 dX12_judged_55 rfl ?_
          refine g_if_ne (tgt := 72) cx hf dX12_judged_57 rfl (fun hf => ?_) (fun hf => ?_)
          · refine g_il cx 4 dX12_judged_72 rfl ?_
            refine g_ic cx dX12_judged_74 k_ic1 ?_
            refine g_ic_ne (tgt := 90) cx hf dX12_judged_75 rfl (fun hf => ?_) (fun hf => ?_)
            · refine g_aln cx 0 dX12_judged_90 rfl ?_
              refine mg_binds cx dX12_judged_91 ?_
              refine g_iln cx 3 dX12_judged_94 rfl ?_
              refine ml_binds cx hf dX12_judged_95 (fun e_6 hf => ?_)
              refine g_if_eq (tgt := 103) cx hf dX12_judged_96 rfl (fun hf => ?_) (fun hf => ?_)
              · refine g_ic cx dX12_judged_103 k_ic0 ?_
                exact g_iret (ovf := fun (r : Int32 × SM) => (some (.int r.1))) (wf := fun (r : Int32 × SM) => (wX12 o cB cI cJ cZ r.2)) cx hA hr hf rfl rfl dX12_judged_104
              · refine g_ic cx dX12_judged_99 k_ic1 ?_
                refine g_goto (tgt := 104) cx dX12_judged_100 rfl ?_
                exact g_iret (ovf := fun (r : Int32 × SM) => (some (.int r.1))) (wf := fun (r : Int32 × SM) => (wX12 o cB cI cJ cZ r.2)) cx hA hr hf rfl rfl dX12_judged_104
            · refine g_aln cx 0 dX12_judged_78 rfl ?_
              refine mg_opens cx dX12_judged_79 ?_
              refine g_iln cx 3 dX12_judged_82 rfl ?_
              refine ml_opens cx hf dX12_judged_83 (fun e_7 hf => ?_)
              refine g_if_eq (tgt := 103) cx hf dX12_judged_84 rfl (fun hf => ?_) (fun hf => ?_)
              · refine g_ic cx dX12_judged_103 k_ic0 ?_
                exact g_iret (ovf := fun (r : Int32 × SM) => (some (.int r.1))) (wf := fun (r : Int32 × SM) => (wX12 o cB cI cJ cZ r.2)) cx hA hr hf rfl rfl dX12_judged_104
              · refine g_goto (tgt := 99) cx dX12_judged_87 rfl ?_
                refine g_ic cx dX12_judged_99 k_ic1 ?_
                refine g_goto (tgt := 104) cx dX12_judged_100 rfl ?_
                exact g_iret (ovf := fun (r : Int32 × SM) => (some (.int r.1))) (wf := fun (r : Int32 × SM) => (wX12 o cB cI cJ cZ r.2)) cx hA hr hf rfl rfl dX12_judged_104
          · refine g_aln cx 0 dX12_judged_60 rfl ?_
            refine mg_stands cx dX12_judged_61 ?_
            refine g_iln cx 3 dX12_judged_64 rfl ?_
            refine ml_stands cx hf dX12_judged_65 (fun e_8 hf => ?_)
            refine g_if_eq (tgt := 103) cx hf dX12_judged_66 rfl (fun hf => ?_) (fun hf => ?_)
            · refine g_ic cx dX12_judged_103 k_ic0 ?_
              exact g_iret (ovf := fun (r : Int32 × SM) => (some (.int r.1))) (wf := fun (r : Int32 × SM) => (wX12 o cB cI cJ cZ r.2)) cx hA hr hf rfl rfl dX12_judged_104
            · refine g_goto (tgt := 99) cx dX12_judged_69 rfl ?_
              refine g_ic cx dX12_judged_99 k_ic1 ?_
              refine g_goto (tgt := 104) cx dX12_judged_100 rfl ?_
              exact g_iret (ovf := fun (r : Int32 × SM) => (some (.int r.1))) (wf := fun (r : Int32 × SM) => (wX12 o cB cI cJ cZ r.2)) cx hA hr hf rfl rfl dX12_judged_104
        · refine g_aln cx 0 dX12_judged_46 rfl ?_
          refine mg_anchor cx dX12_judged_47 ?_
          refine g_iln cx 3 dX12_judged_50 rfl ?_
          refine ml_anchor cx hf dX12_judged_51 (fun e_9 hf => ?_)
          refine g_goto (tgt := 104) cx dX12_judged_52 rfl ?_
          exact g_iret (ovf := fun (r : Int32 × SM) => (some (.int r.1))) (wf := fun (r : Int32 × SM) => (wX12 o cB cI cJ cZ r.2)) cx hA hr hf rfl rfl dX12_judged_104
      · refine g_ic cx dX12_judged_32 k_icm1 ?_
        exact g_iret (ovf := fun (r : Int32 × SM) => (some (.int r.1))) (wf := fun (r : Int32 × SM) => (wX12 o cB cI cJ cZ r.2)) cx hA hr hf rfl rfl dX12_judged_33
theorem dX12_law_0 : decode cX12_law 0 = .ok (.aload_n 0, 1) := by decide +kernel
theorem dX12_law_1 : decode cX12_law 1 = .ok (.iconst 0, 1) := by decide +kernel
theorem dX12_law_2 : decode cX12_law 2 = .ok (.putfield 78, 3) := by decide +kernel
theorem dX12_law_5 : decode cX12_law 5 = .ok (.aload_n 0, 1) := by decide +kernel
theorem dX12_law_6 : decode cX12_law 6 = .ok (.iload_n 1, 1) := by decide +kernel
theorem dX12_law_7 : decode cX12_law 7 = .ok (.iload_n 2, 1) := by decide +kernel
theorem dX12_law_8 : decode cX12_law 8 = .ok (.invokevirtual 178, 3) := by decide +kernel
theorem dX12_law_11 : decode cX12_law 11 = .ok (.ifCond .ne 5, 3) := by decide +kernel
theorem dX12_law_14 : decode cX12_law 14 = .ok (.iconst (-1), 1) := by decide +kernel
theorem dX12_law_15 : decode cX12_law 15 = .ok (.ireturn, 1) := by decide +kernel
theorem dX12_law_16 : decode cX12_law 16 = .ok (.aload_n 0, 1) := by decide +kernel
theorem dX12_law_17 : decode cX12_law 17 = .ok (.invokevirtual 198, 3) := by decide +kernel
theorem dX12_law_20 : decode cX12_law 20 = .ok (.aload_n 0, 1) := by decide +kernel
theorem dX12_law_21 : decode cX12_law 21 = .ok (.iload_n 2, 1) := by decide +kernel
theorem dX12_law_22 : decode cX12_law 22 = .ok (.invokevirtual 201, 3) := by decide +kernel
theorem dX12_law_25 : decode cX12_law 25 = .ok (.aload_n 0, 1) := by decide +kernel
theorem dX12_law_26 : decode cX12_law 26 = .ok (.iload_n 1, 1) := by decide +kernel
theorem dX12_law_27 : decode cX12_law 27 = .ok (.invokevirtual 214, 3) := by decide +kernel
theorem dX12_law_30 : decode cX12_law 30 = .ok (.ifCond .eq 7, 3) := by decide +kernel
theorem dX12_law_33 : decode cX12_law 33 = .ok (.iconst 1, 1) := by decide +kernel
theorem dX12_law_34 : decode cX12_law 34 = .ok (.goto 4, 3) := by decide +kernel
theorem dX12_law_37 : decode cX12_law 37 = .ok (.iconst 0, 1) := by decide +kernel
theorem dX12_law_38 : decode cX12_law 38 = .ok (.ireturn, 1) := by decide +kernel
theorem q0_50 : Cond.selects RX12 yX12_isLaw yX12_isLaw ∈ TT := tq0 50 rfl rfl
theorem q6_7 : Cond.methodLink RX12 214 yX12_isLaw ∈ TT := tq6 7 rfl rfl
theorem q6_9 : Cond.instanceMethod yX12_isLaw ∈ TT := tq6 9 rfl rfl
theorem q6_10 : Cond.code yX12_isLaw cX12_isLaw 2 (some .boolean) ∈ TT := tq6 10 rfl rfl
theorem lk_RX12_214 : vlk RX12 214 yX12_isLaw cX12_isLaw 2 (some .boolean) 1 := ⟨List.forall_mem_cons.mpr ⟨q6_7, List.forall_mem_cons.mpr ⟨q6_9, List.forall_mem_cons.mpr ⟨q0_50, List.forall_mem_cons.mpr ⟨q1_12, fun _ h => absurd h List.not_mem_nil⟩⟩⟩⟩, q6_10, by decide, by decide, by decide +kernel⟩
def F_X12_law (s_o : SM) (x1 : Int32) (x2 : Int32) : Option (Int32 × SM) := nm (mIs s_o 0 0) fun s_o_1 => (F_X12_isForm s_o_1 x1 x2).bind fun q_2 => (if q_2 = 0 then some ((-1), s_o_1) else (F_X12_lays s_o_1).bind fun q_3 => (F_X12_hears q_3 x2).bind fun q_4 => (F_X12_isLaw q_4 x1).bind fun q_5 => (if q_5.1 = 0 then some (0, q_5.2) else some (1, q_5.2)))

abbrev rm_X12_law : Room := { frames := 4, cells := 0, slots := 0, locals := 93 }
set_option maxHeartbeats 4000000 in
set_option maxRecDepth 100000 in
theorem c_X12_law (l : Launch) (D : gG) (cB cI cJ cZ : ClassId) (o : Nat → Nat) (s_o : SM) (x1 : Int32) (x2 : Int32) (r : Int32 × SM) (hf : F_X12_law s_o x1 x2 = some r) : gM l D (tyL cB cI cJ cZ) yX12_law cX12_law 3 (some .int) rm_X12_law [.ref (o 0), .int x1, .int x2] (wX12 o cB cI cJ cZ s_o) (some (.int r.1)) (wX12 o cB cI cJ cZ r.2) := by
  refine met_of (by decide) (Nat.le_of_ble_eq_true rfl) ?_
  intro p e s m args below meth c A cx hr hA
  show gW p l e rm_X12_law s m args below meth c D A 3 _ 0 0 _ [(0, .ref (o 0)), (1, .int x1), (2, .int x2)] 0 []
  rw [F_X12_law] at hf
  refine g_aln cx 0 dX12_law_0 rfl ?_
  refine g_ic cx dX12_law_1 k_ic0 ?_
  refine mp_thrown cx hf dX12_law_2 (fun s_o_1 hf => ?_)
  refine g_aln cx 0 dX12_law_5 rfl ?_
  refine g_iln cx 1 dX12_law_6 rfl ?_
  refine g_iln cx 2 dX12_law_7 rfl ?_
  refine ob hf (fun q_2 hq_2 hf => ?_)
  refine g_callVFi cx lk_RX12_178 (c_X12_isForm l D cB cI cJ cZ o s_o_1 x1 x2 q_2 hq_2) rfl (ci := 10) (q1 := 0) rfl rfl rfl (Nat.le_of_ble_eq_true rfl) ⟨rfl, rfl, Nat.le_of_ble_eq_true rfl, Nat.le_of_ble_eq_true rfl⟩ dX12_law_8 ?_
  refine g_if_ne (tgt := 16) cx hf dX12_law_11 rfl (fun hf => ?_) (fun hf => ?_)
  · refine g_aln cx 0 dX12_law_16 rfl ?_
    refine ob hf (fun q_3 hq_3 hf => ?_)
    refine g_callVFv cx lk_RX12_198 (c_X12_lays l D cB cI cJ cZ o s_o_1 q_3 hq_3) rfl (ci := 10) (q1 := 0) rfl rfl rfl (Nat.le_of_ble_eq_true rfl) ⟨rfl, rfl, Nat.le_of_ble_eq_true rfl, Nat.le_of_ble_eq_true rfl⟩ dX12_law_17 ?_
    refine g_aln cx 0 dX12_law_20 rfl ?_
    refine g_iln cx 2 dX12_law_21 rfl ?_
    refine ob hf (fun q_4 hq_4 hf => ?_)
    refine g_callVFv cx lk_RX12_201 (c_X12_hears l D cB cI cJ cZ o q_3 x2 q_4 hq_4) rfl (ci := 10) (q1 := 0) rfl rfl rfl (Nat.le_of_ble_eq_true rfl) ⟨rfl, rfl, Nat.le_of_ble_eq_true rfl, Nat.le_of_ble_eq_true rfl⟩ dX12_law_22 ?_
    refine g_aln cx 0 dX12_law_25 rfl ?_
    refine g_iln cx 1 dX12_law_26 rfl ?_
    refine ob hf (fun q_5 hq_5 hf => ?_)
    refine g_callVFi cx lk_RX12_214 (c_X12_isLaw l D cB cI cJ cZ o q_4 x1 q_5 hq_5) rfl (ci := 10) (q1 := 0) rfl rfl rfl (Nat.le_of_ble_eq_true rfl) ⟨rfl, rfl, Nat.le_of_ble_eq_true rfl, Nat.le_of_ble_eq_true rfl⟩ dX12_law_27 ?_
    refine g_if_eq (tgt := 37) cx hf dX12_law_30 rfl (fun hf => ?_) (fun hf => ?_)
    · refine g_ic cx dX12_law_37 k_ic0 ?_
      exact g_iret (ovf := fun (r : Int32 × SM) => (some (.int r.1))) (wf := fun (r : Int32 × SM) => (wX12 o cB cI cJ cZ r.2)) cx hA hr hf rfl rfl dX12_law_38
    · refine g_ic cx dX12_law_33 k_ic1 ?_
      refine g_goto (tgt := 38) cx dX12_law_34 rfl ?_
      exact g_iret (ovf := fun (r : Int32 × SM) => (some (.int r.1))) (wf := fun (r : Int32 × SM) => (wX12 o cB cI cJ cZ r.2)) cx hA hr hf rfl rfl dX12_law_38
  · refine g_ic cx dX12_law_14 k_icm1 ?_
    exact g_iret (ovf := fun (r : Int32 × SM) => (some (.int r.1))) (wf := fun (r : Int32 × SM) => (wX12 o cB cI cJ cZ r.2)) cx hA hr hf rfl rfl dX12_law_15
theorem dX12_empty_0 : decode cX12_empty 0 = .ok (.aload_n 0, 1) := by decide +kernel
theorem dX12_empty_1 : decode cX12_empty 1 = .ok (.iconst 0, 1) := by decide +kernel
theorem dX12_empty_2 : decode cX12_empty 2 = .ok (.putfield 78, 3) := by decide +kernel
theorem dX12_empty_5 : decode cX12_empty 5 = .ok (.aload_n 0, 1) := by decide +kernel
theorem dX12_empty_6 : decode cX12_empty 6 = .ok (.iload_n 1, 1) := by decide +kernel
theorem dX12_empty_7 : decode cX12_empty 7 = .ok (.iload_n 2, 1) := by decide +kernel
theorem dX12_empty_8 : decode cX12_empty 8 = .ok (.invokevirtual 178, 3) := by decide +kernel
theorem dX12_empty_11 : decode cX12_empty 11 = .ok (.ifCond .ne 5, 3) := by decide +kernel
theorem dX12_empty_14 : decode cX12_empty 14 = .ok (.iconst (-1), 1) := by decide +kernel
theorem dX12_empty_15 : decode cX12_empty 15 = .ok (.ireturn, 1) := by decide +kernel
theorem dX12_empty_16 : decode cX12_empty 16 = .ok (.aload_n 0, 1) := by decide +kernel
theorem dX12_empty_17 : decode cX12_empty 17 = .ok (.iload_n 1, 1) := by decide +kernel
theorem dX12_empty_18 : decode cX12_empty 18 = .ok (.iload_n 2, 1) := by decide +kernel
theorem dX12_empty_19 : decode cX12_empty 19 = .ok (.invokevirtual 210, 3) := by decide +kernel
theorem dX12_empty_22 : decode cX12_empty 22 = .ok (.aload_n 0, 1) := by decide +kernel
theorem dX12_empty_23 : decode cX12_empty 23 = .ok (.invokevirtual 207, 3) := by decide +kernel
theorem dX12_empty_26 : decode cX12_empty 26 = .ok (.ireturn, 1) := by decide +kernel


def F_X12_empty (s_o : SM) (x1 : Int32) (x2 : Int32) : Option (Int32 × SM) := nm (mIs s_o 0 0) fun s_o_1 => (F_X12_isForm s_o_1 x1 x2).bind fun q_2 => (if q_2 = 0 then some ((-1), s_o_1) else (F_X12_judgesPaper s_o_1 x1 x2).bind fun q_3 => (F_X12_emptyLine q_3).bind fun q_4 => some (q_4, q_3))

abbrev rm_X12_empty : Room := { frames := 4, cells := 0, slots := 0, locals := 94 }
set_option maxHeartbeats 4000000 in
set_option maxRecDepth 100000 in
theorem c_X12_empty (l : Launch) (D : gG) (cB cI cJ cZ : ClassId) (o : Nat → Nat) (s_o : SM) (x1 : Int32) (x2 : Int32) (r : Int32 × SM) (hf : F_X12_empty s_o x1 x2 = some r) : gM l D (tyL cB cI cJ cZ) yX12_empty cX12_empty 3 (some .int) rm_X12_empty [.ref (o 0), .int x1, .int x2] (wX12 o cB cI cJ cZ s_o) (some (.int r.1)) (wX12 o cB cI cJ cZ r.2) := by
  refine met_of (by decide) (Nat.le_of_ble_eq_true rfl) ?_
  intro p e s m args below meth c A cx hr hA
  show gW p l e rm_X12_empty s m args below meth c D A 3 _ 0 0 _ [(0, .ref (o 0)), (1, .int x1), (2, .int x2)] 0 []
  rw [F_X12_empty] at hf
  refine g_aln cx 0 dX12_empty_0 rfl ?_
  refine g_ic cx dX12_empty_1 k_ic0 ?_
  refine mp_thrown cx hf dX12_empty_2 (fun s_o_1 hf => ?_)
  refine g_aln cx 0 dX12_empty_5 rfl ?_
  refine g_iln cx 1 dX12_empty_6 rfl ?_
  refine g_iln cx 2 dX12_empty_7 rfl ?_
  refine ob hf (fun q_2 hq_2 hf => ?_)
  refine g_callVFi cx lk_RX12_178 (c_X12_isForm l D cB cI cJ cZ o s_o_1 x1 x2 q_2 hq_2) rfl (ci := 10) (q1 := 0) rfl rfl rfl (Nat.le_of_ble_eq_true rfl) ⟨rfl, rfl, Nat.le_of_ble_eq_true rfl, Nat.le_of_ble_eq_true rfl⟩ dX12_empty_8 ?_
  refine g_if_ne (tgt := 16) cx hf dX12_empty_11 rfl (fun hf => ?_) (fun hf => ?_)
  · refine g_aln cx 0 dX12_empty_16 rfl ?_
    refine g_iln cx 1 dX12_empty_17 rfl ?_
    refine g_iln cx 2 dX12_empty_18 rfl ?_
    refine ob hf (fun q_3 hq_3 hf => ?_)
    refine g_callVFv cx lk_RX12_210 (c_X12_judgesPaper l D cB cI cJ cZ o s_o_1 x1 x2 q_3 hq_3) rfl (ci := 10) (q1 := 0) rfl rfl rfl (Nat.le_of_ble_eq_true rfl) ⟨rfl, rfl, Nat.le_of_ble_eq_true rfl, Nat.le_of_ble_eq_true rfl⟩ dX12_empty_19 ?_
    refine g_aln cx 0 dX12_empty_22 rfl ?_
    refine ob hf (fun q_4 hq_4 hf => ?_)
    refine g_callVFi cx lk_RX12_207 (c_X12_emptyLine l D cB cI cJ cZ o q_3 q_4 hq_4) rfl (ci := 10) (q1 := 0) rfl rfl rfl (Nat.le_of_ble_eq_true rfl) ⟨rfl, rfl, Nat.le_of_ble_eq_true rfl, Nat.le_of_ble_eq_true rfl⟩ dX12_empty_23 ?_
    exact g_iret (ovf := fun (r : Int32 × SM) => (some (.int r.1))) (wf := fun (r : Int32 × SM) => (wX12 o cB cI cJ cZ r.2)) cx hA hr hf rfl rfl dX12_empty_26
  · refine g_ic cx dX12_empty_14 k_icm1 ?_
    exact g_iret (ovf := fun (r : Int32 × SM) => (some (.int r.1))) (wf := fun (r : Int32 × SM) => (wX12 o cB cI cJ cZ r.2)) cx hA hr hf rfl rfl dX12_empty_15
theorem dX12_boundBy_0 : decode cX12_boundBy 0 = .ok (.iconst 0, 1) := by decide +kernel
theorem dX12_boundBy_1 : decode cX12_boundBy 1 = .ok (.istore_n 1, 1) := by decide +kernel
theorem dX12_boundBy_2 : decode cX12_boundBy 2 = .ok (.iconst 0, 1) := by decide +kernel
theorem dX12_boundBy_3 : decode cX12_boundBy 3 = .ok (.istore_n 2, 1) := by decide +kernel
theorem dX12_boundBy_4 : decode cX12_boundBy 4 = .ok (.iload_n 2, 1) := by decide +kernel
theorem dX12_boundBy_5 : decode cX12_boundBy 5 = .ok (.aload_n 0, 1) := by decide +kernel
theorem dX12_boundBy_6 : decode cX12_boundBy 6 = .ok (.getfield 188, 3) := by decide +kernel
theorem dX12_boundBy_9 : decode cX12_boundBy 9 = .ok (.if_icmp .ge 37, 3) := by decide +kernel
theorem dX12_boundBy_12 : decode cX12_boundBy 12 = .ok (.iload_n 1, 1) := by decide +kernel
theorem dX12_boundBy_13 : decode cX12_boundBy 13 = .ok (.aload_n 0, 1) := by decide +kernel
theorem dX12_boundBy_14 : decode cX12_boundBy 14 = .ok (.getfield 47, 3) := by decide +kernel
theorem dX12_boundBy_17 : decode cX12_boundBy 17 = .ok (.iload_n 2, 1) := by decide +kernel
theorem dX12_boundBy_18 : decode cX12_boundBy 18 = .ok (.baload, 1) := by decide +kernel
theorem dX12_boundBy_19 : decode cX12_boundBy 19 = .ok (.ifCond .eq 18, 3) := by decide +kernel
theorem dX12_boundBy_22 : decode cX12_boundBy 22 = .ok (.iconst 1, 1) := by decide +kernel
theorem dX12_boundBy_23 : decode cX12_boundBy 23 = .ok (.aload_n 0, 1) := by decide +kernel
theorem dX12_boundBy_24 : decode cX12_boundBy 24 = .ok (.getfield 38, 3) := by decide +kernel
theorem dX12_boundBy_27 : decode cX12_boundBy 27 = .ok (.iconst 3, 1) := by decide +kernel
theorem dX12_boundBy_28 : decode cX12_boundBy 28 = .ok (.iload_n 2, 1) := by decide +kernel
theorem dX12_boundBy_29 : decode cX12_boundBy 29 = .ok (.imul, 1) := by decide +kernel
theorem dX12_boundBy_30 : decode cX12_boundBy 30 = .ok (.iconst 1, 1) := by decide +kernel
theorem dX12_boundBy_31 : decode cX12_boundBy 31 = .ok (.iadd, 1) := by decide +kernel
theorem dX12_boundBy_32 : decode cX12_boundBy 32 = .ok (.iaload, 1) := by decide +kernel
theorem dX12_boundBy_33 : decode cX12_boundBy 33 = .ok (.ishl, 1) := by decide +kernel
theorem dX12_boundBy_34 : decode cX12_boundBy 34 = .ok (.goto 4, 3) := by decide +kernel
theorem dX12_boundBy_37 : decode cX12_boundBy 37 = .ok (.iconst 0, 1) := by decide +kernel
theorem dX12_boundBy_38 : decode cX12_boundBy 38 = .ok (.ior, 1) := by decide +kernel
theorem dX12_boundBy_39 : decode cX12_boundBy 39 = .ok (.istore_n 1, 1) := by decide +kernel
theorem dX12_boundBy_40 : decode cX12_boundBy 40 = .ok (.iinc 2 1, 3) := by decide +kernel
theorem dX12_boundBy_43 : decode cX12_boundBy 43 = .ok (.goto (-39), 3) := by decide +kernel
theorem dX12_boundBy_46 : decode cX12_boundBy 46 = .ok (.iload_n 1, 1) := by decide +kernel
theorem dX12_boundBy_47 : decode cX12_boundBy 47 = .ok (.ireturn, 1) := by decide +kernel


def F_X12_boundBy_b38 (s_o : SM) (K4 : Int32 → Int32 → Option (Int32)) (v2 : Int32) (k0 : Int32) (k1 : Int32) : Option (Int32) := nm (k0 ||| k1) fun v1_1 => nm (v2 + 1) fun v2_2 => K4 v1_1 v2_2
def F_X12_boundBy_b4 (s_o : SM) : Nat → Int32 → Int32 → Option (Int32)
  | 0, _, _ => none
  | n + 1, v1, v2 => (if (mI s_o 25) ≤ v2 then some (v1) else (aget 9 (mA s_o 28) v2).bind fun e_3 => (if e_3 = 0 then F_X12_boundBy_b38 s_o (F_X12_boundBy_b4 s_o n) v2 v1 0 else (aget 27 (mA s_o 24) ((3 * v2) + 1)).bind fun e_4 => F_X12_boundBy_b38 s_o (F_X12_boundBy_b4 s_o n) v2 v1 (1 <<< (e_4 &&& 31))))
def F_X12_boundBy (s_o : SM) : Option (Int32) := nm 0 fun v1_5 => nm 0 fun v2_6 => F_X12_boundBy_b4 s_o fu v1_5 v2_6

abbrev rm_X12_boundBy : Room := { frames := 0, cells := 0, slots := 0, locals := 0 }
set_option maxHeartbeats 4000000 in
set_option maxRecDepth 100000 in
theorem c_X12_boundBy (l : Launch) (D : gG) (cB cI cJ cZ : ClassId) (o : Nat → Nat) (s_o : SM) (r : Int32) (hf : F_X12_boundBy s_o = some r) : gM l D (tyL cB cI cJ cZ) yX12_boundBy cX12_boundBy 3 (some .int) rm_X12_boundBy [.ref (o 0)] (wX12 o cB cI cJ cZ s_o) (some (.int r)) (wX12 o cB cI cJ cZ s_o) := by
  refine met_of (by decide) (Nat.le_of_ble_eq_true rfl) ?_
  intro p e s m args below meth c A cx hr hA
  show gW p l e rm_X12_boundBy s m args below meth c D A 3 _ 0 0 _ [(0, .ref (o 0))] 0 []
  have h38 : ∀ (K4 : Int32 → Int32 → Option (Int32)), (∀ (v1 : Int32) (v2 : Int32), K4 v1 v2 = some r → gW p l e rm_X12_boundBy s m args below meth c D A 3 (MQ below (QM D (tyL cB cI cJ cZ) (some (.int r)) (wX12 o cB cI cJ cZ s_o) (wX12 o cB cI cJ cZ s_o) s.heap.size) args s 0 0 A) 0 0 (wX12 o cB cI cJ cZ s_o) [(0, .ref (o 0)), (1, .int v1), (2, .int v2)] 4 []) → ∀ (v2 : Int32) (k0 : Int32) (k1 : Int32), F_X12_boundBy_b38 s_o K4 v2 k0 k1 = some r → gW p l e rm_X12_boundBy s m args below meth c D A 3 (MQ below (QM D (tyL cB cI cJ cZ) (some (.int r)) (wX12 o cB cI cJ cZ s_o) (wX12 o cB cI cJ cZ s_o) s.heap.size) args s 0 0 A) 0 0 (wX12 o cB cI cJ cZ s_o) [(0, .ref (o 0)), (2, .int v2)] 38 [.int k1, .int k0] := by
    intro K4 kh4 v2 k0 k1 hf
    rw [F_X12_boundBy_b38] at hf
    refine g_ior cx dX12_boundBy_38 ?_
    refine g_isn cx (L2 := fun v1_1 => [(1, .int v1_1), (0, .ref (o 0)), (2, .int v2)]) hf dX12_boundBy_39 (Nat.le_of_ble_eq_true rfl) (fun _ => rfl) (fun v1_1 hf => ?_)
    refine g_inc cx (L2 := fun v2_2 => [(2, .int v2_2), (1, .int v1_1), (0, .ref (o 0))]) 2 hf dX12_boundBy_40 rfl (k_inc1 _) (Nat.le_of_ble_eq_true rfl) (fun _ => rfl) (fun v2_2 hf => ?_)
    refine g_goto (tgt := 4) cx dX12_boundBy_43 rfl ?_
    refine g_sub [2, 1, 0] rfl ?_
    exact kh4 _ _ hf
  have h4 : ∀ (n : Nat) (v1 : Int32) (v2 : Int32), F_X12_boundBy_b4 s_o n v1 v2 = some r → gW p l e rm_X12_boundBy s m args below meth c D A 3 (MQ below (QM D (tyL cB cI cJ cZ) (some (.int r)) (wX12 o cB cI cJ cZ s_o) (wX12 o cB cI cJ cZ s_o) s.heap.size) args s 0 0 A) 0 0 (wX12 o cB cI cJ cZ s_o) [(0, .ref (o 0)), (1, .int v1), (2, .int v2)] 4 [] := by
    intro n
    induction n with
    | zero => intro v1 v2 hf; rw [F_X12_boundBy_b4] at hf; cases hf
    | succ n ih =>
      intro v1 v2 hf
      rw [F_X12_boundBy_b4] at hf
      refine g_iln cx 2 dX12_boundBy_4 rfl ?_
      refine g_aln cx 0 dX12_boundBy_5 rfl ?_
      refine mg_many cx dX12_boundBy_6 ?_
      refine g_ic_ge (tgt := 46) cx hf dX12_boundBy_9 rfl (fun hf => ?_) (fun hf => ?_)
      · refine g_iln cx 1 dX12_boundBy_46 rfl ?_
        exact g_iret (ovf := fun (r : Int32) => (some (.int r))) (wf := fun (r : Int32) => (wX12 o cB cI cJ cZ s_o)) cx hA hr hf rfl rfl dX12_boundBy_47
      · refine g_iln cx 1 dX12_boundBy_12 rfl ?_
        refine g_aln cx 0 dX12_boundBy_13 rfl ?_
        refine mg_binds cx dX12_boundBy_14 ?_
        refine g_iln cx 2 dX12_boundBy_17 rfl ?_
        refine ml_binds cx hf dX12_boundBy_18 (fun e_3 hf => ?_)
        refine g_if_eq (tgt := 37) cx hf dX12_boundBy_19 rfl (fun hf => ?_) (fun hf => ?_)
        · refine g_ic cx dX12_boundBy_37 k_ic0 ?_
          refine g_sub [0, 2] rfl ?_
          exact h38 _ ih _ _ _ hf
        · refine g_ic cx dX12_boundBy_22 k_ic1 ?_
          refine g_aln cx 0 dX12_boundBy_23 rfl ?_
          refine mg_tried cx dX12_boundBy_24 ?_
          refine g_ic cx dX12_boundBy_27 k_ic3 ?_
          refine g_iln cx 2 dX12_boundBy_28 rfl ?_
          refine g_imul cx dX12_boundBy_29 ?_
          refine g_ic cx dX12_boundBy_30 k_ic1 ?_
          refine g_iadd cx dX12_boundBy_31 ?_
          refine ml_tried cx hf dX12_boundBy_32 (fun e_4 hf => ?_)
          refine g_ishl cx dX12_boundBy_33 ?_
          refine g_goto (tgt := 38) cx dX12_boundBy_34 rfl ?_
          refine g_sub [0, 2] rfl ?_
          exact h38 _ ih _ _ _ hf
  rw [F_X12_boundBy] at hf
  refine g_ic cx dX12_boundBy_0 k_ic0 ?_
  refine g_isn cx (L2 := fun v1_5 => [(1, .int v1_5), (0, .ref (o 0))]) hf dX12_boundBy_1 (Nat.le_of_ble_eq_true rfl) (fun _ => rfl) (fun v1_5 hf => ?_)
  refine g_ic cx dX12_boundBy_2 k_ic0 ?_
  refine g_isn cx (L2 := fun v2_6 => [(2, .int v2_6), (1, .int v1_5), (0, .ref (o 0))]) hf dX12_boundBy_3 (Nat.le_of_ble_eq_true rfl) (fun _ => rfl) (fun v2_6 hf => ?_)
  refine g_sub [2, 1, 0] rfl ?_
  exact h4 fu _ _ hf
theorem dX12_bound_0 : decode cX12_bound 0 = .ok (.aload_n 0, 1) := by decide +kernel
theorem dX12_bound_1 : decode cX12_bound 1 = .ok (.iconst 0, 1) := by decide +kernel
theorem dX12_bound_2 : decode cX12_bound 2 = .ok (.putfield 78, 3) := by decide +kernel
theorem dX12_bound_5 : decode cX12_bound 5 = .ok (.aload_n 0, 1) := by decide +kernel
theorem dX12_bound_6 : decode cX12_bound 6 = .ok (.iload_n 1, 1) := by decide +kernel
theorem dX12_bound_7 : decode cX12_bound 7 = .ok (.iload_n 2, 1) := by decide +kernel
theorem dX12_bound_8 : decode cX12_bound 8 = .ok (.invokevirtual 178, 3) := by decide +kernel
theorem dX12_bound_11 : decode cX12_bound 11 = .ok (.ifCond .ne 5, 3) := by decide +kernel
theorem dX12_bound_14 : decode cX12_bound 14 = .ok (.iconst (-1), 1) := by decide +kernel
theorem dX12_bound_15 : decode cX12_bound 15 = .ok (.ireturn, 1) := by decide +kernel
theorem dX12_bound_16 : decode cX12_bound 16 = .ok (.aload_n 0, 1) := by decide +kernel
theorem dX12_bound_17 : decode cX12_bound 17 = .ok (.iload_n 1, 1) := by decide +kernel
theorem dX12_bound_18 : decode cX12_bound 18 = .ok (.iload_n 2, 1) := by decide +kernel
theorem dX12_bound_19 : decode cX12_bound 19 = .ok (.invokevirtual 210, 3) := by decide +kernel
theorem dX12_bound_22 : decode cX12_bound 22 = .ok (.aload_n 0, 1) := by decide +kernel
theorem dX12_bound_23 : decode cX12_bound 23 = .ok (.invokevirtual 217, 3) := by decide +kernel
theorem dX12_bound_26 : decode cX12_bound 26 = .ok (.ireturn, 1) := by decide +kernel
theorem q0_52 : Cond.selects RX12 yX12_boundBy yX12_boundBy ∈ TT := tq0 52 rfl rfl
theorem q6_23 : Cond.methodLink RX12 217 yX12_boundBy ∈ TT := tq6 23 rfl rfl
theorem q6_25 : Cond.instanceMethod yX12_boundBy ∈ TT := tq6 25 rfl rfl
theorem q6_26 : Cond.code yX12_boundBy cX12_boundBy 3 (some .int) ∈ TT := tq6 26 rfl rfl
theorem lk_RX12_217 : vlk RX12 217 yX12_boundBy cX12_boundBy 3 (some .int) 0 := ⟨List.forall_mem_cons.mpr ⟨q6_23, List.forall_mem_cons.mpr ⟨q6_25, List.forall_mem_cons.mpr ⟨q0_52, List.forall_mem_cons.mpr ⟨q1_12, fun _ h => absurd h List.not_mem_nil⟩⟩⟩⟩, q6_26, by decide, by decide, by decide +kernel⟩
def F_X12_bound (s_o : SM) (x1 : Int32) (x2 : Int32) : Option (Int32 × SM) := nm (mIs s_o 0 0) fun s_o_1 => (F_X12_isForm s_o_1 x1 x2).bind fun q_2 => (if q_2 = 0 then some ((-1), s_o_1) else (F_X12_judgesPaper s_o_1 x1 x2).bind fun q_3 => (F_X12_boundBy q_3).bind fun q_4 => some (q_4, q_3))

abbrev rm_X12_bound : Room := { frames := 4, cells := 0, slots := 0, locals := 94 }
set_option maxHeartbeats 4000000 in
set_option maxRecDepth 100000 in
theorem c_X12_bound (l : Launch) (D : gG) (cB cI cJ cZ : ClassId) (o : Nat → Nat) (s_o : SM) (x1 : Int32) (x2 : Int32) (r : Int32 × SM) (hf : F_X12_bound s_o x1 x2 = some r) : gM l D (tyL cB cI cJ cZ) yX12_bound cX12_bound 3 (some .int) rm_X12_bound [.ref (o 0), .int x1, .int x2] (wX12 o cB cI cJ cZ s_o) (some (.int r.1)) (wX12 o cB cI cJ cZ r.2) := by
  refine met_of (by decide) (Nat.le_of_ble_eq_true rfl) ?_
  intro p e s m args below meth c A cx hr hA
  show gW p l e rm_X12_bound s m args below meth c D A 3 _ 0 0 _ [(0, .ref (o 0)), (1, .int x1), (2, .int x2)] 0 []
  rw [F_X12_bound] at hf
  refine g_aln cx 0 dX12_bound_0 rfl ?_
  refine g_ic cx dX12_bound_1 k_ic0 ?_
  refine mp_thrown cx hf dX12_bound_2 (fun s_o_1 hf => ?_)
  refine g_aln cx 0 dX12_bound_5 rfl ?_
  refine g_iln cx 1 dX12_bound_6 rfl ?_
  refine g_iln cx 2 dX12_bound_7 rfl ?_
  refine ob hf (fun q_2 hq_2 hf => ?_)
  refine g_callVFi cx lk_RX12_178 (c_X12_isForm l D cB cI cJ cZ o s_o_1 x1 x2 q_2 hq_2) rfl (ci := 10) (q1 := 0) rfl rfl rfl (Nat.le_of_ble_eq_true rfl) ⟨rfl, rfl, Nat.le_of_ble_eq_true rfl, Nat.le_of_ble_eq_true rfl⟩ dX12_bound_8 ?_
  refine g_if_ne (tgt := 16) cx hf dX12_bound_11 rfl (fun hf => ?_) (fun hf => ?_)
  · refine g_aln cx 0 dX12_bound_16 rfl ?_
    refine g_iln cx 1 dX12_bound_17 rfl ?_
    refine g_iln cx 2 dX12_bound_18 rfl ?_
    refine ob hf (fun q_3 hq_3 hf => ?_)
    refine g_callVFv cx lk_RX12_210 (c_X12_judgesPaper l D cB cI cJ cZ o s_o_1 x1 x2 q_3 hq_3) rfl (ci := 10) (q1 := 0) rfl rfl rfl (Nat.le_of_ble_eq_true rfl) ⟨rfl, rfl, Nat.le_of_ble_eq_true rfl, Nat.le_of_ble_eq_true rfl⟩ dX12_bound_19 ?_
    refine g_aln cx 0 dX12_bound_22 rfl ?_
    refine ob hf (fun q_4 hq_4 hf => ?_)
    refine g_callVFi cx lk_RX12_217 (c_X12_boundBy l D cB cI cJ cZ o q_3 q_4 hq_4) rfl (ci := 10) (q1 := 0) rfl rfl rfl (Nat.le_of_ble_eq_true rfl) ⟨rfl, rfl, Nat.le_of_ble_eq_true rfl, Nat.le_of_ble_eq_true rfl⟩ dX12_bound_23 ?_
    exact g_iret (ovf := fun (r : Int32 × SM) => (some (.int r.1))) (wf := fun (r : Int32 × SM) => (wX12 o cB cI cJ cZ r.2)) cx hA hr hf rfl rfl dX12_bound_26
  · refine g_ic cx dX12_bound_14 k_icm1 ?_
    exact g_iret (ovf := fun (r : Int32 × SM) => (some (.int r.1))) (wf := fun (r : Int32 × SM) => (wX12 o cB cI cJ cZ r.2)) cx hA hr hf rfl rfl dX12_bound_15
def tX12_leftBy_7 : List Nat := 120 :: 167 :: 0 :: 4 :: 3 :: 128 :: 61 :: 132 :: 3 :: 1 :: 167 :: 255 :: 199 :: 28 :: 172 :: []
def tX12_leftBy_6 : List Nat := 29 :: 51 :: 153 :: 0 :: 12 :: 42 :: 29 :: 4 :: 182 :: 0 :: 194 :: 153 :: 0 :: 9 :: 4 :: 29 :: tX12_leftBy_7
def tX12_leftBy_5 : List Nat := 153 :: 0 :: 36 :: 42 :: 180 :: 0 :: 53 :: 29 :: 51 :: 154 :: 0 :: 27 :: 42 :: 180 :: 0 :: 44 :: tX12_leftBy_6
def tX12_leftBy_4 : List Nat := 62 :: 29 :: 42 :: 180 :: 0 :: 188 :: 162 :: 0 :: 55 :: 28 :: 42 :: 180 :: 0 :: 47 :: 29 :: 51 :: tX12_leftBy_5
def tX12_leftBy_3 : List Nat := 153 :: 0 :: 7 :: 4 :: 167 :: 0 :: 4 :: 3 :: 84 :: 132 :: 3 :: 1 :: 167 :: 255 :: 200 :: 3 :: tX12_leftBy_4
def tX12_leftBy_2 : List Nat := 16 :: 247 :: 159 :: 0 :: 21 :: 42 :: 180 :: 0 :: 53 :: 42 :: 180 :: 0 :: 50 :: 29 :: 46 :: 51 :: tX12_leftBy_3
def tX12_leftBy_1 : List Nat := 29 :: 27 :: 29 :: 122 :: 4 :: 126 :: 4 :: 159 :: 0 :: 28 :: 42 :: 180 :: 0 :: 50 :: 29 :: 46 :: tX12_leftBy_2
def tX12_leftBy_0 : List Nat := 3 :: 61 :: 3 :: 62 :: 29 :: 42 :: 180 :: 0 :: 188 :: 162 :: 0 :: 54 :: 42 :: 180 :: 0 :: 53 :: tX12_leftBy_1
theorem tX12_leftByf_0 : (cX12_leftBy.data.toList.map UInt8.toNat).drop 0 = tX12_leftBy_0 := by decide +kernel
theorem tX12_leftByf_1 : (cX12_leftBy.data.toList.map UInt8.toNat).drop 16 = tX12_leftBy_1 := fd_next (k := 0) tX12_leftByf_0 rfl
theorem tX12_leftByf_2 : (cX12_leftBy.data.toList.map UInt8.toNat).drop 32 = tX12_leftBy_2 := fd_next (k := 16) tX12_leftByf_1 rfl
theorem tX12_leftByf_3 : (cX12_leftBy.data.toList.map UInt8.toNat).drop 48 = tX12_leftBy_3 := fd_next (k := 32) tX12_leftByf_2 rfl
theorem tX12_leftByf_4 : (cX12_leftBy.data.toList.map UInt8.toNat).drop 64 = tX12_leftBy_4 := fd_next (k := 48) tX12_leftByf_3 rfl
theorem tX12_leftByf_5 : (cX12_leftBy.data.toList.map UInt8.toNat).drop 80 = tX12_leftBy_5 := fd_next (k := 64) tX12_leftByf_4 rfl
theorem tX12_leftByf_6 : (cX12_leftBy.data.toList.map UInt8.toNat).drop 96 = tX12_leftBy_6 := fd_next (k := 80) tX12_leftByf_5 rfl
theorem tX12_leftByf_7 : (cX12_leftBy.data.toList.map UInt8.toNat).drop 112 = tX12_leftBy_7 := fd_next (k := 96) tX12_leftByf_6 rfl
theorem dX12_leftBy_0 : decode cX12_leftBy 0 = .ok (.iconst 0, 1) := dk_3 (fdB_of (k := 0) tX12_leftByf_0 0 3 rfl)
theorem dX12_leftBy_1 : decode cX12_leftBy 1 = .ok (.istore_n 2, 1) := dk_61 (fdB_of (k := 0) tX12_leftByf_0 1 61 rfl)
theorem dX12_leftBy_2 : decode cX12_leftBy 2 = .ok (.iconst 0, 1) := dk_3 (fdB_of (k := 0) tX12_leftByf_0 2 3 rfl)
theorem dX12_leftBy_3 : decode cX12_leftBy 3 = .ok (.istore_n 3, 1) := dk_62 (fdB_of (k := 0) tX12_leftByf_0 3 62 rfl)
theorem dX12_leftBy_4 : decode cX12_leftBy 4 = .ok (.iload_n 3, 1) := dk_29 (fdB_of (k := 0) tX12_leftByf_0 4 29 rfl)
theorem dX12_leftBy_5 : decode cX12_leftBy 5 = .ok (.aload_n 0, 1) := dk_42 (fdB_of (k := 0) tX12_leftByf_0 5 42 rfl)
theorem dX12_leftBy_6 : decode cX12_leftBy 6 = .ok (.getfield 188, 3) := dk_180 (fdB_of (k := 0) tX12_leftByf_0 6 180 rfl) (fdB_of (k := 0) tX12_leftByf_0 7 0 rfl) (fdB_of (k := 0) tX12_leftByf_0 8 188 rfl)
theorem dX12_leftBy_9 : decode cX12_leftBy 9 = .ok (.if_icmp .ge 54, 3) := dk_162 (fdB_of (k := 0) tX12_leftByf_0 9 162 rfl) (fdB_of (k := 0) tX12_leftByf_0 10 0 rfl) (fdB_of (k := 0) tX12_leftByf_0 11 54 rfl) (by decide +kernel)
theorem dX12_leftBy_12 : decode cX12_leftBy 12 = .ok (.aload_n 0, 1) := dk_42 (fdB_of (k := 0) tX12_leftByf_0 12 42 rfl)
theorem dX12_leftBy_13 : decode cX12_leftBy 13 = .ok (.getfield 53, 3) := dk_180 (fdB_of (k := 0) tX12_leftByf_0 13 180 rfl) (fdB_of (k := 0) tX12_leftByf_0 14 0 rfl) (fdB_of (k := 0) tX12_leftByf_0 15 53 rfl)
theorem dX12_leftBy_16 : decode cX12_leftBy 16 = .ok (.iload_n 3, 1) := dk_29 (fdB_of (k := 16) tX12_leftByf_1 0 29 rfl)
theorem dX12_leftBy_17 : decode cX12_leftBy 17 = .ok (.iload_n 1, 1) := dk_27 (fdB_of (k := 16) tX12_leftByf_1 1 27 rfl)
theorem dX12_leftBy_18 : decode cX12_leftBy 18 = .ok (.iload_n 3, 1) := dk_29 (fdB_of (k := 16) tX12_leftByf_1 2 29 rfl)
theorem dX12_leftBy_19 : decode cX12_leftBy 19 = .ok (.ishr, 1) := dk_122 (fdB_of (k := 16) tX12_leftByf_1 3 122 rfl)
theorem dX12_leftBy_20 : decode cX12_leftBy 20 = .ok (.iconst 1, 1) := dk_4 (fdB_of (k := 16) tX12_leftByf_1 4 4 rfl)
theorem dX12_leftBy_21 : decode cX12_leftBy 21 = .ok (.iand, 1) := dk_126 (fdB_of (k := 16) tX12_leftByf_1 5 126 rfl)
theorem dX12_leftBy_22 : decode cX12_leftBy 22 = .ok (.iconst 1, 1) := dk_4 (fdB_of (k := 16) tX12_leftByf_1 6 4 rfl)
theorem dX12_leftBy_23 : decode cX12_leftBy 23 = .ok (.if_icmp .eq 28, 3) := dk_159 (fdB_of (k := 16) tX12_leftByf_1 7 159 rfl) (fdB_of (k := 16) tX12_leftByf_1 8 0 rfl) (fdB_of (k := 16) tX12_leftByf_1 9 28 rfl) (by decide +kernel)
theorem dX12_leftBy_26 : decode cX12_leftBy 26 = .ok (.aload_n 0, 1) := dk_42 (fdB_of (k := 16) tX12_leftByf_1 10 42 rfl)
theorem dX12_leftBy_27 : decode cX12_leftBy 27 = .ok (.getfield 50, 3) := dk_180 (fdB_of (k := 16) tX12_leftByf_1 11 180 rfl) (fdB_of (k := 16) tX12_leftByf_1 12 0 rfl) (fdB_of (k := 16) tX12_leftByf_1 13 50 rfl)
theorem dX12_leftBy_30 : decode cX12_leftBy 30 = .ok (.iload_n 3, 1) := dk_29 (fdB_of (k := 16) tX12_leftByf_1 14 29 rfl)
theorem dX12_leftBy_31 : decode cX12_leftBy 31 = .ok (.iaload, 1) := dk_46 (fdB_of (k := 16) tX12_leftByf_1 15 46 rfl)
theorem dX12_leftBy_32 : decode cX12_leftBy 32 = .ok (.bipush (-9), 2) := dk_16 (fdB_of (k := 32) tX12_leftByf_2 0 16 rfl) (fdB_of (k := 32) tX12_leftByf_2 1 247 rfl) (by decide +kernel)
theorem dX12_leftBy_34 : decode cX12_leftBy 34 = .ok (.if_icmp .eq 21, 3) := dk_159 (fdB_of (k := 32) tX12_leftByf_2 2 159 rfl) (fdB_of (k := 32) tX12_leftByf_2 3 0 rfl) (fdB_of (k := 32) tX12_leftByf_2 4 21 rfl) (by decide +kernel)
theorem dX12_leftBy_37 : decode cX12_leftBy 37 = .ok (.aload_n 0, 1) := dk_42 (fdB_of (k := 32) tX12_leftByf_2 5 42 rfl)
theorem dX12_leftBy_38 : decode cX12_leftBy 38 = .ok (.getfield 53, 3) := dk_180 (fdB_of (k := 32) tX12_leftByf_2 6 180 rfl) (fdB_of (k := 32) tX12_leftByf_2 7 0 rfl) (fdB_of (k := 32) tX12_leftByf_2 8 53 rfl)
theorem dX12_leftBy_41 : decode cX12_leftBy 41 = .ok (.aload_n 0, 1) := dk_42 (fdB_of (k := 32) tX12_leftByf_2 9 42 rfl)
theorem dX12_leftBy_42 : decode cX12_leftBy 42 = .ok (.getfield 50, 3) := dk_180 (fdB_of (k := 32) tX12_leftByf_2 10 180 rfl) (fdB_of (k := 32) tX12_leftByf_2 11 0 rfl) (fdB_of (k := 32) tX12_leftByf_2 12 50 rfl)
theorem dX12_leftBy_45 : decode cX12_leftBy 45 = .ok (.iload_n 3, 1) := dk_29 (fdB_of (k := 32) tX12_leftByf_2 13 29 rfl)
theorem dX12_leftBy_46 : decode cX12_leftBy 46 = .ok (.iaload, 1) := dk_46 (fdB_of (k := 32) tX12_leftByf_2 14 46 rfl)
theorem dX12_leftBy_47 : decode cX12_leftBy 47 = .ok (.baload, 1) := dk_51 (fdB_of (k := 32) tX12_leftByf_2 15 51 rfl)
theorem dX12_leftBy_48 : decode cX12_leftBy 48 = .ok (.ifCond .eq 7, 3) := dk_153 (fdB_of (k := 48) tX12_leftByf_3 0 153 rfl) (fdB_of (k := 48) tX12_leftByf_3 1 0 rfl) (fdB_of (k := 48) tX12_leftByf_3 2 7 rfl) (by decide +kernel)
theorem dX12_leftBy_51 : decode cX12_leftBy 51 = .ok (.iconst 1, 1) := dk_4 (fdB_of (k := 48) tX12_leftByf_3 3 4 rfl)
theorem dX12_leftBy_52 : decode cX12_leftBy 52 = .ok (.goto 4, 3) := dk_167 (fdB_of (k := 48) tX12_leftByf_3 4 167 rfl) (fdB_of (k := 48) tX12_leftByf_3 5 0 rfl) (fdB_of (k := 48) tX12_leftByf_3 6 4 rfl) (by decide +kernel)
theorem dX12_leftBy_55 : decode cX12_leftBy 55 = .ok (.iconst 0, 1) := dk_3 (fdB_of (k := 48) tX12_leftByf_3 7 3 rfl)
theorem dX12_leftBy_56 : decode cX12_leftBy 56 = .ok (.bastore, 1) := dk_84 (fdB_of (k := 48) tX12_leftByf_3 8 84 rfl)
theorem dX12_leftBy_57 : decode cX12_leftBy 57 = .ok (.iinc 3 1, 3) := dk_132 (fdB_of (k := 48) tX12_leftByf_3 9 132 rfl) (fdB_of (k := 48) tX12_leftByf_3 10 3 rfl) (fdB_of (k := 48) tX12_leftByf_3 11 1 rfl) (by decide +kernel)
theorem dX12_leftBy_60 : decode cX12_leftBy 60 = .ok (.goto (-56), 3) := dk_167 (fdB_of (k := 48) tX12_leftByf_3 12 167 rfl) (fdB_of (k := 48) tX12_leftByf_3 13 255 rfl) (fdB_of (k := 48) tX12_leftByf_3 14 200 rfl) (by decide +kernel)
theorem dX12_leftBy_63 : decode cX12_leftBy 63 = .ok (.iconst 0, 1) := dk_3 (fdB_of (k := 48) tX12_leftByf_3 15 3 rfl)
theorem dX12_leftBy_64 : decode cX12_leftBy 64 = .ok (.istore_n 3, 1) := dk_62 (fdB_of (k := 64) tX12_leftByf_4 0 62 rfl)
theorem dX12_leftBy_65 : decode cX12_leftBy 65 = .ok (.iload_n 3, 1) := dk_29 (fdB_of (k := 64) tX12_leftByf_4 1 29 rfl)
theorem dX12_leftBy_66 : decode cX12_leftBy 66 = .ok (.aload_n 0, 1) := dk_42 (fdB_of (k := 64) tX12_leftByf_4 2 42 rfl)
theorem dX12_leftBy_67 : decode cX12_leftBy 67 = .ok (.getfield 188, 3) := dk_180 (fdB_of (k := 64) tX12_leftByf_4 3 180 rfl) (fdB_of (k := 64) tX12_leftByf_4 4 0 rfl) (fdB_of (k := 64) tX12_leftByf_4 5 188 rfl)
theorem dX12_leftBy_70 : decode cX12_leftBy 70 = .ok (.if_icmp .ge 55, 3) := dk_162 (fdB_of (k := 64) tX12_leftByf_4 6 162 rfl) (fdB_of (k := 64) tX12_leftByf_4 7 0 rfl) (fdB_of (k := 64) tX12_leftByf_4 8 55 rfl) (by decide +kernel)
theorem dX12_leftBy_73 : decode cX12_leftBy 73 = .ok (.iload_n 2, 1) := dk_28 (fdB_of (k := 64) tX12_leftByf_4 9 28 rfl)
theorem dX12_leftBy_74 : decode cX12_leftBy 74 = .ok (.aload_n 0, 1) := dk_42 (fdB_of (k := 64) tX12_leftByf_4 10 42 rfl)
theorem dX12_leftBy_75 : decode cX12_leftBy 75 = .ok (.getfield 47, 3) := dk_180 (fdB_of (k := 64) tX12_leftByf_4 11 180 rfl) (fdB_of (k := 64) tX12_leftByf_4 12 0 rfl) (fdB_of (k := 64) tX12_leftByf_4 13 47 rfl)
theorem dX12_leftBy_78 : decode cX12_leftBy 78 = .ok (.iload_n 3, 1) := dk_29 (fdB_of (k := 64) tX12_leftByf_4 14 29 rfl)
theorem dX12_leftBy_79 : decode cX12_leftBy 79 = .ok (.baload, 1) := dk_51 (fdB_of (k := 64) tX12_leftByf_4 15 51 rfl)
theorem dX12_leftBy_80 : decode cX12_leftBy 80 = .ok (.ifCond .eq 36, 3) := dk_153 (fdB_of (k := 80) tX12_leftByf_5 0 153 rfl) (fdB_of (k := 80) tX12_leftByf_5 1 0 rfl) (fdB_of (k := 80) tX12_leftByf_5 2 36 rfl) (by decide +kernel)
theorem dX12_leftBy_83 : decode cX12_leftBy 83 = .ok (.aload_n 0, 1) := dk_42 (fdB_of (k := 80) tX12_leftByf_5 3 42 rfl)
theorem dX12_leftBy_84 : decode cX12_leftBy 84 = .ok (.getfield 53, 3) := dk_180 (fdB_of (k := 80) tX12_leftByf_5 4 180 rfl) (fdB_of (k := 80) tX12_leftByf_5 5 0 rfl) (fdB_of (k := 80) tX12_leftByf_5 6 53 rfl)
theorem dX12_leftBy_87 : decode cX12_leftBy 87 = .ok (.iload_n 3, 1) := dk_29 (fdB_of (k := 80) tX12_leftByf_5 7 29 rfl)
theorem dX12_leftBy_88 : decode cX12_leftBy 88 = .ok (.baload, 1) := dk_51 (fdB_of (k := 80) tX12_leftByf_5 8 51 rfl)
theorem dX12_leftBy_89 : decode cX12_leftBy 89 = .ok (.ifCond .ne 27, 3) := dk_154 (fdB_of (k := 80) tX12_leftByf_5 9 154 rfl) (fdB_of (k := 80) tX12_leftByf_5 10 0 rfl) (fdB_of (k := 80) tX12_leftByf_5 11 27 rfl) (by decide +kernel)
theorem dX12_leftBy_92 : decode cX12_leftBy 92 = .ok (.aload_n 0, 1) := dk_42 (fdB_of (k := 80) tX12_leftByf_5 12 42 rfl)
theorem dX12_leftBy_93 : decode cX12_leftBy 93 = .ok (.getfield 44, 3) := dk_180 (fdB_of (k := 80) tX12_leftByf_5 13 180 rfl) (fdB_of (k := 80) tX12_leftByf_5 14 0 rfl) (fdB_of (k := 80) tX12_leftByf_5 15 44 rfl)
theorem dX12_leftBy_96 : decode cX12_leftBy 96 = .ok (.iload_n 3, 1) := dk_29 (fdB_of (k := 96) tX12_leftByf_6 0 29 rfl)
theorem dX12_leftBy_97 : decode cX12_leftBy 97 = .ok (.baload, 1) := dk_51 (fdB_of (k := 96) tX12_leftByf_6 1 51 rfl)
theorem dX12_leftBy_98 : decode cX12_leftBy 98 = .ok (.ifCond .eq 12, 3) := dk_153 (fdB_of (k := 96) tX12_leftByf_6 2 153 rfl) (fdB_of (k := 96) tX12_leftByf_6 3 0 rfl) (fdB_of (k := 96) tX12_leftByf_6 4 12 rfl) (by decide +kernel)
theorem dX12_leftBy_101 : decode cX12_leftBy 101 = .ok (.aload_n 0, 1) := dk_42 (fdB_of (k := 96) tX12_leftByf_6 5 42 rfl)
theorem dX12_leftBy_102 : decode cX12_leftBy 102 = .ok (.iload_n 3, 1) := dk_29 (fdB_of (k := 96) tX12_leftByf_6 6 29 rfl)
theorem dX12_leftBy_103 : decode cX12_leftBy 103 = .ok (.iconst 1, 1) := dk_4 (fdB_of (k := 96) tX12_leftByf_6 7 4 rfl)
theorem dX12_leftBy_104 : decode cX12_leftBy 104 = .ok (.invokevirtual 194, 3) := dk_182 (fdB_of (k := 96) tX12_leftByf_6 8 182 rfl) (fdB_of (k := 96) tX12_leftByf_6 9 0 rfl) (fdB_of (k := 96) tX12_leftByf_6 10 194 rfl)
theorem dX12_leftBy_107 : decode cX12_leftBy 107 = .ok (.ifCond .eq 9, 3) := dk_153 (fdB_of (k := 96) tX12_leftByf_6 11 153 rfl) (fdB_of (k := 96) tX12_leftByf_6 12 0 rfl) (fdB_of (k := 96) tX12_leftByf_6 13 9 rfl) (by decide +kernel)
theorem dX12_leftBy_110 : decode cX12_leftBy 110 = .ok (.iconst 1, 1) := dk_4 (fdB_of (k := 96) tX12_leftByf_6 14 4 rfl)
theorem dX12_leftBy_111 : decode cX12_leftBy 111 = .ok (.iload_n 3, 1) := dk_29 (fdB_of (k := 96) tX12_leftByf_6 15 29 rfl)
theorem dX12_leftBy_112 : decode cX12_leftBy 112 = .ok (.ishl, 1) := dk_120 (fdB_of (k := 112) tX12_leftByf_7 0 120 rfl)
theorem dX12_leftBy_113 : decode cX12_leftBy 113 = .ok (.goto 4, 3) := dk_167 (fdB_of (k := 112) tX12_leftByf_7 1 167 rfl) (fdB_of (k := 112) tX12_leftByf_7 2 0 rfl) (fdB_of (k := 112) tX12_leftByf_7 3 4 rfl) (by decide +kernel)
theorem dX12_leftBy_116 : decode cX12_leftBy 116 = .ok (.iconst 0, 1) := dk_3 (fdB_of (k := 112) tX12_leftByf_7 4 3 rfl)
theorem dX12_leftBy_117 : decode cX12_leftBy 117 = .ok (.ior, 1) := dk_128 (fdB_of (k := 112) tX12_leftByf_7 5 128 rfl)
theorem dX12_leftBy_118 : decode cX12_leftBy 118 = .ok (.istore_n 2, 1) := dk_61 (fdB_of (k := 112) tX12_leftByf_7 6 61 rfl)
theorem dX12_leftBy_119 : decode cX12_leftBy 119 = .ok (.iinc 3 1, 3) := dk_132 (fdB_of (k := 112) tX12_leftByf_7 7 132 rfl) (fdB_of (k := 112) tX12_leftByf_7 8 3 rfl) (fdB_of (k := 112) tX12_leftByf_7 9 1 rfl) (by decide +kernel)
theorem dX12_leftBy_122 : decode cX12_leftBy 122 = .ok (.goto (-57), 3) := dk_167 (fdB_of (k := 112) tX12_leftByf_7 10 167 rfl) (fdB_of (k := 112) tX12_leftByf_7 11 255 rfl) (fdB_of (k := 112) tX12_leftByf_7 12 199 rfl) (by decide +kernel)
theorem dX12_leftBy_125 : decode cX12_leftBy 125 = .ok (.iload_n 2, 1) := dk_28 (fdB_of (k := 112) tX12_leftByf_7 13 28 rfl)
theorem dX12_leftBy_126 : decode cX12_leftBy 126 = .ok (.ireturn, 1) := dk_172 (fdB_of (k := 112) tX12_leftByf_7 14 172 rfl)


theorem ms_lapses {p : Program} {l : Launch} {e : Env} {R : Room} {s : State} {m : MethodId} {args : Array Value} {below : List Frame} {meth : Method} {c : Code} {D : gG} {A : Nat → Prop} {nL : Nat} {Q : State → Prop} {cells slots : Nat} {cc : ByteArray} {L : List (Nat × Value)} {pc : Nat} {stk : List Value} {β : Type} {r : β} {o : Nat → Nat} {cB cI cJ cZ : ClassId} {z : SM} (cx : gX p s m args meth c cc nL RX12 D (tyL cB cI cJ cZ) A) {i : Int32} {x : Int32} {kf : SM → Option β} (hf : ((aset 9 (mA z 30) i (vp_nar .boolean x)).bind fun f => nm (mAs z 30 f) kf) = some r) (hd : decode cc pc = .ok (.bastore, 1)) (kk : ∀ y : SM, kf y = some r → gW p l e R s m args below meth c D A nL Q cells slots (wX12 o cB cI cJ cZ y) L (pc + 1) stk) : gW p l e R s m args below meth c D A nL Q cells slots (wX12 o cB cI cJ cZ z) L pc (.int x :: .int i :: .ref (o 15) :: stk) :=
  g_zast cx 15 3 (ws' := fun f => wX12 o cB cI cJ cZ (mAs z 30 f)) hf rfl rfl (fun _ => rfl) hd (fun _ hf => kk _ hf)
def F_X12_leftBy_b56 (x1 : Int32) (K4 : Int32 → Int32 → SM → Option (Int32 × SM)) (v2 : Int32) (v3 : Int32) (zs_o : SM) (k1 : Int32) (k2 : Int32) : Option (Int32 × SM) := (aset 9 (mA zs_o 30) k1 (vp_nar .boolean k2)).bind fun f_1 => nm (mAs zs_o 30 f_1) fun s_o_2 => nm (v3 + 1) fun v3_3 => K4 v2 v3_3 s_o_2
def F_X12_leftBy_b51 (x1 : Int32) (K4 : Int32 → Int32 → SM → Option (Int32 × SM)) (v2 : Int32) (v3 : Int32) (zs_o : SM) (k1 : Int32) : Option (Int32 × SM) := F_X12_leftBy_b56 x1 K4 v2 v3 zs_o k1 1
def F_X12_leftBy_b55 (x1 : Int32) (K4 : Int32 → Int32 → SM → Option (Int32 × SM)) (v2 : Int32) (v3 : Int32) (zs_o : SM) (k1 : Int32) : Option (Int32 × SM) := F_X12_leftBy_b56 x1 K4 v2 v3 zs_o k1 0
def F_X12_leftBy_b117 (x1 : Int32) (K65 : Int32 → Int32 → SM → Option (Int32 × SM)) (v3 : Int32) (zs_o : SM) (k0 : Int32) (k1 : Int32) : Option (Int32 × SM) := nm (k0 ||| k1) fun v2_4 => nm (v3 + 1) fun v3_5 => K65 v2_4 v3_5 zs_o
def F_X12_leftBy_b116 (x1 : Int32) (K65 : Int32 → Int32 → SM → Option (Int32 × SM)) (v3 : Int32) (zs_o : SM) (k0 : Int32) : Option (Int32 × SM) := F_X12_leftBy_b117 x1 K65 v3 zs_o k0 0
def F_X12_leftBy_b110 (x1 : Int32) (K65 : Int32 → Int32 → SM → Option (Int32 × SM)) (v3 : Int32) (zs_o : SM) (k0 : Int32) : Option (Int32 × SM) := F_X12_leftBy_b117 x1 K65 v3 zs_o k0 (1 <<< (v3 &&& 31))
def F_X12_leftBy_b65 (x1 : Int32) : Nat → Int32 → Int32 → SM → Option (Int32 × SM)
  | 0, _, _, _ => none
  | n + 1, v2, v3, zs_o => (if (mI zs_o 25) ≤ v3 then some (v2, zs_o) else (aget 9 (mA zs_o 28) v3).bind fun e_6 => (if e_6 = 0 then F_X12_leftBy_b116 x1 (F_X12_leftBy_b65 x1 n) v3 zs_o v2 else (aget 9 (mA zs_o 30) v3).bind fun e_7 => (if e_7 = 0 then (aget 9 (mA zs_o 27) v3).bind fun e_8 => (if e_8 = 0 then F_X12_leftBy_b110 x1 (F_X12_leftBy_b65 x1 n) v3 zs_o v2 else (F_X12_holds zs_o v3 1).bind fun q_9 => (if q_9 = 0 then F_X12_leftBy_b116 x1 (F_X12_leftBy_b65 x1 n) v3 zs_o v2 else F_X12_leftBy_b110 x1 (F_X12_leftBy_b65 x1 n) v3 zs_o v2)) else F_X12_leftBy_b116 x1 (F_X12_leftBy_b65 x1 n) v3 zs_o v2)))
def F_X12_leftBy_b4 (x1 : Int32) : Nat → Int32 → Int32 → SM → Option (Int32 × SM)
  | 0, _, _, _ => none
  | n + 1, v2, v3, zs_o => (if (mI zs_o 25) ≤ v3 then nm 0 fun v3_10 => F_X12_leftBy_b65 x1 fu v2 v3_10 zs_o else (if ((x1 >>> (v3 &&& 31)) &&& 1) = 1 then F_X12_leftBy_b51 x1 (F_X12_leftBy_b4 x1 n) v2 v3 zs_o v3 else (aget 9 (mA zs_o 29) v3).bind fun e_11 => (if e_11 = (-9) then F_X12_leftBy_b55 x1 (F_X12_leftBy_b4 x1 n) v2 v3 zs_o v3 else (aget 9 (mA zs_o 29) v3).bind fun e_12 => (aget 9 (mA zs_o 30) e_12).bind fun e_13 => (if e_13 = 0 then F_X12_leftBy_b55 x1 (F_X12_leftBy_b4 x1 n) v2 v3 zs_o v3 else F_X12_leftBy_b51 x1 (F_X12_leftBy_b4 x1 n) v2 v3 zs_o v3))))
def F_X12_leftBy (s_o : SM) (x1 : Int32) : Option (Int32 × SM) := nm 0 fun v2_14 => nm 0 fun v3_15 => F_X12_leftBy_b4 x1 fu v2_14 v3_15 s_o

abbrev rm_X12_leftBy : Room := { frames := 1, cells := 0, slots := 0, locals := 24 }
set_option maxHeartbeats 4000000 in
set_option maxRecDepth 100000 in
theorem c_X12_leftBy (l : Launch) (D : gG) (cB cI cJ cZ : ClassId) (o : Nat → Nat) (s_o : SM) (x1 : Int32) (r : Int32 × SM) (hf : F_X12_leftBy s_o x1 = some r) : gM l D (tyL cB cI cJ cZ) yX12_leftBy cX12_leftBy 4 (some .int) rm_X12_leftBy [.ref (o 0), .int x1] (wX12 o cB cI cJ cZ s_o) (some (.int r.1)) (wX12 o cB cI cJ cZ r.2) := by
  refine met_of (by decide) (Nat.le_of_ble_eq_true rfl) ?_
  intro p e s m args below meth c A cx hr hA
  show gW p l e rm_X12_leftBy s m args below meth c D A 4 _ 0 0 _ [(0, .ref (o 0)), (1, .int x1)] 0 []
  have h56 : ∀ (K4 : Int32 → Int32 → SM → Option (Int32 × SM)), (∀ (v2 : Int32) (v3 : Int32) (zs_o : SM), K4 v2 v3 zs_o = some r → gW p l e rm_X12_leftBy s m args below meth c D A 4 (MQ below (QM D (tyL cB cI cJ cZ) (some (.int r.1)) (wX12 o cB cI cJ cZ s_o) (wX12 o cB cI cJ cZ r.2) s.heap.size) args s 0 0 A) 0 0 (wX12 o cB cI cJ cZ zs_o) [(0, .ref (o 0)), (1, .int x1), (2, .int v2), (3, .int v3)] 4 []) → ∀ (v2 : Int32) (v3 : Int32) (zs_o : SM) (k1 : Int32) (k2 : Int32), F_X12_leftBy_b56 x1 K4 v2 v3 zs_o k1 k2 = some r → gW p l e rm_X12_leftBy s m args below meth c D A 4 (MQ below (QM D (tyL cB cI cJ cZ) (some (.int r.1)) (wX12 o cB cI cJ cZ s_o) (wX12 o cB cI cJ cZ r.2) s.heap.size) args s 0 0 A) 0 0 (wX12 o cB cI cJ cZ zs_o) [(0, .ref (o 0)), (1, .int x1), (2, .int v2), (3, .int v3)] 56 [.int k2, .int k1, .ref (o 15)] := by
    intro K4 kh4 v2 v3 zs_o k1 k2 hf
    rw [F_X12_leftBy_b56] at hf
    refine ms_lapses cx hf dX12_leftBy_56 (fun s_o_2 hf => ?_)
    refine g_inc cx (L2 := fun v3_3 => [(3, .int v3_3), (0, .ref (o 0)), (1, .int x1), (2, .int v2)]) 3 hf dX12_leftBy_57 rfl (k_inc1 _) (Nat.le_of_ble_eq_true rfl) (fun _ => rfl) (fun v3_3 hf => ?_)
    refine g_goto (tgt := 4) cx dX12_leftBy_60 rfl ?_
    refine g_sub [1, 2, 3, 0] rfl ?_
    exact kh4 _ _ _ hf
  have h51 : ∀ (K4 : Int32 → Int32 → SM → Option (Int32 × SM)), (∀ (v2 : Int32) (v3 : Int32) (zs_o : SM), K4 v2 v3 zs_o = some r → gW p l e rm_X12_leftBy s m args below meth c D A 4 (MQ below (QM D (tyL cB cI cJ cZ) (some (.int r.1)) (wX12 o cB cI cJ cZ s_o) (wX12 o cB cI cJ cZ r.2) s.heap.size) args s 0 0 A) 0 0 (wX12 o cB cI cJ cZ zs_o) [(0, .ref (o 0)), (1, .int x1), (2, .int v2), (3, .int v3)] 4 []) → ∀ (v2 : Int32) (v3 : Int32) (zs_o : SM) (k1 : Int32), F_X12_leftBy_b51 x1 K4 v2 v3 zs_o k1 = some r → gW p l e rm_X12_leftBy s m args below meth c D A 4 (MQ below (QM D (tyL cB cI cJ cZ) (some (.int r.1)) (wX12 o cB cI cJ cZ s_o) (wX12 o cB cI cJ cZ r.2) s.heap.size) args s 0 0 A) 0 0 (wX12 o cB cI cJ cZ zs_o) [(0, .ref (o 0)), (1, .int x1), (2, .int v2), (3, .int v3)] 51 [.int k1, .ref (o 15)] := by
    intro K4 kh4 v2 v3 zs_o k1 hf
    rw [F_X12_leftBy_b51] at hf
    refine g_ic cx dX12_leftBy_51 k_ic1 ?_
    refine g_goto (tgt := 56) cx dX12_leftBy_52 rfl ?_
    exact h56 _ kh4 _ _ _ _ _ hf
  have h55 : ∀ (K4 : Int32 → Int32 → SM → Option (Int32 × SM)), (∀ (v2 : Int32) (v3 : Int32) (zs_o : SM), K4 v2 v3 zs_o = some r → gW p l e rm_X12_leftBy s m args below meth c D A 4 (MQ below (QM D (tyL cB cI cJ cZ) (some (.int r.1)) (wX12 o cB cI cJ cZ s_o) (wX12 o cB cI cJ cZ r.2) s.heap.size) args s 0 0 A) 0 0 (wX12 o cB cI cJ cZ zs_o) [(0, .ref (o 0)), (1, .int x1), (2, .int v2), (3, .int v3)] 4 []) → ∀ (v2 : Int32) (v3 : Int32) (zs_o : SM) (k1 : Int32), F_X12_leftBy_b55 x1 K4 v2 v3 zs_o k1 = some r → gW p l e rm_X12_leftBy s m args below meth c D A 4 (MQ below (QM D (tyL cB cI cJ cZ) (some (.int r.1)) (wX12 o cB cI cJ cZ s_o) (wX12 o cB cI cJ cZ r.2) s.heap.size) args s 0 0 A) 0 0 (wX12 o cB cI cJ cZ zs_o) [(0, .ref (o 0)), (1, .int x1), (2, .int v2), (3, .int v3)] 55 [.int k1, .ref (o 15)] := by
    intro K4 kh4 v2 v3 zs_o k1 hf
    rw [F_X12_leftBy_b55] at hf
    refine g_ic cx dX12_leftBy_55 k_ic0 ?_
    exact h56 _ kh4 _ _ _ _ _ hf
  have h117 : ∀ (K65 : Int32 → Int32 → SM → Option (Int32 × SM)), (∀ (v2 : Int32) (v3 : Int32) (zs_o : SM), K65 v2 v3 zs_o = some r → gW p l e rm_X12_leftBy s m args below meth c D A 4 (MQ below (QM D (tyL cB cI cJ cZ) (some (.int r.1)) (wX12 o cB cI cJ cZ s_o) (wX12 o cB cI cJ cZ r.2) s.heap.size) args s 0 0 A) 0 0 (wX12 o cB cI cJ cZ zs_o) [(0, .ref (o 0)), (2, .int v2), (3, .int v3)] 65 []) → ∀ (v3 : Int32) (zs_o : SM) (k0 : Int32) (k1 : Int32), F_X12_leftBy_b117 x1 K65 v3 zs_o k0 k1 = some r → gW p l e rm_X12_leftBy s m args below meth c D A 4 (MQ below (QM D (tyL cB cI cJ cZ) (some (.int r.1)) (wX12 o cB cI cJ cZ s_o) (wX12 o cB cI cJ cZ r.2) s.heap.size) args s 0 0 A) 0 0 (wX12 o cB cI cJ cZ zs_o) [(0, .ref (o 0)), (3, .int v3)] 117 [.int k1, .int k0] := by
    intro K65 kh65 v3 zs_o k0 k1 hf
    rw [F_X12_leftBy_b117] at hf
    refine g_ior cx dX12_leftBy_117 ?_
    refine g_isn cx (L2 := fun v2_4 => [(2, .int v2_4), (0, .ref (o 0)), (3, .int v3)]) hf dX12_leftBy_118 (Nat.le_of_ble_eq_true rfl) (fun _ => rfl) (fun v2_4 hf => ?_)
    refine g_inc cx (L2 := fun v3_5 => [(3, .int v3_5), (2, .int v2_4), (0, .ref (o 0))]) 2 hf dX12_leftBy_119 rfl (k_inc1 _) (Nat.le_of_ble_eq_true rfl) (fun _ => rfl) (fun v3_5 hf => ?_)
    refine g_goto (tgt := 65) cx dX12_leftBy_122 rfl ?_
    refine g_sub [2, 1, 0] rfl ?_
    exact kh65 _ _ _ hf
  have h116 : ∀ (K65 : Int32 → Int32 → SM → Option (Int32 × SM)), (∀ (v2 : Int32) (v3 : Int32) (zs_o : SM), K65 v2 v3 zs_o = some r → gW p l e rm_X12_leftBy s m args below meth c D A 4 (MQ below (QM D (tyL cB cI cJ cZ) (some (.int r.1)) (wX12 o cB cI cJ cZ s_o) (wX12 o cB cI cJ cZ r.2) s.heap.size) args s 0 0 A) 0 0 (wX12 o cB cI cJ cZ zs_o) [(0, .ref (o 0)), (2, .int v2), (3, .int v3)] 65 []) → ∀ (v3 : Int32) (zs_o : SM) (k0 : Int32), F_X12_leftBy_b116 x1 K65 v3 zs_o k0 = some r → gW p l e rm_X12_leftBy s m args below meth c D A 4 (MQ below (QM D (tyL cB cI cJ cZ) (some (.int r.1)) (wX12 o cB cI cJ cZ s_o) (wX12 o cB cI cJ cZ r.2) s.heap.size) args s 0 0 A) 0 0 (wX12 o cB cI cJ cZ zs_o) [(0, .ref (o 0)), (3, .int v3)] 116 [.int k0] := by
    intro K65 kh65 v3 zs_o k0 hf
    rw [F_X12_leftBy_b116] at hf
    refine g_ic cx dX12_leftBy_116 k_ic0 ?_
    exact h117 _ kh65 _ _ _ _ hf
  have h110 : ∀ (K65 : Int32 → Int32 → SM → Option (Int32 × SM)), (∀ (v2 : Int32) (v3 : Int32) (zs_o : SM), K65 v2 v3 zs_o = some r → gW p l e rm_X12_leftBy s m args below meth c D A 4 (MQ below (QM D (tyL cB cI cJ cZ) (some (.int r.1)) (wX12 o cB cI cJ cZ s_o) (wX12 o cB cI cJ cZ r.2) s.heap.size) args s 0 0 A) 0 0 (wX12 o cB cI cJ cZ zs_o) [(0, .ref (o 0)), (2, .int v2), (3, .int v3)] 65 []) → ∀ (v3 : Int32) (zs_o : SM) (k0 : Int32), F_X12_leftBy_b110 x1 K65 v3 zs_o k0 = some r → gW p l e rm_X12_leftBy s m args below meth c D A 4 (MQ below (QM D (tyL cB cI cJ cZ) (some (.int r.1)) (wX12 o cB cI cJ cZ s_o) (wX12 o cB cI cJ cZ r.2) s.heap.size) args s 0 0 A) 0 0 (wX12 o cB cI cJ cZ zs_o) [(0, .ref (o 0)), (3, .int v3)] 110 [.int k0] := by
    intro K65 kh65 v3 zs_o k0 hf
    rw [F_X12_leftBy_b110] at hf
    refine g_ic cx dX12_leftBy_110 k_ic1 ?_
    refine g_iln cx 1 dX12_leftBy_111 rfl ?_
    refine g_ishl cx dX12_leftBy_112 ?_
    refine g_goto (tgt := 117) cx dX12_leftBy_113 rfl ?_
    exact h117 _ kh65 _ _ _ _ hf
  have h65 : ∀ (n : Nat) (v2 : Int32) (v3 : Int32) (zs_o : SM), F_X12_leftBy_b65 x1 n v2 v3 zs_o = some r → gW p l e rm_X12_leftBy s m args below meth c D A 4 (MQ below (QM D (tyL cB cI cJ cZ) (some (.int r.1)) (wX12 o cB cI cJ cZ s_o) (wX12 o cB cI cJ cZ r.2) s.heap.size) args s 0 0 A) 0 0 (wX12 o cB cI cJ cZ zs_o) [(0, .ref (o 0)), (2, .int v2), (3, .int v3)] 65 [] := by
    intro n
    induction n with
    | zero => intro v2 v3 zs_o hf; rw [F_X12_leftBy_b65] at hf; cases hf
    | succ n ih =>
      intro v2 v3 zs_o hf
      rw [F_X12_leftBy_b65] at hf
      refine g_iln cx 2 dX12_leftBy_65 rfl ?_
      refine g_aln cx 0 dX12_leftBy_66 rfl ?_
      refine mg_many cx dX12_leftBy_67 ?_
      refine g_ic_ge (tgt := 125) cx hf dX12_leftBy_70 rfl (fun hf => ?_) (fun hf => ?_)
      · refine g_iln cx 1 dX12_leftBy_125 rfl ?_
        exact g_iret (ovf := fun (r : Int32 × SM) => (some (.int r.1))) (wf := fun (r : Int32 × SM) => (wX12 o cB cI cJ cZ r.2)) cx hA hr hf rfl rfl dX12_leftBy_126
      · refine g_iln cx 1 dX12_leftBy_73 rfl ?_
        refine g_aln cx 0 dX12_leftBy_74 rfl ?_
        refine mg_binds cx dX12_leftBy_75 ?_
        refine g_iln cx 2 dX12_leftBy_78 rfl ?_
        refine ml_binds cx hf dX12_leftBy_79 (fun e_6 hf => ?_)
        refine g_if_eq (tgt := 116) cx hf dX12_leftBy_80 rfl (fun hf => ?_) (fun hf => ?_)
        · refine g_sub [0, 2] rfl ?_
          exact h116 _ ih _ _ _ hf
        · refine g_aln cx 0 dX12_leftBy_83 rfl ?_
          refine mg_lapses cx dX12_leftBy_84 ?_
          refine g_iln cx 2 dX12_leftBy_87 rfl ?_
          refine ml_lapses cx hf dX12_leftBy_88 (fun e_7 hf => ?_)
          refine g_if_ne (tgt := 116) cx hf dX12_leftBy_89 rfl (fun hf => ?_) (fun hf => ?_)
          · refine g_sub [0, 2] rfl ?_
            exact h116 _ ih _ _ _ hf
          · refine g_aln cx 0 dX12_leftBy_92 rfl ?_
            refine mg_opens cx dX12_leftBy_93 ?_
            refine g_iln cx 2 dX12_leftBy_96 rfl ?_
            refine ml_opens cx hf dX12_leftBy_97 (fun e_8 hf => ?_)
            refine g_if_eq (tgt := 110) cx hf dX12_leftBy_98 rfl (fun hf => ?_) (fun hf => ?_)
            · refine g_sub [0, 2] rfl ?_
              exact h110 _ ih _ _ _ hf
            · refine g_aln cx 0 dX12_leftBy_101 rfl ?_
              refine g_iln cx 2 dX12_leftBy_102 rfl ?_
              refine g_ic cx dX12_leftBy_103 k_ic1 ?_
              refine ob hf (fun q_9 hq_9 hf => ?_)
              refine g_callVFi cx lk_RX12_194 (c_X12_holds l D cB cI cJ cZ o zs_o v3 1 q_9 hq_9) rfl (ci := 10) (q1 := 0) rfl rfl rfl (Nat.le_of_ble_eq_true rfl) ⟨rfl, rfl, Nat.le_of_ble_eq_true rfl, Nat.le_of_ble_eq_true rfl⟩ dX12_leftBy_104 ?_
              refine g_if_eq (tgt := 116) cx hf dX12_leftBy_107 rfl (fun hf => ?_) (fun hf => ?_)
              · refine g_sub [0, 2] rfl ?_
                exact h116 _ ih _ _ _ hf
              · refine g_sub [0, 2] rfl ?_
                exact h110 _ ih _ _ _ hf
  have h4 : ∀ (n : Nat) (v2 : Int32) (v3 : Int32) (zs_o : SM), F_X12_leftBy_b4 x1 n v2 v3 zs_o = some r → gW p l e rm_X12_leftBy s m args below meth c D A 4 (MQ below (QM D (tyL cB cI cJ cZ) (some (.int r.1)) (wX12 o cB cI cJ cZ s_o) (wX12 o cB cI cJ cZ r.2) s.heap.size) args s 0 0 A) 0 0 (wX12 o cB cI cJ cZ zs_o) [(0, .ref (o 0)), (1, .int x1), (2, .int v2), (3, .int v3)] 4 [] := by
    intro n
    induction n with
    | zero => intro v2 v3 zs_o hf; rw [F_X12_leftBy_b4] at hf; cases hf
    | succ n ih =>
      intro v2 v3 zs_o hf
      rw [F_X12_leftBy_b4] at hf
      refine g_iln cx 3 dX12_leftBy_4 rfl ?_
      refine g_aln cx 0 dX12_leftBy_5 rfl ?_
      refine mg_many cx dX12_leftBy_6 ?_
      refine g_ic_ge (tgt := 63) cx hf dX12_leftBy_9 rfl (fun hf => ?_) (fun hf => ?_)
      · refine g_ic cx dX12_leftBy_63 k_ic0 ?_
        refine g_isn cx (L2 := fun v3_10 => [(3, .int v3_10), (0, .ref (o 0)), (1, .int x1), (2, .int v2)]) hf dX12_leftBy_64 (Nat.le_of_ble_eq_true rfl) (fun _ => rfl) (fun v3_10 hf => ?_)
        refine g_sub [1, 3, 0] rfl ?_
        exact h65 fu _ _ _ hf
      · refine g_aln cx 0 dX12_leftBy_12 rfl ?_
        refine mg_lapses cx dX12_leftBy_13 ?_
        refine g_iln cx 3 dX12_leftBy_16 rfl ?_
        refine g_iln cx 1 dX12_leftBy_17 rfl ?_
        refine g_iln cx 3 dX12_leftBy_18 rfl ?_
        refine g_ishr cx dX12_leftBy_19 ?_
        refine g_ic cx dX12_leftBy_20 k_ic1 ?_
        refine g_iand cx dX12_leftBy_21 ?_
        refine g_ic cx dX12_leftBy_22 k_ic1 ?_
        refine g_ic_eq (tgt := 51) cx hf dX12_leftBy_23 rfl (fun hf => ?_) (fun hf => ?_)
        · exact h51 _ ih _ _ _ _ hf
        · refine g_aln cx 0 dX12_leftBy_26 rfl ?_
          refine mg_anchor cx dX12_leftBy_27 ?_
          refine g_iln cx 3 dX12_leftBy_30 rfl ?_
          refine ml_anchor cx hf dX12_leftBy_31 (fun e_11 hf => ?_)
          refine g_bp cx dX12_leftBy_32 k_bpm9 ?_
          refine g_ic_eq (tgt := 55) cx hf dX12_leftBy_34 rfl (fun hf => ?_) (fun hf => ?_)
          · exact h55 _ ih _ _ _ _ hf
          · refine g_aln cx 0 dX12_leftBy_37 rfl ?_
            refine mg_lapses cx dX12_leftBy_38 ?_
            refine g_aln cx 0 dX12_leftBy_41 rfl ?_
            refine mg_anchor cx dX12_leftBy_42 ?_
            refine g_iln cx 3 dX12_leftBy_45 rfl ?_
            refine ml_anchor cx hf dX12_leftBy_46 (fun e_12 hf => ?_)
            refine ml_lapses cx hf dX12_leftBy_47 (fun e_13 hf => ?_)
            refine g_if_eq (tgt := 55) cx hf dX12_leftBy_48 rfl (fun hf => ?_) (fun hf => ?_)
            · exact h55 _ ih _ _ _ _ hf
            · exact h51 _ ih _ _ _ _ hf
  rw [F_X12_leftBy] at hf
  refine g_ic cx dX12_leftBy_0 k_ic0 ?_
  refine g_isn cx (L2 := fun v2_14 => [(2, .int v2_14), (0, .ref (o 0)), (1, .int x1)]) hf dX12_leftBy_1 (Nat.le_of_ble_eq_true rfl) (fun _ => rfl) (fun v2_14 hf => ?_)
  refine g_ic cx dX12_leftBy_2 k_ic0 ?_
  refine g_isn cx (L2 := fun v3_15 => [(3, .int v3_15), (2, .int v2_14), (0, .ref (o 0)), (1, .int x1)]) hf dX12_leftBy_3 (Nat.le_of_ble_eq_true rfl) (fun _ => rfl) (fun v3_15 hf => ?_)
  refine g_sub [2, 3, 1, 0] rfl ?_
  exact h4 fu _ _ _ hf
theorem dX12_struck_0 : decode cX12_struck 0 = .ok (.aload_n 0, 1) := by decide +kernel
theorem dX12_struck_1 : decode cX12_struck 1 = .ok (.iconst 0, 1) := by decide +kernel
theorem dX12_struck_2 : decode cX12_struck 2 = .ok (.putfield 78, 3) := by decide +kernel
theorem dX12_struck_5 : decode cX12_struck 5 = .ok (.aload_n 0, 1) := by decide +kernel
theorem dX12_struck_6 : decode cX12_struck 6 = .ok (.iload_n 1, 1) := by decide +kernel
theorem dX12_struck_7 : decode cX12_struck 7 = .ok (.iload_n 2, 1) := by decide +kernel
theorem dX12_struck_8 : decode cX12_struck 8 = .ok (.invokevirtual 178, 3) := by decide +kernel
theorem dX12_struck_11 : decode cX12_struck 11 = .ok (.ifCond .ne 5, 3) := by decide +kernel
theorem dX12_struck_14 : decode cX12_struck 14 = .ok (.iconst (-1), 1) := by decide +kernel
theorem dX12_struck_15 : decode cX12_struck 15 = .ok (.ireturn, 1) := by decide +kernel
theorem dX12_struck_16 : decode cX12_struck 16 = .ok (.aload_n 0, 1) := by decide +kernel
theorem dX12_struck_17 : decode cX12_struck 17 = .ok (.iload_n 1, 1) := by decide +kernel
theorem dX12_struck_18 : decode cX12_struck 18 = .ok (.iload_n 2, 1) := by decide +kernel
theorem dX12_struck_19 : decode cX12_struck 19 = .ok (.invokevirtual 210, 3) := by decide +kernel
theorem dX12_struck_22 : decode cX12_struck 22 = .ok (.aload_n 0, 1) := by decide +kernel
theorem dX12_struck_23 : decode cX12_struck 23 = .ok (.iload_n 3, 1) := by decide +kernel
theorem dX12_struck_24 : decode cX12_struck 24 = .ok (.invokevirtual 220, 3) := by decide +kernel
theorem dX12_struck_27 : decode cX12_struck 27 = .ok (.ireturn, 1) := by decide +kernel
theorem q0_53 : Cond.selects RX12 yX12_leftBy yX12_leftBy ∈ TT := tq0 53 rfl rfl
theorem q6_31 : Cond.methodLink RX12 220 yX12_leftBy ∈ TT := tq6 31 rfl rfl
theorem q6_33 : Cond.instanceMethod yX12_leftBy ∈ TT := tq6 33 rfl rfl
theorem q6_34 : Cond.code yX12_leftBy cX12_leftBy 4 (some .int) ∈ TT := tq6 34 rfl rfl
theorem lk_RX12_220 : vlk RX12 220 yX12_leftBy cX12_leftBy 4 (some .int) 1 := ⟨List.forall_mem_cons.mpr ⟨q6_31, List.forall_mem_cons.mpr ⟨q6_33, List.forall_mem_cons.mpr ⟨q0_53, List.forall_mem_cons.mpr ⟨q1_12, fun _ h => absurd h List.not_mem_nil⟩⟩⟩⟩, q6_34, by decide, by decide, by decide +kernel⟩
def F_X12_struck (s_o : SM) (x1 : Int32) (x2 : Int32) (x3 : Int32) : Option (Int32 × SM) := nm (mIs s_o 0 0) fun s_o_1 => (F_X12_isForm s_o_1 x1 x2).bind fun q_2 => (if q_2 = 0 then some ((-1), s_o_1) else (F_X12_judgesPaper s_o_1 x1 x2).bind fun q_3 => (F_X12_leftBy q_3 x3).bind fun q_4 => some (q_4.1, q_4.2))

abbrev rm_X12_struck : Room := { frames := 4, cells := 0, slots := 0, locals := 94 }
set_option maxHeartbeats 4000000 in
set_option maxRecDepth 100000 in
theorem c_X12_struck (l : Launch) (D : gG) (cB cI cJ cZ : ClassId) (o : Nat → Nat) (s_o : SM) (x1 : Int32) (x2 : Int32) (x3 : Int32) (r : Int32 × SM) (hf : F_X12_struck s_o x1 x2 x3 = some r) : gM l D (tyL cB cI cJ cZ) yX12_struck cX12_struck 4 (some .int) rm_X12_struck [.ref (o 0), .int x1, .int x2, .int x3] (wX12 o cB cI cJ cZ s_o) (some (.int r.1)) (wX12 o cB cI cJ cZ r.2) := by
  refine met_of (by decide) (Nat.le_of_ble_eq_true rfl) ?_
  intro p e s m args below meth c A cx hr hA
  show gW p l e rm_X12_struck s m args below meth c D A 4 _ 0 0 _ [(0, .ref (o 0)), (1, .int x1), (2, .int x2), (3, .int x3)] 0 []
  rw [F_X12_struck] at hf
  refine g_aln cx 0 dX12_struck_0 rfl ?_
  refine g_ic cx dX12_struck_1 k_ic0 ?_
  refine mp_thrown cx hf dX12_struck_2 (fun s_o_1 hf => ?_)
  refine g_aln cx 0 dX12_struck_5 rfl ?_
  refine g_iln cx 1 dX12_struck_6 rfl ?_
  refine g_iln cx 2 dX12_struck_7 rfl ?_
  refine ob hf (fun q_2 hq_2 hf => ?_)
  refine g_callVFi cx lk_RX12_178 (c_X12_isForm l D cB cI cJ cZ o s_o_1 x1 x2 q_2 hq_2) rfl (ci := 10) (q1 := 0) rfl rfl rfl (Nat.le_of_ble_eq_true rfl) ⟨rfl, rfl, Nat.le_of_ble_eq_true rfl, Nat.le_of_ble_eq_true rfl⟩ dX12_struck_8 ?_
  refine g_if_ne (tgt := 16) cx hf dX12_struck_11 rfl (fun hf => ?_) (fun hf => ?_)
  · refine g_aln cx 0 dX12_struck_16 rfl ?_
    refine g_iln cx 1 dX12_struck_17 rfl ?_
    refine g_iln cx 2 dX12_struck_18 rfl ?_
    refine ob hf (fun q_3 hq_3 hf => ?_)
    refine g_callVFv cx lk_RX12_210 (c_X12_judgesPaper l D cB cI cJ cZ o s_o_1 x1 x2 q_3 hq_3) rfl (ci := 10) (q1 := 0) rfl rfl rfl (Nat.le_of_ble_eq_true rfl) ⟨rfl, rfl, Nat.le_of_ble_eq_true rfl, Nat.le_of_ble_eq_true rfl⟩ dX12_struck_19 ?_
    refine g_aln cx 0 dX12_struck_22 rfl ?_
    refine g_iln cx 3 dX12_struck_23 rfl ?_
    refine ob hf (fun q_4 hq_4 hf => ?_)
    refine g_callVFi cx lk_RX12_220 (c_X12_leftBy l D cB cI cJ cZ o q_3 x3 q_4 hq_4) rfl (ci := 10) (q1 := 0) rfl rfl rfl (Nat.le_of_ble_eq_true rfl) ⟨rfl, rfl, Nat.le_of_ble_eq_true rfl, Nat.le_of_ble_eq_true rfl⟩ dX12_struck_24 ?_
    exact g_iret (ovf := fun (r : Int32 × SM) => (some (.int r.1))) (wf := fun (r : Int32 × SM) => (wX12 o cB cI cJ cZ r.2)) cx hA hr hf rfl rfl dX12_struck_27
  · refine g_ic cx dX12_struck_14 k_icm1 ?_
    exact g_iret (ovf := fun (r : Int32 × SM) => (some (.int r.1))) (wf := fun (r : Int32 × SM) => (wX12 o cB cI cJ cZ r.2)) cx hA hr hf rfl rfl dX12_struck_15
