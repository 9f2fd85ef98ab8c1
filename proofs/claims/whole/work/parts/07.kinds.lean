def irm (x y : Int32) : Int32 := x - x / y * y
def imx (x y : Int32) : Int32 := if x < y then y else x
def imn (x y : Int32) : Int32 := if y < x then y else x
def iab (x : Int32) : Int32 := if 0 ≤ x then x else 0 - x
def ius (x y : Int32) : Int32 := (x.toUInt32 >>> (y.toUInt32 &&& Int32.toUInt32 31)).toInt32
def lus (x : Int64) (y : Int32) : Int64 := (x.toUInt64 >>> (y.toInt64.toUInt64 &&& Int64.toUInt64 63)).toInt64
theorem kd_all : ∀ o, o < 128 → ((kd o = 2 → kd (o + 1) = 5 ∧ kd (o + 2) = 5 ∧ kd (o + 3) = 5 ∧ kd (o + 4) = 5 ∧ kd (pl_of o) = 0) ∧ (kd o = 0 → kd (o + 1) = 5 ∧ kd (o + 2) = 5)) := by decide +kernel
theorem kd_s1 {o : Nat} (h : kd o = 2) : kd (o + 1) = 5 := ((kd_all o (kd_lt 2 (by decide) h)).1 h).1
theorem kd_s2 {o : Nat} (h : kd o = 2) : kd (o + 2) = 5 := ((kd_all o (kd_lt 2 (by decide) h)).1 h).2.1
theorem kd_s3 {o : Nat} (h : kd o = 2) : kd (o + 3) = 5 := ((kd_all o (kd_lt 2 (by decide) h)).1 h).2.2.1
theorem kd_s4 {o : Nat} (h : kd o = 2) : kd (o + 4) = 5 := ((kd_all o (kd_lt 2 (by decide) h)).1 h).2.2.2.1
theorem kd_pl {o : Nat} (h : kd o = 2) : kd (pl_of o) = 0 := ((kd_all o (kd_lt 2 (by decide) h)).1 h).2.2.2.2
theorem kd_p1 {o : Nat} (h : kd o = 0) : kd (o + 1) = 5 := ((kd_all o (kd_lt 0 (by decide) h)).2 h).1
theorem kd_p2 {o : Nat} (h : kd o = 0) : kd (o + 2) = 5 := ((kd_all o (kd_lt 0 (by decide) h)).2 h).2
theorem kd_sta2' : ∀ j, j < 14 → kd (sta 2 j) = 2 := by decide +kernel
theorem kd_sta3' : ∀ j, j < 2 → kd (sta 3 j) = 2 := by decide +kernel
theorem kd_sta2 {i : Int32} (h : vp_in i (al 2)) : kd (sta 2 i.toNatClampNeg) = 2 := kd_sta2' _ (Nat.lt_of_not_le fun q => h (Or.inr q))
theorem kd_sta3 {i : Int32} (h : vp_in i (al 3)) : kd (sta 3 i.toNatClampNeg) = 2 := kd_sta3' _ (Nat.lt_of_not_le fun q => h (Or.inr q))
theorem kd_0 : kd 0 = 3 := rfl
theorem kd_1 : kd 1 = 5 := rfl
theorem kd_2 : kd 2 = 7 := rfl
theorem kd_3 : kd 3 = 7 := rfl
theorem kd_4 : kd 4 = 6 := rfl
theorem kd_5 : kd 5 = 5 := rfl
theorem kd_6 : kd 6 = 5 := rfl
theorem kd_7 : kd 7 = 5 := rfl
theorem kd_8 : kd 8 = 1 := rfl
theorem kd_9 : kd 9 = 0 := rfl
theorem kd_10 : kd 10 = 5 := rfl
theorem kd_11 : kd 11 = 5 := rfl
theorem kd_12 : kd 12 = 0 := rfl
theorem kd_13 : kd 13 = 5 := rfl
theorem kd_14 : kd 14 = 5 := rfl
theorem kd_15 : kd 15 = 2 := rfl
theorem kd_16 : kd 16 = 5 := rfl
theorem kd_17 : kd 17 = 5 := rfl
theorem kd_18 : kd 18 = 5 := rfl
theorem kd_19 : kd 19 = 5 := rfl
theorem kd_20 : kd 20 = 2 := rfl
theorem kd_21 : kd 21 = 5 := rfl
theorem kd_22 : kd 22 = 5 := rfl
theorem kd_23 : kd 23 = 5 := rfl
theorem kd_24 : kd 24 = 5 := rfl
theorem kd_25 : kd 25 = 2 := rfl
theorem kd_26 : kd 26 = 5 := rfl
theorem kd_27 : kd 27 = 5 := rfl
theorem kd_28 : kd 28 = 5 := rfl
theorem kd_29 : kd 29 = 5 := rfl
theorem kd_30 : kd 30 = 2 := rfl
theorem kd_31 : kd 31 = 5 := rfl
theorem kd_32 : kd 32 = 5 := rfl
theorem kd_33 : kd 33 = 5 := rfl
theorem kd_34 : kd 34 = 5 := rfl
theorem kd_35 : kd 35 = 2 := rfl
theorem kd_36 : kd 36 = 5 := rfl
theorem kd_37 : kd 37 = 5 := rfl
theorem kd_38 : kd 38 = 5 := rfl
theorem kd_39 : kd 39 = 5 := rfl
theorem kd_40 : kd 40 = 2 := rfl
theorem kd_41 : kd 41 = 5 := rfl
theorem kd_42 : kd 42 = 5 := rfl
theorem kd_43 : kd 43 = 5 := rfl
theorem kd_44 : kd 44 = 5 := rfl
theorem kd_45 : kd 45 = 2 := rfl
theorem kd_46 : kd 46 = 5 := rfl
theorem kd_47 : kd 47 = 5 := rfl
theorem kd_48 : kd 48 = 5 := rfl
theorem kd_49 : kd 49 = 5 := rfl
theorem kd_50 : kd 50 = 2 := rfl
theorem kd_51 : kd 51 = 5 := rfl
theorem kd_52 : kd 52 = 5 := rfl
theorem kd_53 : kd 53 = 5 := rfl
theorem kd_54 : kd 54 = 5 := rfl
theorem kd_55 : kd 55 = 2 := rfl
theorem kd_56 : kd 56 = 5 := rfl
theorem kd_57 : kd 57 = 5 := rfl
theorem kd_58 : kd 58 = 5 := rfl
theorem kd_59 : kd 59 = 5 := rfl
theorem kd_60 : kd 60 = 2 := rfl
theorem kd_61 : kd 61 = 5 := rfl
theorem kd_62 : kd 62 = 5 := rfl
theorem kd_63 : kd 63 = 5 := rfl
theorem kd_64 : kd 64 = 5 := rfl
theorem kd_65 : kd 65 = 2 := rfl
theorem kd_66 : kd 66 = 5 := rfl
theorem kd_67 : kd 67 = 5 := rfl
theorem kd_68 : kd 68 = 5 := rfl
theorem kd_69 : kd 69 = 5 := rfl
theorem kd_70 : kd 70 = 2 := rfl
theorem kd_71 : kd 71 = 5 := rfl
theorem kd_72 : kd 72 = 5 := rfl
theorem kd_73 : kd 73 = 5 := rfl
theorem kd_74 : kd 74 = 5 := rfl
theorem kd_75 : kd 75 = 2 := rfl
theorem kd_76 : kd 76 = 5 := rfl
theorem kd_77 : kd 77 = 5 := rfl
theorem kd_78 : kd 78 = 5 := rfl
theorem kd_79 : kd 79 = 5 := rfl
theorem kd_80 : kd 80 = 2 := rfl
theorem kd_81 : kd 81 = 5 := rfl
theorem kd_82 : kd 82 = 5 := rfl
theorem kd_83 : kd 83 = 5 := rfl
theorem kd_84 : kd 84 = 5 := rfl
theorem kd_85 : kd 85 = 2 := rfl
theorem kd_86 : kd 86 = 5 := rfl
theorem kd_87 : kd 87 = 5 := rfl
theorem kd_88 : kd 88 = 5 := rfl
theorem kd_89 : kd 89 = 5 := rfl
theorem kd_90 : kd 90 = 2 := rfl
theorem kd_91 : kd 91 = 5 := rfl
theorem kd_92 : kd 92 = 5 := rfl
theorem kd_93 : kd 93 = 5 := rfl
theorem kd_94 : kd 94 = 5 := rfl
theorem kd_95 : kd 95 = 2 := rfl
theorem kd_96 : kd 96 = 5 := rfl
theorem kd_97 : kd 97 = 5 := rfl
theorem kd_98 : kd 98 = 5 := rfl
theorem kd_99 : kd 99 = 5 := rfl
theorem kd_100 : kd 100 = 2 := rfl
theorem kd_101 : kd 101 = 5 := rfl
theorem kd_102 : kd 102 = 5 := rfl
theorem kd_103 : kd 103 = 5 := rfl
theorem kd_104 : kd 104 = 5 := rfl
theorem kd_105 : kd 105 = 2 := rfl
theorem kd_106 : kd 106 = 5 := rfl
theorem kd_107 : kd 107 = 5 := rfl
theorem kd_108 : kd 108 = 5 := rfl
theorem kd_109 : kd 109 = 5 := rfl
theorem kd_110 : kd 110 = 4 := rfl
theorem kd_111 : kd 111 = 5 := rfl
theorem kd_112 : kd 112 = 5 := rfl
theorem kd_113 : kd 113 = 5 := rfl
theorem kd_114 : kd 114 = 5 := rfl
theorem kd_115 : kd 115 = 5 := rfl
theorem kd_116 : kd 116 = 5 := rfl
theorem kd_117 : kd 117 = 5 := rfl
theorem kd_118 : kd 118 = 6 := rfl
theorem kd_119 : kd 119 = 5 := rfl
theorem kd_120 : kd 120 = 5 := rfl
theorem kd_121 : kd 121 = 5 := rfl
theorem kd_122 : kd 122 = 5 := rfl
theorem kd_123 : kd 123 = 5 := rfl
theorem kd_124 : kd 124 = 5 := rfl
theorem kd_125 : kd 125 = 5 := rfl
theorem kd_126 : kd 126 = 5 := rfl
theorem kd_127 : kd 127 = 5 := rfl
