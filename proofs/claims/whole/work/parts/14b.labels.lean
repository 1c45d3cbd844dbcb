theorem L_0_0 (d : Nat) (ls st : List Value) (σ : MS) (Q : Option Value → MS → Prop) : zX d 0 0 ls st σ Q = zB d 0 zt_0_0 ls st σ Q := zX_eq d 0 0 ls st σ Q
theorem L_1_0 (d : Nat) (ls st : List Value) (σ : MS) (Q : Option Value → MS → Prop) : zX d 1 0 ls st σ Q = zB d 1 zt_1_0 ls st σ Q := zX_eq d 1 0 ls st σ Q
theorem L_1_9 (d : Nat) (ls st : List Value) (σ : MS) (Q : Option Value → MS → Prop) : zX d 1 9 ls st σ Q = zB d 1 zt_1_9 ls st σ Q := zX_eq d 1 9 ls st σ Q
theorem L_2_0 (d : Nat) (ls st : List Value) (σ : MS) (Q : Option Value → MS → Prop) : zX d 2 0 ls st σ Q = zB d 2 zt_2_0 ls st σ Q := zX_eq d 2 0 ls st σ Q
theorem L_2_15 (d : Nat) (ls st : List Value) (σ : MS) (Q : Option Value → MS → Prop) : zX d 2 15 ls st σ Q = zB d 2 zt_2_15 ls st σ Q := zX_eq d 2 15 ls st σ Q
theorem L_2_16 (d : Nat) (ls st : List Value) (σ : MS) (Q : Option Value → MS → Prop) : zX d 2 16 ls st σ Q = zB d 2 zt_2_16 ls st σ Q := zX_eq d 2 16 ls st σ Q
theorem L_2_19 (d : Nat) (ls st : List Value) (σ : MS) (Q : Option Value → MS → Prop) : zX d 2 19 ls st σ Q = zB d 2 zt_2_19 ls st σ Q := zX_eq d 2 19 ls st σ Q
theorem L_2_48 (d : Nat) (ls st : List Value) (σ : MS) (Q : Option Value → MS → Prop) : zX d 2 48 ls st σ Q = zB d 2 zt_2_48 ls st σ Q := zX_eq d 2 48 ls st σ Q
theorem L_2_49 (d : Nat) (ls st : List Value) (σ : MS) (Q : Option Value → MS → Prop) : zX d 2 49 ls st σ Q = zB d 2 zt_2_49 ls st σ Q := zX_eq d 2 49 ls st σ Q
theorem L_2_56 (d : Nat) (ls st : List Value) (σ : MS) (Q : Option Value → MS → Prop) : zX d 2 56 ls st σ Q = zB d 2 zt_2_56 ls st σ Q := zX_eq d 2 56 ls st σ Q
theorem L_2_58 (d : Nat) (ls st : List Value) (σ : MS) (Q : Option Value → MS → Prop) : zX d 2 58 ls st σ Q = zB d 2 zt_2_58 ls st σ Q := zX_eq d 2 58 ls st σ Q
theorem L_2_87 (d : Nat) (ls st : List Value) (σ : MS) (Q : Option Value → MS → Prop) : zX d 2 87 ls st σ Q = zB d 2 zt_2_87 ls st σ Q := zX_eq d 2 87 ls st σ Q
theorem L_2_88 (d : Nat) (ls st : List Value) (σ : MS) (Q : Option Value → MS → Prop) : zX d 2 88 ls st σ Q = zB d 2 zt_2_88 ls st σ Q := zX_eq d 2 88 ls st σ Q
theorem L_2_95 (d : Nat) (ls st : List Value) (σ : MS) (Q : Option Value → MS → Prop) : zX d 2 95 ls st σ Q = zB d 2 zt_2_95 ls st σ Q := zX_eq d 2 95 ls st σ Q
theorem L_3_0 (d : Nat) (ls st : List Value) (σ : MS) (Q : Option Value → MS → Prop) : zX d 3 0 ls st σ Q = zB d 3 zt_3_0 ls st σ Q := zX_eq d 3 0 ls st σ Q
theorem L_3_2 (d : Nat) (ls st : List Value) (σ : MS) (Q : Option Value → MS → Prop) : zX d 3 2 ls st σ Q = zB d 3 zt_3_2 ls st σ Q := zX_eq d 3 2 ls st σ Q
theorem L_3_33 (d : Nat) (ls st : List Value) (σ : MS) (Q : Option Value → MS → Prop) : zX d 3 33 ls st σ Q = zB d 3 zt_3_33 ls st σ Q := zX_eq d 3 33 ls st σ Q
theorem L_3_39 (d : Nat) (ls st : List Value) (σ : MS) (Q : Option Value → MS → Prop) : zX d 3 39 ls st σ Q = zB d 3 zt_3_39 ls st σ Q := zX_eq d 3 39 ls st σ Q
theorem L_4_0 (d : Nat) (ls st : List Value) (σ : MS) (Q : Option Value → MS → Prop) : zX d 4 0 ls st σ Q = zB d 4 zt_4_0 ls st σ Q := zX_eq d 4 0 ls st σ Q
theorem L_4_7 (d : Nat) (ls st : List Value) (σ : MS) (Q : Option Value → MS → Prop) : zX d 4 7 ls st σ Q = zB d 4 zt_4_7 ls st σ Q := zX_eq d 4 7 ls st σ Q
theorem L_4_110 (d : Nat) (ls st : List Value) (σ : MS) (Q : Option Value → MS → Prop) : zX d 4 110 ls st σ Q = zB d 4 zt_4_110 ls st σ Q := zX_eq d 4 110 ls st σ Q
theorem L_4_116 (d : Nat) (ls st : List Value) (σ : MS) (Q : Option Value → MS → Prop) : zX d 4 116 ls st σ Q = zB d 4 zt_4_116 ls st σ Q := zX_eq d 4 116 ls st σ Q
theorem L_4_133 (d : Nat) (ls st : List Value) (σ : MS) (Q : Option Value → MS → Prop) : zX d 4 133 ls st σ Q = zB d 4 zt_4_133 ls st σ Q := zX_eq d 4 133 ls st σ Q
theorem L_4_164 (d : Nat) (ls st : List Value) (σ : MS) (Q : Option Value → MS → Prop) : zX d 4 164 ls st σ Q = zB d 4 zt_4_164 ls st σ Q := zX_eq d 4 164 ls st σ Q
theorem L_4_165 (d : Nat) (ls st : List Value) (σ : MS) (Q : Option Value → MS → Prop) : zX d 4 165 ls st σ Q = zB d 4 zt_4_165 ls st σ Q := zX_eq d 4 165 ls st σ Q
theorem L_4_180 (d : Nat) (ls st : List Value) (σ : MS) (Q : Option Value → MS → Prop) : zX d 4 180 ls st σ Q = zB d 4 zt_4_180 ls st σ Q := zX_eq d 4 180 ls st σ Q
theorem L_4_181 (d : Nat) (ls st : List Value) (σ : MS) (Q : Option Value → MS → Prop) : zX d 4 181 ls st σ Q = zB d 4 zt_4_181 ls st σ Q := zX_eq d 4 181 ls st σ Q
theorem L_4_189 (d : Nat) (ls st : List Value) (σ : MS) (Q : Option Value → MS → Prop) : zX d 4 189 ls st σ Q = zB d 4 zt_4_189 ls st σ Q := zX_eq d 4 189 ls st σ Q
theorem L_5_0 (d : Nat) (ls st : List Value) (σ : MS) (Q : Option Value → MS → Prop) : zX d 5 0 ls st σ Q = zB d 5 zt_5_0 ls st σ Q := zX_eq d 5 0 ls st σ Q
theorem L_5_2 (d : Nat) (ls st : List Value) (σ : MS) (Q : Option Value → MS → Prop) : zX d 5 2 ls st σ Q = zB d 5 zt_5_2 ls st σ Q := zX_eq d 5 2 ls st σ Q
theorem L_5_33 (d : Nat) (ls st : List Value) (σ : MS) (Q : Option Value → MS → Prop) : zX d 5 33 ls st σ Q = zB d 5 zt_5_33 ls st σ Q := zX_eq d 5 33 ls st σ Q
theorem L_5_39 (d : Nat) (ls st : List Value) (σ : MS) (Q : Option Value → MS → Prop) : zX d 5 39 ls st σ Q = zB d 5 zt_5_39 ls st σ Q := zX_eq d 5 39 ls st σ Q
theorem L_6_0 (d : Nat) (ls st : List Value) (σ : MS) (Q : Option Value → MS → Prop) : zX d 6 0 ls st σ Q = zB d 6 zt_6_0 ls st σ Q := zX_eq d 6 0 ls st σ Q
theorem L_6_4 (d : Nat) (ls st : List Value) (σ : MS) (Q : Option Value → MS → Prop) : zX d 6 4 ls st σ Q = zB d 6 zt_6_4 ls st σ Q := zX_eq d 6 4 ls st σ Q
theorem L_6_12 (d : Nat) (ls st : List Value) (σ : MS) (Q : Option Value → MS → Prop) : zX d 6 12 ls st σ Q = zB d 6 zt_6_12 ls st σ Q := zX_eq d 6 12 ls st σ Q
theorem L_6_58 (d : Nat) (ls st : List Value) (σ : MS) (Q : Option Value → MS → Prop) : zX d 6 58 ls st σ Q = zB d 6 zt_6_58 ls st σ Q := zX_eq d 6 58 ls st σ Q
theorem L_6_64 (d : Nat) (ls st : List Value) (σ : MS) (Q : Option Value → MS → Prop) : zX d 6 64 ls st σ Q = zB d 6 zt_6_64 ls st σ Q := zX_eq d 6 64 ls st σ Q
theorem L_6_70 (d : Nat) (ls st : List Value) (σ : MS) (Q : Option Value → MS → Prop) : zX d 6 70 ls st σ Q = zB d 6 zt_6_70 ls st σ Q := zX_eq d 6 70 ls st σ Q
theorem L_6_79 (d : Nat) (ls st : List Value) (σ : MS) (Q : Option Value → MS → Prop) : zX d 6 79 ls st σ Q = zB d 6 zt_6_79 ls st σ Q := zX_eq d 6 79 ls st σ Q
theorem L_6_112 (d : Nat) (ls st : List Value) (σ : MS) (Q : Option Value → MS → Prop) : zX d 6 112 ls st σ Q = zB d 6 zt_6_112 ls st σ Q := zX_eq d 6 112 ls st σ Q
theorem L_6_113 (d : Nat) (ls st : List Value) (σ : MS) (Q : Option Value → MS → Prop) : zX d 6 113 ls st σ Q = zB d 6 zt_6_113 ls st σ Q := zX_eq d 6 113 ls st σ Q
theorem L_6_121 (d : Nat) (ls st : List Value) (σ : MS) (Q : Option Value → MS → Prop) : zX d 6 121 ls st σ Q = zB d 6 zt_6_121 ls st σ Q := zX_eq d 6 121 ls st σ Q
theorem L_7_0 (d : Nat) (ls st : List Value) (σ : MS) (Q : Option Value → MS → Prop) : zX d 7 0 ls st σ Q = zB d 7 zt_7_0 ls st σ Q := zX_eq d 7 0 ls st σ Q
theorem L_7_11 (d : Nat) (ls st : List Value) (σ : MS) (Q : Option Value → MS → Prop) : zX d 7 11 ls st σ Q = zB d 7 zt_7_11 ls st σ Q := zX_eq d 7 11 ls st σ Q
theorem L_7_48 (d : Nat) (ls st : List Value) (σ : MS) (Q : Option Value → MS → Prop) : zX d 7 48 ls st σ Q = zB d 7 zt_7_48 ls st σ Q := zX_eq d 7 48 ls st σ Q
theorem L_8_0 (d : Nat) (ls st : List Value) (σ : MS) (Q : Option Value → MS → Prop) : zX d 8 0 ls st σ Q = zB d 8 zt_8_0 ls st σ Q := zX_eq d 8 0 ls st σ Q
theorem L_8_18 (d : Nat) (ls st : List Value) (σ : MS) (Q : Option Value → MS → Prop) : zX d 8 18 ls st σ Q = zB d 8 zt_8_18 ls st σ Q := zX_eq d 8 18 ls st σ Q
theorem L_8_39 (d : Nat) (ls st : List Value) (σ : MS) (Q : Option Value → MS → Prop) : zX d 8 39 ls st σ Q = zB d 8 zt_8_39 ls st σ Q := zX_eq d 8 39 ls st σ Q
theorem L_8_51 (d : Nat) (ls st : List Value) (σ : MS) (Q : Option Value → MS → Prop) : zX d 8 51 ls st σ Q = zB d 8 zt_8_51 ls st σ Q := zX_eq d 8 51 ls st σ Q
theorem L_8_70 (d : Nat) (ls st : List Value) (σ : MS) (Q : Option Value → MS → Prop) : zX d 8 70 ls st σ Q = zB d 8 zt_8_70 ls st σ Q := zX_eq d 8 70 ls st σ Q
theorem L_8_136 (d : Nat) (ls st : List Value) (σ : MS) (Q : Option Value → MS → Prop) : zX d 8 136 ls st σ Q = zB d 8 zt_8_136 ls st σ Q := zX_eq d 8 136 ls st σ Q
theorem L_8_142 (d : Nat) (ls st : List Value) (σ : MS) (Q : Option Value → MS → Prop) : zX d 8 142 ls st σ Q = zB d 8 zt_8_142 ls st σ Q := zX_eq d 8 142 ls st σ Q
theorem L_9_0 (d : Nat) (ls st : List Value) (σ : MS) (Q : Option Value → MS → Prop) : zX d 9 0 ls st σ Q = zB d 9 zt_9_0 ls st σ Q := zX_eq d 9 0 ls st σ Q
theorem L_10_0 (d : Nat) (ls st : List Value) (σ : MS) (Q : Option Value → MS → Prop) : zX d 10 0 ls st σ Q = zB d 10 zt_10_0 ls st σ Q := zX_eq d 10 0 ls st σ Q
theorem L_11_0 (d : Nat) (ls st : List Value) (σ : MS) (Q : Option Value → MS → Prop) : zX d 11 0 ls st σ Q = zB d 11 zt_11_0 ls st σ Q := zX_eq d 11 0 ls st σ Q
theorem L_12_0 (d : Nat) (ls st : List Value) (σ : MS) (Q : Option Value → MS → Prop) : zX d 12 0 ls st σ Q = zB d 12 zt_12_0 ls st σ Q := zX_eq d 12 0 ls st σ Q
theorem L_13_0 (d : Nat) (ls st : List Value) (σ : MS) (Q : Option Value → MS → Prop) : zX d 13 0 ls st σ Q = zB d 13 zt_13_0 ls st σ Q := zX_eq d 13 0 ls st σ Q
theorem L_13_19 (d : Nat) (ls st : List Value) (σ : MS) (Q : Option Value → MS → Prop) : zX d 13 19 ls st σ Q = zB d 13 zt_13_19 ls st σ Q := zX_eq d 13 19 ls st σ Q
theorem L_13_59 (d : Nat) (ls st : List Value) (σ : MS) (Q : Option Value → MS → Prop) : zX d 13 59 ls st σ Q = zB d 13 zt_13_59 ls st σ Q := zX_eq d 13 59 ls st σ Q
theorem L_13_63 (d : Nat) (ls st : List Value) (σ : MS) (Q : Option Value → MS → Prop) : zX d 13 63 ls st σ Q = zB d 13 zt_13_63 ls st σ Q := zX_eq d 13 63 ls st σ Q
theorem L_13_70 (d : Nat) (ls st : List Value) (σ : MS) (Q : Option Value → MS → Prop) : zX d 13 70 ls st σ Q = zB d 13 zt_13_70 ls st σ Q := zX_eq d 13 70 ls st σ Q
theorem L_13_89 (d : Nat) (ls st : List Value) (σ : MS) (Q : Option Value → MS → Prop) : zX d 13 89 ls st σ Q = zB d 13 zt_13_89 ls st σ Q := zX_eq d 13 89 ls st σ Q
theorem L_14_0 (d : Nat) (ls st : List Value) (σ : MS) (Q : Option Value → MS → Prop) : zX d 14 0 ls st σ Q = zB d 14 zt_14_0 ls st σ Q := zX_eq d 14 0 ls st σ Q
theorem L_14_16 (d : Nat) (ls st : List Value) (σ : MS) (Q : Option Value → MS → Prop) : zX d 14 16 ls st σ Q = zB d 14 zt_14_16 ls st σ Q := zX_eq d 14 16 ls st σ Q
theorem L_14_24 (d : Nat) (ls st : List Value) (σ : MS) (Q : Option Value → MS → Prop) : zX d 14 24 ls st σ Q = zB d 14 zt_14_24 ls st σ Q := zX_eq d 14 24 ls st σ Q
theorem L_14_77 (d : Nat) (ls st : List Value) (σ : MS) (Q : Option Value → MS → Prop) : zX d 14 77 ls st σ Q = zB d 14 zt_14_77 ls st σ Q := zX_eq d 14 77 ls st σ Q
theorem L_15_0 (d : Nat) (ls st : List Value) (σ : MS) (Q : Option Value → MS → Prop) : zX d 15 0 ls st σ Q = zB d 15 zt_15_0 ls st σ Q := zX_eq d 15 0 ls st σ Q
theorem L_15_35 (d : Nat) (ls st : List Value) (σ : MS) (Q : Option Value → MS → Prop) : zX d 15 35 ls st σ Q = zB d 15 zt_15_35 ls st σ Q := zX_eq d 15 35 ls st σ Q
theorem L_15_59 (d : Nat) (ls st : List Value) (σ : MS) (Q : Option Value → MS → Prop) : zX d 15 59 ls st σ Q = zB d 15 zt_15_59 ls st σ Q := zX_eq d 15 59 ls st σ Q
theorem L_15_63 (d : Nat) (ls st : List Value) (σ : MS) (Q : Option Value → MS → Prop) : zX d 15 63 ls st σ Q = zB d 15 zt_15_63 ls st σ Q := zX_eq d 15 63 ls st σ Q
theorem L_15_64 (d : Nat) (ls st : List Value) (σ : MS) (Q : Option Value → MS → Prop) : zX d 15 64 ls st σ Q = zB d 15 zt_15_64 ls st σ Q := zX_eq d 15 64 ls st σ Q
theorem L_16_0 (d : Nat) (ls st : List Value) (σ : MS) (Q : Option Value → MS → Prop) : zX d 16 0 ls st σ Q = zB d 16 zt_16_0 ls st σ Q := zX_eq d 16 0 ls st σ Q
theorem L_16_47 (d : Nat) (ls st : List Value) (σ : MS) (Q : Option Value → MS → Prop) : zX d 16 47 ls st σ Q = zB d 16 zt_16_47 ls st σ Q := zX_eq d 16 47 ls st σ Q
theorem L_16_51 (d : Nat) (ls st : List Value) (σ : MS) (Q : Option Value → MS → Prop) : zX d 16 51 ls st σ Q = zB d 16 zt_16_51 ls st σ Q := zX_eq d 16 51 ls st σ Q
theorem L_16_52 (d : Nat) (ls st : List Value) (σ : MS) (Q : Option Value → MS → Prop) : zX d 16 52 ls st σ Q = zB d 16 zt_16_52 ls st σ Q := zX_eq d 16 52 ls st σ Q
theorem L_17_0 (d : Nat) (ls st : List Value) (σ : MS) (Q : Option Value → MS → Prop) : zX d 17 0 ls st σ Q = zB d 17 zt_17_0 ls st σ Q := zX_eq d 17 0 ls st σ Q
theorem L_17_15 (d : Nat) (ls st : List Value) (σ : MS) (Q : Option Value → MS → Prop) : zX d 17 15 ls st σ Q = zB d 17 zt_17_15 ls st σ Q := zX_eq d 17 15 ls st σ Q
theorem L_17_37 (d : Nat) (ls st : List Value) (σ : MS) (Q : Option Value → MS → Prop) : zX d 17 37 ls st σ Q = zB d 17 zt_17_37 ls st σ Q := zX_eq d 17 37 ls st σ Q
theorem L_17_57 (d : Nat) (ls st : List Value) (σ : MS) (Q : Option Value → MS → Prop) : zX d 17 57 ls st σ Q = zB d 17 zt_17_57 ls st σ Q := zX_eq d 17 57 ls st σ Q
theorem L_17_66 (d : Nat) (ls st : List Value) (σ : MS) (Q : Option Value → MS → Prop) : zX d 17 66 ls st σ Q = zB d 17 zt_17_66 ls st σ Q := zX_eq d 17 66 ls st σ Q
theorem L_17_94 (d : Nat) (ls st : List Value) (σ : MS) (Q : Option Value → MS → Prop) : zX d 17 94 ls st σ Q = zB d 17 zt_17_94 ls st σ Q := zX_eq d 17 94 ls st σ Q
theorem L_17_109 (d : Nat) (ls st : List Value) (σ : MS) (Q : Option Value → MS → Prop) : zX d 17 109 ls st σ Q = zB d 17 zt_17_109 ls st σ Q := zX_eq d 17 109 ls st σ Q
theorem L_17_135 (d : Nat) (ls st : List Value) (σ : MS) (Q : Option Value → MS → Prop) : zX d 17 135 ls st σ Q = zB d 17 zt_17_135 ls st σ Q := zX_eq d 17 135 ls st σ Q
theorem L_17_136 (d : Nat) (ls st : List Value) (σ : MS) (Q : Option Value → MS → Prop) : zX d 17 136 ls st σ Q = zB d 17 zt_17_136 ls st σ Q := zX_eq d 17 136 ls st σ Q
theorem L_18_0 (d : Nat) (ls st : List Value) (σ : MS) (Q : Option Value → MS → Prop) : zX d 18 0 ls st σ Q = zB d 18 zt_18_0 ls st σ Q := zX_eq d 18 0 ls st σ Q
theorem L_18_15 (d : Nat) (ls st : List Value) (σ : MS) (Q : Option Value → MS → Prop) : zX d 18 15 ls st σ Q = zB d 18 zt_18_15 ls st σ Q := zX_eq d 18 15 ls st σ Q
theorem L_18_25 (d : Nat) (ls st : List Value) (σ : MS) (Q : Option Value → MS → Prop) : zX d 18 25 ls st σ Q = zB d 18 zt_18_25 ls st σ Q := zX_eq d 18 25 ls st σ Q
theorem L_19_0 (d : Nat) (ls st : List Value) (σ : MS) (Q : Option Value → MS → Prop) : zX d 19 0 ls st σ Q = zB d 19 zt_19_0 ls st σ Q := zX_eq d 19 0 ls st σ Q
theorem L_19_60 (d : Nat) (ls st : List Value) (σ : MS) (Q : Option Value → MS → Prop) : zX d 19 60 ls st σ Q = zB d 19 zt_19_60 ls st σ Q := zX_eq d 19 60 ls st σ Q
theorem L_19_63 (d : Nat) (ls st : List Value) (σ : MS) (Q : Option Value → MS → Prop) : zX d 19 63 ls st σ Q = zB d 19 zt_19_63 ls st σ Q := zX_eq d 19 63 ls st σ Q
theorem L_19_66 (d : Nat) (ls st : List Value) (σ : MS) (Q : Option Value → MS → Prop) : zX d 19 66 ls st σ Q = zB d 19 zt_19_66 ls st σ Q := zX_eq d 19 66 ls st σ Q
theorem L_19_69 (d : Nat) (ls st : List Value) (σ : MS) (Q : Option Value → MS → Prop) : zX d 19 69 ls st σ Q = zB d 19 zt_19_69 ls st σ Q := zX_eq d 19 69 ls st σ Q
theorem L_19_72 (d : Nat) (ls st : List Value) (σ : MS) (Q : Option Value → MS → Prop) : zX d 19 72 ls st σ Q = zB d 19 zt_19_72 ls st σ Q := zX_eq d 19 72 ls st σ Q
theorem L_19_75 (d : Nat) (ls st : List Value) (σ : MS) (Q : Option Value → MS → Prop) : zX d 19 75 ls st σ Q = zB d 19 zt_19_75 ls st σ Q := zX_eq d 19 75 ls st σ Q
theorem L_19_78 (d : Nat) (ls st : List Value) (σ : MS) (Q : Option Value → MS → Prop) : zX d 19 78 ls st σ Q = zB d 19 zt_19_78 ls st σ Q := zX_eq d 19 78 ls st σ Q
theorem L_20_0 (d : Nat) (ls st : List Value) (σ : MS) (Q : Option Value → MS → Prop) : zX d 20 0 ls st σ Q = zB d 20 zt_20_0 ls st σ Q := zX_eq d 20 0 ls st σ Q
theorem L_20_18 (d : Nat) (ls st : List Value) (σ : MS) (Q : Option Value → MS → Prop) : zX d 20 18 ls st σ Q = zB d 20 zt_20_18 ls st σ Q := zX_eq d 20 18 ls st σ Q
theorem L_20_28 (d : Nat) (ls st : List Value) (σ : MS) (Q : Option Value → MS → Prop) : zX d 20 28 ls st σ Q = zB d 20 zt_20_28 ls st σ Q := zX_eq d 20 28 ls st σ Q
theorem L_20_90 (d : Nat) (ls st : List Value) (σ : MS) (Q : Option Value → MS → Prop) : zX d 20 90 ls st σ Q = zB d 20 zt_20_90 ls st σ Q := zX_eq d 20 90 ls st σ Q
theorem L_20_119 (d : Nat) (ls st : List Value) (σ : MS) (Q : Option Value → MS → Prop) : zX d 20 119 ls st σ Q = zB d 20 zt_20_119 ls st σ Q := zX_eq d 20 119 ls st σ Q
theorem L_20_138 (d : Nat) (ls st : List Value) (σ : MS) (Q : Option Value → MS → Prop) : zX d 20 138 ls st σ Q = zB d 20 zt_20_138 ls st σ Q := zX_eq d 20 138 ls st σ Q
theorem L_20_149 (d : Nat) (ls st : List Value) (σ : MS) (Q : Option Value → MS → Prop) : zX d 20 149 ls st σ Q = zB d 20 zt_20_149 ls st σ Q := zX_eq d 20 149 ls st σ Q
theorem L_20_162 (d : Nat) (ls st : List Value) (σ : MS) (Q : Option Value → MS → Prop) : zX d 20 162 ls st σ Q = zB d 20 zt_20_162 ls st σ Q := zX_eq d 20 162 ls st σ Q
theorem L_21_0 (d : Nat) (ls st : List Value) (σ : MS) (Q : Option Value → MS → Prop) : zX d 21 0 ls st σ Q = zB d 21 zt_21_0 ls st σ Q := zX_eq d 21 0 ls st σ Q
theorem L_21_52 (d : Nat) (ls st : List Value) (σ : MS) (Q : Option Value → MS → Prop) : zX d 21 52 ls st σ Q = zB d 21 zt_21_52 ls st σ Q := zX_eq d 21 52 ls st σ Q
theorem L_21_83 (d : Nat) (ls st : List Value) (σ : MS) (Q : Option Value → MS → Prop) : zX d 21 83 ls st σ Q = zB d 21 zt_21_83 ls st σ Q := zX_eq d 21 83 ls st σ Q
theorem L_21_84 (d : Nat) (ls st : List Value) (σ : MS) (Q : Option Value → MS → Prop) : zX d 21 84 ls st σ Q = zB d 21 zt_21_84 ls st σ Q := zX_eq d 21 84 ls st σ Q
theorem L_21_85 (d : Nat) (ls st : List Value) (σ : MS) (Q : Option Value → MS → Prop) : zX d 21 85 ls st σ Q = zB d 21 zt_21_85 ls st σ Q := zX_eq d 21 85 ls st σ Q
theorem L_21_116 (d : Nat) (ls st : List Value) (σ : MS) (Q : Option Value → MS → Prop) : zX d 21 116 ls st σ Q = zB d 21 zt_21_116 ls st σ Q := zX_eq d 21 116 ls st σ Q
theorem L_21_117 (d : Nat) (ls st : List Value) (σ : MS) (Q : Option Value → MS → Prop) : zX d 21 117 ls st σ Q = zB d 21 zt_21_117 ls st σ Q := zX_eq d 21 117 ls st σ Q
theorem L_21_118 (d : Nat) (ls st : List Value) (σ : MS) (Q : Option Value → MS → Prop) : zX d 21 118 ls st σ Q = zB d 21 zt_21_118 ls st σ Q := zX_eq d 21 118 ls st σ Q
theorem L_21_148 (d : Nat) (ls st : List Value) (σ : MS) (Q : Option Value → MS → Prop) : zX d 21 148 ls st σ Q = zB d 21 zt_21_148 ls st σ Q := zX_eq d 21 148 ls st σ Q
theorem L_21_149 (d : Nat) (ls st : List Value) (σ : MS) (Q : Option Value → MS → Prop) : zX d 21 149 ls st σ Q = zB d 21 zt_21_149 ls st σ Q := zX_eq d 21 149 ls st σ Q
theorem L_21_150 (d : Nat) (ls st : List Value) (σ : MS) (Q : Option Value → MS → Prop) : zX d 21 150 ls st σ Q = zB d 21 zt_21_150 ls st σ Q := zX_eq d 21 150 ls st σ Q
theorem L_21_173 (d : Nat) (ls st : List Value) (σ : MS) (Q : Option Value → MS → Prop) : zX d 21 173 ls st σ Q = zB d 21 zt_21_173 ls st σ Q := zX_eq d 21 173 ls st σ Q
theorem L_21_174 (d : Nat) (ls st : List Value) (σ : MS) (Q : Option Value → MS → Prop) : zX d 21 174 ls st σ Q = zB d 21 zt_21_174 ls st σ Q := zX_eq d 21 174 ls st σ Q
theorem L_21_175 (d : Nat) (ls st : List Value) (σ : MS) (Q : Option Value → MS → Prop) : zX d 21 175 ls st σ Q = zB d 21 zt_21_175 ls st σ Q := zX_eq d 21 175 ls st σ Q
theorem L_21_180 (d : Nat) (ls st : List Value) (σ : MS) (Q : Option Value → MS → Prop) : zX d 21 180 ls st σ Q = zB d 21 zt_21_180 ls st σ Q := zX_eq d 21 180 ls st σ Q
theorem L_21_204 (d : Nat) (ls st : List Value) (σ : MS) (Q : Option Value → MS → Prop) : zX d 21 204 ls st σ Q = zB d 21 zt_21_204 ls st σ Q := zX_eq d 21 204 ls st σ Q
theorem L_21_205 (d : Nat) (ls st : List Value) (σ : MS) (Q : Option Value → MS → Prop) : zX d 21 205 ls st σ Q = zB d 21 zt_21_205 ls st σ Q := zX_eq d 21 205 ls st σ Q
theorem L_22_0 (d : Nat) (ls st : List Value) (σ : MS) (Q : Option Value → MS → Prop) : zX d 22 0 ls st σ Q = zB d 22 zt_22_0 ls st σ Q := zX_eq d 22 0 ls st σ Q
theorem L_22_14 (d : Nat) (ls st : List Value) (σ : MS) (Q : Option Value → MS → Prop) : zX d 22 14 ls st σ Q = zB d 22 zt_22_14 ls st σ Q := zX_eq d 22 14 ls st σ Q
theorem L_23_0 (d : Nat) (ls st : List Value) (σ : MS) (Q : Option Value → MS → Prop) : zX d 23 0 ls st σ Q = zB d 23 zt_23_0 ls st σ Q := zX_eq d 23 0 ls st σ Q
theorem L_23_31 (d : Nat) (ls st : List Value) (σ : MS) (Q : Option Value → MS → Prop) : zX d 23 31 ls st σ Q = zB d 23 zt_23_31 ls st σ Q := zX_eq d 23 31 ls st σ Q
theorem L_24_0 (d : Nat) (ls st : List Value) (σ : MS) (Q : Option Value → MS → Prop) : zX d 24 0 ls st σ Q = zB d 24 zt_24_0 ls st σ Q := zX_eq d 24 0 ls st σ Q
theorem L_25_0 (d : Nat) (ls st : List Value) (σ : MS) (Q : Option Value → MS → Prop) : zX d 25 0 ls st σ Q = zB d 25 zt_25_0 ls st σ Q := zX_eq d 25 0 ls st σ Q
theorem L_25_64 (d : Nat) (ls st : List Value) (σ : MS) (Q : Option Value → MS → Prop) : zX d 25 64 ls st σ Q = zB d 25 zt_25_64 ls st σ Q := zX_eq d 25 64 ls st σ Q
theorem L_25_75 (d : Nat) (ls st : List Value) (σ : MS) (Q : Option Value → MS → Prop) : zX d 25 75 ls st σ Q = zB d 25 zt_25_75 ls st σ Q := zX_eq d 25 75 ls st σ Q
theorem L_25_162 (d : Nat) (ls st : List Value) (σ : MS) (Q : Option Value → MS → Prop) : zX d 25 162 ls st σ Q = zB d 25 zt_25_162 ls st σ Q := zX_eq d 25 162 ls st σ Q
theorem L_25_168 (d : Nat) (ls st : List Value) (σ : MS) (Q : Option Value → MS → Prop) : zX d 25 168 ls st σ Q = zB d 25 zt_25_168 ls st σ Q := zX_eq d 25 168 ls st σ Q
theorem L_26_0 (d : Nat) (ls st : List Value) (σ : MS) (Q : Option Value → MS → Prop) : zX d 26 0 ls st σ Q = zB d 26 zt_26_0 ls st σ Q := zX_eq d 26 0 ls st σ Q
theorem L_27_0 (d : Nat) (ls st : List Value) (σ : MS) (Q : Option Value → MS → Prop) : zX d 27 0 ls st σ Q = zB d 27 zt_27_0 ls st σ Q := zX_eq d 27 0 ls st σ Q
theorem L_27_9 (d : Nat) (ls st : List Value) (σ : MS) (Q : Option Value → MS → Prop) : zX d 27 9 ls st σ Q = zB d 27 zt_27_9 ls st σ Q := zX_eq d 27 9 ls st σ Q
theorem L_27_11 (d : Nat) (ls st : List Value) (σ : MS) (Q : Option Value → MS → Prop) : zX d 27 11 ls st σ Q = zB d 27 zt_27_11 ls st σ Q := zX_eq d 27 11 ls st σ Q
theorem L_27_23 (d : Nat) (ls st : List Value) (σ : MS) (Q : Option Value → MS → Prop) : zX d 27 23 ls st σ Q = zB d 27 zt_27_23 ls st σ Q := zX_eq d 27 23 ls st σ Q
theorem L_27_24 (d : Nat) (ls st : List Value) (σ : MS) (Q : Option Value → MS → Prop) : zX d 27 24 ls st σ Q = zB d 27 zt_27_24 ls st σ Q := zX_eq d 27 24 ls st σ Q
theorem L_27_45 (d : Nat) (ls st : List Value) (σ : MS) (Q : Option Value → MS → Prop) : zX d 27 45 ls st σ Q = zB d 27 zt_27_45 ls st σ Q := zX_eq d 27 45 ls st σ Q
theorem L_27_73 (d : Nat) (ls st : List Value) (σ : MS) (Q : Option Value → MS → Prop) : zX d 27 73 ls st σ Q = zB d 27 zt_27_73 ls st σ Q := zX_eq d 27 73 ls st σ Q
theorem L_27_75 (d : Nat) (ls st : List Value) (σ : MS) (Q : Option Value → MS → Prop) : zX d 27 75 ls st σ Q = zB d 27 zt_27_75 ls st σ Q := zX_eq d 27 75 ls st σ Q
theorem L_27_86 (d : Nat) (ls st : List Value) (σ : MS) (Q : Option Value → MS → Prop) : zX d 27 86 ls st σ Q = zB d 27 zt_27_86 ls st σ Q := zX_eq d 27 86 ls st σ Q
theorem L_27_93 (d : Nat) (ls st : List Value) (σ : MS) (Q : Option Value → MS → Prop) : zX d 27 93 ls st σ Q = zB d 27 zt_27_93 ls st σ Q := zX_eq d 27 93 ls st σ Q
theorem L_27_105 (d : Nat) (ls st : List Value) (σ : MS) (Q : Option Value → MS → Prop) : zX d 27 105 ls st σ Q = zB d 27 zt_27_105 ls st σ Q := zX_eq d 27 105 ls st σ Q
theorem L_27_183 (d : Nat) (ls st : List Value) (σ : MS) (Q : Option Value → MS → Prop) : zX d 27 183 ls st σ Q = zB d 27 zt_27_183 ls st σ Q := zX_eq d 27 183 ls st σ Q
theorem L_27_184 (d : Nat) (ls st : List Value) (σ : MS) (Q : Option Value → MS → Prop) : zX d 27 184 ls st σ Q = zB d 27 zt_27_184 ls st σ Q := zX_eq d 27 184 ls st σ Q
theorem L_27_203 (d : Nat) (ls st : List Value) (σ : MS) (Q : Option Value → MS → Prop) : zX d 27 203 ls st σ Q = zB d 27 zt_27_203 ls st σ Q := zX_eq d 27 203 ls st σ Q
theorem L_27_217 (d : Nat) (ls st : List Value) (σ : MS) (Q : Option Value → MS → Prop) : zX d 27 217 ls st σ Q = zB d 27 zt_27_217 ls st σ Q := zX_eq d 27 217 ls st σ Q
theorem L_27_224 (d : Nat) (ls st : List Value) (σ : MS) (Q : Option Value → MS → Prop) : zX d 27 224 ls st σ Q = zB d 27 zt_27_224 ls st σ Q := zX_eq d 27 224 ls st σ Q
theorem L_27_226 (d : Nat) (ls st : List Value) (σ : MS) (Q : Option Value → MS → Prop) : zX d 27 226 ls st σ Q = zB d 27 zt_27_226 ls st σ Q := zX_eq d 27 226 ls st σ Q
theorem L_27_232 (d : Nat) (ls st : List Value) (σ : MS) (Q : Option Value → MS → Prop) : zX d 27 232 ls st σ Q = zB d 27 zt_27_232 ls st σ Q := zX_eq d 27 232 ls st σ Q
theorem L_28_0 (d : Nat) (ls st : List Value) (σ : MS) (Q : Option Value → MS → Prop) : zX d 28 0 ls st σ Q = zB d 28 zt_28_0 ls st σ Q := zX_eq d 28 0 ls st σ Q
theorem L_28_42 (d : Nat) (ls st : List Value) (σ : MS) (Q : Option Value → MS → Prop) : zX d 28 42 ls st σ Q = zB d 28 zt_28_42 ls st σ Q := zX_eq d 28 42 ls st σ Q
theorem L_28_46 (d : Nat) (ls st : List Value) (σ : MS) (Q : Option Value → MS → Prop) : zX d 28 46 ls st σ Q = zB d 28 zt_28_46 ls st σ Q := zX_eq d 28 46 ls st σ Q
theorem L_28_47 (d : Nat) (ls st : List Value) (σ : MS) (Q : Option Value → MS → Prop) : zX d 28 47 ls st σ Q = zB d 28 zt_28_47 ls st σ Q := zX_eq d 28 47 ls st σ Q
theorem L_29_0 (d : Nat) (ls st : List Value) (σ : MS) (Q : Option Value → MS → Prop) : zX d 29 0 ls st σ Q = zB d 29 zt_29_0 ls st σ Q := zX_eq d 29 0 ls st σ Q
theorem L_30_0 (d : Nat) (ls st : List Value) (σ : MS) (Q : Option Value → MS → Prop) : zX d 30 0 ls st σ Q = zB d 30 zt_30_0 ls st σ Q := zX_eq d 30 0 ls st σ Q
theorem L_31_0 (d : Nat) (ls st : List Value) (σ : MS) (Q : Option Value → MS → Prop) : zX d 31 0 ls st σ Q = zB d 31 zt_31_0 ls st σ Q := zX_eq d 31 0 ls st σ Q
theorem L_32_0 (d : Nat) (ls st : List Value) (σ : MS) (Q : Option Value → MS → Prop) : zX d 32 0 ls st σ Q = zB d 32 zt_32_0 ls st σ Q := zX_eq d 32 0 ls st σ Q
theorem L_32_6 (d : Nat) (ls st : List Value) (σ : MS) (Q : Option Value → MS → Prop) : zX d 32 6 ls st σ Q = zB d 32 zt_32_6 ls st σ Q := zX_eq d 32 6 ls st σ Q
theorem L_32_12 (d : Nat) (ls st : List Value) (σ : MS) (Q : Option Value → MS → Prop) : zX d 32 12 ls st σ Q = zB d 32 zt_32_12 ls st σ Q := zX_eq d 32 12 ls st σ Q
theorem L_32_67 (d : Nat) (ls st : List Value) (σ : MS) (Q : Option Value → MS → Prop) : zX d 32 67 ls st σ Q = zB d 32 zt_32_67 ls st σ Q := zX_eq d 32 67 ls st σ Q
theorem L_32_96 (d : Nat) (ls st : List Value) (σ : MS) (Q : Option Value → MS → Prop) : zX d 32 96 ls st σ Q = zB d 32 zt_32_96 ls st σ Q := zX_eq d 32 96 ls st σ Q
theorem L_32_102 (d : Nat) (ls st : List Value) (σ : MS) (Q : Option Value → MS → Prop) : zX d 32 102 ls st σ Q = zB d 32 zt_32_102 ls st σ Q := zX_eq d 32 102 ls st σ Q
theorem L_33_0 (d : Nat) (ls st : List Value) (σ : MS) (Q : Option Value → MS → Prop) : zX d 33 0 ls st σ Q = zB d 33 zt_33_0 ls st σ Q := zX_eq d 33 0 ls st σ Q
theorem L_33_100 (d : Nat) (ls st : List Value) (σ : MS) (Q : Option Value → MS → Prop) : zX d 33 100 ls st σ Q = zB d 33 zt_33_100 ls st σ Q := zX_eq d 33 100 ls st σ Q
theorem L_33_103 (d : Nat) (ls st : List Value) (σ : MS) (Q : Option Value → MS → Prop) : zX d 33 103 ls st σ Q = zB d 33 zt_33_103 ls st σ Q := zX_eq d 33 103 ls st σ Q
theorem L_33_148 (d : Nat) (ls st : List Value) (σ : MS) (Q : Option Value → MS → Prop) : zX d 33 148 ls st σ Q = zB d 33 zt_33_148 ls st σ Q := zX_eq d 33 148 ls st σ Q
theorem L_33_151 (d : Nat) (ls st : List Value) (σ : MS) (Q : Option Value → MS → Prop) : zX d 33 151 ls st σ Q = zB d 33 zt_33_151 ls st σ Q := zX_eq d 33 151 ls st σ Q
theorem L_33_192 (d : Nat) (ls st : List Value) (σ : MS) (Q : Option Value → MS → Prop) : zX d 33 192 ls st σ Q = zB d 33 zt_33_192 ls st σ Q := zX_eq d 33 192 ls st σ Q
theorem L_33_200 (d : Nat) (ls st : List Value) (σ : MS) (Q : Option Value → MS → Prop) : zX d 33 200 ls st σ Q = zB d 33 zt_33_200 ls st σ Q := zX_eq d 33 200 ls st σ Q
theorem L_33_211 (d : Nat) (ls st : List Value) (σ : MS) (Q : Option Value → MS → Prop) : zX d 33 211 ls st σ Q = zB d 33 zt_33_211 ls st σ Q := zX_eq d 33 211 ls st σ Q
theorem L_33_221 (d : Nat) (ls st : List Value) (σ : MS) (Q : Option Value → MS → Prop) : zX d 33 221 ls st σ Q = zB d 33 zt_33_221 ls st σ Q := zX_eq d 33 221 ls st σ Q
theorem L_33_231 (d : Nat) (ls st : List Value) (σ : MS) (Q : Option Value → MS → Prop) : zX d 33 231 ls st σ Q = zB d 33 zt_33_231 ls st σ Q := zX_eq d 33 231 ls st σ Q
theorem L_33_246 (d : Nat) (ls st : List Value) (σ : MS) (Q : Option Value → MS → Prop) : zX d 33 246 ls st σ Q = zB d 33 zt_33_246 ls st σ Q := zX_eq d 33 246 ls st σ Q
theorem L_33_284 (d : Nat) (ls st : List Value) (σ : MS) (Q : Option Value → MS → Prop) : zX d 33 284 ls st σ Q = zB d 33 zt_33_284 ls st σ Q := zX_eq d 33 284 ls st σ Q
theorem L_33_285 (d : Nat) (ls st : List Value) (σ : MS) (Q : Option Value → MS → Prop) : zX d 33 285 ls st σ Q = zB d 33 zt_33_285 ls st σ Q := zX_eq d 33 285 ls st σ Q
theorem L_33_301 (d : Nat) (ls st : List Value) (σ : MS) (Q : Option Value → MS → Prop) : zX d 33 301 ls st σ Q = zB d 33 zt_33_301 ls st σ Q := zX_eq d 33 301 ls st σ Q
theorem L_33_302 (d : Nat) (ls st : List Value) (σ : MS) (Q : Option Value → MS → Prop) : zX d 33 302 ls st σ Q = zB d 33 zt_33_302 ls st σ Q := zX_eq d 33 302 ls st σ Q
theorem L_33_309 (d : Nat) (ls st : List Value) (σ : MS) (Q : Option Value → MS → Prop) : zX d 33 309 ls st σ Q = zB d 33 zt_33_309 ls st σ Q := zX_eq d 33 309 ls st σ Q
theorem L_33_318 (d : Nat) (ls st : List Value) (σ : MS) (Q : Option Value → MS → Prop) : zX d 33 318 ls st σ Q = zB d 33 zt_33_318 ls st σ Q := zX_eq d 33 318 ls st σ Q
theorem L_33_333 (d : Nat) (ls st : List Value) (σ : MS) (Q : Option Value → MS → Prop) : zX d 33 333 ls st σ Q = zB d 33 zt_33_333 ls st σ Q := zX_eq d 33 333 ls st σ Q
theorem L_34_0 (d : Nat) (ls st : List Value) (σ : MS) (Q : Option Value → MS → Prop) : zX d 34 0 ls st σ Q = zB d 34 zt_34_0 ls st σ Q := zX_eq d 34 0 ls st σ Q
theorem L_34_15 (d : Nat) (ls st : List Value) (σ : MS) (Q : Option Value → MS → Prop) : zX d 34 15 ls st σ Q = zB d 34 zt_34_15 ls st σ Q := zX_eq d 34 15 ls st σ Q
theorem L_34_51 (d : Nat) (ls st : List Value) (σ : MS) (Q : Option Value → MS → Prop) : zX d 34 51 ls st σ Q = zB d 34 zt_34_51 ls st σ Q := zX_eq d 34 51 ls st σ Q
theorem L_34_52 (d : Nat) (ls st : List Value) (σ : MS) (Q : Option Value → MS → Prop) : zX d 34 52 ls st σ Q = zB d 34 zt_34_52 ls st σ Q := zX_eq d 34 52 ls st σ Q
theorem L_34_53 (d : Nat) (ls st : List Value) (σ : MS) (Q : Option Value → MS → Prop) : zX d 34 53 ls st σ Q = zB d 34 zt_34_53 ls st σ Q := zX_eq d 34 53 ls st σ Q
theorem L_34_78 (d : Nat) (ls st : List Value) (σ : MS) (Q : Option Value → MS → Prop) : zX d 34 78 ls st σ Q = zB d 34 zt_34_78 ls st σ Q := zX_eq d 34 78 ls st σ Q
theorem L_34_79 (d : Nat) (ls st : List Value) (σ : MS) (Q : Option Value → MS → Prop) : zX d 34 79 ls st σ Q = zB d 34 zt_34_79 ls st σ Q := zX_eq d 34 79 ls st σ Q
theorem L_34_80 (d : Nat) (ls st : List Value) (σ : MS) (Q : Option Value → MS → Prop) : zX d 34 80 ls st σ Q = zB d 34 zt_34_80 ls st σ Q := zX_eq d 34 80 ls st σ Q
theorem L_34_96 (d : Nat) (ls st : List Value) (σ : MS) (Q : Option Value → MS → Prop) : zX d 34 96 ls st σ Q = zB d 34 zt_34_96 ls st σ Q := zX_eq d 34 96 ls st σ Q
theorem L_34_100 (d : Nat) (ls st : List Value) (σ : MS) (Q : Option Value → MS → Prop) : zX d 34 100 ls st σ Q = zB d 34 zt_34_100 ls st σ Q := zX_eq d 34 100 ls st σ Q
theorem L_34_110 (d : Nat) (ls st : List Value) (σ : MS) (Q : Option Value → MS → Prop) : zX d 34 110 ls st σ Q = zB d 34 zt_34_110 ls st σ Q := zX_eq d 34 110 ls st σ Q
theorem L_34_111 (d : Nat) (ls st : List Value) (σ : MS) (Q : Option Value → MS → Prop) : zX d 34 111 ls st σ Q = zB d 34 zt_34_111 ls st σ Q := zX_eq d 34 111 ls st σ Q
theorem L_35_0 (d : Nat) (ls st : List Value) (σ : MS) (Q : Option Value → MS → Prop) : zX d 35 0 ls st σ Q = zB d 35 zt_35_0 ls st σ Q := zX_eq d 35 0 ls st σ Q
theorem L_35_25 (d : Nat) (ls st : List Value) (σ : MS) (Q : Option Value → MS → Prop) : zX d 35 25 ls st σ Q = zB d 35 zt_35_25 ls st σ Q := zX_eq d 35 25 ls st σ Q
theorem L_35_27 (d : Nat) (ls st : List Value) (σ : MS) (Q : Option Value → MS → Prop) : zX d 35 27 ls st σ Q = zB d 35 zt_35_27 ls st σ Q := zX_eq d 35 27 ls st σ Q
theorem L_36_0 (d : Nat) (ls st : List Value) (σ : MS) (Q : Option Value → MS → Prop) : zX d 36 0 ls st σ Q = zB d 36 zt_36_0 ls st σ Q := zX_eq d 36 0 ls st σ Q
theorem L_36_14 (d : Nat) (ls st : List Value) (σ : MS) (Q : Option Value → MS → Prop) : zX d 36 14 ls st σ Q = zB d 36 zt_36_14 ls st σ Q := zX_eq d 36 14 ls st σ Q
theorem L_37_0 (d : Nat) (ls st : List Value) (σ : MS) (Q : Option Value → MS → Prop) : zX d 37 0 ls st σ Q = zB d 37 zt_37_0 ls st σ Q := zX_eq d 37 0 ls st σ Q
theorem L_37_13 (d : Nat) (ls st : List Value) (σ : MS) (Q : Option Value → MS → Prop) : zX d 37 13 ls st σ Q = zB d 37 zt_37_13 ls st σ Q := zX_eq d 37 13 ls st σ Q
theorem L_37_67 (d : Nat) (ls st : List Value) (σ : MS) (Q : Option Value → MS → Prop) : zX d 37 67 ls st σ Q = zB d 37 zt_37_67 ls st σ Q := zX_eq d 37 67 ls st σ Q
theorem L_37_72 (d : Nat) (ls st : List Value) (σ : MS) (Q : Option Value → MS → Prop) : zX d 37 72 ls st σ Q = zB d 37 zt_37_72 ls st σ Q := zX_eq d 37 72 ls st σ Q
theorem L_38_0 (d : Nat) (ls st : List Value) (σ : MS) (Q : Option Value → MS → Prop) : zX d 38 0 ls st σ Q = zB d 38 zt_38_0 ls st σ Q := zX_eq d 38 0 ls st σ Q
theorem L_39_0 (d : Nat) (ls st : List Value) (σ : MS) (Q : Option Value → MS → Prop) : zX d 39 0 ls st σ Q = zB d 39 zt_39_0 ls st σ Q := zX_eq d 39 0 ls st σ Q
theorem L_40_0 (d : Nat) (ls st : List Value) (σ : MS) (Q : Option Value → MS → Prop) : zX d 40 0 ls st σ Q = zB d 40 zt_40_0 ls st σ Q := zX_eq d 40 0 ls st σ Q
theorem L_41_0 (d : Nat) (ls st : List Value) (σ : MS) (Q : Option Value → MS → Prop) : zX d 41 0 ls st σ Q = zB d 41 zt_41_0 ls st σ Q := zX_eq d 41 0 ls st σ Q
theorem L_41_49 (d : Nat) (ls st : List Value) (σ : MS) (Q : Option Value → MS → Prop) : zX d 41 49 ls st σ Q = zB d 41 zt_41_49 ls st σ Q := zX_eq d 41 49 ls st σ Q
theorem L_41_60 (d : Nat) (ls st : List Value) (σ : MS) (Q : Option Value → MS → Prop) : zX d 41 60 ls st σ Q = zB d 41 zt_41_60 ls st σ Q := zX_eq d 41 60 ls st σ Q
theorem L_41_102 (d : Nat) (ls st : List Value) (σ : MS) (Q : Option Value → MS → Prop) : zX d 41 102 ls st σ Q = zB d 41 zt_41_102 ls st σ Q := zX_eq d 41 102 ls st σ Q
theorem L_41_103 (d : Nat) (ls st : List Value) (σ : MS) (Q : Option Value → MS → Prop) : zX d 41 103 ls st σ Q = zB d 41 zt_41_103 ls st σ Q := zX_eq d 41 103 ls st σ Q
theorem L_41_126 (d : Nat) (ls st : List Value) (σ : MS) (Q : Option Value → MS → Prop) : zX d 41 126 ls st σ Q = zB d 41 zt_41_126 ls st σ Q := zX_eq d 41 126 ls st σ Q
theorem L_41_127 (d : Nat) (ls st : List Value) (σ : MS) (Q : Option Value → MS → Prop) : zX d 41 127 ls st σ Q = zB d 41 zt_41_127 ls st σ Q := zX_eq d 41 127 ls st σ Q
theorem L_41_156 (d : Nat) (ls st : List Value) (σ : MS) (Q : Option Value → MS → Prop) : zX d 41 156 ls st σ Q = zB d 41 zt_41_156 ls st σ Q := zX_eq d 41 156 ls st σ Q
theorem L_41_157 (d : Nat) (ls st : List Value) (σ : MS) (Q : Option Value → MS → Prop) : zX d 41 157 ls st σ Q = zB d 41 zt_41_157 ls st σ Q := zX_eq d 41 157 ls st σ Q
theorem L_41_188 (d : Nat) (ls st : List Value) (σ : MS) (Q : Option Value → MS → Prop) : zX d 41 188 ls st σ Q = zB d 41 zt_41_188 ls st σ Q := zX_eq d 41 188 ls st σ Q
theorem L_41_189 (d : Nat) (ls st : List Value) (σ : MS) (Q : Option Value → MS → Prop) : zX d 41 189 ls st σ Q = zB d 41 zt_41_189 ls st σ Q := zX_eq d 41 189 ls st σ Q
theorem L_41_196 (d : Nat) (ls st : List Value) (σ : MS) (Q : Option Value → MS → Prop) : zX d 41 196 ls st σ Q = zB d 41 zt_41_196 ls st σ Q := zX_eq d 41 196 ls st σ Q
theorem L_41_202 (d : Nat) (ls st : List Value) (σ : MS) (Q : Option Value → MS → Prop) : zX d 41 202 ls st σ Q = zB d 41 zt_41_202 ls st σ Q := zX_eq d 41 202 ls st σ Q
theorem L_42_0 (d : Nat) (ls st : List Value) (σ : MS) (Q : Option Value → MS → Prop) : zX d 42 0 ls st σ Q = zB d 42 zt_42_0 ls st σ Q := zX_eq d 42 0 ls st σ Q
theorem L_42_22 (d : Nat) (ls st : List Value) (σ : MS) (Q : Option Value → MS → Prop) : zX d 42 22 ls st σ Q = zB d 42 zt_42_22 ls st σ Q := zX_eq d 42 22 ls st σ Q
theorem L_42_23 (d : Nat) (ls st : List Value) (σ : MS) (Q : Option Value → MS → Prop) : zX d 42 23 ls st σ Q = zB d 42 zt_42_23 ls st σ Q := zX_eq d 42 23 ls st σ Q
theorem L_43_0 (d : Nat) (ls st : List Value) (σ : MS) (Q : Option Value → MS → Prop) : zX d 43 0 ls st σ Q = zB d 43 zt_43_0 ls st σ Q := zX_eq d 43 0 ls st σ Q
theorem L_43_22 (d : Nat) (ls st : List Value) (σ : MS) (Q : Option Value → MS → Prop) : zX d 43 22 ls st σ Q = zB d 43 zt_43_22 ls st σ Q := zX_eq d 43 22 ls st σ Q
theorem L_43_23 (d : Nat) (ls st : List Value) (σ : MS) (Q : Option Value → MS → Prop) : zX d 43 23 ls st σ Q = zB d 43 zt_43_23 ls st σ Q := zX_eq d 43 23 ls st σ Q
theorem L_44_0 (d : Nat) (ls st : List Value) (σ : MS) (Q : Option Value → MS → Prop) : zX d 44 0 ls st σ Q = zB d 44 zt_44_0 ls st σ Q := zX_eq d 44 0 ls st σ Q
theorem L_44_21 (d : Nat) (ls st : List Value) (σ : MS) (Q : Option Value → MS → Prop) : zX d 44 21 ls st σ Q = zB d 44 zt_44_21 ls st σ Q := zX_eq d 44 21 ls st σ Q
theorem L_44_22 (d : Nat) (ls st : List Value) (σ : MS) (Q : Option Value → MS → Prop) : zX d 44 22 ls st σ Q = zB d 44 zt_44_22 ls st σ Q := zX_eq d 44 22 ls st σ Q
theorem L_45_0 (d : Nat) (ls st : List Value) (σ : MS) (Q : Option Value → MS → Prop) : zX d 45 0 ls st σ Q = zB d 45 zt_45_0 ls st σ Q := zX_eq d 45 0 ls st σ Q
theorem L_45_22 (d : Nat) (ls st : List Value) (σ : MS) (Q : Option Value → MS → Prop) : zX d 45 22 ls st σ Q = zB d 45 zt_45_22 ls st σ Q := zX_eq d 45 22 ls st σ Q
theorem L_45_23 (d : Nat) (ls st : List Value) (σ : MS) (Q : Option Value → MS → Prop) : zX d 45 23 ls st σ Q = zB d 45 zt_45_23 ls st σ Q := zX_eq d 45 23 ls st σ Q
theorem L_46_0 (d : Nat) (ls st : List Value) (σ : MS) (Q : Option Value → MS → Prop) : zX d 46 0 ls st σ Q = zB d 46 zt_46_0 ls st σ Q := zX_eq d 46 0 ls st σ Q
theorem L_46_18 (d : Nat) (ls st : List Value) (σ : MS) (Q : Option Value → MS → Prop) : zX d 46 18 ls st σ Q = zB d 46 zt_46_18 ls st σ Q := zX_eq d 46 18 ls st σ Q
theorem L_46_19 (d : Nat) (ls st : List Value) (σ : MS) (Q : Option Value → MS → Prop) : zX d 46 19 ls st σ Q = zB d 46 zt_46_19 ls st σ Q := zX_eq d 46 19 ls st σ Q
theorem L_47_0 (d : Nat) (ls st : List Value) (σ : MS) (Q : Option Value → MS → Prop) : zX d 47 0 ls st σ Q = zB d 47 zt_47_0 ls st σ Q := zX_eq d 47 0 ls st σ Q
theorem L_47_18 (d : Nat) (ls st : List Value) (σ : MS) (Q : Option Value → MS → Prop) : zX d 47 18 ls st σ Q = zB d 47 zt_47_18 ls st σ Q := zX_eq d 47 18 ls st σ Q
theorem L_47_19 (d : Nat) (ls st : List Value) (σ : MS) (Q : Option Value → MS → Prop) : zX d 47 19 ls st σ Q = zB d 47 zt_47_19 ls st σ Q := zX_eq d 47 19 ls st σ Q
theorem L_48_0 (d : Nat) (ls st : List Value) (σ : MS) (Q : Option Value → MS → Prop) : zX d 48 0 ls st σ Q = zB d 48 zt_48_0 ls st σ Q := zX_eq d 48 0 ls st σ Q
theorem L_48_32 (d : Nat) (ls st : List Value) (σ : MS) (Q : Option Value → MS → Prop) : zX d 48 32 ls st σ Q = zB d 48 zt_48_32 ls st σ Q := zX_eq d 48 32 ls st σ Q
theorem L_48_33 (d : Nat) (ls st : List Value) (σ : MS) (Q : Option Value → MS → Prop) : zX d 48 33 ls st σ Q = zB d 48 zt_48_33 ls st σ Q := zX_eq d 48 33 ls st σ Q
theorem L_49_0 (d : Nat) (ls st : List Value) (σ : MS) (Q : Option Value → MS → Prop) : zX d 49 0 ls st σ Q = zB d 49 zt_49_0 ls st σ Q := zX_eq d 49 0 ls st σ Q
theorem L_49_11 (d : Nat) (ls st : List Value) (σ : MS) (Q : Option Value → MS → Prop) : zX d 49 11 ls st σ Q = zB d 49 zt_49_11 ls st σ Q := zX_eq d 49 11 ls st σ Q
theorem L_50_0 (d : Nat) (ls st : List Value) (σ : MS) (Q : Option Value → MS → Prop) : zX d 50 0 ls st σ Q = zB d 50 zt_50_0 ls st σ Q := zX_eq d 50 0 ls st σ Q
theorem L_50_11 (d : Nat) (ls st : List Value) (σ : MS) (Q : Option Value → MS → Prop) : zX d 50 11 ls st σ Q = zB d 50 zt_50_11 ls st σ Q := zX_eq d 50 11 ls st σ Q
theorem L_51_0 (d : Nat) (ls st : List Value) (σ : MS) (Q : Option Value → MS → Prop) : zX d 51 0 ls st σ Q = zB d 51 zt_51_0 ls st σ Q := zX_eq d 51 0 ls st σ Q
theorem L_51_10 (d : Nat) (ls st : List Value) (σ : MS) (Q : Option Value → MS → Prop) : zX d 51 10 ls st σ Q = zB d 51 zt_51_10 ls st σ Q := zX_eq d 51 10 ls st σ Q
theorem L_52_0 (d : Nat) (ls st : List Value) (σ : MS) (Q : Option Value → MS → Prop) : zX d 52 0 ls st σ Q = zB d 52 zt_52_0 ls st σ Q := zX_eq d 52 0 ls st σ Q
theorem L_53_0 (d : Nat) (ls st : List Value) (σ : MS) (Q : Option Value → MS → Prop) : zX d 53 0 ls st σ Q = zB d 53 zt_53_0 ls st σ Q := zX_eq d 53 0 ls st σ Q
theorem L_54_0 (d : Nat) (ls st : List Value) (σ : MS) (Q : Option Value → MS → Prop) : zX d 54 0 ls st σ Q = zB d 54 zt_54_0 ls st σ Q := zX_eq d 54 0 ls st σ Q
theorem L_55_0 (d : Nat) (ls st : List Value) (σ : MS) (Q : Option Value → MS → Prop) : zX d 55 0 ls st σ Q = zB d 55 zt_55_0 ls st σ Q := zX_eq d 55 0 ls st σ Q
theorem L_55_27 (d : Nat) (ls st : List Value) (σ : MS) (Q : Option Value → MS → Prop) : zX d 55 27 ls st σ Q = zB d 55 zt_55_27 ls st σ Q := zX_eq d 55 27 ls st σ Q
theorem L_55_31 (d : Nat) (ls st : List Value) (σ : MS) (Q : Option Value → MS → Prop) : zX d 55 31 ls st σ Q = zB d 55 zt_55_31 ls st σ Q := zX_eq d 55 31 ls st σ Q
theorem L_55_32 (d : Nat) (ls st : List Value) (σ : MS) (Q : Option Value → MS → Prop) : zX d 55 32 ls st σ Q = zB d 55 zt_55_32 ls st σ Q := zX_eq d 55 32 ls st σ Q
theorem L_56_0 (d : Nat) (ls st : List Value) (σ : MS) (Q : Option Value → MS → Prop) : zX d 56 0 ls st σ Q = zB d 56 zt_56_0 ls st σ Q := zX_eq d 56 0 ls st σ Q
theorem L_56_3 (d : Nat) (ls st : List Value) (σ : MS) (Q : Option Value → MS → Prop) : zX d 56 3 ls st σ Q = zB d 56 zt_56_3 ls st σ Q := zX_eq d 56 3 ls st σ Q
theorem L_56_28 (d : Nat) (ls st : List Value) (σ : MS) (Q : Option Value → MS → Prop) : zX d 56 28 ls st σ Q = zB d 56 zt_56_28 ls st σ Q := zX_eq d 56 28 ls st σ Q
theorem L_56_34 (d : Nat) (ls st : List Value) (σ : MS) (Q : Option Value → MS → Prop) : zX d 56 34 ls st σ Q = zB d 56 zt_56_34 ls st σ Q := zX_eq d 56 34 ls st σ Q
theorem L_57_0 (d : Nat) (ls st : List Value) (σ : MS) (Q : Option Value → MS → Prop) : zX d 57 0 ls st σ Q = zB d 57 zt_57_0 ls st σ Q := zX_eq d 57 0 ls st σ Q
theorem L_57_4 (d : Nat) (ls st : List Value) (σ : MS) (Q : Option Value → MS → Prop) : zX d 57 4 ls st σ Q = zB d 57 zt_57_4 ls st σ Q := zX_eq d 57 4 ls st σ Q
theorem L_57_26 (d : Nat) (ls st : List Value) (σ : MS) (Q : Option Value → MS → Prop) : zX d 57 26 ls st σ Q = zB d 57 zt_57_26 ls st σ Q := zX_eq d 57 26 ls st σ Q
theorem L_57_32 (d : Nat) (ls st : List Value) (σ : MS) (Q : Option Value → MS → Prop) : zX d 57 32 ls st σ Q = zB d 57 zt_57_32 ls st σ Q := zX_eq d 57 32 ls st σ Q
theorem L_58_0 (d : Nat) (ls st : List Value) (σ : MS) (Q : Option Value → MS → Prop) : zX d 58 0 ls st σ Q = zB d 58 zt_58_0 ls st σ Q := zX_eq d 58 0 ls st σ Q
theorem L_58_4 (d : Nat) (ls st : List Value) (σ : MS) (Q : Option Value → MS → Prop) : zX d 58 4 ls st σ Q = zB d 58 zt_58_4 ls st σ Q := zX_eq d 58 4 ls st σ Q
theorem L_58_34 (d : Nat) (ls st : List Value) (σ : MS) (Q : Option Value → MS → Prop) : zX d 58 34 ls st σ Q = zB d 58 zt_58_34 ls st σ Q := zX_eq d 58 34 ls st σ Q
theorem L_58_40 (d : Nat) (ls st : List Value) (σ : MS) (Q : Option Value → MS → Prop) : zX d 58 40 ls st σ Q = zB d 58 zt_58_40 ls st σ Q := zX_eq d 58 40 ls st σ Q
theorem L_59_0 (d : Nat) (ls st : List Value) (σ : MS) (Q : Option Value → MS → Prop) : zX d 59 0 ls st σ Q = zB d 59 zt_59_0 ls st σ Q := zX_eq d 59 0 ls st σ Q
theorem L_59_4 (d : Nat) (ls st : List Value) (σ : MS) (Q : Option Value → MS → Prop) : zX d 59 4 ls st σ Q = zB d 59 zt_59_4 ls st σ Q := zX_eq d 59 4 ls st σ Q
theorem L_59_39 (d : Nat) (ls st : List Value) (σ : MS) (Q : Option Value → MS → Prop) : zX d 59 39 ls st σ Q = zB d 59 zt_59_39 ls st σ Q := zX_eq d 59 39 ls st σ Q
theorem L_60_0 (d : Nat) (ls st : List Value) (σ : MS) (Q : Option Value → MS → Prop) : zX d 60 0 ls st σ Q = zB d 60 zt_60_0 ls st σ Q := zX_eq d 60 0 ls st σ Q
theorem L_60_30 (d : Nat) (ls st : List Value) (σ : MS) (Q : Option Value → MS → Prop) : zX d 60 30 ls st σ Q = zB d 60 zt_60_30 ls st σ Q := zX_eq d 60 30 ls st σ Q
theorem L_61_0 (d : Nat) (ls st : List Value) (σ : MS) (Q : Option Value → MS → Prop) : zX d 61 0 ls st σ Q = zB d 61 zt_61_0 ls st σ Q := zX_eq d 61 0 ls st σ Q
theorem L_61_10 (d : Nat) (ls st : List Value) (σ : MS) (Q : Option Value → MS → Prop) : zX d 61 10 ls st σ Q = zB d 61 zt_61_10 ls st σ Q := zX_eq d 61 10 ls st σ Q
theorem L_61_32 (d : Nat) (ls st : List Value) (σ : MS) (Q : Option Value → MS → Prop) : zX d 61 32 ls st σ Q = zB d 61 zt_61_32 ls st σ Q := zX_eq d 61 32 ls st σ Q
theorem L_62_0 (d : Nat) (ls st : List Value) (σ : MS) (Q : Option Value → MS → Prop) : zX d 62 0 ls st σ Q = zB d 62 zt_62_0 ls st σ Q := zX_eq d 62 0 ls st σ Q
theorem L_62_41 (d : Nat) (ls st : List Value) (σ : MS) (Q : Option Value → MS → Prop) : zX d 62 41 ls st σ Q = zB d 62 zt_62_41 ls st σ Q := zX_eq d 62 41 ls st σ Q
theorem L_62_45 (d : Nat) (ls st : List Value) (σ : MS) (Q : Option Value → MS → Prop) : zX d 62 45 ls st σ Q = zB d 62 zt_62_45 ls st σ Q := zX_eq d 62 45 ls st σ Q
theorem L_62_46 (d : Nat) (ls st : List Value) (σ : MS) (Q : Option Value → MS → Prop) : zX d 62 46 ls st σ Q = zB d 62 zt_62_46 ls st σ Q := zX_eq d 62 46 ls st σ Q
theorem L_63_0 (d : Nat) (ls st : List Value) (σ : MS) (Q : Option Value → MS → Prop) : zX d 63 0 ls st σ Q = zB d 63 zt_63_0 ls st σ Q := zX_eq d 63 0 ls st σ Q
theorem L_63_11 (d : Nat) (ls st : List Value) (σ : MS) (Q : Option Value → MS → Prop) : zX d 63 11 ls st σ Q = zB d 63 zt_63_11 ls st σ Q := zX_eq d 63 11 ls st σ Q
theorem L_63_56 (d : Nat) (ls st : List Value) (σ : MS) (Q : Option Value → MS → Prop) : zX d 63 56 ls st σ Q = zB d 63 zt_63_56 ls st σ Q := zX_eq d 63 56 ls st σ Q
theorem L_63_73 (d : Nat) (ls st : List Value) (σ : MS) (Q : Option Value → MS → Prop) : zX d 63 73 ls st σ Q = zB d 63 zt_63_73 ls st σ Q := zX_eq d 63 73 ls st σ Q
theorem L_64_0 (d : Nat) (ls st : List Value) (σ : MS) (Q : Option Value → MS → Prop) : zX d 64 0 ls st σ Q = zB d 64 zt_64_0 ls st σ Q := zX_eq d 64 0 ls st σ Q
theorem L_64_9 (d : Nat) (ls st : List Value) (σ : MS) (Q : Option Value → MS → Prop) : zX d 64 9 ls st σ Q = zB d 64 zt_64_9 ls st σ Q := zX_eq d 64 9 ls st σ Q
theorem L_64_72 (d : Nat) (ls st : List Value) (σ : MS) (Q : Option Value → MS → Prop) : zX d 64 72 ls st σ Q = zB d 64 zt_64_72 ls st σ Q := zX_eq d 64 72 ls st σ Q
theorem L_64_79 (d : Nat) (ls st : List Value) (σ : MS) (Q : Option Value → MS → Prop) : zX d 64 79 ls st σ Q = zB d 64 zt_64_79 ls st σ Q := zX_eq d 64 79 ls st σ Q
theorem L_64_85 (d : Nat) (ls st : List Value) (σ : MS) (Q : Option Value → MS → Prop) : zX d 64 85 ls st σ Q = zB d 64 zt_64_85 ls st σ Q := zX_eq d 64 85 ls st σ Q
theorem L_65_0 (d : Nat) (ls st : List Value) (σ : MS) (Q : Option Value → MS → Prop) : zX d 65 0 ls st σ Q = zB d 65 zt_65_0 ls st σ Q := zX_eq d 65 0 ls st σ Q
theorem L_65_2 (d : Nat) (ls st : List Value) (σ : MS) (Q : Option Value → MS → Prop) : zX d 65 2 ls st σ Q = zB d 65 zt_65_2 ls st σ Q := zX_eq d 65 2 ls st σ Q
theorem L_65_18 (d : Nat) (ls st : List Value) (σ : MS) (Q : Option Value → MS → Prop) : zX d 65 18 ls st σ Q = zB d 65 zt_65_18 ls st σ Q := zX_eq d 65 18 ls st σ Q
theorem L_65_71 (d : Nat) (ls st : List Value) (σ : MS) (Q : Option Value → MS → Prop) : zX d 65 71 ls st σ Q = zB d 65 zt_65_71 ls st σ Q := zX_eq d 65 71 ls st σ Q
theorem L_65_77 (d : Nat) (ls st : List Value) (σ : MS) (Q : Option Value → MS → Prop) : zX d 65 77 ls st σ Q = zB d 65 zt_65_77 ls st σ Q := zX_eq d 65 77 ls st σ Q
theorem L_66_0 (d : Nat) (ls st : List Value) (σ : MS) (Q : Option Value → MS → Prop) : zX d 66 0 ls st σ Q = zB d 66 zt_66_0 ls st σ Q := zX_eq d 66 0 ls st σ Q
theorem L_66_4 (d : Nat) (ls st : List Value) (σ : MS) (Q : Option Value → MS → Prop) : zX d 66 4 ls st σ Q = zB d 66 zt_66_4 ls st σ Q := zX_eq d 66 4 ls st σ Q
theorem L_66_35 (d : Nat) (ls st : List Value) (σ : MS) (Q : Option Value → MS → Prop) : zX d 66 35 ls st σ Q = zB d 66 zt_66_35 ls st σ Q := zX_eq d 66 35 ls st σ Q
theorem L_66_41 (d : Nat) (ls st : List Value) (σ : MS) (Q : Option Value → MS → Prop) : zX d 66 41 ls st σ Q = zB d 66 zt_66_41 ls st σ Q := zX_eq d 66 41 ls st σ Q
theorem L_67_0 (d : Nat) (ls st : List Value) (σ : MS) (Q : Option Value → MS → Prop) : zX d 67 0 ls st σ Q = zB d 67 zt_67_0 ls st σ Q := zX_eq d 67 0 ls st σ Q
theorem L_67_30 (d : Nat) (ls st : List Value) (σ : MS) (Q : Option Value → MS → Prop) : zX d 67 30 ls st σ Q = zB d 67 zt_67_30 ls st σ Q := zX_eq d 67 30 ls st σ Q
theorem L_67_31 (d : Nat) (ls st : List Value) (σ : MS) (Q : Option Value → MS → Prop) : zX d 67 31 ls st σ Q = zB d 67 zt_67_31 ls st σ Q := zX_eq d 67 31 ls st σ Q
theorem L_68_0 (d : Nat) (ls st : List Value) (σ : MS) (Q : Option Value → MS → Prop) : zX d 68 0 ls st σ Q = zB d 68 zt_68_0 ls st σ Q := zX_eq d 68 0 ls st σ Q
theorem L_68_4 (d : Nat) (ls st : List Value) (σ : MS) (Q : Option Value → MS → Prop) : zX d 68 4 ls st σ Q = zB d 68 zt_68_4 ls st σ Q := zX_eq d 68 4 ls st σ Q
theorem L_68_26 (d : Nat) (ls st : List Value) (σ : MS) (Q : Option Value → MS → Prop) : zX d 68 26 ls st σ Q = zB d 68 zt_68_26 ls st σ Q := zX_eq d 68 26 ls st σ Q
theorem L_68_32 (d : Nat) (ls st : List Value) (σ : MS) (Q : Option Value → MS → Prop) : zX d 68 32 ls st σ Q = zB d 68 zt_68_32 ls st σ Q := zX_eq d 68 32 ls st σ Q
theorem L_69_0 (d : Nat) (ls st : List Value) (σ : MS) (Q : Option Value → MS → Prop) : zX d 69 0 ls st σ Q = zB d 69 zt_69_0 ls st σ Q := zX_eq d 69 0 ls st σ Q
theorem L_69_30 (d : Nat) (ls st : List Value) (σ : MS) (Q : Option Value → MS → Prop) : zX d 69 30 ls st σ Q = zB d 69 zt_69_30 ls st σ Q := zX_eq d 69 30 ls st σ Q
theorem L_69_31 (d : Nat) (ls st : List Value) (σ : MS) (Q : Option Value → MS → Prop) : zX d 69 31 ls st σ Q = zB d 69 zt_69_31 ls st σ Q := zX_eq d 69 31 ls st σ Q
theorem L_70_0 (d : Nat) (ls st : List Value) (σ : MS) (Q : Option Value → MS → Prop) : zX d 70 0 ls st σ Q = zB d 70 zt_70_0 ls st σ Q := zX_eq d 70 0 ls st σ Q
theorem L_70_16 (d : Nat) (ls st : List Value) (σ : MS) (Q : Option Value → MS → Prop) : zX d 70 16 ls st σ Q = zB d 70 zt_70_16 ls st σ Q := zX_eq d 70 16 ls st σ Q
theorem L_70_17 (d : Nat) (ls st : List Value) (σ : MS) (Q : Option Value → MS → Prop) : zX d 70 17 ls st σ Q = zB d 70 zt_70_17 ls st σ Q := zX_eq d 70 17 ls st σ Q
theorem L_71_0 (d : Nat) (ls st : List Value) (σ : MS) (Q : Option Value → MS → Prop) : zX d 71 0 ls st σ Q = zB d 71 zt_71_0 ls st σ Q := zX_eq d 71 0 ls st σ Q
theorem L_71_22 (d : Nat) (ls st : List Value) (σ : MS) (Q : Option Value → MS → Prop) : zX d 71 22 ls st σ Q = zB d 71 zt_71_22 ls st σ Q := zX_eq d 71 22 ls st σ Q
theorem L_71_24 (d : Nat) (ls st : List Value) (σ : MS) (Q : Option Value → MS → Prop) : zX d 71 24 ls st σ Q = zB d 71 zt_71_24 ls st σ Q := zX_eq d 71 24 ls st σ Q
theorem L_71_30 (d : Nat) (ls st : List Value) (σ : MS) (Q : Option Value → MS → Prop) : zX d 71 30 ls st σ Q = zB d 71 zt_71_30 ls st σ Q := zX_eq d 71 30 ls st σ Q
theorem L_71_67 (d : Nat) (ls st : List Value) (σ : MS) (Q : Option Value → MS → Prop) : zX d 71 67 ls st σ Q = zB d 71 zt_71_67 ls st σ Q := zX_eq d 71 67 ls st σ Q
theorem L_71_71 (d : Nat) (ls st : List Value) (σ : MS) (Q : Option Value → MS → Prop) : zX d 71 71 ls st σ Q = zB d 71 zt_71_71 ls st σ Q := zX_eq d 71 71 ls st σ Q
theorem L_71_75 (d : Nat) (ls st : List Value) (σ : MS) (Q : Option Value → MS → Prop) : zX d 71 75 ls st σ Q = zB d 71 zt_71_75 ls st σ Q := zX_eq d 71 75 ls st σ Q
theorem L_71_107 (d : Nat) (ls st : List Value) (σ : MS) (Q : Option Value → MS → Prop) : zX d 71 107 ls st σ Q = zB d 71 zt_71_107 ls st σ Q := zX_eq d 71 107 ls st σ Q
theorem L_71_113 (d : Nat) (ls st : List Value) (σ : MS) (Q : Option Value → MS → Prop) : zX d 71 113 ls st σ Q = zB d 71 zt_71_113 ls st σ Q := zX_eq d 71 113 ls st σ Q
theorem L_72_0 (d : Nat) (ls st : List Value) (σ : MS) (Q : Option Value → MS → Prop) : zX d 72 0 ls st σ Q = zB d 72 zt_72_0 ls st σ Q := zX_eq d 72 0 ls st σ Q
theorem L_72_4 (d : Nat) (ls st : List Value) (σ : MS) (Q : Option Value → MS → Prop) : zX d 72 4 ls st σ Q = zB d 72 zt_72_4 ls st σ Q := zX_eq d 72 4 ls st σ Q
theorem L_72_78 (d : Nat) (ls st : List Value) (σ : MS) (Q : Option Value → MS → Prop) : zX d 72 78 ls st σ Q = zB d 72 zt_72_78 ls st σ Q := zX_eq d 72 78 ls st σ Q
theorem L_73_0 (d : Nat) (ls st : List Value) (σ : MS) (Q : Option Value → MS → Prop) : zX d 73 0 ls st σ Q = zB d 73 zt_73_0 ls st σ Q := zX_eq d 73 0 ls st σ Q
theorem L_73_4 (d : Nat) (ls st : List Value) (σ : MS) (Q : Option Value → MS → Prop) : zX d 73 4 ls st σ Q = zB d 73 zt_73_4 ls st σ Q := zX_eq d 73 4 ls st σ Q
theorem L_73_54 (d : Nat) (ls st : List Value) (σ : MS) (Q : Option Value → MS → Prop) : zX d 73 54 ls st σ Q = zB d 73 zt_73_54 ls st σ Q := zX_eq d 73 54 ls st σ Q
theorem L_73_60 (d : Nat) (ls st : List Value) (σ : MS) (Q : Option Value → MS → Prop) : zX d 73 60 ls st σ Q = zB d 73 zt_73_60 ls st σ Q := zX_eq d 73 60 ls st σ Q
theorem L_74_0 (d : Nat) (ls st : List Value) (σ : MS) (Q : Option Value → MS → Prop) : zX d 74 0 ls st σ Q = zB d 74 zt_74_0 ls st σ Q := zX_eq d 74 0 ls st σ Q
theorem L_74_21 (d : Nat) (ls st : List Value) (σ : MS) (Q : Option Value → MS → Prop) : zX d 74 21 ls st σ Q = zB d 74 zt_74_21 ls st σ Q := zX_eq d 74 21 ls st σ Q
theorem L_74_22 (d : Nat) (ls st : List Value) (σ : MS) (Q : Option Value → MS → Prop) : zX d 74 22 ls st σ Q = zB d 74 zt_74_22 ls st σ Q := zX_eq d 74 22 ls st σ Q
theorem L_74_27 (d : Nat) (ls st : List Value) (σ : MS) (Q : Option Value → MS → Prop) : zX d 74 27 ls st σ Q = zB d 74 zt_74_27 ls st σ Q := zX_eq d 74 27 ls st σ Q
theorem L_74_81 (d : Nat) (ls st : List Value) (σ : MS) (Q : Option Value → MS → Prop) : zX d 74 81 ls st σ Q = zB d 74 zt_74_81 ls st σ Q := zX_eq d 74 81 ls st σ Q
theorem L_74_87 (d : Nat) (ls st : List Value) (σ : MS) (Q : Option Value → MS → Prop) : zX d 74 87 ls st σ Q = zB d 74 zt_74_87 ls st σ Q := zX_eq d 74 87 ls st σ Q
theorem L_75_0 (d : Nat) (ls st : List Value) (σ : MS) (Q : Option Value → MS → Prop) : zX d 75 0 ls st σ Q = zB d 75 zt_75_0 ls st σ Q := zX_eq d 75 0 ls st σ Q
theorem L_75_23 (d : Nat) (ls st : List Value) (σ : MS) (Q : Option Value → MS → Prop) : zX d 75 23 ls st σ Q = zB d 75 zt_75_23 ls st σ Q := zX_eq d 75 23 ls st σ Q
theorem L_75_24 (d : Nat) (ls st : List Value) (σ : MS) (Q : Option Value → MS → Prop) : zX d 75 24 ls st σ Q = zB d 75 zt_75_24 ls st σ Q := zX_eq d 75 24 ls st σ Q
theorem L_76_0 (d : Nat) (ls st : List Value) (σ : MS) (Q : Option Value → MS → Prop) : zX d 76 0 ls st σ Q = zB d 76 zt_76_0 ls st σ Q := zX_eq d 76 0 ls st σ Q
theorem L_76_22 (d : Nat) (ls st : List Value) (σ : MS) (Q : Option Value → MS → Prop) : zX d 76 22 ls st σ Q = zB d 76 zt_76_22 ls st σ Q := zX_eq d 76 22 ls st σ Q
theorem L_76_23 (d : Nat) (ls st : List Value) (σ : MS) (Q : Option Value → MS → Prop) : zX d 76 23 ls st σ Q = zB d 76 zt_76_23 ls st σ Q := zX_eq d 76 23 ls st σ Q
theorem L_77_0 (d : Nat) (ls st : List Value) (σ : MS) (Q : Option Value → MS → Prop) : zX d 77 0 ls st σ Q = zB d 77 zt_77_0 ls st σ Q := zX_eq d 77 0 ls st σ Q
theorem L_77_5 (d : Nat) (ls st : List Value) (σ : MS) (Q : Option Value → MS → Prop) : zX d 77 5 ls st σ Q = zB d 77 zt_77_5 ls st σ Q := zX_eq d 77 5 ls st σ Q
theorem L_77_27 (d : Nat) (ls st : List Value) (σ : MS) (Q : Option Value → MS → Prop) : zX d 77 27 ls st σ Q = zB d 77 zt_77_27 ls st σ Q := zX_eq d 77 27 ls st σ Q
theorem L_77_28 (d : Nat) (ls st : List Value) (σ : MS) (Q : Option Value → MS → Prop) : zX d 77 28 ls st σ Q = zB d 77 zt_77_28 ls st σ Q := zX_eq d 77 28 ls st σ Q
theorem L_77_56 (d : Nat) (ls st : List Value) (σ : MS) (Q : Option Value → MS → Prop) : zX d 77 56 ls st σ Q = zB d 77 zt_77_56 ls st σ Q := zX_eq d 77 56 ls st σ Q
theorem L_77_59 (d : Nat) (ls st : List Value) (σ : MS) (Q : Option Value → MS → Prop) : zX d 77 59 ls st σ Q = zB d 77 zt_77_59 ls st σ Q := zX_eq d 77 59 ls st σ Q
theorem L_77_65 (d : Nat) (ls st : List Value) (σ : MS) (Q : Option Value → MS → Prop) : zX d 77 65 ls st σ Q = zB d 77 zt_77_65 ls st σ Q := zX_eq d 77 65 ls st σ Q
theorem L_78_0 (d : Nat) (ls st : List Value) (σ : MS) (Q : Option Value → MS → Prop) : zX d 78 0 ls st σ Q = zB d 78 zt_78_0 ls st σ Q := zX_eq d 78 0 ls st σ Q
theorem L_78_2 (d : Nat) (ls st : List Value) (σ : MS) (Q : Option Value → MS → Prop) : zX d 78 2 ls st σ Q = zB d 78 zt_78_2 ls st σ Q := zX_eq d 78 2 ls st σ Q
theorem L_78_53 (d : Nat) (ls st : List Value) (σ : MS) (Q : Option Value → MS → Prop) : zX d 78 53 ls st σ Q = zB d 78 zt_78_53 ls st σ Q := zX_eq d 78 53 ls st σ Q
theorem L_78_54 (d : Nat) (ls st : List Value) (σ : MS) (Q : Option Value → MS → Prop) : zX d 78 54 ls st σ Q = zB d 78 zt_78_54 ls st σ Q := zX_eq d 78 54 ls st σ Q
theorem L_78_61 (d : Nat) (ls st : List Value) (σ : MS) (Q : Option Value → MS → Prop) : zX d 78 61 ls st σ Q = zB d 78 zt_78_61 ls st σ Q := zX_eq d 78 61 ls st σ Q
theorem L_79_0 (d : Nat) (ls st : List Value) (σ : MS) (Q : Option Value → MS → Prop) : zX d 79 0 ls st σ Q = zB d 79 zt_79_0 ls st σ Q := zX_eq d 79 0 ls st σ Q
theorem L_79_10 (d : Nat) (ls st : List Value) (σ : MS) (Q : Option Value → MS → Prop) : zX d 79 10 ls st σ Q = zB d 79 zt_79_10 ls st σ Q := zX_eq d 79 10 ls st σ Q
theorem L_79_22 (d : Nat) (ls st : List Value) (σ : MS) (Q : Option Value → MS → Prop) : zX d 79 22 ls st σ Q = zB d 79 zt_79_22 ls st σ Q := zX_eq d 79 22 ls st σ Q
theorem L_79_75 (d : Nat) (ls st : List Value) (σ : MS) (Q : Option Value → MS → Prop) : zX d 79 75 ls st σ Q = zB d 79 zt_79_75 ls st σ Q := zX_eq d 79 75 ls st σ Q
theorem L_79_81 (d : Nat) (ls st : List Value) (σ : MS) (Q : Option Value → MS → Prop) : zX d 79 81 ls st σ Q = zB d 79 zt_79_81 ls st σ Q := zX_eq d 79 81 ls st σ Q
theorem L_80_0 (d : Nat) (ls st : List Value) (σ : MS) (Q : Option Value → MS → Prop) : zX d 80 0 ls st σ Q = zB d 80 zt_80_0 ls st σ Q := zX_eq d 80 0 ls st σ Q
theorem L_80_22 (d : Nat) (ls st : List Value) (σ : MS) (Q : Option Value → MS → Prop) : zX d 80 22 ls st σ Q = zB d 80 zt_80_22 ls st σ Q := zX_eq d 80 22 ls st σ Q
theorem L_80_23 (d : Nat) (ls st : List Value) (σ : MS) (Q : Option Value → MS → Prop) : zX d 80 23 ls st σ Q = zB d 80 zt_80_23 ls st σ Q := zX_eq d 80 23 ls st σ Q
theorem L_80_34 (d : Nat) (ls st : List Value) (σ : MS) (Q : Option Value → MS → Prop) : zX d 80 34 ls st σ Q = zB d 80 zt_80_34 ls st σ Q := zX_eq d 80 34 ls st σ Q
theorem L_80_63 (d : Nat) (ls st : List Value) (σ : MS) (Q : Option Value → MS → Prop) : zX d 80 63 ls st σ Q = zB d 80 zt_80_63 ls st σ Q := zX_eq d 80 63 ls st σ Q
theorem L_81_0 (d : Nat) (ls st : List Value) (σ : MS) (Q : Option Value → MS → Prop) : zX d 81 0 ls st σ Q = zB d 81 zt_81_0 ls st σ Q := zX_eq d 81 0 ls st σ Q
theorem L_81_23 (d : Nat) (ls st : List Value) (σ : MS) (Q : Option Value → MS → Prop) : zX d 81 23 ls st σ Q = zB d 81 zt_81_23 ls st σ Q := zX_eq d 81 23 ls st σ Q
theorem L_81_24 (d : Nat) (ls st : List Value) (σ : MS) (Q : Option Value → MS → Prop) : zX d 81 24 ls st σ Q = zB d 81 zt_81_24 ls st σ Q := zX_eq d 81 24 ls st σ Q
theorem L_81_31 (d : Nat) (ls st : List Value) (σ : MS) (Q : Option Value → MS → Prop) : zX d 81 31 ls st σ Q = zB d 81 zt_81_31 ls st σ Q := zX_eq d 81 31 ls st σ Q
theorem L_81_55 (d : Nat) (ls st : List Value) (σ : MS) (Q : Option Value → MS → Prop) : zX d 81 55 ls st σ Q = zB d 81 zt_81_55 ls st σ Q := zX_eq d 81 55 ls st σ Q
theorem L_82_0 (d : Nat) (ls st : List Value) (σ : MS) (Q : Option Value → MS → Prop) : zX d 82 0 ls st σ Q = zB d 82 zt_82_0 ls st σ Q := zX_eq d 82 0 ls st σ Q
theorem L_83_0 (d : Nat) (ls st : List Value) (σ : MS) (Q : Option Value → MS → Prop) : zX d 83 0 ls st σ Q = zB d 83 zt_83_0 ls st σ Q := zX_eq d 83 0 ls st σ Q
theorem L_83_26 (d : Nat) (ls st : List Value) (σ : MS) (Q : Option Value → MS → Prop) : zX d 83 26 ls st σ Q = zB d 83 zt_83_26 ls st σ Q := zX_eq d 83 26 ls st σ Q
theorem L_83_27 (d : Nat) (ls st : List Value) (σ : MS) (Q : Option Value → MS → Prop) : zX d 83 27 ls st σ Q = zB d 83 zt_83_27 ls st σ Q := zX_eq d 83 27 ls st σ Q
theorem L_84_0 (d : Nat) (ls st : List Value) (σ : MS) (Q : Option Value → MS → Prop) : zX d 84 0 ls st σ Q = zB d 84 zt_84_0 ls st σ Q := zX_eq d 84 0 ls st σ Q
theorem L_84_35 (d : Nat) (ls st : List Value) (σ : MS) (Q : Option Value → MS → Prop) : zX d 84 35 ls st σ Q = zB d 84 zt_84_35 ls st σ Q := zX_eq d 84 35 ls st σ Q
theorem L_85_0 (d : Nat) (ls st : List Value) (σ : MS) (Q : Option Value → MS → Prop) : zX d 85 0 ls st σ Q = zB d 85 zt_85_0 ls st σ Q := zX_eq d 85 0 ls st σ Q
theorem L_85_4 (d : Nat) (ls st : List Value) (σ : MS) (Q : Option Value → MS → Prop) : zX d 85 4 ls st σ Q = zB d 85 zt_85_4 ls st σ Q := zX_eq d 85 4 ls st σ Q
theorem L_85_36 (d : Nat) (ls st : List Value) (σ : MS) (Q : Option Value → MS → Prop) : zX d 85 36 ls st σ Q = zB d 85 zt_85_36 ls st σ Q := zX_eq d 85 36 ls st σ Q
theorem L_85_42 (d : Nat) (ls st : List Value) (σ : MS) (Q : Option Value → MS → Prop) : zX d 85 42 ls st σ Q = zB d 85 zt_85_42 ls st σ Q := zX_eq d 85 42 ls st σ Q
theorem L_86_0 (d : Nat) (ls st : List Value) (σ : MS) (Q : Option Value → MS → Prop) : zX d 86 0 ls st σ Q = zB d 86 zt_86_0 ls st σ Q := zX_eq d 86 0 ls st σ Q
theorem L_86_4 (d : Nat) (ls st : List Value) (σ : MS) (Q : Option Value → MS → Prop) : zX d 86 4 ls st σ Q = zB d 86 zt_86_4 ls st σ Q := zX_eq d 86 4 ls st σ Q
theorem L_86_28 (d : Nat) (ls st : List Value) (σ : MS) (Q : Option Value → MS → Prop) : zX d 86 28 ls st σ Q = zB d 86 zt_86_28 ls st σ Q := zX_eq d 86 28 ls st σ Q
theorem L_86_34 (d : Nat) (ls st : List Value) (σ : MS) (Q : Option Value → MS → Prop) : zX d 86 34 ls st σ Q = zB d 86 zt_86_34 ls st σ Q := zX_eq d 86 34 ls st σ Q
theorem L_87_0 (d : Nat) (ls st : List Value) (σ : MS) (Q : Option Value → MS → Prop) : zX d 87 0 ls st σ Q = zB d 87 zt_87_0 ls st σ Q := zX_eq d 87 0 ls st σ Q
theorem L_87_14 (d : Nat) (ls st : List Value) (σ : MS) (Q : Option Value → MS → Prop) : zX d 87 14 ls st σ Q = zB d 87 zt_87_14 ls st σ Q := zX_eq d 87 14 ls st σ Q
theorem L_87_15 (d : Nat) (ls st : List Value) (σ : MS) (Q : Option Value → MS → Prop) : zX d 87 15 ls st σ Q = zB d 87 zt_87_15 ls st σ Q := zX_eq d 87 15 ls st σ Q
theorem L_87_18 (d : Nat) (ls st : List Value) (σ : MS) (Q : Option Value → MS → Prop) : zX d 87 18 ls st σ Q = zB d 87 zt_87_18 ls st σ Q := zX_eq d 87 18 ls st σ Q
theorem L_87_36 (d : Nat) (ls st : List Value) (σ : MS) (Q : Option Value → MS → Prop) : zX d 87 36 ls st σ Q = zB d 87 zt_87_36 ls st σ Q := zX_eq d 87 36 ls st σ Q
theorem L_88_0 (d : Nat) (ls st : List Value) (σ : MS) (Q : Option Value → MS → Prop) : zX d 88 0 ls st σ Q = zB d 88 zt_88_0 ls st σ Q := zX_eq d 88 0 ls st σ Q
theorem L_88_14 (d : Nat) (ls st : List Value) (σ : MS) (Q : Option Value → MS → Prop) : zX d 88 14 ls st σ Q = zB d 88 zt_88_14 ls st σ Q := zX_eq d 88 14 ls st σ Q
theorem L_88_15 (d : Nat) (ls st : List Value) (σ : MS) (Q : Option Value → MS → Prop) : zX d 88 15 ls st σ Q = zB d 88 zt_88_15 ls st σ Q := zX_eq d 88 15 ls st σ Q
theorem L_88_19 (d : Nat) (ls st : List Value) (σ : MS) (Q : Option Value → MS → Prop) : zX d 88 19 ls st σ Q = zB d 88 zt_88_19 ls st σ Q := zX_eq d 88 19 ls st σ Q
theorem L_88_45 (d : Nat) (ls st : List Value) (σ : MS) (Q : Option Value → MS → Prop) : zX d 88 45 ls st σ Q = zB d 88 zt_88_45 ls st σ Q := zX_eq d 88 45 ls st σ Q
theorem L_88_57 (d : Nat) (ls st : List Value) (σ : MS) (Q : Option Value → MS → Prop) : zX d 88 57 ls st σ Q = zB d 88 zt_88_57 ls st σ Q := zX_eq d 88 57 ls st σ Q
theorem L_89_0 (d : Nat) (ls st : List Value) (σ : MS) (Q : Option Value → MS → Prop) : zX d 89 0 ls st σ Q = zB d 89 zt_89_0 ls st σ Q := zX_eq d 89 0 ls st σ Q
theorem L_89_16 (d : Nat) (ls st : List Value) (σ : MS) (Q : Option Value → MS → Prop) : zX d 89 16 ls st σ Q = zB d 89 zt_89_16 ls st σ Q := zX_eq d 89 16 ls st σ Q
theorem L_89_17 (d : Nat) (ls st : List Value) (σ : MS) (Q : Option Value → MS → Prop) : zX d 89 17 ls st σ Q = zB d 89 zt_89_17 ls st σ Q := zX_eq d 89 17 ls st σ Q
theorem L_89_22 (d : Nat) (ls st : List Value) (σ : MS) (Q : Option Value → MS → Prop) : zX d 89 22 ls st σ Q = zB d 89 zt_89_22 ls st σ Q := zX_eq d 89 22 ls st σ Q
theorem L_89_55 (d : Nat) (ls st : List Value) (σ : MS) (Q : Option Value → MS → Prop) : zX d 89 55 ls st σ Q = zB d 89 zt_89_55 ls st σ Q := zX_eq d 89 55 ls st σ Q
theorem L_89_61 (d : Nat) (ls st : List Value) (σ : MS) (Q : Option Value → MS → Prop) : zX d 89 61 ls st σ Q = zB d 89 zt_89_61 ls st σ Q := zX_eq d 89 61 ls st σ Q
theorem L_90_0 (d : Nat) (ls st : List Value) (σ : MS) (Q : Option Value → MS → Prop) : zX d 90 0 ls st σ Q = zB d 90 zt_90_0 ls st σ Q := zX_eq d 90 0 ls st σ Q
theorem L_91_0 (d : Nat) (ls st : List Value) (σ : MS) (Q : Option Value → MS → Prop) : zX d 91 0 ls st σ Q = zB d 91 zt_91_0 ls st σ Q := zX_eq d 91 0 ls st σ Q
theorem L_91_6 (d : Nat) (ls st : List Value) (σ : MS) (Q : Option Value → MS → Prop) : zX d 91 6 ls st σ Q = zB d 91 zt_91_6 ls st σ Q := zX_eq d 91 6 ls st σ Q
theorem L_91_19 (d : Nat) (ls st : List Value) (σ : MS) (Q : Option Value → MS → Prop) : zX d 91 19 ls st σ Q = zB d 91 zt_91_19 ls st σ Q := zX_eq d 91 19 ls st σ Q
theorem L_91_52 (d : Nat) (ls st : List Value) (σ : MS) (Q : Option Value → MS → Prop) : zX d 91 52 ls st σ Q = zB d 91 zt_91_52 ls st σ Q := zX_eq d 91 52 ls st σ Q
theorem L_91_53 (d : Nat) (ls st : List Value) (σ : MS) (Q : Option Value → MS → Prop) : zX d 91 53 ls st σ Q = zB d 91 zt_91_53 ls st σ Q := zX_eq d 91 53 ls st σ Q
theorem L_91_72 (d : Nat) (ls st : List Value) (σ : MS) (Q : Option Value → MS → Prop) : zX d 91 72 ls st σ Q = zB d 91 zt_91_72 ls st σ Q := zX_eq d 91 72 ls st σ Q
theorem L_91_78 (d : Nat) (ls st : List Value) (σ : MS) (Q : Option Value → MS → Prop) : zX d 91 78 ls st σ Q = zB d 91 zt_91_78 ls st σ Q := zX_eq d 91 78 ls st σ Q
theorem L_91_84 (d : Nat) (ls st : List Value) (σ : MS) (Q : Option Value → MS → Prop) : zX d 91 84 ls st σ Q = zB d 91 zt_91_84 ls st σ Q := zX_eq d 91 84 ls st σ Q
theorem L_92_0 (d : Nat) (ls st : List Value) (σ : MS) (Q : Option Value → MS → Prop) : zX d 92 0 ls st σ Q = zB d 92 zt_92_0 ls st σ Q := zX_eq d 92 0 ls st σ Q
theorem L_92_4 (d : Nat) (ls st : List Value) (σ : MS) (Q : Option Value → MS → Prop) : zX d 92 4 ls st σ Q = zB d 92 zt_92_4 ls st σ Q := zX_eq d 92 4 ls st σ Q
theorem L_92_34 (d : Nat) (ls st : List Value) (σ : MS) (Q : Option Value → MS → Prop) : zX d 92 34 ls st σ Q = zB d 92 zt_92_34 ls st σ Q := zX_eq d 92 34 ls st σ Q
theorem L_92_37 (d : Nat) (ls st : List Value) (σ : MS) (Q : Option Value → MS → Prop) : zX d 92 37 ls st σ Q = zB d 92 zt_92_37 ls st σ Q := zX_eq d 92 37 ls st σ Q
theorem L_92_43 (d : Nat) (ls st : List Value) (σ : MS) (Q : Option Value → MS → Prop) : zX d 92 43 ls st σ Q = zB d 92 zt_92_43 ls st σ Q := zX_eq d 92 43 ls st σ Q
theorem L_93_0 (d : Nat) (ls st : List Value) (σ : MS) (Q : Option Value → MS → Prop) : zX d 93 0 ls st σ Q = zB d 93 zt_93_0 ls st σ Q := zX_eq d 93 0 ls st σ Q
theorem L_93_12 (d : Nat) (ls st : List Value) (σ : MS) (Q : Option Value → MS → Prop) : zX d 93 12 ls st σ Q = zB d 93 zt_93_12 ls st σ Q := zX_eq d 93 12 ls st σ Q
theorem L_93_49 (d : Nat) (ls st : List Value) (σ : MS) (Q : Option Value → MS → Prop) : zX d 93 49 ls st σ Q = zB d 93 zt_93_49 ls st σ Q := zX_eq d 93 49 ls st σ Q
theorem L_93_116 (d : Nat) (ls st : List Value) (σ : MS) (Q : Option Value → MS → Prop) : zX d 93 116 ls st σ Q = zB d 93 zt_93_116 ls st σ Q := zX_eq d 93 116 ls st σ Q
theorem L_93_122 (d : Nat) (ls st : List Value) (σ : MS) (Q : Option Value → MS → Prop) : zX d 93 122 ls st σ Q = zB d 93 zt_93_122 ls st σ Q := zX_eq d 93 122 ls st σ Q
theorem L_94_0 (d : Nat) (ls st : List Value) (σ : MS) (Q : Option Value → MS → Prop) : zX d 94 0 ls st σ Q = zB d 94 zt_94_0 ls st σ Q := zX_eq d 94 0 ls st σ Q
theorem L_94_2 (d : Nat) (ls st : List Value) (σ : MS) (Q : Option Value → MS → Prop) : zX d 94 2 ls st σ Q = zB d 94 zt_94_2 ls st σ Q := zX_eq d 94 2 ls st σ Q
theorem L_94_30 (d : Nat) (ls st : List Value) (σ : MS) (Q : Option Value → MS → Prop) : zX d 94 30 ls st σ Q = zB d 94 zt_94_30 ls st σ Q := zX_eq d 94 30 ls st σ Q
theorem L_94_36 (d : Nat) (ls st : List Value) (σ : MS) (Q : Option Value → MS → Prop) : zX d 94 36 ls st σ Q = zB d 94 zt_94_36 ls st σ Q := zX_eq d 94 36 ls st σ Q
theorem L_95_0 (d : Nat) (ls st : List Value) (σ : MS) (Q : Option Value → MS → Prop) : zX d 95 0 ls st σ Q = zB d 95 zt_95_0 ls st σ Q := zX_eq d 95 0 ls st σ Q
theorem L_95_4 (d : Nat) (ls st : List Value) (σ : MS) (Q : Option Value → MS → Prop) : zX d 95 4 ls st σ Q = zB d 95 zt_95_4 ls st σ Q := zX_eq d 95 4 ls st σ Q
theorem L_95_23 (d : Nat) (ls st : List Value) (σ : MS) (Q : Option Value → MS → Prop) : zX d 95 23 ls st σ Q = zB d 95 zt_95_23 ls st σ Q := zX_eq d 95 23 ls st σ Q
theorem L_95_24 (d : Nat) (ls st : List Value) (σ : MS) (Q : Option Value → MS → Prop) : zX d 95 24 ls st σ Q = zB d 95 zt_95_24 ls st σ Q := zX_eq d 95 24 ls st σ Q
theorem L_95_56 (d : Nat) (ls st : List Value) (σ : MS) (Q : Option Value → MS → Prop) : zX d 95 56 ls st σ Q = zB d 95 zt_95_56 ls st σ Q := zX_eq d 95 56 ls st σ Q
theorem L_95_62 (d : Nat) (ls st : List Value) (σ : MS) (Q : Option Value → MS → Prop) : zX d 95 62 ls st σ Q = zB d 95 zt_95_62 ls st σ Q := zX_eq d 95 62 ls st σ Q
theorem L_96_0 (d : Nat) (ls st : List Value) (σ : MS) (Q : Option Value → MS → Prop) : zX d 96 0 ls st σ Q = zB d 96 zt_96_0 ls st σ Q := zX_eq d 96 0 ls st σ Q
theorem L_97_0 (d : Nat) (ls st : List Value) (σ : MS) (Q : Option Value → MS → Prop) : zX d 97 0 ls st σ Q = zB d 97 zt_97_0 ls st σ Q := zX_eq d 97 0 ls st σ Q
theorem L_97_11 (d : Nat) (ls st : List Value) (σ : MS) (Q : Option Value → MS → Prop) : zX d 97 11 ls st σ Q = zB d 97 zt_97_11 ls st σ Q := zX_eq d 97 11 ls st σ Q
theorem L_97_43 (d : Nat) (ls st : List Value) (σ : MS) (Q : Option Value → MS → Prop) : zX d 97 43 ls st σ Q = zB d 97 zt_97_43 ls st σ Q := zX_eq d 97 43 ls st σ Q
theorem L_98_0 (d : Nat) (ls st : List Value) (σ : MS) (Q : Option Value → MS → Prop) : zX d 98 0 ls st σ Q = zB d 98 zt_98_0 ls st σ Q := zX_eq d 98 0 ls st σ Q
theorem L_98_19 (d : Nat) (ls st : List Value) (σ : MS) (Q : Option Value → MS → Prop) : zX d 98 19 ls st σ Q = zB d 98 zt_98_19 ls st σ Q := zX_eq d 98 19 ls st σ Q
theorem L_98_80 (d : Nat) (ls st : List Value) (σ : MS) (Q : Option Value → MS → Prop) : zX d 98 80 ls st σ Q = zB d 98 zt_98_80 ls st σ Q := zX_eq d 98 80 ls st σ Q
theorem L_98_101 (d : Nat) (ls st : List Value) (σ : MS) (Q : Option Value → MS → Prop) : zX d 98 101 ls st σ Q = zB d 98 zt_98_101 ls st σ Q := zX_eq d 98 101 ls st σ Q
theorem L_98_102 (d : Nat) (ls st : List Value) (σ : MS) (Q : Option Value → MS → Prop) : zX d 98 102 ls st σ Q = zB d 98 zt_98_102 ls st σ Q := zX_eq d 98 102 ls st σ Q
theorem L_98_103 (d : Nat) (ls st : List Value) (σ : MS) (Q : Option Value → MS → Prop) : zX d 98 103 ls st σ Q = zB d 98 zt_98_103 ls st σ Q := zX_eq d 98 103 ls st σ Q
theorem L_98_124 (d : Nat) (ls st : List Value) (σ : MS) (Q : Option Value → MS → Prop) : zX d 98 124 ls st σ Q = zB d 98 zt_98_124 ls st σ Q := zX_eq d 98 124 ls st σ Q
theorem L_98_125 (d : Nat) (ls st : List Value) (σ : MS) (Q : Option Value → MS → Prop) : zX d 98 125 ls st σ Q = zB d 98 zt_98_125 ls st σ Q := zX_eq d 98 125 ls st σ Q
theorem L_98_126 (d : Nat) (ls st : List Value) (σ : MS) (Q : Option Value → MS → Prop) : zX d 98 126 ls st σ Q = zB d 98 zt_98_126 ls st σ Q := zX_eq d 98 126 ls st σ Q
theorem L_98_147 (d : Nat) (ls st : List Value) (σ : MS) (Q : Option Value → MS → Prop) : zX d 98 147 ls st σ Q = zB d 98 zt_98_147 ls st σ Q := zX_eq d 98 147 ls st σ Q
theorem L_98_148 (d : Nat) (ls st : List Value) (σ : MS) (Q : Option Value → MS → Prop) : zX d 98 148 ls st σ Q = zB d 98 zt_98_148 ls st σ Q := zX_eq d 98 148 ls st σ Q
theorem L_98_149 (d : Nat) (ls st : List Value) (σ : MS) (Q : Option Value → MS → Prop) : zX d 98 149 ls st σ Q = zB d 98 zt_98_149 ls st σ Q := zX_eq d 98 149 ls st σ Q
theorem L_98_170 (d : Nat) (ls st : List Value) (σ : MS) (Q : Option Value → MS → Prop) : zX d 98 170 ls st σ Q = zB d 98 zt_98_170 ls st σ Q := zX_eq d 98 170 ls st σ Q
theorem L_98_171 (d : Nat) (ls st : List Value) (σ : MS) (Q : Option Value → MS → Prop) : zX d 98 171 ls st σ Q = zB d 98 zt_98_171 ls st σ Q := zX_eq d 98 171 ls st σ Q
theorem L_98_172 (d : Nat) (ls st : List Value) (σ : MS) (Q : Option Value → MS → Prop) : zX d 98 172 ls st σ Q = zB d 98 zt_98_172 ls st σ Q := zX_eq d 98 172 ls st σ Q
theorem L_98_193 (d : Nat) (ls st : List Value) (σ : MS) (Q : Option Value → MS → Prop) : zX d 98 193 ls st σ Q = zB d 98 zt_98_193 ls st σ Q := zX_eq d 98 193 ls st σ Q
theorem L_98_194 (d : Nat) (ls st : List Value) (σ : MS) (Q : Option Value → MS → Prop) : zX d 98 194 ls st σ Q = zB d 98 zt_98_194 ls st σ Q := zX_eq d 98 194 ls st σ Q
theorem L_98_195 (d : Nat) (ls st : List Value) (σ : MS) (Q : Option Value → MS → Prop) : zX d 98 195 ls st σ Q = zB d 98 zt_98_195 ls st σ Q := zX_eq d 98 195 ls st σ Q
theorem L_98_216 (d : Nat) (ls st : List Value) (σ : MS) (Q : Option Value → MS → Prop) : zX d 98 216 ls st σ Q = zB d 98 zt_98_216 ls st σ Q := zX_eq d 98 216 ls st σ Q
theorem L_98_217 (d : Nat) (ls st : List Value) (σ : MS) (Q : Option Value → MS → Prop) : zX d 98 217 ls st σ Q = zB d 98 zt_98_217 ls st σ Q := zX_eq d 98 217 ls st σ Q
theorem L_98_218 (d : Nat) (ls st : List Value) (σ : MS) (Q : Option Value → MS → Prop) : zX d 98 218 ls st σ Q = zB d 98 zt_98_218 ls st σ Q := zX_eq d 98 218 ls st σ Q
theorem L_98_239 (d : Nat) (ls st : List Value) (σ : MS) (Q : Option Value → MS → Prop) : zX d 98 239 ls st σ Q = zB d 98 zt_98_239 ls st σ Q := zX_eq d 98 239 ls st σ Q
theorem L_98_240 (d : Nat) (ls st : List Value) (σ : MS) (Q : Option Value → MS → Prop) : zX d 98 240 ls st σ Q = zB d 98 zt_98_240 ls st σ Q := zX_eq d 98 240 ls st σ Q
theorem L_98_241 (d : Nat) (ls st : List Value) (σ : MS) (Q : Option Value → MS → Prop) : zX d 98 241 ls st σ Q = zB d 98 zt_98_241 ls st σ Q := zX_eq d 98 241 ls st σ Q
theorem L_99_0 (d : Nat) (ls st : List Value) (σ : MS) (Q : Option Value → MS → Prop) : zX d 99 0 ls st σ Q = zB d 99 zt_99_0 ls st σ Q := zX_eq d 99 0 ls st σ Q
theorem L_99_27 (d : Nat) (ls st : List Value) (σ : MS) (Q : Option Value → MS → Prop) : zX d 99 27 ls st σ Q = zB d 99 zt_99_27 ls st σ Q := zX_eq d 99 27 ls st σ Q
theorem L_99_36 (d : Nat) (ls st : List Value) (σ : MS) (Q : Option Value → MS → Prop) : zX d 99 36 ls st σ Q = zB d 99 zt_99_36 ls st σ Q := zX_eq d 99 36 ls st σ Q
theorem L_99_62 (d : Nat) (ls st : List Value) (σ : MS) (Q : Option Value → MS → Prop) : zX d 99 62 ls st σ Q = zB d 99 zt_99_62 ls st σ Q := zX_eq d 99 62 ls st σ Q
theorem L_99_100 (d : Nat) (ls st : List Value) (σ : MS) (Q : Option Value → MS → Prop) : zX d 99 100 ls st σ Q = zB d 99 zt_99_100 ls st σ Q := zX_eq d 99 100 ls st σ Q
theorem L_99_102 (d : Nat) (ls st : List Value) (σ : MS) (Q : Option Value → MS → Prop) : zX d 99 102 ls st σ Q = zB d 99 zt_99_102 ls st σ Q := zX_eq d 99 102 ls st σ Q
theorem L_100_0 (d : Nat) (ls st : List Value) (σ : MS) (Q : Option Value → MS → Prop) : zX d 100 0 ls st σ Q = zB d 100 zt_100_0 ls st σ Q := zX_eq d 100 0 ls st σ Q
theorem L_100_16 (d : Nat) (ls st : List Value) (σ : MS) (Q : Option Value → MS → Prop) : zX d 100 16 ls st σ Q = zB d 100 zt_100_16 ls st σ Q := zX_eq d 100 16 ls st σ Q
theorem L_100_43 (d : Nat) (ls st : List Value) (σ : MS) (Q : Option Value → MS → Prop) : zX d 100 43 ls st σ Q = zB d 100 zt_100_43 ls st σ Q := zX_eq d 100 43 ls st σ Q
theorem L_101_0 (d : Nat) (ls st : List Value) (σ : MS) (Q : Option Value → MS → Prop) : zX d 101 0 ls st σ Q = zB d 101 zt_101_0 ls st σ Q := zX_eq d 101 0 ls st σ Q
theorem L_101_16 (d : Nat) (ls st : List Value) (σ : MS) (Q : Option Value → MS → Prop) : zX d 101 16 ls st σ Q = zB d 101 zt_101_16 ls st σ Q := zX_eq d 101 16 ls st σ Q
theorem L_101_43 (d : Nat) (ls st : List Value) (σ : MS) (Q : Option Value → MS → Prop) : zX d 101 43 ls st σ Q = zB d 101 zt_101_43 ls st σ Q := zX_eq d 101 43 ls st σ Q
theorem L_102_0 (d : Nat) (ls st : List Value) (σ : MS) (Q : Option Value → MS → Prop) : zX d 102 0 ls st σ Q = zB d 102 zt_102_0 ls st σ Q := zX_eq d 102 0 ls st σ Q
theorem L_102_12 (d : Nat) (ls st : List Value) (σ : MS) (Q : Option Value → MS → Prop) : zX d 102 12 ls st σ Q = zB d 102 zt_102_12 ls st σ Q := zX_eq d 102 12 ls st σ Q
theorem L_102_40 (d : Nat) (ls st : List Value) (σ : MS) (Q : Option Value → MS → Prop) : zX d 102 40 ls st σ Q = zB d 102 zt_102_40 ls st σ Q := zX_eq d 102 40 ls st σ Q
theorem L_102_44 (d : Nat) (ls st : List Value) (σ : MS) (Q : Option Value → MS → Prop) : zX d 102 44 ls st σ Q = zB d 102 zt_102_44 ls st σ Q := zX_eq d 102 44 ls st σ Q
theorem L_102_45 (d : Nat) (ls st : List Value) (σ : MS) (Q : Option Value → MS → Prop) : zX d 102 45 ls st σ Q = zB d 102 zt_102_45 ls st σ Q := zX_eq d 102 45 ls st σ Q
theorem L_103_0 (d : Nat) (ls st : List Value) (σ : MS) (Q : Option Value → MS → Prop) : zX d 103 0 ls st σ Q = zB d 103 zt_103_0 ls st σ Q := zX_eq d 103 0 ls st σ Q
theorem L_103_22 (d : Nat) (ls st : List Value) (σ : MS) (Q : Option Value → MS → Prop) : zX d 103 22 ls st σ Q = zB d 103 zt_103_22 ls st σ Q := zX_eq d 103 22 ls st σ Q
theorem L_103_38 (d : Nat) (ls st : List Value) (σ : MS) (Q : Option Value → MS → Prop) : zX d 103 38 ls st σ Q = zB d 103 zt_103_38 ls st σ Q := zX_eq d 103 38 ls st σ Q
theorem L_103_84 (d : Nat) (ls st : List Value) (σ : MS) (Q : Option Value → MS → Prop) : zX d 103 84 ls st σ Q = zB d 103 zt_103_84 ls st σ Q := zX_eq d 103 84 ls st σ Q
theorem L_103_86 (d : Nat) (ls st : List Value) (σ : MS) (Q : Option Value → MS → Prop) : zX d 103 86 ls st σ Q = zB d 103 zt_103_86 ls st σ Q := zX_eq d 103 86 ls st σ Q
theorem L_103_113 (d : Nat) (ls st : List Value) (σ : MS) (Q : Option Value → MS → Prop) : zX d 103 113 ls st σ Q = zB d 103 zt_103_113 ls st σ Q := zX_eq d 103 113 ls st σ Q
theorem L_104_0 (d : Nat) (ls st : List Value) (σ : MS) (Q : Option Value → MS → Prop) : zX d 104 0 ls st σ Q = zB d 104 zt_104_0 ls st σ Q := zX_eq d 104 0 ls st σ Q
theorem L_104_22 (d : Nat) (ls st : List Value) (σ : MS) (Q : Option Value → MS → Prop) : zX d 104 22 ls st σ Q = zB d 104 zt_104_22 ls st σ Q := zX_eq d 104 22 ls st σ Q
theorem L_104_38 (d : Nat) (ls st : List Value) (σ : MS) (Q : Option Value → MS → Prop) : zX d 104 38 ls st σ Q = zB d 104 zt_104_38 ls st σ Q := zX_eq d 104 38 ls st σ Q
theorem L_104_62 (d : Nat) (ls st : List Value) (σ : MS) (Q : Option Value → MS → Prop) : zX d 104 62 ls st σ Q = zB d 104 zt_104_62 ls st σ Q := zX_eq d 104 62 ls st σ Q
theorem L_104_90 (d : Nat) (ls st : List Value) (σ : MS) (Q : Option Value → MS → Prop) : zX d 104 90 ls st σ Q = zB d 104 zt_104_90 ls st σ Q := zX_eq d 104 90 ls st σ Q
theorem L_104_96 (d : Nat) (ls st : List Value) (σ : MS) (Q : Option Value → MS → Prop) : zX d 104 96 ls st σ Q = zB d 104 zt_104_96 ls st σ Q := zX_eq d 104 96 ls st σ Q
theorem L_105_0 (d : Nat) (ls st : List Value) (σ : MS) (Q : Option Value → MS → Prop) : zX d 105 0 ls st σ Q = zB d 105 zt_105_0 ls st σ Q := zX_eq d 105 0 ls st σ Q
theorem L_105_12 (d : Nat) (ls st : List Value) (σ : MS) (Q : Option Value → MS → Prop) : zX d 105 12 ls st σ Q = zB d 105 zt_105_12 ls st σ Q := zX_eq d 105 12 ls st σ Q
theorem L_105_43 (d : Nat) (ls st : List Value) (σ : MS) (Q : Option Value → MS → Prop) : zX d 105 43 ls st σ Q = zB d 105 zt_105_43 ls st σ Q := zX_eq d 105 43 ls st σ Q
theorem L_105_52 (d : Nat) (ls st : List Value) (σ : MS) (Q : Option Value → MS → Prop) : zX d 105 52 ls st σ Q = zB d 105 zt_105_52 ls st σ Q := zX_eq d 105 52 ls st σ Q
theorem L_105_77 (d : Nat) (ls st : List Value) (σ : MS) (Q : Option Value → MS → Prop) : zX d 105 77 ls st σ Q = zB d 105 zt_105_77 ls st σ Q := zX_eq d 105 77 ls st σ Q
theorem L_106_0 (d : Nat) (ls st : List Value) (σ : MS) (Q : Option Value → MS → Prop) : zX d 106 0 ls st σ Q = zB d 106 zt_106_0 ls st σ Q := zX_eq d 106 0 ls st σ Q
theorem L_106_21 (d : Nat) (ls st : List Value) (σ : MS) (Q : Option Value → MS → Prop) : zX d 106 21 ls st σ Q = zB d 106 zt_106_21 ls st σ Q := zX_eq d 106 21 ls st σ Q
theorem L_106_37 (d : Nat) (ls st : List Value) (σ : MS) (Q : Option Value → MS → Prop) : zX d 106 37 ls st σ Q = zB d 106 zt_106_37 ls st σ Q := zX_eq d 106 37 ls st σ Q
theorem L_106_91 (d : Nat) (ls st : List Value) (σ : MS) (Q : Option Value → MS → Prop) : zX d 106 91 ls st σ Q = zB d 106 zt_106_91 ls st σ Q := zX_eq d 106 91 ls st σ Q
theorem L_106_93 (d : Nat) (ls st : List Value) (σ : MS) (Q : Option Value → MS → Prop) : zX d 106 93 ls st σ Q = zB d 106 zt_106_93 ls st σ Q := zX_eq d 106 93 ls st σ Q
theorem L_106_120 (d : Nat) (ls st : List Value) (σ : MS) (Q : Option Value → MS → Prop) : zX d 106 120 ls st σ Q = zB d 106 zt_106_120 ls st σ Q := zX_eq d 106 120 ls st σ Q
theorem L_107_0 (d : Nat) (ls st : List Value) (σ : MS) (Q : Option Value → MS → Prop) : zX d 107 0 ls st σ Q = zB d 107 zt_107_0 ls st σ Q := zX_eq d 107 0 ls st σ Q
theorem L_107_19 (d : Nat) (ls st : List Value) (σ : MS) (Q : Option Value → MS → Prop) : zX d 107 19 ls st σ Q = zB d 107 zt_107_19 ls st σ Q := zX_eq d 107 19 ls st σ Q
theorem L_107_48 (d : Nat) (ls st : List Value) (σ : MS) (Q : Option Value → MS → Prop) : zX d 107 48 ls st σ Q = zB d 107 zt_107_48 ls st σ Q := zX_eq d 107 48 ls st σ Q
theorem L_107_68 (d : Nat) (ls st : List Value) (σ : MS) (Q : Option Value → MS → Prop) : zX d 107 68 ls st σ Q = zB d 107 zt_107_68 ls st σ Q := zX_eq d 107 68 ls st σ Q
theorem L_107_107 (d : Nat) (ls st : List Value) (σ : MS) (Q : Option Value → MS → Prop) : zX d 107 107 ls st σ Q = zB d 107 zt_107_107 ls st σ Q := zX_eq d 107 107 ls st σ Q
theorem L_107_109 (d : Nat) (ls st : List Value) (σ : MS) (Q : Option Value → MS → Prop) : zX d 107 109 ls st σ Q = zB d 107 zt_107_109 ls st σ Q := zX_eq d 107 109 ls st σ Q
theorem L_107_141 (d : Nat) (ls st : List Value) (σ : MS) (Q : Option Value → MS → Prop) : zX d 107 141 ls st σ Q = zB d 107 zt_107_141 ls st σ Q := zX_eq d 107 141 ls st σ Q
theorem L_107_150 (d : Nat) (ls st : List Value) (σ : MS) (Q : Option Value → MS → Prop) : zX d 107 150 ls st σ Q = zB d 107 zt_107_150 ls st σ Q := zX_eq d 107 150 ls st σ Q
theorem L_108_0 (d : Nat) (ls st : List Value) (σ : MS) (Q : Option Value → MS → Prop) : zX d 108 0 ls st σ Q = zB d 108 zt_108_0 ls st σ Q := zX_eq d 108 0 ls st σ Q
theorem L_108_28 (d : Nat) (ls st : List Value) (σ : MS) (Q : Option Value → MS → Prop) : zX d 108 28 ls st σ Q = zB d 108 zt_108_28 ls st σ Q := zX_eq d 108 28 ls st σ Q
theorem L_108_70 (d : Nat) (ls st : List Value) (σ : MS) (Q : Option Value → MS → Prop) : zX d 108 70 ls st σ Q = zB d 108 zt_108_70 ls st σ Q := zX_eq d 108 70 ls st σ Q
theorem L_108_88 (d : Nat) (ls st : List Value) (σ : MS) (Q : Option Value → MS → Prop) : zX d 108 88 ls st σ Q = zB d 108 zt_108_88 ls st σ Q := zX_eq d 108 88 ls st σ Q
theorem L_108_94 (d : Nat) (ls st : List Value) (σ : MS) (Q : Option Value → MS → Prop) : zX d 108 94 ls st σ Q = zB d 108 zt_108_94 ls st σ Q := zX_eq d 108 94 ls st σ Q
theorem L_109_0 (d : Nat) (ls st : List Value) (σ : MS) (Q : Option Value → MS → Prop) : zX d 109 0 ls st σ Q = zB d 109 zt_109_0 ls st σ Q := zX_eq d 109 0 ls st σ Q
theorem L_109_3 (d : Nat) (ls st : List Value) (σ : MS) (Q : Option Value → MS → Prop) : zX d 109 3 ls st σ Q = zB d 109 zt_109_3 ls st σ Q := zX_eq d 109 3 ls st σ Q
theorem L_109_47 (d : Nat) (ls st : List Value) (σ : MS) (Q : Option Value → MS → Prop) : zX d 109 47 ls st σ Q = zB d 109 zt_109_47 ls st σ Q := zX_eq d 109 47 ls st σ Q
theorem L_109_53 (d : Nat) (ls st : List Value) (σ : MS) (Q : Option Value → MS → Prop) : zX d 109 53 ls st σ Q = zB d 109 zt_109_53 ls st σ Q := zX_eq d 109 53 ls st σ Q
theorem L_110_0 (d : Nat) (ls st : List Value) (σ : MS) (Q : Option Value → MS → Prop) : zX d 110 0 ls st σ Q = zB d 110 zt_110_0 ls st σ Q := zX_eq d 110 0 ls st σ Q
theorem L_111_0 (d : Nat) (ls st : List Value) (σ : MS) (Q : Option Value → MS → Prop) : zX d 111 0 ls st σ Q = zB d 111 zt_111_0 ls st σ Q := zX_eq d 111 0 ls st σ Q
theorem L_111_39 (d : Nat) (ls st : List Value) (σ : MS) (Q : Option Value → MS → Prop) : zX d 111 39 ls st σ Q = zB d 111 zt_111_39 ls st σ Q := zX_eq d 111 39 ls st σ Q
theorem L_111_66 (d : Nat) (ls st : List Value) (σ : MS) (Q : Option Value → MS → Prop) : zX d 111 66 ls st σ Q = zB d 111 zt_111_66 ls st σ Q := zX_eq d 111 66 ls st σ Q
theorem L_111_88 (d : Nat) (ls st : List Value) (σ : MS) (Q : Option Value → MS → Prop) : zX d 111 88 ls st σ Q = zB d 111 zt_111_88 ls st σ Q := zX_eq d 111 88 ls st σ Q
theorem L_111_110 (d : Nat) (ls st : List Value) (σ : MS) (Q : Option Value → MS → Prop) : zX d 111 110 ls st σ Q = zB d 111 zt_111_110 ls st σ Q := zX_eq d 111 110 ls st σ Q
theorem L_111_138 (d : Nat) (ls st : List Value) (σ : MS) (Q : Option Value → MS → Prop) : zX d 111 138 ls st σ Q = zB d 111 zt_111_138 ls st σ Q := zX_eq d 111 138 ls st σ Q
theorem L_111_139 (d : Nat) (ls st : List Value) (σ : MS) (Q : Option Value → MS → Prop) : zX d 111 139 ls st σ Q = zB d 111 zt_111_139 ls st σ Q := zX_eq d 111 139 ls st σ Q
theorem L_111_152 (d : Nat) (ls st : List Value) (σ : MS) (Q : Option Value → MS → Prop) : zX d 111 152 ls st σ Q = zB d 111 zt_111_152 ls st σ Q := zX_eq d 111 152 ls st σ Q
theorem L_112_0 (d : Nat) (ls st : List Value) (σ : MS) (Q : Option Value → MS → Prop) : zX d 112 0 ls st σ Q = zB d 112 zt_112_0 ls st σ Q := zX_eq d 112 0 ls st σ Q
theorem L_112_10 (d : Nat) (ls st : List Value) (σ : MS) (Q : Option Value → MS → Prop) : zX d 112 10 ls st σ Q = zB d 112 zt_112_10 ls st σ Q := zX_eq d 112 10 ls st σ Q
theorem L_112_76 (d : Nat) (ls st : List Value) (σ : MS) (Q : Option Value → MS → Prop) : zX d 112 76 ls st σ Q = zB d 112 zt_112_76 ls st σ Q := zX_eq d 112 76 ls st σ Q
theorem L_112_89 (d : Nat) (ls st : List Value) (σ : MS) (Q : Option Value → MS → Prop) : zX d 112 89 ls st σ Q = zB d 112 zt_112_89 ls st σ Q := zX_eq d 112 89 ls st σ Q
theorem L_112_108 (d : Nat) (ls st : List Value) (σ : MS) (Q : Option Value → MS → Prop) : zX d 112 108 ls st σ Q = zB d 112 zt_112_108 ls st σ Q := zX_eq d 112 108 ls st σ Q
theorem L_112_115 (d : Nat) (ls st : List Value) (σ : MS) (Q : Option Value → MS → Prop) : zX d 112 115 ls st σ Q = zB d 112 zt_112_115 ls st σ Q := zX_eq d 112 115 ls st σ Q
theorem L_112_140 (d : Nat) (ls st : List Value) (σ : MS) (Q : Option Value → MS → Prop) : zX d 112 140 ls st σ Q = zB d 112 zt_112_140 ls st σ Q := zX_eq d 112 140 ls st σ Q
theorem L_112_146 (d : Nat) (ls st : List Value) (σ : MS) (Q : Option Value → MS → Prop) : zX d 112 146 ls st σ Q = zB d 112 zt_112_146 ls st σ Q := zX_eq d 112 146 ls st σ Q
theorem L_113_0 (d : Nat) (ls st : List Value) (σ : MS) (Q : Option Value → MS → Prop) : zX d 113 0 ls st σ Q = zB d 113 zt_113_0 ls st σ Q := zX_eq d 113 0 ls st σ Q
theorem L_113_10 (d : Nat) (ls st : List Value) (σ : MS) (Q : Option Value → MS → Prop) : zX d 113 10 ls st σ Q = zB d 113 zt_113_10 ls st σ Q := zX_eq d 113 10 ls st σ Q
theorem L_113_73 (d : Nat) (ls st : List Value) (σ : MS) (Q : Option Value → MS → Prop) : zX d 113 73 ls st σ Q = zB d 113 zt_113_73 ls st σ Q := zX_eq d 113 73 ls st σ Q
theorem L_113_86 (d : Nat) (ls st : List Value) (σ : MS) (Q : Option Value → MS → Prop) : zX d 113 86 ls st σ Q = zB d 113 zt_113_86 ls st σ Q := zX_eq d 113 86 ls st σ Q
theorem L_113_104 (d : Nat) (ls st : List Value) (σ : MS) (Q : Option Value → MS → Prop) : zX d 113 104 ls st σ Q = zB d 113 zt_113_104 ls st σ Q := zX_eq d 113 104 ls st σ Q
theorem L_114_0 (d : Nat) (ls st : List Value) (σ : MS) (Q : Option Value → MS → Prop) : zX d 114 0 ls st σ Q = zB d 114 zt_114_0 ls st σ Q := zX_eq d 114 0 ls st σ Q
theorem L_114_12 (d : Nat) (ls st : List Value) (σ : MS) (Q : Option Value → MS → Prop) : zX d 114 12 ls st σ Q = zB d 114 zt_114_12 ls st σ Q := zX_eq d 114 12 ls st σ Q
theorem L_114_16 (d : Nat) (ls st : List Value) (σ : MS) (Q : Option Value → MS → Prop) : zX d 114 16 ls st σ Q = zB d 114 zt_114_16 ls st σ Q := zX_eq d 114 16 ls st σ Q
theorem L_114_17 (d : Nat) (ls st : List Value) (σ : MS) (Q : Option Value → MS → Prop) : zX d 114 17 ls st σ Q = zB d 114 zt_114_17 ls st σ Q := zX_eq d 114 17 ls st σ Q
theorem L_115_0 (d : Nat) (ls st : List Value) (σ : MS) (Q : Option Value → MS → Prop) : zX d 115 0 ls st σ Q = zB d 115 zt_115_0 ls st σ Q := zX_eq d 115 0 ls st σ Q
theorem L_115_16 (d : Nat) (ls st : List Value) (σ : MS) (Q : Option Value → MS → Prop) : zX d 115 16 ls st σ Q = zB d 115 zt_115_16 ls st σ Q := zX_eq d 115 16 ls st σ Q
theorem L_115_17 (d : Nat) (ls st : List Value) (σ : MS) (Q : Option Value → MS → Prop) : zX d 115 17 ls st σ Q = zB d 115 zt_115_17 ls st σ Q := zX_eq d 115 17 ls st σ Q
theorem L_116_0 (d : Nat) (ls st : List Value) (σ : MS) (Q : Option Value → MS → Prop) : zX d 116 0 ls st σ Q = zB d 116 zt_116_0 ls st σ Q := zX_eq d 116 0 ls st σ Q
theorem L_116_16 (d : Nat) (ls st : List Value) (σ : MS) (Q : Option Value → MS → Prop) : zX d 116 16 ls st σ Q = zB d 116 zt_116_16 ls st σ Q := zX_eq d 116 16 ls st σ Q
theorem L_116_17 (d : Nat) (ls st : List Value) (σ : MS) (Q : Option Value → MS → Prop) : zX d 116 17 ls st σ Q = zB d 116 zt_116_17 ls st σ Q := zX_eq d 116 17 ls st σ Q
theorem L_117_0 (d : Nat) (ls st : List Value) (σ : MS) (Q : Option Value → MS → Prop) : zX d 117 0 ls st σ Q = zB d 117 zt_117_0 ls st σ Q := zX_eq d 117 0 ls st σ Q
theorem L_117_24 (d : Nat) (ls st : List Value) (σ : MS) (Q : Option Value → MS → Prop) : zX d 117 24 ls st σ Q = zB d 117 zt_117_24 ls st σ Q := zX_eq d 117 24 ls st σ Q
theorem L_117_28 (d : Nat) (ls st : List Value) (σ : MS) (Q : Option Value → MS → Prop) : zX d 117 28 ls st σ Q = zB d 117 zt_117_28 ls st σ Q := zX_eq d 117 28 ls st σ Q
theorem L_117_29 (d : Nat) (ls st : List Value) (σ : MS) (Q : Option Value → MS → Prop) : zX d 117 29 ls st σ Q = zB d 117 zt_117_29 ls st σ Q := zX_eq d 117 29 ls st σ Q
theorem L_118_0 (d : Nat) (ls st : List Value) (σ : MS) (Q : Option Value → MS → Prop) : zX d 118 0 ls st σ Q = zB d 118 zt_118_0 ls st σ Q := zX_eq d 118 0 ls st σ Q
theorem L_119_0 (d : Nat) (ls st : List Value) (σ : MS) (Q : Option Value → MS → Prop) : zX d 119 0 ls st σ Q = zB d 119 zt_119_0 ls st σ Q := zX_eq d 119 0 ls st σ Q
theorem L_120_0 (d : Nat) (ls st : List Value) (σ : MS) (Q : Option Value → MS → Prop) : zX d 120 0 ls st σ Q = zB d 120 zt_120_0 ls st σ Q := zX_eq d 120 0 ls st σ Q
theorem L_120_13 (d : Nat) (ls st : List Value) (σ : MS) (Q : Option Value → MS → Prop) : zX d 120 13 ls st σ Q = zB d 120 zt_120_13 ls st σ Q := zX_eq d 120 13 ls st σ Q
theorem L_120_14 (d : Nat) (ls st : List Value) (σ : MS) (Q : Option Value → MS → Prop) : zX d 120 14 ls st σ Q = zB d 120 zt_120_14 ls st σ Q := zX_eq d 120 14 ls st σ Q
theorem L_121_0 (d : Nat) (ls st : List Value) (σ : MS) (Q : Option Value → MS → Prop) : zX d 121 0 ls st σ Q = zB d 121 zt_121_0 ls st σ Q := zX_eq d 121 0 ls st σ Q
theorem L_121_20 (d : Nat) (ls st : List Value) (σ : MS) (Q : Option Value → MS → Prop) : zX d 121 20 ls st σ Q = zB d 121 zt_121_20 ls st σ Q := zX_eq d 121 20 ls st σ Q
theorem L_121_21 (d : Nat) (ls st : List Value) (σ : MS) (Q : Option Value → MS → Prop) : zX d 121 21 ls st σ Q = zB d 121 zt_121_21 ls st σ Q := zX_eq d 121 21 ls st σ Q
theorem L_122_0 (d : Nat) (ls st : List Value) (σ : MS) (Q : Option Value → MS → Prop) : zX d 122 0 ls st σ Q = zB d 122 zt_122_0 ls st σ Q := zX_eq d 122 0 ls st σ Q
theorem L_122_20 (d : Nat) (ls st : List Value) (σ : MS) (Q : Option Value → MS → Prop) : zX d 122 20 ls st σ Q = zB d 122 zt_122_20 ls st σ Q := zX_eq d 122 20 ls st σ Q
theorem L_122_21 (d : Nat) (ls st : List Value) (σ : MS) (Q : Option Value → MS → Prop) : zX d 122 21 ls st σ Q = zB d 122 zt_122_21 ls st σ Q := zX_eq d 122 21 ls st σ Q
theorem L_123_0 (d : Nat) (ls st : List Value) (σ : MS) (Q : Option Value → MS → Prop) : zX d 123 0 ls st σ Q = zB d 123 zt_123_0 ls st σ Q := zX_eq d 123 0 ls st σ Q
theorem L_123_13 (d : Nat) (ls st : List Value) (σ : MS) (Q : Option Value → MS → Prop) : zX d 123 13 ls st σ Q = zB d 123 zt_123_13 ls st σ Q := zX_eq d 123 13 ls st σ Q
theorem L_124_0 (d : Nat) (ls st : List Value) (σ : MS) (Q : Option Value → MS → Prop) : zX d 124 0 ls st σ Q = zB d 124 zt_124_0 ls st σ Q := zX_eq d 124 0 ls st σ Q
theorem L_124_14 (d : Nat) (ls st : List Value) (σ : MS) (Q : Option Value → MS → Prop) : zX d 124 14 ls st σ Q = zB d 124 zt_124_14 ls st σ Q := zX_eq d 124 14 ls st σ Q
theorem L_125_0 (d : Nat) (ls st : List Value) (σ : MS) (Q : Option Value → MS → Prop) : zX d 125 0 ls st σ Q = zB d 125 zt_125_0 ls st σ Q := zX_eq d 125 0 ls st σ Q
theorem L_125_29 (d : Nat) (ls st : List Value) (σ : MS) (Q : Option Value → MS → Prop) : zX d 125 29 ls st σ Q = zB d 125 zt_125_29 ls st σ Q := zX_eq d 125 29 ls st σ Q
theorem L_125_30 (d : Nat) (ls st : List Value) (σ : MS) (Q : Option Value → MS → Prop) : zX d 125 30 ls st σ Q = zB d 125 zt_125_30 ls st σ Q := zX_eq d 125 30 ls st σ Q
theorem L_125_42 (d : Nat) (ls st : List Value) (σ : MS) (Q : Option Value → MS → Prop) : zX d 125 42 ls st σ Q = zB d 125 zt_125_42 ls st σ Q := zX_eq d 125 42 ls st σ Q
theorem L_125_46 (d : Nat) (ls st : List Value) (σ : MS) (Q : Option Value → MS → Prop) : zX d 125 46 ls st σ Q = zB d 125 zt_125_46 ls st σ Q := zX_eq d 125 46 ls st σ Q
theorem L_125_47 (d : Nat) (ls st : List Value) (σ : MS) (Q : Option Value → MS → Prop) : zX d 125 47 ls st σ Q = zB d 125 zt_125_47 ls st σ Q := zX_eq d 125 47 ls st σ Q
theorem L_126_0 (d : Nat) (ls st : List Value) (σ : MS) (Q : Option Value → MS → Prop) : zX d 126 0 ls st σ Q = zB d 126 zt_126_0 ls st σ Q := zX_eq d 126 0 ls st σ Q
theorem L_126_13 (d : Nat) (ls st : List Value) (σ : MS) (Q : Option Value → MS → Prop) : zX d 126 13 ls st σ Q = zB d 126 zt_126_13 ls st σ Q := zX_eq d 126 13 ls st σ Q
theorem L_126_29 (d : Nat) (ls st : List Value) (σ : MS) (Q : Option Value → MS → Prop) : zX d 126 29 ls st σ Q = zB d 126 zt_126_29 ls st σ Q := zX_eq d 126 29 ls st σ Q
theorem L_126_37 (d : Nat) (ls st : List Value) (σ : MS) (Q : Option Value → MS → Prop) : zX d 126 37 ls st σ Q = zB d 126 zt_126_37 ls st σ Q := zX_eq d 126 37 ls st σ Q
theorem L_126_41 (d : Nat) (ls st : List Value) (σ : MS) (Q : Option Value → MS → Prop) : zX d 126 41 ls st σ Q = zB d 126 zt_126_41 ls st σ Q := zX_eq d 126 41 ls st σ Q
theorem L_126_42 (d : Nat) (ls st : List Value) (σ : MS) (Q : Option Value → MS → Prop) : zX d 126 42 ls st σ Q = zB d 126 zt_126_42 ls st σ Q := zX_eq d 126 42 ls st σ Q
theorem L_127_0 (d : Nat) (ls st : List Value) (σ : MS) (Q : Option Value → MS → Prop) : zX d 127 0 ls st σ Q = zB d 127 zt_127_0 ls st σ Q := zX_eq d 127 0 ls st σ Q
theorem L_128_0 (d : Nat) (ls st : List Value) (σ : MS) (Q : Option Value → MS → Prop) : zX d 128 0 ls st σ Q = zB d 128 zt_128_0 ls st σ Q := zX_eq d 128 0 ls st σ Q
theorem L_129_0 (d : Nat) (ls st : List Value) (σ : MS) (Q : Option Value → MS → Prop) : zX d 129 0 ls st σ Q = zB d 129 zt_129_0 ls st σ Q := zX_eq d 129 0 ls st σ Q
theorem L_129_31 (d : Nat) (ls st : List Value) (σ : MS) (Q : Option Value → MS → Prop) : zX d 129 31 ls st σ Q = zB d 129 zt_129_31 ls st σ Q := zX_eq d 129 31 ls st σ Q
theorem L_129_32 (d : Nat) (ls st : List Value) (σ : MS) (Q : Option Value → MS → Prop) : zX d 129 32 ls st σ Q = zB d 129 zt_129_32 ls st σ Q := zX_eq d 129 32 ls st σ Q
theorem L_130_0 (d : Nat) (ls st : List Value) (σ : MS) (Q : Option Value → MS → Prop) : zX d 130 0 ls st σ Q = zB d 130 zt_130_0 ls st σ Q := zX_eq d 130 0 ls st σ Q
theorem L_130_27 (d : Nat) (ls st : List Value) (σ : MS) (Q : Option Value → MS → Prop) : zX d 130 27 ls st σ Q = zB d 130 zt_130_27 ls st σ Q := zX_eq d 130 27 ls st σ Q
theorem L_130_28 (d : Nat) (ls st : List Value) (σ : MS) (Q : Option Value → MS → Prop) : zX d 130 28 ls st σ Q = zB d 130 zt_130_28 ls st σ Q := zX_eq d 130 28 ls st σ Q
theorem L_131_0 (d : Nat) (ls st : List Value) (σ : MS) (Q : Option Value → MS → Prop) : zX d 131 0 ls st σ Q = zB d 131 zt_131_0 ls st σ Q := zX_eq d 131 0 ls st σ Q
theorem L_131_29 (d : Nat) (ls st : List Value) (σ : MS) (Q : Option Value → MS → Prop) : zX d 131 29 ls st σ Q = zB d 131 zt_131_29 ls st σ Q := zX_eq d 131 29 ls st σ Q
theorem L_132_0 (d : Nat) (ls st : List Value) (σ : MS) (Q : Option Value → MS → Prop) : zX d 132 0 ls st σ Q = zB d 132 zt_132_0 ls st σ Q := zX_eq d 132 0 ls st σ Q
theorem L_132_32 (d : Nat) (ls st : List Value) (σ : MS) (Q : Option Value → MS → Prop) : zX d 132 32 ls st σ Q = zB d 132 zt_132_32 ls st σ Q := zX_eq d 132 32 ls st σ Q
theorem L_132_37 (d : Nat) (ls st : List Value) (σ : MS) (Q : Option Value → MS → Prop) : zX d 132 37 ls st σ Q = zB d 132 zt_132_37 ls st σ Q := zX_eq d 132 37 ls st σ Q
theorem L_132_42 (d : Nat) (ls st : List Value) (σ : MS) (Q : Option Value → MS → Prop) : zX d 132 42 ls st σ Q = zB d 132 zt_132_42 ls st σ Q := zX_eq d 132 42 ls st σ Q
theorem L_132_46 (d : Nat) (ls st : List Value) (σ : MS) (Q : Option Value → MS → Prop) : zX d 132 46 ls st σ Q = zB d 132 zt_132_46 ls st σ Q := zX_eq d 132 46 ls st σ Q
theorem L_133_0 (d : Nat) (ls st : List Value) (σ : MS) (Q : Option Value → MS → Prop) : zX d 133 0 ls st σ Q = zB d 133 zt_133_0 ls st σ Q := zX_eq d 133 0 ls st σ Q
theorem L_134_0 (d : Nat) (ls st : List Value) (σ : MS) (Q : Option Value → MS → Prop) : zX d 134 0 ls st σ Q = zB d 134 zt_134_0 ls st σ Q := zX_eq d 134 0 ls st σ Q
theorem L_134_21 (d : Nat) (ls st : List Value) (σ : MS) (Q : Option Value → MS → Prop) : zX d 134 21 ls st σ Q = zB d 134 zt_134_21 ls st σ Q := zX_eq d 134 21 ls st σ Q
theorem L_134_76 (d : Nat) (ls st : List Value) (σ : MS) (Q : Option Value → MS → Prop) : zX d 134 76 ls st σ Q = zB d 134 zt_134_76 ls st σ Q := zX_eq d 134 76 ls st σ Q
theorem L_135_0 (d : Nat) (ls st : List Value) (σ : MS) (Q : Option Value → MS → Prop) : zX d 135 0 ls st σ Q = zB d 135 zt_135_0 ls st σ Q := zX_eq d 135 0 ls st σ Q
theorem L_135_25 (d : Nat) (ls st : List Value) (σ : MS) (Q : Option Value → MS → Prop) : zX d 135 25 ls st σ Q = zB d 135 zt_135_25 ls st σ Q := zX_eq d 135 25 ls st σ Q
theorem L_135_26 (d : Nat) (ls st : List Value) (σ : MS) (Q : Option Value → MS → Prop) : zX d 135 26 ls st σ Q = zB d 135 zt_135_26 ls st σ Q := zX_eq d 135 26 ls st σ Q
theorem L_135_76 (d : Nat) (ls st : List Value) (σ : MS) (Q : Option Value → MS → Prop) : zX d 135 76 ls st σ Q = zB d 135 zt_135_76 ls st σ Q := zX_eq d 135 76 ls st σ Q
theorem L_135_77 (d : Nat) (ls st : List Value) (σ : MS) (Q : Option Value → MS → Prop) : zX d 135 77 ls st σ Q = zB d 135 zt_135_77 ls st σ Q := zX_eq d 135 77 ls st σ Q
theorem L_135_90 (d : Nat) (ls st : List Value) (σ : MS) (Q : Option Value → MS → Prop) : zX d 135 90 ls st σ Q = zB d 135 zt_135_90 ls st σ Q := zX_eq d 135 90 ls st σ Q
theorem L_135_153 (d : Nat) (ls st : List Value) (σ : MS) (Q : Option Value → MS → Prop) : zX d 135 153 ls st σ Q = zB d 135 zt_135_153 ls st σ Q := zX_eq d 135 153 ls st σ Q
theorem L_136_0 (d : Nat) (ls st : List Value) (σ : MS) (Q : Option Value → MS → Prop) : zX d 136 0 ls st σ Q = zB d 136 zt_136_0 ls st σ Q := zX_eq d 136 0 ls st σ Q
theorem L_136_7 (d : Nat) (ls st : List Value) (σ : MS) (Q : Option Value → MS → Prop) : zX d 136 7 ls st σ Q = zB d 136 zt_136_7 ls st σ Q := zX_eq d 136 7 ls st σ Q
theorem L_136_33 (d : Nat) (ls st : List Value) (σ : MS) (Q : Option Value → MS → Prop) : zX d 136 33 ls st σ Q = zB d 136 zt_136_33 ls st σ Q := zX_eq d 136 33 ls st σ Q
theorem L_136_37 (d : Nat) (ls st : List Value) (σ : MS) (Q : Option Value → MS → Prop) : zX d 136 37 ls st σ Q = zB d 136 zt_136_37 ls st σ Q := zX_eq d 136 37 ls st σ Q
theorem L_136_67 (d : Nat) (ls st : List Value) (σ : MS) (Q : Option Value → MS → Prop) : zX d 136 67 ls st σ Q = zB d 136 zt_136_67 ls st σ Q := zX_eq d 136 67 ls st σ Q
theorem L_136_98 (d : Nat) (ls st : List Value) (σ : MS) (Q : Option Value → MS → Prop) : zX d 136 98 ls st σ Q = zB d 136 zt_136_98 ls st σ Q := zX_eq d 136 98 ls st σ Q
theorem L_136_109 (d : Nat) (ls st : List Value) (σ : MS) (Q : Option Value → MS → Prop) : zX d 136 109 ls st σ Q = zB d 136 zt_136_109 ls st σ Q := zX_eq d 136 109 ls st σ Q
theorem L_137_0 (d : Nat) (ls st : List Value) (σ : MS) (Q : Option Value → MS → Prop) : zX d 137 0 ls st σ Q = zB d 137 zt_137_0 ls st σ Q := zX_eq d 137 0 ls st σ Q
theorem L_137_2 (d : Nat) (ls st : List Value) (σ : MS) (Q : Option Value → MS → Prop) : zX d 137 2 ls st σ Q = zB d 137 zt_137_2 ls st σ Q := zX_eq d 137 2 ls st σ Q
theorem L_137_21 (d : Nat) (ls st : List Value) (σ : MS) (Q : Option Value → MS → Prop) : zX d 137 21 ls st σ Q = zB d 137 zt_137_21 ls st σ Q := zX_eq d 137 21 ls st σ Q
theorem L_137_27 (d : Nat) (ls st : List Value) (σ : MS) (Q : Option Value → MS → Prop) : zX d 137 27 ls st σ Q = zB d 137 zt_137_27 ls st σ Q := zX_eq d 137 27 ls st σ Q
theorem L_138_0 (d : Nat) (ls st : List Value) (σ : MS) (Q : Option Value → MS → Prop) : zX d 138 0 ls st σ Q = zB d 138 zt_138_0 ls st σ Q := zX_eq d 138 0 ls st σ Q
theorem L_138_2 (d : Nat) (ls st : List Value) (σ : MS) (Q : Option Value → MS → Prop) : zX d 138 2 ls st σ Q = zB d 138 zt_138_2 ls st σ Q := zX_eq d 138 2 ls st σ Q
theorem L_138_28 (d : Nat) (ls st : List Value) (σ : MS) (Q : Option Value → MS → Prop) : zX d 138 28 ls st σ Q = zB d 138 zt_138_28 ls st σ Q := zX_eq d 138 28 ls st σ Q
theorem L_138_41 (d : Nat) (ls st : List Value) (σ : MS) (Q : Option Value → MS → Prop) : zX d 138 41 ls st σ Q = zB d 138 zt_138_41 ls st σ Q := zX_eq d 138 41 ls st σ Q
theorem L_139_0 (d : Nat) (ls st : List Value) (σ : MS) (Q : Option Value → MS → Prop) : zX d 139 0 ls st σ Q = zB d 139 zt_139_0 ls st σ Q := zX_eq d 139 0 ls st σ Q
theorem L_139_12 (d : Nat) (ls st : List Value) (σ : MS) (Q : Option Value → MS → Prop) : zX d 139 12 ls st σ Q = zB d 139 zt_139_12 ls st σ Q := zX_eq d 139 12 ls st σ Q
theorem L_139_48 (d : Nat) (ls st : List Value) (σ : MS) (Q : Option Value → MS → Prop) : zX d 139 48 ls st σ Q = zB d 139 zt_139_48 ls st σ Q := zX_eq d 139 48 ls st σ Q
theorem L_140_0 (d : Nat) (ls st : List Value) (σ : MS) (Q : Option Value → MS → Prop) : zX d 140 0 ls st σ Q = zB d 140 zt_140_0 ls st σ Q := zX_eq d 140 0 ls st σ Q
theorem L_140_29 (d : Nat) (ls st : List Value) (σ : MS) (Q : Option Value → MS → Prop) : zX d 140 29 ls st σ Q = zB d 140 zt_140_29 ls st σ Q := zX_eq d 140 29 ls st σ Q
theorem L_140_30 (d : Nat) (ls st : List Value) (σ : MS) (Q : Option Value → MS → Prop) : zX d 140 30 ls st σ Q = zB d 140 zt_140_30 ls st σ Q := zX_eq d 140 30 ls st σ Q
theorem L_140_47 (d : Nat) (ls st : List Value) (σ : MS) (Q : Option Value → MS → Prop) : zX d 140 47 ls st σ Q = zB d 140 zt_140_47 ls st σ Q := zX_eq d 140 47 ls st σ Q
theorem L_140_48 (d : Nat) (ls st : List Value) (σ : MS) (Q : Option Value → MS → Prop) : zX d 140 48 ls st σ Q = zB d 140 zt_140_48 ls st σ Q := zX_eq d 140 48 ls st σ Q
theorem L_141_0 (d : Nat) (ls st : List Value) (σ : MS) (Q : Option Value → MS → Prop) : zX d 141 0 ls st σ Q = zB d 141 zt_141_0 ls st σ Q := zX_eq d 141 0 ls st σ Q
theorem L_141_73 (d : Nat) (ls st : List Value) (σ : MS) (Q : Option Value → MS → Prop) : zX d 141 73 ls st σ Q = zB d 141 zt_141_73 ls st σ Q := zX_eq d 141 73 ls st σ Q
theorem L_141_97 (d : Nat) (ls st : List Value) (σ : MS) (Q : Option Value → MS → Prop) : zX d 141 97 ls st σ Q = zB d 141 zt_141_97 ls st σ Q := zX_eq d 141 97 ls st σ Q
theorem L_141_115 (d : Nat) (ls st : List Value) (σ : MS) (Q : Option Value → MS → Prop) : zX d 141 115 ls st σ Q = zB d 141 zt_141_115 ls st σ Q := zX_eq d 141 115 ls st σ Q
theorem L_141_152 (d : Nat) (ls st : List Value) (σ : MS) (Q : Option Value → MS → Prop) : zX d 141 152 ls st σ Q = zB d 141 zt_141_152 ls st σ Q := zX_eq d 141 152 ls st σ Q
theorem L_142_0 (d : Nat) (ls st : List Value) (σ : MS) (Q : Option Value → MS → Prop) : zX d 142 0 ls st σ Q = zB d 142 zt_142_0 ls st σ Q := zX_eq d 142 0 ls st σ Q
theorem L_143_0 (d : Nat) (ls st : List Value) (σ : MS) (Q : Option Value → MS → Prop) : zX d 143 0 ls st σ Q = zB d 143 zt_143_0 ls st σ Q := zX_eq d 143 0 ls st σ Q
theorem L_144_0 (d : Nat) (ls st : List Value) (σ : MS) (Q : Option Value → MS → Prop) : zX d 144 0 ls st σ Q = zB d 144 zt_144_0 ls st σ Q := zX_eq d 144 0 ls st σ Q
theorem L_145_0 (d : Nat) (ls st : List Value) (σ : MS) (Q : Option Value → MS → Prop) : zX d 145 0 ls st σ Q = zB d 145 zt_145_0 ls st σ Q := zX_eq d 145 0 ls st σ Q
theorem L_145_26 (d : Nat) (ls st : List Value) (σ : MS) (Q : Option Value → MS → Prop) : zX d 145 26 ls st σ Q = zB d 145 zt_145_26 ls st σ Q := zX_eq d 145 26 ls st σ Q
theorem L_145_32 (d : Nat) (ls st : List Value) (σ : MS) (Q : Option Value → MS → Prop) : zX d 145 32 ls st σ Q = zB d 145 zt_145_32 ls st σ Q := zX_eq d 145 32 ls st σ Q
theorem L_146_0 (d : Nat) (ls st : List Value) (σ : MS) (Q : Option Value → MS → Prop) : zX d 146 0 ls st σ Q = zB d 146 zt_146_0 ls st σ Q := zX_eq d 146 0 ls st σ Q
theorem L_146_20 (d : Nat) (ls st : List Value) (σ : MS) (Q : Option Value → MS → Prop) : zX d 146 20 ls st σ Q = zB d 146 zt_146_20 ls st σ Q := zX_eq d 146 20 ls st σ Q
theorem L_147_0 (d : Nat) (ls st : List Value) (σ : MS) (Q : Option Value → MS → Prop) : zX d 147 0 ls st σ Q = zB d 147 zt_147_0 ls st σ Q := zX_eq d 147 0 ls st σ Q
theorem L_147_18 (d : Nat) (ls st : List Value) (σ : MS) (Q : Option Value → MS → Prop) : zX d 147 18 ls st σ Q = zB d 147 zt_147_18 ls st σ Q := zX_eq d 147 18 ls st σ Q
theorem L_148_0 (d : Nat) (ls st : List Value) (σ : MS) (Q : Option Value → MS → Prop) : zX d 148 0 ls st σ Q = zB d 148 zt_148_0 ls st σ Q := zX_eq d 148 0 ls st σ Q
theorem L_148_28 (d : Nat) (ls st : List Value) (σ : MS) (Q : Option Value → MS → Prop) : zX d 148 28 ls st σ Q = zB d 148 zt_148_28 ls st σ Q := zX_eq d 148 28 ls st σ Q
theorem L_148_34 (d : Nat) (ls st : List Value) (σ : MS) (Q : Option Value → MS → Prop) : zX d 148 34 ls st σ Q = zB d 148 zt_148_34 ls st σ Q := zX_eq d 148 34 ls st σ Q
theorem L_148_66 (d : Nat) (ls st : List Value) (σ : MS) (Q : Option Value → MS → Prop) : zX d 148 66 ls st σ Q = zB d 148 zt_148_66 ls st σ Q := zX_eq d 148 66 ls st σ Q
theorem L_148_72 (d : Nat) (ls st : List Value) (σ : MS) (Q : Option Value → MS → Prop) : zX d 148 72 ls st σ Q = zB d 148 zt_148_72 ls st σ Q := zX_eq d 148 72 ls st σ Q
theorem L_148_92 (d : Nat) (ls st : List Value) (σ : MS) (Q : Option Value → MS → Prop) : zX d 148 92 ls st σ Q = zB d 148 zt_148_92 ls st σ Q := zX_eq d 148 92 ls st σ Q
theorem L_148_115 (d : Nat) (ls st : List Value) (σ : MS) (Q : Option Value → MS → Prop) : zX d 148 115 ls st σ Q = zB d 148 zt_148_115 ls st σ Q := zX_eq d 148 115 ls st σ Q
theorem L_148_121 (d : Nat) (ls st : List Value) (σ : MS) (Q : Option Value → MS → Prop) : zX d 148 121 ls st σ Q = zB d 148 zt_148_121 ls st σ Q := zX_eq d 148 121 ls st σ Q
theorem L_149_0 (d : Nat) (ls st : List Value) (σ : MS) (Q : Option Value → MS → Prop) : zX d 149 0 ls st σ Q = zB d 149 zt_149_0 ls st σ Q := zX_eq d 149 0 ls st σ Q
theorem L_149_18 (d : Nat) (ls st : List Value) (σ : MS) (Q : Option Value → MS → Prop) : zX d 149 18 ls st σ Q = zB d 149 zt_149_18 ls st σ Q := zX_eq d 149 18 ls st σ Q
theorem L_150_0 (d : Nat) (ls st : List Value) (σ : MS) (Q : Option Value → MS → Prop) : zX d 150 0 ls st σ Q = zB d 150 zt_150_0 ls st σ Q := zX_eq d 150 0 ls st σ Q
theorem L_150_15 (d : Nat) (ls st : List Value) (σ : MS) (Q : Option Value → MS → Prop) : zX d 150 15 ls st σ Q = zB d 150 zt_150_15 ls st σ Q := zX_eq d 150 15 ls st σ Q
theorem L_150_21 (d : Nat) (ls st : List Value) (σ : MS) (Q : Option Value → MS → Prop) : zX d 150 21 ls st σ Q = zB d 150 zt_150_21 ls st σ Q := zX_eq d 150 21 ls st σ Q
theorem L_150_61 (d : Nat) (ls st : List Value) (σ : MS) (Q : Option Value → MS → Prop) : zX d 150 61 ls st σ Q = zB d 150 zt_150_61 ls st σ Q := zX_eq d 150 61 ls st σ Q
theorem L_151_0 (d : Nat) (ls st : List Value) (σ : MS) (Q : Option Value → MS → Prop) : zX d 151 0 ls st σ Q = zB d 151 zt_151_0 ls st σ Q := zX_eq d 151 0 ls st σ Q
theorem L_151_22 (d : Nat) (ls st : List Value) (σ : MS) (Q : Option Value → MS → Prop) : zX d 151 22 ls st σ Q = zB d 151 zt_151_22 ls st σ Q := zX_eq d 151 22 ls st σ Q
theorem L_151_28 (d : Nat) (ls st : List Value) (σ : MS) (Q : Option Value → MS → Prop) : zX d 151 28 ls st σ Q = zB d 151 zt_151_28 ls st σ Q := zX_eq d 151 28 ls st σ Q
theorem L_151_72 (d : Nat) (ls st : List Value) (σ : MS) (Q : Option Value → MS → Prop) : zX d 151 72 ls st σ Q = zB d 151 zt_151_72 ls st σ Q := zX_eq d 151 72 ls st σ Q
theorem L_152_0 (d : Nat) (ls st : List Value) (σ : MS) (Q : Option Value → MS → Prop) : zX d 152 0 ls st σ Q = zB d 152 zt_152_0 ls st σ Q := zX_eq d 152 0 ls st σ Q
theorem L_152_9 (d : Nat) (ls st : List Value) (σ : MS) (Q : Option Value → MS → Prop) : zX d 152 9 ls st σ Q = zB d 152 zt_152_9 ls st σ Q := zX_eq d 152 9 ls st σ Q
theorem L_152_21 (d : Nat) (ls st : List Value) (σ : MS) (Q : Option Value → MS → Prop) : zX d 152 21 ls st σ Q = zB d 152 zt_152_21 ls st σ Q := zX_eq d 152 21 ls st σ Q
theorem L_152_22 (d : Nat) (ls st : List Value) (σ : MS) (Q : Option Value → MS → Prop) : zX d 152 22 ls st σ Q = zB d 152 zt_152_22 ls st σ Q := zX_eq d 152 22 ls st σ Q
theorem L_153_0 (d : Nat) (ls st : List Value) (σ : MS) (Q : Option Value → MS → Prop) : zX d 153 0 ls st σ Q = zB d 153 zt_153_0 ls st σ Q := zX_eq d 153 0 ls st σ Q
theorem L_153_56 (d : Nat) (ls st : List Value) (σ : MS) (Q : Option Value → MS → Prop) : zX d 153 56 ls st σ Q = zB d 153 zt_153_56 ls st σ Q := zX_eq d 153 56 ls st σ Q
theorem L_153_68 (d : Nat) (ls st : List Value) (σ : MS) (Q : Option Value → MS → Prop) : zX d 153 68 ls st σ Q = zB d 153 zt_153_68 ls st σ Q := zX_eq d 153 68 ls st σ Q
theorem L_153_80 (d : Nat) (ls st : List Value) (σ : MS) (Q : Option Value → MS → Prop) : zX d 153 80 ls st σ Q = zB d 153 zt_153_80 ls st σ Q := zX_eq d 153 80 ls st σ Q
theorem L_153_92 (d : Nat) (ls st : List Value) (σ : MS) (Q : Option Value → MS → Prop) : zX d 153 92 ls st σ Q = zB d 153 zt_153_92 ls st σ Q := zX_eq d 153 92 ls st σ Q
theorem L_153_104 (d : Nat) (ls st : List Value) (σ : MS) (Q : Option Value → MS → Prop) : zX d 153 104 ls st σ Q = zB d 153 zt_153_104 ls st σ Q := zX_eq d 153 104 ls st σ Q
theorem L_153_116 (d : Nat) (ls st : List Value) (σ : MS) (Q : Option Value → MS → Prop) : zX d 153 116 ls st σ Q = zB d 153 zt_153_116 ls st σ Q := zX_eq d 153 116 ls st σ Q
theorem L_153_128 (d : Nat) (ls st : List Value) (σ : MS) (Q : Option Value → MS → Prop) : zX d 153 128 ls st σ Q = zB d 153 zt_153_128 ls st σ Q := zX_eq d 153 128 ls st σ Q
theorem L_153_140 (d : Nat) (ls st : List Value) (σ : MS) (Q : Option Value → MS → Prop) : zX d 153 140 ls st σ Q = zB d 153 zt_153_140 ls st σ Q := zX_eq d 153 140 ls st σ Q
theorem L_153_152 (d : Nat) (ls st : List Value) (σ : MS) (Q : Option Value → MS → Prop) : zX d 153 152 ls st σ Q = zB d 153 zt_153_152 ls st σ Q := zX_eq d 153 152 ls st σ Q
theorem L_153_164 (d : Nat) (ls st : List Value) (σ : MS) (Q : Option Value → MS → Prop) : zX d 153 164 ls st σ Q = zB d 153 zt_153_164 ls st σ Q := zX_eq d 153 164 ls st σ Q
theorem L_153_176 (d : Nat) (ls st : List Value) (σ : MS) (Q : Option Value → MS → Prop) : zX d 153 176 ls st σ Q = zB d 153 zt_153_176 ls st σ Q := zX_eq d 153 176 ls st σ Q
theorem L_154_0 (d : Nat) (ls st : List Value) (σ : MS) (Q : Option Value → MS → Prop) : zX d 154 0 ls st σ Q = zB d 154 zt_154_0 ls st σ Q := zX_eq d 154 0 ls st σ Q
theorem L_154_20 (d : Nat) (ls st : List Value) (σ : MS) (Q : Option Value → MS → Prop) : zX d 154 20 ls st σ Q = zB d 154 zt_154_20 ls st σ Q := zX_eq d 154 20 ls st σ Q
theorem L_154_26 (d : Nat) (ls st : List Value) (σ : MS) (Q : Option Value → MS → Prop) : zX d 154 26 ls st σ Q = zB d 154 zt_154_26 ls st σ Q := zX_eq d 154 26 ls st σ Q
theorem L_154_43 (d : Nat) (ls st : List Value) (σ : MS) (Q : Option Value → MS → Prop) : zX d 154 43 ls st σ Q = zB d 154 zt_154_43 ls st σ Q := zX_eq d 154 43 ls st σ Q
theorem L_154_51 (d : Nat) (ls st : List Value) (σ : MS) (Q : Option Value → MS → Prop) : zX d 154 51 ls st σ Q = zB d 154 zt_154_51 ls st σ Q := zX_eq d 154 51 ls st σ Q
theorem L_155_0 (d : Nat) (ls st : List Value) (σ : MS) (Q : Option Value → MS → Prop) : zX d 155 0 ls st σ Q = zB d 155 zt_155_0 ls st σ Q := zX_eq d 155 0 ls st σ Q
theorem L_155_17 (d : Nat) (ls st : List Value) (σ : MS) (Q : Option Value → MS → Prop) : zX d 155 17 ls st σ Q = zB d 155 zt_155_17 ls st σ Q := zX_eq d 155 17 ls st σ Q
theorem L_156_0 (d : Nat) (ls st : List Value) (σ : MS) (Q : Option Value → MS → Prop) : zX d 156 0 ls st σ Q = zB d 156 zt_156_0 ls st σ Q := zX_eq d 156 0 ls st σ Q
theorem L_156_17 (d : Nat) (ls st : List Value) (σ : MS) (Q : Option Value → MS → Prop) : zX d 156 17 ls st σ Q = zB d 156 zt_156_17 ls st σ Q := zX_eq d 156 17 ls st σ Q
theorem L_157_0 (d : Nat) (ls st : List Value) (σ : MS) (Q : Option Value → MS → Prop) : zX d 157 0 ls st σ Q = zB d 157 zt_157_0 ls st σ Q := zX_eq d 157 0 ls st σ Q
theorem L_157_17 (d : Nat) (ls st : List Value) (σ : MS) (Q : Option Value → MS → Prop) : zX d 157 17 ls st σ Q = zB d 157 zt_157_17 ls st σ Q := zX_eq d 157 17 ls st σ Q
theorem L_158_0 (d : Nat) (ls st : List Value) (σ : MS) (Q : Option Value → MS → Prop) : zX d 158 0 ls st σ Q = zB d 158 zt_158_0 ls st σ Q := zX_eq d 158 0 ls st σ Q
theorem L_158_17 (d : Nat) (ls st : List Value) (σ : MS) (Q : Option Value → MS → Prop) : zX d 158 17 ls st σ Q = zB d 158 zt_158_17 ls st σ Q := zX_eq d 158 17 ls st σ Q
theorem L_159_0 (d : Nat) (ls st : List Value) (σ : MS) (Q : Option Value → MS → Prop) : zX d 159 0 ls st σ Q = zB d 159 zt_159_0 ls st σ Q := zX_eq d 159 0 ls st σ Q
theorem L_159_17 (d : Nat) (ls st : List Value) (σ : MS) (Q : Option Value → MS → Prop) : zX d 159 17 ls st σ Q = zB d 159 zt_159_17 ls st σ Q := zX_eq d 159 17 ls st σ Q
theorem L_159_38 (d : Nat) (ls st : List Value) (σ : MS) (Q : Option Value → MS → Prop) : zX d 159 38 ls st σ Q = zB d 159 zt_159_38 ls st σ Q := zX_eq d 159 38 ls st σ Q
theorem L_159_56 (d : Nat) (ls st : List Value) (σ : MS) (Q : Option Value → MS → Prop) : zX d 159 56 ls st σ Q = zB d 159 zt_159_56 ls st σ Q := zX_eq d 159 56 ls st σ Q
theorem L_160_0 (d : Nat) (ls st : List Value) (σ : MS) (Q : Option Value → MS → Prop) : zX d 160 0 ls st σ Q = zB d 160 zt_160_0 ls st σ Q := zX_eq d 160 0 ls st σ Q
theorem L_160_22 (d : Nat) (ls st : List Value) (σ : MS) (Q : Option Value → MS → Prop) : zX d 160 22 ls st σ Q = zB d 160 zt_160_22 ls st σ Q := zX_eq d 160 22 ls st σ Q
theorem L_160_28 (d : Nat) (ls st : List Value) (σ : MS) (Q : Option Value → MS → Prop) : zX d 160 28 ls st σ Q = zB d 160 zt_160_28 ls st σ Q := zX_eq d 160 28 ls st σ Q
theorem L_160_52 (d : Nat) (ls st : List Value) (σ : MS) (Q : Option Value → MS → Prop) : zX d 160 52 ls st σ Q = zB d 160 zt_160_52 ls st σ Q := zX_eq d 160 52 ls st σ Q
theorem L_160_59 (d : Nat) (ls st : List Value) (σ : MS) (Q : Option Value → MS → Prop) : zX d 160 59 ls st σ Q = zB d 160 zt_160_59 ls st σ Q := zX_eq d 160 59 ls st σ Q
theorem L_161_0 (d : Nat) (ls st : List Value) (σ : MS) (Q : Option Value → MS → Prop) : zX d 161 0 ls st σ Q = zB d 161 zt_161_0 ls st σ Q := zX_eq d 161 0 ls st σ Q
theorem L_161_17 (d : Nat) (ls st : List Value) (σ : MS) (Q : Option Value → MS → Prop) : zX d 161 17 ls st σ Q = zB d 161 zt_161_17 ls st σ Q := zX_eq d 161 17 ls st σ Q
theorem L_161_35 (d : Nat) (ls st : List Value) (σ : MS) (Q : Option Value → MS → Prop) : zX d 161 35 ls st σ Q = zB d 161 zt_161_35 ls st σ Q := zX_eq d 161 35 ls st σ Q
theorem L_162_0 (d : Nat) (ls st : List Value) (σ : MS) (Q : Option Value → MS → Prop) : zX d 162 0 ls st σ Q = zB d 162 zt_162_0 ls st σ Q := zX_eq d 162 0 ls st σ Q
theorem L_162_22 (d : Nat) (ls st : List Value) (σ : MS) (Q : Option Value → MS → Prop) : zX d 162 22 ls st σ Q = zB d 162 zt_162_22 ls st σ Q := zX_eq d 162 22 ls st σ Q
theorem L_162_28 (d : Nat) (ls st : List Value) (σ : MS) (Q : Option Value → MS → Prop) : zX d 162 28 ls st σ Q = zB d 162 zt_162_28 ls st σ Q := zX_eq d 162 28 ls st σ Q
theorem L_162_47 (d : Nat) (ls st : List Value) (σ : MS) (Q : Option Value → MS → Prop) : zX d 162 47 ls st σ Q = zB d 162 zt_162_47 ls st σ Q := zX_eq d 162 47 ls st σ Q
theorem L_163_0 (d : Nat) (ls st : List Value) (σ : MS) (Q : Option Value → MS → Prop) : zX d 163 0 ls st σ Q = zB d 163 zt_163_0 ls st σ Q := zX_eq d 163 0 ls st σ Q
theorem L_164_0 (d : Nat) (ls st : List Value) (σ : MS) (Q : Option Value → MS → Prop) : zX d 164 0 ls st σ Q = zB d 164 zt_164_0 ls st σ Q := zX_eq d 164 0 ls st σ Q
theorem L_164_22 (d : Nat) (ls st : List Value) (σ : MS) (Q : Option Value → MS → Prop) : zX d 164 22 ls st σ Q = zB d 164 zt_164_22 ls st σ Q := zX_eq d 164 22 ls st σ Q
theorem L_164_28 (d : Nat) (ls st : List Value) (σ : MS) (Q : Option Value → MS → Prop) : zX d 164 28 ls st σ Q = zB d 164 zt_164_28 ls st σ Q := zX_eq d 164 28 ls st σ Q
theorem L_164_52 (d : Nat) (ls st : List Value) (σ : MS) (Q : Option Value → MS → Prop) : zX d 164 52 ls st σ Q = zB d 164 zt_164_52 ls st σ Q := zX_eq d 164 52 ls st σ Q
theorem L_164_53 (d : Nat) (ls st : List Value) (σ : MS) (Q : Option Value → MS → Prop) : zX d 164 53 ls st σ Q = zB d 164 zt_164_53 ls st σ Q := zX_eq d 164 53 ls st σ Q
theorem L_164_68 (d : Nat) (ls st : List Value) (σ : MS) (Q : Option Value → MS → Prop) : zX d 164 68 ls st σ Q = zB d 164 zt_164_68 ls st σ Q := zX_eq d 164 68 ls st σ Q
theorem L_165_0 (d : Nat) (ls st : List Value) (σ : MS) (Q : Option Value → MS → Prop) : zX d 165 0 ls st σ Q = zB d 165 zt_165_0 ls st σ Q := zX_eq d 165 0 ls st σ Q
theorem L_165_22 (d : Nat) (ls st : List Value) (σ : MS) (Q : Option Value → MS → Prop) : zX d 165 22 ls st σ Q = zB d 165 zt_165_22 ls st σ Q := zX_eq d 165 22 ls st σ Q
theorem L_165_28 (d : Nat) (ls st : List Value) (σ : MS) (Q : Option Value → MS → Prop) : zX d 165 28 ls st σ Q = zB d 165 zt_165_28 ls st σ Q := zX_eq d 165 28 ls st σ Q
theorem L_166_0 (d : Nat) (ls st : List Value) (σ : MS) (Q : Option Value → MS → Prop) : zX d 166 0 ls st σ Q = zB d 166 zt_166_0 ls st σ Q := zX_eq d 166 0 ls st σ Q
theorem L_166_22 (d : Nat) (ls st : List Value) (σ : MS) (Q : Option Value → MS → Prop) : zX d 166 22 ls st σ Q = zB d 166 zt_166_22 ls st σ Q := zX_eq d 166 22 ls st σ Q
theorem L_166_28 (d : Nat) (ls st : List Value) (σ : MS) (Q : Option Value → MS → Prop) : zX d 166 28 ls st σ Q = zB d 166 zt_166_28 ls st σ Q := zX_eq d 166 28 ls st σ Q
theorem L_166_48 (d : Nat) (ls st : List Value) (σ : MS) (Q : Option Value → MS → Prop) : zX d 166 48 ls st σ Q = zB d 166 zt_166_48 ls st σ Q := zX_eq d 166 48 ls st σ Q
theorem L_167_0 (d : Nat) (ls st : List Value) (σ : MS) (Q : Option Value → MS → Prop) : zX d 167 0 ls st σ Q = zB d 167 zt_167_0 ls st σ Q := zX_eq d 167 0 ls st σ Q
theorem L_167_22 (d : Nat) (ls st : List Value) (σ : MS) (Q : Option Value → MS → Prop) : zX d 167 22 ls st σ Q = zB d 167 zt_167_22 ls st σ Q := zX_eq d 167 22 ls st σ Q
theorem L_167_28 (d : Nat) (ls st : List Value) (σ : MS) (Q : Option Value → MS → Prop) : zX d 167 28 ls st σ Q = zB d 167 zt_167_28 ls st σ Q := zX_eq d 167 28 ls st σ Q
theorem L_168_0 (d : Nat) (ls st : List Value) (σ : MS) (Q : Option Value → MS → Prop) : zX d 168 0 ls st σ Q = zB d 168 zt_168_0 ls st σ Q := zX_eq d 168 0 ls st σ Q
theorem L_168_17 (d : Nat) (ls st : List Value) (σ : MS) (Q : Option Value → MS → Prop) : zX d 168 17 ls st σ Q = zB d 168 zt_168_17 ls st σ Q := zX_eq d 168 17 ls st σ Q
theorem L_168_35 (d : Nat) (ls st : List Value) (σ : MS) (Q : Option Value → MS → Prop) : zX d 168 35 ls st σ Q = zB d 168 zt_168_35 ls st σ Q := zX_eq d 168 35 ls st σ Q
theorem L_168_65 (d : Nat) (ls st : List Value) (σ : MS) (Q : Option Value → MS → Prop) : zX d 168 65 ls st σ Q = zB d 168 zt_168_65 ls st σ Q := zX_eq d 168 65 ls st σ Q
theorem L_169_0 (d : Nat) (ls st : List Value) (σ : MS) (Q : Option Value → MS → Prop) : zX d 169 0 ls st σ Q = zB d 169 zt_169_0 ls st σ Q := zX_eq d 169 0 ls st σ Q
theorem L_169_29 (d : Nat) (ls st : List Value) (σ : MS) (Q : Option Value → MS → Prop) : zX d 169 29 ls st σ Q = zB d 169 zt_169_29 ls st σ Q := zX_eq d 169 29 ls st σ Q
theorem L_169_58 (d : Nat) (ls st : List Value) (σ : MS) (Q : Option Value → MS → Prop) : zX d 169 58 ls st σ Q = zB d 169 zt_169_58 ls st σ Q := zX_eq d 169 58 ls st σ Q
theorem L_170_0 (d : Nat) (ls st : List Value) (σ : MS) (Q : Option Value → MS → Prop) : zX d 170 0 ls st σ Q = zB d 170 zt_170_0 ls st σ Q := zX_eq d 170 0 ls st σ Q
theorem L_170_27 (d : Nat) (ls st : List Value) (σ : MS) (Q : Option Value → MS → Prop) : zX d 170 27 ls st σ Q = zB d 170 zt_170_27 ls st σ Q := zX_eq d 170 27 ls st σ Q
theorem L_170_33 (d : Nat) (ls st : List Value) (σ : MS) (Q : Option Value → MS → Prop) : zX d 170 33 ls st σ Q = zB d 170 zt_170_33 ls st σ Q := zX_eq d 170 33 ls st σ Q
theorem L_171_0 (d : Nat) (ls st : List Value) (σ : MS) (Q : Option Value → MS → Prop) : zX d 171 0 ls st σ Q = zB d 171 zt_171_0 ls st σ Q := zX_eq d 171 0 ls st σ Q
theorem L_171_22 (d : Nat) (ls st : List Value) (σ : MS) (Q : Option Value → MS → Prop) : zX d 171 22 ls st σ Q = zB d 171 zt_171_22 ls st σ Q := zX_eq d 171 22 ls st σ Q
theorem L_171_28 (d : Nat) (ls st : List Value) (σ : MS) (Q : Option Value → MS → Prop) : zX d 171 28 ls st σ Q = zB d 171 zt_171_28 ls st σ Q := zX_eq d 171 28 ls st σ Q
theorem L_172_0 (d : Nat) (ls st : List Value) (σ : MS) (Q : Option Value → MS → Prop) : zX d 172 0 ls st σ Q = zB d 172 zt_172_0 ls st σ Q := zX_eq d 172 0 ls st σ Q
theorem L_172_17 (d : Nat) (ls st : List Value) (σ : MS) (Q : Option Value → MS → Prop) : zX d 172 17 ls st σ Q = zB d 172 zt_172_17 ls st σ Q := zX_eq d 172 17 ls st σ Q
theorem L_172_35 (d : Nat) (ls st : List Value) (σ : MS) (Q : Option Value → MS → Prop) : zX d 172 35 ls st σ Q = zB d 172 zt_172_35 ls st σ Q := zX_eq d 172 35 ls st σ Q
theorem L_173_0 (d : Nat) (ls st : List Value) (σ : MS) (Q : Option Value → MS → Prop) : zX d 173 0 ls st σ Q = zB d 173 zt_173_0 ls st σ Q := zX_eq d 173 0 ls st σ Q
theorem L_173_17 (d : Nat) (ls st : List Value) (σ : MS) (Q : Option Value → MS → Prop) : zX d 173 17 ls st σ Q = zB d 173 zt_173_17 ls st σ Q := zX_eq d 173 17 ls st σ Q
theorem L_173_35 (d : Nat) (ls st : List Value) (σ : MS) (Q : Option Value → MS → Prop) : zX d 173 35 ls st σ Q = zB d 173 zt_173_35 ls st σ Q := zX_eq d 173 35 ls st σ Q
theorem L_174_0 (d : Nat) (ls st : List Value) (σ : MS) (Q : Option Value → MS → Prop) : zX d 174 0 ls st σ Q = zB d 174 zt_174_0 ls st σ Q := zX_eq d 174 0 ls st σ Q
theorem L_174_17 (d : Nat) (ls st : List Value) (σ : MS) (Q : Option Value → MS → Prop) : zX d 174 17 ls st σ Q = zB d 174 zt_174_17 ls st σ Q := zX_eq d 174 17 ls st σ Q
theorem L_174_21 (d : Nat) (ls st : List Value) (σ : MS) (Q : Option Value → MS → Prop) : zX d 174 21 ls st σ Q = zB d 174 zt_174_21 ls st σ Q := zX_eq d 174 21 ls st σ Q
theorem L_174_63 (d : Nat) (ls st : List Value) (σ : MS) (Q : Option Value → MS → Prop) : zX d 174 63 ls st σ Q = zB d 174 zt_174_63 ls st σ Q := zX_eq d 174 63 ls st σ Q
theorem L_174_65 (d : Nat) (ls st : List Value) (σ : MS) (Q : Option Value → MS → Prop) : zX d 174 65 ls st σ Q = zB d 174 zt_174_65 ls st σ Q := zX_eq d 174 65 ls st σ Q
theorem L_174_71 (d : Nat) (ls st : List Value) (σ : MS) (Q : Option Value → MS → Prop) : zX d 174 71 ls st σ Q = zB d 174 zt_174_71 ls st σ Q := zX_eq d 174 71 ls st σ Q
theorem L_175_0 (d : Nat) (ls st : List Value) (σ : MS) (Q : Option Value → MS → Prop) : zX d 175 0 ls st σ Q = zB d 175 zt_175_0 ls st σ Q := zX_eq d 175 0 ls st σ Q
theorem L_175_4 (d : Nat) (ls st : List Value) (σ : MS) (Q : Option Value → MS → Prop) : zX d 175 4 ls st σ Q = zB d 175 zt_175_4 ls st σ Q := zX_eq d 175 4 ls st σ Q
theorem L_175_39 (d : Nat) (ls st : List Value) (σ : MS) (Q : Option Value → MS → Prop) : zX d 175 39 ls st σ Q = zB d 175 zt_175_39 ls st σ Q := zX_eq d 175 39 ls st σ Q
theorem L_175_41 (d : Nat) (ls st : List Value) (σ : MS) (Q : Option Value → MS → Prop) : zX d 175 41 ls st σ Q = zB d 175 zt_175_41 ls st σ Q := zX_eq d 175 41 ls st σ Q
theorem L_175_47 (d : Nat) (ls st : List Value) (σ : MS) (Q : Option Value → MS → Prop) : zX d 175 47 ls st σ Q = zB d 175 zt_175_47 ls st σ Q := zX_eq d 175 47 ls st σ Q
theorem L_176_0 (d : Nat) (ls st : List Value) (σ : MS) (Q : Option Value → MS → Prop) : zX d 176 0 ls st σ Q = zB d 176 zt_176_0 ls st σ Q := zX_eq d 176 0 ls st σ Q
theorem L_176_17 (d : Nat) (ls st : List Value) (σ : MS) (Q : Option Value → MS → Prop) : zX d 176 17 ls st σ Q = zB d 176 zt_176_17 ls st σ Q := zX_eq d 176 17 ls st σ Q
theorem L_177_0 (d : Nat) (ls st : List Value) (σ : MS) (Q : Option Value → MS → Prop) : zX d 177 0 ls st σ Q = zB d 177 zt_177_0 ls st σ Q := zX_eq d 177 0 ls st σ Q
theorem L_177_22 (d : Nat) (ls st : List Value) (σ : MS) (Q : Option Value → MS → Prop) : zX d 177 22 ls st σ Q = zB d 177 zt_177_22 ls st σ Q := zX_eq d 177 22 ls st σ Q
theorem L_177_28 (d : Nat) (ls st : List Value) (σ : MS) (Q : Option Value → MS → Prop) : zX d 177 28 ls st σ Q = zB d 177 zt_177_28 ls st σ Q := zX_eq d 177 28 ls st σ Q
theorem L_178_0 (d : Nat) (ls st : List Value) (σ : MS) (Q : Option Value → MS → Prop) : zX d 178 0 ls st σ Q = zB d 178 zt_178_0 ls st σ Q := zX_eq d 178 0 ls st σ Q
theorem L_178_22 (d : Nat) (ls st : List Value) (σ : MS) (Q : Option Value → MS → Prop) : zX d 178 22 ls st σ Q = zB d 178 zt_178_22 ls st σ Q := zX_eq d 178 22 ls st σ Q
theorem L_178_28 (d : Nat) (ls st : List Value) (σ : MS) (Q : Option Value → MS → Prop) : zX d 178 28 ls st σ Q = zB d 178 zt_178_28 ls st σ Q := zX_eq d 178 28 ls st σ Q
theorem L_179_0 (d : Nat) (ls st : List Value) (σ : MS) (Q : Option Value → MS → Prop) : zX d 179 0 ls st σ Q = zB d 179 zt_179_0 ls st σ Q := zX_eq d 179 0 ls st σ Q
theorem L_179_17 (d : Nat) (ls st : List Value) (σ : MS) (Q : Option Value → MS → Prop) : zX d 179 17 ls st σ Q = zB d 179 zt_179_17 ls st σ Q := zX_eq d 179 17 ls st σ Q
theorem L_179_39 (d : Nat) (ls st : List Value) (σ : MS) (Q : Option Value → MS → Prop) : zX d 179 39 ls st σ Q = zB d 179 zt_179_39 ls st σ Q := zX_eq d 179 39 ls st σ Q
theorem L_179_44 (d : Nat) (ls st : List Value) (σ : MS) (Q : Option Value → MS → Prop) : zX d 179 44 ls st σ Q = zB d 179 zt_179_44 ls st σ Q := zX_eq d 179 44 ls st σ Q
theorem L_179_94 (d : Nat) (ls st : List Value) (σ : MS) (Q : Option Value → MS → Prop) : zX d 179 94 ls st σ Q = zB d 179 zt_179_94 ls st σ Q := zX_eq d 179 94 ls st σ Q
theorem L_179_100 (d : Nat) (ls st : List Value) (σ : MS) (Q : Option Value → MS → Prop) : zX d 179 100 ls st σ Q = zB d 179 zt_179_100 ls st σ Q := zX_eq d 179 100 ls st σ Q
theorem L_180_0 (d : Nat) (ls st : List Value) (σ : MS) (Q : Option Value → MS → Prop) : zX d 180 0 ls st σ Q = zB d 180 zt_180_0 ls st σ Q := zX_eq d 180 0 ls st σ Q
theorem L_180_17 (d : Nat) (ls st : List Value) (σ : MS) (Q : Option Value → MS → Prop) : zX d 180 17 ls st σ Q = zB d 180 zt_180_17 ls st σ Q := zX_eq d 180 17 ls st σ Q
theorem L_180_39 (d : Nat) (ls st : List Value) (σ : MS) (Q : Option Value → MS → Prop) : zX d 180 39 ls st σ Q = zB d 180 zt_180_39 ls st σ Q := zX_eq d 180 39 ls st σ Q
theorem L_180_44 (d : Nat) (ls st : List Value) (σ : MS) (Q : Option Value → MS → Prop) : zX d 180 44 ls st σ Q = zB d 180 zt_180_44 ls st σ Q := zX_eq d 180 44 ls st σ Q
theorem L_180_89 (d : Nat) (ls st : List Value) (σ : MS) (Q : Option Value → MS → Prop) : zX d 180 89 ls st σ Q = zB d 180 zt_180_89 ls st σ Q := zX_eq d 180 89 ls st σ Q
theorem L_180_95 (d : Nat) (ls st : List Value) (σ : MS) (Q : Option Value → MS → Prop) : zX d 180 95 ls st σ Q = zB d 180 zt_180_95 ls st σ Q := zX_eq d 180 95 ls st σ Q
theorem L_181_0 (d : Nat) (ls st : List Value) (σ : MS) (Q : Option Value → MS → Prop) : zX d 181 0 ls st σ Q = zB d 181 zt_181_0 ls st σ Q := zX_eq d 181 0 ls st σ Q
theorem L_181_15 (d : Nat) (ls st : List Value) (σ : MS) (Q : Option Value → MS → Prop) : zX d 181 15 ls st σ Q = zB d 181 zt_181_15 ls st σ Q := zX_eq d 181 15 ls st σ Q
theorem L_181_21 (d : Nat) (ls st : List Value) (σ : MS) (Q : Option Value → MS → Prop) : zX d 181 21 ls st σ Q = zB d 181 zt_181_21 ls st σ Q := zX_eq d 181 21 ls st σ Q
theorem L_181_44 (d : Nat) (ls st : List Value) (σ : MS) (Q : Option Value → MS → Prop) : zX d 181 44 ls st σ Q = zB d 181 zt_181_44 ls st σ Q := zX_eq d 181 44 ls st σ Q
theorem L_181_58 (d : Nat) (ls st : List Value) (σ : MS) (Q : Option Value → MS → Prop) : zX d 181 58 ls st σ Q = zB d 181 zt_181_58 ls st σ Q := zX_eq d 181 58 ls st σ Q
theorem L_181_103 (d : Nat) (ls st : List Value) (σ : MS) (Q : Option Value → MS → Prop) : zX d 181 103 ls st σ Q = zB d 181 zt_181_103 ls st σ Q := zX_eq d 181 103 ls st σ Q
theorem L_182_0 (d : Nat) (ls st : List Value) (σ : MS) (Q : Option Value → MS → Prop) : zX d 182 0 ls st σ Q = zB d 182 zt_182_0 ls st σ Q := zX_eq d 182 0 ls st σ Q
theorem L_182_22 (d : Nat) (ls st : List Value) (σ : MS) (Q : Option Value → MS → Prop) : zX d 182 22 ls st σ Q = zB d 182 zt_182_22 ls st σ Q := zX_eq d 182 22 ls st σ Q
theorem L_182_28 (d : Nat) (ls st : List Value) (σ : MS) (Q : Option Value → MS → Prop) : zX d 182 28 ls st σ Q = zB d 182 zt_182_28 ls st σ Q := zX_eq d 182 28 ls st σ Q
theorem L_182_46 (d : Nat) (ls st : List Value) (σ : MS) (Q : Option Value → MS → Prop) : zX d 182 46 ls st σ Q = zB d 182 zt_182_46 ls st σ Q := zX_eq d 182 46 ls st σ Q
theorem L_182_90 (d : Nat) (ls st : List Value) (σ : MS) (Q : Option Value → MS → Prop) : zX d 182 90 ls st σ Q = zB d 182 zt_182_90 ls st σ Q := zX_eq d 182 90 ls st σ Q
theorem L_182_96 (d : Nat) (ls st : List Value) (σ : MS) (Q : Option Value → MS → Prop) : zX d 182 96 ls st σ Q = zB d 182 zt_182_96 ls st σ Q := zX_eq d 182 96 ls st σ Q
theorem L_182_137 (d : Nat) (ls st : List Value) (σ : MS) (Q : Option Value → MS → Prop) : zX d 182 137 ls st σ Q = zB d 182 zt_182_137 ls st σ Q := zX_eq d 182 137 ls st σ Q
theorem L_182_143 (d : Nat) (ls st : List Value) (σ : MS) (Q : Option Value → MS → Prop) : zX d 182 143 ls st σ Q = zB d 182 zt_182_143 ls st σ Q := zX_eq d 182 143 ls st σ Q
theorem L_183_0 (d : Nat) (ls st : List Value) (σ : MS) (Q : Option Value → MS → Prop) : zX d 183 0 ls st σ Q = zB d 183 zt_183_0 ls st σ Q := zX_eq d 183 0 ls st σ Q
theorem L_183_22 (d : Nat) (ls st : List Value) (σ : MS) (Q : Option Value → MS → Prop) : zX d 183 22 ls st σ Q = zB d 183 zt_183_22 ls st σ Q := zX_eq d 183 22 ls st σ Q
theorem L_183_28 (d : Nat) (ls st : List Value) (σ : MS) (Q : Option Value → MS → Prop) : zX d 183 28 ls st σ Q = zB d 183 zt_183_28 ls st σ Q := zX_eq d 183 28 ls st σ Q
theorem L_183_52 (d : Nat) (ls st : List Value) (σ : MS) (Q : Option Value → MS → Prop) : zX d 183 52 ls st σ Q = zB d 183 zt_183_52 ls st σ Q := zX_eq d 183 52 ls st σ Q
theorem L_183_59 (d : Nat) (ls st : List Value) (σ : MS) (Q : Option Value → MS → Prop) : zX d 183 59 ls st σ Q = zB d 183 zt_183_59 ls st σ Q := zX_eq d 183 59 ls st σ Q
theorem L_184_0 (d : Nat) (ls st : List Value) (σ : MS) (Q : Option Value → MS → Prop) : zX d 184 0 ls st σ Q = zB d 184 zt_184_0 ls st σ Q := zX_eq d 184 0 ls st σ Q
theorem L_184_26 (d : Nat) (ls st : List Value) (σ : MS) (Q : Option Value → MS → Prop) : zX d 184 26 ls st σ Q = zB d 184 zt_184_26 ls st σ Q := zX_eq d 184 26 ls st σ Q
theorem L_184_32 (d : Nat) (ls st : List Value) (σ : MS) (Q : Option Value → MS → Prop) : zX d 184 32 ls st σ Q = zB d 184 zt_184_32 ls st σ Q := zX_eq d 184 32 ls st σ Q
theorem L_184_55 (d : Nat) (ls st : List Value) (σ : MS) (Q : Option Value → MS → Prop) : zX d 184 55 ls st σ Q = zB d 184 zt_184_55 ls st σ Q := zX_eq d 184 55 ls st σ Q
theorem L_184_62 (d : Nat) (ls st : List Value) (σ : MS) (Q : Option Value → MS → Prop) : zX d 184 62 ls st σ Q = zB d 184 zt_184_62 ls st σ Q := zX_eq d 184 62 ls st σ Q
theorem L_184_68 (d : Nat) (ls st : List Value) (σ : MS) (Q : Option Value → MS → Prop) : zX d 184 68 ls st σ Q = zB d 184 zt_184_68 ls st σ Q := zX_eq d 184 68 ls st σ Q
theorem L_184_106 (d : Nat) (ls st : List Value) (σ : MS) (Q : Option Value → MS → Prop) : zX d 184 106 ls st σ Q = zB d 184 zt_184_106 ls st σ Q := zX_eq d 184 106 ls st σ Q
theorem L_185_0 (d : Nat) (ls st : List Value) (σ : MS) (Q : Option Value → MS → Prop) : zX d 185 0 ls st σ Q = zB d 185 zt_185_0 ls st σ Q := zX_eq d 185 0 ls st σ Q
theorem L_185_17 (d : Nat) (ls st : List Value) (σ : MS) (Q : Option Value → MS → Prop) : zX d 185 17 ls st σ Q = zB d 185 zt_185_17 ls st σ Q := zX_eq d 185 17 ls st σ Q
theorem L_186_0 (d : Nat) (ls st : List Value) (σ : MS) (Q : Option Value → MS → Prop) : zX d 186 0 ls st σ Q = zB d 186 zt_186_0 ls st σ Q := zX_eq d 186 0 ls st σ Q
theorem L_186_6 (d : Nat) (ls st : List Value) (σ : MS) (Q : Option Value → MS → Prop) : zX d 186 6 ls st σ Q = zB d 186 zt_186_6 ls st σ Q := zX_eq d 186 6 ls st σ Q
theorem L_186_39 (d : Nat) (ls st : List Value) (σ : MS) (Q : Option Value → MS → Prop) : zX d 186 39 ls st σ Q = zB d 186 zt_186_39 ls st σ Q := zX_eq d 186 39 ls st σ Q
theorem L_186_45 (d : Nat) (ls st : List Value) (σ : MS) (Q : Option Value → MS → Prop) : zX d 186 45 ls st σ Q = zB d 186 zt_186_45 ls st σ Q := zX_eq d 186 45 ls st σ Q
theorem L_187_0 (d : Nat) (ls st : List Value) (σ : MS) (Q : Option Value → MS → Prop) : zX d 187 0 ls st σ Q = zB d 187 zt_187_0 ls st σ Q := zX_eq d 187 0 ls st σ Q
theorem L_188_0 (d : Nat) (ls st : List Value) (σ : MS) (Q : Option Value → MS → Prop) : zX d 188 0 ls st σ Q = zB d 188 zt_188_0 ls st σ Q := zX_eq d 188 0 ls st σ Q
theorem L_188_17 (d : Nat) (ls st : List Value) (σ : MS) (Q : Option Value → MS → Prop) : zX d 188 17 ls st σ Q = zB d 188 zt_188_17 ls st σ Q := zX_eq d 188 17 ls st σ Q
theorem L_188_37 (d : Nat) (ls st : List Value) (σ : MS) (Q : Option Value → MS → Prop) : zX d 188 37 ls st σ Q = zB d 188 zt_188_37 ls st σ Q := zX_eq d 188 37 ls st σ Q
theorem L_189_0 (d : Nat) (ls st : List Value) (σ : MS) (Q : Option Value → MS → Prop) : zX d 189 0 ls st σ Q = zB d 189 zt_189_0 ls st σ Q := zX_eq d 189 0 ls st σ Q
theorem L_189_20 (d : Nat) (ls st : List Value) (σ : MS) (Q : Option Value → MS → Prop) : zX d 189 20 ls st σ Q = zB d 189 zt_189_20 ls st σ Q := zX_eq d 189 20 ls st σ Q
theorem L_190_0 (d : Nat) (ls st : List Value) (σ : MS) (Q : Option Value → MS → Prop) : zX d 190 0 ls st σ Q = zB d 190 zt_190_0 ls st σ Q := zX_eq d 190 0 ls st σ Q
theorem L_190_9 (d : Nat) (ls st : List Value) (σ : MS) (Q : Option Value → MS → Prop) : zX d 190 9 ls st σ Q = zB d 190 zt_190_9 ls st σ Q := zX_eq d 190 9 ls st σ Q
theorem L_190_15 (d : Nat) (ls st : List Value) (σ : MS) (Q : Option Value → MS → Prop) : zX d 190 15 ls st σ Q = zB d 190 zt_190_15 ls st σ Q := zX_eq d 190 15 ls st σ Q
theorem L_190_35 (d : Nat) (ls st : List Value) (σ : MS) (Q : Option Value → MS → Prop) : zX d 190 35 ls st σ Q = zB d 190 zt_190_35 ls st σ Q := zX_eq d 190 35 ls st σ Q
theorem L_190_47 (d : Nat) (ls st : List Value) (σ : MS) (Q : Option Value → MS → Prop) : zX d 190 47 ls st σ Q = zB d 190 zt_190_47 ls st σ Q := zX_eq d 190 47 ls st σ Q
theorem L_190_51 (d : Nat) (ls st : List Value) (σ : MS) (Q : Option Value → MS → Prop) : zX d 190 51 ls st σ Q = zB d 190 zt_190_51 ls st σ Q := zX_eq d 190 51 ls st σ Q
theorem L_191_0 (d : Nat) (ls st : List Value) (σ : MS) (Q : Option Value → MS → Prop) : zX d 191 0 ls st σ Q = zB d 191 zt_191_0 ls st σ Q := zX_eq d 191 0 ls st σ Q
theorem L_191_4 (d : Nat) (ls st : List Value) (σ : MS) (Q : Option Value → MS → Prop) : zX d 191 4 ls st σ Q = zB d 191 zt_191_4 ls st σ Q := zX_eq d 191 4 ls st σ Q
theorem L_191_19 (d : Nat) (ls st : List Value) (σ : MS) (Q : Option Value → MS → Prop) : zX d 191 19 ls st σ Q = zB d 191 zt_191_19 ls st σ Q := zX_eq d 191 19 ls st σ Q
theorem L_191_76 (d : Nat) (ls st : List Value) (σ : MS) (Q : Option Value → MS → Prop) : zX d 191 76 ls st σ Q = zB d 191 zt_191_76 ls st σ Q := zX_eq d 191 76 ls st σ Q
theorem L_191_82 (d : Nat) (ls st : List Value) (σ : MS) (Q : Option Value → MS → Prop) : zX d 191 82 ls st σ Q = zB d 191 zt_191_82 ls st σ Q := zX_eq d 191 82 ls st σ Q
theorem L_191_88 (d : Nat) (ls st : List Value) (σ : MS) (Q : Option Value → MS → Prop) : zX d 191 88 ls st σ Q = zB d 191 zt_191_88 ls st σ Q := zX_eq d 191 88 ls st σ Q
theorem L_192_0 (d : Nat) (ls st : List Value) (σ : MS) (Q : Option Value → MS → Prop) : zX d 192 0 ls st σ Q = zB d 192 zt_192_0 ls st σ Q := zX_eq d 192 0 ls st σ Q
theorem L_193_0 (d : Nat) (ls st : List Value) (σ : MS) (Q : Option Value → MS → Prop) : zX d 193 0 ls st σ Q = zB d 193 zt_193_0 ls st σ Q := zX_eq d 193 0 ls st σ Q
theorem L_193_17 (d : Nat) (ls st : List Value) (σ : MS) (Q : Option Value → MS → Prop) : zX d 193 17 ls st σ Q = zB d 193 zt_193_17 ls st σ Q := zX_eq d 193 17 ls st σ Q
theorem L_194_0 (d : Nat) (ls st : List Value) (σ : MS) (Q : Option Value → MS → Prop) : zX d 194 0 ls st σ Q = zB d 194 zt_194_0 ls st σ Q := zX_eq d 194 0 ls st σ Q
theorem L_194_17 (d : Nat) (ls st : List Value) (σ : MS) (Q : Option Value → MS → Prop) : zX d 194 17 ls st σ Q = zB d 194 zt_194_17 ls st σ Q := zX_eq d 194 17 ls st σ Q
theorem L_195_0 (d : Nat) (ls st : List Value) (σ : MS) (Q : Option Value → MS → Prop) : zX d 195 0 ls st σ Q = zB d 195 zt_195_0 ls st σ Q := zX_eq d 195 0 ls st σ Q
theorem L_195_17 (d : Nat) (ls st : List Value) (σ : MS) (Q : Option Value → MS → Prop) : zX d 195 17 ls st σ Q = zB d 195 zt_195_17 ls st σ Q := zX_eq d 195 17 ls st σ Q
theorem L_196_0 (d : Nat) (ls st : List Value) (σ : MS) (Q : Option Value → MS → Prop) : zX d 196 0 ls st σ Q = zB d 196 zt_196_0 ls st σ Q := zX_eq d 196 0 ls st σ Q
theorem L_196_17 (d : Nat) (ls st : List Value) (σ : MS) (Q : Option Value → MS → Prop) : zX d 196 17 ls st σ Q = zB d 196 zt_196_17 ls st σ Q := zX_eq d 196 17 ls st σ Q
theorem L_196_37 (d : Nat) (ls st : List Value) (σ : MS) (Q : Option Value → MS → Prop) : zX d 196 37 ls st σ Q = zB d 196 zt_196_37 ls st σ Q := zX_eq d 196 37 ls st σ Q
theorem L_197_0 (d : Nat) (ls st : List Value) (σ : MS) (Q : Option Value → MS → Prop) : zX d 197 0 ls st σ Q = zB d 197 zt_197_0 ls st σ Q := zX_eq d 197 0 ls st σ Q
theorem L_197_9 (d : Nat) (ls st : List Value) (σ : MS) (Q : Option Value → MS → Prop) : zX d 197 9 ls st σ Q = zB d 197 zt_197_9 ls st σ Q := zX_eq d 197 9 ls st σ Q
theorem L_197_15 (d : Nat) (ls st : List Value) (σ : MS) (Q : Option Value → MS → Prop) : zX d 197 15 ls st σ Q = zB d 197 zt_197_15 ls st σ Q := zX_eq d 197 15 ls st σ Q
theorem L_198_0 (d : Nat) (ls st : List Value) (σ : MS) (Q : Option Value → MS → Prop) : zX d 198 0 ls st σ Q = zB d 198 zt_198_0 ls st σ Q := zX_eq d 198 0 ls st σ Q
theorem L_198_10 (d : Nat) (ls st : List Value) (σ : MS) (Q : Option Value → MS → Prop) : zX d 198 10 ls st σ Q = zB d 198 zt_198_10 ls st σ Q := zX_eq d 198 10 ls st σ Q
theorem L_198_16 (d : Nat) (ls st : List Value) (σ : MS) (Q : Option Value → MS → Prop) : zX d 198 16 ls st σ Q = zB d 198 zt_198_16 ls st σ Q := zX_eq d 198 16 ls st σ Q
theorem L_198_46 (d : Nat) (ls st : List Value) (σ : MS) (Q : Option Value → MS → Prop) : zX d 198 46 ls st σ Q = zB d 198 zt_198_46 ls st σ Q := zX_eq d 198 46 ls st σ Q
theorem L_199_0 (d : Nat) (ls st : List Value) (σ : MS) (Q : Option Value → MS → Prop) : zX d 199 0 ls st σ Q = zB d 199 zt_199_0 ls st σ Q := zX_eq d 199 0 ls st σ Q
theorem L_199_21 (d : Nat) (ls st : List Value) (σ : MS) (Q : Option Value → MS → Prop) : zX d 199 21 ls st σ Q = zB d 199 zt_199_21 ls st σ Q := zX_eq d 199 21 ls st σ Q
theorem L_199_27 (d : Nat) (ls st : List Value) (σ : MS) (Q : Option Value → MS → Prop) : zX d 199 27 ls st σ Q = zB d 199 zt_199_27 ls st σ Q := zX_eq d 199 27 ls st σ Q
theorem L_199_49 (d : Nat) (ls st : List Value) (σ : MS) (Q : Option Value → MS → Prop) : zX d 199 49 ls st σ Q = zB d 199 zt_199_49 ls st σ Q := zX_eq d 199 49 ls st σ Q
theorem L_199_69 (d : Nat) (ls st : List Value) (σ : MS) (Q : Option Value → MS → Prop) : zX d 199 69 ls st σ Q = zB d 199 zt_199_69 ls st σ Q := zX_eq d 199 69 ls st σ Q
theorem L_199_72 (d : Nat) (ls st : List Value) (σ : MS) (Q : Option Value → MS → Prop) : zX d 199 72 ls st σ Q = zB d 199 zt_199_72 ls st σ Q := zX_eq d 199 72 ls st σ Q
theorem L_199_102 (d : Nat) (ls st : List Value) (σ : MS) (Q : Option Value → MS → Prop) : zX d 199 102 ls st σ Q = zB d 199 zt_199_102 ls st σ Q := zX_eq d 199 102 ls st σ Q
theorem L_200_0 (d : Nat) (ls st : List Value) (σ : MS) (Q : Option Value → MS → Prop) : zX d 200 0 ls st σ Q = zB d 200 zt_200_0 ls st σ Q := zX_eq d 200 0 ls st σ Q
theorem L_200_13 (d : Nat) (ls st : List Value) (σ : MS) (Q : Option Value → MS → Prop) : zX d 200 13 ls st σ Q = zB d 200 zt_200_13 ls st σ Q := zX_eq d 200 13 ls st σ Q
theorem L_200_31 (d : Nat) (ls st : List Value) (σ : MS) (Q : Option Value → MS → Prop) : zX d 200 31 ls st σ Q = zB d 200 zt_200_31 ls st σ Q := zX_eq d 200 31 ls st σ Q
theorem L_200_59 (d : Nat) (ls st : List Value) (σ : MS) (Q : Option Value → MS → Prop) : zX d 200 59 ls st σ Q = zB d 200 zt_200_59 ls st σ Q := zX_eq d 200 59 ls st σ Q
theorem L_200_61 (d : Nat) (ls st : List Value) (σ : MS) (Q : Option Value → MS → Prop) : zX d 200 61 ls st σ Q = zB d 200 zt_200_61 ls st σ Q := zX_eq d 200 61 ls st σ Q
theorem L_200_98 (d : Nat) (ls st : List Value) (σ : MS) (Q : Option Value → MS → Prop) : zX d 200 98 ls st σ Q = zB d 200 zt_200_98 ls st σ Q := zX_eq d 200 98 ls st σ Q
theorem L_201_0 (d : Nat) (ls st : List Value) (σ : MS) (Q : Option Value → MS → Prop) : zX d 201 0 ls st σ Q = zB d 201 zt_201_0 ls st σ Q := zX_eq d 201 0 ls st σ Q
theorem L_201_11 (d : Nat) (ls st : List Value) (σ : MS) (Q : Option Value → MS → Prop) : zX d 201 11 ls st σ Q = zB d 201 zt_201_11 ls st σ Q := zX_eq d 201 11 ls st σ Q
theorem L_201_17 (d : Nat) (ls st : List Value) (σ : MS) (Q : Option Value → MS → Prop) : zX d 201 17 ls st σ Q = zB d 201 zt_201_17 ls st σ Q := zX_eq d 201 17 ls st σ Q
theorem L_201_34 (d : Nat) (ls st : List Value) (σ : MS) (Q : Option Value → MS → Prop) : zX d 201 34 ls st σ Q = zB d 201 zt_201_34 ls st σ Q := zX_eq d 201 34 ls st σ Q
theorem L_202_0 (d : Nat) (ls st : List Value) (σ : MS) (Q : Option Value → MS → Prop) : zX d 202 0 ls st σ Q = zB d 202 zt_202_0 ls st σ Q := zX_eq d 202 0 ls st σ Q
theorem L_202_9 (d : Nat) (ls st : List Value) (σ : MS) (Q : Option Value → MS → Prop) : zX d 202 9 ls st σ Q = zB d 202 zt_202_9 ls st σ Q := zX_eq d 202 9 ls st σ Q
theorem L_202_15 (d : Nat) (ls st : List Value) (σ : MS) (Q : Option Value → MS → Prop) : zX d 202 15 ls st σ Q = zB d 202 zt_202_15 ls st σ Q := zX_eq d 202 15 ls st σ Q
theorem L_202_32 (d : Nat) (ls st : List Value) (σ : MS) (Q : Option Value → MS → Prop) : zX d 202 32 ls st σ Q = zB d 202 zt_202_32 ls st σ Q := zX_eq d 202 32 ls st σ Q
theorem L_202_64 (d : Nat) (ls st : List Value) (σ : MS) (Q : Option Value → MS → Prop) : zX d 202 64 ls st σ Q = zB d 202 zt_202_64 ls st σ Q := zX_eq d 202 64 ls st σ Q
theorem L_202_76 (d : Nat) (ls st : List Value) (σ : MS) (Q : Option Value → MS → Prop) : zX d 202 76 ls st σ Q = zB d 202 zt_202_76 ls st σ Q := zX_eq d 202 76 ls st σ Q
theorem L_202_88 (d : Nat) (ls st : List Value) (σ : MS) (Q : Option Value → MS → Prop) : zX d 202 88 ls st σ Q = zB d 202 zt_202_88 ls st σ Q := zX_eq d 202 88 ls st σ Q
theorem L_202_100 (d : Nat) (ls st : List Value) (σ : MS) (Q : Option Value → MS → Prop) : zX d 202 100 ls st σ Q = zB d 202 zt_202_100 ls st σ Q := zX_eq d 202 100 ls st σ Q
theorem L_202_112 (d : Nat) (ls st : List Value) (σ : MS) (Q : Option Value → MS → Prop) : zX d 202 112 ls st σ Q = zB d 202 zt_202_112 ls st σ Q := zX_eq d 202 112 ls st σ Q
theorem L_202_127 (d : Nat) (ls st : List Value) (σ : MS) (Q : Option Value → MS → Prop) : zX d 202 127 ls st σ Q = zB d 202 zt_202_127 ls st σ Q := zX_eq d 202 127 ls st σ Q
theorem L_202_128 (d : Nat) (ls st : List Value) (σ : MS) (Q : Option Value → MS → Prop) : zX d 202 128 ls st σ Q = zB d 202 zt_202_128 ls st σ Q := zX_eq d 202 128 ls st σ Q
theorem L_203_0 (d : Nat) (ls st : List Value) (σ : MS) (Q : Option Value → MS → Prop) : zX d 203 0 ls st σ Q = zB d 203 zt_203_0 ls st σ Q := zX_eq d 203 0 ls st σ Q
theorem L_203_33 (d : Nat) (ls st : List Value) (σ : MS) (Q : Option Value → MS → Prop) : zX d 203 33 ls st σ Q = zB d 203 zt_203_33 ls st σ Q := zX_eq d 203 33 ls st σ Q
theorem L_203_39 (d : Nat) (ls st : List Value) (σ : MS) (Q : Option Value → MS → Prop) : zX d 203 39 ls st σ Q = zB d 203 zt_203_39 ls st σ Q := zX_eq d 203 39 ls st σ Q
theorem L_203_56 (d : Nat) (ls st : List Value) (σ : MS) (Q : Option Value → MS → Prop) : zX d 203 56 ls st σ Q = zB d 203 zt_203_56 ls st σ Q := zX_eq d 203 56 ls st σ Q
theorem L_203_61 (d : Nat) (ls st : List Value) (σ : MS) (Q : Option Value → MS → Prop) : zX d 203 61 ls st σ Q = zB d 203 zt_203_61 ls st σ Q := zX_eq d 203 61 ls st σ Q
theorem L_203_114 (d : Nat) (ls st : List Value) (σ : MS) (Q : Option Value → MS → Prop) : zX d 203 114 ls st σ Q = zB d 203 zt_203_114 ls st σ Q := zX_eq d 203 114 ls st σ Q
theorem L_204_0 (d : Nat) (ls st : List Value) (σ : MS) (Q : Option Value → MS → Prop) : zX d 204 0 ls st σ Q = zB d 204 zt_204_0 ls st σ Q := zX_eq d 204 0 ls st σ Q
theorem L_204_15 (d : Nat) (ls st : List Value) (σ : MS) (Q : Option Value → MS → Prop) : zX d 204 15 ls st σ Q = zB d 204 zt_204_15 ls st σ Q := zX_eq d 204 15 ls st σ Q
theorem L_204_21 (d : Nat) (ls st : List Value) (σ : MS) (Q : Option Value → MS → Prop) : zX d 204 21 ls st σ Q = zB d 204 zt_204_21 ls st σ Q := zX_eq d 204 21 ls st σ Q
theorem L_205_0 (d : Nat) (ls st : List Value) (σ : MS) (Q : Option Value → MS → Prop) : zX d 205 0 ls st σ Q = zB d 205 zt_205_0 ls st σ Q := zX_eq d 205 0 ls st σ Q
theorem L_205_16 (d : Nat) (ls st : List Value) (σ : MS) (Q : Option Value → MS → Prop) : zX d 205 16 ls st σ Q = zB d 205 zt_205_16 ls st σ Q := zX_eq d 205 16 ls st σ Q
theorem L_205_23 (d : Nat) (ls st : List Value) (σ : MS) (Q : Option Value → MS → Prop) : zX d 205 23 ls st σ Q = zB d 205 zt_205_23 ls st σ Q := zX_eq d 205 23 ls st σ Q
theorem L_206_0 (d : Nat) (ls st : List Value) (σ : MS) (Q : Option Value → MS → Prop) : zX d 206 0 ls st σ Q = zB d 206 zt_206_0 ls st σ Q := zX_eq d 206 0 ls st σ Q
theorem L_207_0 (d : Nat) (ls st : List Value) (σ : MS) (Q : Option Value → MS → Prop) : zX d 207 0 ls st σ Q = zB d 207 zt_207_0 ls st σ Q := zX_eq d 207 0 ls st σ Q
theorem L_208_0 (d : Nat) (ls st : List Value) (σ : MS) (Q : Option Value → MS → Prop) : zX d 208 0 ls st σ Q = zB d 208 zt_208_0 ls st σ Q := zX_eq d 208 0 ls st σ Q
theorem L_208_14 (d : Nat) (ls st : List Value) (σ : MS) (Q : Option Value → MS → Prop) : zX d 208 14 ls st σ Q = zB d 208 zt_208_14 ls st σ Q := zX_eq d 208 14 ls st σ Q
theorem L_208_19 (d : Nat) (ls st : List Value) (σ : MS) (Q : Option Value → MS → Prop) : zX d 208 19 ls st σ Q = zB d 208 zt_208_19 ls st σ Q := zX_eq d 208 19 ls st σ Q
theorem L_209_0 (d : Nat) (ls st : List Value) (σ : MS) (Q : Option Value → MS → Prop) : zX d 209 0 ls st σ Q = zB d 209 zt_209_0 ls st σ Q := zX_eq d 209 0 ls st σ Q
theorem L_210_0 (d : Nat) (ls st : List Value) (σ : MS) (Q : Option Value → MS → Prop) : zX d 210 0 ls st σ Q = zB d 210 zt_210_0 ls st σ Q := zX_eq d 210 0 ls st σ Q
theorem L_211_0 (d : Nat) (ls st : List Value) (σ : MS) (Q : Option Value → MS → Prop) : zX d 211 0 ls st σ Q = zB d 211 zt_211_0 ls st σ Q := zX_eq d 211 0 ls st σ Q
theorem L_211_20 (d : Nat) (ls st : List Value) (σ : MS) (Q : Option Value → MS → Prop) : zX d 211 20 ls st σ Q = zB d 211 zt_211_20 ls st σ Q := zX_eq d 211 20 ls st σ Q
theorem L_211_33 (d : Nat) (ls st : List Value) (σ : MS) (Q : Option Value → MS → Prop) : zX d 211 33 ls st σ Q = zB d 211 zt_211_33 ls st σ Q := zX_eq d 211 33 ls st σ Q
theorem L_211_49 (d : Nat) (ls st : List Value) (σ : MS) (Q : Option Value → MS → Prop) : zX d 211 49 ls st σ Q = zB d 211 zt_211_49 ls st σ Q := zX_eq d 211 49 ls st σ Q
theorem L_212_0 (d : Nat) (ls st : List Value) (σ : MS) (Q : Option Value → MS → Prop) : zX d 212 0 ls st σ Q = zB d 212 zt_212_0 ls st σ Q := zX_eq d 212 0 ls st σ Q
theorem L_212_9 (d : Nat) (ls st : List Value) (σ : MS) (Q : Option Value → MS → Prop) : zX d 212 9 ls st σ Q = zB d 212 zt_212_9 ls st σ Q := zX_eq d 212 9 ls st σ Q
theorem L_212_44 (d : Nat) (ls st : List Value) (σ : MS) (Q : Option Value → MS → Prop) : zX d 212 44 ls st σ Q = zB d 212 zt_212_44 ls st σ Q := zX_eq d 212 44 ls st σ Q
theorem L_213_0 (d : Nat) (ls st : List Value) (σ : MS) (Q : Option Value → MS → Prop) : zX d 213 0 ls st σ Q = zB d 213 zt_213_0 ls st σ Q := zX_eq d 213 0 ls st σ Q
theorem L_213_5 (d : Nat) (ls st : List Value) (σ : MS) (Q : Option Value → MS → Prop) : zX d 213 5 ls st σ Q = zB d 213 zt_213_5 ls st σ Q := zX_eq d 213 5 ls st σ Q
theorem L_213_31 (d : Nat) (ls st : List Value) (σ : MS) (Q : Option Value → MS → Prop) : zX d 213 31 ls st σ Q = zB d 213 zt_213_31 ls st σ Q := zX_eq d 213 31 ls st σ Q
theorem L_213_34 (d : Nat) (ls st : List Value) (σ : MS) (Q : Option Value → MS → Prop) : zX d 213 34 ls st σ Q = zB d 213 zt_213_34 ls st σ Q := zX_eq d 213 34 ls st σ Q
theorem L_213_52 (d : Nat) (ls st : List Value) (σ : MS) (Q : Option Value → MS → Prop) : zX d 213 52 ls st σ Q = zB d 213 zt_213_52 ls st σ Q := zX_eq d 213 52 ls st σ Q
theorem L_213_57 (d : Nat) (ls st : List Value) (σ : MS) (Q : Option Value → MS → Prop) : zX d 213 57 ls st σ Q = zB d 213 zt_213_57 ls st σ Q := zX_eq d 213 57 ls st σ Q
theorem L_213_65 (d : Nat) (ls st : List Value) (σ : MS) (Q : Option Value → MS → Prop) : zX d 213 65 ls st σ Q = zB d 213 zt_213_65 ls st σ Q := zX_eq d 213 65 ls st σ Q
theorem L_214_0 (d : Nat) (ls st : List Value) (σ : MS) (Q : Option Value → MS → Prop) : zX d 214 0 ls st σ Q = zB d 214 zt_214_0 ls st σ Q := zX_eq d 214 0 ls st σ Q
theorem L_214_13 (d : Nat) (ls st : List Value) (σ : MS) (Q : Option Value → MS → Prop) : zX d 214 13 ls st σ Q = zB d 214 zt_214_13 ls st σ Q := zX_eq d 214 13 ls st σ Q
theorem L_214_14 (d : Nat) (ls st : List Value) (σ : MS) (Q : Option Value → MS → Prop) : zX d 214 14 ls st σ Q = zB d 214 zt_214_14 ls st σ Q := zX_eq d 214 14 ls st σ Q
theorem L_215_0 (d : Nat) (ls st : List Value) (σ : MS) (Q : Option Value → MS → Prop) : zX d 215 0 ls st σ Q = zB d 215 zt_215_0 ls st σ Q := zX_eq d 215 0 ls st σ Q
theorem L_215_9 (d : Nat) (ls st : List Value) (σ : MS) (Q : Option Value → MS → Prop) : zX d 215 9 ls st σ Q = zB d 215 zt_215_9 ls st σ Q := zX_eq d 215 9 ls st σ Q
theorem L_215_23 (d : Nat) (ls st : List Value) (σ : MS) (Q : Option Value → MS → Prop) : zX d 215 23 ls st σ Q = zB d 215 zt_215_23 ls st σ Q := zX_eq d 215 23 ls st σ Q
theorem L_215_40 (d : Nat) (ls st : List Value) (σ : MS) (Q : Option Value → MS → Prop) : zX d 215 40 ls st σ Q = zB d 215 zt_215_40 ls st σ Q := zX_eq d 215 40 ls st σ Q
theorem L_215_44 (d : Nat) (ls st : List Value) (σ : MS) (Q : Option Value → MS → Prop) : zX d 215 44 ls st σ Q = zB d 215 zt_215_44 ls st σ Q := zX_eq d 215 44 ls st σ Q
theorem L_215_45 (d : Nat) (ls st : List Value) (σ : MS) (Q : Option Value → MS → Prop) : zX d 215 45 ls st σ Q = zB d 215 zt_215_45 ls st σ Q := zX_eq d 215 45 ls st σ Q
theorem L_216_0 (d : Nat) (ls st : List Value) (σ : MS) (Q : Option Value → MS → Prop) : zX d 216 0 ls st σ Q = zB d 216 zt_216_0 ls st σ Q := zX_eq d 216 0 ls st σ Q
theorem L_216_17 (d : Nat) (ls st : List Value) (σ : MS) (Q : Option Value → MS → Prop) : zX d 216 17 ls st σ Q = zB d 216 zt_216_17 ls st σ Q := zX_eq d 216 17 ls st σ Q
theorem L_216_19 (d : Nat) (ls st : List Value) (σ : MS) (Q : Option Value → MS → Prop) : zX d 216 19 ls st σ Q = zB d 216 zt_216_19 ls st σ Q := zX_eq d 216 19 ls st σ Q
theorem L_216_33 (d : Nat) (ls st : List Value) (σ : MS) (Q : Option Value → MS → Prop) : zX d 216 33 ls st σ Q = zB d 216 zt_216_33 ls st σ Q := zX_eq d 216 33 ls st σ Q
theorem L_216_51 (d : Nat) (ls st : List Value) (σ : MS) (Q : Option Value → MS → Prop) : zX d 216 51 ls st σ Q = zB d 216 zt_216_51 ls st σ Q := zX_eq d 216 51 ls st σ Q
theorem L_216_53 (d : Nat) (ls st : List Value) (σ : MS) (Q : Option Value → MS → Prop) : zX d 216 53 ls st σ Q = zB d 216 zt_216_53 ls st σ Q := zX_eq d 216 53 ls st σ Q
theorem L_216_93 (d : Nat) (ls st : List Value) (σ : MS) (Q : Option Value → MS → Prop) : zX d 216 93 ls st σ Q = zB d 216 zt_216_93 ls st σ Q := zX_eq d 216 93 ls st σ Q
theorem L_216_95 (d : Nat) (ls st : List Value) (σ : MS) (Q : Option Value → MS → Prop) : zX d 216 95 ls st σ Q = zB d 216 zt_216_95 ls st σ Q := zX_eq d 216 95 ls st σ Q
theorem L_216_101 (d : Nat) (ls st : List Value) (σ : MS) (Q : Option Value → MS → Prop) : zX d 216 101 ls st σ Q = zB d 216 zt_216_101 ls st σ Q := zX_eq d 216 101 ls st σ Q
theorem L_217_0 (d : Nat) (ls st : List Value) (σ : MS) (Q : Option Value → MS → Prop) : zX d 217 0 ls st σ Q = zB d 217 zt_217_0 ls st σ Q := zX_eq d 217 0 ls st σ Q
theorem L_217_26 (d : Nat) (ls st : List Value) (σ : MS) (Q : Option Value → MS → Prop) : zX d 217 26 ls st σ Q = zB d 217 zt_217_26 ls st σ Q := zX_eq d 217 26 ls st σ Q
theorem L_217_33 (d : Nat) (ls st : List Value) (σ : MS) (Q : Option Value → MS → Prop) : zX d 217 33 ls st σ Q = zB d 217 zt_217_33 ls st σ Q := zX_eq d 217 33 ls st σ Q
theorem L_217_50 (d : Nat) (ls st : List Value) (σ : MS) (Q : Option Value → MS → Prop) : zX d 217 50 ls st σ Q = zB d 217 zt_217_50 ls st σ Q := zX_eq d 217 50 ls st σ Q
theorem L_217_51 (d : Nat) (ls st : List Value) (σ : MS) (Q : Option Value → MS → Prop) : zX d 217 51 ls st σ Q = zB d 217 zt_217_51 ls st σ Q := zX_eq d 217 51 ls st σ Q
theorem L_218_0 (d : Nat) (ls st : List Value) (σ : MS) (Q : Option Value → MS → Prop) : zX d 218 0 ls st σ Q = zB d 218 zt_218_0 ls st σ Q := zX_eq d 218 0 ls st σ Q
theorem L_219_0 (d : Nat) (ls st : List Value) (σ : MS) (Q : Option Value → MS → Prop) : zX d 219 0 ls st σ Q = zB d 219 zt_219_0 ls st σ Q := zX_eq d 219 0 ls st σ Q
theorem L_219_2 (d : Nat) (ls st : List Value) (σ : MS) (Q : Option Value → MS → Prop) : zX d 219 2 ls st σ Q = zB d 219 zt_219_2 ls st σ Q := zX_eq d 219 2 ls st σ Q
theorem L_219_24 (d : Nat) (ls st : List Value) (σ : MS) (Q : Option Value → MS → Prop) : zX d 219 24 ls st σ Q = zB d 219 zt_219_24 ls st σ Q := zX_eq d 219 24 ls st σ Q
theorem L_219_74 (d : Nat) (ls st : List Value) (σ : MS) (Q : Option Value → MS → Prop) : zX d 219 74 ls st σ Q = zB d 219 zt_219_74 ls st σ Q := zX_eq d 219 74 ls st σ Q
theorem L_219_100 (d : Nat) (ls st : List Value) (σ : MS) (Q : Option Value → MS → Prop) : zX d 219 100 ls st σ Q = zB d 219 zt_219_100 ls st σ Q := zX_eq d 219 100 ls st σ Q
theorem L_220_0 (d : Nat) (ls st : List Value) (σ : MS) (Q : Option Value → MS → Prop) : zX d 220 0 ls st σ Q = zB d 220 zt_220_0 ls st σ Q := zX_eq d 220 0 ls st σ Q
theorem L_221_0 (d : Nat) (ls st : List Value) (σ : MS) (Q : Option Value → MS → Prop) : zX d 221 0 ls st σ Q = zB d 221 zt_221_0 ls st σ Q := zX_eq d 221 0 ls st σ Q
theorem L_222_0 (d : Nat) (ls st : List Value) (σ : MS) (Q : Option Value → MS → Prop) : zX d 222 0 ls st σ Q = zB d 222 zt_222_0 ls st σ Q := zX_eq d 222 0 ls st σ Q
theorem L_223_0 (d : Nat) (ls st : List Value) (σ : MS) (Q : Option Value → MS → Prop) : zX d 223 0 ls st σ Q = zB d 223 zt_223_0 ls st σ Q := zX_eq d 223 0 ls st σ Q
theorem L_223_13 (d : Nat) (ls st : List Value) (σ : MS) (Q : Option Value → MS → Prop) : zX d 223 13 ls st σ Q = zB d 223 zt_223_13 ls st σ Q := zX_eq d 223 13 ls st σ Q
theorem L_223_14 (d : Nat) (ls st : List Value) (σ : MS) (Q : Option Value → MS → Prop) : zX d 223 14 ls st σ Q = zB d 223 zt_223_14 ls st σ Q := zX_eq d 223 14 ls st σ Q
theorem L_224_0 (d : Nat) (ls st : List Value) (σ : MS) (Q : Option Value → MS → Prop) : zX d 224 0 ls st σ Q = zB d 224 zt_224_0 ls st σ Q := zX_eq d 224 0 ls st σ Q
theorem L_225_0 (d : Nat) (ls st : List Value) (σ : MS) (Q : Option Value → MS → Prop) : zX d 225 0 ls st σ Q = zB d 225 zt_225_0 ls st σ Q := zX_eq d 225 0 ls st σ Q
theorem L_226_0 (d : Nat) (ls st : List Value) (σ : MS) (Q : Option Value → MS → Prop) : zX d 226 0 ls st σ Q = zB d 226 zt_226_0 ls st σ Q := zX_eq d 226 0 ls st σ Q
theorem L_226_14 (d : Nat) (ls st : List Value) (σ : MS) (Q : Option Value → MS → Prop) : zX d 226 14 ls st σ Q = zB d 226 zt_226_14 ls st σ Q := zX_eq d 226 14 ls st σ Q
theorem L_226_19 (d : Nat) (ls st : List Value) (σ : MS) (Q : Option Value → MS → Prop) : zX d 226 19 ls st σ Q = zB d 226 zt_226_19 ls st σ Q := zX_eq d 226 19 ls st σ Q
theorem L_227_0 (d : Nat) (ls st : List Value) (σ : MS) (Q : Option Value → MS → Prop) : zX d 227 0 ls st σ Q = zB d 227 zt_227_0 ls st σ Q := zX_eq d 227 0 ls st σ Q
theorem L_227_6 (d : Nat) (ls st : List Value) (σ : MS) (Q : Option Value → MS → Prop) : zX d 227 6 ls st σ Q = zB d 227 zt_227_6 ls st σ Q := zX_eq d 227 6 ls st σ Q
theorem L_227_31 (d : Nat) (ls st : List Value) (σ : MS) (Q : Option Value → MS → Prop) : zX d 227 31 ls st σ Q = zB d 227 zt_227_31 ls st σ Q := zX_eq d 227 31 ls st σ Q
theorem L_228_0 (d : Nat) (ls st : List Value) (σ : MS) (Q : Option Value → MS → Prop) : zX d 228 0 ls st σ Q = zB d 228 zt_228_0 ls st σ Q := zX_eq d 228 0 ls st σ Q
theorem L_228_13 (d : Nat) (ls st : List Value) (σ : MS) (Q : Option Value → MS → Prop) : zX d 228 13 ls st σ Q = zB d 228 zt_228_13 ls st σ Q := zX_eq d 228 13 ls st σ Q
theorem L_228_14 (d : Nat) (ls st : List Value) (σ : MS) (Q : Option Value → MS → Prop) : zX d 228 14 ls st σ Q = zB d 228 zt_228_14 ls st σ Q := zX_eq d 228 14 ls st σ Q
theorem L_229_0 (d : Nat) (ls st : List Value) (σ : MS) (Q : Option Value → MS → Prop) : zX d 229 0 ls st σ Q = zB d 229 zt_229_0 ls st σ Q := zX_eq d 229 0 ls st σ Q
theorem L_229_11 (d : Nat) (ls st : List Value) (σ : MS) (Q : Option Value → MS → Prop) : zX d 229 11 ls st σ Q = zB d 229 zt_229_11 ls st σ Q := zX_eq d 229 11 ls st σ Q
theorem L_229_23 (d : Nat) (ls st : List Value) (σ : MS) (Q : Option Value → MS → Prop) : zX d 229 23 ls st σ Q = zB d 229 zt_229_23 ls st σ Q := zX_eq d 229 23 ls st σ Q
theorem L_229_34 (d : Nat) (ls st : List Value) (σ : MS) (Q : Option Value → MS → Prop) : zX d 229 34 ls st σ Q = zB d 229 zt_229_34 ls st σ Q := zX_eq d 229 34 ls st σ Q
theorem L_229_35 (d : Nat) (ls st : List Value) (σ : MS) (Q : Option Value → MS → Prop) : zX d 229 35 ls st σ Q = zB d 229 zt_229_35 ls st σ Q := zX_eq d 229 35 ls st σ Q
theorem L_230_0 (d : Nat) (ls st : List Value) (σ : MS) (Q : Option Value → MS → Prop) : zX d 230 0 ls st σ Q = zB d 230 zt_230_0 ls st σ Q := zX_eq d 230 0 ls st σ Q
theorem L_230_26 (d : Nat) (ls st : List Value) (σ : MS) (Q : Option Value → MS → Prop) : zX d 230 26 ls st σ Q = zB d 230 zt_230_26 ls st σ Q := zX_eq d 230 26 ls st σ Q
theorem L_230_32 (d : Nat) (ls st : List Value) (σ : MS) (Q : Option Value → MS → Prop) : zX d 230 32 ls st σ Q = zB d 230 zt_230_32 ls st σ Q := zX_eq d 230 32 ls st σ Q
theorem L_230_49 (d : Nat) (ls st : List Value) (σ : MS) (Q : Option Value → MS → Prop) : zX d 230 49 ls st σ Q = zB d 230 zt_230_49 ls st σ Q := zX_eq d 230 49 ls st σ Q
theorem L_230_74 (d : Nat) (ls st : List Value) (σ : MS) (Q : Option Value → MS → Prop) : zX d 230 74 ls st σ Q = zB d 230 zt_230_74 ls st σ Q := zX_eq d 230 74 ls st σ Q
theorem L_231_0 (d : Nat) (ls st : List Value) (σ : MS) (Q : Option Value → MS → Prop) : zX d 231 0 ls st σ Q = zB d 231 zt_231_0 ls st σ Q := zX_eq d 231 0 ls st σ Q
theorem L_231_11 (d : Nat) (ls st : List Value) (σ : MS) (Q : Option Value → MS → Prop) : zX d 231 11 ls st σ Q = zB d 231 zt_231_11 ls st σ Q := zX_eq d 231 11 ls st σ Q
theorem L_231_25 (d : Nat) (ls st : List Value) (σ : MS) (Q : Option Value → MS → Prop) : zX d 231 25 ls st σ Q = zB d 231 zt_231_25 ls st σ Q := zX_eq d 231 25 ls st σ Q
theorem L_231_39 (d : Nat) (ls st : List Value) (σ : MS) (Q : Option Value → MS → Prop) : zX d 231 39 ls st σ Q = zB d 231 zt_231_39 ls st σ Q := zX_eq d 231 39 ls st σ Q
theorem L_231_43 (d : Nat) (ls st : List Value) (σ : MS) (Q : Option Value → MS → Prop) : zX d 231 43 ls st σ Q = zB d 231 zt_231_43 ls st σ Q := zX_eq d 231 43 ls st σ Q
theorem L_231_44 (d : Nat) (ls st : List Value) (σ : MS) (Q : Option Value → MS → Prop) : zX d 231 44 ls st σ Q = zB d 231 zt_231_44 ls st σ Q := zX_eq d 231 44 ls st σ Q
theorem L_232_0 (d : Nat) (ls st : List Value) (σ : MS) (Q : Option Value → MS → Prop) : zX d 232 0 ls st σ Q = zB d 232 zt_232_0 ls st σ Q := zX_eq d 232 0 ls st σ Q
theorem L_232_34 (d : Nat) (ls st : List Value) (σ : MS) (Q : Option Value → MS → Prop) : zX d 232 34 ls st σ Q = zB d 232 zt_232_34 ls st σ Q := zX_eq d 232 34 ls st σ Q
theorem L_233_0 (d : Nat) (ls st : List Value) (σ : MS) (Q : Option Value → MS → Prop) : zX d 233 0 ls st σ Q = zB d 233 zt_233_0 ls st σ Q := zX_eq d 233 0 ls st σ Q
theorem L_233_23 (d : Nat) (ls st : List Value) (σ : MS) (Q : Option Value → MS → Prop) : zX d 233 23 ls st σ Q = zB d 233 zt_233_23 ls st σ Q := zX_eq d 233 23 ls st σ Q
theorem L_233_34 (d : Nat) (ls st : List Value) (σ : MS) (Q : Option Value → MS → Prop) : zX d 233 34 ls st σ Q = zB d 233 zt_233_34 ls st σ Q := zX_eq d 233 34 ls st σ Q
theorem L_234_0 (d : Nat) (ls st : List Value) (σ : MS) (Q : Option Value → MS → Prop) : zX d 234 0 ls st σ Q = zB d 234 zt_234_0 ls st σ Q := zX_eq d 234 0 ls st σ Q
theorem L_234_28 (d : Nat) (ls st : List Value) (σ : MS) (Q : Option Value → MS → Prop) : zX d 234 28 ls st σ Q = zB d 234 zt_234_28 ls st σ Q := zX_eq d 234 28 ls st σ Q
theorem L_234_34 (d : Nat) (ls st : List Value) (σ : MS) (Q : Option Value → MS → Prop) : zX d 234 34 ls st σ Q = zB d 234 zt_234_34 ls st σ Q := zX_eq d 234 34 ls st σ Q
theorem L_234_54 (d : Nat) (ls st : List Value) (σ : MS) (Q : Option Value → MS → Prop) : zX d 234 54 ls st σ Q = zB d 234 zt_234_54 ls st σ Q := zX_eq d 234 54 ls st σ Q
theorem L_234_60 (d : Nat) (ls st : List Value) (σ : MS) (Q : Option Value → MS → Prop) : zX d 234 60 ls st σ Q = zB d 234 zt_234_60 ls st σ Q := zX_eq d 234 60 ls st σ Q
theorem L_234_82 (d : Nat) (ls st : List Value) (σ : MS) (Q : Option Value → MS → Prop) : zX d 234 82 ls st σ Q = zB d 234 zt_234_82 ls st σ Q := zX_eq d 234 82 ls st σ Q
theorem L_234_109 (d : Nat) (ls st : List Value) (σ : MS) (Q : Option Value → MS → Prop) : zX d 234 109 ls st σ Q = zB d 234 zt_234_109 ls st σ Q := zX_eq d 234 109 ls st σ Q
theorem L_234_115 (d : Nat) (ls st : List Value) (σ : MS) (Q : Option Value → MS → Prop) : zX d 234 115 ls st σ Q = zB d 234 zt_234_115 ls st σ Q := zX_eq d 234 115 ls st σ Q
theorem L_234_118 (d : Nat) (ls st : List Value) (σ : MS) (Q : Option Value → MS → Prop) : zX d 234 118 ls st σ Q = zB d 234 zt_234_118 ls st σ Q := zX_eq d 234 118 ls st σ Q
theorem L_234_141 (d : Nat) (ls st : List Value) (σ : MS) (Q : Option Value → MS → Prop) : zX d 234 141 ls st σ Q = zB d 234 zt_234_141 ls st σ Q := zX_eq d 234 141 ls st σ Q
theorem L_234_143 (d : Nat) (ls st : List Value) (σ : MS) (Q : Option Value → MS → Prop) : zX d 234 143 ls st σ Q = zB d 234 zt_234_143 ls st σ Q := zX_eq d 234 143 ls st σ Q
theorem L_234_180 (d : Nat) (ls st : List Value) (σ : MS) (Q : Option Value → MS → Prop) : zX d 234 180 ls st σ Q = zB d 234 zt_234_180 ls st σ Q := zX_eq d 234 180 ls st σ Q
theorem L_235_0 (d : Nat) (ls st : List Value) (σ : MS) (Q : Option Value → MS → Prop) : zX d 235 0 ls st σ Q = zB d 235 zt_235_0 ls st σ Q := zX_eq d 235 0 ls st σ Q
theorem L_235_17 (d : Nat) (ls st : List Value) (σ : MS) (Q : Option Value → MS → Prop) : zX d 235 17 ls st σ Q = zB d 235 zt_235_17 ls st σ Q := zX_eq d 235 17 ls st σ Q
theorem L_235_18 (d : Nat) (ls st : List Value) (σ : MS) (Q : Option Value → MS → Prop) : zX d 235 18 ls st σ Q = zB d 235 zt_235_18 ls st σ Q := zX_eq d 235 18 ls st σ Q
theorem L_236_0 (d : Nat) (ls st : List Value) (σ : MS) (Q : Option Value → MS → Prop) : zX d 236 0 ls st σ Q = zB d 236 zt_236_0 ls st σ Q := zX_eq d 236 0 ls st σ Q
theorem L_236_15 (d : Nat) (ls st : List Value) (σ : MS) (Q : Option Value → MS → Prop) : zX d 236 15 ls st σ Q = zB d 236 zt_236_15 ls st σ Q := zX_eq d 236 15 ls st σ Q
theorem L_237_0 (d : Nat) (ls st : List Value) (σ : MS) (Q : Option Value → MS → Prop) : zX d 237 0 ls st σ Q = zB d 237 zt_237_0 ls st σ Q := zX_eq d 237 0 ls st σ Q
theorem L_237_3 (d : Nat) (ls st : List Value) (σ : MS) (Q : Option Value → MS → Prop) : zX d 237 3 ls st σ Q = zB d 237 zt_237_3 ls st σ Q := zX_eq d 237 3 ls st σ Q
theorem L_237_36 (d : Nat) (ls st : List Value) (σ : MS) (Q : Option Value → MS → Prop) : zX d 237 36 ls st σ Q = zB d 237 zt_237_36 ls st σ Q := zX_eq d 237 36 ls st σ Q
theorem L_238_0 (d : Nat) (ls st : List Value) (σ : MS) (Q : Option Value → MS → Prop) : zX d 238 0 ls st σ Q = zB d 238 zt_238_0 ls st σ Q := zX_eq d 238 0 ls st σ Q
theorem L_238_21 (d : Nat) (ls st : List Value) (σ : MS) (Q : Option Value → MS → Prop) : zX d 238 21 ls st σ Q = zB d 238 zt_238_21 ls st σ Q := zX_eq d 238 21 ls st σ Q
theorem L_238_22 (d : Nat) (ls st : List Value) (σ : MS) (Q : Option Value → MS → Prop) : zX d 238 22 ls st σ Q = zB d 238 zt_238_22 ls st σ Q := zX_eq d 238 22 ls st σ Q
theorem L_239_0 (d : Nat) (ls st : List Value) (σ : MS) (Q : Option Value → MS → Prop) : zX d 239 0 ls st σ Q = zB d 239 zt_239_0 ls st σ Q := zX_eq d 239 0 ls st σ Q
theorem L_239_16 (d : Nat) (ls st : List Value) (σ : MS) (Q : Option Value → MS → Prop) : zX d 239 16 ls st σ Q = zB d 239 zt_239_16 ls st σ Q := zX_eq d 239 16 ls st σ Q
theorem L_239_17 (d : Nat) (ls st : List Value) (σ : MS) (Q : Option Value → MS → Prop) : zX d 239 17 ls st σ Q = zB d 239 zt_239_17 ls st σ Q := zX_eq d 239 17 ls st σ Q
theorem L_240_0 (d : Nat) (ls st : List Value) (σ : MS) (Q : Option Value → MS → Prop) : zX d 240 0 ls st σ Q = zB d 240 zt_240_0 ls st σ Q := zX_eq d 240 0 ls st σ Q
theorem L_240_16 (d : Nat) (ls st : List Value) (σ : MS) (Q : Option Value → MS → Prop) : zX d 240 16 ls st σ Q = zB d 240 zt_240_16 ls st σ Q := zX_eq d 240 16 ls st σ Q
theorem L_240_17 (d : Nat) (ls st : List Value) (σ : MS) (Q : Option Value → MS → Prop) : zX d 240 17 ls st σ Q = zB d 240 zt_240_17 ls st σ Q := zX_eq d 240 17 ls st σ Q
theorem L_241_0 (d : Nat) (ls st : List Value) (σ : MS) (Q : Option Value → MS → Prop) : zX d 241 0 ls st σ Q = zB d 241 zt_241_0 ls st σ Q := zX_eq d 241 0 ls st σ Q
theorem L_241_26 (d : Nat) (ls st : List Value) (σ : MS) (Q : Option Value → MS → Prop) : zX d 241 26 ls st σ Q = zB d 241 zt_241_26 ls st σ Q := zX_eq d 241 26 ls st σ Q
theorem L_241_39 (d : Nat) (ls st : List Value) (σ : MS) (Q : Option Value → MS → Prop) : zX d 241 39 ls st σ Q = zB d 241 zt_241_39 ls st σ Q := zX_eq d 241 39 ls st σ Q
theorem L_241_74 (d : Nat) (ls st : List Value) (σ : MS) (Q : Option Value → MS → Prop) : zX d 241 74 ls st σ Q = zB d 241 zt_241_74 ls st σ Q := zX_eq d 241 74 ls st σ Q
theorem L_241_81 (d : Nat) (ls st : List Value) (σ : MS) (Q : Option Value → MS → Prop) : zX d 241 81 ls st σ Q = zB d 241 zt_241_81 ls st σ Q := zX_eq d 241 81 ls st σ Q
theorem L_241_108 (d : Nat) (ls st : List Value) (σ : MS) (Q : Option Value → MS → Prop) : zX d 241 108 ls st σ Q = zB d 241 zt_241_108 ls st σ Q := zX_eq d 241 108 ls st σ Q
theorem L_241_116 (d : Nat) (ls st : List Value) (σ : MS) (Q : Option Value → MS → Prop) : zX d 241 116 ls st σ Q = zB d 241 zt_241_116 ls st σ Q := zX_eq d 241 116 ls st σ Q
theorem L_241_128 (d : Nat) (ls st : List Value) (σ : MS) (Q : Option Value → MS → Prop) : zX d 241 128 ls st σ Q = zB d 241 zt_241_128 ls st σ Q := zX_eq d 241 128 ls st σ Q
theorem L_241_183 (d : Nat) (ls st : List Value) (σ : MS) (Q : Option Value → MS → Prop) : zX d 241 183 ls st σ Q = zB d 241 zt_241_183 ls st σ Q := zX_eq d 241 183 ls st σ Q
theorem L_241_201 (d : Nat) (ls st : List Value) (σ : MS) (Q : Option Value → MS → Prop) : zX d 241 201 ls st σ Q = zB d 241 zt_241_201 ls st σ Q := zX_eq d 241 201 ls st σ Q
theorem L_241_202 (d : Nat) (ls st : List Value) (σ : MS) (Q : Option Value → MS → Prop) : zX d 241 202 ls st σ Q = zB d 241 zt_241_202 ls st σ Q := zX_eq d 241 202 ls st σ Q
theorem L_241_208 (d : Nat) (ls st : List Value) (σ : MS) (Q : Option Value → MS → Prop) : zX d 241 208 ls st σ Q = zB d 241 zt_241_208 ls st σ Q := zX_eq d 241 208 ls st σ Q
theorem L_241_243 (d : Nat) (ls st : List Value) (σ : MS) (Q : Option Value → MS → Prop) : zX d 241 243 ls st σ Q = zB d 241 zt_241_243 ls st σ Q := zX_eq d 241 243 ls st σ Q
theorem L_241_247 (d : Nat) (ls st : List Value) (σ : MS) (Q : Option Value → MS → Prop) : zX d 241 247 ls st σ Q = zB d 241 zt_241_247 ls st σ Q := zX_eq d 241 247 ls st σ Q
theorem L_241_248 (d : Nat) (ls st : List Value) (σ : MS) (Q : Option Value → MS → Prop) : zX d 241 248 ls st σ Q = zB d 241 zt_241_248 ls st σ Q := zX_eq d 241 248 ls st σ Q
theorem L_241_251 (d : Nat) (ls st : List Value) (σ : MS) (Q : Option Value → MS → Prop) : zX d 241 251 ls st σ Q = zB d 241 zt_241_251 ls st σ Q := zX_eq d 241 251 ls st σ Q
theorem L_242_0 (d : Nat) (ls st : List Value) (σ : MS) (Q : Option Value → MS → Prop) : zX d 242 0 ls st σ Q = zB d 242 zt_242_0 ls st σ Q := zX_eq d 242 0 ls st σ Q
theorem L_242_20 (d : Nat) (ls st : List Value) (σ : MS) (Q : Option Value → MS → Prop) : zX d 242 20 ls st σ Q = zB d 242 zt_242_20 ls st σ Q := zX_eq d 242 20 ls st σ Q
theorem L_242_21 (d : Nat) (ls st : List Value) (σ : MS) (Q : Option Value → MS → Prop) : zX d 242 21 ls st σ Q = zB d 242 zt_242_21 ls st σ Q := zX_eq d 242 21 ls st σ Q
theorem L_243_0 (d : Nat) (ls st : List Value) (σ : MS) (Q : Option Value → MS → Prop) : zX d 243 0 ls st σ Q = zB d 243 zt_243_0 ls st σ Q := zX_eq d 243 0 ls st σ Q
theorem L_243_10 (d : Nat) (ls st : List Value) (σ : MS) (Q : Option Value → MS → Prop) : zX d 243 10 ls st σ Q = zB d 243 zt_243_10 ls st σ Q := zX_eq d 243 10 ls st σ Q
theorem L_243_14 (d : Nat) (ls st : List Value) (σ : MS) (Q : Option Value → MS → Prop) : zX d 243 14 ls st σ Q = zB d 243 zt_243_14 ls st σ Q := zX_eq d 243 14 ls st σ Q
theorem L_243_25 (d : Nat) (ls st : List Value) (σ : MS) (Q : Option Value → MS → Prop) : zX d 243 25 ls st σ Q = zB d 243 zt_243_25 ls st σ Q := zX_eq d 243 25 ls st σ Q
theorem L_243_42 (d : Nat) (ls st : List Value) (σ : MS) (Q : Option Value → MS → Prop) : zX d 243 42 ls st σ Q = zB d 243 zt_243_42 ls st σ Q := zX_eq d 243 42 ls st σ Q
theorem L_243_62 (d : Nat) (ls st : List Value) (σ : MS) (Q : Option Value → MS → Prop) : zX d 243 62 ls st σ Q = zB d 243 zt_243_62 ls st σ Q := zX_eq d 243 62 ls st σ Q
theorem L_243_63 (d : Nat) (ls st : List Value) (σ : MS) (Q : Option Value → MS → Prop) : zX d 243 63 ls st σ Q = zB d 243 zt_243_63 ls st σ Q := zX_eq d 243 63 ls st σ Q
theorem L_243_68 (d : Nat) (ls st : List Value) (σ : MS) (Q : Option Value → MS → Prop) : zX d 243 68 ls st σ Q = zB d 243 zt_243_68 ls st σ Q := zX_eq d 243 68 ls st σ Q
theorem L_243_106 (d : Nat) (ls st : List Value) (σ : MS) (Q : Option Value → MS → Prop) : zX d 243 106 ls st σ Q = zB d 243 zt_243_106 ls st σ Q := zX_eq d 243 106 ls st σ Q
theorem L_243_107 (d : Nat) (ls st : List Value) (σ : MS) (Q : Option Value → MS → Prop) : zX d 243 107 ls st σ Q = zB d 243 zt_243_107 ls st σ Q := zX_eq d 243 107 ls st σ Q
theorem L_243_115 (d : Nat) (ls st : List Value) (σ : MS) (Q : Option Value → MS → Prop) : zX d 243 115 ls st σ Q = zB d 243 zt_243_115 ls st σ Q := zX_eq d 243 115 ls st σ Q
theorem L_243_122 (d : Nat) (ls st : List Value) (σ : MS) (Q : Option Value → MS → Prop) : zX d 243 122 ls st σ Q = zB d 243 zt_243_122 ls st σ Q := zX_eq d 243 122 ls st σ Q
theorem L_243_133 (d : Nat) (ls st : List Value) (σ : MS) (Q : Option Value → MS → Prop) : zX d 243 133 ls st σ Q = zB d 243 zt_243_133 ls st σ Q := zX_eq d 243 133 ls st σ Q
theorem L_244_0 (d : Nat) (ls st : List Value) (σ : MS) (Q : Option Value → MS → Prop) : zX d 244 0 ls st σ Q = zB d 244 zt_244_0 ls st σ Q := zX_eq d 244 0 ls st σ Q
theorem L_244_20 (d : Nat) (ls st : List Value) (σ : MS) (Q : Option Value → MS → Prop) : zX d 244 20 ls st σ Q = zB d 244 zt_244_20 ls st σ Q := zX_eq d 244 20 ls st σ Q
theorem L_244_21 (d : Nat) (ls st : List Value) (σ : MS) (Q : Option Value → MS → Prop) : zX d 244 21 ls st σ Q = zB d 244 zt_244_21 ls st σ Q := zX_eq d 244 21 ls st σ Q
theorem L_244_32 (d : Nat) (ls st : List Value) (σ : MS) (Q : Option Value → MS → Prop) : zX d 244 32 ls st σ Q = zB d 244 zt_244_32 ls st σ Q := zX_eq d 244 32 ls st σ Q
theorem L_245_0 (d : Nat) (ls st : List Value) (σ : MS) (Q : Option Value → MS → Prop) : zX d 245 0 ls st σ Q = zB d 245 zt_245_0 ls st σ Q := zX_eq d 245 0 ls st σ Q
theorem L_245_17 (d : Nat) (ls st : List Value) (σ : MS) (Q : Option Value → MS → Prop) : zX d 245 17 ls st σ Q = zB d 245 zt_245_17 ls st σ Q := zX_eq d 245 17 ls st σ Q
theorem L_245_19 (d : Nat) (ls st : List Value) (σ : MS) (Q : Option Value → MS → Prop) : zX d 245 19 ls st σ Q = zB d 245 zt_245_19 ls st σ Q := zX_eq d 245 19 ls st σ Q
theorem L_245_26 (d : Nat) (ls st : List Value) (σ : MS) (Q : Option Value → MS → Prop) : zX d 245 26 ls st σ Q = zB d 245 zt_245_26 ls st σ Q := zX_eq d 245 26 ls st σ Q
theorem L_245_49 (d : Nat) (ls st : List Value) (σ : MS) (Q : Option Value → MS → Prop) : zX d 245 49 ls st σ Q = zB d 245 zt_245_49 ls st σ Q := zX_eq d 245 49 ls st σ Q
theorem L_246_0 (d : Nat) (ls st : List Value) (σ : MS) (Q : Option Value → MS → Prop) : zX d 246 0 ls st σ Q = zB d 246 zt_246_0 ls st σ Q := zX_eq d 246 0 ls st σ Q
theorem L_246_14 (d : Nat) (ls st : List Value) (σ : MS) (Q : Option Value → MS → Prop) : zX d 246 14 ls st σ Q = zB d 246 zt_246_14 ls st σ Q := zX_eq d 246 14 ls st σ Q
theorem L_247_0 (d : Nat) (ls st : List Value) (σ : MS) (Q : Option Value → MS → Prop) : zX d 247 0 ls st σ Q = zB d 247 zt_247_0 ls st σ Q := zX_eq d 247 0 ls st σ Q
theorem L_247_15 (d : Nat) (ls st : List Value) (σ : MS) (Q : Option Value → MS → Prop) : zX d 247 15 ls st σ Q = zB d 247 zt_247_15 ls st σ Q := zX_eq d 247 15 ls st σ Q
theorem L_248_0 (d : Nat) (ls st : List Value) (σ : MS) (Q : Option Value → MS → Prop) : zX d 248 0 ls st σ Q = zB d 248 zt_248_0 ls st σ Q := zX_eq d 248 0 ls st σ Q
theorem L_248_14 (d : Nat) (ls st : List Value) (σ : MS) (Q : Option Value → MS → Prop) : zX d 248 14 ls st σ Q = zB d 248 zt_248_14 ls st σ Q := zX_eq d 248 14 ls st σ Q
theorem L_248_30 (d : Nat) (ls st : List Value) (σ : MS) (Q : Option Value → MS → Prop) : zX d 248 30 ls st σ Q = zB d 248 zt_248_30 ls st σ Q := zX_eq d 248 30 ls st σ Q
theorem L_248_36 (d : Nat) (ls st : List Value) (σ : MS) (Q : Option Value → MS → Prop) : zX d 248 36 ls st σ Q = zB d 248 zt_248_36 ls st σ Q := zX_eq d 248 36 ls st σ Q
theorem L_249_0 (d : Nat) (ls st : List Value) (σ : MS) (Q : Option Value → MS → Prop) : zX d 249 0 ls st σ Q = zB d 249 zt_249_0 ls st σ Q := zX_eq d 249 0 ls st σ Q
theorem L_249_35 (d : Nat) (ls st : List Value) (σ : MS) (Q : Option Value → MS → Prop) : zX d 249 35 ls st σ Q = zB d 249 zt_249_35 ls st σ Q := zX_eq d 249 35 ls st σ Q
theorem L_249_36 (d : Nat) (ls st : List Value) (σ : MS) (Q : Option Value → MS → Prop) : zX d 249 36 ls st σ Q = zB d 249 zt_249_36 ls st σ Q := zX_eq d 249 36 ls st σ Q
theorem L_250_0 (d : Nat) (ls st : List Value) (σ : MS) (Q : Option Value → MS → Prop) : zX d 250 0 ls st σ Q = zB d 250 zt_250_0 ls st σ Q := zX_eq d 250 0 ls st σ Q
theorem L_250_7 (d : Nat) (ls st : List Value) (σ : MS) (Q : Option Value → MS → Prop) : zX d 250 7 ls st σ Q = zB d 250 zt_250_7 ls st σ Q := zX_eq d 250 7 ls st σ Q
theorem L_250_33 (d : Nat) (ls st : List Value) (σ : MS) (Q : Option Value → MS → Prop) : zX d 250 33 ls st σ Q = zB d 250 zt_250_33 ls st σ Q := zX_eq d 250 33 ls st σ Q
theorem L_251_0 (d : Nat) (ls st : List Value) (σ : MS) (Q : Option Value → MS → Prop) : zX d 251 0 ls st σ Q = zB d 251 zt_251_0 ls st σ Q := zX_eq d 251 0 ls st σ Q
theorem L_251_2 (d : Nat) (ls st : List Value) (σ : MS) (Q : Option Value → MS → Prop) : zX d 251 2 ls st σ Q = zB d 251 zt_251_2 ls st σ Q := zX_eq d 251 2 ls st σ Q
theorem L_251_25 (d : Nat) (ls st : List Value) (σ : MS) (Q : Option Value → MS → Prop) : zX d 251 25 ls st σ Q = zB d 251 zt_251_25 ls st σ Q := zX_eq d 251 25 ls st σ Q
theorem L_251_31 (d : Nat) (ls st : List Value) (σ : MS) (Q : Option Value → MS → Prop) : zX d 251 31 ls st σ Q = zB d 251 zt_251_31 ls st σ Q := zX_eq d 251 31 ls st σ Q
theorem L_252_0 (d : Nat) (ls st : List Value) (σ : MS) (Q : Option Value → MS → Prop) : zX d 252 0 ls st σ Q = zB d 252 zt_252_0 ls st σ Q := zX_eq d 252 0 ls st σ Q
theorem L_252_11 (d : Nat) (ls st : List Value) (σ : MS) (Q : Option Value → MS → Prop) : zX d 252 11 ls st σ Q = zB d 252 zt_252_11 ls st σ Q := zX_eq d 252 11 ls st σ Q
theorem L_252_23 (d : Nat) (ls st : List Value) (σ : MS) (Q : Option Value → MS → Prop) : zX d 252 23 ls st σ Q = zB d 252 zt_252_23 ls st σ Q := zX_eq d 252 23 ls st σ Q
theorem L_252_24 (d : Nat) (ls st : List Value) (σ : MS) (Q : Option Value → MS → Prop) : zX d 252 24 ls st σ Q = zB d 252 zt_252_24 ls st σ Q := zX_eq d 252 24 ls st σ Q
theorem L_253_0 (d : Nat) (ls st : List Value) (σ : MS) (Q : Option Value → MS → Prop) : zX d 253 0 ls st σ Q = zB d 253 zt_253_0 ls st σ Q := zX_eq d 253 0 ls st σ Q
theorem L_253_24 (d : Nat) (ls st : List Value) (σ : MS) (Q : Option Value → MS → Prop) : zX d 253 24 ls st σ Q = zB d 253 zt_253_24 ls st σ Q := zX_eq d 253 24 ls st σ Q
theorem L_253_29 (d : Nat) (ls st : List Value) (σ : MS) (Q : Option Value → MS → Prop) : zX d 253 29 ls st σ Q = zB d 253 zt_253_29 ls st σ Q := zX_eq d 253 29 ls st σ Q
theorem L_254_0 (d : Nat) (ls st : List Value) (σ : MS) (Q : Option Value → MS → Prop) : zX d 254 0 ls st σ Q = zB d 254 zt_254_0 ls st σ Q := zX_eq d 254 0 ls st σ Q
theorem L_255_0 (d : Nat) (ls st : List Value) (σ : MS) (Q : Option Value → MS → Prop) : zX d 255 0 ls st σ Q = zB d 255 zt_255_0 ls st σ Q := zX_eq d 255 0 ls st σ Q
theorem L_255_21 (d : Nat) (ls st : List Value) (σ : MS) (Q : Option Value → MS → Prop) : zX d 255 21 ls st σ Q = zB d 255 zt_255_21 ls st σ Q := zX_eq d 255 21 ls st σ Q
theorem L_255_40 (d : Nat) (ls st : List Value) (σ : MS) (Q : Option Value → MS → Prop) : zX d 255 40 ls st σ Q = zB d 255 zt_255_40 ls st σ Q := zX_eq d 255 40 ls st σ Q
theorem L_255_94 (d : Nat) (ls st : List Value) (σ : MS) (Q : Option Value → MS → Prop) : zX d 255 94 ls st σ Q = zB d 255 zt_255_94 ls st σ Q := zX_eq d 255 94 ls st σ Q
theorem L_255_100 (d : Nat) (ls st : List Value) (σ : MS) (Q : Option Value → MS → Prop) : zX d 255 100 ls st σ Q = zB d 255 zt_255_100 ls st σ Q := zX_eq d 255 100 ls st σ Q
theorem L_256_0 (d : Nat) (ls st : List Value) (σ : MS) (Q : Option Value → MS → Prop) : zX d 256 0 ls st σ Q = zB d 256 zt_256_0 ls st σ Q := zX_eq d 256 0 ls st σ Q
theorem L_256_15 (d : Nat) (ls st : List Value) (σ : MS) (Q : Option Value → MS → Prop) : zX d 256 15 ls st σ Q = zB d 256 zt_256_15 ls st σ Q := zX_eq d 256 15 ls st σ Q
theorem L_256_43 (d : Nat) (ls st : List Value) (σ : MS) (Q : Option Value → MS → Prop) : zX d 256 43 ls st σ Q = zB d 256 zt_256_43 ls st σ Q := zX_eq d 256 43 ls st σ Q
theorem L_257_0 (d : Nat) (ls st : List Value) (σ : MS) (Q : Option Value → MS → Prop) : zX d 257 0 ls st σ Q = zB d 257 zt_257_0 ls st σ Q := zX_eq d 257 0 ls st σ Q
theorem L_257_39 (d : Nat) (ls st : List Value) (σ : MS) (Q : Option Value → MS → Prop) : zX d 257 39 ls st σ Q = zB d 257 zt_257_39 ls st σ Q := zX_eq d 257 39 ls st σ Q
theorem L_257_40 (d : Nat) (ls st : List Value) (σ : MS) (Q : Option Value → MS → Prop) : zX d 257 40 ls st σ Q = zB d 257 zt_257_40 ls st σ Q := zX_eq d 257 40 ls st σ Q
theorem L_258_0 (d : Nat) (ls st : List Value) (σ : MS) (Q : Option Value → MS → Prop) : zX d 258 0 ls st σ Q = zB d 258 zt_258_0 ls st σ Q := zX_eq d 258 0 ls st σ Q
theorem L_258_44 (d : Nat) (ls st : List Value) (σ : MS) (Q : Option Value → MS → Prop) : zX d 258 44 ls st σ Q = zB d 258 zt_258_44 ls st σ Q := zX_eq d 258 44 ls st σ Q
theorem L_258_46 (d : Nat) (ls st : List Value) (σ : MS) (Q : Option Value → MS → Prop) : zX d 258 46 ls st σ Q = zB d 258 zt_258_46 ls st σ Q := zX_eq d 258 46 ls st σ Q
theorem L_259_0 (d : Nat) (ls st : List Value) (σ : MS) (Q : Option Value → MS → Prop) : zX d 259 0 ls st σ Q = zB d 259 zt_259_0 ls st σ Q := zX_eq d 259 0 ls st σ Q
theorem L_259_14 (d : Nat) (ls st : List Value) (σ : MS) (Q : Option Value → MS → Prop) : zX d 259 14 ls st σ Q = zB d 259 zt_259_14 ls st σ Q := zX_eq d 259 14 ls st σ Q
theorem L_259_16 (d : Nat) (ls st : List Value) (σ : MS) (Q : Option Value → MS → Prop) : zX d 259 16 ls st σ Q = zB d 259 zt_259_16 ls st σ Q := zX_eq d 259 16 ls st σ Q
theorem L_259_51 (d : Nat) (ls st : List Value) (σ : MS) (Q : Option Value → MS → Prop) : zX d 259 51 ls st σ Q = zB d 259 zt_259_51 ls st σ Q := zX_eq d 259 51 ls st σ Q
theorem L_259_66 (d : Nat) (ls st : List Value) (σ : MS) (Q : Option Value → MS → Prop) : zX d 259 66 ls st σ Q = zB d 259 zt_259_66 ls st σ Q := zX_eq d 259 66 ls st σ Q
theorem L_259_79 (d : Nat) (ls st : List Value) (σ : MS) (Q : Option Value → MS → Prop) : zX d 259 79 ls st σ Q = zB d 259 zt_259_79 ls st σ Q := zX_eq d 259 79 ls st σ Q
theorem L_260_0 (d : Nat) (ls st : List Value) (σ : MS) (Q : Option Value → MS → Prop) : zX d 260 0 ls st σ Q = zB d 260 zt_260_0 ls st σ Q := zX_eq d 260 0 ls st σ Q
theorem L_261_0 (d : Nat) (ls st : List Value) (σ : MS) (Q : Option Value → MS → Prop) : zX d 261 0 ls st σ Q = zB d 261 zt_261_0 ls st σ Q := zX_eq d 261 0 ls st σ Q
theorem L_261_41 (d : Nat) (ls st : List Value) (σ : MS) (Q : Option Value → MS → Prop) : zX d 261 41 ls st σ Q = zB d 261 zt_261_41 ls st σ Q := zX_eq d 261 41 ls st σ Q
theorem L_261_43 (d : Nat) (ls st : List Value) (σ : MS) (Q : Option Value → MS → Prop) : zX d 261 43 ls st σ Q = zB d 261 zt_261_43 ls st σ Q := zX_eq d 261 43 ls st σ Q
theorem L_262_0 (d : Nat) (ls st : List Value) (σ : MS) (Q : Option Value → MS → Prop) : zX d 262 0 ls st σ Q = zB d 262 zt_262_0 ls st σ Q := zX_eq d 262 0 ls st σ Q
theorem L_262_62 (d : Nat) (ls st : List Value) (σ : MS) (Q : Option Value → MS → Prop) : zX d 262 62 ls st σ Q = zB d 262 zt_262_62 ls st σ Q := zX_eq d 262 62 ls st σ Q
theorem L_262_91 (d : Nat) (ls st : List Value) (σ : MS) (Q : Option Value → MS → Prop) : zX d 262 91 ls st σ Q = zB d 262 zt_262_91 ls st σ Q := zX_eq d 262 91 ls st σ Q
theorem L_262_93 (d : Nat) (ls st : List Value) (σ : MS) (Q : Option Value → MS → Prop) : zX d 262 93 ls st σ Q = zB d 262 zt_262_93 ls st σ Q := zX_eq d 262 93 ls st σ Q
theorem L_262_108 (d : Nat) (ls st : List Value) (σ : MS) (Q : Option Value → MS → Prop) : zX d 262 108 ls st σ Q = zB d 262 zt_262_108 ls st σ Q := zX_eq d 262 108 ls st σ Q
theorem L_262_109 (d : Nat) (ls st : List Value) (σ : MS) (Q : Option Value → MS → Prop) : zX d 262 109 ls st σ Q = zB d 262 zt_262_109 ls st σ Q := zX_eq d 262 109 ls st σ Q
theorem L_262_112 (d : Nat) (ls st : List Value) (σ : MS) (Q : Option Value → MS → Prop) : zX d 262 112 ls st σ Q = zB d 262 zt_262_112 ls st σ Q := zX_eq d 262 112 ls st σ Q
theorem L_262_154 (d : Nat) (ls st : List Value) (σ : MS) (Q : Option Value → MS → Prop) : zX d 262 154 ls st σ Q = zB d 262 zt_262_154 ls st σ Q := zX_eq d 262 154 ls st σ Q
theorem L_262_160 (d : Nat) (ls st : List Value) (σ : MS) (Q : Option Value → MS → Prop) : zX d 262 160 ls st σ Q = zB d 262 zt_262_160 ls st σ Q := zX_eq d 262 160 ls st σ Q
theorem L_263_0 (d : Nat) (ls st : List Value) (σ : MS) (Q : Option Value → MS → Prop) : zX d 263 0 ls st σ Q = zB d 263 zt_263_0 ls st σ Q := zX_eq d 263 0 ls st σ Q
theorem L_263_17 (d : Nat) (ls st : List Value) (σ : MS) (Q : Option Value → MS → Prop) : zX d 263 17 ls st σ Q = zB d 263 zt_263_17 ls st σ Q := zX_eq d 263 17 ls st σ Q
theorem L_263_23 (d : Nat) (ls st : List Value) (σ : MS) (Q : Option Value → MS → Prop) : zX d 263 23 ls st σ Q = zB d 263 zt_263_23 ls st σ Q := zX_eq d 263 23 ls st σ Q
theorem L_263_46 (d : Nat) (ls st : List Value) (σ : MS) (Q : Option Value → MS → Prop) : zX d 263 46 ls st σ Q = zB d 263 zt_263_46 ls st σ Q := zX_eq d 263 46 ls st σ Q
theorem L_263_73 (d : Nat) (ls st : List Value) (σ : MS) (Q : Option Value → MS → Prop) : zX d 263 73 ls st σ Q = zB d 263 zt_263_73 ls st σ Q := zX_eq d 263 73 ls st σ Q
theorem L_263_82 (d : Nat) (ls st : List Value) (σ : MS) (Q : Option Value → MS → Prop) : zX d 263 82 ls st σ Q = zB d 263 zt_263_82 ls st σ Q := zX_eq d 263 82 ls st σ Q
theorem L_263_120 (d : Nat) (ls st : List Value) (σ : MS) (Q : Option Value → MS → Prop) : zX d 263 120 ls st σ Q = zB d 263 zt_263_120 ls st σ Q := zX_eq d 263 120 ls st σ Q
theorem L_263_128 (d : Nat) (ls st : List Value) (σ : MS) (Q : Option Value → MS → Prop) : zX d 263 128 ls st σ Q = zB d 263 zt_263_128 ls st σ Q := zX_eq d 263 128 ls st σ Q
theorem L_263_142 (d : Nat) (ls st : List Value) (σ : MS) (Q : Option Value → MS → Prop) : zX d 263 142 ls st σ Q = zB d 263 zt_263_142 ls st σ Q := zX_eq d 263 142 ls st σ Q
theorem L_263_156 (d : Nat) (ls st : List Value) (σ : MS) (Q : Option Value → MS → Prop) : zX d 263 156 ls st σ Q = zB d 263 zt_263_156 ls st σ Q := zX_eq d 263 156 ls st σ Q
theorem L_263_164 (d : Nat) (ls st : List Value) (σ : MS) (Q : Option Value → MS → Prop) : zX d 263 164 ls st σ Q = zB d 263 zt_263_164 ls st σ Q := zX_eq d 263 164 ls st σ Q
theorem L_263_172 (d : Nat) (ls st : List Value) (σ : MS) (Q : Option Value → MS → Prop) : zX d 263 172 ls st σ Q = zB d 263 zt_263_172 ls st σ Q := zX_eq d 263 172 ls st σ Q
theorem L_263_180 (d : Nat) (ls st : List Value) (σ : MS) (Q : Option Value → MS → Prop) : zX d 263 180 ls st σ Q = zB d 263 zt_263_180 ls st σ Q := zX_eq d 263 180 ls st σ Q
theorem L_263_185 (d : Nat) (ls st : List Value) (σ : MS) (Q : Option Value → MS → Prop) : zX d 263 185 ls st σ Q = zB d 263 zt_263_185 ls st σ Q := zX_eq d 263 185 ls st σ Q
theorem L_263_202 (d : Nat) (ls st : List Value) (σ : MS) (Q : Option Value → MS → Prop) : zX d 263 202 ls st σ Q = zB d 263 zt_263_202 ls st σ Q := zX_eq d 263 202 ls st σ Q
theorem L_263_203 (d : Nat) (ls st : List Value) (σ : MS) (Q : Option Value → MS → Prop) : zX d 263 203 ls st σ Q = zB d 263 zt_263_203 ls st σ Q := zX_eq d 263 203 ls st σ Q
theorem L_264_0 (d : Nat) (ls st : List Value) (σ : MS) (Q : Option Value → MS → Prop) : zX d 264 0 ls st σ Q = zB d 264 zt_264_0 ls st σ Q := zX_eq d 264 0 ls st σ Q
theorem L_264_17 (d : Nat) (ls st : List Value) (σ : MS) (Q : Option Value → MS → Prop) : zX d 264 17 ls st σ Q = zB d 264 zt_264_17 ls st σ Q := zX_eq d 264 17 ls st σ Q
theorem L_264_31 (d : Nat) (ls st : List Value) (σ : MS) (Q : Option Value → MS → Prop) : zX d 264 31 ls st σ Q = zB d 264 zt_264_31 ls st σ Q := zX_eq d 264 31 ls st σ Q
theorem L_264_50 (d : Nat) (ls st : List Value) (σ : MS) (Q : Option Value → MS → Prop) : zX d 264 50 ls st σ Q = zB d 264 zt_264_50 ls st σ Q := zX_eq d 264 50 ls st σ Q
theorem L_264_59 (d : Nat) (ls st : List Value) (σ : MS) (Q : Option Value → MS → Prop) : zX d 264 59 ls st σ Q = zB d 264 zt_264_59 ls st σ Q := zX_eq d 264 59 ls st σ Q
theorem L_264_88 (d : Nat) (ls st : List Value) (σ : MS) (Q : Option Value → MS → Prop) : zX d 264 88 ls st σ Q = zB d 264 zt_264_88 ls st σ Q := zX_eq d 264 88 ls st σ Q
theorem L_264_90 (d : Nat) (ls st : List Value) (σ : MS) (Q : Option Value → MS → Prop) : zX d 264 90 ls st σ Q = zB d 264 zt_264_90 ls st σ Q := zX_eq d 264 90 ls st σ Q
theorem L_264_117 (d : Nat) (ls st : List Value) (σ : MS) (Q : Option Value → MS → Prop) : zX d 264 117 ls st σ Q = zB d 264 zt_264_117 ls st σ Q := zX_eq d 264 117 ls st σ Q
theorem L_265_0 (d : Nat) (ls st : List Value) (σ : MS) (Q : Option Value → MS → Prop) : zX d 265 0 ls st σ Q = zB d 265 zt_265_0 ls st σ Q := zX_eq d 265 0 ls st σ Q
theorem L_266_0 (d : Nat) (ls st : List Value) (σ : MS) (Q : Option Value → MS → Prop) : zX d 266 0 ls st σ Q = zB d 266 zt_266_0 ls st σ Q := zX_eq d 266 0 ls st σ Q
theorem L_267_0 (d : Nat) (ls st : List Value) (σ : MS) (Q : Option Value → MS → Prop) : zX d 267 0 ls st σ Q = zB d 267 zt_267_0 ls st σ Q := zX_eq d 267 0 ls st σ Q
theorem L_267_25 (d : Nat) (ls st : List Value) (σ : MS) (Q : Option Value → MS → Prop) : zX d 267 25 ls st σ Q = zB d 267 zt_267_25 ls st σ Q := zX_eq d 267 25 ls st σ Q
theorem L_267_54 (d : Nat) (ls st : List Value) (σ : MS) (Q : Option Value → MS → Prop) : zX d 267 54 ls st σ Q = zB d 267 zt_267_54 ls st σ Q := zX_eq d 267 54 ls st σ Q
theorem L_267_84 (d : Nat) (ls st : List Value) (σ : MS) (Q : Option Value → MS → Prop) : zX d 267 84 ls st σ Q = zB d 267 zt_267_84 ls st σ Q := zX_eq d 267 84 ls st σ Q
theorem L_267_85 (d : Nat) (ls st : List Value) (σ : MS) (Q : Option Value → MS → Prop) : zX d 267 85 ls st σ Q = zB d 267 zt_267_85 ls st σ Q := zX_eq d 267 85 ls st σ Q
theorem L_267_86 (d : Nat) (ls st : List Value) (σ : MS) (Q : Option Value → MS → Prop) : zX d 267 86 ls st σ Q = zB d 267 zt_267_86 ls st σ Q := zX_eq d 267 86 ls st σ Q
theorem L_267_119 (d : Nat) (ls st : List Value) (σ : MS) (Q : Option Value → MS → Prop) : zX d 267 119 ls st σ Q = zB d 267 zt_267_119 ls st σ Q := zX_eq d 267 119 ls st σ Q
theorem L_268_0 (d : Nat) (ls st : List Value) (σ : MS) (Q : Option Value → MS → Prop) : zX d 268 0 ls st σ Q = zB d 268 zt_268_0 ls st σ Q := zX_eq d 268 0 ls st σ Q
theorem L_268_48 (d : Nat) (ls st : List Value) (σ : MS) (Q : Option Value → MS → Prop) : zX d 268 48 ls st σ Q = zB d 268 zt_268_48 ls st σ Q := zX_eq d 268 48 ls st σ Q
theorem L_268_56 (d : Nat) (ls st : List Value) (σ : MS) (Q : Option Value → MS → Prop) : zX d 268 56 ls st σ Q = zB d 268 zt_268_56 ls st σ Q := zX_eq d 268 56 ls st σ Q
theorem L_268_80 (d : Nat) (ls st : List Value) (σ : MS) (Q : Option Value → MS → Prop) : zX d 268 80 ls st σ Q = zB d 268 zt_268_80 ls st σ Q := zX_eq d 268 80 ls st σ Q
theorem L_268_81 (d : Nat) (ls st : List Value) (σ : MS) (Q : Option Value → MS → Prop) : zX d 268 81 ls st σ Q = zB d 268 zt_268_81 ls st σ Q := zX_eq d 268 81 ls st σ Q
theorem L_268_82 (d : Nat) (ls st : List Value) (σ : MS) (Q : Option Value → MS → Prop) : zX d 268 82 ls st σ Q = zB d 268 zt_268_82 ls st σ Q := zX_eq d 268 82 ls st σ Q
theorem L_268_114 (d : Nat) (ls st : List Value) (σ : MS) (Q : Option Value → MS → Prop) : zX d 268 114 ls st σ Q = zB d 268 zt_268_114 ls st σ Q := zX_eq d 268 114 ls st σ Q
theorem L_268_115 (d : Nat) (ls st : List Value) (σ : MS) (Q : Option Value → MS → Prop) : zX d 268 115 ls st σ Q = zB d 268 zt_268_115 ls st σ Q := zX_eq d 268 115 ls st σ Q
theorem L_268_116 (d : Nat) (ls st : List Value) (σ : MS) (Q : Option Value → MS → Prop) : zX d 268 116 ls st σ Q = zB d 268 zt_268_116 ls st σ Q := zX_eq d 268 116 ls st σ Q
theorem L_268_127 (d : Nat) (ls st : List Value) (σ : MS) (Q : Option Value → MS → Prop) : zX d 268 127 ls st σ Q = zB d 268 zt_268_127 ls st σ Q := zX_eq d 268 127 ls st σ Q
theorem L_268_133 (d : Nat) (ls st : List Value) (σ : MS) (Q : Option Value → MS → Prop) : zX d 268 133 ls st σ Q = zB d 268 zt_268_133 ls st σ Q := zX_eq d 268 133 ls st σ Q
theorem L_269_0 (d : Nat) (ls st : List Value) (σ : MS) (Q : Option Value → MS → Prop) : zX d 269 0 ls st σ Q = zB d 269 zt_269_0 ls st σ Q := zX_eq d 269 0 ls st σ Q
theorem L_269_37 (d : Nat) (ls st : List Value) (σ : MS) (Q : Option Value → MS → Prop) : zX d 269 37 ls st σ Q = zB d 269 zt_269_37 ls st σ Q := zX_eq d 269 37 ls st σ Q
theorem L_269_41 (d : Nat) (ls st : List Value) (σ : MS) (Q : Option Value → MS → Prop) : zX d 269 41 ls st σ Q = zB d 269 zt_269_41 ls st σ Q := zX_eq d 269 41 ls st σ Q
theorem L_269_42 (d : Nat) (ls st : List Value) (σ : MS) (Q : Option Value → MS → Prop) : zX d 269 42 ls st σ Q = zB d 269 zt_269_42 ls st σ Q := zX_eq d 269 42 ls st σ Q
theorem L_269_69 (d : Nat) (ls st : List Value) (σ : MS) (Q : Option Value → MS → Prop) : zX d 269 69 ls st σ Q = zB d 269 zt_269_69 ls st σ Q := zX_eq d 269 69 ls st σ Q
theorem L_269_75 (d : Nat) (ls st : List Value) (σ : MS) (Q : Option Value → MS → Prop) : zX d 269 75 ls st σ Q = zB d 269 zt_269_75 ls st σ Q := zX_eq d 269 75 ls st σ Q
theorem L_269_97 (d : Nat) (ls st : List Value) (σ : MS) (Q : Option Value → MS → Prop) : zX d 269 97 ls st σ Q = zB d 269 zt_269_97 ls st σ Q := zX_eq d 269 97 ls st σ Q
theorem L_269_117 (d : Nat) (ls st : List Value) (σ : MS) (Q : Option Value → MS → Prop) : zX d 269 117 ls st σ Q = zB d 269 zt_269_117 ls st σ Q := zX_eq d 269 117 ls st σ Q
theorem L_269_132 (d : Nat) (ls st : List Value) (σ : MS) (Q : Option Value → MS → Prop) : zX d 269 132 ls st σ Q = zB d 269 zt_269_132 ls st σ Q := zX_eq d 269 132 ls st σ Q
theorem L_269_133 (d : Nat) (ls st : List Value) (σ : MS) (Q : Option Value → MS → Prop) : zX d 269 133 ls st σ Q = zB d 269 zt_269_133 ls st σ Q := zX_eq d 269 133 ls st σ Q
theorem L_269_147 (d : Nat) (ls st : List Value) (σ : MS) (Q : Option Value → MS → Prop) : zX d 269 147 ls st σ Q = zB d 269 zt_269_147 ls st σ Q := zX_eq d 269 147 ls st σ Q
theorem L_269_170 (d : Nat) (ls st : List Value) (σ : MS) (Q : Option Value → MS → Prop) : zX d 269 170 ls st σ Q = zB d 269 zt_269_170 ls st σ Q := zX_eq d 269 170 ls st σ Q
theorem L_269_197 (d : Nat) (ls st : List Value) (σ : MS) (Q : Option Value → MS → Prop) : zX d 269 197 ls st σ Q = zB d 269 zt_269_197 ls st σ Q := zX_eq d 269 197 ls st σ Q
theorem L_269_222 (d : Nat) (ls st : List Value) (σ : MS) (Q : Option Value → MS → Prop) : zX d 269 222 ls st σ Q = zB d 269 zt_269_222 ls st σ Q := zX_eq d 269 222 ls st σ Q
theorem L_269_279 (d : Nat) (ls st : List Value) (σ : MS) (Q : Option Value → MS → Prop) : zX d 269 279 ls st σ Q = zB d 269 zt_269_279 ls st σ Q := zX_eq d 269 279 ls st σ Q
theorem L_270_0 (d : Nat) (ls st : List Value) (σ : MS) (Q : Option Value → MS → Prop) : zX d 270 0 ls st σ Q = zB d 270 zt_270_0 ls st σ Q := zX_eq d 270 0 ls st σ Q
theorem L_270_17 (d : Nat) (ls st : List Value) (σ : MS) (Q : Option Value → MS → Prop) : zX d 270 17 ls st σ Q = zB d 270 zt_270_17 ls st σ Q := zX_eq d 270 17 ls st σ Q
theorem L_270_38 (d : Nat) (ls st : List Value) (σ : MS) (Q : Option Value → MS → Prop) : zX d 270 38 ls st σ Q = zB d 270 zt_270_38 ls st σ Q := zX_eq d 270 38 ls st σ Q
theorem L_270_57 (d : Nat) (ls st : List Value) (σ : MS) (Q : Option Value → MS → Prop) : zX d 270 57 ls st σ Q = zB d 270 zt_270_57 ls st σ Q := zX_eq d 270 57 ls st σ Q
theorem L_270_77 (d : Nat) (ls st : List Value) (σ : MS) (Q : Option Value → MS → Prop) : zX d 270 77 ls st σ Q = zB d 270 zt_270_77 ls st σ Q := zX_eq d 270 77 ls st σ Q
theorem L_270_102 (d : Nat) (ls st : List Value) (σ : MS) (Q : Option Value → MS → Prop) : zX d 270 102 ls st σ Q = zB d 270 zt_270_102 ls st σ Q := zX_eq d 270 102 ls st σ Q
theorem L_270_131 (d : Nat) (ls st : List Value) (σ : MS) (Q : Option Value → MS → Prop) : zX d 270 131 ls st σ Q = zB d 270 zt_270_131 ls st σ Q := zX_eq d 270 131 ls st σ Q
theorem L_271_0 (d : Nat) (ls st : List Value) (σ : MS) (Q : Option Value → MS → Prop) : zX d 271 0 ls st σ Q = zB d 271 zt_271_0 ls st σ Q := zX_eq d 271 0 ls st σ Q
theorem L_272_0 (d : Nat) (ls st : List Value) (σ : MS) (Q : Option Value → MS → Prop) : zX d 272 0 ls st σ Q = zB d 272 zt_272_0 ls st σ Q := zX_eq d 272 0 ls st σ Q
theorem L_272_18 (d : Nat) (ls st : List Value) (σ : MS) (Q : Option Value → MS → Prop) : zX d 272 18 ls st σ Q = zB d 272 zt_272_18 ls st σ Q := zX_eq d 272 18 ls st σ Q
theorem L_272_19 (d : Nat) (ls st : List Value) (σ : MS) (Q : Option Value → MS → Prop) : zX d 272 19 ls st σ Q = zB d 272 zt_272_19 ls st σ Q := zX_eq d 272 19 ls st σ Q
theorem L_273_0 (d : Nat) (ls st : List Value) (σ : MS) (Q : Option Value → MS → Prop) : zX d 273 0 ls st σ Q = zB d 273 zt_273_0 ls st σ Q := zX_eq d 273 0 ls st σ Q
theorem L_273_22 (d : Nat) (ls st : List Value) (σ : MS) (Q : Option Value → MS → Prop) : zX d 273 22 ls st σ Q = zB d 273 zt_273_22 ls st σ Q := zX_eq d 273 22 ls st σ Q
theorem L_273_23 (d : Nat) (ls st : List Value) (σ : MS) (Q : Option Value → MS → Prop) : zX d 273 23 ls st σ Q = zB d 273 zt_273_23 ls st σ Q := zX_eq d 273 23 ls st σ Q
theorem L_274_0 (d : Nat) (ls st : List Value) (σ : MS) (Q : Option Value → MS → Prop) : zX d 274 0 ls st σ Q = zB d 274 zt_274_0 ls st σ Q := zX_eq d 274 0 ls st σ Q
theorem L_274_18 (d : Nat) (ls st : List Value) (σ : MS) (Q : Option Value → MS → Prop) : zX d 274 18 ls st σ Q = zB d 274 zt_274_18 ls st σ Q := zX_eq d 274 18 ls st σ Q
theorem L_274_19 (d : Nat) (ls st : List Value) (σ : MS) (Q : Option Value → MS → Prop) : zX d 274 19 ls st σ Q = zB d 274 zt_274_19 ls st σ Q := zX_eq d 274 19 ls st σ Q
theorem L_275_0 (d : Nat) (ls st : List Value) (σ : MS) (Q : Option Value → MS → Prop) : zX d 275 0 ls st σ Q = zB d 275 zt_275_0 ls st σ Q := zX_eq d 275 0 ls st σ Q
theorem L_275_16 (d : Nat) (ls st : List Value) (σ : MS) (Q : Option Value → MS → Prop) : zX d 275 16 ls st σ Q = zB d 275 zt_275_16 ls st σ Q := zX_eq d 275 16 ls st σ Q
theorem L_275_17 (d : Nat) (ls st : List Value) (σ : MS) (Q : Option Value → MS → Prop) : zX d 275 17 ls st σ Q = zB d 275 zt_275_17 ls st σ Q := zX_eq d 275 17 ls st σ Q
theorem L_276_0 (d : Nat) (ls st : List Value) (σ : MS) (Q : Option Value → MS → Prop) : zX d 276 0 ls st σ Q = zB d 276 zt_276_0 ls st σ Q := zX_eq d 276 0 ls st σ Q
theorem L_277_0 (d : Nat) (ls st : List Value) (σ : MS) (Q : Option Value → MS → Prop) : zX d 277 0 ls st σ Q = zB d 277 zt_277_0 ls st σ Q := zX_eq d 277 0 ls st σ Q
theorem L_278_0 (d : Nat) (ls st : List Value) (σ : MS) (Q : Option Value → MS → Prop) : zX d 278 0 ls st σ Q = zB d 278 zt_278_0 ls st σ Q := zX_eq d 278 0 ls st σ Q
theorem L_278_13 (d : Nat) (ls st : List Value) (σ : MS) (Q : Option Value → MS → Prop) : zX d 278 13 ls st σ Q = zB d 278 zt_278_13 ls st σ Q := zX_eq d 278 13 ls st σ Q
theorem L_278_14 (d : Nat) (ls st : List Value) (σ : MS) (Q : Option Value → MS → Prop) : zX d 278 14 ls st σ Q = zB d 278 zt_278_14 ls st σ Q := zX_eq d 278 14 ls st σ Q
theorem L_279_0 (d : Nat) (ls st : List Value) (σ : MS) (Q : Option Value → MS → Prop) : zX d 279 0 ls st σ Q = zB d 279 zt_279_0 ls st σ Q := zX_eq d 279 0 ls st σ Q
theorem L_279_4 (d : Nat) (ls st : List Value) (σ : MS) (Q : Option Value → MS → Prop) : zX d 279 4 ls st σ Q = zB d 279 zt_279_4 ls st σ Q := zX_eq d 279 4 ls st σ Q
theorem L_279_20 (d : Nat) (ls st : List Value) (σ : MS) (Q : Option Value → MS → Prop) : zX d 279 20 ls st σ Q = zB d 279 zt_279_20 ls st σ Q := zX_eq d 279 20 ls st σ Q
theorem L_280_0 (d : Nat) (ls st : List Value) (σ : MS) (Q : Option Value → MS → Prop) : zX d 280 0 ls st σ Q = zB d 280 zt_280_0 ls st σ Q := zX_eq d 280 0 ls st σ Q
theorem L_281_0 (d : Nat) (ls st : List Value) (σ : MS) (Q : Option Value → MS → Prop) : zX d 281 0 ls st σ Q = zB d 281 zt_281_0 ls st σ Q := zX_eq d 281 0 ls st σ Q
theorem L_282_0 (d : Nat) (ls st : List Value) (σ : MS) (Q : Option Value → MS → Prop) : zX d 282 0 ls st σ Q = zB d 282 zt_282_0 ls st σ Q := zX_eq d 282 0 ls st σ Q
theorem L_282_13 (d : Nat) (ls st : List Value) (σ : MS) (Q : Option Value → MS → Prop) : zX d 282 13 ls st σ Q = zB d 282 zt_282_13 ls st σ Q := zX_eq d 282 13 ls st σ Q
theorem L_282_14 (d : Nat) (ls st : List Value) (σ : MS) (Q : Option Value → MS → Prop) : zX d 282 14 ls st σ Q = zB d 282 zt_282_14 ls st σ Q := zX_eq d 282 14 ls st σ Q
theorem L_283_0 (d : Nat) (ls st : List Value) (σ : MS) (Q : Option Value → MS → Prop) : zX d 283 0 ls st σ Q = zB d 283 zt_283_0 ls st σ Q := zX_eq d 283 0 ls st σ Q
theorem L_283_2 (d : Nat) (ls st : List Value) (σ : MS) (Q : Option Value → MS → Prop) : zX d 283 2 ls st σ Q = zB d 283 zt_283_2 ls st σ Q := zX_eq d 283 2 ls st σ Q
theorem L_283_23 (d : Nat) (ls st : List Value) (σ : MS) (Q : Option Value → MS → Prop) : zX d 283 23 ls st σ Q = zB d 283 zt_283_23 ls st σ Q := zX_eq d 283 23 ls st σ Q
theorem L_283_29 (d : Nat) (ls st : List Value) (σ : MS) (Q : Option Value → MS → Prop) : zX d 283 29 ls st σ Q = zB d 283 zt_283_29 ls st σ Q := zX_eq d 283 29 ls st σ Q
theorem L_284_0 (d : Nat) (ls st : List Value) (σ : MS) (Q : Option Value → MS → Prop) : zX d 284 0 ls st σ Q = zB d 284 zt_284_0 ls st σ Q := zX_eq d 284 0 ls st σ Q
theorem L_284_44 (d : Nat) (ls st : List Value) (σ : MS) (Q : Option Value → MS → Prop) : zX d 284 44 ls st σ Q = zB d 284 zt_284_44 ls st σ Q := zX_eq d 284 44 ls st σ Q
theorem L_284_45 (d : Nat) (ls st : List Value) (σ : MS) (Q : Option Value → MS → Prop) : zX d 284 45 ls st σ Q = zB d 284 zt_284_45 ls st σ Q := zX_eq d 284 45 ls st σ Q
theorem L_285_0 (d : Nat) (ls st : List Value) (σ : MS) (Q : Option Value → MS → Prop) : zX d 285 0 ls st σ Q = zB d 285 zt_285_0 ls st σ Q := zX_eq d 285 0 ls st σ Q
theorem L_285_4 (d : Nat) (ls st : List Value) (σ : MS) (Q : Option Value → MS → Prop) : zX d 285 4 ls st σ Q = zB d 285 zt_285_4 ls st σ Q := zX_eq d 285 4 ls st σ Q
theorem L_285_29 (d : Nat) (ls st : List Value) (σ : MS) (Q : Option Value → MS → Prop) : zX d 285 29 ls st σ Q = zB d 285 zt_285_29 ls st σ Q := zX_eq d 285 29 ls st σ Q
theorem L_285_30 (d : Nat) (ls st : List Value) (σ : MS) (Q : Option Value → MS → Prop) : zX d 285 30 ls st σ Q = zB d 285 zt_285_30 ls st σ Q := zX_eq d 285 30 ls st σ Q
theorem L_285_38 (d : Nat) (ls st : List Value) (σ : MS) (Q : Option Value → MS → Prop) : zX d 285 38 ls st σ Q = zB d 285 zt_285_38 ls st σ Q := zX_eq d 285 38 ls st σ Q
theorem L_286_0 (d : Nat) (ls st : List Value) (σ : MS) (Q : Option Value → MS → Prop) : zX d 286 0 ls st σ Q = zB d 286 zt_286_0 ls st σ Q := zX_eq d 286 0 ls st σ Q
theorem L_286_4 (d : Nat) (ls st : List Value) (σ : MS) (Q : Option Value → MS → Prop) : zX d 286 4 ls st σ Q = zB d 286 zt_286_4 ls st σ Q := zX_eq d 286 4 ls st σ Q
theorem L_286_28 (d : Nat) (ls st : List Value) (σ : MS) (Q : Option Value → MS → Prop) : zX d 286 28 ls st σ Q = zB d 286 zt_286_28 ls st σ Q := zX_eq d 286 28 ls st σ Q
theorem L_286_29 (d : Nat) (ls st : List Value) (σ : MS) (Q : Option Value → MS → Prop) : zX d 286 29 ls st σ Q = zB d 286 zt_286_29 ls st σ Q := zX_eq d 286 29 ls st σ Q
theorem L_286_37 (d : Nat) (ls st : List Value) (σ : MS) (Q : Option Value → MS → Prop) : zX d 286 37 ls st σ Q = zB d 286 zt_286_37 ls st σ Q := zX_eq d 286 37 ls st σ Q
theorem L_287_0 (d : Nat) (ls st : List Value) (σ : MS) (Q : Option Value → MS → Prop) : zX d 287 0 ls st σ Q = zB d 287 zt_287_0 ls st σ Q := zX_eq d 287 0 ls st σ Q
theorem L_287_4 (d : Nat) (ls st : List Value) (σ : MS) (Q : Option Value → MS → Prop) : zX d 287 4 ls st σ Q = zB d 287 zt_287_4 ls st σ Q := zX_eq d 287 4 ls st σ Q
theorem L_287_36 (d : Nat) (ls st : List Value) (σ : MS) (Q : Option Value → MS → Prop) : zX d 287 36 ls st σ Q = zB d 287 zt_287_36 ls st σ Q := zX_eq d 287 36 ls st σ Q
theorem L_287_37 (d : Nat) (ls st : List Value) (σ : MS) (Q : Option Value → MS → Prop) : zX d 287 37 ls st σ Q = zB d 287 zt_287_37 ls st σ Q := zX_eq d 287 37 ls st σ Q
theorem L_287_45 (d : Nat) (ls st : List Value) (σ : MS) (Q : Option Value → MS → Prop) : zX d 287 45 ls st σ Q = zB d 287 zt_287_45 ls st σ Q := zX_eq d 287 45 ls st σ Q
theorem L_288_0 (d : Nat) (ls st : List Value) (σ : MS) (Q : Option Value → MS → Prop) : zX d 288 0 ls st σ Q = zB d 288 zt_288_0 ls st σ Q := zX_eq d 288 0 ls st σ Q
theorem L_289_0 (d : Nat) (ls st : List Value) (σ : MS) (Q : Option Value → MS → Prop) : zX d 289 0 ls st σ Q = zB d 289 zt_289_0 ls st σ Q := zX_eq d 289 0 ls st σ Q
theorem L_289_5 (d : Nat) (ls st : List Value) (σ : MS) (Q : Option Value → MS → Prop) : zX d 289 5 ls st σ Q = zB d 289 zt_289_5 ls st σ Q := zX_eq d 289 5 ls st σ Q
theorem L_289_56 (d : Nat) (ls st : List Value) (σ : MS) (Q : Option Value → MS → Prop) : zX d 289 56 ls st σ Q = zB d 289 zt_289_56 ls st σ Q := zX_eq d 289 56 ls st σ Q
theorem L_289_57 (d : Nat) (ls st : List Value) (σ : MS) (Q : Option Value → MS → Prop) : zX d 289 57 ls st σ Q = zB d 289 zt_289_57 ls st σ Q := zX_eq d 289 57 ls st σ Q
theorem L_289_65 (d : Nat) (ls st : List Value) (σ : MS) (Q : Option Value → MS → Prop) : zX d 289 65 ls st σ Q = zB d 289 zt_289_65 ls st σ Q := zX_eq d 289 65 ls st σ Q
theorem L_290_0 (d : Nat) (ls st : List Value) (σ : MS) (Q : Option Value → MS → Prop) : zX d 290 0 ls st σ Q = zB d 290 zt_290_0 ls st σ Q := zX_eq d 290 0 ls st σ Q
theorem L_290_4 (d : Nat) (ls st : List Value) (σ : MS) (Q : Option Value → MS → Prop) : zX d 290 4 ls st σ Q = zB d 290 zt_290_4 ls st σ Q := zX_eq d 290 4 ls st σ Q
theorem L_290_36 (d : Nat) (ls st : List Value) (σ : MS) (Q : Option Value → MS → Prop) : zX d 290 36 ls st σ Q = zB d 290 zt_290_36 ls st σ Q := zX_eq d 290 36 ls st σ Q
theorem L_290_37 (d : Nat) (ls st : List Value) (σ : MS) (Q : Option Value → MS → Prop) : zX d 290 37 ls st σ Q = zB d 290 zt_290_37 ls st σ Q := zX_eq d 290 37 ls st σ Q
theorem L_290_45 (d : Nat) (ls st : List Value) (σ : MS) (Q : Option Value → MS → Prop) : zX d 290 45 ls st σ Q = zB d 290 zt_290_45 ls st σ Q := zX_eq d 290 45 ls st σ Q
theorem L_291_0 (d : Nat) (ls st : List Value) (σ : MS) (Q : Option Value → MS → Prop) : zX d 291 0 ls st σ Q = zB d 291 zt_291_0 ls st σ Q := zX_eq d 291 0 ls st σ Q
theorem L_291_10 (d : Nat) (ls st : List Value) (σ : MS) (Q : Option Value → MS → Prop) : zX d 291 10 ls st σ Q = zB d 291 zt_291_10 ls st σ Q := zX_eq d 291 10 ls st σ Q
theorem L_291_16 (d : Nat) (ls st : List Value) (σ : MS) (Q : Option Value → MS → Prop) : zX d 291 16 ls st σ Q = zB d 291 zt_291_16 ls st σ Q := zX_eq d 291 16 ls st σ Q
theorem L_291_44 (d : Nat) (ls st : List Value) (σ : MS) (Q : Option Value → MS → Prop) : zX d 291 44 ls st σ Q = zB d 291 zt_291_44 ls st σ Q := zX_eq d 291 44 ls st σ Q
theorem L_291_53 (d : Nat) (ls st : List Value) (σ : MS) (Q : Option Value → MS → Prop) : zX d 291 53 ls st σ Q = zB d 291 zt_291_53 ls st σ Q := zX_eq d 291 53 ls st σ Q
theorem L_291_62 (d : Nat) (ls st : List Value) (σ : MS) (Q : Option Value → MS → Prop) : zX d 291 62 ls st σ Q = zB d 291 zt_291_62 ls st σ Q := zX_eq d 291 62 ls st σ Q
theorem L_291_71 (d : Nat) (ls st : List Value) (σ : MS) (Q : Option Value → MS → Prop) : zX d 291 71 ls st σ Q = zB d 291 zt_291_71 ls st σ Q := zX_eq d 291 71 ls st σ Q
theorem L_292_0 (d : Nat) (ls st : List Value) (σ : MS) (Q : Option Value → MS → Prop) : zX d 292 0 ls st σ Q = zB d 292 zt_292_0 ls st σ Q := zX_eq d 292 0 ls st σ Q
theorem L_292_17 (d : Nat) (ls st : List Value) (σ : MS) (Q : Option Value → MS → Prop) : zX d 292 17 ls st σ Q = zB d 292 zt_292_17 ls st σ Q := zX_eq d 292 17 ls st σ Q
theorem L_292_23 (d : Nat) (ls st : List Value) (σ : MS) (Q : Option Value → MS → Prop) : zX d 292 23 ls st σ Q = zB d 292 zt_292_23 ls st σ Q := zX_eq d 292 23 ls st σ Q
theorem L_292_41 (d : Nat) (ls st : List Value) (σ : MS) (Q : Option Value → MS → Prop) : zX d 292 41 ls st σ Q = zB d 292 zt_292_41 ls st σ Q := zX_eq d 292 41 ls st σ Q
theorem L_292_46 (d : Nat) (ls st : List Value) (σ : MS) (Q : Option Value → MS → Prop) : zX d 292 46 ls st σ Q = zB d 292 zt_292_46 ls st σ Q := zX_eq d 292 46 ls st σ Q
theorem L_292_79 (d : Nat) (ls st : List Value) (σ : MS) (Q : Option Value → MS → Prop) : zX d 292 79 ls st σ Q = zB d 292 zt_292_79 ls st σ Q := zX_eq d 292 79 ls st σ Q
theorem L_292_80 (d : Nat) (ls st : List Value) (σ : MS) (Q : Option Value → MS → Prop) : zX d 292 80 ls st σ Q = zB d 292 zt_292_80 ls st σ Q := zX_eq d 292 80 ls st σ Q
theorem L_292_88 (d : Nat) (ls st : List Value) (σ : MS) (Q : Option Value → MS → Prop) : zX d 292 88 ls st σ Q = zB d 292 zt_292_88 ls st σ Q := zX_eq d 292 88 ls st σ Q
theorem L_293_0 (d : Nat) (ls st : List Value) (σ : MS) (Q : Option Value → MS → Prop) : zX d 293 0 ls st σ Q = zB d 293 zt_293_0 ls st σ Q := zX_eq d 293 0 ls st σ Q
theorem L_293_21 (d : Nat) (ls st : List Value) (σ : MS) (Q : Option Value → MS → Prop) : zX d 293 21 ls st σ Q = zB d 293 zt_293_21 ls st σ Q := zX_eq d 293 21 ls st σ Q
theorem L_293_26 (d : Nat) (ls st : List Value) (σ : MS) (Q : Option Value → MS → Prop) : zX d 293 26 ls st σ Q = zB d 293 zt_293_26 ls st σ Q := zX_eq d 293 26 ls st σ Q
theorem L_294_0 (d : Nat) (ls st : List Value) (σ : MS) (Q : Option Value → MS → Prop) : zX d 294 0 ls st σ Q = zB d 294 zt_294_0 ls st σ Q := zX_eq d 294 0 ls st σ Q
theorem L_294_21 (d : Nat) (ls st : List Value) (σ : MS) (Q : Option Value → MS → Prop) : zX d 294 21 ls st σ Q = zB d 294 zt_294_21 ls st σ Q := zX_eq d 294 21 ls st σ Q
theorem L_294_26 (d : Nat) (ls st : List Value) (σ : MS) (Q : Option Value → MS → Prop) : zX d 294 26 ls st σ Q = zB d 294 zt_294_26 ls st σ Q := zX_eq d 294 26 ls st σ Q
theorem L_295_0 (d : Nat) (ls st : List Value) (σ : MS) (Q : Option Value → MS → Prop) : zX d 295 0 ls st σ Q = zB d 295 zt_295_0 ls st σ Q := zX_eq d 295 0 ls st σ Q
theorem L_295_20 (d : Nat) (ls st : List Value) (σ : MS) (Q : Option Value → MS → Prop) : zX d 295 20 ls st σ Q = zB d 295 zt_295_20 ls st σ Q := zX_eq d 295 20 ls st σ Q
theorem L_295_25 (d : Nat) (ls st : List Value) (σ : MS) (Q : Option Value → MS → Prop) : zX d 295 25 ls st σ Q = zB d 295 zt_295_25 ls st σ Q := zX_eq d 295 25 ls st σ Q
theorem L_296_0 (d : Nat) (ls st : List Value) (σ : MS) (Q : Option Value → MS → Prop) : zX d 296 0 ls st σ Q = zB d 296 zt_296_0 ls st σ Q := zX_eq d 296 0 ls st σ Q
theorem L_296_24 (d : Nat) (ls st : List Value) (σ : MS) (Q : Option Value → MS → Prop) : zX d 296 24 ls st σ Q = zB d 296 zt_296_24 ls st σ Q := zX_eq d 296 24 ls st σ Q
theorem L_296_29 (d : Nat) (ls st : List Value) (σ : MS) (Q : Option Value → MS → Prop) : zX d 296 29 ls st σ Q = zB d 296 zt_296_29 ls st σ Q := zX_eq d 296 29 ls st σ Q
theorem L_297_0 (d : Nat) (ls st : List Value) (σ : MS) (Q : Option Value → MS → Prop) : zX d 297 0 ls st σ Q = zB d 297 zt_297_0 ls st σ Q := zX_eq d 297 0 ls st σ Q
theorem L_297_4 (d : Nat) (ls st : List Value) (σ : MS) (Q : Option Value → MS → Prop) : zX d 297 4 ls st σ Q = zB d 297 zt_297_4 ls st σ Q := zX_eq d 297 4 ls st σ Q
theorem L_297_24 (d : Nat) (ls st : List Value) (σ : MS) (Q : Option Value → MS → Prop) : zX d 297 24 ls st σ Q = zB d 297 zt_297_24 ls st σ Q := zX_eq d 297 24 ls st σ Q
theorem L_297_44 (d : Nat) (ls st : List Value) (σ : MS) (Q : Option Value → MS → Prop) : zX d 297 44 ls st σ Q = zB d 297 zt_297_44 ls st σ Q := zX_eq d 297 44 ls st σ Q
theorem L_297_46 (d : Nat) (ls st : List Value) (σ : MS) (Q : Option Value → MS → Prop) : zX d 297 46 ls st σ Q = zB d 297 zt_297_46 ls st σ Q := zX_eq d 297 46 ls st σ Q
theorem L_297_52 (d : Nat) (ls st : List Value) (σ : MS) (Q : Option Value → MS → Prop) : zX d 297 52 ls st σ Q = zB d 297 zt_297_52 ls st σ Q := zX_eq d 297 52 ls st σ Q
theorem L_298_0 (d : Nat) (ls st : List Value) (σ : MS) (Q : Option Value → MS → Prop) : zX d 298 0 ls st σ Q = zB d 298 zt_298_0 ls st σ Q := zX_eq d 298 0 ls st σ Q
theorem L_298_19 (d : Nat) (ls st : List Value) (σ : MS) (Q : Option Value → MS → Prop) : zX d 298 19 ls st σ Q = zB d 298 zt_298_19 ls st σ Q := zX_eq d 298 19 ls st σ Q
theorem L_298_21 (d : Nat) (ls st : List Value) (σ : MS) (Q : Option Value → MS → Prop) : zX d 298 21 ls st σ Q = zB d 298 zt_298_21 ls st σ Q := zX_eq d 298 21 ls st σ Q
theorem L_299_0 (d : Nat) (ls st : List Value) (σ : MS) (Q : Option Value → MS → Prop) : zX d 299 0 ls st σ Q = zB d 299 zt_299_0 ls st σ Q := zX_eq d 299 0 ls st σ Q
theorem L_299_15 (d : Nat) (ls st : List Value) (σ : MS) (Q : Option Value → MS → Prop) : zX d 299 15 ls st σ Q = zB d 299 zt_299_15 ls st σ Q := zX_eq d 299 15 ls st σ Q
theorem L_299_31 (d : Nat) (ls st : List Value) (σ : MS) (Q : Option Value → MS → Prop) : zX d 299 31 ls st σ Q = zB d 299 zt_299_31 ls st σ Q := zX_eq d 299 31 ls st σ Q
theorem L_299_51 (d : Nat) (ls st : List Value) (σ : MS) (Q : Option Value → MS → Prop) : zX d 299 51 ls st σ Q = zB d 299 zt_299_51 ls st σ Q := zX_eq d 299 51 ls st σ Q
theorem L_299_57 (d : Nat) (ls st : List Value) (σ : MS) (Q : Option Value → MS → Prop) : zX d 299 57 ls st σ Q = zB d 299 zt_299_57 ls st σ Q := zX_eq d 299 57 ls st σ Q
theorem L_300_0 (d : Nat) (ls st : List Value) (σ : MS) (Q : Option Value → MS → Prop) : zX d 300 0 ls st σ Q = zB d 300 zt_300_0 ls st σ Q := zX_eq d 300 0 ls st σ Q
theorem L_300_17 (d : Nat) (ls st : List Value) (σ : MS) (Q : Option Value → MS → Prop) : zX d 300 17 ls st σ Q = zB d 300 zt_300_17 ls st σ Q := zX_eq d 300 17 ls st σ Q
theorem L_300_23 (d : Nat) (ls st : List Value) (σ : MS) (Q : Option Value → MS → Prop) : zX d 300 23 ls st σ Q = zB d 300 zt_300_23 ls st σ Q := zX_eq d 300 23 ls st σ Q
theorem L_300_40 (d : Nat) (ls st : List Value) (σ : MS) (Q : Option Value → MS → Prop) : zX d 300 40 ls st σ Q = zB d 300 zt_300_40 ls st σ Q := zX_eq d 300 40 ls st σ Q
theorem L_300_47 (d : Nat) (ls st : List Value) (σ : MS) (Q : Option Value → MS → Prop) : zX d 300 47 ls st σ Q = zB d 300 zt_300_47 ls st σ Q := zX_eq d 300 47 ls st σ Q
theorem L_301_0 (d : Nat) (ls st : List Value) (σ : MS) (Q : Option Value → MS → Prop) : zX d 301 0 ls st σ Q = zB d 301 zt_301_0 ls st σ Q := zX_eq d 301 0 ls st σ Q
theorem L_302_0 (d : Nat) (ls st : List Value) (σ : MS) (Q : Option Value → MS → Prop) : zX d 302 0 ls st σ Q = zB d 302 zt_302_0 ls st σ Q := zX_eq d 302 0 ls st σ Q
theorem L_302_15 (d : Nat) (ls st : List Value) (σ : MS) (Q : Option Value → MS → Prop) : zX d 302 15 ls st σ Q = zB d 302 zt_302_15 ls st σ Q := zX_eq d 302 15 ls st σ Q
theorem L_302_37 (d : Nat) (ls st : List Value) (σ : MS) (Q : Option Value → MS → Prop) : zX d 302 37 ls st σ Q = zB d 302 zt_302_37 ls st σ Q := zX_eq d 302 37 ls st σ Q
theorem L_302_43 (d : Nat) (ls st : List Value) (σ : MS) (Q : Option Value → MS → Prop) : zX d 302 43 ls st σ Q = zB d 302 zt_302_43 ls st σ Q := zX_eq d 302 43 ls st σ Q
theorem L_303_0 (d : Nat) (ls st : List Value) (σ : MS) (Q : Option Value → MS → Prop) : zX d 303 0 ls st σ Q = zB d 303 zt_303_0 ls st σ Q := zX_eq d 303 0 ls st σ Q
theorem L_303_29 (d : Nat) (ls st : List Value) (σ : MS) (Q : Option Value → MS → Prop) : zX d 303 29 ls st σ Q = zB d 303 zt_303_29 ls st σ Q := zX_eq d 303 29 ls st σ Q
theorem L_303_31 (d : Nat) (ls st : List Value) (σ : MS) (Q : Option Value → MS → Prop) : zX d 303 31 ls st σ Q = zB d 303 zt_303_31 ls st σ Q := zX_eq d 303 31 ls st σ Q
theorem L_303_48 (d : Nat) (ls st : List Value) (σ : MS) (Q : Option Value → MS → Prop) : zX d 303 48 ls st σ Q = zB d 303 zt_303_48 ls st σ Q := zX_eq d 303 48 ls st σ Q
theorem L_303_67 (d : Nat) (ls st : List Value) (σ : MS) (Q : Option Value → MS → Prop) : zX d 303 67 ls st σ Q = zB d 303 zt_303_67 ls st σ Q := zX_eq d 303 67 ls st σ Q
theorem L_304_0 (d : Nat) (ls st : List Value) (σ : MS) (Q : Option Value → MS → Prop) : zX d 304 0 ls st σ Q = zB d 304 zt_304_0 ls st σ Q := zX_eq d 304 0 ls st σ Q
theorem L_304_16 (d : Nat) (ls st : List Value) (σ : MS) (Q : Option Value → MS → Prop) : zX d 304 16 ls st σ Q = zB d 304 zt_304_16 ls st σ Q := zX_eq d 304 16 ls st σ Q
theorem L_304_22 (d : Nat) (ls st : List Value) (σ : MS) (Q : Option Value → MS → Prop) : zX d 304 22 ls st σ Q = zB d 304 zt_304_22 ls st σ Q := zX_eq d 304 22 ls st σ Q
theorem L_304_42 (d : Nat) (ls st : List Value) (σ : MS) (Q : Option Value → MS → Prop) : zX d 304 42 ls st σ Q = zB d 304 zt_304_42 ls st σ Q := zX_eq d 304 42 ls st σ Q
theorem L_304_48 (d : Nat) (ls st : List Value) (σ : MS) (Q : Option Value → MS → Prop) : zX d 304 48 ls st σ Q = zB d 304 zt_304_48 ls st σ Q := zX_eq d 304 48 ls st σ Q
theorem L_305_0 (d : Nat) (ls st : List Value) (σ : MS) (Q : Option Value → MS → Prop) : zX d 305 0 ls st σ Q = zB d 305 zt_305_0 ls st σ Q := zX_eq d 305 0 ls st σ Q
theorem L_305_4 (d : Nat) (ls st : List Value) (σ : MS) (Q : Option Value → MS → Prop) : zX d 305 4 ls st σ Q = zB d 305 zt_305_4 ls st σ Q := zX_eq d 305 4 ls st σ Q
theorem L_305_24 (d : Nat) (ls st : List Value) (σ : MS) (Q : Option Value → MS → Prop) : zX d 305 24 ls st σ Q = zB d 305 zt_305_24 ls st σ Q := zX_eq d 305 24 ls st σ Q
theorem L_305_34 (d : Nat) (ls st : List Value) (σ : MS) (Q : Option Value → MS → Prop) : zX d 305 34 ls st σ Q = zB d 305 zt_305_34 ls st σ Q := zX_eq d 305 34 ls st σ Q
theorem L_305_40 (d : Nat) (ls st : List Value) (σ : MS) (Q : Option Value → MS → Prop) : zX d 305 40 ls st σ Q = zB d 305 zt_305_40 ls st σ Q := zX_eq d 305 40 ls st σ Q
theorem L_305_44 (d : Nat) (ls st : List Value) (σ : MS) (Q : Option Value → MS → Prop) : zX d 305 44 ls st σ Q = zB d 305 zt_305_44 ls st σ Q := zX_eq d 305 44 ls st σ Q
theorem L_305_65 (d : Nat) (ls st : List Value) (σ : MS) (Q : Option Value → MS → Prop) : zX d 305 65 ls st σ Q = zB d 305 zt_305_65 ls st σ Q := zX_eq d 305 65 ls st σ Q
theorem L_305_75 (d : Nat) (ls st : List Value) (σ : MS) (Q : Option Value → MS → Prop) : zX d 305 75 ls st σ Q = zB d 305 zt_305_75 ls st σ Q := zX_eq d 305 75 ls st σ Q
theorem L_305_81 (d : Nat) (ls st : List Value) (σ : MS) (Q : Option Value → MS → Prop) : zX d 305 81 ls st σ Q = zB d 305 zt_305_81 ls st σ Q := zX_eq d 305 81 ls st σ Q
theorem L_306_0 (d : Nat) (ls st : List Value) (σ : MS) (Q : Option Value → MS → Prop) : zX d 306 0 ls st σ Q = zB d 306 zt_306_0 ls st σ Q := zX_eq d 306 0 ls st σ Q
theorem L_306_9 (d : Nat) (ls st : List Value) (σ : MS) (Q : Option Value → MS → Prop) : zX d 306 9 ls st σ Q = zB d 306 zt_306_9 ls st σ Q := zX_eq d 306 9 ls st σ Q
theorem L_306_38 (d : Nat) (ls st : List Value) (σ : MS) (Q : Option Value → MS → Prop) : zX d 306 38 ls st σ Q = zB d 306 zt_306_38 ls st σ Q := zX_eq d 306 38 ls st σ Q
theorem L_306_39 (d : Nat) (ls st : List Value) (σ : MS) (Q : Option Value → MS → Prop) : zX d 306 39 ls st σ Q = zB d 306 zt_306_39 ls st σ Q := zX_eq d 306 39 ls st σ Q
theorem L_306_69 (d : Nat) (ls st : List Value) (σ : MS) (Q : Option Value → MS → Prop) : zX d 306 69 ls st σ Q = zB d 306 zt_306_69 ls st σ Q := zX_eq d 306 69 ls st σ Q
theorem L_307_0 (d : Nat) (ls st : List Value) (σ : MS) (Q : Option Value → MS → Prop) : zX d 307 0 ls st σ Q = zB d 307 zt_307_0 ls st σ Q := zX_eq d 307 0 ls st σ Q
theorem L_308_0 (d : Nat) (ls st : List Value) (σ : MS) (Q : Option Value → MS → Prop) : zX d 308 0 ls st σ Q = zB d 308 zt_308_0 ls st σ Q := zX_eq d 308 0 ls st σ Q
theorem L_308_17 (d : Nat) (ls st : List Value) (σ : MS) (Q : Option Value → MS → Prop) : zX d 308 17 ls st σ Q = zB d 308 zt_308_17 ls st σ Q := zX_eq d 308 17 ls st σ Q
theorem L_308_23 (d : Nat) (ls st : List Value) (σ : MS) (Q : Option Value → MS → Prop) : zX d 308 23 ls st σ Q = zB d 308 zt_308_23 ls st σ Q := zX_eq d 308 23 ls st σ Q
theorem L_308_44 (d : Nat) (ls st : List Value) (σ : MS) (Q : Option Value → MS → Prop) : zX d 308 44 ls st σ Q = zB d 308 zt_308_44 ls st σ Q := zX_eq d 308 44 ls st σ Q
theorem L_309_0 (d : Nat) (ls st : List Value) (σ : MS) (Q : Option Value → MS → Prop) : zX d 309 0 ls st σ Q = zB d 309 zt_309_0 ls st σ Q := zX_eq d 309 0 ls st σ Q
theorem L_309_20 (d : Nat) (ls st : List Value) (σ : MS) (Q : Option Value → MS → Prop) : zX d 309 20 ls st σ Q = zB d 309 zt_309_20 ls st σ Q := zX_eq d 309 20 ls st σ Q
theorem L_309_26 (d : Nat) (ls st : List Value) (σ : MS) (Q : Option Value → MS → Prop) : zX d 309 26 ls st σ Q = zB d 309 zt_309_26 ls st σ Q := zX_eq d 309 26 ls st σ Q
theorem L_310_0 (d : Nat) (ls st : List Value) (σ : MS) (Q : Option Value → MS → Prop) : zX d 310 0 ls st σ Q = zB d 310 zt_310_0 ls st σ Q := zX_eq d 310 0 ls st σ Q
theorem L_310_16 (d : Nat) (ls st : List Value) (σ : MS) (Q : Option Value → MS → Prop) : zX d 310 16 ls st σ Q = zB d 310 zt_310_16 ls st σ Q := zX_eq d 310 16 ls st σ Q
theorem L_310_22 (d : Nat) (ls st : List Value) (σ : MS) (Q : Option Value → MS → Prop) : zX d 310 22 ls st σ Q = zB d 310 zt_310_22 ls st σ Q := zX_eq d 310 22 ls st σ Q
theorem L_310_42 (d : Nat) (ls st : List Value) (σ : MS) (Q : Option Value → MS → Prop) : zX d 310 42 ls st σ Q = zB d 310 zt_310_42 ls st σ Q := zX_eq d 310 42 ls st σ Q
theorem L_311_0 (d : Nat) (ls st : List Value) (σ : MS) (Q : Option Value → MS → Prop) : zX d 311 0 ls st σ Q = zB d 311 zt_311_0 ls st σ Q := zX_eq d 311 0 ls st σ Q
theorem L_311_14 (d : Nat) (ls st : List Value) (σ : MS) (Q : Option Value → MS → Prop) : zX d 311 14 ls st σ Q = zB d 311 zt_311_14 ls st σ Q := zX_eq d 311 14 ls st σ Q
theorem L_311_33 (d : Nat) (ls st : List Value) (σ : MS) (Q : Option Value → MS → Prop) : zX d 311 33 ls st σ Q = zB d 311 zt_311_33 ls st σ Q := zX_eq d 311 33 ls st σ Q
theorem L_312_0 (d : Nat) (ls st : List Value) (σ : MS) (Q : Option Value → MS → Prop) : zX d 312 0 ls st σ Q = zB d 312 zt_312_0 ls st σ Q := zX_eq d 312 0 ls st σ Q
theorem L_312_22 (d : Nat) (ls st : List Value) (σ : MS) (Q : Option Value → MS → Prop) : zX d 312 22 ls st σ Q = zB d 312 zt_312_22 ls st σ Q := zX_eq d 312 22 ls st σ Q
theorem L_312_23 (d : Nat) (ls st : List Value) (σ : MS) (Q : Option Value → MS → Prop) : zX d 312 23 ls st σ Q = zB d 312 zt_312_23 ls st σ Q := zX_eq d 312 23 ls st σ Q
theorem L_312_34 (d : Nat) (ls st : List Value) (σ : MS) (Q : Option Value → MS → Prop) : zX d 312 34 ls st σ Q = zB d 312 zt_312_34 ls st σ Q := zX_eq d 312 34 ls st σ Q
theorem L_312_37 (d : Nat) (ls st : List Value) (σ : MS) (Q : Option Value → MS → Prop) : zX d 312 37 ls st σ Q = zB d 312 zt_312_37 ls st σ Q := zX_eq d 312 37 ls st σ Q
theorem L_312_43 (d : Nat) (ls st : List Value) (σ : MS) (Q : Option Value → MS → Prop) : zX d 312 43 ls st σ Q = zB d 312 zt_312_43 ls st σ Q := zX_eq d 312 43 ls st σ Q
theorem L_312_49 (d : Nat) (ls st : List Value) (σ : MS) (Q : Option Value → MS → Prop) : zX d 312 49 ls st σ Q = zB d 312 zt_312_49 ls st σ Q := zX_eq d 312 49 ls st σ Q
theorem L_313_0 (d : Nat) (ls st : List Value) (σ : MS) (Q : Option Value → MS → Prop) : zX d 313 0 ls st σ Q = zB d 313 zt_313_0 ls st σ Q := zX_eq d 313 0 ls st σ Q
theorem L_313_36 (d : Nat) (ls st : List Value) (σ : MS) (Q : Option Value → MS → Prop) : zX d 313 36 ls st σ Q = zB d 313 zt_313_36 ls st σ Q := zX_eq d 313 36 ls st σ Q
theorem L_313_41 (d : Nat) (ls st : List Value) (σ : MS) (Q : Option Value → MS → Prop) : zX d 313 41 ls st σ Q = zB d 313 zt_313_41 ls st σ Q := zX_eq d 313 41 ls st σ Q
theorem L_314_0 (d : Nat) (ls st : List Value) (σ : MS) (Q : Option Value → MS → Prop) : zX d 314 0 ls st σ Q = zB d 314 zt_314_0 ls st σ Q := zX_eq d 314 0 ls st σ Q
theorem L_314_15 (d : Nat) (ls st : List Value) (σ : MS) (Q : Option Value → MS → Prop) : zX d 314 15 ls st σ Q = zB d 314 zt_314_15 ls st σ Q := zX_eq d 314 15 ls st σ Q
theorem L_314_26 (d : Nat) (ls st : List Value) (σ : MS) (Q : Option Value → MS → Prop) : zX d 314 26 ls st σ Q = zB d 314 zt_314_26 ls st σ Q := zX_eq d 314 26 ls st σ Q
theorem L_315_0 (d : Nat) (ls st : List Value) (σ : MS) (Q : Option Value → MS → Prop) : zX d 315 0 ls st σ Q = zB d 315 zt_315_0 ls st σ Q := zX_eq d 315 0 ls st σ Q
theorem L_315_29 (d : Nat) (ls st : List Value) (σ : MS) (Q : Option Value → MS → Prop) : zX d 315 29 ls st σ Q = zB d 315 zt_315_29 ls st σ Q := zX_eq d 315 29 ls st σ Q
theorem L_315_34 (d : Nat) (ls st : List Value) (σ : MS) (Q : Option Value → MS → Prop) : zX d 315 34 ls st σ Q = zB d 315 zt_315_34 ls st σ Q := zX_eq d 315 34 ls st σ Q
theorem L_316_0 (d : Nat) (ls st : List Value) (σ : MS) (Q : Option Value → MS → Prop) : zX d 316 0 ls st σ Q = zB d 316 zt_316_0 ls st σ Q := zX_eq d 316 0 ls st σ Q
theorem L_316_15 (d : Nat) (ls st : List Value) (σ : MS) (Q : Option Value → MS → Prop) : zX d 316 15 ls st σ Q = zB d 316 zt_316_15 ls st σ Q := zX_eq d 316 15 ls st σ Q
theorem L_316_30 (d : Nat) (ls st : List Value) (σ : MS) (Q : Option Value → MS → Prop) : zX d 316 30 ls st σ Q = zB d 316 zt_316_30 ls st σ Q := zX_eq d 316 30 ls st σ Q
theorem L_316_34 (d : Nat) (ls st : List Value) (σ : MS) (Q : Option Value → MS → Prop) : zX d 316 34 ls st σ Q = zB d 316 zt_316_34 ls st σ Q := zX_eq d 316 34 ls st σ Q
theorem L_316_76 (d : Nat) (ls st : List Value) (σ : MS) (Q : Option Value → MS → Prop) : zX d 316 76 ls st σ Q = zB d 316 zt_316_76 ls st σ Q := zX_eq d 316 76 ls st σ Q
theorem L_316_77 (d : Nat) (ls st : List Value) (σ : MS) (Q : Option Value → MS → Prop) : zX d 316 77 ls st σ Q = zB d 316 zt_316_77 ls st σ Q := zX_eq d 316 77 ls st σ Q
theorem L_316_85 (d : Nat) (ls st : List Value) (σ : MS) (Q : Option Value → MS → Prop) : zX d 316 85 ls st σ Q = zB d 316 zt_316_85 ls st σ Q := zX_eq d 316 85 ls st σ Q
theorem L_317_0 (d : Nat) (ls st : List Value) (σ : MS) (Q : Option Value → MS → Prop) : zX d 317 0 ls st σ Q = zB d 317 zt_317_0 ls st σ Q := zX_eq d 317 0 ls st σ Q
theorem L_317_15 (d : Nat) (ls st : List Value) (σ : MS) (Q : Option Value → MS → Prop) : zX d 317 15 ls st σ Q = zB d 317 zt_317_15 ls st σ Q := zX_eq d 317 15 ls st σ Q
theorem L_317_40 (d : Nat) (ls st : List Value) (σ : MS) (Q : Option Value → MS → Prop) : zX d 317 40 ls st σ Q = zB d 317 zt_317_40 ls st σ Q := zX_eq d 317 40 ls st σ Q
theorem L_317_46 (d : Nat) (ls st : List Value) (σ : MS) (Q : Option Value → MS → Prop) : zX d 317 46 ls st σ Q = zB d 317 zt_317_46 ls st σ Q := zX_eq d 317 46 ls st σ Q
theorem L_318_0 (d : Nat) (ls st : List Value) (σ : MS) (Q : Option Value → MS → Prop) : zX d 318 0 ls st σ Q = zB d 318 zt_318_0 ls st σ Q := zX_eq d 318 0 ls st σ Q
theorem L_318_15 (d : Nat) (ls st : List Value) (σ : MS) (Q : Option Value → MS → Prop) : zX d 318 15 ls st σ Q = zB d 318 zt_318_15 ls st σ Q := zX_eq d 318 15 ls st σ Q
theorem L_318_19 (d : Nat) (ls st : List Value) (σ : MS) (Q : Option Value → MS → Prop) : zX d 318 19 ls st σ Q = zB d 318 zt_318_19 ls st σ Q := zX_eq d 318 19 ls st σ Q
theorem L_318_54 (d : Nat) (ls st : List Value) (σ : MS) (Q : Option Value → MS → Prop) : zX d 318 54 ls st σ Q = zB d 318 zt_318_54 ls st σ Q := zX_eq d 318 54 ls st σ Q
theorem L_318_56 (d : Nat) (ls st : List Value) (σ : MS) (Q : Option Value → MS → Prop) : zX d 318 56 ls st σ Q = zB d 318 zt_318_56 ls st σ Q := zX_eq d 318 56 ls st σ Q
theorem L_318_62 (d : Nat) (ls st : List Value) (σ : MS) (Q : Option Value → MS → Prop) : zX d 318 62 ls st σ Q = zB d 318 zt_318_62 ls st σ Q := zX_eq d 318 62 ls st σ Q
theorem L_319_0 (d : Nat) (ls st : List Value) (σ : MS) (Q : Option Value → MS → Prop) : zX d 319 0 ls st σ Q = zB d 319 zt_319_0 ls st σ Q := zX_eq d 319 0 ls st σ Q
theorem L_319_4 (d : Nat) (ls st : List Value) (σ : MS) (Q : Option Value → MS → Prop) : zX d 319 4 ls st σ Q = zB d 319 zt_319_4 ls st σ Q := zX_eq d 319 4 ls st σ Q
theorem L_319_29 (d : Nat) (ls st : List Value) (σ : MS) (Q : Option Value → MS → Prop) : zX d 319 29 ls st σ Q = zB d 319 zt_319_29 ls st σ Q := zX_eq d 319 29 ls st σ Q
theorem L_319_30 (d : Nat) (ls st : List Value) (σ : MS) (Q : Option Value → MS → Prop) : zX d 319 30 ls st σ Q = zB d 319 zt_319_30 ls st σ Q := zX_eq d 319 30 ls st σ Q
theorem L_319_38 (d : Nat) (ls st : List Value) (σ : MS) (Q : Option Value → MS → Prop) : zX d 319 38 ls st σ Q = zB d 319 zt_319_38 ls st σ Q := zX_eq d 319 38 ls st σ Q
theorem L_320_0 (d : Nat) (ls st : List Value) (σ : MS) (Q : Option Value → MS → Prop) : zX d 320 0 ls st σ Q = zB d 320 zt_320_0 ls st σ Q := zX_eq d 320 0 ls st σ Q
theorem L_320_4 (d : Nat) (ls st : List Value) (σ : MS) (Q : Option Value → MS → Prop) : zX d 320 4 ls st σ Q = zB d 320 zt_320_4 ls st σ Q := zX_eq d 320 4 ls st σ Q
theorem L_320_32 (d : Nat) (ls st : List Value) (σ : MS) (Q : Option Value → MS → Prop) : zX d 320 32 ls st σ Q = zB d 320 zt_320_32 ls st σ Q := zX_eq d 320 32 ls st σ Q
theorem L_320_34 (d : Nat) (ls st : List Value) (σ : MS) (Q : Option Value → MS → Prop) : zX d 320 34 ls st σ Q = zB d 320 zt_320_34 ls st σ Q := zX_eq d 320 34 ls st σ Q
theorem L_320_40 (d : Nat) (ls st : List Value) (σ : MS) (Q : Option Value → MS → Prop) : zX d 320 40 ls st σ Q = zB d 320 zt_320_40 ls st σ Q := zX_eq d 320 40 ls st σ Q
theorem L_321_0 (d : Nat) (ls st : List Value) (σ : MS) (Q : Option Value → MS → Prop) : zX d 321 0 ls st σ Q = zB d 321 zt_321_0 ls st σ Q := zX_eq d 321 0 ls st σ Q
theorem L_321_21 (d : Nat) (ls st : List Value) (σ : MS) (Q : Option Value → MS → Prop) : zX d 321 21 ls st σ Q = zB d 321 zt_321_21 ls st σ Q := zX_eq d 321 21 ls st σ Q
theorem L_321_26 (d : Nat) (ls st : List Value) (σ : MS) (Q : Option Value → MS → Prop) : zX d 321 26 ls st σ Q = zB d 321 zt_321_26 ls st σ Q := zX_eq d 321 26 ls st σ Q
theorem L_322_0 (d : Nat) (ls st : List Value) (σ : MS) (Q : Option Value → MS → Prop) : zX d 322 0 ls st σ Q = zB d 322 zt_322_0 ls st σ Q := zX_eq d 322 0 ls st σ Q
theorem L_322_23 (d : Nat) (ls st : List Value) (σ : MS) (Q : Option Value → MS → Prop) : zX d 322 23 ls st σ Q = zB d 322 zt_322_23 ls st σ Q := zX_eq d 322 23 ls st σ Q
theorem L_322_33 (d : Nat) (ls st : List Value) (σ : MS) (Q : Option Value → MS → Prop) : zX d 322 33 ls st σ Q = zB d 322 zt_322_33 ls st σ Q := zX_eq d 322 33 ls st σ Q
theorem L_322_75 (d : Nat) (ls st : List Value) (σ : MS) (Q : Option Value → MS → Prop) : zX d 322 75 ls st σ Q = zB d 322 zt_322_75 ls st σ Q := zX_eq d 322 75 ls st σ Q
theorem L_322_76 (d : Nat) (ls st : List Value) (σ : MS) (Q : Option Value → MS → Prop) : zX d 322 76 ls st σ Q = zB d 322 zt_322_76 ls st σ Q := zX_eq d 322 76 ls st σ Q
theorem L_322_86 (d : Nat) (ls st : List Value) (σ : MS) (Q : Option Value → MS → Prop) : zX d 322 86 ls st σ Q = zB d 322 zt_322_86 ls st σ Q := zX_eq d 322 86 ls st σ Q
theorem L_322_92 (d : Nat) (ls st : List Value) (σ : MS) (Q : Option Value → MS → Prop) : zX d 322 92 ls st σ Q = zB d 322 zt_322_92 ls st σ Q := zX_eq d 322 92 ls st σ Q
theorem L_322_100 (d : Nat) (ls st : List Value) (σ : MS) (Q : Option Value → MS → Prop) : zX d 322 100 ls st σ Q = zB d 322 zt_322_100 ls st σ Q := zX_eq d 322 100 ls st σ Q
theorem L_322_118 (d : Nat) (ls st : List Value) (σ : MS) (Q : Option Value → MS → Prop) : zX d 322 118 ls st σ Q = zB d 322 zt_322_118 ls st σ Q := zX_eq d 322 118 ls st σ Q
theorem L_322_141 (d : Nat) (ls st : List Value) (σ : MS) (Q : Option Value → MS → Prop) : zX d 322 141 ls st σ Q = zB d 322 zt_322_141 ls st σ Q := zX_eq d 322 141 ls st σ Q
theorem L_322_142 (d : Nat) (ls st : List Value) (σ : MS) (Q : Option Value → MS → Prop) : zX d 322 142 ls st σ Q = zB d 322 zt_322_142 ls st σ Q := zX_eq d 322 142 ls st σ Q
theorem L_323_0 (d : Nat) (ls st : List Value) (σ : MS) (Q : Option Value → MS → Prop) : zX d 323 0 ls st σ Q = zB d 323 zt_323_0 ls st σ Q := zX_eq d 323 0 ls st σ Q
theorem L_323_25 (d : Nat) (ls st : List Value) (σ : MS) (Q : Option Value → MS → Prop) : zX d 323 25 ls st σ Q = zB d 323 zt_323_25 ls st σ Q := zX_eq d 323 25 ls st σ Q
theorem L_324_0 (d : Nat) (ls st : List Value) (σ : MS) (Q : Option Value → MS → Prop) : zX d 324 0 ls st σ Q = zB d 324 zt_324_0 ls st σ Q := zX_eq d 324 0 ls st σ Q
theorem L_324_29 (d : Nat) (ls st : List Value) (σ : MS) (Q : Option Value → MS → Prop) : zX d 324 29 ls st σ Q = zB d 324 zt_324_29 ls st σ Q := zX_eq d 324 29 ls st σ Q
theorem L_324_34 (d : Nat) (ls st : List Value) (σ : MS) (Q : Option Value → MS → Prop) : zX d 324 34 ls st σ Q = zB d 324 zt_324_34 ls st σ Q := zX_eq d 324 34 ls st σ Q
theorem L_325_0 (d : Nat) (ls st : List Value) (σ : MS) (Q : Option Value → MS → Prop) : zX d 325 0 ls st σ Q = zB d 325 zt_325_0 ls st σ Q := zX_eq d 325 0 ls st σ Q
theorem L_325_29 (d : Nat) (ls st : List Value) (σ : MS) (Q : Option Value → MS → Prop) : zX d 325 29 ls st σ Q = zB d 325 zt_325_29 ls st σ Q := zX_eq d 325 29 ls st σ Q
theorem L_325_34 (d : Nat) (ls st : List Value) (σ : MS) (Q : Option Value → MS → Prop) : zX d 325 34 ls st σ Q = zB d 325 zt_325_34 ls st σ Q := zX_eq d 325 34 ls st σ Q
theorem L_326_0 (d : Nat) (ls st : List Value) (σ : MS) (Q : Option Value → MS → Prop) : zX d 326 0 ls st σ Q = zB d 326 zt_326_0 ls st σ Q := zX_eq d 326 0 ls st σ Q
theorem L_326_16 (d : Nat) (ls st : List Value) (σ : MS) (Q : Option Value → MS → Prop) : zX d 326 16 ls st σ Q = zB d 326 zt_326_16 ls st σ Q := zX_eq d 326 16 ls st σ Q
theorem L_326_22 (d : Nat) (ls st : List Value) (σ : MS) (Q : Option Value → MS → Prop) : zX d 326 22 ls st σ Q = zB d 326 zt_326_22 ls st σ Q := zX_eq d 326 22 ls st σ Q
theorem L_327_0 (d : Nat) (ls st : List Value) (σ : MS) (Q : Option Value → MS → Prop) : zX d 327 0 ls st σ Q = zB d 327 zt_327_0 ls st σ Q := zX_eq d 327 0 ls st σ Q
theorem L_327_14 (d : Nat) (ls st : List Value) (σ : MS) (Q : Option Value → MS → Prop) : zX d 327 14 ls st σ Q = zB d 327 zt_327_14 ls st σ Q := zX_eq d 327 14 ls st σ Q
theorem L_327_28 (d : Nat) (ls st : List Value) (σ : MS) (Q : Option Value → MS → Prop) : zX d 327 28 ls st σ Q = zB d 327 zt_327_28 ls st σ Q := zX_eq d 327 28 ls st σ Q
theorem L_327_32 (d : Nat) (ls st : List Value) (σ : MS) (Q : Option Value → MS → Prop) : zX d 327 32 ls st σ Q = zB d 327 zt_327_32 ls st σ Q := zX_eq d 327 32 ls st σ Q
theorem L_327_69 (d : Nat) (ls st : List Value) (σ : MS) (Q : Option Value → MS → Prop) : zX d 327 69 ls st σ Q = zB d 327 zt_327_69 ls st σ Q := zX_eq d 327 69 ls st σ Q
theorem L_327_70 (d : Nat) (ls st : List Value) (σ : MS) (Q : Option Value → MS → Prop) : zX d 327 70 ls st σ Q = zB d 327 zt_327_70 ls st σ Q := zX_eq d 327 70 ls st σ Q
theorem L_327_78 (d : Nat) (ls st : List Value) (σ : MS) (Q : Option Value → MS → Prop) : zX d 327 78 ls st σ Q = zB d 327 zt_327_78 ls st σ Q := zX_eq d 327 78 ls st σ Q
theorem L_328_0 (d : Nat) (ls st : List Value) (σ : MS) (Q : Option Value → MS → Prop) : zX d 328 0 ls st σ Q = zB d 328 zt_328_0 ls st σ Q := zX_eq d 328 0 ls st σ Q
theorem L_328_14 (d : Nat) (ls st : List Value) (σ : MS) (Q : Option Value → MS → Prop) : zX d 328 14 ls st σ Q = zB d 328 zt_328_14 ls st σ Q := zX_eq d 328 14 ls st σ Q
theorem L_328_28 (d : Nat) (ls st : List Value) (σ : MS) (Q : Option Value → MS → Prop) : zX d 328 28 ls st σ Q = zB d 328 zt_328_28 ls st σ Q := zX_eq d 328 28 ls st σ Q
theorem L_328_32 (d : Nat) (ls st : List Value) (σ : MS) (Q : Option Value → MS → Prop) : zX d 328 32 ls st σ Q = zB d 328 zt_328_32 ls st σ Q := zX_eq d 328 32 ls st σ Q
theorem L_328_53 (d : Nat) (ls st : List Value) (σ : MS) (Q : Option Value → MS → Prop) : zX d 328 53 ls st σ Q = zB d 328 zt_328_53 ls st σ Q := zX_eq d 328 53 ls st σ Q
theorem L_328_71 (d : Nat) (ls st : List Value) (σ : MS) (Q : Option Value → MS → Prop) : zX d 328 71 ls st σ Q = zB d 328 zt_328_71 ls st σ Q := zX_eq d 328 71 ls st σ Q
theorem L_328_77 (d : Nat) (ls st : List Value) (σ : MS) (Q : Option Value → MS → Prop) : zX d 328 77 ls st σ Q = zB d 328 zt_328_77 ls st σ Q := zX_eq d 328 77 ls st σ Q
theorem L_329_0 (d : Nat) (ls st : List Value) (σ : MS) (Q : Option Value → MS → Prop) : zX d 329 0 ls st σ Q = zB d 329 zt_329_0 ls st σ Q := zX_eq d 329 0 ls st σ Q
theorem L_330_0 (d : Nat) (ls st : List Value) (σ : MS) (Q : Option Value → MS → Prop) : zX d 330 0 ls st σ Q = zB d 330 zt_330_0 ls st σ Q := zX_eq d 330 0 ls st σ Q
theorem L_330_12 (d : Nat) (ls st : List Value) (σ : MS) (Q : Option Value → MS → Prop) : zX d 330 12 ls st σ Q = zB d 330 zt_330_12 ls st σ Q := zX_eq d 330 12 ls st σ Q
theorem L_330_18 (d : Nat) (ls st : List Value) (σ : MS) (Q : Option Value → MS → Prop) : zX d 330 18 ls st σ Q = zB d 330 zt_330_18 ls st σ Q := zX_eq d 330 18 ls st σ Q
theorem L_330_36 (d : Nat) (ls st : List Value) (σ : MS) (Q : Option Value → MS → Prop) : zX d 330 36 ls st σ Q = zB d 330 zt_330_36 ls st σ Q := zX_eq d 330 36 ls st σ Q
theorem L_330_47 (d : Nat) (ls st : List Value) (σ : MS) (Q : Option Value → MS → Prop) : zX d 330 47 ls st σ Q = zB d 330 zt_330_47 ls st σ Q := zX_eq d 330 47 ls st σ Q
theorem L_330_59 (d : Nat) (ls st : List Value) (σ : MS) (Q : Option Value → MS → Prop) : zX d 330 59 ls st σ Q = zB d 330 zt_330_59 ls st σ Q := zX_eq d 330 59 ls st σ Q
theorem L_330_103 (d : Nat) (ls st : List Value) (σ : MS) (Q : Option Value → MS → Prop) : zX d 330 103 ls st σ Q = zB d 330 zt_330_103 ls st σ Q := zX_eq d 330 103 ls st σ Q
theorem L_330_107 (d : Nat) (ls st : List Value) (σ : MS) (Q : Option Value → MS → Prop) : zX d 330 107 ls st σ Q = zB d 330 zt_330_107 ls st σ Q := zX_eq d 330 107 ls st σ Q
theorem L_330_113 (d : Nat) (ls st : List Value) (σ : MS) (Q : Option Value → MS → Prop) : zX d 330 113 ls st σ Q = zB d 330 zt_330_113 ls st σ Q := zX_eq d 330 113 ls st σ Q
theorem L_330_128 (d : Nat) (ls st : List Value) (σ : MS) (Q : Option Value → MS → Prop) : zX d 330 128 ls st σ Q = zB d 330 zt_330_128 ls st σ Q := zX_eq d 330 128 ls st σ Q
theorem L_331_0 (d : Nat) (ls st : List Value) (σ : MS) (Q : Option Value → MS → Prop) : zX d 331 0 ls st σ Q = zB d 331 zt_331_0 ls st σ Q := zX_eq d 331 0 ls st σ Q
theorem L_331_17 (d : Nat) (ls st : List Value) (σ : MS) (Q : Option Value → MS → Prop) : zX d 331 17 ls st σ Q = zB d 331 zt_331_17 ls st σ Q := zX_eq d 331 17 ls st σ Q
theorem L_331_23 (d : Nat) (ls st : List Value) (σ : MS) (Q : Option Value → MS → Prop) : zX d 331 23 ls st σ Q = zB d 331 zt_331_23 ls st σ Q := zX_eq d 331 23 ls st σ Q
theorem L_331_38 (d : Nat) (ls st : List Value) (σ : MS) (Q : Option Value → MS → Prop) : zX d 331 38 ls st σ Q = zB d 331 zt_331_38 ls st σ Q := zX_eq d 331 38 ls st σ Q
theorem L_331_46 (d : Nat) (ls st : List Value) (σ : MS) (Q : Option Value → MS → Prop) : zX d 331 46 ls st σ Q = zB d 331 zt_331_46 ls st σ Q := zX_eq d 331 46 ls st σ Q
theorem L_331_69 (d : Nat) (ls st : List Value) (σ : MS) (Q : Option Value → MS → Prop) : zX d 331 69 ls st σ Q = zB d 331 zt_331_69 ls st σ Q := zX_eq d 331 69 ls st σ Q
theorem L_331_96 (d : Nat) (ls st : List Value) (σ : MS) (Q : Option Value → MS → Prop) : zX d 331 96 ls st σ Q = zB d 331 zt_331_96 ls st σ Q := zX_eq d 331 96 ls st σ Q
theorem L_331_97 (d : Nat) (ls st : List Value) (σ : MS) (Q : Option Value → MS → Prop) : zX d 331 97 ls st σ Q = zB d 331 zt_331_97 ls st σ Q := zX_eq d 331 97 ls st σ Q
theorem L_331_110 (d : Nat) (ls st : List Value) (σ : MS) (Q : Option Value → MS → Prop) : zX d 331 110 ls st σ Q = zB d 331 zt_331_110 ls st σ Q := zX_eq d 331 110 ls st σ Q
theorem L_331_111 (d : Nat) (ls st : List Value) (σ : MS) (Q : Option Value → MS → Prop) : zX d 331 111 ls st σ Q = zB d 331 zt_331_111 ls st σ Q := zX_eq d 331 111 ls st σ Q
theorem L_331_113 (d : Nat) (ls st : List Value) (σ : MS) (Q : Option Value → MS → Prop) : zX d 331 113 ls st σ Q = zB d 331 zt_331_113 ls st σ Q := zX_eq d 331 113 ls st σ Q
theorem L_331_119 (d : Nat) (ls st : List Value) (σ : MS) (Q : Option Value → MS → Prop) : zX d 331 119 ls st σ Q = zB d 331 zt_331_119 ls st σ Q := zX_eq d 331 119 ls st σ Q
theorem L_331_133 (d : Nat) (ls st : List Value) (σ : MS) (Q : Option Value → MS → Prop) : zX d 331 133 ls st σ Q = zB d 331 zt_331_133 ls st σ Q := zX_eq d 331 133 ls st σ Q
theorem L_331_140 (d : Nat) (ls st : List Value) (σ : MS) (Q : Option Value → MS → Prop) : zX d 331 140 ls st σ Q = zB d 331 zt_331_140 ls st σ Q := zX_eq d 331 140 ls st σ Q
theorem L_332_0 (d : Nat) (ls st : List Value) (σ : MS) (Q : Option Value → MS → Prop) : zX d 332 0 ls st σ Q = zB d 332 zt_332_0 ls st σ Q := zX_eq d 332 0 ls st σ Q
theorem L_332_24 (d : Nat) (ls st : List Value) (σ : MS) (Q : Option Value → MS → Prop) : zX d 332 24 ls st σ Q = zB d 332 zt_332_24 ls st σ Q := zX_eq d 332 24 ls st σ Q
theorem L_332_25 (d : Nat) (ls st : List Value) (σ : MS) (Q : Option Value → MS → Prop) : zX d 332 25 ls st σ Q = zB d 332 zt_332_25 ls st σ Q := zX_eq d 332 25 ls st σ Q
theorem L_333_0 (d : Nat) (ls st : List Value) (σ : MS) (Q : Option Value → MS → Prop) : zX d 333 0 ls st σ Q = zB d 333 zt_333_0 ls st σ Q := zX_eq d 333 0 ls st σ Q
theorem L_333_2 (d : Nat) (ls st : List Value) (σ : MS) (Q : Option Value → MS → Prop) : zX d 333 2 ls st σ Q = zB d 333 zt_333_2 ls st σ Q := zX_eq d 333 2 ls st σ Q
theorem L_333_22 (d : Nat) (ls st : List Value) (σ : MS) (Q : Option Value → MS → Prop) : zX d 333 22 ls st σ Q = zB d 333 zt_333_22 ls st σ Q := zX_eq d 333 22 ls st σ Q
theorem L_333_25 (d : Nat) (ls st : List Value) (σ : MS) (Q : Option Value → MS → Prop) : zX d 333 25 ls st σ Q = zB d 333 zt_333_25 ls st σ Q := zX_eq d 333 25 ls st σ Q
theorem L_333_32 (d : Nat) (ls st : List Value) (σ : MS) (Q : Option Value → MS → Prop) : zX d 333 32 ls st σ Q = zB d 333 zt_333_32 ls st σ Q := zX_eq d 333 32 ls st σ Q
theorem L_333_34 (d : Nat) (ls st : List Value) (σ : MS) (Q : Option Value → MS → Prop) : zX d 333 34 ls st σ Q = zB d 333 zt_333_34 ls st σ Q := zX_eq d 333 34 ls st σ Q
theorem L_333_42 (d : Nat) (ls st : List Value) (σ : MS) (Q : Option Value → MS → Prop) : zX d 333 42 ls st σ Q = zB d 333 zt_333_42 ls st σ Q := zX_eq d 333 42 ls st σ Q
theorem L_333_55 (d : Nat) (ls st : List Value) (σ : MS) (Q : Option Value → MS → Prop) : zX d 333 55 ls st σ Q = zB d 333 zt_333_55 ls st σ Q := zX_eq d 333 55 ls st σ Q
theorem L_333_100 (d : Nat) (ls st : List Value) (σ : MS) (Q : Option Value → MS → Prop) : zX d 333 100 ls st σ Q = zB d 333 zt_333_100 ls st σ Q := zX_eq d 333 100 ls st σ Q
theorem L_333_106 (d : Nat) (ls st : List Value) (σ : MS) (Q : Option Value → MS → Prop) : zX d 333 106 ls st σ Q = zB d 333 zt_333_106 ls st σ Q := zX_eq d 333 106 ls st σ Q
theorem L_333_112 (d : Nat) (ls st : List Value) (σ : MS) (Q : Option Value → MS → Prop) : zX d 333 112 ls st σ Q = zB d 333 zt_333_112 ls st σ Q := zX_eq d 333 112 ls st σ Q
theorem L_333_118 (d : Nat) (ls st : List Value) (σ : MS) (Q : Option Value → MS → Prop) : zX d 333 118 ls st σ Q = zB d 333 zt_333_118 ls st σ Q := zX_eq d 333 118 ls st σ Q
theorem L_334_0 (d : Nat) (ls st : List Value) (σ : MS) (Q : Option Value → MS → Prop) : zX d 334 0 ls st σ Q = zB d 334 zt_334_0 ls st σ Q := zX_eq d 334 0 ls st σ Q
theorem L_334_18 (d : Nat) (ls st : List Value) (σ : MS) (Q : Option Value → MS → Prop) : zX d 334 18 ls st σ Q = zB d 334 zt_334_18 ls st σ Q := zX_eq d 334 18 ls st σ Q
theorem L_334_24 (d : Nat) (ls st : List Value) (σ : MS) (Q : Option Value → MS → Prop) : zX d 334 24 ls st σ Q = zB d 334 zt_334_24 ls st σ Q := zX_eq d 334 24 ls st σ Q
theorem L_334_50 (d : Nat) (ls st : List Value) (σ : MS) (Q : Option Value → MS → Prop) : zX d 334 50 ls st σ Q = zB d 334 zt_334_50 ls st σ Q := zX_eq d 334 50 ls st σ Q
theorem L_334_60 (d : Nat) (ls st : List Value) (σ : MS) (Q : Option Value → MS → Prop) : zX d 334 60 ls st σ Q = zB d 334 zt_334_60 ls st σ Q := zX_eq d 334 60 ls st σ Q
theorem L_335_0 (d : Nat) (ls st : List Value) (σ : MS) (Q : Option Value → MS → Prop) : zX d 335 0 ls st σ Q = zB d 335 zt_335_0 ls st σ Q := zX_eq d 335 0 ls st σ Q
theorem L_335_22 (d : Nat) (ls st : List Value) (σ : MS) (Q : Option Value → MS → Prop) : zX d 335 22 ls st σ Q = zB d 335 zt_335_22 ls st σ Q := zX_eq d 335 22 ls st σ Q
theorem L_335_28 (d : Nat) (ls st : List Value) (σ : MS) (Q : Option Value → MS → Prop) : zX d 335 28 ls st σ Q = zB d 335 zt_335_28 ls st σ Q := zX_eq d 335 28 ls st σ Q
theorem L_335_55 (d : Nat) (ls st : List Value) (σ : MS) (Q : Option Value → MS → Prop) : zX d 335 55 ls st σ Q = zB d 335 zt_335_55 ls st σ Q := zX_eq d 335 55 ls st σ Q
theorem L_335_62 (d : Nat) (ls st : List Value) (σ : MS) (Q : Option Value → MS → Prop) : zX d 335 62 ls st σ Q = zB d 335 zt_335_62 ls st σ Q := zX_eq d 335 62 ls st σ Q
theorem L_335_68 (d : Nat) (ls st : List Value) (σ : MS) (Q : Option Value → MS → Prop) : zX d 335 68 ls st σ Q = zB d 335 zt_335_68 ls st σ Q := zX_eq d 335 68 ls st σ Q
theorem L_335_77 (d : Nat) (ls st : List Value) (σ : MS) (Q : Option Value → MS → Prop) : zX d 335 77 ls st σ Q = zB d 335 zt_335_77 ls st σ Q := zX_eq d 335 77 ls st σ Q
theorem L_335_107 (d : Nat) (ls st : List Value) (σ : MS) (Q : Option Value → MS → Prop) : zX d 335 107 ls st σ Q = zB d 335 zt_335_107 ls st σ Q := zX_eq d 335 107 ls st σ Q
theorem L_335_113 (d : Nat) (ls st : List Value) (σ : MS) (Q : Option Value → MS → Prop) : zX d 335 113 ls st σ Q = zB d 335 zt_335_113 ls st σ Q := zX_eq d 335 113 ls st σ Q
theorem L_335_123 (d : Nat) (ls st : List Value) (σ : MS) (Q : Option Value → MS → Prop) : zX d 335 123 ls st σ Q = zB d 335 zt_335_123 ls st σ Q := zX_eq d 335 123 ls st σ Q
theorem L_336_0 (d : Nat) (ls st : List Value) (σ : MS) (Q : Option Value → MS → Prop) : zX d 336 0 ls st σ Q = zB d 336 zt_336_0 ls st σ Q := zX_eq d 336 0 ls st σ Q
theorem L_336_9 (d : Nat) (ls st : List Value) (σ : MS) (Q : Option Value → MS → Prop) : zX d 336 9 ls st σ Q = zB d 336 zt_336_9 ls st σ Q := zX_eq d 336 9 ls st σ Q
theorem L_336_38 (d : Nat) (ls st : List Value) (σ : MS) (Q : Option Value → MS → Prop) : zX d 336 38 ls st σ Q = zB d 336 zt_336_38 ls st σ Q := zX_eq d 336 38 ls st σ Q
theorem L_336_39 (d : Nat) (ls st : List Value) (σ : MS) (Q : Option Value → MS → Prop) : zX d 336 39 ls st σ Q = zB d 336 zt_336_39 ls st σ Q := zX_eq d 336 39 ls st σ Q
theorem L_336_47 (d : Nat) (ls st : List Value) (σ : MS) (Q : Option Value → MS → Prop) : zX d 336 47 ls st σ Q = zB d 336 zt_336_47 ls st σ Q := zX_eq d 336 47 ls st σ Q
theorem L_337_0 (d : Nat) (ls st : List Value) (σ : MS) (Q : Option Value → MS → Prop) : zX d 337 0 ls st σ Q = zB d 337 zt_337_0 ls st σ Q := zX_eq d 337 0 ls st σ Q
theorem L_337_21 (d : Nat) (ls st : List Value) (σ : MS) (Q : Option Value → MS → Prop) : zX d 337 21 ls st σ Q = zB d 337 zt_337_21 ls st σ Q := zX_eq d 337 21 ls st σ Q
theorem L_337_26 (d : Nat) (ls st : List Value) (σ : MS) (Q : Option Value → MS → Prop) : zX d 337 26 ls st σ Q = zB d 337 zt_337_26 ls st σ Q := zX_eq d 337 26 ls st σ Q
theorem L_338_0 (d : Nat) (ls st : List Value) (σ : MS) (Q : Option Value → MS → Prop) : zX d 338 0 ls st σ Q = zB d 338 zt_338_0 ls st σ Q := zX_eq d 338 0 ls st σ Q
theorem L_338_4 (d : Nat) (ls st : List Value) (σ : MS) (Q : Option Value → MS → Prop) : zX d 338 4 ls st σ Q = zB d 338 zt_338_4 ls st σ Q := zX_eq d 338 4 ls st σ Q
theorem L_338_33 (d : Nat) (ls st : List Value) (σ : MS) (Q : Option Value → MS → Prop) : zX d 338 33 ls st σ Q = zB d 338 zt_338_33 ls st σ Q := zX_eq d 338 33 ls st σ Q
theorem L_338_34 (d : Nat) (ls st : List Value) (σ : MS) (Q : Option Value → MS → Prop) : zX d 338 34 ls st σ Q = zB d 338 zt_338_34 ls st σ Q := zX_eq d 338 34 ls st σ Q
theorem L_338_42 (d : Nat) (ls st : List Value) (σ : MS) (Q : Option Value → MS → Prop) : zX d 338 42 ls st σ Q = zB d 338 zt_338_42 ls st σ Q := zX_eq d 338 42 ls st σ Q
theorem L_339_0 (d : Nat) (ls st : List Value) (σ : MS) (Q : Option Value → MS → Prop) : zX d 339 0 ls st σ Q = zB d 339 zt_339_0 ls st σ Q := zX_eq d 339 0 ls st σ Q
theorem L_339_4 (d : Nat) (ls st : List Value) (σ : MS) (Q : Option Value → MS → Prop) : zX d 339 4 ls st σ Q = zB d 339 zt_339_4 ls st σ Q := zX_eq d 339 4 ls st σ Q
theorem L_339_58 (d : Nat) (ls st : List Value) (σ : MS) (Q : Option Value → MS → Prop) : zX d 339 58 ls st σ Q = zB d 339 zt_339_58 ls st σ Q := zX_eq d 339 58 ls st σ Q
theorem L_339_59 (d : Nat) (ls st : List Value) (σ : MS) (Q : Option Value → MS → Prop) : zX d 339 59 ls st σ Q = zB d 339 zt_339_59 ls st σ Q := zX_eq d 339 59 ls st σ Q
theorem L_339_67 (d : Nat) (ls st : List Value) (σ : MS) (Q : Option Value → MS → Prop) : zX d 339 67 ls st σ Q = zB d 339 zt_339_67 ls st σ Q := zX_eq d 339 67 ls st σ Q
theorem L_340_0 (d : Nat) (ls st : List Value) (σ : MS) (Q : Option Value → MS → Prop) : zX d 340 0 ls st σ Q = zB d 340 zt_340_0 ls st σ Q := zX_eq d 340 0 ls st σ Q
theorem L_340_2 (d : Nat) (ls st : List Value) (σ : MS) (Q : Option Value → MS → Prop) : zX d 340 2 ls st σ Q = zB d 340 zt_340_2 ls st σ Q := zX_eq d 340 2 ls st σ Q
theorem L_340_24 (d : Nat) (ls st : List Value) (σ : MS) (Q : Option Value → MS → Prop) : zX d 340 24 ls st σ Q = zB d 340 zt_340_24 ls st σ Q := zX_eq d 340 24 ls st σ Q
theorem L_340_30 (d : Nat) (ls st : List Value) (σ : MS) (Q : Option Value → MS → Prop) : zX d 340 30 ls st σ Q = zB d 340 zt_340_30 ls st σ Q := zX_eq d 340 30 ls st σ Q
theorem L_341_0 (d : Nat) (ls st : List Value) (σ : MS) (Q : Option Value → MS → Prop) : zX d 341 0 ls st σ Q = zB d 341 zt_341_0 ls st σ Q := zX_eq d 341 0 ls st σ Q
theorem L_341_13 (d : Nat) (ls st : List Value) (σ : MS) (Q : Option Value → MS → Prop) : zX d 341 13 ls st σ Q = zB d 341 zt_341_13 ls st σ Q := zX_eq d 341 13 ls st σ Q
theorem L_341_14 (d : Nat) (ls st : List Value) (σ : MS) (Q : Option Value → MS → Prop) : zX d 341 14 ls st σ Q = zB d 341 zt_341_14 ls st σ Q := zX_eq d 341 14 ls st σ Q
theorem L_341_23 (d : Nat) (ls st : List Value) (σ : MS) (Q : Option Value → MS → Prop) : zX d 341 23 ls st σ Q = zB d 341 zt_341_23 ls st σ Q := zX_eq d 341 23 ls st σ Q
theorem L_341_24 (d : Nat) (ls st : List Value) (σ : MS) (Q : Option Value → MS → Prop) : zX d 341 24 ls st σ Q = zB d 341 zt_341_24 ls st σ Q := zX_eq d 341 24 ls st σ Q
theorem L_341_39 (d : Nat) (ls st : List Value) (σ : MS) (Q : Option Value → MS → Prop) : zX d 341 39 ls st σ Q = zB d 341 zt_341_39 ls st σ Q := zX_eq d 341 39 ls st σ Q
theorem L_341_69 (d : Nat) (ls st : List Value) (σ : MS) (Q : Option Value → MS → Prop) : zX d 341 69 ls st σ Q = zB d 341 zt_341_69 ls st σ Q := zX_eq d 341 69 ls st σ Q
theorem L_341_80 (d : Nat) (ls st : List Value) (σ : MS) (Q : Option Value → MS → Prop) : zX d 341 80 ls st σ Q = zB d 341 zt_341_80 ls st σ Q := zX_eq d 341 80 ls st σ Q
theorem L_341_120 (d : Nat) (ls st : List Value) (σ : MS) (Q : Option Value → MS → Prop) : zX d 341 120 ls st σ Q = zB d 341 zt_341_120 ls st σ Q := zX_eq d 341 120 ls st σ Q
theorem L_341_140 (d : Nat) (ls st : List Value) (σ : MS) (Q : Option Value → MS → Prop) : zX d 341 140 ls st σ Q = zB d 341 zt_341_140 ls st σ Q := zX_eq d 341 140 ls st σ Q
theorem L_341_171 (d : Nat) (ls st : List Value) (σ : MS) (Q : Option Value → MS → Prop) : zX d 341 171 ls st σ Q = zB d 341 zt_341_171 ls st σ Q := zX_eq d 341 171 ls st σ Q
theorem L_341_174 (d : Nat) (ls st : List Value) (σ : MS) (Q : Option Value → MS → Prop) : zX d 341 174 ls st σ Q = zB d 341 zt_341_174 ls st σ Q := zX_eq d 341 174 ls st σ Q
theorem L_342_0 (d : Nat) (ls st : List Value) (σ : MS) (Q : Option Value → MS → Prop) : zX d 342 0 ls st σ Q = zB d 342 zt_342_0 ls st σ Q := zX_eq d 342 0 ls st σ Q
theorem L_343_0 (d : Nat) (ls st : List Value) (σ : MS) (Q : Option Value → MS → Prop) : zX d 343 0 ls st σ Q = zB d 343 zt_343_0 ls st σ Q := zX_eq d 343 0 ls st σ Q
theorem L_343_14 (d : Nat) (ls st : List Value) (σ : MS) (Q : Option Value → MS → Prop) : zX d 343 14 ls st σ Q = zB d 343 zt_343_14 ls st σ Q := zX_eq d 343 14 ls st σ Q
theorem L_343_30 (d : Nat) (ls st : List Value) (σ : MS) (Q : Option Value → MS → Prop) : zX d 343 30 ls st σ Q = zB d 343 zt_343_30 ls st σ Q := zX_eq d 343 30 ls st σ Q
theorem L_343_37 (d : Nat) (ls st : List Value) (σ : MS) (Q : Option Value → MS → Prop) : zX d 343 37 ls st σ Q = zB d 343 zt_343_37 ls st σ Q := zX_eq d 343 37 ls st σ Q
theorem L_343_53 (d : Nat) (ls st : List Value) (σ : MS) (Q : Option Value → MS → Prop) : zX d 343 53 ls st σ Q = zB d 343 zt_343_53 ls st σ Q := zX_eq d 343 53 ls st σ Q
theorem L_344_0 (d : Nat) (ls st : List Value) (σ : MS) (Q : Option Value → MS → Prop) : zX d 344 0 ls st σ Q = zB d 344 zt_344_0 ls st σ Q := zX_eq d 344 0 ls st σ Q
theorem L_344_9 (d : Nat) (ls st : List Value) (σ : MS) (Q : Option Value → MS → Prop) : zX d 344 9 ls st σ Q = zB d 344 zt_344_9 ls st σ Q := zX_eq d 344 9 ls st σ Q
theorem L_344_22 (d : Nat) (ls st : List Value) (σ : MS) (Q : Option Value → MS → Prop) : zX d 344 22 ls st σ Q = zB d 344 zt_344_22 ls st σ Q := zX_eq d 344 22 ls st σ Q
theorem L_344_44 (d : Nat) (ls st : List Value) (σ : MS) (Q : Option Value → MS → Prop) : zX d 344 44 ls st σ Q = zB d 344 zt_344_44 ls st σ Q := zX_eq d 344 44 ls st σ Q
theorem L_344_69 (d : Nat) (ls st : List Value) (σ : MS) (Q : Option Value → MS → Prop) : zX d 344 69 ls st σ Q = zB d 344 zt_344_69 ls st σ Q := zX_eq d 344 69 ls st σ Q
theorem L_344_83 (d : Nat) (ls st : List Value) (σ : MS) (Q : Option Value → MS → Prop) : zX d 344 83 ls st σ Q = zB d 344 zt_344_83 ls st σ Q := zX_eq d 344 83 ls st σ Q
theorem L_344_89 (d : Nat) (ls st : List Value) (σ : MS) (Q : Option Value → MS → Prop) : zX d 344 89 ls st σ Q = zB d 344 zt_344_89 ls st σ Q := zX_eq d 344 89 ls st σ Q
theorem L_344_95 (d : Nat) (ls st : List Value) (σ : MS) (Q : Option Value → MS → Prop) : zX d 344 95 ls st σ Q = zB d 344 zt_344_95 ls st σ Q := zX_eq d 344 95 ls st σ Q
theorem L_345_0 (d : Nat) (ls st : List Value) (σ : MS) (Q : Option Value → MS → Prop) : zX d 345 0 ls st σ Q = zB d 345 zt_345_0 ls st σ Q := zX_eq d 345 0 ls st σ Q
theorem L_345_18 (d : Nat) (ls st : List Value) (σ : MS) (Q : Option Value → MS → Prop) : zX d 345 18 ls st σ Q = zB d 345 zt_345_18 ls st σ Q := zX_eq d 345 18 ls st σ Q
theorem L_345_23 (d : Nat) (ls st : List Value) (σ : MS) (Q : Option Value → MS → Prop) : zX d 345 23 ls st σ Q = zB d 345 zt_345_23 ls st σ Q := zX_eq d 345 23 ls st σ Q
theorem L_346_0 (d : Nat) (ls st : List Value) (σ : MS) (Q : Option Value → MS → Prop) : zX d 346 0 ls st σ Q = zB d 346 zt_346_0 ls st σ Q := zX_eq d 346 0 ls st σ Q
theorem L_346_9 (d : Nat) (ls st : List Value) (σ : MS) (Q : Option Value → MS → Prop) : zX d 346 9 ls st σ Q = zB d 346 zt_346_9 ls st σ Q := zX_eq d 346 9 ls st σ Q
theorem L_346_15 (d : Nat) (ls st : List Value) (σ : MS) (Q : Option Value → MS → Prop) : zX d 346 15 ls st σ Q = zB d 346 zt_346_15 ls st σ Q := zX_eq d 346 15 ls st σ Q
theorem L_346_29 (d : Nat) (ls st : List Value) (σ : MS) (Q : Option Value → MS → Prop) : zX d 346 29 ls st σ Q = zB d 346 zt_346_29 ls st σ Q := zX_eq d 346 29 ls st σ Q
theorem L_346_41 (d : Nat) (ls st : List Value) (σ : MS) (Q : Option Value → MS → Prop) : zX d 346 41 ls st σ Q = zB d 346 zt_346_41 ls st σ Q := zX_eq d 346 41 ls st σ Q
theorem L_346_45 (d : Nat) (ls st : List Value) (σ : MS) (Q : Option Value → MS → Prop) : zX d 346 45 ls st σ Q = zB d 346 zt_346_45 ls st σ Q := zX_eq d 346 45 ls st σ Q
theorem L_347_0 (d : Nat) (ls st : List Value) (σ : MS) (Q : Option Value → MS → Prop) : zX d 347 0 ls st σ Q = zB d 347 zt_347_0 ls st σ Q := zX_eq d 347 0 ls st σ Q
theorem L_347_4 (d : Nat) (ls st : List Value) (σ : MS) (Q : Option Value → MS → Prop) : zX d 347 4 ls st σ Q = zB d 347 zt_347_4 ls st σ Q := zX_eq d 347 4 ls st σ Q
theorem L_347_18 (d : Nat) (ls st : List Value) (σ : MS) (Q : Option Value → MS → Prop) : zX d 347 18 ls st σ Q = zB d 347 zt_347_18 ls st σ Q := zX_eq d 347 18 ls st σ Q
theorem L_347_62 (d : Nat) (ls st : List Value) (σ : MS) (Q : Option Value → MS → Prop) : zX d 347 62 ls st σ Q = zB d 347 zt_347_62 ls st σ Q := zX_eq d 347 62 ls st σ Q
theorem L_347_63 (d : Nat) (ls st : List Value) (σ : MS) (Q : Option Value → MS → Prop) : zX d 347 63 ls st σ Q = zB d 347 zt_347_63 ls st σ Q := zX_eq d 347 63 ls st σ Q
theorem L_347_71 (d : Nat) (ls st : List Value) (σ : MS) (Q : Option Value → MS → Prop) : zX d 347 71 ls st σ Q = zB d 347 zt_347_71 ls st σ Q := zX_eq d 347 71 ls st σ Q
theorem L_347_77 (d : Nat) (ls st : List Value) (σ : MS) (Q : Option Value → MS → Prop) : zX d 347 77 ls st σ Q = zB d 347 zt_347_77 ls st σ Q := zX_eq d 347 77 ls st σ Q
theorem L_348_0 (d : Nat) (ls st : List Value) (σ : MS) (Q : Option Value → MS → Prop) : zX d 348 0 ls st σ Q = zB d 348 zt_348_0 ls st σ Q := zX_eq d 348 0 ls st σ Q
theorem L_348_12 (d : Nat) (ls st : List Value) (σ : MS) (Q : Option Value → MS → Prop) : zX d 348 12 ls st σ Q = zB d 348 zt_348_12 ls st σ Q := zX_eq d 348 12 ls st σ Q
theorem L_348_31 (d : Nat) (ls st : List Value) (σ : MS) (Q : Option Value → MS → Prop) : zX d 348 31 ls st σ Q = zB d 348 zt_348_31 ls st σ Q := zX_eq d 348 31 ls st σ Q
theorem L_348_38 (d : Nat) (ls st : List Value) (σ : MS) (Q : Option Value → MS → Prop) : zX d 348 38 ls st σ Q = zB d 348 zt_348_38 ls st σ Q := zX_eq d 348 38 ls st σ Q
theorem L_348_71 (d : Nat) (ls st : List Value) (σ : MS) (Q : Option Value → MS → Prop) : zX d 348 71 ls st σ Q = zB d 348 zt_348_71 ls st σ Q := zX_eq d 348 71 ls st σ Q
theorem L_348_89 (d : Nat) (ls st : List Value) (σ : MS) (Q : Option Value → MS → Prop) : zX d 348 89 ls st σ Q = zB d 348 zt_348_89 ls st σ Q := zX_eq d 348 89 ls st σ Q
theorem L_348_92 (d : Nat) (ls st : List Value) (σ : MS) (Q : Option Value → MS → Prop) : zX d 348 92 ls st σ Q = zB d 348 zt_348_92 ls st σ Q := zX_eq d 348 92 ls st σ Q
theorem L_348_98 (d : Nat) (ls st : List Value) (σ : MS) (Q : Option Value → MS → Prop) : zX d 348 98 ls st σ Q = zB d 348 zt_348_98 ls st σ Q := zX_eq d 348 98 ls st σ Q
theorem L_349_0 (d : Nat) (ls st : List Value) (σ : MS) (Q : Option Value → MS → Prop) : zX d 349 0 ls st σ Q = zB d 349 zt_349_0 ls st σ Q := zX_eq d 349 0 ls st σ Q
theorem L_349_2 (d : Nat) (ls st : List Value) (σ : MS) (Q : Option Value → MS → Prop) : zX d 349 2 ls st σ Q = zB d 349 zt_349_2 ls st σ Q := zX_eq d 349 2 ls st σ Q
theorem L_349_16 (d : Nat) (ls st : List Value) (σ : MS) (Q : Option Value → MS → Prop) : zX d 349 16 ls st σ Q = zB d 349 zt_349_16 ls st σ Q := zX_eq d 349 16 ls st σ Q
theorem L_349_79 (d : Nat) (ls st : List Value) (σ : MS) (Q : Option Value → MS → Prop) : zX d 349 79 ls st σ Q = zB d 349 zt_349_79 ls st σ Q := zX_eq d 349 79 ls st σ Q
theorem L_349_85 (d : Nat) (ls st : List Value) (σ : MS) (Q : Option Value → MS → Prop) : zX d 349 85 ls st σ Q = zB d 349 zt_349_85 ls st σ Q := zX_eq d 349 85 ls st σ Q
theorem L_349_91 (d : Nat) (ls st : List Value) (σ : MS) (Q : Option Value → MS → Prop) : zX d 349 91 ls st σ Q = zB d 349 zt_349_91 ls st σ Q := zX_eq d 349 91 ls st σ Q
theorem L_350_0 (d : Nat) (ls st : List Value) (σ : MS) (Q : Option Value → MS → Prop) : zX d 350 0 ls st σ Q = zB d 350 zt_350_0 ls st σ Q := zX_eq d 350 0 ls st σ Q
theorem L_350_4 (d : Nat) (ls st : List Value) (σ : MS) (Q : Option Value → MS → Prop) : zX d 350 4 ls st σ Q = zB d 350 zt_350_4 ls st σ Q := zX_eq d 350 4 ls st σ Q
theorem L_350_36 (d : Nat) (ls st : List Value) (σ : MS) (Q : Option Value → MS → Prop) : zX d 350 36 ls st σ Q = zB d 350 zt_350_36 ls st σ Q := zX_eq d 350 36 ls st σ Q
theorem L_350_50 (d : Nat) (ls st : List Value) (σ : MS) (Q : Option Value → MS → Prop) : zX d 350 50 ls st σ Q = zB d 350 zt_350_50 ls st σ Q := zX_eq d 350 50 ls st σ Q
theorem L_350_56 (d : Nat) (ls st : List Value) (σ : MS) (Q : Option Value → MS → Prop) : zX d 350 56 ls st σ Q = zB d 350 zt_350_56 ls st σ Q := zX_eq d 350 56 ls st σ Q
theorem L_351_0 (d : Nat) (ls st : List Value) (σ : MS) (Q : Option Value → MS → Prop) : zX d 351 0 ls st σ Q = zB d 351 zt_351_0 ls st σ Q := zX_eq d 351 0 ls st σ Q
theorem L_351_23 (d : Nat) (ls st : List Value) (σ : MS) (Q : Option Value → MS → Prop) : zX d 351 23 ls st σ Q = zB d 351 zt_351_23 ls st σ Q := zX_eq d 351 23 ls st σ Q
theorem L_351_28 (d : Nat) (ls st : List Value) (σ : MS) (Q : Option Value → MS → Prop) : zX d 351 28 ls st σ Q = zB d 351 zt_351_28 ls st σ Q := zX_eq d 351 28 ls st σ Q
theorem L_352_0 (d : Nat) (ls st : List Value) (σ : MS) (Q : Option Value → MS → Prop) : zX d 352 0 ls st σ Q = zB d 352 zt_352_0 ls st σ Q := zX_eq d 352 0 ls st σ Q
theorem L_352_20 (d : Nat) (ls st : List Value) (σ : MS) (Q : Option Value → MS → Prop) : zX d 352 20 ls st σ Q = zB d 352 zt_352_20 ls st σ Q := zX_eq d 352 20 ls st σ Q
theorem L_352_25 (d : Nat) (ls st : List Value) (σ : MS) (Q : Option Value → MS → Prop) : zX d 352 25 ls st σ Q = zB d 352 zt_352_25 ls st σ Q := zX_eq d 352 25 ls st σ Q
theorem L_353_0 (d : Nat) (ls st : List Value) (σ : MS) (Q : Option Value → MS → Prop) : zX d 353 0 ls st σ Q = zB d 353 zt_353_0 ls st σ Q := zX_eq d 353 0 ls st σ Q
theorem L_353_19 (d : Nat) (ls st : List Value) (σ : MS) (Q : Option Value → MS → Prop) : zX d 353 19 ls st σ Q = zB d 353 zt_353_19 ls st σ Q := zX_eq d 353 19 ls st σ Q
theorem L_353_21 (d : Nat) (ls st : List Value) (σ : MS) (Q : Option Value → MS → Prop) : zX d 353 21 ls st σ Q = zB d 353 zt_353_21 ls st σ Q := zX_eq d 353 21 ls st σ Q
theorem L_353_33 (d : Nat) (ls st : List Value) (σ : MS) (Q : Option Value → MS → Prop) : zX d 353 33 ls st σ Q = zB d 353 zt_353_33 ls st σ Q := zX_eq d 353 33 ls st σ Q
theorem L_353_47 (d : Nat) (ls st : List Value) (σ : MS) (Q : Option Value → MS → Prop) : zX d 353 47 ls st σ Q = zB d 353 zt_353_47 ls st σ Q := zX_eq d 353 47 ls st σ Q
theorem L_353_49 (d : Nat) (ls st : List Value) (σ : MS) (Q : Option Value → MS → Prop) : zX d 353 49 ls st σ Q = zB d 353 zt_353_49 ls st σ Q := zX_eq d 353 49 ls st σ Q
theorem L_353_76 (d : Nat) (ls st : List Value) (σ : MS) (Q : Option Value → MS → Prop) : zX d 353 76 ls st σ Q = zB d 353 zt_353_76 ls st σ Q := zX_eq d 353 76 ls st σ Q
theorem L_353_82 (d : Nat) (ls st : List Value) (σ : MS) (Q : Option Value → MS → Prop) : zX d 353 82 ls st σ Q = zB d 353 zt_353_82 ls st σ Q := zX_eq d 353 82 ls st σ Q
theorem L_354_0 (d : Nat) (ls st : List Value) (σ : MS) (Q : Option Value → MS → Prop) : zX d 354 0 ls st σ Q = zB d 354 zt_354_0 ls st σ Q := zX_eq d 354 0 ls st σ Q
theorem L_354_4 (d : Nat) (ls st : List Value) (σ : MS) (Q : Option Value → MS → Prop) : zX d 354 4 ls st σ Q = zB d 354 zt_354_4 ls st σ Q := zX_eq d 354 4 ls st σ Q
theorem L_354_19 (d : Nat) (ls st : List Value) (σ : MS) (Q : Option Value → MS → Prop) : zX d 354 19 ls st σ Q = zB d 354 zt_354_19 ls st σ Q := zX_eq d 354 19 ls st σ Q
theorem L_355_0 (d : Nat) (ls st : List Value) (σ : MS) (Q : Option Value → MS → Prop) : zX d 355 0 ls st σ Q = zB d 355 zt_355_0 ls st σ Q := zX_eq d 355 0 ls st σ Q
theorem L_355_19 (d : Nat) (ls st : List Value) (σ : MS) (Q : Option Value → MS → Prop) : zX d 355 19 ls st σ Q = zB d 355 zt_355_19 ls st σ Q := zX_eq d 355 19 ls st σ Q
theorem L_355_52 (d : Nat) (ls st : List Value) (σ : MS) (Q : Option Value → MS → Prop) : zX d 355 52 ls st σ Q = zB d 355 zt_355_52 ls st σ Q := zX_eq d 355 52 ls st σ Q
theorem L_355_53 (d : Nat) (ls st : List Value) (σ : MS) (Q : Option Value → MS → Prop) : zX d 355 53 ls st σ Q = zB d 355 zt_355_53 ls st σ Q := zX_eq d 355 53 ls st σ Q
theorem L_355_62 (d : Nat) (ls st : List Value) (σ : MS) (Q : Option Value → MS → Prop) : zX d 355 62 ls st σ Q = zB d 355 zt_355_62 ls st σ Q := zX_eq d 355 62 ls st σ Q
theorem L_356_0 (d : Nat) (ls st : List Value) (σ : MS) (Q : Option Value → MS → Prop) : zX d 356 0 ls st σ Q = zB d 356 zt_356_0 ls st σ Q := zX_eq d 356 0 ls st σ Q
theorem L_356_3 (d : Nat) (ls st : List Value) (σ : MS) (Q : Option Value → MS → Prop) : zX d 356 3 ls st σ Q = zB d 356 zt_356_3 ls st σ Q := zX_eq d 356 3 ls st σ Q
theorem L_356_69 (d : Nat) (ls st : List Value) (σ : MS) (Q : Option Value → MS → Prop) : zX d 356 69 ls st σ Q = zB d 356 zt_356_69 ls st σ Q := zX_eq d 356 69 ls st σ Q
theorem L_356_75 (d : Nat) (ls st : List Value) (σ : MS) (Q : Option Value → MS → Prop) : zX d 356 75 ls st σ Q = zB d 356 zt_356_75 ls st σ Q := zX_eq d 356 75 ls st σ Q
theorem L_357_0 (d : Nat) (ls st : List Value) (σ : MS) (Q : Option Value → MS → Prop) : zX d 357 0 ls st σ Q = zB d 357 zt_357_0 ls st σ Q := zX_eq d 357 0 ls st σ Q
theorem L_357_6 (d : Nat) (ls st : List Value) (σ : MS) (Q : Option Value → MS → Prop) : zX d 357 6 ls st σ Q = zB d 357 zt_357_6 ls st σ Q := zX_eq d 357 6 ls st σ Q
theorem L_357_29 (d : Nat) (ls st : List Value) (σ : MS) (Q : Option Value → MS → Prop) : zX d 357 29 ls st σ Q = zB d 357 zt_357_29 ls st σ Q := zX_eq d 357 29 ls st σ Q
theorem L_357_40 (d : Nat) (ls st : List Value) (σ : MS) (Q : Option Value → MS → Prop) : zX d 357 40 ls st σ Q = zB d 357 zt_357_40 ls st σ Q := zX_eq d 357 40 ls st σ Q
theorem L_357_61 (d : Nat) (ls st : List Value) (σ : MS) (Q : Option Value → MS → Prop) : zX d 357 61 ls st σ Q = zB d 357 zt_357_61 ls st σ Q := zX_eq d 357 61 ls st σ Q
theorem L_357_83 (d : Nat) (ls st : List Value) (σ : MS) (Q : Option Value → MS → Prop) : zX d 357 83 ls st σ Q = zB d 357 zt_357_83 ls st σ Q := zX_eq d 357 83 ls st σ Q
theorem L_357_88 (d : Nat) (ls st : List Value) (σ : MS) (Q : Option Value → MS → Prop) : zX d 357 88 ls st σ Q = zB d 357 zt_357_88 ls st σ Q := zX_eq d 357 88 ls st σ Q
theorem L_357_89 (d : Nat) (ls st : List Value) (σ : MS) (Q : Option Value → MS → Prop) : zX d 357 89 ls st σ Q = zB d 357 zt_357_89 ls st σ Q := zX_eq d 357 89 ls st σ Q
theorem L_357_101 (d : Nat) (ls st : List Value) (σ : MS) (Q : Option Value → MS → Prop) : zX d 357 101 ls st σ Q = zB d 357 zt_357_101 ls st σ Q := zX_eq d 357 101 ls st σ Q
theorem L_357_107 (d : Nat) (ls st : List Value) (σ : MS) (Q : Option Value → MS → Prop) : zX d 357 107 ls st σ Q = zB d 357 zt_357_107 ls st σ Q := zX_eq d 357 107 ls st σ Q
theorem L_358_0 (d : Nat) (ls st : List Value) (σ : MS) (Q : Option Value → MS → Prop) : zX d 358 0 ls st σ Q = zB d 358 zt_358_0 ls st σ Q := zX_eq d 358 0 ls st σ Q
theorem L_358_17 (d : Nat) (ls st : List Value) (σ : MS) (Q : Option Value → MS → Prop) : zX d 358 17 ls st σ Q = zB d 358 zt_358_17 ls st σ Q := zX_eq d 358 17 ls st σ Q
theorem L_359_0 (d : Nat) (ls st : List Value) (σ : MS) (Q : Option Value → MS → Prop) : zX d 359 0 ls st σ Q = zB d 359 zt_359_0 ls st σ Q := zX_eq d 359 0 ls st σ Q
theorem L_359_17 (d : Nat) (ls st : List Value) (σ : MS) (Q : Option Value → MS → Prop) : zX d 359 17 ls st σ Q = zB d 359 zt_359_17 ls st σ Q := zX_eq d 359 17 ls st σ Q
theorem L_359_18 (d : Nat) (ls st : List Value) (σ : MS) (Q : Option Value → MS → Prop) : zX d 359 18 ls st σ Q = zB d 359 zt_359_18 ls st σ Q := zX_eq d 359 18 ls st σ Q
theorem L_359_32 (d : Nat) (ls st : List Value) (σ : MS) (Q : Option Value → MS → Prop) : zX d 359 32 ls st σ Q = zB d 359 zt_359_32 ls st σ Q := zX_eq d 359 32 ls st σ Q
theorem L_359_55 (d : Nat) (ls st : List Value) (σ : MS) (Q : Option Value → MS → Prop) : zX d 359 55 ls st σ Q = zB d 359 zt_359_55 ls st σ Q := zX_eq d 359 55 ls st σ Q
theorem L_359_61 (d : Nat) (ls st : List Value) (σ : MS) (Q : Option Value → MS → Prop) : zX d 359 61 ls st σ Q = zB d 359 zt_359_61 ls st σ Q := zX_eq d 359 61 ls st σ Q
theorem L_360_0 (d : Nat) (ls st : List Value) (σ : MS) (Q : Option Value → MS → Prop) : zX d 360 0 ls st σ Q = zB d 360 zt_360_0 ls st σ Q := zX_eq d 360 0 ls st σ Q
theorem L_360_7 (d : Nat) (ls st : List Value) (σ : MS) (Q : Option Value → MS → Prop) : zX d 360 7 ls st σ Q = zB d 360 zt_360_7 ls st σ Q := zX_eq d 360 7 ls st σ Q
theorem L_360_19 (d : Nat) (ls st : List Value) (σ : MS) (Q : Option Value → MS → Prop) : zX d 360 19 ls st σ Q = zB d 360 zt_360_19 ls st σ Q := zX_eq d 360 19 ls st σ Q
theorem L_360_39 (d : Nat) (ls st : List Value) (σ : MS) (Q : Option Value → MS → Prop) : zX d 360 39 ls st σ Q = zB d 360 zt_360_39 ls st σ Q := zX_eq d 360 39 ls st σ Q
theorem L_360_64 (d : Nat) (ls st : List Value) (σ : MS) (Q : Option Value → MS → Prop) : zX d 360 64 ls st σ Q = zB d 360 zt_360_64 ls st σ Q := zX_eq d 360 64 ls st σ Q
theorem L_360_70 (d : Nat) (ls st : List Value) (σ : MS) (Q : Option Value → MS → Prop) : zX d 360 70 ls st σ Q = zB d 360 zt_360_70 ls st σ Q := zX_eq d 360 70 ls st σ Q
theorem L_360_76 (d : Nat) (ls st : List Value) (σ : MS) (Q : Option Value → MS → Prop) : zX d 360 76 ls st σ Q = zB d 360 zt_360_76 ls st σ Q := zX_eq d 360 76 ls st σ Q
theorem L_361_0 (d : Nat) (ls st : List Value) (σ : MS) (Q : Option Value → MS → Prop) : zX d 361 0 ls st σ Q = zB d 361 zt_361_0 ls st σ Q := zX_eq d 361 0 ls st σ Q
theorem L_361_2 (d : Nat) (ls st : List Value) (σ : MS) (Q : Option Value → MS → Prop) : zX d 361 2 ls st σ Q = zB d 361 zt_361_2 ls st σ Q := zX_eq d 361 2 ls st σ Q
theorem L_361_28 (d : Nat) (ls st : List Value) (σ : MS) (Q : Option Value → MS → Prop) : zX d 361 28 ls st σ Q = zB d 361 zt_361_28 ls st σ Q := zX_eq d 361 28 ls st σ Q
theorem L_362_0 (d : Nat) (ls st : List Value) (σ : MS) (Q : Option Value → MS → Prop) : zX d 362 0 ls st σ Q = zB d 362 zt_362_0 ls st σ Q := zX_eq d 362 0 ls st σ Q
theorem L_362_2 (d : Nat) (ls st : List Value) (σ : MS) (Q : Option Value → MS → Prop) : zX d 362 2 ls st σ Q = zB d 362 zt_362_2 ls st σ Q := zX_eq d 362 2 ls st σ Q
theorem L_362_28 (d : Nat) (ls st : List Value) (σ : MS) (Q : Option Value → MS → Prop) : zX d 362 28 ls st σ Q = zB d 362 zt_362_28 ls st σ Q := zX_eq d 362 28 ls st σ Q
theorem L_363_0 (d : Nat) (ls st : List Value) (σ : MS) (Q : Option Value → MS → Prop) : zX d 363 0 ls st σ Q = zB d 363 zt_363_0 ls st σ Q := zX_eq d 363 0 ls st σ Q
theorem L_364_0 (d : Nat) (ls st : List Value) (σ : MS) (Q : Option Value → MS → Prop) : zX d 364 0 ls st σ Q = zB d 364 zt_364_0 ls st σ Q := zX_eq d 364 0 ls st σ Q
theorem L_364_14 (d : Nat) (ls st : List Value) (σ : MS) (Q : Option Value → MS → Prop) : zX d 364 14 ls st σ Q = zB d 364 zt_364_14 ls st σ Q := zX_eq d 364 14 ls st σ Q
theorem L_364_15 (d : Nat) (ls st : List Value) (σ : MS) (Q : Option Value → MS → Prop) : zX d 364 15 ls st σ Q = zB d 364 zt_364_15 ls st σ Q := zX_eq d 364 15 ls st σ Q
theorem L_364_39 (d : Nat) (ls st : List Value) (σ : MS) (Q : Option Value → MS → Prop) : zX d 364 39 ls st σ Q = zB d 364 zt_364_39 ls st σ Q := zX_eq d 364 39 ls st σ Q
theorem L_364_49 (d : Nat) (ls st : List Value) (σ : MS) (Q : Option Value → MS → Prop) : zX d 364 49 ls st σ Q = zB d 364 zt_364_49 ls st σ Q := zX_eq d 364 49 ls st σ Q
theorem L_364_50 (d : Nat) (ls st : List Value) (σ : MS) (Q : Option Value → MS → Prop) : zX d 364 50 ls st σ Q = zB d 364 zt_364_50 ls st σ Q := zX_eq d 364 50 ls st σ Q
theorem L_365_0 (d : Nat) (ls st : List Value) (σ : MS) (Q : Option Value → MS → Prop) : zX d 365 0 ls st σ Q = zB d 365 zt_365_0 ls st σ Q := zX_eq d 365 0 ls st σ Q
theorem L_365_33 (d : Nat) (ls st : List Value) (σ : MS) (Q : Option Value → MS → Prop) : zX d 365 33 ls st σ Q = zB d 365 zt_365_33 ls st σ Q := zX_eq d 365 33 ls st σ Q
theorem L_365_37 (d : Nat) (ls st : List Value) (σ : MS) (Q : Option Value → MS → Prop) : zX d 365 37 ls st σ Q = zB d 365 zt_365_37 ls st σ Q := zX_eq d 365 37 ls st σ Q
theorem L_365_38 (d : Nat) (ls st : List Value) (σ : MS) (Q : Option Value → MS → Prop) : zX d 365 38 ls st σ Q = zB d 365 zt_365_38 ls st σ Q := zX_eq d 365 38 ls st σ Q
theorem L_366_0 (d : Nat) (ls st : List Value) (σ : MS) (Q : Option Value → MS → Prop) : zX d 366 0 ls st σ Q = zB d 366 zt_366_0 ls st σ Q := zX_eq d 366 0 ls st σ Q
theorem L_366_9 (d : Nat) (ls st : List Value) (σ : MS) (Q : Option Value → MS → Prop) : zX d 366 9 ls st σ Q = zB d 366 zt_366_9 ls st σ Q := zX_eq d 366 9 ls st σ Q
theorem L_366_37 (d : Nat) (ls st : List Value) (σ : MS) (Q : Option Value → MS → Prop) : zX d 366 37 ls st σ Q = zB d 366 zt_366_37 ls st σ Q := zX_eq d 366 37 ls st σ Q
theorem L_366_75 (d : Nat) (ls st : List Value) (σ : MS) (Q : Option Value → MS → Prop) : zX d 366 75 ls st σ Q = zB d 366 zt_366_75 ls st σ Q := zX_eq d 366 75 ls st σ Q
theorem L_366_94 (d : Nat) (ls st : List Value) (σ : MS) (Q : Option Value → MS → Prop) : zX d 366 94 ls st σ Q = zB d 366 zt_366_94 ls st σ Q := zX_eq d 366 94 ls st σ Q
theorem L_366_110 (d : Nat) (ls st : List Value) (σ : MS) (Q : Option Value → MS → Prop) : zX d 366 110 ls st σ Q = zB d 366 zt_366_110 ls st σ Q := zX_eq d 366 110 ls st σ Q
theorem L_366_129 (d : Nat) (ls st : List Value) (σ : MS) (Q : Option Value → MS → Prop) : zX d 366 129 ls st σ Q = zB d 366 zt_366_129 ls st σ Q := zX_eq d 366 129 ls st σ Q
theorem L_366_157 (d : Nat) (ls st : List Value) (σ : MS) (Q : Option Value → MS → Prop) : zX d 366 157 ls st σ Q = zB d 366 zt_366_157 ls st σ Q := zX_eq d 366 157 ls st σ Q
theorem L_367_0 (d : Nat) (ls st : List Value) (σ : MS) (Q : Option Value → MS → Prop) : zX d 367 0 ls st σ Q = zB d 367 zt_367_0 ls st σ Q := zX_eq d 367 0 ls st σ Q
theorem L_367_24 (d : Nat) (ls st : List Value) (σ : MS) (Q : Option Value → MS → Prop) : zX d 367 24 ls st σ Q = zB d 367 zt_367_24 ls st σ Q := zX_eq d 367 24 ls st σ Q
theorem L_367_29 (d : Nat) (ls st : List Value) (σ : MS) (Q : Option Value → MS → Prop) : zX d 367 29 ls st σ Q = zB d 367 zt_367_29 ls st σ Q := zX_eq d 367 29 ls st σ Q
theorem L_368_0 (d : Nat) (ls st : List Value) (σ : MS) (Q : Option Value → MS → Prop) : zX d 368 0 ls st σ Q = zB d 368 zt_368_0 ls st σ Q := zX_eq d 368 0 ls st σ Q
theorem L_368_18 (d : Nat) (ls st : List Value) (σ : MS) (Q : Option Value → MS → Prop) : zX d 368 18 ls st σ Q = zB d 368 zt_368_18 ls st σ Q := zX_eq d 368 18 ls st σ Q
theorem L_368_48 (d : Nat) (ls st : List Value) (σ : MS) (Q : Option Value → MS → Prop) : zX d 368 48 ls st σ Q = zB d 368 zt_368_48 ls st σ Q := zX_eq d 368 48 ls st σ Q
theorem L_368_58 (d : Nat) (ls st : List Value) (σ : MS) (Q : Option Value → MS → Prop) : zX d 368 58 ls st σ Q = zB d 368 zt_368_58 ls st σ Q := zX_eq d 368 58 ls st σ Q
theorem L_369_0 (d : Nat) (ls st : List Value) (σ : MS) (Q : Option Value → MS → Prop) : zX d 369 0 ls st σ Q = zB d 369 zt_369_0 ls st σ Q := zX_eq d 369 0 ls st σ Q
theorem L_369_21 (d : Nat) (ls st : List Value) (σ : MS) (Q : Option Value → MS → Prop) : zX d 369 21 ls st σ Q = zB d 369 zt_369_21 ls st σ Q := zX_eq d 369 21 ls st σ Q
theorem L_369_27 (d : Nat) (ls st : List Value) (σ : MS) (Q : Option Value → MS → Prop) : zX d 369 27 ls st σ Q = zB d 369 zt_369_27 ls st σ Q := zX_eq d 369 27 ls st σ Q
theorem L_369_32 (d : Nat) (ls st : List Value) (σ : MS) (Q : Option Value → MS → Prop) : zX d 369 32 ls st σ Q = zB d 369 zt_369_32 ls st σ Q := zX_eq d 369 32 ls st σ Q
theorem L_369_54 (d : Nat) (ls st : List Value) (σ : MS) (Q : Option Value → MS → Prop) : zX d 369 54 ls st σ Q = zB d 369 zt_369_54 ls st σ Q := zX_eq d 369 54 ls st σ Q
theorem L_369_55 (d : Nat) (ls st : List Value) (σ : MS) (Q : Option Value → MS → Prop) : zX d 369 55 ls st σ Q = zB d 369 zt_369_55 ls st σ Q := zX_eq d 369 55 ls st σ Q
theorem L_369_62 (d : Nat) (ls st : List Value) (σ : MS) (Q : Option Value → MS → Prop) : zX d 369 62 ls st σ Q = zB d 369 zt_369_62 ls st σ Q := zX_eq d 369 62 ls st σ Q
theorem L_369_65 (d : Nat) (ls st : List Value) (σ : MS) (Q : Option Value → MS → Prop) : zX d 369 65 ls st σ Q = zB d 369 zt_369_65 ls st σ Q := zX_eq d 369 65 ls st σ Q
theorem L_369_82 (d : Nat) (ls st : List Value) (σ : MS) (Q : Option Value → MS → Prop) : zX d 369 82 ls st σ Q = zB d 369 zt_369_82 ls st σ Q := zX_eq d 369 82 ls st σ Q
theorem L_369_121 (d : Nat) (ls st : List Value) (σ : MS) (Q : Option Value → MS → Prop) : zX d 369 121 ls st σ Q = zB d 369 zt_369_121 ls st σ Q := zX_eq d 369 121 ls st σ Q
theorem L_369_139 (d : Nat) (ls st : List Value) (σ : MS) (Q : Option Value → MS → Prop) : zX d 369 139 ls st σ Q = zB d 369 zt_369_139 ls st σ Q := zX_eq d 369 139 ls st σ Q
theorem L_369_147 (d : Nat) (ls st : List Value) (σ : MS) (Q : Option Value → MS → Prop) : zX d 369 147 ls st σ Q = zB d 369 zt_369_147 ls st σ Q := zX_eq d 369 147 ls st σ Q
theorem L_369_159 (d : Nat) (ls st : List Value) (σ : MS) (Q : Option Value → MS → Prop) : zX d 369 159 ls st σ Q = zB d 369 zt_369_159 ls st σ Q := zX_eq d 369 159 ls st σ Q
theorem L_369_165 (d : Nat) (ls st : List Value) (σ : MS) (Q : Option Value → MS → Prop) : zX d 369 165 ls st σ Q = zB d 369 zt_369_165 ls st σ Q := zX_eq d 369 165 ls st σ Q
theorem L_369_190 (d : Nat) (ls st : List Value) (σ : MS) (Q : Option Value → MS → Prop) : zX d 369 190 ls st σ Q = zB d 369 zt_369_190 ls st σ Q := zX_eq d 369 190 ls st σ Q
theorem L_370_0 (d : Nat) (ls st : List Value) (σ : MS) (Q : Option Value → MS → Prop) : zX d 370 0 ls st σ Q = zB d 370 zt_370_0 ls st σ Q := zX_eq d 370 0 ls st σ Q
theorem L_370_13 (d : Nat) (ls st : List Value) (σ : MS) (Q : Option Value → MS → Prop) : zX d 370 13 ls st σ Q = zB d 370 zt_370_13 ls st σ Q := zX_eq d 370 13 ls st σ Q
theorem L_370_29 (d : Nat) (ls st : List Value) (σ : MS) (Q : Option Value → MS → Prop) : zX d 370 29 ls st σ Q = zB d 370 zt_370_29 ls st σ Q := zX_eq d 370 29 ls st σ Q
theorem L_370_48 (d : Nat) (ls st : List Value) (σ : MS) (Q : Option Value → MS → Prop) : zX d 370 48 ls st σ Q = zB d 370 zt_370_48 ls st σ Q := zX_eq d 370 48 ls st σ Q
theorem L_370_50 (d : Nat) (ls st : List Value) (σ : MS) (Q : Option Value → MS → Prop) : zX d 370 50 ls st σ Q = zB d 370 zt_370_50 ls st σ Q := zX_eq d 370 50 ls st σ Q
theorem L_370_81 (d : Nat) (ls st : List Value) (σ : MS) (Q : Option Value → MS → Prop) : zX d 370 81 ls st σ Q = zB d 370 zt_370_81 ls st σ Q := zX_eq d 370 81 ls st σ Q
theorem L_371_0 (d : Nat) (ls st : List Value) (σ : MS) (Q : Option Value → MS → Prop) : zX d 371 0 ls st σ Q = zB d 371 zt_371_0 ls st σ Q := zX_eq d 371 0 ls st σ Q
theorem L_372_0 (d : Nat) (ls st : List Value) (σ : MS) (Q : Option Value → MS → Prop) : zX d 372 0 ls st σ Q = zB d 372 zt_372_0 ls st σ Q := zX_eq d 372 0 ls st σ Q
theorem L_372_15 (d : Nat) (ls st : List Value) (σ : MS) (Q : Option Value → MS → Prop) : zX d 372 15 ls st σ Q = zB d 372 zt_372_15 ls st σ Q := zX_eq d 372 15 ls st σ Q
theorem L_372_16 (d : Nat) (ls st : List Value) (σ : MS) (Q : Option Value → MS → Prop) : zX d 372 16 ls st σ Q = zB d 372 zt_372_16 ls st σ Q := zX_eq d 372 16 ls st σ Q
theorem L_373_0 (d : Nat) (ls st : List Value) (σ : MS) (Q : Option Value → MS → Prop) : zX d 373 0 ls st σ Q = zB d 373 zt_373_0 ls st σ Q := zX_eq d 373 0 ls st σ Q
theorem L_373_11 (d : Nat) (ls st : List Value) (σ : MS) (Q : Option Value → MS → Prop) : zX d 373 11 ls st σ Q = zB d 373 zt_373_11 ls st σ Q := zX_eq d 373 11 ls st σ Q
theorem L_373_43 (d : Nat) (ls st : List Value) (σ : MS) (Q : Option Value → MS → Prop) : zX d 373 43 ls st σ Q = zB d 373 zt_373_43 ls st σ Q := zX_eq d 373 43 ls st σ Q
theorem L_373_53 (d : Nat) (ls st : List Value) (σ : MS) (Q : Option Value → MS → Prop) : zX d 373 53 ls st σ Q = zB d 373 zt_373_53 ls st σ Q := zX_eq d 373 53 ls st σ Q
theorem L_374_0 (d : Nat) (ls st : List Value) (σ : MS) (Q : Option Value → MS → Prop) : zX d 374 0 ls st σ Q = zB d 374 zt_374_0 ls st σ Q := zX_eq d 374 0 ls st σ Q
theorem L_375_0 (d : Nat) (ls st : List Value) (σ : MS) (Q : Option Value → MS → Prop) : zX d 375 0 ls st σ Q = zB d 375 zt_375_0 ls st σ Q := zX_eq d 375 0 ls st σ Q
theorem L_375_52 (d : Nat) (ls st : List Value) (σ : MS) (Q : Option Value → MS → Prop) : zX d 375 52 ls st σ Q = zB d 375 zt_375_52 ls st σ Q := zX_eq d 375 52 ls st σ Q
theorem L_375_63 (d : Nat) (ls st : List Value) (σ : MS) (Q : Option Value → MS → Prop) : zX d 375 63 ls st σ Q = zB d 375 zt_375_63 ls st σ Q := zX_eq d 375 63 ls st σ Q
theorem L_375_74 (d : Nat) (ls st : List Value) (σ : MS) (Q : Option Value → MS → Prop) : zX d 375 74 ls st σ Q = zB d 375 zt_375_74 ls st σ Q := zX_eq d 375 74 ls st σ Q
theorem L_375_88 (d : Nat) (ls st : List Value) (σ : MS) (Q : Option Value → MS → Prop) : zX d 375 88 ls st σ Q = zB d 375 zt_375_88 ls st σ Q := zX_eq d 375 88 ls st σ Q
theorem L_375_93 (d : Nat) (ls st : List Value) (σ : MS) (Q : Option Value → MS → Prop) : zX d 375 93 ls st σ Q = zB d 375 zt_375_93 ls st σ Q := zX_eq d 375 93 ls st σ Q
theorem L_375_120 (d : Nat) (ls st : List Value) (σ : MS) (Q : Option Value → MS → Prop) : zX d 375 120 ls st σ Q = zB d 375 zt_375_120 ls st σ Q := zX_eq d 375 120 ls st σ Q
theorem L_375_121 (d : Nat) (ls st : List Value) (σ : MS) (Q : Option Value → MS → Prop) : zX d 375 121 ls st σ Q = zB d 375 zt_375_121 ls st σ Q := zX_eq d 375 121 ls st σ Q
theorem L_375_125 (d : Nat) (ls st : List Value) (σ : MS) (Q : Option Value → MS → Prop) : zX d 375 125 ls st σ Q = zB d 375 zt_375_125 ls st σ Q := zX_eq d 375 125 ls st σ Q
theorem L_375_130 (d : Nat) (ls st : List Value) (σ : MS) (Q : Option Value → MS → Prop) : zX d 375 130 ls st σ Q = zB d 375 zt_375_130 ls st σ Q := zX_eq d 375 130 ls st σ Q
theorem L_376_0 (d : Nat) (ls st : List Value) (σ : MS) (Q : Option Value → MS → Prop) : zX d 376 0 ls st σ Q = zB d 376 zt_376_0 ls st σ Q := zX_eq d 376 0 ls st σ Q
theorem L_376_42 (d : Nat) (ls st : List Value) (σ : MS) (Q : Option Value → MS → Prop) : zX d 376 42 ls st σ Q = zB d 376 zt_376_42 ls st σ Q := zX_eq d 376 42 ls st σ Q
theorem L_376_87 (d : Nat) (ls st : List Value) (σ : MS) (Q : Option Value → MS → Prop) : zX d 376 87 ls st σ Q = zB d 376 zt_376_87 ls st σ Q := zX_eq d 376 87 ls st σ Q
theorem L_376_88 (d : Nat) (ls st : List Value) (σ : MS) (Q : Option Value → MS → Prop) : zX d 376 88 ls st σ Q = zB d 376 zt_376_88 ls st σ Q := zX_eq d 376 88 ls st σ Q
theorem L_376_89 (d : Nat) (ls st : List Value) (σ : MS) (Q : Option Value → MS → Prop) : zX d 376 89 ls st σ Q = zB d 376 zt_376_89 ls st σ Q := zX_eq d 376 89 ls st σ Q
theorem L_376_119 (d : Nat) (ls st : List Value) (σ : MS) (Q : Option Value → MS → Prop) : zX d 376 119 ls st σ Q = zB d 376 zt_376_119 ls st σ Q := zX_eq d 376 119 ls st σ Q
theorem L_376_123 (d : Nat) (ls st : List Value) (σ : MS) (Q : Option Value → MS → Prop) : zX d 376 123 ls st σ Q = zB d 376 zt_376_123 ls st σ Q := zX_eq d 376 123 ls st σ Q
theorem L_376_147 (d : Nat) (ls st : List Value) (σ : MS) (Q : Option Value → MS → Prop) : zX d 376 147 ls st σ Q = zB d 376 zt_376_147 ls st σ Q := zX_eq d 376 147 ls st σ Q
theorem L_376_151 (d : Nat) (ls st : List Value) (σ : MS) (Q : Option Value → MS → Prop) : zX d 376 151 ls st σ Q = zB d 376 zt_376_151 ls st σ Q := zX_eq d 376 151 ls st σ Q
theorem L_376_162 (d : Nat) (ls st : List Value) (σ : MS) (Q : Option Value → MS → Prop) : zX d 376 162 ls st σ Q = zB d 376 zt_376_162 ls st σ Q := zX_eq d 376 162 ls st σ Q
theorem L_376_163 (d : Nat) (ls st : List Value) (σ : MS) (Q : Option Value → MS → Prop) : zX d 376 163 ls st σ Q = zB d 376 zt_376_163 ls st σ Q := zX_eq d 376 163 ls st σ Q
theorem L_377_0 (d : Nat) (ls st : List Value) (σ : MS) (Q : Option Value → MS → Prop) : zX d 377 0 ls st σ Q = zB d 377 zt_377_0 ls st σ Q := zX_eq d 377 0 ls st σ Q
theorem L_377_2 (d : Nat) (ls st : List Value) (σ : MS) (Q : Option Value → MS → Prop) : zX d 377 2 ls st σ Q = zB d 377 zt_377_2 ls st σ Q := zX_eq d 377 2 ls st σ Q
theorem L_377_75 (d : Nat) (ls st : List Value) (σ : MS) (Q : Option Value → MS → Prop) : zX d 377 75 ls st σ Q = zB d 377 zt_377_75 ls st σ Q := zX_eq d 377 75 ls st σ Q
theorem L_377_76 (d : Nat) (ls st : List Value) (σ : MS) (Q : Option Value → MS → Prop) : zX d 377 76 ls st σ Q = zB d 377 zt_377_76 ls st σ Q := zX_eq d 377 76 ls st σ Q
theorem L_377_94 (d : Nat) (ls st : List Value) (σ : MS) (Q : Option Value → MS → Prop) : zX d 377 94 ls st σ Q = zB d 377 zt_377_94 ls st σ Q := zX_eq d 377 94 ls st σ Q
theorem L_377_95 (d : Nat) (ls st : List Value) (σ : MS) (Q : Option Value → MS → Prop) : zX d 377 95 ls st σ Q = zB d 377 zt_377_95 ls st σ Q := zX_eq d 377 95 ls st σ Q
theorem L_377_108 (d : Nat) (ls st : List Value) (σ : MS) (Q : Option Value → MS → Prop) : zX d 377 108 ls st σ Q = zB d 377 zt_377_108 ls st σ Q := zX_eq d 377 108 ls st σ Q
theorem L_377_111 (d : Nat) (ls st : List Value) (σ : MS) (Q : Option Value → MS → Prop) : zX d 377 111 ls st σ Q = zB d 377 zt_377_111 ls st σ Q := zX_eq d 377 111 ls st σ Q
theorem L_377_115 (d : Nat) (ls st : List Value) (σ : MS) (Q : Option Value → MS → Prop) : zX d 377 115 ls st σ Q = zB d 377 zt_377_115 ls st σ Q := zX_eq d 377 115 ls st σ Q
theorem L_378_0 (d : Nat) (ls st : List Value) (σ : MS) (Q : Option Value → MS → Prop) : zX d 378 0 ls st σ Q = zB d 378 zt_378_0 ls st σ Q := zX_eq d 378 0 ls st σ Q
theorem L_378_12 (d : Nat) (ls st : List Value) (σ : MS) (Q : Option Value → MS → Prop) : zX d 378 12 ls st σ Q = zB d 378 zt_378_12 ls st σ Q := zX_eq d 378 12 ls st σ Q
theorem L_378_30 (d : Nat) (ls st : List Value) (σ : MS) (Q : Option Value → MS → Prop) : zX d 378 30 ls st σ Q = zB d 378 zt_378_30 ls st σ Q := zX_eq d 378 30 ls st σ Q
theorem L_378_32 (d : Nat) (ls st : List Value) (σ : MS) (Q : Option Value → MS → Prop) : zX d 378 32 ls st σ Q = zB d 378 zt_378_32 ls st σ Q := zX_eq d 378 32 ls st σ Q
theorem L_378_61 (d : Nat) (ls st : List Value) (σ : MS) (Q : Option Value → MS → Prop) : zX d 378 61 ls st σ Q = zB d 378 zt_378_61 ls st σ Q := zX_eq d 378 61 ls st σ Q
theorem L_378_91 (d : Nat) (ls st : List Value) (σ : MS) (Q : Option Value → MS → Prop) : zX d 378 91 ls st σ Q = zB d 378 zt_378_91 ls st σ Q := zX_eq d 378 91 ls st σ Q
theorem L_378_110 (d : Nat) (ls st : List Value) (σ : MS) (Q : Option Value → MS → Prop) : zX d 378 110 ls st σ Q = zB d 378 zt_378_110 ls st σ Q := zX_eq d 378 110 ls st σ Q
theorem L_378_111 (d : Nat) (ls st : List Value) (σ : MS) (Q : Option Value → MS → Prop) : zX d 378 111 ls st σ Q = zB d 378 zt_378_111 ls st σ Q := zX_eq d 378 111 ls st σ Q
theorem L_378_140 (d : Nat) (ls st : List Value) (σ : MS) (Q : Option Value → MS → Prop) : zX d 378 140 ls st σ Q = zB d 378 zt_378_140 ls st σ Q := zX_eq d 378 140 ls st σ Q
theorem L_378_174 (d : Nat) (ls st : List Value) (σ : MS) (Q : Option Value → MS → Prop) : zX d 378 174 ls st σ Q = zB d 378 zt_378_174 ls st σ Q := zX_eq d 378 174 ls st σ Q
theorem L_378_177 (d : Nat) (ls st : List Value) (σ : MS) (Q : Option Value → MS → Prop) : zX d 378 177 ls st σ Q = zB d 378 zt_378_177 ls st σ Q := zX_eq d 378 177 ls st σ Q
theorem L_378_184 (d : Nat) (ls st : List Value) (σ : MS) (Q : Option Value → MS → Prop) : zX d 378 184 ls st σ Q = zB d 378 zt_378_184 ls st σ Q := zX_eq d 378 184 ls st σ Q
theorem L_379_0 (d : Nat) (ls st : List Value) (σ : MS) (Q : Option Value → MS → Prop) : zX d 379 0 ls st σ Q = zB d 379 zt_379_0 ls st σ Q := zX_eq d 379 0 ls st σ Q
theorem L_379_18 (d : Nat) (ls st : List Value) (σ : MS) (Q : Option Value → MS → Prop) : zX d 379 18 ls st σ Q = zB d 379 zt_379_18 ls st σ Q := zX_eq d 379 18 ls st σ Q
theorem L_379_36 (d : Nat) (ls st : List Value) (σ : MS) (Q : Option Value → MS → Prop) : zX d 379 36 ls st σ Q = zB d 379 zt_379_36 ls st σ Q := zX_eq d 379 36 ls st σ Q
theorem L_379_43 (d : Nat) (ls st : List Value) (σ : MS) (Q : Option Value → MS → Prop) : zX d 379 43 ls st σ Q = zB d 379 zt_379_43 ls st σ Q := zX_eq d 379 43 ls st σ Q
theorem L_379_66 (d : Nat) (ls st : List Value) (σ : MS) (Q : Option Value → MS → Prop) : zX d 379 66 ls st σ Q = zB d 379 zt_379_66 ls st σ Q := zX_eq d 379 66 ls st σ Q
theorem L_380_0 (d : Nat) (ls st : List Value) (σ : MS) (Q : Option Value → MS → Prop) : zX d 380 0 ls st σ Q = zB d 380 zt_380_0 ls st σ Q := zX_eq d 380 0 ls st σ Q
theorem L_380_9 (d : Nat) (ls st : List Value) (σ : MS) (Q : Option Value → MS → Prop) : zX d 380 9 ls st σ Q = zB d 380 zt_380_9 ls st σ Q := zX_eq d 380 9 ls st σ Q
theorem L_380_17 (d : Nat) (ls st : List Value) (σ : MS) (Q : Option Value → MS → Prop) : zX d 380 17 ls st σ Q = zB d 380 zt_380_17 ls st σ Q := zX_eq d 380 17 ls st σ Q
theorem L_380_37 (d : Nat) (ls st : List Value) (σ : MS) (Q : Option Value → MS → Prop) : zX d 380 37 ls st σ Q = zB d 380 zt_380_37 ls st σ Q := zX_eq d 380 37 ls st σ Q
theorem L_380_43 (d : Nat) (ls st : List Value) (σ : MS) (Q : Option Value → MS → Prop) : zX d 380 43 ls st σ Q = zB d 380 zt_380_43 ls st σ Q := zX_eq d 380 43 ls st σ Q
theorem L_381_0 (d : Nat) (ls st : List Value) (σ : MS) (Q : Option Value → MS → Prop) : zX d 381 0 ls st σ Q = zB d 381 zt_381_0 ls st σ Q := zX_eq d 381 0 ls st σ Q
theorem L_381_35 (d : Nat) (ls st : List Value) (σ : MS) (Q : Option Value → MS → Prop) : zX d 381 35 ls st σ Q = zB d 381 zt_381_35 ls st σ Q := zX_eq d 381 35 ls st σ Q
theorem L_381_41 (d : Nat) (ls st : List Value) (σ : MS) (Q : Option Value → MS → Prop) : zX d 381 41 ls st σ Q = zB d 381 zt_381_41 ls st σ Q := zX_eq d 381 41 ls st σ Q
theorem L_381_59 (d : Nat) (ls st : List Value) (σ : MS) (Q : Option Value → MS → Prop) : zX d 381 59 ls st σ Q = zB d 381 zt_381_59 ls st σ Q := zX_eq d 381 59 ls st σ Q
theorem L_381_71 (d : Nat) (ls st : List Value) (σ : MS) (Q : Option Value → MS → Prop) : zX d 381 71 ls st σ Q = zB d 381 zt_381_71 ls st σ Q := zX_eq d 381 71 ls st σ Q
theorem L_381_106 (d : Nat) (ls st : List Value) (σ : MS) (Q : Option Value → MS → Prop) : zX d 381 106 ls st σ Q = zB d 381 zt_381_106 ls st σ Q := zX_eq d 381 106 ls st σ Q
theorem L_382_0 (d : Nat) (ls st : List Value) (σ : MS) (Q : Option Value → MS → Prop) : zX d 382 0 ls st σ Q = zB d 382 zt_382_0 ls st σ Q := zX_eq d 382 0 ls st σ Q
theorem L_382_2 (d : Nat) (ls st : List Value) (σ : MS) (Q : Option Value → MS → Prop) : zX d 382 2 ls st σ Q = zB d 382 zt_382_2 ls st σ Q := zX_eq d 382 2 ls st σ Q
theorem L_382_39 (d : Nat) (ls st : List Value) (σ : MS) (Q : Option Value → MS → Prop) : zX d 382 39 ls st σ Q = zB d 382 zt_382_39 ls st σ Q := zX_eq d 382 39 ls st σ Q
theorem L_382_41 (d : Nat) (ls st : List Value) (σ : MS) (Q : Option Value → MS → Prop) : zX d 382 41 ls st σ Q = zB d 382 zt_382_41 ls st σ Q := zX_eq d 382 41 ls st σ Q
theorem L_382_75 (d : Nat) (ls st : List Value) (σ : MS) (Q : Option Value → MS → Prop) : zX d 382 75 ls st σ Q = zB d 382 zt_382_75 ls st σ Q := zX_eq d 382 75 ls st σ Q
theorem L_383_0 (d : Nat) (ls st : List Value) (σ : MS) (Q : Option Value → MS → Prop) : zX d 383 0 ls st σ Q = zB d 383 zt_383_0 ls st σ Q := zX_eq d 383 0 ls st σ Q
theorem L_383_14 (d : Nat) (ls st : List Value) (σ : MS) (Q : Option Value → MS → Prop) : zX d 383 14 ls st σ Q = zB d 383 zt_383_14 ls st σ Q := zX_eq d 383 14 ls st σ Q
theorem L_384_0 (d : Nat) (ls st : List Value) (σ : MS) (Q : Option Value → MS → Prop) : zX d 384 0 ls st σ Q = zB d 384 zt_384_0 ls st σ Q := zX_eq d 384 0 ls st σ Q
theorem L_384_14 (d : Nat) (ls st : List Value) (σ : MS) (Q : Option Value → MS → Prop) : zX d 384 14 ls st σ Q = zB d 384 zt_384_14 ls st σ Q := zX_eq d 384 14 ls st σ Q
theorem L_385_0 (d : Nat) (ls st : List Value) (σ : MS) (Q : Option Value → MS → Prop) : zX d 385 0 ls st σ Q = zB d 385 zt_385_0 ls st σ Q := zX_eq d 385 0 ls st σ Q
theorem L_385_18 (d : Nat) (ls st : List Value) (σ : MS) (Q : Option Value → MS → Prop) : zX d 385 18 ls st σ Q = zB d 385 zt_385_18 ls st σ Q := zX_eq d 385 18 ls st σ Q
theorem L_385_304 (d : Nat) (ls st : List Value) (σ : MS) (Q : Option Value → MS → Prop) : zX d 385 304 ls st σ Q = zB d 385 zt_385_304 ls st σ Q := zX_eq d 385 304 ls st σ Q
theorem L_385_317 (d : Nat) (ls st : List Value) (σ : MS) (Q : Option Value → MS → Prop) : zX d 385 317 ls st σ Q = zB d 385 zt_385_317 ls st σ Q := zX_eq d 385 317 ls st σ Q
theorem L_385_331 (d : Nat) (ls st : List Value) (σ : MS) (Q : Option Value → MS → Prop) : zX d 385 331 ls st σ Q = zB d 385 zt_385_331 ls st σ Q := zX_eq d 385 331 ls st σ Q
theorem L_385_345 (d : Nat) (ls st : List Value) (σ : MS) (Q : Option Value → MS → Prop) : zX d 385 345 ls st σ Q = zB d 385 zt_385_345 ls st σ Q := zX_eq d 385 345 ls st σ Q
theorem L_385_388 (d : Nat) (ls st : List Value) (σ : MS) (Q : Option Value → MS → Prop) : zX d 385 388 ls st σ Q = zB d 385 zt_385_388 ls st σ Q := zX_eq d 385 388 ls st σ Q
theorem L_385_461 (d : Nat) (ls st : List Value) (σ : MS) (Q : Option Value → MS → Prop) : zX d 385 461 ls st σ Q = zB d 385 zt_385_461 ls st σ Q := zX_eq d 385 461 ls st σ Q
theorem L_385_495 (d : Nat) (ls st : List Value) (σ : MS) (Q : Option Value → MS → Prop) : zX d 385 495 ls st σ Q = zB d 385 zt_385_495 ls st σ Q := zX_eq d 385 495 ls st σ Q
theorem L_385_558 (d : Nat) (ls st : List Value) (σ : MS) (Q : Option Value → MS → Prop) : zX d 385 558 ls st σ Q = zB d 385 zt_385_558 ls st σ Q := zX_eq d 385 558 ls st σ Q
theorem L_385_621 (d : Nat) (ls st : List Value) (σ : MS) (Q : Option Value → MS → Prop) : zX d 385 621 ls st σ Q = zB d 385 zt_385_621 ls st σ Q := zX_eq d 385 621 ls st σ Q
theorem L_385_644 (d : Nat) (ls st : List Value) (σ : MS) (Q : Option Value → MS → Prop) : zX d 385 644 ls st σ Q = zB d 385 zt_385_644 ls st σ Q := zX_eq d 385 644 ls st σ Q
theorem L_385_667 (d : Nat) (ls st : List Value) (σ : MS) (Q : Option Value → MS → Prop) : zX d 385 667 ls st σ Q = zB d 385 zt_385_667 ls st σ Q := zX_eq d 385 667 ls st σ Q
theorem L_385_690 (d : Nat) (ls st : List Value) (σ : MS) (Q : Option Value → MS → Prop) : zX d 385 690 ls st σ Q = zB d 385 zt_385_690 ls st σ Q := zX_eq d 385 690 ls st σ Q
theorem L_385_713 (d : Nat) (ls st : List Value) (σ : MS) (Q : Option Value → MS → Prop) : zX d 385 713 ls st σ Q = zB d 385 zt_385_713 ls st σ Q := zX_eq d 385 713 ls st σ Q
theorem L_385_746 (d : Nat) (ls st : List Value) (σ : MS) (Q : Option Value → MS → Prop) : zX d 385 746 ls st σ Q = zB d 385 zt_385_746 ls st σ Q := zX_eq d 385 746 ls st σ Q
theorem L_385_769 (d : Nat) (ls st : List Value) (σ : MS) (Q : Option Value → MS → Prop) : zX d 385 769 ls st σ Q = zB d 385 zt_385_769 ls st σ Q := zX_eq d 385 769 ls st σ Q
theorem L_385_792 (d : Nat) (ls st : List Value) (σ : MS) (Q : Option Value → MS → Prop) : zX d 385 792 ls st σ Q = zB d 385 zt_385_792 ls st σ Q := zX_eq d 385 792 ls st σ Q
theorem L_385_815 (d : Nat) (ls st : List Value) (σ : MS) (Q : Option Value → MS → Prop) : zX d 385 815 ls st σ Q = zB d 385 zt_385_815 ls st σ Q := zX_eq d 385 815 ls st σ Q
theorem L_385_838 (d : Nat) (ls st : List Value) (σ : MS) (Q : Option Value → MS → Prop) : zX d 385 838 ls st σ Q = zB d 385 zt_385_838 ls st σ Q := zX_eq d 385 838 ls st σ Q
theorem L_385_861 (d : Nat) (ls st : List Value) (σ : MS) (Q : Option Value → MS → Prop) : zX d 385 861 ls st σ Q = zB d 385 zt_385_861 ls st σ Q := zX_eq d 385 861 ls st σ Q
theorem L_385_894 (d : Nat) (ls st : List Value) (σ : MS) (Q : Option Value → MS → Prop) : zX d 385 894 ls st σ Q = zB d 385 zt_385_894 ls st σ Q := zX_eq d 385 894 ls st σ Q
theorem L_385_917 (d : Nat) (ls st : List Value) (σ : MS) (Q : Option Value → MS → Prop) : zX d 385 917 ls st σ Q = zB d 385 zt_385_917 ls st σ Q := zX_eq d 385 917 ls st σ Q
theorem L_385_950 (d : Nat) (ls st : List Value) (σ : MS) (Q : Option Value → MS → Prop) : zX d 385 950 ls st σ Q = zB d 385 zt_385_950 ls st σ Q := zX_eq d 385 950 ls st σ Q
theorem L_385_963 (d : Nat) (ls st : List Value) (σ : MS) (Q : Option Value → MS → Prop) : zX d 385 963 ls st σ Q = zB d 385 zt_385_963 ls st σ Q := zX_eq d 385 963 ls st σ Q
theorem L_385_986 (d : Nat) (ls st : List Value) (σ : MS) (Q : Option Value → MS → Prop) : zX d 385 986 ls st σ Q = zB d 385 zt_385_986 ls st σ Q := zX_eq d 385 986 ls st σ Q
theorem L_385_987 (d : Nat) (ls st : List Value) (σ : MS) (Q : Option Value → MS → Prop) : zX d 385 987 ls st σ Q = zB d 385 zt_385_987 ls st σ Q := zX_eq d 385 987 ls st σ Q
theorem L_385_1013 (d : Nat) (ls st : List Value) (σ : MS) (Q : Option Value → MS → Prop) : zX d 385 1013 ls st σ Q = zB d 385 zt_385_1013 ls st σ Q := zX_eq d 385 1013 ls st σ Q
theorem L_385_1014 (d : Nat) (ls st : List Value) (σ : MS) (Q : Option Value → MS → Prop) : zX d 385 1014 ls st σ Q = zB d 385 zt_385_1014 ls st σ Q := zX_eq d 385 1014 ls st σ Q
theorem L_385_1022 (d : Nat) (ls st : List Value) (σ : MS) (Q : Option Value → MS → Prop) : zX d 385 1022 ls st σ Q = zB d 385 zt_385_1022 ls st σ Q := zX_eq d 385 1022 ls st σ Q
theorem L_385_1055 (d : Nat) (ls st : List Value) (σ : MS) (Q : Option Value → MS → Prop) : zX d 385 1055 ls st σ Q = zB d 385 zt_385_1055 ls st σ Q := zX_eq d 385 1055 ls st σ Q
theorem L_385_1088 (d : Nat) (ls st : List Value) (σ : MS) (Q : Option Value → MS → Prop) : zX d 385 1088 ls st σ Q = zB d 385 zt_385_1088 ls st σ Q := zX_eq d 385 1088 ls st σ Q
theorem L_385_1121 (d : Nat) (ls st : List Value) (σ : MS) (Q : Option Value → MS → Prop) : zX d 385 1121 ls st σ Q = zB d 385 zt_385_1121 ls st σ Q := zX_eq d 385 1121 ls st σ Q
theorem L_385_1144 (d : Nat) (ls st : List Value) (σ : MS) (Q : Option Value → MS → Prop) : zX d 385 1144 ls st σ Q = zB d 385 zt_385_1144 ls st σ Q := zX_eq d 385 1144 ls st σ Q
theorem L_385_1177 (d : Nat) (ls st : List Value) (σ : MS) (Q : Option Value → MS → Prop) : zX d 385 1177 ls st σ Q = zB d 385 zt_385_1177 ls st σ Q := zX_eq d 385 1177 ls st σ Q
theorem L_385_1210 (d : Nat) (ls st : List Value) (σ : MS) (Q : Option Value → MS → Prop) : zX d 385 1210 ls st σ Q = zB d 385 zt_385_1210 ls st σ Q := zX_eq d 385 1210 ls st σ Q
theorem L_385_1243 (d : Nat) (ls st : List Value) (σ : MS) (Q : Option Value → MS → Prop) : zX d 385 1243 ls st σ Q = zB d 385 zt_385_1243 ls st σ Q := zX_eq d 385 1243 ls st σ Q
theorem L_385_1266 (d : Nat) (ls st : List Value) (σ : MS) (Q : Option Value → MS → Prop) : zX d 385 1266 ls st σ Q = zB d 385 zt_385_1266 ls st σ Q := zX_eq d 385 1266 ls st σ Q
theorem L_385_1289 (d : Nat) (ls st : List Value) (σ : MS) (Q : Option Value → MS → Prop) : zX d 385 1289 ls st σ Q = zB d 385 zt_385_1289 ls st σ Q := zX_eq d 385 1289 ls st σ Q
theorem L_385_1312 (d : Nat) (ls st : List Value) (σ : MS) (Q : Option Value → MS → Prop) : zX d 385 1312 ls st σ Q = zB d 385 zt_385_1312 ls st σ Q := zX_eq d 385 1312 ls st σ Q
theorem L_385_1325 (d : Nat) (ls st : List Value) (σ : MS) (Q : Option Value → MS → Prop) : zX d 385 1325 ls st σ Q = zB d 385 zt_385_1325 ls st σ Q := zX_eq d 385 1325 ls st σ Q
theorem L_385_1348 (d : Nat) (ls st : List Value) (σ : MS) (Q : Option Value → MS → Prop) : zX d 385 1348 ls st σ Q = zB d 385 zt_385_1348 ls st σ Q := zX_eq d 385 1348 ls st σ Q
theorem L_385_1381 (d : Nat) (ls st : List Value) (σ : MS) (Q : Option Value → MS → Prop) : zX d 385 1381 ls st σ Q = zB d 385 zt_385_1381 ls st σ Q := zX_eq d 385 1381 ls st σ Q
theorem L_385_1414 (d : Nat) (ls st : List Value) (σ : MS) (Q : Option Value → MS → Prop) : zX d 385 1414 ls st σ Q = zB d 385 zt_385_1414 ls st σ Q := zX_eq d 385 1414 ls st σ Q
theorem L_385_1437 (d : Nat) (ls st : List Value) (σ : MS) (Q : Option Value → MS → Prop) : zX d 385 1437 ls st σ Q = zB d 385 zt_385_1437 ls st σ Q := zX_eq d 385 1437 ls st σ Q
theorem L_385_1460 (d : Nat) (ls st : List Value) (σ : MS) (Q : Option Value → MS → Prop) : zX d 385 1460 ls st σ Q = zB d 385 zt_385_1460 ls st σ Q := zX_eq d 385 1460 ls st σ Q
theorem L_385_1493 (d : Nat) (ls st : List Value) (σ : MS) (Q : Option Value → MS → Prop) : zX d 385 1493 ls st σ Q = zB d 385 zt_385_1493 ls st σ Q := zX_eq d 385 1493 ls st σ Q
theorem L_385_1526 (d : Nat) (ls st : List Value) (σ : MS) (Q : Option Value → MS → Prop) : zX d 385 1526 ls st σ Q = zB d 385 zt_385_1526 ls st σ Q := zX_eq d 385 1526 ls st σ Q
theorem L_385_1559 (d : Nat) (ls st : List Value) (σ : MS) (Q : Option Value → MS → Prop) : zX d 385 1559 ls st σ Q = zB d 385 zt_385_1559 ls st σ Q := zX_eq d 385 1559 ls st σ Q
theorem L_385_1602 (d : Nat) (ls st : List Value) (σ : MS) (Q : Option Value → MS → Prop) : zX d 385 1602 ls st σ Q = zB d 385 zt_385_1602 ls st σ Q := zX_eq d 385 1602 ls st σ Q
theorem L_385_1625 (d : Nat) (ls st : List Value) (σ : MS) (Q : Option Value → MS → Prop) : zX d 385 1625 ls st σ Q = zB d 385 zt_385_1625 ls st σ Q := zX_eq d 385 1625 ls st σ Q
theorem L_385_1638 (d : Nat) (ls st : List Value) (σ : MS) (Q : Option Value → MS → Prop) : zX d 385 1638 ls st σ Q = zB d 385 zt_385_1638 ls st σ Q := zX_eq d 385 1638 ls st σ Q
theorem L_385_1651 (d : Nat) (ls st : List Value) (σ : MS) (Q : Option Value → MS → Prop) : zX d 385 1651 ls st σ Q = zB d 385 zt_385_1651 ls st σ Q := zX_eq d 385 1651 ls st σ Q
theorem L_385_1674 (d : Nat) (ls st : List Value) (σ : MS) (Q : Option Value → MS → Prop) : zX d 385 1674 ls st σ Q = zB d 385 zt_385_1674 ls st σ Q := zX_eq d 385 1674 ls st σ Q
theorem L_385_1687 (d : Nat) (ls st : List Value) (σ : MS) (Q : Option Value → MS → Prop) : zX d 385 1687 ls st σ Q = zB d 385 zt_385_1687 ls st σ Q := zX_eq d 385 1687 ls st σ Q
theorem L_385_1710 (d : Nat) (ls st : List Value) (σ : MS) (Q : Option Value → MS → Prop) : zX d 385 1710 ls st σ Q = zB d 385 zt_385_1710 ls st σ Q := zX_eq d 385 1710 ls st σ Q
theorem L_385_1723 (d : Nat) (ls st : List Value) (σ : MS) (Q : Option Value → MS → Prop) : zX d 385 1723 ls st σ Q = zB d 385 zt_385_1723 ls st σ Q := zX_eq d 385 1723 ls st σ Q
theorem L_385_1736 (d : Nat) (ls st : List Value) (σ : MS) (Q : Option Value → MS → Prop) : zX d 385 1736 ls st σ Q = zB d 385 zt_385_1736 ls st σ Q := zX_eq d 385 1736 ls st σ Q
theorem L_385_1759 (d : Nat) (ls st : List Value) (σ : MS) (Q : Option Value → MS → Prop) : zX d 385 1759 ls st σ Q = zB d 385 zt_385_1759 ls st σ Q := zX_eq d 385 1759 ls st σ Q
theorem L_385_1782 (d : Nat) (ls st : List Value) (σ : MS) (Q : Option Value → MS → Prop) : zX d 385 1782 ls st σ Q = zB d 385 zt_385_1782 ls st σ Q := zX_eq d 385 1782 ls st σ Q
theorem L_385_1815 (d : Nat) (ls st : List Value) (σ : MS) (Q : Option Value → MS → Prop) : zX d 385 1815 ls st σ Q = zB d 385 zt_385_1815 ls st σ Q := zX_eq d 385 1815 ls st σ Q
theorem L_385_1858 (d : Nat) (ls st : List Value) (σ : MS) (Q : Option Value → MS → Prop) : zX d 385 1858 ls st σ Q = zB d 385 zt_385_1858 ls st σ Q := zX_eq d 385 1858 ls st σ Q
theorem L_385_1881 (d : Nat) (ls st : List Value) (σ : MS) (Q : Option Value → MS → Prop) : zX d 385 1881 ls st σ Q = zB d 385 zt_385_1881 ls st σ Q := zX_eq d 385 1881 ls st σ Q
theorem L_385_1904 (d : Nat) (ls st : List Value) (σ : MS) (Q : Option Value → MS → Prop) : zX d 385 1904 ls st σ Q = zB d 385 zt_385_1904 ls st σ Q := zX_eq d 385 1904 ls st σ Q
theorem L_385_1937 (d : Nat) (ls st : List Value) (σ : MS) (Q : Option Value → MS → Prop) : zX d 385 1937 ls st σ Q = zB d 385 zt_385_1937 ls st σ Q := zX_eq d 385 1937 ls st σ Q
theorem L_385_1960 (d : Nat) (ls st : List Value) (σ : MS) (Q : Option Value → MS → Prop) : zX d 385 1960 ls st σ Q = zB d 385 zt_385_1960 ls st σ Q := zX_eq d 385 1960 ls st σ Q
theorem L_385_1983 (d : Nat) (ls st : List Value) (σ : MS) (Q : Option Value → MS → Prop) : zX d 385 1983 ls st σ Q = zB d 385 zt_385_1983 ls st σ Q := zX_eq d 385 1983 ls st σ Q
theorem L_385_2006 (d : Nat) (ls st : List Value) (σ : MS) (Q : Option Value → MS → Prop) : zX d 385 2006 ls st σ Q = zB d 385 zt_385_2006 ls st σ Q := zX_eq d 385 2006 ls st σ Q
theorem L_385_2039 (d : Nat) (ls st : List Value) (σ : MS) (Q : Option Value → MS → Prop) : zX d 385 2039 ls st σ Q = zB d 385 zt_385_2039 ls st σ Q := zX_eq d 385 2039 ls st σ Q
theorem L_385_2052 (d : Nat) (ls st : List Value) (σ : MS) (Q : Option Value → MS → Prop) : zX d 385 2052 ls st σ Q = zB d 385 zt_385_2052 ls st σ Q := zX_eq d 385 2052 ls st σ Q
theorem L_385_2065 (d : Nat) (ls st : List Value) (σ : MS) (Q : Option Value → MS → Prop) : zX d 385 2065 ls st σ Q = zB d 385 zt_385_2065 ls st σ Q := zX_eq d 385 2065 ls st σ Q
theorem L_385_2071 (d : Nat) (ls st : List Value) (σ : MS) (Q : Option Value → MS → Prop) : zX d 385 2071 ls st σ Q = zB d 385 zt_385_2071 ls st σ Q := zX_eq d 385 2071 ls st σ Q
theorem L_386_0 (d : Nat) (ls st : List Value) (σ : MS) (Q : Option Value → MS → Prop) : zX d 386 0 ls st σ Q = zB d 386 zt_386_0 ls st σ Q := zX_eq d 386 0 ls st σ Q
theorem L_387_0 (d : Nat) (ls st : List Value) (σ : MS) (Q : Option Value → MS → Prop) : zX d 387 0 ls st σ Q = zB d 387 zt_387_0 ls st σ Q := zX_eq d 387 0 ls st σ Q
theorem L_387_17 (d : Nat) (ls st : List Value) (σ : MS) (Q : Option Value → MS → Prop) : zX d 387 17 ls st σ Q = zB d 387 zt_387_17 ls st σ Q := zX_eq d 387 17 ls st σ Q
theorem L_387_34 (d : Nat) (ls st : List Value) (σ : MS) (Q : Option Value → MS → Prop) : zX d 387 34 ls st σ Q = zB d 387 zt_387_34 ls st σ Q := zX_eq d 387 34 ls st σ Q
theorem L_387_49 (d : Nat) (ls st : List Value) (σ : MS) (Q : Option Value → MS → Prop) : zX d 387 49 ls st σ Q = zB d 387 zt_387_49 ls st σ Q := zX_eq d 387 49 ls st σ Q
theorem L_387_62 (d : Nat) (ls st : List Value) (σ : MS) (Q : Option Value → MS → Prop) : zX d 387 62 ls st σ Q = zB d 387 zt_387_62 ls st σ Q := zX_eq d 387 62 ls st σ Q
theorem L_387_74 (d : Nat) (ls st : List Value) (σ : MS) (Q : Option Value → MS → Prop) : zX d 387 74 ls st σ Q = zB d 387 zt_387_74 ls st σ Q := zX_eq d 387 74 ls st σ Q
theorem L_388_0 (d : Nat) (ls st : List Value) (σ : MS) (Q : Option Value → MS → Prop) : zX d 388 0 ls st σ Q = zB d 388 zt_388_0 ls st σ Q := zX_eq d 388 0 ls st σ Q
theorem L_388_9 (d : Nat) (ls st : List Value) (σ : MS) (Q : Option Value → MS → Prop) : zX d 388 9 ls st σ Q = zB d 388 zt_388_9 ls st σ Q := zX_eq d 388 9 ls st σ Q
theorem L_388_10 (d : Nat) (ls st : List Value) (σ : MS) (Q : Option Value → MS → Prop) : zX d 388 10 ls st σ Q = zB d 388 zt_388_10 ls st σ Q := zX_eq d 388 10 ls st σ Q
theorem L_389_0 (d : Nat) (ls st : List Value) (σ : MS) (Q : Option Value → MS → Prop) : zX d 389 0 ls st σ Q = zB d 389 zt_389_0 ls st σ Q := zX_eq d 389 0 ls st σ Q
theorem L_389_9 (d : Nat) (ls st : List Value) (σ : MS) (Q : Option Value → MS → Prop) : zX d 389 9 ls st σ Q = zB d 389 zt_389_9 ls st σ Q := zX_eq d 389 9 ls st σ Q
theorem L_389_10 (d : Nat) (ls st : List Value) (σ : MS) (Q : Option Value → MS → Prop) : zX d 389 10 ls st σ Q = zB d 389 zt_389_10 ls st σ Q := zX_eq d 389 10 ls st σ Q
theorem L_390_0 (d : Nat) (ls st : List Value) (σ : MS) (Q : Option Value → MS → Prop) : zX d 390 0 ls st σ Q = zB d 390 zt_390_0 ls st σ Q := zX_eq d 390 0 ls st σ Q
theorem L_390_5 (d : Nat) (ls st : List Value) (σ : MS) (Q : Option Value → MS → Prop) : zX d 390 5 ls st σ Q = zB d 390 zt_390_5 ls st σ Q := zX_eq d 390 5 ls st σ Q
theorem L_390_20 (d : Nat) (ls st : List Value) (σ : MS) (Q : Option Value → MS → Prop) : zX d 390 20 ls st σ Q = zB d 390 zt_390_20 ls st σ Q := zX_eq d 390 20 ls st σ Q
theorem L_391_0 (d : Nat) (ls st : List Value) (σ : MS) (Q : Option Value → MS → Prop) : zX d 391 0 ls st σ Q = zB d 391 zt_391_0 ls st σ Q := zX_eq d 391 0 ls st σ Q
theorem L_391_6 (d : Nat) (ls st : List Value) (σ : MS) (Q : Option Value → MS → Prop) : zX d 391 6 ls st σ Q = zB d 391 zt_391_6 ls st σ Q := zX_eq d 391 6 ls st σ Q
theorem L_391_22 (d : Nat) (ls st : List Value) (σ : MS) (Q : Option Value → MS → Prop) : zX d 391 22 ls st σ Q = zB d 391 zt_391_22 ls st σ Q := zX_eq d 391 22 ls st σ Q
theorem L_392_0 (d : Nat) (ls st : List Value) (σ : MS) (Q : Option Value → MS → Prop) : zX d 392 0 ls st σ Q = zB d 392 zt_392_0 ls st σ Q := zX_eq d 392 0 ls st σ Q
theorem L_392_19 (d : Nat) (ls st : List Value) (σ : MS) (Q : Option Value → MS → Prop) : zX d 392 19 ls st σ Q = zB d 392 zt_392_19 ls st σ Q := zX_eq d 392 19 ls st σ Q
theorem L_392_20 (d : Nat) (ls st : List Value) (σ : MS) (Q : Option Value → MS → Prop) : zX d 392 20 ls st σ Q = zB d 392 zt_392_20 ls st σ Q := zX_eq d 392 20 ls st σ Q
theorem L_393_0 (d : Nat) (ls st : List Value) (σ : MS) (Q : Option Value → MS → Prop) : zX d 393 0 ls st σ Q = zB d 393 zt_393_0 ls st σ Q := zX_eq d 393 0 ls st σ Q
theorem L_393_19 (d : Nat) (ls st : List Value) (σ : MS) (Q : Option Value → MS → Prop) : zX d 393 19 ls st σ Q = zB d 393 zt_393_19 ls st σ Q := zX_eq d 393 19 ls st σ Q
theorem L_393_20 (d : Nat) (ls st : List Value) (σ : MS) (Q : Option Value → MS → Prop) : zX d 393 20 ls st σ Q = zB d 393 zt_393_20 ls st σ Q := zX_eq d 393 20 ls st σ Q
theorem L_393_45 (d : Nat) (ls st : List Value) (σ : MS) (Q : Option Value → MS → Prop) : zX d 393 45 ls st σ Q = zB d 393 zt_393_45 ls st σ Q := zX_eq d 393 45 ls st σ Q
theorem L_393_46 (d : Nat) (ls st : List Value) (σ : MS) (Q : Option Value → MS → Prop) : zX d 393 46 ls st σ Q = zB d 393 zt_393_46 ls st σ Q := zX_eq d 393 46 ls st σ Q
theorem L_393_67 (d : Nat) (ls st : List Value) (σ : MS) (Q : Option Value → MS → Prop) : zX d 393 67 ls st σ Q = zB d 393 zt_393_67 ls st σ Q := zX_eq d 393 67 ls st σ Q
theorem L_393_68 (d : Nat) (ls st : List Value) (σ : MS) (Q : Option Value → MS → Prop) : zX d 393 68 ls st σ Q = zB d 393 zt_393_68 ls st σ Q := zX_eq d 393 68 ls st σ Q
theorem E_0 (d : Nat) (a0 : Nat) (σ : MS) (Q : Option Value → MS → Prop) : zC (d + 1) 0 [.ref a0] σ Q = zX d 0 0 [.ref a0] [] σ Q := zC_eq d 0 _ σ Q (Nat.le_of_ble_eq_true rfl)
theorem M_0 : zmx 0 = 1 := rfl
theorem E_1 (d : Nat) (a0 : Nat) (a1 : Nat) (σ : MS) (Q : Option Value → MS → Prop) : zC (d + 1) 1 [.ref a0, .ref a1] σ Q = zX d 1 0 [.ref a0, .ref a1] [] σ Q := zC_eq d 1 _ σ Q (Nat.le_of_ble_eq_true rfl)
theorem M_1 : zmx 1 = 2 := rfl
theorem E_2 (d : Nat) (a0 : Nat) (a1 : Nat) (σ : MS) (Q : Option Value → MS → Prop) : zC (d + 1) 2 [.ref a0, .ref a1] σ Q = zX d 2 0 [.ref a0, .ref a1, .null, .null] [] σ Q := zC_eq d 2 _ σ Q (Nat.le_of_ble_eq_true rfl)
theorem M_2 : zmx 2 = 4 := rfl
theorem E_3 (d : Nat) (a0 : Nat) (a1 : Int32) (σ : MS) (Q : Option Value → MS → Prop) : zC (d + 1) 3 [.ref a0, .int a1] σ Q = zX d 3 0 [.ref a0, .int a1, .null] [] σ Q := zC_eq d 3 _ σ Q (Nat.le_of_ble_eq_true rfl)
theorem M_3 : zmx 3 = 3 := rfl
theorem E_4 (d : Nat) (a0 : Nat) (σ : MS) (Q : Option Value → MS → Prop) : zC (d + 1) 4 [.ref a0] σ Q = zX d 4 0 [.ref a0, .null] [] σ Q := zC_eq d 4 _ σ Q (Nat.le_of_ble_eq_true rfl)
theorem M_4 : zmx 4 = 2 := rfl
theorem E_5 (d : Nat) (a0 : Nat) (a1 : Int32) (σ : MS) (Q : Option Value → MS → Prop) : zC (d + 1) 5 [.ref a0, .int a1] σ Q = zX d 5 0 [.ref a0, .int a1, .null] [] σ Q := zC_eq d 5 _ σ Q (Nat.le_of_ble_eq_true rfl)
theorem M_5 : zmx 5 = 3 := rfl
theorem E_6 (d : Nat) (a0 : Nat) (σ : MS) (Q : Option Value → MS → Prop) : zC (d + 1) 6 [.ref a0] σ Q = zX d 6 0 [.ref a0, .null, .null, .null] [] σ Q := zC_eq d 6 _ σ Q (Nat.le_of_ble_eq_true rfl)
theorem M_6 : zmx 6 = 4 := rfl
theorem E_7 (d : Nat) (a0 : Nat) (a1 : Int32) (a2 : Int32) (σ : MS) (Q : Option Value → MS → Prop) : zC (d + 1) 7 [.ref a0, .int a1, .int a2] σ Q = zX d 7 0 [.ref a0, .int a1, .int a2, .null] [] σ Q := zC_eq d 7 _ σ Q (Nat.le_of_ble_eq_true rfl)
theorem M_7 : zmx 7 = 4 := rfl
theorem E_8 (d : Nat) (a0 : Nat) (a1 : Int32) (a2 : Int32) (a3 : Int32) (σ : MS) (Q : Option Value → MS → Prop) : zC (d + 1) 8 [.ref a0, .int a1, .int a2, .int a3] σ Q = zX d 8 0 [.ref a0, .int a1, .int a2, .int a3, .null, .null, .null] [] σ Q := zC_eq d 8 _ σ Q (Nat.le_of_ble_eq_true rfl)
theorem M_8 : zmx 8 = 7 := rfl
theorem E_9 (d : Nat) (a0 : Nat) (σ : MS) (Q : Option Value → MS → Prop) : zC (d + 1) 9 [.ref a0] σ Q = zX d 9 0 [.ref a0] [] σ Q := zC_eq d 9 _ σ Q (Nat.le_of_ble_eq_true rfl)
theorem M_9 : zmx 9 = 1 := rfl
theorem E_10 (d : Nat) (a0 : Nat) (σ : MS) (Q : Option Value → MS → Prop) : zC (d + 1) 10 [.ref a0] σ Q = zX d 10 0 [.ref a0] [] σ Q := zC_eq d 10 _ σ Q (Nat.le_of_ble_eq_true rfl)
theorem M_10 : zmx 10 = 1 := rfl
theorem E_11 (d : Nat) (a0 : Nat) (a1 : Nat) (σ : MS) (Q : Option Value → MS → Prop) : zC (d + 1) 11 [.ref a0, .ref a1] σ Q = zX d 11 0 [.ref a0, .ref a1] [] σ Q := zC_eq d 11 _ σ Q (Nat.le_of_ble_eq_true rfl)
theorem M_11 : zmx 11 = 2 := rfl
theorem E_12 (d : Nat) (a0 : Nat) (a1 : Nat) (a2 : Nat) (a3 : Nat) (σ : MS) (Q : Option Value → MS → Prop) : zC (d + 1) 12 [.ref a0, .ref a1, .ref a2, .ref a3] σ Q = zX d 12 0 [.ref a0, .ref a1, .ref a2, .ref a3] [] σ Q := zC_eq d 12 _ σ Q (Nat.le_of_ble_eq_true rfl)
theorem M_12 : zmx 12 = 4 := rfl
theorem E_13 (d : Nat) (a0 : Nat) (σ : MS) (Q : Option Value → MS → Prop) : zC (d + 1) 13 [.ref a0] σ Q = zX d 13 0 [.ref a0, .null, .null] [] σ Q := zC_eq d 13 _ σ Q (Nat.le_of_ble_eq_true rfl)
theorem M_13 : zmx 13 = 3 := rfl
theorem E_14 (d : Nat) (a0 : Nat) (σ : MS) (Q : Option Value → MS → Prop) : zC (d + 1) 14 [.ref a0] σ Q = zX d 14 0 [.ref a0, .null] [] σ Q := zC_eq d 14 _ σ Q (Nat.le_of_ble_eq_true rfl)
theorem M_14 : zmx 14 = 2 := rfl
theorem E_15 (d : Nat) (a0 : Nat) (σ : MS) (Q : Option Value → MS → Prop) : zC (d + 1) 15 [.ref a0] σ Q = zX d 15 0 [.ref a0] [] σ Q := zC_eq d 15 _ σ Q (Nat.le_of_ble_eq_true rfl)
theorem M_15 : zmx 15 = 1 := rfl
theorem E_16 (d : Nat) (a0 : Nat) (σ : MS) (Q : Option Value → MS → Prop) : zC (d + 1) 16 [.ref a0] σ Q = zX d 16 0 [.ref a0] [] σ Q := zC_eq d 16 _ σ Q (Nat.le_of_ble_eq_true rfl)
theorem M_16 : zmx 16 = 1 := rfl
theorem E_17 (d : Nat) (a0 : Nat) (σ : MS) (Q : Option Value → MS → Prop) : zC (d + 1) 17 [.ref a0] σ Q = zX d 17 0 [.ref a0, .null] [] σ Q := zC_eq d 17 _ σ Q (Nat.le_of_ble_eq_true rfl)
theorem M_17 : zmx 17 = 2 := rfl
theorem E_18 (d : Nat) (a0 : Nat) (σ : MS) (Q : Option Value → MS → Prop) : zC (d + 1) 18 [.ref a0] σ Q = zX d 18 0 [.ref a0] [] σ Q := zC_eq d 18 _ σ Q (Nat.le_of_ble_eq_true rfl)
theorem M_18 : zmx 18 = 1 := rfl
theorem E_19 (d : Nat) (a0 : Int32) (σ : MS) (Q : Option Value → MS → Prop) : zC (d + 1) 19 [.int a0] σ Q = zX d 19 0 [.int a0] [] σ Q := zC_eq d 19 _ σ Q (Nat.le_of_ble_eq_true rfl)
theorem M_19 : zmx 19 = 1 := rfl
theorem E_20 (d : Nat) (a0 : Nat) (a1 : Int32) (a2 : Nat) (σ : MS) (Q : Option Value → MS → Prop) : zC (d + 1) 20 [.ref a0, .int a1, .ref a2] σ Q = zX d 20 0 [.ref a0, .int a1, .ref a2, .null, .null, .null] [] σ Q := zC_eq d 20 _ σ Q (Nat.le_of_ble_eq_true rfl)
theorem M_20 : zmx 20 = 6 := rfl
theorem E_21 (d : Nat) (a0 : Nat) (a1 : Int32) (σ : MS) (Q : Option Value → MS → Prop) : zC (d + 1) 21 [.ref a0, .int a1] σ Q = zX d 21 0 [.ref a0, .int a1] [] σ Q := zC_eq d 21 _ σ Q (Nat.le_of_ble_eq_true rfl)
theorem M_21 : zmx 21 = 2 := rfl
theorem E_22 (d : Nat) (a0 : Nat) (a1 : Int32) (σ : MS) (Q : Option Value → MS → Prop) : zC (d + 1) 22 [.ref a0, .int a1] σ Q = zX d 22 0 [.ref a0, .int a1] [] σ Q := zC_eq d 22 _ σ Q (Nat.le_of_ble_eq_true rfl)
theorem M_22 : zmx 22 = 2 := rfl
theorem E_23 (d : Nat) (a0 : Nat) (σ : MS) (Q : Option Value → MS → Prop) : zC (d + 1) 23 [.ref a0] σ Q = zX d 23 0 [.ref a0] [] σ Q := zC_eq d 23 _ σ Q (Nat.le_of_ble_eq_true rfl)
theorem M_23 : zmx 23 = 1 := rfl
theorem E_24 (d : Nat) (a0 : Nat) (σ : MS) (Q : Option Value → MS → Prop) : zC (d + 1) 24 [.ref a0] σ Q = zX d 24 0 [.ref a0] [] σ Q := zC_eq d 24 _ σ Q (Nat.le_of_ble_eq_true rfl)
theorem M_24 : zmx 24 = 1 := rfl
theorem E_25 (d : Nat) (a0 : Nat) (a1 : Nat) (a2 : Int32) (σ : MS) (Q : Option Value → MS → Prop) : zC (d + 1) 25 [.ref a0, .ref a1, .int a2] σ Q = zX d 25 0 [.ref a0, .ref a1, .int a2, .null, .null, .null, .null, .null, .null] [] σ Q := zC_eq d 25 _ σ Q (Nat.le_of_ble_eq_true rfl)
theorem M_25 : zmx 25 = 9 := rfl
theorem E_26 (d : Nat) (a0 : Nat) (a1 : Int32) (a2 : Int32) (a3 : Int32) (a4 : Int32) (a5 : Int32) (σ : MS) (Q : Option Value → MS → Prop) : zC (d + 1) 26 [.ref a0, .int a1, .int a2, .int a3, .int a4, .int a5] σ Q = zX d 26 0 [.ref a0, .int a1, .int a2, .int a3, .int a4, .int a5, .null, .null] [] σ Q := zC_eq d 26 _ σ Q (Nat.le_of_ble_eq_true rfl)
theorem M_26 : zmx 26 = 8 := rfl
theorem E_27 (d : Nat) (a0 : Nat) (a1 : Int32) (a2 : Int32) (a3 : Int32) (a4 : Int32) (a5 : Int32) (σ : MS) (Q : Option Value → MS → Prop) : zC (d + 1) 27 [.ref a0, .int a1, .int a2, .int a3, .int a4, .int a5] σ Q = zX d 27 0 [.ref a0, .int a1, .int a2, .int a3, .int a4, .int a5, .null, .null, .null, .null, .null, .null, .null] [] σ Q := zC_eq d 27 _ σ Q (Nat.le_of_ble_eq_true rfl)
theorem M_27 : zmx 27 = 13 := rfl
theorem E_28 (d : Nat) (a0 : Nat) (a1 : Int32) (a2 : Int32) (σ : MS) (Q : Option Value → MS → Prop) : zC (d + 1) 28 [.ref a0, .int a1, .int a2] σ Q = zX d 28 0 [.ref a0, .int a1, .int a2] [] σ Q := zC_eq d 28 _ σ Q (Nat.le_of_ble_eq_true rfl)
theorem M_28 : zmx 28 = 3 := rfl
theorem E_29 (d : Nat) (a0 : Nat) (a1 : Int32) (a2 : Int32) (σ : MS) (Q : Option Value → MS → Prop) : zC (d + 1) 29 [.ref a0, .int a1, .int a2] σ Q = zX d 29 0 [.ref a0, .int a1, .int a2, .null] [] σ Q := zC_eq d 29 _ σ Q (Nat.le_of_ble_eq_true rfl)
theorem M_29 : zmx 29 = 4 := rfl
theorem E_30 (d : Nat) (a0 : Nat) (σ : MS) (Q : Option Value → MS → Prop) : zC (d + 1) 30 [.ref a0] σ Q = zX d 30 0 [.ref a0] [] σ Q := zC_eq d 30 _ σ Q (Nat.le_of_ble_eq_true rfl)
theorem M_30 : zmx 30 = 1 := rfl
theorem E_31 (d : Nat) (a0 : Nat) (a1 : Nat) (a2 : Nat) (a3 : Int32) (σ : MS) (Q : Option Value → MS → Prop) : zC (d + 1) 31 [.ref a0, .ref a1, .ref a2, .int a3] σ Q = zX d 31 0 [.ref a0, .ref a1, .ref a2, .int a3] [] σ Q := zC_eq d 31 _ σ Q (Nat.le_of_ble_eq_true rfl)
theorem M_31 : zmx 31 = 4 := rfl
theorem E_32 (d : Nat) (a0 : Nat) (a1 : Int32) (a2 : Int32) (a3 : Int32) (σ : MS) (Q : Option Value → MS → Prop) : zC (d + 1) 32 [.ref a0, .int a1, .int a2, .int a3] σ Q = zX d 32 0 [.ref a0, .int a1, .int a2, .int a3, .null, .null] [] σ Q := zC_eq d 32 _ σ Q (Nat.le_of_ble_eq_true rfl)
theorem M_32 : zmx 32 = 6 := rfl
theorem E_33 (d : Nat) (a0 : Nat) (a1 : Int32) (a2 : Int32) (σ : MS) (Q : Option Value → MS → Prop) : zC (d + 1) 33 [.ref a0, .int a1, .int a2] σ Q = zX d 33 0 [.ref a0, .int a1, .int a2, .null, .null, .null, .null] [] σ Q := zC_eq d 33 _ σ Q (Nat.le_of_ble_eq_true rfl)
theorem M_33 : zmx 33 = 7 := rfl
theorem E_34 (d : Nat) (a0 : Nat) (a1 : Int32) (a2 : Int32) (a3 : Int32) (σ : MS) (Q : Option Value → MS → Prop) : zC (d + 1) 34 [.ref a0, .int a1, .int a2, .int a3] σ Q = zX d 34 0 [.ref a0, .int a1, .int a2, .int a3, .null] [] σ Q := zC_eq d 34 _ σ Q (Nat.le_of_ble_eq_true rfl)
theorem M_34 : zmx 34 = 5 := rfl
theorem E_35 (d : Nat) (a0 : Nat) (a1 : Int32) (σ : MS) (Q : Option Value → MS → Prop) : zC (d + 1) 35 [.ref a0, .int a1] σ Q = zX d 35 0 [.ref a0, .int a1, .null] [] σ Q := zC_eq d 35 _ σ Q (Nat.le_of_ble_eq_true rfl)
theorem M_35 : zmx 35 = 3 := rfl
theorem E_36 (d : Nat) (a0 : Nat) (a1 : Int32) (σ : MS) (Q : Option Value → MS → Prop) : zC (d + 1) 36 [.ref a0, .int a1] σ Q = zX d 36 0 [.ref a0, .int a1] [] σ Q := zC_eq d 36 _ σ Q (Nat.le_of_ble_eq_true rfl)
theorem M_36 : zmx 36 = 2 := rfl
theorem E_37 (d : Nat) (a0 : Nat) (σ : MS) (Q : Option Value → MS → Prop) : zC (d + 1) 37 [.ref a0] σ Q = zX d 37 0 [.ref a0, .null] [] σ Q := zC_eq d 37 _ σ Q (Nat.le_of_ble_eq_true rfl)
theorem M_37 : zmx 37 = 2 := rfl
theorem E_38 (d : Nat) (a0 : Nat) (σ : MS) (Q : Option Value → MS → Prop) : zC (d + 1) 38 [.ref a0] σ Q = zX d 38 0 [.ref a0] [] σ Q := zC_eq d 38 _ σ Q (Nat.le_of_ble_eq_true rfl)
theorem M_38 : zmx 38 = 1 := rfl
theorem E_39 (d : Nat) (a0 : Nat) (σ : MS) (Q : Option Value → MS → Prop) : zC (d + 1) 39 [.ref a0] σ Q = zX d 39 0 [.ref a0] [] σ Q := zC_eq d 39 _ σ Q (Nat.le_of_ble_eq_true rfl)
theorem M_39 : zmx 39 = 1 := rfl
theorem E_40 (d : Nat) (a0 : Nat) (a1 : Nat) (σ : MS) (Q : Option Value → MS → Prop) : zC (d + 1) 40 [.ref a0, .ref a1] σ Q = zX d 40 0 [.ref a0, .ref a1] [] σ Q := zC_eq d 40 _ σ Q (Nat.le_of_ble_eq_true rfl)
theorem M_40 : zmx 40 = 2 := rfl
theorem E_41 (d : Nat) (a0 : Nat) (a1 : Int32) (a2 : Int32) (σ : MS) (Q : Option Value → MS → Prop) : zC (d + 1) 41 [.ref a0, .int a1, .int a2] σ Q = zX d 41 0 [.ref a0, .int a1, .int a2, .null, .null, .null] [] σ Q := zC_eq d 41 _ σ Q (Nat.le_of_ble_eq_true rfl)
theorem M_41 : zmx 41 = 6 := rfl
theorem E_42 (d : Nat) (a0 : Nat) (a1 : Int32) (σ : MS) (Q : Option Value → MS → Prop) : zC (d + 1) 42 [.ref a0, .int a1] σ Q = zX d 42 0 [.ref a0, .int a1] [] σ Q := zC_eq d 42 _ σ Q (Nat.le_of_ble_eq_true rfl)
theorem M_42 : zmx 42 = 2 := rfl
theorem E_43 (d : Nat) (a0 : Nat) (a1 : Int32) (σ : MS) (Q : Option Value → MS → Prop) : zC (d + 1) 43 [.ref a0, .int a1] σ Q = zX d 43 0 [.ref a0, .int a1] [] σ Q := zC_eq d 43 _ σ Q (Nat.le_of_ble_eq_true rfl)
theorem M_43 : zmx 43 = 2 := rfl
theorem E_44 (d : Nat) (a0 : Nat) (a1 : Int32) (σ : MS) (Q : Option Value → MS → Prop) : zC (d + 1) 44 [.ref a0, .int a1] σ Q = zX d 44 0 [.ref a0, .int a1] [] σ Q := zC_eq d 44 _ σ Q (Nat.le_of_ble_eq_true rfl)
theorem M_44 : zmx 44 = 2 := rfl
theorem E_45 (d : Nat) (a0 : Nat) (a1 : Int32) (σ : MS) (Q : Option Value → MS → Prop) : zC (d + 1) 45 [.ref a0, .int a1] σ Q = zX d 45 0 [.ref a0, .int a1] [] σ Q := zC_eq d 45 _ σ Q (Nat.le_of_ble_eq_true rfl)
theorem M_45 : zmx 45 = 2 := rfl
theorem E_46 (d : Nat) (a0 : Nat) (a1 : Int32) (σ : MS) (Q : Option Value → MS → Prop) : zC (d + 1) 46 [.ref a0, .int a1] σ Q = zX d 46 0 [.ref a0, .int a1] [] σ Q := zC_eq d 46 _ σ Q (Nat.le_of_ble_eq_true rfl)
theorem M_46 : zmx 46 = 2 := rfl
theorem E_47 (d : Nat) (a0 : Nat) (a1 : Int32) (σ : MS) (Q : Option Value → MS → Prop) : zC (d + 1) 47 [.ref a0, .int a1] σ Q = zX d 47 0 [.ref a0, .int a1] [] σ Q := zC_eq d 47 _ σ Q (Nat.le_of_ble_eq_true rfl)
theorem M_47 : zmx 47 = 2 := rfl
theorem E_48 (d : Nat) (a0 : Nat) (a1 : Int32) (σ : MS) (Q : Option Value → MS → Prop) : zC (d + 1) 48 [.ref a0, .int a1] σ Q = zX d 48 0 [.ref a0, .int a1] [] σ Q := zC_eq d 48 _ σ Q (Nat.le_of_ble_eq_true rfl)
theorem M_48 : zmx 48 = 2 := rfl
theorem E_49 (d : Nat) (a0 : Nat) (a1 : Int64) (σ : MS) (Q : Option Value → MS → Prop) : zC (d + 1) 49 [.ref a0, .long a1] σ Q = zX d 49 0 [.ref a0, .long a1, .null] [] σ Q := zC_eq d 49 _ σ Q (Nat.le_of_ble_eq_true rfl)
theorem M_49 : zmx 49 = 3 := rfl
theorem E_50 (d : Nat) (a0 : Nat) (a1 : Int64) (σ : MS) (Q : Option Value → MS → Prop) : zC (d + 1) 50 [.ref a0, .long a1] σ Q = zX d 50 0 [.ref a0, .long a1, .null] [] σ Q := zC_eq d 50 _ σ Q (Nat.le_of_ble_eq_true rfl)
theorem M_50 : zmx 50 = 3 := rfl
theorem E_51 (d : Nat) (a0 : Nat) (a1 : Int64) (σ : MS) (Q : Option Value → MS → Prop) : zC (d + 1) 51 [.ref a0, .long a1] σ Q = zX d 51 0 [.ref a0, .long a1, .null] [] σ Q := zC_eq d 51 _ σ Q (Nat.le_of_ble_eq_true rfl)
theorem M_51 : zmx 51 = 3 := rfl
theorem E_52 (d : Nat) (a0 : Nat) (a1 : Int64) (σ : MS) (Q : Option Value → MS → Prop) : zC (d + 1) 52 [.ref a0, .long a1] σ Q = zX d 52 0 [.ref a0, .long a1, .null] [] σ Q := zC_eq d 52 _ σ Q (Nat.le_of_ble_eq_true rfl)
theorem M_52 : zmx 52 = 3 := rfl
theorem E_53 (d : Nat) (a0 : Nat) (a1 : Int64) (σ : MS) (Q : Option Value → MS → Prop) : zC (d + 1) 53 [.ref a0, .long a1] σ Q = zX d 53 0 [.ref a0, .long a1, .null] [] σ Q := zC_eq d 53 _ σ Q (Nat.le_of_ble_eq_true rfl)
theorem M_53 : zmx 53 = 3 := rfl
theorem E_54 (d : Nat) (a0 : Nat) (a1 : Int64) (σ : MS) (Q : Option Value → MS → Prop) : zC (d + 1) 54 [.ref a0, .long a1] σ Q = zX d 54 0 [.ref a0, .long a1, .null] [] σ Q := zC_eq d 54 _ σ Q (Nat.le_of_ble_eq_true rfl)
theorem M_54 : zmx 54 = 3 := rfl
theorem E_55 (d : Nat) (a0 : Nat) (a1 : Int64) (σ : MS) (Q : Option Value → MS → Prop) : zC (d + 1) 55 [.ref a0, .long a1] σ Q = zX d 55 0 [.ref a0, .long a1, .null] [] σ Q := zC_eq d 55 _ σ Q (Nat.le_of_ble_eq_true rfl)
theorem M_55 : zmx 55 = 3 := rfl
theorem E_56 (d : Nat) (a0 : Int64) (a1 : Nat) (a2 : Int32) (σ : MS) (Q : Option Value → MS → Prop) : zC (d + 1) 56 [.long a0, .ref a1, .int a2] σ Q = zX d 56 0 [.long a0, .null, .ref a1, .int a2, .null] [] σ Q := zC_eq d 56 _ σ Q (Nat.le_of_ble_eq_true rfl)
theorem M_56 : zmx 56 = 5 := rfl
theorem E_57 (d : Nat) (a0 : Nat) (σ : MS) (Q : Option Value → MS → Prop) : zC (d + 1) 57 [.ref a0] σ Q = zX d 57 0 [.ref a0, .null, .null] [] σ Q := zC_eq d 57 _ σ Q (Nat.le_of_ble_eq_true rfl)
theorem M_57 : zmx 57 = 3 := rfl
theorem E_58 (d : Nat) (a0 : Nat) (σ : MS) (Q : Option Value → MS → Prop) : zC (d + 1) 58 [.ref a0] σ Q = zX d 58 0 [.ref a0, .null, .null] [] σ Q := zC_eq d 58 _ σ Q (Nat.le_of_ble_eq_true rfl)
theorem M_58 : zmx 58 = 3 := rfl
theorem E_59 (d : Nat) (a0 : Nat) (a1 : Int32) (σ : MS) (Q : Option Value → MS → Prop) : zC (d + 1) 59 [.ref a0, .int a1] σ Q = zX d 59 0 [.ref a0, .int a1, .null, .null] [] σ Q := zC_eq d 59 _ σ Q (Nat.le_of_ble_eq_true rfl)
theorem M_59 : zmx 59 = 4 := rfl
theorem E_60 (d : Nat) (a0 : Nat) (a1 : Int32) (a2 : Int32) (σ : MS) (Q : Option Value → MS → Prop) : zC (d + 1) 60 [.ref a0, .int a1, .int a2] σ Q = zX d 60 0 [.ref a0, .int a1, .int a2] [] σ Q := zC_eq d 60 _ σ Q (Nat.le_of_ble_eq_true rfl)
theorem M_60 : zmx 60 = 3 := rfl
theorem E_61 (d : Nat) (a0 : Nat) (a1 : Int32) (σ : MS) (Q : Option Value → MS → Prop) : zC (d + 1) 61 [.ref a0, .int a1] σ Q = zX d 61 0 [.ref a0, .int a1, .null] [] σ Q := zC_eq d 61 _ σ Q (Nat.le_of_ble_eq_true rfl)
theorem M_61 : zmx 61 = 3 := rfl
theorem E_62 (d : Nat) (a0 : Nat) (a1 : Int32) (a2 : Int32) (σ : MS) (Q : Option Value → MS → Prop) : zC (d + 1) 62 [.ref a0, .int a1, .int a2] σ Q = zX d 62 0 [.ref a0, .int a1, .int a2] [] σ Q := zC_eq d 62 _ σ Q (Nat.le_of_ble_eq_true rfl)
theorem M_62 : zmx 62 = 3 := rfl
theorem E_63 (d : Nat) (a0 : Nat) (a1 : Int32) (a2 : Int32) (σ : MS) (Q : Option Value → MS → Prop) : zC (d + 1) 63 [.ref a0, .int a1, .int a2] σ Q = zX d 63 0 [.ref a0, .int a1, .int a2, .null, .null] [] σ Q := zC_eq d 63 _ σ Q (Nat.le_of_ble_eq_true rfl)
theorem M_63 : zmx 63 = 5 := rfl
theorem E_64 (d : Nat) (a0 : Nat) (σ : MS) (Q : Option Value → MS → Prop) : zC (d + 1) 64 [.ref a0] σ Q = zX d 64 0 [.ref a0, .null, .null, .null, .null] [] σ Q := zC_eq d 64 _ σ Q (Nat.le_of_ble_eq_true rfl)
theorem M_64 : zmx 64 = 5 := rfl
theorem E_65 (d : Nat) (a0 : Nat) (σ : MS) (Q : Option Value → MS → Prop) : zC (d + 1) 65 [.ref a0] σ Q = zX d 65 0 [.ref a0, .null, .null, .null] [] σ Q := zC_eq d 65 _ σ Q (Nat.le_of_ble_eq_true rfl)
theorem M_65 : zmx 65 = 4 := rfl
theorem E_66 (d : Nat) (a0 : Nat) (a1 : Int32) (σ : MS) (Q : Option Value → MS → Prop) : zC (d + 1) 66 [.ref a0, .int a1] σ Q = zX d 66 0 [.ref a0, .int a1, .null, .null] [] σ Q := zC_eq d 66 _ σ Q (Nat.le_of_ble_eq_true rfl)
theorem M_66 : zmx 66 = 4 := rfl
theorem E_67 (d : Nat) (a0 : Nat) (a1 : Int32) (a2 : Int32) (σ : MS) (Q : Option Value → MS → Prop) : zC (d + 1) 67 [.ref a0, .int a1, .int a2] σ Q = zX d 67 0 [.ref a0, .int a1, .int a2] [] σ Q := zC_eq d 67 _ σ Q (Nat.le_of_ble_eq_true rfl)
theorem M_67 : zmx 67 = 3 := rfl
theorem E_68 (d : Nat) (a0 : Nat) (a1 : Int32) (σ : MS) (Q : Option Value → MS → Prop) : zC (d + 1) 68 [.ref a0, .int a1] σ Q = zX d 68 0 [.ref a0, .int a1, .null, .null] [] σ Q := zC_eq d 68 _ σ Q (Nat.le_of_ble_eq_true rfl)
theorem M_68 : zmx 68 = 4 := rfl
theorem E_69 (d : Nat) (a0 : Nat) (a1 : Int32) (a2 : Int32) (σ : MS) (Q : Option Value → MS → Prop) : zC (d + 1) 69 [.ref a0, .int a1, .int a2] σ Q = zX d 69 0 [.ref a0, .int a1, .int a2] [] σ Q := zC_eq d 69 _ σ Q (Nat.le_of_ble_eq_true rfl)
theorem M_69 : zmx 69 = 3 := rfl
theorem E_70 (d : Nat) (a0 : Nat) (a1 : Nat) (a2 : Int32) (σ : MS) (Q : Option Value → MS → Prop) : zC (d + 1) 70 [.ref a0, .ref a1, .int a2] σ Q = zX d 70 0 [.ref a0, .ref a1, .int a2] [] σ Q := zC_eq d 70 _ σ Q (Nat.le_of_ble_eq_true rfl)
theorem M_70 : zmx 70 = 3 := rfl
theorem E_71 (d : Nat) (a0 : Nat) (a1 : Nat) (a2 : Int32) (a3 : Int32) (a4 : Int32) (σ : MS) (Q : Option Value → MS → Prop) : zC (d + 1) 71 [.ref a0, .ref a1, .int a2, .int a3, .int a4] σ Q = zX d 71 0 [.ref a0, .ref a1, .int a2, .int a3, .int a4, .null, .null, .null, .null] [] σ Q := zC_eq d 71 _ σ Q (Nat.le_of_ble_eq_true rfl)
theorem M_71 : zmx 71 = 9 := rfl
theorem E_72 (d : Nat) (a0 : Nat) (σ : MS) (Q : Option Value → MS → Prop) : zC (d + 1) 72 [.ref a0] σ Q = zX d 72 0 [.ref a0, .null, .null] [] σ Q := zC_eq d 72 _ σ Q (Nat.le_of_ble_eq_true rfl)
theorem M_72 : zmx 72 = 3 := rfl
theorem E_73 (d : Nat) (a0 : Nat) (a1 : Int32) (σ : MS) (Q : Option Value → MS → Prop) : zC (d + 1) 73 [.ref a0, .int a1] σ Q = zX d 73 0 [.ref a0, .int a1, .null, .null, .null] [] σ Q := zC_eq d 73 _ σ Q (Nat.le_of_ble_eq_true rfl)
theorem M_73 : zmx 73 = 5 := rfl
theorem E_74 (d : Nat) (a0 : Nat) (a1 : Int32) (σ : MS) (Q : Option Value → MS → Prop) : zC (d + 1) 74 [.ref a0, .int a1] σ Q = zX d 74 0 [.ref a0, .int a1, .null, .null, .null, .null, .null] [] σ Q := zC_eq d 74 _ σ Q (Nat.le_of_ble_eq_true rfl)
theorem M_74 : zmx 74 = 7 := rfl
theorem E_75 (d : Nat) (a0 : Nat) (a1 : Int32) (a2 : Int32) (σ : MS) (Q : Option Value → MS → Prop) : zC (d + 1) 75 [.ref a0, .int a1, .int a2] σ Q = zX d 75 0 [.ref a0, .int a1, .int a2] [] σ Q := zC_eq d 75 _ σ Q (Nat.le_of_ble_eq_true rfl)
theorem M_75 : zmx 75 = 3 := rfl
theorem E_76 (d : Nat) (a0 : Nat) (a1 : Int32) (a2 : Int32) (σ : MS) (Q : Option Value → MS → Prop) : zC (d + 1) 76 [.ref a0, .int a1, .int a2] σ Q = zX d 76 0 [.ref a0, .int a1, .int a2] [] σ Q := zC_eq d 76 _ σ Q (Nat.le_of_ble_eq_true rfl)
theorem M_76 : zmx 76 = 3 := rfl
theorem E_77 (d : Nat) (a0 : Nat) (a1 : Int32) (a2 : Int32) (σ : MS) (Q : Option Value → MS → Prop) : zC (d + 1) 77 [.ref a0, .int a1, .int a2] σ Q = zX d 77 0 [.ref a0, .int a1, .int a2, .null, .null, .null] [] σ Q := zC_eq d 77 _ σ Q (Nat.le_of_ble_eq_true rfl)
theorem M_77 : zmx 77 = 6 := rfl
theorem E_78 (d : Nat) (a0 : Nat) (a1 : Int32) (σ : MS) (Q : Option Value → MS → Prop) : zC (d + 1) 78 [.ref a0, .int a1] σ Q = zX d 78 0 [.ref a0, .int a1, .null, .null] [] σ Q := zC_eq d 78 _ σ Q (Nat.le_of_ble_eq_true rfl)
theorem M_78 : zmx 78 = 4 := rfl
theorem E_79 (d : Nat) (a0 : Nat) (a1 : Int32) (σ : MS) (Q : Option Value → MS → Prop) : zC (d + 1) 79 [.ref a0, .int a1] σ Q = zX d 79 0 [.ref a0, .int a1, .null, .null, .null, .null] [] σ Q := zC_eq d 79 _ σ Q (Nat.le_of_ble_eq_true rfl)
theorem M_79 : zmx 79 = 6 := rfl
theorem E_80 (d : Nat) (a0 : Nat) (a1 : Int32) (a2 : Int32) (σ : MS) (Q : Option Value → MS → Prop) : zC (d + 1) 80 [.ref a0, .int a1, .int a2] σ Q = zX d 80 0 [.ref a0, .int a1, .int a2, .null, .null, .null] [] σ Q := zC_eq d 80 _ σ Q (Nat.le_of_ble_eq_true rfl)
theorem M_80 : zmx 80 = 6 := rfl
theorem E_81 (d : Nat) (a0 : Nat) (a1 : Int32) (a2 : Int32) (σ : MS) (Q : Option Value → MS → Prop) : zC (d + 1) 81 [.ref a0, .int a1, .int a2] σ Q = zX d 81 0 [.ref a0, .int a1, .int a2, .null, .null] [] σ Q := zC_eq d 81 _ σ Q (Nat.le_of_ble_eq_true rfl)
theorem M_81 : zmx 81 = 5 := rfl
theorem E_82 (d : Nat) (a0 : Nat) (a1 : Int32) (a2 : Int32) (σ : MS) (Q : Option Value → MS → Prop) : zC (d + 1) 82 [.ref a0, .int a1, .int a2] σ Q = zX d 82 0 [.ref a0, .int a1, .int a2] [] σ Q := zC_eq d 82 _ σ Q (Nat.le_of_ble_eq_true rfl)
theorem M_82 : zmx 82 = 3 := rfl
theorem E_83 (d : Nat) (a0 : Nat) (a1 : Int32) (σ : MS) (Q : Option Value → MS → Prop) : zC (d + 1) 83 [.ref a0, .int a1] σ Q = zX d 83 0 [.ref a0, .int a1] [] σ Q := zC_eq d 83 _ σ Q (Nat.le_of_ble_eq_true rfl)
theorem M_83 : zmx 83 = 2 := rfl
theorem E_84 (d : Nat) (a0 : Nat) (a1 : Int32) (a2 : Int32) (σ : MS) (Q : Option Value → MS → Prop) : zC (d + 1) 84 [.ref a0, .int a1, .int a2] σ Q = zX d 84 0 [.ref a0, .int a1, .int a2, .null, .null] [] σ Q := zC_eq d 84 _ σ Q (Nat.le_of_ble_eq_true rfl)
theorem M_84 : zmx 84 = 5 := rfl
theorem E_85 (d : Nat) (a0 : Nat) (a1 : Int32) (σ : MS) (Q : Option Value → MS → Prop) : zC (d + 1) 85 [.ref a0, .int a1] σ Q = zX d 85 0 [.ref a0, .int a1, .null, .null] [] σ Q := zC_eq d 85 _ σ Q (Nat.le_of_ble_eq_true rfl)
theorem M_85 : zmx 85 = 4 := rfl
theorem E_86 (d : Nat) (a0 : Nat) (a1 : Int32) (σ : MS) (Q : Option Value → MS → Prop) : zC (d + 1) 86 [.ref a0, .int a1] σ Q = zX d 86 0 [.ref a0, .int a1, .null, .null] [] σ Q := zC_eq d 86 _ σ Q (Nat.le_of_ble_eq_true rfl)
theorem M_86 : zmx 86 = 4 := rfl
theorem E_87 (d : Nat) (a0 : Nat) (a1 : Int32) (σ : MS) (Q : Option Value → MS → Prop) : zC (d + 1) 87 [.ref a0, .int a1] σ Q = zX d 87 0 [.ref a0, .int a1, .null, .null] [] σ Q := zC_eq d 87 _ σ Q (Nat.le_of_ble_eq_true rfl)
theorem M_87 : zmx 87 = 4 := rfl
theorem E_88 (d : Nat) (a0 : Nat) (a1 : Int32) (a2 : Int32) (σ : MS) (Q : Option Value → MS → Prop) : zC (d + 1) 88 [.ref a0, .int a1, .int a2] σ Q = zX d 88 0 [.ref a0, .int a1, .int a2, .null, .null] [] σ Q := zC_eq d 88 _ σ Q (Nat.le_of_ble_eq_true rfl)
theorem M_88 : zmx 88 = 5 := rfl
theorem E_89 (d : Nat) (a0 : Nat) (a1 : Int32) (a2 : Int32) (a3 : Int32) (σ : MS) (Q : Option Value → MS → Prop) : zC (d + 1) 89 [.ref a0, .int a1, .int a2, .int a3] σ Q = zX d 89 0 [.ref a0, .int a1, .int a2, .int a3, .null, .null] [] σ Q := zC_eq d 89 _ σ Q (Nat.le_of_ble_eq_true rfl)
theorem M_89 : zmx 89 = 6 := rfl
theorem E_90 (d : Nat) (a0 : Nat) (a1 : Nat) (a2 : Int32) (a3 : Int32) (σ : MS) (Q : Option Value → MS → Prop) : zC (d + 1) 90 [.ref a0, .ref a1, .int a2, .int a3] σ Q = zX d 90 0 [.ref a0, .ref a1, .int a2, .int a3, .null, .null] [] σ Q := zC_eq d 90 _ σ Q (Nat.le_of_ble_eq_true rfl)
theorem M_90 : zmx 90 = 6 := rfl
theorem E_91 (d : Nat) (a0 : Nat) (σ : MS) (Q : Option Value → MS → Prop) : zC (d + 1) 91 [.ref a0] σ Q = zX d 91 0 [.ref a0, .null, .null, .null, .null, .null] [] σ Q := zC_eq d 91 _ σ Q (Nat.le_of_ble_eq_true rfl)
theorem M_91 : zmx 91 = 6 := rfl
theorem E_92 (d : Nat) (a0 : Nat) (a1 : Int32) (σ : MS) (Q : Option Value → MS → Prop) : zC (d + 1) 92 [.ref a0, .int a1] σ Q = zX d 92 0 [.ref a0, .int a1, .null, .null] [] σ Q := zC_eq d 92 _ σ Q (Nat.le_of_ble_eq_true rfl)
theorem M_92 : zmx 92 = 4 := rfl
theorem E_93 (d : Nat) (a0 : Nat) (σ : MS) (Q : Option Value → MS → Prop) : zC (d + 1) 93 [.ref a0] σ Q = zX d 93 0 [.ref a0, .null, .null, .null, .null, .null, .null, .null] [] σ Q := zC_eq d 93 _ σ Q (Nat.le_of_ble_eq_true rfl)
theorem M_93 : zmx 93 = 8 := rfl
theorem E_94 (d : Nat) (a0 : Nat) (a1 : Int32) (σ : MS) (Q : Option Value → MS → Prop) : zC (d + 1) 94 [.ref a0, .int a1] σ Q = zX d 94 0 [.ref a0, .int a1, .null] [] σ Q := zC_eq d 94 _ σ Q (Nat.le_of_ble_eq_true rfl)
theorem M_94 : zmx 94 = 3 := rfl
theorem E_95 (d : Nat) (a0 : Nat) (a1 : Int32) (σ : MS) (Q : Option Value → MS → Prop) : zC (d + 1) 95 [.ref a0, .int a1] σ Q = zX d 95 0 [.ref a0, .int a1, .null, .null, .null] [] σ Q := zC_eq d 95 _ σ Q (Nat.le_of_ble_eq_true rfl)
theorem M_95 : zmx 95 = 5 := rfl
theorem E_96 (d : Nat) (a0 : Nat) (a1 : Nat) (a2 : Nat) (σ : MS) (Q : Option Value → MS → Prop) : zC (d + 1) 96 [.ref a0, .ref a1, .ref a2] σ Q = zX d 96 0 [.ref a0, .ref a1, .ref a2] [] σ Q := zC_eq d 96 _ σ Q (Nat.le_of_ble_eq_true rfl)
theorem M_96 : zmx 96 = 3 := rfl
theorem E_97 (d : Nat) (a0 : Nat) (σ : MS) (Q : Option Value → MS → Prop) : zC (d + 1) 97 [.ref a0] σ Q = zX d 97 0 [.ref a0, .null, .null] [] σ Q := zC_eq d 97 _ σ Q (Nat.le_of_ble_eq_true rfl)
theorem M_97 : zmx 97 = 3 := rfl
theorem E_98 (d : Nat) (a0 : Nat) (σ : MS) (Q : Option Value → MS → Prop) : zC (d + 1) 98 [.ref a0] σ Q = zX d 98 0 [.ref a0] [] σ Q := zC_eq d 98 _ σ Q (Nat.le_of_ble_eq_true rfl)
theorem M_98 : zmx 98 = 1 := rfl
theorem E_99 (d : Nat) (a0 : Nat) (σ : MS) (Q : Option Value → MS → Prop) : zC (d + 1) 99 [.ref a0] σ Q = zX d 99 0 [.ref a0, .null] [] σ Q := zC_eq d 99 _ σ Q (Nat.le_of_ble_eq_true rfl)
theorem M_99 : zmx 99 = 2 := rfl
theorem E_100 (d : Nat) (a0 : Nat) (σ : MS) (Q : Option Value → MS → Prop) : zC (d + 1) 100 [.ref a0] σ Q = zX d 100 0 [.ref a0] [] σ Q := zC_eq d 100 _ σ Q (Nat.le_of_ble_eq_true rfl)
theorem M_100 : zmx 100 = 1 := rfl
theorem E_101 (d : Nat) (a0 : Nat) (σ : MS) (Q : Option Value → MS → Prop) : zC (d + 1) 101 [.ref a0] σ Q = zX d 101 0 [.ref a0] [] σ Q := zC_eq d 101 _ σ Q (Nat.le_of_ble_eq_true rfl)
theorem M_101 : zmx 101 = 1 := rfl
theorem E_102 (d : Nat) (a0 : Nat) (σ : MS) (Q : Option Value → MS → Prop) : zC (d + 1) 102 [.ref a0] σ Q = zX d 102 0 [.ref a0] [] σ Q := zC_eq d 102 _ σ Q (Nat.le_of_ble_eq_true rfl)
theorem M_102 : zmx 102 = 1 := rfl
theorem E_103 (d : Nat) (a0 : Nat) (σ : MS) (Q : Option Value → MS → Prop) : zC (d + 1) 103 [.ref a0] σ Q = zX d 103 0 [.ref a0, .null] [] σ Q := zC_eq d 103 _ σ Q (Nat.le_of_ble_eq_true rfl)
theorem M_103 : zmx 103 = 2 := rfl
theorem E_104 (d : Nat) (a0 : Nat) (σ : MS) (Q : Option Value → MS → Prop) : zC (d + 1) 104 [.ref a0] σ Q = zX d 104 0 [.ref a0, .null, .null] [] σ Q := zC_eq d 104 _ σ Q (Nat.le_of_ble_eq_true rfl)
theorem M_104 : zmx 104 = 3 := rfl
theorem E_105 (d : Nat) (a0 : Nat) (a1 : Int32) (σ : MS) (Q : Option Value → MS → Prop) : zC (d + 1) 105 [.ref a0, .int a1] σ Q = zX d 105 0 [.ref a0, .int a1, .null] [] σ Q := zC_eq d 105 _ σ Q (Nat.le_of_ble_eq_true rfl)
theorem M_105 : zmx 105 = 3 := rfl
theorem E_106 (d : Nat) (a0 : Nat) (σ : MS) (Q : Option Value → MS → Prop) : zC (d + 1) 106 [.ref a0] σ Q = zX d 106 0 [.ref a0, .null] [] σ Q := zC_eq d 106 _ σ Q (Nat.le_of_ble_eq_true rfl)
theorem M_106 : zmx 106 = 2 := rfl
theorem E_107 (d : Nat) (a0 : Nat) (σ : MS) (Q : Option Value → MS → Prop) : zC (d + 1) 107 [.ref a0] σ Q = zX d 107 0 [.ref a0, .null, .null] [] σ Q := zC_eq d 107 _ σ Q (Nat.le_of_ble_eq_true rfl)
theorem M_107 : zmx 107 = 3 := rfl
theorem E_108 (d : Nat) (a0 : Nat) (σ : MS) (Q : Option Value → MS → Prop) : zC (d + 1) 108 [.ref a0] σ Q = zX d 108 0 [.ref a0, .null, .null, .null, .null, .null] [] σ Q := zC_eq d 108 _ σ Q (Nat.le_of_ble_eq_true rfl)
theorem M_108 : zmx 108 = 6 := rfl
theorem E_109 (d : Nat) (a0 : Nat) (a1 : Int32) (σ : MS) (Q : Option Value → MS → Prop) : zC (d + 1) 109 [.ref a0, .int a1] σ Q = zX d 109 0 [.ref a0, .int a1, .null] [] σ Q := zC_eq d 109 _ σ Q (Nat.le_of_ble_eq_true rfl)
theorem M_109 : zmx 109 = 3 := rfl
theorem E_110 (d : Nat) (a0 : Nat) (a1 : Int32) (σ : MS) (Q : Option Value → MS → Prop) : zC (d + 1) 110 [.ref a0, .int a1] σ Q = zX d 110 0 [.ref a0, .int a1] [] σ Q := zC_eq d 110 _ σ Q (Nat.le_of_ble_eq_true rfl)
theorem M_110 : zmx 110 = 2 := rfl
theorem E_111 (d : Nat) (a0 : Nat) (σ : MS) (Q : Option Value → MS → Prop) : zC (d + 1) 111 [.ref a0] σ Q = zX d 111 0 [.ref a0] [] σ Q := zC_eq d 111 _ σ Q (Nat.le_of_ble_eq_true rfl)
theorem M_111 : zmx 111 = 1 := rfl
theorem E_112 (d : Nat) (a0 : Nat) (σ : MS) (Q : Option Value → MS → Prop) : zC (d + 1) 112 [.ref a0] σ Q = zX d 112 0 [.ref a0, .null] [] σ Q := zC_eq d 112 _ σ Q (Nat.le_of_ble_eq_true rfl)
theorem M_112 : zmx 112 = 2 := rfl
theorem E_113 (d : Nat) (a0 : Nat) (σ : MS) (Q : Option Value → MS → Prop) : zC (d + 1) 113 [.ref a0] σ Q = zX d 113 0 [.ref a0] [] σ Q := zC_eq d 113 _ σ Q (Nat.le_of_ble_eq_true rfl)
theorem M_113 : zmx 113 = 1 := rfl
theorem E_114 (d : Nat) (a0 : Int32) (σ : MS) (Q : Option Value → MS → Prop) : zC (d + 1) 114 [.int a0] σ Q = zX d 114 0 [.int a0] [] σ Q := zC_eq d 114 _ σ Q (Nat.le_of_ble_eq_true rfl)
theorem M_114 : zmx 114 = 1 := rfl
theorem E_115 (d : Nat) (a0 : Int32) (σ : MS) (Q : Option Value → MS → Prop) : zC (d + 1) 115 [.int a0] σ Q = zX d 115 0 [.int a0] [] σ Q := zC_eq d 115 _ σ Q (Nat.le_of_ble_eq_true rfl)
theorem M_115 : zmx 115 = 1 := rfl
theorem E_116 (d : Nat) (a0 : Int32) (σ : MS) (Q : Option Value → MS → Prop) : zC (d + 1) 116 [.int a0] σ Q = zX d 116 0 [.int a0] [] σ Q := zC_eq d 116 _ σ Q (Nat.le_of_ble_eq_true rfl)
theorem M_116 : zmx 116 = 1 := rfl
theorem E_117 (d : Nat) (a0 : Int32) (σ : MS) (Q : Option Value → MS → Prop) : zC (d + 1) 117 [.int a0] σ Q = zX d 117 0 [.int a0] [] σ Q := zC_eq d 117 _ σ Q (Nat.le_of_ble_eq_true rfl)
theorem M_117 : zmx 117 = 1 := rfl
theorem E_118 (d : Nat) (a0 : Int32) (σ : MS) (Q : Option Value → MS → Prop) : zC (d + 1) 118 [.int a0] σ Q = zX d 118 0 [.int a0] [] σ Q := zC_eq d 118 _ σ Q (Nat.le_of_ble_eq_true rfl)
theorem M_118 : zmx 118 = 1 := rfl
theorem E_119 (d : Nat) (a0 : Nat) (a1 : Int32) (σ : MS) (Q : Option Value → MS → Prop) : zC (d + 1) 119 [.ref a0, .int a1] σ Q = zX d 119 0 [.ref a0, .int a1] [] σ Q := zC_eq d 119 _ σ Q (Nat.le_of_ble_eq_true rfl)
theorem M_119 : zmx 119 = 2 := rfl
theorem E_120 (d : Nat) (a0 : Nat) (σ : MS) (Q : Option Value → MS → Prop) : zC (d + 1) 120 [.ref a0] σ Q = zX d 120 0 [.ref a0] [] σ Q := zC_eq d 120 _ σ Q (Nat.le_of_ble_eq_true rfl)
theorem M_120 : zmx 120 = 1 := rfl
theorem E_121 (d : Nat) (a0 : Nat) (a1 : Int32) (σ : MS) (Q : Option Value → MS → Prop) : zC (d + 1) 121 [.ref a0, .int a1] σ Q = zX d 121 0 [.ref a0, .int a1] [] σ Q := zC_eq d 121 _ σ Q (Nat.le_of_ble_eq_true rfl)
theorem M_121 : zmx 121 = 2 := rfl
theorem E_122 (d : Nat) (a0 : Nat) (a1 : Int32) (σ : MS) (Q : Option Value → MS → Prop) : zC (d + 1) 122 [.ref a0, .int a1] σ Q = zX d 122 0 [.ref a0, .int a1] [] σ Q := zC_eq d 122 _ σ Q (Nat.le_of_ble_eq_true rfl)
theorem M_122 : zmx 122 = 2 := rfl
theorem E_123 (d : Nat) (a0 : Nat) (a1 : Int32) (σ : MS) (Q : Option Value → MS → Prop) : zC (d + 1) 123 [.ref a0, .int a1] σ Q = zX d 123 0 [.ref a0, .int a1] [] σ Q := zC_eq d 123 _ σ Q (Nat.le_of_ble_eq_true rfl)
theorem M_123 : zmx 123 = 2 := rfl
theorem E_124 (d : Nat) (a0 : Nat) (σ : MS) (Q : Option Value → MS → Prop) : zC (d + 1) 124 [.ref a0] σ Q = zX d 124 0 [.ref a0] [] σ Q := zC_eq d 124 _ σ Q (Nat.le_of_ble_eq_true rfl)
theorem M_124 : zmx 124 = 1 := rfl
theorem E_125 (d : Nat) (a0 : Nat) (σ : MS) (Q : Option Value → MS → Prop) : zC (d + 1) 125 [.ref a0] σ Q = zX d 125 0 [.ref a0, .null] [] σ Q := zC_eq d 125 _ σ Q (Nat.le_of_ble_eq_true rfl)
theorem M_125 : zmx 125 = 2 := rfl
theorem E_126 (d : Nat) (a0 : Nat) (a1 : Int32) (a2 : Int32) (σ : MS) (Q : Option Value → MS → Prop) : zC (d + 1) 126 [.ref a0, .int a1, .int a2] σ Q = zX d 126 0 [.ref a0, .int a1, .int a2] [] σ Q := zC_eq d 126 _ σ Q (Nat.le_of_ble_eq_true rfl)
theorem M_126 : zmx 126 = 3 := rfl
theorem E_127 (d : Nat) (a0 : Nat) (σ : MS) (Q : Option Value → MS → Prop) : zC (d + 1) 127 [.ref a0] σ Q = zX d 127 0 [.ref a0] [] σ Q := zC_eq d 127 _ σ Q (Nat.le_of_ble_eq_true rfl)
theorem M_127 : zmx 127 = 1 := rfl
theorem E_128 (d : Nat) (a0 : Nat) (a1 : Int32) (a2 : Int32) (σ : MS) (Q : Option Value → MS → Prop) : zC (d + 1) 128 [.ref a0, .int a1, .int a2] σ Q = zX d 128 0 [.ref a0, .int a1, .int a2] [] σ Q := zC_eq d 128 _ σ Q (Nat.le_of_ble_eq_true rfl)
theorem M_128 : zmx 128 = 3 := rfl
theorem E_129 (d : Nat) (a0 : Nat) (a1 : Int32) (a2 : Int32) (σ : MS) (Q : Option Value → MS → Prop) : zC (d + 1) 129 [.ref a0, .int a1, .int a2] σ Q = zX d 129 0 [.ref a0, .int a1, .int a2] [] σ Q := zC_eq d 129 _ σ Q (Nat.le_of_ble_eq_true rfl)
theorem M_129 : zmx 129 = 3 := rfl
theorem E_130 (d : Nat) (a0 : Nat) (a1 : Int32) (σ : MS) (Q : Option Value → MS → Prop) : zC (d + 1) 130 [.ref a0, .int a1] σ Q = zX d 130 0 [.ref a0, .int a1] [] σ Q := zC_eq d 130 _ σ Q (Nat.le_of_ble_eq_true rfl)
theorem M_130 : zmx 130 = 2 := rfl
theorem E_131 (d : Nat) (a0 : Nat) (a1 : Int32) (a2 : Int64) (σ : MS) (Q : Option Value → MS → Prop) : zC (d + 1) 131 [.ref a0, .int a1, .long a2] σ Q = zX d 131 0 [.ref a0, .int a1, .long a2, .null] [] σ Q := zC_eq d 131 _ σ Q (Nat.le_of_ble_eq_true rfl)
theorem M_131 : zmx 131 = 4 := rfl
theorem E_132 (d : Nat) (a0 : Nat) (a1 : Int64) (σ : MS) (Q : Option Value → MS → Prop) : zC (d + 1) 132 [.ref a0, .long a1] σ Q = zX d 132 0 [.ref a0, .long a1, .null] [] σ Q := zC_eq d 132 _ σ Q (Nat.le_of_ble_eq_true rfl)
theorem M_132 : zmx 132 = 3 := rfl
theorem E_133 (d : Nat) (a0 : Nat) (σ : MS) (Q : Option Value → MS → Prop) : zC (d + 1) 133 [.ref a0] σ Q = zX d 133 0 [.ref a0] [] σ Q := zC_eq d 133 _ σ Q (Nat.le_of_ble_eq_true rfl)
theorem M_133 : zmx 133 = 1 := rfl
theorem E_134 (d : Nat) (a0 : Nat) (a1 : Nat) (a2 : Nat) (a3 : Int32) (σ : MS) (Q : Option Value → MS → Prop) : zC (d + 1) 134 [.ref a0, .ref a1, .ref a2, .int a3] σ Q = zX d 134 0 [.ref a0, .ref a1, .ref a2, .int a3, .null] [] σ Q := zC_eq d 134 _ σ Q (Nat.le_of_ble_eq_true rfl)
theorem M_134 : zmx 134 = 5 := rfl
theorem E_135 (d : Nat) (a0 : Nat) (a1 : Nat) (a2 : Int32) (a3 : Int32) (a4 : Int32) (σ : MS) (Q : Option Value → MS → Prop) : zC (d + 1) 135 [.ref a0, .ref a1, .int a2, .int a3, .int a4] σ Q = zX d 135 0 [.ref a0, .ref a1, .int a2, .int a3, .int a4, .null, .null, .null, .null] [] σ Q := zC_eq d 135 _ σ Q (Nat.le_of_ble_eq_true rfl)
theorem M_135 : zmx 135 = 9 := rfl
theorem E_136 (d : Nat) (a0 : Nat) (σ : MS) (Q : Option Value → MS → Prop) : zC (d + 1) 136 [.ref a0] σ Q = zX d 136 0 [.ref a0, .null, .null, .null] [] σ Q := zC_eq d 136 _ σ Q (Nat.le_of_ble_eq_true rfl)
theorem M_136 : zmx 136 = 4 := rfl
theorem E_137 (d : Nat) (a0 : Nat) (σ : MS) (Q : Option Value → MS → Prop) : zC (d + 1) 137 [.ref a0] σ Q = zX d 137 0 [.ref a0, .null] [] σ Q := zC_eq d 137 _ σ Q (Nat.le_of_ble_eq_true rfl)
theorem M_137 : zmx 137 = 2 := rfl
theorem E_138 (d : Nat) (a0 : Nat) (σ : MS) (Q : Option Value → MS → Prop) : zC (d + 1) 138 [.ref a0] σ Q = zX d 138 0 [.ref a0, .null] [] σ Q := zC_eq d 138 _ σ Q (Nat.le_of_ble_eq_true rfl)
theorem M_138 : zmx 138 = 2 := rfl
theorem E_139 (d : Nat) (a0 : Nat) (a1 : Int32) (a2 : Int32) (σ : MS) (Q : Option Value → MS → Prop) : zC (d + 1) 139 [.ref a0, .int a1, .int a2] σ Q = zX d 139 0 [.ref a0, .int a1, .int a2, .null] [] σ Q := zC_eq d 139 _ σ Q (Nat.le_of_ble_eq_true rfl)
theorem M_139 : zmx 139 = 4 := rfl
theorem E_140 (d : Nat) (a0 : Nat) (a1 : Int32) (σ : MS) (Q : Option Value → MS → Prop) : zC (d + 1) 140 [.ref a0, .int a1] σ Q = zX d 140 0 [.ref a0, .int a1, .null] [] σ Q := zC_eq d 140 _ σ Q (Nat.le_of_ble_eq_true rfl)
theorem M_140 : zmx 140 = 3 := rfl
theorem E_141 (d : Nat) (a0 : Nat) (σ : MS) (Q : Option Value → MS → Prop) : zC (d + 1) 141 [.ref a0] σ Q = zX d 141 0 [.ref a0, .null] [] σ Q := zC_eq d 141 _ σ Q (Nat.le_of_ble_eq_true rfl)
theorem M_141 : zmx 141 = 2 := rfl
theorem E_142 (d : Nat) (a0 : Nat) (σ : MS) (Q : Option Value → MS → Prop) : zC (d + 1) 142 [.ref a0] σ Q = zX d 142 0 [.ref a0] [] σ Q := zC_eq d 142 _ σ Q (Nat.le_of_ble_eq_true rfl)
theorem M_142 : zmx 142 = 1 := rfl
theorem E_143 (d : Nat) (a0 : Nat) (σ : MS) (Q : Option Value → MS → Prop) : zC (d + 1) 143 [.ref a0] σ Q = zX d 143 0 [.ref a0] [] σ Q := zC_eq d 143 _ σ Q (Nat.le_of_ble_eq_true rfl)
theorem M_143 : zmx 143 = 1 := rfl
theorem E_144 (d : Nat) (a0 : Nat) (σ : MS) (Q : Option Value → MS → Prop) : zC (d + 1) 144 [.ref a0] σ Q = zX d 144 0 [.ref a0] [] σ Q := zC_eq d 144 _ σ Q (Nat.le_of_ble_eq_true rfl)
theorem M_144 : zmx 144 = 1 := rfl
theorem E_145 (d : Nat) (a0 : Nat) (a1 : Int32) (a2 : Int32) (a3 : Int32) (σ : MS) (Q : Option Value → MS → Prop) : zC (d + 1) 145 [.ref a0, .int a1, .int a2, .int a3] σ Q = zX d 145 0 [.ref a0, .int a1, .int a2, .int a3] [] σ Q := zC_eq d 145 _ σ Q (Nat.le_of_ble_eq_true rfl)
theorem M_145 : zmx 145 = 4 := rfl
theorem E_146 (d : Nat) (a0 : Nat) (a1 : Int32) (a2 : Int32) (a3 : Int64) (σ : MS) (Q : Option Value → MS → Prop) : zC (d + 1) 146 [.ref a0, .int a1, .int a2, .long a3] σ Q = zX d 146 0 [.ref a0, .int a1, .int a2, .long a3, .null, .null] [] σ Q := zC_eq d 146 _ σ Q (Nat.le_of_ble_eq_true rfl)
theorem M_146 : zmx 146 = 6 := rfl
theorem E_147 (d : Nat) (a0 : Nat) (a1 : Int32) (a2 : Int32) (σ : MS) (Q : Option Value → MS → Prop) : zC (d + 1) 147 [.ref a0, .int a1, .int a2] σ Q = zX d 147 0 [.ref a0, .int a1, .int a2, .null] [] σ Q := zC_eq d 147 _ σ Q (Nat.le_of_ble_eq_true rfl)
theorem M_147 : zmx 147 = 4 := rfl
theorem E_148 (d : Nat) (a0 : Nat) (a1 : Int32) (a2 : Int32) (a3 : Int32) (a4 : Int32) (a5 : Int32) (σ : MS) (Q : Option Value → MS → Prop) : zC (d + 1) 148 [.ref a0, .int a1, .int a2, .int a3, .int a4, .int a5] σ Q = zX d 148 0 [.ref a0, .int a1, .int a2, .int a3, .int a4, .int a5, .null, .null] [] σ Q := zC_eq d 148 _ σ Q (Nat.le_of_ble_eq_true rfl)
theorem M_148 : zmx 148 = 8 := rfl
theorem E_149 (d : Nat) (a0 : Nat) (a1 : Int32) (a2 : Int32) (a3 : Int32) (a4 : Int32) (a5 : Int32) (σ : MS) (Q : Option Value → MS → Prop) : zC (d + 1) 149 [.ref a0, .int a1, .int a2, .int a3, .int a4, .int a5] σ Q = zX d 149 0 [.ref a0, .int a1, .int a2, .int a3, .int a4, .int a5] [] σ Q := zC_eq d 149 _ σ Q (Nat.le_of_ble_eq_true rfl)
theorem M_149 : zmx 149 = 6 := rfl
theorem E_150 (d : Nat) (a0 : Nat) (a1 : Int32) (σ : MS) (Q : Option Value → MS → Prop) : zC (d + 1) 150 [.ref a0, .int a1] σ Q = zX d 150 0 [.ref a0, .int a1, .null] [] σ Q := zC_eq d 150 _ σ Q (Nat.le_of_ble_eq_true rfl)
theorem M_150 : zmx 150 = 3 := rfl
theorem E_151 (d : Nat) (a0 : Nat) (a1 : Int32) (σ : MS) (Q : Option Value → MS → Prop) : zC (d + 1) 151 [.ref a0, .int a1] σ Q = zX d 151 0 [.ref a0, .int a1, .null] [] σ Q := zC_eq d 151 _ σ Q (Nat.le_of_ble_eq_true rfl)
theorem M_151 : zmx 151 = 3 := rfl
theorem E_152 (d : Nat) (a0 : Nat) (a1 : Int32) (σ : MS) (Q : Option Value → MS → Prop) : zC (d + 1) 152 [.ref a0, .int a1] σ Q = zX d 152 0 [.ref a0, .int a1] [] σ Q := zC_eq d 152 _ σ Q (Nat.le_of_ble_eq_true rfl)
theorem M_152 : zmx 152 = 2 := rfl
theorem E_153 (d : Nat) (a0 : Nat) (a1 : Int32) (σ : MS) (Q : Option Value → MS → Prop) : zC (d + 1) 153 [.ref a0, .int a1] σ Q = zX d 153 0 [.ref a0, .int a1] [] σ Q := zC_eq d 153 _ σ Q (Nat.le_of_ble_eq_true rfl)
theorem M_153 : zmx 153 = 2 := rfl
theorem E_154 (d : Nat) (a0 : Nat) (a1 : Int32) (a2 : Int32) (σ : MS) (Q : Option Value → MS → Prop) : zC (d + 1) 154 [.ref a0, .int a1, .int a2] σ Q = zX d 154 0 [.ref a0, .int a1, .int a2] [] σ Q := zC_eq d 154 _ σ Q (Nat.le_of_ble_eq_true rfl)
theorem M_154 : zmx 154 = 3 := rfl
theorem E_155 (d : Nat) (a0 : Nat) (a1 : Int32) (σ : MS) (Q : Option Value → MS → Prop) : zC (d + 1) 155 [.ref a0, .int a1] σ Q = zX d 155 0 [.ref a0, .int a1] [] σ Q := zC_eq d 155 _ σ Q (Nat.le_of_ble_eq_true rfl)
theorem M_155 : zmx 155 = 2 := rfl
theorem E_156 (d : Nat) (a0 : Nat) (a1 : Int32) (σ : MS) (Q : Option Value → MS → Prop) : zC (d + 1) 156 [.ref a0, .int a1] σ Q = zX d 156 0 [.ref a0, .int a1] [] σ Q := zC_eq d 156 _ σ Q (Nat.le_of_ble_eq_true rfl)
theorem M_156 : zmx 156 = 2 := rfl
theorem E_157 (d : Nat) (a0 : Nat) (a1 : Int32) (σ : MS) (Q : Option Value → MS → Prop) : zC (d + 1) 157 [.ref a0, .int a1] σ Q = zX d 157 0 [.ref a0, .int a1] [] σ Q := zC_eq d 157 _ σ Q (Nat.le_of_ble_eq_true rfl)
theorem M_157 : zmx 157 = 2 := rfl
theorem E_158 (d : Nat) (a0 : Nat) (a1 : Int32) (σ : MS) (Q : Option Value → MS → Prop) : zC (d + 1) 158 [.ref a0, .int a1] σ Q = zX d 158 0 [.ref a0, .int a1] [] σ Q := zC_eq d 158 _ σ Q (Nat.le_of_ble_eq_true rfl)
theorem M_158 : zmx 158 = 2 := rfl
theorem E_159 (d : Nat) (a0 : Nat) (a1 : Int32) (σ : MS) (Q : Option Value → MS → Prop) : zC (d + 1) 159 [.ref a0, .int a1] σ Q = zX d 159 0 [.ref a0, .int a1, .null] [] σ Q := zC_eq d 159 _ σ Q (Nat.le_of_ble_eq_true rfl)
theorem M_159 : zmx 159 = 3 := rfl
theorem E_160 (d : Nat) (a0 : Nat) (a1 : Int32) (a2 : Int32) (σ : MS) (Q : Option Value → MS → Prop) : zC (d + 1) 160 [.ref a0, .int a1, .int a2] σ Q = zX d 160 0 [.ref a0, .int a1, .int a2] [] σ Q := zC_eq d 160 _ σ Q (Nat.le_of_ble_eq_true rfl)
theorem M_160 : zmx 160 = 3 := rfl
theorem E_161 (d : Nat) (a0 : Nat) (a1 : Int32) (σ : MS) (Q : Option Value → MS → Prop) : zC (d + 1) 161 [.ref a0, .int a1] σ Q = zX d 161 0 [.ref a0, .int a1] [] σ Q := zC_eq d 161 _ σ Q (Nat.le_of_ble_eq_true rfl)
theorem M_161 : zmx 161 = 2 := rfl
theorem E_162 (d : Nat) (a0 : Nat) (a1 : Int32) (a2 : Int32) (σ : MS) (Q : Option Value → MS → Prop) : zC (d + 1) 162 [.ref a0, .int a1, .int a2] σ Q = zX d 162 0 [.ref a0, .int a1, .int a2] [] σ Q := zC_eq d 162 _ σ Q (Nat.le_of_ble_eq_true rfl)
theorem M_162 : zmx 162 = 3 := rfl
theorem E_163 (d : Nat) (a0 : Nat) (σ : MS) (Q : Option Value → MS → Prop) : zC (d + 1) 163 [.ref a0] σ Q = zX d 163 0 [.ref a0] [] σ Q := zC_eq d 163 _ σ Q (Nat.le_of_ble_eq_true rfl)
theorem M_163 : zmx 163 = 1 := rfl
theorem E_164 (d : Nat) (a0 : Nat) (a1 : Int32) (a2 : Int32) (a3 : Int32) (σ : MS) (Q : Option Value → MS → Prop) : zC (d + 1) 164 [.ref a0, .int a1, .int a2, .int a3] σ Q = zX d 164 0 [.ref a0, .int a1, .int a2, .int a3, .null, .null] [] σ Q := zC_eq d 164 _ σ Q (Nat.le_of_ble_eq_true rfl)
theorem M_164 : zmx 164 = 6 := rfl
theorem E_165 (d : Nat) (a0 : Nat) (a1 : Int32) (a2 : Int32) (σ : MS) (Q : Option Value → MS → Prop) : zC (d + 1) 165 [.ref a0, .int a1, .int a2] σ Q = zX d 165 0 [.ref a0, .int a1, .int a2] [] σ Q := zC_eq d 165 _ σ Q (Nat.le_of_ble_eq_true rfl)
theorem M_165 : zmx 165 = 3 := rfl
theorem E_166 (d : Nat) (a0 : Nat) (a1 : Int32) (a2 : Int32) (σ : MS) (Q : Option Value → MS → Prop) : zC (d + 1) 166 [.ref a0, .int a1, .int a2] σ Q = zX d 166 0 [.ref a0, .int a1, .int a2] [] σ Q := zC_eq d 166 _ σ Q (Nat.le_of_ble_eq_true rfl)
theorem M_166 : zmx 166 = 3 := rfl
theorem E_167 (d : Nat) (a0 : Nat) (a1 : Int32) (a2 : Int32) (σ : MS) (Q : Option Value → MS → Prop) : zC (d + 1) 167 [.ref a0, .int a1, .int a2] σ Q = zX d 167 0 [.ref a0, .int a1, .int a2] [] σ Q := zC_eq d 167 _ σ Q (Nat.le_of_ble_eq_true rfl)
theorem M_167 : zmx 167 = 3 := rfl
theorem E_168 (d : Nat) (a0 : Nat) (a1 : Int32) (σ : MS) (Q : Option Value → MS → Prop) : zC (d + 1) 168 [.ref a0, .int a1] σ Q = zX d 168 0 [.ref a0, .int a1, .null] [] σ Q := zC_eq d 168 _ σ Q (Nat.le_of_ble_eq_true rfl)
theorem M_168 : zmx 168 = 3 := rfl
theorem E_169 (d : Nat) (a0 : Nat) (a1 : Int32) (a2 : Int32) (σ : MS) (Q : Option Value → MS → Prop) : zC (d + 1) 169 [.ref a0, .int a1, .int a2] σ Q = zX d 169 0 [.ref a0, .int a1, .int a2] [] σ Q := zC_eq d 169 _ σ Q (Nat.le_of_ble_eq_true rfl)
theorem M_169 : zmx 169 = 3 := rfl
theorem E_170 (d : Nat) (a0 : Nat) (a1 : Int32) (a2 : Int32) (σ : MS) (Q : Option Value → MS → Prop) : zC (d + 1) 170 [.ref a0, .int a1, .int a2] σ Q = zX d 170 0 [.ref a0, .int a1, .int a2] [] σ Q := zC_eq d 170 _ σ Q (Nat.le_of_ble_eq_true rfl)
theorem M_170 : zmx 170 = 3 := rfl
theorem E_171 (d : Nat) (a0 : Nat) (a1 : Int32) (a2 : Int32) (σ : MS) (Q : Option Value → MS → Prop) : zC (d + 1) 171 [.ref a0, .int a1, .int a2] σ Q = zX d 171 0 [.ref a0, .int a1, .int a2] [] σ Q := zC_eq d 171 _ σ Q (Nat.le_of_ble_eq_true rfl)
theorem M_171 : zmx 171 = 3 := rfl
theorem E_172 (d : Nat) (a0 : Nat) (a1 : Int32) (σ : MS) (Q : Option Value → MS → Prop) : zC (d + 1) 172 [.ref a0, .int a1] σ Q = zX d 172 0 [.ref a0, .int a1] [] σ Q := zC_eq d 172 _ σ Q (Nat.le_of_ble_eq_true rfl)
theorem M_172 : zmx 172 = 2 := rfl
theorem E_173 (d : Nat) (a0 : Nat) (a1 : Int32) (σ : MS) (Q : Option Value → MS → Prop) : zC (d + 1) 173 [.ref a0, .int a1] σ Q = zX d 173 0 [.ref a0, .int a1] [] σ Q := zC_eq d 173 _ σ Q (Nat.le_of_ble_eq_true rfl)
theorem M_173 : zmx 173 = 2 := rfl
theorem E_174 (d : Nat) (a0 : Nat) (a1 : Int32) (σ : MS) (Q : Option Value → MS → Prop) : zC (d + 1) 174 [.ref a0, .int a1] σ Q = zX d 174 0 [.ref a0, .int a1, .null, .null] [] σ Q := zC_eq d 174 _ σ Q (Nat.le_of_ble_eq_true rfl)
theorem M_174 : zmx 174 = 4 := rfl
theorem E_175 (d : Nat) (a0 : Nat) (σ : MS) (Q : Option Value → MS → Prop) : zC (d + 1) 175 [.ref a0] σ Q = zX d 175 0 [.ref a0, .null, .null] [] σ Q := zC_eq d 175 _ σ Q (Nat.le_of_ble_eq_true rfl)
theorem M_175 : zmx 175 = 3 := rfl
theorem E_176 (d : Nat) (a0 : Nat) (a1 : Int32) (σ : MS) (Q : Option Value → MS → Prop) : zC (d + 1) 176 [.ref a0, .int a1] σ Q = zX d 176 0 [.ref a0, .int a1] [] σ Q := zC_eq d 176 _ σ Q (Nat.le_of_ble_eq_true rfl)
theorem M_176 : zmx 176 = 2 := rfl
theorem E_177 (d : Nat) (a0 : Nat) (a1 : Int32) (a2 : Int32) (σ : MS) (Q : Option Value → MS → Prop) : zC (d + 1) 177 [.ref a0, .int a1, .int a2] σ Q = zX d 177 0 [.ref a0, .int a1, .int a2] [] σ Q := zC_eq d 177 _ σ Q (Nat.le_of_ble_eq_true rfl)
theorem M_177 : zmx 177 = 3 := rfl
theorem E_178 (d : Nat) (a0 : Nat) (a1 : Int32) (a2 : Int32) (σ : MS) (Q : Option Value → MS → Prop) : zC (d + 1) 178 [.ref a0, .int a1, .int a2] σ Q = zX d 178 0 [.ref a0, .int a1, .int a2] [] σ Q := zC_eq d 178 _ σ Q (Nat.le_of_ble_eq_true rfl)
theorem M_178 : zmx 178 = 3 := rfl
theorem E_179 (d : Nat) (a0 : Nat) (a1 : Int32) (σ : MS) (Q : Option Value → MS → Prop) : zC (d + 1) 179 [.ref a0, .int a1] σ Q = zX d 179 0 [.ref a0, .int a1, .null, .null, .null] [] σ Q := zC_eq d 179 _ σ Q (Nat.le_of_ble_eq_true rfl)
theorem M_179 : zmx 179 = 5 := rfl
theorem E_180 (d : Nat) (a0 : Nat) (a1 : Int32) (σ : MS) (Q : Option Value → MS → Prop) : zC (d + 1) 180 [.ref a0, .int a1] σ Q = zX d 180 0 [.ref a0, .int a1, .null, .null, .null] [] σ Q := zC_eq d 180 _ σ Q (Nat.le_of_ble_eq_true rfl)
theorem M_180 : zmx 180 = 5 := rfl
theorem E_181 (d : Nat) (a0 : Nat) (a1 : Int32) (a2 : Int32) (σ : MS) (Q : Option Value → MS → Prop) : zC (d + 1) 181 [.ref a0, .int a1, .int a2] σ Q = zX d 181 0 [.ref a0, .int a1, .int a2, .null, .null, .null] [] σ Q := zC_eq d 181 _ σ Q (Nat.le_of_ble_eq_true rfl)
theorem M_181 : zmx 181 = 6 := rfl
theorem E_182 (d : Nat) (a0 : Nat) (a1 : Int32) (a2 : Int32) (σ : MS) (Q : Option Value → MS → Prop) : zC (d + 1) 182 [.ref a0, .int a1, .int a2] σ Q = zX d 182 0 [.ref a0, .int a1, .int a2, .null, .null, .null] [] σ Q := zC_eq d 182 _ σ Q (Nat.le_of_ble_eq_true rfl)
theorem M_182 : zmx 182 = 6 := rfl
theorem E_183 (d : Nat) (a0 : Nat) (a1 : Int32) (a2 : Int32) (σ : MS) (Q : Option Value → MS → Prop) : zC (d + 1) 183 [.ref a0, .int a1, .int a2] σ Q = zX d 183 0 [.ref a0, .int a1, .int a2, .null] [] σ Q := zC_eq d 183 _ σ Q (Nat.le_of_ble_eq_true rfl)
theorem M_183 : zmx 183 = 4 := rfl
theorem E_184 (d : Nat) (a0 : Nat) (a1 : Int32) (a2 : Int32) (a3 : Int32) (σ : MS) (Q : Option Value → MS → Prop) : zC (d + 1) 184 [.ref a0, .int a1, .int a2, .int a3] σ Q = zX d 184 0 [.ref a0, .int a1, .int a2, .int a3, .null, .null, .null] [] σ Q := zC_eq d 184 _ σ Q (Nat.le_of_ble_eq_true rfl)
theorem M_184 : zmx 184 = 7 := rfl
theorem E_185 (d : Nat) (a0 : Nat) (a1 : Int32) (σ : MS) (Q : Option Value → MS → Prop) : zC (d + 1) 185 [.ref a0, .int a1] σ Q = zX d 185 0 [.ref a0, .int a1] [] σ Q := zC_eq d 185 _ σ Q (Nat.le_of_ble_eq_true rfl)
theorem M_185 : zmx 185 = 2 := rfl
theorem E_186 (d : Nat) (a0 : Nat) (σ : MS) (Q : Option Value → MS → Prop) : zC (d + 1) 186 [.ref a0] σ Q = zX d 186 0 [.ref a0, .null, .null, .null] [] σ Q := zC_eq d 186 _ σ Q (Nat.le_of_ble_eq_true rfl)
theorem M_186 : zmx 186 = 4 := rfl
theorem E_187 (d : Nat) (a0 : Nat) (σ : MS) (Q : Option Value → MS → Prop) : zC (d + 1) 187 [.ref a0] σ Q = zX d 187 0 [.ref a0] [] σ Q := zC_eq d 187 _ σ Q (Nat.le_of_ble_eq_true rfl)
theorem M_187 : zmx 187 = 1 := rfl
theorem E_188 (d : Nat) (a0 : Nat) (a1 : Int32) (σ : MS) (Q : Option Value → MS → Prop) : zC (d + 1) 188 [.ref a0, .int a1] σ Q = zX d 188 0 [.ref a0, .int a1] [] σ Q := zC_eq d 188 _ σ Q (Nat.le_of_ble_eq_true rfl)
theorem M_188 : zmx 188 = 2 := rfl
theorem E_189 (d : Nat) (a0 : Nat) (σ : MS) (Q : Option Value → MS → Prop) : zC (d + 1) 189 [.ref a0] σ Q = zX d 189 0 [.ref a0, .null] [] σ Q := zC_eq d 189 _ σ Q (Nat.le_of_ble_eq_true rfl)
theorem M_189 : zmx 189 = 2 := rfl
theorem E_190 (d : Nat) (a0 : Nat) (a1 : Int32) (σ : MS) (Q : Option Value → MS → Prop) : zC (d + 1) 190 [.ref a0, .int a1] σ Q = zX d 190 0 [.ref a0, .int a1, .null] [] σ Q := zC_eq d 190 _ σ Q (Nat.le_of_ble_eq_true rfl)
theorem M_190 : zmx 190 = 3 := rfl
theorem E_191 (d : Nat) (a0 : Nat) (σ : MS) (Q : Option Value → MS → Prop) : zC (d + 1) 191 [.ref a0] σ Q = zX d 191 0 [.ref a0, .null, .null, .null] [] σ Q := zC_eq d 191 _ σ Q (Nat.le_of_ble_eq_true rfl)
theorem M_191 : zmx 191 = 4 := rfl
theorem E_192 (d : Nat) (a0 : Nat) (σ : MS) (Q : Option Value → MS → Prop) : zC (d + 1) 192 [.ref a0] σ Q = zX d 192 0 [.ref a0] [] σ Q := zC_eq d 192 _ σ Q (Nat.le_of_ble_eq_true rfl)
theorem M_192 : zmx 192 = 1 := rfl
theorem E_193 (d : Nat) (a0 : Nat) (a1 : Int32) (σ : MS) (Q : Option Value → MS → Prop) : zC (d + 1) 193 [.ref a0, .int a1] σ Q = zX d 193 0 [.ref a0, .int a1] [] σ Q := zC_eq d 193 _ σ Q (Nat.le_of_ble_eq_true rfl)
theorem M_193 : zmx 193 = 2 := rfl
theorem E_194 (d : Nat) (a0 : Nat) (a1 : Int32) (σ : MS) (Q : Option Value → MS → Prop) : zC (d + 1) 194 [.ref a0, .int a1] σ Q = zX d 194 0 [.ref a0, .int a1] [] σ Q := zC_eq d 194 _ σ Q (Nat.le_of_ble_eq_true rfl)
theorem M_194 : zmx 194 = 2 := rfl
theorem E_195 (d : Nat) (a0 : Nat) (a1 : Int32) (a2 : Int32) (σ : MS) (Q : Option Value → MS → Prop) : zC (d + 1) 195 [.ref a0, .int a1, .int a2] σ Q = zX d 195 0 [.ref a0, .int a1, .int a2, .null] [] σ Q := zC_eq d 195 _ σ Q (Nat.le_of_ble_eq_true rfl)
theorem M_195 : zmx 195 = 4 := rfl
theorem E_196 (d : Nat) (a0 : Nat) (a1 : Int32) (a2 : Int32) (a3 : Int32) (σ : MS) (Q : Option Value → MS → Prop) : zC (d + 1) 196 [.ref a0, .int a1, .int a2, .int a3] σ Q = zX d 196 0 [.ref a0, .int a1, .int a2, .int a3, .null] [] σ Q := zC_eq d 196 _ σ Q (Nat.le_of_ble_eq_true rfl)
theorem M_196 : zmx 196 = 5 := rfl
theorem E_197 (d : Nat) (a0 : Nat) (a1 : Int32) (σ : MS) (Q : Option Value → MS → Prop) : zC (d + 1) 197 [.ref a0, .int a1] σ Q = zX d 197 0 [.ref a0, .int a1] [] σ Q := zC_eq d 197 _ σ Q (Nat.le_of_ble_eq_true rfl)
theorem M_197 : zmx 197 = 2 := rfl
theorem E_198 (d : Nat) (a0 : Nat) (a1 : Int32) (σ : MS) (Q : Option Value → MS → Prop) : zC (d + 1) 198 [.ref a0, .int a1] σ Q = zX d 198 0 [.ref a0, .int a1] [] σ Q := zC_eq d 198 _ σ Q (Nat.le_of_ble_eq_true rfl)
theorem M_198 : zmx 198 = 2 := rfl
theorem E_199 (d : Nat) (a0 : Nat) (a1 : Int32) (a2 : Int32) (σ : MS) (Q : Option Value → MS → Prop) : zC (d + 1) 199 [.ref a0, .int a1, .int a2] σ Q = zX d 199 0 [.ref a0, .int a1, .int a2, .null, .null, .null, .null, .null, .null] [] σ Q := zC_eq d 199 _ σ Q (Nat.le_of_ble_eq_true rfl)
theorem M_199 : zmx 199 = 9 := rfl
theorem E_200 (d : Nat) (a0 : Nat) (a1 : Int32) (σ : MS) (Q : Option Value → MS → Prop) : zC (d + 1) 200 [.ref a0, .int a1] σ Q = zX d 200 0 [.ref a0, .int a1, .null, .null] [] σ Q := zC_eq d 200 _ σ Q (Nat.le_of_ble_eq_true rfl)
theorem M_200 : zmx 200 = 4 := rfl
theorem E_201 (d : Nat) (a0 : Nat) (a1 : Int32) (σ : MS) (Q : Option Value → MS → Prop) : zC (d + 1) 201 [.ref a0, .int a1] σ Q = zX d 201 0 [.ref a0, .int a1] [] σ Q := zC_eq d 201 _ σ Q (Nat.le_of_ble_eq_true rfl)
theorem M_201 : zmx 201 = 2 := rfl
theorem E_202 (d : Nat) (a0 : Nat) (a1 : Int32) (σ : MS) (Q : Option Value → MS → Prop) : zC (d + 1) 202 [.ref a0, .int a1] σ Q = zX d 202 0 [.ref a0, .int a1] [] σ Q := zC_eq d 202 _ σ Q (Nat.le_of_ble_eq_true rfl)
theorem M_202 : zmx 202 = 2 := rfl
theorem E_203 (d : Nat) (a0 : Nat) (a1 : Int32) (a2 : Int32) (σ : MS) (Q : Option Value → MS → Prop) : zC (d + 1) 203 [.ref a0, .int a1, .int a2] σ Q = zX d 203 0 [.ref a0, .int a1, .int a2, .null, .null, .null] [] σ Q := zC_eq d 203 _ σ Q (Nat.le_of_ble_eq_true rfl)
theorem M_203 : zmx 203 = 6 := rfl
theorem E_204 (d : Nat) (a0 : Nat) (σ : MS) (Q : Option Value → MS → Prop) : zC (d + 1) 204 [.ref a0] σ Q = zX d 204 0 [.ref a0] [] σ Q := zC_eq d 204 _ σ Q (Nat.le_of_ble_eq_true rfl)
theorem M_204 : zmx 204 = 1 := rfl
theorem E_205 (d : Nat) (a0 : Nat) (σ : MS) (Q : Option Value → MS → Prop) : zC (d + 1) 205 [.ref a0] σ Q = zX d 205 0 [.ref a0] [] σ Q := zC_eq d 205 _ σ Q (Nat.le_of_ble_eq_true rfl)
theorem M_205 : zmx 205 = 1 := rfl
theorem E_206 (d : Nat) (a0 : Nat) (a1 : Int32) (σ : MS) (Q : Option Value → MS → Prop) : zC (d + 1) 206 [.ref a0, .int a1] σ Q = zX d 206 0 [.ref a0, .int a1] [] σ Q := zC_eq d 206 _ σ Q (Nat.le_of_ble_eq_true rfl)
theorem M_206 : zmx 206 = 2 := rfl
theorem E_207 (d : Nat) (a0 : Nat) (a1 : Int32) (σ : MS) (Q : Option Value → MS → Prop) : zC (d + 1) 207 [.ref a0, .int a1] σ Q = zX d 207 0 [.ref a0, .int a1] [] σ Q := zC_eq d 207 _ σ Q (Nat.le_of_ble_eq_true rfl)
theorem M_207 : zmx 207 = 2 := rfl
theorem E_208 (d : Nat) (a0 : Nat) (a1 : Int32) (σ : MS) (Q : Option Value → MS → Prop) : zC (d + 1) 208 [.ref a0, .int a1] σ Q = zX d 208 0 [.ref a0, .int a1] [] σ Q := zC_eq d 208 _ σ Q (Nat.le_of_ble_eq_true rfl)
theorem M_208 : zmx 208 = 2 := rfl
theorem E_209 (d : Nat) (a0 : Nat) (σ : MS) (Q : Option Value → MS → Prop) : zC (d + 1) 209 [.ref a0] σ Q = zX d 209 0 [.ref a0] [] σ Q := zC_eq d 209 _ σ Q (Nat.le_of_ble_eq_true rfl)
theorem M_209 : zmx 209 = 1 := rfl
theorem E_210 (d : Nat) (a0 : Nat) (a1 : Int32) (σ : MS) (Q : Option Value → MS → Prop) : zC (d + 1) 210 [.ref a0, .int a1] σ Q = zX d 210 0 [.ref a0, .int a1] [] σ Q := zC_eq d 210 _ σ Q (Nat.le_of_ble_eq_true rfl)
theorem M_210 : zmx 210 = 2 := rfl
theorem E_211 (d : Nat) (a0 : Nat) (a1 : Int64) (a2 : Int64) (σ : MS) (Q : Option Value → MS → Prop) : zC (d + 1) 211 [.ref a0, .long a1, .long a2] σ Q = zX d 211 0 [.ref a0, .long a1, .null, .long a2, .null, .null, .null] [] σ Q := zC_eq d 211 _ σ Q (Nat.le_of_ble_eq_true rfl)
theorem M_211 : zmx 211 = 7 := rfl
theorem E_212 (d : Nat) (a0 : Int64) (a1 : Int64) (σ : MS) (Q : Option Value → MS → Prop) : zC (d + 1) 212 [.long a0, .long a1] σ Q = zX d 212 0 [.long a0, .null, .long a1, .null, .null, .null, .null, .null, .null, .null, .null] [] σ Q := zC_eq d 212 _ σ Q (Nat.le_of_ble_eq_true rfl)
theorem M_212 : zmx 212 = 11 := rfl
theorem E_213 (d : Nat) (a0 : Int32) (a1 : Int32) (a2 : Int32) (σ : MS) (Q : Option Value → MS → Prop) : zC (d + 1) 213 [.int a0, .int a1, .int a2] σ Q = zX d 213 0 [.int a0, .int a1, .int a2, .null, .null, .null] [] σ Q := zC_eq d 213 _ σ Q (Nat.le_of_ble_eq_true rfl)
theorem M_213 : zmx 213 = 6 := rfl
theorem E_214 (d : Nat) (a0 : Int32) (σ : MS) (Q : Option Value → MS → Prop) : zC (d + 1) 214 [.int a0] σ Q = zX d 214 0 [.int a0] [] σ Q := zC_eq d 214 _ σ Q (Nat.le_of_ble_eq_true rfl)
theorem M_214 : zmx 214 = 1 := rfl
theorem E_215 (d : Nat) (a0 : Nat) (a1 : Int32) (a2 : Int32) (σ : MS) (Q : Option Value → MS → Prop) : zC (d + 1) 215 [.ref a0, .int a1, .int a2] σ Q = zX d 215 0 [.ref a0, .int a1, .int a2] [] σ Q := zC_eq d 215 _ σ Q (Nat.le_of_ble_eq_true rfl)
theorem M_215 : zmx 215 = 3 := rfl
theorem E_216 (d : Nat) (a0 : Nat) (a1 : Int32) (a2 : Int32) (σ : MS) (Q : Option Value → MS → Prop) : zC (d + 1) 216 [.ref a0, .int a1, .int a2] σ Q = zX d 216 0 [.ref a0, .int a1, .int a2, .null, .null, .null] [] σ Q := zC_eq d 216 _ σ Q (Nat.le_of_ble_eq_true rfl)
theorem M_216 : zmx 216 = 6 := rfl
theorem E_217 (d : Nat) (a0 : Nat) (σ : MS) (Q : Option Value → MS → Prop) : zC (d + 1) 217 [.ref a0] σ Q = zX d 217 0 [.ref a0] [] σ Q := zC_eq d 217 _ σ Q (Nat.le_of_ble_eq_true rfl)
theorem M_217 : zmx 217 = 1 := rfl
theorem E_218 (d : Nat) (a0 : Nat) (σ : MS) (Q : Option Value → MS → Prop) : zC (d + 1) 218 [.ref a0] σ Q = zX d 218 0 [.ref a0] [] σ Q := zC_eq d 218 _ σ Q (Nat.le_of_ble_eq_true rfl)
theorem M_218 : zmx 218 = 1 := rfl
theorem E_219 (d : Nat) (a0 : Nat) (a1 : Int32) (σ : MS) (Q : Option Value → MS → Prop) : zC (d + 1) 219 [.ref a0, .int a1] σ Q = zX d 219 0 [.ref a0, .int a1, .null] [] σ Q := zC_eq d 219 _ σ Q (Nat.le_of_ble_eq_true rfl)
theorem M_219 : zmx 219 = 3 := rfl
theorem E_220 (d : Nat) (a0 : Nat) (σ : MS) (Q : Option Value → MS → Prop) : zC (d + 1) 220 [.ref a0] σ Q = zX d 220 0 [.ref a0] [] σ Q := zC_eq d 220 _ σ Q (Nat.le_of_ble_eq_true rfl)
theorem M_220 : zmx 220 = 1 := rfl
theorem E_221 (d : Nat) (a0 : Nat) (σ : MS) (Q : Option Value → MS → Prop) : zC (d + 1) 221 [.ref a0] σ Q = zX d 221 0 [.ref a0] [] σ Q := zC_eq d 221 _ σ Q (Nat.le_of_ble_eq_true rfl)
theorem M_221 : zmx 221 = 1 := rfl
theorem E_222 (d : Nat) (a0 : Nat) (σ : MS) (Q : Option Value → MS → Prop) : zC (d + 1) 222 [.ref a0] σ Q = zX d 222 0 [.ref a0] [] σ Q := zC_eq d 222 _ σ Q (Nat.le_of_ble_eq_true rfl)
theorem M_222 : zmx 222 = 1 := rfl
theorem E_223 (d : Nat) (a0 : Nat) (a1 : Int32) (σ : MS) (Q : Option Value → MS → Prop) : zC (d + 1) 223 [.ref a0, .int a1] σ Q = zX d 223 0 [.ref a0, .int a1] [] σ Q := zC_eq d 223 _ σ Q (Nat.le_of_ble_eq_true rfl)
theorem M_223 : zmx 223 = 2 := rfl
theorem E_224 (d : Nat) (a0 : Nat) (a1 : Int32) (σ : MS) (Q : Option Value → MS → Prop) : zC (d + 1) 224 [.ref a0, .int a1] σ Q = zX d 224 0 [.ref a0, .int a1] [] σ Q := zC_eq d 224 _ σ Q (Nat.le_of_ble_eq_true rfl)
theorem M_224 : zmx 224 = 2 := rfl
theorem E_225 (d : Nat) (a0 : Nat) (a1 : Int32) (σ : MS) (Q : Option Value → MS → Prop) : zC (d + 1) 225 [.ref a0, .int a1] σ Q = zX d 225 0 [.ref a0, .int a1] [] σ Q := zC_eq d 225 _ σ Q (Nat.le_of_ble_eq_true rfl)
theorem M_225 : zmx 225 = 2 := rfl
theorem E_226 (d : Nat) (a0 : Nat) (a1 : Int32) (σ : MS) (Q : Option Value → MS → Prop) : zC (d + 1) 226 [.ref a0, .int a1] σ Q = zX d 226 0 [.ref a0, .int a1] [] σ Q := zC_eq d 226 _ σ Q (Nat.le_of_ble_eq_true rfl)
theorem M_226 : zmx 226 = 2 := rfl
theorem E_227 (d : Nat) (a0 : Nat) (a1 : Int64) (a2 : Int64) (σ : MS) (Q : Option Value → MS → Prop) : zC (d + 1) 227 [.ref a0, .long a1, .long a2] σ Q = zX d 227 0 [.ref a0, .long a1, .null, .long a2, .null, .null, .null, .null, .null, .null, .null] [] σ Q := zC_eq d 227 _ σ Q (Nat.le_of_ble_eq_true rfl)
theorem M_227 : zmx 227 = 11 := rfl
theorem E_228 (d : Nat) (a0 : Int32) (σ : MS) (Q : Option Value → MS → Prop) : zC (d + 1) 228 [.int a0] σ Q = zX d 228 0 [.int a0] [] σ Q := zC_eq d 228 _ σ Q (Nat.le_of_ble_eq_true rfl)
theorem M_228 : zmx 228 = 1 := rfl
theorem E_229 (d : Nat) (a0 : Int64) (a1 : Int32) (σ : MS) (Q : Option Value → MS → Prop) : zC (d + 1) 229 [.long a0, .int a1] σ Q = zX d 229 0 [.long a0, .null, .int a1] [] σ Q := zC_eq d 229 _ σ Q (Nat.le_of_ble_eq_true rfl)
theorem M_229 : zmx 229 = 3 := rfl
theorem E_230 (d : Nat) (a0 : Nat) (a1 : Int32) (a2 : Int32) (a3 : Int32) (σ : MS) (Q : Option Value → MS → Prop) : zC (d + 1) 230 [.ref a0, .int a1, .int a2, .int a3] σ Q = zX d 230 0 [.ref a0, .int a1, .int a2, .int a3, .null] [] σ Q := zC_eq d 230 _ σ Q (Nat.le_of_ble_eq_true rfl)
theorem M_230 : zmx 230 = 5 := rfl
theorem E_231 (d : Nat) (a0 : Nat) (a1 : Int32) (a2 : Int32) (σ : MS) (Q : Option Value → MS → Prop) : zC (d + 1) 231 [.ref a0, .int a1, .int a2] σ Q = zX d 231 0 [.ref a0, .int a1, .int a2] [] σ Q := zC_eq d 231 _ σ Q (Nat.le_of_ble_eq_true rfl)
theorem M_231 : zmx 231 = 3 := rfl
theorem E_232 (d : Nat) (a0 : Nat) (a1 : Int32) (a2 : Int32) (a3 : Int64) (σ : MS) (Q : Option Value → MS → Prop) : zC (d + 1) 232 [.ref a0, .int a1, .int a2, .long a3] σ Q = zX d 232 0 [.ref a0, .int a1, .int a2, .long a3, .null, .null] [] σ Q := zC_eq d 232 _ σ Q (Nat.le_of_ble_eq_true rfl)
theorem M_232 : zmx 232 = 6 := rfl
theorem E_233 (d : Nat) (a0 : Nat) (a1 : Int32) (a2 : Int32) (σ : MS) (Q : Option Value → MS → Prop) : zC (d + 1) 233 [.ref a0, .int a1, .int a2] σ Q = zX d 233 0 [.ref a0, .int a1, .int a2] [] σ Q := zC_eq d 233 _ σ Q (Nat.le_of_ble_eq_true rfl)
theorem M_233 : zmx 233 = 3 := rfl
theorem E_234 (d : Nat) (a0 : Nat) (a1 : Int32) (a2 : Int32) (a3 : Int32) (a4 : Int32) (a5 : Int32) (σ : MS) (Q : Option Value → MS → Prop) : zC (d + 1) 234 [.ref a0, .int a1, .int a2, .int a3, .int a4, .int a5] σ Q = zX d 234 0 [.ref a0, .int a1, .int a2, .int a3, .int a4, .int a5, .null, .null] [] σ Q := zC_eq d 234 _ σ Q (Nat.le_of_ble_eq_true rfl)
theorem M_234 : zmx 234 = 8 := rfl
theorem E_235 (d : Nat) (a0 : Int64) (a1 : Int64) (a2 : Int64) (σ : MS) (Q : Option Value → MS → Prop) : zC (d + 1) 235 [.long a0, .long a1, .long a2] σ Q = zX d 235 0 [.long a0, .null, .long a1, .null, .long a2, .null] [] σ Q := zC_eq d 235 _ σ Q (Nat.le_of_ble_eq_true rfl)
theorem M_235 : zmx 235 = 6 := rfl
theorem E_236 (d : Nat) (a0 : Nat) (a1 : Int32) (a2 : Int32) (a3 : Int32) (a4 : Int32) (a5 : Int32) (σ : MS) (Q : Option Value → MS → Prop) : zC (d + 1) 236 [.ref a0, .int a1, .int a2, .int a3, .int a4, .int a5] σ Q = zX d 236 0 [.ref a0, .int a1, .int a2, .int a3, .int a4, .int a5] [] σ Q := zC_eq d 236 _ σ Q (Nat.le_of_ble_eq_true rfl)
theorem M_236 : zmx 236 = 6 := rfl
theorem E_237 (d : Nat) (a0 : Nat) (a1 : Int32) (σ : MS) (Q : Option Value → MS → Prop) : zC (d + 1) 237 [.ref a0, .int a1] σ Q = zX d 237 0 [.ref a0, .int a1, .null] [] σ Q := zC_eq d 237 _ σ Q (Nat.le_of_ble_eq_true rfl)
theorem M_237 : zmx 237 = 3 := rfl
theorem E_238 (d : Nat) (a0 : Nat) (a1 : Int32) (σ : MS) (Q : Option Value → MS → Prop) : zC (d + 1) 238 [.ref a0, .int a1] σ Q = zX d 238 0 [.ref a0, .int a1] [] σ Q := zC_eq d 238 _ σ Q (Nat.le_of_ble_eq_true rfl)
theorem M_238 : zmx 238 = 2 := rfl
theorem E_239 (d : Nat) (a0 : Int32) (σ : MS) (Q : Option Value → MS → Prop) : zC (d + 1) 239 [.int a0] σ Q = zX d 239 0 [.int a0] [] σ Q := zC_eq d 239 _ σ Q (Nat.le_of_ble_eq_true rfl)
theorem M_239 : zmx 239 = 1 := rfl
theorem E_240 (d : Nat) (a0 : Int32) (σ : MS) (Q : Option Value → MS → Prop) : zC (d + 1) 240 [.int a0] σ Q = zX d 240 0 [.int a0] [] σ Q := zC_eq d 240 _ σ Q (Nat.le_of_ble_eq_true rfl)
theorem M_240 : zmx 240 = 1 := rfl
theorem E_241 (d : Nat) (a0 : Nat) (σ : MS) (Q : Option Value → MS → Prop) : zC (d + 1) 241 [.ref a0] σ Q = zX d 241 0 [.ref a0, .null] [] σ Q := zC_eq d 241 _ σ Q (Nat.le_of_ble_eq_true rfl)
theorem M_241 : zmx 241 = 2 := rfl
theorem E_242 (d : Nat) (a0 : Nat) (a1 : Int32) (σ : MS) (Q : Option Value → MS → Prop) : zC (d + 1) 242 [.ref a0, .int a1] σ Q = zX d 242 0 [.ref a0, .int a1] [] σ Q := zC_eq d 242 _ σ Q (Nat.le_of_ble_eq_true rfl)
theorem M_242 : zmx 242 = 2 := rfl
theorem E_243 (d : Nat) (a0 : Nat) (a1 : Nat) (σ : MS) (Q : Option Value → MS → Prop) : zC (d + 1) 243 [.ref a0, .ref a1] σ Q = zX d 243 0 [.ref a0, .ref a1, .null, .null, .null, .null, .null] [] σ Q := zC_eq d 243 _ σ Q (Nat.le_of_ble_eq_true rfl)
theorem M_243 : zmx 243 = 7 := rfl
theorem E_244 (d : Nat) (a0 : Nat) (a1 : Int32) (σ : MS) (Q : Option Value → MS → Prop) : zC (d + 1) 244 [.ref a0, .int a1] σ Q = zX d 244 0 [.ref a0, .int a1] [] σ Q := zC_eq d 244 _ σ Q (Nat.le_of_ble_eq_true rfl)
theorem M_244 : zmx 244 = 2 := rfl
theorem E_245 (d : Nat) (a0 : Nat) (a1 : Int32) (a2 : Int32) (σ : MS) (Q : Option Value → MS → Prop) : zC (d + 1) 245 [.ref a0, .int a1, .int a2] σ Q = zX d 245 0 [.ref a0, .int a1, .int a2, .null] [] σ Q := zC_eq d 245 _ σ Q (Nat.le_of_ble_eq_true rfl)
theorem M_245 : zmx 245 = 4 := rfl
theorem E_246 (d : Nat) (a0 : Nat) (a1 : Int32) (σ : MS) (Q : Option Value → MS → Prop) : zC (d + 1) 246 [.ref a0, .int a1] σ Q = zX d 246 0 [.ref a0, .int a1] [] σ Q := zC_eq d 246 _ σ Q (Nat.le_of_ble_eq_true rfl)
theorem M_246 : zmx 246 = 2 := rfl
theorem E_247 (d : Nat) (a0 : Nat) (a1 : Nat) (a2 : Int32) (σ : MS) (Q : Option Value → MS → Prop) : zC (d + 1) 247 [.ref a0, .ref a1, .int a2] σ Q = zX d 247 0 [.ref a0, .ref a1, .int a2] [] σ Q := zC_eq d 247 _ σ Q (Nat.le_of_ble_eq_true rfl)
theorem M_247 : zmx 247 = 3 := rfl
theorem E_248 (d : Nat) (a0 : Nat) (a1 : Int32) (a2 : Int32) (a3 : Int32) (σ : MS) (Q : Option Value → MS → Prop) : zC (d + 1) 248 [.ref a0, .int a1, .int a2, .int a3] σ Q = zX d 248 0 [.ref a0, .int a1, .int a2, .int a3] [] σ Q := zC_eq d 248 _ σ Q (Nat.le_of_ble_eq_true rfl)
theorem M_248 : zmx 248 = 4 := rfl
theorem E_249 (d : Nat) (a0 : Nat) (a1 : Nat) (σ : MS) (Q : Option Value → MS → Prop) : zC (d + 1) 249 [.ref a0, .ref a1] σ Q = zX d 249 0 [.ref a0, .ref a1] [] σ Q := zC_eq d 249 _ σ Q (Nat.le_of_ble_eq_true rfl)
theorem M_249 : zmx 249 = 2 := rfl
theorem E_250 (d : Nat) (a0 : Nat) (σ : MS) (Q : Option Value → MS → Prop) : zC (d + 1) 250 [.ref a0] σ Q = zX d 250 0 [.ref a0, .null, .null, .null] [] σ Q := zC_eq d 250 _ σ Q (Nat.le_of_ble_eq_true rfl)
theorem M_250 : zmx 250 = 4 := rfl
theorem E_251 (d : Nat) (a0 : Nat) (a1 : Int32) (a2 : Int32) (σ : MS) (Q : Option Value → MS → Prop) : zC (d + 1) 251 [.ref a0, .int a1, .int a2] σ Q = zX d 251 0 [.ref a0, .int a1, .int a2, .null] [] σ Q := zC_eq d 251 _ σ Q (Nat.le_of_ble_eq_true rfl)
theorem M_251 : zmx 251 = 4 := rfl
theorem E_252 (d : Nat) (a0 : Nat) (a1 : Int32) (σ : MS) (Q : Option Value → MS → Prop) : zC (d + 1) 252 [.ref a0, .int a1] σ Q = zX d 252 0 [.ref a0, .int a1] [] σ Q := zC_eq d 252 _ σ Q (Nat.le_of_ble_eq_true rfl)
theorem M_252 : zmx 252 = 2 := rfl
theorem E_253 (d : Nat) (a0 : Nat) (a1 : Int32) (σ : MS) (Q : Option Value → MS → Prop) : zC (d + 1) 253 [.ref a0, .int a1] σ Q = zX d 253 0 [.ref a0, .int a1] [] σ Q := zC_eq d 253 _ σ Q (Nat.le_of_ble_eq_true rfl)
theorem M_253 : zmx 253 = 2 := rfl
theorem E_254 (d : Nat) (a0 : Int32) (σ : MS) (Q : Option Value → MS → Prop) : zC (d + 1) 254 [.int a0] σ Q = zX d 254 0 [.int a0] [] σ Q := zC_eq d 254 _ σ Q (Nat.le_of_ble_eq_true rfl)
theorem M_254 : zmx 254 = 1 := rfl
theorem E_255 (d : Nat) (a0 : Nat) (a1 : Int32) (a2 : Int32) (a3 : Int32) (σ : MS) (Q : Option Value → MS → Prop) : zC (d + 1) 255 [.ref a0, .int a1, .int a2, .int a3] σ Q = zX d 255 0 [.ref a0, .int a1, .int a2, .int a3] [] σ Q := zC_eq d 255 _ σ Q (Nat.le_of_ble_eq_true rfl)
theorem M_255 : zmx 255 = 4 := rfl
theorem E_256 (d : Nat) (a0 : Nat) (a1 : Int32) (a2 : Int32) (a3 : Int32) (σ : MS) (Q : Option Value → MS → Prop) : zC (d + 1) 256 [.ref a0, .int a1, .int a2, .int a3] σ Q = zX d 256 0 [.ref a0, .int a1, .int a2, .int a3] [] σ Q := zC_eq d 256 _ σ Q (Nat.le_of_ble_eq_true rfl)
theorem M_256 : zmx 256 = 4 := rfl
theorem E_257 (d : Nat) (a0 : Nat) (σ : MS) (Q : Option Value → MS → Prop) : zC (d + 1) 257 [.ref a0] σ Q = zX d 257 0 [.ref a0] [] σ Q := zC_eq d 257 _ σ Q (Nat.le_of_ble_eq_true rfl)
theorem M_257 : zmx 257 = 1 := rfl
theorem E_258 (d : Nat) (a0 : Nat) (σ : MS) (Q : Option Value → MS → Prop) : zC (d + 1) 258 [.ref a0] σ Q = zX d 258 0 [.ref a0] [] σ Q := zC_eq d 258 _ σ Q (Nat.le_of_ble_eq_true rfl)
theorem M_258 : zmx 258 = 1 := rfl
theorem E_259 (d : Nat) (a0 : Nat) (σ : MS) (Q : Option Value → MS → Prop) : zC (d + 1) 259 [.ref a0] σ Q = zX d 259 0 [.ref a0, .null, .null] [] σ Q := zC_eq d 259 _ σ Q (Nat.le_of_ble_eq_true rfl)
theorem M_259 : zmx 259 = 3 := rfl
theorem E_260 (d : Nat) (a0 : Nat) (a1 : Int32) (σ : MS) (Q : Option Value → MS → Prop) : zC (d + 1) 260 [.ref a0, .int a1] σ Q = zX d 260 0 [.ref a0, .int a1] [] σ Q := zC_eq d 260 _ σ Q (Nat.le_of_ble_eq_true rfl)
theorem M_260 : zmx 260 = 2 := rfl
theorem E_261 (d : Nat) (a0 : Nat) (σ : MS) (Q : Option Value → MS → Prop) : zC (d + 1) 261 [.ref a0] σ Q = zX d 261 0 [.ref a0] [] σ Q := zC_eq d 261 _ σ Q (Nat.le_of_ble_eq_true rfl)
theorem M_261 : zmx 261 = 1 := rfl
theorem E_262 (d : Nat) (a0 : Nat) (σ : MS) (Q : Option Value → MS → Prop) : zC (d + 1) 262 [.ref a0] σ Q = zX d 262 0 [.ref a0, .null, .null, .null] [] σ Q := zC_eq d 262 _ σ Q (Nat.le_of_ble_eq_true rfl)
theorem M_262 : zmx 262 = 4 := rfl
theorem E_263 (d : Nat) (a0 : Nat) (σ : MS) (Q : Option Value → MS → Prop) : zC (d + 1) 263 [.ref a0] σ Q = zX d 263 0 [.ref a0, .null, .null] [] σ Q := zC_eq d 263 _ σ Q (Nat.le_of_ble_eq_true rfl)
theorem M_263 : zmx 263 = 3 := rfl
theorem E_264 (d : Nat) (a0 : Nat) (a1 : Int32) (σ : MS) (Q : Option Value → MS → Prop) : zC (d + 1) 264 [.ref a0, .int a1] σ Q = zX d 264 0 [.ref a0, .int a1, .null, .null] [] σ Q := zC_eq d 264 _ σ Q (Nat.le_of_ble_eq_true rfl)
theorem M_264 : zmx 264 = 4 := rfl
theorem E_265 (d : Nat) (a0 : Nat) (a1 : Int32) (σ : MS) (Q : Option Value → MS → Prop) : zC (d + 1) 265 [.ref a0, .int a1] σ Q = zX d 265 0 [.ref a0, .int a1] [] σ Q := zC_eq d 265 _ σ Q (Nat.le_of_ble_eq_true rfl)
theorem M_265 : zmx 265 = 2 := rfl
theorem E_266 (d : Nat) (a0 : Nat) (a1 : Int32) (σ : MS) (Q : Option Value → MS → Prop) : zC (d + 1) 266 [.ref a0, .int a1] σ Q = zX d 266 0 [.ref a0, .int a1] [] σ Q := zC_eq d 266 _ σ Q (Nat.le_of_ble_eq_true rfl)
theorem M_266 : zmx 266 = 2 := rfl
theorem E_267 (d : Nat) (a0 : Nat) (a1 : Int32) (σ : MS) (Q : Option Value → MS → Prop) : zC (d + 1) 267 [.ref a0, .int a1] σ Q = zX d 267 0 [.ref a0, .int a1, .null] [] σ Q := zC_eq d 267 _ σ Q (Nat.le_of_ble_eq_true rfl)
theorem M_267 : zmx 267 = 3 := rfl
theorem E_268 (d : Nat) (a0 : Nat) (a1 : Int32) (a2 : Int32) (σ : MS) (Q : Option Value → MS → Prop) : zC (d + 1) 268 [.ref a0, .int a1, .int a2] σ Q = zX d 268 0 [.ref a0, .int a1, .int a2] [] σ Q := zC_eq d 268 _ σ Q (Nat.le_of_ble_eq_true rfl)
theorem M_268 : zmx 268 = 3 := rfl
theorem E_269 (d : Nat) (a0 : Nat) (σ : MS) (Q : Option Value → MS → Prop) : zC (d + 1) 269 [.ref a0] σ Q = zX d 269 0 [.ref a0, .null, .null, .null, .null, .null] [] σ Q := zC_eq d 269 _ σ Q (Nat.le_of_ble_eq_true rfl)
theorem M_269 : zmx 269 = 6 := rfl
theorem E_270 (d : Nat) (a0 : Nat) (a1 : Int32) (σ : MS) (Q : Option Value → MS → Prop) : zC (d + 1) 270 [.ref a0, .int a1] σ Q = zX d 270 0 [.ref a0, .int a1, .null, .null] [] σ Q := zC_eq d 270 _ σ Q (Nat.le_of_ble_eq_true rfl)
theorem M_270 : zmx 270 = 4 := rfl
theorem E_271 (d : Nat) (a0 : Nat) (σ : MS) (Q : Option Value → MS → Prop) : zC (d + 1) 271 [.ref a0] σ Q = zX d 271 0 [.ref a0] [] σ Q := zC_eq d 271 _ σ Q (Nat.le_of_ble_eq_true rfl)
theorem M_271 : zmx 271 = 1 := rfl
theorem E_272 (d : Nat) (a0 : Nat) (a1 : Int32) (σ : MS) (Q : Option Value → MS → Prop) : zC (d + 1) 272 [.ref a0, .int a1] σ Q = zX d 272 0 [.ref a0, .int a1] [] σ Q := zC_eq d 272 _ σ Q (Nat.le_of_ble_eq_true rfl)
theorem M_272 : zmx 272 = 2 := rfl
theorem E_273 (d : Nat) (a0 : Nat) (a1 : Int64) (σ : MS) (Q : Option Value → MS → Prop) : zC (d + 1) 273 [.ref a0, .long a1] σ Q = zX d 273 0 [.ref a0, .long a1, .null] [] σ Q := zC_eq d 273 _ σ Q (Nat.le_of_ble_eq_true rfl)
theorem M_273 : zmx 273 = 3 := rfl
theorem E_274 (d : Nat) (a0 : Nat) (a1 : Int32) (σ : MS) (Q : Option Value → MS → Prop) : zC (d + 1) 274 [.ref a0, .int a1] σ Q = zX d 274 0 [.ref a0, .int a1] [] σ Q := zC_eq d 274 _ σ Q (Nat.le_of_ble_eq_true rfl)
theorem M_274 : zmx 274 = 2 := rfl
theorem E_275 (d : Nat) (a0 : Nat) (a1 : Int32) (σ : MS) (Q : Option Value → MS → Prop) : zC (d + 1) 275 [.ref a0, .int a1] σ Q = zX d 275 0 [.ref a0, .int a1] [] σ Q := zC_eq d 275 _ σ Q (Nat.le_of_ble_eq_true rfl)
theorem M_275 : zmx 275 = 2 := rfl
theorem E_276 (d : Nat) (a0 : Nat) (a1 : Int32) (σ : MS) (Q : Option Value → MS → Prop) : zC (d + 1) 276 [.ref a0, .int a1] σ Q = zX d 276 0 [.ref a0, .int a1] [] σ Q := zC_eq d 276 _ σ Q (Nat.le_of_ble_eq_true rfl)
theorem M_276 : zmx 276 = 2 := rfl
theorem E_277 (d : Nat) (a0 : Nat) (a1 : Int32) (σ : MS) (Q : Option Value → MS → Prop) : zC (d + 1) 277 [.ref a0, .int a1] σ Q = zX d 277 0 [.ref a0, .int a1] [] σ Q := zC_eq d 277 _ σ Q (Nat.le_of_ble_eq_true rfl)
theorem M_277 : zmx 277 = 2 := rfl
theorem E_278 (d : Nat) (a0 : Nat) (a1 : Int32) (a2 : Int32) (σ : MS) (Q : Option Value → MS → Prop) : zC (d + 1) 278 [.ref a0, .int a1, .int a2] σ Q = zX d 278 0 [.ref a0, .int a1, .int a2] [] σ Q := zC_eq d 278 _ σ Q (Nat.le_of_ble_eq_true rfl)
theorem M_278 : zmx 278 = 3 := rfl
theorem E_279 (d : Nat) (a0 : Int32) (σ : MS) (Q : Option Value → MS → Prop) : zC (d + 1) 279 [.int a0] σ Q = zX d 279 0 [.int a0, .null, .null] [] σ Q := zC_eq d 279 _ σ Q (Nat.le_of_ble_eq_true rfl)
theorem M_279 : zmx 279 = 3 := rfl
theorem E_280 (d : Nat) (a0 : Nat) (a1 : Int32) (σ : MS) (Q : Option Value → MS → Prop) : zC (d + 1) 280 [.ref a0, .int a1] σ Q = zX d 280 0 [.ref a0, .int a1] [] σ Q := zC_eq d 280 _ σ Q (Nat.le_of_ble_eq_true rfl)
theorem M_280 : zmx 280 = 2 := rfl
theorem E_281 (d : Nat) (a0 : Nat) (a1 : Int32) (σ : MS) (Q : Option Value → MS → Prop) : zC (d + 1) 281 [.ref a0, .int a1] σ Q = zX d 281 0 [.ref a0, .int a1] [] σ Q := zC_eq d 281 _ σ Q (Nat.le_of_ble_eq_true rfl)
theorem M_281 : zmx 281 = 2 := rfl
theorem E_282 (d : Nat) (a0 : Nat) (a1 : Int32) (σ : MS) (Q : Option Value → MS → Prop) : zC (d + 1) 282 [.ref a0, .int a1] σ Q = zX d 282 0 [.ref a0, .int a1] [] σ Q := zC_eq d 282 _ σ Q (Nat.le_of_ble_eq_true rfl)
theorem M_282 : zmx 282 = 2 := rfl
theorem E_283 (d : Nat) (a0 : Nat) (a1 : Int32) (σ : MS) (Q : Option Value → MS → Prop) : zC (d + 1) 283 [.ref a0, .int a1] σ Q = zX d 283 0 [.ref a0, .int a1, .null] [] σ Q := zC_eq d 283 _ σ Q (Nat.le_of_ble_eq_true rfl)
theorem M_283 : zmx 283 = 3 := rfl
theorem E_284 (d : Nat) (a0 : Nat) (a1 : Int32) (a2 : Int32) (σ : MS) (Q : Option Value → MS → Prop) : zC (d + 1) 284 [.ref a0, .int a1, .int a2] σ Q = zX d 284 0 [.ref a0, .int a1, .int a2, .null, .null, .null] [] σ Q := zC_eq d 284 _ σ Q (Nat.le_of_ble_eq_true rfl)
theorem M_284 : zmx 284 = 6 := rfl
theorem E_285 (d : Nat) (a0 : Nat) (σ : MS) (Q : Option Value → MS → Prop) : zC (d + 1) 285 [.ref a0] σ Q = zX d 285 0 [.ref a0, .null, .null] [] σ Q := zC_eq d 285 _ σ Q (Nat.le_of_ble_eq_true rfl)
theorem M_285 : zmx 285 = 3 := rfl
theorem E_286 (d : Nat) (a0 : Nat) (σ : MS) (Q : Option Value → MS → Prop) : zC (d + 1) 286 [.ref a0] σ Q = zX d 286 0 [.ref a0, .null, .null] [] σ Q := zC_eq d 286 _ σ Q (Nat.le_of_ble_eq_true rfl)
theorem M_286 : zmx 286 = 3 := rfl
theorem E_287 (d : Nat) (a0 : Nat) (a1 : Int32) (σ : MS) (Q : Option Value → MS → Prop) : zC (d + 1) 287 [.ref a0, .int a1] σ Q = zX d 287 0 [.ref a0, .int a1, .null, .null] [] σ Q := zC_eq d 287 _ σ Q (Nat.le_of_ble_eq_true rfl)
theorem M_287 : zmx 287 = 4 := rfl
theorem E_288 (d : Nat) (a0 : Nat) (a1 : Int32) (a2 : Int32) (σ : MS) (Q : Option Value → MS → Prop) : zC (d + 1) 288 [.ref a0, .int a1, .int a2] σ Q = zX d 288 0 [.ref a0, .int a1, .int a2] [] σ Q := zC_eq d 288 _ σ Q (Nat.le_of_ble_eq_true rfl)
theorem M_288 : zmx 288 = 3 := rfl
theorem E_289 (d : Nat) (a0 : Nat) (a1 : Int32) (a2 : Int32) (σ : MS) (Q : Option Value → MS → Prop) : zC (d + 1) 289 [.ref a0, .int a1, .int a2] σ Q = zX d 289 0 [.ref a0, .int a1, .int a2, .null, .null] [] σ Q := zC_eq d 289 _ σ Q (Nat.le_of_ble_eq_true rfl)
theorem M_289 : zmx 289 = 5 := rfl
theorem E_290 (d : Nat) (a0 : Nat) (σ : MS) (Q : Option Value → MS → Prop) : zC (d + 1) 290 [.ref a0] σ Q = zX d 290 0 [.ref a0, .null, .null] [] σ Q := zC_eq d 290 _ σ Q (Nat.le_of_ble_eq_true rfl)
theorem M_290 : zmx 290 = 3 := rfl
theorem E_291 (d : Nat) (a0 : Nat) (a1 : Int32) (σ : MS) (Q : Option Value → MS → Prop) : zC (d + 1) 291 [.ref a0, .int a1] σ Q = zX d 291 0 [.ref a0, .int a1] [] σ Q := zC_eq d 291 _ σ Q (Nat.le_of_ble_eq_true rfl)
theorem M_291 : zmx 291 = 2 := rfl
theorem E_292 (d : Nat) (a0 : Nat) (a1 : Int32) (a2 : Int32) (σ : MS) (Q : Option Value → MS → Prop) : zC (d + 1) 292 [.ref a0, .int a1, .int a2] σ Q = zX d 292 0 [.ref a0, .int a1, .int a2, .null, .null] [] σ Q := zC_eq d 292 _ σ Q (Nat.le_of_ble_eq_true rfl)
theorem M_292 : zmx 292 = 5 := rfl
theorem E_293 (d : Nat) (a0 : Nat) (a1 : Int32) (σ : MS) (Q : Option Value → MS → Prop) : zC (d + 1) 293 [.ref a0, .int a1] σ Q = zX d 293 0 [.ref a0, .int a1] [] σ Q := zC_eq d 293 _ σ Q (Nat.le_of_ble_eq_true rfl)
theorem M_293 : zmx 293 = 2 := rfl
theorem E_294 (d : Nat) (a0 : Nat) (a1 : Int32) (σ : MS) (Q : Option Value → MS → Prop) : zC (d + 1) 294 [.ref a0, .int a1] σ Q = zX d 294 0 [.ref a0, .int a1] [] σ Q := zC_eq d 294 _ σ Q (Nat.le_of_ble_eq_true rfl)
theorem M_294 : zmx 294 = 2 := rfl
theorem E_295 (d : Nat) (a0 : Nat) (a1 : Int32) (σ : MS) (Q : Option Value → MS → Prop) : zC (d + 1) 295 [.ref a0, .int a1] σ Q = zX d 295 0 [.ref a0, .int a1] [] σ Q := zC_eq d 295 _ σ Q (Nat.le_of_ble_eq_true rfl)
theorem M_295 : zmx 295 = 2 := rfl
theorem E_296 (d : Nat) (a0 : Nat) (a1 : Int32) (σ : MS) (Q : Option Value → MS → Prop) : zC (d + 1) 296 [.ref a0, .int a1] σ Q = zX d 296 0 [.ref a0, .int a1] [] σ Q := zC_eq d 296 _ σ Q (Nat.le_of_ble_eq_true rfl)
theorem M_296 : zmx 296 = 2 := rfl
theorem E_297 (d : Nat) (a0 : Nat) (a1 : Int32) (σ : MS) (Q : Option Value → MS → Prop) : zC (d + 1) 297 [.ref a0, .int a1] σ Q = zX d 297 0 [.ref a0, .int a1, .null, .null] [] σ Q := zC_eq d 297 _ σ Q (Nat.le_of_ble_eq_true rfl)
theorem M_297 : zmx 297 = 4 := rfl
theorem E_298 (d : Nat) (a0 : Nat) (a1 : Int32) (σ : MS) (Q : Option Value → MS → Prop) : zC (d + 1) 298 [.ref a0, .int a1] σ Q = zX d 298 0 [.ref a0, .int a1, .null] [] σ Q := zC_eq d 298 _ σ Q (Nat.le_of_ble_eq_true rfl)
theorem M_298 : zmx 298 = 3 := rfl
theorem E_299 (d : Nat) (a0 : Nat) (a1 : Int32) (σ : MS) (Q : Option Value → MS → Prop) : zC (d + 1) 299 [.ref a0, .int a1] σ Q = zX d 299 0 [.ref a0, .int a1] [] σ Q := zC_eq d 299 _ σ Q (Nat.le_of_ble_eq_true rfl)
theorem M_299 : zmx 299 = 2 := rfl
theorem E_300 (d : Nat) (a0 : Nat) (a1 : Int32) (a2 : Int32) (σ : MS) (Q : Option Value → MS → Prop) : zC (d + 1) 300 [.ref a0, .int a1, .int a2] σ Q = zX d 300 0 [.ref a0, .int a1, .int a2] [] σ Q := zC_eq d 300 _ σ Q (Nat.le_of_ble_eq_true rfl)
theorem M_300 : zmx 300 = 3 := rfl
theorem E_301 (d : Nat) (a0 : Nat) (a1 : Int32) (σ : MS) (Q : Option Value → MS → Prop) : zC (d + 1) 301 [.ref a0, .int a1] σ Q = zX d 301 0 [.ref a0, .int a1, .null] [] σ Q := zC_eq d 301 _ σ Q (Nat.le_of_ble_eq_true rfl)
theorem M_301 : zmx 301 = 3 := rfl
theorem E_302 (d : Nat) (a0 : Nat) (a1 : Int32) (σ : MS) (Q : Option Value → MS → Prop) : zC (d + 1) 302 [.ref a0, .int a1] σ Q = zX d 302 0 [.ref a0, .int a1, .null] [] σ Q := zC_eq d 302 _ σ Q (Nat.le_of_ble_eq_true rfl)
theorem M_302 : zmx 302 = 3 := rfl
theorem E_303 (d : Nat) (a0 : Nat) (a1 : Int32) (a2 : Int32) (σ : MS) (Q : Option Value → MS → Prop) : zC (d + 1) 303 [.ref a0, .int a1, .int a2] σ Q = zX d 303 0 [.ref a0, .int a1, .int a2, .null, .null] [] σ Q := zC_eq d 303 _ σ Q (Nat.le_of_ble_eq_true rfl)
theorem M_303 : zmx 303 = 5 := rfl
theorem E_304 (d : Nat) (a0 : Nat) (a1 : Int32) (a2 : Int32) (σ : MS) (Q : Option Value → MS → Prop) : zC (d + 1) 304 [.ref a0, .int a1, .int a2] σ Q = zX d 304 0 [.ref a0, .int a1, .int a2] [] σ Q := zC_eq d 304 _ σ Q (Nat.le_of_ble_eq_true rfl)
theorem M_304 : zmx 304 = 3 := rfl
theorem E_305 (d : Nat) (a0 : Nat) (σ : MS) (Q : Option Value → MS → Prop) : zC (d + 1) 305 [.ref a0] σ Q = zX d 305 0 [.ref a0, .null, .null] [] σ Q := zC_eq d 305 _ σ Q (Nat.le_of_ble_eq_true rfl)
theorem M_305 : zmx 305 = 3 := rfl
theorem E_306 (d : Nat) (a0 : Nat) (σ : MS) (Q : Option Value → MS → Prop) : zC (d + 1) 306 [.ref a0] σ Q = zX d 306 0 [.ref a0, .null, .null, .null] [] σ Q := zC_eq d 306 _ σ Q (Nat.le_of_ble_eq_true rfl)
theorem M_306 : zmx 306 = 4 := rfl
theorem E_307 (d : Nat) (a0 : Nat) (σ : MS) (Q : Option Value → MS → Prop) : zC (d + 1) 307 [.ref a0] σ Q = zX d 307 0 [.ref a0] [] σ Q := zC_eq d 307 _ σ Q (Nat.le_of_ble_eq_true rfl)
theorem M_307 : zmx 307 = 1 := rfl
theorem E_308 (d : Nat) (a0 : Nat) (a1 : Int32) (a2 : Int32) (a3 : Int32) (σ : MS) (Q : Option Value → MS → Prop) : zC (d + 1) 308 [.ref a0, .int a1, .int a2, .int a3] σ Q = zX d 308 0 [.ref a0, .int a1, .int a2, .int a3] [] σ Q := zC_eq d 308 _ σ Q (Nat.le_of_ble_eq_true rfl)
theorem M_308 : zmx 308 = 4 := rfl
theorem E_309 (d : Nat) (a0 : Nat) (a1 : Int32) (a2 : Int32) (σ : MS) (Q : Option Value → MS → Prop) : zC (d + 1) 309 [.ref a0, .int a1, .int a2] σ Q = zX d 309 0 [.ref a0, .int a1, .int a2] [] σ Q := zC_eq d 309 _ σ Q (Nat.le_of_ble_eq_true rfl)
theorem M_309 : zmx 309 = 3 := rfl
theorem E_310 (d : Nat) (a0 : Nat) (a1 : Int32) (a2 : Int32) (σ : MS) (Q : Option Value → MS → Prop) : zC (d + 1) 310 [.ref a0, .int a1, .int a2] σ Q = zX d 310 0 [.ref a0, .int a1, .int a2] [] σ Q := zC_eq d 310 _ σ Q (Nat.le_of_ble_eq_true rfl)
theorem M_310 : zmx 310 = 3 := rfl
theorem E_311 (d : Nat) (a0 : Nat) (a1 : Int32) (σ : MS) (Q : Option Value → MS → Prop) : zC (d + 1) 311 [.ref a0, .int a1] σ Q = zX d 311 0 [.ref a0, .int a1, .null] [] σ Q := zC_eq d 311 _ σ Q (Nat.le_of_ble_eq_true rfl)
theorem M_311 : zmx 311 = 3 := rfl
theorem E_312 (d : Nat) (a0 : Nat) (a1 : Int32) (a2 : Int32) (σ : MS) (Q : Option Value → MS → Prop) : zC (d + 1) 312 [.ref a0, .int a1, .int a2] σ Q = zX d 312 0 [.ref a0, .int a1, .int a2] [] σ Q := zC_eq d 312 _ σ Q (Nat.le_of_ble_eq_true rfl)
theorem M_312 : zmx 312 = 3 := rfl
theorem E_313 (d : Nat) (a0 : Nat) (a1 : Int32) (a2 : Int32) (σ : MS) (Q : Option Value → MS → Prop) : zC (d + 1) 313 [.ref a0, .int a1, .int a2] σ Q = zX d 313 0 [.ref a0, .int a1, .int a2] [] σ Q := zC_eq d 313 _ σ Q (Nat.le_of_ble_eq_true rfl)
theorem M_313 : zmx 313 = 3 := rfl
theorem E_314 (d : Nat) (a0 : Nat) (a1 : Int32) (a2 : Int32) (σ : MS) (Q : Option Value → MS → Prop) : zC (d + 1) 314 [.ref a0, .int a1, .int a2] σ Q = zX d 314 0 [.ref a0, .int a1, .int a2, .null] [] σ Q := zC_eq d 314 _ σ Q (Nat.le_of_ble_eq_true rfl)
theorem M_314 : zmx 314 = 4 := rfl
theorem E_315 (d : Nat) (a0 : Nat) (a1 : Int32) (a2 : Int32) (σ : MS) (Q : Option Value → MS → Prop) : zC (d + 1) 315 [.ref a0, .int a1, .int a2] σ Q = zX d 315 0 [.ref a0, .int a1, .int a2] [] σ Q := zC_eq d 315 _ σ Q (Nat.le_of_ble_eq_true rfl)
theorem M_315 : zmx 315 = 3 := rfl
theorem E_316 (d : Nat) (a0 : Nat) (a1 : Int32) (σ : MS) (Q : Option Value → MS → Prop) : zC (d + 1) 316 [.ref a0, .int a1] σ Q = zX d 316 0 [.ref a0, .int a1, .null, .null] [] σ Q := zC_eq d 316 _ σ Q (Nat.le_of_ble_eq_true rfl)
theorem M_316 : zmx 316 = 4 := rfl
theorem E_317 (d : Nat) (a0 : Nat) (a1 : Int32) (σ : MS) (Q : Option Value → MS → Prop) : zC (d + 1) 317 [.ref a0, .int a1] σ Q = zX d 317 0 [.ref a0, .int a1] [] σ Q := zC_eq d 317 _ σ Q (Nat.le_of_ble_eq_true rfl)
theorem M_317 : zmx 317 = 2 := rfl
theorem E_318 (d : Nat) (a0 : Nat) (a1 : Int32) (σ : MS) (Q : Option Value → MS → Prop) : zC (d + 1) 318 [.ref a0, .int a1] σ Q = zX d 318 0 [.ref a0, .int a1, .null, .null] [] σ Q := zC_eq d 318 _ σ Q (Nat.le_of_ble_eq_true rfl)
theorem M_318 : zmx 318 = 4 := rfl
theorem E_319 (d : Nat) (a0 : Nat) (a1 : Int32) (σ : MS) (Q : Option Value → MS → Prop) : zC (d + 1) 319 [.ref a0, .int a1] σ Q = zX d 319 0 [.ref a0, .int a1, .null, .null] [] σ Q := zC_eq d 319 _ σ Q (Nat.le_of_ble_eq_true rfl)
theorem M_319 : zmx 319 = 4 := rfl
theorem E_320 (d : Nat) (a0 : Nat) (σ : MS) (Q : Option Value → MS → Prop) : zC (d + 1) 320 [.ref a0] σ Q = zX d 320 0 [.ref a0, .null, .null] [] σ Q := zC_eq d 320 _ σ Q (Nat.le_of_ble_eq_true rfl)
theorem M_320 : zmx 320 = 3 := rfl
theorem E_321 (d : Nat) (a0 : Nat) (a1 : Int32) (σ : MS) (Q : Option Value → MS → Prop) : zC (d + 1) 321 [.ref a0, .int a1] σ Q = zX d 321 0 [.ref a0, .int a1] [] σ Q := zC_eq d 321 _ σ Q (Nat.le_of_ble_eq_true rfl)
theorem M_321 : zmx 321 = 2 := rfl
theorem E_322 (d : Nat) (a0 : Nat) (a1 : Int32) (a2 : Int32) (σ : MS) (Q : Option Value → MS → Prop) : zC (d + 1) 322 [.ref a0, .int a1, .int a2] σ Q = zX d 322 0 [.ref a0, .int a1, .int a2, .null, .null] [] σ Q := zC_eq d 322 _ σ Q (Nat.le_of_ble_eq_true rfl)
theorem M_322 : zmx 322 = 5 := rfl
theorem E_323 (d : Nat) (a0 : Nat) (a1 : Int32) (a2 : Int32) (σ : MS) (Q : Option Value → MS → Prop) : zC (d + 1) 323 [.ref a0, .int a1, .int a2] σ Q = zX d 323 0 [.ref a0, .int a1, .int a2, .null] [] σ Q := zC_eq d 323 _ σ Q (Nat.le_of_ble_eq_true rfl)
theorem M_323 : zmx 323 = 4 := rfl
theorem E_324 (d : Nat) (a0 : Nat) (a1 : Int32) (a2 : Int32) (σ : MS) (Q : Option Value → MS → Prop) : zC (d + 1) 324 [.ref a0, .int a1, .int a2] σ Q = zX d 324 0 [.ref a0, .int a1, .int a2] [] σ Q := zC_eq d 324 _ σ Q (Nat.le_of_ble_eq_true rfl)
theorem M_324 : zmx 324 = 3 := rfl
theorem E_325 (d : Nat) (a0 : Nat) (a1 : Int32) (a2 : Int32) (σ : MS) (Q : Option Value → MS → Prop) : zC (d + 1) 325 [.ref a0, .int a1, .int a2] σ Q = zX d 325 0 [.ref a0, .int a1, .int a2] [] σ Q := zC_eq d 325 _ σ Q (Nat.le_of_ble_eq_true rfl)
theorem M_325 : zmx 325 = 3 := rfl
theorem E_326 (d : Nat) (a0 : Nat) (a1 : Int32) (a2 : Int32) (σ : MS) (Q : Option Value → MS → Prop) : zC (d + 1) 326 [.ref a0, .int a1, .int a2] σ Q = zX d 326 0 [.ref a0, .int a1, .int a2] [] σ Q := zC_eq d 326 _ σ Q (Nat.le_of_ble_eq_true rfl)
theorem M_326 : zmx 326 = 3 := rfl
theorem E_327 (d : Nat) (a0 : Nat) (a1 : Int32) (σ : MS) (Q : Option Value → MS → Prop) : zC (d + 1) 327 [.ref a0, .int a1] σ Q = zX d 327 0 [.ref a0, .int a1, .null, .null] [] σ Q := zC_eq d 327 _ σ Q (Nat.le_of_ble_eq_true rfl)
theorem M_327 : zmx 327 = 4 := rfl
theorem E_328 (d : Nat) (a0 : Nat) (a1 : Int32) (σ : MS) (Q : Option Value → MS → Prop) : zC (d + 1) 328 [.ref a0, .int a1] σ Q = zX d 328 0 [.ref a0, .int a1, .null, .null] [] σ Q := zC_eq d 328 _ σ Q (Nat.le_of_ble_eq_true rfl)
theorem M_328 : zmx 328 = 4 := rfl
theorem E_329 (d : Nat) (a0 : Nat) (a1 : Int32) (a2 : Int32) (σ : MS) (Q : Option Value → MS → Prop) : zC (d + 1) 329 [.ref a0, .int a1, .int a2] σ Q = zX d 329 0 [.ref a0, .int a1, .int a2] [] σ Q := zC_eq d 329 _ σ Q (Nat.le_of_ble_eq_true rfl)
theorem M_329 : zmx 329 = 3 := rfl
theorem E_330 (d : Nat) (a0 : Nat) (a1 : Int32) (a2 : Int32) (σ : MS) (Q : Option Value → MS → Prop) : zC (d + 1) 330 [.ref a0, .int a1, .int a2] σ Q = zX d 330 0 [.ref a0, .int a1, .int a2, .null, .null, .null, .null] [] σ Q := zC_eq d 330 _ σ Q (Nat.le_of_ble_eq_true rfl)
theorem M_330 : zmx 330 = 7 := rfl
theorem E_331 (d : Nat) (a0 : Nat) (a1 : Int32) (a2 : Int32) (σ : MS) (Q : Option Value → MS → Prop) : zC (d + 1) 331 [.ref a0, .int a1, .int a2] σ Q = zX d 331 0 [.ref a0, .int a1, .int a2, .null, .null, .null, .null] [] σ Q := zC_eq d 331 _ σ Q (Nat.le_of_ble_eq_true rfl)
theorem M_331 : zmx 331 = 7 := rfl
theorem E_332 (d : Nat) (a0 : Nat) (a1 : Int32) (a2 : Int32) (σ : MS) (Q : Option Value → MS → Prop) : zC (d + 1) 332 [.ref a0, .int a1, .int a2] σ Q = zX d 332 0 [.ref a0, .int a1, .int a2] [] σ Q := zC_eq d 332 _ σ Q (Nat.le_of_ble_eq_true rfl)
theorem M_332 : zmx 332 = 3 := rfl
theorem E_333 (d : Nat) (a0 : Nat) (a1 : Int32) (σ : MS) (Q : Option Value → MS → Prop) : zC (d + 1) 333 [.ref a0, .int a1] σ Q = zX d 333 0 [.ref a0, .int a1, .null, .null, .null] [] σ Q := zC_eq d 333 _ σ Q (Nat.le_of_ble_eq_true rfl)
theorem M_333 : zmx 333 = 5 := rfl
theorem E_334 (d : Nat) (a0 : Nat) (a1 : Int32) (a2 : Int32) (σ : MS) (Q : Option Value → MS → Prop) : zC (d + 1) 334 [.ref a0, .int a1, .int a2] σ Q = zX d 334 0 [.ref a0, .int a1, .int a2] [] σ Q := zC_eq d 334 _ σ Q (Nat.le_of_ble_eq_true rfl)
theorem M_334 : zmx 334 = 3 := rfl
theorem E_335 (d : Nat) (a0 : Nat) (a1 : Int32) (a2 : Int32) (a3 : Int32) (σ : MS) (Q : Option Value → MS → Prop) : zC (d + 1) 335 [.ref a0, .int a1, .int a2, .int a3] σ Q = zX d 335 0 [.ref a0, .int a1, .int a2, .int a3, .null, .null, .null] [] σ Q := zC_eq d 335 _ σ Q (Nat.le_of_ble_eq_true rfl)
theorem M_335 : zmx 335 = 7 := rfl
theorem E_336 (d : Nat) (a0 : Nat) (a1 : Int32) (σ : MS) (Q : Option Value → MS → Prop) : zC (d + 1) 336 [.ref a0, .int a1] σ Q = zX d 336 0 [.ref a0, .int a1, .null, .null] [] σ Q := zC_eq d 336 _ σ Q (Nat.le_of_ble_eq_true rfl)
theorem M_336 : zmx 336 = 4 := rfl
theorem E_337 (d : Nat) (a0 : Nat) (a1 : Int32) (σ : MS) (Q : Option Value → MS → Prop) : zC (d + 1) 337 [.ref a0, .int a1] σ Q = zX d 337 0 [.ref a0, .int a1] [] σ Q := zC_eq d 337 _ σ Q (Nat.le_of_ble_eq_true rfl)
theorem M_337 : zmx 337 = 2 := rfl
theorem E_338 (d : Nat) (a0 : Nat) (σ : MS) (Q : Option Value → MS → Prop) : zC (d + 1) 338 [.ref a0] σ Q = zX d 338 0 [.ref a0, .null, .null] [] σ Q := zC_eq d 338 _ σ Q (Nat.le_of_ble_eq_true rfl)
theorem M_338 : zmx 338 = 3 := rfl
theorem E_339 (d : Nat) (a0 : Nat) (a1 : Int32) (σ : MS) (Q : Option Value → MS → Prop) : zC (d + 1) 339 [.ref a0, .int a1] σ Q = zX d 339 0 [.ref a0, .int a1, .null, .null] [] σ Q := zC_eq d 339 _ σ Q (Nat.le_of_ble_eq_true rfl)
theorem M_339 : zmx 339 = 4 := rfl
theorem E_340 (d : Nat) (a0 : Nat) (a1 : Int32) (σ : MS) (Q : Option Value → MS → Prop) : zC (d + 1) 340 [.ref a0, .int a1] σ Q = zX d 340 0 [.ref a0, .int a1, .null] [] σ Q := zC_eq d 340 _ σ Q (Nat.le_of_ble_eq_true rfl)
theorem M_340 : zmx 340 = 3 := rfl
theorem E_341 (d : Nat) (a0 : Nat) (σ : MS) (Q : Option Value → MS → Prop) : zC (d + 1) 341 [.ref a0] σ Q = zX d 341 0 [.ref a0, .null, .null, .null, .null] [] σ Q := zC_eq d 341 _ σ Q (Nat.le_of_ble_eq_true rfl)
theorem M_341 : zmx 341 = 5 := rfl
theorem E_342 (d : Nat) (a0 : Nat) (σ : MS) (Q : Option Value → MS → Prop) : zC (d + 1) 342 [.ref a0] σ Q = zX d 342 0 [.ref a0] [] σ Q := zC_eq d 342 _ σ Q (Nat.le_of_ble_eq_true rfl)
theorem M_342 : zmx 342 = 1 := rfl
theorem E_343 (d : Nat) (a0 : Nat) (a1 : Int32) (σ : MS) (Q : Option Value → MS → Prop) : zC (d + 1) 343 [.ref a0, .int a1] σ Q = zX d 343 0 [.ref a0, .int a1, .null] [] σ Q := zC_eq d 343 _ σ Q (Nat.le_of_ble_eq_true rfl)
theorem M_343 : zmx 343 = 3 := rfl
theorem E_344 (d : Nat) (a0 : Nat) (σ : MS) (Q : Option Value → MS → Prop) : zC (d + 1) 344 [.ref a0] σ Q = zX d 344 0 [.ref a0, .null, .null, .null, .null, .null] [] σ Q := zC_eq d 344 _ σ Q (Nat.le_of_ble_eq_true rfl)
theorem M_344 : zmx 344 = 6 := rfl
theorem E_345 (d : Nat) (a0 : Nat) (σ : MS) (Q : Option Value → MS → Prop) : zC (d + 1) 345 [.ref a0] σ Q = zX d 345 0 [.ref a0, .null] [] σ Q := zC_eq d 345 _ σ Q (Nat.le_of_ble_eq_true rfl)
theorem M_345 : zmx 345 = 2 := rfl
theorem E_346 (d : Nat) (a0 : Nat) (a1 : Int32) (σ : MS) (Q : Option Value → MS → Prop) : zC (d + 1) 346 [.ref a0, .int a1] σ Q = zX d 346 0 [.ref a0, .int a1] [] σ Q := zC_eq d 346 _ σ Q (Nat.le_of_ble_eq_true rfl)
theorem M_346 : zmx 346 = 2 := rfl
theorem E_347 (d : Nat) (a0 : Nat) (σ : MS) (Q : Option Value → MS → Prop) : zC (d + 1) 347 [.ref a0] σ Q = zX d 347 0 [.ref a0, .null, .null, .null] [] σ Q := zC_eq d 347 _ σ Q (Nat.le_of_ble_eq_true rfl)
theorem M_347 : zmx 347 = 4 := rfl
theorem E_348 (d : Nat) (a0 : Nat) (σ : MS) (Q : Option Value → MS → Prop) : zC (d + 1) 348 [.ref a0] σ Q = zX d 348 0 [.ref a0, .null, .null, .null, .null, .null, .null] [] σ Q := zC_eq d 348 _ σ Q (Nat.le_of_ble_eq_true rfl)
theorem M_348 : zmx 348 = 7 := rfl
theorem E_349 (d : Nat) (a0 : Nat) (a1 : Int32) (σ : MS) (Q : Option Value → MS → Prop) : zC (d + 1) 349 [.ref a0, .int a1] σ Q = zX d 349 0 [.ref a0, .int a1, .null, .null] [] σ Q := zC_eq d 349 _ σ Q (Nat.le_of_ble_eq_true rfl)
theorem M_349 : zmx 349 = 4 := rfl
theorem E_350 (d : Nat) (a0 : Nat) (a1 : Int32) (σ : MS) (Q : Option Value → MS → Prop) : zC (d + 1) 350 [.ref a0, .int a1] σ Q = zX d 350 0 [.ref a0, .int a1, .null, .null] [] σ Q := zC_eq d 350 _ σ Q (Nat.le_of_ble_eq_true rfl)
theorem M_350 : zmx 350 = 4 := rfl
theorem E_351 (d : Nat) (a0 : Nat) (a1 : Int32) (σ : MS) (Q : Option Value → MS → Prop) : zC (d + 1) 351 [.ref a0, .int a1] σ Q = zX d 351 0 [.ref a0, .int a1] [] σ Q := zC_eq d 351 _ σ Q (Nat.le_of_ble_eq_true rfl)
theorem M_351 : zmx 351 = 2 := rfl
theorem E_352 (d : Nat) (a0 : Nat) (a1 : Int32) (σ : MS) (Q : Option Value → MS → Prop) : zC (d + 1) 352 [.ref a0, .int a1] σ Q = zX d 352 0 [.ref a0, .int a1] [] σ Q := zC_eq d 352 _ σ Q (Nat.le_of_ble_eq_true rfl)
theorem M_352 : zmx 352 = 2 := rfl
theorem E_353 (d : Nat) (a0 : Nat) (a1 : Int32) (a2 : Int32) (σ : MS) (Q : Option Value → MS → Prop) : zC (d + 1) 353 [.ref a0, .int a1, .int a2] σ Q = zX d 353 0 [.ref a0, .int a1, .int a2, .null] [] σ Q := zC_eq d 353 _ σ Q (Nat.le_of_ble_eq_true rfl)
theorem M_353 : zmx 353 = 4 := rfl
theorem E_354 (d : Nat) (a0 : Int32) (a1 : Int32) (σ : MS) (Q : Option Value → MS → Prop) : zC (d + 1) 354 [.int a0, .int a1] σ Q = zX d 354 0 [.int a0, .int a1, .null, .null] [] σ Q := zC_eq d 354 _ σ Q (Nat.le_of_ble_eq_true rfl)
theorem M_354 : zmx 354 = 4 := rfl
theorem E_355 (d : Nat) (a0 : Nat) (a1 : Int32) (a2 : Int32) (a3 : Int32) (σ : MS) (Q : Option Value → MS → Prop) : zC (d + 1) 355 [.ref a0, .int a1, .int a2, .int a3] σ Q = zX d 355 0 [.ref a0, .int a1, .int a2, .int a3, .null, .null, .null] [] σ Q := zC_eq d 355 _ σ Q (Nat.le_of_ble_eq_true rfl)
theorem M_355 : zmx 355 = 7 := rfl
theorem E_356 (d : Nat) (a0 : Nat) (a1 : Int32) (a2 : Int32) (a3 : Int32) (σ : MS) (Q : Option Value → MS → Prop) : zC (d + 1) 356 [.ref a0, .int a1, .int a2, .int a3] σ Q = zX d 356 0 [.ref a0, .int a1, .int a2, .int a3, .null, .null, .null] [] σ Q := zC_eq d 356 _ σ Q (Nat.le_of_ble_eq_true rfl)
theorem M_356 : zmx 356 = 7 := rfl
theorem E_357 (d : Nat) (a0 : Nat) (a1 : Int32) (a2 : Int32) (a3 : Int32) (σ : MS) (Q : Option Value → MS → Prop) : zC (d + 1) 357 [.ref a0, .int a1, .int a2, .int a3] σ Q = zX d 357 0 [.ref a0, .int a1, .int a2, .int a3, .null, .null, .null, .null] [] σ Q := zC_eq d 357 _ σ Q (Nat.le_of_ble_eq_true rfl)
theorem M_357 : zmx 357 = 8 := rfl
theorem E_358 (d : Nat) (a0 : Nat) (a1 : Int32) (a2 : Int32) (σ : MS) (Q : Option Value → MS → Prop) : zC (d + 1) 358 [.ref a0, .int a1, .int a2] σ Q = zX d 358 0 [.ref a0, .int a1, .int a2, .null] [] σ Q := zC_eq d 358 _ σ Q (Nat.le_of_ble_eq_true rfl)
theorem M_358 : zmx 358 = 4 := rfl
theorem E_359 (d : Nat) (a0 : Nat) (a1 : Int32) (a2 : Int32) (a3 : Int32) (σ : MS) (Q : Option Value → MS → Prop) : zC (d + 1) 359 [.ref a0, .int a1, .int a2, .int a3] σ Q = zX d 359 0 [.ref a0, .int a1, .int a2, .int a3, .null, .null] [] σ Q := zC_eq d 359 _ σ Q (Nat.le_of_ble_eq_true rfl)
theorem M_359 : zmx 359 = 6 := rfl
theorem E_360 (d : Nat) (a0 : Nat) (σ : MS) (Q : Option Value → MS → Prop) : zC (d + 1) 360 [.ref a0] σ Q = zX d 360 0 [.ref a0, .null, .null] [] σ Q := zC_eq d 360 _ σ Q (Nat.le_of_ble_eq_true rfl)
theorem M_360 : zmx 360 = 3 := rfl
theorem E_361 (d : Nat) (a0 : Nat) (a1 : Int32) (σ : MS) (Q : Option Value → MS → Prop) : zC (d + 1) 361 [.ref a0, .int a1] σ Q = zX d 361 0 [.ref a0, .int a1, .null] [] σ Q := zC_eq d 361 _ σ Q (Nat.le_of_ble_eq_true rfl)
theorem M_361 : zmx 361 = 3 := rfl
theorem E_362 (d : Nat) (a0 : Nat) (a1 : Int32) (σ : MS) (Q : Option Value → MS → Prop) : zC (d + 1) 362 [.ref a0, .int a1] σ Q = zX d 362 0 [.ref a0, .int a1, .null] [] σ Q := zC_eq d 362 _ σ Q (Nat.le_of_ble_eq_true rfl)
theorem M_362 : zmx 362 = 3 := rfl
theorem E_363 (d : Nat) (a0 : Int32) (σ : MS) (Q : Option Value → MS → Prop) : zC (d + 1) 363 [.int a0] σ Q = zX d 363 0 [.int a0] [] σ Q := zC_eq d 363 _ σ Q (Nat.le_of_ble_eq_true rfl)
theorem M_363 : zmx 363 = 1 := rfl
theorem E_364 (d : Nat) (a0 : Nat) (a1 : Int32) (a2 : Int32) (σ : MS) (Q : Option Value → MS → Prop) : zC (d + 1) 364 [.ref a0, .int a1, .int a2] σ Q = zX d 364 0 [.ref a0, .int a1, .int a2, .null] [] σ Q := zC_eq d 364 _ σ Q (Nat.le_of_ble_eq_true rfl)
theorem M_364 : zmx 364 = 4 := rfl
theorem E_365 (d : Nat) (a0 : Nat) (a1 : Int32) (σ : MS) (Q : Option Value → MS → Prop) : zC (d + 1) 365 [.ref a0, .int a1] σ Q = zX d 365 0 [.ref a0, .int a1] [] σ Q := zC_eq d 365 _ σ Q (Nat.le_of_ble_eq_true rfl)
theorem M_365 : zmx 365 = 2 := rfl
theorem E_366 (d : Nat) (a0 : Nat) (a1 : Int32) (σ : MS) (Q : Option Value → MS → Prop) : zC (d + 1) 366 [.ref a0, .int a1] σ Q = zX d 366 0 [.ref a0, .int a1, .null] [] σ Q := zC_eq d 366 _ σ Q (Nat.le_of_ble_eq_true rfl)
theorem M_366 : zmx 366 = 3 := rfl
theorem E_367 (d : Nat) (a0 : Nat) (a1 : Int32) (σ : MS) (Q : Option Value → MS → Prop) : zC (d + 1) 367 [.ref a0, .int a1] σ Q = zX d 367 0 [.ref a0, .int a1] [] σ Q := zC_eq d 367 _ σ Q (Nat.le_of_ble_eq_true rfl)
theorem M_367 : zmx 367 = 2 := rfl
theorem E_368 (d : Nat) (a0 : Nat) (a1 : Int32) (σ : MS) (Q : Option Value → MS → Prop) : zC (d + 1) 368 [.ref a0, .int a1] σ Q = zX d 368 0 [.ref a0, .int a1, .null] [] σ Q := zC_eq d 368 _ σ Q (Nat.le_of_ble_eq_true rfl)
theorem M_368 : zmx 368 = 3 := rfl
theorem E_369 (d : Nat) (a0 : Nat) (a1 : Int32) (a2 : Int32) (σ : MS) (Q : Option Value → MS → Prop) : zC (d + 1) 369 [.ref a0, .int a1, .int a2] σ Q = zX d 369 0 [.ref a0, .int a1, .int a2, .null, .null, .null, .null, .null] [] σ Q := zC_eq d 369 _ σ Q (Nat.le_of_ble_eq_true rfl)
theorem M_369 : zmx 369 = 8 := rfl
theorem E_370 (d : Nat) (a0 : Nat) (a1 : Int32) (σ : MS) (Q : Option Value → MS → Prop) : zC (d + 1) 370 [.ref a0, .int a1] σ Q = zX d 370 0 [.ref a0, .int a1, .null] [] σ Q := zC_eq d 370 _ σ Q (Nat.le_of_ble_eq_true rfl)
theorem M_370 : zmx 370 = 3 := rfl
theorem E_371 (d : Nat) (a0 : Nat) (a1 : Int32) (σ : MS) (Q : Option Value → MS → Prop) : zC (d + 1) 371 [.ref a0, .int a1] σ Q = zX d 371 0 [.ref a0, .int a1] [] σ Q := zC_eq d 371 _ σ Q (Nat.le_of_ble_eq_true rfl)
theorem M_371 : zmx 371 = 2 := rfl
theorem E_372 (d : Nat) (a0 : Nat) (a1 : Int32) (a2 : Int32) (σ : MS) (Q : Option Value → MS → Prop) : zC (d + 1) 372 [.ref a0, .int a1, .int a2] σ Q = zX d 372 0 [.ref a0, .int a1, .int a2] [] σ Q := zC_eq d 372 _ σ Q (Nat.le_of_ble_eq_true rfl)
theorem M_372 : zmx 372 = 3 := rfl
theorem E_373 (d : Nat) (a0 : Nat) (σ : MS) (Q : Option Value → MS → Prop) : zC (d + 1) 373 [.ref a0] σ Q = zX d 373 0 [.ref a0, .null] [] σ Q := zC_eq d 373 _ σ Q (Nat.le_of_ble_eq_true rfl)
theorem M_373 : zmx 373 = 2 := rfl
theorem E_374 (d : Nat) (a0 : Nat) (σ : MS) (Q : Option Value → MS → Prop) : zC (d + 1) 374 [.ref a0] σ Q = zX d 374 0 [.ref a0] [] σ Q := zC_eq d 374 _ σ Q (Nat.le_of_ble_eq_true rfl)
theorem M_374 : zmx 374 = 1 := rfl
theorem E_375 (d : Nat) (a0 : Nat) (a1 : Int32) (σ : MS) (Q : Option Value → MS → Prop) : zC (d + 1) 375 [.ref a0, .int a1] σ Q = zX d 375 0 [.ref a0, .int a1, .null] [] σ Q := zC_eq d 375 _ σ Q (Nat.le_of_ble_eq_true rfl)
theorem M_375 : zmx 375 = 3 := rfl
theorem E_376 (d : Nat) (a0 : Nat) (a1 : Int32) (σ : MS) (Q : Option Value → MS → Prop) : zC (d + 1) 376 [.ref a0, .int a1] σ Q = zX d 376 0 [.ref a0, .int a1, .null, .null, .null, .null] [] σ Q := zC_eq d 376 _ σ Q (Nat.le_of_ble_eq_true rfl)
theorem M_376 : zmx 376 = 6 := rfl
theorem E_377 (d : Nat) (a0 : Nat) (a1 : Int32) (σ : MS) (Q : Option Value → MS → Prop) : zC (d + 1) 377 [.ref a0, .int a1] σ Q = zX d 377 0 [.ref a0, .int a1, .null, .null, .null] [] σ Q := zC_eq d 377 _ σ Q (Nat.le_of_ble_eq_true rfl)
theorem M_377 : zmx 377 = 5 := rfl
theorem E_378 (d : Nat) (a0 : Nat) (a1 : Int32) (σ : MS) (Q : Option Value → MS → Prop) : zC (d + 1) 378 [.ref a0, .int a1] σ Q = zX d 378 0 [.ref a0, .int a1, .null, .null] [] σ Q := zC_eq d 378 _ σ Q (Nat.le_of_ble_eq_true rfl)
theorem M_378 : zmx 378 = 4 := rfl
theorem E_379 (d : Nat) (a0 : Nat) (a1 : Int32) (σ : MS) (Q : Option Value → MS → Prop) : zC (d + 1) 379 [.ref a0, .int a1] σ Q = zX d 379 0 [.ref a0, .int a1, .null] [] σ Q := zC_eq d 379 _ σ Q (Nat.le_of_ble_eq_true rfl)
theorem M_379 : zmx 379 = 3 := rfl
theorem E_380 (d : Nat) (a0 : Nat) (a1 : Int32) (σ : MS) (Q : Option Value → MS → Prop) : zC (d + 1) 380 [.ref a0, .int a1] σ Q = zX d 380 0 [.ref a0, .int a1] [] σ Q := zC_eq d 380 _ σ Q (Nat.le_of_ble_eq_true rfl)
theorem M_380 : zmx 380 = 2 := rfl
theorem E_381 (d : Nat) (a0 : Nat) (a1 : Int32) (a2 : Int32) (σ : MS) (Q : Option Value → MS → Prop) : zC (d + 1) 381 [.ref a0, .int a1, .int a2] σ Q = zX d 381 0 [.ref a0, .int a1, .int a2, .null, .null, .null] [] σ Q := zC_eq d 381 _ σ Q (Nat.le_of_ble_eq_true rfl)
theorem M_381 : zmx 381 = 6 := rfl
theorem E_382 (d : Nat) (a0 : Nat) (a1 : Int32) (a2 : Int32) (σ : MS) (Q : Option Value → MS → Prop) : zC (d + 1) 382 [.ref a0, .int a1, .int a2] σ Q = zX d 382 0 [.ref a0, .int a1, .int a2, .null] [] σ Q := zC_eq d 382 _ σ Q (Nat.le_of_ble_eq_true rfl)
theorem M_382 : zmx 382 = 4 := rfl
theorem E_383 (d : Nat) (a0 : Nat) (σ : MS) (Q : Option Value → MS → Prop) : zC (d + 1) 383 [.ref a0] σ Q = zX d 383 0 [.ref a0] [] σ Q := zC_eq d 383 _ σ Q (Nat.le_of_ble_eq_true rfl)
theorem M_383 : zmx 383 = 1 := rfl
theorem E_384 (d : Nat) (a0 : Nat) (σ : MS) (Q : Option Value → MS → Prop) : zC (d + 1) 384 [.ref a0] σ Q = zX d 384 0 [.ref a0] [] σ Q := zC_eq d 384 _ σ Q (Nat.le_of_ble_eq_true rfl)
theorem M_384 : zmx 384 = 1 := rfl
theorem E_385 (d : Nat) (a0 : Nat) (σ : MS) (Q : Option Value → MS → Prop) : zC (d + 1) 385 [.ref a0] σ Q = zX d 385 0 [.ref a0, .null, .null, .null] [] σ Q := zC_eq d 385 _ σ Q (Nat.le_of_ble_eq_true rfl)
theorem M_385 : zmx 385 = 4 := rfl
theorem E_386 (d : Nat) (a0 : Int32) (σ : MS) (Q : Option Value → MS → Prop) : zC (d + 1) 386 [.int a0] σ Q = zX d 386 0 [.int a0] [] σ Q := zC_eq d 386 _ σ Q (Nat.le_of_ble_eq_true rfl)
theorem M_386 : zmx 386 = 1 := rfl
theorem E_387 (d : Nat) (a0 : Int32) (σ : MS) (Q : Option Value → MS → Prop) : zC (d + 1) 387 [.int a0] σ Q = zX d 387 0 [.int a0, .null] [] σ Q := zC_eq d 387 _ σ Q (Nat.le_of_ble_eq_true rfl)
theorem M_387 : zmx 387 = 2 := rfl
theorem E_388 (d : Nat) (a0 : Int32) (a1 : Int32) (σ : MS) (Q : Option Value → MS → Prop) : zC (d + 1) 388 [.int a0, .int a1] σ Q = zX d 388 0 [.int a0, .int a1] [] σ Q := zC_eq d 388 _ σ Q (Nat.le_of_ble_eq_true rfl)
theorem M_388 : zmx 388 = 2 := rfl
theorem E_389 (d : Nat) (a0 : Int32) (a1 : Int32) (σ : MS) (Q : Option Value → MS → Prop) : zC (d + 1) 389 [.int a0, .int a1] σ Q = zX d 389 0 [.int a0, .int a1] [] σ Q := zC_eq d 389 _ σ Q (Nat.le_of_ble_eq_true rfl)
theorem M_389 : zmx 389 = 2 := rfl
theorem E_390 (d : Nat) (a0 : Nat) (a1 : Int32) (σ : MS) (Q : Option Value → MS → Prop) : zC (d + 1) 390 [.ref a0, .int a1] σ Q = zX d 390 0 [.ref a0, .int a1, .null, .null] [] σ Q := zC_eq d 390 _ σ Q (Nat.le_of_ble_eq_true rfl)
theorem M_390 : zmx 390 = 4 := rfl
theorem E_391 (d : Nat) (a0 : Nat) (a1 : Int64) (σ : MS) (Q : Option Value → MS → Prop) : zC (d + 1) 391 [.ref a0, .long a1] σ Q = zX d 391 0 [.ref a0, .long a1, .null, .null, .null] [] σ Q := zC_eq d 391 _ σ Q (Nat.le_of_ble_eq_true rfl)
theorem M_391 : zmx 391 = 5 := rfl
theorem E_392 (d : Nat) (a0 : Nat) (a1 : Int32) (σ : MS) (Q : Option Value → MS → Prop) : zC (d + 1) 392 [.ref a0, .int a1] σ Q = zX d 392 0 [.ref a0, .int a1, .null] [] σ Q := zC_eq d 392 _ σ Q (Nat.le_of_ble_eq_true rfl)
theorem M_392 : zmx 392 = 3 := rfl
theorem E_393 (d : Nat) (a0 : Nat) (a1 : Int32) (a2 : Int32) (σ : MS) (Q : Option Value → MS → Prop) : zC (d + 1) 393 [.ref a0, .int a1, .int a2] σ Q = zX d 393 0 [.ref a0, .int a1, .int a2, .null, .null] [] σ Q := zC_eq d 393 _ σ Q (Nat.le_of_ble_eq_true rfl)
theorem M_393 : zmx 393 = 5 := rfl
