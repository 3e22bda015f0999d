set_option maxRecDepth 20000 in
theorem ev_iw0 : ∀ w ∈ u_ws RX0 TX0 3, w ∈ ev_tb := ev_iw _ [162, 164, 166] (by decide +kernel) (by decide +kernel)
set_option maxRecDepth 20000 in
theorem ev_iw1 : ∀ w ∈ u_ws RX1 TX1 3, w ∈ ev_tb := ev_iw _ [245, 247, 249] (by decide +kernel) (by decide +kernel)
set_option maxRecDepth 20000 in
theorem ev_iw2 : ∀ w ∈ u_ws RX2 TX2 3, w ∈ ev_tb := ev_iw _ [193, 195, 197] (by decide +kernel) (by decide +kernel)
set_option maxRecDepth 20000 in
theorem ev_iw3 : ∀ w ∈ u_ws RX3 TX3 3, w ∈ ev_tb := ev_iw _ [209, 211, 213] (by decide +kernel) (by decide +kernel)
set_option maxRecDepth 20000 in
theorem ev_iw4 : ∀ w ∈ u_ws RX4 TX4 7, w ∈ ev_tb := ev_iw _ [104, 106, 108, 110, 112, 114, 116] (by decide +kernel) (by decide +kernel)
set_option maxRecDepth 20000 in
theorem ev_iw5 : ∀ w ∈ u_ws RX5 TX5 4, w ∈ ev_tb := ev_iw _ [227, 229, 231, 233] (by decide +kernel) (by decide +kernel)
set_option maxRecDepth 20000 in
theorem ev_iw6 : ∀ w ∈ u_ws RX6 TX6 7, w ∈ ev_tb := ev_iw _ [136, 138, 140, 142, 144, 146, 148] (by decide +kernel) (by decide +kernel)
set_option maxRecDepth 20000 in
theorem ev_iw7 : ∀ w ∈ u_ws RX7 TX7 2, w ∈ ev_tb := ev_iw _ [178, 180] (by decide +kernel) (by decide +kernel)
set_option maxRecDepth 20000 in
theorem ev_iw8 : ∀ w ∈ u_ws RX8 TX8 2, w ∈ ev_tb := ev_iw _ [85, 87] (by decide +kernel) (by decide +kernel)
set_option maxRecDepth 20000 in
theorem ev_iw9 : ∀ w ∈ u_ws RX9 TX9 12, w ∈ ev_tb := ev_iw _ [264, 266, 268, 270, 272, 274, 276, 278, 280, 282, 284, 286] (by decide +kernel) (by decide +kernel)
set_option maxRecDepth 20000 in
theorem ev_iw10 : ∀ w ∈ u_ws RX10 TX10 28, w ∈ ev_tb := ev_iw _ [878, 880, 882, 884, 886, 888, 890, 892, 894, 896, 898, 900, 902, 904, 906, 908, 910, 912, 914, 916, 918, 920, 922, 924, 926, 928, 930, 932] (by decide +kernel) (by decide +kernel)
theorem ev_cl : ∀ (ci : Nat) (q : vw_C) (ty : Nat → FieldType), vwCl[ci]? = some q → ev_tys[ci]? = some ty → (∀ w ∈ u_ws q.1 q.2.1 q.2.2, w ∈ ev_tb) ∧ (∀ k, k < q.2.2 → parseFieldDescriptor (q.2.1 k).2.2.1 = some (ty k)) ∧ (∀ a, a < q.2.2 → ∀ b, b < q.2.2 → a ≠ b → (q.2.1 a).2.1 ≠ (q.2.1 b).2.1) ∧ (∀ k, k < q.2.2 → (q.2.1 k).1 = q.1) := by
  intro ci q ty h1 h2
  match ci, h1, h2 with
  | 0, h1, h2 => cases h1; cases h2; exact ⟨ev_iw0, tyX0_ok, nmX0, by decide +kernel⟩
  | 1, h1, h2 => cases h1; cases h2; exact ⟨ev_iw1, tyX1_ok, nmX1, by decide +kernel⟩
  | 2, h1, h2 => cases h1; cases h2; exact ⟨ev_iw2, tyX2_ok, nmX2, by decide +kernel⟩
  | 3, h1, h2 => cases h1; cases h2; exact ⟨ev_iw3, tyX3_ok, nmX3, by decide +kernel⟩
  | 4, h1, h2 => cases h1; cases h2; exact ⟨ev_iw4, tyX4_ok, nmX4, by decide +kernel⟩
  | 5, h1, h2 => cases h1; cases h2; exact ⟨ev_iw5, tyX5_ok, nmX5, by decide +kernel⟩
  | 6, h1, h2 => cases h1; cases h2; exact ⟨ev_iw6, tyX6_ok, nmX6, by decide +kernel⟩
  | 7, h1, h2 => cases h1; cases h2; exact ⟨ev_iw7, tyX7_ok, nmX7, by decide +kernel⟩
  | 8, h1, h2 => cases h1; cases h2; exact ⟨ev_iw8, tyX8_ok, nmX8, by decide +kernel⟩
  | 9, h1, h2 => cases h1; cases h2; exact ⟨ev_iw9, tyX9_ok, nmX9, by decide +kernel⟩
  | 10, h1, h2 => cases h1; cases h2; exact ⟨ev_iw10, tyX10_ok, nmX10, by decide +kernel⟩
  | n + 11, h1, h2 => simp [vwCl] at h1
set_option maxRecDepth 100000 in
theorem ev_k0 : ev_rowok ev_r0 = true := dq_rw (by decide +kernel) (by decide +kernel)
set_option maxRecDepth 100000 in
theorem ev_k1 : ev_rowok ev_r1 = true := dq_rw (by decide +kernel) (by decide +kernel)
set_option maxRecDepth 100000 in
theorem ev_k2 : ev_rowok ev_r2 = true := dq_rw (by decide +kernel) (by decide +kernel)
set_option maxRecDepth 100000 in
theorem ev_k3 : ev_rowok ev_r3 = true := dq_rw (by decide +kernel) (by decide +kernel)
set_option maxRecDepth 100000 in
theorem ev_k4 : ev_rowok ev_r4 = true := dq_rw (by decide +kernel) (by decide +kernel)
set_option maxRecDepth 100000 in
theorem ev_k5 : ev_rowok ev_r5 = true := dq_rw (by decide +kernel) (by decide +kernel)
set_option maxRecDepth 100000 in
theorem ev_k6 : ev_rowok ev_r6 = true := dq_rw (by decide +kernel) (by decide +kernel)
set_option maxRecDepth 100000 in
theorem ev_k7 : ev_rowok ev_r7 = true := dq_rw (by decide +kernel) (by decide +kernel)
set_option maxRecDepth 100000 in
theorem ev_k8 : ev_rowok ev_r8 = true := dq_rw (by decide +kernel) (by decide +kernel)
set_option maxRecDepth 100000 in
theorem ev_k9 : ev_rowok ev_r9 = true := dq_rw (by decide +kernel) (by decide +kernel)
set_option maxRecDepth 100000 in
theorem ev_k10 : ev_rowok ev_r10 = true := dq_rw (by decide +kernel) (by decide +kernel)
set_option maxRecDepth 100000 in
theorem ev_k11 : ev_rowok ev_r11 = true := dq_rw (by decide +kernel) (by decide +kernel)
set_option maxRecDepth 100000 in
theorem ev_k12 : ev_rowok ev_r12 = true := dq_rw (by decide +kernel) (by decide +kernel)
set_option maxRecDepth 100000 in
theorem ev_k13 : ev_rowok ev_r13 = true := dq_rw (by decide +kernel) (by decide +kernel)
set_option maxRecDepth 100000 in
theorem ev_k14 : ev_rowok ev_r14 = true := dq_rw (by decide +kernel) (by decide +kernel)
set_option maxRecDepth 100000 in
theorem ev_k15 : ev_rowok ev_r15 = true := dq_rw (by decide +kernel) (by decide +kernel)
set_option maxRecDepth 100000 in
theorem ev_k16 : ev_rowok ev_r16 = true := dq_rw (by decide +kernel) (by decide +kernel)
set_option maxRecDepth 100000 in
theorem ev_k17 : ev_rowok ev_r17 = true := dq_rw (by decide +kernel) (by decide +kernel)
set_option maxRecDepth 100000 in
theorem ev_k18 : ev_rowok ev_r18 = true := dq_rw (by decide +kernel) (by decide +kernel)
set_option maxRecDepth 100000 in
theorem ev_k19 : ev_rowok ev_r19 = true := dq_rw (by decide +kernel) (by decide +kernel)
set_option maxRecDepth 100000 in
theorem ev_k20 : ev_rowok ev_r20 = true := dq_rw (by decide +kernel) (by decide +kernel)
set_option maxRecDepth 100000 in
theorem ev_k21 : ev_rowok ev_r21 = true := dq_rw (by decide +kernel) (by decide +kernel)
set_option maxRecDepth 100000 in
theorem ev_k22 : ev_rowok ev_r22 = true := dq_rw (by decide +kernel) (by decide +kernel)
set_option maxRecDepth 100000 in
theorem ev_k23 : ev_rowok ev_r23 = true := dq_rw (by decide +kernel) (by decide +kernel)
set_option maxRecDepth 100000 in
theorem ev_k24 : ev_rowok ev_r24 = true := dq_rw (by decide +kernel) (by decide +kernel)
set_option maxRecDepth 100000 in
theorem ev_k25 : ev_rowok ev_r25 = true := dq_rw (by decide +kernel) (by decide +kernel)
set_option maxRecDepth 100000 in
theorem ev_k26 : ev_rowok ev_r26 = true := dq_rw (by decide +kernel) (by decide +kernel)
set_option maxRecDepth 100000 in
theorem ev_k27 : ev_rowok ev_r27 = true := dq_rw (by decide +kernel) (by decide +kernel)
set_option maxRecDepth 100000 in
theorem ev_k28 : ev_rowok ev_r28 = true := dq_rw (by decide +kernel) (by decide +kernel)
set_option maxRecDepth 100000 in
theorem ev_k29 : ev_rowok ev_r29 = true := dq_rw (by decide +kernel) (by decide +kernel)
set_option maxRecDepth 100000 in
theorem ev_k30 : ev_rowok ev_r30 = true := dq_rw (by decide +kernel) (by decide +kernel)
set_option maxRecDepth 100000 in
theorem ev_k31 : ev_rowok ev_r31 = true := dq_rw (by decide +kernel) (by decide +kernel)
set_option maxRecDepth 100000 in
theorem ev_k32 : ev_rowok ev_r32 = true := dq_rw (by decide +kernel) (by decide +kernel)
set_option maxRecDepth 100000 in
theorem ev_k33 : ev_rowok ev_r33 = true := dq_rw (by decide +kernel) (by decide +kernel)
set_option maxRecDepth 100000 in
theorem ev_k34 : ev_rowok ev_r34 = true := dq_rw (by decide +kernel) (by decide +kernel)
set_option maxRecDepth 100000 in
theorem ev_k35 : ev_rowok ev_r35 = true := dq_rw (by decide +kernel) (by decide +kernel)
set_option maxRecDepth 100000 in
theorem ev_k36 : ev_rowok ev_r36 = true := dq_rw (by decide +kernel) (by decide +kernel)
set_option maxRecDepth 100000 in
theorem ev_k37 : ev_rowok ev_r37 = true := dq_rw (by decide +kernel) (by decide +kernel)
set_option maxRecDepth 100000 in
theorem ev_k38 : ev_rowok ev_r38 = true := dq_rw (by decide +kernel) (by decide +kernel)
set_option maxRecDepth 100000 in
theorem ev_k39 : ev_rowok ev_r39 = true := dq_rw (by decide +kernel) (by decide +kernel)
set_option maxRecDepth 100000 in
theorem ev_k40 : ev_rowok ev_r40 = true := dq_rw (by decide +kernel) (by decide +kernel)
set_option maxRecDepth 100000 in
theorem ev_k41 : ev_rowok ev_r41 = true := dq_rw (by decide +kernel) (by decide +kernel)
set_option maxRecDepth 100000 in
theorem ev_k42 : ev_rowok ev_r42 = true := dq_rw (by decide +kernel) (by decide +kernel)
set_option maxRecDepth 100000 in
theorem ev_k43 : ev_rowok ev_r43 = true := dq_rw (by decide +kernel) (by decide +kernel)
set_option maxRecDepth 100000 in
theorem ev_k44 : ev_rowok ev_r44 = true := dq_rw (by decide +kernel) (by decide +kernel)
set_option maxRecDepth 100000 in
theorem ev_k45 : ev_rowok ev_r45 = true := dq_rw (by decide +kernel) (by decide +kernel)
set_option maxRecDepth 100000 in
theorem ev_k46 : ev_rowok ev_r46 = true := dq_rw (by decide +kernel) (by decide +kernel)
set_option maxRecDepth 100000 in
theorem ev_k47 : ev_rowok ev_r47 = true := dq_rw (by decide +kernel) (by decide +kernel)
set_option maxRecDepth 100000 in
theorem ev_k48 : ev_rowok ev_r48 = true := dq_rw (by decide +kernel) (by decide +kernel)
set_option maxRecDepth 100000 in
theorem ev_k49 : ev_rowok ev_r49 = true := dq_rw (by decide +kernel) (by decide +kernel)
set_option maxRecDepth 100000 in
theorem ev_k50 : ev_rowok ev_r50 = true := dq_rw (by decide +kernel) (by decide +kernel)
set_option maxRecDepth 100000 in
theorem ev_k51 : ev_rowok ev_r51 = true := dq_rw (by decide +kernel) (by decide +kernel)
set_option maxRecDepth 100000 in
theorem ev_k52 : ev_rowok ev_r52 = true := dq_rw (by decide +kernel) (by decide +kernel)
set_option maxRecDepth 100000 in
theorem ev_k53 : ev_rowok ev_r53 = true := dq_rw (by decide +kernel) (by decide +kernel)
set_option maxRecDepth 100000 in
theorem ev_k54 : ev_rowok ev_r54 = true := dq_rw (by decide +kernel) (by decide +kernel)
set_option maxRecDepth 100000 in
theorem ev_k55 : ev_rowok ev_r55 = true := dq_rw (by decide +kernel) (by decide +kernel)
set_option maxRecDepth 100000 in
theorem ev_k56 : ev_rowok ev_r56 = true := dq_rw (by decide +kernel) (by decide +kernel)
set_option maxRecDepth 100000 in
theorem ev_k57 : ev_rowok ev_r57 = true := dq_rw (by decide +kernel) (by decide +kernel)
set_option maxRecDepth 100000 in
theorem ev_k58 : ev_rowok ev_r58 = true := dq_rw (by decide +kernel) (by decide +kernel)
set_option maxRecDepth 100000 in
theorem ev_k59 : ev_rowok ev_r59 = true := dq_rw (by decide +kernel) (by decide +kernel)
set_option maxRecDepth 100000 in
theorem ev_k60 : ev_rowok ev_r60 = true := dq_rw (by decide +kernel) (by decide +kernel)
set_option maxRecDepth 100000 in
theorem ev_k61 : ev_rowok ev_r61 = true := dq_rw (by decide +kernel) (by decide +kernel)
set_option maxRecDepth 100000 in
theorem ev_k62 : ev_rowok ev_r62 = true := dq_rw (by decide +kernel) (by decide +kernel)
set_option maxRecDepth 100000 in
theorem ev_k63 : ev_rowok ev_r63 = true := dq_rw (by decide +kernel) (by decide +kernel)
set_option maxRecDepth 100000 in
theorem ev_k64 : ev_rowok ev_r64 = true := dq_rw (by decide +kernel) (by decide +kernel)
set_option maxRecDepth 100000 in
theorem ev_k65 : ev_rowok ev_r65 = true := dq_rw (by decide +kernel) (by decide +kernel)
set_option maxRecDepth 100000 in
theorem ev_k66 : ev_rowok ev_r66 = true := dq_rw (by decide +kernel) (by decide +kernel)
set_option maxRecDepth 100000 in
theorem ev_k67 : ev_rowok ev_r67 = true := dq_rw (by decide +kernel) (by decide +kernel)
set_option maxRecDepth 100000 in
theorem ev_k68 : ev_rowok ev_r68 = true := dq_rw (by decide +kernel) (by decide +kernel)
set_option maxRecDepth 100000 in
theorem ev_k69 : ev_rowok ev_r69 = true := dq_rw (by decide +kernel) (by decide +kernel)
set_option maxRecDepth 100000 in
theorem ev_k70 : ev_rowok ev_r70 = true := dq_rw (by decide +kernel) (by decide +kernel)
set_option maxRecDepth 100000 in
theorem ev_k71 : ev_rowok ev_r71 = true := dq_rw (by decide +kernel) (by decide +kernel)
set_option maxRecDepth 100000 in
theorem ev_k72 : ev_rowok ev_r72 = true := dq_rw (by decide +kernel) (by decide +kernel)
set_option maxRecDepth 100000 in
theorem ev_k73 : ev_rowok ev_r73 = true := dq_rw (by decide +kernel) (by decide +kernel)
set_option maxRecDepth 100000 in
theorem ev_k74 : ev_rowok ev_r74 = true := dq_rw (by decide +kernel) (by decide +kernel)
set_option maxRecDepth 100000 in
theorem ev_k75 : ev_rowok ev_r75 = true := dq_rw (by decide +kernel) (by decide +kernel)
set_option maxRecDepth 100000 in
theorem ev_k76 : ev_rowok ev_r76 = true := dq_rw (by decide +kernel) (by decide +kernel)
set_option maxRecDepth 100000 in
theorem ev_k77 : ev_rowok ev_r77 = true := dq_rw (by decide +kernel) (by decide +kernel)
set_option maxRecDepth 100000 in
theorem ev_k78 : ev_rowok ev_r78 = true := dq_rw (by decide +kernel) (by decide +kernel)
set_option maxRecDepth 100000 in
theorem ev_k79 : ev_rowok ev_r79 = true := dq_rw (by decide +kernel) (by decide +kernel)
set_option maxRecDepth 100000 in
theorem ev_k80 : ev_rowok ev_r80 = true := dq_rw (by decide +kernel) (by decide +kernel)
set_option maxRecDepth 100000 in
theorem ev_k81 : ev_rowok ev_r81 = true := dq_rw (by decide +kernel) (by decide +kernel)
set_option maxRecDepth 100000 in
theorem ev_k82 : ev_rowok ev_r82 = true := dq_rw (by decide +kernel) (by decide +kernel)
set_option maxRecDepth 100000 in
theorem ev_k83 : ev_rowok ev_r83 = true := dq_rw (by decide +kernel) (by decide +kernel)
set_option maxRecDepth 100000 in
theorem ev_k84 : ev_rowok ev_r84 = true := dq_rw (by decide +kernel) (by decide +kernel)
set_option maxRecDepth 100000 in
theorem ev_k85 : ev_rowok ev_r85 = true := dq_rw (by decide +kernel) (by decide +kernel)
set_option maxRecDepth 100000 in
theorem ev_k86 : ev_rowok ev_r86 = true := dq_rw (by decide +kernel) (by decide +kernel)
set_option maxRecDepth 100000 in
theorem ev_k87 : ev_rowok ev_r87 = true := dq_rw (by decide +kernel) (by decide +kernel)
set_option maxRecDepth 100000 in
theorem ev_k88 : ev_rowok ev_r88 = true := dq_rw (by decide +kernel) (by decide +kernel)
set_option maxRecDepth 100000 in
theorem ev_k89 : ev_rowok ev_r89 = true := dq_rw (by decide +kernel) (by decide +kernel)
set_option maxRecDepth 100000 in
theorem ev_k90 : ev_rowok ev_r90 = true := dq_rw (by decide +kernel) (by decide +kernel)
set_option maxRecDepth 100000 in
theorem ev_k91 : ev_rowok ev_r91 = true := dq_rw (by decide +kernel) (by decide +kernel)
set_option maxRecDepth 100000 in
theorem ev_k92 : ev_rowok ev_r92 = true := dq_rw (by decide +kernel) (by decide +kernel)
set_option maxRecDepth 100000 in
theorem ev_k93 : ev_rowok ev_r93 = true := dq_rw (by decide +kernel) (by decide +kernel)
set_option maxRecDepth 100000 in
theorem ev_k94 : ev_rowok ev_r94 = true := dq_rw (by decide +kernel) (by decide +kernel)
set_option maxRecDepth 100000 in
theorem ev_k95 : ev_rowok ev_r95 = true := dq_rw (by decide +kernel) (by decide +kernel)
set_option maxRecDepth 100000 in
theorem ev_k96 : ev_rowok ev_r96 = true := dq_rw (by decide +kernel) (by decide +kernel)
set_option maxRecDepth 100000 in
theorem ev_k97 : ev_rowok ev_r97 = true := dq_rw (by decide +kernel) (by decide +kernel)
set_option maxRecDepth 100000 in
theorem ev_k98 : ev_rowok ev_r98 = true := dq_rw (by decide +kernel) (by decide +kernel)
set_option maxRecDepth 100000 in
theorem ev_k99 : ev_rowok ev_r99 = true := dq_rw (by decide +kernel) (by decide +kernel)
set_option maxRecDepth 100000 in
theorem ev_k100 : ev_rowok ev_r100 = true := dq_rw (by decide +kernel) (by decide +kernel)
set_option maxRecDepth 100000 in
theorem ev_k101 : ev_rowok ev_r101 = true := dq_rw (by decide +kernel) (by decide +kernel)
set_option maxRecDepth 100000 in
theorem ev_k102 : ev_rowok ev_r102 = true := dq_rw (by decide +kernel) (by decide +kernel)
set_option maxRecDepth 100000 in
theorem ev_k103 : ev_rowok ev_r103 = true := dq_rw (by decide +kernel) (by decide +kernel)
set_option maxRecDepth 100000 in
theorem ev_k104 : ev_rowok ev_r104 = true := dq_rw (by decide +kernel) (by decide +kernel)
set_option maxRecDepth 100000 in
theorem ev_k105 : ev_rowok ev_r105 = true := dq_rw (by decide +kernel) (by decide +kernel)
set_option maxRecDepth 100000 in
theorem ev_k106 : ev_rowok ev_r106 = true := dq_rw (by decide +kernel) (by decide +kernel)
set_option maxRecDepth 100000 in
theorem ev_k107 : ev_rowok ev_r107 = true := dq_rw (by decide +kernel) (by decide +kernel)
set_option maxRecDepth 100000 in
theorem ev_k108 : ev_rowok ev_r108 = true := dq_rw (by decide +kernel) (by decide +kernel)
set_option maxRecDepth 100000 in
theorem ev_k109 : ev_rowok ev_r109 = true := dq_rw (by decide +kernel) (by decide +kernel)
set_option maxRecDepth 100000 in
theorem ev_k110 : ev_rowok ev_r110 = true := dq_rw (by decide +kernel) (by decide +kernel)
set_option maxRecDepth 100000 in
theorem ev_k111 : ev_rowok ev_r111 = true := dq_rw (by decide +kernel) (by decide +kernel)
set_option maxRecDepth 100000 in
theorem ev_k112 : ev_rowok ev_r112 = true := dq_rw (by decide +kernel) (by decide +kernel)
set_option maxRecDepth 100000 in
theorem ev_k113 : ev_rowok ev_r113 = true := dq_rw (by decide +kernel) (by decide +kernel)
set_option maxRecDepth 100000 in
theorem ev_k114 : ev_rowok ev_r114 = true := dq_rw (by decide +kernel) (by decide +kernel)
set_option maxRecDepth 100000 in
theorem ev_k115 : ev_rowok ev_r115 = true := dq_rw (by decide +kernel) (by decide +kernel)
set_option maxRecDepth 100000 in
theorem ev_k116 : ev_rowok ev_r116 = true := dq_rw (by decide +kernel) (by decide +kernel)
set_option maxRecDepth 100000 in
theorem ev_k117 : ev_rowok ev_r117 = true := dq_rw (by decide +kernel) (by decide +kernel)
set_option maxRecDepth 100000 in
theorem ev_k118 : ev_rowok ev_r118 = true := dq_rw (by decide +kernel) (by decide +kernel)
set_option maxRecDepth 100000 in
theorem ev_k119 : ev_rowok ev_r119 = true := dq_rw (by decide +kernel) (by decide +kernel)
set_option maxRecDepth 100000 in
theorem ev_k120 : ev_rowok ev_r120 = true := dq_rw (by decide +kernel) (by decide +kernel)
set_option maxRecDepth 100000 in
theorem ev_k121 : ev_rowok ev_r121 = true := dq_rw (by decide +kernel) (by decide +kernel)
set_option maxRecDepth 100000 in
theorem ev_k122 : ev_rowok ev_r122 = true := dq_rw (by decide +kernel) (by decide +kernel)
set_option maxRecDepth 100000 in
theorem ev_k123 : ev_rowok ev_r123 = true := dq_rw (by decide +kernel) (by decide +kernel)
set_option maxRecDepth 100000 in
theorem ev_k124 : ev_rowok ev_r124 = true := dq_rw (by decide +kernel) (by decide +kernel)
set_option maxRecDepth 100000 in
theorem ev_k125 : ev_rowok ev_r125 = true := dq_rw (by decide +kernel) (by decide +kernel)
set_option maxRecDepth 100000 in
theorem ev_k126 : ev_rowok ev_r126 = true := dq_rw (by decide +kernel) (by decide +kernel)
set_option maxRecDepth 100000 in
theorem ev_k127 : ev_rowok ev_r127 = true := dq_rw (by decide +kernel) (by decide +kernel)
set_option maxRecDepth 100000 in
theorem ev_k128 : ev_rowok ev_r128 = true := dq_rw (by decide +kernel) (by decide +kernel)
set_option maxRecDepth 100000 in
theorem ev_k129 : ev_rowok ev_r129 = true := dq_rw (by decide +kernel) (by decide +kernel)
set_option maxRecDepth 100000 in
theorem ev_k130 : ev_rowok ev_r130 = true := dq_rw (by decide +kernel) (by decide +kernel)
set_option maxRecDepth 100000 in
theorem ev_k131 : ev_rowok ev_r131 = true := dq_rw (by decide +kernel) (by decide +kernel)
set_option maxRecDepth 100000 in
theorem ev_k132 : ev_rowok ev_r132 = true := dq_rw (by decide +kernel) (by decide +kernel)
set_option maxRecDepth 100000 in
theorem ev_k133 : ev_rowok ev_r133 = true := dq_rw (by decide +kernel) (by decide +kernel)
set_option maxRecDepth 100000 in
theorem ev_k134 : ev_rowok ev_r134 = true := dq_rw (by decide +kernel) (by decide +kernel)
set_option maxRecDepth 100000 in
theorem ev_k135 : ev_rowok ev_r135 = true := dq_rw (by decide +kernel) (by decide +kernel)
set_option maxRecDepth 100000 in
theorem ev_k136 : ev_rowok ev_r136 = true := dq_rw (by decide +kernel) (by decide +kernel)
set_option maxRecDepth 100000 in
theorem ev_k137 : ev_rowok ev_r137 = true := dq_rw (by decide +kernel) (by decide +kernel)
set_option maxRecDepth 100000 in
theorem ev_k138 : ev_rowok ev_r138 = true := dq_rw (by decide +kernel) (by decide +kernel)
set_option maxRecDepth 100000 in
theorem ev_k139 : ev_rowok ev_r139 = true := dq_rw (by decide +kernel) (by decide +kernel)
set_option maxRecDepth 100000 in
theorem ev_k140 : ev_rowok ev_r140 = true := dq_rw (by decide +kernel) (by decide +kernel)
set_option maxRecDepth 100000 in
theorem ev_k141 : ev_rowok ev_r141 = true := dq_rw (by decide +kernel) (by decide +kernel)
set_option maxRecDepth 100000 in
theorem ev_k142 : ev_rowok ev_r142 = true := dq_rw (by decide +kernel) (by decide +kernel)
set_option maxRecDepth 100000 in
theorem ev_k143 : ev_rowok ev_r143 = true := dq_rw (by decide +kernel) (by decide +kernel)
set_option maxRecDepth 100000 in
theorem ev_k144 : ev_rowok ev_r144 = true := dq_rw (by decide +kernel) (by decide +kernel)
set_option maxRecDepth 100000 in
theorem ev_k145 : ev_rowok ev_r145 = true := dq_rw (by decide +kernel) (by decide +kernel)
set_option maxRecDepth 100000 in
theorem ev_k146 : ev_rowok ev_r146 = true := dq_rw (by decide +kernel) (by decide +kernel)
set_option maxRecDepth 100000 in
theorem ev_k147 : ev_rowok ev_r147 = true := dq_rw (by decide +kernel) (by decide +kernel)
set_option maxRecDepth 100000 in
theorem ev_k148 : ev_rowok ev_r148 = true := dq_rw (by decide +kernel) (by decide +kernel)
set_option maxRecDepth 100000 in
theorem ev_k149 : ev_rowok ev_r149 = true := dq_rw (by decide +kernel) (by decide +kernel)
set_option maxRecDepth 100000 in
theorem ev_k150 : ev_rowok ev_r150 = true := dq_rw (by decide +kernel) (by decide +kernel)
set_option maxRecDepth 100000 in
theorem ev_k151 : ev_rowok ev_r151 = true := dq_rw (by decide +kernel) (by decide +kernel)
set_option maxRecDepth 100000 in
theorem ev_k152 : ev_rowok ev_r152 = true := dq_rw (by decide +kernel) (by decide +kernel)
set_option maxRecDepth 100000 in
theorem ev_k153 : ev_rowok ev_r153 = true := dq_rw (by decide +kernel) (by decide +kernel)
set_option maxRecDepth 100000 in
theorem ev_k154 : ev_rowok ev_r154 = true := dq_rw (by decide +kernel) (by decide +kernel)
set_option maxRecDepth 100000 in
theorem ev_k155 : ev_rowok ev_r155 = true := dq_rw (by decide +kernel) (by decide +kernel)
set_option maxRecDepth 100000 in
theorem ev_k156 : ev_rowok ev_r156 = true := dq_rw (by decide +kernel) (by decide +kernel)
set_option maxRecDepth 100000 in
theorem ev_k157 : ev_rowok ev_r157 = true := dq_rw (by decide +kernel) (by decide +kernel)
set_option maxRecDepth 100000 in
theorem ev_k158 : ev_rowok ev_r158 = true := dq_rw (by decide +kernel) (by decide +kernel)
set_option maxRecDepth 100000 in
theorem ev_k159 : ev_rowok ev_r159 = true := dq_rw (by decide +kernel) (by decide +kernel)
set_option maxRecDepth 100000 in
theorem ev_k160 : ev_rowok ev_r160 = true := dq_rw (by decide +kernel) (by decide +kernel)
set_option maxRecDepth 100000 in
theorem ev_k161 : ev_rowok ev_r161 = true := dq_rw (by decide +kernel) (by decide +kernel)
set_option maxRecDepth 100000 in
theorem ev_k162 : ev_rowok ev_r162 = true := dq_rw (by decide +kernel) (by decide +kernel)
set_option maxRecDepth 100000 in
theorem ev_k163 : ev_rowok ev_r163 = true := dq_rw (by decide +kernel) (by decide +kernel)
set_option maxRecDepth 100000 in
theorem ev_k164 : ev_rowok ev_r164 = true := dq_rw (by decide +kernel) (by decide +kernel)
set_option maxRecDepth 100000 in
theorem ev_k165 : ev_rowok ev_r165 = true := dq_rw (by decide +kernel) (by decide +kernel)
set_option maxRecDepth 100000 in
theorem ev_k166 : ev_rowok ev_r166 = true := dq_rw (by decide +kernel) (by decide +kernel)
set_option maxRecDepth 100000 in
theorem ev_k167 : ev_rowok ev_r167 = true := dq_rw (by decide +kernel) (by decide +kernel)
set_option maxRecDepth 100000 in
theorem ev_k168 : ev_rowok ev_r168 = true := dq_rw (by decide +kernel) (by decide +kernel)
set_option maxRecDepth 100000 in
theorem ev_k169 : ev_rowok ev_r169 = true := dq_rw (by decide +kernel) (by decide +kernel)
set_option maxRecDepth 100000 in
theorem ev_k170 : ev_rowok ev_r170 = true := dq_rw (by decide +kernel) (by decide +kernel)
set_option maxRecDepth 100000 in
theorem ev_k171 : ev_rowok ev_r171 = true := dq_rw (by decide +kernel) (by decide +kernel)
set_option maxRecDepth 100000 in
theorem ev_k172 : ev_rowok ev_r172 = true := dq_rw (by decide +kernel) (by decide +kernel)
set_option maxRecDepth 100000 in
theorem ev_k173 : ev_rowok ev_r173 = true := dq_rw (by decide +kernel) (by decide +kernel)
set_option maxRecDepth 100000 in
theorem ev_k174 : ev_rowok ev_r174 = true := dq_rw (by decide +kernel) (by decide +kernel)
set_option maxRecDepth 100000 in
theorem ev_k175 : ev_rowok ev_r175 = true := dq_rw (by decide +kernel) (by decide +kernel)
set_option maxRecDepth 100000 in
theorem ev_k176 : ev_rowok ev_r176 = true := dq_rw (by decide +kernel) (by decide +kernel)
set_option maxRecDepth 100000 in
theorem ev_k177 : ev_rowok ev_r177 = true := dq_rw (by decide +kernel) (by decide +kernel)
set_option maxRecDepth 100000 in
theorem ev_k178 : ev_rowok ev_r178 = true := dq_rw (by decide +kernel) (by decide +kernel)
set_option maxRecDepth 100000 in
theorem ev_k179 : ev_rowok ev_r179 = true := dq_rw (by decide +kernel) (by decide +kernel)
set_option maxRecDepth 100000 in
theorem ev_k180 : ev_rowok ev_r180 = true := dq_rw (by decide +kernel) (by decide +kernel)
set_option maxRecDepth 100000 in
theorem ev_k181 : ev_rowok ev_r181 = true := dq_rw (by decide +kernel) (by decide +kernel)
set_option maxRecDepth 100000 in
theorem ev_k182 : ev_rowok ev_r182 = true := dq_rw (by decide +kernel) (by decide +kernel)
set_option maxRecDepth 100000 in
theorem ev_k183 : ev_rowok ev_r183 = true := dq_rw (by decide +kernel) (by decide +kernel)
set_option maxRecDepth 100000 in
theorem ev_k184 : ev_rowok ev_r184 = true := dq_rw (by decide +kernel) (by decide +kernel)
set_option maxRecDepth 100000 in
theorem ev_k185 : ev_rowok ev_r185 = true := dq_rw (by decide +kernel) (by decide +kernel)
set_option maxRecDepth 100000 in
theorem ev_k186 : ev_rowok ev_r186 = true := dq_rw (by decide +kernel) (by decide +kernel)
set_option maxRecDepth 100000 in
theorem ev_k187 : ev_rowok ev_r187 = true := dq_rw (by decide +kernel) (by decide +kernel)
set_option maxRecDepth 100000 in
theorem ev_k188 : ev_rowok ev_r188 = true := dq_rw (by decide +kernel) (by decide +kernel)
set_option maxRecDepth 100000 in
theorem ev_k189 : ev_rowok ev_r189 = true := dq_rw (by decide +kernel) (by decide +kernel)
set_option maxRecDepth 100000 in
theorem ev_k190 : ev_rowok ev_r190 = true := dq_rw (by decide +kernel) (by decide +kernel)
set_option maxRecDepth 100000 in
theorem ev_k191 : ev_rowok ev_r191 = true := dq_rw (by decide +kernel) (by decide +kernel)
set_option maxRecDepth 100000 in
theorem ev_k192 : ev_rowok ev_r192 = true := dq_rw (by decide +kernel) (by decide +kernel)
set_option maxRecDepth 100000 in
theorem ev_k193 : ev_rowok ev_r193 = true := dq_rw (by decide +kernel) (by decide +kernel)
set_option maxRecDepth 100000 in
theorem ev_k194 : ev_rowok ev_r194 = true := dq_rw (by decide +kernel) (by decide +kernel)
set_option maxRecDepth 100000 in
theorem ev_k195 : ev_rowok ev_r195 = true := dq_rw (by decide +kernel) (by decide +kernel)
set_option maxRecDepth 100000 in
theorem ev_k196 : ev_rowok ev_r196 = true := dq_rw (by decide +kernel) (by decide +kernel)
set_option maxRecDepth 100000 in
theorem ev_k197 : ev_rowok ev_r197 = true := dq_rw (by decide +kernel) (by decide +kernel)
set_option maxRecDepth 100000 in
theorem ev_k198 : ev_rowok ev_r198 = true := dq_rw (by decide +kernel) (by decide +kernel)
set_option maxRecDepth 100000 in
theorem ev_k199 : ev_rowok ev_r199 = true := dq_rw (by decide +kernel) (by decide +kernel)
set_option maxRecDepth 100000 in
theorem ev_k200 : ev_rowok ev_r200 = true := dq_rw (by decide +kernel) (by decide +kernel)
set_option maxRecDepth 100000 in
theorem ev_k201 : ev_rowok ev_r201 = true := dq_rw (by decide +kernel) (by decide +kernel)
theorem ev_kk0 : ∀ r ∈ ([ev_r0, ev_r1, ev_r2, ev_r3, ev_r4, ev_r5, ev_r6, ev_r7, ev_r8, ev_r9, ev_r10, ev_r11, ev_r12, ev_r13, ev_r14, ev_r15] : List ev_R), ev_rowok r = true := List.forall_mem_cons.mpr ⟨ev_k0, List.forall_mem_cons.mpr ⟨ev_k1, List.forall_mem_cons.mpr ⟨ev_k2, List.forall_mem_cons.mpr ⟨ev_k3, List.forall_mem_cons.mpr ⟨ev_k4, List.forall_mem_cons.mpr ⟨ev_k5, List.forall_mem_cons.mpr ⟨ev_k6, List.forall_mem_cons.mpr ⟨ev_k7, List.forall_mem_cons.mpr ⟨ev_k8, List.forall_mem_cons.mpr ⟨ev_k9, List.forall_mem_cons.mpr ⟨ev_k10, List.forall_mem_cons.mpr ⟨ev_k11, List.forall_mem_cons.mpr ⟨ev_k12, List.forall_mem_cons.mpr ⟨ev_k13, List.forall_mem_cons.mpr ⟨ev_k14, List.forall_mem_cons.mpr ⟨ev_k15, fun _ h => absurd h List.not_mem_nil⟩⟩⟩⟩⟩⟩⟩⟩⟩⟩⟩⟩⟩⟩⟩⟩
theorem ev_kk1 : ∀ r ∈ ([ev_r16, ev_r17, ev_r18, ev_r19, ev_r20, ev_r21, ev_r22, ev_r23, ev_r24, ev_r25, ev_r26, ev_r27, ev_r28, ev_r29, ev_r30, ev_r31] : List ev_R), ev_rowok r = true := List.forall_mem_cons.mpr ⟨ev_k16, List.forall_mem_cons.mpr ⟨ev_k17, List.forall_mem_cons.mpr ⟨ev_k18, List.forall_mem_cons.mpr ⟨ev_k19, List.forall_mem_cons.mpr ⟨ev_k20, List.forall_mem_cons.mpr ⟨ev_k21, List.forall_mem_cons.mpr ⟨ev_k22, List.forall_mem_cons.mpr ⟨ev_k23, List.forall_mem_cons.mpr ⟨ev_k24, List.forall_mem_cons.mpr ⟨ev_k25, List.forall_mem_cons.mpr ⟨ev_k26, List.forall_mem_cons.mpr ⟨ev_k27, List.forall_mem_cons.mpr ⟨ev_k28, List.forall_mem_cons.mpr ⟨ev_k29, List.forall_mem_cons.mpr ⟨ev_k30, List.forall_mem_cons.mpr ⟨ev_k31, fun _ h => absurd h List.not_mem_nil⟩⟩⟩⟩⟩⟩⟩⟩⟩⟩⟩⟩⟩⟩⟩⟩
theorem ev_kk2 : ∀ r ∈ ([ev_r32, ev_r33, ev_r34, ev_r35, ev_r36, ev_r37, ev_r38, ev_r39, ev_r40, ev_r41, ev_r42, ev_r43, ev_r44, ev_r45, ev_r46, ev_r47] : List ev_R), ev_rowok r = true := List.forall_mem_cons.mpr ⟨ev_k32, List.forall_mem_cons.mpr ⟨ev_k33, List.forall_mem_cons.mpr ⟨ev_k34, List.forall_mem_cons.mpr ⟨ev_k35, List.forall_mem_cons.mpr ⟨ev_k36, List.forall_mem_cons.mpr ⟨ev_k37, List.forall_mem_cons.mpr ⟨ev_k38, List.forall_mem_cons.mpr ⟨ev_k39, List.forall_mem_cons.mpr ⟨ev_k40, List.forall_mem_cons.mpr ⟨ev_k41, List.forall_mem_cons.mpr ⟨ev_k42, List.forall_mem_cons.mpr ⟨ev_k43, List.forall_mem_cons.mpr ⟨ev_k44, List.forall_mem_cons.mpr ⟨ev_k45, List.forall_mem_cons.mpr ⟨ev_k46, List.forall_mem_cons.mpr ⟨ev_k47, fun _ h => absurd h List.not_mem_nil⟩⟩⟩⟩⟩⟩⟩⟩⟩⟩⟩⟩⟩⟩⟩⟩
theorem ev_kk3 : ∀ r ∈ ([ev_r48, ev_r49, ev_r50, ev_r51, ev_r52, ev_r53, ev_r54, ev_r55, ev_r56, ev_r57, ev_r58, ev_r59, ev_r60, ev_r61, ev_r62, ev_r63] : List ev_R), ev_rowok r = true := List.forall_mem_cons.mpr ⟨ev_k48, List.forall_mem_cons.mpr ⟨ev_k49, List.forall_mem_cons.mpr ⟨ev_k50, List.forall_mem_cons.mpr ⟨ev_k51, List.forall_mem_cons.mpr ⟨ev_k52, List.forall_mem_cons.mpr ⟨ev_k53, List.forall_mem_cons.mpr ⟨ev_k54, List.forall_mem_cons.mpr ⟨ev_k55, List.forall_mem_cons.mpr ⟨ev_k56, List.forall_mem_cons.mpr ⟨ev_k57, List.forall_mem_cons.mpr ⟨ev_k58, List.forall_mem_cons.mpr ⟨ev_k59, List.forall_mem_cons.mpr ⟨ev_k60, List.forall_mem_cons.mpr ⟨ev_k61, List.forall_mem_cons.mpr ⟨ev_k62, List.forall_mem_cons.mpr ⟨ev_k63, fun _ h => absurd h List.not_mem_nil⟩⟩⟩⟩⟩⟩⟩⟩⟩⟩⟩⟩⟩⟩⟩⟩
theorem ev_kk4 : ∀ r ∈ ([ev_r64, ev_r65, ev_r66, ev_r67, ev_r68, ev_r69, ev_r70, ev_r71, ev_r72, ev_r73, ev_r74, ev_r75, ev_r76, ev_r77, ev_r78, ev_r79] : List ev_R), ev_rowok r = true := List.forall_mem_cons.mpr ⟨ev_k64, List.forall_mem_cons.mpr ⟨ev_k65, List.forall_mem_cons.mpr ⟨ev_k66, List.forall_mem_cons.mpr ⟨ev_k67, List.forall_mem_cons.mpr ⟨ev_k68, List.forall_mem_cons.mpr ⟨ev_k69, List.forall_mem_cons.mpr ⟨ev_k70, List.forall_mem_cons.mpr ⟨ev_k71, List.forall_mem_cons.mpr ⟨ev_k72, List.forall_mem_cons.mpr ⟨ev_k73, List.forall_mem_cons.mpr ⟨ev_k74, List.forall_mem_cons.mpr ⟨ev_k75, List.forall_mem_cons.mpr ⟨ev_k76, List.forall_mem_cons.mpr ⟨ev_k77, List.forall_mem_cons.mpr ⟨ev_k78, List.forall_mem_cons.mpr ⟨ev_k79, fun _ h => absurd h List.not_mem_nil⟩⟩⟩⟩⟩⟩⟩⟩⟩⟩⟩⟩⟩⟩⟩⟩
theorem ev_kk5 : ∀ r ∈ ([ev_r80, ev_r81, ev_r82, ev_r83, ev_r84, ev_r85, ev_r86, ev_r87, ev_r88, ev_r89, ev_r90, ev_r91, ev_r92, ev_r93, ev_r94, ev_r95] : List ev_R), ev_rowok r = true := List.forall_mem_cons.mpr ⟨ev_k80, List.forall_mem_cons.mpr ⟨ev_k81, List.forall_mem_cons.mpr ⟨ev_k82, List.forall_mem_cons.mpr ⟨ev_k83, List.forall_mem_cons.mpr ⟨ev_k84, List.forall_mem_cons.mpr ⟨ev_k85, List.forall_mem_cons.mpr ⟨ev_k86, List.forall_mem_cons.mpr ⟨ev_k87, List.forall_mem_cons.mpr ⟨ev_k88, List.forall_mem_cons.mpr ⟨ev_k89, List.forall_mem_cons.mpr ⟨ev_k90, List.forall_mem_cons.mpr ⟨ev_k91, List.forall_mem_cons.mpr ⟨ev_k92, List.forall_mem_cons.mpr ⟨ev_k93, List.forall_mem_cons.mpr ⟨ev_k94, List.forall_mem_cons.mpr ⟨ev_k95, fun _ h => absurd h List.not_mem_nil⟩⟩⟩⟩⟩⟩⟩⟩⟩⟩⟩⟩⟩⟩⟩⟩
theorem ev_kk6 : ∀ r ∈ ([ev_r96, ev_r97, ev_r98, ev_r99, ev_r100, ev_r101, ev_r102, ev_r103, ev_r104, ev_r105, ev_r106, ev_r107, ev_r108, ev_r109, ev_r110, ev_r111] : List ev_R), ev_rowok r = true := List.forall_mem_cons.mpr ⟨ev_k96, List.forall_mem_cons.mpr ⟨ev_k97, List.forall_mem_cons.mpr ⟨ev_k98, List.forall_mem_cons.mpr ⟨ev_k99, List.forall_mem_cons.mpr ⟨ev_k100, List.forall_mem_cons.mpr ⟨ev_k101, List.forall_mem_cons.mpr ⟨ev_k102, List.forall_mem_cons.mpr ⟨ev_k103, List.forall_mem_cons.mpr ⟨ev_k104, List.forall_mem_cons.mpr ⟨ev_k105, List.forall_mem_cons.mpr ⟨ev_k106, List.forall_mem_cons.mpr ⟨ev_k107, List.forall_mem_cons.mpr ⟨ev_k108, List.forall_mem_cons.mpr ⟨ev_k109, List.forall_mem_cons.mpr ⟨ev_k110, List.forall_mem_cons.mpr ⟨ev_k111, fun _ h => absurd h List.not_mem_nil⟩⟩⟩⟩⟩⟩⟩⟩⟩⟩⟩⟩⟩⟩⟩⟩
theorem ev_kk7 : ∀ r ∈ ([ev_r112, ev_r113, ev_r114, ev_r115, ev_r116, ev_r117, ev_r118, ev_r119, ev_r120, ev_r121, ev_r122, ev_r123, ev_r124, ev_r125, ev_r126, ev_r127] : List ev_R), ev_rowok r = true := List.forall_mem_cons.mpr ⟨ev_k112, List.forall_mem_cons.mpr ⟨ev_k113, List.forall_mem_cons.mpr ⟨ev_k114, List.forall_mem_cons.mpr ⟨ev_k115, List.forall_mem_cons.mpr ⟨ev_k116, List.forall_mem_cons.mpr ⟨ev_k117, List.forall_mem_cons.mpr ⟨ev_k118, List.forall_mem_cons.mpr ⟨ev_k119, List.forall_mem_cons.mpr ⟨ev_k120, List.forall_mem_cons.mpr ⟨ev_k121, List.forall_mem_cons.mpr ⟨ev_k122, List.forall_mem_cons.mpr ⟨ev_k123, List.forall_mem_cons.mpr ⟨ev_k124, List.forall_mem_cons.mpr ⟨ev_k125, List.forall_mem_cons.mpr ⟨ev_k126, List.forall_mem_cons.mpr ⟨ev_k127, fun _ h => absurd h List.not_mem_nil⟩⟩⟩⟩⟩⟩⟩⟩⟩⟩⟩⟩⟩⟩⟩⟩
theorem ev_kk8 : ∀ r ∈ ([ev_r128, ev_r129, ev_r130, ev_r131, ev_r132, ev_r133, ev_r134, ev_r135, ev_r136, ev_r137, ev_r138, ev_r139, ev_r140, ev_r141, ev_r142, ev_r143] : List ev_R), ev_rowok r = true := List.forall_mem_cons.mpr ⟨ev_k128, List.forall_mem_cons.mpr ⟨ev_k129, List.forall_mem_cons.mpr ⟨ev_k130, List.forall_mem_cons.mpr ⟨ev_k131, List.forall_mem_cons.mpr ⟨ev_k132, List.forall_mem_cons.mpr ⟨ev_k133, List.forall_mem_cons.mpr ⟨ev_k134, List.forall_mem_cons.mpr ⟨ev_k135, List.forall_mem_cons.mpr ⟨ev_k136, List.forall_mem_cons.mpr ⟨ev_k137, List.forall_mem_cons.mpr ⟨ev_k138, List.forall_mem_cons.mpr ⟨ev_k139, List.forall_mem_cons.mpr ⟨ev_k140, List.forall_mem_cons.mpr ⟨ev_k141, List.forall_mem_cons.mpr ⟨ev_k142, List.forall_mem_cons.mpr ⟨ev_k143, fun _ h => absurd h List.not_mem_nil⟩⟩⟩⟩⟩⟩⟩⟩⟩⟩⟩⟩⟩⟩⟩⟩
theorem ev_kk9 : ∀ r ∈ ([ev_r144, ev_r145, ev_r146, ev_r147, ev_r148, ev_r149, ev_r150, ev_r151, ev_r152, ev_r153, ev_r154, ev_r155, ev_r156, ev_r157, ev_r158, ev_r159] : List ev_R), ev_rowok r = true := List.forall_mem_cons.mpr ⟨ev_k144, List.forall_mem_cons.mpr ⟨ev_k145, List.forall_mem_cons.mpr ⟨ev_k146, List.forall_mem_cons.mpr ⟨ev_k147, List.forall_mem_cons.mpr ⟨ev_k148, List.forall_mem_cons.mpr ⟨ev_k149, List.forall_mem_cons.mpr ⟨ev_k150, List.forall_mem_cons.mpr ⟨ev_k151, List.forall_mem_cons.mpr ⟨ev_k152, List.forall_mem_cons.mpr ⟨ev_k153, List.forall_mem_cons.mpr ⟨ev_k154, List.forall_mem_cons.mpr ⟨ev_k155, List.forall_mem_cons.mpr ⟨ev_k156, List.forall_mem_cons.mpr ⟨ev_k157, List.forall_mem_cons.mpr ⟨ev_k158, List.forall_mem_cons.mpr ⟨ev_k159, fun _ h => absurd h List.not_mem_nil⟩⟩⟩⟩⟩⟩⟩⟩⟩⟩⟩⟩⟩⟩⟩⟩
theorem ev_kk10 : ∀ r ∈ ([ev_r160, ev_r161, ev_r162, ev_r163, ev_r164, ev_r165, ev_r166, ev_r167, ev_r168, ev_r169, ev_r170, ev_r171, ev_r172, ev_r173, ev_r174, ev_r175] : List ev_R), ev_rowok r = true := List.forall_mem_cons.mpr ⟨ev_k160, List.forall_mem_cons.mpr ⟨ev_k161, List.forall_mem_cons.mpr ⟨ev_k162, List.forall_mem_cons.mpr ⟨ev_k163, List.forall_mem_cons.mpr ⟨ev_k164, List.forall_mem_cons.mpr ⟨ev_k165, List.forall_mem_cons.mpr ⟨ev_k166, List.forall_mem_cons.mpr ⟨ev_k167, List.forall_mem_cons.mpr ⟨ev_k168, List.forall_mem_cons.mpr ⟨ev_k169, List.forall_mem_cons.mpr ⟨ev_k170, List.forall_mem_cons.mpr ⟨ev_k171, List.forall_mem_cons.mpr ⟨ev_k172, List.forall_mem_cons.mpr ⟨ev_k173, List.forall_mem_cons.mpr ⟨ev_k174, List.forall_mem_cons.mpr ⟨ev_k175, fun _ h => absurd h List.not_mem_nil⟩⟩⟩⟩⟩⟩⟩⟩⟩⟩⟩⟩⟩⟩⟩⟩
theorem ev_kk11 : ∀ r ∈ ([ev_r176, ev_r177, ev_r178, ev_r179, ev_r180, ev_r181, ev_r182, ev_r183, ev_r184, ev_r185, ev_r186, ev_r187, ev_r188, ev_r189, ev_r190, ev_r191] : List ev_R), ev_rowok r = true := List.forall_mem_cons.mpr ⟨ev_k176, List.forall_mem_cons.mpr ⟨ev_k177, List.forall_mem_cons.mpr ⟨ev_k178, List.forall_mem_cons.mpr ⟨ev_k179, List.forall_mem_cons.mpr ⟨ev_k180, List.forall_mem_cons.mpr ⟨ev_k181, List.forall_mem_cons.mpr ⟨ev_k182, List.forall_mem_cons.mpr ⟨ev_k183, List.forall_mem_cons.mpr ⟨ev_k184, List.forall_mem_cons.mpr ⟨ev_k185, List.forall_mem_cons.mpr ⟨ev_k186, List.forall_mem_cons.mpr ⟨ev_k187, List.forall_mem_cons.mpr ⟨ev_k188, List.forall_mem_cons.mpr ⟨ev_k189, List.forall_mem_cons.mpr ⟨ev_k190, List.forall_mem_cons.mpr ⟨ev_k191, fun _ h => absurd h List.not_mem_nil⟩⟩⟩⟩⟩⟩⟩⟩⟩⟩⟩⟩⟩⟩⟩⟩
theorem ev_kk12 : ∀ r ∈ ([ev_r192, ev_r193, ev_r194, ev_r195, ev_r196, ev_r197, ev_r198, ev_r199, ev_r200, ev_r201] : List ev_R), ev_rowok r = true := List.forall_mem_cons.mpr ⟨ev_k192, List.forall_mem_cons.mpr ⟨ev_k193, List.forall_mem_cons.mpr ⟨ev_k194, List.forall_mem_cons.mpr ⟨ev_k195, List.forall_mem_cons.mpr ⟨ev_k196, List.forall_mem_cons.mpr ⟨ev_k197, List.forall_mem_cons.mpr ⟨ev_k198, List.forall_mem_cons.mpr ⟨ev_k199, List.forall_mem_cons.mpr ⟨ev_k200, List.forall_mem_cons.mpr ⟨ev_k201, fun _ h => absurd h List.not_mem_nil⟩⟩⟩⟩⟩⟩⟩⟩⟩⟩
theorem ev_kall : ∀ l ∈ ev_all, ∀ r ∈ l, ev_rowok r = true := List.forall_mem_cons.mpr ⟨ev_kk0, List.forall_mem_cons.mpr ⟨ev_kk1, List.forall_mem_cons.mpr ⟨ev_kk2, List.forall_mem_cons.mpr ⟨ev_kk3, List.forall_mem_cons.mpr ⟨ev_kk4, List.forall_mem_cons.mpr ⟨ev_kk5, List.forall_mem_cons.mpr ⟨ev_kk6, List.forall_mem_cons.mpr ⟨ev_kk7, List.forall_mem_cons.mpr ⟨ev_kk8, List.forall_mem_cons.mpr ⟨ev_kk9, List.forall_mem_cons.mpr ⟨ev_kk10, List.forall_mem_cons.mpr ⟨ev_kk11, List.forall_mem_cons.mpr ⟨ev_kk12, fun _ h => absurd h List.not_mem_nil⟩⟩⟩⟩⟩⟩⟩⟩⟩⟩⟩⟩⟩
set_option maxRecDepth 100000 in
theorem ev_nmall : ev_all.map (fun l => l.map (fun r => r.2.1)) = ev_ns := rfl
set_option maxRecDepth 100000 in
theorem ev_lk0 : ev_tok "NameHallLaw" code (ev_t202.drop 0 |>.take 4) = true := dq_tk_ok (by decide +kernel)
set_option maxRecDepth 100000 in
theorem ev_lk1 : ev_tok "NameHallLaw" code (ev_t202.drop 4 |>.take 4) = true := dq_tk_ok (by decide +kernel)
set_option maxRecDepth 100000 in
theorem ev_lk2 : ev_tok "NameHallLaw" code (ev_t202.drop 8 |>.take 4) = true := dq_tk_ok (by decide +kernel)
set_option maxRecDepth 100000 in
theorem ev_lk3 : ev_tok "NameHallLaw" code (ev_t202.drop 12 |>.take 4) = true := dq_tk_ok (by decide +kernel)
set_option maxRecDepth 100000 in
theorem ev_lk4 : ev_tok "NameHallLaw" code (ev_t202.drop 16 |>.take 4) = true := dq_tk_ok (by decide +kernel)
set_option maxRecDepth 100000 in
theorem ev_lk5 : ev_tok "NameHallLaw" code (ev_t202.drop 20 |>.take 4) = true := dq_tk_ok (by decide +kernel)
set_option maxRecDepth 100000 in
theorem ev_lk6 : ev_tok "NameHallLaw" code (ev_t202.drop 24 |>.take 4) = true := dq_tk_ok (by decide +kernel)
set_option maxRecDepth 100000 in
theorem ev_lk7 : ev_tok "NameHallLaw" code (ev_t202.drop 28 |>.take 4) = true := dq_tk_ok (by decide +kernel)
set_option maxRecDepth 100000 in
theorem ev_lk8 : ev_tok "NameHallLaw" code (ev_t202.drop 32 |>.take 4) = true := dq_tk_ok (by decide +kernel)
set_option maxRecDepth 100000 in
theorem ev_lk9 : ev_tok "NameHallLaw" code (ev_t202.drop 36 |>.take 4) = true := dq_tk_ok (by decide +kernel)
set_option maxRecDepth 100000 in
theorem ev_lk10 : ev_tok "NameHallLaw" code (ev_t202.drop 40 |>.take 4) = true := dq_tk_ok (by decide +kernel)
set_option maxRecDepth 100000 in
theorem ev_lk11 : ev_tok "NameHallLaw" code (ev_t202.drop 44 |>.take 4) = true := dq_tk_ok (by decide +kernel)
set_option maxRecDepth 100000 in
theorem ev_lk12 : ev_tok "NameHallLaw" code (ev_t202.drop 48 |>.take 4) = true := dq_tk_ok (by decide +kernel)
set_option maxRecDepth 100000 in
theorem ev_lk13 : ev_tok "NameHallLaw" code (ev_t202.drop 52 |>.take 4) = true := dq_tk_ok (by decide +kernel)
set_option maxRecDepth 100000 in
theorem ev_lk14 : ev_tok "NameHallLaw" code (ev_t202.drop 56 |>.take 4) = true := dq_tk_ok (by decide +kernel)
set_option maxRecDepth 100000 in
theorem ev_lk15 : ev_tok "NameHallLaw" code (ev_t202.drop 60 |>.take 4) = true := dq_tk_ok (by decide +kernel)
