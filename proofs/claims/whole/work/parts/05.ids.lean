def sd_FU : Nat := 1000
theorem sd_k0 : sd_kd 0 = 11 := by decide
theorem sd_i0 : 0 ∈ sd_LC := by decide
theorem sd_k1 : sd_kd 1 = 23 := by decide
theorem sd_i1 : 1 ∈ sd_LC := by decide
theorem sd_n1 : sd_ln 1 = 6 := by decide
theorem sd_k2 : sd_kd 2 = 2 := by decide
theorem sd_i2 : 2 ∈ sd_LC := by decide
theorem sd_k3 : sd_kd 3 = 20 := by decide
theorem sd_i3 : 3 ∈ sd_LC := by decide
theorem sd_n3 : sd_ln 3 = 40 := by decide
theorem sd_k4 : sd_kd 4 = 2 := by decide
theorem sd_i4 : 4 ∈ sd_LC := by decide
theorem sd_k5 : sd_kd 5 = 20 := by decide
theorem sd_i5 : 5 ∈ sd_LC := by decide
theorem sd_n5 : sd_ln 5 = 40 := by decide
theorem sd_k6 : sd_kd 6 = 2 := by decide
theorem sd_i6 : 6 ∈ sd_LC := by decide
theorem sd_k7 : sd_kd 7 = 20 := by decide
theorem sd_i7 : 7 ∈ sd_LC := by decide
theorem sd_n7 : sd_ln 7 = 40 := by decide
theorem sd_k8 : sd_kd 8 = 2 := by decide
theorem sd_i8 : 8 ∈ sd_LC := by decide
theorem sd_k9 : sd_kd 9 = 20 := by decide
theorem sd_i9 : 9 ∈ sd_LC := by decide
theorem sd_n9 : sd_ln 9 = 40 := by decide
theorem sd_k10 : sd_kd 10 = 2 := by decide
theorem sd_i10 : 10 ∈ sd_LC := by decide
theorem sd_k11 : sd_kd 11 = 20 := by decide
theorem sd_i11 : 11 ∈ sd_LC := by decide
theorem sd_n11 : sd_ln 11 = 40 := by decide
theorem sd_k12 : sd_kd 12 = 2 := by decide
theorem sd_i12 : 12 ∈ sd_LC := by decide
theorem sd_k13 : sd_kd 13 = 20 := by decide
theorem sd_i13 : 13 ∈ sd_LC := by decide
theorem sd_n13 : sd_ln 13 = 40 := by decide
theorem sd_k14 : sd_kd 14 = 23 := by decide
theorem sd_i14 : 14 ∈ sd_LC := by decide
theorem sd_n14 : sd_ln 14 = 4 := by decide
theorem sd_k15 : sd_kd 15 = 2 := by decide
theorem sd_i15 : 15 ∈ sd_LC := by decide
theorem sd_k16 : sd_kd 16 = 20 := by decide
theorem sd_i16 : 16 ∈ sd_LC := by decide
theorem sd_n16 : sd_ln 16 = 60 := by decide
theorem sd_k17 : sd_kd 17 = 2 := by decide
theorem sd_i17 : 17 ∈ sd_LC := by decide
theorem sd_k18 : sd_kd 18 = 20 := by decide
theorem sd_i18 : 18 ∈ sd_LC := by decide
theorem sd_n18 : sd_ln 18 = 60 := by decide
theorem sd_k19 : sd_kd 19 = 2 := by decide
theorem sd_i19 : 19 ∈ sd_LC := by decide
theorem sd_k20 : sd_kd 20 = 20 := by decide
theorem sd_i20 : 20 ∈ sd_LC := by decide
theorem sd_n20 : sd_ln 20 = 60 := by decide
theorem sd_k21 : sd_kd 21 = 2 := by decide
theorem sd_i21 : 21 ∈ sd_LC := by decide
theorem sd_k22 : sd_kd 22 = 20 := by decide
theorem sd_i22 : 22 ∈ sd_LC := by decide
theorem sd_n22 : sd_ln 22 = 60 := by decide
theorem sd_k23 : sd_kd 23 = 24 := by decide
theorem sd_i23 : 23 ∈ sd_LC := by decide
theorem sd_n23 : sd_ln 23 = 8 := by decide
theorem sd_k24 : sd_kd 24 = 10 := by decide
theorem sd_i24 : 24 ∈ sd_LC := by decide
theorem sd_k25 : sd_kd 25 = 20 := by decide
theorem sd_i25 : 25 ∈ sd_LC := by decide
theorem sd_n25 : sd_ln 25 = 30 := by decide
theorem sd_k26 : sd_kd 26 = 10 := by decide
theorem sd_i26 : 26 ∈ sd_LC := by decide
theorem sd_k27 : sd_kd 27 = 20 := by decide
theorem sd_i27 : 27 ∈ sd_LC := by decide
theorem sd_n27 : sd_ln 27 = 30 := by decide
theorem sd_k28 : sd_kd 28 = 10 := by decide
theorem sd_i28 : 28 ∈ sd_LC := by decide
theorem sd_k29 : sd_kd 29 = 20 := by decide
theorem sd_i29 : 29 ∈ sd_LC := by decide
theorem sd_n29 : sd_ln 29 = 30 := by decide
theorem sd_k30 : sd_kd 30 = 10 := by decide
theorem sd_i30 : 30 ∈ sd_LC := by decide
theorem sd_k31 : sd_kd 31 = 20 := by decide
theorem sd_i31 : 31 ∈ sd_LC := by decide
theorem sd_n31 : sd_ln 31 = 30 := by decide
theorem sd_k32 : sd_kd 32 = 10 := by decide
theorem sd_i32 : 32 ∈ sd_LC := by decide
theorem sd_k33 : sd_kd 33 = 20 := by decide
theorem sd_i33 : 33 ∈ sd_LC := by decide
theorem sd_n33 : sd_ln 33 = 30 := by decide
theorem sd_k34 : sd_kd 34 = 10 := by decide
theorem sd_i34 : 34 ∈ sd_LC := by decide
theorem sd_k35 : sd_kd 35 = 20 := by decide
theorem sd_i35 : 35 ∈ sd_LC := by decide
theorem sd_n35 : sd_ln 35 = 30 := by decide
theorem sd_k36 : sd_kd 36 = 10 := by decide
theorem sd_i36 : 36 ∈ sd_LC := by decide
theorem sd_k37 : sd_kd 37 = 20 := by decide
theorem sd_i37 : 37 ∈ sd_LC := by decide
theorem sd_n37 : sd_ln 37 = 30 := by decide
theorem sd_k38 : sd_kd 38 = 10 := by decide
theorem sd_i38 : 38 ∈ sd_LC := by decide
theorem sd_k39 : sd_kd 39 = 20 := by decide
theorem sd_i39 : 39 ∈ sd_LC := by decide
theorem sd_n39 : sd_ln 39 = 30 := by decide
theorem sd_k40 : sd_kd 40 = 6 := by decide
theorem sd_i40 : 40 ∈ sd_LC := by decide
theorem sd_k41 : sd_kd 41 = 20 := by decide
theorem sd_i41 : 41 ∈ sd_LC := by decide
theorem sd_n41 : sd_ln 41 = 2 := by decide
theorem sd_k42 : sd_kd 42 = 20 := by decide
theorem sd_i42 : 42 ∈ sd_LC := by decide
theorem sd_n42 : sd_ln 42 = 2 := by decide
theorem sd_k43 : sd_kd 43 = 25 := by decide
theorem sd_i43 : 43 ∈ sd_LC := by decide
theorem sd_n43 : sd_ln 43 = 2 := by decide
theorem sd_k44 : sd_kd 44 = 20 := by decide
theorem sd_i44 : 44 ∈ sd_LC := by decide
theorem sd_n44 : sd_ln 44 = 3 := by decide
theorem sd_k45 : sd_kd 45 = 20 := by decide
theorem sd_i45 : 45 ∈ sd_LC := by decide
theorem sd_n45 : sd_ln 45 = 3 := by decide
theorem sd_k46 : sd_kd 46 = 25 := by decide
theorem sd_i46 : 46 ∈ sd_LC := by decide
theorem sd_n46 : sd_ln 46 = 2 := by decide
theorem sd_k47 : sd_kd 47 = 20 := by decide
theorem sd_i47 : 47 ∈ sd_LC := by decide
theorem sd_n47 : sd_ln 47 = 3 := by decide
theorem sd_k48 : sd_kd 48 = 20 := by decide
theorem sd_i48 : 48 ∈ sd_LC := by decide
theorem sd_n48 : sd_ln 48 = 3 := by decide
theorem sd_k49 : sd_kd 49 = 6 := by decide
theorem sd_i49 : 49 ∈ sd_LC := by decide
theorem sd_k50 : sd_kd 50 = 20 := by decide
theorem sd_i50 : 50 ∈ sd_LC := by decide
theorem sd_n50 : sd_ln 50 = 2 := by decide
theorem sd_k51 : sd_kd 51 = 20 := by decide
theorem sd_i51 : 51 ∈ sd_LC := by decide
theorem sd_n51 : sd_ln 51 = 2 := by decide
theorem sd_k52 : sd_kd 52 = 25 := by decide
theorem sd_i52 : 52 ∈ sd_LC := by decide
theorem sd_n52 : sd_ln 52 = 2 := by decide
theorem sd_k53 : sd_kd 53 = 20 := by decide
theorem sd_i53 : 53 ∈ sd_LC := by decide
theorem sd_n53 : sd_ln 53 = 3 := by decide
theorem sd_k54 : sd_kd 54 = 20 := by decide
theorem sd_i54 : 54 ∈ sd_LC := by decide
theorem sd_n54 : sd_ln 54 = 3 := by decide
theorem sd_k55 : sd_kd 55 = 25 := by decide
theorem sd_i55 : 55 ∈ sd_LC := by decide
theorem sd_n55 : sd_ln 55 = 2 := by decide
theorem sd_k56 : sd_kd 56 = 20 := by decide
theorem sd_i56 : 56 ∈ sd_LC := by decide
theorem sd_n56 : sd_ln 56 = 3 := by decide
theorem sd_k57 : sd_kd 57 = 20 := by decide
theorem sd_i57 : 57 ∈ sd_LC := by decide
theorem sd_n57 : sd_ln 57 = 3 := by decide
theorem sd_k58 : sd_kd 58 = 5 := by decide
theorem sd_i58 : 58 ∈ sd_LC := by decide
theorem sd_k59 : sd_kd 59 = 5 := by decide
theorem sd_i59 : 59 ∈ sd_LC := by decide
theorem sd_k60 : sd_kd 60 = 7 := by decide
theorem sd_i60 : 60 ∈ sd_LC := by decide
theorem sd_k61 : sd_kd 61 = 8 := by decide
theorem sd_i61 : 61 ∈ sd_LC := by decide
theorem sd_k62 : sd_kd 62 = 8 := by decide
theorem sd_i62 : 62 ∈ sd_LC := by decide
theorem sd_k63 : sd_kd 63 = 1 := by decide
theorem sd_i63 : 63 ∈ sd_LC := by decide
theorem sd_k64 : sd_kd 64 = 26 := by decide
theorem sd_i64 : 64 ∈ sd_LC := by decide
theorem sd_n64 : sd_ln 64 = 12 := by decide
theorem sd_k65 : sd_kd 65 = 22 := by decide
theorem sd_i65 : 65 ∈ sd_LC := by decide
theorem sd_n65 : sd_ln 65 = 8 := by decide
theorem sd_k66 : sd_kd 66 = 22 := by decide
theorem sd_i66 : 66 ∈ sd_LC := by decide
theorem sd_n66 : sd_ln 66 = 8 := by decide
theorem sd_k67 : sd_kd 67 = 22 := by decide
theorem sd_i67 : 67 ∈ sd_LC := by decide
theorem sd_n67 : sd_ln 67 = 8 := by decide
theorem sd_k68 : sd_kd 68 = 22 := by decide
theorem sd_i68 : 68 ∈ sd_LC := by decide
theorem sd_n68 : sd_ln 68 = 8 := by decide
theorem sd_k69 : sd_kd 69 = 22 := by decide
theorem sd_i69 : 69 ∈ sd_LC := by decide
theorem sd_n69 : sd_ln 69 = 8 := by decide
theorem sd_k70 : sd_kd 70 = 22 := by decide
theorem sd_i70 : 70 ∈ sd_LC := by decide
theorem sd_n70 : sd_ln 70 = 8 := by decide
theorem sd_k71 : sd_kd 71 = 22 := by decide
theorem sd_i71 : 71 ∈ sd_LC := by decide
theorem sd_n71 : sd_ln 71 = 8 := by decide
theorem sd_k72 : sd_kd 72 = 22 := by decide
theorem sd_i72 : 72 ∈ sd_LC := by decide
theorem sd_n72 : sd_ln 72 = 8 := by decide
theorem sd_k73 : sd_kd 73 = 22 := by decide
theorem sd_i73 : 73 ∈ sd_LC := by decide
theorem sd_n73 : sd_ln 73 = 8 := by decide
theorem sd_k74 : sd_kd 74 = 22 := by decide
theorem sd_i74 : 74 ∈ sd_LC := by decide
theorem sd_n74 : sd_ln 74 = 8 := by decide
theorem sd_k75 : sd_kd 75 = 22 := by decide
theorem sd_i75 : 75 ∈ sd_LC := by decide
theorem sd_n75 : sd_ln 75 = 8 := by decide
theorem sd_k76 : sd_kd 76 = 22 := by decide
theorem sd_i76 : 76 ∈ sd_LC := by decide
theorem sd_n76 : sd_ln 76 = 8 := by decide
theorem sd_k77 : sd_kd 77 = 25 := by decide
theorem sd_i77 : 77 ∈ sd_LC := by decide
theorem sd_n77 : sd_ln 77 = 12 := by decide
theorem sd_k78 : sd_kd 78 = 20 := by decide
theorem sd_i78 : 78 ∈ sd_LC := by decide
theorem sd_n78 : sd_ln 78 = 8 := by decide
theorem sd_k79 : sd_kd 79 = 20 := by decide
theorem sd_i79 : 79 ∈ sd_LC := by decide
theorem sd_n79 : sd_ln 79 = 8 := by decide
theorem sd_k80 : sd_kd 80 = 20 := by decide
theorem sd_i80 : 80 ∈ sd_LC := by decide
theorem sd_n80 : sd_ln 80 = 8 := by decide
theorem sd_k81 : sd_kd 81 = 20 := by decide
theorem sd_i81 : 81 ∈ sd_LC := by decide
theorem sd_n81 : sd_ln 81 = 8 := by decide
theorem sd_k82 : sd_kd 82 = 20 := by decide
theorem sd_i82 : 82 ∈ sd_LC := by decide
theorem sd_n82 : sd_ln 82 = 8 := by decide
theorem sd_k83 : sd_kd 83 = 20 := by decide
theorem sd_i83 : 83 ∈ sd_LC := by decide
theorem sd_n83 : sd_ln 83 = 8 := by decide
theorem sd_k84 : sd_kd 84 = 20 := by decide
theorem sd_i84 : 84 ∈ sd_LC := by decide
theorem sd_n84 : sd_ln 84 = 8 := by decide
theorem sd_k85 : sd_kd 85 = 20 := by decide
theorem sd_i85 : 85 ∈ sd_LC := by decide
theorem sd_n85 : sd_ln 85 = 8 := by decide
theorem sd_k86 : sd_kd 86 = 20 := by decide
theorem sd_i86 : 86 ∈ sd_LC := by decide
theorem sd_n86 : sd_ln 86 = 8 := by decide
theorem sd_k87 : sd_kd 87 = 20 := by decide
theorem sd_i87 : 87 ∈ sd_LC := by decide
theorem sd_n87 : sd_ln 87 = 8 := by decide
theorem sd_k88 : sd_kd 88 = 20 := by decide
theorem sd_i88 : 88 ∈ sd_LC := by decide
theorem sd_n88 : sd_ln 88 = 8 := by decide
theorem sd_k89 : sd_kd 89 = 20 := by decide
theorem sd_i89 : 89 ∈ sd_LC := by decide
theorem sd_n89 : sd_ln 89 = 8 := by decide
theorem sd_k90 : sd_kd 90 = 9 := by decide
theorem sd_i90 : 90 ∈ sd_LC := by decide
theorem sd_k91 : sd_kd 91 = 20 := by decide
theorem sd_i91 : 91 ∈ sd_LC := by decide
theorem sd_n91 : sd_ln 91 = 6 := by decide
theorem sd_k92 : sd_kd 92 = 20 := by decide
theorem sd_i92 : 92 ∈ sd_LC := by decide
theorem sd_n92 : sd_ln 92 = 6 := by decide
theorem sd_k93 : sd_kd 93 = 20 := by decide
theorem sd_i93 : 93 ∈ sd_LC := by decide
theorem sd_n93 : sd_ln 93 = 6 := by decide
theorem sd_k94 : sd_kd 94 = 20 := by decide
theorem sd_i94 : 94 ∈ sd_LC := by decide
theorem sd_n94 : sd_ln 94 = 6 := by decide
theorem sd_k95 : sd_kd 95 = 21 := by decide
theorem sd_i95 : 95 ∈ sd_LC := by decide
theorem sd_n95 : sd_ln 95 = 6 := by decide
theorem sd_k96 : sd_kd 96 = 4 := by decide
theorem sd_i96 : 96 ∈ sd_LC := by decide
theorem sd_k97 : sd_kd 97 = 3 := by decide
theorem sd_i97 : 97 ∈ sd_LC := by decide
theorem sd_k98 : sd_kd 98 = 20 := by decide
theorem sd_i98 : 98 ∈ sd_LC := by decide
theorem sd_n98 : sd_ln 98 = 6 := by decide
theorem sd_k100 : sd_kd 100 = 12 := by decide
theorem sd_i100 : 100 ∈ sd_LM := by decide
theorem sd_k101 : sd_kd 101 = 20 := by decide
theorem sd_i101 : 101 ∈ sd_LM := by decide
theorem sd_n101 : sd_ln 101 = 6 := by decide
theorem sd_k102 : sd_kd 102 = 20 := by decide
theorem sd_i102 : 102 ∈ sd_LM := by decide
theorem sd_n102 : sd_ln 102 = 6 := by decide
theorem sd_k103 : sd_kd 103 = 20 := by decide
theorem sd_i103 : 103 ∈ sd_LM := by decide
theorem sd_n103 : sd_ln 103 = 240 := by decide
theorem sd_k104 : sd_kd 104 = 20 := by decide
theorem sd_i104 : 104 ∈ sd_LM := by decide
theorem sd_n104 : sd_ln 104 = 40 := by decide
theorem sd_k105 : sd_kd 105 = 20 := by decide
theorem sd_i105 : 105 ∈ sd_LM := by decide
theorem sd_n105 : sd_ln 105 = 4 := by decide
theorem sd_k106 : sd_kd 106 = 20 := by decide
theorem sd_i106 : 106 ∈ sd_LM := by decide
theorem sd_n106 : sd_ln 106 = 240 := by decide
theorem sd_k107 : sd_kd 107 = 20 := by decide
theorem sd_i107 : 107 ∈ sd_LM := by decide
theorem sd_n107 : sd_ln 107 = 2 := by decide
theorem sd_k108 : sd_kd 108 = 20 := by decide
theorem sd_i108 : 108 ∈ sd_LM := by decide
theorem sd_n108 : sd_ln 108 = 6 := by decide
theorem sd_k109 : sd_kd 109 = 20 := by decide
theorem sd_i109 : 109 ∈ sd_LM := by decide
theorem sd_n109 : sd_ln 109 = 6 := by decide
theorem sd_k110 : sd_kd 110 = 20 := by decide
theorem sd_i110 : 110 ∈ sd_LM := by decide
theorem sd_n110 : sd_ln 110 = 4 := by decide
theorem sd_k111 : sd_kd 111 = 20 := by decide
theorem sd_i111 : 111 ∈ sd_LM := by decide
theorem sd_n111 : sd_ln 111 = 2 := by decide
theorem sd_k112 : sd_kd 112 = 20 := by decide
theorem sd_i112 : 112 ∈ sd_LM := by decide
theorem sd_n112 : sd_ln 112 = 6 := by decide
theorem sd_k113 : sd_kd 113 = 20 := by decide
theorem sd_i113 : 113 ∈ sd_LM := by decide
theorem sd_n113 : sd_ln 113 = 6 := by decide
theorem sd_k114 : sd_kd 114 = 20 := by decide
theorem sd_i114 : 114 ∈ sd_LM := by decide
theorem sd_n114 : sd_ln 114 = 4 := by decide
theorem sd_k115 : sd_kd 115 = 20 := by decide
theorem sd_i115 : 115 ∈ sd_LM := by decide
theorem sd_n115 : sd_ln 115 = 8 := by decide
theorem sd_k116 : sd_kd 116 = 20 := by decide
theorem sd_i116 : 116 ∈ sd_LM := by decide
theorem sd_n116 : sd_ln 116 = 240 := by decide
theorem sd_k117 : sd_kd 117 = 22 := by decide
theorem sd_i117 : 117 ∈ sd_LM := by decide
theorem sd_n117 : sd_ln 117 = 96 := by decide
theorem sd_k118 : sd_kd 118 = 20 := by decide
theorem sd_i118 : 118 ∈ sd_LM := by decide
theorem sd_n118 : sd_ln 118 = 96 := by decide
theorem sd_k119 : sd_kd 119 = 20 := by decide
theorem sd_i119 : 119 ∈ sd_LM := by decide
theorem sd_n119 : sd_ln 119 = 6 := by decide
theorem sd_k120 : sd_kd 120 = 20 := by decide
theorem sd_i120 : 120 ∈ sd_LM := by decide
theorem sd_n120 : sd_ln 120 = 6 := by decide
theorem sd_k121 : sd_kd 121 = 20 := by decide
theorem sd_i121 : 121 ∈ sd_LM := by decide
theorem sd_n121 : sd_ln 121 = 6 := by decide
theorem sd_k122 : sd_kd 122 = 20 := by decide
theorem sd_i122 : 122 ∈ sd_LM := by decide
theorem sd_n122 : sd_ln 122 = 6 := by decide
set_option maxRecDepth 100000 in
theorem sd_in0 : ∀ w ∈ u_ws RX0 TX0 4, w ∈ sd_TW := by decide +kernel
set_option maxRecDepth 100000 in
theorem sd_in1 : ∀ w ∈ u_ws RX1 TX1 2, w ∈ sd_TW := by decide +kernel
set_option maxRecDepth 100000 in
theorem sd_in2 : ∀ w ∈ u_ws RX2 TX2 2, w ∈ sd_TW := by decide +kernel
set_option maxRecDepth 100000 in
theorem sd_in3 : ∀ w ∈ u_ws RX3 TX3 2, w ∈ sd_TW := by decide +kernel
set_option maxRecDepth 100000 in
theorem sd_in4 : ∀ w ∈ u_ws RX4 TX4 3, w ∈ sd_TW := by decide +kernel
set_option maxRecDepth 100000 in
theorem sd_in5 : ∀ w ∈ u_ws RX5 TX5 8, w ∈ sd_TW := by decide +kernel
set_option maxRecDepth 100000 in
theorem sd_in6 : ∀ w ∈ u_ws RX6 TX6 2, w ∈ sd_TW := by decide +kernel
set_option maxRecDepth 100000 in
theorem sd_in7 : ∀ w ∈ u_ws RX7 TX7 2, w ∈ sd_TW := by decide +kernel
set_option maxRecDepth 100000 in
theorem sd_in8 : ∀ w ∈ u_ws RX8 TX8 6, w ∈ sd_TW := by decide +kernel
set_option maxRecDepth 100000 in
theorem sd_in9 : ∀ w ∈ u_ws RX9 TX9 2, w ∈ sd_TW := by decide +kernel
set_option maxRecDepth 100000 in
theorem sd_in10 : ∀ w ∈ u_ws RX10 TX10 14, w ∈ sd_TW := by decide +kernel
set_option maxRecDepth 100000 in
theorem sd_in11 : ∀ w ∈ u_ws RX11 TX11 36, w ∈ sd_TW := by decide +kernel
theorem sd_bit1 {v : Int32} (h : v &&& 1 = v) : v = 0 ∨ v = 1 := by
  rw [← h, show (1 : Int32) = nI (2 ^ 1 - 1) from rfl, pk_and v 1 rfl]
  rcases (show v.toBitVec.toNat % 2 ^ 1 = 0 ∨ v.toBitVec.toNat % 2 ^ 1 = 1 by omega) with e | e <;> rw [e]
  · exact Or.inl rfl
  · exact Or.inr rfl
theorem sd_fitZ {v : Int32} (h : v &&& 1 = v) : fits .boolean (.int v) = true := by
  have h1 : v = 0 ∨ v = 1 := sd_bit1 h
  rcases h1 with rfl | rfl <;> rfl
section SDF
variable {K : sd_K} {R : Room} {E : sd_Env} {L : List Nat} {nL : Nat} {Q : State → Prop} {M : sd_Mem} {pc n' : Nat} {lv lv' : List (Nat × Value)} {st : List Value} {own : String} {cc : ByteArray} {ret : Option FieldType}
theorem sd_g0_0 (C : sd_C K E L own cc nL ret) {id index : Nat} (hid : id ∈ L) (hk : sd_kd id = 1) (hlink : Cond.fieldLink own index (TX0 0).1 (TX0 0).2.1 (TX0 0).2.2.1 ∈ sd_TW) (hd : decode cc pc = .ok (.getfield index, 3)) (hn : pc + 3 = n') (kk : sd_Z K R E L nL Q M n' lv (.ref (E.2.2 40) :: st)) : sd_Z K R E L nL Q M pc lv (.ref (E.2.2 id) :: st) := sd_get C (Cn := RX0) (T := TX0) (N := 4) 0 hid (sd_e1 hk) rfl sd_in0 (by decide) hlink rfl hd hn kk
theorem sd_g0_1 (C : sd_C K E L own cc nL ret) {id index : Nat} (hid : id ∈ L) (hk : sd_kd id = 1) (hlink : Cond.fieldLink own index (TX0 1).1 (TX0 1).2.1 (TX0 1).2.2.1 ∈ sd_TW) (hd : decode cc pc = .ok (.getfield index, 3)) (hn : pc + 3 = n') (kk : sd_Z K R E L nL Q M n' lv (.ref (E.2.2 58) :: st)) : sd_Z K R E L nL Q M pc lv (.ref (E.2.2 id) :: st) := sd_get C (Cn := RX0) (T := TX0) (N := 4) 1 hid (sd_e1 hk) rfl sd_in0 (by decide) hlink rfl hd hn kk
theorem sd_g0_2 (C : sd_C K E L own cc nL ret) {id index : Nat} (hid : id ∈ L) (hk : sd_kd id = 1) (hlink : Cond.fieldLink own index (TX0 2).1 (TX0 2).2.1 (TX0 2).2.2.1 ∈ sd_TW) (hd : decode cc pc = .ok (.getfield index, 3)) (hn : pc + 3 = n') (kk : sd_Z K R E L nL Q M n' lv (.ref (E.2.2 64) :: st)) : sd_Z K R E L nL Q M pc lv (.ref (E.2.2 id) :: st) := sd_get C (Cn := RX0) (T := TX0) (N := 4) 2 hid (sd_e1 hk) rfl sd_in0 (by decide) hlink rfl hd hn kk
theorem sd_g0_3 (C : sd_C K E L own cc nL ret) {id index : Nat} (hid : id ∈ L) (hk : sd_kd id = 1) (hlink : Cond.fieldLink own index (TX0 3).1 (TX0 3).2.1 (TX0 3).2.2.1 ∈ sd_TW) (hd : decode cc pc = .ok (.getfield index, 3)) (hn : pc + 3 = n') (kk : sd_Z K R E L nL Q M n' lv (.ref (E.2.2 77) :: st)) : sd_Z K R E L nL Q M pc lv (.ref (E.2.2 id) :: st) := sd_get C (Cn := RX0) (T := TX0) (N := 4) 3 hid (sd_e1 hk) rfl sd_in0 (by decide) hlink rfl hd hn kk
theorem sd_g1_0 (C : sd_C K E L own cc nL ret) {id index : Nat} (hid : id ∈ L) (hk : sd_kd id = 2) (hlink : Cond.fieldLink own index (TX1 0).1 (TX1 0).2.1 (TX1 0).2.2.1 ∈ sd_TW) (hd : decode cc pc = .ok (.getfield index, 3)) (hn : pc + 3 = n') (kk : sd_Z K R E L nL Q M n' lv (.ref (E.2.2 (id + 1)) :: st)) : sd_Z K R E L nL Q M pc lv (.ref (E.2.2 id) :: st) := sd_get C (Cn := RX1) (T := TX1) (N := 2) 0 hid (sd_e2 hk) rfl sd_in1 (by decide) hlink rfl hd hn kk
theorem sd_g1_1 (C : sd_C K E L own cc nL ret) {id index : Nat} (hid : id ∈ L) (hk : sd_kd id = 2) (hlink : Cond.fieldLink own index (TX1 1).1 (TX1 1).2.1 (TX1 1).2.2.1 ∈ sd_TW) (hd : decode cc pc = .ok (.getfield index, 3)) (hn : pc + 3 = n') (kk : sd_Z K R E L nL Q M n' lv (.int (M.1 id 1) :: st)) : sd_Z K R E L nL Q M pc lv (.ref (E.2.2 id) :: st) := sd_get C (Cn := RX1) (T := TX1) (N := 2) 1 hid (sd_e2 hk) rfl sd_in1 (by decide) hlink rfl hd hn kk
theorem sd_p1_1 (C : sd_C K E L own cc nL ret) {id index : Nat} {v : Int32} (hid : id ∈ L) (hk : sd_kd id = 2) (hlink : Cond.fieldLink own index (TX1 1).1 (TX1 1).2.1 (TX1 1).2.2.1 ∈ sd_TW) (hd : decode cc pc = .ok (.putfield index, 3)) (hn : pc + 3 = n') (kk : sd_Z K R E L nL Q (sd_setI M id 1 v) n' lv st) : sd_Z K R E L nL Q M pc lv (.int v :: .ref (E.2.2 id) :: st) := sd_put C (Cn := RX1) (T := TX1) (N := 2) (ty := .int) 1 (sd_setI M id 1 v) hid (sd_e2 hk) rfl sd_in1 tyX1_ok nmX1 (by decide) hlink rfl (tyX1_ok 1 (by decide)) rfl rfl (Nat.le_of_ble_eq_true rfl) (by rw [sd_setI_at]; exact sd_e2 hk) sd_setI_ne hd hn kk
theorem sd_g2_0 (C : sd_C K E L own cc nL ret) {id index : Nat} (hid : id ∈ L) (hk : sd_kd id = 3) (hlink : Cond.fieldLink own index (TX2 0).1 (TX2 0).2.1 (TX2 0).2.2.1 ∈ sd_TW) (hd : decode cc pc = .ok (.getfield index, 3)) (hn : pc + 3 = n') (kk : sd_Z K R E L nL Q M n' lv (.ref (E.2.2 98) :: st)) : sd_Z K R E L nL Q M pc lv (.ref (E.2.2 id) :: st) := sd_get C (Cn := RX2) (T := TX2) (N := 2) 0 hid (sd_e3 hk) rfl sd_in2 (by decide) hlink rfl hd hn kk
theorem sd_g2_1 (C : sd_C K E L own cc nL ret) {id index : Nat} (hid : id ∈ L) (hk : sd_kd id = 3) (hlink : Cond.fieldLink own index (TX2 1).1 (TX2 1).2.1 (TX2 1).2.2.1 ∈ sd_TW) (hd : decode cc pc = .ok (.getfield index, 3)) (hn : pc + 3 = n') (kk : sd_Z K R E L nL Q M n' lv (.int (M.1 id 1) :: st)) : sd_Z K R E L nL Q M pc lv (.ref (E.2.2 id) :: st) := sd_get C (Cn := RX2) (T := TX2) (N := 2) 1 hid (sd_e3 hk) rfl sd_in2 (by decide) hlink rfl hd hn kk
theorem sd_p2_1 (C : sd_C K E L own cc nL ret) {id index : Nat} {v : Int32} (hid : id ∈ L) (hk : sd_kd id = 3) (hlink : Cond.fieldLink own index (TX2 1).1 (TX2 1).2.1 (TX2 1).2.2.1 ∈ sd_TW) (hd : decode cc pc = .ok (.putfield index, 3)) (hn : pc + 3 = n') (kk : sd_Z K R E L nL Q (sd_setI M id 1 v) n' lv st) : sd_Z K R E L nL Q M pc lv (.int v :: .ref (E.2.2 id) :: st) := sd_put C (Cn := RX2) (T := TX2) (N := 2) (ty := .int) 1 (sd_setI M id 1 v) hid (sd_e3 hk) rfl sd_in2 tyX2_ok nmX2 (by decide) hlink rfl (tyX2_ok 1 (by decide)) rfl rfl (Nat.le_of_ble_eq_true rfl) (by rw [sd_setI_at]; exact sd_e3 hk) sd_setI_ne hd hn kk
theorem sd_p3_0 (C : sd_C K E L own cc nL ret) {id index : Nat} {v : Int64} (hid : id ∈ L) (hk : sd_kd id = 4) (hlink : Cond.fieldLink own index (TX3 0).1 (TX3 0).2.1 (TX3 0).2.2.1 ∈ sd_TW) (hd : decode cc pc = .ok (.putfield index, 3)) (hn : pc + 3 = n') (kk : sd_Z K R E L nL Q (sd_setL M id 0 v) n' lv st) : sd_Z K R E L nL Q M pc lv (.long v :: .ref (E.2.2 id) :: st) := sd_put C (Cn := RX3) (T := TX3) (N := 2) (ty := .long) 0 (sd_setL M id 0 v) hid (sd_e4 hk) rfl sd_in3 tyX3_ok nmX3 (by decide) hlink rfl (tyX3_ok 0 (by decide)) rfl rfl (Nat.le_of_ble_eq_true rfl) (by rw [sd_setL_at]; exact sd_e4 hk) sd_setL_ne hd hn kk
theorem sd_gN3_0 (C : sd_C K E L own cc nL ret) {id index : Nat} (hid : id ∈ L) (hk : sd_kd id = 4) (hlink : Cond.fieldLinkNest own index (TX3 0).1 (TX3 0).2.1 (TX3 0).2.2.1 "StrikeDays" ∈ sd_NW) (hd : decode cc pc = .ok (.getfield index, 3)) (hn : pc + 3 = n') (kk : sd_Z K R E L nL Q M n' lv (.long (M.2 id 0) :: st)) : sd_Z K R E L nL Q M pc lv (.ref (E.2.2 id) :: st) := sd_getN C (Cn := RX3) (T := TX3) (N := 2) 0 hid (sd_e4 hk) rfl sd_in3 (by decide) hlink rfl hd hn kk
theorem sd_p3_1 (C : sd_C K E L own cc nL ret) {id index : Nat} {v : Int64} (hid : id ∈ L) (hk : sd_kd id = 4) (hlink : Cond.fieldLink own index (TX3 1).1 (TX3 1).2.1 (TX3 1).2.2.1 ∈ sd_TW) (hd : decode cc pc = .ok (.putfield index, 3)) (hn : pc + 3 = n') (kk : sd_Z K R E L nL Q (sd_setL M id 1 v) n' lv st) : sd_Z K R E L nL Q M pc lv (.long v :: .ref (E.2.2 id) :: st) := sd_put C (Cn := RX3) (T := TX3) (N := 2) (ty := .long) 1 (sd_setL M id 1 v) hid (sd_e4 hk) rfl sd_in3 tyX3_ok nmX3 (by decide) hlink rfl (tyX3_ok 1 (by decide)) rfl rfl (Nat.le_of_ble_eq_true rfl) (by rw [sd_setL_at]; exact sd_e4 hk) sd_setL_ne hd hn kk
theorem sd_gN3_1 (C : sd_C K E L own cc nL ret) {id index : Nat} (hid : id ∈ L) (hk : sd_kd id = 4) (hlink : Cond.fieldLinkNest own index (TX3 1).1 (TX3 1).2.1 (TX3 1).2.2.1 "StrikeDays" ∈ sd_NW) (hd : decode cc pc = .ok (.getfield index, 3)) (hn : pc + 3 = n') (kk : sd_Z K R E L nL Q M n' lv (.long (M.2 id 1) :: st)) : sd_Z K R E L nL Q M pc lv (.ref (E.2.2 id) :: st) := sd_getN C (Cn := RX3) (T := TX3) (N := 2) 1 hid (sd_e4 hk) rfl sd_in3 (by decide) hlink rfl hd hn kk
theorem sd_gN4_0 (C : sd_C K E L own cc nL ret) {id index : Nat} (hid : id ∈ L) (hk : sd_kd id = 5) (hlink : Cond.fieldLinkNest own index (TX4 0).1 (TX4 0).2.1 (TX4 0).2.2.1 "StrikeDays" ∈ sd_NW) (hd : decode cc pc = .ok (.getfield index, 3)) (hn : pc + 3 = n') (kk : sd_Z K R E L nL Q M n' lv (.int (M.1 id 0) :: st)) : sd_Z K R E L nL Q M pc lv (.ref (E.2.2 id) :: st) := sd_getN C (Cn := RX4) (T := TX4) (N := 3) 0 hid (sd_e5 hk) rfl sd_in4 (by decide) hlink rfl hd hn kk
theorem sd_pN4_0 (C : sd_C K E L own cc nL ret) {id index : Nat} {v : Int32} (hid : id ∈ L) (hk : sd_kd id = 5) (hlink : Cond.fieldLinkNest own index (TX4 0).1 (TX4 0).2.1 (TX4 0).2.2.1 "StrikeDays" ∈ sd_NW) (hd : decode cc pc = .ok (.putfield index, 3)) (hn : pc + 3 = n') (kk : sd_Z K R E L nL Q (sd_setI M id 0 v) n' lv st) : sd_Z K R E L nL Q M pc lv (.int v :: .ref (E.2.2 id) :: st) := sd_putN C (Cn := RX4) (T := TX4) (N := 3) (ty := .int) 0 (sd_setI M id 0 v) hid (sd_e5 hk) rfl sd_in4 tyX4_ok nmX4 (by decide) hlink rfl (tyX4_ok 0 (by decide)) rfl rfl (Nat.le_of_ble_eq_true rfl) (by rw [sd_setI_at]; exact sd_e5 hk) sd_setI_ne hd hn kk
theorem sd_gN4_1 (C : sd_C K E L own cc nL ret) {id index : Nat} (hid : id ∈ L) (hk : sd_kd id = 5) (hlink : Cond.fieldLinkNest own index (TX4 1).1 (TX4 1).2.1 (TX4 1).2.2.1 "StrikeDays" ∈ sd_NW) (hd : decode cc pc = .ok (.getfield index, 3)) (hn : pc + 3 = n') (kk : sd_Z K R E L nL Q M n' lv (.int (M.1 id 1) :: st)) : sd_Z K R E L nL Q M pc lv (.ref (E.2.2 id) :: st) := sd_getN C (Cn := RX4) (T := TX4) (N := 3) 1 hid (sd_e5 hk) rfl sd_in4 (by decide) hlink rfl hd hn kk
theorem sd_pN4_1 (C : sd_C K E L own cc nL ret) {id index : Nat} {v : Int32} (hid : id ∈ L) (hk : sd_kd id = 5) (hlink : Cond.fieldLinkNest own index (TX4 1).1 (TX4 1).2.1 (TX4 1).2.2.1 "StrikeDays" ∈ sd_NW) (hd : decode cc pc = .ok (.putfield index, 3)) (hn : pc + 3 = n') (kk : sd_Z K R E L nL Q (sd_setI M id 1 v) n' lv st) : sd_Z K R E L nL Q M pc lv (.int v :: .ref (E.2.2 id) :: st) := sd_putN C (Cn := RX4) (T := TX4) (N := 3) (ty := .int) 1 (sd_setI M id 1 v) hid (sd_e5 hk) rfl sd_in4 tyX4_ok nmX4 (by decide) hlink rfl (tyX4_ok 1 (by decide)) rfl rfl (Nat.le_of_ble_eq_true rfl) (by rw [sd_setI_at]; exact sd_e5 hk) sd_setI_ne hd hn kk
theorem sd_gN4_2 (C : sd_C K E L own cc nL ret) {id index : Nat} (hid : id ∈ L) (hk : sd_kd id = 5) (hlink : Cond.fieldLinkNest own index (TX4 2).1 (TX4 2).2.1 (TX4 2).2.2.1 "StrikeDays" ∈ sd_NW) (hd : decode cc pc = .ok (.getfield index, 3)) (hn : pc + 3 = n') (kk : sd_Z K R E L nL Q M n' lv (.int (M.1 id 2) :: st)) : sd_Z K R E L nL Q M pc lv (.ref (E.2.2 id) :: st) := sd_getN C (Cn := RX4) (T := TX4) (N := 3) 2 hid (sd_e5 hk) rfl sd_in4 (by decide) hlink rfl hd hn kk
theorem sd_pN4_2 (C : sd_C K E L own cc nL ret) {id index : Nat} {v : Int32} (hid : id ∈ L) (hk : sd_kd id = 5) (hlink : Cond.fieldLinkNest own index (TX4 2).1 (TX4 2).2.1 (TX4 2).2.2.1 "StrikeDays" ∈ sd_NW) (hd : decode cc pc = .ok (.putfield index, 3)) (hn : pc + 3 = n') (kk : sd_Z K R E L nL Q (sd_setI M id 2 v) n' lv st) : sd_Z K R E L nL Q M pc lv (.int v :: .ref (E.2.2 id) :: st) := sd_putN C (Cn := RX4) (T := TX4) (N := 3) (ty := .int) 2 (sd_setI M id 2 v) hid (sd_e5 hk) rfl sd_in4 tyX4_ok nmX4 (by decide) hlink rfl (tyX4_ok 2 (by decide)) rfl rfl (Nat.le_of_ble_eq_true rfl) (by rw [sd_setI_at]; exact sd_e5 hk) sd_setI_ne hd hn kk
theorem sd_g5_0 (C : sd_C K E L own cc nL ret) {id index : Nat} (hid : id ∈ L) (hk : sd_kd id = 6) (hlink : Cond.fieldLink own index (TX5 0).1 (TX5 0).2.1 (TX5 0).2.2.1 ∈ sd_TW) (hd : decode cc pc = .ok (.getfield index, 3)) (hn : pc + 3 = n') (kk : sd_Z K R E L nL Q M n' lv (.ref (E.2.2 (id + 1)) :: st)) : sd_Z K R E L nL Q M pc lv (.ref (E.2.2 id) :: st) := sd_get C (Cn := RX5) (T := TX5) (N := 8) 0 hid (sd_e6 hk) rfl sd_in5 (by decide) hlink rfl hd hn kk
theorem sd_g5_1 (C : sd_C K E L own cc nL ret) {id index : Nat} (hid : id ∈ L) (hk : sd_kd id = 6) (hlink : Cond.fieldLink own index (TX5 1).1 (TX5 1).2.1 (TX5 1).2.2.1 ∈ sd_TW) (hd : decode cc pc = .ok (.getfield index, 3)) (hn : pc + 3 = n') (kk : sd_Z K R E L nL Q M n' lv (.ref (E.2.2 (id + 2)) :: st)) : sd_Z K R E L nL Q M pc lv (.ref (E.2.2 id) :: st) := sd_get C (Cn := RX5) (T := TX5) (N := 8) 1 hid (sd_e6 hk) rfl sd_in5 (by decide) hlink rfl hd hn kk
theorem sd_g5_2 (C : sd_C K E L own cc nL ret) {id index : Nat} (hid : id ∈ L) (hk : sd_kd id = 6) (hlink : Cond.fieldLink own index (TX5 2).1 (TX5 2).2.1 (TX5 2).2.2.1 ∈ sd_TW) (hd : decode cc pc = .ok (.getfield index, 3)) (hn : pc + 3 = n') (kk : sd_Z K R E L nL Q M n' lv (.ref (E.2.2 (id + 3)) :: st)) : sd_Z K R E L nL Q M pc lv (.ref (E.2.2 id) :: st) := sd_get C (Cn := RX5) (T := TX5) (N := 8) 2 hid (sd_e6 hk) rfl sd_in5 (by decide) hlink rfl hd hn kk
theorem sd_g5_3 (C : sd_C K E L own cc nL ret) {id index : Nat} (hid : id ∈ L) (hk : sd_kd id = 6) (hlink : Cond.fieldLink own index (TX5 3).1 (TX5 3).2.1 (TX5 3).2.2.1 ∈ sd_TW) (hd : decode cc pc = .ok (.getfield index, 3)) (hn : pc + 3 = n') (kk : sd_Z K R E L nL Q M n' lv (.ref (E.2.2 (id + 6)) :: st)) : sd_Z K R E L nL Q M pc lv (.ref (E.2.2 id) :: st) := sd_get C (Cn := RX5) (T := TX5) (N := 8) 3 hid (sd_e6 hk) rfl sd_in5 (by decide) hlink rfl hd hn kk
theorem sd_g5_4 (C : sd_C K E L own cc nL ret) {id index : Nat} (hid : id ∈ L) (hk : sd_kd id = 6) (hlink : Cond.fieldLink own index (TX5 4).1 (TX5 4).2.1 (TX5 4).2.2.1 ∈ sd_TW) (hd : decode cc pc = .ok (.getfield index, 3)) (hn : pc + 3 = n') (kk : sd_Z K R E L nL Q M n' lv (.int (M.1 id 4) :: st)) : sd_Z K R E L nL Q M pc lv (.ref (E.2.2 id) :: st) := sd_get C (Cn := RX5) (T := TX5) (N := 8) 4 hid (sd_e6 hk) rfl sd_in5 (by decide) hlink rfl hd hn kk
theorem sd_p5_4 (C : sd_C K E L own cc nL ret) {id index : Nat} {v : Int32} (hid : id ∈ L) (hk : sd_kd id = 6) (hlink : Cond.fieldLink own index (TX5 4).1 (TX5 4).2.1 (TX5 4).2.2.1 ∈ sd_TW) (hd : decode cc pc = .ok (.putfield index, 3)) (hn : pc + 3 = n') (kk : sd_Z K R E L nL Q (sd_setI M id 4 v) n' lv st) : sd_Z K R E L nL Q M pc lv (.int v :: .ref (E.2.2 id) :: st) := sd_put C (Cn := RX5) (T := TX5) (N := 8) (ty := .int) 4 (sd_setI M id 4 v) hid (sd_e6 hk) rfl sd_in5 tyX5_ok nmX5 (by decide) hlink rfl (tyX5_ok 4 (by decide)) rfl rfl (Nat.le_of_ble_eq_true rfl) (by rw [sd_setI_at]; exact sd_e6 hk) sd_setI_ne hd hn kk
theorem sd_gN5_4 (C : sd_C K E L own cc nL ret) {id index : Nat} (hid : id ∈ L) (hk : sd_kd id = 6) (hlink : Cond.fieldLinkNest own index (TX5 4).1 (TX5 4).2.1 (TX5 4).2.2.1 "StrikeDays" ∈ sd_NW) (hd : decode cc pc = .ok (.getfield index, 3)) (hn : pc + 3 = n') (kk : sd_Z K R E L nL Q M n' lv (.int (M.1 id 4) :: st)) : sd_Z K R E L nL Q M pc lv (.ref (E.2.2 id) :: st) := sd_getN C (Cn := RX5) (T := TX5) (N := 8) 4 hid (sd_e6 hk) rfl sd_in5 (by decide) hlink rfl hd hn kk
theorem sd_pN5_4 (C : sd_C K E L own cc nL ret) {id index : Nat} {v : Int32} (hid : id ∈ L) (hk : sd_kd id = 6) (hlink : Cond.fieldLinkNest own index (TX5 4).1 (TX5 4).2.1 (TX5 4).2.2.1 "StrikeDays" ∈ sd_NW) (hd : decode cc pc = .ok (.putfield index, 3)) (hn : pc + 3 = n') (kk : sd_Z K R E L nL Q (sd_setI M id 4 v) n' lv st) : sd_Z K R E L nL Q M pc lv (.int v :: .ref (E.2.2 id) :: st) := sd_putN C (Cn := RX5) (T := TX5) (N := 8) (ty := .int) 4 (sd_setI M id 4 v) hid (sd_e6 hk) rfl sd_in5 tyX5_ok nmX5 (by decide) hlink rfl (tyX5_ok 4 (by decide)) rfl rfl (Nat.le_of_ble_eq_true rfl) (by rw [sd_setI_at]; exact sd_e6 hk) sd_setI_ne hd hn kk
theorem sd_g5_5 (C : sd_C K E L own cc nL ret) {id index : Nat} (hid : id ∈ L) (hk : sd_kd id = 6) (hlink : Cond.fieldLink own index (TX5 5).1 (TX5 5).2.1 (TX5 5).2.2.1 ∈ sd_TW) (hd : decode cc pc = .ok (.getfield index, 3)) (hn : pc + 3 = n') (kk : sd_Z K R E L nL Q M n' lv (.int (M.1 id 5) :: st)) : sd_Z K R E L nL Q M pc lv (.ref (E.2.2 id) :: st) := sd_get C (Cn := RX5) (T := TX5) (N := 8) 5 hid (sd_e6 hk) rfl sd_in5 (by decide) hlink rfl hd hn kk
theorem sd_p5_5 (C : sd_C K E L own cc nL ret) {id index : Nat} {v : Int32} (hid : id ∈ L) (hk : sd_kd id = 6) (hlink : Cond.fieldLink own index (TX5 5).1 (TX5 5).2.1 (TX5 5).2.2.1 ∈ sd_TW) (hd : decode cc pc = .ok (.putfield index, 3)) (hn : pc + 3 = n') (kk : sd_Z K R E L nL Q (sd_setI M id 5 v) n' lv st) : sd_Z K R E L nL Q M pc lv (.int v :: .ref (E.2.2 id) :: st) := sd_put C (Cn := RX5) (T := TX5) (N := 8) (ty := .int) 5 (sd_setI M id 5 v) hid (sd_e6 hk) rfl sd_in5 tyX5_ok nmX5 (by decide) hlink rfl (tyX5_ok 5 (by decide)) rfl rfl (Nat.le_of_ble_eq_true rfl) (by rw [sd_setI_at]; exact sd_e6 hk) sd_setI_ne hd hn kk
theorem sd_gN5_5 (C : sd_C K E L own cc nL ret) {id index : Nat} (hid : id ∈ L) (hk : sd_kd id = 6) (hlink : Cond.fieldLinkNest own index (TX5 5).1 (TX5 5).2.1 (TX5 5).2.2.1 "StrikeDays" ∈ sd_NW) (hd : decode cc pc = .ok (.getfield index, 3)) (hn : pc + 3 = n') (kk : sd_Z K R E L nL Q M n' lv (.int (M.1 id 5) :: st)) : sd_Z K R E L nL Q M pc lv (.ref (E.2.2 id) :: st) := sd_getN C (Cn := RX5) (T := TX5) (N := 8) 5 hid (sd_e6 hk) rfl sd_in5 (by decide) hlink rfl hd hn kk
theorem sd_pN5_5 (C : sd_C K E L own cc nL ret) {id index : Nat} {v : Int32} (hid : id ∈ L) (hk : sd_kd id = 6) (hlink : Cond.fieldLinkNest own index (TX5 5).1 (TX5 5).2.1 (TX5 5).2.2.1 "StrikeDays" ∈ sd_NW) (hd : decode cc pc = .ok (.putfield index, 3)) (hn : pc + 3 = n') (kk : sd_Z K R E L nL Q (sd_setI M id 5 v) n' lv st) : sd_Z K R E L nL Q M pc lv (.int v :: .ref (E.2.2 id) :: st) := sd_putN C (Cn := RX5) (T := TX5) (N := 8) (ty := .int) 5 (sd_setI M id 5 v) hid (sd_e6 hk) rfl sd_in5 tyX5_ok nmX5 (by decide) hlink rfl (tyX5_ok 5 (by decide)) rfl rfl (Nat.le_of_ble_eq_true rfl) (by rw [sd_setI_at]; exact sd_e6 hk) sd_setI_ne hd hn kk
theorem sd_g5_6 (C : sd_C K E L own cc nL ret) {id index : Nat} (hid : id ∈ L) (hk : sd_kd id = 6) (hlink : Cond.fieldLink own index (TX5 6).1 (TX5 6).2.1 (TX5 6).2.2.1 ∈ sd_TW) (hd : decode cc pc = .ok (.getfield index, 3)) (hn : pc + 3 = n') (kk : sd_Z K R E L nL Q M n' lv (.int (M.1 id 6) :: st)) : sd_Z K R E L nL Q M pc lv (.ref (E.2.2 id) :: st) := sd_get C (Cn := RX5) (T := TX5) (N := 8) 6 hid (sd_e6 hk) rfl sd_in5 (by decide) hlink rfl hd hn kk
theorem sd_p5_6 (C : sd_C K E L own cc nL ret) {id index : Nat} {v : Int32} (hid : id ∈ L) (hk : sd_kd id = 6) (hlink : Cond.fieldLink own index (TX5 6).1 (TX5 6).2.1 (TX5 6).2.2.1 ∈ sd_TW) (hd : decode cc pc = .ok (.putfield index, 3)) (hn : pc + 3 = n') (kk : sd_Z K R E L nL Q (sd_setI M id 6 v) n' lv st) : sd_Z K R E L nL Q M pc lv (.int v :: .ref (E.2.2 id) :: st) := sd_put C (Cn := RX5) (T := TX5) (N := 8) (ty := .int) 6 (sd_setI M id 6 v) hid (sd_e6 hk) rfl sd_in5 tyX5_ok nmX5 (by decide) hlink rfl (tyX5_ok 6 (by decide)) rfl rfl (Nat.le_of_ble_eq_true rfl) (by rw [sd_setI_at]; exact sd_e6 hk) sd_setI_ne hd hn kk
theorem sd_gN5_6 (C : sd_C K E L own cc nL ret) {id index : Nat} (hid : id ∈ L) (hk : sd_kd id = 6) (hlink : Cond.fieldLinkNest own index (TX5 6).1 (TX5 6).2.1 (TX5 6).2.2.1 "StrikeDays" ∈ sd_NW) (hd : decode cc pc = .ok (.getfield index, 3)) (hn : pc + 3 = n') (kk : sd_Z K R E L nL Q M n' lv (.int (M.1 id 6) :: st)) : sd_Z K R E L nL Q M pc lv (.ref (E.2.2 id) :: st) := sd_getN C (Cn := RX5) (T := TX5) (N := 8) 6 hid (sd_e6 hk) rfl sd_in5 (by decide) hlink rfl hd hn kk
theorem sd_pN5_6 (C : sd_C K E L own cc nL ret) {id index : Nat} {v : Int32} (hid : id ∈ L) (hk : sd_kd id = 6) (hlink : Cond.fieldLinkNest own index (TX5 6).1 (TX5 6).2.1 (TX5 6).2.2.1 "StrikeDays" ∈ sd_NW) (hd : decode cc pc = .ok (.putfield index, 3)) (hn : pc + 3 = n') (kk : sd_Z K R E L nL Q (sd_setI M id 6 v) n' lv st) : sd_Z K R E L nL Q M pc lv (.int v :: .ref (E.2.2 id) :: st) := sd_putN C (Cn := RX5) (T := TX5) (N := 8) (ty := .int) 6 (sd_setI M id 6 v) hid (sd_e6 hk) rfl sd_in5 tyX5_ok nmX5 (by decide) hlink rfl (tyX5_ok 6 (by decide)) rfl rfl (Nat.le_of_ble_eq_true rfl) (by rw [sd_setI_at]; exact sd_e6 hk) sd_setI_ne hd hn kk
theorem sd_g5_7 (C : sd_C K E L own cc nL ret) {id index : Nat} (hid : id ∈ L) (hk : sd_kd id = 6) (hlink : Cond.fieldLink own index (TX5 7).1 (TX5 7).2.1 (TX5 7).2.2.1 ∈ sd_TW) (hd : decode cc pc = .ok (.getfield index, 3)) (hn : pc + 3 = n') (kk : sd_Z K R E L nL Q M n' lv (.int (M.1 id 7) :: st)) : sd_Z K R E L nL Q M pc lv (.ref (E.2.2 id) :: st) := sd_get C (Cn := RX5) (T := TX5) (N := 8) 7 hid (sd_e6 hk) rfl sd_in5 (by decide) hlink rfl hd hn kk
theorem sd_p5_7 (C : sd_C K E L own cc nL ret) {id index : Nat} {v : Int32} (hid : id ∈ L) (hk : sd_kd id = 6) (hlink : Cond.fieldLink own index (TX5 7).1 (TX5 7).2.1 (TX5 7).2.2.1 ∈ sd_TW) (hd : decode cc pc = .ok (.putfield index, 3)) (hn : pc + 3 = n') (kk : sd_Z K R E L nL Q (sd_setI M id 7 v) n' lv st) : sd_Z K R E L nL Q M pc lv (.int v :: .ref (E.2.2 id) :: st) := sd_put C (Cn := RX5) (T := TX5) (N := 8) (ty := .int) 7 (sd_setI M id 7 v) hid (sd_e6 hk) rfl sd_in5 tyX5_ok nmX5 (by decide) hlink rfl (tyX5_ok 7 (by decide)) rfl rfl (Nat.le_of_ble_eq_true rfl) (by rw [sd_setI_at]; exact sd_e6 hk) sd_setI_ne hd hn kk
theorem sd_gN5_7 (C : sd_C K E L own cc nL ret) {id index : Nat} (hid : id ∈ L) (hk : sd_kd id = 6) (hlink : Cond.fieldLinkNest own index (TX5 7).1 (TX5 7).2.1 (TX5 7).2.2.1 "StrikeDays" ∈ sd_NW) (hd : decode cc pc = .ok (.getfield index, 3)) (hn : pc + 3 = n') (kk : sd_Z K R E L nL Q M n' lv (.int (M.1 id 7) :: st)) : sd_Z K R E L nL Q M pc lv (.ref (E.2.2 id) :: st) := sd_getN C (Cn := RX5) (T := TX5) (N := 8) 7 hid (sd_e6 hk) rfl sd_in5 (by decide) hlink rfl hd hn kk
theorem sd_pN5_7 (C : sd_C K E L own cc nL ret) {id index : Nat} {v : Int32} (hid : id ∈ L) (hk : sd_kd id = 6) (hlink : Cond.fieldLinkNest own index (TX5 7).1 (TX5 7).2.1 (TX5 7).2.2.1 "StrikeDays" ∈ sd_NW) (hd : decode cc pc = .ok (.putfield index, 3)) (hn : pc + 3 = n') (kk : sd_Z K R E L nL Q (sd_setI M id 7 v) n' lv st) : sd_Z K R E L nL Q M pc lv (.int v :: .ref (E.2.2 id) :: st) := sd_putN C (Cn := RX5) (T := TX5) (N := 8) (ty := .int) 7 (sd_setI M id 7 v) hid (sd_e6 hk) rfl sd_in5 tyX5_ok nmX5 (by decide) hlink rfl (tyX5_ok 7 (by decide)) rfl rfl (Nat.le_of_ble_eq_true rfl) (by rw [sd_setI_at]; exact sd_e6 hk) sd_setI_ne hd hn kk
theorem sd_g6_0 (C : sd_C K E L own cc nL ret) {id index : Nat} (hid : id ∈ L) (hk : sd_kd id = 7) (hlink : Cond.fieldLink own index (TX6 0).1 (TX6 0).2.1 (TX6 0).2.2.1 ∈ sd_TW) (hd : decode cc pc = .ok (.getfield index, 3)) (hn : pc + 3 = n') (kk : sd_Z K R E L nL Q M n' lv (.ref (E.2.2 49) :: st)) : sd_Z K R E L nL Q M pc lv (.ref (E.2.2 id) :: st) := sd_get C (Cn := RX6) (T := TX6) (N := 2) 0 hid (sd_e7 hk) rfl sd_in6 (by decide) hlink rfl hd hn kk
theorem sd_g6_1 (C : sd_C K E L own cc nL ret) {id index : Nat} (hid : id ∈ L) (hk : sd_kd id = 7) (hlink : Cond.fieldLink own index (TX6 1).1 (TX6 1).2.1 (TX6 1).2.2.1 ∈ sd_TW) (hd : decode cc pc = .ok (.getfield index, 3)) (hn : pc + 3 = n') (kk : sd_Z K R E L nL Q M n' lv (.int (M.1 id 1) :: st)) : sd_Z K R E L nL Q M pc lv (.ref (E.2.2 id) :: st) := sd_get C (Cn := RX6) (T := TX6) (N := 2) 1 hid (sd_e7 hk) rfl sd_in6 (by decide) hlink rfl hd hn kk
theorem sd_p6_1 (C : sd_C K E L own cc nL ret) {id index : Nat} {v : Int32} (hid : id ∈ L) (hk : sd_kd id = 7) (hlink : Cond.fieldLink own index (TX6 1).1 (TX6 1).2.1 (TX6 1).2.2.1 ∈ sd_TW) (hd : decode cc pc = .ok (.putfield index, 3)) (hn : pc + 3 = n') (kk : sd_Z K R E L nL Q (sd_setI M id 1 v) n' lv st) : sd_Z K R E L nL Q M pc lv (.int v :: .ref (E.2.2 id) :: st) := sd_put C (Cn := RX6) (T := TX6) (N := 2) (ty := .int) 1 (sd_setI M id 1 v) hid (sd_e7 hk) rfl sd_in6 tyX6_ok nmX6 (by decide) hlink rfl (tyX6_ok 1 (by decide)) rfl rfl (Nat.le_of_ble_eq_true rfl) (by rw [sd_setI_at]; exact sd_e7 hk) sd_setI_ne hd hn kk
theorem sd_g7_0 (C : sd_C K E L own cc nL ret) {id index : Nat} (hid : id ∈ L) (hk : sd_kd id = 8) (hlink : Cond.fieldLink own index (TX7 0).1 (TX7 0).2.1 (TX7 0).2.2.1 ∈ sd_TW) (hd : decode cc pc = .ok (.getfield index, 3)) (hn : pc + 3 = n') (kk : sd_Z K R E L nL Q M n' lv (.ref (E.2.2 40) :: st)) : sd_Z K R E L nL Q M pc lv (.ref (E.2.2 id) :: st) := sd_get C (Cn := RX7) (T := TX7) (N := 2) 0 hid (sd_e8 hk) rfl sd_in7 (by decide) hlink rfl hd hn kk
theorem sd_g7_1 (C : sd_C K E L own cc nL ret) {id index : Nat} (hid : id ∈ L) (hk : sd_kd id = 8) (hlink : Cond.fieldLink own index (TX7 1).1 (TX7 1).2.1 (TX7 1).2.2.1 ∈ sd_TW) (hd : decode cc pc = .ok (.getfield index, 3)) (hn : pc + 3 = n') (kk : sd_Z K R E L nL Q M n' lv (.ref (E.2.2 (id - 3)) :: st)) : sd_Z K R E L nL Q M pc lv (.ref (E.2.2 id) :: st) := sd_get C (Cn := RX7) (T := TX7) (N := 2) 1 hid (sd_e8 hk) rfl sd_in7 (by decide) hlink rfl hd hn kk
theorem sd_g8_0 (C : sd_C K E L own cc nL ret) {id index : Nat} (hid : id ∈ L) (hk : sd_kd id = 9) (hlink : Cond.fieldLink own index (TX8 0).1 (TX8 0).2.1 (TX8 0).2.2.1 ∈ sd_TW) (hd : decode cc pc = .ok (.getfield index, 3)) (hn : pc + 3 = n') (kk : sd_Z K R E L nL Q M n' lv (.ref (E.2.2 91) :: st)) : sd_Z K R E L nL Q M pc lv (.ref (E.2.2 id) :: st) := sd_get C (Cn := RX8) (T := TX8) (N := 6) 0 hid (sd_e9 hk) rfl sd_in8 (by decide) hlink rfl hd hn kk
theorem sd_gN8_0 (C : sd_C K E L own cc nL ret) {id index : Nat} (hid : id ∈ L) (hk : sd_kd id = 9) (hlink : Cond.fieldLinkNest own index (TX8 0).1 (TX8 0).2.1 (TX8 0).2.2.1 "StrikeDays" ∈ sd_NW) (hd : decode cc pc = .ok (.getfield index, 3)) (hn : pc + 3 = n') (kk : sd_Z K R E L nL Q M n' lv (.ref (E.2.2 91) :: st)) : sd_Z K R E L nL Q M pc lv (.ref (E.2.2 id) :: st) := sd_getN C (Cn := RX8) (T := TX8) (N := 6) 0 hid (sd_e9 hk) rfl sd_in8 (by decide) hlink rfl hd hn kk
theorem sd_g8_1 (C : sd_C K E L own cc nL ret) {id index : Nat} (hid : id ∈ L) (hk : sd_kd id = 9) (hlink : Cond.fieldLink own index (TX8 1).1 (TX8 1).2.1 (TX8 1).2.2.1 ∈ sd_TW) (hd : decode cc pc = .ok (.getfield index, 3)) (hn : pc + 3 = n') (kk : sd_Z K R E L nL Q M n' lv (.ref (E.2.2 92) :: st)) : sd_Z K R E L nL Q M pc lv (.ref (E.2.2 id) :: st) := sd_get C (Cn := RX8) (T := TX8) (N := 6) 1 hid (sd_e9 hk) rfl sd_in8 (by decide) hlink rfl hd hn kk
theorem sd_gN8_1 (C : sd_C K E L own cc nL ret) {id index : Nat} (hid : id ∈ L) (hk : sd_kd id = 9) (hlink : Cond.fieldLinkNest own index (TX8 1).1 (TX8 1).2.1 (TX8 1).2.2.1 "StrikeDays" ∈ sd_NW) (hd : decode cc pc = .ok (.getfield index, 3)) (hn : pc + 3 = n') (kk : sd_Z K R E L nL Q M n' lv (.ref (E.2.2 92) :: st)) : sd_Z K R E L nL Q M pc lv (.ref (E.2.2 id) :: st) := sd_getN C (Cn := RX8) (T := TX8) (N := 6) 1 hid (sd_e9 hk) rfl sd_in8 (by decide) hlink rfl hd hn kk
theorem sd_g8_2 (C : sd_C K E L own cc nL ret) {id index : Nat} (hid : id ∈ L) (hk : sd_kd id = 9) (hlink : Cond.fieldLink own index (TX8 2).1 (TX8 2).2.1 (TX8 2).2.2.1 ∈ sd_TW) (hd : decode cc pc = .ok (.getfield index, 3)) (hn : pc + 3 = n') (kk : sd_Z K R E L nL Q M n' lv (.ref (E.2.2 93) :: st)) : sd_Z K R E L nL Q M pc lv (.ref (E.2.2 id) :: st) := sd_get C (Cn := RX8) (T := TX8) (N := 6) 2 hid (sd_e9 hk) rfl sd_in8 (by decide) hlink rfl hd hn kk
theorem sd_gN8_2 (C : sd_C K E L own cc nL ret) {id index : Nat} (hid : id ∈ L) (hk : sd_kd id = 9) (hlink : Cond.fieldLinkNest own index (TX8 2).1 (TX8 2).2.1 (TX8 2).2.2.1 "StrikeDays" ∈ sd_NW) (hd : decode cc pc = .ok (.getfield index, 3)) (hn : pc + 3 = n') (kk : sd_Z K R E L nL Q M n' lv (.ref (E.2.2 93) :: st)) : sd_Z K R E L nL Q M pc lv (.ref (E.2.2 id) :: st) := sd_getN C (Cn := RX8) (T := TX8) (N := 6) 2 hid (sd_e9 hk) rfl sd_in8 (by decide) hlink rfl hd hn kk
theorem sd_g8_3 (C : sd_C K E L own cc nL ret) {id index : Nat} (hid : id ∈ L) (hk : sd_kd id = 9) (hlink : Cond.fieldLink own index (TX8 3).1 (TX8 3).2.1 (TX8 3).2.2.1 ∈ sd_TW) (hd : decode cc pc = .ok (.getfield index, 3)) (hn : pc + 3 = n') (kk : sd_Z K R E L nL Q M n' lv (.ref (E.2.2 94) :: st)) : sd_Z K R E L nL Q M pc lv (.ref (E.2.2 id) :: st) := sd_get C (Cn := RX8) (T := TX8) (N := 6) 3 hid (sd_e9 hk) rfl sd_in8 (by decide) hlink rfl hd hn kk
theorem sd_g8_4 (C : sd_C K E L own cc nL ret) {id index : Nat} (hid : id ∈ L) (hk : sd_kd id = 9) (hlink : Cond.fieldLink own index (TX8 4).1 (TX8 4).2.1 (TX8 4).2.2.1 ∈ sd_TW) (hd : decode cc pc = .ok (.getfield index, 3)) (hn : pc + 3 = n') (kk : sd_Z K R E L nL Q M n' lv (.ref (E.2.2 95) :: st)) : sd_Z K R E L nL Q M pc lv (.ref (E.2.2 id) :: st) := sd_get C (Cn := RX8) (T := TX8) (N := 6) 4 hid (sd_e9 hk) rfl sd_in8 (by decide) hlink rfl hd hn kk
theorem sd_g8_5 (C : sd_C K E L own cc nL ret) {id index : Nat} (hid : id ∈ L) (hk : sd_kd id = 9) (hlink : Cond.fieldLink own index (TX8 5).1 (TX8 5).2.1 (TX8 5).2.2.1 ∈ sd_TW) (hd : decode cc pc = .ok (.getfield index, 3)) (hn : pc + 3 = n') (kk : sd_Z K R E L nL Q M n' lv (.int (M.1 id 5) :: st)) : sd_Z K R E L nL Q M pc lv (.ref (E.2.2 id) :: st) := sd_get C (Cn := RX8) (T := TX8) (N := 6) 5 hid (sd_e9 hk) rfl sd_in8 (by decide) hlink rfl hd hn kk
theorem sd_p8_5 (C : sd_C K E L own cc nL ret) {id index : Nat} {v : Int32} (hid : id ∈ L) (hk : sd_kd id = 9) (hlink : Cond.fieldLink own index (TX8 5).1 (TX8 5).2.1 (TX8 5).2.2.1 ∈ sd_TW) (hd : decode cc pc = .ok (.putfield index, 3)) (hn : pc + 3 = n') (kk : sd_Z K R E L nL Q (sd_setI M id 5 v) n' lv st) : sd_Z K R E L nL Q M pc lv (.int v :: .ref (E.2.2 id) :: st) := sd_put C (Cn := RX8) (T := TX8) (N := 6) (ty := .int) 5 (sd_setI M id 5 v) hid (sd_e9 hk) rfl sd_in8 tyX8_ok nmX8 (by decide) hlink rfl (tyX8_ok 5 (by decide)) rfl rfl (Nat.le_of_ble_eq_true rfl) (by rw [sd_setI_at]; exact sd_e9 hk) sd_setI_ne hd hn kk
theorem sd_g9_0 (C : sd_C K E L own cc nL ret) {id index : Nat} (hid : id ∈ L) (hk : sd_kd id = 10) (hlink : Cond.fieldLink own index (TX9 0).1 (TX9 0).2.1 (TX9 0).2.2.1 ∈ sd_TW) (hd : decode cc pc = .ok (.getfield index, 3)) (hn : pc + 3 = n') (kk : sd_Z K R E L nL Q M n' lv (.ref (E.2.2 (id + 1)) :: st)) : sd_Z K R E L nL Q M pc lv (.ref (E.2.2 id) :: st) := sd_get C (Cn := RX9) (T := TX9) (N := 2) 0 hid (sd_e10 hk) rfl sd_in9 (by decide) hlink rfl hd hn kk
theorem sd_g9_1 (C : sd_C K E L own cc nL ret) {id index : Nat} (hid : id ∈ L) (hk : sd_kd id = 10) (hlink : Cond.fieldLink own index (TX9 1).1 (TX9 1).2.1 (TX9 1).2.2.1 ∈ sd_TW) (hd : decode cc pc = .ok (.getfield index, 3)) (hn : pc + 3 = n') (kk : sd_Z K R E L nL Q M n' lv (.int (M.1 id 1) :: st)) : sd_Z K R E L nL Q M pc lv (.ref (E.2.2 id) :: st) := sd_get C (Cn := RX9) (T := TX9) (N := 2) 1 hid (sd_e10 hk) rfl sd_in9 (by decide) hlink rfl hd hn kk
theorem sd_p9_1 (C : sd_C K E L own cc nL ret) {id index : Nat} {v : Int32} (hid : id ∈ L) (hk : sd_kd id = 10) (hlink : Cond.fieldLink own index (TX9 1).1 (TX9 1).2.1 (TX9 1).2.2.1 ∈ sd_TW) (hd : decode cc pc = .ok (.putfield index, 3)) (hn : pc + 3 = n') (kk : sd_Z K R E L nL Q (sd_setI M id 1 v) n' lv st) : sd_Z K R E L nL Q M pc lv (.int v :: .ref (E.2.2 id) :: st) := sd_put C (Cn := RX9) (T := TX9) (N := 2) (ty := .int) 1 (sd_setI M id 1 v) hid (sd_e10 hk) rfl sd_in9 tyX9_ok nmX9 (by decide) hlink rfl (tyX9_ok 1 (by decide)) rfl rfl (Nat.le_of_ble_eq_true rfl) (by rw [sd_setI_at]; exact sd_e10 hk) sd_setI_ne hd hn kk
theorem sd_g10_0 (C : sd_C K E L own cc nL ret) {id index : Nat} (hid : id ∈ L) (hk : sd_kd id = 11) (hlink : Cond.fieldLink own index (TX10 0).1 (TX10 0).2.1 (TX10 0).2.2.1 ∈ sd_TW) (hd : decode cc pc = .ok (.getfield index, 3)) (hn : pc + 3 = n') (kk : sd_Z K R E L nL Q M n' lv (.ref (E.2.2 1) :: st)) : sd_Z K R E L nL Q M pc lv (.ref (E.2.2 id) :: st) := sd_get C (Cn := RX10) (T := TX10) (N := 14) 0 hid (sd_e11 hk) rfl sd_in10 (by decide) hlink rfl hd hn kk
theorem sd_g10_1 (C : sd_C K E L own cc nL ret) {id index : Nat} (hid : id ∈ L) (hk : sd_kd id = 11) (hlink : Cond.fieldLink own index (TX10 1).1 (TX10 1).2.1 (TX10 1).2.2.1 ∈ sd_TW) (hd : decode cc pc = .ok (.getfield index, 3)) (hn : pc + 3 = n') (kk : sd_Z K R E L nL Q M n' lv (.ref (E.2.2 14) :: st)) : sd_Z K R E L nL Q M pc lv (.ref (E.2.2 id) :: st) := sd_get C (Cn := RX10) (T := TX10) (N := 14) 1 hid (sd_e11 hk) rfl sd_in10 (by decide) hlink rfl hd hn kk
theorem sd_g10_2 (C : sd_C K E L own cc nL ret) {id index : Nat} (hid : id ∈ L) (hk : sd_kd id = 11) (hlink : Cond.fieldLink own index (TX10 2).1 (TX10 2).2.1 (TX10 2).2.2.1 ∈ sd_TW) (hd : decode cc pc = .ok (.getfield index, 3)) (hn : pc + 3 = n') (kk : sd_Z K R E L nL Q M n' lv (.ref (E.2.2 23) :: st)) : sd_Z K R E L nL Q M pc lv (.ref (E.2.2 id) :: st) := sd_get C (Cn := RX10) (T := TX10) (N := 14) 2 hid (sd_e11 hk) rfl sd_in10 (by decide) hlink rfl hd hn kk
theorem sd_g10_3 (C : sd_C K E L own cc nL ret) {id index : Nat} (hid : id ∈ L) (hk : sd_kd id = 11) (hlink : Cond.fieldLink own index (TX10 3).1 (TX10 3).2.1 (TX10 3).2.2.1 ∈ sd_TW) (hd : decode cc pc = .ok (.getfield index, 3)) (hn : pc + 3 = n') (kk : sd_Z K R E L nL Q M n' lv (.ref (E.2.2 40) :: st)) : sd_Z K R E L nL Q M pc lv (.ref (E.2.2 id) :: st) := sd_get C (Cn := RX10) (T := TX10) (N := 14) 3 hid (sd_e11 hk) rfl sd_in10 (by decide) hlink rfl hd hn kk
theorem sd_g10_4 (C : sd_C K E L own cc nL ret) {id index : Nat} (hid : id ∈ L) (hk : sd_kd id = 11) (hlink : Cond.fieldLink own index (TX10 4).1 (TX10 4).2.1 (TX10 4).2.2.1 ∈ sd_TW) (hd : decode cc pc = .ok (.getfield index, 3)) (hn : pc + 3 = n') (kk : sd_Z K R E L nL Q M n' lv (.ref (E.2.2 58) :: st)) : sd_Z K R E L nL Q M pc lv (.ref (E.2.2 id) :: st) := sd_get C (Cn := RX10) (T := TX10) (N := 14) 4 hid (sd_e11 hk) rfl sd_in10 (by decide) hlink rfl hd hn kk
theorem sd_g10_5 (C : sd_C K E L own cc nL ret) {id index : Nat} (hid : id ∈ L) (hk : sd_kd id = 11) (hlink : Cond.fieldLink own index (TX10 5).1 (TX10 5).2.1 (TX10 5).2.2.1 ∈ sd_TW) (hd : decode cc pc = .ok (.getfield index, 3)) (hn : pc + 3 = n') (kk : sd_Z K R E L nL Q M n' lv (.ref (E.2.2 59) :: st)) : sd_Z K R E L nL Q M pc lv (.ref (E.2.2 id) :: st) := sd_get C (Cn := RX10) (T := TX10) (N := 14) 5 hid (sd_e11 hk) rfl sd_in10 (by decide) hlink rfl hd hn kk
theorem sd_g10_6 (C : sd_C K E L own cc nL ret) {id index : Nat} (hid : id ∈ L) (hk : sd_kd id = 11) (hlink : Cond.fieldLink own index (TX10 6).1 (TX10 6).2.1 (TX10 6).2.2.1 ∈ sd_TW) (hd : decode cc pc = .ok (.getfield index, 3)) (hn : pc + 3 = n') (kk : sd_Z K R E L nL Q M n' lv (.ref (E.2.2 60) :: st)) : sd_Z K R E L nL Q M pc lv (.ref (E.2.2 id) :: st) := sd_get C (Cn := RX10) (T := TX10) (N := 14) 6 hid (sd_e11 hk) rfl sd_in10 (by decide) hlink rfl hd hn kk
theorem sd_g10_7 (C : sd_C K E L own cc nL ret) {id index : Nat} (hid : id ∈ L) (hk : sd_kd id = 11) (hlink : Cond.fieldLink own index (TX10 7).1 (TX10 7).2.1 (TX10 7).2.2.1 ∈ sd_TW) (hd : decode cc pc = .ok (.getfield index, 3)) (hn : pc + 3 = n') (kk : sd_Z K R E L nL Q M n' lv (.ref (E.2.2 61) :: st)) : sd_Z K R E L nL Q M pc lv (.ref (E.2.2 id) :: st) := sd_get C (Cn := RX10) (T := TX10) (N := 14) 7 hid (sd_e11 hk) rfl sd_in10 (by decide) hlink rfl hd hn kk
theorem sd_g10_8 (C : sd_C K E L own cc nL ret) {id index : Nat} (hid : id ∈ L) (hk : sd_kd id = 11) (hlink : Cond.fieldLink own index (TX10 8).1 (TX10 8).2.1 (TX10 8).2.2.1 ∈ sd_TW) (hd : decode cc pc = .ok (.getfield index, 3)) (hn : pc + 3 = n') (kk : sd_Z K R E L nL Q M n' lv (.ref (E.2.2 62) :: st)) : sd_Z K R E L nL Q M pc lv (.ref (E.2.2 id) :: st) := sd_get C (Cn := RX10) (T := TX10) (N := 14) 8 hid (sd_e11 hk) rfl sd_in10 (by decide) hlink rfl hd hn kk
theorem sd_g10_9 (C : sd_C K E L own cc nL ret) {id index : Nat} (hid : id ∈ L) (hk : sd_kd id = 11) (hlink : Cond.fieldLink own index (TX10 9).1 (TX10 9).2.1 (TX10 9).2.2.1 ∈ sd_TW) (hd : decode cc pc = .ok (.getfield index, 3)) (hn : pc + 3 = n') (kk : sd_Z K R E L nL Q M n' lv (.ref (E.2.2 63) :: st)) : sd_Z K R E L nL Q M pc lv (.ref (E.2.2 id) :: st) := sd_get C (Cn := RX10) (T := TX10) (N := 14) 9 hid (sd_e11 hk) rfl sd_in10 (by decide) hlink rfl hd hn kk
theorem sd_g10_10 (C : sd_C K E L own cc nL ret) {id index : Nat} (hid : id ∈ L) (hk : sd_kd id = 11) (hlink : Cond.fieldLink own index (TX10 10).1 (TX10 10).2.1 (TX10 10).2.2.1 ∈ sd_TW) (hd : decode cc pc = .ok (.getfield index, 3)) (hn : pc + 3 = n') (kk : sd_Z K R E L nL Q M n' lv (.ref (E.2.2 90) :: st)) : sd_Z K R E L nL Q M pc lv (.ref (E.2.2 id) :: st) := sd_get C (Cn := RX10) (T := TX10) (N := 14) 10 hid (sd_e11 hk) rfl sd_in10 (by decide) hlink rfl hd hn kk
theorem sd_g10_11 (C : sd_C K E L own cc nL ret) {id index : Nat} (hid : id ∈ L) (hk : sd_kd id = 11) (hlink : Cond.fieldLink own index (TX10 11).1 (TX10 11).2.1 (TX10 11).2.2.1 ∈ sd_TW) (hd : decode cc pc = .ok (.getfield index, 3)) (hn : pc + 3 = n') (kk : sd_Z K R E L nL Q M n' lv (.ref (E.2.2 96) :: st)) : sd_Z K R E L nL Q M pc lv (.ref (E.2.2 id) :: st) := sd_get C (Cn := RX10) (T := TX10) (N := 14) 11 hid (sd_e11 hk) rfl sd_in10 (by decide) hlink rfl hd hn kk
theorem sd_g10_12 (C : sd_C K E L own cc nL ret) {id index : Nat} (hid : id ∈ L) (hk : sd_kd id = 11) (hlink : Cond.fieldLink own index (TX10 12).1 (TX10 12).2.1 (TX10 12).2.2.1 ∈ sd_TW) (hd : decode cc pc = .ok (.getfield index, 3)) (hn : pc + 3 = n') (kk : sd_Z K R E L nL Q M n' lv (.ref (E.2.2 97) :: st)) : sd_Z K R E L nL Q M pc lv (.ref (E.2.2 id) :: st) := sd_get C (Cn := RX10) (T := TX10) (N := 14) 12 hid (sd_e11 hk) rfl sd_in10 (by decide) hlink rfl hd hn kk
theorem sd_g10_13 (C : sd_C K E L own cc nL ret) {id index : Nat} (hid : id ∈ L) (hk : sd_kd id = 11) (hlink : Cond.fieldLink own index (TX10 13).1 (TX10 13).2.1 (TX10 13).2.2.1 ∈ sd_TW) (hd : decode cc pc = .ok (.getfield index, 3)) (hn : pc + 3 = n') (kk : sd_Z K R E L nL Q M n' lv (.int (M.1 id 13) :: st)) : sd_Z K R E L nL Q M pc lv (.ref (E.2.2 id) :: st) := sd_get C (Cn := RX10) (T := TX10) (N := 14) 13 hid (sd_e11 hk) rfl sd_in10 (by decide) hlink rfl hd hn kk
theorem sd_p10_13 (C : sd_C K E L own cc nL ret) {id index : Nat} {v : Int32} (hid : id ∈ L) (hk : sd_kd id = 11) (hlink : Cond.fieldLink own index (TX10 13).1 (TX10 13).2.1 (TX10 13).2.2.1 ∈ sd_TW) (hd : decode cc pc = .ok (.putfield index, 3)) (hn : pc + 3 = n') (kk : sd_Z K R E L nL Q (sd_setI M id 13 v) n' lv st) : sd_Z K R E L nL Q M pc lv (.int v :: .ref (E.2.2 id) :: st) := sd_put C (Cn := RX10) (T := TX10) (N := 14) (ty := .int) 13 (sd_setI M id 13 v) hid (sd_e11 hk) rfl sd_in10 tyX10_ok nmX10 (by decide) hlink rfl (tyX10_ok 13 (by decide)) rfl rfl (Nat.le_of_ble_eq_true rfl) (by rw [sd_setI_at]; exact sd_e11 hk) sd_setI_ne hd hn kk
theorem sd_g11_0 (C : sd_C K E L own cc nL ret) {id index : Nat} (hid : id ∈ L) (hk : sd_kd id = 12) (hlink : Cond.fieldLink own index (TX11 0).1 (TX11 0).2.1 (TX11 0).2.2.1 ∈ sd_TW) (hd : decode cc pc = .ok (.getfield index, 3)) (hn : pc + 3 = n') (kk : sd_Z K R E L nL Q M n' lv (.int (M.1 id 0) :: st)) : sd_Z K R E L nL Q M pc lv (.ref (E.2.2 id) :: st) := sd_get C (Cn := RX11) (T := TX11) (N := 36) 0 hid (sd_e12 hk) rfl sd_in11 (by decide) hlink rfl hd hn kk
theorem sd_p11_0 (C : sd_C K E L own cc nL ret) {id index : Nat} {v : Int32} (hid : id ∈ L) (hk : sd_kd id = 12) (hlink : Cond.fieldLink own index (TX11 0).1 (TX11 0).2.1 (TX11 0).2.2.1 ∈ sd_TW) (hd : decode cc pc = .ok (.putfield index, 3)) (hn : pc + 3 = n') (kk : sd_Z K R E L nL Q (sd_setI M id 0 v) n' lv st) : sd_Z K R E L nL Q M pc lv (.int v :: .ref (E.2.2 id) :: st) := sd_put C (Cn := RX11) (T := TX11) (N := 36) (ty := .int) 0 (sd_setI M id 0 v) hid (sd_e12 hk) rfl sd_in11 tyX11_ok nmX11 (by decide) hlink rfl (tyX11_ok 0 (by decide)) rfl rfl (Nat.le_of_ble_eq_true rfl) (by rw [sd_setI_at]; exact sd_e12 hk) sd_setI_ne hd hn kk
theorem sd_g11_1 (C : sd_C K E L own cc nL ret) {id index : Nat} (hid : id ∈ L) (hk : sd_kd id = 12) (hlink : Cond.fieldLink own index (TX11 1).1 (TX11 1).2.1 (TX11 1).2.2.1 ∈ sd_TW) (hd : decode cc pc = .ok (.getfield index, 3)) (hn : pc + 3 = n') (kk : sd_Z K R E L nL Q M n' lv (.ref (E.2.2 101) :: st)) : sd_Z K R E L nL Q M pc lv (.ref (E.2.2 id) :: st) := sd_get C (Cn := RX11) (T := TX11) (N := 36) 1 hid (sd_e12 hk) rfl sd_in11 (by decide) hlink rfl hd hn kk
theorem sd_g11_2 (C : sd_C K E L own cc nL ret) {id index : Nat} (hid : id ∈ L) (hk : sd_kd id = 12) (hlink : Cond.fieldLink own index (TX11 2).1 (TX11 2).2.1 (TX11 2).2.2.1 ∈ sd_TW) (hd : decode cc pc = .ok (.getfield index, 3)) (hn : pc + 3 = n') (kk : sd_Z K R E L nL Q M n' lv (.int (M.1 id 2) :: st)) : sd_Z K R E L nL Q M pc lv (.ref (E.2.2 id) :: st) := sd_get C (Cn := RX11) (T := TX11) (N := 36) 2 hid (sd_e12 hk) rfl sd_in11 (by decide) hlink rfl hd hn kk
theorem sd_p11_2 (C : sd_C K E L own cc nL ret) {id index : Nat} {v : Int32} (hid : id ∈ L) (hk : sd_kd id = 12) (hlink : Cond.fieldLink own index (TX11 2).1 (TX11 2).2.1 (TX11 2).2.2.1 ∈ sd_TW) (hd : decode cc pc = .ok (.putfield index, 3)) (hn : pc + 3 = n') (kk : sd_Z K R E L nL Q (sd_setI M id 2 v) n' lv st) : sd_Z K R E L nL Q M pc lv (.int v :: .ref (E.2.2 id) :: st) := sd_put C (Cn := RX11) (T := TX11) (N := 36) (ty := .int) 2 (sd_setI M id 2 v) hid (sd_e12 hk) rfl sd_in11 tyX11_ok nmX11 (by decide) hlink rfl (tyX11_ok 2 (by decide)) rfl rfl (Nat.le_of_ble_eq_true rfl) (by rw [sd_setI_at]; exact sd_e12 hk) sd_setI_ne hd hn kk
theorem sd_g11_3 (C : sd_C K E L own cc nL ret) {id index : Nat} (hid : id ∈ L) (hk : sd_kd id = 12) (hlink : Cond.fieldLink own index (TX11 3).1 (TX11 3).2.1 (TX11 3).2.2.1 ∈ sd_TW) (hd : decode cc pc = .ok (.getfield index, 3)) (hn : pc + 3 = n') (kk : sd_Z K R E L nL Q M n' lv (.long (M.2 id 3) :: st)) : sd_Z K R E L nL Q M pc lv (.ref (E.2.2 id) :: st) := sd_get C (Cn := RX11) (T := TX11) (N := 36) 3 hid (sd_e12 hk) rfl sd_in11 (by decide) hlink rfl hd hn kk
theorem sd_p11_3 (C : sd_C K E L own cc nL ret) {id index : Nat} {v : Int64} (hid : id ∈ L) (hk : sd_kd id = 12) (hlink : Cond.fieldLink own index (TX11 3).1 (TX11 3).2.1 (TX11 3).2.2.1 ∈ sd_TW) (hd : decode cc pc = .ok (.putfield index, 3)) (hn : pc + 3 = n') (kk : sd_Z K R E L nL Q (sd_setL M id 3 v) n' lv st) : sd_Z K R E L nL Q M pc lv (.long v :: .ref (E.2.2 id) :: st) := sd_put C (Cn := RX11) (T := TX11) (N := 36) (ty := .long) 3 (sd_setL M id 3 v) hid (sd_e12 hk) rfl sd_in11 tyX11_ok nmX11 (by decide) hlink rfl (tyX11_ok 3 (by decide)) rfl rfl (Nat.le_of_ble_eq_true rfl) (by rw [sd_setL_at]; exact sd_e12 hk) sd_setL_ne hd hn kk
theorem sd_g11_4 (C : sd_C K E L own cc nL ret) {id index : Nat} (hid : id ∈ L) (hk : sd_kd id = 12) (hlink : Cond.fieldLink own index (TX11 4).1 (TX11 4).2.1 (TX11 4).2.2.1 ∈ sd_TW) (hd : decode cc pc = .ok (.getfield index, 3)) (hn : pc + 3 = n') (kk : sd_Z K R E L nL Q M n' lv (.long (M.2 id 4) :: st)) : sd_Z K R E L nL Q M pc lv (.ref (E.2.2 id) :: st) := sd_get C (Cn := RX11) (T := TX11) (N := 36) 4 hid (sd_e12 hk) rfl sd_in11 (by decide) hlink rfl hd hn kk
theorem sd_p11_4 (C : sd_C K E L own cc nL ret) {id index : Nat} {v : Int64} (hid : id ∈ L) (hk : sd_kd id = 12) (hlink : Cond.fieldLink own index (TX11 4).1 (TX11 4).2.1 (TX11 4).2.2.1 ∈ sd_TW) (hd : decode cc pc = .ok (.putfield index, 3)) (hn : pc + 3 = n') (kk : sd_Z K R E L nL Q (sd_setL M id 4 v) n' lv st) : sd_Z K R E L nL Q M pc lv (.long v :: .ref (E.2.2 id) :: st) := sd_put C (Cn := RX11) (T := TX11) (N := 36) (ty := .long) 4 (sd_setL M id 4 v) hid (sd_e12 hk) rfl sd_in11 tyX11_ok nmX11 (by decide) hlink rfl (tyX11_ok 4 (by decide)) rfl rfl (Nat.le_of_ble_eq_true rfl) (by rw [sd_setL_at]; exact sd_e12 hk) sd_setL_ne hd hn kk
theorem sd_g11_5 (C : sd_C K E L own cc nL ret) {id index : Nat} (hid : id ∈ L) (hk : sd_kd id = 12) (hlink : Cond.fieldLink own index (TX11 5).1 (TX11 5).2.1 (TX11 5).2.2.1 ∈ sd_TW) (hd : decode cc pc = .ok (.getfield index, 3)) (hn : pc + 3 = n') (kk : sd_Z K R E L nL Q M n' lv (.ref (E.2.2 102) :: st)) : sd_Z K R E L nL Q M pc lv (.ref (E.2.2 id) :: st) := sd_get C (Cn := RX11) (T := TX11) (N := 36) 5 hid (sd_e12 hk) rfl sd_in11 (by decide) hlink rfl hd hn kk
theorem sd_g11_6 (C : sd_C K E L own cc nL ret) {id index : Nat} (hid : id ∈ L) (hk : sd_kd id = 12) (hlink : Cond.fieldLink own index (TX11 6).1 (TX11 6).2.1 (TX11 6).2.2.1 ∈ sd_TW) (hd : decode cc pc = .ok (.getfield index, 3)) (hn : pc + 3 = n') (kk : sd_Z K R E L nL Q M n' lv (.ref (E.2.2 103) :: st)) : sd_Z K R E L nL Q M pc lv (.ref (E.2.2 id) :: st) := sd_get C (Cn := RX11) (T := TX11) (N := 36) 6 hid (sd_e12 hk) rfl sd_in11 (by decide) hlink rfl hd hn kk
theorem sd_g11_7 (C : sd_C K E L own cc nL ret) {id index : Nat} (hid : id ∈ L) (hk : sd_kd id = 12) (hlink : Cond.fieldLink own index (TX11 7).1 (TX11 7).2.1 (TX11 7).2.2.1 ∈ sd_TW) (hd : decode cc pc = .ok (.getfield index, 3)) (hn : pc + 3 = n') (kk : sd_Z K R E L nL Q M n' lv (.ref (E.2.2 104) :: st)) : sd_Z K R E L nL Q M pc lv (.ref (E.2.2 id) :: st) := sd_get C (Cn := RX11) (T := TX11) (N := 36) 7 hid (sd_e12 hk) rfl sd_in11 (by decide) hlink rfl hd hn kk
theorem sd_g11_8 (C : sd_C K E L own cc nL ret) {id index : Nat} (hid : id ∈ L) (hk : sd_kd id = 12) (hlink : Cond.fieldLink own index (TX11 8).1 (TX11 8).2.1 (TX11 8).2.2.1 ∈ sd_TW) (hd : decode cc pc = .ok (.getfield index, 3)) (hn : pc + 3 = n') (kk : sd_Z K R E L nL Q M n' lv (.ref (E.2.2 105) :: st)) : sd_Z K R E L nL Q M pc lv (.ref (E.2.2 id) :: st) := sd_get C (Cn := RX11) (T := TX11) (N := 36) 8 hid (sd_e12 hk) rfl sd_in11 (by decide) hlink rfl hd hn kk
theorem sd_g11_9 (C : sd_C K E L own cc nL ret) {id index : Nat} (hid : id ∈ L) (hk : sd_kd id = 12) (hlink : Cond.fieldLink own index (TX11 9).1 (TX11 9).2.1 (TX11 9).2.2.1 ∈ sd_TW) (hd : decode cc pc = .ok (.getfield index, 3)) (hn : pc + 3 = n') (kk : sd_Z K R E L nL Q M n' lv (.ref (E.2.2 106) :: st)) : sd_Z K R E L nL Q M pc lv (.ref (E.2.2 id) :: st) := sd_get C (Cn := RX11) (T := TX11) (N := 36) 9 hid (sd_e12 hk) rfl sd_in11 (by decide) hlink rfl hd hn kk
theorem sd_g11_10 (C : sd_C K E L own cc nL ret) {id index : Nat} (hid : id ∈ L) (hk : sd_kd id = 12) (hlink : Cond.fieldLink own index (TX11 10).1 (TX11 10).2.1 (TX11 10).2.2.1 ∈ sd_TW) (hd : decode cc pc = .ok (.getfield index, 3)) (hn : pc + 3 = n') (kk : sd_Z K R E L nL Q M n' lv (.ref (E.2.2 107) :: st)) : sd_Z K R E L nL Q M pc lv (.ref (E.2.2 id) :: st) := sd_get C (Cn := RX11) (T := TX11) (N := 36) 10 hid (sd_e12 hk) rfl sd_in11 (by decide) hlink rfl hd hn kk
theorem sd_g11_11 (C : sd_C K E L own cc nL ret) {id index : Nat} (hid : id ∈ L) (hk : sd_kd id = 12) (hlink : Cond.fieldLink own index (TX11 11).1 (TX11 11).2.1 (TX11 11).2.2.1 ∈ sd_TW) (hd : decode cc pc = .ok (.getfield index, 3)) (hn : pc + 3 = n') (kk : sd_Z K R E L nL Q M n' lv (.ref (E.2.2 108) :: st)) : sd_Z K R E L nL Q M pc lv (.ref (E.2.2 id) :: st) := sd_get C (Cn := RX11) (T := TX11) (N := 36) 11 hid (sd_e12 hk) rfl sd_in11 (by decide) hlink rfl hd hn kk
theorem sd_g11_12 (C : sd_C K E L own cc nL ret) {id index : Nat} (hid : id ∈ L) (hk : sd_kd id = 12) (hlink : Cond.fieldLink own index (TX11 12).1 (TX11 12).2.1 (TX11 12).2.2.1 ∈ sd_TW) (hd : decode cc pc = .ok (.getfield index, 3)) (hn : pc + 3 = n') (kk : sd_Z K R E L nL Q M n' lv (.ref (E.2.2 109) :: st)) : sd_Z K R E L nL Q M pc lv (.ref (E.2.2 id) :: st) := sd_get C (Cn := RX11) (T := TX11) (N := 36) 12 hid (sd_e12 hk) rfl sd_in11 (by decide) hlink rfl hd hn kk
theorem sd_g11_13 (C : sd_C K E L own cc nL ret) {id index : Nat} (hid : id ∈ L) (hk : sd_kd id = 12) (hlink : Cond.fieldLink own index (TX11 13).1 (TX11 13).2.1 (TX11 13).2.2.1 ∈ sd_TW) (hd : decode cc pc = .ok (.getfield index, 3)) (hn : pc + 3 = n') (kk : sd_Z K R E L nL Q M n' lv (.ref (E.2.2 110) :: st)) : sd_Z K R E L nL Q M pc lv (.ref (E.2.2 id) :: st) := sd_get C (Cn := RX11) (T := TX11) (N := 36) 13 hid (sd_e12 hk) rfl sd_in11 (by decide) hlink rfl hd hn kk
theorem sd_g11_14 (C : sd_C K E L own cc nL ret) {id index : Nat} (hid : id ∈ L) (hk : sd_kd id = 12) (hlink : Cond.fieldLink own index (TX11 14).1 (TX11 14).2.1 (TX11 14).2.2.1 ∈ sd_TW) (hd : decode cc pc = .ok (.getfield index, 3)) (hn : pc + 3 = n') (kk : sd_Z K R E L nL Q M n' lv (.int (M.1 id 14) :: st)) : sd_Z K R E L nL Q M pc lv (.ref (E.2.2 id) :: st) := sd_get C (Cn := RX11) (T := TX11) (N := 36) 14 hid (sd_e12 hk) rfl sd_in11 (by decide) hlink rfl hd hn kk
theorem sd_p11_14 (C : sd_C K E L own cc nL ret) {id index : Nat} {v : Int32} (hid : id ∈ L) (hk : sd_kd id = 12) (hlink : Cond.fieldLink own index (TX11 14).1 (TX11 14).2.1 (TX11 14).2.2.1 ∈ sd_TW) (hd : decode cc pc = .ok (.putfield index, 3)) (hn : pc + 3 = n') (kk : sd_Z K R E L nL Q (sd_setI M id 14 v) n' lv st) : sd_Z K R E L nL Q M pc lv (.int v :: .ref (E.2.2 id) :: st) := sd_put C (Cn := RX11) (T := TX11) (N := 36) (ty := .int) 14 (sd_setI M id 14 v) hid (sd_e12 hk) rfl sd_in11 tyX11_ok nmX11 (by decide) hlink rfl (tyX11_ok 14 (by decide)) rfl rfl (Nat.le_of_ble_eq_true rfl) (by rw [sd_setI_at]; exact sd_e12 hk) sd_setI_ne hd hn kk
theorem sd_g11_15 (C : sd_C K E L own cc nL ret) {id index : Nat} (hid : id ∈ L) (hk : sd_kd id = 12) (hlink : Cond.fieldLink own index (TX11 15).1 (TX11 15).2.1 (TX11 15).2.2.1 ∈ sd_TW) (hd : decode cc pc = .ok (.getfield index, 3)) (hn : pc + 3 = n') (kk : sd_Z K R E L nL Q M n' lv (.int (M.1 id 15) :: st)) : sd_Z K R E L nL Q M pc lv (.ref (E.2.2 id) :: st) := sd_get C (Cn := RX11) (T := TX11) (N := 36) 15 hid (sd_e12 hk) rfl sd_in11 (by decide) hlink rfl hd hn kk
theorem sd_p11_15 (C : sd_C K E L own cc nL ret) {id index : Nat} {v : Int32} (hid : id ∈ L) (hk : sd_kd id = 12) (hlink : Cond.fieldLink own index (TX11 15).1 (TX11 15).2.1 (TX11 15).2.2.1 ∈ sd_TW) (hd : decode cc pc = .ok (.putfield index, 3)) (hn : pc + 3 = n') (kk : sd_Z K R E L nL Q (sd_setI M id 15 v) n' lv st) : sd_Z K R E L nL Q M pc lv (.int v :: .ref (E.2.2 id) :: st) := sd_put C (Cn := RX11) (T := TX11) (N := 36) (ty := .int) 15 (sd_setI M id 15 v) hid (sd_e12 hk) rfl sd_in11 tyX11_ok nmX11 (by decide) hlink rfl (tyX11_ok 15 (by decide)) rfl rfl (Nat.le_of_ble_eq_true rfl) (by rw [sd_setI_at]; exact sd_e12 hk) sd_setI_ne hd hn kk
theorem sd_g11_16 (C : sd_C K E L own cc nL ret) {id index : Nat} (hid : id ∈ L) (hk : sd_kd id = 12) (hlink : Cond.fieldLink own index (TX11 16).1 (TX11 16).2.1 (TX11 16).2.2.1 ∈ sd_TW) (hd : decode cc pc = .ok (.getfield index, 3)) (hn : pc + 3 = n') (kk : sd_Z K R E L nL Q M n' lv (.int (M.1 id 16) :: st)) : sd_Z K R E L nL Q M pc lv (.ref (E.2.2 id) :: st) := sd_get C (Cn := RX11) (T := TX11) (N := 36) 16 hid (sd_e12 hk) rfl sd_in11 (by decide) hlink rfl hd hn kk
theorem sd_p11_16 (C : sd_C K E L own cc nL ret) {id index : Nat} {v : Int32} (hid : id ∈ L) (hk : sd_kd id = 12) (hlink : Cond.fieldLink own index (TX11 16).1 (TX11 16).2.1 (TX11 16).2.2.1 ∈ sd_TW) (hd : decode cc pc = .ok (.putfield index, 3)) (hn : pc + 3 = n') (kk : sd_Z K R E L nL Q (sd_setI M id 16 v) n' lv st) : sd_Z K R E L nL Q M pc lv (.int v :: .ref (E.2.2 id) :: st) := sd_put C (Cn := RX11) (T := TX11) (N := 36) (ty := .int) 16 (sd_setI M id 16 v) hid (sd_e12 hk) rfl sd_in11 tyX11_ok nmX11 (by decide) hlink rfl (tyX11_ok 16 (by decide)) rfl rfl (Nat.le_of_ble_eq_true rfl) (by rw [sd_setI_at]; exact sd_e12 hk) sd_setI_ne hd hn kk
theorem sd_g11_17 (C : sd_C K E L own cc nL ret) {id index : Nat} (hid : id ∈ L) (hk : sd_kd id = 12) (hlink : Cond.fieldLink own index (TX11 17).1 (TX11 17).2.1 (TX11 17).2.2.1 ∈ sd_TW) (hd : decode cc pc = .ok (.getfield index, 3)) (hn : pc + 3 = n') (kk : sd_Z K R E L nL Q M n' lv (.ref (E.2.2 111) :: st)) : sd_Z K R E L nL Q M pc lv (.ref (E.2.2 id) :: st) := sd_get C (Cn := RX11) (T := TX11) (N := 36) 17 hid (sd_e12 hk) rfl sd_in11 (by decide) hlink rfl hd hn kk
theorem sd_g11_18 (C : sd_C K E L own cc nL ret) {id index : Nat} (hid : id ∈ L) (hk : sd_kd id = 12) (hlink : Cond.fieldLink own index (TX11 18).1 (TX11 18).2.1 (TX11 18).2.2.1 ∈ sd_TW) (hd : decode cc pc = .ok (.getfield index, 3)) (hn : pc + 3 = n') (kk : sd_Z K R E L nL Q M n' lv (.ref (E.2.2 112) :: st)) : sd_Z K R E L nL Q M pc lv (.ref (E.2.2 id) :: st) := sd_get C (Cn := RX11) (T := TX11) (N := 36) 18 hid (sd_e12 hk) rfl sd_in11 (by decide) hlink rfl hd hn kk
theorem sd_g11_19 (C : sd_C K E L own cc nL ret) {id index : Nat} (hid : id ∈ L) (hk : sd_kd id = 12) (hlink : Cond.fieldLink own index (TX11 19).1 (TX11 19).2.1 (TX11 19).2.2.1 ∈ sd_TW) (hd : decode cc pc = .ok (.getfield index, 3)) (hn : pc + 3 = n') (kk : sd_Z K R E L nL Q M n' lv (.ref (E.2.2 113) :: st)) : sd_Z K R E L nL Q M pc lv (.ref (E.2.2 id) :: st) := sd_get C (Cn := RX11) (T := TX11) (N := 36) 19 hid (sd_e12 hk) rfl sd_in11 (by decide) hlink rfl hd hn kk
theorem sd_g11_20 (C : sd_C K E L own cc nL ret) {id index : Nat} (hid : id ∈ L) (hk : sd_kd id = 12) (hlink : Cond.fieldLink own index (TX11 20).1 (TX11 20).2.1 (TX11 20).2.2.1 ∈ sd_TW) (hd : decode cc pc = .ok (.getfield index, 3)) (hn : pc + 3 = n') (kk : sd_Z K R E L nL Q M n' lv (.ref (E.2.2 114) :: st)) : sd_Z K R E L nL Q M pc lv (.ref (E.2.2 id) :: st) := sd_get C (Cn := RX11) (T := TX11) (N := 36) 20 hid (sd_e12 hk) rfl sd_in11 (by decide) hlink rfl hd hn kk
theorem sd_g11_21 (C : sd_C K E L own cc nL ret) {id index : Nat} (hid : id ∈ L) (hk : sd_kd id = 12) (hlink : Cond.fieldLink own index (TX11 21).1 (TX11 21).2.1 (TX11 21).2.2.1 ∈ sd_TW) (hd : decode cc pc = .ok (.getfield index, 3)) (hn : pc + 3 = n') (kk : sd_Z K R E L nL Q M n' lv (.int (M.1 id 21) :: st)) : sd_Z K R E L nL Q M pc lv (.ref (E.2.2 id) :: st) := sd_get C (Cn := RX11) (T := TX11) (N := 36) 21 hid (sd_e12 hk) rfl sd_in11 (by decide) hlink rfl hd hn kk
theorem sd_p11_21 (C : sd_C K E L own cc nL ret) {id index : Nat} {v : Int32} (hid : id ∈ L) (hk : sd_kd id = 12) (hlink : Cond.fieldLink own index (TX11 21).1 (TX11 21).2.1 (TX11 21).2.2.1 ∈ sd_TW) (hd : decode cc pc = .ok (.putfield index, 3)) (hn : pc + 3 = n') (kk : sd_Z K R E L nL Q (sd_setI M id 21 v) n' lv st) : sd_Z K R E L nL Q M pc lv (.int v :: .ref (E.2.2 id) :: st) := sd_put C (Cn := RX11) (T := TX11) (N := 36) (ty := .int) 21 (sd_setI M id 21 v) hid (sd_e12 hk) rfl sd_in11 tyX11_ok nmX11 (by decide) hlink rfl (tyX11_ok 21 (by decide)) rfl rfl (Nat.le_of_ble_eq_true rfl) (by rw [sd_setI_at]; exact sd_e12 hk) sd_setI_ne hd hn kk
theorem sd_g11_22 (C : sd_C K E L own cc nL ret) {id index : Nat} (hid : id ∈ L) (hk : sd_kd id = 12) (hlink : Cond.fieldLink own index (TX11 22).1 (TX11 22).2.1 (TX11 22).2.2.1 ∈ sd_TW) (hd : decode cc pc = .ok (.getfield index, 3)) (hn : pc + 3 = n') (kk : sd_Z K R E L nL Q M n' lv (.int (M.1 id 22) :: st)) : sd_Z K R E L nL Q M pc lv (.ref (E.2.2 id) :: st) := sd_get C (Cn := RX11) (T := TX11) (N := 36) 22 hid (sd_e12 hk) rfl sd_in11 (by decide) hlink rfl hd hn kk
theorem sd_p11_22 (C : sd_C K E L own cc nL ret) {id index : Nat} {v : Int32} (hid : id ∈ L) (hk : sd_kd id = 12) (hlink : Cond.fieldLink own index (TX11 22).1 (TX11 22).2.1 (TX11 22).2.2.1 ∈ sd_TW) (hd : decode cc pc = .ok (.putfield index, 3)) (hn : pc + 3 = n') (kk : sd_Z K R E L nL Q (sd_setI M id 22 v) n' lv st) : sd_Z K R E L nL Q M pc lv (.int v :: .ref (E.2.2 id) :: st) := sd_put C (Cn := RX11) (T := TX11) (N := 36) (ty := .int) 22 (sd_setI M id 22 v) hid (sd_e12 hk) rfl sd_in11 tyX11_ok nmX11 (by decide) hlink rfl (tyX11_ok 22 (by decide)) rfl rfl (Nat.le_of_ble_eq_true rfl) (by rw [sd_setI_at]; exact sd_e12 hk) sd_setI_ne hd hn kk
theorem sd_g11_23 (C : sd_C K E L own cc nL ret) {id index : Nat} (hid : id ∈ L) (hk : sd_kd id = 12) (hlink : Cond.fieldLink own index (TX11 23).1 (TX11 23).2.1 (TX11 23).2.2.1 ∈ sd_TW) (hd : decode cc pc = .ok (.getfield index, 3)) (hn : pc + 3 = n') (kk : sd_Z K R E L nL Q M n' lv (.ref (E.2.2 115) :: st)) : sd_Z K R E L nL Q M pc lv (.ref (E.2.2 id) :: st) := sd_get C (Cn := RX11) (T := TX11) (N := 36) 23 hid (sd_e12 hk) rfl sd_in11 (by decide) hlink rfl hd hn kk
theorem sd_g11_24 (C : sd_C K E L own cc nL ret) {id index : Nat} (hid : id ∈ L) (hk : sd_kd id = 12) (hlink : Cond.fieldLink own index (TX11 24).1 (TX11 24).2.1 (TX11 24).2.2.1 ∈ sd_TW) (hd : decode cc pc = .ok (.getfield index, 3)) (hn : pc + 3 = n') (kk : sd_Z K R E L nL Q M n' lv (.ref (E.2.2 116) :: st)) : sd_Z K R E L nL Q M pc lv (.ref (E.2.2 id) :: st) := sd_get C (Cn := RX11) (T := TX11) (N := 36) 24 hid (sd_e12 hk) rfl sd_in11 (by decide) hlink rfl hd hn kk
theorem sd_g11_25 (C : sd_C K E L own cc nL ret) {id index : Nat} (hid : id ∈ L) (hk : sd_kd id = 12) (hlink : Cond.fieldLink own index (TX11 25).1 (TX11 25).2.1 (TX11 25).2.2.1 ∈ sd_TW) (hd : decode cc pc = .ok (.getfield index, 3)) (hn : pc + 3 = n') (kk : sd_Z K R E L nL Q M n' lv (.ref (E.2.2 117) :: st)) : sd_Z K R E L nL Q M pc lv (.ref (E.2.2 id) :: st) := sd_get C (Cn := RX11) (T := TX11) (N := 36) 25 hid (sd_e12 hk) rfl sd_in11 (by decide) hlink rfl hd hn kk
theorem sd_g11_26 (C : sd_C K E L own cc nL ret) {id index : Nat} (hid : id ∈ L) (hk : sd_kd id = 12) (hlink : Cond.fieldLink own index (TX11 26).1 (TX11 26).2.1 (TX11 26).2.2.1 ∈ sd_TW) (hd : decode cc pc = .ok (.getfield index, 3)) (hn : pc + 3 = n') (kk : sd_Z K R E L nL Q M n' lv (.ref (E.2.2 118) :: st)) : sd_Z K R E L nL Q M pc lv (.ref (E.2.2 id) :: st) := sd_get C (Cn := RX11) (T := TX11) (N := 36) 26 hid (sd_e12 hk) rfl sd_in11 (by decide) hlink rfl hd hn kk
theorem sd_g11_27 (C : sd_C K E L own cc nL ret) {id index : Nat} (hid : id ∈ L) (hk : sd_kd id = 12) (hlink : Cond.fieldLink own index (TX11 27).1 (TX11 27).2.1 (TX11 27).2.2.1 ∈ sd_TW) (hd : decode cc pc = .ok (.getfield index, 3)) (hn : pc + 3 = n') (kk : sd_Z K R E L nL Q M n' lv (.ref (E.2.2 119) :: st)) : sd_Z K R E L nL Q M pc lv (.ref (E.2.2 id) :: st) := sd_get C (Cn := RX11) (T := TX11) (N := 36) 27 hid (sd_e12 hk) rfl sd_in11 (by decide) hlink rfl hd hn kk
theorem sd_g11_28 (C : sd_C K E L own cc nL ret) {id index : Nat} (hid : id ∈ L) (hk : sd_kd id = 12) (hlink : Cond.fieldLink own index (TX11 28).1 (TX11 28).2.1 (TX11 28).2.2.1 ∈ sd_TW) (hd : decode cc pc = .ok (.getfield index, 3)) (hn : pc + 3 = n') (kk : sd_Z K R E L nL Q M n' lv (.ref (E.2.2 120) :: st)) : sd_Z K R E L nL Q M pc lv (.ref (E.2.2 id) :: st) := sd_get C (Cn := RX11) (T := TX11) (N := 36) 28 hid (sd_e12 hk) rfl sd_in11 (by decide) hlink rfl hd hn kk
theorem sd_g11_29 (C : sd_C K E L own cc nL ret) {id index : Nat} (hid : id ∈ L) (hk : sd_kd id = 12) (hlink : Cond.fieldLink own index (TX11 29).1 (TX11 29).2.1 (TX11 29).2.2.1 ∈ sd_TW) (hd : decode cc pc = .ok (.getfield index, 3)) (hn : pc + 3 = n') (kk : sd_Z K R E L nL Q M n' lv (.ref (E.2.2 121) :: st)) : sd_Z K R E L nL Q M pc lv (.ref (E.2.2 id) :: st) := sd_get C (Cn := RX11) (T := TX11) (N := 36) 29 hid (sd_e12 hk) rfl sd_in11 (by decide) hlink rfl hd hn kk
theorem sd_g11_30 (C : sd_C K E L own cc nL ret) {id index : Nat} (hid : id ∈ L) (hk : sd_kd id = 12) (hlink : Cond.fieldLink own index (TX11 30).1 (TX11 30).2.1 (TX11 30).2.2.1 ∈ sd_TW) (hd : decode cc pc = .ok (.getfield index, 3)) (hn : pc + 3 = n') (kk : sd_Z K R E L nL Q M n' lv (.int (M.1 id 30) :: st)) : sd_Z K R E L nL Q M pc lv (.ref (E.2.2 id) :: st) := sd_get C (Cn := RX11) (T := TX11) (N := 36) 30 hid (sd_e12 hk) rfl sd_in11 (by decide) hlink rfl hd hn kk
theorem sd_p11_30 (C : sd_C K E L own cc nL ret) {id index : Nat} {v : Int32} (hid : id ∈ L) (hk : sd_kd id = 12) (hlink : Cond.fieldLink own index (TX11 30).1 (TX11 30).2.1 (TX11 30).2.2.1 ∈ sd_TW) (hd : decode cc pc = .ok (.putfield index, 3)) (hn : pc + 3 = n') (kk : sd_Z K R E L nL Q (sd_setI M id 30 v) n' lv st) : sd_Z K R E L nL Q M pc lv (.int v :: .ref (E.2.2 id) :: st) := sd_put C (Cn := RX11) (T := TX11) (N := 36) (ty := .int) 30 (sd_setI M id 30 v) hid (sd_e12 hk) rfl sd_in11 tyX11_ok nmX11 (by decide) hlink rfl (tyX11_ok 30 (by decide)) rfl rfl (Nat.le_of_ble_eq_true rfl) (by rw [sd_setI_at]; exact sd_e12 hk) sd_setI_ne hd hn kk
theorem sd_g11_31 (C : sd_C K E L own cc nL ret) {id index : Nat} (hid : id ∈ L) (hk : sd_kd id = 12) (hlink : Cond.fieldLink own index (TX11 31).1 (TX11 31).2.1 (TX11 31).2.2.1 ∈ sd_TW) (hd : decode cc pc = .ok (.getfield index, 3)) (hn : pc + 3 = n') (kk : sd_Z K R E L nL Q M n' lv (.ref (E.2.2 122) :: st)) : sd_Z K R E L nL Q M pc lv (.ref (E.2.2 id) :: st) := sd_get C (Cn := RX11) (T := TX11) (N := 36) 31 hid (sd_e12 hk) rfl sd_in11 (by decide) hlink rfl hd hn kk
theorem sd_g11_32 (C : sd_C K E L own cc nL ret) {id index : Nat} (hid : id ∈ L) (hk : sd_kd id = 12) (hlink : Cond.fieldLink own index (TX11 32).1 (TX11 32).2.1 (TX11 32).2.2.1 ∈ sd_TW) (hd : decode cc pc = .ok (.getfield index, 3)) (hn : pc + 3 = n') (kk : sd_Z K R E L nL Q M n' lv (.int (M.1 id 32) :: st)) : sd_Z K R E L nL Q M pc lv (.ref (E.2.2 id) :: st) := sd_get C (Cn := RX11) (T := TX11) (N := 36) 32 hid (sd_e12 hk) rfl sd_in11 (by decide) hlink rfl hd hn kk
theorem sd_p11_32 (C : sd_C K E L own cc nL ret) {id index : Nat} {v : Int32} (hid : id ∈ L) (hk : sd_kd id = 12) (hlink : Cond.fieldLink own index (TX11 32).1 (TX11 32).2.1 (TX11 32).2.2.1 ∈ sd_TW) (hd : decode cc pc = .ok (.putfield index, 3)) (hn : pc + 3 = n') (kk : sd_Z K R E L nL Q (sd_setI M id 32 v) n' lv st) : sd_Z K R E L nL Q M pc lv (.int v :: .ref (E.2.2 id) :: st) := sd_put C (Cn := RX11) (T := TX11) (N := 36) (ty := .int) 32 (sd_setI M id 32 v) hid (sd_e12 hk) rfl sd_in11 tyX11_ok nmX11 (by decide) hlink rfl (tyX11_ok 32 (by decide)) rfl rfl (Nat.le_of_ble_eq_true rfl) (by rw [sd_setI_at]; exact sd_e12 hk) sd_setI_ne hd hn kk
theorem sd_g11_33 (C : sd_C K E L own cc nL ret) {id index : Nat} (hid : id ∈ L) (hk : sd_kd id = 12) (hlink : Cond.fieldLink own index (TX11 33).1 (TX11 33).2.1 (TX11 33).2.2.1 ∈ sd_TW) (hd : decode cc pc = .ok (.getfield index, 3)) (hn : pc + 3 = n') (kk : sd_Z K R E L nL Q M n' lv (.int (M.1 id 33) :: st)) : sd_Z K R E L nL Q M pc lv (.ref (E.2.2 id) :: st) := sd_get C (Cn := RX11) (T := TX11) (N := 36) 33 hid (sd_e12 hk) rfl sd_in11 (by decide) hlink rfl hd hn kk
theorem sd_p11_33 (C : sd_C K E L own cc nL ret) {id index : Nat} {v : Int32} (hid : id ∈ L) (hk : sd_kd id = 12) (hlink : Cond.fieldLink own index (TX11 33).1 (TX11 33).2.1 (TX11 33).2.2.1 ∈ sd_TW) (hd : decode cc pc = .ok (.putfield index, 3)) (hn : pc + 3 = n') (kk : sd_Z K R E L nL Q (sd_setI M id 33 v) n' lv st) : sd_Z K R E L nL Q M pc lv (.int v :: .ref (E.2.2 id) :: st) := sd_put C (Cn := RX11) (T := TX11) (N := 36) (ty := .int) 33 (sd_setI M id 33 v) hid (sd_e12 hk) rfl sd_in11 tyX11_ok nmX11 (by decide) hlink rfl (tyX11_ok 33 (by decide)) rfl rfl (Nat.le_of_ble_eq_true rfl) (by rw [sd_setI_at]; exact sd_e12 hk) sd_setI_ne hd hn kk
theorem sd_g11_34 (C : sd_C K E L own cc nL ret) {id index : Nat} (hid : id ∈ L) (hk : sd_kd id = 12) (hlink : Cond.fieldLink own index (TX11 34).1 (TX11 34).2.1 (TX11 34).2.2.1 ∈ sd_TW) (hd : decode cc pc = .ok (.getfield index, 3)) (hn : pc + 3 = n') (kk : sd_Z K R E L nL Q M n' lv (.int (M.1 id 34) :: st)) : sd_Z K R E L nL Q M pc lv (.ref (E.2.2 id) :: st) := sd_get C (Cn := RX11) (T := TX11) (N := 36) 34 hid (sd_e12 hk) rfl sd_in11 (by decide) hlink rfl hd hn kk
theorem sd_p11_34 (C : sd_C K E L own cc nL ret) {id index : Nat} {v : Int32} (hb : v &&& 1 = v) (hid : id ∈ L) (hk : sd_kd id = 12) (hlink : Cond.fieldLink own index (TX11 34).1 (TX11 34).2.1 (TX11 34).2.2.1 ∈ sd_TW) (hd : decode cc pc = .ok (.putfield index, 3)) (hn : pc + 3 = n') (kk : sd_Z K R E L nL Q (sd_setI M id 34 v) n' lv st) : sd_Z K R E L nL Q M pc lv (.int v :: .ref (E.2.2 id) :: st) := sd_put C (Cn := RX11) (T := TX11) (N := 36) (ty := .boolean) 34 (sd_setI M id 34 v) hid (sd_e12 hk) rfl sd_in11 tyX11_ok nmX11 (by decide) hlink rfl (tyX11_ok 34 (by decide)) (by show Value.int (v &&& 1) = _; rw [hb]) (sd_fitZ hb) (Nat.le_of_ble_eq_true rfl) (by rw [sd_setI_at]; exact sd_e12 hk) sd_setI_ne hd hn kk
theorem sd_g11_35 (C : sd_C K E L own cc nL ret) {id index : Nat} (hid : id ∈ L) (hk : sd_kd id = 12) (hlink : Cond.fieldLink own index (TX11 35).1 (TX11 35).2.1 (TX11 35).2.2.1 ∈ sd_TW) (hd : decode cc pc = .ok (.getfield index, 3)) (hn : pc + 3 = n') (kk : sd_Z K R E L nL Q M n' lv (.long (M.2 id 35) :: st)) : sd_Z K R E L nL Q M pc lv (.ref (E.2.2 id) :: st) := sd_get C (Cn := RX11) (T := TX11) (N := 36) 35 hid (sd_e12 hk) rfl sd_in11 (by decide) hlink rfl hd hn kk
theorem sd_p11_35 (C : sd_C K E L own cc nL ret) {id index : Nat} {v : Int64} (hid : id ∈ L) (hk : sd_kd id = 12) (hlink : Cond.fieldLink own index (TX11 35).1 (TX11 35).2.1 (TX11 35).2.2.1 ∈ sd_TW) (hd : decode cc pc = .ok (.putfield index, 3)) (hn : pc + 3 = n') (kk : sd_Z K R E L nL Q (sd_setL M id 35 v) n' lv st) : sd_Z K R E L nL Q M pc lv (.long v :: .ref (E.2.2 id) :: st) := sd_put C (Cn := RX11) (T := TX11) (N := 36) (ty := .long) 35 (sd_setL M id 35 v) hid (sd_e12 hk) rfl sd_in11 tyX11_ok nmX11 (by decide) hlink rfl (tyX11_ok 35 (by decide)) rfl rfl (Nat.le_of_ble_eq_true rfl) (by rw [sd_setL_at]; exact sd_e12 hk) sd_setL_ne hd hn kk
end SDF
