abbrev mX0_init : MI := (RX0, yX0_init, cX0_init, 1, none)
theorem kX0_init : MK mX0_init 0 := ⟨⟨gt_mem 311 (by decide +kernel) (by decide +kernel), in_X0⟩, by decide +kernel, by decide, by decide, rfl⟩
theorem iM_X0_init : Cond.instanceMethod yX0_init ∈ gTs := gt_mem 310 (by decide +kernel) (by decide +kernel)
abbrev mX1_init : MI := (RX1, yX1_init, cX1_init, 1, none)
theorem kX1_init : MK mX1_init 0 := ⟨⟨gt_mem 284 (by decide +kernel) (by decide +kernel), in_X1⟩, by decide +kernel, by decide, by decide, rfl⟩
theorem iM_X1_init : Cond.instanceMethod yX1_init ∈ gTs := gt_mem 283 (by decide +kernel) (by decide +kernel)
abbrev mX2_init : MI := (RX2, yX2_init, cX2_init, 1, none)
theorem kX2_init : MK mX2_init 0 := ⟨⟨gt_mem 246 (by decide +kernel) (by decide +kernel), in_X2⟩, by decide +kernel, by decide, by decide, rfl⟩
theorem iM_X2_init : Cond.instanceMethod yX2_init ∈ gTs := gt_mem 245 (by decide +kernel) (by decide +kernel)
abbrev mX3_init : MI := (RX3, yX3_init, cX3_init, 1, none)
theorem kX3_init : MK mX3_init 0 := ⟨⟨gt_mem 222 (by decide +kernel) (by decide +kernel), in_X3⟩, by decide +kernel, by decide, by decide, rfl⟩
theorem iM_X3_init : Cond.instanceMethod yX3_init ∈ gTs := gt_mem 221 (by decide +kernel) (by decide +kernel)
abbrev mX4_init : MI := (RX4, yX4_init, cX4_init, 1, none)
theorem kX4_init : MK mX4_init 0 := ⟨⟨gt_mem 264 (by decide +kernel) (by decide +kernel), in_X4⟩, by decide +kernel, by decide, by decide, rfl⟩
theorem iM_X4_init : Cond.instanceMethod yX4_init ∈ gTs := gt_mem 263 (by decide +kernel) (by decide +kernel)
abbrev mX5_init : MI := (RX5, yX5_init, cX5_init, 1, none)
theorem kX5_init : MK mX5_init 0 := ⟨⟨gt_mem 36 (by decide +kernel) (by decide +kernel), in_X5⟩, by decide +kernel, by decide, by decide, rfl⟩
theorem iM_X5_init : Cond.instanceMethod yX5_init ∈ gTs := gt_mem 35 (by decide +kernel) (by decide +kernel)
abbrev mX6_init : MI := (RX6, yX6_init, cX6_init, 1, none)
theorem kX6_init : MK mX6_init 0 := ⟨⟨gt_mem 137 (by decide +kernel) (by decide +kernel), in_X6⟩, by decide +kernel, by decide, by decide, rfl⟩
theorem iM_X6_init : Cond.instanceMethod yX6_init ∈ gTs := gt_mem 136 (by decide +kernel) (by decide +kernel)
abbrev mX7_init : MI := (RX7, yX7_init, cX7_init, 1, none)
theorem kX7_init : MK mX7_init 0 := ⟨⟨gt_mem 171 (by decide +kernel) (by decide +kernel), in_X7⟩, by decide +kernel, by decide, by decide, rfl⟩
theorem iM_X7_init : Cond.instanceMethod yX7_init ∈ gTs := gt_mem 170 (by decide +kernel) (by decide +kernel)
abbrev mX8_init : MI := (RX8, yX8_init, cX8_init, 1, none)
theorem kX8_init : MK mX8_init 0 := ⟨⟨gt_mem 30 (by decide +kernel) (by decide +kernel), in_X8⟩, by decide +kernel, by decide, by decide, rfl⟩
theorem iM_X8_init : Cond.instanceMethod yX8_init ∈ gTs := gt_mem 29 (by decide +kernel) (by decide +kernel)
abbrev mX9_init : MI := (RX9, yX9_init, cX9_init, 1, none)
theorem kX9_init : MK mX9_init 0 := ⟨⟨gt_mem 338 (by decide +kernel) (by decide +kernel), in_X9⟩, by decide +kernel, by decide, by decide, rfl⟩
theorem iM_X9_init : Cond.instanceMethod yX9_init ∈ gTs := gt_mem 337 (by decide +kernel) (by decide +kernel)
abbrev mX10_init : MI := (RX10, yX10_init, cX10_init, 1, none)
theorem kX10_init : MK mX10_init 0 := ⟨⟨gt_mem 206 (by decide +kernel) (by decide +kernel), in_X10⟩, by decide +kernel, by decide, by decide, rfl⟩
theorem iM_X10_init : Cond.instanceMethod yX10_init ∈ gTs := gt_mem 205 (by decide +kernel) (by decide +kernel)
abbrev mX11_init : MI := (RX11, yX11_init, cX11_init, 2, none)
theorem kX11_init : MK mX11_init 0 := ⟨⟨gt_mem 22 (by decide +kernel) (by decide +kernel), in_X11⟩, by decide +kernel, by decide, by decide, rfl⟩
theorem iM_X11_init : Cond.instanceMethod yX11_init ∈ gTs := gt_mem 21 (by decide +kernel) (by decide +kernel)
abbrev mX12_init : MI := (RX12, yX12_init, cX12_init, 1, none)
theorem kX12_init : MK mX12_init 0 := ⟨⟨gt_mem 956 (by decide +kernel) (by decide +kernel), in_X12⟩, by decide +kernel, by decide, by decide, rfl⟩
theorem iM_X12_init : Cond.instanceMethod yX12_init ∈ gTs := gt_mem 955 (by decide +kernel) (by decide +kernel)
theorem oi_in : Cond.instanceMethod objectInit ∈ gTs := gt_mem 24 (by decide +kernel) (by decide +kernel)
theorem oi_co : Cond.code objectInit ⟨#[0xb1]⟩ 1 none ∈ gTs := gt_mem 25 (by decide +kernel) (by decide +kernel)
theorem cl_L_7 : Cond.classLink RL 7 RX11 ∈ gTs := gt_mem 18 (by decide +kernel) (by decide +kernel)
theorem is_X11 : Cond.instantiable RX11 13 ∈ gTs := gt_mem 19 (by decide +kernel) (by decide +kernel)
theorem lo_X11_1 : Cond.methodLink RX11 1 objectInit ∈ gTs := gt_mem 23 (by decide +kernel) (by decide +kernel)
theorem cl_X11_7 : Cond.classLink RX11 7 RX8 ∈ gTs := gt_mem 26 (by decide +kernel) (by decide +kernel)
theorem is_X8 : Cond.instantiable RX8 14 ∈ gTs := gt_mem 27 (by decide +kernel) (by decide +kernel)
theorem lo_X8_3 : Cond.methodLink RX8 3 objectInit ∈ gTs := gt_mem 31 (by decide +kernel) (by decide +kernel)
theorem cl_X8_49 : Cond.classLink RX8 49 RX5 ∈ gTs := gt_mem 32 (by decide +kernel) (by decide +kernel)
theorem is_X5 : Cond.instantiable RX5 4 ∈ gTs := gt_mem 33 (by decide +kernel) (by decide +kernel)
theorem lo_X5_3 : Cond.methodLink RX5 3 objectInit ∈ gTs := gt_mem 37 (by decide +kernel) (by decide +kernel)
theorem aw_int : Cond.arrayClass .int ∈ gTs := gt_mem 53 (by decide +kernel) (by decide +kernel)
theorem cl_X11_24 : Cond.classLink RX11 24 RX6 ∈ gTs := gt_mem 133 (by decide +kernel) (by decide +kernel)
theorem is_X6 : Cond.instantiable RX6 9 ∈ gTs := gt_mem 134 (by decide +kernel) (by decide +kernel)
theorem lo_X6_3 : Cond.methodLink RX6 3 objectInit ∈ gTs := gt_mem 138 (by decide +kernel) (by decide +kernel)
theorem cl_X11_31 : Cond.classLink RX11 31 RX7 ∈ gTs := gt_mem 167 (by decide +kernel) (by decide +kernel)
theorem is_X7 : Cond.instantiable RX7 9 ∈ gTs := gt_mem 168 (by decide +kernel) (by decide +kernel)
theorem lo_X7_3 : Cond.methodLink RX7 3 objectInit ∈ gTs := gt_mem 172 (by decide +kernel) (by decide +kernel)
theorem cl_X11_41 : Cond.classLink RX11 41 RX10 ∈ gTs := gt_mem 202 (by decide +kernel) (by decide +kernel)
theorem is_X10 : Cond.instantiable RX10 3 ∈ gTs := gt_mem 203 (by decide +kernel) (by decide +kernel)
theorem lo_X10_3 : Cond.methodLink RX10 3 objectInit ∈ gTs := gt_mem 207 (by decide +kernel) (by decide +kernel)
theorem cl_X11_48 : Cond.classLink RX11 48 RX3 ∈ gTs := gt_mem 218 (by decide +kernel) (by decide +kernel)
theorem is_X3 : Cond.instantiable RX3 5 ∈ gTs := gt_mem 219 (by decide +kernel) (by decide +kernel)
theorem lo_X3_3 : Cond.methodLink RX3 3 objectInit ∈ gTs := gt_mem 223 (by decide +kernel) (by decide +kernel)
theorem cl_X11_55 : Cond.classLink RX11 55 RX2 ∈ gTs := gt_mem 242 (by decide +kernel) (by decide +kernel)
theorem is_X2 : Cond.instantiable RX2 3 ∈ gTs := gt_mem 243 (by decide +kernel) (by decide +kernel)
theorem lo_X2_1 : Cond.methodLink RX2 1 objectInit ∈ gTs := gt_mem 247 (by decide +kernel) (by decide +kernel)
theorem cl_X11_62 : Cond.classLink RX11 62 RX4 ∈ gTs := gt_mem 260 (by decide +kernel) (by decide +kernel)
theorem is_X4 : Cond.instantiable RX4 4 ∈ gTs := gt_mem 261 (by decide +kernel) (by decide +kernel)
theorem lo_X4_3 : Cond.methodLink RX4 3 objectInit ∈ gTs := gt_mem 265 (by decide +kernel) (by decide +kernel)
theorem cl_X11_69 : Cond.classLink RX11 69 RX1 ∈ gTs := gt_mem 280 (by decide +kernel) (by decide +kernel)
theorem is_X1 : Cond.instantiable RX1 6 ∈ gTs := gt_mem 281 (by decide +kernel) (by decide +kernel)
theorem lo_X1_1 : Cond.methodLink RX1 1 objectInit ∈ gTs := gt_mem 285 (by decide +kernel) (by decide +kernel)
theorem cl_X11_76 : Cond.classLink RX11 76 RX0 ∈ gTs := gt_mem 307 (by decide +kernel) (by decide +kernel)
theorem is_X0 : Cond.instantiable RX0 5 ∈ gTs := gt_mem 308 (by decide +kernel) (by decide +kernel)
theorem lo_X0_3 : Cond.methodLink RX0 3 objectInit ∈ gTs := gt_mem 312 (by decide +kernel) (by decide +kernel)
theorem cl_X11_83 : Cond.classLink RX11 83 RX9 ∈ gTs := gt_mem 333 (by decide +kernel) (by decide +kernel)
theorem is_X9 : Cond.instantiable RX9 5 ∈ gTs := gt_mem 335 (by decide +kernel) (by decide +kernel)
theorem lo_X9_3 : Cond.methodLink RX9 3 objectInit ∈ gTs := gt_mem 339 (by decide +kernel) (by decide +kernel)
theorem aw_long : Cond.arrayClass .long ∈ gTs := gt_mem 360 (by decide +kernel) (by decide +kernel)
theorem cl_L_10 : Cond.classLink RL 10 RX12 ∈ gTs := gt_mem 952 (by decide +kernel) (by decide +kernel)
theorem is_X12 : Cond.instantiable RX12 63 ∈ gTs := gt_mem 953 (by decide +kernel) (by decide +kernel)
theorem lo_X12_1 : Cond.methodLink RX12 1 objectInit ∈ gTs := gt_mem 957 (by decide +kernel) (by decide +kernel)
theorem aw_byte : Cond.arrayClass .byte ∈ gTs := gt_mem 1147 (by decide +kernel) (by decide +kernel)
theorem aw_short : Cond.arrayClass .short ∈ gTs := gt_mem 1148 (by decide +kernel) (by decide +kernel)
theorem aw_boolean : Cond.arrayClass .boolean ∈ gTs := gt_mem 1149 (by decide +kernel) (by decide +kernel)
abbrev cs_0 : List CB := [.inl (11, [.null, .null, .int 0, .null, .null, .null, .null, .null, .null, .null, .null, .null, .null])]
abbrev cs_1 : List CB := [.inl (11, [.null, .null, .int 0, .null, .null, .null, .null, .null, .null, .null, .null, .null, .null]), .inl (8, [.int 0, .null, .null, .null, .null, .null, .null, .null, .null, .null, .int 0, .int 0, .null, .null])]
theorem gX8_9 : FL2 RX8 9 8 0 false .int := ⟨RX8, TX8, 14, tyX8, rfl, by decide, gt_mem 54 (by decide +kernel) (by decide +kernel), iw_X8, tyX8_ok, nmX8, rfl, by decide +kernel, rfl⟩
theorem gX8_15 : FL2 RX8 15 8 1 true (.array .int) := ⟨RX8, TX8, 14, tyX8, rfl, by decide, gt_mem 61 (by decide +kernel) (by decide +kernel), iw_X8, tyX8_ok, nmX8, rfl, by decide +kernel, rfl⟩
theorem gX8_19 : FL2 RX8 19 8 2 true (.array .int) := ⟨RX8, TX8, 14, tyX8, rfl, by decide, gt_mem 65 (by decide +kernel) (by decide +kernel), iw_X8, tyX8_ok, nmX8, rfl, by decide +kernel, rfl⟩
theorem gX8_22 : FL2 RX8 22 8 3 true (.array .int) := ⟨RX8, TX8, 14, tyX8, rfl, by decide, gt_mem 67 (by decide +kernel) (by decide +kernel), iw_X8, tyX8_ok, nmX8, rfl, by decide +kernel, rfl⟩
theorem gX8_25 : FL2 RX8 25 8 4 true (.array .int) := ⟨RX8, TX8, 14, tyX8, rfl, by decide, gt_mem 68 (by decide +kernel) (by decide +kernel), iw_X8, tyX8_ok, nmX8, rfl, by decide +kernel, rfl⟩
theorem gX8_28 : FL2 RX8 28 8 5 true (.array .int) := ⟨RX8, TX8, 14, tyX8, rfl, by decide, gt_mem 73 (by decide +kernel) (by decide +kernel), iw_X8, tyX8_ok, nmX8, rfl, by decide +kernel, rfl⟩
theorem gX8_31 : FL2 RX8 31 8 6 true (.array .int) := ⟨RX8, TX8, 14, tyX8, rfl, by decide, gt_mem 78 (by decide +kernel) (by decide +kernel), iw_X8, tyX8_ok, nmX8, rfl, by decide +kernel, rfl⟩
theorem gX8_34 : FL2 RX8 34 8 7 true (.array .int) := ⟨RX8, TX8, 14, tyX8, rfl, by decide, gt_mem 83 (by decide +kernel) (by decide +kernel), iw_X8, tyX8_ok, nmX8, rfl, by decide +kernel, rfl⟩
theorem gX8_37 : FL2 RX8 37 8 8 true (.array .int) := ⟨RX8, TX8, 14, tyX8, rfl, by decide, gt_mem 87 (by decide +kernel) (by decide +kernel), iw_X8, tyX8_ok, nmX8, rfl, by decide +kernel, rfl⟩
theorem gX8_40 : FL2 RX8 40 8 9 true (.array .int) := ⟨RX8, TX8, 14, tyX8, rfl, by decide, gt_mem 90 (by decide +kernel) (by decide +kernel), iw_X8, tyX8_ok, nmX8, rfl, by decide +kernel, rfl⟩
theorem gX8_43 : FL2 RX8 43 8 10 false .int := ⟨RX8, TX8, 14, tyX8, rfl, by decide, gt_mem 92 (by decide +kernel) (by decide +kernel), iw_X8, tyX8_ok, nmX8, rfl, by decide +kernel, rfl⟩
theorem gX8_46 : FL2 RX8 46 8 11 false .int := ⟨RX8, TX8, 14, tyX8, rfl, by decide, gt_mem 96 (by decide +kernel) (by decide +kernel), iw_X8, tyX8_ok, nmX8, rfl, by decide +kernel, rfl⟩
abbrev cs_2 : List CB := [.inl (11, [.null, .null, .int 0, .null, .null, .null, .null, .null, .null, .null, .null, .null, .null]), .inl (8, [.int 0, .ref 2, .ref 3, .ref 4, .ref 5, .ref 6, .ref 7, .ref 8, .ref 9, .ref 10, .int 2, .int 0, .null, .null]), .inr (0, 20, [], []), .inr (0, 20, [], []), .inr (0, 20, [], []), .inr (0, 20, [], []), .inr (0, 20, [], []), .inr (0, 20, [], []), .inr (0, 20, [], []), .inr (0, 6, [], []), .inr (0, 10, [], []), .inl (5, [.null, .int 0, .null, .int 0])]
theorem gX5_11 : FL2 RX5 11 5 0 true (.array .int) := ⟨RX5, TX5, 4, tyX5, rfl, by decide, gt_mem 38 (by decide +kernel) (by decide +kernel), iw_X5, tyX5_ok, nmX5, rfl, by decide +kernel, rfl⟩
theorem gX5_15 : FL2 RX5 15 5 1 false .int := ⟨RX5, TX5, 4, tyX5, rfl, by decide, gt_mem 40 (by decide +kernel) (by decide +kernel), iw_X5, tyX5_ok, nmX5, rfl, by decide +kernel, rfl⟩
theorem gX5_19 : FL2 RX5 19 5 2 true (.array .int) := ⟨RX5, TX5, 4, tyX5, rfl, by decide, gt_mem 42 (by decide +kernel) (by decide +kernel), iw_X5, tyX5_ok, nmX5, rfl, by decide +kernel, rfl⟩
theorem gX5_22 : FL2 RX5 22 5 3 false .int := ⟨RX5, TX5, 4, tyX5, rfl, by decide, gt_mem 43 (by decide +kernel) (by decide +kernel), iw_X5, tyX5_ok, nmX5, rfl, by decide +kernel, rfl⟩
abbrev cs_3 : List CB := [.inl (11, [.null, .null, .int 0, .null, .null, .null, .null, .null, .null, .null, .null, .null, .null]), .inl (8, [.int 0, .ref 2, .ref 3, .ref 4, .ref 5, .ref 6, .ref 7, .ref 8, .ref 9, .ref 10, .int 2, .int 0, .null, .null]), .inr (0, 20, [], []), .inr (0, 20, [], []), .inr (0, 20, [], []), .inr (0, 20, [], []), .inr (0, 20, [], []), .inr (0, 20, [], []), .inr (0, 20, [], []), .inr (0, 6, [], []), .inr (0, 10, [], []), .inl (5, [.ref 12, .int 0, .ref 13, .int 0]), .inr (0, 121, [], []), .inr (0, 121, [], [])]
set_option maxHeartbeats 4000000 in
set_option maxRecDepth 100000 in
theorem ct_0 {l : Launch} (d : Nat) : GoB l (d + 1) mX5_init cs_3 2 242 0 0 0 [(0, .ref 11)] [] cs_2 := by
  refine GoB.aload_n dX5_init_0 rfl ?_
  refine GoB.objInit dX5_init_1 lo_X5_3 oi_in oi_co (Nat.le_of_ble_eq_true rfl) ?_
  refine GoB.aload_n dX5_init_4 rfl ?_
  refine GoB.bipush (v := 121) dX5_init_5 (by decide) ?_
  refine GoB.newa (kd := 0) (N := 121) dX5_init_7 aw_int (by decide) (by decide) (by decide) (by decide) (by decide) (by decide) ?_
  refine GoB.put dX5_init_9 gX5_11 rfl (by decide) (fun _ => rfl) (fun _ => rfl) ?_
  refine GoB.aload_n dX5_init_12 rfl ?_
  refine GoB.iconst (v := 0) dX5_init_13 (by decide) ?_
  refine GoB.put dX5_init_14 gX5_15 rfl (by decide) (fun _ => rfl) (fun _ => rfl) ?_
  refine GoB.aload_n dX5_init_17 rfl ?_
  refine GoB.bipush (v := 121) dX5_init_18 (by decide) ?_
  refine GoB.newa (kd := 0) (N := 121) dX5_init_20 aw_int (by decide) (by decide) (by decide) (by decide) (by decide) (by decide) ?_
  refine GoB.put dX5_init_22 gX5_19 rfl (by decide) (fun _ => rfl) (fun _ => rfl) ?_
  refine GoB.aload_n dX5_init_25 rfl ?_
  refine GoB.iconst (v := 0) dX5_init_26 (by decide) ?_
  refine GoB.put dX5_init_27 gX5_22 rfl (by decide) (fun _ => rfl) (fun _ => rfl) ?_
  exact GoB.vret dX5_init_30 rfl (by decide) (by decide) rfl
theorem gX8_52 : FL2 RX8 52 8 12 true (.object "WhoPrompts$Law") := ⟨RX8, TX8, 14, tyX8, rfl, by decide, gt_mem 100 (by decide +kernel) (by decide +kernel), iw_X8, tyX8_ok, nmX8, rfl, by decide +kernel, rfl⟩
abbrev cs_4 : List CB := [.inl (11, [.null, .null, .int 0, .null, .null, .null, .null, .null, .null, .null, .null, .null, .null]), .inl (8, [.int 0, .ref 2, .ref 3, .ref 4, .ref 5, .ref 6, .ref 7, .ref 8, .ref 9, .ref 10, .int 2, .int 0, .ref 11, .null]), .inr (0, 20, [], []), .inr (0, 20, [], []), .inr (0, 20, [], []), .inr (0, 20, [], []), .inr (0, 20, [], []), .inr (0, 20, [], []), .inr (0, 20, [], []), .inr (0, 6, [], []), .inr (0, 10, [], []), .inl (5, [.ref 12, .int 0, .ref 13, .int 0]), .inr (0, 121, [], []), .inr (0, 121, [], []), .inl (5, [.null, .int 0, .null, .int 0])]
abbrev cs_5 : List CB := [.inl (11, [.null, .null, .int 0, .null, .null, .null, .null, .null, .null, .null, .null, .null, .null]), .inl (8, [.int 0, .ref 2, .ref 3, .ref 4, .ref 5, .ref 6, .ref 7, .ref 8, .ref 9, .ref 10, .int 2, .int 0, .ref 11, .null]), .inr (0, 20, [], []), .inr (0, 20, [], []), .inr (0, 20, [], []), .inr (0, 20, [], []), .inr (0, 20, [], []), .inr (0, 20, [], []), .inr (0, 20, [], []), .inr (0, 6, [], []), .inr (0, 10, [], []), .inl (5, [.ref 12, .int 0, .ref 13, .int 0]), .inr (0, 121, [], []), .inr (0, 121, [], []), .inl (5, [.ref 15, .int 0, .ref 16, .int 0]), .inr (0, 121, [], []), .inr (0, 121, [], [])]
set_option maxHeartbeats 4000000 in
set_option maxRecDepth 100000 in
theorem ct_1 {l : Launch} (d : Nat) : GoB l (d + 1) mX5_init cs_5 2 242 0 0 0 [(0, .ref 14)] [] cs_4 := by
  refine GoB.aload_n dX5_init_0 rfl ?_
  refine GoB.objInit dX5_init_1 lo_X5_3 oi_in oi_co (Nat.le_of_ble_eq_true rfl) ?_
  refine GoB.aload_n dX5_init_4 rfl ?_
  refine GoB.bipush (v := 121) dX5_init_5 (by decide) ?_
  refine GoB.newa (kd := 0) (N := 121) dX5_init_7 aw_int (by decide) (by decide) (by decide) (by decide) (by decide) (by decide) ?_
  refine GoB.put dX5_init_9 gX5_11 rfl (by decide) (fun _ => rfl) (fun _ => rfl) ?_
  refine GoB.aload_n dX5_init_12 rfl ?_
  refine GoB.iconst (v := 0) dX5_init_13 (by decide) ?_
  refine GoB.put dX5_init_14 gX5_15 rfl (by decide) (fun _ => rfl) (fun _ => rfl) ?_
  refine GoB.aload_n dX5_init_17 rfl ?_
  refine GoB.bipush (v := 121) dX5_init_18 (by decide) ?_
  refine GoB.newa (kd := 0) (N := 121) dX5_init_20 aw_int (by decide) (by decide) (by decide) (by decide) (by decide) (by decide) ?_
  refine GoB.put dX5_init_22 gX5_19 rfl (by decide) (fun _ => rfl) (fun _ => rfl) ?_
  refine GoB.aload_n dX5_init_25 rfl ?_
  refine GoB.iconst (v := 0) dX5_init_26 (by decide) ?_
  refine GoB.put dX5_init_27 gX5_22 rfl (by decide) (fun _ => rfl) (fun _ => rfl) ?_
  exact GoB.vret dX5_init_30 rfl (by decide) (by decide) rfl
theorem gX8_56 : FL2 RX8 56 8 13 true (.object "WhoPrompts$Law") := ⟨RX8, TX8, 14, tyX8, rfl, by decide, gt_mem 102 (by decide +kernel) (by decide +kernel), iw_X8, tyX8_ok, nmX8, rfl, by decide +kernel, rfl⟩
abbrev cs_6 : List CB := [.inl (11, [.null, .null, .int 0, .null, .null, .null, .null, .null, .null, .null, .null, .null, .null]), .inl (8, [.int 0, .ref 2, .ref 3, .ref 4, .ref 5, .ref 6, .ref 7, .ref 8, .ref 9, .ref 10, .int 2, .int 0, .ref 11, .ref 14]), .inr (0, 20, [], []), .inr (0, 20, [], []), .inr (0, 20, [], []), .inr (0, 20, [], []), .inr (0, 20, [], []), .inr (0, 20, [], []), .inr (0, 20, [], []), .inr (0, 6, [], []), .inr (0, 10, [], []), .inl (5, [.ref 12, .int 0, .ref 13, .int 0]), .inr (0, 121, [], []), .inr (0, 121, [], []), .inl (5, [.ref 15, .int 0, .ref 16, .int 0]), .inr (0, 121, [], []), .inr (0, 121, [], [])]
set_option maxHeartbeats 4000000 in
set_option maxRecDepth 100000 in
theorem ct_2 {l : Launch} (d : Nat) : GoB l (d + 2) mX8_init cs_6 15 648 0 0 0 [(0, .ref 1)] [] cs_1 := by
  refine GoB.aload_n dX8_init_0 rfl ?_
  refine GoB.objInit dX8_init_1 lo_X8_3 oi_in oi_co (Nat.le_of_ble_eq_true rfl) ?_
  refine GoB.aload_n dX8_init_4 rfl ?_
  refine GoB.iconst (v := 0) dX8_init_5 (by decide) ?_
  refine GoB.put dX8_init_6 gX8_9 rfl (by decide) (fun _ => rfl) (fun _ => rfl) ?_
  refine GoB.aload_n dX8_init_9 rfl ?_
  refine GoB.bipush (v := 20) dX8_init_10 (by decide) ?_
  refine GoB.newa (kd := 0) (N := 20) dX8_init_12 aw_int (by decide) (by decide) (by decide) (by decide) (by decide) (by decide) ?_
  refine GoB.put dX8_init_14 gX8_15 rfl (by decide) (fun _ => rfl) (fun _ => rfl) ?_
  refine GoB.aload_n dX8_init_17 rfl ?_
  refine GoB.bipush (v := 20) dX8_init_18 (by decide) ?_
  refine GoB.newa (kd := 0) (N := 20) dX8_init_20 aw_int (by decide) (by decide) (by decide) (by decide) (by decide) (by decide) ?_
  refine GoB.put dX8_init_22 gX8_19 rfl (by decide) (fun _ => rfl) (fun _ => rfl) ?_
  refine GoB.aload_n dX8_init_25 rfl ?_
  refine GoB.bipush (v := 20) dX8_init_26 (by decide) ?_
  refine GoB.newa (kd := 0) (N := 20) dX8_init_28 aw_int (by decide) (by decide) (by decide) (by decide) (by decide) (by decide) ?_
  refine GoB.put dX8_init_30 gX8_22 rfl (by decide) (fun _ => rfl) (fun _ => rfl) ?_
  refine GoB.aload_n dX8_init_33 rfl ?_
  refine GoB.bipush (v := 20) dX8_init_34 (by decide) ?_
  refine GoB.newa (kd := 0) (N := 20) dX8_init_36 aw_int (by decide) (by decide) (by decide) (by decide) (by decide) (by decide) ?_
  refine GoB.put dX8_init_38 gX8_25 rfl (by decide) (fun _ => rfl) (fun _ => rfl) ?_
  refine GoB.aload_n dX8_init_41 rfl ?_
  refine GoB.bipush (v := 20) dX8_init_42 (by decide) ?_
  refine GoB.newa (kd := 0) (N := 20) dX8_init_44 aw_int (by decide) (by decide) (by decide) (by decide) (by decide) (by decide) ?_
  refine GoB.put dX8_init_46 gX8_28 rfl (by decide) (fun _ => rfl) (fun _ => rfl) ?_
  refine GoB.aload_n dX8_init_49 rfl ?_
  refine GoB.bipush (v := 20) dX8_init_50 (by decide) ?_
  refine GoB.newa (kd := 0) (N := 20) dX8_init_52 aw_int (by decide) (by decide) (by decide) (by decide) (by decide) (by decide) ?_
  refine GoB.put dX8_init_54 gX8_31 rfl (by decide) (fun _ => rfl) (fun _ => rfl) ?_
  refine GoB.aload_n dX8_init_57 rfl ?_
  refine GoB.bipush (v := 20) dX8_init_58 (by decide) ?_
  refine GoB.newa (kd := 0) (N := 20) dX8_init_60 aw_int (by decide) (by decide) (by decide) (by decide) (by decide) (by decide) ?_
  refine GoB.put dX8_init_62 gX8_34 rfl (by decide) (fun _ => rfl) (fun _ => rfl) ?_
  refine GoB.aload_n dX8_init_65 rfl ?_
  refine GoB.bipush (v := 6) dX8_init_66 (by decide) ?_
  refine GoB.newa (kd := 0) (N := 6) dX8_init_68 aw_int (by decide) (by decide) (by decide) (by decide) (by decide) (by decide) ?_
  refine GoB.put dX8_init_70 gX8_37 rfl (by decide) (fun _ => rfl) (fun _ => rfl) ?_
  refine GoB.aload_n dX8_init_73 rfl ?_
  refine GoB.bipush (v := 10) dX8_init_74 (by decide) ?_
  refine GoB.newa (kd := 0) (N := 10) dX8_init_76 aw_int (by decide) (by decide) (by decide) (by decide) (by decide) (by decide) ?_
  refine GoB.put dX8_init_78 gX8_40 rfl (by decide) (fun _ => rfl) (fun _ => rfl) ?_
  refine GoB.aload_n dX8_init_81 rfl ?_
  refine GoB.iconst (v := 2) dX8_init_82 (by decide) ?_
  refine GoB.put dX8_init_83 gX8_43 rfl (by decide) (fun _ => rfl) (fun _ => rfl) ?_
  refine GoB.aload_n dX8_init_86 rfl ?_
  refine GoB.iconst (v := 0) dX8_init_87 (by decide) ?_
  refine GoB.put dX8_init_88 gX8_46 rfl (by decide) (fun _ => rfl) (fun _ => rfl) ?_
  refine GoB.aload_n dX8_init_91 rfl ?_
  refine GoB.new (ci := 5) (N := 4) (C := RX5) (T := TX5) tyX5 (fs := [.null, .int 0, .null, .int 0]) dX8_init_92 iw_X5 tyX5_ok cl_X8_49 is_X5 in_X5 rfl (by decide) (fun _ => rfl) (by decide) (by decide) ?_
  refine GoB.dup dX8_init_95 rfl ?_
  refine GoB.ctor (cs1 := cs_3) (mc' := 2) (ms' := 242) (cs := cs_2) dX8_init_96 kX5_init rfl rfl iM_X5_init (by decide +kernel) (Nat.le_of_ble_eq_true rfl) (Nat.le_of_ble_eq_true rfl) (by decide) (by decide) (ct_0 (d + 0)) rfl rfl ?_
  refine GoB.put dX8_init_99 gX8_52 rfl (by decide) (fun _ => rfl) (fun _ => rfl) ?_
  refine GoB.aload_n dX8_init_102 rfl ?_
  refine GoB.new (ci := 5) (N := 4) (C := RX5) (T := TX5) tyX5 (fs := [.null, .int 0, .null, .int 0]) dX8_init_103 iw_X5 tyX5_ok cl_X8_49 is_X5 in_X5 rfl (by decide) (fun _ => rfl) (by decide) (by decide) ?_
  refine GoB.dup dX8_init_106 rfl ?_
  refine GoB.ctor (cs1 := cs_5) (mc' := 2) (ms' := 242) (cs := cs_4) dX8_init_107 kX5_init rfl rfl iM_X5_init (by decide +kernel) (Nat.le_of_ble_eq_true rfl) (Nat.le_of_ble_eq_true rfl) (by decide) (by decide) (ct_1 (d + 0)) rfl rfl ?_
  refine GoB.put dX8_init_110 gX8_56 rfl (by decide) (fun _ => rfl) (fun _ => rfl) ?_
  exact GoB.vret dX8_init_113 rfl (by decide) (by decide) rfl
theorem gX11_10 : FL2 RX11 10 11 0 true (.object "WhoPrompts$Play") := ⟨RX11, TX11, 13, tyX11, rfl, by decide, gt_mem 361 (by decide +kernel) (by decide +kernel), iw_X11, tyX11_ok, nmX11, rfl, by decide +kernel, rfl⟩
theorem gX11_16 : FL2 RX11 16 11 1 true (.array .int) := ⟨RX11, TX11, 13, tyX11, rfl, by decide, gt_mem 362 (by decide +kernel) (by decide +kernel), iw_X11, tyX11_ok, nmX11, rfl, by decide +kernel, rfl⟩
theorem gX11_20 : FL2 RX11 20 11 2 false .int := ⟨RX11, TX11, 13, tyX11, rfl, by decide, gt_mem 363 (by decide +kernel) (by decide +kernel), iw_X11, tyX11_ok, nmX11, rfl, by decide +kernel, rfl⟩
abbrev cs_7 : List CB := [.inl (11, [.ref 1, .ref 17, .int 0, .null, .null, .null, .null, .null, .null, .null, .null, .null, .null]), .inl (8, [.int 0, .ref 2, .ref 3, .ref 4, .ref 5, .ref 6, .ref 7, .ref 8, .ref 9, .ref 10, .int 2, .int 0, .ref 11, .ref 14]), .inr (0, 20, [], []), .inr (0, 20, [], []), .inr (0, 20, [], []), .inr (0, 20, [], []), .inr (0, 20, [], []), .inr (0, 20, [], []), .inr (0, 20, [], []), .inr (0, 6, [], []), .inr (0, 10, [], []), .inl (5, [.ref 12, .int 0, .ref 13, .int 0]), .inr (0, 121, [], []), .inr (0, 121, [], []), .inl (5, [.ref 15, .int 0, .ref 16, .int 0]), .inr (0, 121, [], []), .inr (0, 121, [], []), .inr (0, 120, [], []), .inl (6, [.null, .int 0, .null, .int 0, .int 0, .int 0, .int 0, .int 0, .int 0])]
theorem gX6_11 : FL2 RX6 11 6 0 true (.array .int) := ⟨RX6, TX6, 9, tyX6, rfl, by decide, gt_mem 139 (by decide +kernel) (by decide +kernel), iw_X6, tyX6_ok, nmX6, rfl, by decide +kernel, rfl⟩
theorem gX6_17 : FL2 RX6 17 6 1 false .int := ⟨RX6, TX6, 9, tyX6, rfl, by decide, gt_mem 140 (by decide +kernel) (by decide +kernel), iw_X6, tyX6_ok, nmX6, rfl, by decide +kernel, rfl⟩
theorem gX6_21 : FL2 RX6 21 6 2 true (.array .int) := ⟨RX6, TX6, 9, tyX6, rfl, by decide, gt_mem 141 (by decide +kernel) (by decide +kernel), iw_X6, tyX6_ok, nmX6, rfl, by decide +kernel, rfl⟩
theorem gX6_24 : FL2 RX6 24 6 3 false .int := ⟨RX6, TX6, 9, tyX6, rfl, by decide, gt_mem 142 (by decide +kernel) (by decide +kernel), iw_X6, tyX6_ok, nmX6, rfl, by decide +kernel, rfl⟩
theorem gX6_27 : FL2 RX6 27 6 4 false .int := ⟨RX6, TX6, 9, tyX6, rfl, by decide, gt_mem 143 (by decide +kernel) (by decide +kernel), iw_X6, tyX6_ok, nmX6, rfl, by decide +kernel, rfl⟩
theorem gX6_30 : FL2 RX6 30 6 5 false .int := ⟨RX6, TX6, 9, tyX6, rfl, by decide, gt_mem 144 (by decide +kernel) (by decide +kernel), iw_X6, tyX6_ok, nmX6, rfl, by decide +kernel, rfl⟩
theorem gX6_33 : FL2 RX6 33 6 6 false .int := ⟨RX6, TX6, 9, tyX6, rfl, by decide, gt_mem 145 (by decide +kernel) (by decide +kernel), iw_X6, tyX6_ok, nmX6, rfl, by decide +kernel, rfl⟩
theorem gX6_36 : FL2 RX6 36 6 7 false .boolean := ⟨RX6, TX6, 9, tyX6, rfl, by decide, gt_mem 146 (by decide +kernel) (by decide +kernel), iw_X6, tyX6_ok, nmX6, rfl, by decide +kernel, rfl⟩
theorem gX6_40 : FL2 RX6 40 6 8 false .boolean := ⟨RX6, TX6, 9, tyX6, rfl, by decide, gt_mem 147 (by decide +kernel) (by decide +kernel), iw_X6, tyX6_ok, nmX6, rfl, by decide +kernel, rfl⟩
abbrev cs_8 : List CB := [.inl (11, [.ref 1, .ref 17, .int 0, .null, .null, .null, .null, .null, .null, .null, .null, .null, .null]), .inl (8, [.int 0, .ref 2, .ref 3, .ref 4, .ref 5, .ref 6, .ref 7, .ref 8, .ref 9, .ref 10, .int 2, .int 0, .ref 11, .ref 14]), .inr (0, 20, [], []), .inr (0, 20, [], []), .inr (0, 20, [], []), .inr (0, 20, [], []), .inr (0, 20, [], []), .inr (0, 20, [], []), .inr (0, 20, [], []), .inr (0, 6, [], []), .inr (0, 10, [], []), .inl (5, [.ref 12, .int 0, .ref 13, .int 0]), .inr (0, 121, [], []), .inr (0, 121, [], []), .inl (5, [.ref 15, .int 0, .ref 16, .int 0]), .inr (0, 121, [], []), .inr (0, 121, [], []), .inr (0, 120, [], []), .inl (6, [.ref 19, .int 0, .ref 20, .int 0, .int 0, .int 0, .int 0, .int 1, .int 0]), .inr (0, 121, [], []), .inr (0, 120, [], [])]
set_option maxHeartbeats 4000000 in
set_option maxRecDepth 100000 in
theorem ct_3 {l : Launch} (d : Nat) : GoB l (d + 1) mX6_init cs_8 2 241 0 0 0 [(0, .ref 18)] [] cs_7 := by
  refine GoB.aload_n dX6_init_0 rfl ?_
  refine GoB.objInit dX6_init_1 lo_X6_3 oi_in oi_co (Nat.le_of_ble_eq_true rfl) ?_
  refine GoB.aload_n dX6_init_4 rfl ?_
  refine GoB.bipush (v := 121) dX6_init_5 (by decide) ?_
  refine GoB.newa (kd := 0) (N := 121) dX6_init_7 aw_int (by decide) (by decide) (by decide) (by decide) (by decide) (by decide) ?_
  refine GoB.put dX6_init_9 gX6_11 rfl (by decide) (fun _ => rfl) (fun _ => rfl) ?_
  refine GoB.aload_n dX6_init_12 rfl ?_
  refine GoB.iconst (v := 0) dX6_init_13 (by decide) ?_
  refine GoB.put dX6_init_14 gX6_17 rfl (by decide) (fun _ => rfl) (fun _ => rfl) ?_
  refine GoB.aload_n dX6_init_17 rfl ?_
  refine GoB.bipush (v := 120) dX6_init_18 (by decide) ?_
  refine GoB.newa (kd := 0) (N := 120) dX6_init_20 aw_int (by decide) (by decide) (by decide) (by decide) (by decide) (by decide) ?_
  refine GoB.put dX6_init_22 gX6_21 rfl (by decide) (fun _ => rfl) (fun _ => rfl) ?_
  refine GoB.aload_n dX6_init_25 rfl ?_
  refine GoB.iconst (v := 0) dX6_init_26 (by decide) ?_
  refine GoB.put dX6_init_27 gX6_24 rfl (by decide) (fun _ => rfl) (fun _ => rfl) ?_
  refine GoB.aload_n dX6_init_30 rfl ?_
  refine GoB.iconst (v := 0) dX6_init_31 (by decide) ?_
  refine GoB.put dX6_init_32 gX6_27 rfl (by decide) (fun _ => rfl) (fun _ => rfl) ?_
  refine GoB.aload_n dX6_init_35 rfl ?_
  refine GoB.iconst (v := 0) dX6_init_36 (by decide) ?_
  refine GoB.put dX6_init_37 gX6_30 rfl (by decide) (fun _ => rfl) (fun _ => rfl) ?_
  refine GoB.aload_n dX6_init_40 rfl ?_
  refine GoB.iconst (v := 0) dX6_init_41 (by decide) ?_
  refine GoB.put dX6_init_42 gX6_33 rfl (by decide) (fun _ => rfl) (fun _ => rfl) ?_
  refine GoB.aload_n dX6_init_45 rfl ?_
  refine GoB.iconst (v := 1) dX6_init_46 (by decide) ?_
  refine GoB.put dX6_init_47 gX6_36 rfl (by decide) (fun _ => rfl) (fun _ => rfl) ?_
  refine GoB.aload_n dX6_init_50 rfl ?_
  refine GoB.iconst (v := 0) dX6_init_51 (by decide) ?_
  refine GoB.put dX6_init_52 gX6_40 rfl (by decide) (fun _ => rfl) (fun _ => rfl) ?_
  exact GoB.vret dX6_init_55 rfl (by decide) (by decide) rfl
theorem gX11_27 : FL2 RX11 27 11 3 true (.object "WhoPrompts$LawReader") := ⟨RX11, TX11, 13, tyX11, rfl, by decide, gt_mem 364 (by decide +kernel) (by decide +kernel), iw_X11, tyX11_ok, nmX11, rfl, by decide +kernel, rfl⟩
abbrev cs_9 : List CB := [.inl (11, [.ref 1, .ref 17, .int 0, .ref 18, .null, .null, .null, .null, .null, .null, .null, .null, .null]), .inl (8, [.int 0, .ref 2, .ref 3, .ref 4, .ref 5, .ref 6, .ref 7, .ref 8, .ref 9, .ref 10, .int 2, .int 0, .ref 11, .ref 14]), .inr (0, 20, [], []), .inr (0, 20, [], []), .inr (0, 20, [], []), .inr (0, 20, [], []), .inr (0, 20, [], []), .inr (0, 20, [], []), .inr (0, 20, [], []), .inr (0, 6, [], []), .inr (0, 10, [], []), .inl (5, [.ref 12, .int 0, .ref 13, .int 0]), .inr (0, 121, [], []), .inr (0, 121, [], []), .inl (5, [.ref 15, .int 0, .ref 16, .int 0]), .inr (0, 121, [], []), .inr (0, 121, [], []), .inr (0, 120, [], []), .inl (6, [.ref 19, .int 0, .ref 20, .int 0, .int 0, .int 0, .int 0, .int 1, .int 0]), .inr (0, 121, [], []), .inr (0, 120, [], []), .inl (7, [.int 0, .null, .null, .null, .int 0, .int 0, .int 0, .int 0, .null])]
theorem gX7_9 : FL2 RX7 9 7 0 false .int := ⟨RX7, TX7, 9, tyX7, rfl, by decide, gt_mem 173 (by decide +kernel) (by decide +kernel), iw_X7, tyX7_ok, nmX7, rfl, by decide +kernel, rfl⟩
theorem gX7_15 : FL2 RX7 15 7 1 true (.array .int) := ⟨RX7, TX7, 9, tyX7, rfl, by decide, gt_mem 175 (by decide +kernel) (by decide +kernel), iw_X7, tyX7_ok, nmX7, rfl, by decide +kernel, rfl⟩
theorem gX7_19 : FL2 RX7 19 7 2 true (.array .int) := ⟨RX7, TX7, 9, tyX7, rfl, by decide, gt_mem 176 (by decide +kernel) (by decide +kernel), iw_X7, tyX7_ok, nmX7, rfl, by decide +kernel, rfl⟩
theorem gX7_22 : FL2 RX7 22 7 3 true (.array .int) := ⟨RX7, TX7, 9, tyX7, rfl, by decide, gt_mem 177 (by decide +kernel) (by decide +kernel), iw_X7, tyX7_ok, nmX7, rfl, by decide +kernel, rfl⟩
theorem gX7_25 : FL2 RX7 25 7 4 false .int := ⟨RX7, TX7, 9, tyX7, rfl, by decide, gt_mem 178 (by decide +kernel) (by decide +kernel), iw_X7, tyX7_ok, nmX7, rfl, by decide +kernel, rfl⟩
theorem gX7_28 : FL2 RX7 28 7 5 false .int := ⟨RX7, TX7, 9, tyX7, rfl, by decide, gt_mem 179 (by decide +kernel) (by decide +kernel), iw_X7, tyX7_ok, nmX7, rfl, by decide +kernel, rfl⟩
theorem gX7_31 : FL2 RX7 31 7 6 false .int := ⟨RX7, TX7, 9, tyX7, rfl, by decide, gt_mem 180 (by decide +kernel) (by decide +kernel), iw_X7, tyX7_ok, nmX7, rfl, by decide +kernel, rfl⟩
theorem gX7_34 : FL2 RX7 34 7 7 false .int := ⟨RX7, TX7, 9, tyX7, rfl, by decide, gt_mem 181 (by decide +kernel) (by decide +kernel), iw_X7, tyX7_ok, nmX7, rfl, by decide +kernel, rfl⟩
theorem gX7_37 : FL2 RX7 37 7 8 true (.array .int) := ⟨RX7, TX7, 9, tyX7, rfl, by decide, gt_mem 182 (by decide +kernel) (by decide +kernel), iw_X7, tyX7_ok, nmX7, rfl, by decide +kernel, rfl⟩
abbrev cs_10 : List CB := [.inl (11, [.ref 1, .ref 17, .int 0, .ref 18, .null, .null, .null, .null, .null, .null, .null, .null, .null]), .inl (8, [.int 0, .ref 2, .ref 3, .ref 4, .ref 5, .ref 6, .ref 7, .ref 8, .ref 9, .ref 10, .int 2, .int 0, .ref 11, .ref 14]), .inr (0, 20, [], []), .inr (0, 20, [], []), .inr (0, 20, [], []), .inr (0, 20, [], []), .inr (0, 20, [], []), .inr (0, 20, [], []), .inr (0, 20, [], []), .inr (0, 6, [], []), .inr (0, 10, [], []), .inl (5, [.ref 12, .int 0, .ref 13, .int 0]), .inr (0, 121, [], []), .inr (0, 121, [], []), .inl (5, [.ref 15, .int 0, .ref 16, .int 0]), .inr (0, 121, [], []), .inr (0, 121, [], []), .inr (0, 120, [], []), .inl (6, [.ref 19, .int 0, .ref 20, .int 0, .int 0, .int 0, .int 0, .int 1, .int 0]), .inr (0, 121, [], []), .inr (0, 120, [], []), .inl (7, [.int 0, .ref 22, .ref 23, .ref 24, .int 0, .int 0, .int 0, .int 0, .ref 25]), .inr (0, 60, [], []), .inr (0, 60, [], []), .inr (0, 60, [], []), .inr (0, 20, [], [])]
set_option maxHeartbeats 4000000 in
set_option maxRecDepth 100000 in
theorem ct_4 {l : Launch} (d : Nat) : GoB l (d + 1) mX7_init cs_10 4 200 0 0 0 [(0, .ref 21)] [] cs_9 := by
  refine GoB.aload_n dX7_init_0 rfl ?_
  refine GoB.objInit dX7_init_1 lo_X7_3 oi_in oi_co (Nat.le_of_ble_eq_true rfl) ?_
  refine GoB.aload_n dX7_init_4 rfl ?_
  refine GoB.iconst (v := 0) dX7_init_5 (by decide) ?_
  refine GoB.put dX7_init_6 gX7_9 rfl (by decide) (fun _ => rfl) (fun _ => rfl) ?_
  refine GoB.aload_n dX7_init_9 rfl ?_
  refine GoB.bipush (v := 60) dX7_init_10 (by decide) ?_
  refine GoB.newa (kd := 0) (N := 60) dX7_init_12 aw_int (by decide) (by decide) (by decide) (by decide) (by decide) (by decide) ?_
  refine GoB.put dX7_init_14 gX7_15 rfl (by decide) (fun _ => rfl) (fun _ => rfl) ?_
  refine GoB.aload_n dX7_init_17 rfl ?_
  refine GoB.bipush (v := 60) dX7_init_18 (by decide) ?_
  refine GoB.newa (kd := 0) (N := 60) dX7_init_20 aw_int (by decide) (by decide) (by decide) (by decide) (by decide) (by decide) ?_
  refine GoB.put dX7_init_22 gX7_19 rfl (by decide) (fun _ => rfl) (fun _ => rfl) ?_
  refine GoB.aload_n dX7_init_25 rfl ?_
  refine GoB.bipush (v := 60) dX7_init_26 (by decide) ?_
  refine GoB.newa (kd := 0) (N := 60) dX7_init_28 aw_int (by decide) (by decide) (by decide) (by decide) (by decide) (by decide) ?_
  refine GoB.put dX7_init_30 gX7_22 rfl (by decide) (fun _ => rfl) (fun _ => rfl) ?_
  refine GoB.aload_n dX7_init_33 rfl ?_
  refine GoB.iconst (v := 0) dX7_init_34 (by decide) ?_
  refine GoB.put dX7_init_35 gX7_25 rfl (by decide) (fun _ => rfl) (fun _ => rfl) ?_
  refine GoB.aload_n dX7_init_38 rfl ?_
  refine GoB.iconst (v := 0) dX7_init_39 (by decide) ?_
  refine GoB.put dX7_init_40 gX7_28 rfl (by decide) (fun _ => rfl) (fun _ => rfl) ?_
  refine GoB.aload_n dX7_init_43 rfl ?_
  refine GoB.iconst (v := 0) dX7_init_44 (by decide) ?_
  refine GoB.put dX7_init_45 gX7_31 rfl (by decide) (fun _ => rfl) (fun _ => rfl) ?_
  refine GoB.aload_n dX7_init_48 rfl ?_
  refine GoB.iconst (v := 0) dX7_init_49 (by decide) ?_
  refine GoB.put dX7_init_50 gX7_34 rfl (by decide) (fun _ => rfl) (fun _ => rfl) ?_
  refine GoB.aload_n dX7_init_53 rfl ?_
  refine GoB.bipush (v := 20) dX7_init_54 (by decide) ?_
  refine GoB.newa (kd := 0) (N := 20) dX7_init_56 aw_int (by decide) (by decide) (by decide) (by decide) (by decide) (by decide) ?_
  refine GoB.put dX7_init_58 gX7_37 rfl (by decide) (fun _ => rfl) (fun _ => rfl) ?_
  exact GoB.vret dX7_init_61 rfl (by decide) (by decide) rfl
theorem gX11_34 : FL2 RX11 34 11 4 true (.object "WhoPrompts$Night") := ⟨RX11, TX11, 13, tyX11, rfl, by decide, gt_mem 365 (by decide +kernel) (by decide +kernel), iw_X11, tyX11_ok, nmX11, rfl, by decide +kernel, rfl⟩
abbrev cs_11 : List CB := [.inl (11, [.ref 1, .ref 17, .int 0, .ref 18, .ref 21, .null, .null, .null, .null, .null, .null, .null, .null]), .inl (8, [.int 0, .ref 2, .ref 3, .ref 4, .ref 5, .ref 6, .ref 7, .ref 8, .ref 9, .ref 10, .int 2, .int 0, .ref 11, .ref 14]), .inr (0, 20, [], []), .inr (0, 20, [], []), .inr (0, 20, [], []), .inr (0, 20, [], []), .inr (0, 20, [], []), .inr (0, 20, [], []), .inr (0, 20, [], []), .inr (0, 6, [], []), .inr (0, 10, [], []), .inl (5, [.ref 12, .int 0, .ref 13, .int 0]), .inr (0, 121, [], []), .inr (0, 121, [], []), .inl (5, [.ref 15, .int 0, .ref 16, .int 0]), .inr (0, 121, [], []), .inr (0, 121, [], []), .inr (0, 120, [], []), .inl (6, [.ref 19, .int 0, .ref 20, .int 0, .int 0, .int 0, .int 0, .int 1, .int 0]), .inr (0, 121, [], []), .inr (0, 120, [], []), .inl (7, [.int 0, .ref 22, .ref 23, .ref 24, .int 0, .int 0, .int 0, .int 0, .ref 25]), .inr (0, 60, [], []), .inr (0, 60, [], []), .inr (0, 60, [], []), .inr (0, 20, [], []), .inl (7, [.int 0, .null, .null, .null, .int 0, .int 0, .int 0, .int 0, .null])]
abbrev cs_12 : List CB := [.inl (11, [.ref 1, .ref 17, .int 0, .ref 18, .ref 21, .null, .null, .null, .null, .null, .null, .null, .null]), .inl (8, [.int 0, .ref 2, .ref 3, .ref 4, .ref 5, .ref 6, .ref 7, .ref 8, .ref 9, .ref 10, .int 2, .int 0, .ref 11, .ref 14]), .inr (0, 20, [], []), .inr (0, 20, [], []), .inr (0, 20, [], []), .inr (0, 20, [], []), .inr (0, 20, [], []), .inr (0, 20, [], []), .inr (0, 20, [], []), .inr (0, 6, [], []), .inr (0, 10, [], []), .inl (5, [.ref 12, .int 0, .ref 13, .int 0]), .inr (0, 121, [], []), .inr (0, 121, [], []), .inl (5, [.ref 15, .int 0, .ref 16, .int 0]), .inr (0, 121, [], []), .inr (0, 121, [], []), .inr (0, 120, [], []), .inl (6, [.ref 19, .int 0, .ref 20, .int 0, .int 0, .int 0, .int 0, .int 1, .int 0]), .inr (0, 121, [], []), .inr (0, 120, [], []), .inl (7, [.int 0, .ref 22, .ref 23, .ref 24, .int 0, .int 0, .int 0, .int 0, .ref 25]), .inr (0, 60, [], []), .inr (0, 60, [], []), .inr (0, 60, [], []), .inr (0, 20, [], []), .inl (7, [.int 0, .ref 27, .ref 28, .ref 29, .int 0, .int 0, .int 0, .int 0, .ref 30]), .inr (0, 60, [], []), .inr (0, 60, [], []), .inr (0, 60, [], []), .inr (0, 20, [], [])]
set_option maxHeartbeats 4000000 in
set_option maxRecDepth 100000 in
theorem ct_5 {l : Launch} (d : Nat) : GoB l (d + 1) mX7_init cs_12 4 200 0 0 0 [(0, .ref 26)] [] cs_11 := by
  refine GoB.aload_n dX7_init_0 rfl ?_
  refine GoB.objInit dX7_init_1 lo_X7_3 oi_in oi_co (Nat.le_of_ble_eq_true rfl) ?_
  refine GoB.aload_n dX7_init_4 rfl ?_
  refine GoB.iconst (v := 0) dX7_init_5 (by decide) ?_
  refine GoB.put dX7_init_6 gX7_9 rfl (by decide) (fun _ => rfl) (fun _ => rfl) ?_
  refine GoB.aload_n dX7_init_9 rfl ?_
  refine GoB.bipush (v := 60) dX7_init_10 (by decide) ?_
  refine GoB.newa (kd := 0) (N := 60) dX7_init_12 aw_int (by decide) (by decide) (by decide) (by decide) (by decide) (by decide) ?_
  refine GoB.put dX7_init_14 gX7_15 rfl (by decide) (fun _ => rfl) (fun _ => rfl) ?_
  refine GoB.aload_n dX7_init_17 rfl ?_
  refine GoB.bipush (v := 60) dX7_init_18 (by decide) ?_
  refine GoB.newa (kd := 0) (N := 60) dX7_init_20 aw_int (by decide) (by decide) (by decide) (by decide) (by decide) (by decide) ?_
  refine GoB.put dX7_init_22 gX7_19 rfl (by decide) (fun _ => rfl) (fun _ => rfl) ?_
  refine GoB.aload_n dX7_init_25 rfl ?_
  refine GoB.bipush (v := 60) dX7_init_26 (by decide) ?_
  refine GoB.newa (kd := 0) (N := 60) dX7_init_28 aw_int (by decide) (by decide) (by decide) (by decide) (by decide) (by decide) ?_
  refine GoB.put dX7_init_30 gX7_22 rfl (by decide) (fun _ => rfl) (fun _ => rfl) ?_
  refine GoB.aload_n dX7_init_33 rfl ?_
  refine GoB.iconst (v := 0) dX7_init_34 (by decide) ?_
  refine GoB.put dX7_init_35 gX7_25 rfl (by decide) (fun _ => rfl) (fun _ => rfl) ?_
  refine GoB.aload_n dX7_init_38 rfl ?_
  refine GoB.iconst (v := 0) dX7_init_39 (by decide) ?_
  refine GoB.put dX7_init_40 gX7_28 rfl (by decide) (fun _ => rfl) (fun _ => rfl) ?_
  refine GoB.aload_n dX7_init_43 rfl ?_
  refine GoB.iconst (v := 0) dX7_init_44 (by decide) ?_
  refine GoB.put dX7_init_45 gX7_31 rfl (by decide) (fun _ => rfl) (fun _ => rfl) ?_
  refine GoB.aload_n dX7_init_48 rfl ?_
  refine GoB.iconst (v := 0) dX7_init_49 (by decide) ?_
  refine GoB.put dX7_init_50 gX7_34 rfl (by decide) (fun _ => rfl) (fun _ => rfl) ?_
  refine GoB.aload_n dX7_init_53 rfl ?_
  refine GoB.bipush (v := 20) dX7_init_54 (by decide) ?_
  refine GoB.newa (kd := 0) (N := 20) dX7_init_56 aw_int (by decide) (by decide) (by decide) (by decide) (by decide) (by decide) ?_
  refine GoB.put dX7_init_58 gX7_37 rfl (by decide) (fun _ => rfl) (fun _ => rfl) ?_
  exact GoB.vret dX7_init_61 rfl (by decide) (by decide) rfl
theorem gX11_38 : FL2 RX11 38 11 5 true (.object "WhoPrompts$Night") := ⟨RX11, TX11, 13, tyX11, rfl, by decide, gt_mem 366 (by decide +kernel) (by decide +kernel), iw_X11, tyX11_ok, nmX11, rfl, by decide +kernel, rfl⟩
abbrev cs_13 : List CB := [.inl (11, [.ref 1, .ref 17, .int 0, .ref 18, .ref 21, .ref 26, .null, .null, .null, .null, .null, .null, .null]), .inl (8, [.int 0, .ref 2, .ref 3, .ref 4, .ref 5, .ref 6, .ref 7, .ref 8, .ref 9, .ref 10, .int 2, .int 0, .ref 11, .ref 14]), .inr (0, 20, [], []), .inr (0, 20, [], []), .inr (0, 20, [], []), .inr (0, 20, [], []), .inr (0, 20, [], []), .inr (0, 20, [], []), .inr (0, 20, [], []), .inr (0, 6, [], []), .inr (0, 10, [], []), .inl (5, [.ref 12, .int 0, .ref 13, .int 0]), .inr (0, 121, [], []), .inr (0, 121, [], []), .inl (5, [.ref 15, .int 0, .ref 16, .int 0]), .inr (0, 121, [], []), .inr (0, 121, [], []), .inr (0, 120, [], []), .inl (6, [.ref 19, .int 0, .ref 20, .int 0, .int 0, .int 0, .int 0, .int 1, .int 0]), .inr (0, 121, [], []), .inr (0, 120, [], []), .inl (7, [.int 0, .ref 22, .ref 23, .ref 24, .int 0, .int 0, .int 0, .int 0, .ref 25]), .inr (0, 60, [], []), .inr (0, 60, [], []), .inr (0, 60, [], []), .inr (0, 20, [], []), .inl (7, [.int 0, .ref 27, .ref 28, .ref 29, .int 0, .int 0, .int 0, .int 0, .ref 30]), .inr (0, 60, [], []), .inr (0, 60, [], []), .inr (0, 60, [], []), .inr (0, 20, [], []), .inl (10, [.null, .null, .int 0])]
theorem gX10_11 : FL2 RX10 11 10 0 true (.array .int) := ⟨RX10, TX10, 3, tyX10, rfl, by decide, gt_mem 208 (by decide +kernel) (by decide +kernel), iw_X10, tyX10_ok, nmX10, rfl, by decide +kernel, rfl⟩
theorem gX10_15 : FL2 RX10 15 10 1 true (.array .int) := ⟨RX10, TX10, 3, tyX10, rfl, by decide, gt_mem 209 (by decide +kernel) (by decide +kernel), iw_X10, tyX10_ok, nmX10, rfl, by decide +kernel, rfl⟩
theorem gX10_18 : FL2 RX10 18 10 2 false .int := ⟨RX10, TX10, 3, tyX10, rfl, by decide, gt_mem 210 (by decide +kernel) (by decide +kernel), iw_X10, tyX10_ok, nmX10, rfl, by decide +kernel, rfl⟩
abbrev cs_14 : List CB := [.inl (11, [.ref 1, .ref 17, .int 0, .ref 18, .ref 21, .ref 26, .null, .null, .null, .null, .null, .null, .null]), .inl (8, [.int 0, .ref 2, .ref 3, .ref 4, .ref 5, .ref 6, .ref 7, .ref 8, .ref 9, .ref 10, .int 2, .int 0, .ref 11, .ref 14]), .inr (0, 20, [], []), .inr (0, 20, [], []), .inr (0, 20, [], []), .inr (0, 20, [], []), .inr (0, 20, [], []), .inr (0, 20, [], []), .inr (0, 20, [], []), .inr (0, 6, [], []), .inr (0, 10, [], []), .inl (5, [.ref 12, .int 0, .ref 13, .int 0]), .inr (0, 121, [], []), .inr (0, 121, [], []), .inl (5, [.ref 15, .int 0, .ref 16, .int 0]), .inr (0, 121, [], []), .inr (0, 121, [], []), .inr (0, 120, [], []), .inl (6, [.ref 19, .int 0, .ref 20, .int 0, .int 0, .int 0, .int 0, .int 1, .int 0]), .inr (0, 121, [], []), .inr (0, 120, [], []), .inl (7, [.int 0, .ref 22, .ref 23, .ref 24, .int 0, .int 0, .int 0, .int 0, .ref 25]), .inr (0, 60, [], []), .inr (0, 60, [], []), .inr (0, 60, [], []), .inr (0, 20, [], []), .inl (7, [.int 0, .ref 27, .ref 28, .ref 29, .int 0, .int 0, .int 0, .int 0, .ref 30]), .inr (0, 60, [], []), .inr (0, 60, [], []), .inr (0, 60, [], []), .inr (0, 20, [], []), .inl (10, [.ref 32, .ref 33, .int 0]), .inr (0, 256, [], []), .inr (0, 5121, [], [])]
set_option maxHeartbeats 4000000 in
set_option maxRecDepth 100000 in
theorem ct_6 {l : Launch} (d : Nat) : GoB l (d + 1) mX10_init cs_14 2 5377 0 0 0 [(0, .ref 31)] [] cs_13 := by
  refine GoB.aload_n dX10_init_0 rfl ?_
  refine GoB.objInit dX10_init_1 lo_X10_3 oi_in oi_co (Nat.le_of_ble_eq_true rfl) ?_
  refine GoB.aload_n dX10_init_4 rfl ?_
  refine GoB.sipush (v := 256) dX10_init_5 (by decide) ?_
  refine GoB.newa (kd := 0) (N := 256) dX10_init_8 aw_int (by decide) (by decide) (by decide) (by decide) (by decide) (by decide) ?_
  refine GoB.put dX10_init_10 gX10_11 rfl (by decide) (fun _ => rfl) (fun _ => rfl) ?_
  refine GoB.aload_n dX10_init_13 rfl ?_
  refine GoB.sipush (v := 5121) dX10_init_14 (by decide) ?_
  refine GoB.newa (kd := 0) (N := 5121) dX10_init_17 aw_int (by decide) (by decide) (by decide) (by decide) (by decide) (by decide) ?_
  refine GoB.put dX10_init_19 gX10_15 rfl (by decide) (fun _ => rfl) (fun _ => rfl) ?_
  refine GoB.aload_n dX10_init_22 rfl ?_
  refine GoB.iconst (v := 0) dX10_init_23 (by decide) ?_
  refine GoB.put dX10_init_24 gX10_18 rfl (by decide) (fun _ => rfl) (fun _ => rfl) ?_
  exact GoB.vret dX10_init_27 rfl (by decide) (by decide) rfl
theorem gX11_44 : FL2 RX11 44 11 6 true (.object "WhoPrompts$WayBack") := ⟨RX11, TX11, 13, tyX11, rfl, by decide, gt_mem 367 (by decide +kernel) (by decide +kernel), iw_X11, tyX11_ok, nmX11, rfl, by decide +kernel, rfl⟩
abbrev cs_15 : List CB := [.inl (11, [.ref 1, .ref 17, .int 0, .ref 18, .ref 21, .ref 26, .ref 31, .null, .null, .null, .null, .null, .null]), .inl (8, [.int 0, .ref 2, .ref 3, .ref 4, .ref 5, .ref 6, .ref 7, .ref 8, .ref 9, .ref 10, .int 2, .int 0, .ref 11, .ref 14]), .inr (0, 20, [], []), .inr (0, 20, [], []), .inr (0, 20, [], []), .inr (0, 20, [], []), .inr (0, 20, [], []), .inr (0, 20, [], []), .inr (0, 20, [], []), .inr (0, 6, [], []), .inr (0, 10, [], []), .inl (5, [.ref 12, .int 0, .ref 13, .int 0]), .inr (0, 121, [], []), .inr (0, 121, [], []), .inl (5, [.ref 15, .int 0, .ref 16, .int 0]), .inr (0, 121, [], []), .inr (0, 121, [], []), .inr (0, 120, [], []), .inl (6, [.ref 19, .int 0, .ref 20, .int 0, .int 0, .int 0, .int 0, .int 1, .int 0]), .inr (0, 121, [], []), .inr (0, 120, [], []), .inl (7, [.int 0, .ref 22, .ref 23, .ref 24, .int 0, .int 0, .int 0, .int 0, .ref 25]), .inr (0, 60, [], []), .inr (0, 60, [], []), .inr (0, 60, [], []), .inr (0, 20, [], []), .inl (7, [.int 0, .ref 27, .ref 28, .ref 29, .int 0, .int 0, .int 0, .int 0, .ref 30]), .inr (0, 60, [], []), .inr (0, 60, [], []), .inr (0, 60, [], []), .inr (0, 20, [], []), .inl (10, [.ref 32, .ref 33, .int 0]), .inr (0, 256, [], []), .inr (0, 5121, [], []), .inl (3, [.int 0, .null, .null, .null, .null])]
theorem gX3_9 : FL2 RX3 9 3 0 false .int := ⟨RX3, TX3, 5, tyX3, rfl, by decide, gt_mem 224 (by decide +kernel) (by decide +kernel), iw_X3, tyX3_ok, nmX3, rfl, by decide +kernel, rfl⟩
theorem gX3_15 : FL2 RX3 15 3 1 true (.array .int) := ⟨RX3, TX3, 5, tyX3, rfl, by decide, gt_mem 226 (by decide +kernel) (by decide +kernel), iw_X3, tyX3_ok, nmX3, rfl, by decide +kernel, rfl⟩
theorem gX3_19 : FL2 RX3 19 3 2 true (.array .int) := ⟨RX3, TX3, 5, tyX3, rfl, by decide, gt_mem 228 (by decide +kernel) (by decide +kernel), iw_X3, tyX3_ok, nmX3, rfl, by decide +kernel, rfl⟩
theorem gX3_22 : FL2 RX3 22 3 3 true (.array .int) := ⟨RX3, TX3, 5, tyX3, rfl, by decide, gt_mem 229 (by decide +kernel) (by decide +kernel), iw_X3, tyX3_ok, nmX3, rfl, by decide +kernel, rfl⟩
theorem gX3_25 : FL2 RX3 25 3 4 true (.array .int) := ⟨RX3, TX3, 5, tyX3, rfl, by decide, gt_mem 230 (by decide +kernel) (by decide +kernel), iw_X3, tyX3_ok, nmX3, rfl, by decide +kernel, rfl⟩
abbrev cs_16 : List CB := [.inl (11, [.ref 1, .ref 17, .int 0, .ref 18, .ref 21, .ref 26, .ref 31, .null, .null, .null, .null, .null, .null]), .inl (8, [.int 0, .ref 2, .ref 3, .ref 4, .ref 5, .ref 6, .ref 7, .ref 8, .ref 9, .ref 10, .int 2, .int 0, .ref 11, .ref 14]), .inr (0, 20, [], []), .inr (0, 20, [], []), .inr (0, 20, [], []), .inr (0, 20, [], []), .inr (0, 20, [], []), .inr (0, 20, [], []), .inr (0, 20, [], []), .inr (0, 6, [], []), .inr (0, 10, [], []), .inl (5, [.ref 12, .int 0, .ref 13, .int 0]), .inr (0, 121, [], []), .inr (0, 121, [], []), .inl (5, [.ref 15, .int 0, .ref 16, .int 0]), .inr (0, 121, [], []), .inr (0, 121, [], []), .inr (0, 120, [], []), .inl (6, [.ref 19, .int 0, .ref 20, .int 0, .int 0, .int 0, .int 0, .int 1, .int 0]), .inr (0, 121, [], []), .inr (0, 120, [], []), .inl (7, [.int 0, .ref 22, .ref 23, .ref 24, .int 0, .int 0, .int 0, .int 0, .ref 25]), .inr (0, 60, [], []), .inr (0, 60, [], []), .inr (0, 60, [], []), .inr (0, 20, [], []), .inl (7, [.int 0, .ref 27, .ref 28, .ref 29, .int 0, .int 0, .int 0, .int 0, .ref 30]), .inr (0, 60, [], []), .inr (0, 60, [], []), .inr (0, 60, [], []), .inr (0, 20, [], []), .inl (10, [.ref 32, .ref 33, .int 0]), .inr (0, 256, [], []), .inr (0, 5121, [], []), .inl (3, [.int 0, .ref 35, .ref 36, .ref 37, .ref 38]), .inr (0, 20, [], []), .inr (0, 20, [], []), .inr (0, 20, [], []), .inr (0, 20, [], [])]
set_option maxHeartbeats 4000000 in
set_option maxRecDepth 100000 in
theorem ct_7 {l : Launch} (d : Nat) : GoB l (d + 1) mX3_init cs_16 4 80 0 0 0 [(0, .ref 34)] [] cs_15 := by
  refine GoB.aload_n dX3_init_0 rfl ?_
  refine GoB.objInit dX3_init_1 lo_X3_3 oi_in oi_co (Nat.le_of_ble_eq_true rfl) ?_
  refine GoB.aload_n dX3_init_4 rfl ?_
  refine GoB.iconst (v := 0) dX3_init_5 (by decide) ?_
  refine GoB.put dX3_init_6 gX3_9 rfl (by decide) (fun _ => rfl) (fun _ => rfl) ?_
  refine GoB.aload_n dX3_init_9 rfl ?_
  refine GoB.bipush (v := 20) dX3_init_10 (by decide) ?_
  refine GoB.newa (kd := 0) (N := 20) dX3_init_12 aw_int (by decide) (by decide) (by decide) (by decide) (by decide) (by decide) ?_
  refine GoB.put dX3_init_14 gX3_15 rfl (by decide) (fun _ => rfl) (fun _ => rfl) ?_
  refine GoB.aload_n dX3_init_17 rfl ?_
  refine GoB.bipush (v := 20) dX3_init_18 (by decide) ?_
  refine GoB.newa (kd := 0) (N := 20) dX3_init_20 aw_int (by decide) (by decide) (by decide) (by decide) (by decide) (by decide) ?_
  refine GoB.put dX3_init_22 gX3_19 rfl (by decide) (fun _ => rfl) (fun _ => rfl) ?_
  refine GoB.aload_n dX3_init_25 rfl ?_
  refine GoB.bipush (v := 20) dX3_init_26 (by decide) ?_
  refine GoB.newa (kd := 0) (N := 20) dX3_init_28 aw_int (by decide) (by decide) (by decide) (by decide) (by decide) (by decide) ?_
  refine GoB.put dX3_init_30 gX3_22 rfl (by decide) (fun _ => rfl) (fun _ => rfl) ?_
  refine GoB.aload_n dX3_init_33 rfl ?_
  refine GoB.bipush (v := 20) dX3_init_34 (by decide) ?_
  refine GoB.newa (kd := 0) (N := 20) dX3_init_36 aw_int (by decide) (by decide) (by decide) (by decide) (by decide) (by decide) ?_
  refine GoB.put dX3_init_38 gX3_25 rfl (by decide) (fun _ => rfl) (fun _ => rfl) ?_
  exact GoB.vret dX3_init_41 rfl (by decide) (by decide) rfl
theorem gX11_51 : FL2 RX11 51 11 7 true (.object "WhoPrompts$Evenings") := ⟨RX11, TX11, 13, tyX11, rfl, by decide, gt_mem 368 (by decide +kernel) (by decide +kernel), iw_X11, tyX11_ok, nmX11, rfl, by decide +kernel, rfl⟩
abbrev cs_17 : List CB := [.inl (11, [.ref 1, .ref 17, .int 0, .ref 18, .ref 21, .ref 26, .ref 31, .ref 34, .null, .null, .null, .null, .null]), .inl (8, [.int 0, .ref 2, .ref 3, .ref 4, .ref 5, .ref 6, .ref 7, .ref 8, .ref 9, .ref 10, .int 2, .int 0, .ref 11, .ref 14]), .inr (0, 20, [], []), .inr (0, 20, [], []), .inr (0, 20, [], []), .inr (0, 20, [], []), .inr (0, 20, [], []), .inr (0, 20, [], []), .inr (0, 20, [], []), .inr (0, 6, [], []), .inr (0, 10, [], []), .inl (5, [.ref 12, .int 0, .ref 13, .int 0]), .inr (0, 121, [], []), .inr (0, 121, [], []), .inl (5, [.ref 15, .int 0, .ref 16, .int 0]), .inr (0, 121, [], []), .inr (0, 121, [], []), .inr (0, 120, [], []), .inl (6, [.ref 19, .int 0, .ref 20, .int 0, .int 0, .int 0, .int 0, .int 1, .int 0]), .inr (0, 121, [], []), .inr (0, 120, [], []), .inl (7, [.int 0, .ref 22, .ref 23, .ref 24, .int 0, .int 0, .int 0, .int 0, .ref 25]), .inr (0, 60, [], []), .inr (0, 60, [], []), .inr (0, 60, [], []), .inr (0, 20, [], []), .inl (7, [.int 0, .ref 27, .ref 28, .ref 29, .int 0, .int 0, .int 0, .int 0, .ref 30]), .inr (0, 60, [], []), .inr (0, 60, [], []), .inr (0, 60, [], []), .inr (0, 20, [], []), .inl (10, [.ref 32, .ref 33, .int 0]), .inr (0, 256, [], []), .inr (0, 5121, [], []), .inl (3, [.int 0, .ref 35, .ref 36, .ref 37, .ref 38]), .inr (0, 20, [], []), .inr (0, 20, [], []), .inr (0, 20, [], []), .inr (0, 20, [], []), .inl (2, [.int 0, .int 0, .int 0])]
theorem gX2_7 : FL2 RX2 7 2 0 false .int := ⟨RX2, TX2, 3, tyX2, rfl, by decide, gt_mem 248 (by decide +kernel) (by decide +kernel), iw_X2, tyX2_ok, nmX2, rfl, by decide +kernel, rfl⟩
theorem gX2_13 : FL2 RX2 13 2 1 false .int := ⟨RX2, TX2, 3, tyX2, rfl, by decide, gt_mem 250 (by decide +kernel) (by decide +kernel), iw_X2, tyX2_ok, nmX2, rfl, by decide +kernel, rfl⟩
theorem gX2_16 : FL2 RX2 16 2 2 false .int := ⟨RX2, TX2, 3, tyX2, rfl, by decide, gt_mem 252 (by decide +kernel) (by decide +kernel), iw_X2, tyX2_ok, nmX2, rfl, by decide +kernel, rfl⟩
set_option maxHeartbeats 4000000 in
set_option maxRecDepth 100000 in
theorem ct_8 {l : Launch} (d : Nat) : GoB l (d + 1) mX2_init cs_17 0 0 0 0 0 [(0, .ref 39)] [] cs_17 := by
  refine GoB.aload_n dX2_init_0 rfl ?_
  refine GoB.objInit dX2_init_1 lo_X2_1 oi_in oi_co (Nat.le_of_ble_eq_true rfl) ?_
  refine GoB.aload_n dX2_init_4 rfl ?_
  refine GoB.iconst (v := 0) dX2_init_5 (by decide) ?_
  refine GoB.put dX2_init_6 gX2_7 rfl (by decide) (fun _ => rfl) (fun _ => rfl) ?_
  refine GoB.aload_n dX2_init_9 rfl ?_
  refine GoB.iconst (v := 0) dX2_init_10 (by decide) ?_
  refine GoB.put dX2_init_11 gX2_13 rfl (by decide) (fun _ => rfl) (fun _ => rfl) ?_
  refine GoB.aload_n dX2_init_14 rfl ?_
  refine GoB.iconst (v := 0) dX2_init_15 (by decide) ?_
  refine GoB.put dX2_init_16 gX2_16 rfl (by decide) (fun _ => rfl) (fun _ => rfl) ?_
  exact GoB.vret dX2_init_19 rfl (by decide) (by decide) rfl
theorem gX11_58 : FL2 RX11 58 11 8 true (.object "WhoPrompts$Cutting") := ⟨RX11, TX11, 13, tyX11, rfl, by decide, gt_mem 369 (by decide +kernel) (by decide +kernel), iw_X11, tyX11_ok, nmX11, rfl, by decide +kernel, rfl⟩
abbrev cs_18 : List CB := [.inl (11, [.ref 1, .ref 17, .int 0, .ref 18, .ref 21, .ref 26, .ref 31, .ref 34, .ref 39, .null, .null, .null, .null]), .inl (8, [.int 0, .ref 2, .ref 3, .ref 4, .ref 5, .ref 6, .ref 7, .ref 8, .ref 9, .ref 10, .int 2, .int 0, .ref 11, .ref 14]), .inr (0, 20, [], []), .inr (0, 20, [], []), .inr (0, 20, [], []), .inr (0, 20, [], []), .inr (0, 20, [], []), .inr (0, 20, [], []), .inr (0, 20, [], []), .inr (0, 6, [], []), .inr (0, 10, [], []), .inl (5, [.ref 12, .int 0, .ref 13, .int 0]), .inr (0, 121, [], []), .inr (0, 121, [], []), .inl (5, [.ref 15, .int 0, .ref 16, .int 0]), .inr (0, 121, [], []), .inr (0, 121, [], []), .inr (0, 120, [], []), .inl (6, [.ref 19, .int 0, .ref 20, .int 0, .int 0, .int 0, .int 0, .int 1, .int 0]), .inr (0, 121, [], []), .inr (0, 120, [], []), .inl (7, [.int 0, .ref 22, .ref 23, .ref 24, .int 0, .int 0, .int 0, .int 0, .ref 25]), .inr (0, 60, [], []), .inr (0, 60, [], []), .inr (0, 60, [], []), .inr (0, 20, [], []), .inl (7, [.int 0, .ref 27, .ref 28, .ref 29, .int 0, .int 0, .int 0, .int 0, .ref 30]), .inr (0, 60, [], []), .inr (0, 60, [], []), .inr (0, 60, [], []), .inr (0, 20, [], []), .inl (10, [.ref 32, .ref 33, .int 0]), .inr (0, 256, [], []), .inr (0, 5121, [], []), .inl (3, [.int 0, .ref 35, .ref 36, .ref 37, .ref 38]), .inr (0, 20, [], []), .inr (0, 20, [], []), .inr (0, 20, [], []), .inr (0, 20, [], []), .inl (2, [.int 0, .int 0, .int 0]), .inl (4, [.int 0, .null, .int 0, .int 0])]
theorem gX4_9 : FL2 RX4 9 4 0 false .int := ⟨RX4, TX4, 4, tyX4, rfl, by decide, gt_mem 266 (by decide +kernel) (by decide +kernel), iw_X4, tyX4_ok, nmX4, rfl, by decide +kernel, rfl⟩
theorem gX4_15 : FL2 RX4 15 4 1 true (.array .int) := ⟨RX4, TX4, 4, tyX4, rfl, by decide, gt_mem 268 (by decide +kernel) (by decide +kernel), iw_X4, tyX4_ok, nmX4, rfl, by decide +kernel, rfl⟩
theorem gX4_19 : FL2 RX4 19 4 2 false .int := ⟨RX4, TX4, 4, tyX4, rfl, by decide, gt_mem 269 (by decide +kernel) (by decide +kernel), iw_X4, tyX4_ok, nmX4, rfl, by decide +kernel, rfl⟩
theorem gX4_22 : FL2 RX4 22 4 3 false .int := ⟨RX4, TX4, 4, tyX4, rfl, by decide, gt_mem 270 (by decide +kernel) (by decide +kernel), iw_X4, tyX4_ok, nmX4, rfl, by decide +kernel, rfl⟩
abbrev cs_19 : List CB := [.inl (11, [.ref 1, .ref 17, .int 0, .ref 18, .ref 21, .ref 26, .ref 31, .ref 34, .ref 39, .null, .null, .null, .null]), .inl (8, [.int 0, .ref 2, .ref 3, .ref 4, .ref 5, .ref 6, .ref 7, .ref 8, .ref 9, .ref 10, .int 2, .int 0, .ref 11, .ref 14]), .inr (0, 20, [], []), .inr (0, 20, [], []), .inr (0, 20, [], []), .inr (0, 20, [], []), .inr (0, 20, [], []), .inr (0, 20, [], []), .inr (0, 20, [], []), .inr (0, 6, [], []), .inr (0, 10, [], []), .inl (5, [.ref 12, .int 0, .ref 13, .int 0]), .inr (0, 121, [], []), .inr (0, 121, [], []), .inl (5, [.ref 15, .int 0, .ref 16, .int 0]), .inr (0, 121, [], []), .inr (0, 121, [], []), .inr (0, 120, [], []), .inl (6, [.ref 19, .int 0, .ref 20, .int 0, .int 0, .int 0, .int 0, .int 1, .int 0]), .inr (0, 121, [], []), .inr (0, 120, [], []), .inl (7, [.int 0, .ref 22, .ref 23, .ref 24, .int 0, .int 0, .int 0, .int 0, .ref 25]), .inr (0, 60, [], []), .inr (0, 60, [], []), .inr (0, 60, [], []), .inr (0, 20, [], []), .inl (7, [.int 0, .ref 27, .ref 28, .ref 29, .int 0, .int 0, .int 0, .int 0, .ref 30]), .inr (0, 60, [], []), .inr (0, 60, [], []), .inr (0, 60, [], []), .inr (0, 20, [], []), .inl (10, [.ref 32, .ref 33, .int 0]), .inr (0, 256, [], []), .inr (0, 5121, [], []), .inl (3, [.int 0, .ref 35, .ref 36, .ref 37, .ref 38]), .inr (0, 20, [], []), .inr (0, 20, [], []), .inr (0, 20, [], []), .inr (0, 20, [], []), .inl (2, [.int 0, .int 0, .int 0]), .inl (4, [.int (-1), .ref 41, .int 0, .int 0]), .inr (0, 20, [], [])]
set_option maxHeartbeats 4000000 in
set_option maxRecDepth 100000 in
theorem ct_9 {l : Launch} (d : Nat) : GoB l (d + 1) mX4_init cs_19 1 20 0 0 0 [(0, .ref 40)] [] cs_18 := by
  refine GoB.aload_n dX4_init_0 rfl ?_
  refine GoB.objInit dX4_init_1 lo_X4_3 oi_in oi_co (Nat.le_of_ble_eq_true rfl) ?_
  refine GoB.aload_n dX4_init_4 rfl ?_
  refine GoB.iconst (v := (-1)) dX4_init_5 (by decide) ?_
  refine GoB.put dX4_init_6 gX4_9 rfl (by decide) (fun _ => rfl) (fun _ => rfl) ?_
  refine GoB.aload_n dX4_init_9 rfl ?_
  refine GoB.bipush (v := 20) dX4_init_10 (by decide) ?_
  refine GoB.newa (kd := 0) (N := 20) dX4_init_12 aw_int (by decide) (by decide) (by decide) (by decide) (by decide) (by decide) ?_
  refine GoB.put dX4_init_14 gX4_15 rfl (by decide) (fun _ => rfl) (fun _ => rfl) ?_
  refine GoB.aload_n dX4_init_17 rfl ?_
  refine GoB.iconst (v := 0) dX4_init_18 (by decide) ?_
  refine GoB.put dX4_init_19 gX4_19 rfl (by decide) (fun _ => rfl) (fun _ => rfl) ?_
  refine GoB.aload_n dX4_init_22 rfl ?_
  refine GoB.iconst (v := 0) dX4_init_23 (by decide) ?_
  refine GoB.put dX4_init_24 gX4_22 rfl (by decide) (fun _ => rfl) (fun _ => rfl) ?_
  exact GoB.vret dX4_init_27 rfl (by decide) (by decide) rfl
theorem gX11_65 : FL2 RX11 65 11 9 true (.object "WhoPrompts$Image") := ⟨RX11, TX11, 13, tyX11, rfl, by decide, gt_mem 370 (by decide +kernel) (by decide +kernel), iw_X11, tyX11_ok, nmX11, rfl, by decide +kernel, rfl⟩
abbrev cs_20 : List CB := [.inl (11, [.ref 1, .ref 17, .int 0, .ref 18, .ref 21, .ref 26, .ref 31, .ref 34, .ref 39, .ref 40, .null, .null, .null]), .inl (8, [.int 0, .ref 2, .ref 3, .ref 4, .ref 5, .ref 6, .ref 7, .ref 8, .ref 9, .ref 10, .int 2, .int 0, .ref 11, .ref 14]), .inr (0, 20, [], []), .inr (0, 20, [], []), .inr (0, 20, [], []), .inr (0, 20, [], []), .inr (0, 20, [], []), .inr (0, 20, [], []), .inr (0, 20, [], []), .inr (0, 6, [], []), .inr (0, 10, [], []), .inl (5, [.ref 12, .int 0, .ref 13, .int 0]), .inr (0, 121, [], []), .inr (0, 121, [], []), .inl (5, [.ref 15, .int 0, .ref 16, .int 0]), .inr (0, 121, [], []), .inr (0, 121, [], []), .inr (0, 120, [], []), .inl (6, [.ref 19, .int 0, .ref 20, .int 0, .int 0, .int 0, .int 0, .int 1, .int 0]), .inr (0, 121, [], []), .inr (0, 120, [], []), .inl (7, [.int 0, .ref 22, .ref 23, .ref 24, .int 0, .int 0, .int 0, .int 0, .ref 25]), .inr (0, 60, [], []), .inr (0, 60, [], []), .inr (0, 60, [], []), .inr (0, 20, [], []), .inl (7, [.int 0, .ref 27, .ref 28, .ref 29, .int 0, .int 0, .int 0, .int 0, .ref 30]), .inr (0, 60, [], []), .inr (0, 60, [], []), .inr (0, 60, [], []), .inr (0, 20, [], []), .inl (10, [.ref 32, .ref 33, .int 0]), .inr (0, 256, [], []), .inr (0, 5121, [], []), .inl (3, [.int 0, .ref 35, .ref 36, .ref 37, .ref 38]), .inr (0, 20, [], []), .inr (0, 20, [], []), .inr (0, 20, [], []), .inr (0, 20, [], []), .inl (2, [.int 0, .int 0, .int 0]), .inl (4, [.int (-1), .ref 41, .int 0, .int 0]), .inr (0, 20, [], []), .inl (1, [.int 0, .int 0, .null, .null, .null, .null])]
theorem gX1_7 : FL2 RX1 7 1 0 false .int := ⟨RX1, TX1, 6, tyX1, rfl, by decide, gt_mem 286 (by decide +kernel) (by decide +kernel), iw_X1, tyX1_ok, nmX1, rfl, by decide +kernel, rfl⟩
theorem gX1_13 : FL2 RX1 13 1 1 false .int := ⟨RX1, TX1, 6, tyX1, rfl, by decide, gt_mem 288 (by decide +kernel) (by decide +kernel), iw_X1, tyX1_ok, nmX1, rfl, by decide +kernel, rfl⟩
theorem gX1_16 : FL2 RX1 16 1 2 true (.array .int) := ⟨RX1, TX1, 6, tyX1, rfl, by decide, gt_mem 290 (by decide +kernel) (by decide +kernel), iw_X1, tyX1_ok, nmX1, rfl, by decide +kernel, rfl⟩
theorem gX1_20 : FL2 RX1 20 1 3 true (.array .int) := ⟨RX1, TX1, 6, tyX1, rfl, by decide, gt_mem 291 (by decide +kernel) (by decide +kernel), iw_X1, tyX1_ok, nmX1, rfl, by decide +kernel, rfl⟩
theorem gX1_23 : FL2 RX1 23 1 4 true (.array .int) := ⟨RX1, TX1, 6, tyX1, rfl, by decide, gt_mem 292 (by decide +kernel) (by decide +kernel), iw_X1, tyX1_ok, nmX1, rfl, by decide +kernel, rfl⟩
theorem gX1_26 : FL2 RX1 26 1 5 true (.array .int) := ⟨RX1, TX1, 6, tyX1, rfl, by decide, gt_mem 293 (by decide +kernel) (by decide +kernel), iw_X1, tyX1_ok, nmX1, rfl, by decide +kernel, rfl⟩
abbrev cs_21 : List CB := [.inl (11, [.ref 1, .ref 17, .int 0, .ref 18, .ref 21, .ref 26, .ref 31, .ref 34, .ref 39, .ref 40, .null, .null, .null]), .inl (8, [.int 0, .ref 2, .ref 3, .ref 4, .ref 5, .ref 6, .ref 7, .ref 8, .ref 9, .ref 10, .int 2, .int 0, .ref 11, .ref 14]), .inr (0, 20, [], []), .inr (0, 20, [], []), .inr (0, 20, [], []), .inr (0, 20, [], []), .inr (0, 20, [], []), .inr (0, 20, [], []), .inr (0, 20, [], []), .inr (0, 6, [], []), .inr (0, 10, [], []), .inl (5, [.ref 12, .int 0, .ref 13, .int 0]), .inr (0, 121, [], []), .inr (0, 121, [], []), .inl (5, [.ref 15, .int 0, .ref 16, .int 0]), .inr (0, 121, [], []), .inr (0, 121, [], []), .inr (0, 120, [], []), .inl (6, [.ref 19, .int 0, .ref 20, .int 0, .int 0, .int 0, .int 0, .int 1, .int 0]), .inr (0, 121, [], []), .inr (0, 120, [], []), .inl (7, [.int 0, .ref 22, .ref 23, .ref 24, .int 0, .int 0, .int 0, .int 0, .ref 25]), .inr (0, 60, [], []), .inr (0, 60, [], []), .inr (0, 60, [], []), .inr (0, 20, [], []), .inl (7, [.int 0, .ref 27, .ref 28, .ref 29, .int 0, .int 0, .int 0, .int 0, .ref 30]), .inr (0, 60, [], []), .inr (0, 60, [], []), .inr (0, 60, [], []), .inr (0, 20, [], []), .inl (10, [.ref 32, .ref 33, .int 0]), .inr (0, 256, [], []), .inr (0, 5121, [], []), .inl (3, [.int 0, .ref 35, .ref 36, .ref 37, .ref 38]), .inr (0, 20, [], []), .inr (0, 20, [], []), .inr (0, 20, [], []), .inr (0, 20, [], []), .inl (2, [.int 0, .int 0, .int 0]), .inl (4, [.int (-1), .ref 41, .int 0, .int 0]), .inr (0, 20, [], []), .inl (1, [.int 0, .int 0, .ref 43, .ref 44, .ref 45, .ref 46]), .inr (0, 40, [], []), .inr (0, 40, [], []), .inr (0, 40, [], []), .inr (0, 40, [], [])]
set_option maxHeartbeats 4000000 in
set_option maxRecDepth 100000 in
theorem ct_10 {l : Launch} (d : Nat) : GoB l (d + 1) mX1_init cs_21 4 160 0 0 0 [(0, .ref 42)] [] cs_20 := by
  refine GoB.aload_n dX1_init_0 rfl ?_
  refine GoB.objInit dX1_init_1 lo_X1_1 oi_in oi_co (Nat.le_of_ble_eq_true rfl) ?_
  refine GoB.aload_n dX1_init_4 rfl ?_
  refine GoB.iconst (v := 0) dX1_init_5 (by decide) ?_
  refine GoB.put dX1_init_6 gX1_7 rfl (by decide) (fun _ => rfl) (fun _ => rfl) ?_
  refine GoB.aload_n dX1_init_9 rfl ?_
  refine GoB.iconst (v := 0) dX1_init_10 (by decide) ?_
  refine GoB.put dX1_init_11 gX1_13 rfl (by decide) (fun _ => rfl) (fun _ => rfl) ?_
  refine GoB.aload_n dX1_init_14 rfl ?_
  refine GoB.bipush (v := 40) dX1_init_15 (by decide) ?_
  refine GoB.newa (kd := 0) (N := 40) dX1_init_17 aw_int (by decide) (by decide) (by decide) (by decide) (by decide) (by decide) ?_
  refine GoB.put dX1_init_19 gX1_16 rfl (by decide) (fun _ => rfl) (fun _ => rfl) ?_
  refine GoB.aload_n dX1_init_22 rfl ?_
  refine GoB.bipush (v := 40) dX1_init_23 (by decide) ?_
  refine GoB.newa (kd := 0) (N := 40) dX1_init_25 aw_int (by decide) (by decide) (by decide) (by decide) (by decide) (by decide) ?_
  refine GoB.put dX1_init_27 gX1_20 rfl (by decide) (fun _ => rfl) (fun _ => rfl) ?_
  refine GoB.aload_n dX1_init_30 rfl ?_
  refine GoB.bipush (v := 40) dX1_init_31 (by decide) ?_
  refine GoB.newa (kd := 0) (N := 40) dX1_init_33 aw_int (by decide) (by decide) (by decide) (by decide) (by decide) (by decide) ?_
  refine GoB.put dX1_init_35 gX1_23 rfl (by decide) (fun _ => rfl) (fun _ => rfl) ?_
  refine GoB.aload_n dX1_init_38 rfl ?_
  refine GoB.bipush (v := 40) dX1_init_39 (by decide) ?_
  refine GoB.newa (kd := 0) (N := 40) dX1_init_41 aw_int (by decide) (by decide) (by decide) (by decide) (by decide) (by decide) ?_
  refine GoB.put dX1_init_43 gX1_26 rfl (by decide) (fun _ => rfl) (fun _ => rfl) ?_
  exact GoB.vret dX1_init_46 rfl (by decide) (by decide) rfl
theorem gX11_72 : FL2 RX11 72 11 10 true (.object "WhoPrompts$Changes") := ⟨RX11, TX11, 13, tyX11, rfl, by decide, gt_mem 371 (by decide +kernel) (by decide +kernel), iw_X11, tyX11_ok, nmX11, rfl, by decide +kernel, rfl⟩
abbrev cs_22 : List CB := [.inl (11, [.ref 1, .ref 17, .int 0, .ref 18, .ref 21, .ref 26, .ref 31, .ref 34, .ref 39, .ref 40, .ref 42, .null, .null]), .inl (8, [.int 0, .ref 2, .ref 3, .ref 4, .ref 5, .ref 6, .ref 7, .ref 8, .ref 9, .ref 10, .int 2, .int 0, .ref 11, .ref 14]), .inr (0, 20, [], []), .inr (0, 20, [], []), .inr (0, 20, [], []), .inr (0, 20, [], []), .inr (0, 20, [], []), .inr (0, 20, [], []), .inr (0, 20, [], []), .inr (0, 6, [], []), .inr (0, 10, [], []), .inl (5, [.ref 12, .int 0, .ref 13, .int 0]), .inr (0, 121, [], []), .inr (0, 121, [], []), .inl (5, [.ref 15, .int 0, .ref 16, .int 0]), .inr (0, 121, [], []), .inr (0, 121, [], []), .inr (0, 120, [], []), .inl (6, [.ref 19, .int 0, .ref 20, .int 0, .int 0, .int 0, .int 0, .int 1, .int 0]), .inr (0, 121, [], []), .inr (0, 120, [], []), .inl (7, [.int 0, .ref 22, .ref 23, .ref 24, .int 0, .int 0, .int 0, .int 0, .ref 25]), .inr (0, 60, [], []), .inr (0, 60, [], []), .inr (0, 60, [], []), .inr (0, 20, [], []), .inl (7, [.int 0, .ref 27, .ref 28, .ref 29, .int 0, .int 0, .int 0, .int 0, .ref 30]), .inr (0, 60, [], []), .inr (0, 60, [], []), .inr (0, 60, [], []), .inr (0, 20, [], []), .inl (10, [.ref 32, .ref 33, .int 0]), .inr (0, 256, [], []), .inr (0, 5121, [], []), .inl (3, [.int 0, .ref 35, .ref 36, .ref 37, .ref 38]), .inr (0, 20, [], []), .inr (0, 20, [], []), .inr (0, 20, [], []), .inr (0, 20, [], []), .inl (2, [.int 0, .int 0, .int 0]), .inl (4, [.int (-1), .ref 41, .int 0, .int 0]), .inr (0, 20, [], []), .inl (1, [.int 0, .int 0, .ref 43, .ref 44, .ref 45, .ref 46]), .inr (0, 40, [], []), .inr (0, 40, [], []), .inr (0, 40, [], []), .inr (0, 40, [], []), .inl (0, [.int 0, .int 0, .null, .null, .int 0])]
theorem gX0_9 : FL2 RX0 9 0 0 false .int := ⟨RX0, TX0, 5, tyX0, rfl, by decide, gt_mem 313 (by decide +kernel) (by decide +kernel), iw_X0, tyX0_ok, nmX0, rfl, by decide +kernel, rfl⟩
theorem gX0_15 : FL2 RX0 15 0 1 false .int := ⟨RX0, TX0, 5, tyX0, rfl, by decide, gt_mem 315 (by decide +kernel) (by decide +kernel), iw_X0, tyX0_ok, nmX0, rfl, by decide +kernel, rfl⟩
theorem gX0_18 : FL2 RX0 18 0 2 true (.array .int) := ⟨RX0, TX0, 5, tyX0, rfl, by decide, gt_mem 317 (by decide +kernel) (by decide +kernel), iw_X0, tyX0_ok, nmX0, rfl, by decide +kernel, rfl⟩
theorem gX0_22 : FL2 RX0 22 0 3 true (.array .int) := ⟨RX0, TX0, 5, tyX0, rfl, by decide, gt_mem 319 (by decide +kernel) (by decide +kernel), iw_X0, tyX0_ok, nmX0, rfl, by decide +kernel, rfl⟩
theorem gX0_25 : FL2 RX0 25 0 4 false .int := ⟨RX0, TX0, 5, tyX0, rfl, by decide, gt_mem 321 (by decide +kernel) (by decide +kernel), iw_X0, tyX0_ok, nmX0, rfl, by decide +kernel, rfl⟩
abbrev cs_23 : List CB := [.inl (11, [.ref 1, .ref 17, .int 0, .ref 18, .ref 21, .ref 26, .ref 31, .ref 34, .ref 39, .ref 40, .ref 42, .null, .null]), .inl (8, [.int 0, .ref 2, .ref 3, .ref 4, .ref 5, .ref 6, .ref 7, .ref 8, .ref 9, .ref 10, .int 2, .int 0, .ref 11, .ref 14]), .inr (0, 20, [], []), .inr (0, 20, [], []), .inr (0, 20, [], []), .inr (0, 20, [], []), .inr (0, 20, [], []), .inr (0, 20, [], []), .inr (0, 20, [], []), .inr (0, 6, [], []), .inr (0, 10, [], []), .inl (5, [.ref 12, .int 0, .ref 13, .int 0]), .inr (0, 121, [], []), .inr (0, 121, [], []), .inl (5, [.ref 15, .int 0, .ref 16, .int 0]), .inr (0, 121, [], []), .inr (0, 121, [], []), .inr (0, 120, [], []), .inl (6, [.ref 19, .int 0, .ref 20, .int 0, .int 0, .int 0, .int 0, .int 1, .int 0]), .inr (0, 121, [], []), .inr (0, 120, [], []), .inl (7, [.int 0, .ref 22, .ref 23, .ref 24, .int 0, .int 0, .int 0, .int 0, .ref 25]), .inr (0, 60, [], []), .inr (0, 60, [], []), .inr (0, 60, [], []), .inr (0, 20, [], []), .inl (7, [.int 0, .ref 27, .ref 28, .ref 29, .int 0, .int 0, .int 0, .int 0, .ref 30]), .inr (0, 60, [], []), .inr (0, 60, [], []), .inr (0, 60, [], []), .inr (0, 20, [], []), .inl (10, [.ref 32, .ref 33, .int 0]), .inr (0, 256, [], []), .inr (0, 5121, [], []), .inl (3, [.int 0, .ref 35, .ref 36, .ref 37, .ref 38]), .inr (0, 20, [], []), .inr (0, 20, [], []), .inr (0, 20, [], []), .inr (0, 20, [], []), .inl (2, [.int 0, .int 0, .int 0]), .inl (4, [.int (-1), .ref 41, .int 0, .int 0]), .inr (0, 20, [], []), .inl (1, [.int 0, .int 0, .ref 43, .ref 44, .ref 45, .ref 46]), .inr (0, 40, [], []), .inr (0, 40, [], []), .inr (0, 40, [], []), .inr (0, 40, [], []), .inl (0, [.int 0, .int 0, .ref 48, .ref 49, .int 0]), .inr (0, 50, [], []), .inr (0, 24, [], [])]
set_option maxHeartbeats 4000000 in
set_option maxRecDepth 100000 in
theorem ct_11 {l : Launch} (d : Nat) : GoB l (d + 1) mX0_init cs_23 2 74 0 0 0 [(0, .ref 47)] [] cs_22 := by
  refine GoB.aload_n dX0_init_0 rfl ?_
  refine GoB.objInit dX0_init_1 lo_X0_3 oi_in oi_co (Nat.le_of_ble_eq_true rfl) ?_
  refine GoB.aload_n dX0_init_4 rfl ?_
  refine GoB.iconst (v := 0) dX0_init_5 (by decide) ?_
  refine GoB.put dX0_init_6 gX0_9 rfl (by decide) (fun _ => rfl) (fun _ => rfl) ?_
  refine GoB.aload_n dX0_init_9 rfl ?_
  refine GoB.iconst (v := 0) dX0_init_10 (by decide) ?_
  refine GoB.put dX0_init_11 gX0_15 rfl (by decide) (fun _ => rfl) (fun _ => rfl) ?_
  refine GoB.aload_n dX0_init_14 rfl ?_
  refine GoB.bipush (v := 50) dX0_init_15 (by decide) ?_
  refine GoB.newa (kd := 0) (N := 50) dX0_init_17 aw_int (by decide) (by decide) (by decide) (by decide) (by decide) (by decide) ?_
  refine GoB.put dX0_init_19 gX0_18 rfl (by decide) (fun _ => rfl) (fun _ => rfl) ?_
  refine GoB.aload_n dX0_init_22 rfl ?_
  refine GoB.bipush (v := 24) dX0_init_23 (by decide) ?_
  refine GoB.newa (kd := 0) (N := 24) dX0_init_25 aw_int (by decide) (by decide) (by decide) (by decide) (by decide) (by decide) ?_
  refine GoB.put dX0_init_27 gX0_22 rfl (by decide) (fun _ => rfl) (fun _ => rfl) ?_
  refine GoB.aload_n dX0_init_30 rfl ?_
  refine GoB.iconst (v := 0) dX0_init_31 (by decide) ?_
  refine GoB.put dX0_init_32 gX0_25 rfl (by decide) (fun _ => rfl) (fun _ => rfl) ?_
  exact GoB.vret dX0_init_35 rfl (by decide) (by decide) rfl
theorem gX11_79 : FL2 RX11 79 11 11 true (.object "WhoPrompts$Bodies") := ⟨RX11, TX11, 13, tyX11, rfl, by decide, gt_mem 372 (by decide +kernel) (by decide +kernel), iw_X11, tyX11_ok, nmX11, rfl, by decide +kernel, rfl⟩
theorem gX11_85 : FL2 RX11 85 11 12 true (.array (.object "WhoPrompts$Shelf")) := ⟨RX11, TX11, 13, tyX11, rfl, by decide, gt_mem 373 (by decide +kernel) (by decide +kernel), iw_X11, tyX11_ok, nmX11, rfl, by decide +kernel, rfl⟩
abbrev cs_24 : List CB := [.inl (11, [.ref 1, .ref 17, .int 0, .ref 18, .ref 21, .ref 26, .ref 31, .ref 34, .ref 39, .ref 40, .ref 42, .ref 47, .ref 50]), .inl (8, [.int 0, .ref 2, .ref 3, .ref 4, .ref 5, .ref 6, .ref 7, .ref 8, .ref 9, .ref 10, .int 2, .int 0, .ref 11, .ref 14]), .inr (0, 20, [], []), .inr (0, 20, [], []), .inr (0, 20, [], []), .inr (0, 20, [], []), .inr (0, 20, [], []), .inr (0, 20, [], []), .inr (0, 20, [], []), .inr (0, 6, [], []), .inr (0, 10, [], []), .inl (5, [.ref 12, .int 0, .ref 13, .int 0]), .inr (0, 121, [], []), .inr (0, 121, [], []), .inl (5, [.ref 15, .int 0, .ref 16, .int 0]), .inr (0, 121, [], []), .inr (0, 121, [], []), .inr (0, 120, [], []), .inl (6, [.ref 19, .int 0, .ref 20, .int 0, .int 0, .int 0, .int 0, .int 1, .int 0]), .inr (0, 121, [], []), .inr (0, 120, [], []), .inl (7, [.int 0, .ref 22, .ref 23, .ref 24, .int 0, .int 0, .int 0, .int 0, .ref 25]), .inr (0, 60, [], []), .inr (0, 60, [], []), .inr (0, 60, [], []), .inr (0, 20, [], []), .inl (7, [.int 0, .ref 27, .ref 28, .ref 29, .int 0, .int 0, .int 0, .int 0, .ref 30]), .inr (0, 60, [], []), .inr (0, 60, [], []), .inr (0, 60, [], []), .inr (0, 20, [], []), .inl (10, [.ref 32, .ref 33, .int 0]), .inr (0, 256, [], []), .inr (0, 5121, [], []), .inl (3, [.int 0, .ref 35, .ref 36, .ref 37, .ref 38]), .inr (0, 20, [], []), .inr (0, 20, [], []), .inr (0, 20, [], []), .inr (0, 20, [], []), .inl (2, [.int 0, .int 0, .int 0]), .inl (4, [.int (-1), .ref 41, .int 0, .int 0]), .inr (0, 20, [], []), .inl (1, [.int 0, .int 0, .ref 43, .ref 44, .ref 45, .ref 46]), .inr (0, 40, [], []), .inr (0, 40, [], []), .inr (0, 40, [], []), .inr (0, 40, [], []), .inl (0, [.int 0, .int 0, .ref 48, .ref 49, .int 0]), .inr (0, 50, [], []), .inr (0, 24, [], []), .inr (5, 6, [], []), .inl (9, [.int 0, .int 0, .int 0, .int 0, .null])]
theorem gX9_11 : FL2 RX9 11 9 0 false .int := ⟨RX9, TX9, 5, tyX9, rfl, by decide, gt_mem 340 (by decide +kernel) (by decide +kernel), iw_X9, tyX9_ok, nmX9, rfl, by decide +kernel, rfl⟩
theorem gX9_15 : FL2 RX9 15 9 1 false .int := ⟨RX9, TX9, 5, tyX9, rfl, by decide, gt_mem 341 (by decide +kernel) (by decide +kernel), iw_X9, tyX9_ok, nmX9, rfl, by decide +kernel, rfl⟩
theorem gX9_18 : FL2 RX9 18 9 2 false .int := ⟨RX9, TX9, 5, tyX9, rfl, by decide, gt_mem 343 (by decide +kernel) (by decide +kernel), iw_X9, tyX9_ok, nmX9, rfl, by decide +kernel, rfl⟩
theorem gX9_21 : FL2 RX9 21 9 3 false .int := ⟨RX9, TX9, 5, tyX9, rfl, by decide, gt_mem 345 (by decide +kernel) (by decide +kernel), iw_X9, tyX9_ok, nmX9, rfl, by decide +kernel, rfl⟩
theorem gX9_24 : FL2 RX9 24 9 4 true (.array .long) := ⟨RX9, TX9, 5, tyX9, rfl, by decide, gt_mem 347 (by decide +kernel) (by decide +kernel), iw_X9, tyX9_ok, nmX9, rfl, by decide +kernel, rfl⟩
abbrev cs_25 : List CB := [.inl (11, [.ref 1, .ref 17, .int 0, .ref 18, .ref 21, .ref 26, .ref 31, .ref 34, .ref 39, .ref 40, .ref 42, .ref 47, .ref 50]), .inl (8, [.int 0, .ref 2, .ref 3, .ref 4, .ref 5, .ref 6, .ref 7, .ref 8, .ref 9, .ref 10, .int 2, .int 0, .ref 11, .ref 14]), .inr (0, 20, [], []), .inr (0, 20, [], []), .inr (0, 20, [], []), .inr (0, 20, [], []), .inr (0, 20, [], []), .inr (0, 20, [], []), .inr (0, 20, [], []), .inr (0, 6, [], []), .inr (0, 10, [], []), .inl (5, [.ref 12, .int 0, .ref 13, .int 0]), .inr (0, 121, [], []), .inr (0, 121, [], []), .inl (5, [.ref 15, .int 0, .ref 16, .int 0]), .inr (0, 121, [], []), .inr (0, 121, [], []), .inr (0, 120, [], []), .inl (6, [.ref 19, .int 0, .ref 20, .int 0, .int 0, .int 0, .int 0, .int 1, .int 0]), .inr (0, 121, [], []), .inr (0, 120, [], []), .inl (7, [.int 0, .ref 22, .ref 23, .ref 24, .int 0, .int 0, .int 0, .int 0, .ref 25]), .inr (0, 60, [], []), .inr (0, 60, [], []), .inr (0, 60, [], []), .inr (0, 20, [], []), .inl (7, [.int 0, .ref 27, .ref 28, .ref 29, .int 0, .int 0, .int 0, .int 0, .ref 30]), .inr (0, 60, [], []), .inr (0, 60, [], []), .inr (0, 60, [], []), .inr (0, 20, [], []), .inl (10, [.ref 32, .ref 33, .int 0]), .inr (0, 256, [], []), .inr (0, 5121, [], []), .inl (3, [.int 0, .ref 35, .ref 36, .ref 37, .ref 38]), .inr (0, 20, [], []), .inr (0, 20, [], []), .inr (0, 20, [], []), .inr (0, 20, [], []), .inl (2, [.int 0, .int 0, .int 0]), .inl (4, [.int (-1), .ref 41, .int 0, .int 0]), .inr (0, 20, [], []), .inl (1, [.int 0, .int 0, .ref 43, .ref 44, .ref 45, .ref 46]), .inr (0, 40, [], []), .inr (0, 40, [], []), .inr (0, 40, [], []), .inr (0, 40, [], []), .inl (0, [.int 0, .int 0, .ref 48, .ref 49, .int 0]), .inr (0, 50, [], []), .inr (0, 24, [], []), .inr (5, 6, [], []), .inl (9, [.int 0, .int 0, .int 0, .int 0, .ref 52]), .inr (4, 60, [], [])]
set_option maxHeartbeats 4000000 in
set_option maxRecDepth 100000 in
theorem ct_12 {l : Launch} (d : Nat) : GoB l (d + 1) mX9_init cs_25 1 60 0 0 0 [(0, .ref 51)] [] cs_24 := by
  refine GoB.aload_n dX9_init_0 rfl ?_
  refine GoB.objInit dX9_init_1 lo_X9_3 oi_in oi_co (Nat.le_of_ble_eq_true rfl) ?_
  refine GoB.aload_n dX9_init_4 rfl ?_
  refine GoB.iconst (v := 0) dX9_init_5 (by decide) ?_
  refine GoB.put dX9_init_6 gX9_11 rfl (by decide) (fun _ => rfl) (fun _ => rfl) ?_
  refine GoB.aload_n dX9_init_9 rfl ?_
  refine GoB.iconst (v := 0) dX9_init_10 (by decide) ?_
  refine GoB.put dX9_init_11 gX9_15 rfl (by decide) (fun _ => rfl) (fun _ => rfl) ?_
  refine GoB.aload_n dX9_init_14 rfl ?_
  refine GoB.iconst (v := 0) dX9_init_15 (by decide) ?_
  refine GoB.put dX9_init_16 gX9_18 rfl (by decide) (fun _ => rfl) (fun _ => rfl) ?_
  refine GoB.aload_n dX9_init_19 rfl ?_
  refine GoB.iconst (v := 0) dX9_init_20 (by decide) ?_
  refine GoB.put dX9_init_21 gX9_21 rfl (by decide) (fun _ => rfl) (fun _ => rfl) ?_
  refine GoB.aload_n dX9_init_24 rfl ?_
  refine GoB.bipush (v := 60) dX9_init_25 (by decide) ?_
  refine GoB.newa (kd := 4) (N := 60) dX9_init_27 aw_long (by decide) (by decide) (by decide) (by decide) (by decide) (by decide) ?_
  refine GoB.put dX9_init_29 gX9_24 rfl (by decide) (fun _ => rfl) (fun _ => rfl) ?_
  exact GoB.vret dX9_init_32 rfl (by decide) (by decide) rfl
abbrev cs_26 : List CB := [.inl (11, [.ref 1, .ref 17, .int 0, .ref 18, .ref 21, .ref 26, .ref 31, .ref 34, .ref 39, .ref 40, .ref 42, .ref 47, .ref 50]), .inl (8, [.int 0, .ref 2, .ref 3, .ref 4, .ref 5, .ref 6, .ref 7, .ref 8, .ref 9, .ref 10, .int 2, .int 0, .ref 11, .ref 14]), .inr (0, 20, [], []), .inr (0, 20, [], []), .inr (0, 20, [], []), .inr (0, 20, [], []), .inr (0, 20, [], []), .inr (0, 20, [], []), .inr (0, 20, [], []), .inr (0, 6, [], []), .inr (0, 10, [], []), .inl (5, [.ref 12, .int 0, .ref 13, .int 0]), .inr (0, 121, [], []), .inr (0, 121, [], []), .inl (5, [.ref 15, .int 0, .ref 16, .int 0]), .inr (0, 121, [], []), .inr (0, 121, [], []), .inr (0, 120, [], []), .inl (6, [.ref 19, .int 0, .ref 20, .int 0, .int 0, .int 0, .int 0, .int 1, .int 0]), .inr (0, 121, [], []), .inr (0, 120, [], []), .inl (7, [.int 0, .ref 22, .ref 23, .ref 24, .int 0, .int 0, .int 0, .int 0, .ref 25]), .inr (0, 60, [], []), .inr (0, 60, [], []), .inr (0, 60, [], []), .inr (0, 20, [], []), .inl (7, [.int 0, .ref 27, .ref 28, .ref 29, .int 0, .int 0, .int 0, .int 0, .ref 30]), .inr (0, 60, [], []), .inr (0, 60, [], []), .inr (0, 60, [], []), .inr (0, 20, [], []), .inl (10, [.ref 32, .ref 33, .int 0]), .inr (0, 256, [], []), .inr (0, 5121, [], []), .inl (3, [.int 0, .ref 35, .ref 36, .ref 37, .ref 38]), .inr (0, 20, [], []), .inr (0, 20, [], []), .inr (0, 20, [], []), .inr (0, 20, [], []), .inl (2, [.int 0, .int 0, .int 0]), .inl (4, [.int (-1), .ref 41, .int 0, .int 0]), .inr (0, 20, [], []), .inl (1, [.int 0, .int 0, .ref 43, .ref 44, .ref 45, .ref 46]), .inr (0, 40, [], []), .inr (0, 40, [], []), .inr (0, 40, [], []), .inr (0, 40, [], []), .inl (0, [.int 0, .int 0, .ref 48, .ref 49, .int 0]), .inr (0, 50, [], []), .inr (0, 24, [], []), .inr (5, 6, [], [some 51]), .inl (9, [.int 0, .int 0, .int 0, .int 0, .ref 52]), .inr (4, 60, [], []), .inl (9, [.int 0, .int 0, .int 0, .int 0, .null])]
abbrev cs_27 : List CB := [.inl (11, [.ref 1, .ref 17, .int 0, .ref 18, .ref 21, .ref 26, .ref 31, .ref 34, .ref 39, .ref 40, .ref 42, .ref 47, .ref 50]), .inl (8, [.int 0, .ref 2, .ref 3, .ref 4, .ref 5, .ref 6, .ref 7, .ref 8, .ref 9, .ref 10, .int 2, .int 0, .ref 11, .ref 14]), .inr (0, 20, [], []), .inr (0, 20, [], []), .inr (0, 20, [], []), .inr (0, 20, [], []), .inr (0, 20, [], []), .inr (0, 20, [], []), .inr (0, 20, [], []), .inr (0, 6, [], []), .inr (0, 10, [], []), .inl (5, [.ref 12, .int 0, .ref 13, .int 0]), .inr (0, 121, [], []), .inr (0, 121, [], []), .inl (5, [.ref 15, .int 0, .ref 16, .int 0]), .inr (0, 121, [], []), .inr (0, 121, [], []), .inr (0, 120, [], []), .inl (6, [.ref 19, .int 0, .ref 20, .int 0, .int 0, .int 0, .int 0, .int 1, .int 0]), .inr (0, 121, [], []), .inr (0, 120, [], []), .inl (7, [.int 0, .ref 22, .ref 23, .ref 24, .int 0, .int 0, .int 0, .int 0, .ref 25]), .inr (0, 60, [], []), .inr (0, 60, [], []), .inr (0, 60, [], []), .inr (0, 20, [], []), .inl (7, [.int 0, .ref 27, .ref 28, .ref 29, .int 0, .int 0, .int 0, .int 0, .ref 30]), .inr (0, 60, [], []), .inr (0, 60, [], []), .inr (0, 60, [], []), .inr (0, 20, [], []), .inl (10, [.ref 32, .ref 33, .int 0]), .inr (0, 256, [], []), .inr (0, 5121, [], []), .inl (3, [.int 0, .ref 35, .ref 36, .ref 37, .ref 38]), .inr (0, 20, [], []), .inr (0, 20, [], []), .inr (0, 20, [], []), .inr (0, 20, [], []), .inl (2, [.int 0, .int 0, .int 0]), .inl (4, [.int (-1), .ref 41, .int 0, .int 0]), .inr (0, 20, [], []), .inl (1, [.int 0, .int 0, .ref 43, .ref 44, .ref 45, .ref 46]), .inr (0, 40, [], []), .inr (0, 40, [], []), .inr (0, 40, [], []), .inr (0, 40, [], []), .inl (0, [.int 0, .int 0, .ref 48, .ref 49, .int 0]), .inr (0, 50, [], []), .inr (0, 24, [], []), .inr (5, 6, [], [some 51]), .inl (9, [.int 0, .int 0, .int 0, .int 0, .ref 52]), .inr (4, 60, [], []), .inl (9, [.int 0, .int 0, .int 0, .int 0, .ref 54]), .inr (4, 60, [], [])]
set_option maxHeartbeats 4000000 in
set_option maxRecDepth 100000 in
theorem ct_13 {l : Launch} (d : Nat) : GoB l (d + 1) mX9_init cs_27 1 60 0 0 0 [(0, .ref 53)] [] cs_26 := by
  refine GoB.aload_n dX9_init_0 rfl ?_
  refine GoB.objInit dX9_init_1 lo_X9_3 oi_in oi_co (Nat.le_of_ble_eq_true rfl) ?_
  refine GoB.aload_n dX9_init_4 rfl ?_
  refine GoB.iconst (v := 0) dX9_init_5 (by decide) ?_
  refine GoB.put dX9_init_6 gX9_11 rfl (by decide) (fun _ => rfl) (fun _ => rfl) ?_
  refine GoB.aload_n dX9_init_9 rfl ?_
  refine GoB.iconst (v := 0) dX9_init_10 (by decide) ?_
  refine GoB.put dX9_init_11 gX9_15 rfl (by decide) (fun _ => rfl) (fun _ => rfl) ?_
  refine GoB.aload_n dX9_init_14 rfl ?_
  refine GoB.iconst (v := 0) dX9_init_15 (by decide) ?_
  refine GoB.put dX9_init_16 gX9_18 rfl (by decide) (fun _ => rfl) (fun _ => rfl) ?_
  refine GoB.aload_n dX9_init_19 rfl ?_
  refine GoB.iconst (v := 0) dX9_init_20 (by decide) ?_
  refine GoB.put dX9_init_21 gX9_21 rfl (by decide) (fun _ => rfl) (fun _ => rfl) ?_
  refine GoB.aload_n dX9_init_24 rfl ?_
  refine GoB.bipush (v := 60) dX9_init_25 (by decide) ?_
  refine GoB.newa (kd := 4) (N := 60) dX9_init_27 aw_long (by decide) (by decide) (by decide) (by decide) (by decide) (by decide) ?_
  refine GoB.put dX9_init_29 gX9_24 rfl (by decide) (fun _ => rfl) (fun _ => rfl) ?_
  exact GoB.vret dX9_init_32 rfl (by decide) (by decide) rfl
abbrev cs_28 : List CB := [.inl (11, [.ref 1, .ref 17, .int 0, .ref 18, .ref 21, .ref 26, .ref 31, .ref 34, .ref 39, .ref 40, .ref 42, .ref 47, .ref 50]), .inl (8, [.int 0, .ref 2, .ref 3, .ref 4, .ref 5, .ref 6, .ref 7, .ref 8, .ref 9, .ref 10, .int 2, .int 0, .ref 11, .ref 14]), .inr (0, 20, [], []), .inr (0, 20, [], []), .inr (0, 20, [], []), .inr (0, 20, [], []), .inr (0, 20, [], []), .inr (0, 20, [], []), .inr (0, 20, [], []), .inr (0, 6, [], []), .inr (0, 10, [], []), .inl (5, [.ref 12, .int 0, .ref 13, .int 0]), .inr (0, 121, [], []), .inr (0, 121, [], []), .inl (5, [.ref 15, .int 0, .ref 16, .int 0]), .inr (0, 121, [], []), .inr (0, 121, [], []), .inr (0, 120, [], []), .inl (6, [.ref 19, .int 0, .ref 20, .int 0, .int 0, .int 0, .int 0, .int 1, .int 0]), .inr (0, 121, [], []), .inr (0, 120, [], []), .inl (7, [.int 0, .ref 22, .ref 23, .ref 24, .int 0, .int 0, .int 0, .int 0, .ref 25]), .inr (0, 60, [], []), .inr (0, 60, [], []), .inr (0, 60, [], []), .inr (0, 20, [], []), .inl (7, [.int 0, .ref 27, .ref 28, .ref 29, .int 0, .int 0, .int 0, .int 0, .ref 30]), .inr (0, 60, [], []), .inr (0, 60, [], []), .inr (0, 60, [], []), .inr (0, 20, [], []), .inl (10, [.ref 32, .ref 33, .int 0]), .inr (0, 256, [], []), .inr (0, 5121, [], []), .inl (3, [.int 0, .ref 35, .ref 36, .ref 37, .ref 38]), .inr (0, 20, [], []), .inr (0, 20, [], []), .inr (0, 20, [], []), .inr (0, 20, [], []), .inl (2, [.int 0, .int 0, .int 0]), .inl (4, [.int (-1), .ref 41, .int 0, .int 0]), .inr (0, 20, [], []), .inl (1, [.int 0, .int 0, .ref 43, .ref 44, .ref 45, .ref 46]), .inr (0, 40, [], []), .inr (0, 40, [], []), .inr (0, 40, [], []), .inr (0, 40, [], []), .inl (0, [.int 0, .int 0, .ref 48, .ref 49, .int 0]), .inr (0, 50, [], []), .inr (0, 24, [], []), .inr (5, 6, [], [some 51, some 53]), .inl (9, [.int 0, .int 0, .int 0, .int 0, .ref 52]), .inr (4, 60, [], []), .inl (9, [.int 0, .int 0, .int 0, .int 0, .ref 54]), .inr (4, 60, [], []), .inl (9, [.int 0, .int 0, .int 0, .int 0, .null])]
abbrev cs_29 : List CB := [.inl (11, [.ref 1, .ref 17, .int 0, .ref 18, .ref 21, .ref 26, .ref 31, .ref 34, .ref 39, .ref 40, .ref 42, .ref 47, .ref 50]), .inl (8, [.int 0, .ref 2, .ref 3, .ref 4, .ref 5, .ref 6, .ref 7, .ref 8, .ref 9, .ref 10, .int 2, .int 0, .ref 11, .ref 14]), .inr (0, 20, [], []), .inr (0, 20, [], []), .inr (0, 20, [], []), .inr (0, 20, [], []), .inr (0, 20, [], []), .inr (0, 20, [], []), .inr (0, 20, [], []), .inr (0, 6, [], []), .inr (0, 10, [], []), .inl (5, [.ref 12, .int 0, .ref 13, .int 0]), .inr (0, 121, [], []), .inr (0, 121, [], []), .inl (5, [.ref 15, .int 0, .ref 16, .int 0]), .inr (0, 121, [], []), .inr (0, 121, [], []), .inr (0, 120, [], []), .inl (6, [.ref 19, .int 0, .ref 20, .int 0, .int 0, .int 0, .int 0, .int 1, .int 0]), .inr (0, 121, [], []), .inr (0, 120, [], []), .inl (7, [.int 0, .ref 22, .ref 23, .ref 24, .int 0, .int 0, .int 0, .int 0, .ref 25]), .inr (0, 60, [], []), .inr (0, 60, [], []), .inr (0, 60, [], []), .inr (0, 20, [], []), .inl (7, [.int 0, .ref 27, .ref 28, .ref 29, .int 0, .int 0, .int 0, .int 0, .ref 30]), .inr (0, 60, [], []), .inr (0, 60, [], []), .inr (0, 60, [], []), .inr (0, 20, [], []), .inl (10, [.ref 32, .ref 33, .int 0]), .inr (0, 256, [], []), .inr (0, 5121, [], []), .inl (3, [.int 0, .ref 35, .ref 36, .ref 37, .ref 38]), .inr (0, 20, [], []), .inr (0, 20, [], []), .inr (0, 20, [], []), .inr (0, 20, [], []), .inl (2, [.int 0, .int 0, .int 0]), .inl (4, [.int (-1), .ref 41, .int 0, .int 0]), .inr (0, 20, [], []), .inl (1, [.int 0, .int 0, .ref 43, .ref 44, .ref 45, .ref 46]), .inr (0, 40, [], []), .inr (0, 40, [], []), .inr (0, 40, [], []), .inr (0, 40, [], []), .inl (0, [.int 0, .int 0, .ref 48, .ref 49, .int 0]), .inr (0, 50, [], []), .inr (0, 24, [], []), .inr (5, 6, [], [some 51, some 53]), .inl (9, [.int 0, .int 0, .int 0, .int 0, .ref 52]), .inr (4, 60, [], []), .inl (9, [.int 0, .int 0, .int 0, .int 0, .ref 54]), .inr (4, 60, [], []), .inl (9, [.int 0, .int 0, .int 0, .int 0, .ref 56]), .inr (4, 60, [], [])]
set_option maxHeartbeats 4000000 in
set_option maxRecDepth 100000 in
theorem ct_14 {l : Launch} (d : Nat) : GoB l (d + 1) mX9_init cs_29 1 60 0 0 0 [(0, .ref 55)] [] cs_28 := by
  refine GoB.aload_n dX9_init_0 rfl ?_
  refine GoB.objInit dX9_init_1 lo_X9_3 oi_in oi_co (Nat.le_of_ble_eq_true rfl) ?_
  refine GoB.aload_n dX9_init_4 rfl ?_
  refine GoB.iconst (v := 0) dX9_init_5 (by decide) ?_
  refine GoB.put dX9_init_6 gX9_11 rfl (by decide) (fun _ => rfl) (fun _ => rfl) ?_
  refine GoB.aload_n dX9_init_9 rfl ?_
  refine GoB.iconst (v := 0) dX9_init_10 (by decide) ?_
  refine GoB.put dX9_init_11 gX9_15 rfl (by decide) (fun _ => rfl) (fun _ => rfl) ?_
  refine GoB.aload_n dX9_init_14 rfl ?_
  refine GoB.iconst (v := 0) dX9_init_15 (by decide) ?_
  refine GoB.put dX9_init_16 gX9_18 rfl (by decide) (fun _ => rfl) (fun _ => rfl) ?_
  refine GoB.aload_n dX9_init_19 rfl ?_
  refine GoB.iconst (v := 0) dX9_init_20 (by decide) ?_
  refine GoB.put dX9_init_21 gX9_21 rfl (by decide) (fun _ => rfl) (fun _ => rfl) ?_
  refine GoB.aload_n dX9_init_24 rfl ?_
  refine GoB.bipush (v := 60) dX9_init_25 (by decide) ?_
  refine GoB.newa (kd := 4) (N := 60) dX9_init_27 aw_long (by decide) (by decide) (by decide) (by decide) (by decide) (by decide) ?_
  refine GoB.put dX9_init_29 gX9_24 rfl (by decide) (fun _ => rfl) (fun _ => rfl) ?_
  exact GoB.vret dX9_init_32 rfl (by decide) (by decide) rfl
abbrev cs_30 : List CB := [.inl (11, [.ref 1, .ref 17, .int 0, .ref 18, .ref 21, .ref 26, .ref 31, .ref 34, .ref 39, .ref 40, .ref 42, .ref 47, .ref 50]), .inl (8, [.int 0, .ref 2, .ref 3, .ref 4, .ref 5, .ref 6, .ref 7, .ref 8, .ref 9, .ref 10, .int 2, .int 0, .ref 11, .ref 14]), .inr (0, 20, [], []), .inr (0, 20, [], []), .inr (0, 20, [], []), .inr (0, 20, [], []), .inr (0, 20, [], []), .inr (0, 20, [], []), .inr (0, 20, [], []), .inr (0, 6, [], []), .inr (0, 10, [], []), .inl (5, [.ref 12, .int 0, .ref 13, .int 0]), .inr (0, 121, [], []), .inr (0, 121, [], []), .inl (5, [.ref 15, .int 0, .ref 16, .int 0]), .inr (0, 121, [], []), .inr (0, 121, [], []), .inr (0, 120, [], []), .inl (6, [.ref 19, .int 0, .ref 20, .int 0, .int 0, .int 0, .int 0, .int 1, .int 0]), .inr (0, 121, [], []), .inr (0, 120, [], []), .inl (7, [.int 0, .ref 22, .ref 23, .ref 24, .int 0, .int 0, .int 0, .int 0, .ref 25]), .inr (0, 60, [], []), .inr (0, 60, [], []), .inr (0, 60, [], []), .inr (0, 20, [], []), .inl (7, [.int 0, .ref 27, .ref 28, .ref 29, .int 0, .int 0, .int 0, .int 0, .ref 30]), .inr (0, 60, [], []), .inr (0, 60, [], []), .inr (0, 60, [], []), .inr (0, 20, [], []), .inl (10, [.ref 32, .ref 33, .int 0]), .inr (0, 256, [], []), .inr (0, 5121, [], []), .inl (3, [.int 0, .ref 35, .ref 36, .ref 37, .ref 38]), .inr (0, 20, [], []), .inr (0, 20, [], []), .inr (0, 20, [], []), .inr (0, 20, [], []), .inl (2, [.int 0, .int 0, .int 0]), .inl (4, [.int (-1), .ref 41, .int 0, .int 0]), .inr (0, 20, [], []), .inl (1, [.int 0, .int 0, .ref 43, .ref 44, .ref 45, .ref 46]), .inr (0, 40, [], []), .inr (0, 40, [], []), .inr (0, 40, [], []), .inr (0, 40, [], []), .inl (0, [.int 0, .int 0, .ref 48, .ref 49, .int 0]), .inr (0, 50, [], []), .inr (0, 24, [], []), .inr (5, 6, [], [some 51, some 53, some 55]), .inl (9, [.int 0, .int 0, .int 0, .int 0, .ref 52]), .inr (4, 60, [], []), .inl (9, [.int 0, .int 0, .int 0, .int 0, .ref 54]), .inr (4, 60, [], []), .inl (9, [.int 0, .int 0, .int 0, .int 0, .ref 56]), .inr (4, 60, [], []), .inl (9, [.int 0, .int 0, .int 0, .int 0, .null])]
abbrev cs_31 : List CB := [.inl (11, [.ref 1, .ref 17, .int 0, .ref 18, .ref 21, .ref 26, .ref 31, .ref 34, .ref 39, .ref 40, .ref 42, .ref 47, .ref 50]), .inl (8, [.int 0, .ref 2, .ref 3, .ref 4, .ref 5, .ref 6, .ref 7, .ref 8, .ref 9, .ref 10, .int 2, .int 0, .ref 11, .ref 14]), .inr (0, 20, [], []), .inr (0, 20, [], []), .inr (0, 20, [], []), .inr (0, 20, [], []), .inr (0, 20, [], []), .inr (0, 20, [], []), .inr (0, 20, [], []), .inr (0, 6, [], []), .inr (0, 10, [], []), .inl (5, [.ref 12, .int 0, .ref 13, .int 0]), .inr (0, 121, [], []), .inr (0, 121, [], []), .inl (5, [.ref 15, .int 0, .ref 16, .int 0]), .inr (0, 121, [], []), .inr (0, 121, [], []), .inr (0, 120, [], []), .inl (6, [.ref 19, .int 0, .ref 20, .int 0, .int 0, .int 0, .int 0, .int 1, .int 0]), .inr (0, 121, [], []), .inr (0, 120, [], []), .inl (7, [.int 0, .ref 22, .ref 23, .ref 24, .int 0, .int 0, .int 0, .int 0, .ref 25]), .inr (0, 60, [], []), .inr (0, 60, [], []), .inr (0, 60, [], []), .inr (0, 20, [], []), .inl (7, [.int 0, .ref 27, .ref 28, .ref 29, .int 0, .int 0, .int 0, .int 0, .ref 30]), .inr (0, 60, [], []), .inr (0, 60, [], []), .inr (0, 60, [], []), .inr (0, 20, [], []), .inl (10, [.ref 32, .ref 33, .int 0]), .inr (0, 256, [], []), .inr (0, 5121, [], []), .inl (3, [.int 0, .ref 35, .ref 36, .ref 37, .ref 38]), .inr (0, 20, [], []), .inr (0, 20, [], []), .inr (0, 20, [], []), .inr (0, 20, [], []), .inl (2, [.int 0, .int 0, .int 0]), .inl (4, [.int (-1), .ref 41, .int 0, .int 0]), .inr (0, 20, [], []), .inl (1, [.int 0, .int 0, .ref 43, .ref 44, .ref 45, .ref 46]), .inr (0, 40, [], []), .inr (0, 40, [], []), .inr (0, 40, [], []), .inr (0, 40, [], []), .inl (0, [.int 0, .int 0, .ref 48, .ref 49, .int 0]), .inr (0, 50, [], []), .inr (0, 24, [], []), .inr (5, 6, [], [some 51, some 53, some 55]), .inl (9, [.int 0, .int 0, .int 0, .int 0, .ref 52]), .inr (4, 60, [], []), .inl (9, [.int 0, .int 0, .int 0, .int 0, .ref 54]), .inr (4, 60, [], []), .inl (9, [.int 0, .int 0, .int 0, .int 0, .ref 56]), .inr (4, 60, [], []), .inl (9, [.int 0, .int 0, .int 0, .int 0, .ref 58]), .inr (4, 60, [], [])]
set_option maxHeartbeats 4000000 in
set_option maxRecDepth 100000 in
theorem ct_15 {l : Launch} (d : Nat) : GoB l (d + 1) mX9_init cs_31 1 60 0 0 0 [(0, .ref 57)] [] cs_30 := by
  refine GoB.aload_n dX9_init_0 rfl ?_
  refine GoB.objInit dX9_init_1 lo_X9_3 oi_in oi_co (Nat.le_of_ble_eq_true rfl) ?_
  refine GoB.aload_n dX9_init_4 rfl ?_
  refine GoB.iconst (v := 0) dX9_init_5 (by decide) ?_
  refine GoB.put dX9_init_6 gX9_11 rfl (by decide) (fun _ => rfl) (fun _ => rfl) ?_
  refine GoB.aload_n dX9_init_9 rfl ?_
  refine GoB.iconst (v := 0) dX9_init_10 (by decide) ?_
  refine GoB.put dX9_init_11 gX9_15 rfl (by decide) (fun _ => rfl) (fun _ => rfl) ?_
  refine GoB.aload_n dX9_init_14 rfl ?_
  refine GoB.iconst (v := 0) dX9_init_15 (by decide) ?_
  refine GoB.put dX9_init_16 gX9_18 rfl (by decide) (fun _ => rfl) (fun _ => rfl) ?_
  refine GoB.aload_n dX9_init_19 rfl ?_
  refine GoB.iconst (v := 0) dX9_init_20 (by decide) ?_
  refine GoB.put dX9_init_21 gX9_21 rfl (by decide) (fun _ => rfl) (fun _ => rfl) ?_
  refine GoB.aload_n dX9_init_24 rfl ?_
  refine GoB.bipush (v := 60) dX9_init_25 (by decide) ?_
  refine GoB.newa (kd := 4) (N := 60) dX9_init_27 aw_long (by decide) (by decide) (by decide) (by decide) (by decide) (by decide) ?_
  refine GoB.put dX9_init_29 gX9_24 rfl (by decide) (fun _ => rfl) (fun _ => rfl) ?_
  exact GoB.vret dX9_init_32 rfl (by decide) (by decide) rfl
abbrev cs_32 : List CB := [.inl (11, [.ref 1, .ref 17, .int 0, .ref 18, .ref 21, .ref 26, .ref 31, .ref 34, .ref 39, .ref 40, .ref 42, .ref 47, .ref 50]), .inl (8, [.int 0, .ref 2, .ref 3, .ref 4, .ref 5, .ref 6, .ref 7, .ref 8, .ref 9, .ref 10, .int 2, .int 0, .ref 11, .ref 14]), .inr (0, 20, [], []), .inr (0, 20, [], []), .inr (0, 20, [], []), .inr (0, 20, [], []), .inr (0, 20, [], []), .inr (0, 20, [], []), .inr (0, 20, [], []), .inr (0, 6, [], []), .inr (0, 10, [], []), .inl (5, [.ref 12, .int 0, .ref 13, .int 0]), .inr (0, 121, [], []), .inr (0, 121, [], []), .inl (5, [.ref 15, .int 0, .ref 16, .int 0]), .inr (0, 121, [], []), .inr (0, 121, [], []), .inr (0, 120, [], []), .inl (6, [.ref 19, .int 0, .ref 20, .int 0, .int 0, .int 0, .int 0, .int 1, .int 0]), .inr (0, 121, [], []), .inr (0, 120, [], []), .inl (7, [.int 0, .ref 22, .ref 23, .ref 24, .int 0, .int 0, .int 0, .int 0, .ref 25]), .inr (0, 60, [], []), .inr (0, 60, [], []), .inr (0, 60, [], []), .inr (0, 20, [], []), .inl (7, [.int 0, .ref 27, .ref 28, .ref 29, .int 0, .int 0, .int 0, .int 0, .ref 30]), .inr (0, 60, [], []), .inr (0, 60, [], []), .inr (0, 60, [], []), .inr (0, 20, [], []), .inl (10, [.ref 32, .ref 33, .int 0]), .inr (0, 256, [], []), .inr (0, 5121, [], []), .inl (3, [.int 0, .ref 35, .ref 36, .ref 37, .ref 38]), .inr (0, 20, [], []), .inr (0, 20, [], []), .inr (0, 20, [], []), .inr (0, 20, [], []), .inl (2, [.int 0, .int 0, .int 0]), .inl (4, [.int (-1), .ref 41, .int 0, .int 0]), .inr (0, 20, [], []), .inl (1, [.int 0, .int 0, .ref 43, .ref 44, .ref 45, .ref 46]), .inr (0, 40, [], []), .inr (0, 40, [], []), .inr (0, 40, [], []), .inr (0, 40, [], []), .inl (0, [.int 0, .int 0, .ref 48, .ref 49, .int 0]), .inr (0, 50, [], []), .inr (0, 24, [], []), .inr (5, 6, [], [some 51, some 53, some 55, some 57]), .inl (9, [.int 0, .int 0, .int 0, .int 0, .ref 52]), .inr (4, 60, [], []), .inl (9, [.int 0, .int 0, .int 0, .int 0, .ref 54]), .inr (4, 60, [], []), .inl (9, [.int 0, .int 0, .int 0, .int 0, .ref 56]), .inr (4, 60, [], []), .inl (9, [.int 0, .int 0, .int 0, .int 0, .ref 58]), .inr (4, 60, [], []), .inl (9, [.int 0, .int 0, .int 0, .int 0, .null])]
abbrev cs_33 : List CB := [.inl (11, [.ref 1, .ref 17, .int 0, .ref 18, .ref 21, .ref 26, .ref 31, .ref 34, .ref 39, .ref 40, .ref 42, .ref 47, .ref 50]), .inl (8, [.int 0, .ref 2, .ref 3, .ref 4, .ref 5, .ref 6, .ref 7, .ref 8, .ref 9, .ref 10, .int 2, .int 0, .ref 11, .ref 14]), .inr (0, 20, [], []), .inr (0, 20, [], []), .inr (0, 20, [], []), .inr (0, 20, [], []), .inr (0, 20, [], []), .inr (0, 20, [], []), .inr (0, 20, [], []), .inr (0, 6, [], []), .inr (0, 10, [], []), .inl (5, [.ref 12, .int 0, .ref 13, .int 0]), .inr (0, 121, [], []), .inr (0, 121, [], []), .inl (5, [.ref 15, .int 0, .ref 16, .int 0]), .inr (0, 121, [], []), .inr (0, 121, [], []), .inr (0, 120, [], []), .inl (6, [.ref 19, .int 0, .ref 20, .int 0, .int 0, .int 0, .int 0, .int 1, .int 0]), .inr (0, 121, [], []), .inr (0, 120, [], []), .inl (7, [.int 0, .ref 22, .ref 23, .ref 24, .int 0, .int 0, .int 0, .int 0, .ref 25]), .inr (0, 60, [], []), .inr (0, 60, [], []), .inr (0, 60, [], []), .inr (0, 20, [], []), .inl (7, [.int 0, .ref 27, .ref 28, .ref 29, .int 0, .int 0, .int 0, .int 0, .ref 30]), .inr (0, 60, [], []), .inr (0, 60, [], []), .inr (0, 60, [], []), .inr (0, 20, [], []), .inl (10, [.ref 32, .ref 33, .int 0]), .inr (0, 256, [], []), .inr (0, 5121, [], []), .inl (3, [.int 0, .ref 35, .ref 36, .ref 37, .ref 38]), .inr (0, 20, [], []), .inr (0, 20, [], []), .inr (0, 20, [], []), .inr (0, 20, [], []), .inl (2, [.int 0, .int 0, .int 0]), .inl (4, [.int (-1), .ref 41, .int 0, .int 0]), .inr (0, 20, [], []), .inl (1, [.int 0, .int 0, .ref 43, .ref 44, .ref 45, .ref 46]), .inr (0, 40, [], []), .inr (0, 40, [], []), .inr (0, 40, [], []), .inr (0, 40, [], []), .inl (0, [.int 0, .int 0, .ref 48, .ref 49, .int 0]), .inr (0, 50, [], []), .inr (0, 24, [], []), .inr (5, 6, [], [some 51, some 53, some 55, some 57]), .inl (9, [.int 0, .int 0, .int 0, .int 0, .ref 52]), .inr (4, 60, [], []), .inl (9, [.int 0, .int 0, .int 0, .int 0, .ref 54]), .inr (4, 60, [], []), .inl (9, [.int 0, .int 0, .int 0, .int 0, .ref 56]), .inr (4, 60, [], []), .inl (9, [.int 0, .int 0, .int 0, .int 0, .ref 58]), .inr (4, 60, [], []), .inl (9, [.int 0, .int 0, .int 0, .int 0, .ref 60]), .inr (4, 60, [], [])]
set_option maxHeartbeats 4000000 in
set_option maxRecDepth 100000 in
theorem ct_16 {l : Launch} (d : Nat) : GoB l (d + 1) mX9_init cs_33 1 60 0 0 0 [(0, .ref 59)] [] cs_32 := by
  refine GoB.aload_n dX9_init_0 rfl ?_
  refine GoB.objInit dX9_init_1 lo_X9_3 oi_in oi_co (Nat.le_of_ble_eq_true rfl) ?_
  refine GoB.aload_n dX9_init_4 rfl ?_
  refine GoB.iconst (v := 0) dX9_init_5 (by decide) ?_
  refine GoB.put dX9_init_6 gX9_11 rfl (by decide) (fun _ => rfl) (fun _ => rfl) ?_
  refine GoB.aload_n dX9_init_9 rfl ?_
  refine GoB.iconst (v := 0) dX9_init_10 (by decide) ?_
  refine GoB.put dX9_init_11 gX9_15 rfl (by decide) (fun _ => rfl) (fun _ => rfl) ?_
  refine GoB.aload_n dX9_init_14 rfl ?_
  refine GoB.iconst (v := 0) dX9_init_15 (by decide) ?_
  refine GoB.put dX9_init_16 gX9_18 rfl (by decide) (fun _ => rfl) (fun _ => rfl) ?_
  refine GoB.aload_n dX9_init_19 rfl ?_
  refine GoB.iconst (v := 0) dX9_init_20 (by decide) ?_
  refine GoB.put dX9_init_21 gX9_21 rfl (by decide) (fun _ => rfl) (fun _ => rfl) ?_
  refine GoB.aload_n dX9_init_24 rfl ?_
  refine GoB.bipush (v := 60) dX9_init_25 (by decide) ?_
  refine GoB.newa (kd := 4) (N := 60) dX9_init_27 aw_long (by decide) (by decide) (by decide) (by decide) (by decide) (by decide) ?_
  refine GoB.put dX9_init_29 gX9_24 rfl (by decide) (fun _ => rfl) (fun _ => rfl) ?_
  exact GoB.vret dX9_init_32 rfl (by decide) (by decide) rfl
abbrev cs_34 : List CB := [.inl (11, [.ref 1, .ref 17, .int 0, .ref 18, .ref 21, .ref 26, .ref 31, .ref 34, .ref 39, .ref 40, .ref 42, .ref 47, .ref 50]), .inl (8, [.int 0, .ref 2, .ref 3, .ref 4, .ref 5, .ref 6, .ref 7, .ref 8, .ref 9, .ref 10, .int 2, .int 0, .ref 11, .ref 14]), .inr (0, 20, [], []), .inr (0, 20, [], []), .inr (0, 20, [], []), .inr (0, 20, [], []), .inr (0, 20, [], []), .inr (0, 20, [], []), .inr (0, 20, [], []), .inr (0, 6, [], []), .inr (0, 10, [], []), .inl (5, [.ref 12, .int 0, .ref 13, .int 0]), .inr (0, 121, [], []), .inr (0, 121, [], []), .inl (5, [.ref 15, .int 0, .ref 16, .int 0]), .inr (0, 121, [], []), .inr (0, 121, [], []), .inr (0, 120, [], []), .inl (6, [.ref 19, .int 0, .ref 20, .int 0, .int 0, .int 0, .int 0, .int 1, .int 0]), .inr (0, 121, [], []), .inr (0, 120, [], []), .inl (7, [.int 0, .ref 22, .ref 23, .ref 24, .int 0, .int 0, .int 0, .int 0, .ref 25]), .inr (0, 60, [], []), .inr (0, 60, [], []), .inr (0, 60, [], []), .inr (0, 20, [], []), .inl (7, [.int 0, .ref 27, .ref 28, .ref 29, .int 0, .int 0, .int 0, .int 0, .ref 30]), .inr (0, 60, [], []), .inr (0, 60, [], []), .inr (0, 60, [], []), .inr (0, 20, [], []), .inl (10, [.ref 32, .ref 33, .int 0]), .inr (0, 256, [], []), .inr (0, 5121, [], []), .inl (3, [.int 0, .ref 35, .ref 36, .ref 37, .ref 38]), .inr (0, 20, [], []), .inr (0, 20, [], []), .inr (0, 20, [], []), .inr (0, 20, [], []), .inl (2, [.int 0, .int 0, .int 0]), .inl (4, [.int (-1), .ref 41, .int 0, .int 0]), .inr (0, 20, [], []), .inl (1, [.int 0, .int 0, .ref 43, .ref 44, .ref 45, .ref 46]), .inr (0, 40, [], []), .inr (0, 40, [], []), .inr (0, 40, [], []), .inr (0, 40, [], []), .inl (0, [.int 0, .int 0, .ref 48, .ref 49, .int 0]), .inr (0, 50, [], []), .inr (0, 24, [], []), .inr (5, 6, [], [some 51, some 53, some 55, some 57, some 59]), .inl (9, [.int 0, .int 0, .int 0, .int 0, .ref 52]), .inr (4, 60, [], []), .inl (9, [.int 0, .int 0, .int 0, .int 0, .ref 54]), .inr (4, 60, [], []), .inl (9, [.int 0, .int 0, .int 0, .int 0, .ref 56]), .inr (4, 60, [], []), .inl (9, [.int 0, .int 0, .int 0, .int 0, .ref 58]), .inr (4, 60, [], []), .inl (9, [.int 0, .int 0, .int 0, .int 0, .ref 60]), .inr (4, 60, [], []), .inl (9, [.int 0, .int 0, .int 0, .int 0, .null])]
abbrev cs_35 : List CB := [.inl (11, [.ref 1, .ref 17, .int 0, .ref 18, .ref 21, .ref 26, .ref 31, .ref 34, .ref 39, .ref 40, .ref 42, .ref 47, .ref 50]), .inl (8, [.int 0, .ref 2, .ref 3, .ref 4, .ref 5, .ref 6, .ref 7, .ref 8, .ref 9, .ref 10, .int 2, .int 0, .ref 11, .ref 14]), .inr (0, 20, [], []), .inr (0, 20, [], []), .inr (0, 20, [], []), .inr (0, 20, [], []), .inr (0, 20, [], []), .inr (0, 20, [], []), .inr (0, 20, [], []), .inr (0, 6, [], []), .inr (0, 10, [], []), .inl (5, [.ref 12, .int 0, .ref 13, .int 0]), .inr (0, 121, [], []), .inr (0, 121, [], []), .inl (5, [.ref 15, .int 0, .ref 16, .int 0]), .inr (0, 121, [], []), .inr (0, 121, [], []), .inr (0, 120, [], []), .inl (6, [.ref 19, .int 0, .ref 20, .int 0, .int 0, .int 0, .int 0, .int 1, .int 0]), .inr (0, 121, [], []), .inr (0, 120, [], []), .inl (7, [.int 0, .ref 22, .ref 23, .ref 24, .int 0, .int 0, .int 0, .int 0, .ref 25]), .inr (0, 60, [], []), .inr (0, 60, [], []), .inr (0, 60, [], []), .inr (0, 20, [], []), .inl (7, [.int 0, .ref 27, .ref 28, .ref 29, .int 0, .int 0, .int 0, .int 0, .ref 30]), .inr (0, 60, [], []), .inr (0, 60, [], []), .inr (0, 60, [], []), .inr (0, 20, [], []), .inl (10, [.ref 32, .ref 33, .int 0]), .inr (0, 256, [], []), .inr (0, 5121, [], []), .inl (3, [.int 0, .ref 35, .ref 36, .ref 37, .ref 38]), .inr (0, 20, [], []), .inr (0, 20, [], []), .inr (0, 20, [], []), .inr (0, 20, [], []), .inl (2, [.int 0, .int 0, .int 0]), .inl (4, [.int (-1), .ref 41, .int 0, .int 0]), .inr (0, 20, [], []), .inl (1, [.int 0, .int 0, .ref 43, .ref 44, .ref 45, .ref 46]), .inr (0, 40, [], []), .inr (0, 40, [], []), .inr (0, 40, [], []), .inr (0, 40, [], []), .inl (0, [.int 0, .int 0, .ref 48, .ref 49, .int 0]), .inr (0, 50, [], []), .inr (0, 24, [], []), .inr (5, 6, [], [some 51, some 53, some 55, some 57, some 59]), .inl (9, [.int 0, .int 0, .int 0, .int 0, .ref 52]), .inr (4, 60, [], []), .inl (9, [.int 0, .int 0, .int 0, .int 0, .ref 54]), .inr (4, 60, [], []), .inl (9, [.int 0, .int 0, .int 0, .int 0, .ref 56]), .inr (4, 60, [], []), .inl (9, [.int 0, .int 0, .int 0, .int 0, .ref 58]), .inr (4, 60, [], []), .inl (9, [.int 0, .int 0, .int 0, .int 0, .ref 60]), .inr (4, 60, [], []), .inl (9, [.int 0, .int 0, .int 0, .int 0, .ref 62]), .inr (4, 60, [], [])]
set_option maxHeartbeats 4000000 in
set_option maxRecDepth 100000 in
theorem ct_17 {l : Launch} (d : Nat) : GoB l (d + 1) mX9_init cs_35 1 60 0 0 0 [(0, .ref 61)] [] cs_34 := by
  refine GoB.aload_n dX9_init_0 rfl ?_
  refine GoB.objInit dX9_init_1 lo_X9_3 oi_in oi_co (Nat.le_of_ble_eq_true rfl) ?_
  refine GoB.aload_n dX9_init_4 rfl ?_
  refine GoB.iconst (v := 0) dX9_init_5 (by decide) ?_
  refine GoB.put dX9_init_6 gX9_11 rfl (by decide) (fun _ => rfl) (fun _ => rfl) ?_
  refine GoB.aload_n dX9_init_9 rfl ?_
  refine GoB.iconst (v := 0) dX9_init_10 (by decide) ?_
  refine GoB.put dX9_init_11 gX9_15 rfl (by decide) (fun _ => rfl) (fun _ => rfl) ?_
  refine GoB.aload_n dX9_init_14 rfl ?_
  refine GoB.iconst (v := 0) dX9_init_15 (by decide) ?_
  refine GoB.put dX9_init_16 gX9_18 rfl (by decide) (fun _ => rfl) (fun _ => rfl) ?_
  refine GoB.aload_n dX9_init_19 rfl ?_
  refine GoB.iconst (v := 0) dX9_init_20 (by decide) ?_
  refine GoB.put dX9_init_21 gX9_21 rfl (by decide) (fun _ => rfl) (fun _ => rfl) ?_
  refine GoB.aload_n dX9_init_24 rfl ?_
  refine GoB.bipush (v := 60) dX9_init_25 (by decide) ?_
  refine GoB.newa (kd := 4) (N := 60) dX9_init_27 aw_long (by decide) (by decide) (by decide) (by decide) (by decide) (by decide) ?_
  refine GoB.put dX9_init_29 gX9_24 rfl (by decide) (fun _ => rfl) (fun _ => rfl) ?_
  exact GoB.vret dX9_init_32 rfl (by decide) (by decide) rfl
abbrev cs_36 : List CB := [.inl (11, [.ref 1, .ref 17, .int 0, .ref 18, .ref 21, .ref 26, .ref 31, .ref 34, .ref 39, .ref 40, .ref 42, .ref 47, .ref 50]), .inl (8, [.int 0, .ref 2, .ref 3, .ref 4, .ref 5, .ref 6, .ref 7, .ref 8, .ref 9, .ref 10, .int 2, .int 0, .ref 11, .ref 14]), .inr (0, 20, [], []), .inr (0, 20, [], []), .inr (0, 20, [], []), .inr (0, 20, [], []), .inr (0, 20, [], []), .inr (0, 20, [], []), .inr (0, 20, [], []), .inr (0, 6, [], []), .inr (0, 10, [], []), .inl (5, [.ref 12, .int 0, .ref 13, .int 0]), .inr (0, 121, [], []), .inr (0, 121, [], []), .inl (5, [.ref 15, .int 0, .ref 16, .int 0]), .inr (0, 121, [], []), .inr (0, 121, [], []), .inr (0, 120, [], []), .inl (6, [.ref 19, .int 0, .ref 20, .int 0, .int 0, .int 0, .int 0, .int 1, .int 0]), .inr (0, 121, [], []), .inr (0, 120, [], []), .inl (7, [.int 0, .ref 22, .ref 23, .ref 24, .int 0, .int 0, .int 0, .int 0, .ref 25]), .inr (0, 60, [], []), .inr (0, 60, [], []), .inr (0, 60, [], []), .inr (0, 20, [], []), .inl (7, [.int 0, .ref 27, .ref 28, .ref 29, .int 0, .int 0, .int 0, .int 0, .ref 30]), .inr (0, 60, [], []), .inr (0, 60, [], []), .inr (0, 60, [], []), .inr (0, 20, [], []), .inl (10, [.ref 32, .ref 33, .int 0]), .inr (0, 256, [], []), .inr (0, 5121, [], []), .inl (3, [.int 0, .ref 35, .ref 36, .ref 37, .ref 38]), .inr (0, 20, [], []), .inr (0, 20, [], []), .inr (0, 20, [], []), .inr (0, 20, [], []), .inl (2, [.int 0, .int 0, .int 0]), .inl (4, [.int (-1), .ref 41, .int 0, .int 0]), .inr (0, 20, [], []), .inl (1, [.int 0, .int 0, .ref 43, .ref 44, .ref 45, .ref 46]), .inr (0, 40, [], []), .inr (0, 40, [], []), .inr (0, 40, [], []), .inr (0, 40, [], []), .inl (0, [.int 0, .int 0, .ref 48, .ref 49, .int 0]), .inr (0, 50, [], []), .inr (0, 24, [], []), .inr (5, 6, [], [some 51, some 53, some 55, some 57, some 59, some 61]), .inl (9, [.int 0, .int 0, .int 0, .int 0, .ref 52]), .inr (4, 60, [], []), .inl (9, [.int 0, .int 0, .int 0, .int 0, .ref 54]), .inr (4, 60, [], []), .inl (9, [.int 0, .int 0, .int 0, .int 0, .ref 56]), .inr (4, 60, [], []), .inl (9, [.int 0, .int 0, .int 0, .int 0, .ref 58]), .inr (4, 60, [], []), .inl (9, [.int 0, .int 0, .int 0, .int 0, .ref 60]), .inr (4, 60, [], []), .inl (9, [.int 0, .int 0, .int 0, .int 0, .ref 62]), .inr (4, 60, [], [])]
set_option maxHeartbeats 4000000 in
set_option maxRecDepth 100000 in
theorem ct_18 {l : Launch} (d : Nat) : GoB l (d + 3) mX11_init cs_36 62 7583 0 0 0 [(0, .ref 0)] [] cs_0 := by
  refine GoB.aload_n dX11_init_0 rfl ?_
  refine GoB.objInit dX11_init_1 lo_X11_1 oi_in oi_co (Nat.le_of_ble_eq_true rfl) ?_
  refine GoB.aload_n dX11_init_4 rfl ?_
  refine GoB.new (ci := 8) (N := 14) (C := RX8) (T := TX8) tyX8 (fs := [.int 0, .null, .null, .null, .null, .null, .null, .null, .null, .null, .int 0, .int 0, .null, .null]) dX11_init_5 iw_X8 tyX8_ok cl_X11_7 is_X8 in_X8 rfl (by decide) (fun _ => rfl) (by decide) (by decide) ?_
  refine GoB.dup dX11_init_8 rfl ?_
  refine GoB.ctor (cs1 := cs_6) (mc' := 15) (ms' := 648) (cs := cs_1) dX11_init_9 kX8_init rfl rfl iM_X8_init (by decide +kernel) (Nat.le_of_ble_eq_true rfl) (Nat.le_of_ble_eq_true rfl) (by decide) (by decide) (ct_2 (d + 0)) rfl rfl ?_
  refine GoB.put dX11_init_12 gX11_10 rfl (by decide) (fun _ => rfl) (fun _ => rfl) ?_
  refine GoB.aload_n dX11_init_15 rfl ?_
  refine GoB.bipush (v := 120) dX11_init_16 (by decide) ?_
  refine GoB.newa (kd := 0) (N := 120) dX11_init_18 aw_int (by decide) (by decide) (by decide) (by decide) (by decide) (by decide) ?_
  refine GoB.put dX11_init_20 gX11_16 rfl (by decide) (fun _ => rfl) (fun _ => rfl) ?_
  refine GoB.aload_n dX11_init_23 rfl ?_
  refine GoB.iconst (v := 0) dX11_init_24 (by decide) ?_
  refine GoB.put dX11_init_25 gX11_20 rfl (by decide) (fun _ => rfl) (fun _ => rfl) ?_
  refine GoB.aload_n dX11_init_28 rfl ?_
  refine GoB.new (ci := 6) (N := 9) (C := RX6) (T := TX6) tyX6 (fs := [.null, .int 0, .null, .int 0, .int 0, .int 0, .int 0, .int 0, .int 0]) dX11_init_29 iw_X6 tyX6_ok cl_X11_24 is_X6 in_X6 rfl (by decide) (fun _ => rfl) (by decide) (by decide) ?_
  refine GoB.dup dX11_init_32 rfl ?_
  refine GoB.ctor (cs1 := cs_8) (mc' := 2) (ms' := 241) (cs := cs_7) dX11_init_33 kX6_init rfl rfl iM_X6_init (by decide +kernel) (Nat.le_of_ble_eq_true rfl) (Nat.le_of_ble_eq_true rfl) (by decide) (by decide) (ct_3 (d + 1)) rfl rfl ?_
  refine GoB.put dX11_init_36 gX11_27 rfl (by decide) (fun _ => rfl) (fun _ => rfl) ?_
  refine GoB.aload_n dX11_init_39 rfl ?_
  refine GoB.new (ci := 7) (N := 9) (C := RX7) (T := TX7) tyX7 (fs := [.int 0, .null, .null, .null, .int 0, .int 0, .int 0, .int 0, .null]) dX11_init_40 iw_X7 tyX7_ok cl_X11_31 is_X7 in_X7 rfl (by decide) (fun _ => rfl) (by decide) (by decide) ?_
  refine GoB.dup dX11_init_43 rfl ?_
  refine GoB.ctor (cs1 := cs_10) (mc' := 4) (ms' := 200) (cs := cs_9) dX11_init_44 kX7_init rfl rfl iM_X7_init (by decide +kernel) (Nat.le_of_ble_eq_true rfl) (Nat.le_of_ble_eq_true rfl) (by decide) (by decide) (ct_4 (d + 1)) rfl rfl ?_
  refine GoB.put dX11_init_47 gX11_34 rfl (by decide) (fun _ => rfl) (fun _ => rfl) ?_
  refine GoB.aload_n dX11_init_50 rfl ?_
  refine GoB.new (ci := 7) (N := 9) (C := RX7) (T := TX7) tyX7 (fs := [.int 0, .null, .null, .null, .int 0, .int 0, .int 0, .int 0, .null]) dX11_init_51 iw_X7 tyX7_ok cl_X11_31 is_X7 in_X7 rfl (by decide) (fun _ => rfl) (by decide) (by decide) ?_
  refine GoB.dup dX11_init_54 rfl ?_
  refine GoB.ctor (cs1 := cs_12) (mc' := 4) (ms' := 200) (cs := cs_11) dX11_init_55 kX7_init rfl rfl iM_X7_init (by decide +kernel) (Nat.le_of_ble_eq_true rfl) (Nat.le_of_ble_eq_true rfl) (by decide) (by decide) (ct_5 (d + 1)) rfl rfl ?_
  refine GoB.put dX11_init_58 gX11_38 rfl (by decide) (fun _ => rfl) (fun _ => rfl) ?_
  refine GoB.aload_n dX11_init_61 rfl ?_
  refine GoB.new (ci := 10) (N := 3) (C := RX10) (T := TX10) tyX10 (fs := [.null, .null, .int 0]) dX11_init_62 iw_X10 tyX10_ok cl_X11_41 is_X10 in_X10 rfl (by decide) (fun _ => rfl) (by decide) (by decide) ?_
  refine GoB.dup dX11_init_65 rfl ?_
  refine GoB.ctor (cs1 := cs_14) (mc' := 2) (ms' := 5377) (cs := cs_13) dX11_init_66 kX10_init rfl rfl iM_X10_init (by decide +kernel) (Nat.le_of_ble_eq_true rfl) (Nat.le_of_ble_eq_true rfl) (by decide) (by decide) (ct_6 (d + 1)) rfl rfl ?_
  refine GoB.put dX11_init_69 gX11_44 rfl (by decide) (fun _ => rfl) (fun _ => rfl) ?_
  refine GoB.aload_n dX11_init_72 rfl ?_
  refine GoB.new (ci := 3) (N := 5) (C := RX3) (T := TX3) tyX3 (fs := [.int 0, .null, .null, .null, .null]) dX11_init_73 iw_X3 tyX3_ok cl_X11_48 is_X3 in_X3 rfl (by decide) (fun _ => rfl) (by decide) (by decide) ?_
  refine GoB.dup dX11_init_76 rfl ?_
  refine GoB.ctor (cs1 := cs_16) (mc' := 4) (ms' := 80) (cs := cs_15) dX11_init_77 kX3_init rfl rfl iM_X3_init (by decide +kernel) (Nat.le_of_ble_eq_true rfl) (Nat.le_of_ble_eq_true rfl) (by decide) (by decide) (ct_7 (d + 1)) rfl rfl ?_
  refine GoB.put dX11_init_80 gX11_51 rfl (by decide) (fun _ => rfl) (fun _ => rfl) ?_
  refine GoB.aload_n dX11_init_83 rfl ?_
  refine GoB.new (ci := 2) (N := 3) (C := RX2) (T := TX2) tyX2 (fs := [.int 0, .int 0, .int 0]) dX11_init_84 iw_X2 tyX2_ok cl_X11_55 is_X2 in_X2 rfl (by decide) (fun _ => rfl) (by decide) (by decide) ?_
  refine GoB.dup dX11_init_87 rfl ?_
  refine GoB.ctor (cs1 := cs_17) (mc' := 0) (ms' := 0) (cs := cs_17) dX11_init_88 kX2_init rfl rfl iM_X2_init (by decide +kernel) (Nat.le_of_ble_eq_true rfl) (Nat.le_of_ble_eq_true rfl) (by decide) (by decide) (ct_8 (d + 1)) rfl rfl ?_
  refine GoB.put dX11_init_91 gX11_58 rfl (by decide) (fun _ => rfl) (fun _ => rfl) ?_
  refine GoB.aload_n dX11_init_94 rfl ?_
  refine GoB.new (ci := 4) (N := 4) (C := RX4) (T := TX4) tyX4 (fs := [.int 0, .null, .int 0, .int 0]) dX11_init_95 iw_X4 tyX4_ok cl_X11_62 is_X4 in_X4 rfl (by decide) (fun _ => rfl) (by decide) (by decide) ?_
  refine GoB.dup dX11_init_98 rfl ?_
  refine GoB.ctor (cs1 := cs_19) (mc' := 1) (ms' := 20) (cs := cs_18) dX11_init_99 kX4_init rfl rfl iM_X4_init (by decide +kernel) (Nat.le_of_ble_eq_true rfl) (Nat.le_of_ble_eq_true rfl) (by decide) (by decide) (ct_9 (d + 1)) rfl rfl ?_
  refine GoB.put dX11_init_102 gX11_65 rfl (by decide) (fun _ => rfl) (fun _ => rfl) ?_
  refine GoB.aload_n dX11_init_105 rfl ?_
  refine GoB.new (ci := 1) (N := 6) (C := RX1) (T := TX1) tyX1 (fs := [.int 0, .int 0, .null, .null, .null, .null]) dX11_init_106 iw_X1 tyX1_ok cl_X11_69 is_X1 in_X1 rfl (by decide) (fun _ => rfl) (by decide) (by decide) ?_
  refine GoB.dup dX11_init_109 rfl ?_
  refine GoB.ctor (cs1 := cs_21) (mc' := 4) (ms' := 160) (cs := cs_20) dX11_init_110 kX1_init rfl rfl iM_X1_init (by decide +kernel) (Nat.le_of_ble_eq_true rfl) (Nat.le_of_ble_eq_true rfl) (by decide) (by decide) (ct_10 (d + 1)) rfl rfl ?_
  refine GoB.put dX11_init_113 gX11_72 rfl (by decide) (fun _ => rfl) (fun _ => rfl) ?_
  refine GoB.aload_n dX11_init_116 rfl ?_
  refine GoB.new (ci := 0) (N := 5) (C := RX0) (T := TX0) tyX0 (fs := [.int 0, .int 0, .null, .null, .int 0]) dX11_init_117 iw_X0 tyX0_ok cl_X11_76 is_X0 in_X0 rfl (by decide) (fun _ => rfl) (by decide) (by decide) ?_
  refine GoB.dup dX11_init_120 rfl ?_
  refine GoB.ctor (cs1 := cs_23) (mc' := 2) (ms' := 74) (cs := cs_22) dX11_init_121 kX0_init rfl rfl iM_X0_init (by decide +kernel) (Nat.le_of_ble_eq_true rfl) (Nat.le_of_ble_eq_true rfl) (by decide) (by decide) (ct_11 (d + 1)) rfl rfl ?_
  refine GoB.put dX11_init_124 gX11_79 rfl (by decide) (fun _ => rfl) (fun _ => rfl) ?_
  refine GoB.aload_n dX11_init_127 rfl ?_
  refine GoB.bipush (v := 6) dX11_init_128 (by decide) ?_
  refine GoB.anew (N := 6) dX11_init_130 cl_X11_83 (by decide) (by decide) (by decide) (by decide) (by decide) ?_
  refine GoB.put dX11_init_133 gX11_85 rfl (by decide) (fun _ => rfl) (fun _ => rfl) ?_
  refine GoB.iconst (v := 0) dX11_init_136 (by decide) ?_
  refine GoB.istore_n (ls' := [(1, .int 0), (0, .ref 0)]) dX11_init_137 (by decide) rfl ?_
  refine GoB.iload_n dX11_init_138 rfl ?_
  refine GoB.bipush (v := 6) dX11_init_139 (by decide) ?_
  refine GoB.icmpge (tgt := 163) dX11_init_141 (by decide) (fun h => absurd h (by decide)) (fun _ => ?_)
  refine GoB.aload_n dX11_init_144 rfl ?_
  refine GoB.get dX11_init_145 fX11_85 rfl rfl ?_
  refine GoB.iload_n dX11_init_148 rfl ?_
  refine GoB.new (ci := 9) (N := 5) (C := RX9) (T := TX9) tyX9 (fs := [.int 0, .int 0, .int 0, .int 0, .null]) dX11_init_149 iw_X9 tyX9_ok cl_X11_83 is_X9 in_X9 rfl (by decide) (fun _ => rfl) (by decide) (by decide) ?_
  refine GoB.dup dX11_init_152 rfl ?_
  refine GoB.ctor (cs1 := cs_25) (mc' := 1) (ms' := 60) (cs := cs_24) dX11_init_153 kX9_init rfl rfl iM_X9_init (by decide +kernel) (Nat.le_of_ble_eq_true rfl) (Nat.le_of_ble_eq_true rfl) (by decide) (by decide) (ct_12 (d + 1)) rfl rfl ?_
  refine GoB.aast dX11_init_156 rfl rfl (by decide) (by unfold vp_in; decide) ?_
  refine GoB.iinc (v := 1) (ls' := [(1, .int 1), (0, .ref 0)]) dX11_init_157 rfl (by decide) (by decide) rfl ?_
  refine GoB.goto (tgt := 138) dX11_init_160 (by decide) ?_
  refine GoB.iload_n dX11_init_138 rfl ?_
  refine GoB.bipush (v := 6) dX11_init_139 (by decide) ?_
  refine GoB.icmpge (tgt := 163) dX11_init_141 (by decide) (fun h => absurd h (by decide)) (fun _ => ?_)
  refine GoB.aload_n dX11_init_144 rfl ?_
  refine GoB.get dX11_init_145 fX11_85 rfl rfl ?_
  refine GoB.iload_n dX11_init_148 rfl ?_
  refine GoB.new (ci := 9) (N := 5) (C := RX9) (T := TX9) tyX9 (fs := [.int 0, .int 0, .int 0, .int 0, .null]) dX11_init_149 iw_X9 tyX9_ok cl_X11_83 is_X9 in_X9 rfl (by decide) (fun _ => rfl) (by decide) (by decide) ?_
  refine GoB.dup dX11_init_152 rfl ?_
  refine GoB.ctor (cs1 := cs_27) (mc' := 1) (ms' := 60) (cs := cs_26) dX11_init_153 kX9_init rfl rfl iM_X9_init (by decide +kernel) (Nat.le_of_ble_eq_true rfl) (Nat.le_of_ble_eq_true rfl) (by decide) (by decide) (ct_13 (d + 1)) rfl rfl ?_
  refine GoB.aast dX11_init_156 rfl rfl (by decide) (by unfold vp_in; decide) ?_
  refine GoB.iinc (v := 2) (ls' := [(1, .int 2), (0, .ref 0)]) dX11_init_157 rfl (by decide) (by decide) rfl ?_
  refine GoB.goto (tgt := 138) dX11_init_160 (by decide) ?_
  refine GoB.iload_n dX11_init_138 rfl ?_
  refine GoB.bipush (v := 6) dX11_init_139 (by decide) ?_
  refine GoB.icmpge (tgt := 163) dX11_init_141 (by decide) (fun h => absurd h (by decide)) (fun _ => ?_)
  refine GoB.aload_n dX11_init_144 rfl ?_
  refine GoB.get dX11_init_145 fX11_85 rfl rfl ?_
  refine GoB.iload_n dX11_init_148 rfl ?_
  refine GoB.new (ci := 9) (N := 5) (C := RX9) (T := TX9) tyX9 (fs := [.int 0, .int 0, .int 0, .int 0, .null]) dX11_init_149 iw_X9 tyX9_ok cl_X11_83 is_X9 in_X9 rfl (by decide) (fun _ => rfl) (by decide) (by decide) ?_
  refine GoB.dup dX11_init_152 rfl ?_
  refine GoB.ctor (cs1 := cs_29) (mc' := 1) (ms' := 60) (cs := cs_28) dX11_init_153 kX9_init rfl rfl iM_X9_init (by decide +kernel) (Nat.le_of_ble_eq_true rfl) (Nat.le_of_ble_eq_true rfl) (by decide) (by decide) (ct_14 (d + 1)) rfl rfl ?_
  refine GoB.aast dX11_init_156 rfl rfl (by decide) (by unfold vp_in; decide) ?_
  refine GoB.iinc (v := 3) (ls' := [(1, .int 3), (0, .ref 0)]) dX11_init_157 rfl (by decide) (by decide) rfl ?_
  refine GoB.goto (tgt := 138) dX11_init_160 (by decide) ?_
  refine GoB.iload_n dX11_init_138 rfl ?_
  refine GoB.bipush (v := 6) dX11_init_139 (by decide) ?_
  refine GoB.icmpge (tgt := 163) dX11_init_141 (by decide) (fun h => absurd h (by decide)) (fun _ => ?_)
  refine GoB.aload_n dX11_init_144 rfl ?_
  refine GoB.get dX11_init_145 fX11_85 rfl rfl ?_
  refine GoB.iload_n dX11_init_148 rfl ?_
  refine GoB.new (ci := 9) (N := 5) (C := RX9) (T := TX9) tyX9 (fs := [.int 0, .int 0, .int 0, .int 0, .null]) dX11_init_149 iw_X9 tyX9_ok cl_X11_83 is_X9 in_X9 rfl (by decide) (fun _ => rfl) (by decide) (by decide) ?_
  refine GoB.dup dX11_init_152 rfl ?_
  refine GoB.ctor (cs1 := cs_31) (mc' := 1) (ms' := 60) (cs := cs_30) dX11_init_153 kX9_init rfl rfl iM_X9_init (by decide +kernel) (Nat.le_of_ble_eq_true rfl) (Nat.le_of_ble_eq_true rfl) (by decide) (by decide) (ct_15 (d + 1)) rfl rfl ?_
  refine GoB.aast dX11_init_156 rfl rfl (by decide) (by unfold vp_in; decide) ?_
  refine GoB.iinc (v := 4) (ls' := [(1, .int 4), (0, .ref 0)]) dX11_init_157 rfl (by decide) (by decide) rfl ?_
  refine GoB.goto (tgt := 138) dX11_init_160 (by decide) ?_
  refine GoB.iload_n dX11_init_138 rfl ?_
  refine GoB.bipush (v := 6) dX11_init_139 (by decide) ?_
  refine GoB.icmpge (tgt := 163) dX11_init_141 (by decide) (fun h => absurd h (by decide)) (fun _ => ?_)
  refine GoB.aload_n dX11_init_144 rfl ?_
  refine GoB.get dX11_init_145 fX11_85 rfl rfl ?_
  refine GoB.iload_n dX11_init_148 rfl ?_
  refine GoB.new (ci := 9) (N := 5) (C := RX9) (T := TX9) tyX9 (fs := [.int 0, .int 0, .int 0, .int 0, .null]) dX11_init_149 iw_X9 tyX9_ok cl_X11_83 is_X9 in_X9 rfl (by decide) (fun _ => rfl) (by decide) (by decide) ?_
  refine GoB.dup dX11_init_152 rfl ?_
  refine GoB.ctor (cs1 := cs_33) (mc' := 1) (ms' := 60) (cs := cs_32) dX11_init_153 kX9_init rfl rfl iM_X9_init (by decide +kernel) (Nat.le_of_ble_eq_true rfl) (Nat.le_of_ble_eq_true rfl) (by decide) (by decide) (ct_16 (d + 1)) rfl rfl ?_
  refine GoB.aast dX11_init_156 rfl rfl (by decide) (by unfold vp_in; decide) ?_
  refine GoB.iinc (v := 5) (ls' := [(1, .int 5), (0, .ref 0)]) dX11_init_157 rfl (by decide) (by decide) rfl ?_
  refine GoB.goto (tgt := 138) dX11_init_160 (by decide) ?_
  refine GoB.iload_n dX11_init_138 rfl ?_
  refine GoB.bipush (v := 6) dX11_init_139 (by decide) ?_
  refine GoB.icmpge (tgt := 163) dX11_init_141 (by decide) (fun h => absurd h (by decide)) (fun _ => ?_)
  refine GoB.aload_n dX11_init_144 rfl ?_
  refine GoB.get dX11_init_145 fX11_85 rfl rfl ?_
  refine GoB.iload_n dX11_init_148 rfl ?_
  refine GoB.new (ci := 9) (N := 5) (C := RX9) (T := TX9) tyX9 (fs := [.int 0, .int 0, .int 0, .int 0, .null]) dX11_init_149 iw_X9 tyX9_ok cl_X11_83 is_X9 in_X9 rfl (by decide) (fun _ => rfl) (by decide) (by decide) ?_
  refine GoB.dup dX11_init_152 rfl ?_
  refine GoB.ctor (cs1 := cs_35) (mc' := 1) (ms' := 60) (cs := cs_34) dX11_init_153 kX9_init rfl rfl iM_X9_init (by decide +kernel) (Nat.le_of_ble_eq_true rfl) (Nat.le_of_ble_eq_true rfl) (by decide) (by decide) (ct_17 (d + 1)) rfl rfl ?_
  refine GoB.aast dX11_init_156 rfl rfl (by decide) (by unfold vp_in; decide) ?_
  refine GoB.iinc (v := 6) (ls' := [(1, .int 6), (0, .ref 0)]) dX11_init_157 rfl (by decide) (by decide) rfl ?_
  refine GoB.goto (tgt := 138) dX11_init_160 (by decide) ?_
  refine GoB.iload_n dX11_init_138 rfl ?_
  refine GoB.bipush (v := 6) dX11_init_139 (by decide) ?_
  refine GoB.icmpge (tgt := 163) dX11_init_141 (by decide) (fun _ => ?_) (fun h => absurd (by decide) h)
  exact GoB.vret dX11_init_163 rfl (by decide) (by decide) rfl
abbrev cs_37 : List CB := [.inl (11, [.ref 1, .ref 17, .int 0, .ref 18, .ref 21, .ref 26, .ref 31, .ref 34, .ref 39, .ref 40, .ref 42, .ref 47, .ref 50]), .inl (8, [.int 0, .ref 2, .ref 3, .ref 4, .ref 5, .ref 6, .ref 7, .ref 8, .ref 9, .ref 10, .int 2, .int 0, .ref 11, .ref 14]), .inr (0, 20, [], []), .inr (0, 20, [], []), .inr (0, 20, [], []), .inr (0, 20, [], []), .inr (0, 20, [], []), .inr (0, 20, [], []), .inr (0, 20, [], []), .inr (0, 6, [], []), .inr (0, 10, [], []), .inl (5, [.ref 12, .int 0, .ref 13, .int 0]), .inr (0, 121, [], []), .inr (0, 121, [], []), .inl (5, [.ref 15, .int 0, .ref 16, .int 0]), .inr (0, 121, [], []), .inr (0, 121, [], []), .inr (0, 120, [], []), .inl (6, [.ref 19, .int 0, .ref 20, .int 0, .int 0, .int 0, .int 0, .int 1, .int 0]), .inr (0, 121, [], []), .inr (0, 120, [], []), .inl (7, [.int 0, .ref 22, .ref 23, .ref 24, .int 0, .int 0, .int 0, .int 0, .ref 25]), .inr (0, 60, [], []), .inr (0, 60, [], []), .inr (0, 60, [], []), .inr (0, 20, [], []), .inl (7, [.int 0, .ref 27, .ref 28, .ref 29, .int 0, .int 0, .int 0, .int 0, .ref 30]), .inr (0, 60, [], []), .inr (0, 60, [], []), .inr (0, 60, [], []), .inr (0, 20, [], []), .inl (10, [.ref 32, .ref 33, .int 0]), .inr (0, 256, [], []), .inr (0, 5121, [], []), .inl (3, [.int 0, .ref 35, .ref 36, .ref 37, .ref 38]), .inr (0, 20, [], []), .inr (0, 20, [], []), .inr (0, 20, [], []), .inr (0, 20, [], []), .inl (2, [.int 0, .int 0, .int 0]), .inl (4, [.int (-1), .ref 41, .int 0, .int 0]), .inr (0, 20, [], []), .inl (1, [.int 0, .int 0, .ref 43, .ref 44, .ref 45, .ref 46]), .inr (0, 40, [], []), .inr (0, 40, [], []), .inr (0, 40, [], []), .inr (0, 40, [], []), .inl (0, [.int 0, .int 0, .ref 48, .ref 49, .int 0]), .inr (0, 50, [], []), .inr (0, 24, [], []), .inr (5, 6, [], [some 51, some 53, some 55, some 57, some 59, some 61]), .inl (9, [.int 0, .int 0, .int 0, .int 0, .ref 52]), .inr (4, 60, [], []), .inl (9, [.int 0, .int 0, .int 0, .int 0, .ref 54]), .inr (4, 60, [], []), .inl (9, [.int 0, .int 0, .int 0, .int 0, .ref 56]), .inr (4, 60, [], []), .inl (9, [.int 0, .int 0, .int 0, .int 0, .ref 58]), .inr (4, 60, [], []), .inl (9, [.int 0, .int 0, .int 0, .int 0, .ref 60]), .inr (4, 60, [], []), .inl (9, [.int 0, .int 0, .int 0, .int 0, .ref 62]), .inr (4, 60, [], []), .inl (12, [.int 0, .int 0, .null, .null, .null, .null, .null, .null, .null, .null, .int 0, .int 0, .int 0, .int 0, .null, .null, .null, .null, .null, .int 0, .int 0, .int 0, .int 0, .int 0, .null, .null, .null, .null, .null, .null, .null, .null, .null, .int 0, .int 0, .null, .null, .null, .null, .int 0, .int 0, .null, .null, .null, .null, .null, .null, .null, .int 0, .int 0, .int 0, .int 0, .null, .int 0, .int 0, .int 0, .null, .int 0, .null, .null, .null, .null, .null])]
theorem gX12_7 : FL2 RX12 7 12 2 true (.array .int) := ⟨RX12, TX12, 63, tyX12, rfl, by decide, gt_mem 959 (by decide +kernel) (by decide +kernel), iw_X12, tyX12_ok, nmX12, rfl, by decide +kernel, rfl⟩
theorem gX12_13 : FL2 RX12 13 12 3 true (.array .int) := ⟨RX12, TX12, 63, tyX12, rfl, by decide, gt_mem 960 (by decide +kernel) (by decide +kernel), iw_X12, tyX12_ok, nmX12, rfl, by decide +kernel, rfl⟩
theorem gX12_16 : FL2 RX12 16 12 4 true (.array .int) := ⟨RX12, TX12, 63, tyX12, rfl, by decide, gt_mem 961 (by decide +kernel) (by decide +kernel), iw_X12, tyX12_ok, nmX12, rfl, by decide +kernel, rfl⟩
theorem gX12_19 : FL2 RX12 19 12 5 true (.array .int) := ⟨RX12, TX12, 63, tyX12, rfl, by decide, gt_mem 962 (by decide +kernel) (by decide +kernel), iw_X12, tyX12_ok, nmX12, rfl, by decide +kernel, rfl⟩
theorem gX12_22 : FL2 RX12 22 12 6 true (.array .int) := ⟨RX12, TX12, 63, tyX12, rfl, by decide, gt_mem 963 (by decide +kernel) (by decide +kernel), iw_X12, tyX12_ok, nmX12, rfl, by decide +kernel, rfl⟩
theorem gX12_25 : FL2 RX12 25 12 7 true (.array .int) := ⟨RX12, TX12, 63, tyX12, rfl, by decide, gt_mem 964 (by decide +kernel) (by decide +kernel), iw_X12, tyX12_ok, nmX12, rfl, by decide +kernel, rfl⟩
theorem gX12_28 : FL2 RX12 28 12 8 true (.array .int) := ⟨RX12, TX12, 63, tyX12, rfl, by decide, gt_mem 965 (by decide +kernel) (by decide +kernel), iw_X12, tyX12_ok, nmX12, rfl, by decide +kernel, rfl⟩
theorem gX12_31 : FL2 RX12 31 12 9 true (.array .int) := ⟨RX12, TX12, 63, tyX12, rfl, by decide, gt_mem 966 (by decide +kernel) (by decide +kernel), iw_X12, tyX12_ok, nmX12, rfl, by decide +kernel, rfl⟩
theorem gX12_34 : FL2 RX12 34 12 10 false .int := ⟨RX12, TX12, 63, tyX12, rfl, by decide, gt_mem 967 (by decide +kernel) (by decide +kernel), iw_X12, tyX12_ok, nmX12, rfl, by decide +kernel, rfl⟩
theorem gX12_38 : FL2 RX12 38 12 14 true (.array .int) := ⟨RX12, TX12, 63, tyX12, rfl, by decide, gt_mem 971 (by decide +kernel) (by decide +kernel), iw_X12, tyX12_ok, nmX12, rfl, by decide +kernel, rfl⟩
theorem gX12_41 : FL2 RX12 41 12 15 true (.array .int) := ⟨RX12, TX12, 63, tyX12, rfl, by decide, gt_mem 972 (by decide +kernel) (by decide +kernel), iw_X12, tyX12_ok, nmX12, rfl, by decide +kernel, rfl⟩
theorem gX12_44 : FL2 RX12 44 12 16 true (.array .int) := ⟨RX12, TX12, 63, tyX12, rfl, by decide, gt_mem 973 (by decide +kernel) (by decide +kernel), iw_X12, tyX12_ok, nmX12, rfl, by decide +kernel, rfl⟩
theorem gX12_47 : FL2 RX12 47 12 17 true (.array .int) := ⟨RX12, TX12, 63, tyX12, rfl, by decide, gt_mem 974 (by decide +kernel) (by decide +kernel), iw_X12, tyX12_ok, nmX12, rfl, by decide +kernel, rfl⟩
theorem gX12_50 : FL2 RX12 50 12 18 true (.array .byte) := ⟨RX12, TX12, 63, tyX12, rfl, by decide, gt_mem 975 (by decide +kernel) (by decide +kernel), iw_X12, tyX12_ok, nmX12, rfl, by decide +kernel, rfl⟩
theorem gX12_54 : FL2 RX12 54 12 24 true (.array .byte) := ⟨RX12, TX12, 63, tyX12, rfl, by decide, gt_mem 981 (by decide +kernel) (by decide +kernel), iw_X12, tyX12_ok, nmX12, rfl, by decide +kernel, rfl⟩
theorem gX12_57 : FL2 RX12 57 12 25 true (.array .int) := ⟨RX12, TX12, 63, tyX12, rfl, by decide, gt_mem 982 (by decide +kernel) (by decide +kernel), iw_X12, tyX12_ok, nmX12, rfl, by decide +kernel, rfl⟩
theorem gX12_60 : FL2 RX12 60 12 26 true (.array .int) := ⟨RX12, TX12, 63, tyX12, rfl, by decide, gt_mem 983 (by decide +kernel) (by decide +kernel), iw_X12, tyX12_ok, nmX12, rfl, by decide +kernel, rfl⟩
theorem gX12_63 : FL2 RX12 63 12 27 true (.array .short) := ⟨RX12, TX12, 63, tyX12, rfl, by decide, gt_mem 984 (by decide +kernel) (by decide +kernel), iw_X12, tyX12_ok, nmX12, rfl, by decide +kernel, rfl⟩
theorem gX12_67 : FL2 RX12 67 12 28 true (.array .short) := ⟨RX12, TX12, 63, tyX12, rfl, by decide, gt_mem 985 (by decide +kernel) (by decide +kernel), iw_X12, tyX12_ok, nmX12, rfl, by decide +kernel, rfl⟩
theorem gX12_70 : FL2 RX12 70 12 29 true (.array .int) := ⟨RX12, TX12, 63, tyX12, rfl, by decide, gt_mem 986 (by decide +kernel) (by decide +kernel), iw_X12, tyX12_ok, nmX12, rfl, by decide +kernel, rfl⟩
theorem gX12_73 : FL2 RX12 73 12 30 true (.array .int) := ⟨RX12, TX12, 63, tyX12, rfl, by decide, gt_mem 987 (by decide +kernel) (by decide +kernel), iw_X12, tyX12_ok, nmX12, rfl, by decide +kernel, rfl⟩
theorem gX12_76 : FL2 RX12 76 12 31 true (.array .boolean) := ⟨RX12, TX12, 63, tyX12, rfl, by decide, gt_mem 988 (by decide +kernel) (by decide +kernel), iw_X12, tyX12_ok, nmX12, rfl, by decide +kernel, rfl⟩
theorem gX12_80 : FL2 RX12 80 12 32 true (.array .int) := ⟨RX12, TX12, 63, tyX12, rfl, by decide, gt_mem 989 (by decide +kernel) (by decide +kernel), iw_X12, tyX12_ok, nmX12, rfl, by decide +kernel, rfl⟩
theorem gX12_83 : FL2 RX12 83 12 35 true (.array .int) := ⟨RX12, TX12, 63, tyX12, rfl, by decide, gt_mem 992 (by decide +kernel) (by decide +kernel), iw_X12, tyX12_ok, nmX12, rfl, by decide +kernel, rfl⟩
theorem gX12_86 : FL2 RX12 86 12 36 true (.array .int) := ⟨RX12, TX12, 63, tyX12, rfl, by decide, gt_mem 993 (by decide +kernel) (by decide +kernel), iw_X12, tyX12_ok, nmX12, rfl, by decide +kernel, rfl⟩
theorem gX12_89 : FL2 RX12 89 12 37 true (.array .int) := ⟨RX12, TX12, 63, tyX12, rfl, by decide, gt_mem 994 (by decide +kernel) (by decide +kernel), iw_X12, tyX12_ok, nmX12, rfl, by decide +kernel, rfl⟩
theorem gX12_92 : FL2 RX12 92 12 38 true (.array .int) := ⟨RX12, TX12, 63, tyX12, rfl, by decide, gt_mem 995 (by decide +kernel) (by decide +kernel), iw_X12, tyX12_ok, nmX12, rfl, by decide +kernel, rfl⟩
theorem gX12_95 : FL2 RX12 95 12 41 true (.array .int) := ⟨RX12, TX12, 63, tyX12, rfl, by decide, gt_mem 998 (by decide +kernel) (by decide +kernel), iw_X12, tyX12_ok, nmX12, rfl, by decide +kernel, rfl⟩
theorem gX12_98 : FL2 RX12 98 12 42 true (.array .int) := ⟨RX12, TX12, 63, tyX12, rfl, by decide, gt_mem 999 (by decide +kernel) (by decide +kernel), iw_X12, tyX12_ok, nmX12, rfl, by decide +kernel, rfl⟩
theorem gX12_101 : FL2 RX12 101 12 43 true (.array .int) := ⟨RX12, TX12, 63, tyX12, rfl, by decide, gt_mem 1000 (by decide +kernel) (by decide +kernel), iw_X12, tyX12_ok, nmX12, rfl, by decide +kernel, rfl⟩
theorem gX12_104 : FL2 RX12 104 12 44 true (.array .int) := ⟨RX12, TX12, 63, tyX12, rfl, by decide, gt_mem 1001 (by decide +kernel) (by decide +kernel), iw_X12, tyX12_ok, nmX12, rfl, by decide +kernel, rfl⟩
theorem gX12_107 : FL2 RX12 107 12 45 true (.array .int) := ⟨RX12, TX12, 63, tyX12, rfl, by decide, gt_mem 1002 (by decide +kernel) (by decide +kernel), iw_X12, tyX12_ok, nmX12, rfl, by decide +kernel, rfl⟩
theorem gX12_110 : FL2 RX12 110 12 46 true (.array .int) := ⟨RX12, TX12, 63, tyX12, rfl, by decide, gt_mem 1003 (by decide +kernel) (by decide +kernel), iw_X12, tyX12_ok, nmX12, rfl, by decide +kernel, rfl⟩
theorem gX12_113 : FL2 RX12 113 12 47 true (.array .int) := ⟨RX12, TX12, 63, tyX12, rfl, by decide, gt_mem 1004 (by decide +kernel) (by decide +kernel), iw_X12, tyX12_ok, nmX12, rfl, by decide +kernel, rfl⟩
theorem gX12_116 : FL2 RX12 116 12 52 true (.array .int) := ⟨RX12, TX12, 63, tyX12, rfl, by decide, gt_mem 1009 (by decide +kernel) (by decide +kernel), iw_X12, tyX12_ok, nmX12, rfl, by decide +kernel, rfl⟩
theorem gX12_119 : FL2 RX12 119 12 56 true (.array .int) := ⟨RX12, TX12, 63, tyX12, rfl, by decide, gt_mem 1013 (by decide +kernel) (by decide +kernel), iw_X12, tyX12_ok, nmX12, rfl, by decide +kernel, rfl⟩
theorem gX12_122 : FL2 RX12 122 12 58 true (.array .int) := ⟨RX12, TX12, 63, tyX12, rfl, by decide, gt_mem 1015 (by decide +kernel) (by decide +kernel), iw_X12, tyX12_ok, nmX12, rfl, by decide +kernel, rfl⟩
theorem gX12_125 : FL2 RX12 125 12 59 true (.array .int) := ⟨RX12, TX12, 63, tyX12, rfl, by decide, gt_mem 1016 (by decide +kernel) (by decide +kernel), iw_X12, tyX12_ok, nmX12, rfl, by decide +kernel, rfl⟩
theorem gX12_128 : FL2 RX12 128 12 60 true (.array .int) := ⟨RX12, TX12, 63, tyX12, rfl, by decide, gt_mem 1017 (by decide +kernel) (by decide +kernel), iw_X12, tyX12_ok, nmX12, rfl, by decide +kernel, rfl⟩
theorem gX12_131 : FL2 RX12 131 12 61 true (.array .long) := ⟨RX12, TX12, 63, tyX12, rfl, by decide, gt_mem 1018 (by decide +kernel) (by decide +kernel), iw_X12, tyX12_ok, nmX12, rfl, by decide +kernel, rfl⟩
theorem gX12_135 : FL2 RX12 135 12 62 true (.array .long) := ⟨RX12, TX12, 63, tyX12, rfl, by decide, gt_mem 1019 (by decide +kernel) (by decide +kernel), iw_X12, tyX12_ok, nmX12, rfl, by decide +kernel, rfl⟩
abbrev cs_38 : List CB := [.inl (11, [.ref 1, .ref 17, .int 0, .ref 18, .ref 21, .ref 26, .ref 31, .ref 34, .ref 39, .ref 40, .ref 42, .ref 47, .ref 50]), .inl (8, [.int 0, .ref 2, .ref 3, .ref 4, .ref 5, .ref 6, .ref 7, .ref 8, .ref 9, .ref 10, .int 2, .int 0, .ref 11, .ref 14]), .inr (0, 20, [], []), .inr (0, 20, [], []), .inr (0, 20, [], []), .inr (0, 20, [], []), .inr (0, 20, [], []), .inr (0, 20, [], []), .inr (0, 20, [], []), .inr (0, 6, [], []), .inr (0, 10, [], []), .inl (5, [.ref 12, .int 0, .ref 13, .int 0]), .inr (0, 121, [], []), .inr (0, 121, [], []), .inl (5, [.ref 15, .int 0, .ref 16, .int 0]), .inr (0, 121, [], []), .inr (0, 121, [], []), .inr (0, 120, [], []), .inl (6, [.ref 19, .int 0, .ref 20, .int 0, .int 0, .int 0, .int 0, .int 1, .int 0]), .inr (0, 121, [], []), .inr (0, 120, [], []), .inl (7, [.int 0, .ref 22, .ref 23, .ref 24, .int 0, .int 0, .int 0, .int 0, .ref 25]), .inr (0, 60, [], []), .inr (0, 60, [], []), .inr (0, 60, [], []), .inr (0, 20, [], []), .inl (7, [.int 0, .ref 27, .ref 28, .ref 29, .int 0, .int 0, .int 0, .int 0, .ref 30]), .inr (0, 60, [], []), .inr (0, 60, [], []), .inr (0, 60, [], []), .inr (0, 20, [], []), .inl (10, [.ref 32, .ref 33, .int 0]), .inr (0, 256, [], []), .inr (0, 5121, [], []), .inl (3, [.int 0, .ref 35, .ref 36, .ref 37, .ref 38]), .inr (0, 20, [], []), .inr (0, 20, [], []), .inr (0, 20, [], []), .inr (0, 20, [], []), .inl (2, [.int 0, .int 0, .int 0]), .inl (4, [.int (-1), .ref 41, .int 0, .int 0]), .inr (0, 20, [], []), .inl (1, [.int 0, .int 0, .ref 43, .ref 44, .ref 45, .ref 46]), .inr (0, 40, [], []), .inr (0, 40, [], []), .inr (0, 40, [], []), .inr (0, 40, [], []), .inl (0, [.int 0, .int 0, .ref 48, .ref 49, .int 0]), .inr (0, 50, [], []), .inr (0, 24, [], []), .inr (5, 6, [], [some 51, some 53, some 55, some 57, some 59, some 61]), .inl (9, [.int 0, .int 0, .int 0, .int 0, .ref 52]), .inr (4, 60, [], []), .inl (9, [.int 0, .int 0, .int 0, .int 0, .ref 54]), .inr (4, 60, [], []), .inl (9, [.int 0, .int 0, .int 0, .int 0, .ref 56]), .inr (4, 60, [], []), .inl (9, [.int 0, .int 0, .int 0, .int 0, .ref 58]), .inr (4, 60, [], []), .inl (9, [.int 0, .int 0, .int 0, .int 0, .ref 60]), .inr (4, 60, [], []), .inl (9, [.int 0, .int 0, .int 0, .int 0, .ref 62]), .inr (4, 60, [], []), .inl (12, [.int 0, .int 0, .ref 64, .ref 65, .ref 66, .ref 67, .ref 68, .ref 69, .ref 70, .ref 71, .int 2, .int 0, .int 0, .int 0, .ref 72, .ref 73, .ref 74, .ref 75, .ref 76, .int 0, .int 0, .int 0, .int 0, .int 0, .ref 77, .ref 78, .ref 79, .ref 80, .ref 81, .ref 82, .ref 83, .ref 84, .ref 85, .int 0, .int 0, .ref 86, .ref 87, .ref 88, .ref 89, .int 0, .int 0, .ref 90, .ref 91, .ref 92, .ref 93, .ref 94, .ref 95, .ref 96, .int 0, .int 0, .int 0, .int 0, .ref 97, .int 0, .int 0, .int 0, .ref 98, .int 0, .ref 99, .ref 100, .ref 101, .ref 102, .ref 103]), .inr (0, 20, [], []), .inr (0, 20, [], []), .inr (0, 20, [], []), .inr (0, 20, [], []), .inr (0, 20, [], []), .inr (0, 20, [], []), .inr (0, 20, [], []), .inr (0, 6, [], []), .inr (0, 40, [], []), .inr (0, 40, [], []), .inr (0, 40, [], []), .inr (0, 40, [], []), .inr (1, 120, [], []), .inr (1, 390, [], []), .inr (0, 390, [], []), .inr (0, 3, [], []), .inr (2, 183, [], []), .inr (2, 183, [], []), .inr (0, 6, [], []), .inr (0, 130, [], []), .inr (3, 2, [], []), .inr (0, 5120, [], []), .inr (0, 60, [], []), .inr (0, 60, [], []), .inr (0, 60, [], []), .inr (0, 5, [], []), .inr (0, 60, [], []), .inr (0, 60, [], []), .inr (0, 60, [], []), .inr (0, 5, [], []), .inr (0, 20, [], []), .inr (0, 20, [], []), .inr (0, 20, [], []), .inr (0, 20, [], []), .inr (0, 50, [], []), .inr (0, 24, [], []), .inr (0, 6, [(-1), (-1), (-1), (-1), (-1), (-1)], []), .inr (0, 6, [], []), .inr (4, 360, [], []), .inr (4, 60, [], [])]
set_option maxHeartbeats 4000000 in
set_option maxRecDepth 100000 in
theorem ct_19 {l : Launch} (d : Nat) : GoB l (d + 1) mX12_init cs_38 40 7789 0 0 0 [(0, .ref 63)] [] cs_37 := by
  refine GoB.aload_n dX12_init_0 rfl ?_
  refine GoB.objInit dX12_init_1 lo_X12_1 oi_in oi_co (Nat.le_of_ble_eq_true rfl) ?_
  refine GoB.aload_n dX12_init_4 rfl ?_
  refine GoB.bipush (v := 20) dX12_init_5 (by decide) ?_
  refine GoB.newa (kd := 0) (N := 20) dX12_init_7 aw_int (by decide) (by decide) (by decide) (by decide) (by decide) (by decide) ?_
  refine GoB.put dX12_init_9 gX12_7 rfl (by decide) (fun _ => rfl) (fun _ => rfl) ?_
  refine GoB.aload_n dX12_init_12 rfl ?_
  refine GoB.bipush (v := 20) dX12_init_13 (by decide) ?_
  refine GoB.newa (kd := 0) (N := 20) dX12_init_15 aw_int (by decide) (by decide) (by decide) (by decide) (by decide) (by decide) ?_
  refine GoB.put dX12_init_17 gX12_13 rfl (by decide) (fun _ => rfl) (fun _ => rfl) ?_
  refine GoB.aload_n dX12_init_20 rfl ?_
  refine GoB.bipush (v := 20) dX12_init_21 (by decide) ?_
  refine GoB.newa (kd := 0) (N := 20) dX12_init_23 aw_int (by decide) (by decide) (by decide) (by decide) (by decide) (by decide) ?_
  refine GoB.put dX12_init_25 gX12_16 rfl (by decide) (fun _ => rfl) (fun _ => rfl) ?_
  refine GoB.aload_n dX12_init_28 rfl ?_
  refine GoB.bipush (v := 20) dX12_init_29 (by decide) ?_
  refine GoB.newa (kd := 0) (N := 20) dX12_init_31 aw_int (by decide) (by decide) (by decide) (by decide) (by decide) (by decide) ?_
  refine GoB.put dX12_init_33 gX12_19 rfl (by decide) (fun _ => rfl) (fun _ => rfl) ?_
  refine GoB.aload_n dX12_init_36 rfl ?_
  refine GoB.bipush (v := 20) dX12_init_37 (by decide) ?_
  refine GoB.newa (kd := 0) (N := 20) dX12_init_39 aw_int (by decide) (by decide) (by decide) (by decide) (by decide) (by decide) ?_
  refine GoB.put dX12_init_41 gX12_22 rfl (by decide) (fun _ => rfl) (fun _ => rfl) ?_
  refine GoB.aload_n dX12_init_44 rfl ?_
  refine GoB.bipush (v := 20) dX12_init_45 (by decide) ?_
  refine GoB.newa (kd := 0) (N := 20) dX12_init_47 aw_int (by decide) (by decide) (by decide) (by decide) (by decide) (by decide) ?_
  refine GoB.put dX12_init_49 gX12_25 rfl (by decide) (fun _ => rfl) (fun _ => rfl) ?_
  refine GoB.aload_n dX12_init_52 rfl ?_
  refine GoB.bipush (v := 20) dX12_init_53 (by decide) ?_
  refine GoB.newa (kd := 0) (N := 20) dX12_init_55 aw_int (by decide) (by decide) (by decide) (by decide) (by decide) (by decide) ?_
  refine GoB.put dX12_init_57 gX12_28 rfl (by decide) (fun _ => rfl) (fun _ => rfl) ?_
  refine GoB.aload_n dX12_init_60 rfl ?_
  refine GoB.bipush (v := 6) dX12_init_61 (by decide) ?_
  refine GoB.newa (kd := 0) (N := 6) dX12_init_63 aw_int (by decide) (by decide) (by decide) (by decide) (by decide) (by decide) ?_
  refine GoB.put dX12_init_65 gX12_31 rfl (by decide) (fun _ => rfl) (fun _ => rfl) ?_
  refine GoB.aload_n dX12_init_68 rfl ?_
  refine GoB.iconst (v := 2) dX12_init_69 (by decide) ?_
  refine GoB.put dX12_init_70 gX12_34 rfl (by decide) (fun _ => rfl) (fun _ => rfl) ?_
  refine GoB.aload_n dX12_init_73 rfl ?_
  refine GoB.bipush (v := 40) dX12_init_74 (by decide) ?_
  refine GoB.newa (kd := 0) (N := 40) dX12_init_76 aw_int (by decide) (by decide) (by decide) (by decide) (by decide) (by decide) ?_
  refine GoB.put dX12_init_78 gX12_38 rfl (by decide) (fun _ => rfl) (fun _ => rfl) ?_
  refine GoB.aload_n dX12_init_81 rfl ?_
  refine GoB.bipush (v := 40) dX12_init_82 (by decide) ?_
  refine GoB.newa (kd := 0) (N := 40) dX12_init_84 aw_int (by decide) (by decide) (by decide) (by decide) (by decide) (by decide) ?_
  refine GoB.put dX12_init_86 gX12_41 rfl (by decide) (fun _ => rfl) (fun _ => rfl) ?_
  refine GoB.aload_n dX12_init_89 rfl ?_
  refine GoB.bipush (v := 40) dX12_init_90 (by decide) ?_
  refine GoB.newa (kd := 0) (N := 40) dX12_init_92 aw_int (by decide) (by decide) (by decide) (by decide) (by decide) (by decide) ?_
  refine GoB.put dX12_init_94 gX12_44 rfl (by decide) (fun _ => rfl) (fun _ => rfl) ?_
  refine GoB.aload_n dX12_init_97 rfl ?_
  refine GoB.bipush (v := 40) dX12_init_98 (by decide) ?_
  refine GoB.newa (kd := 0) (N := 40) dX12_init_100 aw_int (by decide) (by decide) (by decide) (by decide) (by decide) (by decide) ?_
  refine GoB.put dX12_init_102 gX12_47 rfl (by decide) (fun _ => rfl) (fun _ => rfl) ?_
  refine GoB.aload_n dX12_init_105 rfl ?_
  refine GoB.bipush (v := 120) dX12_init_106 (by decide) ?_
  refine GoB.newa (kd := 1) (N := 120) dX12_init_108 aw_byte (by decide) (by decide) (by decide) (by decide) (by decide) (by decide) ?_
  refine GoB.put dX12_init_110 gX12_50 rfl (by decide) (fun _ => rfl) (fun _ => rfl) ?_
  refine GoB.aload_n dX12_init_113 rfl ?_
  refine GoB.sipush (v := 390) dX12_init_114 (by decide) ?_
  refine GoB.newa (kd := 1) (N := 390) dX12_init_117 aw_byte (by decide) (by decide) (by decide) (by decide) (by decide) (by decide) ?_
  refine GoB.put dX12_init_119 gX12_54 rfl (by decide) (fun _ => rfl) (fun _ => rfl) ?_
  refine GoB.aload_n dX12_init_122 rfl ?_
  refine GoB.sipush (v := 390) dX12_init_123 (by decide) ?_
  refine GoB.newa (kd := 0) (N := 390) dX12_init_126 aw_int (by decide) (by decide) (by decide) (by decide) (by decide) (by decide) ?_
  refine GoB.put dX12_init_128 gX12_57 rfl (by decide) (fun _ => rfl) (fun _ => rfl) ?_
  refine GoB.aload_n dX12_init_131 rfl ?_
  refine GoB.iconst (v := 3) dX12_init_132 (by decide) ?_
  refine GoB.newa (kd := 0) (N := 3) dX12_init_133 aw_int (by decide) (by decide) (by decide) (by decide) (by decide) (by decide) ?_
  refine GoB.put dX12_init_135 gX12_60 rfl (by decide) (fun _ => rfl) (fun _ => rfl) ?_
  refine GoB.aload_n dX12_init_138 rfl ?_
  refine GoB.sipush (v := 183) dX12_init_139 (by decide) ?_
  refine GoB.newa (kd := 2) (N := 183) dX12_init_142 aw_short (by decide) (by decide) (by decide) (by decide) (by decide) (by decide) ?_
  refine GoB.put dX12_init_144 gX12_63 rfl (by decide) (fun _ => rfl) (fun _ => rfl) ?_
  refine GoB.aload_n dX12_init_147 rfl ?_
  refine GoB.sipush (v := 183) dX12_init_148 (by decide) ?_
  refine GoB.newa (kd := 2) (N := 183) dX12_init_151 aw_short (by decide) (by decide) (by decide) (by decide) (by decide) (by decide) ?_
  refine GoB.put dX12_init_153 gX12_67 rfl (by decide) (fun _ => rfl) (fun _ => rfl) ?_
  refine GoB.aload_n dX12_init_156 rfl ?_
  refine GoB.bipush (v := 6) dX12_init_157 (by decide) ?_
  refine GoB.newa (kd := 0) (N := 6) dX12_init_159 aw_int (by decide) (by decide) (by decide) (by decide) (by decide) (by decide) ?_
  refine GoB.put dX12_init_161 gX12_70 rfl (by decide) (fun _ => rfl) (fun _ => rfl) ?_
  refine GoB.aload_n dX12_init_164 rfl ?_
  refine GoB.sipush (v := 130) dX12_init_165 (by decide) ?_
  refine GoB.newa (kd := 0) (N := 130) dX12_init_168 aw_int (by decide) (by decide) (by decide) (by decide) (by decide) (by decide) ?_
  refine GoB.put dX12_init_170 gX12_73 rfl (by decide) (fun _ => rfl) (fun _ => rfl) ?_
  refine GoB.aload_n dX12_init_173 rfl ?_
  refine GoB.iconst (v := 2) dX12_init_174 (by decide) ?_
  refine GoB.newa (kd := 3) (N := 2) dX12_init_175 aw_boolean (by decide) (by decide) (by decide) (by decide) (by decide) (by decide) ?_
  refine GoB.put dX12_init_177 gX12_76 rfl (by decide) (fun _ => rfl) (fun _ => rfl) ?_
  refine GoB.aload_n dX12_init_180 rfl ?_
  refine GoB.sipush (v := 5120) dX12_init_181 (by decide) ?_
  refine GoB.newa (kd := 0) (N := 5120) dX12_init_184 aw_int (by decide) (by decide) (by decide) (by decide) (by decide) (by decide) ?_
  refine GoB.put dX12_init_186 gX12_80 rfl (by decide) (fun _ => rfl) (fun _ => rfl) ?_
  refine GoB.aload_n dX12_init_189 rfl ?_
  refine GoB.bipush (v := 60) dX12_init_190 (by decide) ?_
  refine GoB.newa (kd := 0) (N := 60) dX12_init_192 aw_int (by decide) (by decide) (by decide) (by decide) (by decide) (by decide) ?_
  refine GoB.put dX12_init_194 gX12_83 rfl (by decide) (fun _ => rfl) (fun _ => rfl) ?_
  refine GoB.aload_n dX12_init_197 rfl ?_
  refine GoB.bipush (v := 60) dX12_init_198 (by decide) ?_
  refine GoB.newa (kd := 0) (N := 60) dX12_init_200 aw_int (by decide) (by decide) (by decide) (by decide) (by decide) (by decide) ?_
  refine GoB.put dX12_init_202 gX12_86 rfl (by decide) (fun _ => rfl) (fun _ => rfl) ?_
  refine GoB.aload_n dX12_init_205 rfl ?_
  refine GoB.bipush (v := 60) dX12_init_206 (by decide) ?_
  refine GoB.newa (kd := 0) (N := 60) dX12_init_208 aw_int (by decide) (by decide) (by decide) (by decide) (by decide) (by decide) ?_
  refine GoB.put dX12_init_210 gX12_89 rfl (by decide) (fun _ => rfl) (fun _ => rfl) ?_
  refine GoB.aload_n dX12_init_213 rfl ?_
  refine GoB.iconst (v := 5) dX12_init_214 (by decide) ?_
  refine GoB.newa (kd := 0) (N := 5) dX12_init_215 aw_int (by decide) (by decide) (by decide) (by decide) (by decide) (by decide) ?_
  refine GoB.put dX12_init_217 gX12_92 rfl (by decide) (fun _ => rfl) (fun _ => rfl) ?_
  refine GoB.aload_n dX12_init_220 rfl ?_
  refine GoB.bipush (v := 60) dX12_init_221 (by decide) ?_
  refine GoB.newa (kd := 0) (N := 60) dX12_init_223 aw_int (by decide) (by decide) (by decide) (by decide) (by decide) (by decide) ?_
  refine GoB.put dX12_init_225 gX12_95 rfl (by decide) (fun _ => rfl) (fun _ => rfl) ?_
  refine GoB.aload_n dX12_init_228 rfl ?_
  refine GoB.bipush (v := 60) dX12_init_229 (by decide) ?_
  refine GoB.newa (kd := 0) (N := 60) dX12_init_231 aw_int (by decide) (by decide) (by decide) (by decide) (by decide) (by decide) ?_
  refine GoB.put dX12_init_233 gX12_98 rfl (by decide) (fun _ => rfl) (fun _ => rfl) ?_
  refine GoB.aload_n dX12_init_236 rfl ?_
  refine GoB.bipush (v := 60) dX12_init_237 (by decide) ?_
  refine GoB.newa (kd := 0) (N := 60) dX12_init_239 aw_int (by decide) (by decide) (by decide) (by decide) (by decide) (by decide) ?_
  refine GoB.put dX12_init_241 gX12_101 rfl (by decide) (fun _ => rfl) (fun _ => rfl) ?_
  refine GoB.aload_n dX12_init_244 rfl ?_
  refine GoB.iconst (v := 5) dX12_init_245 (by decide) ?_
  refine GoB.newa (kd := 0) (N := 5) dX12_init_246 aw_int (by decide) (by decide) (by decide) (by decide) (by decide) (by decide) ?_
  refine GoB.put dX12_init_248 gX12_104 rfl (by decide) (fun _ => rfl) (fun _ => rfl) ?_
  refine GoB.aload_n dX12_init_251 rfl ?_
  refine GoB.bipush (v := 20) dX12_init_252 (by decide) ?_
  refine GoB.newa (kd := 0) (N := 20) dX12_init_254 aw_int (by decide) (by decide) (by decide) (by decide) (by decide) (by decide) ?_
  refine GoB.put dX12_init_256 gX12_107 rfl (by decide) (fun _ => rfl) (fun _ => rfl) ?_
  refine GoB.aload_n dX12_init_259 rfl ?_
  refine GoB.bipush (v := 20) dX12_init_260 (by decide) ?_
  refine GoB.newa (kd := 0) (N := 20) dX12_init_262 aw_int (by decide) (by decide) (by decide) (by decide) (by decide) (by decide) ?_
  refine GoB.put dX12_init_264 gX12_110 rfl (by decide) (fun _ => rfl) (fun _ => rfl) ?_
  refine GoB.aload_n dX12_init_267 rfl ?_
  refine GoB.bipush (v := 20) dX12_init_268 (by decide) ?_
  refine GoB.newa (kd := 0) (N := 20) dX12_init_270 aw_int (by decide) (by decide) (by decide) (by decide) (by decide) (by decide) ?_
  refine GoB.put dX12_init_272 gX12_113 rfl (by decide) (fun _ => rfl) (fun _ => rfl) ?_
  refine GoB.aload_n dX12_init_275 rfl ?_
  refine GoB.bipush (v := 20) dX12_init_276 (by decide) ?_
  refine GoB.newa (kd := 0) (N := 20) dX12_init_278 aw_int (by decide) (by decide) (by decide) (by decide) (by decide) (by decide) ?_
  refine GoB.put dX12_init_280 gX12_116 rfl (by decide) (fun _ => rfl) (fun _ => rfl) ?_
  refine GoB.aload_n dX12_init_283 rfl ?_
  refine GoB.bipush (v := 50) dX12_init_284 (by decide) ?_
  refine GoB.newa (kd := 0) (N := 50) dX12_init_286 aw_int (by decide) (by decide) (by decide) (by decide) (by decide) (by decide) ?_
  refine GoB.put dX12_init_288 gX12_119 rfl (by decide) (fun _ => rfl) (fun _ => rfl) ?_
  refine GoB.aload_n dX12_init_291 rfl ?_
  refine GoB.bipush (v := 24) dX12_init_292 (by decide) ?_
  refine GoB.newa (kd := 0) (N := 24) dX12_init_294 aw_int (by decide) (by decide) (by decide) (by decide) (by decide) (by decide) ?_
  refine GoB.put dX12_init_296 gX12_122 rfl (by decide) (fun _ => rfl) (fun _ => rfl) ?_
  refine GoB.aload_n dX12_init_299 rfl ?_
  refine GoB.bipush (v := 6) dX12_init_300 (by decide) ?_
  refine GoB.newa (kd := 0) (N := 6) dX12_init_302 aw_int (by decide) (by decide) (by decide) (by decide) (by decide) (by decide) ?_
  refine GoB.dup dX12_init_304 rfl ?_
  refine GoB.iconst (v := 0) dX12_init_305 (by decide) ?_
  refine GoB.iconst (v := (-1)) dX12_init_306 (by decide) ?_
  refine GoB.iast dX12_init_307 rfl (by decide) (by unfold vp_in; decide) ?_
  refine GoB.dup dX12_init_308 rfl ?_
  refine GoB.iconst (v := 1) dX12_init_309 (by decide) ?_
  refine GoB.iconst (v := (-1)) dX12_init_310 (by decide) ?_
  refine GoB.iast dX12_init_311 rfl (by decide) (by unfold vp_in; decide) ?_
  refine GoB.dup dX12_init_312 rfl ?_
  refine GoB.iconst (v := 2) dX12_init_313 (by decide) ?_
  refine GoB.iconst (v := (-1)) dX12_init_314 (by decide) ?_
  refine GoB.iast dX12_init_315 rfl (by decide) (by unfold vp_in; decide) ?_
  refine GoB.dup dX12_init_316 rfl ?_
  refine GoB.iconst (v := 3) dX12_init_317 (by decide) ?_
  refine GoB.iconst (v := (-1)) dX12_init_318 (by decide) ?_
  refine GoB.iast dX12_init_319 rfl (by decide) (by unfold vp_in; decide) ?_
  refine GoB.dup dX12_init_320 rfl ?_
  refine GoB.iconst (v := 4) dX12_init_321 (by decide) ?_
  refine GoB.iconst (v := (-1)) dX12_init_322 (by decide) ?_
  refine GoB.iast dX12_init_323 rfl (by decide) (by unfold vp_in; decide) ?_
  refine GoB.dup dX12_init_324 rfl ?_
  refine GoB.iconst (v := 5) dX12_init_325 (by decide) ?_
  refine GoB.iconst (v := (-1)) dX12_init_326 (by decide) ?_
  refine GoB.iast dX12_init_327 rfl (by decide) (by unfold vp_in; decide) ?_
  refine GoB.put dX12_init_328 gX12_125 rfl (by decide) (fun _ => rfl) (fun _ => rfl) ?_
  refine GoB.aload_n dX12_init_331 rfl ?_
  refine GoB.bipush (v := 6) dX12_init_332 (by decide) ?_
  refine GoB.newa (kd := 0) (N := 6) dX12_init_334 aw_int (by decide) (by decide) (by decide) (by decide) (by decide) (by decide) ?_
  refine GoB.put dX12_init_336 gX12_128 rfl (by decide) (fun _ => rfl) (fun _ => rfl) ?_
  refine GoB.aload_n dX12_init_339 rfl ?_
  refine GoB.sipush (v := 360) dX12_init_340 (by decide) ?_
  refine GoB.newa (kd := 4) (N := 360) dX12_init_343 aw_long (by decide) (by decide) (by decide) (by decide) (by decide) (by decide) ?_
  refine GoB.put dX12_init_345 gX12_131 rfl (by decide) (fun _ => rfl) (fun _ => rfl) ?_
  refine GoB.aload_n dX12_init_348 rfl ?_
  refine GoB.bipush (v := 60) dX12_init_349 (by decide) ?_
  refine GoB.newa (kd := 4) (N := 60) dX12_init_351 aw_long (by decide) (by decide) (by decide) (by decide) (by decide) (by decide) ?_
  refine GoB.put dX12_init_353 gX12_135 rfl (by decide) (fun _ => rfl) (fun _ => rfl) ?_
  exact GoB.vret dX12_init_356 rfl (by decide) (by decide) rfl
