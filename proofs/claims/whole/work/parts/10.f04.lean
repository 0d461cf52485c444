def F_X12_put (x1 : Int32) (x2 : Int32) (x3 : Int64) (S : St) : Option (Int32 × St) :=
  (F_X12_whyNoPlace x1 x2 S).bind (fun r_3 => if 0 ≤ r_3.1 then (gd (inb x1 6) (if ((-2) - (r_3.2.2.1 100 (Int32.toNatClampNeg x1))) = 0 then (gd (inb ((60 * x1) + x2) 360) (let S95 := lset r_3.2 102 (vp_updL (r_3.2.2.2 102) (Int32.toNatClampNeg ((60 * x1) + x2)) (Int32.toInt64 ((Int32.toInt8 (Int64.toInt32 x3)).toInt32))); some (1, S95))) else (if ((-2) - (r_3.2.2.1 100 (Int32.toNatClampNeg x1))) = 1 then (gd (inb ((60 * x1) + x2) 360) (let S95 := lset r_3.2 102 (vp_updL (r_3.2.2.2 102) (Int32.toNatClampNeg ((60 * x1) + x2)) (Int32.toInt64 ((Int32.toInt16 (Int64.toInt32 x3)).toInt32))); some (1, S95))) else (if ((-2) - (r_3.2.2.1 100 (Int32.toNatClampNeg x1))) = 2 then (gd (inb ((60 * x1) + x2) 360) (let S95 := lset r_3.2 102 (vp_updL (r_3.2.2.2 102) (Int32.toNatClampNeg ((60 * x1) + x2)) (Int32.toInt64 (Int64.toInt32 x3))); some (1, S95))) else (if ((-2) - (r_3.2.2.1 100 (Int32.toNatClampNeg x1))) = 3 then (gd (inb ((60 * x1) + x2) 360) (let S95 := lset r_3.2 102 (vp_updL (r_3.2.2.2 102) (Int32.toNatClampNeg ((60 * x1) + x2)) x3); some (1, S95))) else (if (lg_cmp x3 0) = 0 then (gd (inb ((60 * x1) + x2) 360) (let S95 := lset r_3.2 102 (vp_updL (r_3.2.2.2 102) (Int32.toNatClampNeg ((60 * x1) + x2)) 0); some (1, S95))) else (gd (inb ((60 * x1) + x2) 360) (let S95 := lset r_3.2 102 (vp_updL (r_3.2.2.2 102) (Int32.toNatClampNeg ((60 * x1) + x2)) 1); some (1, S95))))))))) else (some (r_3.1, r_3.2)))
set_option maxHeartbeats 4000000 in
set_option maxRecDepth 100000 in
theorem ok_X12_put {l : Launch} (d : Nat) (x1 : Int32) (x2 : Int32) (x3 : Int64) (S : St) (R : Int32 × St) (hF : F_X12_put x1 x2 x3 S = some R) : Go l (d + 3) mX12_put (Res (some (.int R.1)) R.2) 0 [(0, .ref 63), (1, .int x1), (2, .int x2), (3, .long x3)] [] S := by
  unfold F_X12_put at hF
  refine Go.aload_n dX12_put_0 rfl ?_
  refine Go.iload_n dX12_put_1 rfl ?_
  refine Go.iload_n dX12_put_2 rfl ?_
  obtain ⟨r_3, hc_3, hF⟩ := Option.bind_eq_some_iff.mp hF
  refine Go.callV [_, _] dX12_put_3 kX12_whyNoPlace vX12_whyNoPlace lX12_405 rfl rfl rfl rfl rfl (Nat.le_of_ble_eq_true rfl) (Nat.le_of_ble_eq_true rfl) (ok_X12_whyNoPlace (d + 0) _ _ _ _ hc_3) ?_
  refine Go.istore (ls' := [(5, _), (0, _), (1, _), (2, _), (3, _)]) dX12_put_6 (by decide) rfl ?_
  refine Go.iload dX12_put_8 rfl ?_
  refine Go.ifge (tgt := 16) dX12_put_10 (by decide) (fun h_10 => ?_) (fun h_10 => ?_)
  · have hF := ite_t h_10 hF
    refine Go.bipush (v := (-2)) dX12_put_16 (by decide) ?_
    refine Go.aload_n dX12_put_18 rfl ?_
    refine Go.getR dX12_put_19 fX12_125 rfl ?_
    refine Go.iload_n dX12_put_22 rfl ?_
    obtain ⟨hb_23, hF⟩ := gd_some hF
    refine Go.iald dX12_put_23 rfl (inb_ok hb_23) ?_
    refine Go.isub dX12_put_24 ?_
    refine Go.istore (ls' := [(6, _), (5, _), (0, _), (1, _), (2, _), (3, _)]) dX12_put_25 (by decide) rfl ?_
    refine Go.aload_n dX12_put_27 rfl ?_
    refine Go.getR dX12_put_28 fX12_131 rfl ?_
    refine Go.bipush (v := 60) dX12_put_31 (by decide) ?_
    refine Go.iload_n dX12_put_33 rfl ?_
    refine Go.imul dX12_put_34 ?_
    refine Go.iload_n dX12_put_35 rfl ?_
    refine Go.iadd dX12_put_36 ?_
    refine Go.iload dX12_put_37 rfl ?_
    refine Go.ifne (tgt := 49) dX12_put_39 (by decide) (fun h_39 => ?_) (fun h_39 => ?_)
    · have hF := ite_f h_39 hF
      refine Go.iload dX12_put_49 rfl ?_
      refine Go.iconst (v := 1) dX12_put_51 (by decide) ?_
      refine Go.icmpne (tgt := 62) dX12_put_52 (by decide) (fun h_52 => ?_) (fun h_52 => ?_)
      · have hF := ite_f h_52 hF
        refine Go.iload dX12_put_62 rfl ?_
        refine Go.iconst (v := 2) dX12_put_64 (by decide) ?_
        refine Go.icmpne (tgt := 74) dX12_put_65 (by decide) (fun h_65 => ?_) (fun h_65 => ?_)
        · have hF := ite_f h_65 hF
          refine Go.iload dX12_put_74 rfl ?_
          refine Go.iconst (v := 3) dX12_put_76 (by decide) ?_
          refine Go.icmpne (tgt := 84) dX12_put_77 (by decide) (fun h_77 => ?_) (fun h_77 => ?_)
          · have hF := ite_f h_77 hF
            refine Go.lload_n dX12_put_84 rfl ?_
            refine Go.lconst (v := 0) dX12_put_85 (by decide) ?_
            refine Go.lcmp dX12_put_86 ?_
            refine Go.ifeq (tgt := 94) dX12_put_87 (by decide) (fun h_87 => ?_) (fun h_87 => ?_)
            · have hF := ite_t h_87 hF
              refine Go.lconst (v := 0) dX12_put_94 (by decide) ?_
              obtain ⟨hb_95, hF⟩ := gd_some hF
              refine Go.last dX12_put_95 rfl (inb_ok hb_95) ?_
              refine Go.iconst (v := 1) dX12_put_96 (by decide) ?_
              obtain rfl := Option.some.inj hF
              exact Go.iret (st := []) dX12_put_97 rfl rfl ⟨rfl, rfl⟩
            · have hF := ite_f h_87 hF
              refine Go.lconst (v := 1) dX12_put_90 (by decide) ?_
              refine Go.goto (tgt := 95) dX12_put_91 (by decide) ?_
              obtain ⟨hb_95, hF⟩ := gd_some hF
              refine Go.last dX12_put_95 rfl (inb_ok hb_95) ?_
              refine Go.iconst (v := 1) dX12_put_96 (by decide) ?_
              obtain rfl := Option.some.inj hF
              exact Go.iret (st := []) dX12_put_97 rfl rfl ⟨rfl, rfl⟩
          · have hF := ite_t h_77 hF
            refine Go.lload_n dX12_put_80 rfl ?_
            refine Go.goto (tgt := 95) dX12_put_81 (by decide) ?_
            obtain ⟨hb_95, hF⟩ := gd_some hF
            refine Go.last dX12_put_95 rfl (inb_ok hb_95) ?_
            refine Go.iconst (v := 1) dX12_put_96 (by decide) ?_
            obtain rfl := Option.some.inj hF
            exact Go.iret (st := []) dX12_put_97 rfl rfl ⟨rfl, rfl⟩
        · have hF := ite_t h_65 hF
          refine Go.lload_n dX12_put_68 rfl ?_
          refine Go.l2i dX12_put_69 rfl ?_
          refine Go.i2l dX12_put_70 rfl ?_
          refine Go.goto (tgt := 95) dX12_put_71 (by decide) ?_
          obtain ⟨hb_95, hF⟩ := gd_some hF
          refine Go.last dX12_put_95 rfl (inb_ok hb_95) ?_
          refine Go.iconst (v := 1) dX12_put_96 (by decide) ?_
          obtain rfl := Option.some.inj hF
          exact Go.iret (st := []) dX12_put_97 rfl rfl ⟨rfl, rfl⟩
      · have hF := ite_t h_52 hF
        refine Go.lload_n dX12_put_55 rfl ?_
        refine Go.l2i dX12_put_56 rfl ?_
        refine Go.i2s dX12_put_57 rfl ?_
        refine Go.i2l dX12_put_58 rfl ?_
        refine Go.goto (tgt := 95) dX12_put_59 (by decide) ?_
        obtain ⟨hb_95, hF⟩ := gd_some hF
        refine Go.last dX12_put_95 rfl (inb_ok hb_95) ?_
        refine Go.iconst (v := 1) dX12_put_96 (by decide) ?_
        obtain rfl := Option.some.inj hF
        exact Go.iret (st := []) dX12_put_97 rfl rfl ⟨rfl, rfl⟩
    · have hF := ite_t h_39 hF
      refine Go.lload_n dX12_put_42 rfl ?_
      refine Go.l2i dX12_put_43 rfl ?_
      refine Go.i2b dX12_put_44 rfl ?_
      refine Go.i2l dX12_put_45 rfl ?_
      refine Go.goto (tgt := 95) dX12_put_46 (by decide) ?_
      obtain ⟨hb_95, hF⟩ := gd_some hF
      refine Go.last dX12_put_95 rfl (inb_ok hb_95) ?_
      refine Go.iconst (v := 1) dX12_put_96 (by decide) ?_
      obtain rfl := Option.some.inj hF
      exact Go.iret (st := []) dX12_put_97 rfl rfl ⟨rfl, rfl⟩
  · have hF := ite_f h_10 hF
    refine Go.iload dX12_put_13 rfl ?_
    obtain rfl := Option.some.inj hF
    exact Go.iret (st := []) dX12_put_15 rfl rfl ⟨rfl, rfl⟩
def F_X12_element (x1 : Int32) (x2 : Int32) (S : St) : Option (Int64 × St) :=
  (F_X12_whyNoPlace x1 x2 S).bind (fun r_3 => if 0 ≤ r_3.1 then (gd (inb ((60 * x1) + x2) 360) (some (r_3.2.2.2 102 (Int32.toNatClampNeg ((60 * x1) + x2)), r_3.2))) else (some ((-9223372036854775808), r_3.2)))
set_option maxHeartbeats 4000000 in
set_option maxRecDepth 100000 in
theorem ok_X12_element {l : Launch} (d : Nat) (x1 : Int32) (x2 : Int32) (S : St) (R : Int64 × St) (hF : F_X12_element x1 x2 S = some R) : Go l (d + 3) mX12_element (Res (some (.long R.1)) R.2) 0 [(0, .ref 63), (1, .int x1), (2, .int x2)] [] S := by
  unfold F_X12_element at hF
  refine Go.aload_n dX12_element_0 rfl ?_
  refine Go.iload_n dX12_element_1 rfl ?_
  refine Go.iload_n dX12_element_2 rfl ?_
  obtain ⟨r_3, hc_3, hF⟩ := Option.bind_eq_some_iff.mp hF
  refine Go.callV [_, _] dX12_element_3 kX12_whyNoPlace vX12_whyNoPlace lX12_405 rfl rfl rfl rfl rfl (Nat.le_of_ble_eq_true rfl) (Nat.le_of_ble_eq_true rfl) (ok_X12_whyNoPlace (d + 0) _ _ _ _ hc_3) ?_
  refine Go.ifge (tgt := 15) dX12_element_6 (by decide) (fun h_6 => ?_) (fun h_6 => ?_)
  · have hF := ite_t h_6 hF
    refine Go.aload_n dX12_element_15 rfl ?_
    refine Go.getR dX12_element_16 fX12_131 rfl ?_
    refine Go.bipush (v := 60) dX12_element_19 (by decide) ?_
    refine Go.iload_n dX12_element_21 rfl ?_
    refine Go.imul dX12_element_22 ?_
    refine Go.iload_n dX12_element_23 rfl ?_
    refine Go.iadd dX12_element_24 ?_
    obtain ⟨hb_25, hF⟩ := gd_some hF
    refine Go.lald dX12_element_25 rfl (inb_ok hb_25) ?_
    obtain rfl := Option.some.inj hF
    exact Go.lret (st := []) dX12_element_26 rfl ⟨rfl, rfl⟩
  · have hF := ite_f h_6 hF
    refine Go.ldc2_w dX12_element_9 qX12_410 ?_
    refine Go.goto (tgt := 26) dX12_element_12 (by decide) ?_
    obtain rfl := Option.some.inj hF
    exact Go.lret (st := []) dX12_element_26 rfl ⟨rfl, rfl⟩
def F_X12_shift_150 : Nat → Int32 → Int32 → Int32 → Int32 → St → Option (Int32 × St)
  | 0 => fun _ _ _ _ _ => none
  | n + 1 => fun x3 x4 x5 x6 S =>
    if x5 ≤ x6 then (some (x5, S)) else (gd (inb x6 60) (gd (inb (((60 * x3) + x4) + x6) 360) (let S178 := lset S 102 (vp_updL (S.2.2 102) (Int32.toNatClampNeg (((60 * x3) + x4) + x6)) (S.2.2 103 (Int32.toNatClampNeg x6))); (F_X12_shift_150 n) x3 x4 x5 (x6 + 1) S178)))
set_option maxHeartbeats 4000000 in
set_option maxRecDepth 100000 in
theorem ok_X12_shift_150 {l : Launch} (d : Nat) : ∀ (n : Nat) (x3 : Int32) (x4 : Int32) (x5 : Int32) (x6 : Int32) (S : St) (R : Int32 × St), F_X12_shift_150 n x3 x4 x5 x6 S = some R → Go l (d + 2) mX12_shift (Res (some (.int R.1)) R.2) 150 [(0, .ref 63), (3, .int x3), (4, .int x4), (5, .int x5), (6, .int x6)] [] S := by
  intro n
  induction n with
  | zero => intro x3 x4 x5 x6 S  R hF; cases hF
  | succ n hk150 =>
    intro x3 x4 x5 x6 S  R hF
    have hF : (if x5 ≤ x6 then (some (x5, S)) else (gd (inb x6 60) (gd (inb (((60 * x3) + x4) + x6) 360) (let S178 := lset S 102 (vp_updL (S.2.2 102) (Int32.toNatClampNeg (((60 * x3) + x4) + x6)) (S.2.2 103 (Int32.toNatClampNeg x6))); (F_X12_shift_150 n) x3 x4 x5 (x6 + 1) S178)))) = some R := hF
    refine Go.iload dX12_shift_150 rfl ?_
    refine Go.iload dX12_shift_152 rfl ?_
    refine Go.icmpge (tgt := 185) dX12_shift_154 (by decide) (fun h_154 => ?_) (fun h_154 => ?_)
    · have hF := ite_t h_154 hF
      refine Go.iload dX12_shift_185 rfl ?_
      obtain rfl := Option.some.inj hF
      exact Go.iret (st := []) dX12_shift_187 rfl rfl ⟨rfl, rfl⟩
    · have hF := ite_f h_154 hF
      refine Go.aload_n dX12_shift_157 rfl ?_
      refine Go.getR dX12_shift_158 fX12_131 rfl ?_
      refine Go.bipush (v := 60) dX12_shift_161 (by decide) ?_
      refine Go.iload_n dX12_shift_163 rfl ?_
      refine Go.imul dX12_shift_164 ?_
      refine Go.iload dX12_shift_165 rfl ?_
      refine Go.iadd dX12_shift_167 ?_
      refine Go.iload dX12_shift_168 rfl ?_
      refine Go.iadd dX12_shift_170 ?_
      refine Go.aload_n dX12_shift_171 rfl ?_
      refine Go.getR dX12_shift_172 fX12_135 rfl ?_
      refine Go.iload dX12_shift_175 rfl ?_
      obtain ⟨hb_177, hF⟩ := gd_some hF
      refine Go.lald dX12_shift_177 rfl (inb_ok hb_177) ?_
      obtain ⟨hb_178, hF⟩ := gd_some hF
      refine Go.last dX12_shift_178 rfl (inb_ok hb_178) ?_
      refine Go.iincP (ls' := [(6, _), (0, _), (3, _), (4, _), (5, _)]) dX12_shift_179 rfl (by decide) rfl ?_
      refine Go.goto (tgt := 150) dX12_shift_182 (by decide) ?_
      refine Go.pick (ls' := [(0, _), (3, _), (4, _), (5, _), (6, _)]) [1, 2, 3, 4, 0] rfl ?_
      exact hk150 _ _ _ _ _ _ hF
def F_X12_shift_113 (N : Nat) : Nat → Int32 → Int32 → Int32 → Int32 → Int32 → Int32 → St → Option (Int32 × St)
  | 0 => fun _ _ _ _ _ _ _ => none
  | n + 1 => fun x1 x2 x3 x4 x5 x6 S =>
    if x5 ≤ x6 then (F_X12_shift_150 N x3 x4 x5 0 S) else (gd (inb (((60 * x1) + x2) + x6) 360) (gd (inb x6 60) (let S140 := lset S 103 (vp_updL (S.2.2 103) (Int32.toNatClampNeg x6) (S.2.2 102 (Int32.toNatClampNeg (((60 * x1) + x2) + x6)))); (F_X12_shift_113 N n) x1 x2 x3 x4 x5 (x6 + 1) S140)))
set_option maxHeartbeats 4000000 in
set_option maxRecDepth 100000 in
theorem ok_X12_shift_113 {l : Launch} (d : Nat) (N : Nat) : ∀ (n : Nat) (x1 : Int32) (x2 : Int32) (x3 : Int32) (x4 : Int32) (x5 : Int32) (x6 : Int32) (S : St) (R : Int32 × St), F_X12_shift_113 N n x1 x2 x3 x4 x5 x6 S = some R → Go l (d + 2) mX12_shift (Res (some (.int R.1)) R.2) 113 [(0, .ref 63), (1, .int x1), (2, .int x2), (3, .int x3), (4, .int x4), (5, .int x5), (6, .int x6)] [] S := by
  intro n
  induction n with
  | zero => intro x1 x2 x3 x4 x5 x6 S  R hF; cases hF
  | succ n hk113 =>
    intro x1 x2 x3 x4 x5 x6 S  R hF
    have hF : (if x5 ≤ x6 then (F_X12_shift_150 N x3 x4 x5 0 S) else (gd (inb (((60 * x1) + x2) + x6) 360) (gd (inb x6 60) (let S140 := lset S 103 (vp_updL (S.2.2 103) (Int32.toNatClampNeg x6) (S.2.2 102 (Int32.toNatClampNeg (((60 * x1) + x2) + x6)))); (F_X12_shift_113 N n) x1 x2 x3 x4 x5 (x6 + 1) S140)))) = some R := hF
    refine Go.iload dX12_shift_113 rfl ?_
    refine Go.iload dX12_shift_115 rfl ?_
    refine Go.icmpge (tgt := 147) dX12_shift_117 (by decide) (fun h_117 => ?_) (fun h_117 => ?_)
    · have hF := ite_t h_117 hF
      refine Go.iconst (v := 0) dX12_shift_147 (by decide) ?_
      refine Go.istore (ls' := [(6, _), (0, _), (1, _), (2, _), (3, _), (4, _), (5, _)]) dX12_shift_148 (by decide) rfl ?_
      refine Go.pick (ls' := [(0, _), (3, _), (4, _), (5, _), (6, _)]) [1, 4, 5, 6, 0] rfl ?_
      exact ok_X12_shift_150 d N _ _ _ _ _ _ hF
    · have hF := ite_f h_117 hF
      refine Go.aload_n dX12_shift_120 rfl ?_
      refine Go.getR dX12_shift_121 fX12_135 rfl ?_
      refine Go.iload dX12_shift_124 rfl ?_
      refine Go.aload_n dX12_shift_126 rfl ?_
      refine Go.getR dX12_shift_127 fX12_131 rfl ?_
      refine Go.bipush (v := 60) dX12_shift_130 (by decide) ?_
      refine Go.iload_n dX12_shift_132 rfl ?_
      refine Go.imul dX12_shift_133 ?_
      refine Go.iload_n dX12_shift_134 rfl ?_
      refine Go.iadd dX12_shift_135 ?_
      refine Go.iload dX12_shift_136 rfl ?_
      refine Go.iadd dX12_shift_138 ?_
      obtain ⟨hb_139, hF⟩ := gd_some hF
      refine Go.lald dX12_shift_139 rfl (inb_ok hb_139) ?_
      obtain ⟨hb_140, hF⟩ := gd_some hF
      refine Go.last dX12_shift_140 rfl (inb_ok hb_140) ?_
      refine Go.iincP (ls' := [(6, _), (0, _), (1, _), (2, _), (3, _), (4, _), (5, _)]) dX12_shift_141 rfl (by decide) rfl ?_
      refine Go.goto (tgt := 113) dX12_shift_144 (by decide) ?_
      refine Go.pick (ls' := [(0, _), (1, _), (2, _), (3, _), (4, _), (5, _), (6, _)]) [1, 2, 3, 4, 5, 6, 0] rfl ?_
      exact hk113 _ _ _ _ _ _ _ _ hF
def F_X12_shift (N : Nat) (x1 : Int32) (x2 : Int32) (x3 : Int32) (x4 : Int32) (x5 : Int32) (S : St) : Option (Int32 × St) :=
  (F_X12_isShelf x1 S).bind (fun r_1 => if r_1.1 = 0 then (some ((-1), r_1.2)) else ((F_X12_isShelf x3 r_1.2).bind (fun r_8 => if r_8.1 = 0 then (some ((-1), r_8.2)) else (gd (inb x1 6) (if (r_8.2.2.1 100 (Int32.toNatClampNeg x1)) = (-1) then (some ((-11), r_8.2)) else (gd (inb x3 6) (if (r_8.2.2.1 100 (Int32.toNatClampNeg x3)) = (-1) then (some ((-11), r_8.2)) else (gd (inb x1 6) (if 0 ≤ (r_8.2.2.1 100 (Int32.toNatClampNeg x1)) then (some ((-12), r_8.2)) else (gd (inb x1 6) (gd (inb x3 6) (if (r_8.2.2.1 100 (Int32.toNatClampNeg x1)) = (r_8.2.2.1 100 (Int32.toNatClampNeg x3)) then (if x5 < 0 then (some ((-13), r_8.2)) else (if x2 < 0 then (some ((-13), r_8.2)) else (if x4 < 0 then (some ((-13), r_8.2)) else (gd (inb x1 6) (if ((r_8.2.2.1 101 (Int32.toNatClampNeg x1)) - x5) < x2 then (some ((-13), r_8.2)) else (gd (inb x3 6) (if x4 ≤ ((r_8.2.2.1 101 (Int32.toNatClampNeg x3)) - x5) then (F_X12_shift_113 N N x1 x2 x3 x4 x5 0 r_8.2) else (some ((-13), r_8.2))))))))) else (some ((-12), r_8.2))))))))))))))
set_option maxHeartbeats 4000000 in
set_option maxRecDepth 100000 in
theorem ok_X12_shift {l : Launch} (d : Nat) (N : Nat) (x1 : Int32) (x2 : Int32) (x3 : Int32) (x4 : Int32) (x5 : Int32) (S : St) (R : Int32 × St) (hF : F_X12_shift N x1 x2 x3 x4 x5 S = some R) : Go l (d + 2) mX12_shift (Res (some (.int R.1)) R.2) 0 [(0, .ref 63), (1, .int x1), (2, .int x2), (3, .int x3), (4, .int x4), (5, .int x5)] [] S := by
  unfold F_X12_shift at hF
  refine Go.iload_n dX12_shift_0 rfl ?_
  obtain ⟨r_1, hc_1, hF⟩ := Option.bind_eq_some_iff.mp hF
  refine Go.callS [_] dX12_shift_1 kX12_isShelf sX12_isShelf lX12_152 rfl rfl (Nat.le_of_ble_eq_true rfl) (Nat.le_of_ble_eq_true rfl) (ok_X12_isShelf (d + 0) _ _ _ hc_1) ?_
  refine Go.ifeq (tgt := 14) dX12_shift_4 (by decide) (fun h_4 => ?_) (fun h_4 => ?_)
  · have hF := ite_t h_4 hF
    refine Go.iconst (v := (-1)) dX12_shift_14 (by decide) ?_
    obtain rfl := Option.some.inj hF
    exact Go.iret (st := []) dX12_shift_15 rfl rfl ⟨rfl, rfl⟩
  · have hF := ite_f h_4 hF
    refine Go.iload_n dX12_shift_7 rfl ?_
    obtain ⟨r_8, hc_8, hF⟩ := Option.bind_eq_some_iff.mp hF
    refine Go.callS [_] dX12_shift_8 kX12_isShelf sX12_isShelf lX12_152 rfl rfl (Nat.le_of_ble_eq_true rfl) (Nat.le_of_ble_eq_true rfl) (ok_X12_isShelf (d + 0) _ _ _ hc_8) ?_
    refine Go.ifne (tgt := 16) dX12_shift_11 (by decide) (fun h_11 => ?_) (fun h_11 => ?_)
    · have hF := ite_f h_11 hF
      refine Go.aload_n dX12_shift_16 rfl ?_
      refine Go.getR dX12_shift_17 fX12_125 rfl ?_
      refine Go.iload_n dX12_shift_20 rfl ?_
      obtain ⟨hb_21, hF⟩ := gd_some hF
      refine Go.iald dX12_shift_21 rfl (inb_ok hb_21) ?_
      refine Go.iconst (v := (-1)) dX12_shift_22 (by decide) ?_
      refine Go.icmpeq (tgt := 36) dX12_shift_23 (by decide) (fun h_23 => ?_) (fun h_23 => ?_)
      · have hF := ite_t h_23 hF
        refine Go.bipush (v := (-11)) dX12_shift_36 (by decide) ?_
        obtain rfl := Option.some.inj hF
        exact Go.iret (st := []) dX12_shift_38 rfl rfl ⟨rfl, rfl⟩
      · have hF := ite_f h_23 hF
        refine Go.aload_n dX12_shift_26 rfl ?_
        refine Go.getR dX12_shift_27 fX12_125 rfl ?_
        refine Go.iload_n dX12_shift_30 rfl ?_
        obtain ⟨hb_31, hF⟩ := gd_some hF
        refine Go.iald dX12_shift_31 rfl (inb_ok hb_31) ?_
        refine Go.iconst (v := (-1)) dX12_shift_32 (by decide) ?_
        refine Go.icmpne (tgt := 39) dX12_shift_33 (by decide) (fun h_33 => ?_) (fun h_33 => ?_)
        · have hF := ite_f h_33 hF
          refine Go.aload_n dX12_shift_39 rfl ?_
          refine Go.getR dX12_shift_40 fX12_125 rfl ?_
          refine Go.iload_n dX12_shift_43 rfl ?_
          obtain ⟨hb_44, hF⟩ := gd_some hF
          refine Go.iald dX12_shift_44 rfl (inb_ok hb_44) ?_
          refine Go.ifge (tgt := 63) dX12_shift_45 (by decide) (fun h_45 => ?_) (fun h_45 => ?_)
          · have hF := ite_t h_45 hF
            refine Go.bipush (v := (-12)) dX12_shift_63 (by decide) ?_
            obtain rfl := Option.some.inj hF
            exact Go.iret (st := []) dX12_shift_65 rfl rfl ⟨rfl, rfl⟩
          · have hF := ite_f h_45 hF
            refine Go.aload_n dX12_shift_48 rfl ?_
            refine Go.getR dX12_shift_49 fX12_125 rfl ?_
            refine Go.iload_n dX12_shift_52 rfl ?_
            obtain ⟨hb_53, hF⟩ := gd_some hF
            refine Go.iald dX12_shift_53 rfl (inb_ok hb_53) ?_
            refine Go.aload_n dX12_shift_54 rfl ?_
            refine Go.getR dX12_shift_55 fX12_125 rfl ?_
            refine Go.iload_n dX12_shift_58 rfl ?_
            obtain ⟨hb_59, hF⟩ := gd_some hF
            refine Go.iald dX12_shift_59 rfl (inb_ok hb_59) ?_
            refine Go.icmpeq (tgt := 66) dX12_shift_60 (by decide) (fun h_60 => ?_) (fun h_60 => ?_)
            · have hF := ite_t h_60 hF
              refine Go.iload dX12_shift_66 rfl ?_
              refine Go.iflt (tgt := 107) dX12_shift_68 (by decide) (fun h_68 => ?_) (fun h_68 => ?_)
              · have hF := ite_t h_68 hF
                refine Go.bipush (v := (-13)) dX12_shift_107 (by decide) ?_
                obtain rfl := Option.some.inj hF
                exact Go.iret (st := []) dX12_shift_109 rfl rfl ⟨rfl, rfl⟩
              · have hF := ite_f h_68 hF
                refine Go.iload_n dX12_shift_71 rfl ?_
                refine Go.iflt (tgt := 107) dX12_shift_72 (by decide) (fun h_72 => ?_) (fun h_72 => ?_)
                · have hF := ite_t h_72 hF
                  refine Go.bipush (v := (-13)) dX12_shift_107 (by decide) ?_
                  obtain rfl := Option.some.inj hF
                  exact Go.iret (st := []) dX12_shift_109 rfl rfl ⟨rfl, rfl⟩
                · have hF := ite_f h_72 hF
                  refine Go.iload dX12_shift_75 rfl ?_
                  refine Go.iflt (tgt := 107) dX12_shift_77 (by decide) (fun h_77 => ?_) (fun h_77 => ?_)
                  · have hF := ite_t h_77 hF
                    refine Go.bipush (v := (-13)) dX12_shift_107 (by decide) ?_
                    obtain rfl := Option.some.inj hF
                    exact Go.iret (st := []) dX12_shift_109 rfl rfl ⟨rfl, rfl⟩
                  · have hF := ite_f h_77 hF
                    refine Go.iload_n dX12_shift_80 rfl ?_
                    refine Go.aload_n dX12_shift_81 rfl ?_
                    refine Go.getR dX12_shift_82 fX12_128 rfl ?_
                    refine Go.iload_n dX12_shift_85 rfl ?_
                    obtain ⟨hb_86, hF⟩ := gd_some hF
                    refine Go.iald dX12_shift_86 rfl (inb_ok hb_86) ?_
                    refine Go.iload dX12_shift_87 rfl ?_
                    refine Go.isub dX12_shift_89 ?_
                    refine Go.icmpgt (tgt := 107) dX12_shift_90 (by decide) (fun h_90 => ?_) (fun h_90 => ?_)
                    · have hF := ite_t h_90 hF
                      refine Go.bipush (v := (-13)) dX12_shift_107 (by decide) ?_
                      obtain rfl := Option.some.inj hF
                      exact Go.iret (st := []) dX12_shift_109 rfl rfl ⟨rfl, rfl⟩
                    · have hF := ite_f h_90 hF
                      refine Go.iload dX12_shift_93 rfl ?_
                      refine Go.aload_n dX12_shift_95 rfl ?_
                      refine Go.getR dX12_shift_96 fX12_128 rfl ?_
                      refine Go.iload_n dX12_shift_99 rfl ?_
                      obtain ⟨hb_100, hF⟩ := gd_some hF
                      refine Go.iald dX12_shift_100 rfl (inb_ok hb_100) ?_
                      refine Go.iload dX12_shift_101 rfl ?_
                      refine Go.isub dX12_shift_103 ?_
                      refine Go.icmple (tgt := 110) dX12_shift_104 (by decide) (fun h_104 => ?_) (fun h_104 => ?_)
                      · have hF := ite_t h_104 hF
                        refine Go.iconst (v := 0) dX12_shift_110 (by decide) ?_
                        refine Go.istore (ls' := [(6, _), (0, _), (1, _), (2, _), (3, _), (4, _), (5, _)]) dX12_shift_111 (by decide) rfl ?_
                        refine Go.pick (ls' := [(0, _), (1, _), (2, _), (3, _), (4, _), (5, _), (6, _)]) [1, 2, 3, 4, 5, 6, 0] rfl ?_
                        exact ok_X12_shift_113 d N N _ _ _ _ _ _ _ _ hF
                      · have hF := ite_f h_104 hF
                        refine Go.bipush (v := (-13)) dX12_shift_107 (by decide) ?_
                        obtain rfl := Option.some.inj hF
                        exact Go.iret (st := []) dX12_shift_109 rfl rfl ⟨rfl, rfl⟩
            · have hF := ite_f h_60 hF
              refine Go.bipush (v := (-12)) dX12_shift_63 (by decide) ?_
              obtain rfl := Option.some.inj hF
              exact Go.iret (st := []) dX12_shift_65 rfl rfl ⟨rfl, rfl⟩
        · have hF := ite_t h_33 hF
          refine Go.bipush (v := (-11)) dX12_shift_36 (by decide) ?_
          obtain rfl := Option.some.inj hF
          exact Go.iret (st := []) dX12_shift_38 rfl rfl ⟨rfl, rfl⟩
    · have hF := ite_t h_11 hF
      refine Go.iconst (v := (-1)) dX12_shift_14 (by decide) ?_
      obtain rfl := Option.some.inj hF
      exact Go.iret (st := []) dX12_shift_15 rfl rfl ⟨rfl, rfl⟩
def F_X12_taken (x1 : Int32) (x2 : Int32) (S : St) : Option (Int32 × St) :=
  (F_X12_isShelf x1 S).bind (fun r_1 => if r_1.1 = 0 then (some ((-1), r_1.2)) else ((F_X12_in x2 (0 : Int32) (7 : Int32) r_1.2).bind (fun r_11 => if r_11.1 = 0 then (some ((-1), r_11.2)) else (gd (inb x1 6) (if (r_11.2.2.1 100 (Int32.toNatClampNeg x1)) = (-1) then (some ((-11), r_11.2)) else (gd (inb x1 6) (if (r_11.2.2.1 100 (Int32.toNatClampNeg x1)) < 0 then (some ((-12), r_11.2)) else (gd (inb x1 6) (gd (inb (r_11.2.2.1 100 (Int32.toNatClampNeg x1)) 50) ((F_X12_isUnder (r_11.2.2.1 98 (Int32.toNatClampNeg (r_11.2.2.1 100 (Int32.toNatClampNeg x1)))) x2 r_11.2).bind (fun r_53 => if r_53.1 = 0 then (some ((-12), r_53.2)) else (gd (inb x1 6) (gd (inb (r_53.2.2.1 100 (Int32.toNatClampNeg x1)) 50) (some (r_53.2.2.1 98 (Int32.toNatClampNeg (r_53.2.2.1 100 (Int32.toNatClampNeg x1))), r_53.2)))))))))))))))
set_option maxHeartbeats 4000000 in
set_option maxRecDepth 100000 in
theorem ok_X12_taken {l : Launch} (d : Nat) (x1 : Int32) (x2 : Int32) (S : St) (R : Int32 × St) (hF : F_X12_taken x1 x2 S = some R) : Go l (d + 2) mX12_taken (Res (some (.int R.1)) R.2) 0 [(0, .ref 63), (1, .int x1), (2, .int x2)] [] S := by
  unfold F_X12_taken at hF
  refine Go.iload_n dX12_taken_0 rfl ?_
  obtain ⟨r_1, hc_1, hF⟩ := Option.bind_eq_some_iff.mp hF
  refine Go.callS [_] dX12_taken_1 kX12_isShelf sX12_isShelf lX12_152 rfl rfl (Nat.le_of_ble_eq_true rfl) (Nat.le_of_ble_eq_true rfl) (ok_X12_isShelf (d + 0) _ _ _ hc_1) ?_
  refine Go.ifeq (tgt := 17) dX12_taken_4 (by decide) (fun h_4 => ?_) (fun h_4 => ?_)
  · have hF := ite_t h_4 hF
    refine Go.iconst (v := (-1)) dX12_taken_17 (by decide) ?_
    obtain rfl := Option.some.inj hF
    exact Go.iret (st := []) dX12_taken_18 rfl rfl ⟨rfl, rfl⟩
  · have hF := ite_f h_4 hF
    refine Go.iload_n dX12_taken_7 rfl ?_
    refine Go.iconst (v := 0) dX12_taken_8 (by decide) ?_
    refine Go.bipush (v := 7) dX12_taken_9 (by decide) ?_
    obtain ⟨r_11, hc_11, hF⟩ := Option.bind_eq_some_iff.mp hF
    refine Go.callS [_, _, _] dX12_taken_11 kX12_in sX12_in lX12_144 rfl rfl (Nat.le_of_ble_eq_true rfl) (Nat.le_of_ble_eq_true rfl) (ok_X12_in (d + 1) _ _ _ _ _ hc_11) ?_
    refine Go.ifne (tgt := 19) dX12_taken_14 (by decide) (fun h_14 => ?_) (fun h_14 => ?_)
    · have hF := ite_f h_14 hF
      refine Go.aload_n dX12_taken_19 rfl ?_
      refine Go.getR dX12_taken_20 fX12_125 rfl ?_
      refine Go.iload_n dX12_taken_23 rfl ?_
      obtain ⟨hb_24, hF⟩ := gd_some hF
      refine Go.iald dX12_taken_24 rfl (inb_ok hb_24) ?_
      refine Go.iconst (v := (-1)) dX12_taken_25 (by decide) ?_
      refine Go.icmpne (tgt := 32) dX12_taken_26 (by decide) (fun h_26 => ?_) (fun h_26 => ?_)
      · have hF := ite_f h_26 hF
        refine Go.aload_n dX12_taken_32 rfl ?_
        refine Go.getR dX12_taken_33 fX12_125 rfl ?_
        refine Go.iload_n dX12_taken_36 rfl ?_
        obtain ⟨hb_37, hF⟩ := gd_some hF
        refine Go.iald dX12_taken_37 rfl (inb_ok hb_37) ?_
        refine Go.iflt (tgt := 73) dX12_taken_38 (by decide) (fun h_38 => ?_) (fun h_38 => ?_)
        · have hF := ite_t h_38 hF
          refine Go.bipush (v := (-12)) dX12_taken_73 (by decide) ?_
          obtain rfl := Option.some.inj hF
          exact Go.iret (st := []) dX12_taken_75 rfl rfl ⟨rfl, rfl⟩
        · have hF := ite_f h_38 hF
          refine Go.aload_n dX12_taken_41 rfl ?_
          refine Go.getR dX12_taken_42 fX12_119 rfl ?_
          refine Go.aload_n dX12_taken_45 rfl ?_
          refine Go.getR dX12_taken_46 fX12_125 rfl ?_
          refine Go.iload_n dX12_taken_49 rfl ?_
          obtain ⟨hb_50, hF⟩ := gd_some hF
          refine Go.iald dX12_taken_50 rfl (inb_ok hb_50) ?_
          obtain ⟨hb_51, hF⟩ := gd_some hF
          refine Go.iald dX12_taken_51 rfl (inb_ok hb_51) ?_
          refine Go.iload_n dX12_taken_52 rfl ?_
          obtain ⟨r_53, hc_53, hF⟩ := Option.bind_eq_some_iff.mp hF
          refine Go.callS [_, _] dX12_taken_53 kX12_isUnder sX12_isUnder lX12_369 rfl rfl (Nat.le_of_ble_eq_true rfl) (Nat.le_of_ble_eq_true rfl) (ok_X12_isUnder (d + 1) _ _ _ _ hc_53) ?_
          refine Go.ifeq (tgt := 73) dX12_taken_56 (by decide) (fun h_56 => ?_) (fun h_56 => ?_)
          · have hF := ite_t h_56 hF
            refine Go.bipush (v := (-12)) dX12_taken_73 (by decide) ?_
            obtain rfl := Option.some.inj hF
            exact Go.iret (st := []) dX12_taken_75 rfl rfl ⟨rfl, rfl⟩
          · have hF := ite_f h_56 hF
            refine Go.aload_n dX12_taken_59 rfl ?_
            refine Go.getR dX12_taken_60 fX12_119 rfl ?_
            refine Go.aload_n dX12_taken_63 rfl ?_
            refine Go.getR dX12_taken_64 fX12_125 rfl ?_
            refine Go.iload_n dX12_taken_67 rfl ?_
            obtain ⟨hb_68, hF⟩ := gd_some hF
            refine Go.iald dX12_taken_68 rfl (inb_ok hb_68) ?_
            obtain ⟨hb_69, hF⟩ := gd_some hF
            refine Go.iald dX12_taken_69 rfl (inb_ok hb_69) ?_
            refine Go.goto (tgt := 75) dX12_taken_70 (by decide) ?_
            obtain rfl := Option.some.inj hF
            exact Go.iret (st := []) dX12_taken_75 rfl rfl ⟨rfl, rfl⟩
      · have hF := ite_t h_26 hF
        refine Go.bipush (v := (-11)) dX12_taken_29 (by decide) ?_
        obtain rfl := Option.some.inj hF
        exact Go.iret (st := []) dX12_taken_31 rfl rfl ⟨rfl, rfl⟩
    · have hF := ite_t h_14 hF
      refine Go.iconst (v := (-1)) dX12_taken_17 (by decide) ?_
      obtain rfl := Option.some.inj hF
      exact Go.iret (st := []) dX12_taken_18 rfl rfl ⟨rfl, rfl⟩
