def F_X12_goesBest_3 : Nat → Int32 → Int32 → Int32 → Int32 → Int32 → St → Option (Int32 × St)
  | 0 => fun _ _ _ _ _ _ => none
  | n + 1 => fun x1 x2 x3 x4 x5 S =>
    if (S.1 63 1) ≤ x5 then (some ((-1), S)) else ((F_X12_mayGo x1 x5 x2 S).bind (fun r_17 => if r_17.1 = 0 then ((F_X12_goesBest_3 n) x1 x2 x3 x4 (x5 + 1) r_17.2) else (if x5 = x3 then (if (1 : Int32) = x4 then (some (x5, r_17.2)) else ((F_X12_goesBest_3 n) x1 x2 x3 x4 (x5 + 1) r_17.2)) else (gd (inb x5 20) (gd (inb ((256 * x5) + (x2 ||| (r_17.2.2.1 68 (Int32.toNatClampNeg x5)))) 5120) (if (1 + (r_17.2.2.1 85 (Int32.toNatClampNeg ((256 * x5) + (x2 ||| (r_17.2.2.1 68 (Int32.toNatClampNeg x5))))))) = x4 then (some (x5, r_17.2)) else ((F_X12_goesBest_3 n) x1 x2 x3 x4 (x5 + 1) r_17.2)))))))
set_option maxHeartbeats 4000000 in
set_option maxRecDepth 100000 in
theorem ok_X12_goesBest_3 {l : Launch} (d : Nat) : ∀ (n : Nat) (x1 : Int32) (x2 : Int32) (x3 : Int32) (x4 : Int32) (x5 : Int32) (S : St) (R : Int32 × St), F_X12_goesBest_3 n x1 x2 x3 x4 x5 S = some R → Go l (d + 2) mX12_goesBest (Res (some (.int R.1)) R.2) 3 [(0, .ref 63), (1, .int x1), (2, .int x2), (3, .int x3), (4, .int x4), (5, .int x5)] [] S := by
  intro n
  induction n with
  | zero => intro x1 x2 x3 x4 x5 S  R hF; cases hF
  | succ n hk3 =>
    intro x1 x2 x3 x4 x5 S  R hF
    have hF : (if (S.1 63 1) ≤ x5 then (some ((-1), S)) else ((F_X12_mayGo x1 x5 x2 S).bind (fun r_17 => if r_17.1 = 0 then ((F_X12_goesBest_3 n) x1 x2 x3 x4 (x5 + 1) r_17.2) else (if x5 = x3 then (if (1 : Int32) = x4 then (some (x5, r_17.2)) else ((F_X12_goesBest_3 n) x1 x2 x3 x4 (x5 + 1) r_17.2)) else (gd (inb x5 20) (gd (inb ((256 * x5) + (x2 ||| (r_17.2.2.1 68 (Int32.toNatClampNeg x5)))) 5120) (if (1 + (r_17.2.2.1 85 (Int32.toNatClampNeg ((256 * x5) + (x2 ||| (r_17.2.2.1 68 (Int32.toNatClampNeg x5))))))) = x4 then (some (x5, r_17.2)) else ((F_X12_goesBest_3 n) x1 x2 x3 x4 (x5 + 1) r_17.2)))))))) = some R := hF
    refine Go.iload dX12_goesBest_3 rfl ?_
    refine Go.aload_n dX12_goesBest_5 rfl ?_
    refine Go.getI dX12_goesBest_6 fX12_141 rfl ?_
    refine Go.icmpge (tgt := 70) dX12_goesBest_9 (by decide) (fun h_9 => ?_) (fun h_9 => ?_)
    · have hF := ite_t h_9 hF
      refine Go.iconst (v := (-1)) dX12_goesBest_70 (by decide) ?_
      obtain rfl := Option.some.inj hF
      exact Go.iret (st := []) dX12_goesBest_71 rfl rfl ⟨rfl, rfl⟩
    · have hF := ite_f h_9 hF
      refine Go.aload_n dX12_goesBest_12 rfl ?_
      refine Go.iload_n dX12_goesBest_13 rfl ?_
      refine Go.iload dX12_goesBest_14 rfl ?_
      refine Go.iload_n dX12_goesBest_16 rfl ?_
      obtain ⟨r_17, hc_17, hF⟩ := Option.bind_eq_some_iff.mp hF
      refine Go.callV [_, _, _] dX12_goesBest_17 kX12_mayGo vX12_mayGo lX12_281 rfl rfl rfl rfl rfl (Nat.le_of_ble_eq_true rfl) (Nat.le_of_ble_eq_true rfl) (ok_X12_mayGo (d + 0) _ _ _ _ _ hc_17) ?_
      refine Go.ifeq (tgt := 64) dX12_goesBest_20 (by decide) (fun h_20 => ?_) (fun h_20 => ?_)
      · have hF := ite_t h_20 hF
        refine Go.iincP (ls' := [(5, _), (0, _), (1, _), (2, _), (3, _), (4, _)]) dX12_goesBest_64 rfl (by decide) rfl ?_
        refine Go.goto (tgt := 3) dX12_goesBest_67 (by decide) ?_
        refine Go.pick (ls' := [(0, _), (1, _), (2, _), (3, _), (4, _), (5, _)]) [1, 2, 3, 4, 5, 0] rfl ?_
        exact hk3 _ _ _ _ _ _ _ hF
      · have hF := ite_f h_20 hF
        refine Go.iload dX12_goesBest_23 rfl ?_
        refine Go.iload_n dX12_goesBest_25 rfl ?_
        refine Go.icmpne (tgt := 33) dX12_goesBest_26 (by decide) (fun h_26 => ?_) (fun h_26 => ?_)
        · have hF := ite_f h_26 hF
          refine Go.iconst (v := 1) dX12_goesBest_33 (by decide) ?_
          refine Go.aload_n dX12_goesBest_34 rfl ?_
          refine Go.getR dX12_goesBest_35 fX12_80 rfl ?_
          refine Go.sipush (v := 256) dX12_goesBest_38 (by decide) ?_
          refine Go.iload dX12_goesBest_41 rfl ?_
          refine Go.imul dX12_goesBest_43 ?_
          refine Go.iload_n dX12_goesBest_44 rfl ?_
          refine Go.aload_n dX12_goesBest_45 rfl ?_
          refine Go.getR dX12_goesBest_46 fX12_22 rfl ?_
          refine Go.iload dX12_goesBest_49 rfl ?_
          obtain ⟨hb_51, hF⟩ := gd_some hF
          refine Go.iald dX12_goesBest_51 rfl (inb_ok hb_51) ?_
          refine Go.ior dX12_goesBest_52 ?_
          refine Go.iadd dX12_goesBest_53 ?_
          obtain ⟨hb_54, hF⟩ := gd_some hF
          refine Go.iald dX12_goesBest_54 rfl (inb_ok hb_54) ?_
          refine Go.iadd dX12_goesBest_55 ?_
          refine Go.iload dX12_goesBest_56 rfl ?_
          refine Go.icmpne (tgt := 64) dX12_goesBest_58 (by decide) (fun h_58 => ?_) (fun h_58 => ?_)
          · have hF := ite_f h_58 hF
            refine Go.iincP (ls' := [(5, _), (0, _), (1, _), (2, _), (3, _), (4, _)]) dX12_goesBest_64 rfl (by decide) rfl ?_
            refine Go.goto (tgt := 3) dX12_goesBest_67 (by decide) ?_
            refine Go.pick (ls' := [(0, _), (1, _), (2, _), (3, _), (4, _), (5, _)]) [1, 2, 3, 4, 5, 0] rfl ?_
            exact hk3 _ _ _ _ _ _ _ hF
          · have hF := ite_t h_58 hF
            refine Go.iload dX12_goesBest_61 rfl ?_
            obtain rfl := Option.some.inj hF
            exact Go.iret (st := []) dX12_goesBest_63 rfl rfl ⟨rfl, rfl⟩
        · have hF := ite_t h_26 hF
          refine Go.iconst (v := 1) dX12_goesBest_29 (by decide) ?_
          refine Go.goto (tgt := 56) dX12_goesBest_30 (by decide) ?_
          refine Go.iload dX12_goesBest_56 rfl ?_
          refine Go.icmpne (tgt := 64) dX12_goesBest_58 (by decide) (fun h_58 => ?_) (fun h_58 => ?_)
          · have hF := ite_f h_58 hF
            refine Go.iincP (ls' := [(5, _), (0, _), (1, _), (2, _), (3, _), (4, _)]) dX12_goesBest_64 rfl (by decide) rfl ?_
            refine Go.goto (tgt := 3) dX12_goesBest_67 (by decide) ?_
            refine Go.pick (ls' := [(0, _), (1, _), (2, _), (3, _), (4, _), (5, _)]) [1, 2, 3, 4, 5, 0] rfl ?_
            exact hk3 _ _ _ _ _ _ _ hF
          · have hF := ite_t h_58 hF
            refine Go.iload dX12_goesBest_61 rfl ?_
            obtain rfl := Option.some.inj hF
            exact Go.iret (st := []) dX12_goesBest_63 rfl rfl ⟨rfl, rfl⟩
def F_X12_goesBest (N : Nat) (x1 : Int32) (x2 : Int32) (x3 : Int32) (x4 : Int32) (S : St) : Option (Int32 × St) :=
  F_X12_goesBest_3 N x1 x2 x3 x4 0 S
set_option maxHeartbeats 4000000 in
set_option maxRecDepth 100000 in
theorem ok_X12_goesBest {l : Launch} (d : Nat) (N : Nat) (x1 : Int32) (x2 : Int32) (x3 : Int32) (x4 : Int32) (S : St) (R : Int32 × St) (hF : F_X12_goesBest N x1 x2 x3 x4 S = some R) : Go l (d + 2) mX12_goesBest (Res (some (.int R.1)) R.2) 0 [(0, .ref 63), (1, .int x1), (2, .int x2), (3, .int x3), (4, .int x4)] [] S := by
  unfold F_X12_goesBest at hF
  refine Go.iconst (v := 0) dX12_goesBest_0 (by decide) ?_
  refine Go.istore (ls' := [(5, _), (0, _), (1, _), (2, _), (3, _), (4, _)]) dX12_goesBest_1 (by decide) rfl ?_
  refine Go.pick (ls' := [(0, _), (1, _), (2, _), (3, _), (4, _), (5, _)]) [1, 2, 3, 4, 5, 0] rfl ?_
  exact ok_X12_goesBest_3 d N _ _ _ _ _ _ _ hF
def F_X12_way_124 (N : Nat) : Nat → Int32 → Int32 → Int32 → Int32 → Int32 → Int32 → St → Option (Int32 × St)
  | 0 => fun _ _ _ _ _ _ _ => none
  | n + 1 => fun x2 x3 x4 x5 x6 x7 S =>
    if x2 < x7 then (some (x3, S)) else ((F_X12_goesBest N x3 x5 x4 x6 S).bind (fun r_138 => gd (inb r_138.1 20) ((F_X12_way_124 N n) x2 r_138.1 x4 (x5 ||| (r_138.2.2.1 68 (Int32.toNatClampNeg r_138.1))) (x6 + (-1)) (x7 + 1) r_138.2)))
set_option maxHeartbeats 4000000 in
set_option maxRecDepth 100000 in
theorem ok_X12_way_124 {l : Launch} (d : Nat) (N : Nat) : ∀ (n : Nat) (x2 : Int32) (x3 : Int32) (x4 : Int32) (x5 : Int32) (x6 : Int32) (x7 : Int32) (S : St) (R : Int32 × St), F_X12_way_124 N n x2 x3 x4 x5 x6 x7 S = some R → Go l (d + 4) mX12_way (Res (some (.int R.1)) R.2) 124 [(0, .ref 63), (2, .int x2), (3, .int x3), (4, .int x4), (5, .int x5), (6, .int x6), (7, .int x7)] [] S := by
  intro n
  induction n with
  | zero => intro x2 x3 x4 x5 x6 x7 S  R hF; cases hF
  | succ n hk124 =>
    intro x2 x3 x4 x5 x6 x7 S  R hF
    have hF : (if x2 < x7 then (some (x3, S)) else ((F_X12_goesBest N x3 x5 x4 x6 S).bind (fun r_138 => gd (inb r_138.1 20) ((F_X12_way_124 N n) x2 r_138.1 x4 (x5 ||| (r_138.2.2.1 68 (Int32.toNatClampNeg r_138.1))) (x6 + (-1)) (x7 + 1) r_138.2)))) = some R := hF
    refine Go.iload dX12_way_124 rfl ?_
    refine Go.iload_n dX12_way_126 rfl ?_
    refine Go.icmpgt (tgt := 162) dX12_way_127 (by decide) (fun h_127 => ?_) (fun h_127 => ?_)
    · have hF := ite_t h_127 hF
      refine Go.iload_n dX12_way_162 rfl ?_
      obtain rfl := Option.some.inj hF
      exact Go.iret (st := []) dX12_way_163 rfl rfl ⟨rfl, rfl⟩
    · have hF := ite_f h_127 hF
      refine Go.aload_n dX12_way_130 rfl ?_
      refine Go.iload_n dX12_way_131 rfl ?_
      refine Go.iload dX12_way_132 rfl ?_
      refine Go.iload dX12_way_134 rfl ?_
      refine Go.iload dX12_way_136 rfl ?_
      obtain ⟨r_138, hc_138, hF⟩ := Option.bind_eq_some_iff.mp hF
      refine Go.callV [_, _, _, _] dX12_way_138 kX12_goesBest vX12_goesBest lX12_291 rfl rfl rfl rfl rfl (Nat.le_of_ble_eq_true rfl) (Nat.le_of_ble_eq_true rfl) (ok_X12_goesBest (d + 1) N _ _ _ _ _ _ hc_138) ?_
      refine Go.istore_n (ls' := [(3, _), (0, _), (2, _), (4, _), (5, _), (6, _), (7, _)]) dX12_way_141 (by decide) rfl ?_
      refine Go.iload dX12_way_142 rfl ?_
      refine Go.aload_n dX12_way_144 rfl ?_
      refine Go.getR dX12_way_145 fX12_22 rfl ?_
      refine Go.iload_n dX12_way_148 rfl ?_
      obtain ⟨hb_149, hF⟩ := gd_some hF
      refine Go.iald dX12_way_149 rfl (inb_ok hb_149) ?_
      refine Go.ior dX12_way_150 ?_
      refine Go.istore (ls' := [(5, _), (3, _), (0, _), (2, _), (4, _), (6, _), (7, _)]) dX12_way_151 (by decide) rfl ?_
      refine Go.iincM (ls' := [(6, _), (5, _), (3, _), (0, _), (2, _), (4, _), (7, _)]) dX12_way_153 rfl (by decide) rfl ?_
      refine Go.iincP (ls' := [(7, _), (6, _), (5, _), (3, _), (0, _), (2, _), (4, _)]) dX12_way_156 rfl (by decide) rfl ?_
      refine Go.goto (tgt := 124) dX12_way_159 (by decide) ?_
      refine Go.pick (ls' := [(0, _), (2, _), (3, _), (4, _), (5, _), (6, _), (7, _)]) [4, 5, 3, 6, 2, 1, 0] rfl ?_
      exact hk124 _ _ _ _ _ _ _ _ hF
def F_X12_way_56 (N : Nat) : Nat → Int32 → Int32 → Int32 → Int32 → Int32 → St → Option (Int32 × St)
  | 0 => fun _ _ _ _ _ _ => none
  | n + 1 => fun x2 x3 x4 x5 x6 S =>
    if x3 < x6 then (gd (inb ((256 * x3) + x5) 5120) (if (S.2.1 85 (Int32.toNatClampNeg ((256 * x3) + x5))) < 100000 then (if 0 ≤ x2 then (if x2 < (S.2.1 85 (Int32.toNatClampNeg ((256 * x3) + x5))) then (F_X12_way_124 N N x2 x3 x4 x5 (S.2.1 85 (Int32.toNatClampNeg ((256 * x3) + x5))) 0 S) else (some ((-1), S))) else (some (S.2.1 85 (Int32.toNatClampNeg ((256 * x3) + x5)), S))) else (some ((-2), S)))) else (gd (inb x6 20) ((F_X12_way_56 N n) x2 x3 x4 (x5 ||| (S.2.1 68 (Int32.toNatClampNeg x6))) (x6 + 1) S))
set_option maxHeartbeats 4000000 in
set_option maxRecDepth 100000 in
theorem ok_X12_way_56 {l : Launch} (d : Nat) (N : Nat) : ∀ (n : Nat) (x2 : Int32) (x3 : Int32) (x4 : Int32) (x5 : Int32) (x6 : Int32) (S : St) (R : Int32 × St), F_X12_way_56 N n x2 x3 x4 x5 x6 S = some R → Go l (d + 4) mX12_way (Res (some (.int R.1)) R.2) 56 [(0, .ref 63), (2, .int x2), (3, .int x3), (4, .int x4), (5, .int x5), (6, .int x6)] [] S := by
  intro n
  induction n with
  | zero => intro x2 x3 x4 x5 x6 S  R hF; cases hF
  | succ n hk56 =>
    intro x2 x3 x4 x5 x6 S  R hF
    have hF : (if x3 < x6 then (gd (inb ((256 * x3) + x5) 5120) (if (S.2.1 85 (Int32.toNatClampNeg ((256 * x3) + x5))) < 100000 then (if 0 ≤ x2 then (if x2 < (S.2.1 85 (Int32.toNatClampNeg ((256 * x3) + x5))) then (F_X12_way_124 N N x2 x3 x4 x5 (S.2.1 85 (Int32.toNatClampNeg ((256 * x3) + x5))) 0 S) else (some ((-1), S))) else (some (S.2.1 85 (Int32.toNatClampNeg ((256 * x3) + x5)), S))) else (some ((-2), S)))) else (gd (inb x6 20) ((F_X12_way_56 N n) x2 x3 x4 (x5 ||| (S.2.1 68 (Int32.toNatClampNeg x6))) (x6 + 1) S))) = some R := hF
    refine Go.iload dX12_way_56 rfl ?_
    refine Go.iload_n dX12_way_58 rfl ?_
    refine Go.icmpgt (tgt := 80) dX12_way_59 (by decide) (fun h_59 => ?_) (fun h_59 => ?_)
    · have hF := ite_t h_59 hF
      refine Go.aload_n dX12_way_80 rfl ?_
      refine Go.getR dX12_way_81 fX12_80 rfl ?_
      refine Go.sipush (v := 256) dX12_way_84 (by decide) ?_
      refine Go.iload_n dX12_way_87 rfl ?_
      refine Go.imul dX12_way_88 ?_
      refine Go.iload dX12_way_89 rfl ?_
      refine Go.iadd dX12_way_91 ?_
      obtain ⟨hb_92, hF⟩ := gd_some hF
      refine Go.iald dX12_way_92 rfl (inb_ok hb_92) ?_
      refine Go.istore (ls' := [(6, _), (0, _), (2, _), (3, _), (4, _), (5, _)]) dX12_way_93 (by decide) rfl ?_
      refine Go.iload dX12_way_95 rfl ?_
      refine Go.ldc_w dX12_way_97 qX12_280 ?_
      refine Go.icmplt (tgt := 106) dX12_way_100 (by decide) (fun h_100 => ?_) (fun h_100 => ?_)
      · have hF := ite_t h_100 hF
        refine Go.iload_n dX12_way_106 rfl ?_
        refine Go.ifge (tgt := 113) dX12_way_107 (by decide) (fun h_107 => ?_) (fun h_107 => ?_)
        · have hF := ite_t h_107 hF
          refine Go.iload_n dX12_way_113 rfl ?_
          refine Go.iload dX12_way_114 rfl ?_
          refine Go.icmplt (tgt := 121) dX12_way_116 (by decide) (fun h_116 => ?_) (fun h_116 => ?_)
          · have hF := ite_t h_116 hF
            refine Go.iconst (v := 0) dX12_way_121 (by decide) ?_
            refine Go.istore (ls' := [(7, _), (6, _), (0, _), (2, _), (3, _), (4, _), (5, _)]) dX12_way_122 (by decide) rfl ?_
            refine Go.pick (ls' := [(0, _), (2, _), (3, _), (4, _), (5, _), (6, _), (7, _)]) [2, 3, 4, 5, 6, 1, 0] rfl ?_
            exact ok_X12_way_124 d N N _ _ _ _ _ _ _ _ hF
          · have hF := ite_f h_116 hF
            refine Go.iconst (v := (-1)) dX12_way_119 (by decide) ?_
            obtain rfl := Option.some.inj hF
            exact Go.iret (st := []) dX12_way_120 rfl rfl ⟨rfl, rfl⟩
        · have hF := ite_f h_107 hF
          refine Go.iload dX12_way_110 rfl ?_
          obtain rfl := Option.some.inj hF
          exact Go.iret (st := []) dX12_way_112 rfl rfl ⟨rfl, rfl⟩
      · have hF := ite_f h_100 hF
        refine Go.bipush (v := (-2)) dX12_way_103 (by decide) ?_
        obtain rfl := Option.some.inj hF
        exact Go.iret (st := []) dX12_way_105 rfl rfl ⟨rfl, rfl⟩
    · have hF := ite_f h_59 hF
      refine Go.iload dX12_way_62 rfl ?_
      refine Go.aload_n dX12_way_64 rfl ?_
      refine Go.getR dX12_way_65 fX12_22 rfl ?_
      refine Go.iload dX12_way_68 rfl ?_
      obtain ⟨hb_70, hF⟩ := gd_some hF
      refine Go.iald dX12_way_70 rfl (inb_ok hb_70) ?_
      refine Go.ior dX12_way_71 ?_
      refine Go.istore (ls' := [(5, _), (0, _), (2, _), (3, _), (4, _), (6, _)]) dX12_way_72 (by decide) rfl ?_
      refine Go.iincP (ls' := [(6, _), (5, _), (0, _), (2, _), (3, _), (4, _)]) dX12_way_74 rfl (by decide) rfl ?_
      refine Go.goto (tgt := 56) dX12_way_77 (by decide) ?_
      refine Go.pick (ls' := [(0, _), (2, _), (3, _), (4, _), (5, _), (6, _)]) [2, 3, 4, 5, 1, 0] rfl ?_
      exact hk56 _ _ _ _ _ _ _ hF
def F_X12_way (N : Nat) (x1 : Int32) (x2 : Int32) (S : St) : Option (Int32 × St) :=
  if x1 < 0 then (some ((-1), S)) else ((F_X12_isLine (x1 / 100) S).bind (fun r_9 => if r_9.1 = 0 then (some ((-1), r_9.2)) else ((F_X12_isLine (x1 - (x1 / 100) * 100) r_9.2).bind (fun r_20 => if r_20.1 = 0 then (some ((-1), r_20.2)) else (if (-1) ≤ x2 then ((F_X12_findWays N (x1 - (x1 / 100) * 100) r_20.2).bind (fun r_47 => F_X12_way_56 N N x2 (x1 / 100) (x1 - (x1 / 100) * 100) 0 0 r_47)) else (some ((-1), r_20.2)))))))
set_option maxHeartbeats 4000000 in
set_option maxRecDepth 100000 in
theorem ok_X12_way {l : Launch} (d : Nat) (N : Nat) (x1 : Int32) (x2 : Int32) (S : St) (R : Int32 × St) (hF : F_X12_way N x1 x2 S = some R) : Go l (d + 4) mX12_way (Res (some (.int R.1)) R.2) 0 [(0, .ref 63), (1, .int x1), (2, .int x2)] [] S := by
  unfold F_X12_way at hF
  refine Go.iload_n dX12_way_0 rfl ?_
  refine Go.iflt (tgt := 31) dX12_way_1 (by decide) (fun h_1 => ?_) (fun h_1 => ?_)
  · have hF := ite_t h_1 hF
    refine Go.iconst (v := (-1)) dX12_way_31 (by decide) ?_
    obtain rfl := Option.some.inj hF
    exact Go.iret (st := []) dX12_way_32 rfl rfl ⟨rfl, rfl⟩
  · have hF := ite_f h_1 hF
    refine Go.aload_n dX12_way_4 rfl ?_
    refine Go.iload_n dX12_way_5 rfl ?_
    refine Go.bipush (v := 100) dX12_way_6 (by decide) ?_
    refine Go.idiv dX12_way_8 (by decide) ?_
    obtain ⟨r_9, hc_9, hF⟩ := Option.bind_eq_some_iff.mp hF
    refine Go.callV [_] dX12_way_9 kX12_isLine vX12_isLine lX12_178 rfl rfl rfl rfl rfl (Nat.le_of_ble_eq_true rfl) (Nat.le_of_ble_eq_true rfl) (ok_X12_isLine (d + 2) _ _ _ hc_9) ?_
    refine Go.ifeq (tgt := 31) dX12_way_12 (by decide) (fun h_12 => ?_) (fun h_12 => ?_)
    · have hF := ite_t h_12 hF
      refine Go.iconst (v := (-1)) dX12_way_31 (by decide) ?_
      obtain rfl := Option.some.inj hF
      exact Go.iret (st := []) dX12_way_32 rfl rfl ⟨rfl, rfl⟩
    · have hF := ite_f h_12 hF
      refine Go.aload_n dX12_way_15 rfl ?_
      refine Go.iload_n dX12_way_16 rfl ?_
      refine Go.bipush (v := 100) dX12_way_17 (by decide) ?_
      refine Go.irem dX12_way_19 (by decide) ?_
      obtain ⟨r_20, hc_20, hF⟩ := Option.bind_eq_some_iff.mp hF
      refine Go.callV [_] dX12_way_20 kX12_isLine vX12_isLine lX12_178 rfl rfl rfl rfl rfl (Nat.le_of_ble_eq_true rfl) (Nat.le_of_ble_eq_true rfl) (ok_X12_isLine (d + 2) _ _ _ hc_20) ?_
      refine Go.ifeq (tgt := 31) dX12_way_23 (by decide) (fun h_23 => ?_) (fun h_23 => ?_)
      · have hF := ite_t h_23 hF
        refine Go.iconst (v := (-1)) dX12_way_31 (by decide) ?_
        obtain rfl := Option.some.inj hF
        exact Go.iret (st := []) dX12_way_32 rfl rfl ⟨rfl, rfl⟩
      · have hF := ite_f h_23 hF
        refine Go.iload_n dX12_way_26 rfl ?_
        refine Go.iconst (v := (-1)) dX12_way_27 (by decide) ?_
        refine Go.icmpge (tgt := 33) dX12_way_28 (by decide) (fun h_28 => ?_) (fun h_28 => ?_)
        · have hF := ite_t h_28 hF
          refine Go.iload_n dX12_way_33 rfl ?_
          refine Go.bipush (v := 100) dX12_way_34 (by decide) ?_
          refine Go.idiv dX12_way_36 (by decide) ?_
          refine Go.istore_n (ls' := [(3, _), (0, _), (1, _), (2, _)]) dX12_way_37 (by decide) rfl ?_
          refine Go.iload_n dX12_way_38 rfl ?_
          refine Go.bipush (v := 100) dX12_way_39 (by decide) ?_
          refine Go.irem dX12_way_41 (by decide) ?_
          refine Go.istore (ls' := [(4, _), (3, _), (0, _), (1, _), (2, _)]) dX12_way_42 (by decide) rfl ?_
          refine Go.aload_n dX12_way_44 rfl ?_
          refine Go.iload dX12_way_45 rfl ?_
          obtain ⟨r_47, hc_47, hF⟩ := Option.bind_eq_some_iff.mp hF
          refine Go.callV [_] dX12_way_47 kX12_findWays vX12_findWays lX12_287 rfl rfl rfl rfl rfl (Nat.le_of_ble_eq_true rfl) (Nat.le_of_ble_eq_true rfl) (ok_X12_findWays (d + 0) N _ _ _ hc_47) ?_
          refine Go.iconst (v := 0) dX12_way_50 (by decide) ?_
          refine Go.istore (ls' := [(5, _), (4, _), (3, _), (0, _), (1, _), (2, _)]) dX12_way_51 (by decide) rfl ?_
          refine Go.iconst (v := 0) dX12_way_53 (by decide) ?_
          refine Go.istore (ls' := [(6, _), (5, _), (4, _), (3, _), (0, _), (1, _), (2, _)]) dX12_way_54 (by decide) rfl ?_
          refine Go.pick (ls' := [(0, _), (2, _), (3, _), (4, _), (5, _), (6, _)]) [4, 6, 3, 2, 1, 0] rfl ?_
          exact ok_X12_way_56 d N N _ _ _ _ _ _ _ hF
        · have hF := ite_f h_28 hF
          refine Go.iconst (v := (-1)) dX12_way_31 (by decide) ?_
          obtain rfl := Option.some.inj hF
          exact Go.iret (st := []) dX12_way_32 rfl rfl ⟨rfl, rfl⟩
def F_X12_jumpOf_4 : Nat → Int32 → Int32 → Int32 → St → Option (Int32 × St)
  | 0 => fun _ _ _ _ => none
  | n + 1 => fun x1 x2 x3 S =>
    if (S.1 63 1) ≤ x3 then (some (x2, S)) else (if x1 < 0 then ((F_X12_jumpOf_4 n) x1 x2 (x3 + 1) S) else ((F_X12_isJump x1 x3 S).bind (fun r_19 => if r_19.1 = 0 then ((F_X12_jumpOf_4 n) x1 x2 (x3 + 1) r_19.2) else (if x2 < 0 then ((F_X12_jumpOf_4 n) x1 x3 (x3 + 1) r_19.2) else (gd (inb x3 20) (gd (inb x2 20) (if (r_19.2.2.1 70 (Int32.toNatClampNeg x3)) ≤ (r_19.2.2.1 70 (Int32.toNatClampNeg x2)) then ((F_X12_jumpOf_4 n) x1 x2 (x3 + 1) r_19.2) else ((F_X12_jumpOf_4 n) x1 x3 (x3 + 1) r_19.2))))))))
set_option maxHeartbeats 4000000 in
set_option maxRecDepth 100000 in
theorem ok_X12_jumpOf_4 {l : Launch} (d : Nat) : ∀ (n : Nat) (x1 : Int32) (x2 : Int32) (x3 : Int32) (S : St) (R : Int32 × St), F_X12_jumpOf_4 n x1 x2 x3 S = some R → Go l (d + 1) mX12_jumpOf (Res (some (.int R.1)) R.2) 4 [(0, .ref 63), (1, .int x1), (2, .int x2), (3, .int x3)] [] S := by
  intro n
  induction n with
  | zero => intro x1 x2 x3 S  R hF; cases hF
  | succ n hk4 =>
    intro x1 x2 x3 S  R hF
    have hF : (if (S.1 63 1) ≤ x3 then (some (x2, S)) else (if x1 < 0 then ((F_X12_jumpOf_4 n) x1 x2 (x3 + 1) S) else ((F_X12_isJump x1 x3 S).bind (fun r_19 => if r_19.1 = 0 then ((F_X12_jumpOf_4 n) x1 x2 (x3 + 1) r_19.2) else (if x2 < 0 then ((F_X12_jumpOf_4 n) x1 x3 (x3 + 1) r_19.2) else (gd (inb x3 20) (gd (inb x2 20) (if (r_19.2.2.1 70 (Int32.toNatClampNeg x3)) ≤ (r_19.2.2.1 70 (Int32.toNatClampNeg x2)) then ((F_X12_jumpOf_4 n) x1 x2 (x3 + 1) r_19.2) else ((F_X12_jumpOf_4 n) x1 x3 (x3 + 1) r_19.2))))))))) = some R := hF
    refine Go.iload_n dX12_jumpOf_4 rfl ?_
    refine Go.aload_n dX12_jumpOf_5 rfl ?_
    refine Go.getI dX12_jumpOf_6 fX12_141 rfl ?_
    refine Go.icmpge (tgt := 52) dX12_jumpOf_9 (by decide) (fun h_9 => ?_) (fun h_9 => ?_)
    · have hF := ite_t h_9 hF
      refine Go.iload_n dX12_jumpOf_52 rfl ?_
      obtain rfl := Option.some.inj hF
      exact Go.iret (st := []) dX12_jumpOf_53 rfl rfl ⟨rfl, rfl⟩
    · have hF := ite_f h_9 hF
      refine Go.iload_n dX12_jumpOf_12 rfl ?_
      refine Go.iflt (tgt := 46) dX12_jumpOf_13 (by decide) (fun h_13 => ?_) (fun h_13 => ?_)
      · have hF := ite_t h_13 hF
        refine Go.iincP (ls' := [(3, _), (0, _), (1, _), (2, _)]) dX12_jumpOf_46 rfl (by decide) rfl ?_
        refine Go.goto (tgt := 4) dX12_jumpOf_49 (by decide) ?_
        refine Go.pick (ls' := [(0, _), (1, _), (2, _), (3, _)]) [1, 2, 3, 0] rfl ?_
        exact hk4 _ _ _ _ _ hF
      · have hF := ite_f h_13 hF
        refine Go.aload_n dX12_jumpOf_16 rfl ?_
        refine Go.iload_n dX12_jumpOf_17 rfl ?_
        refine Go.iload_n dX12_jumpOf_18 rfl ?_
        obtain ⟨r_19, hc_19, hF⟩ := Option.bind_eq_some_iff.mp hF
        refine Go.callV [_, _] dX12_jumpOf_19 kX12_isJump vX12_isJump lX12_264 rfl rfl rfl rfl rfl (Nat.le_of_ble_eq_true rfl) (Nat.le_of_ble_eq_true rfl) (ok_X12_isJump (d + 0) _ _ _ _ hc_19) ?_
        refine Go.ifeq (tgt := 46) dX12_jumpOf_22 (by decide) (fun h_22 => ?_) (fun h_22 => ?_)
        · have hF := ite_t h_22 hF
          refine Go.iincP (ls' := [(3, _), (0, _), (1, _), (2, _)]) dX12_jumpOf_46 rfl (by decide) rfl ?_
          refine Go.goto (tgt := 4) dX12_jumpOf_49 (by decide) ?_
          refine Go.pick (ls' := [(0, _), (1, _), (2, _), (3, _)]) [1, 2, 3, 0] rfl ?_
          exact hk4 _ _ _ _ _ hF
        · have hF := ite_f h_22 hF
          refine Go.iload_n dX12_jumpOf_25 rfl ?_
          refine Go.iflt (tgt := 44) dX12_jumpOf_26 (by decide) (fun h_26 => ?_) (fun h_26 => ?_)
          · have hF := ite_t h_26 hF
            refine Go.iload_n dX12_jumpOf_44 rfl ?_
            refine Go.istore_n (ls' := [(2, _), (0, _), (1, _), (3, _)]) dX12_jumpOf_45 (by decide) rfl ?_
            refine Go.iincP (ls' := [(3, _), (2, _), (0, _), (1, _)]) dX12_jumpOf_46 rfl (by decide) rfl ?_
            refine Go.goto (tgt := 4) dX12_jumpOf_49 (by decide) ?_
            refine Go.pick (ls' := [(0, _), (1, _), (2, _), (3, _)]) [2, 3, 1, 0] rfl ?_
            exact hk4 _ _ _ _ _ hF
          · have hF := ite_f h_26 hF
            refine Go.aload_n dX12_jumpOf_29 rfl ?_
            refine Go.getR dX12_jumpOf_30 fX12_28 rfl ?_
            refine Go.iload_n dX12_jumpOf_33 rfl ?_
            obtain ⟨hb_34, hF⟩ := gd_some hF
            refine Go.iald dX12_jumpOf_34 rfl (inb_ok hb_34) ?_
            refine Go.aload_n dX12_jumpOf_35 rfl ?_
            refine Go.getR dX12_jumpOf_36 fX12_28 rfl ?_
            refine Go.iload_n dX12_jumpOf_39 rfl ?_
            obtain ⟨hb_40, hF⟩ := gd_some hF
            refine Go.iald dX12_jumpOf_40 rfl (inb_ok hb_40) ?_
            refine Go.icmple (tgt := 46) dX12_jumpOf_41 (by decide) (fun h_41 => ?_) (fun h_41 => ?_)
            · have hF := ite_t h_41 hF
              refine Go.iincP (ls' := [(3, _), (0, _), (1, _), (2, _)]) dX12_jumpOf_46 rfl (by decide) rfl ?_
              refine Go.goto (tgt := 4) dX12_jumpOf_49 (by decide) ?_
              refine Go.pick (ls' := [(0, _), (1, _), (2, _), (3, _)]) [1, 2, 3, 0] rfl ?_
              exact hk4 _ _ _ _ _ hF
            · have hF := ite_f h_41 hF
              refine Go.iload_n dX12_jumpOf_44 rfl ?_
              refine Go.istore_n (ls' := [(2, _), (0, _), (1, _), (3, _)]) dX12_jumpOf_45 (by decide) rfl ?_
              refine Go.iincP (ls' := [(3, _), (2, _), (0, _), (1, _)]) dX12_jumpOf_46 rfl (by decide) rfl ?_
              refine Go.goto (tgt := 4) dX12_jumpOf_49 (by decide) ?_
              refine Go.pick (ls' := [(0, _), (1, _), (2, _), (3, _)]) [2, 3, 1, 0] rfl ?_
              exact hk4 _ _ _ _ _ hF
def F_X12_jumpOf (N : Nat) (x1 : Int32) (S : St) : Option (Int32 × St) :=
  F_X12_jumpOf_4 N x1 (-1) 0 S
set_option maxHeartbeats 4000000 in
set_option maxRecDepth 100000 in
theorem ok_X12_jumpOf {l : Launch} (d : Nat) (N : Nat) (x1 : Int32) (S : St) (R : Int32 × St) (hF : F_X12_jumpOf N x1 S = some R) : Go l (d + 1) mX12_jumpOf (Res (some (.int R.1)) R.2) 0 [(0, .ref 63), (1, .int x1)] [] S := by
  unfold F_X12_jumpOf at hF
  refine Go.iconst (v := (-1)) dX12_jumpOf_0 (by decide) ?_
  refine Go.istore_n (ls' := [(2, _), (0, _), (1, _)]) dX12_jumpOf_1 (by decide) rfl ?_
  refine Go.iconst (v := 0) dX12_jumpOf_2 (by decide) ?_
  refine Go.istore_n (ls' := [(3, _), (2, _), (0, _), (1, _)]) dX12_jumpOf_3 (by decide) rfl ?_
  refine Go.pick (ls' := [(0, _), (1, _), (2, _), (3, _)]) [2, 3, 1, 0] rfl ?_
  exact ok_X12_jumpOf_4 d N _ _ _ _ _ hF
def F_X12_goNight_253 (k29 : Int32 → Int32 → St → Option (St)) (x1 : Int32) (x4 : Int32) (S : St) : Option (St) :=
  gd (inb x4 20) (let S270 := fset S 63 34 ((S.1 63 34) + 1); k29 (x1 ||| (S.2.1 68 (Int32.toNatClampNeg x4))) x4 S270)
set_option maxHeartbeats 4000000 in
set_option maxRecDepth 100000 in
theorem ok_X12_goNight_253 {l : Launch} (d : Nat) (k29 : Int32 → Int32 → St → Option (St)) (hk29 : ∀ (x1 : Int32) (x2 : Int32) (S : St) (R : St), k29 x1 x2 S = some R → Go l (d + 5) mX12_goNight (Res none R) 29 [(0, .ref 63), (1, .int x1), (2, .int x2)] [] S) (x1 : Int32) (x4 : Int32) (S : St) (R : St) (hF : F_X12_goNight_253 k29 x1 x4 S = some R) : Go l (d + 5) mX12_goNight (Res none R) 253 [(0, .ref 63), (1, .int x1), (4, .int x4)] [] S := by
  unfold F_X12_goNight_253 at hF
  refine Go.iload_n dX12_goNight_253 rfl ?_
  refine Go.aload_n dX12_goNight_254 rfl ?_
  refine Go.getR dX12_goNight_255 fX12_22 rfl ?_
  refine Go.iload dX12_goNight_258 rfl ?_
  obtain ⟨hb_260, hF⟩ := gd_some hF
  refine Go.iald dX12_goNight_260 rfl (inb_ok hb_260) ?_
  refine Go.ior dX12_goNight_261 ?_
  refine Go.istore_n (ls' := [(1, _), (0, _), (4, _)]) dX12_goNight_262 (by decide) rfl ?_
  refine Go.aload_n dX12_goNight_263 rfl ?_
  refine Go.dup dX12_goNight_264 rfl ?_
  refine Go.getI dX12_goNight_265 fX12_295 rfl ?_
  refine Go.iconst (v := 1) dX12_goNight_268 (by decide) ?_
  refine Go.iadd dX12_goNight_269 ?_
  refine Go.putI dX12_goNight_270 fX12_295 rfl ?_
  refine Go.iload dX12_goNight_273 rfl ?_
  refine Go.istore_n (ls' := [(2, _), (1, _), (0, _), (4, _)]) dX12_goNight_275 (by decide) rfl ?_
  refine Go.goto (tgt := 29) dX12_goNight_276 (by decide) ?_
  refine Go.pick (ls' := [(0, _), (1, _), (2, _)]) [2, 1, 0] rfl ?_
  exact hk29 _ _ _ _ hF
def F_X12_goNight_190 (k29 : Int32 → Int32 → St → Option (St)) (x1 : Int32) (x3 : Int32) (x4 : Int32) (S : St) : Option (St) :=
  gd (inb (S.1 63 34) 60) (let S200 := aset S 86 (upd (S.2.1 86) (Int32.toNatClampNeg (S.1 63 34)) x4); gd (inb (S200.1 63 34) 60) (let S210 := aset S200 87 (upd (S200.2.1 87) (Int32.toNatClampNeg (S200.1 63 34)) x3); gd (inb x4 20) (gd (inb (S210.1 63 34) 60) (let S230 := aset S210 88 (upd (S210.2.1 88) (Int32.toNatClampNeg (S210.1 63 34)) ((S210.2.1 69 (Int32.toNatClampNeg x4)) &&& (x1 ^^^ (-1)))); gd (inb (S230.1 63 34) 60) (if (S230.2.1 88 (Int32.toNatClampNeg (S230.1 63 34))) = 0 then (F_X12_goNight_253 k29 x1 x4 S230) else (gd (inb (3 : Int32) 5) (gd (inb (3 : Int32) 5) (let S252 := aset S230 89 (upd (S230.2.1 89) (Int32.toNatClampNeg (3 : Int32)) ((S230.2.1 89 (Int32.toNatClampNeg (3 : Int32))) + 1)); F_X12_goNight_253 k29 x1 x4 S252))))))))
set_option maxHeartbeats 4000000 in
set_option maxRecDepth 100000 in
theorem ok_X12_goNight_190 {l : Launch} (d : Nat) (k29 : Int32 → Int32 → St → Option (St)) (hk29 : ∀ (x1 : Int32) (x2 : Int32) (S : St) (R : St), k29 x1 x2 S = some R → Go l (d + 5) mX12_goNight (Res none R) 29 [(0, .ref 63), (1, .int x1), (2, .int x2)] [] S) (x1 : Int32) (x3 : Int32) (x4 : Int32) (S : St) (R : St) (hF : F_X12_goNight_190 k29 x1 x3 x4 S = some R) : Go l (d + 5) mX12_goNight (Res none R) 190 [(0, .ref 63), (1, .int x1), (3, .int x3), (4, .int x4)] [] S := by
  unfold F_X12_goNight_190 at hF
  refine Go.aload_n dX12_goNight_190 rfl ?_
  refine Go.getR dX12_goNight_191 fX12_83 rfl ?_
  refine Go.aload_n dX12_goNight_194 rfl ?_
  refine Go.getI dX12_goNight_195 fX12_295 rfl ?_
  refine Go.iload dX12_goNight_198 rfl ?_
  obtain ⟨hb_200, hF⟩ := gd_some hF
  refine Go.iast dX12_goNight_200 rfl (inb_ok hb_200) ?_
  refine Go.aload_n dX12_goNight_201 rfl ?_
  refine Go.getR dX12_goNight_202 fX12_86 rfl ?_
  refine Go.aload_n dX12_goNight_205 rfl ?_
  refine Go.getI dX12_goNight_206 fX12_295 rfl ?_
  refine Go.iload_n dX12_goNight_209 rfl ?_
  obtain ⟨hb_210, hF⟩ := gd_some hF
  refine Go.iast dX12_goNight_210 rfl (inb_ok hb_210) ?_
  refine Go.aload_n dX12_goNight_211 rfl ?_
  refine Go.getR dX12_goNight_212 fX12_89 rfl ?_
  refine Go.aload_n dX12_goNight_215 rfl ?_
  refine Go.getI dX12_goNight_216 fX12_295 rfl ?_
  refine Go.aload_n dX12_goNight_219 rfl ?_
  refine Go.getR dX12_goNight_220 fX12_25 rfl ?_
  refine Go.iload dX12_goNight_223 rfl ?_
  obtain ⟨hb_225, hF⟩ := gd_some hF
  refine Go.iald dX12_goNight_225 rfl (inb_ok hb_225) ?_
  refine Go.iload_n dX12_goNight_226 rfl ?_
  refine Go.iconst (v := (-1)) dX12_goNight_227 (by decide) ?_
  refine Go.ixor dX12_goNight_228 ?_
  refine Go.iand dX12_goNight_229 ?_
  obtain ⟨hb_230, hF⟩ := gd_some hF
  refine Go.iast dX12_goNight_230 rfl (inb_ok hb_230) ?_
  refine Go.aload_n dX12_goNight_231 rfl ?_
  refine Go.getR dX12_goNight_232 fX12_89 rfl ?_
  refine Go.aload_n dX12_goNight_235 rfl ?_
  refine Go.getI dX12_goNight_236 fX12_295 rfl ?_
  obtain ⟨hb_239, hF⟩ := gd_some hF
  refine Go.iald dX12_goNight_239 rfl (inb_ok hb_239) ?_
  refine Go.ifeq (tgt := 253) dX12_goNight_240 (by decide) (fun h_240 => ?_) (fun h_240 => ?_)
  · have hF := ite_t h_240 hF
    refine Go.pick (ls' := [(0, _), (1, _), (4, _)]) [0, 1, 3] rfl ?_
    exact ok_X12_goNight_253 d k29 hk29 _ _ _ _ hF
  · have hF := ite_f h_240 hF
    refine Go.aload_n dX12_goNight_243 rfl ?_
    refine Go.getR dX12_goNight_244 fX12_92 rfl ?_
    refine Go.iconst (v := 3) dX12_goNight_247 (by decide) ?_
    refine Go.dup2 dX12_goNight_248 rfl rfl ?_
    obtain ⟨hb_249, hF⟩ := gd_some hF
    refine Go.iald dX12_goNight_249 rfl (inb_ok hb_249) ?_
    refine Go.iconst (v := 1) dX12_goNight_250 (by decide) ?_
    refine Go.iadd dX12_goNight_251 ?_
    obtain ⟨hb_252, hF⟩ := gd_some hF
    refine Go.iast dX12_goNight_252 rfl (inb_ok hb_252) ?_
    refine Go.pick (ls' := [(0, _), (1, _), (4, _)]) [0, 1, 3] rfl ?_
    exact ok_X12_goNight_253 d k29 hk29 _ _ _ _ hF
def F_X12_goNight_157 (k29 : Int32 → Int32 → St → Option (St)) (x1 : Int32) (x3 : Int32) (x4 : Int32) (y1 : Int32) (y2 : Int32) (y3 : Int32) (y4 : Int32) (S : St) : Option (St) :=
  gd (inb y1 5) (let S159 := aset S 89 (upd (S.2.1 89) (Int32.toNatClampNeg y1) (y2 + (y3 + y4))); if x3 = 1 then (gd (inb (2 : Int32) 5) (gd (inb (2 : Int32) 5) (let S174 := aset S159 89 (upd (S159.2.1 89) (Int32.toNatClampNeg (2 : Int32)) ((S159.2.1 89 (Int32.toNatClampNeg (2 : Int32))) + 1)); if x3 = 2 then (gd (inb (4 : Int32) 5) (gd (inb (4 : Int32) 5) (let S189 := aset S174 89 (upd (S174.2.1 89) (Int32.toNatClampNeg (4 : Int32)) ((S174.2.1 89 (Int32.toNatClampNeg (4 : Int32))) + 1)); F_X12_goNight_190 k29 x1 x3 x4 S189))) else (F_X12_goNight_190 k29 x1 x3 x4 S174)))) else (if x3 = 2 then (gd (inb (4 : Int32) 5) (gd (inb (4 : Int32) 5) (let S189 := aset S159 89 (upd (S159.2.1 89) (Int32.toNatClampNeg (4 : Int32)) ((S159.2.1 89 (Int32.toNatClampNeg (4 : Int32))) + 1)); F_X12_goNight_190 k29 x1 x3 x4 S189))) else (F_X12_goNight_190 k29 x1 x3 x4 S159)))
set_option maxHeartbeats 4000000 in
set_option maxRecDepth 100000 in
theorem ok_X12_goNight_157 {l : Launch} (d : Nat) (k29 : Int32 → Int32 → St → Option (St)) (hk29 : ∀ (x1 : Int32) (x2 : Int32) (S : St) (R : St), k29 x1 x2 S = some R → Go l (d + 5) mX12_goNight (Res none R) 29 [(0, .ref 63), (1, .int x1), (2, .int x2)] [] S) (x1 : Int32) (x3 : Int32) (x4 : Int32) (y1 : Int32) (y2 : Int32) (y3 : Int32) (y4 : Int32) (S : St) (R : St) (hF : F_X12_goNight_157 k29 x1 x3 x4 y1 y2 y3 y4 S = some R) : Go l (d + 5) mX12_goNight (Res none R) 157 [(0, .ref 63), (1, .int x1), (3, .int x3), (4, .int x4)] [.int y4, .int y3, .int y2, .int y1, .ref 89] S := by
  unfold F_X12_goNight_157 at hF
  refine Go.iadd dX12_goNight_157 ?_
  refine Go.iadd dX12_goNight_158 ?_
  obtain ⟨hb_159, hF⟩ := gd_some hF
  refine Go.iast dX12_goNight_159 rfl (inb_ok hb_159) ?_
  refine Go.iload_n dX12_goNight_160 rfl ?_
  refine Go.iconst (v := 1) dX12_goNight_161 (by decide) ?_
  refine Go.icmpne (tgt := 175) dX12_goNight_162 (by decide) (fun h_162 => ?_) (fun h_162 => ?_)
  · have hF := ite_f h_162 hF
    refine Go.iload_n dX12_goNight_175 rfl ?_
    refine Go.iconst (v := 2) dX12_goNight_176 (by decide) ?_
    refine Go.icmpne (tgt := 190) dX12_goNight_177 (by decide) (fun h_177 => ?_) (fun h_177 => ?_)
    · have hF := ite_f h_177 hF
      refine Go.pick (ls' := [(0, _), (1, _), (3, _), (4, _)]) [0, 1, 2, 3] rfl ?_
      exact ok_X12_goNight_190 d k29 hk29 _ _ _ _ _ hF
    · have hF := ite_t h_177 hF
      refine Go.aload_n dX12_goNight_180 rfl ?_
      refine Go.getR dX12_goNight_181 fX12_92 rfl ?_
      refine Go.iconst (v := 4) dX12_goNight_184 (by decide) ?_
      refine Go.dup2 dX12_goNight_185 rfl rfl ?_
      obtain ⟨hb_186, hF⟩ := gd_some hF
      refine Go.iald dX12_goNight_186 rfl (inb_ok hb_186) ?_
      refine Go.iconst (v := 1) dX12_goNight_187 (by decide) ?_
      refine Go.iadd dX12_goNight_188 ?_
      obtain ⟨hb_189, hF⟩ := gd_some hF
      refine Go.iast dX12_goNight_189 rfl (inb_ok hb_189) ?_
      refine Go.pick (ls' := [(0, _), (1, _), (3, _), (4, _)]) [0, 1, 2, 3] rfl ?_
      exact ok_X12_goNight_190 d k29 hk29 _ _ _ _ _ hF
  · have hF := ite_t h_162 hF
    refine Go.aload_n dX12_goNight_165 rfl ?_
    refine Go.getR dX12_goNight_166 fX12_92 rfl ?_
    refine Go.iconst (v := 2) dX12_goNight_169 (by decide) ?_
    refine Go.dup2 dX12_goNight_170 rfl rfl ?_
    obtain ⟨hb_171, hF⟩ := gd_some hF
    refine Go.iald dX12_goNight_171 rfl (inb_ok hb_171) ?_
    refine Go.iconst (v := 1) dX12_goNight_172 (by decide) ?_
    refine Go.iadd dX12_goNight_173 ?_
    obtain ⟨hb_174, hF⟩ := gd_some hF
    refine Go.iast dX12_goNight_174 rfl (inb_ok hb_174) ?_
    refine Go.iload_n dX12_goNight_175 rfl ?_
    refine Go.iconst (v := 2) dX12_goNight_176 (by decide) ?_
    refine Go.icmpne (tgt := 190) dX12_goNight_177 (by decide) (fun h_177 => ?_) (fun h_177 => ?_)
    · have hF := ite_f h_177 hF
      refine Go.pick (ls' := [(0, _), (1, _), (3, _), (4, _)]) [0, 1, 2, 3] rfl ?_
      exact ok_X12_goNight_190 d k29 hk29 _ _ _ _ _ hF
    · have hF := ite_t h_177 hF
      refine Go.aload_n dX12_goNight_180 rfl ?_
      refine Go.getR dX12_goNight_181 fX12_92 rfl ?_
      refine Go.iconst (v := 4) dX12_goNight_184 (by decide) ?_
      refine Go.dup2 dX12_goNight_185 rfl rfl ?_
      obtain ⟨hb_186, hF⟩ := gd_some hF
      refine Go.iald dX12_goNight_186 rfl (inb_ok hb_186) ?_
      refine Go.iconst (v := 1) dX12_goNight_187 (by decide) ?_
      refine Go.iadd dX12_goNight_188 ?_
      obtain ⟨hb_189, hF⟩ := gd_some hF
      refine Go.iast dX12_goNight_189 rfl (inb_ok hb_189) ?_
      refine Go.pick (ls' := [(0, _), (1, _), (3, _), (4, _)]) [0, 1, 2, 3] rfl ?_
      exact ok_X12_goNight_190 d k29 hk29 _ _ _ _ _ hF
def F_X12_goNight_117 (k29 : Int32 → Int32 → St → Option (St)) (x1 : Int32) (x3 : Int32) (x4 : Int32) (S : St) : Option (St) :=
  gd (inb (1 : Int32) 5) (gd (inb x4 20) (gd (inb (S.2.1 64 (Int32.toNatClampNeg x4)) 6) (gd (inb x4 20) (if x3 = 2 then (F_X12_goNight_157 k29 x1 x3 x4 1 (S.2.1 89 (Int32.toNatClampNeg (1 : Int32))) ((S.2.1 71 (Int32.toNatClampNeg (S.2.1 64 (Int32.toNatClampNeg x4)))) + (S.2.1 67 (Int32.toNatClampNeg x4))) (S.1 63 10) S) else (F_X12_goNight_157 k29 x1 x3 x4 1 (S.2.1 89 (Int32.toNatClampNeg (1 : Int32))) ((S.2.1 71 (Int32.toNatClampNeg (S.2.1 64 (Int32.toNatClampNeg x4)))) + (S.2.1 67 (Int32.toNatClampNeg x4))) 0 S)))))
set_option maxHeartbeats 4000000 in
set_option maxRecDepth 100000 in
theorem ok_X12_goNight_117 {l : Launch} (d : Nat) (k29 : Int32 → Int32 → St → Option (St)) (hk29 : ∀ (x1 : Int32) (x2 : Int32) (S : St) (R : St), k29 x1 x2 S = some R → Go l (d + 5) mX12_goNight (Res none R) 29 [(0, .ref 63), (1, .int x1), (2, .int x2)] [] S) (x1 : Int32) (x3 : Int32) (x4 : Int32) (S : St) (R : St) (hF : F_X12_goNight_117 k29 x1 x3 x4 S = some R) : Go l (d + 5) mX12_goNight (Res none R) 117 [(0, .ref 63), (1, .int x1), (3, .int x3), (4, .int x4)] [] S := by
  unfold F_X12_goNight_117 at hF
  refine Go.aload_n dX12_goNight_117 rfl ?_
  refine Go.getR dX12_goNight_118 fX12_92 rfl ?_
  refine Go.iconst (v := 1) dX12_goNight_121 (by decide) ?_
  refine Go.dup2 dX12_goNight_122 rfl rfl ?_
  obtain ⟨hb_123, hF⟩ := gd_some hF
  refine Go.iald dX12_goNight_123 rfl (inb_ok hb_123) ?_
  refine Go.aload_n dX12_goNight_124 rfl ?_
  refine Go.getR dX12_goNight_125 fX12_31 rfl ?_
  refine Go.aload_n dX12_goNight_128 rfl ?_
  refine Go.getR dX12_goNight_129 fX12_7 rfl ?_
  refine Go.iload dX12_goNight_132 rfl ?_
  obtain ⟨hb_134, hF⟩ := gd_some hF
  refine Go.iald dX12_goNight_134 rfl (inb_ok hb_134) ?_
  obtain ⟨hb_135, hF⟩ := gd_some hF
  refine Go.iald dX12_goNight_135 rfl (inb_ok hb_135) ?_
  refine Go.aload_n dX12_goNight_136 rfl ?_
  refine Go.getR dX12_goNight_137 fX12_19 rfl ?_
  refine Go.iload dX12_goNight_140 rfl ?_
  obtain ⟨hb_142, hF⟩ := gd_some hF
  refine Go.iald dX12_goNight_142 rfl (inb_ok hb_142) ?_
  refine Go.iadd dX12_goNight_143 ?_
  refine Go.iload_n dX12_goNight_144 rfl ?_
  refine Go.iconst (v := 2) dX12_goNight_145 (by decide) ?_
  refine Go.icmpne (tgt := 156) dX12_goNight_146 (by decide) (fun h_146 => ?_) (fun h_146 => ?_)
  · have hF := ite_f h_146 hF
    refine Go.iconst (v := 0) dX12_goNight_156 (by decide) ?_
    refine Go.pick (ls' := [(0, _), (1, _), (3, _), (4, _)]) [0, 1, 2, 3] rfl ?_
    exact ok_X12_goNight_157 d k29 hk29 _ _ _ _ _ _ _ _ _ hF
  · have hF := ite_t h_146 hF
    refine Go.aload_n dX12_goNight_149 rfl ?_
    refine Go.getI dX12_goNight_150 fX12_34 rfl ?_
    refine Go.goto (tgt := 157) dX12_goNight_153 (by decide) ?_
    refine Go.pick (ls' := [(0, _), (1, _), (3, _), (4, _)]) [0, 1, 2, 3] rfl ?_
    exact ok_X12_goNight_157 d k29 hk29 _ _ _ _ _ _ _ _ _ hF
def F_X12_goNight_29 (N : Nat) : Nat → Int32 → Int32 → St → Option (St)
  | 0 => fun _ _ _ => none
  | n + 1 => fun x1 x2 S =>
    if ((S.1 63 1) - 1) ≤ x2 then (gd (inb (0 : Int32) 5) (let S288 := aset S 89 (upd (S.2.1 89) (Int32.toNatClampNeg (0 : Int32)) (S.1 63 34)); some S288)) else (if 60 ≤ (S.1 63 34) then (gd (inb (0 : Int32) 5) (let S288 := aset S 89 (upd (S.2.1 89) (Int32.toNatClampNeg (0 : Int32)) (S.1 63 34)); some S288)) else (let S61 := fset S 63 39 (((S.1 63 39) * 1103515245) + 12345); (F_X12_knows N (x2 + 1) S61).bind (fun r_84 => if ((((S61.1 63 39).toUInt32 >>> ((8 : Int32).toUInt32 &&& Int32.toUInt32 31)).toInt32) - ((((S61.1 63 39).toUInt32 >>> ((8 : Int32).toUInt32 &&& Int32.toUInt32 31)).toInt32) / 100) * 100) < r_84.1 then (F_X12_goNight_117 (F_X12_goNight_29 N n) x1 0 (x2 + 1) r_84.2) else ((F_X12_jumpOf N x2 r_84.2).bind (fun r_92 => if 0 ≤ r_92.1 then (if r_92.1 < 0 then (F_X12_goNight_117 (F_X12_goNight_29 N n) x1 1 (x2 + 1) r_92.2) else (F_X12_goNight_117 (F_X12_goNight_29 N n) x1 1 r_92.1 r_92.2)) else (if r_92.1 < 0 then (F_X12_goNight_117 (F_X12_goNight_29 N n) x1 2 (x2 + 1) r_92.2) else (F_X12_goNight_117 (F_X12_goNight_29 N n) x1 2 r_92.1 r_92.2)))))))
set_option maxHeartbeats 4000000 in
set_option maxRecDepth 100000 in
theorem ok_X12_goNight_29 {l : Launch} (d : Nat) (N : Nat) : ∀ (n : Nat) (x1 : Int32) (x2 : Int32) (S : St) (R : St), F_X12_goNight_29 N n x1 x2 S = some R → Go l (d + 5) mX12_goNight (Res none R) 29 [(0, .ref 63), (1, .int x1), (2, .int x2)] [] S := by
  intro n
  induction n with
  | zero => intro x1 x2 S  R hF; cases hF
  | succ n hk29 =>
    intro x1 x2 S  R hF
    have hF : (if ((S.1 63 1) - 1) ≤ x2 then (gd (inb (0 : Int32) 5) (let S288 := aset S 89 (upd (S.2.1 89) (Int32.toNatClampNeg (0 : Int32)) (S.1 63 34)); some S288)) else (if 60 ≤ (S.1 63 34) then (gd (inb (0 : Int32) 5) (let S288 := aset S 89 (upd (S.2.1 89) (Int32.toNatClampNeg (0 : Int32)) (S.1 63 34)); some S288)) else (let S61 := fset S 63 39 (((S.1 63 39) * 1103515245) + 12345); (F_X12_knows N (x2 + 1) S61).bind (fun r_84 => if ((((S61.1 63 39).toUInt32 >>> ((8 : Int32).toUInt32 &&& Int32.toUInt32 31)).toInt32) - ((((S61.1 63 39).toUInt32 >>> ((8 : Int32).toUInt32 &&& Int32.toUInt32 31)).toInt32) / 100) * 100) < r_84.1 then (F_X12_goNight_117 (F_X12_goNight_29 N n) x1 0 (x2 + 1) r_84.2) else ((F_X12_jumpOf N x2 r_84.2).bind (fun r_92 => if 0 ≤ r_92.1 then (if r_92.1 < 0 then (F_X12_goNight_117 (F_X12_goNight_29 N n) x1 1 (x2 + 1) r_92.2) else (F_X12_goNight_117 (F_X12_goNight_29 N n) x1 1 r_92.1 r_92.2)) else (if r_92.1 < 0 then (F_X12_goNight_117 (F_X12_goNight_29 N n) x1 2 (x2 + 1) r_92.2) else (F_X12_goNight_117 (F_X12_goNight_29 N n) x1 2 r_92.1 r_92.2)))))))) = some R := hF
    refine Go.iload_n dX12_goNight_29 rfl ?_
    refine Go.aload_n dX12_goNight_30 rfl ?_
    refine Go.getI dX12_goNight_31 fX12_141 rfl ?_
    refine Go.iconst (v := 1) dX12_goNight_34 (by decide) ?_
    refine Go.isub dX12_goNight_35 ?_
    refine Go.icmpge (tgt := 279) dX12_goNight_36 (by decide) (fun h_36 => ?_) (fun h_36 => ?_)
    · have hF := ite_t h_36 hF
      refine Go.aload_n dX12_goNight_279 rfl ?_
      refine Go.getR dX12_goNight_280 fX12_92 rfl ?_
      refine Go.iconst (v := 0) dX12_goNight_283 (by decide) ?_
      refine Go.aload_n dX12_goNight_284 rfl ?_
      refine Go.getI dX12_goNight_285 fX12_295 rfl ?_
      obtain ⟨hb_288, hF⟩ := gd_some hF
      refine Go.iast dX12_goNight_288 rfl (inb_ok hb_288) ?_
      obtain rfl := Option.some.inj hF
      exact Go.vret (st := []) dX12_goNight_289 rfl ⟨rfl, rfl⟩
    · have hF := ite_f h_36 hF
      refine Go.aload_n dX12_goNight_39 rfl ?_
      refine Go.getI dX12_goNight_40 fX12_295 rfl ?_
      refine Go.bipush (v := 60) dX12_goNight_43 (by decide) ?_
      refine Go.icmpge (tgt := 279) dX12_goNight_45 (by decide) (fun h_45 => ?_) (fun h_45 => ?_)
      · have hF := ite_t h_45 hF
        refine Go.aload_n dX12_goNight_279 rfl ?_
        refine Go.getR dX12_goNight_280 fX12_92 rfl ?_
        refine Go.iconst (v := 0) dX12_goNight_283 (by decide) ?_
        refine Go.aload_n dX12_goNight_284 rfl ?_
        refine Go.getI dX12_goNight_285 fX12_295 rfl ?_
        obtain ⟨hb_288, hF⟩ := gd_some hF
        refine Go.iast dX12_goNight_288 rfl (inb_ok hb_288) ?_
        obtain rfl := Option.some.inj hF
        exact Go.vret (st := []) dX12_goNight_289 rfl ⟨rfl, rfl⟩
      · have hF := ite_f h_45 hF
        refine Go.aload_n dX12_goNight_48 rfl ?_
        refine Go.aload_n dX12_goNight_49 rfl ?_
        refine Go.getI dX12_goNight_50 fX12_298 rfl ?_
        refine Go.ldc_w dX12_goNight_53 qX12_301 ?_
        refine Go.imul dX12_goNight_56 ?_
        refine Go.sipush (v := 12345) dX12_goNight_57 (by decide) ?_
        refine Go.iadd dX12_goNight_60 ?_
        refine Go.putI dX12_goNight_61 fX12_298 rfl ?_
        refine Go.iconst (v := 0) dX12_goNight_64 (by decide) ?_
        refine Go.istore_n (ls' := [(3, _), (0, _), (1, _), (2, _)]) dX12_goNight_65 (by decide) rfl ?_
        refine Go.iload_n dX12_goNight_66 rfl ?_
        refine Go.iconst (v := 1) dX12_goNight_67 (by decide) ?_
        refine Go.iadd dX12_goNight_68 ?_
        refine Go.istore (ls' := [(4, _), (3, _), (0, _), (1, _), (2, _)]) dX12_goNight_69 (by decide) rfl ?_
        refine Go.aload_n dX12_goNight_71 rfl ?_
        refine Go.getI dX12_goNight_72 fX12_298 rfl ?_
        refine Go.bipush (v := 8) dX12_goNight_75 (by decide) ?_
        refine Go.iushr dX12_goNight_77 rfl ?_
        refine Go.bipush (v := 100) dX12_goNight_78 (by decide) ?_
        refine Go.irem dX12_goNight_80 (by decide) ?_
        refine Go.aload_n dX12_goNight_81 rfl ?_
        refine Go.iload dX12_goNight_82 rfl ?_
        obtain ⟨r_84, hc_84, hF⟩ := Option.bind_eq_some_iff.mp hF
        refine Go.callV [_] dX12_goNight_84 kX12_knows vX12_knows lX12_271 rfl rfl rfl rfl rfl (Nat.le_of_ble_eq_true rfl) (Nat.le_of_ble_eq_true rfl) (ok_X12_knows (d + 0) N _ _ _ hc_84) ?_
        refine Go.icmplt (tgt := 117) dX12_goNight_87 (by decide) (fun h_87 => ?_) (fun h_87 => ?_)
        · have hF := ite_t h_87 hF
          refine Go.pick (ls' := [(0, _), (1, _), (3, _), (4, _)]) [2, 3, 1, 0] rfl ?_
          exact ok_X12_goNight_117 d (F_X12_goNight_29 N n) hk29 _ _ _ _ _ hF
        · have hF := ite_f h_87 hF
          refine Go.aload_n dX12_goNight_90 rfl ?_
          refine Go.iload_n dX12_goNight_91 rfl ?_
          obtain ⟨r_92, hc_92, hF⟩ := Option.bind_eq_some_iff.mp hF
          refine Go.callV [_] dX12_goNight_92 kX12_jumpOf vX12_jumpOf lX12_302 rfl rfl rfl rfl rfl (Nat.le_of_ble_eq_true rfl) (Nat.le_of_ble_eq_true rfl) (ok_X12_jumpOf (d + 3) N _ _ _ hc_92) ?_
          refine Go.istore (ls' := [(5, _), (4, _), (3, _), (0, _), (1, _), (2, _)]) dX12_goNight_95 (by decide) rfl ?_
          refine Go.iload dX12_goNight_97 rfl ?_
          refine Go.ifge (tgt := 106) dX12_goNight_99 (by decide) (fun h_99 => ?_) (fun h_99 => ?_)
          · have hF := ite_t h_99 hF
            refine Go.iconst (v := 1) dX12_goNight_106 (by decide) ?_
            refine Go.istore_n (ls' := [(3, _), (5, _), (4, _), (0, _), (1, _), (2, _)]) dX12_goNight_107 (by decide) rfl ?_
            refine Go.iload dX12_goNight_108 rfl ?_
            refine Go.iflt (tgt := 117) dX12_goNight_110 (by decide) (fun h_110 => ?_) (fun h_110 => ?_)
            · have hF := ite_t h_110 hF
              refine Go.pick (ls' := [(0, _), (1, _), (3, _), (4, _)]) [3, 4, 0, 2] rfl ?_
              exact ok_X12_goNight_117 d (F_X12_goNight_29 N n) hk29 _ _ _ _ _ hF
            · have hF := ite_f h_110 hF
              refine Go.iload dX12_goNight_113 rfl ?_
              refine Go.istore (ls' := [(4, _), (3, _), (5, _), (0, _), (1, _), (2, _)]) dX12_goNight_115 (by decide) rfl ?_
              refine Go.pick (ls' := [(0, _), (1, _), (3, _), (4, _)]) [3, 4, 1, 0] rfl ?_
              exact ok_X12_goNight_117 d (F_X12_goNight_29 N n) hk29 _ _ _ _ _ hF
          · have hF := ite_f h_99 hF
            refine Go.iconst (v := 2) dX12_goNight_102 (by decide) ?_
            refine Go.goto (tgt := 107) dX12_goNight_103 (by decide) ?_
            refine Go.istore_n (ls' := [(3, _), (5, _), (4, _), (0, _), (1, _), (2, _)]) dX12_goNight_107 (by decide) rfl ?_
            refine Go.iload dX12_goNight_108 rfl ?_
            refine Go.iflt (tgt := 117) dX12_goNight_110 (by decide) (fun h_110 => ?_) (fun h_110 => ?_)
            · have hF := ite_t h_110 hF
              refine Go.pick (ls' := [(0, _), (1, _), (3, _), (4, _)]) [3, 4, 0, 2] rfl ?_
              exact ok_X12_goNight_117 d (F_X12_goNight_29 N n) hk29 _ _ _ _ _ hF
            · have hF := ite_f h_110 hF
              refine Go.iload dX12_goNight_113 rfl ?_
              refine Go.istore (ls' := [(4, _), (3, _), (5, _), (0, _), (1, _), (2, _)]) dX12_goNight_115 (by decide) rfl ?_
              refine Go.pick (ls' := [(0, _), (1, _), (3, _), (4, _)]) [3, 4, 1, 0] rfl ?_
              exact ok_X12_goNight_117 d (F_X12_goNight_29 N n) hk29 _ _ _ _ _ hF
def F_X12_goNight_7 (N : Nat) : Nat → Int32 → St → Option (St)
  | 0 => fun _ _ => none
  | n + 1 => fun x1 S =>
    if 5 ≤ x1 then (F_X12_goNight_29 N N 0 (-1) S) else (gd (inb x1 5) (let S18 := aset S 89 (upd (S.2.1 89) (Int32.toNatClampNeg x1) (0 : Int32)); (F_X12_goNight_7 N n) (x1 + 1) S18))
set_option maxHeartbeats 4000000 in
set_option maxRecDepth 100000 in
theorem ok_X12_goNight_7 {l : Launch} (d : Nat) (N : Nat) : ∀ (n : Nat) (x1 : Int32) (S : St) (R : St), F_X12_goNight_7 N n x1 S = some R → Go l (d + 5) mX12_goNight (Res none R) 7 [(0, .ref 63), (1, .int x1)] [] S := by
  intro n
  induction n with
  | zero => intro x1 S  R hF; cases hF
  | succ n hk7 =>
    intro x1 S  R hF
    have hF : (if 5 ≤ x1 then (F_X12_goNight_29 N N 0 (-1) S) else (gd (inb x1 5) (let S18 := aset S 89 (upd (S.2.1 89) (Int32.toNatClampNeg x1) (0 : Int32)); (F_X12_goNight_7 N n) (x1 + 1) S18))) = some R := hF
    refine Go.iload_n dX12_goNight_7 rfl ?_
    refine Go.iconst (v := 5) dX12_goNight_8 (by decide) ?_
    refine Go.icmpge (tgt := 25) dX12_goNight_9 (by decide) (fun h_9 => ?_) (fun h_9 => ?_)
    · have hF := ite_t h_9 hF
      refine Go.iconst (v := 0) dX12_goNight_25 (by decide) ?_
      refine Go.istore_n (ls' := [(1, _), (0, _)]) dX12_goNight_26 (by decide) rfl ?_
      refine Go.iconst (v := (-1)) dX12_goNight_27 (by decide) ?_
      refine Go.istore_n (ls' := [(2, _), (1, _), (0, _)]) dX12_goNight_28 (by decide) rfl ?_
      refine Go.pick (ls' := [(0, _), (1, _), (2, _)]) [2, 1, 0] rfl ?_
      exact ok_X12_goNight_29 d N N _ _ _ _ hF
    · have hF := ite_f h_9 hF
      refine Go.aload_n dX12_goNight_12 rfl ?_
      refine Go.getR dX12_goNight_13 fX12_92 rfl ?_
      refine Go.iload_n dX12_goNight_16 rfl ?_
      refine Go.iconst (v := 0) dX12_goNight_17 (by decide) ?_
      obtain ⟨hb_18, hF⟩ := gd_some hF
      refine Go.iast dX12_goNight_18 rfl (inb_ok hb_18) ?_
      refine Go.iincP (ls' := [(1, _), (0, _)]) dX12_goNight_19 rfl (by decide) rfl ?_
      refine Go.goto (tgt := 7) dX12_goNight_22 (by decide) ?_
      refine Go.pick (ls' := [(0, _), (1, _)]) [1, 0] rfl ?_
      exact hk7 _ _ _ hF
def F_X12_goNight (N : Nat) (S : St) : Option (St) :=
  let S2 := fset S 63 34 0; F_X12_goNight_7 N N 0 S2
set_option maxHeartbeats 4000000 in
set_option maxRecDepth 100000 in
theorem ok_X12_goNight {l : Launch} (d : Nat) (N : Nat) (S : St) (R : St) (hF : F_X12_goNight N S = some R) : Go l (d + 5) mX12_goNight (Res none R) 0 [(0, .ref 63)] [] S := by
  unfold F_X12_goNight at hF
  refine Go.aload_n dX12_goNight_0 rfl ?_
  refine Go.iconst (v := 0) dX12_goNight_1 (by decide) ?_
  refine Go.putI dX12_goNight_2 fX12_295 rfl ?_
  refine Go.iconst (v := 0) dX12_goNight_5 (by decide) ?_
  refine Go.istore_n (ls' := [(1, _), (0, _)]) dX12_goNight_6 (by decide) rfl ?_
  refine Go.pick (ls' := [(0, _), (1, _)]) [1, 0] rfl ?_
  exact ok_X12_goNight_7 d N N _ _ _ hF
def F_X12_keepNight_62 : Nat → Int32 → St → Option (St)
  | 0 => fun _ _ => none
  | n + 1 => fun x1 S =>
    if 5 ≤ x1 then (some S) else (gd (inb x1 5) (gd (inb x1 5) (let S78 := aset S 93 (upd (S.2.1 93) (Int32.toNatClampNeg x1) (S.2.1 89 (Int32.toNatClampNeg x1))); (F_X12_keepNight_62 n) (x1 + 1) S78)))
set_option maxHeartbeats 4000000 in
set_option maxRecDepth 100000 in
theorem ok_X12_keepNight_62 {l : Launch} (d : Nat) : ∀ (n : Nat) (x1 : Int32) (S : St) (R : St), F_X12_keepNight_62 n x1 S = some R → Go l (d + 0) mX12_keepNight (Res none R) 62 [(0, .ref 63), (1, .int x1)] [] S := by
  intro n
  induction n with
  | zero => intro x1 S  R hF; cases hF
  | succ n hk62 =>
    intro x1 S  R hF
    have hF : (if 5 ≤ x1 then (some S) else (gd (inb x1 5) (gd (inb x1 5) (let S78 := aset S 93 (upd (S.2.1 93) (Int32.toNatClampNeg x1) (S.2.1 89 (Int32.toNatClampNeg x1))); (F_X12_keepNight_62 n) (x1 + 1) S78)))) = some R := hF
    refine Go.iload_n dX12_keepNight_62 rfl ?_
    refine Go.iconst (v := 5) dX12_keepNight_63 (by decide) ?_
    refine Go.icmpge (tgt := 85) dX12_keepNight_64 (by decide) (fun h_64 => ?_) (fun h_64 => ?_)
    · have hF := ite_t h_64 hF
      obtain rfl := Option.some.inj hF
      exact Go.vret (st := []) dX12_keepNight_85 rfl ⟨rfl, rfl⟩
    · have hF := ite_f h_64 hF
      refine Go.aload_n dX12_keepNight_67 rfl ?_
      refine Go.getR dX12_keepNight_68 fX12_104 rfl ?_
      refine Go.iload_n dX12_keepNight_71 rfl ?_
      refine Go.aload_n dX12_keepNight_72 rfl ?_
      refine Go.getR dX12_keepNight_73 fX12_92 rfl ?_
      refine Go.iload_n dX12_keepNight_76 rfl ?_
      obtain ⟨hb_77, hF⟩ := gd_some hF
      refine Go.iald dX12_keepNight_77 rfl (inb_ok hb_77) ?_
      obtain ⟨hb_78, hF⟩ := gd_some hF
      refine Go.iast dX12_keepNight_78 rfl (inb_ok hb_78) ?_
      refine Go.iincP (ls' := [(1, _), (0, _)]) dX12_keepNight_79 rfl (by decide) rfl ?_
      refine Go.goto (tgt := 62) dX12_keepNight_82 (by decide) ?_
      refine Go.pick (ls' := [(0, _), (1, _)]) [1, 0] rfl ?_
      exact hk62 _ _ _ hF
def F_X12_keepNight_10 (N : Nat) : Nat → Int32 → St → Option (St)
  | 0 => fun _ _ => none
  | n + 1 => fun x1 S =>
    if (S.1 63 34) ≤ x1 then (F_X12_keepNight_62 N 0 S) else (gd (inb x1 60) (gd (inb x1 60) (let S29 := aset S 90 (upd (S.2.1 90) (Int32.toNatClampNeg x1) (S.2.1 86 (Int32.toNatClampNeg x1))); gd (inb x1 60) (gd (inb x1 60) (let S41 := aset S29 91 (upd (S29.2.1 91) (Int32.toNatClampNeg x1) (S29.2.1 87 (Int32.toNatClampNeg x1))); gd (inb x1 60) (gd (inb x1 60) (let S53 := aset S41 92 (upd (S41.2.1 92) (Int32.toNatClampNeg x1) (S41.2.1 88 (Int32.toNatClampNeg x1))); (F_X12_keepNight_10 N n) (x1 + 1) S53)))))))
set_option maxHeartbeats 4000000 in
set_option maxRecDepth 100000 in
theorem ok_X12_keepNight_10 {l : Launch} (d : Nat) (N : Nat) : ∀ (n : Nat) (x1 : Int32) (S : St) (R : St), F_X12_keepNight_10 N n x1 S = some R → Go l (d + 0) mX12_keepNight (Res none R) 10 [(0, .ref 63), (1, .int x1)] [] S := by
  intro n
  induction n with
  | zero => intro x1 S  R hF; cases hF
  | succ n hk10 =>
    intro x1 S  R hF
    have hF : (if (S.1 63 34) ≤ x1 then (F_X12_keepNight_62 N 0 S) else (gd (inb x1 60) (gd (inb x1 60) (let S29 := aset S 90 (upd (S.2.1 90) (Int32.toNatClampNeg x1) (S.2.1 86 (Int32.toNatClampNeg x1))); gd (inb x1 60) (gd (inb x1 60) (let S41 := aset S29 91 (upd (S29.2.1 91) (Int32.toNatClampNeg x1) (S29.2.1 87 (Int32.toNatClampNeg x1))); gd (inb x1 60) (gd (inb x1 60) (let S53 := aset S41 92 (upd (S41.2.1 92) (Int32.toNatClampNeg x1) (S41.2.1 88 (Int32.toNatClampNeg x1))); (F_X12_keepNight_10 N n) (x1 + 1) S53)))))))) = some R := hF
    refine Go.iload_n dX12_keepNight_10 rfl ?_
    refine Go.aload_n dX12_keepNight_11 rfl ?_
    refine Go.getI dX12_keepNight_12 fX12_295 rfl ?_
    refine Go.icmpge (tgt := 60) dX12_keepNight_15 (by decide) (fun h_15 => ?_) (fun h_15 => ?_)
    · have hF := ite_t h_15 hF
      refine Go.iconst (v := 0) dX12_keepNight_60 (by decide) ?_
      refine Go.istore_n (ls' := [(1, _), (0, _)]) dX12_keepNight_61 (by decide) rfl ?_
      refine Go.pick (ls' := [(0, _), (1, _)]) [1, 0] rfl ?_
      exact ok_X12_keepNight_62 d N _ _ _ hF
    · have hF := ite_f h_15 hF
      refine Go.aload_n dX12_keepNight_18 rfl ?_
      refine Go.getR dX12_keepNight_19 fX12_95 rfl ?_
      refine Go.iload_n dX12_keepNight_22 rfl ?_
      refine Go.aload_n dX12_keepNight_23 rfl ?_
      refine Go.getR dX12_keepNight_24 fX12_83 rfl ?_
      refine Go.iload_n dX12_keepNight_27 rfl ?_
      obtain ⟨hb_28, hF⟩ := gd_some hF
      refine Go.iald dX12_keepNight_28 rfl (inb_ok hb_28) ?_
      obtain ⟨hb_29, hF⟩ := gd_some hF
      refine Go.iast dX12_keepNight_29 rfl (inb_ok hb_29) ?_
      refine Go.aload_n dX12_keepNight_30 rfl ?_
      refine Go.getR dX12_keepNight_31 fX12_98 rfl ?_
      refine Go.iload_n dX12_keepNight_34 rfl ?_
      refine Go.aload_n dX12_keepNight_35 rfl ?_
      refine Go.getR dX12_keepNight_36 fX12_86 rfl ?_
      refine Go.iload_n dX12_keepNight_39 rfl ?_
      obtain ⟨hb_40, hF⟩ := gd_some hF
      refine Go.iald dX12_keepNight_40 rfl (inb_ok hb_40) ?_
      obtain ⟨hb_41, hF⟩ := gd_some hF
      refine Go.iast dX12_keepNight_41 rfl (inb_ok hb_41) ?_
      refine Go.aload_n dX12_keepNight_42 rfl ?_
      refine Go.getR dX12_keepNight_43 fX12_101 rfl ?_
      refine Go.iload_n dX12_keepNight_46 rfl ?_
      refine Go.aload_n dX12_keepNight_47 rfl ?_
      refine Go.getR dX12_keepNight_48 fX12_89 rfl ?_
      refine Go.iload_n dX12_keepNight_51 rfl ?_
      obtain ⟨hb_52, hF⟩ := gd_some hF
      refine Go.iald dX12_keepNight_52 rfl (inb_ok hb_52) ?_
      obtain ⟨hb_53, hF⟩ := gd_some hF
      refine Go.iast dX12_keepNight_53 rfl (inb_ok hb_53) ?_
      refine Go.iincP (ls' := [(1, _), (0, _)]) dX12_keepNight_54 rfl (by decide) rfl ?_
      refine Go.goto (tgt := 10) dX12_keepNight_57 (by decide) ?_
      refine Go.pick (ls' := [(0, _), (1, _)]) [1, 0] rfl ?_
      exact hk10 _ _ _ hF
def F_X12_keepNight (N : Nat) (S : St) : Option (St) :=
  let S5 := fset S 63 40 (S.1 63 34); F_X12_keepNight_10 N N 0 S5
set_option maxHeartbeats 4000000 in
set_option maxRecDepth 100000 in
theorem ok_X12_keepNight {l : Launch} (d : Nat) (N : Nat) (S : St) (R : St) (hF : F_X12_keepNight N S = some R) : Go l (d + 0) mX12_keepNight (Res none R) 0 [(0, .ref 63)] [] S := by
  unfold F_X12_keepNight at hF
  refine Go.aload_n dX12_keepNight_0 rfl ?_
  refine Go.aload_n dX12_keepNight_1 rfl ?_
  refine Go.getI dX12_keepNight_2 fX12_295 rfl ?_
  refine Go.putI dX12_keepNight_5 fX12_315 rfl ?_
  refine Go.iconst (v := 0) dX12_keepNight_8 (by decide) ?_
  refine Go.istore_n (ls' := [(1, _), (0, _)]) dX12_keepNight_9 (by decide) rfl ?_
  refine Go.pick (ls' := [(0, _), (1, _)]) [1, 0] rfl ?_
  exact ok_X12_keepNight_10 d N N _ _ _ hF
def F_X12_night (N : Nat) (x1 : Int32) (S : St) : Option (Int32 × St) :=
  if (S.1 63 1) = 0 then (some ((-5), S)) else (let S12 := fset S 63 39 x1; (F_X12_goNight N S12).bind (fun r_16 => let S21 := fset r_16 63 33 1; (F_X12_keepNight N S21).bind (fun r_25 => some (r_25.1 63 34, r_25))))
set_option maxHeartbeats 4000000 in
set_option maxRecDepth 100000 in
theorem ok_X12_night {l : Launch} (d : Nat) (N : Nat) (x1 : Int32) (S : St) (R : Int32 × St) (hF : F_X12_night N x1 S = some R) : Go l (d + 6) mX12_night (Res (some (.int R.1)) R.2) 0 [(0, .ref 63), (1, .int x1)] [] S := by
  unfold F_X12_night at hF
  refine Go.aload_n dX12_night_0 rfl ?_
  refine Go.getI dX12_night_1 fX12_141 rfl ?_
  refine Go.ifne (tgt := 10) dX12_night_4 (by decide) (fun h_4 => ?_) (fun h_4 => ?_)
  · have hF := ite_f h_4 hF
    refine Go.aload_n dX12_night_10 rfl ?_
    refine Go.iload_n dX12_night_11 rfl ?_
    refine Go.putI dX12_night_12 fX12_298 rfl ?_
    refine Go.aload_n dX12_night_15 rfl ?_
    obtain ⟨r_16, hc_16, hF⟩ := Option.bind_eq_some_iff.mp hF
    refine Go.callV [] dX12_night_16 kX12_goNight vX12_goNight lX12_305 rfl rfl rfl rfl rfl (Nat.le_of_ble_eq_true rfl) (Nat.le_of_ble_eq_true rfl) (ok_X12_goNight (d + 0) N _ _ hc_16) ?_
    refine Go.aload_n dX12_night_19 rfl ?_
    refine Go.iconst (v := 1) dX12_night_20 (by decide) ?_
    refine Go.putG dX12_night_21 fX12_308 rfl rfl rfl ?_
    refine Go.aload_n dX12_night_24 rfl ?_
    obtain ⟨r_25, hc_25, hF⟩ := Option.bind_eq_some_iff.mp hF
    refine Go.callV [] dX12_night_25 kX12_keepNight vX12_keepNight lX12_312 rfl rfl rfl rfl rfl (Nat.le_of_ble_eq_true rfl) (Nat.le_of_ble_eq_true rfl) (ok_X12_keepNight (d + 5) N _ _ hc_25) ?_
    refine Go.aload_n dX12_night_28 rfl ?_
    refine Go.getI dX12_night_29 fX12_295 rfl ?_
    obtain rfl := Option.some.inj hF
    exact Go.iret (st := []) dX12_night_32 rfl rfl ⟨rfl, rfl⟩
  · have hF := ite_t h_4 hF
    refine Go.bipush (v := (-5)) dX12_night_7 (by decide) ?_
    obtain rfl := Option.some.inj hF
    exact Go.iret (st := []) dX12_night_9 rfl rfl ⟨rfl, rfl⟩
def F_X12_told (x1 : Int32) (S : St) : Option (Int32 × St) :=
  (F_X12_in x1 (0 : Int32) (4 : Int32) S).bind (fun r_3 => if r_3.1 = 0 then (some ((-1), r_3.2)) else (if (r_3.2.1 63 33) = 0 then (some ((-5), r_3.2)) else (gd (inb x1 5) (some (r_3.2.2.1 93 (Int32.toNatClampNeg x1), r_3.2)))))
set_option maxHeartbeats 4000000 in
set_option maxRecDepth 100000 in
theorem ok_X12_told {l : Launch} (d : Nat) (x1 : Int32) (S : St) (R : Int32 × St) (hF : F_X12_told x1 S = some R) : Go l (d + 1) mX12_told (Res (some (.int R.1)) R.2) 0 [(0, .ref 63), (1, .int x1)] [] S := by
  unfold F_X12_told at hF
  refine Go.iload_n dX12_told_0 rfl ?_
  refine Go.iconst (v := 0) dX12_told_1 (by decide) ?_
  refine Go.iconst (v := 4) dX12_told_2 (by decide) ?_
  obtain ⟨r_3, hc_3, hF⟩ := Option.bind_eq_some_iff.mp hF
  refine Go.callS [_, _, _] dX12_told_3 kX12_in sX12_in lX12_144 rfl rfl (Nat.le_of_ble_eq_true rfl) (Nat.le_of_ble_eq_true rfl) (ok_X12_in (d + 0) _ _ _ _ _ hc_3) ?_
  refine Go.ifne (tgt := 11) dX12_told_6 (by decide) (fun h_6 => ?_) (fun h_6 => ?_)
  · have hF := ite_f h_6 hF
    refine Go.aload_n dX12_told_11 rfl ?_
    refine Go.getI dX12_told_12 fX12_308 rfl ?_
    refine Go.ifeq (tgt := 27) dX12_told_15 (by decide) (fun h_15 => ?_) (fun h_15 => ?_)
    · have hF := ite_t h_15 hF
      refine Go.bipush (v := (-5)) dX12_told_27 (by decide) ?_
      obtain rfl := Option.some.inj hF
      exact Go.iret (st := []) dX12_told_29 rfl rfl ⟨rfl, rfl⟩
    · have hF := ite_f h_15 hF
      refine Go.aload_n dX12_told_18 rfl ?_
      refine Go.getR dX12_told_19 fX12_104 rfl ?_
      refine Go.iload_n dX12_told_22 rfl ?_
      obtain ⟨hb_23, hF⟩ := gd_some hF
      refine Go.iald dX12_told_23 rfl (inb_ok hb_23) ?_
      refine Go.goto (tgt := 29) dX12_told_24 (by decide) ?_
      obtain rfl := Option.some.inj hF
      exact Go.iret (st := []) dX12_told_29 rfl rfl ⟨rfl, rfl⟩
  · have hF := ite_t h_6 hF
    refine Go.iconst (v := (-1)) dX12_told_9 (by decide) ?_
    obtain rfl := Option.some.inj hF
    exact Go.iret (st := []) dX12_told_10 rfl rfl ⟨rfl, rfl⟩
def F_X12_said (x1 : Int32) (x2 : Int32) (S : St) : Option (Int32 × St) :=
  if x1 < 0 then (some ((-1), S)) else ((F_X12_in x2 (0 : Int32) (2 : Int32) S).bind (fun r_7 => if r_7.1 = 0 then (some ((-1), r_7.2)) else (if (r_7.2.1 63 33) = 0 then (some ((-5), r_7.2)) else (if x1 < (r_7.2.1 63 40) then (if x2 = 0 then (gd (inb x1 60) (some (r_7.2.2.1 90 (Int32.toNatClampNeg x1), r_7.2))) else (if x2 = 1 then (gd (inb x1 60) (some (r_7.2.2.1 91 (Int32.toNatClampNeg x1), r_7.2))) else (gd (inb x1 60) (some (r_7.2.2.1 92 (Int32.toNatClampNeg x1), r_7.2))))) else (some ((-1), r_7.2))))))
set_option maxHeartbeats 4000000 in
set_option maxRecDepth 100000 in
theorem ok_X12_said {l : Launch} (d : Nat) (x1 : Int32) (x2 : Int32) (S : St) (R : Int32 × St) (hF : F_X12_said x1 x2 S = some R) : Go l (d + 1) mX12_said (Res (some (.int R.1)) R.2) 0 [(0, .ref 63), (1, .int x1), (2, .int x2)] [] S := by
  unfold F_X12_said at hF
  refine Go.iload_n dX12_said_0 rfl ?_
  refine Go.iflt (tgt := 13) dX12_said_1 (by decide) (fun h_1 => ?_) (fun h_1 => ?_)
  · have hF := ite_t h_1 hF
    refine Go.iconst (v := (-1)) dX12_said_13 (by decide) ?_
    obtain rfl := Option.some.inj hF
    exact Go.iret (st := []) dX12_said_14 rfl rfl ⟨rfl, rfl⟩
  · have hF := ite_f h_1 hF
    refine Go.iload_n dX12_said_4 rfl ?_
    refine Go.iconst (v := 0) dX12_said_5 (by decide) ?_
    refine Go.iconst (v := 2) dX12_said_6 (by decide) ?_
    obtain ⟨r_7, hc_7, hF⟩ := Option.bind_eq_some_iff.mp hF
    refine Go.callS [_, _, _] dX12_said_7 kX12_in sX12_in lX12_144 rfl rfl (Nat.le_of_ble_eq_true rfl) (Nat.le_of_ble_eq_true rfl) (ok_X12_in (d + 0) _ _ _ _ _ hc_7) ?_
    refine Go.ifne (tgt := 15) dX12_said_10 (by decide) (fun h_10 => ?_) (fun h_10 => ?_)
    · have hF := ite_f h_10 hF
      refine Go.aload_n dX12_said_15 rfl ?_
      refine Go.getI dX12_said_16 fX12_308 rfl ?_
      refine Go.ifne (tgt := 25) dX12_said_19 (by decide) (fun h_19 => ?_) (fun h_19 => ?_)
      · have hF := ite_f h_19 hF
        refine Go.iload_n dX12_said_25 rfl ?_
        refine Go.aload_n dX12_said_26 rfl ?_
        refine Go.getI dX12_said_27 fX12_315 rfl ?_
        refine Go.icmplt (tgt := 35) dX12_said_30 (by decide) (fun h_30 => ?_) (fun h_30 => ?_)
        · have hF := ite_t h_30 hF
          refine Go.iload_n dX12_said_35 rfl ?_
          refine Go.ifne (tgt := 48) dX12_said_36 (by decide) (fun h_36 => ?_) (fun h_36 => ?_)
          · have hF := ite_f h_36 hF
            refine Go.iload_n dX12_said_48 rfl ?_
            refine Go.iconst (v := 1) dX12_said_49 (by decide) ?_
            refine Go.icmpne (tgt := 62) dX12_said_50 (by decide) (fun h_50 => ?_) (fun h_50 => ?_)
            · have hF := ite_f h_50 hF
              refine Go.aload_n dX12_said_62 rfl ?_
              refine Go.getR dX12_said_63 fX12_101 rfl ?_
              refine Go.iload_n dX12_said_66 rfl ?_
              obtain ⟨hb_67, hF⟩ := gd_some hF
              refine Go.iald dX12_said_67 rfl (inb_ok hb_67) ?_
              obtain rfl := Option.some.inj hF
              exact Go.iret (st := []) dX12_said_68 rfl rfl ⟨rfl, rfl⟩
            · have hF := ite_t h_50 hF
              refine Go.aload_n dX12_said_53 rfl ?_
              refine Go.getR dX12_said_54 fX12_98 rfl ?_
              refine Go.iload_n dX12_said_57 rfl ?_
              obtain ⟨hb_58, hF⟩ := gd_some hF
              refine Go.iald dX12_said_58 rfl (inb_ok hb_58) ?_
              refine Go.goto (tgt := 68) dX12_said_59 (by decide) ?_
              obtain rfl := Option.some.inj hF
              exact Go.iret (st := []) dX12_said_68 rfl rfl ⟨rfl, rfl⟩
          · have hF := ite_t h_36 hF
            refine Go.aload_n dX12_said_39 rfl ?_
            refine Go.getR dX12_said_40 fX12_95 rfl ?_
            refine Go.iload_n dX12_said_43 rfl ?_
            obtain ⟨hb_44, hF⟩ := gd_some hF
            refine Go.iald dX12_said_44 rfl (inb_ok hb_44) ?_
            refine Go.goto (tgt := 68) dX12_said_45 (by decide) ?_
            obtain rfl := Option.some.inj hF
            exact Go.iret (st := []) dX12_said_68 rfl rfl ⟨rfl, rfl⟩
        · have hF := ite_f h_30 hF
          refine Go.iconst (v := (-1)) dX12_said_33 (by decide) ?_
          obtain rfl := Option.some.inj hF
          exact Go.iret (st := []) dX12_said_34 rfl rfl ⟨rfl, rfl⟩
      · have hF := ite_t h_19 hF
        refine Go.bipush (v := (-5)) dX12_said_22 (by decide) ?_
        obtain rfl := Option.some.inj hF
        exact Go.iret (st := []) dX12_said_24 rfl rfl ⟨rfl, rfl⟩
    · have hF := ite_t h_10 hF
      refine Go.iconst (v := (-1)) dX12_said_13 (by decide) ?_
      obtain rfl := Option.some.inj hF
      exact Go.iret (st := []) dX12_said_14 rfl rfl ⟨rfl, rfl⟩
def F_X12_mean_42 (N : Nat) : Nat → Int32 → Int32 → Int32 → Int32 → St → Option (Int32 × St)
  | 0 => fun _ _ _ _ _ => none
  | n + 1 => fun x2 x3 x4 x5 S =>
    if x2 ≤ x5 then (gd (decide (¬ x2 = 0)) (some (x4 / x2, S))) else ((F_X12_goNight N S).bind (fun r_49 => gd (inb x3 5) ((F_X12_mean_42 N n) x2 x3 (x4 + (r_49.2.1 89 (Int32.toNatClampNeg x3))) (x5 + 1) r_49)))
set_option maxHeartbeats 4000000 in
set_option maxRecDepth 100000 in
theorem ok_X12_mean_42 {l : Launch} (d : Nat) (N : Nat) : ∀ (n : Nat) (x2 : Int32) (x3 : Int32) (x4 : Int32) (x5 : Int32) (S : St) (R : Int32 × St), F_X12_mean_42 N n x2 x3 x4 x5 S = some R → Go l (d + 6) mX12_mean (Res (some (.int R.1)) R.2) 42 [(0, .ref 63), (2, .int x2), (3, .int x3), (4, .int x4), (5, .int x5)] [] S := by
  intro n
  induction n with
  | zero => intro x2 x3 x4 x5 S  R hF; cases hF
  | succ n hk42 =>
    intro x2 x3 x4 x5 S  R hF
    have hF : (if x2 ≤ x5 then (gd (decide (¬ x2 = 0)) (some (x4 / x2, S))) else ((F_X12_goNight N S).bind (fun r_49 => gd (inb x3 5) ((F_X12_mean_42 N n) x2 x3 (x4 + (r_49.2.1 89 (Int32.toNatClampNeg x3))) (x5 + 1) r_49)))) = some R := hF
    refine Go.iload dX12_mean_42 rfl ?_
    refine Go.iload_n dX12_mean_44 rfl ?_
    refine Go.icmpge (tgt := 69) dX12_mean_45 (by decide) (fun h_45 => ?_) (fun h_45 => ?_)
    · have hF := ite_t h_45 hF
      refine Go.iload dX12_mean_69 rfl ?_
      refine Go.iload_n dX12_mean_71 rfl ?_
      obtain ⟨hb_72, hF⟩ := gd_some hF
      refine Go.idiv dX12_mean_72 (of_decide_eq_true hb_72) ?_
      obtain rfl := Option.some.inj hF
      exact Go.iret (st := []) dX12_mean_73 rfl rfl ⟨rfl, rfl⟩
    · have hF := ite_f h_45 hF
      refine Go.aload_n dX12_mean_48 rfl ?_
      obtain ⟨r_49, hc_49, hF⟩ := Option.bind_eq_some_iff.mp hF
      refine Go.callV [] dX12_mean_49 kX12_goNight vX12_goNight lX12_305 rfl rfl rfl rfl rfl (Nat.le_of_ble_eq_true rfl) (Nat.le_of_ble_eq_true rfl) (ok_X12_goNight (d + 0) N _ _ hc_49) ?_
      refine Go.iload dX12_mean_52 rfl ?_
      refine Go.aload_n dX12_mean_54 rfl ?_
      refine Go.getR dX12_mean_55 fX12_92 rfl ?_
      refine Go.iload_n dX12_mean_58 rfl ?_
      obtain ⟨hb_59, hF⟩ := gd_some hF
      refine Go.iald dX12_mean_59 rfl (inb_ok hb_59) ?_
      refine Go.iadd dX12_mean_60 ?_
      refine Go.istore (ls' := [(4, _), (0, _), (2, _), (3, _), (5, _)]) dX12_mean_61 (by decide) rfl ?_
      refine Go.iincP (ls' := [(5, _), (4, _), (0, _), (2, _), (3, _)]) dX12_mean_63 rfl (by decide) rfl ?_
      refine Go.goto (tgt := 42) dX12_mean_66 (by decide) ?_
      refine Go.pick (ls' := [(0, _), (2, _), (3, _), (4, _), (5, _)]) [2, 3, 4, 1, 0] rfl ?_
      exact hk42 _ _ _ _ _ _ hF
def F_X12_mean (N : Nat) (x1 : Int32) (x2 : Int32) (x3 : Int32) (S : St) : Option (Int32 × St) :=
  (F_X12_in x2 (1 : Int32) (20 : Int32) S).bind (fun r_4 => if r_4.1 = 0 then (some ((-1), r_4.2)) else ((F_X12_in x3 (0 : Int32) (4 : Int32) r_4.2).bind (fun r_13 => if r_13.1 = 0 then (some ((-1), r_13.2)) else (if (r_13.2.1 63 1) = 0 then (some ((-5), r_13.2)) else (let S33 := fset r_13.2 63 39 x1; F_X12_mean_42 N N x2 x3 0 0 S33)))))
set_option maxHeartbeats 4000000 in
set_option maxRecDepth 100000 in
theorem ok_X12_mean {l : Launch} (d : Nat) (N : Nat) (x1 : Int32) (x2 : Int32) (x3 : Int32) (S : St) (R : Int32 × St) (hF : F_X12_mean N x1 x2 x3 S = some R) : Go l (d + 6) mX12_mean (Res (some (.int R.1)) R.2) 0 [(0, .ref 63), (1, .int x1), (2, .int x2), (3, .int x3)] [] S := by
  unfold F_X12_mean at hF
  refine Go.iload_n dX12_mean_0 rfl ?_
  refine Go.iconst (v := 1) dX12_mean_1 (by decide) ?_
  refine Go.bipush (v := 20) dX12_mean_2 (by decide) ?_
  obtain ⟨r_4, hc_4, hF⟩ := Option.bind_eq_some_iff.mp hF
  refine Go.callS [_, _, _] dX12_mean_4 kX12_in sX12_in lX12_144 rfl rfl (Nat.le_of_ble_eq_true rfl) (Nat.le_of_ble_eq_true rfl) (ok_X12_in (d + 5) _ _ _ _ _ hc_4) ?_
  refine Go.ifeq (tgt := 19) dX12_mean_7 (by decide) (fun h_7 => ?_) (fun h_7 => ?_)
  · have hF := ite_t h_7 hF
    refine Go.iconst (v := (-1)) dX12_mean_19 (by decide) ?_
    obtain rfl := Option.some.inj hF
    exact Go.iret (st := []) dX12_mean_20 rfl rfl ⟨rfl, rfl⟩
  · have hF := ite_f h_7 hF
    refine Go.iload_n dX12_mean_10 rfl ?_
    refine Go.iconst (v := 0) dX12_mean_11 (by decide) ?_
    refine Go.iconst (v := 4) dX12_mean_12 (by decide) ?_
    obtain ⟨r_13, hc_13, hF⟩ := Option.bind_eq_some_iff.mp hF
    refine Go.callS [_, _, _] dX12_mean_13 kX12_in sX12_in lX12_144 rfl rfl (Nat.le_of_ble_eq_true rfl) (Nat.le_of_ble_eq_true rfl) (ok_X12_in (d + 5) _ _ _ _ _ hc_13) ?_
    refine Go.ifne (tgt := 21) dX12_mean_16 (by decide) (fun h_16 => ?_) (fun h_16 => ?_)
    · have hF := ite_f h_16 hF
      refine Go.aload_n dX12_mean_21 rfl ?_
      refine Go.getI dX12_mean_22 fX12_141 rfl ?_
      refine Go.ifne (tgt := 31) dX12_mean_25 (by decide) (fun h_25 => ?_) (fun h_25 => ?_)
      · have hF := ite_f h_25 hF
        refine Go.aload_n dX12_mean_31 rfl ?_
        refine Go.iload_n dX12_mean_32 rfl ?_
        refine Go.putI dX12_mean_33 fX12_298 rfl ?_
        refine Go.iconst (v := 0) dX12_mean_36 (by decide) ?_
        refine Go.istore (ls' := [(4, _), (0, _), (1, _), (2, _), (3, _)]) dX12_mean_37 (by decide) rfl ?_
        refine Go.iconst (v := 0) dX12_mean_39 (by decide) ?_
        refine Go.istore (ls' := [(5, _), (4, _), (0, _), (1, _), (2, _), (3, _)]) dX12_mean_40 (by decide) rfl ?_
        refine Go.pick (ls' := [(0, _), (2, _), (3, _), (4, _), (5, _)]) [2, 4, 5, 1, 0] rfl ?_
        exact ok_X12_mean_42 d N N _ _ _ _ _ _ hF
      · have hF := ite_t h_25 hF
        refine Go.bipush (v := (-5)) dX12_mean_28 (by decide) ?_
        obtain rfl := Option.some.inj hF
        exact Go.iret (st := []) dX12_mean_30 rfl rfl ⟨rfl, rfl⟩
    · have hF := ite_t h_16 hF
      refine Go.iconst (v := (-1)) dX12_mean_19 (by decide) ?_
      obtain rfl := Option.some.inj hF
      exact Go.iret (st := []) dX12_mean_20 rfl rfl ⟨rfl, rfl⟩
def F_X12_wrongOn_4 : Nat → Int32 → Int32 → Int32 → St → Option (Int32 × St)
  | 0 => fun _ _ _ _ => none
  | n + 1 => fun x1 x2 x3 S =>
    gd (inb x1 6) (if (S.2.1 101 (Int32.toNatClampNeg x1)) ≤ x3 then (some ((-1), S)) else (gd (inb ((60 * x1) + x3) 360) ((F_X12_isLine (Int64.toInt32 (S.2.2 102 (Int32.toNatClampNeg ((60 * x1) + x3)))) S).bind (fun r_31 => if r_31.1 = 0 then (some (x3, r_31.2)) else (if (Int64.toInt32 (S.2.2 102 (Int32.toNatClampNeg ((60 * x1) + x3)))) = (x2 + 1) then ((F_X12_wrongOn_4 n) x1 (Int64.toInt32 (S.2.2 102 (Int32.toNatClampNeg ((60 * x1) + x3)))) (x3 + 1) r_31.2) else (if x2 < 0 then (some (x3, r_31.2)) else ((F_X12_isJump x2 (Int64.toInt32 (S.2.2 102 (Int32.toNatClampNeg ((60 * x1) + x3)))) r_31.2).bind (fun r_53 => if r_53.1 = 0 then (some (x3, r_53.2)) else ((F_X12_wrongOn_4 n) x1 (Int64.toInt32 (S.2.2 102 (Int32.toNatClampNeg ((60 * x1) + x3)))) (x3 + 1) r_53.2)))))))))
set_option maxHeartbeats 4000000 in
set_option maxRecDepth 100000 in
theorem ok_X12_wrongOn_4 {l : Launch} (d : Nat) : ∀ (n : Nat) (x1 : Int32) (x2 : Int32) (x3 : Int32) (S : St) (R : Int32 × St), F_X12_wrongOn_4 n x1 x2 x3 S = some R → Go l (d + 2) mX12_wrongOn (Res (some (.int R.1)) R.2) 4 [(0, .ref 63), (1, .int x1), (2, .int x2), (3, .int x3)] [] S := by
  intro n
  induction n with
  | zero => intro x1 x2 x3 S  R hF; cases hF
  | succ n hk4 =>
    intro x1 x2 x3 S  R hF
    have hF : (gd (inb x1 6) (if (S.2.1 101 (Int32.toNatClampNeg x1)) ≤ x3 then (some ((-1), S)) else (gd (inb ((60 * x1) + x3) 360) ((F_X12_isLine (Int64.toInt32 (S.2.2 102 (Int32.toNatClampNeg ((60 * x1) + x3)))) S).bind (fun r_31 => if r_31.1 = 0 then (some (x3, r_31.2)) else (if (Int64.toInt32 (S.2.2 102 (Int32.toNatClampNeg ((60 * x1) + x3)))) = (x2 + 1) then ((F_X12_wrongOn_4 n) x1 (Int64.toInt32 (S.2.2 102 (Int32.toNatClampNeg ((60 * x1) + x3)))) (x3 + 1) r_31.2) else (if x2 < 0 then (some (x3, r_31.2)) else ((F_X12_isJump x2 (Int64.toInt32 (S.2.2 102 (Int32.toNatClampNeg ((60 * x1) + x3)))) r_31.2).bind (fun r_53 => if r_53.1 = 0 then (some (x3, r_53.2)) else ((F_X12_wrongOn_4 n) x1 (Int64.toInt32 (S.2.2 102 (Int32.toNatClampNeg ((60 * x1) + x3)))) (x3 + 1) r_53.2)))))))))) = some R := hF
    refine Go.iload_n dX12_wrongOn_4 rfl ?_
    refine Go.aload_n dX12_wrongOn_5 rfl ?_
    refine Go.getR dX12_wrongOn_6 fX12_128 rfl ?_
    refine Go.iload_n dX12_wrongOn_9 rfl ?_
    obtain ⟨hb_10, hF⟩ := gd_some hF
    refine Go.iald dX12_wrongOn_10 rfl (inb_ok hb_10) ?_
    refine Go.icmpge (tgt := 70) dX12_wrongOn_11 (by decide) (fun h_11 => ?_) (fun h_11 => ?_)
    · have hF := ite_t h_11 hF
      refine Go.iconst (v := (-1)) dX12_wrongOn_70 (by decide) ?_
      obtain rfl := Option.some.inj hF
      exact Go.iret (st := []) dX12_wrongOn_71 rfl rfl ⟨rfl, rfl⟩
    · have hF := ite_f h_11 hF
      refine Go.aload_n dX12_wrongOn_14 rfl ?_
      refine Go.getR dX12_wrongOn_15 fX12_131 rfl ?_
      refine Go.bipush (v := 60) dX12_wrongOn_18 (by decide) ?_
      refine Go.iload_n dX12_wrongOn_20 rfl ?_
      refine Go.imul dX12_wrongOn_21 ?_
      refine Go.iload_n dX12_wrongOn_22 rfl ?_
      refine Go.iadd dX12_wrongOn_23 ?_
      obtain ⟨hb_24, hF⟩ := gd_some hF
      refine Go.lald dX12_wrongOn_24 rfl (inb_ok hb_24) ?_
      refine Go.l2i dX12_wrongOn_25 rfl ?_
      refine Go.istore (ls' := [(4, _), (0, _), (1, _), (2, _), (3, _)]) dX12_wrongOn_26 (by decide) rfl ?_
      refine Go.aload_n dX12_wrongOn_28 rfl ?_
      refine Go.iload dX12_wrongOn_29 rfl ?_
      obtain ⟨r_31, hc_31, hF⟩ := Option.bind_eq_some_iff.mp hF
      refine Go.callV [_] dX12_wrongOn_31 kX12_isLine vX12_isLine lX12_178 rfl rfl rfl rfl rfl (Nat.le_of_ble_eq_true rfl) (Nat.le_of_ble_eq_true rfl) (ok_X12_isLine (d + 0) _ _ _ hc_31) ?_
      refine Go.ifeq (tgt := 59) dX12_wrongOn_34 (by decide) (fun h_34 => ?_) (fun h_34 => ?_)
      · have hF := ite_t h_34 hF
        refine Go.iload_n dX12_wrongOn_59 rfl ?_
        obtain rfl := Option.some.inj hF
        exact Go.iret (st := []) dX12_wrongOn_60 rfl rfl ⟨rfl, rfl⟩
      · have hF := ite_f h_34 hF
        refine Go.iload dX12_wrongOn_37 rfl ?_
        refine Go.iload_n dX12_wrongOn_39 rfl ?_
        refine Go.iconst (v := 1) dX12_wrongOn_40 (by decide) ?_
        refine Go.iadd dX12_wrongOn_41 ?_
        refine Go.icmpeq (tgt := 61) dX12_wrongOn_42 (by decide) (fun h_42 => ?_) (fun h_42 => ?_)
        · have hF := ite_t h_42 hF
          refine Go.iload dX12_wrongOn_61 rfl ?_
          refine Go.istore_n (ls' := [(2, _), (4, _), (0, _), (1, _), (3, _)]) dX12_wrongOn_63 (by decide) rfl ?_
          refine Go.iincP (ls' := [(3, _), (2, _), (4, _), (0, _), (1, _)]) dX12_wrongOn_64 rfl (by decide) rfl ?_
          refine Go.goto (tgt := 4) dX12_wrongOn_67 (by decide) ?_
          refine Go.pick (ls' := [(0, _), (1, _), (2, _), (3, _)]) [3, 4, 1, 0] rfl ?_
          exact hk4 _ _ _ _ _ hF
        · have hF := ite_f h_42 hF
          refine Go.iload_n dX12_wrongOn_45 rfl ?_
          refine Go.iflt (tgt := 59) dX12_wrongOn_46 (by decide) (fun h_46 => ?_) (fun h_46 => ?_)
          · have hF := ite_t h_46 hF
            refine Go.iload_n dX12_wrongOn_59 rfl ?_
            obtain rfl := Option.some.inj hF
            exact Go.iret (st := []) dX12_wrongOn_60 rfl rfl ⟨rfl, rfl⟩
          · have hF := ite_f h_46 hF
            refine Go.aload_n dX12_wrongOn_49 rfl ?_
            refine Go.iload_n dX12_wrongOn_50 rfl ?_
            refine Go.iload dX12_wrongOn_51 rfl ?_
            obtain ⟨r_53, hc_53, hF⟩ := Option.bind_eq_some_iff.mp hF
            refine Go.callV [_, _] dX12_wrongOn_53 kX12_isJump vX12_isJump lX12_264 rfl rfl rfl rfl rfl (Nat.le_of_ble_eq_true rfl) (Nat.le_of_ble_eq_true rfl) (ok_X12_isJump (d + 1) _ _ _ _ hc_53) ?_
            refine Go.ifne (tgt := 61) dX12_wrongOn_56 (by decide) (fun h_56 => ?_) (fun h_56 => ?_)
            · have hF := ite_f h_56 hF
              refine Go.iload dX12_wrongOn_61 rfl ?_
              refine Go.istore_n (ls' := [(2, _), (4, _), (0, _), (1, _), (3, _)]) dX12_wrongOn_63 (by decide) rfl ?_
              refine Go.iincP (ls' := [(3, _), (2, _), (4, _), (0, _), (1, _)]) dX12_wrongOn_64 rfl (by decide) rfl ?_
              refine Go.goto (tgt := 4) dX12_wrongOn_67 (by decide) ?_
              refine Go.pick (ls' := [(0, _), (1, _), (2, _), (3, _)]) [3, 4, 1, 0] rfl ?_
              exact hk4 _ _ _ _ _ hF
            · have hF := ite_t h_56 hF
              refine Go.iload_n dX12_wrongOn_59 rfl ?_
              obtain rfl := Option.some.inj hF
              exact Go.iret (st := []) dX12_wrongOn_60 rfl rfl ⟨rfl, rfl⟩
def F_X12_wrongOn (N : Nat) (x1 : Int32) (S : St) : Option (Int32 × St) :=
  F_X12_wrongOn_4 N x1 (-1) 0 S
set_option maxHeartbeats 4000000 in
set_option maxRecDepth 100000 in
theorem ok_X12_wrongOn {l : Launch} (d : Nat) (N : Nat) (x1 : Int32) (S : St) (R : Int32 × St) (hF : F_X12_wrongOn N x1 S = some R) : Go l (d + 2) mX12_wrongOn (Res (some (.int R.1)) R.2) 0 [(0, .ref 63), (1, .int x1)] [] S := by
  unfold F_X12_wrongOn at hF
  refine Go.iconst (v := (-1)) dX12_wrongOn_0 (by decide) ?_
  refine Go.istore_n (ls' := [(2, _), (0, _), (1, _)]) dX12_wrongOn_1 (by decide) rfl ?_
  refine Go.iconst (v := 0) dX12_wrongOn_2 (by decide) ?_
  refine Go.istore_n (ls' := [(3, _), (2, _), (0, _), (1, _)]) dX12_wrongOn_3 (by decide) rfl ?_
  refine Go.pick (ls' := [(0, _), (1, _), (2, _), (3, _)]) [2, 3, 1, 0] rfl ?_
  exact ok_X12_wrongOn_4 d N _ _ _ _ _ hF
def F_X12_tape_79 : Nat → Int32 → Int32 → Int32 → St → Option (Int32 × St)
  | 0 => fun _ _ _ _ => none
  | n + 1 => fun x1 x4 x5 S =>
    gd (inb x1 6) (if (S.2.1 101 (Int32.toNatClampNeg x1)) ≤ x5 then (some (x4, S)) else (gd (inb ((60 * x1) + x5) 360) (gd (inb (((60 * x1) + x5) - 1) 360) (if (lg_cmp (S.2.2 102 (Int32.toNatClampNeg ((60 * x1) + x5))) ((S.2.2 102 (Int32.toNatClampNeg (((60 * x1) + x5) - 1))) + 1)) = 0 then ((F_X12_tape_79 n) x1 x4 (x5 + 1) S) else ((F_X12_tape_79 n) x1 (x4 + 1) (x5 + 1) S)))))
set_option maxHeartbeats 4000000 in
set_option maxRecDepth 100000 in
theorem ok_X12_tape_79 {l : Launch} (d : Nat) : ∀ (n : Nat) (x1 : Int32) (x4 : Int32) (x5 : Int32) (S : St) (R : Int32 × St), F_X12_tape_79 n x1 x4 x5 S = some R → Go l (d + 3) mX12_tape (Res (some (.int R.1)) R.2) 79 [(0, .ref 63), (1, .int x1), (4, .int x4), (5, .int x5)] [] S := by
  intro n
  induction n with
  | zero => intro x1 x4 x5 S  R hF; cases hF
  | succ n hk79 =>
    intro x1 x4 x5 S  R hF
    have hF : (gd (inb x1 6) (if (S.2.1 101 (Int32.toNatClampNeg x1)) ≤ x5 then (some (x4, S)) else (gd (inb ((60 * x1) + x5) 360) (gd (inb (((60 * x1) + x5) - 1) 360) (if (lg_cmp (S.2.2 102 (Int32.toNatClampNeg ((60 * x1) + x5))) ((S.2.2 102 (Int32.toNatClampNeg (((60 * x1) + x5) - 1))) + 1)) = 0 then ((F_X12_tape_79 n) x1 x4 (x5 + 1) S) else ((F_X12_tape_79 n) x1 (x4 + 1) (x5 + 1) S)))))) = some R := hF
    refine Go.iload dX12_tape_79 rfl ?_
    refine Go.aload_n dX12_tape_81 rfl ?_
    refine Go.getR dX12_tape_82 fX12_128 rfl ?_
    refine Go.iload_n dX12_tape_85 rfl ?_
    obtain ⟨hb_86, hF⟩ := gd_some hF
    refine Go.iald dX12_tape_86 rfl (inb_ok hb_86) ?_
    refine Go.icmpge (tgt := 131) dX12_tape_87 (by decide) (fun h_87 => ?_) (fun h_87 => ?_)
    · have hF := ite_t h_87 hF
      refine Go.iload dX12_tape_131 rfl ?_
      obtain rfl := Option.some.inj hF
      exact Go.iret (st := []) dX12_tape_133 rfl rfl ⟨rfl, rfl⟩
    · have hF := ite_f h_87 hF
      refine Go.aload_n dX12_tape_90 rfl ?_
      refine Go.getR dX12_tape_91 fX12_131 rfl ?_
      refine Go.bipush (v := 60) dX12_tape_94 (by decide) ?_
      refine Go.iload_n dX12_tape_96 rfl ?_
      refine Go.imul dX12_tape_97 ?_
      refine Go.iload dX12_tape_98 rfl ?_
      refine Go.iadd dX12_tape_100 ?_
      obtain ⟨hb_101, hF⟩ := gd_some hF
      refine Go.lald dX12_tape_101 rfl (inb_ok hb_101) ?_
      refine Go.aload_n dX12_tape_102 rfl ?_
      refine Go.getR dX12_tape_103 fX12_131 rfl ?_
      refine Go.bipush (v := 60) dX12_tape_106 (by decide) ?_
      refine Go.iload_n dX12_tape_108 rfl ?_
      refine Go.imul dX12_tape_109 ?_
      refine Go.iload dX12_tape_110 rfl ?_
      refine Go.iadd dX12_tape_112 ?_
      refine Go.iconst (v := 1) dX12_tape_113 (by decide) ?_
      refine Go.isub dX12_tape_114 ?_
      obtain ⟨hb_115, hF⟩ := gd_some hF
      refine Go.lald dX12_tape_115 rfl (inb_ok hb_115) ?_
      refine Go.lconst (v := 1) dX12_tape_116 (by decide) ?_
      refine Go.ladd dX12_tape_117 ?_
      refine Go.lcmp dX12_tape_118 ?_
      refine Go.ifeq (tgt := 125) dX12_tape_119 (by decide) (fun h_119 => ?_) (fun h_119 => ?_)
      · have hF := ite_t h_119 hF
        refine Go.iincP (ls' := [(5, _), (0, _), (1, _), (4, _)]) dX12_tape_125 rfl (by decide) rfl ?_
        refine Go.goto (tgt := 79) dX12_tape_128 (by decide) ?_
        refine Go.pick (ls' := [(0, _), (1, _), (4, _), (5, _)]) [1, 2, 3, 0] rfl ?_
        exact hk79 _ _ _ _ _ hF
      · have hF := ite_f h_119 hF
        refine Go.iincP (ls' := [(4, _), (0, _), (1, _), (5, _)]) dX12_tape_122 rfl (by decide) rfl ?_
        refine Go.iincP (ls' := [(5, _), (4, _), (0, _), (1, _)]) dX12_tape_125 rfl (by decide) rfl ?_
        refine Go.goto (tgt := 79) dX12_tape_128 (by decide) ?_
        refine Go.pick (ls' := [(0, _), (1, _), (4, _), (5, _)]) [2, 3, 1, 0] rfl ?_
        exact hk79 _ _ _ _ _ hF
def F_X12_tape (N : Nat) (x1 : Int32) (x2 : Int32) (S : St) : Option (Int32 × St) :=
  (F_X12_isShelf x1 S).bind (fun r_1 => if r_1.1 = 0 then (some ((-1), r_1.2)) else ((F_X12_in x2 (0 : Int32) (1 : Int32) r_1.2).bind (fun r_10 => if r_10.1 = 0 then (some ((-1), r_10.2)) else (gd (inb x1 6) (if (r_10.2.2.1 100 (Int32.toNatClampNeg x1)) = (-1) then (some ((-11), r_10.2)) else (gd (inb x1 6) (if (r_10.2.2.1 100 (Int32.toNatClampNeg x1)) = (-2) then ((F_X12_wrongOn N x1 r_10.2).bind (fun r_47 => if x2 = 0 then (if 0 ≤ r_47.1 then (some (r_47.1, r_47.2)) else (some ((-2), r_47.2))) else (if r_47.1 < 0 then (F_X12_tape_79 N x1 0 1 r_47.2) else (some ((-5), r_47.2))))) else (some ((-12), r_10.2)))))))))
set_option maxHeartbeats 4000000 in
set_option maxRecDepth 100000 in
theorem ok_X12_tape {l : Launch} (d : Nat) (N : Nat) (x1 : Int32) (x2 : Int32) (S : St) (R : Int32 × St) (hF : F_X12_tape N x1 x2 S = some R) : Go l (d + 3) mX12_tape (Res (some (.int R.1)) R.2) 0 [(0, .ref 63), (1, .int x1), (2, .int x2)] [] S := by
  unfold F_X12_tape at hF
  refine Go.iload_n dX12_tape_0 rfl ?_
  obtain ⟨r_1, hc_1, hF⟩ := Option.bind_eq_some_iff.mp hF
  refine Go.callS [_] dX12_tape_1 kX12_isShelf sX12_isShelf lX12_152 rfl rfl (Nat.le_of_ble_eq_true rfl) (Nat.le_of_ble_eq_true rfl) (ok_X12_isShelf (d + 1) _ _ _ hc_1) ?_
  refine Go.ifeq (tgt := 16) dX12_tape_4 (by decide) (fun h_4 => ?_) (fun h_4 => ?_)
  · have hF := ite_t h_4 hF
    refine Go.iconst (v := (-1)) dX12_tape_16 (by decide) ?_
    obtain rfl := Option.some.inj hF
    exact Go.iret (st := []) dX12_tape_17 rfl rfl ⟨rfl, rfl⟩
  · have hF := ite_f h_4 hF
    refine Go.iload_n dX12_tape_7 rfl ?_
    refine Go.iconst (v := 0) dX12_tape_8 (by decide) ?_
    refine Go.iconst (v := 1) dX12_tape_9 (by decide) ?_
    obtain ⟨r_10, hc_10, hF⟩ := Option.bind_eq_some_iff.mp hF
    refine Go.callS [_, _, _] dX12_tape_10 kX12_in sX12_in lX12_144 rfl rfl (Nat.le_of_ble_eq_true rfl) (Nat.le_of_ble_eq_true rfl) (ok_X12_in (d + 2) _ _ _ _ _ hc_10) ?_
    refine Go.ifne (tgt := 18) dX12_tape_13 (by decide) (fun h_13 => ?_) (fun h_13 => ?_)
    · have hF := ite_f h_13 hF
      refine Go.aload_n dX12_tape_18 rfl ?_
      refine Go.getR dX12_tape_19 fX12_125 rfl ?_
      refine Go.iload_n dX12_tape_22 rfl ?_
      obtain ⟨hb_23, hF⟩ := gd_some hF
      refine Go.iald dX12_tape_23 rfl (inb_ok hb_23) ?_
      refine Go.iconst (v := (-1)) dX12_tape_24 (by decide) ?_
      refine Go.icmpne (tgt := 31) dX12_tape_25 (by decide) (fun h_25 => ?_) (fun h_25 => ?_)
      · have hF := ite_f h_25 hF
        refine Go.aload_n dX12_tape_31 rfl ?_
        refine Go.getR dX12_tape_32 fX12_125 rfl ?_
        refine Go.iload_n dX12_tape_35 rfl ?_
        obtain ⟨hb_36, hF⟩ := gd_some hF
        refine Go.iald dX12_tape_36 rfl (inb_ok hb_36) ?_
        refine Go.bipush (v := (-2)) dX12_tape_37 (by decide) ?_
        refine Go.icmpeq (tgt := 45) dX12_tape_39 (by decide) (fun h_39 => ?_) (fun h_39 => ?_)
        · have hF := ite_t h_39 hF
          refine Go.aload_n dX12_tape_45 rfl ?_
          refine Go.iload_n dX12_tape_46 rfl ?_
          obtain ⟨r_47, hc_47, hF⟩ := Option.bind_eq_some_iff.mp hF
          refine Go.callV [_] dX12_tape_47 kX12_wrongOn vX12_wrongOn lX12_318 rfl rfl rfl rfl rfl (Nat.le_of_ble_eq_true rfl) (Nat.le_of_ble_eq_true rfl) (ok_X12_wrongOn (d + 0) N _ _ _ hc_47) ?_
          refine Go.istore_n (ls' := [(3, _), (0, _), (1, _), (2, _)]) dX12_tape_50 (by decide) rfl ?_
          refine Go.iload_n dX12_tape_51 rfl ?_
          refine Go.ifne (tgt := 66) dX12_tape_52 (by decide) (fun h_52 => ?_) (fun h_52 => ?_)
          · have hF := ite_f h_52 hF
            refine Go.iload_n dX12_tape_66 rfl ?_
            refine Go.iflt (tgt := 73) dX12_tape_67 (by decide) (fun h_67 => ?_) (fun h_67 => ?_)
            · have hF := ite_t h_67 hF
              refine Go.iconst (v := 0) dX12_tape_73 (by decide) ?_
              refine Go.istore (ls' := [(4, _), (3, _), (0, _), (1, _), (2, _)]) dX12_tape_74 (by decide) rfl ?_
              refine Go.iconst (v := 1) dX12_tape_76 (by decide) ?_
              refine Go.istore (ls' := [(5, _), (4, _), (3, _), (0, _), (1, _), (2, _)]) dX12_tape_77 (by decide) rfl ?_
              refine Go.pick (ls' := [(0, _), (1, _), (4, _), (5, _)]) [3, 4, 1, 0] rfl ?_
              exact ok_X12_tape_79 d N _ _ _ _ _ hF
            · have hF := ite_f h_67 hF
              refine Go.bipush (v := (-5)) dX12_tape_70 (by decide) ?_
              obtain rfl := Option.some.inj hF
              exact Go.iret (st := []) dX12_tape_72 rfl rfl ⟨rfl, rfl⟩
          · have hF := ite_t h_52 hF
            refine Go.iload_n dX12_tape_55 rfl ?_
            refine Go.ifge (tgt := 64) dX12_tape_56 (by decide) (fun h_56 => ?_) (fun h_56 => ?_)
            · have hF := ite_t h_56 hF
              refine Go.iload_n dX12_tape_64 rfl ?_
              obtain rfl := Option.some.inj hF
              exact Go.iret (st := []) dX12_tape_65 rfl rfl ⟨rfl, rfl⟩
            · have hF := ite_f h_56 hF
              refine Go.bipush (v := (-2)) dX12_tape_59 (by decide) ?_
              refine Go.goto (tgt := 65) dX12_tape_61 (by decide) ?_
              obtain rfl := Option.some.inj hF
              exact Go.iret (st := []) dX12_tape_65 rfl rfl ⟨rfl, rfl⟩
        · have hF := ite_f h_39 hF
          refine Go.bipush (v := (-12)) dX12_tape_42 (by decide) ?_
          obtain rfl := Option.some.inj hF
          exact Go.iret (st := []) dX12_tape_44 rfl rfl ⟨rfl, rfl⟩
      · have hF := ite_t h_25 hF
        refine Go.bipush (v := (-11)) dX12_tape_28 (by decide) ?_
        obtain rfl := Option.some.inj hF
        exact Go.iret (st := []) dX12_tape_30 rfl rfl ⟨rfl, rfl⟩
    · have hF := ite_t h_13 hF
      refine Go.iconst (v := (-1)) dX12_tape_16 (by decide) ?_
      obtain rfl := Option.some.inj hF
      exact Go.iret (st := []) dX12_tape_17 rfl rfl ⟨rfl, rfl⟩
def F_X12_prompt_39 (N : Nat) (k26 : Int32 → Int32 → Int32 → Int32 → Int32 → St → Option (Int32 × St)) : Nat → Int32 → Int32 → Int32 → Int32 → Int32 → Int32 → Int32 → St → Option (Int32 × St)
  | 0 => fun _ _ _ _ _ _ _ _ => none
  | n + 1 => fun x1 x2 x3 x4 x5 x6 x7 S =>
    if (S.1 63 1) ≤ x7 then (if x3 < 0 then (k26 x1 x2 x5 x6 (x5 + 1) S) else (if x6 < x4 then (k26 x1 x2 x5 x6 (x5 + 1) S) else (k26 x1 x2 x3 x4 (x5 + 1) S))) else (gd (inb x7 20) (if (S.2.1 64 (Int32.toNatClampNeg x7)) = x1 then ((F_X12_knows N x7 S).bind (fun r_65 => gd (inb x1 6) (if (r_65.2.2.1 71 (Int32.toNatClampNeg x1)) ≤ x5 then ((F_X12_prompt_39 N k26 n) x1 x2 x3 x4 x5 (x6 + (((100 - r_65.1) * x5) + 0)) (x7 + 1) r_65.2) else ((F_X12_prompt_39 N k26 n) x1 x2 x3 x4 x5 (x6 + (((100 - r_65.1) * x5) + (5 * r_65.1))) (x7 + 1) r_65.2)))) else ((F_X12_prompt_39 N k26 n) x1 x2 x3 x4 x5 x6 (x7 + 1) S)))
set_option maxHeartbeats 4000000 in
set_option maxRecDepth 100000 in
theorem ok_X12_prompt_39 {l : Launch} (d : Nat) (N : Nat) (k26 : Int32 → Int32 → Int32 → Int32 → Int32 → St → Option (Int32 × St)) (hk26 : ∀ (x1 : Int32) (x2 : Int32) (x3 : Int32) (x4 : Int32) (x5 : Int32) (S : St) (R : Int32 × St), k26 x1 x2 x3 x4 x5 S = some R → Go l (d + 5) mX12_prompt (Res (some (.int R.1)) R.2) 26 [(0, .ref 63), (1, .int x1), (2, .int x2), (3, .int x3), (4, .int x4), (5, .int x5)] [] S) : ∀ (n : Nat) (x1 : Int32) (x2 : Int32) (x3 : Int32) (x4 : Int32) (x5 : Int32) (x6 : Int32) (x7 : Int32) (S : St) (R : Int32 × St), F_X12_prompt_39 N k26 n x1 x2 x3 x4 x5 x6 x7 S = some R → Go l (d + 5) mX12_prompt (Res (some (.int R.1)) R.2) 39 [(0, .ref 63), (1, .int x1), (2, .int x2), (3, .int x3), (4, .int x4), (5, .int x5), (6, .int x6), (7, .int x7)] [] S := by
  intro n
  induction n with
  | zero => intro x1 x2 x3 x4 x5 x6 x7 S  R hF; cases hF
  | succ n hk39 =>
    intro x1 x2 x3 x4 x5 x6 x7 S  R hF
    have hF : (if (S.1 63 1) ≤ x7 then (if x3 < 0 then (k26 x1 x2 x5 x6 (x5 + 1) S) else (if x6 < x4 then (k26 x1 x2 x5 x6 (x5 + 1) S) else (k26 x1 x2 x3 x4 (x5 + 1) S))) else (gd (inb x7 20) (if (S.2.1 64 (Int32.toNatClampNeg x7)) = x1 then ((F_X12_knows N x7 S).bind (fun r_65 => gd (inb x1 6) (if (r_65.2.2.1 71 (Int32.toNatClampNeg x1)) ≤ x5 then ((F_X12_prompt_39 N k26 n) x1 x2 x3 x4 x5 (x6 + (((100 - r_65.1) * x5) + 0)) (x7 + 1) r_65.2) else ((F_X12_prompt_39 N k26 n) x1 x2 x3 x4 x5 (x6 + (((100 - r_65.1) * x5) + (5 * r_65.1))) (x7 + 1) r_65.2)))) else ((F_X12_prompt_39 N k26 n) x1 x2 x3 x4 x5 x6 (x7 + 1) S)))) = some R := hF
    refine Go.iload dX12_prompt_39 rfl ?_
    refine Go.aload_n dX12_prompt_41 rfl ?_
    refine Go.getI dX12_prompt_42 fX12_141 rfl ?_
    refine Go.icmpge (tgt := 109) dX12_prompt_45 (by decide) (fun h_45 => ?_) (fun h_45 => ?_)
    · have hF := ite_t h_45 hF
      refine Go.iload_n dX12_prompt_109 rfl ?_
      refine Go.iflt (tgt := 123) dX12_prompt_110 (by decide) (fun h_110 => ?_) (fun h_110 => ?_)
      · have hF := ite_t h_110 hF
        refine Go.iload dX12_prompt_123 rfl ?_
        refine Go.istore_n (ls' := [(3, _), (0, _), (1, _), (2, _), (4, _), (5, _), (6, _), (7, _)]) dX12_prompt_125 (by decide) rfl ?_
        refine Go.iload dX12_prompt_126 rfl ?_
        refine Go.istore (ls' := [(4, _), (3, _), (0, _), (1, _), (2, _), (5, _), (6, _), (7, _)]) dX12_prompt_128 (by decide) rfl ?_
        refine Go.iincP (ls' := [(5, _), (4, _), (3, _), (0, _), (1, _), (2, _), (6, _), (7, _)]) dX12_prompt_130 rfl (by decide) rfl ?_
        refine Go.goto (tgt := 26) dX12_prompt_133 (by decide) ?_
        refine Go.pick (ls' := [(0, _), (1, _), (2, _), (3, _), (4, _), (5, _)]) [3, 4, 5, 2, 1, 0] rfl ?_
        exact hk26 _ _ _ _ _ _ _ hF
      · have hF := ite_f h_110 hF
        refine Go.iload dX12_prompt_113 rfl ?_
        refine Go.iload dX12_prompt_115 rfl ?_
        refine Go.icmplt (tgt := 123) dX12_prompt_117 (by decide) (fun h_117 => ?_) (fun h_117 => ?_)
        · have hF := ite_t h_117 hF
          refine Go.iload dX12_prompt_123 rfl ?_
          refine Go.istore_n (ls' := [(3, _), (0, _), (1, _), (2, _), (4, _), (5, _), (6, _), (7, _)]) dX12_prompt_125 (by decide) rfl ?_
          refine Go.iload dX12_prompt_126 rfl ?_
          refine Go.istore (ls' := [(4, _), (3, _), (0, _), (1, _), (2, _), (5, _), (6, _), (7, _)]) dX12_prompt_128 (by decide) rfl ?_
          refine Go.iincP (ls' := [(5, _), (4, _), (3, _), (0, _), (1, _), (2, _), (6, _), (7, _)]) dX12_prompt_130 rfl (by decide) rfl ?_
          refine Go.goto (tgt := 26) dX12_prompt_133 (by decide) ?_
          refine Go.pick (ls' := [(0, _), (1, _), (2, _), (3, _), (4, _), (5, _)]) [3, 4, 5, 2, 1, 0] rfl ?_
          exact hk26 _ _ _ _ _ _ _ hF
        · have hF := ite_f h_117 hF
          refine Go.goto (tgt := 130) dX12_prompt_120 (by decide) ?_
          refine Go.iincP (ls' := [(5, _), (0, _), (1, _), (2, _), (3, _), (4, _), (6, _), (7, _)]) dX12_prompt_130 rfl (by decide) rfl ?_
          refine Go.goto (tgt := 26) dX12_prompt_133 (by decide) ?_
          refine Go.pick (ls' := [(0, _), (1, _), (2, _), (3, _), (4, _), (5, _)]) [1, 2, 3, 4, 5, 0] rfl ?_
          exact hk26 _ _ _ _ _ _ _ hF
    · have hF := ite_f h_45 hF
      refine Go.aload_n dX12_prompt_48 rfl ?_
      refine Go.getR dX12_prompt_49 fX12_7 rfl ?_
      refine Go.iload dX12_prompt_52 rfl ?_
      obtain ⟨hb_54, hF⟩ := gd_some hF
      refine Go.iald dX12_prompt_54 rfl (inb_ok hb_54) ?_
      refine Go.iload_n dX12_prompt_55 rfl ?_
      refine Go.icmpeq (tgt := 62) dX12_prompt_56 (by decide) (fun h_56 => ?_) (fun h_56 => ?_)
      · have hF := ite_t h_56 hF
        refine Go.aload_n dX12_prompt_62 rfl ?_
        refine Go.iload dX12_prompt_63 rfl ?_
        obtain ⟨r_65, hc_65, hF⟩ := Option.bind_eq_some_iff.mp hF
        refine Go.callV [_] dX12_prompt_65 kX12_knows vX12_knows lX12_271 rfl rfl rfl rfl rfl (Nat.le_of_ble_eq_true rfl) (Nat.le_of_ble_eq_true rfl) (ok_X12_knows (d + 0) N _ _ _ hc_65) ?_
        refine Go.istore (ls' := [(8, _), (0, _), (1, _), (2, _), (3, _), (4, _), (5, _), (6, _), (7, _)]) dX12_prompt_68 (by decide) rfl ?_
        refine Go.iload dX12_prompt_70 rfl ?_
        refine Go.bipush (v := 100) dX12_prompt_72 (by decide) ?_
        refine Go.iload dX12_prompt_74 rfl ?_
        refine Go.isub dX12_prompt_76 ?_
        refine Go.iload dX12_prompt_77 rfl ?_
        refine Go.imul dX12_prompt_79 ?_
        refine Go.iload dX12_prompt_80 rfl ?_
        refine Go.aload_n dX12_prompt_82 rfl ?_
        refine Go.getR dX12_prompt_83 fX12_31 rfl ?_
        refine Go.iload_n dX12_prompt_86 rfl ?_
        obtain ⟨hb_87, hF⟩ := gd_some hF
        refine Go.iald dX12_prompt_87 rfl (inb_ok hb_87) ?_
        refine Go.icmpge (tgt := 98) dX12_prompt_88 (by decide) (fun h_88 => ?_) (fun h_88 => ?_)
        · have hF := ite_t h_88 hF
          refine Go.iconst (v := 0) dX12_prompt_98 (by decide) ?_
          refine Go.iadd dX12_prompt_99 ?_
          refine Go.iadd dX12_prompt_100 ?_
          refine Go.istore (ls' := [(6, _), (8, _), (0, _), (1, _), (2, _), (3, _), (4, _), (5, _), (7, _)]) dX12_prompt_101 (by decide) rfl ?_
          refine Go.iincP (ls' := [(7, _), (6, _), (8, _), (0, _), (1, _), (2, _), (3, _), (4, _), (5, _)]) dX12_prompt_103 rfl (by decide) rfl ?_
          refine Go.goto (tgt := 39) dX12_prompt_106 (by decide) ?_
          refine Go.pick (ls' := [(0, _), (1, _), (2, _), (3, _), (4, _), (5, _), (6, _), (7, _)]) [3, 4, 5, 6, 7, 8, 1, 0] rfl ?_
          exact hk39 _ _ _ _ _ _ _ _ _ hF
        · have hF := ite_f h_88 hF
          refine Go.iconst (v := 5) dX12_prompt_91 (by decide) ?_
          refine Go.iload dX12_prompt_92 rfl ?_
          refine Go.imul dX12_prompt_94 ?_
          refine Go.goto (tgt := 99) dX12_prompt_95 (by decide) ?_
          refine Go.iadd dX12_prompt_99 ?_
          refine Go.iadd dX12_prompt_100 ?_
          refine Go.istore (ls' := [(6, _), (8, _), (0, _), (1, _), (2, _), (3, _), (4, _), (5, _), (7, _)]) dX12_prompt_101 (by decide) rfl ?_
          refine Go.iincP (ls' := [(7, _), (6, _), (8, _), (0, _), (1, _), (2, _), (3, _), (4, _), (5, _)]) dX12_prompt_103 rfl (by decide) rfl ?_
          refine Go.goto (tgt := 39) dX12_prompt_106 (by decide) ?_
          refine Go.pick (ls' := [(0, _), (1, _), (2, _), (3, _), (4, _), (5, _), (6, _), (7, _)]) [3, 4, 5, 6, 7, 8, 1, 0] rfl ?_
          exact hk39 _ _ _ _ _ _ _ _ _ hF
      · have hF := ite_f h_56 hF
        refine Go.goto (tgt := 103) dX12_prompt_59 (by decide) ?_
        refine Go.iincP (ls' := [(7, _), (0, _), (1, _), (2, _), (3, _), (4, _), (5, _), (6, _)]) dX12_prompt_103 rfl (by decide) rfl ?_
        refine Go.goto (tgt := 39) dX12_prompt_106 (by decide) ?_
        refine Go.pick (ls' := [(0, _), (1, _), (2, _), (3, _), (4, _), (5, _), (6, _), (7, _)]) [1, 2, 3, 4, 5, 6, 7, 0] rfl ?_
        exact hk39 _ _ _ _ _ _ _ _ _ hF
def F_X12_prompt_26 (N : Nat) : Nat → Int32 → Int32 → Int32 → Int32 → Int32 → St → Option (Int32 × St)
  | 0 => fun _ _ _ _ _ _ => none
  | n + 1 => fun x1 x2 x3 x4 x5 S =>
    if 9 < x5 then (if x2 = 0 then (some (x3, S)) else (some (x4, S))) else (F_X12_prompt_39 N (F_X12_prompt_26 N n) N x1 x2 x3 x4 x5 0 0 S)
set_option maxHeartbeats 4000000 in
set_option maxRecDepth 100000 in
theorem ok_X12_prompt_26 {l : Launch} (d : Nat) (N : Nat) : ∀ (n : Nat) (x1 : Int32) (x2 : Int32) (x3 : Int32) (x4 : Int32) (x5 : Int32) (S : St) (R : Int32 × St), F_X12_prompt_26 N n x1 x2 x3 x4 x5 S = some R → Go l (d + 5) mX12_prompt (Res (some (.int R.1)) R.2) 26 [(0, .ref 63), (1, .int x1), (2, .int x2), (3, .int x3), (4, .int x4), (5, .int x5)] [] S := by
  intro n
  induction n with
  | zero => intro x1 x2 x3 x4 x5 S  R hF; cases hF
  | succ n hk26 =>
    intro x1 x2 x3 x4 x5 S  R hF
    have hF : (if 9 < x5 then (if x2 = 0 then (some (x3, S)) else (some (x4, S))) else (F_X12_prompt_39 N (F_X12_prompt_26 N n) N x1 x2 x3 x4 x5 0 0 S)) = some R := hF
    refine Go.iload dX12_prompt_26 rfl ?_
    refine Go.bipush (v := 9) dX12_prompt_28 (by decide) ?_
    refine Go.icmpgt (tgt := 136) dX12_prompt_30 (by decide) (fun h_30 => ?_) (fun h_30 => ?_)
    · have hF := ite_t h_30 hF
      refine Go.iload_n dX12_prompt_136 rfl ?_
      refine Go.ifne (tgt := 144) dX12_prompt_137 (by decide) (fun h_137 => ?_) (fun h_137 => ?_)
      · have hF := ite_f h_137 hF
        refine Go.iload dX12_prompt_144 rfl ?_
        obtain rfl := Option.some.inj hF
        exact Go.iret (st := []) dX12_prompt_146 rfl rfl ⟨rfl, rfl⟩
      · have hF := ite_t h_137 hF
        refine Go.iload_n dX12_prompt_140 rfl ?_
        refine Go.goto (tgt := 146) dX12_prompt_141 (by decide) ?_
        obtain rfl := Option.some.inj hF
        exact Go.iret (st := []) dX12_prompt_146 rfl rfl ⟨rfl, rfl⟩
    · have hF := ite_f h_30 hF
      refine Go.iconst (v := 0) dX12_prompt_33 (by decide) ?_
      refine Go.istore (ls' := [(6, _), (0, _), (1, _), (2, _), (3, _), (4, _), (5, _)]) dX12_prompt_34 (by decide) rfl ?_
      refine Go.iconst (v := 0) dX12_prompt_36 (by decide) ?_
      refine Go.istore (ls' := [(7, _), (6, _), (0, _), (1, _), (2, _), (3, _), (4, _), (5, _)]) dX12_prompt_37 (by decide) rfl ?_
      refine Go.pick (ls' := [(0, _), (1, _), (2, _), (3, _), (4, _), (5, _), (6, _), (7, _)]) [2, 3, 4, 5, 6, 7, 1, 0] rfl ?_
      exact ok_X12_prompt_39 d N (F_X12_prompt_26 N n) hk26 N _ _ _ _ _ _ _ _ _ hF
def F_X12_prompt (N : Nat) (x1 : Int32) (x2 : Int32) (S : St) : Option (Int32 × St) :=
  (F_X12_isPart x1 S).bind (fun r_1 => if r_1.1 = 0 then (some ((-1), r_1.2)) else ((F_X12_in x2 (0 : Int32) (1 : Int32) r_1.2).bind (fun r_10 => if r_10.1 = 0 then (some ((-1), r_10.2)) else (F_X12_prompt_26 N N x1 x2 (-1) 0 0 r_10.2))))
set_option maxHeartbeats 4000000 in
set_option maxRecDepth 100000 in
theorem ok_X12_prompt {l : Launch} (d : Nat) (N : Nat) (x1 : Int32) (x2 : Int32) (S : St) (R : Int32 × St) (hF : F_X12_prompt N x1 x2 S = some R) : Go l (d + 5) mX12_prompt (Res (some (.int R.1)) R.2) 0 [(0, .ref 63), (1, .int x1), (2, .int x2)] [] S := by
  unfold F_X12_prompt at hF
  refine Go.iload_n dX12_prompt_0 rfl ?_
  obtain ⟨r_1, hc_1, hF⟩ := Option.bind_eq_some_iff.mp hF
  refine Go.callS [_] dX12_prompt_1 kX12_isPart sX12_isPart lX12_158 rfl rfl (Nat.le_of_ble_eq_true rfl) (Nat.le_of_ble_eq_true rfl) (ok_X12_isPart (d + 3) _ _ _ hc_1) ?_
  refine Go.ifeq (tgt := 16) dX12_prompt_4 (by decide) (fun h_4 => ?_) (fun h_4 => ?_)
  · have hF := ite_t h_4 hF
    refine Go.iconst (v := (-1)) dX12_prompt_16 (by decide) ?_
    obtain rfl := Option.some.inj hF
    exact Go.iret (st := []) dX12_prompt_17 rfl rfl ⟨rfl, rfl⟩
  · have hF := ite_f h_4 hF
    refine Go.iload_n dX12_prompt_7 rfl ?_
    refine Go.iconst (v := 0) dX12_prompt_8 (by decide) ?_
    refine Go.iconst (v := 1) dX12_prompt_9 (by decide) ?_
    obtain ⟨r_10, hc_10, hF⟩ := Option.bind_eq_some_iff.mp hF
    refine Go.callS [_, _, _] dX12_prompt_10 kX12_in sX12_in lX12_144 rfl rfl (Nat.le_of_ble_eq_true rfl) (Nat.le_of_ble_eq_true rfl) (ok_X12_in (d + 4) _ _ _ _ _ hc_10) ?_
    refine Go.ifne (tgt := 18) dX12_prompt_13 (by decide) (fun h_13 => ?_) (fun h_13 => ?_)
    · have hF := ite_f h_13 hF
      refine Go.iconst (v := (-1)) dX12_prompt_18 (by decide) ?_
      refine Go.istore_n (ls' := [(3, _), (0, _), (1, _), (2, _)]) dX12_prompt_19 (by decide) rfl ?_
      refine Go.iconst (v := 0) dX12_prompt_20 (by decide) ?_
      refine Go.istore (ls' := [(4, _), (3, _), (0, _), (1, _), (2, _)]) dX12_prompt_21 (by decide) rfl ?_
      refine Go.iconst (v := 0) dX12_prompt_23 (by decide) ?_
      refine Go.istore (ls' := [(5, _), (4, _), (3, _), (0, _), (1, _), (2, _)]) dX12_prompt_24 (by decide) rfl ?_
      refine Go.pick (ls' := [(0, _), (1, _), (2, _), (3, _), (4, _), (5, _)]) [3, 4, 5, 2, 1, 0] rfl ?_
      exact ok_X12_prompt_26 d N N _ _ _ _ _ _ _ hF
    · have hF := ite_t h_13 hF
      refine Go.iconst (v := (-1)) dX12_prompt_16 (by decide) ?_
      obtain rfl := Option.some.inj hF
      exact Go.iret (st := []) dX12_prompt_17 rfl rfl ⟨rfl, rfl⟩
def F_X12_harm_4 : Nat → Int32 → Int32 → St → Option (Int32 × St)
  | 0 => fun _ _ _ => none
  | n + 1 => fun x1 x2 S =>
    if (S.1 63 1) ≤ x2 then (some (x1, S)) else (gd (inb x2 20) (gd (inb x2 20) ((F_X12_harm_4 n) (x1 + ((100 - (S.2.1 70 (Int32.toNatClampNeg x2))) * (S.2.1 96 (Int32.toNatClampNeg x2)))) (x2 + 1) S)))
set_option maxHeartbeats 4000000 in
set_option maxRecDepth 100000 in
theorem ok_X12_harm_4 {l : Launch} (d : Nat) : ∀ (n : Nat) (x1 : Int32) (x2 : Int32) (S : St) (R : Int32 × St), F_X12_harm_4 n x1 x2 S = some R → Go l (d + 0) mX12_harm (Res (some (.int R.1)) R.2) 4 [(0, .ref 63), (1, .int x1), (2, .int x2)] [] S := by
  intro n
  induction n with
  | zero => intro x1 x2 S  R hF; cases hF
  | succ n hk4 =>
    intro x1 x2 S  R hF
    have hF : (if (S.1 63 1) ≤ x2 then (some (x1, S)) else (gd (inb x2 20) (gd (inb x2 20) ((F_X12_harm_4 n) (x1 + ((100 - (S.2.1 70 (Int32.toNatClampNeg x2))) * (S.2.1 96 (Int32.toNatClampNeg x2)))) (x2 + 1) S)))) = some R := hF
    refine Go.iload_n dX12_harm_4 rfl ?_
    refine Go.aload_n dX12_harm_5 rfl ?_
    refine Go.getI dX12_harm_6 fX12_141 rfl ?_
    refine Go.icmpge (tgt := 37) dX12_harm_9 (by decide) (fun h_9 => ?_) (fun h_9 => ?_)
    · have hF := ite_t h_9 hF
      refine Go.iload_n dX12_harm_37 rfl ?_
      obtain rfl := Option.some.inj hF
      exact Go.iret (st := []) dX12_harm_38 rfl rfl ⟨rfl, rfl⟩
    · have hF := ite_f h_9 hF
      refine Go.iload_n dX12_harm_12 rfl ?_
      refine Go.bipush (v := 100) dX12_harm_13 (by decide) ?_
      refine Go.aload_n dX12_harm_15 rfl ?_
      refine Go.getR dX12_harm_16 fX12_28 rfl ?_
      refine Go.iload_n dX12_harm_19 rfl ?_
      obtain ⟨hb_20, hF⟩ := gd_some hF
      refine Go.iald dX12_harm_20 rfl (inb_ok hb_20) ?_
      refine Go.isub dX12_harm_21 ?_
      refine Go.aload_n dX12_harm_22 rfl ?_
      refine Go.getR dX12_harm_23 fX12_113 rfl ?_
      refine Go.iload_n dX12_harm_26 rfl ?_
      obtain ⟨hb_27, hF⟩ := gd_some hF
      refine Go.iald dX12_harm_27 rfl (inb_ok hb_27) ?_
      refine Go.imul dX12_harm_28 ?_
      refine Go.iadd dX12_harm_29 ?_
      refine Go.istore_n (ls' := [(1, _), (0, _), (2, _)]) dX12_harm_30 (by decide) rfl ?_
      refine Go.iincP (ls' := [(2, _), (1, _), (0, _)]) dX12_harm_31 rfl (by decide) rfl ?_
      refine Go.goto (tgt := 4) dX12_harm_34 (by decide) ?_
      refine Go.pick (ls' := [(0, _), (1, _), (2, _)]) [2, 1, 0] rfl ?_
      exact hk4 _ _ _ _ hF
def F_X12_harm (N : Nat) (S : St) : Option (Int32 × St) :=
  F_X12_harm_4 N 0 0 S
set_option maxHeartbeats 4000000 in
set_option maxRecDepth 100000 in
theorem ok_X12_harm {l : Launch} (d : Nat) (N : Nat) (S : St) (R : Int32 × St) (hF : F_X12_harm N S = some R) : Go l (d + 0) mX12_harm (Res (some (.int R.1)) R.2) 0 [(0, .ref 63)] [] S := by
  unfold F_X12_harm at hF
  refine Go.iconst (v := 0) dX12_harm_0 (by decide) ?_
  refine Go.istore_n (ls' := [(1, _), (0, _)]) dX12_harm_1 (by decide) rfl ?_
  refine Go.iconst (v := 0) dX12_harm_2 (by decide) ?_
  refine Go.istore_n (ls' := [(2, _), (1, _), (0, _)]) dX12_harm_3 (by decide) rfl ?_
  refine Go.pick (ls' := [(0, _), (1, _), (2, _)]) [2, 1, 0] rfl ?_
  exact ok_X12_harm_4 d N _ _ _ _ hF
def F_X12_evenings_227 : Nat → Int32 → Int32 → St → Option (Int32 × St)
  | 0 => fun _ _ _ => none
  | n + 1 => fun x3 x4 S =>
    if (S.1 63 1) ≤ x4 then (some (x3, S)) else (gd (inb x4 20) (gd (inb x4 20) (let S249 := aset S 70 (upd (S.2.1 70) (Int32.toNatClampNeg x4) (S.2.1 94 (Int32.toNatClampNeg x4))); (F_X12_evenings_227 n) x3 (x4 + 1) S249)))
set_option maxHeartbeats 4000000 in
set_option maxRecDepth 100000 in
theorem ok_X12_evenings_227 {l : Launch} (d : Nat) : ∀ (n : Nat) (x3 : Int32) (x4 : Int32) (S : St) (R : Int32 × St), F_X12_evenings_227 n x3 x4 S = some R → Go l (d + 6) mX12_evenings (Res (some (.int R.1)) R.2) 227 [(0, .ref 63), (3, .int x3), (4, .int x4)] [] S := by
  intro n
  induction n with
  | zero => intro x3 x4 S  R hF; cases hF
  | succ n hk227 =>
    intro x3 x4 S  R hF
    have hF : (if (S.1 63 1) ≤ x4 then (some (x3, S)) else (gd (inb x4 20) (gd (inb x4 20) (let S249 := aset S 70 (upd (S.2.1 70) (Int32.toNatClampNeg x4) (S.2.1 94 (Int32.toNatClampNeg x4))); (F_X12_evenings_227 n) x3 (x4 + 1) S249)))) = some R := hF
    refine Go.iload dX12_evenings_227 rfl ?_
    refine Go.aload_n dX12_evenings_229 rfl ?_
    refine Go.getI dX12_evenings_230 fX12_141 rfl ?_
    refine Go.icmpge (tgt := 256) dX12_evenings_233 (by decide) (fun h_233 => ?_) (fun h_233 => ?_)
    · have hF := ite_t h_233 hF
      refine Go.iload_n dX12_evenings_256 rfl ?_
      obtain rfl := Option.some.inj hF
      exact Go.iret (st := []) dX12_evenings_257 rfl rfl ⟨rfl, rfl⟩
    · have hF := ite_f h_233 hF
      refine Go.aload_n dX12_evenings_236 rfl ?_
      refine Go.getR dX12_evenings_237 fX12_28 rfl ?_
      refine Go.iload dX12_evenings_240 rfl ?_
      refine Go.aload_n dX12_evenings_242 rfl ?_
      refine Go.getR dX12_evenings_243 fX12_107 rfl ?_
      refine Go.iload dX12_evenings_246 rfl ?_
      obtain ⟨hb_248, hF⟩ := gd_some hF
      refine Go.iald dX12_evenings_248 rfl (inb_ok hb_248) ?_
      obtain ⟨hb_249, hF⟩ := gd_some hF
      refine Go.iast dX12_evenings_249 rfl (inb_ok hb_249) ?_
      refine Go.iincP (ls' := [(4, _), (0, _), (3, _)]) dX12_evenings_250 rfl (by decide) rfl ?_
      refine Go.goto (tgt := 227) dX12_evenings_253 (by decide) ?_
      refine Go.pick (ls' := [(0, _), (3, _), (4, _)]) [1, 2, 0] rfl ?_
      exact hk227 _ _ _ _ hF
def F_X12_evenings_114 (N : Nat) (k100 : Int32 → Int32 → Int32 → St → Option (Int32 × St)) : Nat → Int32 → Int32 → Int32 → Int32 → Int32 → Int32 → St → Option (Int32 × St)
  | 0 => fun _ _ _ _ _ _ _ => none
  | n + 1 => fun x1 x2 x3 x4 x5 x6 S =>
    if (S.1 63 1) ≤ x6 then ((F_X12_heldThen N x4 S).bind (fun r_185 => gd (inb x4 20) (let S188 := aset r_185.2 70 (upd (r_185.2.2.1 70) (Int32.toNatClampNeg x4) r_185.1); gd (inb x4 20) (gd (inb x4 20) (let S199 := aset S188 95 (upd (S188.2.1 95) (Int32.toNatClampNeg x4) ((S188.2.1 95 (Int32.toNatClampNeg x4)) + 1)); k100 x1 x2 (x3 + 1) S199))))) else ((F_X12_heldThen N x6 S).bind (fun r_126 => gd (inb x6 20) (gd (inb x6 20) (if x4 < 0 then ((F_X12_evenings_114 N k100 n) x1 x2 x3 x6 ((r_126.1 - (r_126.2.2.1 70 (Int32.toNatClampNeg x6))) * (r_126.2.2.1 96 (Int32.toNatClampNeg x6))) (x6 + 1) r_126.2) else (if x5 < ((r_126.1 - (r_126.2.2.1 70 (Int32.toNatClampNeg x6))) * (r_126.2.2.1 96 (Int32.toNatClampNeg x6))) then ((F_X12_evenings_114 N k100 n) x1 x2 x3 x6 ((r_126.1 - (r_126.2.2.1 70 (Int32.toNatClampNeg x6))) * (r_126.2.2.1 96 (Int32.toNatClampNeg x6))) (x6 + 1) r_126.2) else ((F_X12_evenings_114 N k100 n) x1 x2 x3 x4 x5 (x6 + 1) r_126.2))))))
set_option maxHeartbeats 4000000 in
set_option maxRecDepth 100000 in
theorem ok_X12_evenings_114 {l : Launch} (d : Nat) (N : Nat) (k100 : Int32 → Int32 → Int32 → St → Option (Int32 × St)) (hk100 : ∀ (x1 : Int32) (x2 : Int32) (x3 : Int32) (S : St) (R : Int32 × St), k100 x1 x2 x3 S = some R → Go l (d + 6) mX12_evenings (Res (some (.int R.1)) R.2) 100 [(0, .ref 63), (1, .int x1), (2, .int x2), (3, .int x3)] [] S) : ∀ (n : Nat) (x1 : Int32) (x2 : Int32) (x3 : Int32) (x4 : Int32) (x5 : Int32) (x6 : Int32) (S : St) (R : Int32 × St), F_X12_evenings_114 N k100 n x1 x2 x3 x4 x5 x6 S = some R → Go l (d + 6) mX12_evenings (Res (some (.int R.1)) R.2) 114 [(0, .ref 63), (1, .int x1), (2, .int x2), (3, .int x3), (4, .int x4), (5, .int x5), (6, .int x6)] [] S := by
  intro n
  induction n with
  | zero => intro x1 x2 x3 x4 x5 x6 S  R hF; cases hF
  | succ n hk114 =>
    intro x1 x2 x3 x4 x5 x6 S  R hF
    have hF : (if (S.1 63 1) ≤ x6 then ((F_X12_heldThen N x4 S).bind (fun r_185 => gd (inb x4 20) (let S188 := aset r_185.2 70 (upd (r_185.2.2.1 70) (Int32.toNatClampNeg x4) r_185.1); gd (inb x4 20) (gd (inb x4 20) (let S199 := aset S188 95 (upd (S188.2.1 95) (Int32.toNatClampNeg x4) ((S188.2.1 95 (Int32.toNatClampNeg x4)) + 1)); k100 x1 x2 (x3 + 1) S199))))) else ((F_X12_heldThen N x6 S).bind (fun r_126 => gd (inb x6 20) (gd (inb x6 20) (if x4 < 0 then ((F_X12_evenings_114 N k100 n) x1 x2 x3 x6 ((r_126.1 - (r_126.2.2.1 70 (Int32.toNatClampNeg x6))) * (r_126.2.2.1 96 (Int32.toNatClampNeg x6))) (x6 + 1) r_126.2) else (if x5 < ((r_126.1 - (r_126.2.2.1 70 (Int32.toNatClampNeg x6))) * (r_126.2.2.1 96 (Int32.toNatClampNeg x6))) then ((F_X12_evenings_114 N k100 n) x1 x2 x3 x6 ((r_126.1 - (r_126.2.2.1 70 (Int32.toNatClampNeg x6))) * (r_126.2.2.1 96 (Int32.toNatClampNeg x6))) (x6 + 1) r_126.2) else ((F_X12_evenings_114 N k100 n) x1 x2 x3 x4 x5 (x6 + 1) r_126.2))))))) = some R := hF
    refine Go.iload dX12_evenings_114 rfl ?_
    refine Go.aload_n dX12_evenings_116 rfl ?_
    refine Go.getI dX12_evenings_117 fX12_141 rfl ?_
    refine Go.icmpge (tgt := 176) dX12_evenings_120 (by decide) (fun h_120 => ?_) (fun h_120 => ?_)
    · have hF := ite_t h_120 hF
      refine Go.aload_n dX12_evenings_176 rfl ?_
      refine Go.getR dX12_evenings_177 fX12_28 rfl ?_
      refine Go.iload dX12_evenings_180 rfl ?_
      refine Go.aload_n dX12_evenings_182 rfl ?_
      refine Go.iload dX12_evenings_183 rfl ?_
      obtain ⟨r_185, hc_185, hF⟩ := Option.bind_eq_some_iff.mp hF
      refine Go.callV [_] dX12_evenings_185 kX12_heldThen vX12_heldThen lX12_277 rfl rfl rfl rfl rfl (Nat.le_of_ble_eq_true rfl) (Nat.le_of_ble_eq_true rfl) (ok_X12_heldThen (d + 0) N _ _ _ hc_185) ?_
      obtain ⟨hb_188, hF⟩ := gd_some hF
      refine Go.iast dX12_evenings_188 rfl (inb_ok hb_188) ?_
      refine Go.aload_n dX12_evenings_189 rfl ?_
      refine Go.getR dX12_evenings_190 fX12_110 rfl ?_
      refine Go.iload dX12_evenings_193 rfl ?_
      refine Go.dup2 dX12_evenings_195 rfl rfl ?_
      obtain ⟨hb_196, hF⟩ := gd_some hF
      refine Go.iald dX12_evenings_196 rfl (inb_ok hb_196) ?_
      refine Go.iconst (v := 1) dX12_evenings_197 (by decide) ?_
      refine Go.iadd dX12_evenings_198 ?_
      obtain ⟨hb_199, hF⟩ := gd_some hF
      refine Go.iast dX12_evenings_199 rfl (inb_ok hb_199) ?_
      refine Go.iincP (ls' := [(3, _), (0, _), (1, _), (2, _), (4, _), (5, _), (6, _)]) dX12_evenings_200 rfl (by decide) rfl ?_
      refine Go.goto (tgt := 100) dX12_evenings_203 (by decide) ?_
      refine Go.pick (ls' := [(0, _), (1, _), (2, _), (3, _)]) [1, 2, 3, 0] rfl ?_
      exact hk100 _ _ _ _ _ hF
    · have hF := ite_f h_120 hF
      refine Go.aload_n dX12_evenings_123 rfl ?_
      refine Go.iload dX12_evenings_124 rfl ?_
      obtain ⟨r_126, hc_126, hF⟩ := Option.bind_eq_some_iff.mp hF
      refine Go.callV [_] dX12_evenings_126 kX12_heldThen vX12_heldThen lX12_277 rfl rfl rfl rfl rfl (Nat.le_of_ble_eq_true rfl) (Nat.le_of_ble_eq_true rfl) (ok_X12_heldThen (d + 0) N _ _ _ hc_126) ?_
      refine Go.aload_n dX12_evenings_129 rfl ?_
      refine Go.getR dX12_evenings_130 fX12_28 rfl ?_
      refine Go.iload dX12_evenings_133 rfl ?_
      obtain ⟨hb_135, hF⟩ := gd_some hF
      refine Go.iald dX12_evenings_135 rfl (inb_ok hb_135) ?_
      refine Go.isub dX12_evenings_136 ?_
      refine Go.aload_n dX12_evenings_137 rfl ?_
      refine Go.getR dX12_evenings_138 fX12_113 rfl ?_
      refine Go.iload dX12_evenings_141 rfl ?_
      obtain ⟨hb_143, hF⟩ := gd_some hF
      refine Go.iald dX12_evenings_143 rfl (inb_ok hb_143) ?_
      refine Go.imul dX12_evenings_144 ?_
      refine Go.istore (ls' := [(7, _), (0, _), (1, _), (2, _), (3, _), (4, _), (5, _), (6, _)]) dX12_evenings_145 (by decide) rfl ?_
      refine Go.iload dX12_evenings_147 rfl ?_
      refine Go.iflt (tgt := 162) dX12_evenings_149 (by decide) (fun h_149 => ?_) (fun h_149 => ?_)
      · have hF := ite_t h_149 hF
        refine Go.iload dX12_evenings_162 rfl ?_
        refine Go.istore (ls' := [(4, _), (7, _), (0, _), (1, _), (2, _), (3, _), (5, _), (6, _)]) dX12_evenings_164 (by decide) rfl ?_
        refine Go.iload dX12_evenings_166 rfl ?_
        refine Go.istore (ls' := [(5, _), (4, _), (7, _), (0, _), (1, _), (2, _), (3, _), (6, _)]) dX12_evenings_168 (by decide) rfl ?_
        refine Go.iincP (ls' := [(6, _), (5, _), (4, _), (7, _), (0, _), (1, _), (2, _), (3, _)]) dX12_evenings_170 rfl (by decide) rfl ?_
        refine Go.goto (tgt := 114) dX12_evenings_173 (by decide) ?_
        refine Go.pick (ls' := [(0, _), (1, _), (2, _), (3, _), (4, _), (5, _), (6, _)]) [4, 5, 6, 7, 2, 1, 0] rfl ?_
        exact hk114 _ _ _ _ _ _ _ _ hF
      · have hF := ite_f h_149 hF
        refine Go.iload dX12_evenings_152 rfl ?_
        refine Go.iload dX12_evenings_154 rfl ?_
        refine Go.icmpgt (tgt := 162) dX12_evenings_156 (by decide) (fun h_156 => ?_) (fun h_156 => ?_)
        · have hF := ite_t h_156 hF
          refine Go.iload dX12_evenings_162 rfl ?_
          refine Go.istore (ls' := [(4, _), (7, _), (0, _), (1, _), (2, _), (3, _), (5, _), (6, _)]) dX12_evenings_164 (by decide) rfl ?_
          refine Go.iload dX12_evenings_166 rfl ?_
          refine Go.istore (ls' := [(5, _), (4, _), (7, _), (0, _), (1, _), (2, _), (3, _), (6, _)]) dX12_evenings_168 (by decide) rfl ?_
          refine Go.iincP (ls' := [(6, _), (5, _), (4, _), (7, _), (0, _), (1, _), (2, _), (3, _)]) dX12_evenings_170 rfl (by decide) rfl ?_
          refine Go.goto (tgt := 114) dX12_evenings_173 (by decide) ?_
          refine Go.pick (ls' := [(0, _), (1, _), (2, _), (3, _), (4, _), (5, _), (6, _)]) [4, 5, 6, 7, 2, 1, 0] rfl ?_
          exact hk114 _ _ _ _ _ _ _ _ hF
        · have hF := ite_f h_156 hF
          refine Go.goto (tgt := 170) dX12_evenings_159 (by decide) ?_
          refine Go.iincP (ls' := [(6, _), (7, _), (0, _), (1, _), (2, _), (3, _), (4, _), (5, _)]) dX12_evenings_170 rfl (by decide) rfl ?_
          refine Go.goto (tgt := 114) dX12_evenings_173 (by decide) ?_
          refine Go.pick (ls' := [(0, _), (1, _), (2, _), (3, _), (4, _), (5, _), (6, _)]) [2, 3, 4, 5, 6, 7, 0] rfl ?_
          exact hk114 _ _ _ _ _ _ _ _ hF
def F_X12_evenings_100 (N : Nat) : Nat → Int32 → Int32 → Int32 → St → Option (Int32 × St)
  | 0 => fun _ _ _ _ => none
  | n + 1 => fun x1 x2 x3 S =>
    if x1 ≤ x3 then (if 0 ≤ x2 then (gd (inb x2 20) (F_X12_evenings_227 N (S.2.1 95 (Int32.toNatClampNeg x2)) 0 S)) else ((F_X12_harm N S).bind (fun r_211 => F_X12_evenings_227 N r_211.1 0 r_211.2))) else (F_X12_evenings_114 N (F_X12_evenings_100 N n) N x1 x2 x3 (-1) 0 0 S)
set_option maxHeartbeats 4000000 in
set_option maxRecDepth 100000 in
theorem ok_X12_evenings_100 {l : Launch} (d : Nat) (N : Nat) : ∀ (n : Nat) (x1 : Int32) (x2 : Int32) (x3 : Int32) (S : St) (R : Int32 × St), F_X12_evenings_100 N n x1 x2 x3 S = some R → Go l (d + 6) mX12_evenings (Res (some (.int R.1)) R.2) 100 [(0, .ref 63), (1, .int x1), (2, .int x2), (3, .int x3)] [] S := by
  intro n
  induction n with
  | zero => intro x1 x2 x3 S  R hF; cases hF
  | succ n hk100 =>
    intro x1 x2 x3 S  R hF
    have hF : (if x1 ≤ x3 then (if 0 ≤ x2 then (gd (inb x2 20) (F_X12_evenings_227 N (S.2.1 95 (Int32.toNatClampNeg x2)) 0 S)) else ((F_X12_harm N S).bind (fun r_211 => F_X12_evenings_227 N r_211.1 0 r_211.2))) else (F_X12_evenings_114 N (F_X12_evenings_100 N n) N x1 x2 x3 (-1) 0 0 S)) = some R := hF
    refine Go.iload_n dX12_evenings_100 rfl ?_
    refine Go.iload_n dX12_evenings_101 rfl ?_
    refine Go.icmpge (tgt := 206) dX12_evenings_102 (by decide) (fun h_102 => ?_) (fun h_102 => ?_)
    · have hF := ite_t h_102 hF
      refine Go.iload_n dX12_evenings_206 rfl ?_
      refine Go.ifge (tgt := 217) dX12_evenings_207 (by decide) (fun h_207 => ?_) (fun h_207 => ?_)
      · have hF := ite_t h_207 hF
        refine Go.aload_n dX12_evenings_217 rfl ?_
        refine Go.getR dX12_evenings_218 fX12_110 rfl ?_
        refine Go.iload_n dX12_evenings_221 rfl ?_
        obtain ⟨hb_222, hF⟩ := gd_some hF
        refine Go.iald dX12_evenings_222 rfl (inb_ok hb_222) ?_
        refine Go.istore_n (ls' := [(3, _), (0, _), (1, _), (2, _)]) dX12_evenings_223 (by decide) rfl ?_
        refine Go.iconst (v := 0) dX12_evenings_224 (by decide) ?_
        refine Go.istore (ls' := [(4, _), (3, _), (0, _), (1, _), (2, _)]) dX12_evenings_225 (by decide) rfl ?_
        refine Go.pick (ls' := [(0, _), (3, _), (4, _)]) [2, 1, 0] rfl ?_
        exact ok_X12_evenings_227 d N _ _ _ _ hF
      · have hF := ite_f h_207 hF
        refine Go.aload_n dX12_evenings_210 rfl ?_
        obtain ⟨r_211, hc_211, hF⟩ := Option.bind_eq_some_iff.mp hF
        refine Go.callV [] dX12_evenings_211 kX12_harm vX12_harm lX12_321 rfl rfl rfl rfl rfl (Nat.le_of_ble_eq_true rfl) (Nat.le_of_ble_eq_true rfl) (ok_X12_harm (d + 5) N _ _ hc_211) ?_
        refine Go.goto (tgt := 223) dX12_evenings_214 (by decide) ?_
        refine Go.istore_n (ls' := [(3, _), (0, _), (1, _), (2, _)]) dX12_evenings_223 (by decide) rfl ?_
        refine Go.iconst (v := 0) dX12_evenings_224 (by decide) ?_
        refine Go.istore (ls' := [(4, _), (3, _), (0, _), (1, _), (2, _)]) dX12_evenings_225 (by decide) rfl ?_
        refine Go.pick (ls' := [(0, _), (3, _), (4, _)]) [2, 1, 0] rfl ?_
        exact ok_X12_evenings_227 d N _ _ _ _ hF
    · have hF := ite_f h_102 hF
      refine Go.iconst (v := (-1)) dX12_evenings_105 (by decide) ?_
      refine Go.istore (ls' := [(4, _), (0, _), (1, _), (2, _), (3, _)]) dX12_evenings_106 (by decide) rfl ?_
      refine Go.iconst (v := 0) dX12_evenings_108 (by decide) ?_
      refine Go.istore (ls' := [(5, _), (4, _), (0, _), (1, _), (2, _), (3, _)]) dX12_evenings_109 (by decide) rfl ?_
      refine Go.iconst (v := 0) dX12_evenings_111 (by decide) ?_
      refine Go.istore (ls' := [(6, _), (5, _), (4, _), (0, _), (1, _), (2, _), (3, _)]) dX12_evenings_112 (by decide) rfl ?_
      refine Go.pick (ls' := [(0, _), (1, _), (2, _), (3, _), (4, _), (5, _), (6, _)]) [3, 4, 5, 6, 2, 1, 0] rfl ?_
      exact ok_X12_evenings_114 d N (F_X12_evenings_100 N n) hk100 N _ _ _ _ _ _ _ _ hF
def F_X12_evenings_37 (N : Nat) : Nat → Int32 → Int32 → Int32 → St → Option (Int32 × St)
  | 0 => fun _ _ _ _ => none
  | n + 1 => fun x1 x2 x3 S =>
    if (S.1 63 1) ≤ x3 then (F_X12_evenings_100 N N x1 x2 0 S) else (gd (inb x3 20) (gd (inb x3 20) (let S56 := aset S 94 (upd (S.2.1 94) (Int32.toNatClampNeg x3) (S.2.1 70 (Int32.toNatClampNeg x3))); gd (inb x3 20) (let S63 := aset S56 95 (upd (S56.2.1 95) (Int32.toNatClampNeg x3) (0 : Int32)); gd (inb x3 20) (if x3 = 0 then (gd (inb x3 20) (let S91 := aset S63 96 (upd (S63.2.1 96) (Int32.toNatClampNeg x3) ((S63.2.1 67 (Int32.toNatClampNeg x3)) + 0)); (F_X12_evenings_37 N n) x1 x2 (x3 + 1) S91)) else ((F_X12_jumpsFrom N (x3 - 1) S63).bind (fun r_87 => gd (inb x3 20) (let S91 := aset r_87.2 96 (upd (r_87.2.2.1 96) (Int32.toNatClampNeg x3) ((S63.2.1 67 (Int32.toNatClampNeg x3)) + r_87.1)); (F_X12_evenings_37 N n) x1 x2 (x3 + 1) S91))))))))
set_option maxHeartbeats 4000000 in
set_option maxRecDepth 100000 in
theorem ok_X12_evenings_37 {l : Launch} (d : Nat) (N : Nat) : ∀ (n : Nat) (x1 : Int32) (x2 : Int32) (x3 : Int32) (S : St) (R : Int32 × St), F_X12_evenings_37 N n x1 x2 x3 S = some R → Go l (d + 6) mX12_evenings (Res (some (.int R.1)) R.2) 37 [(0, .ref 63), (1, .int x1), (2, .int x2), (3, .int x3)] [] S := by
  intro n
  induction n with
  | zero => intro x1 x2 x3 S  R hF; cases hF
  | succ n hk37 =>
    intro x1 x2 x3 S  R hF
    have hF : (if (S.1 63 1) ≤ x3 then (F_X12_evenings_100 N N x1 x2 0 S) else (gd (inb x3 20) (gd (inb x3 20) (let S56 := aset S 94 (upd (S.2.1 94) (Int32.toNatClampNeg x3) (S.2.1 70 (Int32.toNatClampNeg x3))); gd (inb x3 20) (let S63 := aset S56 95 (upd (S56.2.1 95) (Int32.toNatClampNeg x3) (0 : Int32)); gd (inb x3 20) (if x3 = 0 then (gd (inb x3 20) (let S91 := aset S63 96 (upd (S63.2.1 96) (Int32.toNatClampNeg x3) ((S63.2.1 67 (Int32.toNatClampNeg x3)) + 0)); (F_X12_evenings_37 N n) x1 x2 (x3 + 1) S91)) else ((F_X12_jumpsFrom N (x3 - 1) S63).bind (fun r_87 => gd (inb x3 20) (let S91 := aset r_87.2 96 (upd (r_87.2.2.1 96) (Int32.toNatClampNeg x3) ((S63.2.1 67 (Int32.toNatClampNeg x3)) + r_87.1)); (F_X12_evenings_37 N n) x1 x2 (x3 + 1) S91))))))))) = some R := hF
    refine Go.iload_n dX12_evenings_37 rfl ?_
    refine Go.aload_n dX12_evenings_38 rfl ?_
    refine Go.getI dX12_evenings_39 fX12_141 rfl ?_
    refine Go.icmpge (tgt := 98) dX12_evenings_42 (by decide) (fun h_42 => ?_) (fun h_42 => ?_)
    · have hF := ite_t h_42 hF
      refine Go.iconst (v := 0) dX12_evenings_98 (by decide) ?_
      refine Go.istore_n (ls' := [(3, _), (0, _), (1, _), (2, _)]) dX12_evenings_99 (by decide) rfl ?_
      refine Go.pick (ls' := [(0, _), (1, _), (2, _), (3, _)]) [1, 2, 3, 0] rfl ?_
      exact ok_X12_evenings_100 d N N _ _ _ _ _ hF
    · have hF := ite_f h_42 hF
      refine Go.aload_n dX12_evenings_45 rfl ?_
      refine Go.getR dX12_evenings_46 fX12_107 rfl ?_
      refine Go.iload_n dX12_evenings_49 rfl ?_
      refine Go.aload_n dX12_evenings_50 rfl ?_
      refine Go.getR dX12_evenings_51 fX12_28 rfl ?_
      refine Go.iload_n dX12_evenings_54 rfl ?_
      obtain ⟨hb_55, hF⟩ := gd_some hF
      refine Go.iald dX12_evenings_55 rfl (inb_ok hb_55) ?_
      obtain ⟨hb_56, hF⟩ := gd_some hF
      refine Go.iast dX12_evenings_56 rfl (inb_ok hb_56) ?_
      refine Go.aload_n dX12_evenings_57 rfl ?_
      refine Go.getR dX12_evenings_58 fX12_110 rfl ?_
      refine Go.iload_n dX12_evenings_61 rfl ?_
      refine Go.iconst (v := 0) dX12_evenings_62 (by decide) ?_
      obtain ⟨hb_63, hF⟩ := gd_some hF
      refine Go.iast dX12_evenings_63 rfl (inb_ok hb_63) ?_
      refine Go.aload_n dX12_evenings_64 rfl ?_
      refine Go.getR dX12_evenings_65 fX12_113 rfl ?_
      refine Go.iload_n dX12_evenings_68 rfl ?_
      refine Go.aload_n dX12_evenings_69 rfl ?_
      refine Go.getR dX12_evenings_70 fX12_19 rfl ?_
      refine Go.iload_n dX12_evenings_73 rfl ?_
      obtain ⟨hb_74, hF⟩ := gd_some hF
      refine Go.iald dX12_evenings_74 rfl (inb_ok hb_74) ?_
      refine Go.iload_n dX12_evenings_75 rfl ?_
      refine Go.ifne (tgt := 83) dX12_evenings_76 (by decide) (fun h_76 => ?_) (fun h_76 => ?_)
      · have hF := ite_f h_76 hF
        refine Go.aload_n dX12_evenings_83 rfl ?_
        refine Go.iload_n dX12_evenings_84 rfl ?_
        refine Go.iconst (v := 1) dX12_evenings_85 (by decide) ?_
        refine Go.isub dX12_evenings_86 ?_
        obtain ⟨r_87, hc_87, hF⟩ := Option.bind_eq_some_iff.mp hF
        refine Go.callV [_] dX12_evenings_87 kX12_jumpsFrom vX12_jumpsFrom lX12_274 rfl rfl rfl rfl rfl (Nat.le_of_ble_eq_true rfl) (Nat.le_of_ble_eq_true rfl) (ok_X12_jumpsFrom (d + 4) N _ _ _ hc_87) ?_
        refine Go.iadd dX12_evenings_90 ?_
        obtain ⟨hb_91, hF⟩ := gd_some hF
        refine Go.iast dX12_evenings_91 rfl (inb_ok hb_91) ?_
        refine Go.iincP (ls' := [(3, _), (0, _), (1, _), (2, _)]) dX12_evenings_92 rfl (by decide) rfl ?_
        refine Go.goto (tgt := 37) dX12_evenings_95 (by decide) ?_
        refine Go.pick (ls' := [(0, _), (1, _), (2, _), (3, _)]) [1, 2, 3, 0] rfl ?_
        exact hk37 _ _ _ _ _ hF
      · have hF := ite_t h_76 hF
        refine Go.iconst (v := 0) dX12_evenings_79 (by decide) ?_
        refine Go.goto (tgt := 90) dX12_evenings_80 (by decide) ?_
        refine Go.iadd dX12_evenings_90 ?_
        obtain ⟨hb_91, hF⟩ := gd_some hF
        refine Go.iast dX12_evenings_91 rfl (inb_ok hb_91) ?_
        refine Go.iincP (ls' := [(3, _), (0, _), (1, _), (2, _)]) dX12_evenings_92 rfl (by decide) rfl ?_
        refine Go.goto (tgt := 37) dX12_evenings_95 (by decide) ?_
        refine Go.pick (ls' := [(0, _), (1, _), (2, _), (3, _)]) [1, 2, 3, 0] rfl ?_
        exact hk37 _ _ _ _ _ hF
def F_X12_evenings (N : Nat) (x1 : Int32) (x2 : Int32) (S : St) : Option (Int32 × St) :=
  (F_X12_in x1 (0 : Int32) (30 : Int32) S).bind (fun r_4 => if r_4.1 = 0 then (some ((-1), r_4.2)) else (if x2 = (-1) then (if (r_4.2.1 63 1) = 0 then (some ((-5), r_4.2)) else (F_X12_evenings_37 N N x1 x2 0 r_4.2)) else ((F_X12_isLine x2 r_4.2).bind (fun r_17 => if r_17.1 = 0 then (some ((-1), r_17.2)) else (if (r_17.2.1 63 1) = 0 then (some ((-5), r_17.2)) else (F_X12_evenings_37 N N x1 x2 0 r_17.2))))))
set_option maxHeartbeats 4000000 in
set_option maxRecDepth 100000 in
theorem ok_X12_evenings {l : Launch} (d : Nat) (N : Nat) (x1 : Int32) (x2 : Int32) (S : St) (R : Int32 × St) (hF : F_X12_evenings N x1 x2 S = some R) : Go l (d + 6) mX12_evenings (Res (some (.int R.1)) R.2) 0 [(0, .ref 63), (1, .int x1), (2, .int x2)] [] S := by
  unfold F_X12_evenings at hF
  refine Go.iload_n dX12_evenings_0 rfl ?_
  refine Go.iconst (v := 0) dX12_evenings_1 (by decide) ?_
  refine Go.bipush (v := 30) dX12_evenings_2 (by decide) ?_
  obtain ⟨r_4, hc_4, hF⟩ := Option.bind_eq_some_iff.mp hF
  refine Go.callS [_, _, _] dX12_evenings_4 kX12_in sX12_in lX12_144 rfl rfl (Nat.le_of_ble_eq_true rfl) (Nat.le_of_ble_eq_true rfl) (ok_X12_in (d + 5) _ _ _ _ _ hc_4) ?_
  refine Go.ifeq (tgt := 23) dX12_evenings_7 (by decide) (fun h_7 => ?_) (fun h_7 => ?_)
  · have hF := ite_t h_7 hF
    refine Go.iconst (v := (-1)) dX12_evenings_23 (by decide) ?_
    obtain rfl := Option.some.inj hF
    exact Go.iret (st := []) dX12_evenings_24 rfl rfl ⟨rfl, rfl⟩
  · have hF := ite_f h_7 hF
    refine Go.iload_n dX12_evenings_10 rfl ?_
    refine Go.iconst (v := (-1)) dX12_evenings_11 (by decide) ?_
    refine Go.icmpeq (tgt := 25) dX12_evenings_12 (by decide) (fun h_12 => ?_) (fun h_12 => ?_)
    · have hF := ite_t h_12 hF
      refine Go.aload_n dX12_evenings_25 rfl ?_
      refine Go.getI dX12_evenings_26 fX12_141 rfl ?_
      refine Go.ifne (tgt := 35) dX12_evenings_29 (by decide) (fun h_29 => ?_) (fun h_29 => ?_)
      · have hF := ite_f h_29 hF
        refine Go.iconst (v := 0) dX12_evenings_35 (by decide) ?_
        refine Go.istore_n (ls' := [(3, _), (0, _), (1, _), (2, _)]) dX12_evenings_36 (by decide) rfl ?_
        refine Go.pick (ls' := [(0, _), (1, _), (2, _), (3, _)]) [1, 2, 3, 0] rfl ?_
        exact ok_X12_evenings_37 d N N _ _ _ _ _ hF
      · have hF := ite_t h_29 hF
        refine Go.bipush (v := (-5)) dX12_evenings_32 (by decide) ?_
        obtain rfl := Option.some.inj hF
        exact Go.iret (st := []) dX12_evenings_34 rfl rfl ⟨rfl, rfl⟩
    · have hF := ite_f h_12 hF
      refine Go.aload_n dX12_evenings_15 rfl ?_
      refine Go.iload_n dX12_evenings_16 rfl ?_
      obtain ⟨r_17, hc_17, hF⟩ := Option.bind_eq_some_iff.mp hF
      refine Go.callV [_] dX12_evenings_17 kX12_isLine vX12_isLine lX12_178 rfl rfl rfl rfl rfl (Nat.le_of_ble_eq_true rfl) (Nat.le_of_ble_eq_true rfl) (ok_X12_isLine (d + 4) _ _ _ hc_17) ?_
      refine Go.ifne (tgt := 25) dX12_evenings_20 (by decide) (fun h_20 => ?_) (fun h_20 => ?_)
      · have hF := ite_f h_20 hF
        refine Go.aload_n dX12_evenings_25 rfl ?_
        refine Go.getI dX12_evenings_26 fX12_141 rfl ?_
        refine Go.ifne (tgt := 35) dX12_evenings_29 (by decide) (fun h_29 => ?_) (fun h_29 => ?_)
        · have hF := ite_f h_29 hF
          refine Go.iconst (v := 0) dX12_evenings_35 (by decide) ?_
          refine Go.istore_n (ls' := [(3, _), (0, _), (1, _), (2, _)]) dX12_evenings_36 (by decide) rfl ?_
          refine Go.pick (ls' := [(0, _), (1, _), (2, _), (3, _)]) [1, 2, 3, 0] rfl ?_
          exact ok_X12_evenings_37 d N N _ _ _ _ _ hF
        · have hF := ite_t h_29 hF
          refine Go.bipush (v := (-5)) dX12_evenings_32 (by decide) ?_
          obtain rfl := Option.some.inj hF
          exact Go.iret (st := []) dX12_evenings_34 rfl rfl ⟨rfl, rfl⟩
      · have hF := ite_t h_20 hF
        refine Go.iconst (v := (-1)) dX12_evenings_23 (by decide) ?_
        obtain rfl := Option.some.inj hF
        exact Go.iret (st := []) dX12_evenings_24 rfl rfl ⟨rfl, rfl⟩
def F_X12_isToldWithout_4 : Nat → Int32 → Int32 → Int32 → St → Option (Int32 × St)
  | 0 => fun _ _ _ _ => none
  | n + 1 => fun x1 x2 x3 S =>
    if (S.1 63 1) ≤ x3 then (some (1, S)) else (if ((x1 >>> (x3 &&& 31)) &&& 1) = 1 then ((F_X12_isToldWithout_4 n) x1 x2 (x3 + 1) S) else (gd (inb x3 20) (if ((S.2.1 69 (Int32.toNatClampNeg x3)) &&& (x2 ^^^ (-1))) = 0 then (gd (inb x3 20) ((F_X12_isToldWithout_4 n) x1 (x2 ||| (S.2.1 68 (Int32.toNatClampNeg x3))) (x3 + 1) S)) else (some (0, S)))))
set_option maxHeartbeats 4000000 in
set_option maxRecDepth 100000 in
theorem ok_X12_isToldWithout_4 {l : Launch} (d : Nat) : ∀ (n : Nat) (x1 : Int32) (x2 : Int32) (x3 : Int32) (S : St) (R : Int32 × St), F_X12_isToldWithout_4 n x1 x2 x3 S = some R → Go l (d + 0) mX12_isToldWithout (Res (some (.int R.1)) R.2) 4 [(0, .ref 63), (1, .int x1), (2, .int x2), (3, .int x3)] [] S := by
  intro n
  induction n with
  | zero => intro x1 x2 x3 S  R hF; cases hF
  | succ n hk4 =>
    intro x1 x2 x3 S  R hF
    have hF : (if (S.1 63 1) ≤ x3 then (some (1, S)) else (if ((x1 >>> (x3 &&& 31)) &&& 1) = 1 then ((F_X12_isToldWithout_4 n) x1 x2 (x3 + 1) S) else (gd (inb x3 20) (if ((S.2.1 69 (Int32.toNatClampNeg x3)) &&& (x2 ^^^ (-1))) = 0 then (gd (inb x3 20) ((F_X12_isToldWithout_4 n) x1 (x2 ||| (S.2.1 68 (Int32.toNatClampNeg x3))) (x3 + 1) S)) else (some (0, S)))))) = some R := hF
    refine Go.iload_n dX12_isToldWithout_4 rfl ?_
    refine Go.aload_n dX12_isToldWithout_5 rfl ?_
    refine Go.getI dX12_isToldWithout_6 fX12_141 rfl ?_
    refine Go.icmpge (tgt := 54) dX12_isToldWithout_9 (by decide) (fun h_9 => ?_) (fun h_9 => ?_)
    · have hF := ite_t h_9 hF
      refine Go.iconst (v := 1) dX12_isToldWithout_54 (by decide) ?_
      obtain rfl := Option.some.inj hF
      exact Go.iret (st := []) dX12_isToldWithout_55 rfl rfl ⟨rfl, rfl⟩
    · have hF := ite_f h_9 hF
      refine Go.iload_n dX12_isToldWithout_12 rfl ?_
      refine Go.iload_n dX12_isToldWithout_13 rfl ?_
      refine Go.ishr dX12_isToldWithout_14 ?_
      refine Go.iconst (v := 1) dX12_isToldWithout_15 (by decide) ?_
      refine Go.iand dX12_isToldWithout_16 ?_
      refine Go.iconst (v := 1) dX12_isToldWithout_17 (by decide) ?_
      refine Go.icmpne (tgt := 24) dX12_isToldWithout_18 (by decide) (fun h_18 => ?_) (fun h_18 => ?_)
      · have hF := ite_f h_18 hF
        refine Go.aload_n dX12_isToldWithout_24 rfl ?_
        refine Go.getR dX12_isToldWithout_25 fX12_25 rfl ?_
        refine Go.iload_n dX12_isToldWithout_28 rfl ?_
        obtain ⟨hb_29, hF⟩ := gd_some hF
        refine Go.iald dX12_isToldWithout_29 rfl (inb_ok hb_29) ?_
        refine Go.iload_n dX12_isToldWithout_30 rfl ?_
        refine Go.iconst (v := (-1)) dX12_isToldWithout_31 (by decide) ?_
        refine Go.ixor dX12_isToldWithout_32 ?_
        refine Go.iand dX12_isToldWithout_33 ?_
        refine Go.ifeq (tgt := 39) dX12_isToldWithout_34 (by decide) (fun h_34 => ?_) (fun h_34 => ?_)
        · have hF := ite_t h_34 hF
          refine Go.iload_n dX12_isToldWithout_39 rfl ?_
          refine Go.aload_n dX12_isToldWithout_40 rfl ?_
          refine Go.getR dX12_isToldWithout_41 fX12_22 rfl ?_
          refine Go.iload_n dX12_isToldWithout_44 rfl ?_
          obtain ⟨hb_45, hF⟩ := gd_some hF
          refine Go.iald dX12_isToldWithout_45 rfl (inb_ok hb_45) ?_
          refine Go.ior dX12_isToldWithout_46 ?_
          refine Go.istore_n (ls' := [(2, _), (0, _), (1, _), (3, _)]) dX12_isToldWithout_47 (by decide) rfl ?_
          refine Go.iincP (ls' := [(3, _), (2, _), (0, _), (1, _)]) dX12_isToldWithout_48 rfl (by decide) rfl ?_
          refine Go.goto (tgt := 4) dX12_isToldWithout_51 (by decide) ?_
          refine Go.pick (ls' := [(0, _), (1, _), (2, _), (3, _)]) [2, 3, 1, 0] rfl ?_
          exact hk4 _ _ _ _ _ hF
        · have hF := ite_f h_34 hF
          refine Go.iconst (v := 0) dX12_isToldWithout_37 (by decide) ?_
          obtain rfl := Option.some.inj hF
          exact Go.iret (st := []) dX12_isToldWithout_38 rfl rfl ⟨rfl, rfl⟩
      · have hF := ite_t h_18 hF
        refine Go.goto (tgt := 48) dX12_isToldWithout_21 (by decide) ?_
        refine Go.iincP (ls' := [(3, _), (0, _), (1, _), (2, _)]) dX12_isToldWithout_48 rfl (by decide) rfl ?_
        refine Go.goto (tgt := 4) dX12_isToldWithout_51 (by decide) ?_
        refine Go.pick (ls' := [(0, _), (1, _), (2, _), (3, _)]) [1, 2, 3, 0] rfl ?_
        exact hk4 _ _ _ _ _ hF
def F_X12_isToldWithout (N : Nat) (x1 : Int32) (S : St) : Option (Int32 × St) :=
  F_X12_isToldWithout_4 N x1 0 0 S
set_option maxHeartbeats 4000000 in
set_option maxRecDepth 100000 in
theorem ok_X12_isToldWithout {l : Launch} (d : Nat) (N : Nat) (x1 : Int32) (S : St) (R : Int32 × St) (hF : F_X12_isToldWithout N x1 S = some R) : Go l (d + 0) mX12_isToldWithout (Res (some (.int R.1)) R.2) 0 [(0, .ref 63), (1, .int x1)] [] S := by
  unfold F_X12_isToldWithout at hF
  refine Go.iconst (v := 0) dX12_isToldWithout_0 (by decide) ?_
  refine Go.istore_n (ls' := [(2, _), (0, _), (1, _)]) dX12_isToldWithout_1 (by decide) rfl ?_
  refine Go.iconst (v := 0) dX12_isToldWithout_2 (by decide) ?_
  refine Go.istore_n (ls' := [(3, _), (2, _), (0, _), (1, _)]) dX12_isToldWithout_3 (by decide) rfl ?_
  refine Go.pick (ls' := [(0, _), (1, _), (2, _), (3, _)]) [2, 3, 1, 0] rfl ?_
  exact ok_X12_isToldWithout_4 d N _ _ _ _ _ hF
def F_X12_ringsWithout_15 (k4 : Int32 → Int32 → Int32 → St → Option (Int32 × St)) : Nat → Int32 → Int32 → Int32 → Int32 → St → Option (Int32 × St)
  | 0 => fun _ _ _ _ _ => none
  | n + 1 => fun x1 x2 x3 x4 S =>
    if x3 ≤ x4 then (k4 x1 x2 (x3 + 1) S) else (if ((x1 >>> (x3 &&& 31)) &&& 1) = 0 then (if ((x1 >>> (x4 &&& 31)) &&& 1) = 0 then (gd (inb x4 20) (gd (inb x3 20) (if (S.2.1 65 (Int32.toNatClampNeg x4)) = (S.2.1 66 (Int32.toNatClampNeg x3)) then ((F_X12_ringsWithout_15 k4 n) x1 (x2 + 1) x3 (x4 + 1) S) else ((F_X12_ringsWithout_15 k4 n) x1 x2 x3 (x4 + 1) S)))) else ((F_X12_ringsWithout_15 k4 n) x1 x2 x3 (x4 + 1) S)) else ((F_X12_ringsWithout_15 k4 n) x1 x2 x3 (x4 + 1) S))
set_option maxHeartbeats 4000000 in
set_option maxRecDepth 100000 in
theorem ok_X12_ringsWithout_15 {l : Launch} (d : Nat) (k4 : Int32 → Int32 → Int32 → St → Option (Int32 × St)) (hk4 : ∀ (x1 : Int32) (x2 : Int32) (x3 : Int32) (S : St) (R : Int32 × St), k4 x1 x2 x3 S = some R → Go l (d + 0) mX12_ringsWithout (Res (some (.int R.1)) R.2) 4 [(0, .ref 63), (1, .int x1), (2, .int x2), (3, .int x3)] [] S) : ∀ (n : Nat) (x1 : Int32) (x2 : Int32) (x3 : Int32) (x4 : Int32) (S : St) (R : Int32 × St), F_X12_ringsWithout_15 k4 n x1 x2 x3 x4 S = some R → Go l (d + 0) mX12_ringsWithout (Res (some (.int R.1)) R.2) 15 [(0, .ref 63), (1, .int x1), (2, .int x2), (3, .int x3), (4, .int x4)] [] S := by
  intro n
  induction n with
  | zero => intro x1 x2 x3 x4 S  R hF; cases hF
  | succ n hk15 =>
    intro x1 x2 x3 x4 S  R hF
    have hF : (if x3 ≤ x4 then (k4 x1 x2 (x3 + 1) S) else (if ((x1 >>> (x3 &&& 31)) &&& 1) = 0 then (if ((x1 >>> (x4 &&& 31)) &&& 1) = 0 then (gd (inb x4 20) (gd (inb x3 20) (if (S.2.1 65 (Int32.toNatClampNeg x4)) = (S.2.1 66 (Int32.toNatClampNeg x3)) then ((F_X12_ringsWithout_15 k4 n) x1 (x2 + 1) x3 (x4 + 1) S) else ((F_X12_ringsWithout_15 k4 n) x1 x2 x3 (x4 + 1) S)))) else ((F_X12_ringsWithout_15 k4 n) x1 x2 x3 (x4 + 1) S)) else ((F_X12_ringsWithout_15 k4 n) x1 x2 x3 (x4 + 1) S))) = some R := hF
    refine Go.iload dX12_ringsWithout_15 rfl ?_
    refine Go.iload_n dX12_ringsWithout_17 rfl ?_
    refine Go.icmpge (tgt := 63) dX12_ringsWithout_18 (by decide) (fun h_18 => ?_) (fun h_18 => ?_)
    · have hF := ite_t h_18 hF
      refine Go.iincP (ls' := [(3, _), (0, _), (1, _), (2, _), (4, _)]) dX12_ringsWithout_63 rfl (by decide) rfl ?_
      refine Go.goto (tgt := 4) dX12_ringsWithout_66 (by decide) ?_
      refine Go.pick (ls' := [(0, _), (1, _), (2, _), (3, _)]) [1, 2, 3, 0] rfl ?_
      exact hk4 _ _ _ _ _ hF
    · have hF := ite_f h_18 hF
      refine Go.iload_n dX12_ringsWithout_21 rfl ?_
      refine Go.iload_n dX12_ringsWithout_22 rfl ?_
      refine Go.ishr dX12_ringsWithout_23 ?_
      refine Go.iconst (v := 1) dX12_ringsWithout_24 (by decide) ?_
      refine Go.iand dX12_ringsWithout_25 ?_
      refine Go.ifne (tgt := 57) dX12_ringsWithout_26 (by decide) (fun h_26 => ?_) (fun h_26 => ?_)
      · have hF := ite_f h_26 hF
        refine Go.iincP (ls' := [(4, _), (0, _), (1, _), (2, _), (3, _)]) dX12_ringsWithout_57 rfl (by decide) rfl ?_
        refine Go.goto (tgt := 15) dX12_ringsWithout_60 (by decide) ?_
        refine Go.pick (ls' := [(0, _), (1, _), (2, _), (3, _), (4, _)]) [1, 2, 3, 4, 0] rfl ?_
        exact hk15 _ _ _ _ _ _ hF
      · have hF := ite_t h_26 hF
        refine Go.iload_n dX12_ringsWithout_29 rfl ?_
        refine Go.iload dX12_ringsWithout_30 rfl ?_
        refine Go.ishr dX12_ringsWithout_32 ?_
        refine Go.iconst (v := 1) dX12_ringsWithout_33 (by decide) ?_
        refine Go.iand dX12_ringsWithout_34 ?_
        refine Go.ifne (tgt := 57) dX12_ringsWithout_35 (by decide) (fun h_35 => ?_) (fun h_35 => ?_)
        · have hF := ite_f h_35 hF
          refine Go.iincP (ls' := [(4, _), (0, _), (1, _), (2, _), (3, _)]) dX12_ringsWithout_57 rfl (by decide) rfl ?_
          refine Go.goto (tgt := 15) dX12_ringsWithout_60 (by decide) ?_
          refine Go.pick (ls' := [(0, _), (1, _), (2, _), (3, _), (4, _)]) [1, 2, 3, 4, 0] rfl ?_
          exact hk15 _ _ _ _ _ _ hF
        · have hF := ite_t h_35 hF
          refine Go.aload_n dX12_ringsWithout_38 rfl ?_
          refine Go.getR dX12_ringsWithout_39 fX12_13 rfl ?_
          refine Go.iload dX12_ringsWithout_42 rfl ?_
          obtain ⟨hb_44, hF⟩ := gd_some hF
          refine Go.iald dX12_ringsWithout_44 rfl (inb_ok hb_44) ?_
          refine Go.aload_n dX12_ringsWithout_45 rfl ?_
          refine Go.getR dX12_ringsWithout_46 fX12_16 rfl ?_
          refine Go.iload_n dX12_ringsWithout_49 rfl ?_
          obtain ⟨hb_50, hF⟩ := gd_some hF
          refine Go.iald dX12_ringsWithout_50 rfl (inb_ok hb_50) ?_
          refine Go.icmpne (tgt := 57) dX12_ringsWithout_51 (by decide) (fun h_51 => ?_) (fun h_51 => ?_)
          · have hF := ite_f h_51 hF
            refine Go.iincP (ls' := [(4, _), (0, _), (1, _), (2, _), (3, _)]) dX12_ringsWithout_57 rfl (by decide) rfl ?_
            refine Go.goto (tgt := 15) dX12_ringsWithout_60 (by decide) ?_
            refine Go.pick (ls' := [(0, _), (1, _), (2, _), (3, _), (4, _)]) [1, 2, 3, 4, 0] rfl ?_
            exact hk15 _ _ _ _ _ _ hF
          · have hF := ite_t h_51 hF
            refine Go.iincP (ls' := [(2, _), (0, _), (1, _), (3, _), (4, _)]) dX12_ringsWithout_54 rfl (by decide) rfl ?_
            refine Go.iincP (ls' := [(4, _), (2, _), (0, _), (1, _), (3, _)]) dX12_ringsWithout_57 rfl (by decide) rfl ?_
            refine Go.goto (tgt := 15) dX12_ringsWithout_60 (by decide) ?_
            refine Go.pick (ls' := [(0, _), (1, _), (2, _), (3, _), (4, _)]) [2, 3, 1, 4, 0] rfl ?_
            exact hk15 _ _ _ _ _ _ hF
def F_X12_ringsWithout_4 (N : Nat) : Nat → Int32 → Int32 → Int32 → St → Option (Int32 × St)
  | 0 => fun _ _ _ _ => none
  | n + 1 => fun x1 x2 x3 S =>
    if (S.1 63 1) ≤ x3 then (some (x2, S)) else (F_X12_ringsWithout_15 (F_X12_ringsWithout_4 N n) N x1 x2 x3 0 S)
set_option maxHeartbeats 4000000 in
set_option maxRecDepth 100000 in
theorem ok_X12_ringsWithout_4 {l : Launch} (d : Nat) (N : Nat) : ∀ (n : Nat) (x1 : Int32) (x2 : Int32) (x3 : Int32) (S : St) (R : Int32 × St), F_X12_ringsWithout_4 N n x1 x2 x3 S = some R → Go l (d + 0) mX12_ringsWithout (Res (some (.int R.1)) R.2) 4 [(0, .ref 63), (1, .int x1), (2, .int x2), (3, .int x3)] [] S := by
  intro n
  induction n with
  | zero => intro x1 x2 x3 S  R hF; cases hF
  | succ n hk4 =>
    intro x1 x2 x3 S  R hF
    have hF : (if (S.1 63 1) ≤ x3 then (some (x2, S)) else (F_X12_ringsWithout_15 (F_X12_ringsWithout_4 N n) N x1 x2 x3 0 S)) = some R := hF
    refine Go.iload_n dX12_ringsWithout_4 rfl ?_
    refine Go.aload_n dX12_ringsWithout_5 rfl ?_
    refine Go.getI dX12_ringsWithout_6 fX12_141 rfl ?_
    refine Go.icmpge (tgt := 69) dX12_ringsWithout_9 (by decide) (fun h_9 => ?_) (fun h_9 => ?_)
    · have hF := ite_t h_9 hF
      refine Go.iload_n dX12_ringsWithout_69 rfl ?_
      obtain rfl := Option.some.inj hF
      exact Go.iret (st := []) dX12_ringsWithout_70 rfl rfl ⟨rfl, rfl⟩
    · have hF := ite_f h_9 hF
      refine Go.iconst (v := 0) dX12_ringsWithout_12 (by decide) ?_
      refine Go.istore (ls' := [(4, _), (0, _), (1, _), (2, _), (3, _)]) dX12_ringsWithout_13 (by decide) rfl ?_
      refine Go.pick (ls' := [(0, _), (1, _), (2, _), (3, _), (4, _)]) [1, 2, 3, 4, 0] rfl ?_
      exact ok_X12_ringsWithout_15 d (F_X12_ringsWithout_4 N n) hk4 N _ _ _ _ _ _ hF
def F_X12_ringsWithout (N : Nat) (x1 : Int32) (S : St) : Option (Int32 × St) :=
  F_X12_ringsWithout_4 N N x1 0 0 S
set_option maxHeartbeats 4000000 in
set_option maxRecDepth 100000 in
theorem ok_X12_ringsWithout {l : Launch} (d : Nat) (N : Nat) (x1 : Int32) (S : St) (R : Int32 × St) (hF : F_X12_ringsWithout N x1 S = some R) : Go l (d + 0) mX12_ringsWithout (Res (some (.int R.1)) R.2) 0 [(0, .ref 63), (1, .int x1)] [] S := by
  unfold F_X12_ringsWithout at hF
  refine Go.iconst (v := 0) dX12_ringsWithout_0 (by decide) ?_
  refine Go.istore_n (ls' := [(2, _), (0, _), (1, _)]) dX12_ringsWithout_1 (by decide) rfl ?_
  refine Go.iconst (v := 0) dX12_ringsWithout_2 (by decide) ?_
  refine Go.istore_n (ls' := [(3, _), (2, _), (0, _), (1, _)]) dX12_ringsWithout_3 (by decide) rfl ?_
  refine Go.pick (ls' := [(0, _), (1, _), (2, _), (3, _)]) [2, 3, 1, 0] rfl ?_
  exact ok_X12_ringsWithout_4 d N N _ _ _ _ _ hF
def F_X12_secondsOf_4 : Nat → Int32 → Int32 → Int32 → St → Option (Int32 × St)
  | 0 => fun _ _ _ _ => none
  | n + 1 => fun x1 x2 x3 S =>
    if (S.1 63 1) ≤ x3 then (some (x2, S)) else (if ((x1 >>> (x3 &&& 31)) &&& 1) = 1 then (gd (inb x3 20) ((F_X12_secondsOf_4 n) x1 (x2 + (S.2.1 67 (Int32.toNatClampNeg x3))) (x3 + 1) S)) else ((F_X12_secondsOf_4 n) x1 x2 (x3 + 1) S))
set_option maxHeartbeats 4000000 in
set_option maxRecDepth 100000 in
theorem ok_X12_secondsOf_4 {l : Launch} (d : Nat) : ∀ (n : Nat) (x1 : Int32) (x2 : Int32) (x3 : Int32) (S : St) (R : Int32 × St), F_X12_secondsOf_4 n x1 x2 x3 S = some R → Go l (d + 0) mX12_secondsOf (Res (some (.int R.1)) R.2) 4 [(0, .ref 63), (1, .int x1), (2, .int x2), (3, .int x3)] [] S := by
  intro n
  induction n with
  | zero => intro x1 x2 x3 S  R hF; cases hF
  | succ n hk4 =>
    intro x1 x2 x3 S  R hF
    have hF : (if (S.1 63 1) ≤ x3 then (some (x2, S)) else (if ((x1 >>> (x3 &&& 31)) &&& 1) = 1 then (gd (inb x3 20) ((F_X12_secondsOf_4 n) x1 (x2 + (S.2.1 67 (Int32.toNatClampNeg x3))) (x3 + 1) S)) else ((F_X12_secondsOf_4 n) x1 x2 (x3 + 1) S))) = some R := hF
    refine Go.iload_n dX12_secondsOf_4 rfl ?_
    refine Go.aload_n dX12_secondsOf_5 rfl ?_
    refine Go.getI dX12_secondsOf_6 fX12_141 rfl ?_
    refine Go.icmpge (tgt := 36) dX12_secondsOf_9 (by decide) (fun h_9 => ?_) (fun h_9 => ?_)
    · have hF := ite_t h_9 hF
      refine Go.iload_n dX12_secondsOf_36 rfl ?_
      obtain rfl := Option.some.inj hF
      exact Go.iret (st := []) dX12_secondsOf_37 rfl rfl ⟨rfl, rfl⟩
    · have hF := ite_f h_9 hF
      refine Go.iload_n dX12_secondsOf_12 rfl ?_
      refine Go.iload_n dX12_secondsOf_13 rfl ?_
      refine Go.ishr dX12_secondsOf_14 ?_
      refine Go.iconst (v := 1) dX12_secondsOf_15 (by decide) ?_
      refine Go.iand dX12_secondsOf_16 ?_
      refine Go.iconst (v := 1) dX12_secondsOf_17 (by decide) ?_
      refine Go.icmpne (tgt := 30) dX12_secondsOf_18 (by decide) (fun h_18 => ?_) (fun h_18 => ?_)
      · have hF := ite_f h_18 hF
        refine Go.iincP (ls' := [(3, _), (0, _), (1, _), (2, _)]) dX12_secondsOf_30 rfl (by decide) rfl ?_
        refine Go.goto (tgt := 4) dX12_secondsOf_33 (by decide) ?_
        refine Go.pick (ls' := [(0, _), (1, _), (2, _), (3, _)]) [1, 2, 3, 0] rfl ?_
        exact hk4 _ _ _ _ _ hF
      · have hF := ite_t h_18 hF
        refine Go.iload_n dX12_secondsOf_21 rfl ?_
        refine Go.aload_n dX12_secondsOf_22 rfl ?_
        refine Go.getR dX12_secondsOf_23 fX12_19 rfl ?_
        refine Go.iload_n dX12_secondsOf_26 rfl ?_
        obtain ⟨hb_27, hF⟩ := gd_some hF
        refine Go.iald dX12_secondsOf_27 rfl (inb_ok hb_27) ?_
        refine Go.iadd dX12_secondsOf_28 ?_
        refine Go.istore_n (ls' := [(2, _), (0, _), (1, _), (3, _)]) dX12_secondsOf_29 (by decide) rfl ?_
        refine Go.iincP (ls' := [(3, _), (2, _), (0, _), (1, _)]) dX12_secondsOf_30 rfl (by decide) rfl ?_
        refine Go.goto (tgt := 4) dX12_secondsOf_33 (by decide) ?_
        refine Go.pick (ls' := [(0, _), (1, _), (2, _), (3, _)]) [2, 3, 1, 0] rfl ?_
        exact hk4 _ _ _ _ _ hF
def F_X12_secondsOf (N : Nat) (x1 : Int32) (S : St) : Option (Int32 × St) :=
  F_X12_secondsOf_4 N x1 0 0 S
set_option maxHeartbeats 4000000 in
set_option maxRecDepth 100000 in
theorem ok_X12_secondsOf {l : Launch} (d : Nat) (N : Nat) (x1 : Int32) (S : St) (R : Int32 × St) (hF : F_X12_secondsOf N x1 S = some R) : Go l (d + 0) mX12_secondsOf (Res (some (.int R.1)) R.2) 0 [(0, .ref 63), (1, .int x1)] [] S := by
  unfold F_X12_secondsOf at hF
  refine Go.iconst (v := 0) dX12_secondsOf_0 (by decide) ?_
  refine Go.istore_n (ls' := [(2, _), (0, _), (1, _)]) dX12_secondsOf_1 (by decide) rfl ?_
  refine Go.iconst (v := 0) dX12_secondsOf_2 (by decide) ?_
  refine Go.istore_n (ls' := [(3, _), (2, _), (0, _), (1, _)]) dX12_secondsOf_3 (by decide) rfl ?_
  refine Go.pick (ls' := [(0, _), (1, _), (2, _), (3, _)]) [2, 3, 1, 0] rfl ?_
  exact ok_X12_secondsOf_4 d N _ _ _ _ _ hF
def F_X12_tryCut_31 (N : Nat) (x1 : Int32) (x2 : Int32) (S : St) : Option (St) :=
  if (S.1 63 48) < 0 then (let S85 := fset S 63 48 x1; let S90 := fset S85 63 49 x2; some S90) else (if x2 = (S.1 63 49) then ((F_X12_secondsOf N x1 S).bind (fun r_48 => (F_X12_secondsOf N (r_48.2.1 63 48) r_48.2).bind (fun r_57 => if r_48.1 < r_57.1 then (some r_57.2) else (if r_48.1 = r_57.1 then (if x1 ≤ (r_57.2.1 63 48) then (let S85 := fset r_57.2 63 48 x1; let S90 := fset S85 63 49 x2; some S90) else (some r_57.2)) else (let S85 := fset r_57.2 63 48 x1; let S90 := fset S85 63 49 x2; some S90))))) else (let S85 := fset S 63 48 x1; let S90 := fset S85 63 49 x2; some S90))
set_option maxHeartbeats 4000000 in
set_option maxRecDepth 100000 in
theorem ok_X12_tryCut_31 {l : Launch} (d : Nat) (N : Nat) (x1 : Int32) (x2 : Int32) (S : St) (R : St) (hF : F_X12_tryCut_31 N x1 x2 S = some R) : Go l (d + 1) mX12_tryCut (Res none R) 31 [(0, .ref 63), (1, .int x1), (2, .int x2)] [] S := by
  unfold F_X12_tryCut_31 at hF
  refine Go.aload_n dX12_tryCut_31 rfl ?_
  refine Go.getI dX12_tryCut_32 fX12_330 rfl ?_
  refine Go.iflt (tgt := 83) dX12_tryCut_35 (by decide) (fun h_35 => ?_) (fun h_35 => ?_)
  · have hF := ite_t h_35 hF
    refine Go.aload_n dX12_tryCut_83 rfl ?_
    refine Go.iload_n dX12_tryCut_84 rfl ?_
    refine Go.putI dX12_tryCut_85 fX12_330 rfl ?_
    refine Go.aload_n dX12_tryCut_88 rfl ?_
    refine Go.iload_n dX12_tryCut_89 rfl ?_
    refine Go.putI dX12_tryCut_90 fX12_333 rfl ?_
    obtain rfl := Option.some.inj hF
    exact Go.vret (st := []) dX12_tryCut_93 rfl ⟨rfl, rfl⟩
  · have hF := ite_f h_35 hF
    refine Go.iload_n dX12_tryCut_38 rfl ?_
    refine Go.aload_n dX12_tryCut_39 rfl ?_
    refine Go.getI dX12_tryCut_40 fX12_333 rfl ?_
    refine Go.icmpne (tgt := 83) dX12_tryCut_43 (by decide) (fun h_43 => ?_) (fun h_43 => ?_)
    · have hF := ite_f h_43 hF
      refine Go.aload_n dX12_tryCut_83 rfl ?_
      refine Go.iload_n dX12_tryCut_84 rfl ?_
      refine Go.putI dX12_tryCut_85 fX12_330 rfl ?_
      refine Go.aload_n dX12_tryCut_88 rfl ?_
      refine Go.iload_n dX12_tryCut_89 rfl ?_
      refine Go.putI dX12_tryCut_90 fX12_333 rfl ?_
      obtain rfl := Option.some.inj hF
      exact Go.vret (st := []) dX12_tryCut_93 rfl ⟨rfl, rfl⟩
    · have hF := ite_t h_43 hF
      refine Go.aload_n dX12_tryCut_46 rfl ?_
      refine Go.iload_n dX12_tryCut_47 rfl ?_
      obtain ⟨r_48, hc_48, hF⟩ := Option.bind_eq_some_iff.mp hF
      refine Go.callV [_] dX12_tryCut_48 kX12_secondsOf vX12_secondsOf lX12_336 rfl rfl rfl rfl rfl (Nat.le_of_ble_eq_true rfl) (Nat.le_of_ble_eq_true rfl) (ok_X12_secondsOf (d + 0) N _ _ _ hc_48) ?_
      refine Go.istore_n (ls' := [(3, _), (0, _), (1, _), (2, _)]) dX12_tryCut_51 (by decide) rfl ?_
      refine Go.aload_n dX12_tryCut_52 rfl ?_
      refine Go.aload_n dX12_tryCut_53 rfl ?_
      refine Go.getI dX12_tryCut_54 fX12_330 rfl ?_
      obtain ⟨r_57, hc_57, hF⟩ := Option.bind_eq_some_iff.mp hF
      refine Go.callV [_] dX12_tryCut_57 kX12_secondsOf vX12_secondsOf lX12_336 rfl rfl rfl rfl rfl (Nat.le_of_ble_eq_true rfl) (Nat.le_of_ble_eq_true rfl) (ok_X12_secondsOf (d + 0) N _ _ _ hc_57) ?_
      refine Go.istore (ls' := [(4, _), (3, _), (0, _), (1, _), (2, _)]) dX12_tryCut_60 (by decide) rfl ?_
      refine Go.iload_n dX12_tryCut_62 rfl ?_
      refine Go.iload dX12_tryCut_63 rfl ?_
      refine Go.icmplt (tgt := 82) dX12_tryCut_65 (by decide) (fun h_65 => ?_) (fun h_65 => ?_)
      · have hF := ite_t h_65 hF
        obtain rfl := Option.some.inj hF
        exact Go.vret (st := []) dX12_tryCut_82 rfl ⟨rfl, rfl⟩
      · have hF := ite_f h_65 hF
        refine Go.iload_n dX12_tryCut_68 rfl ?_
        refine Go.iload dX12_tryCut_69 rfl ?_
        refine Go.icmpne (tgt := 83) dX12_tryCut_71 (by decide) (fun h_71 => ?_) (fun h_71 => ?_)
        · have hF := ite_f h_71 hF
          refine Go.aload_n dX12_tryCut_83 rfl ?_
          refine Go.iload_n dX12_tryCut_84 rfl ?_
          refine Go.putI dX12_tryCut_85 fX12_330 rfl ?_
          refine Go.aload_n dX12_tryCut_88 rfl ?_
          refine Go.iload_n dX12_tryCut_89 rfl ?_
          refine Go.putI dX12_tryCut_90 fX12_333 rfl ?_
          obtain rfl := Option.some.inj hF
          exact Go.vret (st := []) dX12_tryCut_93 rfl ⟨rfl, rfl⟩
        · have hF := ite_t h_71 hF
          refine Go.iload_n dX12_tryCut_74 rfl ?_
          refine Go.aload_n dX12_tryCut_75 rfl ?_
          refine Go.getI dX12_tryCut_76 fX12_330 rfl ?_
          refine Go.icmple (tgt := 83) dX12_tryCut_79 (by decide) (fun h_79 => ?_) (fun h_79 => ?_)
          · have hF := ite_t h_79 hF
            refine Go.aload_n dX12_tryCut_83 rfl ?_
            refine Go.iload_n dX12_tryCut_84 rfl ?_
            refine Go.putI dX12_tryCut_85 fX12_330 rfl ?_
            refine Go.aload_n dX12_tryCut_88 rfl ?_
            refine Go.iload_n dX12_tryCut_89 rfl ?_
            refine Go.putI dX12_tryCut_90 fX12_333 rfl ?_
            obtain rfl := Option.some.inj hF
            exact Go.vret (st := []) dX12_tryCut_93 rfl ⟨rfl, rfl⟩
          · have hF := ite_f h_79 hF
            obtain rfl := Option.some.inj hF
            exact Go.vret (st := []) dX12_tryCut_82 rfl ⟨rfl, rfl⟩
def F_X12_tryCut (N : Nat) (x1 : Int32) (S : St) : Option (St) :=
  (F_X12_isToldWithout N x1 S).bind (fun r_2 => if r_2.1 = 0 then (some r_2.2) else ((F_X12_ringsWithout N x1 r_2.2).bind (fun r_11 => if (r_11.2.1 63 48) < 0 then (F_X12_tryCut_31 N x1 r_11.1 r_11.2) else (if r_11.1 ≤ (r_11.2.1 63 49) then (F_X12_tryCut_31 N x1 r_11.1 r_11.2) else (some r_11.2)))))
set_option maxHeartbeats 4000000 in
set_option maxRecDepth 100000 in
theorem ok_X12_tryCut {l : Launch} (d : Nat) (N : Nat) (x1 : Int32) (S : St) (R : St) (hF : F_X12_tryCut N x1 S = some R) : Go l (d + 1) mX12_tryCut (Res none R) 0 [(0, .ref 63), (1, .int x1)] [] S := by
  unfold F_X12_tryCut at hF
  refine Go.aload_n dX12_tryCut_0 rfl ?_
  refine Go.iload_n dX12_tryCut_1 rfl ?_
  obtain ⟨r_2, hc_2, hF⟩ := Option.bind_eq_some_iff.mp hF
  refine Go.callV [_] dX12_tryCut_2 kX12_isToldWithout vX12_isToldWithout lX12_324 rfl rfl rfl rfl rfl (Nat.le_of_ble_eq_true rfl) (Nat.le_of_ble_eq_true rfl) (ok_X12_isToldWithout (d + 0) N _ _ _ hc_2) ?_
  refine Go.ifne (tgt := 9) dX12_tryCut_5 (by decide) (fun h_5 => ?_) (fun h_5 => ?_)
  · have hF := ite_f h_5 hF
    refine Go.aload_n dX12_tryCut_9 rfl ?_
    refine Go.iload_n dX12_tryCut_10 rfl ?_
    obtain ⟨r_11, hc_11, hF⟩ := Option.bind_eq_some_iff.mp hF
    refine Go.callV [_] dX12_tryCut_11 kX12_ringsWithout vX12_ringsWithout lX12_327 rfl rfl rfl rfl rfl (Nat.le_of_ble_eq_true rfl) (Nat.le_of_ble_eq_true rfl) (ok_X12_ringsWithout (d + 0) N _ _ _ hc_11) ?_
    refine Go.istore_n (ls' := [(2, _), (0, _), (1, _)]) dX12_tryCut_14 (by decide) rfl ?_
    refine Go.aload_n dX12_tryCut_15 rfl ?_
    refine Go.getI dX12_tryCut_16 fX12_330 rfl ?_
    refine Go.iflt (tgt := 31) dX12_tryCut_19 (by decide) (fun h_19 => ?_) (fun h_19 => ?_)
    · have hF := ite_t h_19 hF
      refine Go.pick (ls' := [(0, _), (1, _), (2, _)]) [1, 2, 0] rfl ?_
      exact ok_X12_tryCut_31 d N _ _ _ _ hF
    · have hF := ite_f h_19 hF
      refine Go.iload_n dX12_tryCut_22 rfl ?_
      refine Go.aload_n dX12_tryCut_23 rfl ?_
      refine Go.getI dX12_tryCut_24 fX12_333 rfl ?_
      refine Go.icmple (tgt := 31) dX12_tryCut_27 (by decide) (fun h_27 => ?_) (fun h_27 => ?_)
      · have hF := ite_t h_27 hF
        refine Go.pick (ls' := [(0, _), (1, _), (2, _)]) [1, 2, 0] rfl ?_
        exact ok_X12_tryCut_31 d N _ _ _ _ hF
      · have hF := ite_f h_27 hF
        obtain rfl := Option.some.inj hF
        exact Go.vret (st := []) dX12_tryCut_30 rfl ⟨rfl, rfl⟩
  · have hF := ite_t h_5 hF
    obtain rfl := Option.some.inj hF
    exact Go.vret (st := []) dX12_tryCut_8 rfl ⟨rfl, rfl⟩
def F_X12_newspaper_59 (N : Nat) (k41 : Int32 → Int32 → Int32 → Int32 → Int32 → St → Option (Int32 × St)) : Nat → Int32 → Int32 → Int32 → Int32 → Int32 → Int32 → Int32 → Int32 → St → Option (Int32 × St)
  | 0 => fun _ _ _ _ _ _ _ _ _ => none
  | n + 1 => fun x1 x2 x3 x4 x5 x6 x7 x8 S =>
    if (S.1 63 1) ≤ x8 then (if 0 ≤ x6 then (k41 x1 x2 (x3 ||| (1 <<< (x6 &&& 31))) (x4 + x7) (x5 + 1) S) else (k41 x1 x2 x3 x4 (x5 + 1) S)) else ((F_X12_knows N x8 S).bind (fun r_73 => gd (inb x8 20) (gd (inb x8 20) (if (r_73.2.2.1 64 (Int32.toNatClampNeg x8)) = (x1 / 10) then (if ((x3 >>> (x8 &&& 31)) &&& 1) = 1 then ((F_X12_newspaper_59 N k41 n) x1 x2 x3 x4 x5 x6 x7 (x8 + 1) r_73.2) else (if x7 < ((100 - r_73.1) * (r_73.2.2.1 67 (Int32.toNatClampNeg x8))) then ((F_X12_newspaper_59 N k41 n) x1 x2 x3 x4 x5 x8 ((100 - r_73.1) * (r_73.2.2.1 67 (Int32.toNatClampNeg x8))) (x8 + 1) r_73.2) else ((F_X12_newspaper_59 N k41 n) x1 x2 x3 x4 x5 x6 x7 (x8 + 1) r_73.2))) else ((F_X12_newspaper_59 N k41 n) x1 x2 x3 x4 x5 x6 x7 (x8 + 1) r_73.2)))))
set_option maxHeartbeats 4000000 in
set_option maxRecDepth 100000 in
theorem ok_X12_newspaper_59 {l : Launch} (d : Nat) (N : Nat) (k41 : Int32 → Int32 → Int32 → Int32 → Int32 → St → Option (Int32 × St)) (hk41 : ∀ (x1 : Int32) (x2 : Int32) (x3 : Int32) (x4 : Int32) (x5 : Int32) (S : St) (R : Int32 × St), k41 x1 x2 x3 x4 x5 S = some R → Go l (d + 5) mX12_newspaper (Res (some (.int R.1)) R.2) 41 [(0, .ref 63), (1, .int x1), (2, .int x2), (3, .int x3), (4, .int x4), (5, .int x5)] [] S) : ∀ (n : Nat) (x1 : Int32) (x2 : Int32) (x3 : Int32) (x4 : Int32) (x5 : Int32) (x6 : Int32) (x7 : Int32) (x8 : Int32) (S : St) (R : Int32 × St), F_X12_newspaper_59 N k41 n x1 x2 x3 x4 x5 x6 x7 x8 S = some R → Go l (d + 5) mX12_newspaper (Res (some (.int R.1)) R.2) 59 [(0, .ref 63), (1, .int x1), (2, .int x2), (3, .int x3), (4, .int x4), (5, .int x5), (6, .int x6), (7, .int x7), (8, .int x8)] [] S := by
  intro n
  induction n with
  | zero => intro x1 x2 x3 x4 x5 x6 x7 x8 S  R hF; cases hF
  | succ n hk59 =>
    intro x1 x2 x3 x4 x5 x6 x7 x8 S  R hF
    have hF : (if (S.1 63 1) ≤ x8 then (if 0 ≤ x6 then (k41 x1 x2 (x3 ||| (1 <<< (x6 &&& 31))) (x4 + x7) (x5 + 1) S) else (k41 x1 x2 x3 x4 (x5 + 1) S)) else ((F_X12_knows N x8 S).bind (fun r_73 => gd (inb x8 20) (gd (inb x8 20) (if (r_73.2.2.1 64 (Int32.toNatClampNeg x8)) = (x1 / 10) then (if ((x3 >>> (x8 &&& 31)) &&& 1) = 1 then ((F_X12_newspaper_59 N k41 n) x1 x2 x3 x4 x5 x6 x7 (x8 + 1) r_73.2) else (if x7 < ((100 - r_73.1) * (r_73.2.2.1 67 (Int32.toNatClampNeg x8))) then ((F_X12_newspaper_59 N k41 n) x1 x2 x3 x4 x5 x8 ((100 - r_73.1) * (r_73.2.2.1 67 (Int32.toNatClampNeg x8))) (x8 + 1) r_73.2) else ((F_X12_newspaper_59 N k41 n) x1 x2 x3 x4 x5 x6 x7 (x8 + 1) r_73.2))) else ((F_X12_newspaper_59 N k41 n) x1 x2 x3 x4 x5 x6 x7 (x8 + 1) r_73.2)))))) = some R := hF
    refine Go.iload dX12_newspaper_59 rfl ?_
    refine Go.aload_n dX12_newspaper_61 rfl ?_
    refine Go.getI dX12_newspaper_62 fX12_141 rfl ?_
    refine Go.icmpge (tgt := 135) dX12_newspaper_65 (by decide) (fun h_65 => ?_) (fun h_65 => ?_)
    · have hF := ite_t h_65 hF
      refine Go.iload dX12_newspaper_135 rfl ?_
      refine Go.ifge (tgt := 143) dX12_newspaper_137 (by decide) (fun h_137 => ?_) (fun h_137 => ?_)
      · have hF := ite_t h_137 hF
        refine Go.iload_n dX12_newspaper_143 rfl ?_
        refine Go.iconst (v := 1) dX12_newspaper_144 (by decide) ?_
        refine Go.iload dX12_newspaper_145 rfl ?_
        refine Go.ishl dX12_newspaper_147 ?_
        refine Go.ior dX12_newspaper_148 ?_
        refine Go.istore_n (ls' := [(3, _), (0, _), (1, _), (2, _), (4, _), (5, _), (6, _), (7, _), (8, _)]) dX12_newspaper_149 (by decide) rfl ?_
        refine Go.iload dX12_newspaper_150 rfl ?_
        refine Go.iload dX12_newspaper_152 rfl ?_
        refine Go.iadd dX12_newspaper_154 ?_
        refine Go.istore (ls' := [(4, _), (3, _), (0, _), (1, _), (2, _), (5, _), (6, _), (7, _), (8, _)]) dX12_newspaper_155 (by decide) rfl ?_
        refine Go.iincP (ls' := [(5, _), (4, _), (3, _), (0, _), (1, _), (2, _), (6, _), (7, _), (8, _)]) dX12_newspaper_157 rfl (by decide) rfl ?_
        refine Go.goto (tgt := 41) dX12_newspaper_160 (by decide) ?_
        refine Go.pick (ls' := [(0, _), (1, _), (2, _), (3, _), (4, _), (5, _)]) [3, 4, 5, 2, 1, 0] rfl ?_
        exact hk41 _ _ _ _ _ _ _ hF
      · have hF := ite_f h_137 hF
        refine Go.goto (tgt := 157) dX12_newspaper_140 (by decide) ?_
        refine Go.iincP (ls' := [(5, _), (0, _), (1, _), (2, _), (3, _), (4, _), (6, _), (7, _), (8, _)]) dX12_newspaper_157 rfl (by decide) rfl ?_
        refine Go.goto (tgt := 41) dX12_newspaper_160 (by decide) ?_
        refine Go.pick (ls' := [(0, _), (1, _), (2, _), (3, _), (4, _), (5, _)]) [1, 2, 3, 4, 5, 0] rfl ?_
        exact hk41 _ _ _ _ _ _ _ hF
    · have hF := ite_f h_65 hF
      refine Go.bipush (v := 100) dX12_newspaper_68 (by decide) ?_
      refine Go.aload_n dX12_newspaper_70 rfl ?_
      refine Go.iload dX12_newspaper_71 rfl ?_
      obtain ⟨r_73, hc_73, hF⟩ := Option.bind_eq_some_iff.mp hF
      refine Go.callV [_] dX12_newspaper_73 kX12_knows vX12_knows lX12_271 rfl rfl rfl rfl rfl (Nat.le_of_ble_eq_true rfl) (Nat.le_of_ble_eq_true rfl) (ok_X12_knows (d + 0) N _ _ _ hc_73) ?_
      refine Go.isub dX12_newspaper_76 ?_
      refine Go.aload_n dX12_newspaper_77 rfl ?_
      refine Go.getR dX12_newspaper_78 fX12_19 rfl ?_
      refine Go.iload dX12_newspaper_81 rfl ?_
      obtain ⟨hb_83, hF⟩ := gd_some hF
      refine Go.iald dX12_newspaper_83 rfl (inb_ok hb_83) ?_
      refine Go.imul dX12_newspaper_84 ?_
      refine Go.istore (ls' := [(9, _), (0, _), (1, _), (2, _), (3, _), (4, _), (5, _), (6, _), (7, _), (8, _)]) dX12_newspaper_85 (by decide) rfl ?_
      refine Go.aload_n dX12_newspaper_87 rfl ?_
      refine Go.getR dX12_newspaper_88 fX12_7 rfl ?_
      refine Go.iload dX12_newspaper_91 rfl ?_
      obtain ⟨hb_93, hF⟩ := gd_some hF
      refine Go.iald dX12_newspaper_93 rfl (inb_ok hb_93) ?_
      refine Go.iload_n dX12_newspaper_94 rfl ?_
      refine Go.bipush (v := 10) dX12_newspaper_95 (by decide) ?_
      refine Go.idiv dX12_newspaper_97 (by decide) ?_
      refine Go.icmpne (tgt := 129) dX12_newspaper_98 (by decide) (fun h_98 => ?_) (fun h_98 => ?_)
      · have hF := ite_f h_98 hF
        refine Go.iincP (ls' := [(8, _), (9, _), (0, _), (1, _), (2, _), (3, _), (4, _), (5, _), (6, _), (7, _)]) dX12_newspaper_129 rfl (by decide) rfl ?_
        refine Go.goto (tgt := 59) dX12_newspaper_132 (by decide) ?_
        refine Go.pick (ls' := [(0, _), (1, _), (2, _), (3, _), (4, _), (5, _), (6, _), (7, _), (8, _)]) [2, 3, 4, 5, 6, 7, 8, 9, 0] rfl ?_
        exact hk59 _ _ _ _ _ _ _ _ _ _ hF
      · have hF := ite_t h_98 hF
        refine Go.iload_n dX12_newspaper_101 rfl ?_
        refine Go.iload dX12_newspaper_102 rfl ?_
        refine Go.ishr dX12_newspaper_104 ?_
        refine Go.iconst (v := 1) dX12_newspaper_105 (by decide) ?_
        refine Go.iand dX12_newspaper_106 ?_
        refine Go.iconst (v := 1) dX12_newspaper_107 (by decide) ?_
        refine Go.icmpeq (tgt := 129) dX12_newspaper_108 (by decide) (fun h_108 => ?_) (fun h_108 => ?_)
        · have hF := ite_t h_108 hF
          refine Go.iincP (ls' := [(8, _), (9, _), (0, _), (1, _), (2, _), (3, _), (4, _), (5, _), (6, _), (7, _)]) dX12_newspaper_129 rfl (by decide) rfl ?_
          refine Go.goto (tgt := 59) dX12_newspaper_132 (by decide) ?_
          refine Go.pick (ls' := [(0, _), (1, _), (2, _), (3, _), (4, _), (5, _), (6, _), (7, _), (8, _)]) [2, 3, 4, 5, 6, 7, 8, 9, 0] rfl ?_
          exact hk59 _ _ _ _ _ _ _ _ _ _ hF
        · have hF := ite_f h_108 hF
          refine Go.iload dX12_newspaper_111 rfl ?_
          refine Go.iload dX12_newspaper_113 rfl ?_
          refine Go.icmpgt (tgt := 121) dX12_newspaper_115 (by decide) (fun h_115 => ?_) (fun h_115 => ?_)
          · have hF := ite_t h_115 hF
            refine Go.iload dX12_newspaper_121 rfl ?_
            refine Go.istore (ls' := [(6, _), (9, _), (0, _), (1, _), (2, _), (3, _), (4, _), (5, _), (7, _), (8, _)]) dX12_newspaper_123 (by decide) rfl ?_
            refine Go.iload dX12_newspaper_125 rfl ?_
            refine Go.istore (ls' := [(7, _), (6, _), (9, _), (0, _), (1, _), (2, _), (3, _), (4, _), (5, _), (8, _)]) dX12_newspaper_127 (by decide) rfl ?_
            refine Go.iincP (ls' := [(8, _), (7, _), (6, _), (9, _), (0, _), (1, _), (2, _), (3, _), (4, _), (5, _)]) dX12_newspaper_129 rfl (by decide) rfl ?_
            refine Go.goto (tgt := 59) dX12_newspaper_132 (by decide) ?_
            refine Go.pick (ls' := [(0, _), (1, _), (2, _), (3, _), (4, _), (5, _), (6, _), (7, _), (8, _)]) [4, 5, 6, 7, 8, 9, 2, 1, 0] rfl ?_
            exact hk59 _ _ _ _ _ _ _ _ _ _ hF
          · have hF := ite_f h_115 hF
            refine Go.goto (tgt := 129) dX12_newspaper_118 (by decide) ?_
            refine Go.iincP (ls' := [(8, _), (9, _), (0, _), (1, _), (2, _), (3, _), (4, _), (5, _), (6, _), (7, _)]) dX12_newspaper_129 rfl (by decide) rfl ?_
            refine Go.goto (tgt := 59) dX12_newspaper_132 (by decide) ?_
            refine Go.pick (ls' := [(0, _), (1, _), (2, _), (3, _), (4, _), (5, _), (6, _), (7, _), (8, _)]) [2, 3, 4, 5, 6, 7, 8, 9, 0] rfl ?_
            exact hk59 _ _ _ _ _ _ _ _ _ _ hF
def F_X12_newspaper_41 (N : Nat) : Nat → Int32 → Int32 → Int32 → Int32 → Int32 → St → Option (Int32 × St)
  | 0 => fun _ _ _ _ _ _ => none
  | n + 1 => fun x1 x2 x3 x4 x5 S =>
    if (x1 - (x1 / 10) * 10) ≤ x5 then (if x2 = 0 then (some (x3, S)) else (some (x4, S))) else (F_X12_newspaper_59 N (F_X12_newspaper_41 N n) N x1 x2 x3 x4 x5 (-1) 0 0 S)
set_option maxHeartbeats 4000000 in
set_option maxRecDepth 100000 in
theorem ok_X12_newspaper_41 {l : Launch} (d : Nat) (N : Nat) : ∀ (n : Nat) (x1 : Int32) (x2 : Int32) (x3 : Int32) (x4 : Int32) (x5 : Int32) (S : St) (R : Int32 × St), F_X12_newspaper_41 N n x1 x2 x3 x4 x5 S = some R → Go l (d + 5) mX12_newspaper (Res (some (.int R.1)) R.2) 41 [(0, .ref 63), (1, .int x1), (2, .int x2), (3, .int x3), (4, .int x4), (5, .int x5)] [] S := by
  intro n
  induction n with
  | zero => intro x1 x2 x3 x4 x5 S  R hF; cases hF
  | succ n hk41 =>
    intro x1 x2 x3 x4 x5 S  R hF
    have hF : (if (x1 - (x1 / 10) * 10) ≤ x5 then (if x2 = 0 then (some (x3, S)) else (some (x4, S))) else (F_X12_newspaper_59 N (F_X12_newspaper_41 N n) N x1 x2 x3 x4 x5 (-1) 0 0 S)) = some R := hF
    refine Go.iload dX12_newspaper_41 rfl ?_
    refine Go.iload_n dX12_newspaper_43 rfl ?_
    refine Go.bipush (v := 10) dX12_newspaper_44 (by decide) ?_
    refine Go.irem dX12_newspaper_46 (by decide) ?_
    refine Go.icmpge (tgt := 163) dX12_newspaper_47 (by decide) (fun h_47 => ?_) (fun h_47 => ?_)
    · have hF := ite_t h_47 hF
      refine Go.iload_n dX12_newspaper_163 rfl ?_
      refine Go.ifne (tgt := 171) dX12_newspaper_164 (by decide) (fun h_164 => ?_) (fun h_164 => ?_)
      · have hF := ite_f h_164 hF
        refine Go.iload dX12_newspaper_171 rfl ?_
        obtain rfl := Option.some.inj hF
        exact Go.iret (st := []) dX12_newspaper_173 rfl rfl ⟨rfl, rfl⟩
      · have hF := ite_t h_164 hF
        refine Go.iload_n dX12_newspaper_167 rfl ?_
        refine Go.goto (tgt := 173) dX12_newspaper_168 (by decide) ?_
        obtain rfl := Option.some.inj hF
        exact Go.iret (st := []) dX12_newspaper_173 rfl rfl ⟨rfl, rfl⟩
    · have hF := ite_f h_47 hF
      refine Go.iconst (v := (-1)) dX12_newspaper_50 (by decide) ?_
      refine Go.istore (ls' := [(6, _), (0, _), (1, _), (2, _), (3, _), (4, _), (5, _)]) dX12_newspaper_51 (by decide) rfl ?_
      refine Go.iconst (v := 0) dX12_newspaper_53 (by decide) ?_
      refine Go.istore (ls' := [(7, _), (6, _), (0, _), (1, _), (2, _), (3, _), (4, _), (5, _)]) dX12_newspaper_54 (by decide) rfl ?_
      refine Go.iconst (v := 0) dX12_newspaper_56 (by decide) ?_
      refine Go.istore (ls' := [(8, _), (7, _), (6, _), (0, _), (1, _), (2, _), (3, _), (4, _), (5, _)]) dX12_newspaper_57 (by decide) rfl ?_
      refine Go.pick (ls' := [(0, _), (1, _), (2, _), (3, _), (4, _), (5, _), (6, _), (7, _), (8, _)]) [3, 4, 5, 6, 7, 8, 2, 1, 0] rfl ?_
      exact ok_X12_newspaper_59 d N (F_X12_newspaper_41 N n) hk41 N _ _ _ _ _ _ _ _ _ _ hF
def F_X12_newspaper (N : Nat) (x1 : Int32) (x2 : Int32) (S : St) : Option (Int32 × St) :=
  if x1 < 0 then (some ((-1), S)) else ((F_X12_isPart (x1 / 10) S).bind (fun r_8 => if r_8.1 = 0 then (some ((-1), r_8.2)) else (if 5 < (x1 - (x1 / 10) * 10) then (some ((-1), r_8.2)) else ((F_X12_in x2 (0 : Int32) (1 : Int32) r_8.2).bind (fun r_25 => if r_25.1 = 0 then (some ((-1), r_25.2)) else (F_X12_newspaper_41 N N x1 x2 0 0 0 r_25.2))))))
set_option maxHeartbeats 4000000 in
set_option maxRecDepth 100000 in
theorem ok_X12_newspaper {l : Launch} (d : Nat) (N : Nat) (x1 : Int32) (x2 : Int32) (S : St) (R : Int32 × St) (hF : F_X12_newspaper N x1 x2 S = some R) : Go l (d + 5) mX12_newspaper (Res (some (.int R.1)) R.2) 0 [(0, .ref 63), (1, .int x1), (2, .int x2)] [] S := by
  unfold F_X12_newspaper at hF
  refine Go.iload_n dX12_newspaper_0 rfl ?_
  refine Go.iflt (tgt := 31) dX12_newspaper_1 (by decide) (fun h_1 => ?_) (fun h_1 => ?_)
  · have hF := ite_t h_1 hF
    refine Go.iconst (v := (-1)) dX12_newspaper_31 (by decide) ?_
    obtain rfl := Option.some.inj hF
    exact Go.iret (st := []) dX12_newspaper_32 rfl rfl ⟨rfl, rfl⟩
  · have hF := ite_f h_1 hF
    refine Go.iload_n dX12_newspaper_4 rfl ?_
    refine Go.bipush (v := 10) dX12_newspaper_5 (by decide) ?_
    refine Go.idiv dX12_newspaper_7 (by decide) ?_
    obtain ⟨r_8, hc_8, hF⟩ := Option.bind_eq_some_iff.mp hF
    refine Go.callS [_] dX12_newspaper_8 kX12_isPart sX12_isPart lX12_158 rfl rfl (Nat.le_of_ble_eq_true rfl) (Nat.le_of_ble_eq_true rfl) (ok_X12_isPart (d + 3) _ _ _ hc_8) ?_
    refine Go.ifeq (tgt := 31) dX12_newspaper_11 (by decide) (fun h_11 => ?_) (fun h_11 => ?_)
    · have hF := ite_t h_11 hF
      refine Go.iconst (v := (-1)) dX12_newspaper_31 (by decide) ?_
      obtain rfl := Option.some.inj hF
      exact Go.iret (st := []) dX12_newspaper_32 rfl rfl ⟨rfl, rfl⟩
    · have hF := ite_f h_11 hF
      refine Go.iload_n dX12_newspaper_14 rfl ?_
      refine Go.bipush (v := 10) dX12_newspaper_15 (by decide) ?_
      refine Go.irem dX12_newspaper_17 (by decide) ?_
      refine Go.iconst (v := 5) dX12_newspaper_18 (by decide) ?_
      refine Go.icmpgt (tgt := 31) dX12_newspaper_19 (by decide) (fun h_19 => ?_) (fun h_19 => ?_)
      · have hF := ite_t h_19 hF
        refine Go.iconst (v := (-1)) dX12_newspaper_31 (by decide) ?_
        obtain rfl := Option.some.inj hF
        exact Go.iret (st := []) dX12_newspaper_32 rfl rfl ⟨rfl, rfl⟩
      · have hF := ite_f h_19 hF
        refine Go.iload_n dX12_newspaper_22 rfl ?_
        refine Go.iconst (v := 0) dX12_newspaper_23 (by decide) ?_
        refine Go.iconst (v := 1) dX12_newspaper_24 (by decide) ?_
        obtain ⟨r_25, hc_25, hF⟩ := Option.bind_eq_some_iff.mp hF
        refine Go.callS [_, _, _] dX12_newspaper_25 kX12_in sX12_in lX12_144 rfl rfl (Nat.le_of_ble_eq_true rfl) (Nat.le_of_ble_eq_true rfl) (ok_X12_in (d + 4) _ _ _ _ _ hc_25) ?_
        refine Go.ifne (tgt := 33) dX12_newspaper_28 (by decide) (fun h_28 => ?_) (fun h_28 => ?_)
        · have hF := ite_f h_28 hF
          refine Go.iconst (v := 0) dX12_newspaper_33 (by decide) ?_
          refine Go.istore_n (ls' := [(3, _), (0, _), (1, _), (2, _)]) dX12_newspaper_34 (by decide) rfl ?_
          refine Go.iconst (v := 0) dX12_newspaper_35 (by decide) ?_
          refine Go.istore (ls' := [(4, _), (3, _), (0, _), (1, _), (2, _)]) dX12_newspaper_36 (by decide) rfl ?_
          refine Go.iconst (v := 0) dX12_newspaper_38 (by decide) ?_
          refine Go.istore (ls' := [(5, _), (4, _), (3, _), (0, _), (1, _), (2, _)]) dX12_newspaper_39 (by decide) rfl ?_
          refine Go.pick (ls' := [(0, _), (1, _), (2, _), (3, _), (4, _), (5, _)]) [3, 4, 5, 2, 1, 0] rfl ?_
          exact ok_X12_newspaper_41 d N N _ _ _ _ _ _ _ hF
        · have hF := ite_t h_28 hF
          refine Go.iconst (v := (-1)) dX12_newspaper_31 (by decide) ?_
          obtain rfl := Option.some.inj hF
          exact Go.iret (st := []) dX12_newspaper_32 rfl rfl ⟨rfl, rfl⟩
def F_X12_image_31 : Nat → Int32 → St → Option (Int32 × St)
  | 0 => fun _ _ => none
  | n + 1 => fun x1 S =>
    if (S.1 63 1) ≤ x1 then (some (S.1 63 1, S)) else (gd (inb x1 20) (gd (inb x1 20) (let S50 := aset S 97 (upd (S.2.1 97) (Int32.toNatClampNeg x1) (S.2.1 70 (Int32.toNatClampNeg x1))); (F_X12_image_31 n) (x1 + 1) S50)))
set_option maxHeartbeats 4000000 in
set_option maxRecDepth 100000 in
theorem ok_X12_image_31 {l : Launch} (d : Nat) : ∀ (n : Nat) (x1 : Int32) (S : St) (R : Int32 × St), F_X12_image_31 n x1 S = some R → Go l (d + 0) mX12_image (Res (some (.int R.1)) R.2) 31 [(0, .ref 63), (1, .int x1)] [] S := by
  intro n
  induction n with
  | zero => intro x1 S  R hF; cases hF
  | succ n hk31 =>
    intro x1 S  R hF
    have hF : (if (S.1 63 1) ≤ x1 then (some (S.1 63 1, S)) else (gd (inb x1 20) (gd (inb x1 20) (let S50 := aset S 97 (upd (S.2.1 97) (Int32.toNatClampNeg x1) (S.2.1 70 (Int32.toNatClampNeg x1))); (F_X12_image_31 n) (x1 + 1) S50)))) = some R := hF
    refine Go.iload_n dX12_image_31 rfl ?_
    refine Go.aload_n dX12_image_32 rfl ?_
    refine Go.getI dX12_image_33 fX12_141 rfl ?_
    refine Go.icmpge (tgt := 57) dX12_image_36 (by decide) (fun h_36 => ?_) (fun h_36 => ?_)
    · have hF := ite_t h_36 hF
      refine Go.aload_n dX12_image_57 rfl ?_
      refine Go.getI dX12_image_58 fX12_141 rfl ?_
      obtain rfl := Option.some.inj hF
      exact Go.iret (st := []) dX12_image_61 rfl rfl ⟨rfl, rfl⟩
    · have hF := ite_f h_36 hF
      refine Go.aload_n dX12_image_39 rfl ?_
      refine Go.getR dX12_image_40 fX12_116 rfl ?_
      refine Go.iload_n dX12_image_43 rfl ?_
      refine Go.aload_n dX12_image_44 rfl ?_
      refine Go.getR dX12_image_45 fX12_28 rfl ?_
      refine Go.iload_n dX12_image_48 rfl ?_
      obtain ⟨hb_49, hF⟩ := gd_some hF
      refine Go.iald dX12_image_49 rfl (inb_ok hb_49) ?_
      obtain ⟨hb_50, hF⟩ := gd_some hF
      refine Go.iast dX12_image_50 rfl (inb_ok hb_50) ?_
      refine Go.iincP (ls' := [(1, _), (0, _)]) dX12_image_51 rfl (by decide) rfl ?_
      refine Go.goto (tgt := 31) dX12_image_54 (by decide) ?_
      refine Go.pick (ls' := [(0, _), (1, _)]) [1, 0] rfl ?_
      exact hk31 _ _ _ hF
def F_X12_image (N : Nat) (S : St) : Option (Int32 × St) :=
  let S2 := fset S 63 50 1; let S10 := fset S2 63 51 (S2.1 63 1); let S18 := fset S10 63 53 (S10.1 63 10); let S26 := fset S18 63 54 (S18.1 63 11); F_X12_image_31 N 0 S26
set_option maxHeartbeats 4000000 in
set_option maxRecDepth 100000 in
theorem ok_X12_image {l : Launch} (d : Nat) (N : Nat) (S : St) (R : Int32 × St) (hF : F_X12_image N S = some R) : Go l (d + 0) mX12_image (Res (some (.int R.1)) R.2) 0 [(0, .ref 63)] [] S := by
  unfold F_X12_image at hF
  refine Go.aload_n dX12_image_0 rfl ?_
  refine Go.iconst (v := 1) dX12_image_1 (by decide) ?_
  refine Go.putG dX12_image_2 fX12_345 rfl rfl rfl ?_
  refine Go.aload_n dX12_image_5 rfl ?_
  refine Go.aload_n dX12_image_6 rfl ?_
  refine Go.getI dX12_image_7 fX12_141 rfl ?_
  refine Go.putI dX12_image_10 fX12_348 rfl ?_
  refine Go.aload_n dX12_image_13 rfl ?_
  refine Go.aload_n dX12_image_14 rfl ?_
  refine Go.getI dX12_image_15 fX12_34 rfl ?_
  refine Go.putI dX12_image_18 fX12_351 rfl ?_
  refine Go.aload_n dX12_image_21 rfl ?_
  refine Go.aload_n dX12_image_22 rfl ?_
  refine Go.getI dX12_image_23 fX12_161 rfl ?_
  refine Go.putI dX12_image_26 fX12_354 rfl ?_
  refine Go.iconst (v := 0) dX12_image_29 (by decide) ?_
  refine Go.istore_n (ls' := [(1, _), (0, _)]) dX12_image_30 (by decide) rfl ?_
  refine Go.pick (ls' := [(0, _), (1, _)]) [1, 0] rfl ?_
  exact ok_X12_image_31 d N _ _ _ hF
def F_X12_back_28 : Nat → Int32 → St → Option (Int32 × St)
  | 0 => fun _ _ => none
  | n + 1 => fun x1 S =>
    if (S.1 63 51) ≤ x1 then (let S56 := fset S 63 12 0; let S61 := fset S56 63 13 0; some (S61.1 63 51, S61)) else (gd (inb x1 20) (gd (inb x1 20) (let S47 := aset S 70 (upd (S.2.1 70) (Int32.toNatClampNeg x1) (S.2.1 97 (Int32.toNatClampNeg x1))); (F_X12_back_28 n) (x1 + 1) S47)))
set_option maxHeartbeats 4000000 in
set_option maxRecDepth 100000 in
theorem ok_X12_back_28 {l : Launch} (d : Nat) : ∀ (n : Nat) (x1 : Int32) (S : St) (R : Int32 × St), F_X12_back_28 n x1 S = some R → Go l (d + 0) mX12_back (Res (some (.int R.1)) R.2) 28 [(0, .ref 63), (1, .int x1)] [] S := by
  intro n
  induction n with
  | zero => intro x1 S  R hF; cases hF
  | succ n hk28 =>
    intro x1 S  R hF
    have hF : (if (S.1 63 51) ≤ x1 then (let S56 := fset S 63 12 0; let S61 := fset S56 63 13 0; some (S61.1 63 51, S61)) else (gd (inb x1 20) (gd (inb x1 20) (let S47 := aset S 70 (upd (S.2.1 70) (Int32.toNatClampNeg x1) (S.2.1 97 (Int32.toNatClampNeg x1))); (F_X12_back_28 n) (x1 + 1) S47)))) = some R := hF
    refine Go.iload_n dX12_back_28 rfl ?_
    refine Go.aload_n dX12_back_29 rfl ?_
    refine Go.getI dX12_back_30 fX12_348 rfl ?_
    refine Go.icmpge (tgt := 54) dX12_back_33 (by decide) (fun h_33 => ?_) (fun h_33 => ?_)
    · have hF := ite_t h_33 hF
      refine Go.aload_n dX12_back_54 rfl ?_
      refine Go.iconst (v := 0) dX12_back_55 (by decide) ?_
      refine Go.putI dX12_back_56 fX12_171 rfl ?_
      refine Go.aload_n dX12_back_59 rfl ?_
      refine Go.iconst (v := 0) dX12_back_60 (by decide) ?_
      refine Go.putI dX12_back_61 fX12_168 rfl ?_
      refine Go.aload_n dX12_back_64 rfl ?_
      refine Go.getI dX12_back_65 fX12_348 rfl ?_
      obtain rfl := Option.some.inj hF
      exact Go.iret (st := []) dX12_back_68 rfl rfl ⟨rfl, rfl⟩
    · have hF := ite_f h_33 hF
      refine Go.aload_n dX12_back_36 rfl ?_
      refine Go.getR dX12_back_37 fX12_28 rfl ?_
      refine Go.iload_n dX12_back_40 rfl ?_
      refine Go.aload_n dX12_back_41 rfl ?_
      refine Go.getR dX12_back_42 fX12_116 rfl ?_
      refine Go.iload_n dX12_back_45 rfl ?_
      obtain ⟨hb_46, hF⟩ := gd_some hF
      refine Go.iald dX12_back_46 rfl (inb_ok hb_46) ?_
      obtain ⟨hb_47, hF⟩ := gd_some hF
      refine Go.iast dX12_back_47 rfl (inb_ok hb_47) ?_
      refine Go.iincP (ls' := [(1, _), (0, _)]) dX12_back_48 rfl (by decide) rfl ?_
      refine Go.goto (tgt := 28) dX12_back_51 (by decide) ?_
      refine Go.pick (ls' := [(0, _), (1, _)]) [1, 0] rfl ?_
      exact hk28 _ _ _ hF
def F_X12_back (N : Nat) (S : St) : Option (Int32 × St) :=
  if (S.1 63 50) = 0 then (some ((-5), S)) else (let S15 := fset S 63 10 (S.1 63 53); let S23 := fset S15 63 11 (S15.1 63 54); F_X12_back_28 N 0 S23)
set_option maxHeartbeats 4000000 in
set_option maxRecDepth 100000 in
theorem ok_X12_back {l : Launch} (d : Nat) (N : Nat) (S : St) (R : Int32 × St) (hF : F_X12_back N S = some R) : Go l (d + 0) mX12_back (Res (some (.int R.1)) R.2) 0 [(0, .ref 63)] [] S := by
  unfold F_X12_back at hF
  refine Go.aload_n dX12_back_0 rfl ?_
  refine Go.getI dX12_back_1 fX12_345 rfl ?_
  refine Go.ifne (tgt := 10) dX12_back_4 (by decide) (fun h_4 => ?_) (fun h_4 => ?_)
  · have hF := ite_f h_4 hF
    refine Go.aload_n dX12_back_10 rfl ?_
    refine Go.aload_n dX12_back_11 rfl ?_
    refine Go.getI dX12_back_12 fX12_351 rfl ?_
    refine Go.putI dX12_back_15 fX12_34 rfl ?_
    refine Go.aload_n dX12_back_18 rfl ?_
    refine Go.aload_n dX12_back_19 rfl ?_
    refine Go.getI dX12_back_20 fX12_354 rfl ?_
    refine Go.putI dX12_back_23 fX12_161 rfl ?_
    refine Go.iconst (v := 0) dX12_back_26 (by decide) ?_
    refine Go.istore_n (ls' := [(1, _), (0, _)]) dX12_back_27 (by decide) rfl ?_
    refine Go.pick (ls' := [(0, _), (1, _)]) [1, 0] rfl ?_
    exact ok_X12_back_28 d N _ _ _ hF
  · have hF := ite_t h_4 hF
    refine Go.bipush (v := (-5)) dX12_back_7 (by decide) ?_
    obtain rfl := Option.some.inj hF
    exact Go.iret (st := []) dX12_back_9 rfl rfl ⟨rfl, rfl⟩
def F_X12_isBody (x1 : Int32) (S : St) : Option (Int32 × St) :=
  (F_X12_in x1 (0 : Int32) ((S.1 63 55) - 1) S).bind (fun r_8 => gd (decide (r_8.1 = 0 ∨ r_8.1 = 1)) (some (r_8.1, r_8.2)))
set_option maxHeartbeats 4000000 in
set_option maxRecDepth 100000 in
theorem ok_X12_isBody {l : Launch} (d : Nat) (x1 : Int32) (S : St) (R : Int32 × St) (hF : F_X12_isBody x1 S = some R) : Go l (d + 1) mX12_isBody (Res (some (.int R.1)) R.2) 0 [(0, .ref 63), (1, .int x1)] [] S := by
  unfold F_X12_isBody at hF
  refine Go.iload_n dX12_isBody_0 rfl ?_
  refine Go.iconst (v := 0) dX12_isBody_1 (by decide) ?_
  refine Go.aload_n dX12_isBody_2 rfl ?_
  refine Go.getI dX12_isBody_3 fX12_357 rfl ?_
  refine Go.iconst (v := 1) dX12_isBody_6 (by decide) ?_
  refine Go.isub dX12_isBody_7 ?_
  obtain ⟨r_8, hc_8, hF⟩ := Option.bind_eq_some_iff.mp hF
  refine Go.callS [_, _, _] dX12_isBody_8 kX12_in sX12_in lX12_144 rfl rfl (Nat.le_of_ble_eq_true rfl) (Nat.le_of_ble_eq_true rfl) (ok_X12_in (d + 0) _ _ _ _ _ hc_8) ?_
  obtain ⟨hb_11, hF⟩ := gd_some hF
  obtain rfl := Option.some.inj hF
  exact Go.iret (st := []) dX12_isBody_11 rfl (nar01 (of_decide_eq_true hb_11)) ⟨rfl, rfl⟩
def F_X12_ran (x1 : Int32) (S : St) : Option (St) :=
  if 24 ≤ (S.1 63 57) then (let S26 := fset S 63 57 ((S.1 63 57) + 1); some S26) else (gd (inb (S.1 63 57) 24) (let S18 := aset S 99 (upd (S.2.1 99) (Int32.toNatClampNeg (S.1 63 57)) x1); let S26 := fset S18 63 57 ((S18.1 63 57) + 1); some S26))
set_option maxHeartbeats 4000000 in
set_option maxRecDepth 100000 in
theorem ok_X12_ran {l : Launch} (d : Nat) (x1 : Int32) (S : St) (R : St) (hF : F_X12_ran x1 S = some R) : Go l (d + 0) mX12_ran (Res none R) 0 [(0, .ref 63), (1, .int x1)] [] S := by
  unfold F_X12_ran at hF
  refine Go.aload_n dX12_ran_0 rfl ?_
  refine Go.getI dX12_ran_1 fX12_360 rfl ?_
  refine Go.bipush (v := 24) dX12_ran_4 (by decide) ?_
  refine Go.icmpge (tgt := 19) dX12_ran_6 (by decide) (fun h_6 => ?_) (fun h_6 => ?_)
  · have hF := ite_t h_6 hF
    refine Go.aload_n dX12_ran_19 rfl ?_
    refine Go.dup dX12_ran_20 rfl ?_
    refine Go.getI dX12_ran_21 fX12_360 rfl ?_
    refine Go.iconst (v := 1) dX12_ran_24 (by decide) ?_
    refine Go.iadd dX12_ran_25 ?_
    refine Go.putI dX12_ran_26 fX12_360 rfl ?_
    obtain rfl := Option.some.inj hF
    exact Go.vret (st := []) dX12_ran_29 rfl ⟨rfl, rfl⟩
  · have hF := ite_f h_6 hF
    refine Go.aload_n dX12_ran_9 rfl ?_
    refine Go.getR dX12_ran_10 fX12_122 rfl ?_
    refine Go.aload_n dX12_ran_13 rfl ?_
    refine Go.getI dX12_ran_14 fX12_360 rfl ?_
    refine Go.iload_n dX12_ran_17 rfl ?_
    obtain ⟨hb_18, hF⟩ := gd_some hF
    refine Go.iast dX12_ran_18 rfl (inb_ok hb_18) ?_
    refine Go.aload_n dX12_ran_19 rfl ?_
    refine Go.dup dX12_ran_20 rfl ?_
    refine Go.getI dX12_ran_21 fX12_360 rfl ?_
    refine Go.iconst (v := 1) dX12_ran_24 (by decide) ?_
    refine Go.iadd dX12_ran_25 ?_
    refine Go.putI dX12_ran_26 fX12_360 rfl ?_
    obtain rfl := Option.some.inj hF
    exact Go.vret (st := []) dX12_ran_29 rfl ⟨rfl, rfl⟩
def F_X12_trace (x1 : Int32) (S : St) : Option (Int32 × St) :=
  if x1 < 0 then (some ((-1), S)) else (if (S.1 63 57) ≤ x1 then (some ((-1), S)) else (if 24 ≤ x1 then (some ((-1), S)) else (gd (inb x1 24) (some (S.2.1 99 (Int32.toNatClampNeg x1), S)))))
set_option maxHeartbeats 4000000 in
set_option maxRecDepth 100000 in
theorem ok_X12_trace {l : Launch} (d : Nat) (x1 : Int32) (S : St) (R : Int32 × St) (hF : F_X12_trace x1 S = some R) : Go l (d + 0) mX12_trace (Res (some (.int R.1)) R.2) 0 [(0, .ref 63), (1, .int x1)] [] S := by
  unfold F_X12_trace at hF
  refine Go.iload_n dX12_trace_0 rfl ?_
  refine Go.iflt (tgt := 27) dX12_trace_1 (by decide) (fun h_1 => ?_) (fun h_1 => ?_)
  · have hF := ite_t h_1 hF
    refine Go.iconst (v := (-1)) dX12_trace_27 (by decide) ?_
    obtain rfl := Option.some.inj hF
    exact Go.iret (st := []) dX12_trace_28 rfl rfl ⟨rfl, rfl⟩
  · have hF := ite_f h_1 hF
    refine Go.iload_n dX12_trace_4 rfl ?_
    refine Go.aload_n dX12_trace_5 rfl ?_
    refine Go.getI dX12_trace_6 fX12_360 rfl ?_
    refine Go.icmpge (tgt := 27) dX12_trace_9 (by decide) (fun h_9 => ?_) (fun h_9 => ?_)
    · have hF := ite_t h_9 hF
      refine Go.iconst (v := (-1)) dX12_trace_27 (by decide) ?_
      obtain rfl := Option.some.inj hF
      exact Go.iret (st := []) dX12_trace_28 rfl rfl ⟨rfl, rfl⟩
    · have hF := ite_f h_9 hF
      refine Go.iload_n dX12_trace_12 rfl ?_
      refine Go.bipush (v := 24) dX12_trace_13 (by decide) ?_
      refine Go.icmpge (tgt := 27) dX12_trace_15 (by decide) (fun h_15 => ?_) (fun h_15 => ?_)
      · have hF := ite_t h_15 hF
        refine Go.iconst (v := (-1)) dX12_trace_27 (by decide) ?_
        obtain rfl := Option.some.inj hF
        exact Go.iret (st := []) dX12_trace_28 rfl rfl ⟨rfl, rfl⟩
      · have hF := ite_f h_15 hF
        refine Go.aload_n dX12_trace_18 rfl ?_
        refine Go.getR dX12_trace_19 fX12_122 rfl ?_
        refine Go.iload_n dX12_trace_22 rfl ?_
        obtain ⟨hb_23, hF⟩ := gd_some hF
        refine Go.iald dX12_trace_23 rfl (inb_ok hb_23) ?_
        refine Go.goto (tgt := 28) dX12_trace_24 (by decide) ?_
        obtain rfl := Option.some.inj hF
        exact Go.iret (st := []) dX12_trace_28 rfl rfl ⟨rfl, rfl⟩
def F_X12_body (x1 : Int32) (S : St) : Option (Int32 × St) :=
  (F_X12_in x1 (0 : Int32) (7 : Int32) S).bind (fun r_4 => if r_4.1 = 0 then (some ((-1), r_4.2)) else (if (r_4.2.1 63 55) = 50 then (some ((-3), r_4.2)) else (gd (inb (r_4.2.1 63 55) 50) (let S33 := aset r_4.2 98 (upd (r_4.2.2.1 98) (Int32.toNatClampNeg (r_4.2.1 63 55)) x1); let S41 := fset S33 63 55 ((S33.1 63 55) + 1); some ((S41.1 63 55) - 1, S41)))))
set_option maxHeartbeats 4000000 in
set_option maxRecDepth 100000 in
theorem ok_X12_body {l : Launch} (d : Nat) (x1 : Int32) (S : St) (R : Int32 × St) (hF : F_X12_body x1 S = some R) : Go l (d + 1) mX12_body (Res (some (.int R.1)) R.2) 0 [(0, .ref 63), (1, .int x1)] [] S := by
  unfold F_X12_body at hF
  refine Go.iload_n dX12_body_0 rfl ?_
  refine Go.iconst (v := 0) dX12_body_1 (by decide) ?_
  refine Go.bipush (v := 7) dX12_body_2 (by decide) ?_
  obtain ⟨r_4, hc_4, hF⟩ := Option.bind_eq_some_iff.mp hF
  refine Go.callS [_, _, _] dX12_body_4 kX12_in sX12_in lX12_144 rfl rfl (Nat.le_of_ble_eq_true rfl) (Nat.le_of_ble_eq_true rfl) (ok_X12_in (d + 0) _ _ _ _ _ hc_4) ?_
  refine Go.ifne (tgt := 12) dX12_body_7 (by decide) (fun h_7 => ?_) (fun h_7 => ?_)
  · have hF := ite_f h_7 hF
    refine Go.aload_n dX12_body_12 rfl ?_
    refine Go.getI dX12_body_13 fX12_357 rfl ?_
    refine Go.bipush (v := 50) dX12_body_16 (by decide) ?_
    refine Go.icmpne (tgt := 24) dX12_body_18 (by decide) (fun h_18 => ?_) (fun h_18 => ?_)
    · have hF := ite_f h_18 hF
      refine Go.aload_n dX12_body_24 rfl ?_
      refine Go.getR dX12_body_25 fX12_119 rfl ?_
      refine Go.aload_n dX12_body_28 rfl ?_
      refine Go.getI dX12_body_29 fX12_357 rfl ?_
      refine Go.iload_n dX12_body_32 rfl ?_
      obtain ⟨hb_33, hF⟩ := gd_some hF
      refine Go.iast dX12_body_33 rfl (inb_ok hb_33) ?_
      refine Go.aload_n dX12_body_34 rfl ?_
      refine Go.dup dX12_body_35 rfl ?_
      refine Go.getI dX12_body_36 fX12_357 rfl ?_
      refine Go.iconst (v := 1) dX12_body_39 (by decide) ?_
      refine Go.iadd dX12_body_40 ?_
      refine Go.putI dX12_body_41 fX12_357 rfl ?_
      refine Go.aload_n dX12_body_44 rfl ?_
      refine Go.getI dX12_body_45 fX12_357 rfl ?_
      refine Go.iconst (v := 1) dX12_body_48 (by decide) ?_
      refine Go.isub dX12_body_49 ?_
      obtain rfl := Option.some.inj hF
      exact Go.iret (st := []) dX12_body_50 rfl rfl ⟨rfl, rfl⟩
    · have hF := ite_t h_18 hF
      refine Go.bipush (v := (-3)) dX12_body_21 (by decide) ?_
      obtain rfl := Option.some.inj hF
      exact Go.iret (st := []) dX12_body_23 rfl rfl ⟨rfl, rfl⟩
  · have hF := ite_t h_7 hF
    refine Go.iconst (v := (-1)) dX12_body_10 (by decide) ?_
    obtain rfl := Option.some.inj hF
    exact Go.iret (st := []) dX12_body_11 rfl rfl ⟨rfl, rfl⟩
def F_X12_isUnder_34 (x0 : Int32) (x1 : Int32) (S : St) : Option (Int32 × St) :=
  if x1 = 3 then (if x0 = 5 then (some (1, S)) else (if x1 = 6 then (if x0 = 7 then (some (1, S)) else (some (0, S))) else (some (0, S)))) else (if x1 = 6 then (if x0 = 7 then (some (1, S)) else (some (0, S))) else (some (0, S)))
set_option maxHeartbeats 4000000 in
set_option maxRecDepth 100000 in
theorem ok_X12_isUnder_34 {l : Launch} (d : Nat) (x0 : Int32) (x1 : Int32) (S : St) (R : Int32 × St) (hF : F_X12_isUnder_34 x0 x1 S = some R) : Go l (d + 0) mX12_isUnder (Res (some (.int R.1)) R.2) 34 [(0, .int x0), (1, .int x1)] [] S := by
  unfold F_X12_isUnder_34 at hF
  refine Go.iload_n dX12_isUnder_34 rfl ?_
  refine Go.iconst (v := 3) dX12_isUnder_35 (by decide) ?_
  refine Go.icmpne (tgt := 44) dX12_isUnder_36 (by decide) (fun h_36 => ?_) (fun h_36 => ?_)
  · have hF := ite_f h_36 hF
    refine Go.iload_n dX12_isUnder_44 rfl ?_
    refine Go.bipush (v := 6) dX12_isUnder_45 (by decide) ?_
    refine Go.icmpne (tgt := 60) dX12_isUnder_47 (by decide) (fun h_47 => ?_) (fun h_47 => ?_)
    · have hF := ite_f h_47 hF
      refine Go.iconst (v := 0) dX12_isUnder_60 (by decide) ?_
      obtain rfl := Option.some.inj hF
      exact Go.iret (st := []) dX12_isUnder_61 rfl rfl ⟨rfl, rfl⟩
    · have hF := ite_t h_47 hF
      refine Go.iload_n dX12_isUnder_50 rfl ?_
      refine Go.bipush (v := 7) dX12_isUnder_51 (by decide) ?_
      refine Go.icmpne (tgt := 60) dX12_isUnder_53 (by decide) (fun h_53 => ?_) (fun h_53 => ?_)
      · have hF := ite_f h_53 hF
        refine Go.iconst (v := 0) dX12_isUnder_60 (by decide) ?_
        obtain rfl := Option.some.inj hF
        exact Go.iret (st := []) dX12_isUnder_61 rfl rfl ⟨rfl, rfl⟩
      · have hF := ite_t h_53 hF
        refine Go.iconst (v := 1) dX12_isUnder_56 (by decide) ?_
        refine Go.goto (tgt := 61) dX12_isUnder_57 (by decide) ?_
        obtain rfl := Option.some.inj hF
        exact Go.iret (st := []) dX12_isUnder_61 rfl rfl ⟨rfl, rfl⟩
  · have hF := ite_t h_36 hF
    refine Go.iload_n dX12_isUnder_39 rfl ?_
    refine Go.iconst (v := 5) dX12_isUnder_40 (by decide) ?_
    refine Go.icmpeq (tgt := 56) dX12_isUnder_41 (by decide) (fun h_41 => ?_) (fun h_41 => ?_)
    · have hF := ite_t h_41 hF
      refine Go.iconst (v := 1) dX12_isUnder_56 (by decide) ?_
      refine Go.goto (tgt := 61) dX12_isUnder_57 (by decide) ?_
      obtain rfl := Option.some.inj hF
      exact Go.iret (st := []) dX12_isUnder_61 rfl rfl ⟨rfl, rfl⟩
    · have hF := ite_f h_41 hF
      refine Go.iload_n dX12_isUnder_44 rfl ?_
      refine Go.bipush (v := 6) dX12_isUnder_45 (by decide) ?_
      refine Go.icmpne (tgt := 60) dX12_isUnder_47 (by decide) (fun h_47 => ?_) (fun h_47 => ?_)
      · have hF := ite_f h_47 hF
        refine Go.iconst (v := 0) dX12_isUnder_60 (by decide) ?_
        obtain rfl := Option.some.inj hF
        exact Go.iret (st := []) dX12_isUnder_61 rfl rfl ⟨rfl, rfl⟩
      · have hF := ite_t h_47 hF
        refine Go.iload_n dX12_isUnder_50 rfl ?_
        refine Go.bipush (v := 7) dX12_isUnder_51 (by decide) ?_
        refine Go.icmpne (tgt := 60) dX12_isUnder_53 (by decide) (fun h_53 => ?_) (fun h_53 => ?_)
        · have hF := ite_f h_53 hF
          refine Go.iconst (v := 0) dX12_isUnder_60 (by decide) ?_
          obtain rfl := Option.some.inj hF
          exact Go.iret (st := []) dX12_isUnder_61 rfl rfl ⟨rfl, rfl⟩
        · have hF := ite_t h_53 hF
          refine Go.iconst (v := 1) dX12_isUnder_56 (by decide) ?_
          refine Go.goto (tgt := 61) dX12_isUnder_57 (by decide) ?_
          obtain rfl := Option.some.inj hF
          exact Go.iret (st := []) dX12_isUnder_61 rfl rfl ⟨rfl, rfl⟩
def F_X12_isUnder_19 (x0 : Int32) (x1 : Int32) (S : St) : Option (Int32 × St) :=
  if x1 = 2 then (if x0 = 3 then (some (1, S)) else (if x0 = 5 then (some (1, S)) else (F_X12_isUnder_34 x0 x1 S))) else (F_X12_isUnder_34 x0 x1 S)
set_option maxHeartbeats 4000000 in
set_option maxRecDepth 100000 in
theorem ok_X12_isUnder_19 {l : Launch} (d : Nat) (x0 : Int32) (x1 : Int32) (S : St) (R : Int32 × St) (hF : F_X12_isUnder_19 x0 x1 S = some R) : Go l (d + 0) mX12_isUnder (Res (some (.int R.1)) R.2) 19 [(0, .int x0), (1, .int x1)] [] S := by
  unfold F_X12_isUnder_19 at hF
  refine Go.iload_n dX12_isUnder_19 rfl ?_
  refine Go.iconst (v := 2) dX12_isUnder_20 (by decide) ?_
  refine Go.icmpne (tgt := 34) dX12_isUnder_21 (by decide) (fun h_21 => ?_) (fun h_21 => ?_)
  · have hF := ite_f h_21 hF
    refine Go.pick (ls' := [(0, _), (1, _)]) [0, 1] rfl ?_
    exact ok_X12_isUnder_34 d _ _ _ _ hF
  · have hF := ite_t h_21 hF
    refine Go.iload_n dX12_isUnder_24 rfl ?_
    refine Go.iconst (v := 3) dX12_isUnder_25 (by decide) ?_
    refine Go.icmpeq (tgt := 56) dX12_isUnder_26 (by decide) (fun h_26 => ?_) (fun h_26 => ?_)
    · have hF := ite_t h_26 hF
      refine Go.iconst (v := 1) dX12_isUnder_56 (by decide) ?_
      refine Go.goto (tgt := 61) dX12_isUnder_57 (by decide) ?_
      obtain rfl := Option.some.inj hF
      exact Go.iret (st := []) dX12_isUnder_61 rfl rfl ⟨rfl, rfl⟩
    · have hF := ite_f h_26 hF
      refine Go.iload_n dX12_isUnder_29 rfl ?_
      refine Go.iconst (v := 5) dX12_isUnder_30 (by decide) ?_
      refine Go.icmpeq (tgt := 56) dX12_isUnder_31 (by decide) (fun h_31 => ?_) (fun h_31 => ?_)
      · have hF := ite_t h_31 hF
        refine Go.iconst (v := 1) dX12_isUnder_56 (by decide) ?_
        refine Go.goto (tgt := 61) dX12_isUnder_57 (by decide) ?_
        obtain rfl := Option.some.inj hF
        exact Go.iret (st := []) dX12_isUnder_61 rfl rfl ⟨rfl, rfl⟩
      · have hF := ite_f h_31 hF
        refine Go.pick (ls' := [(0, _), (1, _)]) [0, 1] rfl ?_
        exact ok_X12_isUnder_34 d _ _ _ _ hF
def F_X12_isUnder (x0 : Int32) (x1 : Int32) (S : St) : Option (Int32 × St) :=
  if x1 = 0 then (some (1, S)) else (if x0 = x1 then (some (1, S)) else (if x1 = 1 then (if x0 = 4 then (some (1, S)) else (F_X12_isUnder_19 x0 x1 S)) else (F_X12_isUnder_19 x0 x1 S)))
set_option maxHeartbeats 4000000 in
set_option maxRecDepth 100000 in
theorem ok_X12_isUnder {l : Launch} (d : Nat) (x0 : Int32) (x1 : Int32) (S : St) (R : Int32 × St) (hF : F_X12_isUnder x0 x1 S = some R) : Go l (d + 0) mX12_isUnder (Res (some (.int R.1)) R.2) 0 [(0, .int x0), (1, .int x1)] [] S := by
  unfold F_X12_isUnder at hF
  refine Go.iload_n dX12_isUnder_0 rfl ?_
  refine Go.ifeq (tgt := 56) dX12_isUnder_1 (by decide) (fun h_1 => ?_) (fun h_1 => ?_)
  · have hF := ite_t h_1 hF
    refine Go.iconst (v := 1) dX12_isUnder_56 (by decide) ?_
    refine Go.goto (tgt := 61) dX12_isUnder_57 (by decide) ?_
    obtain rfl := Option.some.inj hF
    exact Go.iret (st := []) dX12_isUnder_61 rfl rfl ⟨rfl, rfl⟩
  · have hF := ite_f h_1 hF
    refine Go.iload_n dX12_isUnder_4 rfl ?_
    refine Go.iload_n dX12_isUnder_5 rfl ?_
    refine Go.icmpeq (tgt := 56) dX12_isUnder_6 (by decide) (fun h_6 => ?_) (fun h_6 => ?_)
    · have hF := ite_t h_6 hF
      refine Go.iconst (v := 1) dX12_isUnder_56 (by decide) ?_
      refine Go.goto (tgt := 61) dX12_isUnder_57 (by decide) ?_
      obtain rfl := Option.some.inj hF
      exact Go.iret (st := []) dX12_isUnder_61 rfl rfl ⟨rfl, rfl⟩
    · have hF := ite_f h_6 hF
      refine Go.iload_n dX12_isUnder_9 rfl ?_
      refine Go.iconst (v := 1) dX12_isUnder_10 (by decide) ?_
      refine Go.icmpne (tgt := 19) dX12_isUnder_11 (by decide) (fun h_11 => ?_) (fun h_11 => ?_)
      · have hF := ite_f h_11 hF
        refine Go.pick (ls' := [(0, _), (1, _)]) [0, 1] rfl ?_
        exact ok_X12_isUnder_19 d _ _ _ _ hF
      · have hF := ite_t h_11 hF
        refine Go.iload_n dX12_isUnder_14 rfl ?_
        refine Go.iconst (v := 4) dX12_isUnder_15 (by decide) ?_
        refine Go.icmpeq (tgt := 56) dX12_isUnder_16 (by decide) (fun h_16 => ?_) (fun h_16 => ?_)
        · have hF := ite_t h_16 hF
          refine Go.iconst (v := 1) dX12_isUnder_56 (by decide) ?_
          refine Go.goto (tgt := 61) dX12_isUnder_57 (by decide) ?_
          obtain rfl := Option.some.inj hF
          exact Go.iret (st := []) dX12_isUnder_61 rfl rfl ⟨rfl, rfl⟩
        · have hF := ite_f h_16 hF
          refine Go.pick (ls' := [(0, _), (1, _)]) [0, 1] rfl ?_
          exact ok_X12_isUnder_19 d _ _ _ _ hF
def F_X12_plainCues (x1 : Int32) (x2 : Int32) (S : St) : Option (Int32 × St) :=
  (F_X12_ran (1 : Int32) S).bind (fun r_2 => some (x2 + x1, r_2))
set_option maxHeartbeats 4000000 in
set_option maxRecDepth 100000 in
theorem ok_X12_plainCues {l : Launch} (d : Nat) (x1 : Int32) (x2 : Int32) (S : St) (R : Int32 × St) (hF : F_X12_plainCues x1 x2 S = some R) : Go l (d + 1) mX12_plainCues (Res (some (.int R.1)) R.2) 0 [(0, .ref 63), (1, .int x1), (2, .int x2)] [] S := by
  unfold F_X12_plainCues at hF
  refine Go.aload_n dX12_plainCues_0 rfl ?_
  refine Go.iconst (v := 1) dX12_plainCues_1 (by decide) ?_
  obtain ⟨r_2, hc_2, hF⟩ := Option.bind_eq_some_iff.mp hF
  refine Go.callV [_] dX12_plainCues_2 kX12_ran vX12_ran lX12_363 rfl rfl rfl rfl rfl (Nat.le_of_ble_eq_true rfl) (Nat.le_of_ble_eq_true rfl) (ok_X12_ran (d + 0) _ _ _ hc_2) ?_
  refine Go.iload_n dX12_plainCues_5 rfl ?_
  refine Go.iload_n dX12_plainCues_6 rfl ?_
  refine Go.iadd dX12_plainCues_7 ?_
  obtain rfl := Option.some.inj hF
  exact Go.iret (st := []) dX12_plainCues_8 rfl rfl ⟨rfl, rfl⟩
def F_X12_savedCues (x1 : Int32) (x2 : Int32) (S : St) : Option (Int32 × St) :=
  (F_X12_ran (70 : Int32) S).bind (fun r_3 => (F_X12_plainCues x1 x2 r_3).bind (fun r_9 => some (r_9.1 * 2, r_9.2)))
set_option maxHeartbeats 4000000 in
set_option maxRecDepth 100000 in
theorem ok_X12_savedCues {l : Launch} (d : Nat) (x1 : Int32) (x2 : Int32) (S : St) (R : Int32 × St) (hF : F_X12_savedCues x1 x2 S = some R) : Go l (d + 2) mX12_savedCues (Res (some (.int R.1)) R.2) 0 [(0, .ref 63), (1, .int x1), (2, .int x2)] [] S := by
  unfold F_X12_savedCues at hF
  refine Go.aload_n dX12_savedCues_0 rfl ?_
  refine Go.bipush (v := 70) dX12_savedCues_1 (by decide) ?_
  obtain ⟨r_3, hc_3, hF⟩ := Option.bind_eq_some_iff.mp hF
  refine Go.callV [_] dX12_savedCues_3 kX12_ran vX12_ran lX12_363 rfl rfl rfl rfl rfl (Nat.le_of_ble_eq_true rfl) (Nat.le_of_ble_eq_true rfl) (ok_X12_ran (d + 1) _ _ _ hc_3) ?_
  refine Go.aload_n dX12_savedCues_6 rfl ?_
  refine Go.iload_n dX12_savedCues_7 rfl ?_
  refine Go.iload_n dX12_savedCues_8 rfl ?_
  obtain ⟨r_9, hc_9, hF⟩ := Option.bind_eq_some_iff.mp hF
  refine Go.callV [_, _] dX12_savedCues_9 kX12_plainCues vX12_plainCues lX12_366 rfl rfl rfl rfl rfl (Nat.le_of_ble_eq_true rfl) (Nat.le_of_ble_eq_true rfl) (ok_X12_plainCues (d + 0) _ _ _ _ hc_9) ?_
  refine Go.iconst (v := 2) dX12_savedCues_12 (by decide) ?_
  refine Go.imul dX12_savedCues_13 ?_
  obtain rfl := Option.some.inj hF
  exact Go.iret (st := []) dX12_savedCues_14 rfl rfl ⟨rfl, rfl⟩
def F_X12_cueing (x1 : Int32) (x2 : Int32) (S : St) : Option (Int32 × St) :=
  gd (inb x1 50) ((F_X12_isUnder (S.2.1 98 (Int32.toNatClampNeg x1)) (1 : Int32) S).bind (fun r_7 => if r_7.1 = 0 then (gd (inb x1 50) (if (r_7.2.2.1 98 (Int32.toNatClampNeg x1)) = 7 then ((F_X12_ran (81 : Int32) r_7.2).bind (fun r_42 => (F_X12_savedCues x1 x2 r_42).bind (fun r_48 => some (r_48.1 - 1, r_48.2)))) else (gd (inb x1 50) (if (r_7.2.2.1 98 (Int32.toNatClampNeg x1)) = 6 then ((F_X12_savedCues x1 x2 r_7.2).bind (fun r_68 => some (r_68.1, r_68.2))) else ((F_X12_plainCues x1 x2 r_7.2).bind (fun r_77 => some (r_77.1, r_77.2))))))) else ((F_X12_ran (20 : Int32) r_7.2).bind (fun r_16 => (F_X12_plainCues x1 x2 r_16).bind (fun r_22 => some (r_22.1 + 3, r_22.2))))))
set_option maxHeartbeats 4000000 in
set_option maxRecDepth 100000 in
theorem ok_X12_cueing {l : Launch} (d : Nat) (x1 : Int32) (x2 : Int32) (S : St) (R : Int32 × St) (hF : F_X12_cueing x1 x2 S = some R) : Go l (d + 3) mX12_cueing (Res (some (.int R.1)) R.2) 0 [(0, .ref 63), (1, .int x1), (2, .int x2)] [] S := by
  unfold F_X12_cueing at hF
  refine Go.aload_n dX12_cueing_0 rfl ?_
  refine Go.getR dX12_cueing_1 fX12_119 rfl ?_
  refine Go.iload_n dX12_cueing_4 rfl ?_
  obtain ⟨hb_5, hF⟩ := gd_some hF
  refine Go.iald dX12_cueing_5 rfl (inb_ok hb_5) ?_
  refine Go.iconst (v := 1) dX12_cueing_6 (by decide) ?_
  obtain ⟨r_7, hc_7, hF⟩ := Option.bind_eq_some_iff.mp hF
  refine Go.callS [_, _] dX12_cueing_7 kX12_isUnder sX12_isUnder lX12_369 rfl rfl (Nat.le_of_ble_eq_true rfl) (Nat.le_of_ble_eq_true rfl) (ok_X12_isUnder (d + 2) _ _ _ _ hc_7) ?_
  refine Go.ifeq (tgt := 28) dX12_cueing_10 (by decide) (fun h_10 => ?_) (fun h_10 => ?_)
  · have hF := ite_t h_10 hF
    refine Go.aload_n dX12_cueing_28 rfl ?_
    refine Go.getR dX12_cueing_29 fX12_119 rfl ?_
    refine Go.iload_n dX12_cueing_32 rfl ?_
    obtain ⟨hb_33, hF⟩ := gd_some hF
    refine Go.iald dX12_cueing_33 rfl (inb_ok hb_33) ?_
    refine Go.bipush (v := 7) dX12_cueing_34 (by decide) ?_
    refine Go.icmpne (tgt := 54) dX12_cueing_36 (by decide) (fun h_36 => ?_) (fun h_36 => ?_)
    · have hF := ite_f h_36 hF
      refine Go.aload_n dX12_cueing_54 rfl ?_
      refine Go.getR dX12_cueing_55 fX12_119 rfl ?_
      refine Go.iload_n dX12_cueing_58 rfl ?_
      obtain ⟨hb_59, hF⟩ := gd_some hF
      refine Go.iald dX12_cueing_59 rfl (inb_ok hb_59) ?_
      refine Go.bipush (v := 6) dX12_cueing_60 (by decide) ?_
      refine Go.icmpne (tgt := 74) dX12_cueing_62 (by decide) (fun h_62 => ?_) (fun h_62 => ?_)
      · have hF := ite_f h_62 hF
        refine Go.aload_n dX12_cueing_74 rfl ?_
        refine Go.iload_n dX12_cueing_75 rfl ?_
        refine Go.iload_n dX12_cueing_76 rfl ?_
        obtain ⟨r_77, hc_77, hF⟩ := Option.bind_eq_some_iff.mp hF
        refine Go.callV [_, _] dX12_cueing_77 kX12_plainCues vX12_plainCues lX12_366 rfl rfl rfl rfl rfl (Nat.le_of_ble_eq_true rfl) (Nat.le_of_ble_eq_true rfl) (ok_X12_plainCues (d + 1) _ _ _ _ hc_77) ?_
        obtain rfl := Option.some.inj hF
        exact Go.iret (st := []) dX12_cueing_80 rfl rfl ⟨rfl, rfl⟩
      · have hF := ite_t h_62 hF
        refine Go.aload_n dX12_cueing_65 rfl ?_
        refine Go.iload_n dX12_cueing_66 rfl ?_
        refine Go.iload_n dX12_cueing_67 rfl ?_
        obtain ⟨r_68, hc_68, hF⟩ := Option.bind_eq_some_iff.mp hF
        refine Go.callV [_, _] dX12_cueing_68 kX12_savedCues vX12_savedCues lX12_372 rfl rfl rfl rfl rfl (Nat.le_of_ble_eq_true rfl) (Nat.le_of_ble_eq_true rfl) (ok_X12_savedCues (d + 0) _ _ _ _ hc_68) ?_
        refine Go.goto (tgt := 80) dX12_cueing_71 (by decide) ?_
        obtain rfl := Option.some.inj hF
        exact Go.iret (st := []) dX12_cueing_80 rfl rfl ⟨rfl, rfl⟩
    · have hF := ite_t h_36 hF
      refine Go.aload_n dX12_cueing_39 rfl ?_
      refine Go.bipush (v := 81) dX12_cueing_40 (by decide) ?_
      obtain ⟨r_42, hc_42, hF⟩ := Option.bind_eq_some_iff.mp hF
      refine Go.callV [_] dX12_cueing_42 kX12_ran vX12_ran lX12_363 rfl rfl rfl rfl rfl (Nat.le_of_ble_eq_true rfl) (Nat.le_of_ble_eq_true rfl) (ok_X12_ran (d + 2) _ _ _ hc_42) ?_
      refine Go.aload_n dX12_cueing_45 rfl ?_
      refine Go.iload_n dX12_cueing_46 rfl ?_
      refine Go.iload_n dX12_cueing_47 rfl ?_
      obtain ⟨r_48, hc_48, hF⟩ := Option.bind_eq_some_iff.mp hF
      refine Go.callV [_, _] dX12_cueing_48 kX12_savedCues vX12_savedCues lX12_372 rfl rfl rfl rfl rfl (Nat.le_of_ble_eq_true rfl) (Nat.le_of_ble_eq_true rfl) (ok_X12_savedCues (d + 0) _ _ _ _ hc_48) ?_
      refine Go.iconst (v := 1) dX12_cueing_51 (by decide) ?_
      refine Go.isub dX12_cueing_52 ?_
      obtain rfl := Option.some.inj hF
      exact Go.iret (st := []) dX12_cueing_53 rfl rfl ⟨rfl, rfl⟩
  · have hF := ite_f h_10 hF
    refine Go.aload_n dX12_cueing_13 rfl ?_
    refine Go.bipush (v := 20) dX12_cueing_14 (by decide) ?_
    obtain ⟨r_16, hc_16, hF⟩ := Option.bind_eq_some_iff.mp hF
    refine Go.callV [_] dX12_cueing_16 kX12_ran vX12_ran lX12_363 rfl rfl rfl rfl rfl (Nat.le_of_ble_eq_true rfl) (Nat.le_of_ble_eq_true rfl) (ok_X12_ran (d + 2) _ _ _ hc_16) ?_
    refine Go.aload_n dX12_cueing_19 rfl ?_
    refine Go.iload_n dX12_cueing_20 rfl ?_
    refine Go.iload_n dX12_cueing_21 rfl ?_
    obtain ⟨r_22, hc_22, hF⟩ := Option.bind_eq_some_iff.mp hF
    refine Go.callV [_, _] dX12_cueing_22 kX12_plainCues vX12_plainCues lX12_366 rfl rfl rfl rfl rfl (Nat.le_of_ble_eq_true rfl) (Nat.le_of_ble_eq_true rfl) (ok_X12_plainCues (d + 1) _ _ _ _ hc_22) ?_
    refine Go.iconst (v := 3) dX12_cueing_25 (by decide) ?_
    refine Go.iadd dX12_cueing_26 ?_
    obtain rfl := Option.some.inj hF
    exact Go.iret (st := []) dX12_cueing_27 rfl rfl ⟨rfl, rfl⟩
def F_X12_plainHolds (x1 : Int32) (x2 : Int32) (S : St) : Option (Int32 × St) :=
  (F_X12_ran (10 : Int32) S).bind (fun r_3 => (F_X12_cueing x1 x2 r_3).bind (fun r_9 => some (r_9.1 * 2, r_9.2)))
set_option maxHeartbeats 4000000 in
set_option maxRecDepth 100000 in
theorem ok_X12_plainHolds {l : Launch} (d : Nat) (x1 : Int32) (x2 : Int32) (S : St) (R : Int32 × St) (hF : F_X12_plainHolds x1 x2 S = some R) : Go l (d + 4) mX12_plainHolds (Res (some (.int R.1)) R.2) 0 [(0, .ref 63), (1, .int x1), (2, .int x2)] [] S := by
  unfold F_X12_plainHolds at hF
  refine Go.aload_n dX12_plainHolds_0 rfl ?_
  refine Go.bipush (v := 10) dX12_plainHolds_1 (by decide) ?_
  obtain ⟨r_3, hc_3, hF⟩ := Option.bind_eq_some_iff.mp hF
  refine Go.callV [_] dX12_plainHolds_3 kX12_ran vX12_ran lX12_363 rfl rfl rfl rfl rfl (Nat.le_of_ble_eq_true rfl) (Nat.le_of_ble_eq_true rfl) (ok_X12_ran (d + 3) _ _ _ hc_3) ?_
  refine Go.aload_n dX12_plainHolds_6 rfl ?_
  refine Go.iload_n dX12_plainHolds_7 rfl ?_
  refine Go.iload_n dX12_plainHolds_8 rfl ?_
  obtain ⟨r_9, hc_9, hF⟩ := Option.bind_eq_some_iff.mp hF
  refine Go.callV [_, _] dX12_plainHolds_9 kX12_cueing vX12_cueing lX12_375 rfl rfl rfl rfl rfl (Nat.le_of_ble_eq_true rfl) (Nat.le_of_ble_eq_true rfl) (ok_X12_cueing (d + 0) _ _ _ _ hc_9) ?_
  refine Go.iconst (v := 2) dX12_plainHolds_12 (by decide) ?_
  refine Go.imul dX12_plainHolds_13 ?_
  obtain rfl := Option.some.inj hF
  exact Go.iret (st := []) dX12_plainHolds_14 rfl rfl ⟨rfl, rfl⟩
def F_X12_driedHolds (x1 : Int32) (x2 : Int32) (S : St) : Option (Int32 × St) :=
  (F_X12_ran (30 : Int32) S).bind (fun r_3 => (F_X12_plainHolds x1 x2 r_3).bind (fun r_9 => some (-r_9.1, r_9.2)))
set_option maxHeartbeats 4000000 in
set_option maxRecDepth 100000 in
theorem ok_X12_driedHolds {l : Launch} (d : Nat) (x1 : Int32) (x2 : Int32) (S : St) (R : Int32 × St) (hF : F_X12_driedHolds x1 x2 S = some R) : Go l (d + 5) mX12_driedHolds (Res (some (.int R.1)) R.2) 0 [(0, .ref 63), (1, .int x1), (2, .int x2)] [] S := by
  unfold F_X12_driedHolds at hF
  refine Go.aload_n dX12_driedHolds_0 rfl ?_
  refine Go.bipush (v := 30) dX12_driedHolds_1 (by decide) ?_
  obtain ⟨r_3, hc_3, hF⟩ := Option.bind_eq_some_iff.mp hF
  refine Go.callV [_] dX12_driedHolds_3 kX12_ran vX12_ran lX12_363 rfl rfl rfl rfl rfl (Nat.le_of_ble_eq_true rfl) (Nat.le_of_ble_eq_true rfl) (ok_X12_ran (d + 4) _ _ _ hc_3) ?_
  refine Go.aload_n dX12_driedHolds_6 rfl ?_
  refine Go.iload_n dX12_driedHolds_7 rfl ?_
  refine Go.iload_n dX12_driedHolds_8 rfl ?_
  obtain ⟨r_9, hc_9, hF⟩ := Option.bind_eq_some_iff.mp hF
  refine Go.callV [_, _] dX12_driedHolds_9 kX12_plainHolds vX12_plainHolds lX12_378 rfl rfl rfl rfl rfl (Nat.le_of_ble_eq_true rfl) (Nat.le_of_ble_eq_true rfl) (ok_X12_plainHolds (d + 0) _ _ _ _ hc_9) ?_
  refine Go.ineg dX12_driedHolds_12 ?_
  obtain rfl := Option.some.inj hF
  exact Go.iret (st := []) dX12_driedHolds_13 rfl rfl ⟨rfl, rfl⟩
def F_X12_plainJumps (x1 : Int32) (x2 : Int32) (S : St) : Option (Int32 × St) :=
  (F_X12_ran (11 : Int32) S).bind (fun r_3 => some (x2 ^^^ x1, r_3))
set_option maxHeartbeats 4000000 in
set_option maxRecDepth 100000 in
theorem ok_X12_plainJumps {l : Launch} (d : Nat) (x1 : Int32) (x2 : Int32) (S : St) (R : Int32 × St) (hF : F_X12_plainJumps x1 x2 S = some R) : Go l (d + 1) mX12_plainJumps (Res (some (.int R.1)) R.2) 0 [(0, .ref 63), (1, .int x1), (2, .int x2)] [] S := by
  unfold F_X12_plainJumps at hF
  refine Go.aload_n dX12_plainJumps_0 rfl ?_
  refine Go.bipush (v := 11) dX12_plainJumps_1 (by decide) ?_
  obtain ⟨r_3, hc_3, hF⟩ := Option.bind_eq_some_iff.mp hF
  refine Go.callV [_] dX12_plainJumps_3 kX12_ran vX12_ran lX12_363 rfl rfl rfl rfl rfl (Nat.le_of_ble_eq_true rfl) (Nat.le_of_ble_eq_true rfl) (ok_X12_ran (d + 0) _ _ _ hc_3) ?_
  refine Go.iload_n dX12_plainJumps_6 rfl ?_
  refine Go.iload_n dX12_plainJumps_7 rfl ?_
  refine Go.ixor dX12_plainJumps_8 ?_
  obtain rfl := Option.some.inj hF
  exact Go.iret (st := []) dX12_plainJumps_9 rfl rfl ⟨rfl, rfl⟩
def F_X12_jumpedJumps (x1 : Int32) (x2 : Int32) (S : St) : Option (Int32 × St) :=
  (F_X12_ran (40 : Int32) S).bind (fun r_3 => (F_X12_plainJumps x1 x2 r_3).bind (fun r_9 => some (r_9.1 * 3, r_9.2)))
set_option maxHeartbeats 4000000 in
set_option maxRecDepth 100000 in
theorem ok_X12_jumpedJumps {l : Launch} (d : Nat) (x1 : Int32) (x2 : Int32) (S : St) (R : Int32 × St) (hF : F_X12_jumpedJumps x1 x2 S = some R) : Go l (d + 2) mX12_jumpedJumps (Res (some (.int R.1)) R.2) 0 [(0, .ref 63), (1, .int x1), (2, .int x2)] [] S := by
  unfold F_X12_jumpedJumps at hF
  refine Go.aload_n dX12_jumpedJumps_0 rfl ?_
  refine Go.bipush (v := 40) dX12_jumpedJumps_1 (by decide) ?_
  obtain ⟨r_3, hc_3, hF⟩ := Option.bind_eq_some_iff.mp hF
  refine Go.callV [_] dX12_jumpedJumps_3 kX12_ran vX12_ran lX12_363 rfl rfl rfl rfl rfl (Nat.le_of_ble_eq_true rfl) (Nat.le_of_ble_eq_true rfl) (ok_X12_ran (d + 1) _ _ _ hc_3) ?_
  refine Go.aload_n dX12_jumpedJumps_6 rfl ?_
  refine Go.iload_n dX12_jumpedJumps_7 rfl ?_
  refine Go.iload_n dX12_jumpedJumps_8 rfl ?_
  obtain ⟨r_9, hc_9, hF⟩ := Option.bind_eq_some_iff.mp hF
  refine Go.callV [_, _] dX12_jumpedJumps_9 kX12_plainJumps vX12_plainJumps lX12_387 rfl rfl rfl rfl rfl (Nat.le_of_ble_eq_true rfl) (Nat.le_of_ble_eq_true rfl) (ok_X12_plainJumps (d + 0) _ _ _ _ hc_9) ?_
  refine Go.iconst (v := 3) dX12_jumpedJumps_12 (by decide) ?_
  refine Go.imul dX12_jumpedJumps_13 ?_
  obtain rfl := Option.some.inj hF
  exact Go.iret (st := []) dX12_jumpedJumps_14 rfl rfl ⟨rfl, rfl⟩
def F_X12_jumping (x1 : Int32) (x2 : Int32) (S : St) : Option (Int32 × St) :=
  gd (inb x1 50) (if (S.2.1 98 (Int32.toNatClampNeg x1)) = 5 then ((F_X12_ran (60 : Int32) S).bind (fun r_13 => (F_X12_jumpedJumps x1 x2 r_13).bind (fun r_19 => (F_X12_cueing x1 (2 : Int32) r_19.2).bind (fun r_27 => some (r_19.1 - r_27.1, r_27.2))))) else (gd (inb x1 50) (if (S.2.1 98 (Int32.toNatClampNeg x1)) = 3 then ((F_X12_jumpedJumps x1 x2 S).bind (fun r_45 => some (r_45.1, r_45.2))) else ((F_X12_plainJumps x1 x2 S).bind (fun r_54 => some (r_54.1, r_54.2))))))
set_option maxHeartbeats 4000000 in
set_option maxRecDepth 100000 in
theorem ok_X12_jumping {l : Launch} (d : Nat) (x1 : Int32) (x2 : Int32) (S : St) (R : Int32 × St) (hF : F_X12_jumping x1 x2 S = some R) : Go l (d + 4) mX12_jumping (Res (some (.int R.1)) R.2) 0 [(0, .ref 63), (1, .int x1), (2, .int x2)] [] S := by
  unfold F_X12_jumping at hF
  refine Go.aload_n dX12_jumping_0 rfl ?_
  refine Go.getR dX12_jumping_1 fX12_119 rfl ?_
  refine Go.iload_n dX12_jumping_4 rfl ?_
  obtain ⟨hb_5, hF⟩ := gd_some hF
  refine Go.iald dX12_jumping_5 rfl (inb_ok hb_5) ?_
  refine Go.iconst (v := 5) dX12_jumping_6 (by decide) ?_
  refine Go.icmpne (tgt := 32) dX12_jumping_7 (by decide) (fun h_7 => ?_) (fun h_7 => ?_)
  · have hF := ite_f h_7 hF
    refine Go.aload_n dX12_jumping_32 rfl ?_
    refine Go.getR dX12_jumping_33 fX12_119 rfl ?_
    refine Go.iload_n dX12_jumping_36 rfl ?_
    obtain ⟨hb_37, hF⟩ := gd_some hF
    refine Go.iald dX12_jumping_37 rfl (inb_ok hb_37) ?_
    refine Go.iconst (v := 3) dX12_jumping_38 (by decide) ?_
    refine Go.icmpne (tgt := 51) dX12_jumping_39 (by decide) (fun h_39 => ?_) (fun h_39 => ?_)
    · have hF := ite_f h_39 hF
      refine Go.aload_n dX12_jumping_51 rfl ?_
      refine Go.iload_n dX12_jumping_52 rfl ?_
      refine Go.iload_n dX12_jumping_53 rfl ?_
      obtain ⟨r_54, hc_54, hF⟩ := Option.bind_eq_some_iff.mp hF
      refine Go.callV [_, _] dX12_jumping_54 kX12_plainJumps vX12_plainJumps lX12_387 rfl rfl rfl rfl rfl (Nat.le_of_ble_eq_true rfl) (Nat.le_of_ble_eq_true rfl) (ok_X12_plainJumps (d + 2) _ _ _ _ hc_54) ?_
      obtain rfl := Option.some.inj hF
      exact Go.iret (st := []) dX12_jumping_57 rfl rfl ⟨rfl, rfl⟩
    · have hF := ite_t h_39 hF
      refine Go.aload_n dX12_jumping_42 rfl ?_
      refine Go.iload_n dX12_jumping_43 rfl ?_
      refine Go.iload_n dX12_jumping_44 rfl ?_
      obtain ⟨r_45, hc_45, hF⟩ := Option.bind_eq_some_iff.mp hF
      refine Go.callV [_, _] dX12_jumping_45 kX12_jumpedJumps vX12_jumpedJumps lX12_390 rfl rfl rfl rfl rfl (Nat.le_of_ble_eq_true rfl) (Nat.le_of_ble_eq_true rfl) (ok_X12_jumpedJumps (d + 1) _ _ _ _ hc_45) ?_
      refine Go.goto (tgt := 57) dX12_jumping_48 (by decide) ?_
      obtain rfl := Option.some.inj hF
      exact Go.iret (st := []) dX12_jumping_57 rfl rfl ⟨rfl, rfl⟩
  · have hF := ite_t h_7 hF
    refine Go.aload_n dX12_jumping_10 rfl ?_
    refine Go.bipush (v := 60) dX12_jumping_11 (by decide) ?_
    obtain ⟨r_13, hc_13, hF⟩ := Option.bind_eq_some_iff.mp hF
    refine Go.callV [_] dX12_jumping_13 kX12_ran vX12_ran lX12_363 rfl rfl rfl rfl rfl (Nat.le_of_ble_eq_true rfl) (Nat.le_of_ble_eq_true rfl) (ok_X12_ran (d + 3) _ _ _ hc_13) ?_
    refine Go.aload_n dX12_jumping_16 rfl ?_
    refine Go.iload_n dX12_jumping_17 rfl ?_
    refine Go.iload_n dX12_jumping_18 rfl ?_
    obtain ⟨r_19, hc_19, hF⟩ := Option.bind_eq_some_iff.mp hF
    refine Go.callV [_, _] dX12_jumping_19 kX12_jumpedJumps vX12_jumpedJumps lX12_390 rfl rfl rfl rfl rfl (Nat.le_of_ble_eq_true rfl) (Nat.le_of_ble_eq_true rfl) (ok_X12_jumpedJumps (d + 1) _ _ _ _ hc_19) ?_
    refine Go.istore_n (ls' := [(3, _), (0, _), (1, _), (2, _)]) dX12_jumping_22 (by decide) rfl ?_
    refine Go.iload_n dX12_jumping_23 rfl ?_
    refine Go.aload_n dX12_jumping_24 rfl ?_
    refine Go.iload_n dX12_jumping_25 rfl ?_
    refine Go.iconst (v := 2) dX12_jumping_26 (by decide) ?_
    obtain ⟨r_27, hc_27, hF⟩ := Option.bind_eq_some_iff.mp hF
    refine Go.callV [_, _] dX12_jumping_27 kX12_cueing vX12_cueing lX12_375 rfl rfl rfl rfl rfl (Nat.le_of_ble_eq_true rfl) (Nat.le_of_ble_eq_true rfl) (ok_X12_cueing (d + 0) _ _ _ _ hc_27) ?_
    refine Go.isub dX12_jumping_30 ?_
    obtain rfl := Option.some.inj hF
    exact Go.iret (st := []) dX12_jumping_31 rfl rfl ⟨rfl, rfl⟩
def F_X12_holding (x1 : Int32) (x2 : Int32) (S : St) : Option (Int32 × St) :=
  gd (inb x1 50) ((F_X12_isUnder (S.2.1 98 (Int32.toNatClampNeg x1)) (3 : Int32) S).bind (fun r_7 => if r_7.1 = 0 then (gd (inb x1 50) (if (r_7.2.2.1 98 (Int32.toNatClampNeg x1)) = 7 then ((F_X12_ran (80 : Int32) r_7.2).bind (fun r_42 => (F_X12_plainHolds x1 x2 r_42).bind (fun r_48 => (F_X12_jumping x1 (2 : Int32) r_48.2).bind (fun r_56 => some (r_48.1 + r_56.1, r_56.2))))) else (gd (inb x1 50) (if (r_7.2.2.1 98 (Int32.toNatClampNeg x1)) = 2 then ((F_X12_driedHolds x1 x2 r_7.2).bind (fun r_74 => some (r_74.1, r_74.2))) else ((F_X12_plainHolds x1 x2 r_7.2).bind (fun r_83 => some (r_83.1, r_83.2))))))) else ((F_X12_ran (41 : Int32) r_7.2).bind (fun r_16 => (F_X12_driedHolds x1 (x2 + 1) r_16).bind (fun r_24 => some (r_24.1, r_24.2))))))
set_option maxHeartbeats 4000000 in
set_option maxRecDepth 100000 in
theorem ok_X12_holding {l : Launch} (d : Nat) (x1 : Int32) (x2 : Int32) (S : St) (R : Int32 × St) (hF : F_X12_holding x1 x2 S = some R) : Go l (d + 6) mX12_holding (Res (some (.int R.1)) R.2) 0 [(0, .ref 63), (1, .int x1), (2, .int x2)] [] S := by
  unfold F_X12_holding at hF
  refine Go.aload_n dX12_holding_0 rfl ?_
  refine Go.getR dX12_holding_1 fX12_119 rfl ?_
  refine Go.iload_n dX12_holding_4 rfl ?_
  obtain ⟨hb_5, hF⟩ := gd_some hF
  refine Go.iald dX12_holding_5 rfl (inb_ok hb_5) ?_
  refine Go.iconst (v := 3) dX12_holding_6 (by decide) ?_
  obtain ⟨r_7, hc_7, hF⟩ := Option.bind_eq_some_iff.mp hF
  refine Go.callS [_, _] dX12_holding_7 kX12_isUnder sX12_isUnder lX12_369 rfl rfl (Nat.le_of_ble_eq_true rfl) (Nat.le_of_ble_eq_true rfl) (ok_X12_isUnder (d + 5) _ _ _ _ hc_7) ?_
  refine Go.ifeq (tgt := 28) dX12_holding_10 (by decide) (fun h_10 => ?_) (fun h_10 => ?_)
  · have hF := ite_t h_10 hF
    refine Go.aload_n dX12_holding_28 rfl ?_
    refine Go.getR dX12_holding_29 fX12_119 rfl ?_
    refine Go.iload_n dX12_holding_32 rfl ?_
    obtain ⟨hb_33, hF⟩ := gd_some hF
    refine Go.iald dX12_holding_33 rfl (inb_ok hb_33) ?_
    refine Go.bipush (v := 7) dX12_holding_34 (by decide) ?_
    refine Go.icmpne (tgt := 61) dX12_holding_36 (by decide) (fun h_36 => ?_) (fun h_36 => ?_)
    · have hF := ite_f h_36 hF
      refine Go.aload_n dX12_holding_61 rfl ?_
      refine Go.getR dX12_holding_62 fX12_119 rfl ?_
      refine Go.iload_n dX12_holding_65 rfl ?_
      obtain ⟨hb_66, hF⟩ := gd_some hF
      refine Go.iald dX12_holding_66 rfl (inb_ok hb_66) ?_
      refine Go.iconst (v := 2) dX12_holding_67 (by decide) ?_
      refine Go.icmpne (tgt := 80) dX12_holding_68 (by decide) (fun h_68 => ?_) (fun h_68 => ?_)
      · have hF := ite_f h_68 hF
        refine Go.aload_n dX12_holding_80 rfl ?_
        refine Go.iload_n dX12_holding_81 rfl ?_
        refine Go.iload_n dX12_holding_82 rfl ?_
        obtain ⟨r_83, hc_83, hF⟩ := Option.bind_eq_some_iff.mp hF
        refine Go.callV [_, _] dX12_holding_83 kX12_plainHolds vX12_plainHolds lX12_378 rfl rfl rfl rfl rfl (Nat.le_of_ble_eq_true rfl) (Nat.le_of_ble_eq_true rfl) (ok_X12_plainHolds (d + 1) _ _ _ _ hc_83) ?_
        obtain rfl := Option.some.inj hF
        exact Go.iret (st := []) dX12_holding_86 rfl rfl ⟨rfl, rfl⟩
      · have hF := ite_t h_68 hF
        refine Go.aload_n dX12_holding_71 rfl ?_
        refine Go.iload_n dX12_holding_72 rfl ?_
        refine Go.iload_n dX12_holding_73 rfl ?_
        obtain ⟨r_74, hc_74, hF⟩ := Option.bind_eq_some_iff.mp hF
        refine Go.callV [_, _] dX12_holding_74 kX12_driedHolds vX12_driedHolds lX12_381 rfl rfl rfl rfl rfl (Nat.le_of_ble_eq_true rfl) (Nat.le_of_ble_eq_true rfl) (ok_X12_driedHolds (d + 0) _ _ _ _ hc_74) ?_
        refine Go.goto (tgt := 86) dX12_holding_77 (by decide) ?_
        obtain rfl := Option.some.inj hF
        exact Go.iret (st := []) dX12_holding_86 rfl rfl ⟨rfl, rfl⟩
    · have hF := ite_t h_36 hF
      refine Go.aload_n dX12_holding_39 rfl ?_
      refine Go.bipush (v := 80) dX12_holding_40 (by decide) ?_
      obtain ⟨r_42, hc_42, hF⟩ := Option.bind_eq_some_iff.mp hF
      refine Go.callV [_] dX12_holding_42 kX12_ran vX12_ran lX12_363 rfl rfl rfl rfl rfl (Nat.le_of_ble_eq_true rfl) (Nat.le_of_ble_eq_true rfl) (ok_X12_ran (d + 5) _ _ _ hc_42) ?_
      refine Go.aload_n dX12_holding_45 rfl ?_
      refine Go.iload_n dX12_holding_46 rfl ?_
      refine Go.iload_n dX12_holding_47 rfl ?_
      obtain ⟨r_48, hc_48, hF⟩ := Option.bind_eq_some_iff.mp hF
      refine Go.callV [_, _] dX12_holding_48 kX12_plainHolds vX12_plainHolds lX12_378 rfl rfl rfl rfl rfl (Nat.le_of_ble_eq_true rfl) (Nat.le_of_ble_eq_true rfl) (ok_X12_plainHolds (d + 1) _ _ _ _ hc_48) ?_
      refine Go.istore_n (ls' := [(3, _), (0, _), (1, _), (2, _)]) dX12_holding_51 (by decide) rfl ?_
      refine Go.iload_n dX12_holding_52 rfl ?_
      refine Go.aload_n dX12_holding_53 rfl ?_
      refine Go.iload_n dX12_holding_54 rfl ?_
      refine Go.iconst (v := 2) dX12_holding_55 (by decide) ?_
      obtain ⟨r_56, hc_56, hF⟩ := Option.bind_eq_some_iff.mp hF
      refine Go.callV [_, _] dX12_holding_56 kX12_jumping vX12_jumping lX12_384 rfl rfl rfl rfl rfl (Nat.le_of_ble_eq_true rfl) (Nat.le_of_ble_eq_true rfl) (ok_X12_jumping (d + 1) _ _ _ _ hc_56) ?_
      refine Go.iadd dX12_holding_59 ?_
      obtain rfl := Option.some.inj hF
      exact Go.iret (st := []) dX12_holding_60 rfl rfl ⟨rfl, rfl⟩
  · have hF := ite_f h_10 hF
    refine Go.aload_n dX12_holding_13 rfl ?_
    refine Go.bipush (v := 41) dX12_holding_14 (by decide) ?_
    obtain ⟨r_16, hc_16, hF⟩ := Option.bind_eq_some_iff.mp hF
    refine Go.callV [_] dX12_holding_16 kX12_ran vX12_ran lX12_363 rfl rfl rfl rfl rfl (Nat.le_of_ble_eq_true rfl) (Nat.le_of_ble_eq_true rfl) (ok_X12_ran (d + 5) _ _ _ hc_16) ?_
    refine Go.aload_n dX12_holding_19 rfl ?_
    refine Go.iload_n dX12_holding_20 rfl ?_
    refine Go.iload_n dX12_holding_21 rfl ?_
    refine Go.iconst (v := 1) dX12_holding_22 (by decide) ?_
    refine Go.iadd dX12_holding_23 ?_
    obtain ⟨r_24, hc_24, hF⟩ := Option.bind_eq_some_iff.mp hF
    refine Go.callV [_, _] dX12_holding_24 kX12_driedHolds vX12_driedHolds lX12_381 rfl rfl rfl rfl rfl (Nat.le_of_ble_eq_true rfl) (Nat.le_of_ble_eq_true rfl) (ok_X12_driedHolds (d + 0) _ _ _ _ hc_24) ?_
    obtain rfl := Option.some.inj hF
    exact Go.iret (st := []) dX12_holding_27 rfl rfl ⟨rfl, rfl⟩
def F_X12_plainPrompts (x1 : Int32) (x2 : Int32) (S : St) : Option (Int32 × St) :=
  (F_X12_ran (2 : Int32) S).bind (fun r_2 => (F_X12_holding x1 x2 r_2).bind (fun r_8 => (F_X12_jumping x1 (1 : Int32) r_8.2).bind (fun r_16 => some (r_8.1 - r_16.1, r_16.2))))
set_option maxHeartbeats 4000000 in
set_option maxRecDepth 100000 in
theorem ok_X12_plainPrompts {l : Launch} (d : Nat) (x1 : Int32) (x2 : Int32) (S : St) (R : Int32 × St) (hF : F_X12_plainPrompts x1 x2 S = some R) : Go l (d + 7) mX12_plainPrompts (Res (some (.int R.1)) R.2) 0 [(0, .ref 63), (1, .int x1), (2, .int x2)] [] S := by
  unfold F_X12_plainPrompts at hF
  refine Go.aload_n dX12_plainPrompts_0 rfl ?_
  refine Go.iconst (v := 2) dX12_plainPrompts_1 (by decide) ?_
  obtain ⟨r_2, hc_2, hF⟩ := Option.bind_eq_some_iff.mp hF
  refine Go.callV [_] dX12_plainPrompts_2 kX12_ran vX12_ran lX12_363 rfl rfl rfl rfl rfl (Nat.le_of_ble_eq_true rfl) (Nat.le_of_ble_eq_true rfl) (ok_X12_ran (d + 6) _ _ _ hc_2) ?_
  refine Go.aload_n dX12_plainPrompts_5 rfl ?_
  refine Go.iload_n dX12_plainPrompts_6 rfl ?_
  refine Go.iload_n dX12_plainPrompts_7 rfl ?_
  obtain ⟨r_8, hc_8, hF⟩ := Option.bind_eq_some_iff.mp hF
  refine Go.callV [_, _] dX12_plainPrompts_8 kX12_holding vX12_holding lX12_393 rfl rfl rfl rfl rfl (Nat.le_of_ble_eq_true rfl) (Nat.le_of_ble_eq_true rfl) (ok_X12_holding (d + 0) _ _ _ _ hc_8) ?_
  refine Go.istore_n (ls' := [(3, _), (0, _), (1, _), (2, _)]) dX12_plainPrompts_11 (by decide) rfl ?_
  refine Go.iload_n dX12_plainPrompts_12 rfl ?_
  refine Go.aload_n dX12_plainPrompts_13 rfl ?_
  refine Go.iload_n dX12_plainPrompts_14 rfl ?_
  refine Go.iconst (v := 1) dX12_plainPrompts_15 (by decide) ?_
  obtain ⟨r_16, hc_16, hF⟩ := Option.bind_eq_some_iff.mp hF
  refine Go.callV [_, _] dX12_plainPrompts_16 kX12_jumping vX12_jumping lX12_384 rfl rfl rfl rfl rfl (Nat.le_of_ble_eq_true rfl) (Nat.le_of_ble_eq_true rfl) (ok_X12_jumping (d + 2) _ _ _ _ hc_16) ?_
  refine Go.isub dX12_plainPrompts_19 ?_
  obtain rfl := Option.some.inj hF
  exact Go.iret (st := []) dX12_plainPrompts_20 rfl rfl ⟨rfl, rfl⟩
def F_X12_prompting (x1 : Int32) (x2 : Int32) (S : St) : Option (Int32 × St) :=
  gd (inb x1 50) (if (S.2.1 98 (Int32.toNatClampNeg x1)) = 4 then ((F_X12_ran (50 : Int32) S).bind (fun r_13 => (F_X12_plainPrompts x1 x2 r_13).bind (fun r_19 => some (r_19.1 ^^^ 5, r_19.2)))) else (gd (inb x1 50) (if (S.2.1 98 (Int32.toNatClampNeg x1)) = 5 then ((F_X12_ran (61 : Int32) S).bind (fun r_38 => (F_X12_plainPrompts x1 x2 r_38).bind (fun r_44 => some (r_44.1 + 1, r_44.2)))) else ((F_X12_plainPrompts x1 x2 S).bind (fun r_53 => some (r_53.1, r_53.2))))))
set_option maxHeartbeats 4000000 in
set_option maxRecDepth 100000 in
theorem ok_X12_prompting {l : Launch} (d : Nat) (x1 : Int32) (x2 : Int32) (S : St) (R : Int32 × St) (hF : F_X12_prompting x1 x2 S = some R) : Go l (d + 8) mX12_prompting (Res (some (.int R.1)) R.2) 0 [(0, .ref 63), (1, .int x1), (2, .int x2)] [] S := by
  unfold F_X12_prompting at hF
  refine Go.aload_n dX12_prompting_0 rfl ?_
  refine Go.getR dX12_prompting_1 fX12_119 rfl ?_
  refine Go.iload_n dX12_prompting_4 rfl ?_
  obtain ⟨hb_5, hF⟩ := gd_some hF
  refine Go.iald dX12_prompting_5 rfl (inb_ok hb_5) ?_
  refine Go.iconst (v := 4) dX12_prompting_6 (by decide) ?_
  refine Go.icmpne (tgt := 25) dX12_prompting_7 (by decide) (fun h_7 => ?_) (fun h_7 => ?_)
  · have hF := ite_f h_7 hF
    refine Go.aload_n dX12_prompting_25 rfl ?_
    refine Go.getR dX12_prompting_26 fX12_119 rfl ?_
    refine Go.iload_n dX12_prompting_29 rfl ?_
    obtain ⟨hb_30, hF⟩ := gd_some hF
    refine Go.iald dX12_prompting_30 rfl (inb_ok hb_30) ?_
    refine Go.iconst (v := 5) dX12_prompting_31 (by decide) ?_
    refine Go.icmpne (tgt := 50) dX12_prompting_32 (by decide) (fun h_32 => ?_) (fun h_32 => ?_)
    · have hF := ite_f h_32 hF
      refine Go.aload_n dX12_prompting_50 rfl ?_
      refine Go.iload_n dX12_prompting_51 rfl ?_
      refine Go.iload_n dX12_prompting_52 rfl ?_
      obtain ⟨r_53, hc_53, hF⟩ := Option.bind_eq_some_iff.mp hF
      refine Go.callV [_, _] dX12_prompting_53 kX12_plainPrompts vX12_plainPrompts lX12_396 rfl rfl rfl rfl rfl (Nat.le_of_ble_eq_true rfl) (Nat.le_of_ble_eq_true rfl) (ok_X12_plainPrompts (d + 0) _ _ _ _ hc_53) ?_
      obtain rfl := Option.some.inj hF
      exact Go.iret (st := []) dX12_prompting_56 rfl rfl ⟨rfl, rfl⟩
    · have hF := ite_t h_32 hF
      refine Go.aload_n dX12_prompting_35 rfl ?_
      refine Go.bipush (v := 61) dX12_prompting_36 (by decide) ?_
      obtain ⟨r_38, hc_38, hF⟩ := Option.bind_eq_some_iff.mp hF
      refine Go.callV [_] dX12_prompting_38 kX12_ran vX12_ran lX12_363 rfl rfl rfl rfl rfl (Nat.le_of_ble_eq_true rfl) (Nat.le_of_ble_eq_true rfl) (ok_X12_ran (d + 7) _ _ _ hc_38) ?_
      refine Go.aload_n dX12_prompting_41 rfl ?_
      refine Go.iload_n dX12_prompting_42 rfl ?_
      refine Go.iload_n dX12_prompting_43 rfl ?_
      obtain ⟨r_44, hc_44, hF⟩ := Option.bind_eq_some_iff.mp hF
      refine Go.callV [_, _] dX12_prompting_44 kX12_plainPrompts vX12_plainPrompts lX12_396 rfl rfl rfl rfl rfl (Nat.le_of_ble_eq_true rfl) (Nat.le_of_ble_eq_true rfl) (ok_X12_plainPrompts (d + 0) _ _ _ _ hc_44) ?_
      refine Go.iconst (v := 1) dX12_prompting_47 (by decide) ?_
      refine Go.iadd dX12_prompting_48 ?_
      obtain rfl := Option.some.inj hF
      exact Go.iret (st := []) dX12_prompting_49 rfl rfl ⟨rfl, rfl⟩
  · have hF := ite_t h_7 hF
    refine Go.aload_n dX12_prompting_10 rfl ?_
    refine Go.bipush (v := 50) dX12_prompting_11 (by decide) ?_
    obtain ⟨r_13, hc_13, hF⟩ := Option.bind_eq_some_iff.mp hF
    refine Go.callV [_] dX12_prompting_13 kX12_ran vX12_ran lX12_363 rfl rfl rfl rfl rfl (Nat.le_of_ble_eq_true rfl) (Nat.le_of_ble_eq_true rfl) (ok_X12_ran (d + 7) _ _ _ hc_13) ?_
    refine Go.aload_n dX12_prompting_16 rfl ?_
    refine Go.iload_n dX12_prompting_17 rfl ?_
    refine Go.iload_n dX12_prompting_18 rfl ?_
    obtain ⟨r_19, hc_19, hF⟩ := Option.bind_eq_some_iff.mp hF
    refine Go.callV [_, _] dX12_prompting_19 kX12_plainPrompts vX12_plainPrompts lX12_396 rfl rfl rfl rfl rfl (Nat.le_of_ble_eq_true rfl) (Nat.le_of_ble_eq_true rfl) (ok_X12_plainPrompts (d + 0) _ _ _ _ hc_19) ?_
    refine Go.iconst (v := 5) dX12_prompting_22 (by decide) ?_
    refine Go.ixor dX12_prompting_23 ?_
    obtain rfl := Option.some.inj hF
    exact Go.iret (st := []) dX12_prompting_24 rfl rfl ⟨rfl, rfl⟩
def F_X12_act (x1 : Int32) (x2 : Int32) (x3 : Int32) (S : St) : Option (Int32 × St) :=
  let S2 := fset S 63 57 0; (F_X12_isBody x1 S2).bind (fun r_7 => if r_7.1 = 0 then (some (0, r_7.2)) else ((F_X12_in x2 (0 : Int32) (3 : Int32) r_7.2).bind (fun r_16 => if r_16.1 = 0 then (some (0, r_16.2)) else (if x2 = 0 then ((F_X12_cueing x1 x3 r_16.2).bind (fun r_31 => some (r_31.1, r_31.2))) else (if x2 = 1 then ((F_X12_holding x1 x3 r_16.2).bind (fun r_45 => some (r_45.1, r_45.2))) else (if x2 = 2 then ((F_X12_jumping x1 x3 r_16.2).bind (fun r_59 => some (r_59.1, r_59.2))) else ((F_X12_prompting x1 x3 r_16.2).bind (fun r_68 => some (r_68.1, r_68.2)))))))))
set_option maxHeartbeats 4000000 in
set_option maxRecDepth 100000 in
theorem ok_X12_act {l : Launch} (d : Nat) (x1 : Int32) (x2 : Int32) (x3 : Int32) (S : St) (R : Int32 × St) (hF : F_X12_act x1 x2 x3 S = some R) : Go l (d + 9) mX12_act (Res (some (.int R.1)) R.2) 0 [(0, .ref 63), (1, .int x1), (2, .int x2), (3, .int x3)] [] S := by
  unfold F_X12_act at hF
  refine Go.aload_n dX12_act_0 rfl ?_
  refine Go.iconst (v := 0) dX12_act_1 (by decide) ?_
  refine Go.putI dX12_act_2 fX12_360 rfl ?_
  refine Go.aload_n dX12_act_5 rfl ?_
  refine Go.iload_n dX12_act_6 rfl ?_
  obtain ⟨r_7, hc_7, hF⟩ := Option.bind_eq_some_iff.mp hF
  refine Go.callV [_] dX12_act_7 kX12_isBody vX12_isBody lX12_399 rfl rfl rfl rfl rfl (Nat.le_of_ble_eq_true rfl) (Nat.le_of_ble_eq_true rfl) (ok_X12_isBody (d + 7) _ _ _ hc_7) ?_
  refine Go.ifeq (tgt := 22) dX12_act_10 (by decide) (fun h_10 => ?_) (fun h_10 => ?_)
  · have hF := ite_t h_10 hF
    refine Go.iconst (v := 0) dX12_act_22 (by decide) ?_
    obtain rfl := Option.some.inj hF
    exact Go.iret (st := []) dX12_act_23 rfl rfl ⟨rfl, rfl⟩
  · have hF := ite_f h_10 hF
    refine Go.iload_n dX12_act_13 rfl ?_
    refine Go.iconst (v := 0) dX12_act_14 (by decide) ?_
    refine Go.iconst (v := 3) dX12_act_15 (by decide) ?_
    obtain ⟨r_16, hc_16, hF⟩ := Option.bind_eq_some_iff.mp hF
    refine Go.callS [_, _, _] dX12_act_16 kX12_in sX12_in lX12_144 rfl rfl (Nat.le_of_ble_eq_true rfl) (Nat.le_of_ble_eq_true rfl) (ok_X12_in (d + 8) _ _ _ _ _ hc_16) ?_
    refine Go.ifne (tgt := 24) dX12_act_19 (by decide) (fun h_19 => ?_) (fun h_19 => ?_)
    · have hF := ite_f h_19 hF
      refine Go.iload_n dX12_act_24 rfl ?_
      refine Go.ifne (tgt := 37) dX12_act_25 (by decide) (fun h_25 => ?_) (fun h_25 => ?_)
      · have hF := ite_f h_25 hF
        refine Go.iload_n dX12_act_37 rfl ?_
        refine Go.iconst (v := 1) dX12_act_38 (by decide) ?_
        refine Go.icmpne (tgt := 51) dX12_act_39 (by decide) (fun h_39 => ?_) (fun h_39 => ?_)
        · have hF := ite_f h_39 hF
          refine Go.iload_n dX12_act_51 rfl ?_
          refine Go.iconst (v := 2) dX12_act_52 (by decide) ?_
          refine Go.icmpne (tgt := 65) dX12_act_53 (by decide) (fun h_53 => ?_) (fun h_53 => ?_)
          · have hF := ite_f h_53 hF
            refine Go.aload_n dX12_act_65 rfl ?_
            refine Go.iload_n dX12_act_66 rfl ?_
            refine Go.iload_n dX12_act_67 rfl ?_
            obtain ⟨r_68, hc_68, hF⟩ := Option.bind_eq_some_iff.mp hF
            refine Go.callV [_, _] dX12_act_68 kX12_prompting vX12_prompting lX12_402 rfl rfl rfl rfl rfl (Nat.le_of_ble_eq_true rfl) (Nat.le_of_ble_eq_true rfl) (ok_X12_prompting (d + 0) _ _ _ _ hc_68) ?_
            obtain rfl := Option.some.inj hF
            exact Go.iret (st := []) dX12_act_71 rfl rfl ⟨rfl, rfl⟩
          · have hF := ite_t h_53 hF
            refine Go.aload_n dX12_act_56 rfl ?_
            refine Go.iload_n dX12_act_57 rfl ?_
            refine Go.iload_n dX12_act_58 rfl ?_
            obtain ⟨r_59, hc_59, hF⟩ := Option.bind_eq_some_iff.mp hF
            refine Go.callV [_, _] dX12_act_59 kX12_jumping vX12_jumping lX12_384 rfl rfl rfl rfl rfl (Nat.le_of_ble_eq_true rfl) (Nat.le_of_ble_eq_true rfl) (ok_X12_jumping (d + 4) _ _ _ _ hc_59) ?_
            refine Go.goto (tgt := 71) dX12_act_62 (by decide) ?_
            obtain rfl := Option.some.inj hF
            exact Go.iret (st := []) dX12_act_71 rfl rfl ⟨rfl, rfl⟩
        · have hF := ite_t h_39 hF
          refine Go.aload_n dX12_act_42 rfl ?_
          refine Go.iload_n dX12_act_43 rfl ?_
          refine Go.iload_n dX12_act_44 rfl ?_
          obtain ⟨r_45, hc_45, hF⟩ := Option.bind_eq_some_iff.mp hF
          refine Go.callV [_, _] dX12_act_45 kX12_holding vX12_holding lX12_393 rfl rfl rfl rfl rfl (Nat.le_of_ble_eq_true rfl) (Nat.le_of_ble_eq_true rfl) (ok_X12_holding (d + 2) _ _ _ _ hc_45) ?_
          refine Go.goto (tgt := 71) dX12_act_48 (by decide) ?_
          obtain rfl := Option.some.inj hF
          exact Go.iret (st := []) dX12_act_71 rfl rfl ⟨rfl, rfl⟩
      · have hF := ite_t h_25 hF
        refine Go.aload_n dX12_act_28 rfl ?_
        refine Go.iload_n dX12_act_29 rfl ?_
        refine Go.iload_n dX12_act_30 rfl ?_
        obtain ⟨r_31, hc_31, hF⟩ := Option.bind_eq_some_iff.mp hF
        refine Go.callV [_, _] dX12_act_31 kX12_cueing vX12_cueing lX12_375 rfl rfl rfl rfl rfl (Nat.le_of_ble_eq_true rfl) (Nat.le_of_ble_eq_true rfl) (ok_X12_cueing (d + 5) _ _ _ _ hc_31) ?_
        refine Go.goto (tgt := 71) dX12_act_34 (by decide) ?_
        obtain rfl := Option.some.inj hF
        exact Go.iret (st := []) dX12_act_71 rfl rfl ⟨rfl, rfl⟩
    · have hF := ite_t h_19 hF
      refine Go.iconst (v := 0) dX12_act_22 (by decide) ?_
      obtain rfl := Option.some.inj hF
      exact Go.iret (st := []) dX12_act_23 rfl rfl ⟨rfl, rfl⟩
theorem sw_X12_count_1 (x : Int32) (h0 : ¬ x = 0) (h1 : ¬ x = 1) (h2 : ¬ x = 2) (h3 : ¬ x = 3) (h4 : ¬ x = 4) : swO 60 0 4 #[35, 40, 45, 50, 55] x = 60 := by
  by_cases h : x.toInt < 0 ∨ 4 < x.toInt
  · unfold swO; rw [if_pos h]
  · have hx : x = 0 ∨ x = 1 ∨ x = 2 ∨ x = 3 ∨ x = 4 := by
      have e : ∀ v : Int32, x.toInt = v.toInt → x = v := fun v h => Int32.toInt_inj.mp h
      have : x.toInt = 0 ∨ x.toInt = 1 ∨ x.toInt = 2 ∨ x.toInt = 3 ∨ x.toInt = 4 := by omega
      rcases this with h | h | h | h | h
      · exact Or.inl (e 0 h)
      · exact Or.inr (Or.inl (e 1 h))
      · exact Or.inr (Or.inr (Or.inl (e 2 h)))
      · exact Or.inr (Or.inr (Or.inr (Or.inl (e 3 h))))
      · exact Or.inr (Or.inr (Or.inr (Or.inr (e 4 h))))
    rcases hx with rfl | rfl | rfl | rfl | rfl <;> first | rfl | (exact absurd rfl (by assumption))
def F_X12_count (x1 : Int32) (S : St) : Option (Int32 × St) :=
  if x1 = 0 then (some (S.1 63 1, S)) else (if x1 = 1 then (some (S.1 63 19, S)) else (if x1 = 2 then (some (S.1 63 12, S)) else (if x1 = 3 then (some (S.1 63 55, S)) else (if x1 = 4 then (some (S.1 63 57, S)) else (some ((-1), S))))))
set_option maxHeartbeats 4000000 in
set_option maxRecDepth 100000 in
theorem ok_X12_count {l : Launch} (d : Nat) (x1 : Int32) (S : St) (R : Int32 × St) (hF : F_X12_count x1 S = some R) : Go l (d + 0) mX12_count (Res (some (.int R.1)) R.2) 0 [(0, .ref 63), (1, .int x1)] [] S := by
  unfold F_X12_count at hF
  refine Go.iload_n dX12_count_0 rfl ?_
  by_cases hs_1_0 : x1 = 0
  · have hF := ite_t hs_1_0 hF
    refine Go.swT (tgt := 36) dX12_count_1 (by first | (rw [hs_1_0]; done) | (rw [hs_1_0]; rfl) | (rw [hs_1_0]; decide)) (by decide) (by decide) ?_
    refine Go.aload_n dX12_count_36 rfl ?_
    refine Go.getI dX12_count_37 fX12_141 rfl ?_
    obtain rfl := Option.some.inj hF
    exact Go.iret (st := []) dX12_count_40 rfl rfl ⟨rfl, rfl⟩
  · have hF := ite_f hs_1_0 hF
    by_cases hs_1_1 : x1 = 1
    · have hF := ite_t hs_1_1 hF
      refine Go.swT (tgt := 41) dX12_count_1 (by first | (rw [hs_1_1]; done) | (rw [hs_1_1]; rfl) | (rw [hs_1_1]; decide)) (by decide) (by decide) ?_
      refine Go.aload_n dX12_count_41 rfl ?_
      refine Go.getI dX12_count_42 fX12_185 rfl ?_
      obtain rfl := Option.some.inj hF
      exact Go.iret (st := []) dX12_count_45 rfl rfl ⟨rfl, rfl⟩
    · have hF := ite_f hs_1_1 hF
      by_cases hs_1_2 : x1 = 2
      · have hF := ite_t hs_1_2 hF
        refine Go.swT (tgt := 46) dX12_count_1 (by first | (rw [hs_1_2]; done) | (rw [hs_1_2]; rfl) | (rw [hs_1_2]; decide)) (by decide) (by decide) ?_
        refine Go.aload_n dX12_count_46 rfl ?_
        refine Go.getI dX12_count_47 fX12_171 rfl ?_
        obtain rfl := Option.some.inj hF
        exact Go.iret (st := []) dX12_count_50 rfl rfl ⟨rfl, rfl⟩
      · have hF := ite_f hs_1_2 hF
        by_cases hs_1_3 : x1 = 3
        · have hF := ite_t hs_1_3 hF
          refine Go.swT (tgt := 51) dX12_count_1 (by first | (rw [hs_1_3]; done) | (rw [hs_1_3]; rfl) | (rw [hs_1_3]; decide)) (by decide) (by decide) ?_
          refine Go.aload_n dX12_count_51 rfl ?_
          refine Go.getI dX12_count_52 fX12_357 rfl ?_
          obtain rfl := Option.some.inj hF
          exact Go.iret (st := []) dX12_count_55 rfl rfl ⟨rfl, rfl⟩
        · have hF := ite_f hs_1_3 hF
          by_cases hs_1_4 : x1 = 4
          · have hF := ite_t hs_1_4 hF
            refine Go.swT (tgt := 56) dX12_count_1 (by first | (rw [hs_1_4]; done) | (rw [hs_1_4]; rfl) | (rw [hs_1_4]; decide)) (by decide) (by decide) ?_
            refine Go.aload_n dX12_count_56 rfl ?_
            refine Go.getI dX12_count_57 fX12_360 rfl ?_
            obtain rfl := Option.some.inj hF
            exact Go.iret (st := []) dX12_count_60 rfl rfl ⟨rfl, rfl⟩
          · have hF := ite_f hs_1_4 hF
            refine Go.swT (tgt := 61) dX12_count_1 (sw_X12_count_1 _ hs_1_0 hs_1_1 hs_1_2 hs_1_3 hs_1_4) (by decide) (by decide) ?_
            refine Go.iconst (v := (-1)) dX12_count_61 (by decide) ?_
            obtain rfl := Option.some.inj hF
            exact Go.iret (st := []) dX12_count_62 rfl rfl ⟨rfl, rfl⟩
def F_X12_keep (x1 : Int32) (x2 : Int32) (S : St) : Option (Int32 × St) :=
  (F_X12_isShelf x1 S).bind (fun r_1 => if r_1.1 = 0 then (some ((-1), r_1.2)) else (if x2 = (-1) then (gd (inb x1 6) (let S28 := aset r_1.2 100 (upd (r_1.2.2.1 100) (Int32.toNatClampNeg x1) x2); some (1, S28))) else ((F_X12_isBody x2 r_1.2).bind (fun r_14 => if r_14.1 = 0 then (some ((-1), r_14.2)) else (gd (inb x1 6) (let S28 := aset r_14.2 100 (upd (r_14.2.2.1 100) (Int32.toNatClampNeg x1) x2); some (1, S28)))))))
set_option maxHeartbeats 4000000 in
set_option maxRecDepth 100000 in
theorem ok_X12_keep {l : Launch} (d : Nat) (x1 : Int32) (x2 : Int32) (S : St) (R : Int32 × St) (hF : F_X12_keep x1 x2 S = some R) : Go l (d + 2) mX12_keep (Res (some (.int R.1)) R.2) 0 [(0, .ref 63), (1, .int x1), (2, .int x2)] [] S := by
  unfold F_X12_keep at hF
  refine Go.iload_n dX12_keep_0 rfl ?_
  obtain ⟨r_1, hc_1, hF⟩ := Option.bind_eq_some_iff.mp hF
  refine Go.callS [_] dX12_keep_1 kX12_isShelf sX12_isShelf lX12_152 rfl rfl (Nat.le_of_ble_eq_true rfl) (Nat.le_of_ble_eq_true rfl) (ok_X12_isShelf (d + 0) _ _ _ hc_1) ?_
  refine Go.ifeq (tgt := 20) dX12_keep_4 (by decide) (fun h_4 => ?_) (fun h_4 => ?_)
  · have hF := ite_t h_4 hF
    refine Go.iconst (v := (-1)) dX12_keep_20 (by decide) ?_
    obtain rfl := Option.some.inj hF
    exact Go.iret (st := []) dX12_keep_21 rfl rfl ⟨rfl, rfl⟩
  · have hF := ite_f h_4 hF
    refine Go.iload_n dX12_keep_7 rfl ?_
    refine Go.iconst (v := (-1)) dX12_keep_8 (by decide) ?_
    refine Go.icmpeq (tgt := 22) dX12_keep_9 (by decide) (fun h_9 => ?_) (fun h_9 => ?_)
    · have hF := ite_t h_9 hF
      refine Go.aload_n dX12_keep_22 rfl ?_
      refine Go.getR dX12_keep_23 fX12_125 rfl ?_
      refine Go.iload_n dX12_keep_26 rfl ?_
      refine Go.iload_n dX12_keep_27 rfl ?_
      obtain ⟨hb_28, hF⟩ := gd_some hF
      refine Go.iast dX12_keep_28 rfl (inb_ok hb_28) ?_
      refine Go.iconst (v := 1) dX12_keep_29 (by decide) ?_
      obtain rfl := Option.some.inj hF
      exact Go.iret (st := []) dX12_keep_30 rfl rfl ⟨rfl, rfl⟩
    · have hF := ite_f h_9 hF
      refine Go.aload_n dX12_keep_12 rfl ?_
      refine Go.iload_n dX12_keep_13 rfl ?_
      obtain ⟨r_14, hc_14, hF⟩ := Option.bind_eq_some_iff.mp hF
      refine Go.callV [_] dX12_keep_14 kX12_isBody vX12_isBody lX12_399 rfl rfl rfl rfl rfl (Nat.le_of_ble_eq_true rfl) (Nat.le_of_ble_eq_true rfl) (ok_X12_isBody (d + 0) _ _ _ hc_14) ?_
      refine Go.ifne (tgt := 22) dX12_keep_17 (by decide) (fun h_17 => ?_) (fun h_17 => ?_)
      · have hF := ite_f h_17 hF
        refine Go.aload_n dX12_keep_22 rfl ?_
        refine Go.getR dX12_keep_23 fX12_125 rfl ?_
        refine Go.iload_n dX12_keep_26 rfl ?_
        refine Go.iload_n dX12_keep_27 rfl ?_
        obtain ⟨hb_28, hF⟩ := gd_some hF
        refine Go.iast dX12_keep_28 rfl (inb_ok hb_28) ?_
        refine Go.iconst (v := 1) dX12_keep_29 (by decide) ?_
        obtain rfl := Option.some.inj hF
        exact Go.iret (st := []) dX12_keep_30 rfl rfl ⟨rfl, rfl⟩
      · have hF := ite_t h_17 hF
        refine Go.iconst (v := (-1)) dX12_keep_20 (by decide) ?_
        obtain rfl := Option.some.inj hF
        exact Go.iret (st := []) dX12_keep_21 rfl rfl ⟨rfl, rfl⟩
def F_X12_row_54 : Nat → Int32 → Int32 → St → Option (Int32 × St)
  | 0 => fun _ _ _ => none
  | n + 1 => fun x1 x4 S =>
    if ((60 * x1) + 60) ≤ x4 then (some (1, S)) else (gd (inb x4 360) (let S73 := lset S 102 (vp_updL (S.2.2 102) (Int32.toNatClampNeg x4) 0); (F_X12_row_54 n) x1 (x4 + 1) S73))
set_option maxHeartbeats 4000000 in
set_option maxRecDepth 100000 in
theorem ok_X12_row_54 {l : Launch} (d : Nat) : ∀ (n : Nat) (x1 : Int32) (x4 : Int32) (S : St) (R : Int32 × St), F_X12_row_54 n x1 x4 S = some R → Go l (d + 2) mX12_row (Res (some (.int R.1)) R.2) 54 [(0, .ref 63), (1, .int x1), (4, .int x4)] [] S := by
  intro n
  induction n with
  | zero => intro x1 x4 S  R hF; cases hF
  | succ n hk54 =>
    intro x1 x4 S  R hF
    have hF : (if ((60 * x1) + 60) ≤ x4 then (some (1, S)) else (gd (inb x4 360) (let S73 := lset S 102 (vp_updL (S.2.2 102) (Int32.toNatClampNeg x4) 0); (F_X12_row_54 n) x1 (x4 + 1) S73))) = some R := hF
    refine Go.iload dX12_row_54 rfl ?_
    refine Go.bipush (v := 60) dX12_row_56 (by decide) ?_
    refine Go.iload_n dX12_row_58 rfl ?_
    refine Go.imul dX12_row_59 ?_
    refine Go.bipush (v := 60) dX12_row_60 (by decide) ?_
    refine Go.iadd dX12_row_62 ?_
    refine Go.icmpge (tgt := 80) dX12_row_63 (by decide) (fun h_63 => ?_) (fun h_63 => ?_)
    · have hF := ite_t h_63 hF
      refine Go.iconst (v := 1) dX12_row_80 (by decide) ?_
      obtain rfl := Option.some.inj hF
      exact Go.iret (st := []) dX12_row_81 rfl rfl ⟨rfl, rfl⟩
    · have hF := ite_f h_63 hF
      refine Go.aload_n dX12_row_66 rfl ?_
      refine Go.getR dX12_row_67 fX12_131 rfl ?_
      refine Go.iload dX12_row_70 rfl ?_
      refine Go.lconst (v := 0) dX12_row_72 (by decide) ?_
      obtain ⟨hb_73, hF⟩ := gd_some hF
      refine Go.last dX12_row_73 rfl (inb_ok hb_73) ?_
      refine Go.iincP (ls' := [(4, _), (0, _), (1, _)]) dX12_row_74 rfl (by decide) rfl ?_
      refine Go.goto (tgt := 54) dX12_row_77 (by decide) ?_
      refine Go.pick (ls' := [(0, _), (1, _), (4, _)]) [1, 2, 0] rfl ?_
      exact hk54 _ _ _ _ hF
def F_X12_row (N : Nat) (x1 : Int32) (x2 : Int32) (x3 : Int32) (S : St) : Option (Int32 × St) :=
  (F_X12_isShelf x1 S).bind (fun r_1 => if r_1.1 = 0 then (some ((-1), r_1.2)) else ((F_X12_in x2 (0 : Int32) (4 : Int32) r_1.2).bind (fun r_10 => if r_10.1 = 0 then (some ((-1), r_10.2)) else (if x3 ≤ 60 then (if 0 ≤ x3 then (gd (inb x1 6) (let S40 := aset r_10.2 100 (upd (r_10.2.2.1 100) (Int32.toNatClampNeg x1) ((-2) - x2)); gd (inb x1 6) (let S47 := aset S40 101 (upd (S40.2.1 101) (Int32.toNatClampNeg x1) x3); F_X12_row_54 N x1 (60 * x1) S47))) else (some ((-14), r_10.2))) else (some ((-1), r_10.2))))))
set_option maxHeartbeats 4000000 in
set_option maxRecDepth 100000 in
theorem ok_X12_row {l : Launch} (d : Nat) (N : Nat) (x1 : Int32) (x2 : Int32) (x3 : Int32) (S : St) (R : Int32 × St) (hF : F_X12_row N x1 x2 x3 S = some R) : Go l (d + 2) mX12_row (Res (some (.int R.1)) R.2) 0 [(0, .ref 63), (1, .int x1), (2, .int x2), (3, .int x3)] [] S := by
  unfold F_X12_row at hF
  refine Go.iload_n dX12_row_0 rfl ?_
  obtain ⟨r_1, hc_1, hF⟩ := Option.bind_eq_some_iff.mp hF
  refine Go.callS [_] dX12_row_1 kX12_isShelf sX12_isShelf lX12_152 rfl rfl (Nat.le_of_ble_eq_true rfl) (Nat.le_of_ble_eq_true rfl) (ok_X12_isShelf (d + 0) _ _ _ hc_1) ?_
  refine Go.ifeq (tgt := 22) dX12_row_4 (by decide) (fun h_4 => ?_) (fun h_4 => ?_)
  · have hF := ite_t h_4 hF
    refine Go.iconst (v := (-1)) dX12_row_22 (by decide) ?_
    obtain rfl := Option.some.inj hF
    exact Go.iret (st := []) dX12_row_23 rfl rfl ⟨rfl, rfl⟩
  · have hF := ite_f h_4 hF
    refine Go.iload_n dX12_row_7 rfl ?_
    refine Go.iconst (v := 0) dX12_row_8 (by decide) ?_
    refine Go.iconst (v := 4) dX12_row_9 (by decide) ?_
    obtain ⟨r_10, hc_10, hF⟩ := Option.bind_eq_some_iff.mp hF
    refine Go.callS [_, _, _] dX12_row_10 kX12_in sX12_in lX12_144 rfl rfl (Nat.le_of_ble_eq_true rfl) (Nat.le_of_ble_eq_true rfl) (ok_X12_in (d + 1) _ _ _ _ _ hc_10) ?_
    refine Go.ifeq (tgt := 22) dX12_row_13 (by decide) (fun h_13 => ?_) (fun h_13 => ?_)
    · have hF := ite_t h_13 hF
      refine Go.iconst (v := (-1)) dX12_row_22 (by decide) ?_
      obtain rfl := Option.some.inj hF
      exact Go.iret (st := []) dX12_row_23 rfl rfl ⟨rfl, rfl⟩
    · have hF := ite_f h_13 hF
      refine Go.iload_n dX12_row_16 rfl ?_
      refine Go.bipush (v := 60) dX12_row_17 (by decide) ?_
      refine Go.icmple (tgt := 24) dX12_row_19 (by decide) (fun h_19 => ?_) (fun h_19 => ?_)
      · have hF := ite_t h_19 hF
        refine Go.iload_n dX12_row_24 rfl ?_
        refine Go.ifge (tgt := 31) dX12_row_25 (by decide) (fun h_25 => ?_) (fun h_25 => ?_)
        · have hF := ite_t h_25 hF
          refine Go.aload_n dX12_row_31 rfl ?_
          refine Go.getR dX12_row_32 fX12_125 rfl ?_
          refine Go.iload_n dX12_row_35 rfl ?_
          refine Go.bipush (v := (-2)) dX12_row_36 (by decide) ?_
          refine Go.iload_n dX12_row_38 rfl ?_
          refine Go.isub dX12_row_39 ?_
          obtain ⟨hb_40, hF⟩ := gd_some hF
          refine Go.iast dX12_row_40 rfl (inb_ok hb_40) ?_
          refine Go.aload_n dX12_row_41 rfl ?_
          refine Go.getR dX12_row_42 fX12_128 rfl ?_
          refine Go.iload_n dX12_row_45 rfl ?_
          refine Go.iload_n dX12_row_46 rfl ?_
          obtain ⟨hb_47, hF⟩ := gd_some hF
          refine Go.iast dX12_row_47 rfl (inb_ok hb_47) ?_
          refine Go.bipush (v := 60) dX12_row_48 (by decide) ?_
          refine Go.iload_n dX12_row_50 rfl ?_
          refine Go.imul dX12_row_51 ?_
          refine Go.istore (ls' := [(4, _), (0, _), (1, _), (2, _), (3, _)]) dX12_row_52 (by decide) rfl ?_
          refine Go.pick (ls' := [(0, _), (1, _), (4, _)]) [1, 2, 0] rfl ?_
          exact ok_X12_row_54 d N _ _ _ _ hF
        · have hF := ite_f h_25 hF
          refine Go.bipush (v := (-14)) dX12_row_28 (by decide) ?_
          obtain rfl := Option.some.inj hF
          exact Go.iret (st := []) dX12_row_30 rfl rfl ⟨rfl, rfl⟩
      · have hF := ite_f h_19 hF
        refine Go.iconst (v := (-1)) dX12_row_22 (by decide) ?_
        obtain rfl := Option.some.inj hF
        exact Go.iret (st := []) dX12_row_23 rfl rfl ⟨rfl, rfl⟩
def F_X12_whyNoPlace (x1 : Int32) (x2 : Int32) (S : St) : Option (Int32 × St) :=
  (F_X12_isShelf x1 S).bind (fun r_1 => if r_1.1 = 0 then (some ((-1), r_1.2)) else (gd (inb x1 6) (if (r_1.2.2.1 100 (Int32.toNatClampNeg x1)) = (-1) then (some ((-11), r_1.2)) else (gd (inb x1 6) (if (r_1.2.2.1 100 (Int32.toNatClampNeg x1)) < 0 then (gd (inb x1 6) ((F_X12_in x2 (0 : Int32) ((r_1.2.2.1 101 (Int32.toNatClampNeg x1)) - 1) r_1.2).bind (fun r_44 => if r_44.1 = 0 then (some ((-13), r_44.2)) else (some (0, r_44.2))))) else (some ((-12), r_1.2)))))))
set_option maxHeartbeats 4000000 in
set_option maxRecDepth 100000 in
theorem ok_X12_whyNoPlace {l : Launch} (d : Nat) (x1 : Int32) (x2 : Int32) (S : St) (R : Int32 × St) (hF : F_X12_whyNoPlace x1 x2 S = some R) : Go l (d + 2) mX12_whyNoPlace (Res (some (.int R.1)) R.2) 0 [(0, .ref 63), (1, .int x1), (2, .int x2)] [] S := by
  unfold F_X12_whyNoPlace at hF
  refine Go.iload_n dX12_whyNoPlace_0 rfl ?_
  obtain ⟨r_1, hc_1, hF⟩ := Option.bind_eq_some_iff.mp hF
  refine Go.callS [_] dX12_whyNoPlace_1 kX12_isShelf sX12_isShelf lX12_152 rfl rfl (Nat.le_of_ble_eq_true rfl) (Nat.le_of_ble_eq_true rfl) (ok_X12_isShelf (d + 0) _ _ _ hc_1) ?_
  refine Go.ifne (tgt := 9) dX12_whyNoPlace_4 (by decide) (fun h_4 => ?_) (fun h_4 => ?_)
  · have hF := ite_f h_4 hF
    refine Go.aload_n dX12_whyNoPlace_9 rfl ?_
    refine Go.getR dX12_whyNoPlace_10 fX12_125 rfl ?_
    refine Go.iload_n dX12_whyNoPlace_13 rfl ?_
    obtain ⟨hb_14, hF⟩ := gd_some hF
    refine Go.iald dX12_whyNoPlace_14 rfl (inb_ok hb_14) ?_
    refine Go.iconst (v := (-1)) dX12_whyNoPlace_15 (by decide) ?_
    refine Go.icmpne (tgt := 22) dX12_whyNoPlace_16 (by decide) (fun h_16 => ?_) (fun h_16 => ?_)
    · have hF := ite_f h_16 hF
      refine Go.aload_n dX12_whyNoPlace_22 rfl ?_
      refine Go.getR dX12_whyNoPlace_23 fX12_125 rfl ?_
      refine Go.iload_n dX12_whyNoPlace_26 rfl ?_
      obtain ⟨hb_27, hF⟩ := gd_some hF
      refine Go.iald dX12_whyNoPlace_27 rfl (inb_ok hb_27) ?_
      refine Go.iflt (tgt := 34) dX12_whyNoPlace_28 (by decide) (fun h_28 => ?_) (fun h_28 => ?_)
      · have hF := ite_t h_28 hF
        refine Go.iload_n dX12_whyNoPlace_34 rfl ?_
        refine Go.iconst (v := 0) dX12_whyNoPlace_35 (by decide) ?_
        refine Go.aload_n dX12_whyNoPlace_36 rfl ?_
        refine Go.getR dX12_whyNoPlace_37 fX12_128 rfl ?_
        refine Go.iload_n dX12_whyNoPlace_40 rfl ?_
        obtain ⟨hb_41, hF⟩ := gd_some hF
        refine Go.iald dX12_whyNoPlace_41 rfl (inb_ok hb_41) ?_
        refine Go.iconst (v := 1) dX12_whyNoPlace_42 (by decide) ?_
        refine Go.isub dX12_whyNoPlace_43 ?_
        obtain ⟨r_44, hc_44, hF⟩ := Option.bind_eq_some_iff.mp hF
        refine Go.callS [_, _, _] dX12_whyNoPlace_44 kX12_in sX12_in lX12_144 rfl rfl (Nat.le_of_ble_eq_true rfl) (Nat.le_of_ble_eq_true rfl) (ok_X12_in (d + 1) _ _ _ _ _ hc_44) ?_
        refine Go.ifeq (tgt := 54) dX12_whyNoPlace_47 (by decide) (fun h_47 => ?_) (fun h_47 => ?_)
        · have hF := ite_t h_47 hF
          refine Go.bipush (v := (-13)) dX12_whyNoPlace_54 (by decide) ?_
          obtain rfl := Option.some.inj hF
          exact Go.iret (st := []) dX12_whyNoPlace_56 rfl rfl ⟨rfl, rfl⟩
        · have hF := ite_f h_47 hF
          refine Go.iconst (v := 0) dX12_whyNoPlace_50 (by decide) ?_
          refine Go.goto (tgt := 56) dX12_whyNoPlace_51 (by decide) ?_
          obtain rfl := Option.some.inj hF
          exact Go.iret (st := []) dX12_whyNoPlace_56 rfl rfl ⟨rfl, rfl⟩
      · have hF := ite_f h_28 hF
        refine Go.bipush (v := (-12)) dX12_whyNoPlace_31 (by decide) ?_
        obtain rfl := Option.some.inj hF
        exact Go.iret (st := []) dX12_whyNoPlace_33 rfl rfl ⟨rfl, rfl⟩
    · have hF := ite_t h_16 hF
      refine Go.bipush (v := (-11)) dX12_whyNoPlace_19 (by decide) ?_
      obtain rfl := Option.some.inj hF
      exact Go.iret (st := []) dX12_whyNoPlace_21 rfl rfl ⟨rfl, rfl⟩
  · have hF := ite_t h_4 hF
    refine Go.iconst (v := (-1)) dX12_whyNoPlace_7 (by decide) ?_
    obtain rfl := Option.some.inj hF
    exact Go.iret (st := []) dX12_whyNoPlace_8 rfl rfl ⟨rfl, rfl⟩
