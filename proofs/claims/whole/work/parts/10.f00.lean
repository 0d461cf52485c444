def F_X0_isFull (S : St) : Option (Int32 × St) :=
  if (S.1 12 0) < 50 then (some (0, S)) else (some (1, S))
set_option maxHeartbeats 4000000 in
set_option maxRecDepth 100000 in
theorem ok_X0_isFull {l : Launch} (d : Nat) (S : St) (R : Int32 × St) (hF : F_X0_isFull S = some R) : Go l (d + 0) mX0_isFull (Res (some (.int R.1)) R.2) 0 [(0, .ref 12)] [] S := by
  unfold F_X0_isFull at hF
  refine Go.aload_n dX0_isFull_0 rfl ?_
  refine Go.getI dX0_isFull_1 fX0_9 rfl ?_
  refine Go.bipush (v := 50) dX0_isFull_4 (by decide) ?_
  refine Go.icmplt (tgt := 13) dX0_isFull_6 (by decide) (fun h_6 => ?_) (fun h_6 => ?_)
  · have hF := ite_t h_6 hF
    refine Go.iconst (v := 0) dX0_isFull_13 (by decide) ?_
    obtain rfl := Option.some.inj hF
    exact Go.iret (st := []) dX0_isFull_14 rfl rfl ⟨rfl, rfl⟩
  · have hF := ite_f h_6 hF
    refine Go.iconst (v := 1) dX0_isFull_9 (by decide) ?_
    refine Go.goto (tgt := 14) dX0_isFull_10 (by decide) ?_
    obtain rfl := Option.some.inj hF
    exact Go.iret (st := []) dX0_isFull_14 rfl rfl ⟨rfl, rfl⟩
def F_X0_has (x1 : Int32) (S : St) : Option (Int32 × St) :=
  if x1 < 0 then (some (0, S)) else (if (S.1 12 0) ≤ x1 then (some (0, S)) else (some (1, S)))
set_option maxHeartbeats 4000000 in
set_option maxRecDepth 100000 in
theorem ok_X0_has {l : Launch} (d : Nat) (x1 : Int32) (S : St) (R : Int32 × St) (hF : F_X0_has x1 S = some R) : Go l (d + 0) mX0_has (Res (some (.int R.1)) R.2) 0 [(0, .ref 12), (1, .int x1)] [] S := by
  unfold F_X0_has at hF
  refine Go.iload_n dX0_has_0 rfl ?_
  refine Go.iflt (tgt := 16) dX0_has_1 (by decide) (fun h_1 => ?_) (fun h_1 => ?_)
  · have hF := ite_t h_1 hF
    refine Go.iconst (v := 0) dX0_has_16 (by decide) ?_
    obtain rfl := Option.some.inj hF
    exact Go.iret (st := []) dX0_has_17 rfl rfl ⟨rfl, rfl⟩
  · have hF := ite_f h_1 hF
    refine Go.iload_n dX0_has_4 rfl ?_
    refine Go.aload_n dX0_has_5 rfl ?_
    refine Go.getI dX0_has_6 fX0_9 rfl ?_
    refine Go.icmpge (tgt := 16) dX0_has_9 (by decide) (fun h_9 => ?_) (fun h_9 => ?_)
    · have hF := ite_t h_9 hF
      refine Go.iconst (v := 0) dX0_has_16 (by decide) ?_
      obtain rfl := Option.some.inj hF
      exact Go.iret (st := []) dX0_has_17 rfl rfl ⟨rfl, rfl⟩
    · have hF := ite_f h_9 hF
      refine Go.iconst (v := 1) dX0_has_12 (by decide) ?_
      refine Go.goto (tgt := 17) dX0_has_13 (by decide) ?_
      obtain rfl := Option.some.inj hF
      exact Go.iret (st := []) dX0_has_17 rfl rfl ⟨rfl, rfl⟩
def F_X0_add (x1 : Int32) (S : St) : Option (Int32 × St) :=
  gd (inb (S.1 12 0) 50) (let S9 := aset S 55 (upd (S.2.1 55) (Int32.toNatClampNeg (S.1 12 0)) x1); let S17 := fset S9 12 0 ((S9.1 12 0) + 1); some ((S17.1 12 0) - 1, S17))
set_option maxHeartbeats 4000000 in
set_option maxRecDepth 100000 in
theorem ok_X0_add {l : Launch} (d : Nat) (x1 : Int32) (S : St) (R : Int32 × St) (hF : F_X0_add x1 S = some R) : Go l (d + 0) mX0_add (Res (some (.int R.1)) R.2) 0 [(0, .ref 12), (1, .int x1)] [] S := by
  unfold F_X0_add at hF
  refine Go.aload_n dX0_add_0 rfl ?_
  refine Go.getR dX0_add_1 fX0_18 rfl ?_
  refine Go.aload_n dX0_add_4 rfl ?_
  refine Go.getI dX0_add_5 fX0_9 rfl ?_
  refine Go.iload_n dX0_add_8 rfl ?_
  obtain ⟨hb_9, hF⟩ := gd_some hF
  refine Go.iast dX0_add_9 rfl (inb_ok hb_9) ?_
  refine Go.aload_n dX0_add_10 rfl ?_
  refine Go.dup dX0_add_11 rfl ?_
  refine Go.getI dX0_add_12 fX0_9 rfl ?_
  refine Go.iconst (v := 1) dX0_add_15 (by decide) ?_
  refine Go.iadd dX0_add_16 ?_
  refine Go.putI dX0_add_17 fX0_9 rfl ?_
  refine Go.aload_n dX0_add_20 rfl ?_
  refine Go.getI dX0_add_21 fX0_9 rfl ?_
  refine Go.iconst (v := 1) dX0_add_24 (by decide) ?_
  refine Go.isub dX0_add_25 ?_
  obtain rfl := Option.some.inj hF
  exact Go.iret (st := []) dX0_add_26 rfl rfl ⟨rfl, rfl⟩
def F_X0_traced (S : St) : Option (Int32 × St) :=
  some (if (24 : Int32) < (S.1 12 1) then 24 else S.1 12 1, S)
set_option maxHeartbeats 4000000 in
set_option maxRecDepth 100000 in
theorem ok_X0_traced {l : Launch} (d : Nat) (S : St) (R : Int32 × St) (hF : F_X0_traced S = some R) : Go l (d + 1) mX0_traced (Res (some (.int R.1)) R.2) 0 [(0, .ref 12)] [] S := by
  unfold F_X0_traced at hF
  refine Go.aload_n dX0_traced_0 rfl ?_
  refine Go.getI dX0_traced_1 fX0_15 rfl ?_
  refine Go.bipush (v := 24) dX0_traced_4 (by decide) ?_
  refine Go.mmin dX0_traced_6 lX0_28 (Nat.le_of_ble_eq_true rfl) ?_
  obtain rfl := Option.some.inj hF
  exact Go.iret (st := []) dX0_traced_9 rfl rfl ⟨rfl, rfl⟩
def F_X0_isUnder_4 : Nat → Int32 → Int32 → Int32 → St → Option (Int32 × St)
  | 0 => fun _ _ _ _ => none
  | n + 1 => fun x1 x2 x3 S =>
    if 8 ≤ x3 then (some (0, S)) else (if x2 = (-1) then (some (0, S)) else (if x2 = x1 then (some (1, S)) else (gd (inb x2 8) ((F_X0_isUnder_4 n) x1 (aboveT (Int32.toNatClampNeg x2)) (x3 + 1) S))))
set_option maxHeartbeats 4000000 in
set_option maxRecDepth 100000 in
theorem ok_X0_isUnder_4 {l : Launch} (d : Nat) : ∀ (n : Nat) (x1 : Int32) (x2 : Int32) (x3 : Int32) (S : St) (R : Int32 × St), F_X0_isUnder_4 n x1 x2 x3 S = some R → Go l (d + 0) mX0_isUnder (Res (some (.int R.1)) R.2) 4 [(1, .int x1), (2, .int x2), (3, .int x3)] [] S := by
  intro n
  induction n with
  | zero => intro x1 x2 x3 S  R hF; cases hF
  | succ n hk4 =>
    intro x1 x2 x3 S  R hF
    have hF : (if 8 ≤ x3 then (some (0, S)) else (if x2 = (-1) then (some (0, S)) else (if x2 = x1 then (some (1, S)) else (gd (inb x2 8) ((F_X0_isUnder_4 n) x1 (aboveT (Int32.toNatClampNeg x2)) (x3 + 1) S))))) = some R := hF
    refine Go.iload_n dX0_isUnder_4 rfl ?_
    refine Go.bipush (v := 8) dX0_isUnder_5 (by decide) ?_
    refine Go.icmpge (tgt := 34) dX0_isUnder_7 (by decide) (fun h_7 => ?_) (fun h_7 => ?_)
    · have hF := ite_t h_7 hF
      refine Go.iconst (v := 0) dX0_isUnder_34 (by decide) ?_
      obtain rfl := Option.some.inj hF
      exact Go.iret (st := []) dX0_isUnder_35 rfl rfl ⟨rfl, rfl⟩
    · have hF := ite_f h_7 hF
      refine Go.iload_n dX0_isUnder_10 rfl ?_
      refine Go.iconst (v := (-1)) dX0_isUnder_11 (by decide) ?_
      refine Go.icmpeq (tgt := 34) dX0_isUnder_12 (by decide) (fun h_12 => ?_) (fun h_12 => ?_)
      · have hF := ite_t h_12 hF
        refine Go.iconst (v := 0) dX0_isUnder_34 (by decide) ?_
        obtain rfl := Option.some.inj hF
        exact Go.iret (st := []) dX0_isUnder_35 rfl rfl ⟨rfl, rfl⟩
      · have hF := ite_f h_12 hF
        refine Go.iload_n dX0_isUnder_15 rfl ?_
        refine Go.iload_n dX0_isUnder_16 rfl ?_
        refine Go.icmpne (tgt := 22) dX0_isUnder_17 (by decide) (fun h_17 => ?_) (fun h_17 => ?_)
        · have hF := ite_f h_17 hF
          refine Go.gsABOVE dX0_isUnder_22 fX0_34 ?_
          refine Go.iload_n dX0_isUnder_25 rfl ?_
          obtain ⟨hb_26, hF⟩ := gd_some hF
          refine Go.tiABOVE dX0_isUnder_26 (inb_ok hb_26) ?_
          refine Go.istore_n (ls' := [(2, _), (1, _), (3, _)]) dX0_isUnder_27 (by decide) rfl ?_
          refine Go.iincP (ls' := [(3, _), (2, _), (1, _)]) dX0_isUnder_28 rfl (by decide) rfl ?_
          refine Go.goto (tgt := 4) dX0_isUnder_31 (by decide) ?_
          refine Go.pick (ls' := [(1, _), (2, _), (3, _)]) [2, 1, 0] rfl ?_
          exact hk4 _ _ _ _ _ hF
        · have hF := ite_t h_17 hF
          refine Go.iconst (v := 1) dX0_isUnder_20 (by decide) ?_
          obtain rfl := Option.some.inj hF
          exact Go.iret (st := []) dX0_isUnder_21 rfl rfl ⟨rfl, rfl⟩
def F_X0_isUnder (N : Nat) (x0 : Int32) (x1 : Int32) (S : St) : Option (Int32 × St) :=
  F_X0_isUnder_4 N x1 x0 0 S
set_option maxHeartbeats 4000000 in
set_option maxRecDepth 100000 in
theorem ok_X0_isUnder {l : Launch} (d : Nat) (N : Nat) (x0 : Int32) (x1 : Int32) (S : St) (R : Int32 × St) (hF : F_X0_isUnder N x0 x1 S = some R) : Go l (d + 0) mX0_isUnder (Res (some (.int R.1)) R.2) 0 [(0, .int x0), (1, .int x1)] [] S := by
  unfold F_X0_isUnder at hF
  refine Go.iload_n dX0_isUnder_0 rfl ?_
  refine Go.istore_n (ls' := [(2, _), (0, _), (1, _)]) dX0_isUnder_1 (by decide) rfl ?_
  refine Go.iconst (v := 0) dX0_isUnder_2 (by decide) ?_
  refine Go.istore_n (ls' := [(3, _), (2, _), (0, _), (1, _)]) dX0_isUnder_3 (by decide) rfl ?_
  refine Go.pick (ls' := [(1, _), (2, _), (3, _)]) [3, 1, 0] rfl ?_
  exact ok_X0_isUnder_4 d N _ _ _ _ _ hF
def F_X1_dropOldest (S : St) : Option (St) :=
  gd (cpok (1 : Int32) (0 : Int32) (39 : Int32) 40 40) (let S12 := aset S 51 (va_cpy (S.2.1 51) (S.2.1 51) (Int32.toNatClampNeg (1 : Int32)) (Int32.toNatClampNeg (0 : Int32)) (Int32.toNatClampNeg (39 : Int32))); gd (cpok (1 : Int32) (0 : Int32) (39 : Int32) 40 40) (let S27 := aset S12 52 (va_cpy (S12.2.1 52) (S12.2.1 52) (Int32.toNatClampNeg (1 : Int32)) (Int32.toNatClampNeg (0 : Int32)) (Int32.toNatClampNeg (39 : Int32))); gd (cpok (1 : Int32) (0 : Int32) (39 : Int32) 40 40) (let S42 := aset S27 53 (va_cpy (S27.2.1 53) (S27.2.1 53) (Int32.toNatClampNeg (1 : Int32)) (Int32.toNatClampNeg (0 : Int32)) (Int32.toNatClampNeg (39 : Int32))); gd (cpok (1 : Int32) (0 : Int32) (39 : Int32) 40 40) (let S57 := aset S42 54 (va_cpy (S42.2.1 54) (S42.2.1 54) (Int32.toNatClampNeg (1 : Int32)) (Int32.toNatClampNeg (0 : Int32)) (Int32.toNatClampNeg (39 : Int32))); let S63 := fset S57 11 0 39; some S63))))
set_option maxHeartbeats 4000000 in
set_option maxRecDepth 100000 in
theorem ok_X1_dropOldest {l : Launch} (d : Nat) (S : St) (R : St) (hF : F_X1_dropOldest S = some R) : Go l (d + 1) mX1_dropOldest (Res none R) 0 [(0, .ref 11)] [] S := by
  unfold F_X1_dropOldest at hF
  refine Go.aload_n dX1_dropOldest_0 rfl ?_
  refine Go.getR dX1_dropOldest_1 fX1_16 rfl ?_
  refine Go.iconst (v := 1) dX1_dropOldest_4 (by decide) ?_
  refine Go.aload_n dX1_dropOldest_5 rfl ?_
  refine Go.getR dX1_dropOldest_6 fX1_16 rfl ?_
  refine Go.iconst (v := 0) dX1_dropOldest_9 (by decide) ?_
  refine Go.bipush (v := 39) dX1_dropOldest_10 (by decide) ?_
  obtain ⟨hb_12, hF⟩ := gd_some hF
  obtain ⟨hc1, hc2, hc3, hc4, hc5⟩ := cpok_ok hb_12
  refine Go.copyi dX1_dropOldest_12 lX1_32 ac_st ac_nt in_J10 rfl rfl hc1 hc2 hc3 hc4 hc5 (Nat.le_of_ble_eq_true rfl) ?_
  refine Go.aload_n dX1_dropOldest_15 rfl ?_
  refine Go.getR dX1_dropOldest_16 fX1_20 rfl ?_
  refine Go.iconst (v := 1) dX1_dropOldest_19 (by decide) ?_
  refine Go.aload_n dX1_dropOldest_20 rfl ?_
  refine Go.getR dX1_dropOldest_21 fX1_20 rfl ?_
  refine Go.iconst (v := 0) dX1_dropOldest_24 (by decide) ?_
  refine Go.bipush (v := 39) dX1_dropOldest_25 (by decide) ?_
  obtain ⟨hb_27, hF⟩ := gd_some hF
  obtain ⟨hc1, hc2, hc3, hc4, hc5⟩ := cpok_ok hb_27
  refine Go.copyi dX1_dropOldest_27 lX1_32 ac_st ac_nt in_J10 rfl rfl hc1 hc2 hc3 hc4 hc5 (Nat.le_of_ble_eq_true rfl) ?_
  refine Go.aload_n dX1_dropOldest_30 rfl ?_
  refine Go.getR dX1_dropOldest_31 fX1_23 rfl ?_
  refine Go.iconst (v := 1) dX1_dropOldest_34 (by decide) ?_
  refine Go.aload_n dX1_dropOldest_35 rfl ?_
  refine Go.getR dX1_dropOldest_36 fX1_23 rfl ?_
  refine Go.iconst (v := 0) dX1_dropOldest_39 (by decide) ?_
  refine Go.bipush (v := 39) dX1_dropOldest_40 (by decide) ?_
  obtain ⟨hb_42, hF⟩ := gd_some hF
  obtain ⟨hc1, hc2, hc3, hc4, hc5⟩ := cpok_ok hb_42
  refine Go.copyi dX1_dropOldest_42 lX1_32 ac_st ac_nt in_J10 rfl rfl hc1 hc2 hc3 hc4 hc5 (Nat.le_of_ble_eq_true rfl) ?_
  refine Go.aload_n dX1_dropOldest_45 rfl ?_
  refine Go.getR dX1_dropOldest_46 fX1_26 rfl ?_
  refine Go.iconst (v := 1) dX1_dropOldest_49 (by decide) ?_
  refine Go.aload_n dX1_dropOldest_50 rfl ?_
  refine Go.getR dX1_dropOldest_51 fX1_26 rfl ?_
  refine Go.iconst (v := 0) dX1_dropOldest_54 (by decide) ?_
  refine Go.bipush (v := 39) dX1_dropOldest_55 (by decide) ?_
  obtain ⟨hb_57, hF⟩ := gd_some hF
  obtain ⟨hc1, hc2, hc3, hc4, hc5⟩ := cpok_ok hb_57
  refine Go.copyi dX1_dropOldest_57 lX1_32 ac_st ac_nt in_J10 rfl rfl hc1 hc2 hc3 hc4 hc5 (Nat.le_of_ble_eq_true rfl) ?_
  refine Go.aload_n dX1_dropOldest_60 rfl ?_
  refine Go.bipush (v := 39) dX1_dropOldest_61 (by decide) ?_
  refine Go.putI dX1_dropOldest_63 fX1_7 rfl ?_
  obtain rfl := Option.some.inj hF
  exact Go.vret (st := []) dX1_dropOldest_66 rfl ⟨rfl, rfl⟩
def F_X1_note_13 (x1 : Int32) (x2 : Int32) (x3 : Int32) (x4 : Int32) (S : St) : Option (St) :=
  gd (inb (S.1 11 0) 40) (let S22 := aset S 51 (upd (S.2.1 51) (Int32.toNatClampNeg (S.1 11 0)) x1); gd (inb (S22.1 11 0) 40) (let S32 := aset S22 52 (upd (S22.2.1 52) (Int32.toNatClampNeg (S22.1 11 0)) x2); gd (inb (S32.1 11 0) 40) (let S42 := aset S32 53 (upd (S32.2.1 53) (Int32.toNatClampNeg (S32.1 11 0)) x3); gd (inb (S42.1 11 0) 40) (let S53 := aset S42 54 (upd (S42.2.1 54) (Int32.toNatClampNeg (S42.1 11 0)) x4); let S61 := fset S53 11 0 ((S53.1 11 0) + 1); let S69 := fset S61 11 1 (S61.1 11 0); some S69))))
set_option maxHeartbeats 4000000 in
set_option maxRecDepth 100000 in
theorem ok_X1_note_13 {l : Launch} (d : Nat) (x1 : Int32) (x2 : Int32) (x3 : Int32) (x4 : Int32) (S : St) (R : St) (hF : F_X1_note_13 x1 x2 x3 x4 S = some R) : Go l (d + 2) mX1_note (Res none R) 13 [(0, .ref 11), (1, .int x1), (2, .int x2), (3, .int x3), (4, .int x4)] [] S := by
  unfold F_X1_note_13 at hF
  refine Go.aload_n dX1_note_13 rfl ?_
  refine Go.getR dX1_note_14 fX1_16 rfl ?_
  refine Go.aload_n dX1_note_17 rfl ?_
  refine Go.getI dX1_note_18 fX1_7 rfl ?_
  refine Go.iload_n dX1_note_21 rfl ?_
  obtain ⟨hb_22, hF⟩ := gd_some hF
  refine Go.iast dX1_note_22 rfl (inb_ok hb_22) ?_
  refine Go.aload_n dX1_note_23 rfl ?_
  refine Go.getR dX1_note_24 fX1_20 rfl ?_
  refine Go.aload_n dX1_note_27 rfl ?_
  refine Go.getI dX1_note_28 fX1_7 rfl ?_
  refine Go.iload_n dX1_note_31 rfl ?_
  obtain ⟨hb_32, hF⟩ := gd_some hF
  refine Go.iast dX1_note_32 rfl (inb_ok hb_32) ?_
  refine Go.aload_n dX1_note_33 rfl ?_
  refine Go.getR dX1_note_34 fX1_23 rfl ?_
  refine Go.aload_n dX1_note_37 rfl ?_
  refine Go.getI dX1_note_38 fX1_7 rfl ?_
  refine Go.iload_n dX1_note_41 rfl ?_
  obtain ⟨hb_42, hF⟩ := gd_some hF
  refine Go.iast dX1_note_42 rfl (inb_ok hb_42) ?_
  refine Go.aload_n dX1_note_43 rfl ?_
  refine Go.getR dX1_note_44 fX1_26 rfl ?_
  refine Go.aload_n dX1_note_47 rfl ?_
  refine Go.getI dX1_note_48 fX1_7 rfl ?_
  refine Go.iload dX1_note_51 rfl ?_
  obtain ⟨hb_53, hF⟩ := gd_some hF
  refine Go.iast dX1_note_53 rfl (inb_ok hb_53) ?_
  refine Go.aload_n dX1_note_54 rfl ?_
  refine Go.dup dX1_note_55 rfl ?_
  refine Go.getI dX1_note_56 fX1_7 rfl ?_
  refine Go.iconst (v := 1) dX1_note_59 (by decide) ?_
  refine Go.iadd dX1_note_60 ?_
  refine Go.putI dX1_note_61 fX1_7 rfl ?_
  refine Go.aload_n dX1_note_64 rfl ?_
  refine Go.aload_n dX1_note_65 rfl ?_
  refine Go.getI dX1_note_66 fX1_7 rfl ?_
  refine Go.putI dX1_note_69 fX1_13 rfl ?_
  obtain rfl := Option.some.inj hF
  exact Go.vret (st := []) dX1_note_72 rfl ⟨rfl, rfl⟩
def F_X1_note (x1 : Int32) (x2 : Int32) (x3 : Int32) (x4 : Int32) (S : St) : Option (St) :=
  if (S.1 11 0) < 40 then (F_X1_note_13 x1 x2 x3 x4 S) else ((F_X1_dropOldest S).bind (fun r_10 => F_X1_note_13 x1 x2 x3 x4 r_10))
set_option maxHeartbeats 4000000 in
set_option maxRecDepth 100000 in
theorem ok_X1_note {l : Launch} (d : Nat) (x1 : Int32) (x2 : Int32) (x3 : Int32) (x4 : Int32) (S : St) (R : St) (hF : F_X1_note x1 x2 x3 x4 S = some R) : Go l (d + 2) mX1_note (Res none R) 0 [(0, .ref 11), (1, .int x1), (2, .int x2), (3, .int x3), (4, .int x4)] [] S := by
  unfold F_X1_note at hF
  refine Go.aload_n dX1_note_0 rfl ?_
  refine Go.getI dX1_note_1 fX1_7 rfl ?_
  refine Go.bipush (v := 40) dX1_note_4 (by decide) ?_
  refine Go.icmplt (tgt := 13) dX1_note_6 (by decide) (fun h_6 => ?_) (fun h_6 => ?_)
  · have hF := ite_t h_6 hF
    refine Go.pick (ls' := [(0, _), (1, _), (2, _), (3, _), (4, _)]) [0, 1, 2, 3, 4] rfl ?_
    exact ok_X1_note_13 d _ _ _ _ _ _ hF
  · have hF := ite_f h_6 hF
    refine Go.aload_n dX1_note_9 rfl ?_
    obtain ⟨r_10, hc_10, hF⟩ := Option.bind_eq_some_iff.mp hF
    refine Go.callV [] dX1_note_10 kX1_dropOldest vX1_dropOldest lX1_29 rfl rfl rfl rfl rfl (Nat.le_of_ble_eq_true rfl) (Nat.le_of_ble_eq_true rfl) (ok_X1_dropOldest (d + 0) _ _ hc_10) ?_
    refine Go.pick (ls' := [(0, _), (1, _), (2, _), (3, _), (4, _)]) [0, 1, 2, 3, 4] rfl ?_
    exact ok_X1_note_13 d _ _ _ _ _ _ hF
def F_X8_has (x1 : Int32) (S : St) : Option (Int32 × St) :=
  if x1 < 0 then (some (0, S)) else (if (S.1 1 0) ≤ x1 then (some (0, S)) else (some (1, S)))
set_option maxHeartbeats 4000000 in
set_option maxRecDepth 100000 in
theorem ok_X8_has {l : Launch} (d : Nat) (x1 : Int32) (S : St) (R : Int32 × St) (hF : F_X8_has x1 S = some R) : Go l (d + 0) mX8_has (Res (some (.int R.1)) R.2) 0 [(0, .ref 1), (1, .int x1)] [] S := by
  unfold F_X8_has at hF
  refine Go.iload_n dX8_has_0 rfl ?_
  refine Go.iflt (tgt := 16) dX8_has_1 (by decide) (fun h_1 => ?_) (fun h_1 => ?_)
  · have hF := ite_t h_1 hF
    refine Go.iconst (v := 0) dX8_has_16 (by decide) ?_
    obtain rfl := Option.some.inj hF
    exact Go.iret (st := []) dX8_has_17 rfl rfl ⟨rfl, rfl⟩
  · have hF := ite_f h_1 hF
    refine Go.iload_n dX8_has_4 rfl ?_
    refine Go.aload_n dX8_has_5 rfl ?_
    refine Go.getI dX8_has_6 fX8_9 rfl ?_
    refine Go.icmpge (tgt := 16) dX8_has_9 (by decide) (fun h_9 => ?_) (fun h_9 => ?_)
    · have hF := ite_t h_9 hF
      refine Go.iconst (v := 0) dX8_has_16 (by decide) ?_
      obtain rfl := Option.some.inj hF
      exact Go.iret (st := []) dX8_has_17 rfl rfl ⟨rfl, rfl⟩
    · have hF := ite_f h_9 hF
      refine Go.iconst (v := 1) dX8_has_12 (by decide) ?_
      refine Go.goto (tgt := 17) dX8_has_13 (by decide) ?_
      obtain rfl := Option.some.inj hF
      exact Go.iret (st := []) dX8_has_17 rfl rfl ⟨rfl, rfl⟩
def F_X11_isPart (x0 : Int32) (S : St) : Option (Int32 × St) :=
  if x0 < 0 then (some (0, S)) else (if 6 ≤ x0 then (some (0, S)) else (some (1, S)))
set_option maxHeartbeats 4000000 in
set_option maxRecDepth 100000 in
theorem ok_X11_isPart {l : Launch} (d : Nat) (x0 : Int32) (S : St) (R : Int32 × St) (hF : F_X11_isPart x0 S = some R) : Go l (d + 0) mX11_isPart (Res (some (.int R.1)) R.2) 0 [(0, .int x0)] [] S := by
  unfold F_X11_isPart at hF
  refine Go.iload_n dX11_isPart_0 rfl ?_
  refine Go.iflt (tgt := 14) dX11_isPart_1 (by decide) (fun h_1 => ?_) (fun h_1 => ?_)
  · have hF := ite_t h_1 hF
    refine Go.iconst (v := 0) dX11_isPart_14 (by decide) ?_
    obtain rfl := Option.some.inj hF
    exact Go.iret (st := []) dX11_isPart_15 rfl rfl ⟨rfl, rfl⟩
  · have hF := ite_f h_1 hF
    refine Go.iload_n dX11_isPart_4 rfl ?_
    refine Go.bipush (v := 6) dX11_isPart_5 (by decide) ?_
    refine Go.icmpge (tgt := 14) dX11_isPart_7 (by decide) (fun h_7 => ?_) (fun h_7 => ?_)
    · have hF := ite_t h_7 hF
      refine Go.iconst (v := 0) dX11_isPart_14 (by decide) ?_
      obtain rfl := Option.some.inj hF
      exact Go.iret (st := []) dX11_isPart_15 rfl rfl ⟨rfl, rfl⟩
    · have hF := ite_f h_7 hF
      refine Go.iconst (v := 1) dX11_isPart_10 (by decide) ?_
      refine Go.goto (tgt := 15) dX11_isPart_11 (by decide) ?_
      obtain rfl := Option.some.inj hF
      exact Go.iret (st := []) dX11_isPart_15 rfl rfl ⟨rfl, rfl⟩
def F_X8_change (x1 : Int32) (x2 : Int32) (x3 : Int32) (S : St) : Option (St) :=
  if x1 = 0 then ((F_X8_has x2 S).bind (fun r_6 => if r_6.1 = 0 then (if x1 = 1 then ((F_X11_isPart x2 r_6.2).bind (fun r_28 => if r_28.1 = 0 then (some r_28.2) else (gd (inb x2 6) (let S40 := aset r_28.2 28 (upd (r_28.2.2.1 28) (Int32.toNatClampNeg x2) x3); some S40)))) else (some r_6.2)) else (gd (inb x2 20) (let S18 := aset r_6.2 27 (upd (r_6.2.2.1 27) (Int32.toNatClampNeg x2) x3); some S18)))) else (if x1 = 1 then ((F_X11_isPart x2 S).bind (fun r_28 => if r_28.1 = 0 then (some r_28.2) else (gd (inb x2 6) (let S40 := aset r_28.2 28 (upd (r_28.2.2.1 28) (Int32.toNatClampNeg x2) x3); some S40)))) else (some S))
set_option maxHeartbeats 4000000 in
set_option maxRecDepth 100000 in
theorem ok_X8_change {l : Launch} (d : Nat) (x1 : Int32) (x2 : Int32) (x3 : Int32) (S : St) (R : St) (hF : F_X8_change x1 x2 x3 S = some R) : Go l (d + 1) mX8_change (Res none R) 0 [(0, .ref 1), (1, .int x1), (2, .int x2), (3, .int x3)] [] S := by
  unfold F_X8_change at hF
  refine Go.iload_n dX8_change_0 rfl ?_
  refine Go.ifne (tgt := 22) dX8_change_1 (by decide) (fun h_1 => ?_) (fun h_1 => ?_)
  · have hF := ite_f h_1 hF
    refine Go.iload_n dX8_change_22 rfl ?_
    refine Go.iconst (v := 1) dX8_change_23 (by decide) ?_
    refine Go.icmpne (tgt := 41) dX8_change_24 (by decide) (fun h_24 => ?_) (fun h_24 => ?_)
    · have hF := ite_f h_24 hF
      obtain rfl := Option.some.inj hF
      exact Go.vret (st := []) dX8_change_41 rfl ⟨rfl, rfl⟩
    · have hF := ite_t h_24 hF
      refine Go.iload_n dX8_change_27 rfl ?_
      obtain ⟨r_28, hc_28, hF⟩ := Option.bind_eq_some_iff.mp hF
      refine Go.callPart [_] rfl dX8_change_28 kX11_isPart sX11_isPart rfl rfl (Nat.le_of_ble_eq_true rfl) (Nat.le_of_ble_eq_true rfl) (ok_X11_isPart (d + 0) _ _ _ hc_28) (fun v' S' h' => ?_)
      obtain ⟨rfl, rfl⟩ := h'
      refine Go.ifeq (tgt := 41) dX8_change_31 (by decide) (fun h_31 => ?_) (fun h_31 => ?_)
      · have hF := ite_t h_31 hF
        obtain rfl := Option.some.inj hF
        exact Go.vret (st := []) dX8_change_41 rfl ⟨rfl, rfl⟩
      · have hF := ite_f h_31 hF
        refine Go.aload_n dX8_change_34 rfl ?_
        refine Go.getR dX8_change_35 fX8_37 rfl ?_
        refine Go.iload_n dX8_change_38 rfl ?_
        refine Go.iload_n dX8_change_39 rfl ?_
        obtain ⟨hb_40, hF⟩ := gd_some hF
        refine Go.iast dX8_change_40 rfl (inb_ok hb_40) ?_
        obtain rfl := Option.some.inj hF
        exact Go.vret (st := []) dX8_change_41 rfl ⟨rfl, rfl⟩
  · have hF := ite_t h_1 hF
    refine Go.aload_n dX8_change_4 rfl ?_
    refine Go.iload_n dX8_change_5 rfl ?_
    obtain ⟨r_6, hc_6, hF⟩ := Option.bind_eq_some_iff.mp hF
    refine Go.callV [_] dX8_change_6 kX8_has vX8_has lX8_63 rfl rfl rfl rfl rfl (Nat.le_of_ble_eq_true rfl) (Nat.le_of_ble_eq_true rfl) (ok_X8_has (d + 0) _ _ _ hc_6) ?_
    refine Go.ifeq (tgt := 22) dX8_change_9 (by decide) (fun h_9 => ?_) (fun h_9 => ?_)
    · have hF := ite_t h_9 hF
      refine Go.iload_n dX8_change_22 rfl ?_
      refine Go.iconst (v := 1) dX8_change_23 (by decide) ?_
      refine Go.icmpne (tgt := 41) dX8_change_24 (by decide) (fun h_24 => ?_) (fun h_24 => ?_)
      · have hF := ite_f h_24 hF
        obtain rfl := Option.some.inj hF
        exact Go.vret (st := []) dX8_change_41 rfl ⟨rfl, rfl⟩
      · have hF := ite_t h_24 hF
        refine Go.iload_n dX8_change_27 rfl ?_
        obtain ⟨r_28, hc_28, hF⟩ := Option.bind_eq_some_iff.mp hF
        refine Go.callPart [_] rfl dX8_change_28 kX11_isPart sX11_isPart rfl rfl (Nat.le_of_ble_eq_true rfl) (Nat.le_of_ble_eq_true rfl) (ok_X11_isPart (d + 0) _ _ _ hc_28) (fun v' S' h' => ?_)
        obtain ⟨rfl, rfl⟩ := h'
        refine Go.ifeq (tgt := 41) dX8_change_31 (by decide) (fun h_31 => ?_) (fun h_31 => ?_)
        · have hF := ite_t h_31 hF
          obtain rfl := Option.some.inj hF
          exact Go.vret (st := []) dX8_change_41 rfl ⟨rfl, rfl⟩
        · have hF := ite_f h_31 hF
          refine Go.aload_n dX8_change_34 rfl ?_
          refine Go.getR dX8_change_35 fX8_37 rfl ?_
          refine Go.iload_n dX8_change_38 rfl ?_
          refine Go.iload_n dX8_change_39 rfl ?_
          obtain ⟨hb_40, hF⟩ := gd_some hF
          refine Go.iast dX8_change_40 rfl (inb_ok hb_40) ?_
          obtain rfl := Option.some.inj hF
          exact Go.vret (st := []) dX8_change_41 rfl ⟨rfl, rfl⟩
    · have hF := ite_f h_9 hF
      refine Go.aload_n dX8_change_12 rfl ?_
      refine Go.getR dX8_change_13 fX8_34 rfl ?_
      refine Go.iload_n dX8_change_16 rfl ?_
      refine Go.iload_n dX8_change_17 rfl ?_
      obtain ⟨hb_18, hF⟩ := gd_some hF
      refine Go.iast dX8_change_18 rfl (inb_ok hb_18) ?_
      refine Go.goto (tgt := 41) dX8_change_19 (by decide) ?_
      obtain rfl := Option.some.inj hF
      exact Go.vret (st := []) dX8_change_41 rfl ⟨rfl, rfl⟩
def F_X1_stepBack (S : St) : Option (Int32 × St) :=
  if 0 < (S.1 11 0) then (let S16 := fset S 11 0 ((S.1 11 0) - 1); gd (inb (S16.1 11 0) 40) (gd (inb (S16.1 11 0) 40) (gd (inb (S16.1 11 0) 40) ((F_X8_change (S16.2.1 51 (Int32.toNatClampNeg (S16.1 11 0))) (S16.2.1 52 (Int32.toNatClampNeg (S16.1 11 0))) (S16.2.1 53 (Int32.toNatClampNeg (S16.1 11 0))) S16).bind (fun r_47 => some (1, r_47)))))) else (some (0, S))
set_option maxHeartbeats 4000000 in
set_option maxRecDepth 100000 in
theorem ok_X1_stepBack {l : Launch} (d : Nat) (S : St) (R : Int32 × St) (hF : F_X1_stepBack S = some R) : Go l (d + 2) mX1_stepBack (Res (some (.int R.1)) R.2) 0 [(0, .ref 11), (1, .ref 1)] [] S := by
  unfold F_X1_stepBack at hF
  refine Go.aload_n dX1_stepBack_0 rfl ?_
  refine Go.getI dX1_stepBack_1 fX1_7 rfl ?_
  refine Go.ifgt (tgt := 9) dX1_stepBack_4 (by decide) (fun h_4 => ?_) (fun h_4 => ?_)
  · have hF := ite_t h_4 hF
    refine Go.aload_n dX1_stepBack_9 rfl ?_
    refine Go.dup dX1_stepBack_10 rfl ?_
    refine Go.getI dX1_stepBack_11 fX1_7 rfl ?_
    refine Go.iconst (v := 1) dX1_stepBack_14 (by decide) ?_
    refine Go.isub dX1_stepBack_15 ?_
    refine Go.putI dX1_stepBack_16 fX1_7 rfl ?_
    refine Go.aload_n dX1_stepBack_19 rfl ?_
    refine Go.aload_n dX1_stepBack_20 rfl ?_
    refine Go.getR dX1_stepBack_21 fX1_16 rfl ?_
    refine Go.aload_n dX1_stepBack_24 rfl ?_
    refine Go.getI dX1_stepBack_25 fX1_7 rfl ?_
    obtain ⟨hb_28, hF⟩ := gd_some hF
    refine Go.iald dX1_stepBack_28 rfl (inb_ok hb_28) ?_
    refine Go.aload_n dX1_stepBack_29 rfl ?_
    refine Go.getR dX1_stepBack_30 fX1_20 rfl ?_
    refine Go.aload_n dX1_stepBack_33 rfl ?_
    refine Go.getI dX1_stepBack_34 fX1_7 rfl ?_
    obtain ⟨hb_37, hF⟩ := gd_some hF
    refine Go.iald dX1_stepBack_37 rfl (inb_ok hb_37) ?_
    refine Go.aload_n dX1_stepBack_38 rfl ?_
    refine Go.getR dX1_stepBack_39 fX1_23 rfl ?_
    refine Go.aload_n dX1_stepBack_42 rfl ?_
    refine Go.getI dX1_stepBack_43 fX1_7 rfl ?_
    obtain ⟨hb_46, hF⟩ := gd_some hF
    refine Go.iald dX1_stepBack_46 rfl (inb_ok hb_46) ?_
    obtain ⟨r_47, hc_47, hF⟩ := Option.bind_eq_some_iff.mp hF
    refine Go.callV [_, _, _] dX1_stepBack_47 kX8_change vX8_change lX1_38 rfl rfl rfl rfl rfl (Nat.le_of_ble_eq_true rfl) (Nat.le_of_ble_eq_true rfl) (ok_X8_change (d + 0) _ _ _ _ _ hc_47) ?_
    refine Go.iconst (v := 1) dX1_stepBack_50 (by decide) ?_
    obtain rfl := Option.some.inj hF
    exact Go.iret (st := []) dX1_stepBack_51 rfl rfl ⟨rfl, rfl⟩
  · have hF := ite_f h_4 hF
    refine Go.iconst (v := 0) dX1_stepBack_7 (by decide) ?_
    obtain rfl := Option.some.inj hF
    exact Go.iret (st := []) dX1_stepBack_8 rfl rfl ⟨rfl, rfl⟩
def F_X1_stepOn (S : St) : Option (Int32 × St) :=
  if (S.1 11 0) < (S.1 11 1) then (gd (inb (S.1 11 0) 40) (gd (inb (S.1 11 0) 40) (gd (inb (S.1 11 0) 40) ((F_X8_change (S.2.1 51 (Int32.toNatClampNeg (S.1 11 0))) (S.2.1 52 (Int32.toNatClampNeg (S.1 11 0))) (S.2.1 54 (Int32.toNatClampNeg (S.1 11 0))) S).bind (fun r_41 => let S51 := fset r_41 11 0 ((r_41.1 11 0) + 1); some (1, S51)))))) else (some (0, S))
set_option maxHeartbeats 4000000 in
set_option maxRecDepth 100000 in
theorem ok_X1_stepOn {l : Launch} (d : Nat) (S : St) (R : Int32 × St) (hF : F_X1_stepOn S = some R) : Go l (d + 2) mX1_stepOn (Res (some (.int R.1)) R.2) 0 [(0, .ref 11), (1, .ref 1)] [] S := by
  unfold F_X1_stepOn at hF
  refine Go.aload_n dX1_stepOn_0 rfl ?_
  refine Go.getI dX1_stepOn_1 fX1_7 rfl ?_
  refine Go.aload_n dX1_stepOn_4 rfl ?_
  refine Go.getI dX1_stepOn_5 fX1_13 rfl ?_
  refine Go.icmplt (tgt := 13) dX1_stepOn_8 (by decide) (fun h_8 => ?_) (fun h_8 => ?_)
  · have hF := ite_t h_8 hF
    refine Go.aload_n dX1_stepOn_13 rfl ?_
    refine Go.aload_n dX1_stepOn_14 rfl ?_
    refine Go.getR dX1_stepOn_15 fX1_16 rfl ?_
    refine Go.aload_n dX1_stepOn_18 rfl ?_
    refine Go.getI dX1_stepOn_19 fX1_7 rfl ?_
    obtain ⟨hb_22, hF⟩ := gd_some hF
    refine Go.iald dX1_stepOn_22 rfl (inb_ok hb_22) ?_
    refine Go.aload_n dX1_stepOn_23 rfl ?_
    refine Go.getR dX1_stepOn_24 fX1_20 rfl ?_
    refine Go.aload_n dX1_stepOn_27 rfl ?_
    refine Go.getI dX1_stepOn_28 fX1_7 rfl ?_
    obtain ⟨hb_31, hF⟩ := gd_some hF
    refine Go.iald dX1_stepOn_31 rfl (inb_ok hb_31) ?_
    refine Go.aload_n dX1_stepOn_32 rfl ?_
    refine Go.getR dX1_stepOn_33 fX1_26 rfl ?_
    refine Go.aload_n dX1_stepOn_36 rfl ?_
    refine Go.getI dX1_stepOn_37 fX1_7 rfl ?_
    obtain ⟨hb_40, hF⟩ := gd_some hF
    refine Go.iald dX1_stepOn_40 rfl (inb_ok hb_40) ?_
    obtain ⟨r_41, hc_41, hF⟩ := Option.bind_eq_some_iff.mp hF
    refine Go.callV [_, _, _] dX1_stepOn_41 kX8_change vX8_change lX1_38 rfl rfl rfl rfl rfl (Nat.le_of_ble_eq_true rfl) (Nat.le_of_ble_eq_true rfl) (ok_X8_change (d + 0) _ _ _ _ _ hc_41) ?_
    refine Go.aload_n dX1_stepOn_44 rfl ?_
    refine Go.dup dX1_stepOn_45 rfl ?_
    refine Go.getI dX1_stepOn_46 fX1_7 rfl ?_
    refine Go.iconst (v := 1) dX1_stepOn_49 (by decide) ?_
    refine Go.iadd dX1_stepOn_50 ?_
    refine Go.putI dX1_stepOn_51 fX1_7 rfl ?_
    refine Go.iconst (v := 1) dX1_stepOn_54 (by decide) ?_
    obtain rfl := Option.some.inj hF
    exact Go.iret (st := []) dX1_stepOn_55 rfl rfl ⟨rfl, rfl⟩
  · have hF := ite_f h_8 hF
    refine Go.iconst (v := 0) dX1_stepOn_11 (by decide) ?_
    obtain rfl := Option.some.inj hF
    exact Go.iret (st := []) dX1_stepOn_12 rfl rfl ⟨rfl, rfl⟩
def F_X1_forget (S : St) : Option (St) :=
  let S2 := fset S 11 0 0; let S7 := fset S2 11 1 0; some S7
set_option maxHeartbeats 4000000 in
set_option maxRecDepth 100000 in
theorem ok_X1_forget {l : Launch} (d : Nat) (S : St) (R : St) (hF : F_X1_forget S = some R) : Go l (d + 0) mX1_forget (Res none R) 0 [(0, .ref 11)] [] S := by
  unfold F_X1_forget at hF
  refine Go.aload_n dX1_forget_0 rfl ?_
  refine Go.iconst (v := 0) dX1_forget_1 (by decide) ?_
  refine Go.putI dX1_forget_2 fX1_7 rfl ?_
  refine Go.aload_n dX1_forget_5 rfl ?_
  refine Go.iconst (v := 0) dX1_forget_6 (by decide) ?_
  refine Go.putI dX1_forget_7 fX1_13 rfl ?_
  obtain rfl := Option.some.inj hF
  exact Go.vret (st := []) dX1_forget_10 rfl ⟨rfl, rfl⟩
def F_X2_leavesNeedsTold_4 : Nat → Int32 → Int32 → Int32 → St → Option (Int32 × St)
  | 0 => fun _ _ _ _ => none
  | n + 1 => fun x1 x2 x3 S =>
    if (S.1 1 0) ≤ x3 then (some (1, S)) else (if ((x1 >>> (x3 &&& 31)) &&& 1) = 0 then (gd (inb x3 20) (if ((S.2.1 26 (Int32.toNatClampNeg x3)) &&& (x2 ^^^ (-1))) = 0 then (gd (inb x3 20) ((F_X2_leavesNeedsTold_4 n) x1 (x2 ||| (S.2.1 25 (Int32.toNatClampNeg x3))) (x3 + 1) S)) else (some (0, S)))) else ((F_X2_leavesNeedsTold_4 n) x1 x2 (x3 + 1) S))
set_option maxHeartbeats 4000000 in
set_option maxRecDepth 100000 in
theorem ok_X2_leavesNeedsTold_4 {l : Launch} (d : Nat) : ∀ (n : Nat) (x1 : Int32) (x2 : Int32) (x3 : Int32) (S : St) (R : Int32 × St), F_X2_leavesNeedsTold_4 n x1 x2 x3 S = some R → Go l (d + 0) mX2_leavesNeedsTold (Res (some (.int R.1)) R.2) 4 [(0, .ref 1), (1, .int x1), (2, .int x2), (3, .int x3)] [] S := by
  intro n
  induction n with
  | zero => intro x1 x2 x3 S  R hF; cases hF
  | succ n hk4 =>
    intro x1 x2 x3 S  R hF
    have hF : (if (S.1 1 0) ≤ x3 then (some (1, S)) else (if ((x1 >>> (x3 &&& 31)) &&& 1) = 0 then (gd (inb x3 20) (if ((S.2.1 26 (Int32.toNatClampNeg x3)) &&& (x2 ^^^ (-1))) = 0 then (gd (inb x3 20) ((F_X2_leavesNeedsTold_4 n) x1 (x2 ||| (S.2.1 25 (Int32.toNatClampNeg x3))) (x3 + 1) S)) else (some (0, S)))) else ((F_X2_leavesNeedsTold_4 n) x1 x2 (x3 + 1) S))) = some R := hF
    refine Go.iload_n dX2_leavesNeedsTold_4 rfl ?_
    refine Go.aload_n dX2_leavesNeedsTold_5 rfl ?_
    refine Go.getI dX2_leavesNeedsTold_6 fX2_19 rfl ?_
    refine Go.icmpge (tgt := 50) dX2_leavesNeedsTold_9 (by decide) (fun h_9 => ?_) (fun h_9 => ?_)
    · have hF := ite_t h_9 hF
      refine Go.iconst (v := 1) dX2_leavesNeedsTold_50 (by decide) ?_
      obtain rfl := Option.some.inj hF
      exact Go.iret (st := []) dX2_leavesNeedsTold_51 rfl rfl ⟨rfl, rfl⟩
    · have hF := ite_f h_9 hF
      refine Go.iload_n dX2_leavesNeedsTold_12 rfl ?_
      refine Go.iload_n dX2_leavesNeedsTold_13 rfl ?_
      refine Go.ishr dX2_leavesNeedsTold_14 ?_
      refine Go.iconst (v := 1) dX2_leavesNeedsTold_15 (by decide) ?_
      refine Go.iand dX2_leavesNeedsTold_16 ?_
      refine Go.ifne (tgt := 44) dX2_leavesNeedsTold_17 (by decide) (fun h_17 => ?_) (fun h_17 => ?_)
      · have hF := ite_f h_17 hF
        refine Go.iincP (ls' := [(3, _), (0, _), (1, _), (2, _)]) dX2_leavesNeedsTold_44 rfl (by decide) rfl ?_
        refine Go.goto (tgt := 4) dX2_leavesNeedsTold_47 (by decide) ?_
        refine Go.pick (ls' := [(0, _), (1, _), (2, _), (3, _)]) [1, 2, 3, 0] rfl ?_
        exact hk4 _ _ _ _ _ hF
      · have hF := ite_t h_17 hF
        refine Go.aload_n dX2_leavesNeedsTold_20 rfl ?_
        refine Go.getR dX2_leavesNeedsTold_21 fX2_47 rfl ?_
        refine Go.iload_n dX2_leavesNeedsTold_24 rfl ?_
        obtain ⟨hb_25, hF⟩ := gd_some hF
        refine Go.iald dX2_leavesNeedsTold_25 rfl (inb_ok hb_25) ?_
        refine Go.iload_n dX2_leavesNeedsTold_26 rfl ?_
        refine Go.iconst (v := (-1)) dX2_leavesNeedsTold_27 (by decide) ?_
        refine Go.ixor dX2_leavesNeedsTold_28 ?_
        refine Go.iand dX2_leavesNeedsTold_29 ?_
        refine Go.ifeq (tgt := 35) dX2_leavesNeedsTold_30 (by decide) (fun h_30 => ?_) (fun h_30 => ?_)
        · have hF := ite_t h_30 hF
          refine Go.iload_n dX2_leavesNeedsTold_35 rfl ?_
          refine Go.aload_n dX2_leavesNeedsTold_36 rfl ?_
          refine Go.getR dX2_leavesNeedsTold_37 fX2_50 rfl ?_
          refine Go.iload_n dX2_leavesNeedsTold_40 rfl ?_
          obtain ⟨hb_41, hF⟩ := gd_some hF
          refine Go.iald dX2_leavesNeedsTold_41 rfl (inb_ok hb_41) ?_
          refine Go.ior dX2_leavesNeedsTold_42 ?_
          refine Go.istore_n (ls' := [(2, _), (0, _), (1, _), (3, _)]) dX2_leavesNeedsTold_43 (by decide) rfl ?_
          refine Go.iincP (ls' := [(3, _), (2, _), (0, _), (1, _)]) dX2_leavesNeedsTold_44 rfl (by decide) rfl ?_
          refine Go.goto (tgt := 4) dX2_leavesNeedsTold_47 (by decide) ?_
          refine Go.pick (ls' := [(0, _), (1, _), (2, _), (3, _)]) [2, 3, 1, 0] rfl ?_
          exact hk4 _ _ _ _ _ hF
        · have hF := ite_f h_30 hF
          refine Go.iconst (v := 0) dX2_leavesNeedsTold_33 (by decide) ?_
          obtain rfl := Option.some.inj hF
          exact Go.iret (st := []) dX2_leavesNeedsTold_34 rfl rfl ⟨rfl, rfl⟩
def F_X2_leavesNeedsTold (N : Nat) (x1 : Int32) (S : St) : Option (Int32 × St) :=
  F_X2_leavesNeedsTold_4 N x1 0 0 S
set_option maxHeartbeats 4000000 in
set_option maxRecDepth 100000 in
theorem ok_X2_leavesNeedsTold {l : Launch} (d : Nat) (N : Nat) (x1 : Int32) (S : St) (R : Int32 × St) (hF : F_X2_leavesNeedsTold N x1 S = some R) : Go l (d + 0) mX2_leavesNeedsTold (Res (some (.int R.1)) R.2) 0 [(0, .ref 1), (1, .int x1)] [] S := by
  unfold F_X2_leavesNeedsTold at hF
  refine Go.iconst (v := 0) dX2_leavesNeedsTold_0 (by decide) ?_
  refine Go.istore_n (ls' := [(2, _), (0, _), (1, _)]) dX2_leavesNeedsTold_1 (by decide) rfl ?_
  refine Go.iconst (v := 0) dX2_leavesNeedsTold_2 (by decide) ?_
  refine Go.istore_n (ls' := [(3, _), (2, _), (0, _), (1, _)]) dX2_leavesNeedsTold_3 (by decide) rfl ?_
  refine Go.pick (ls' := [(0, _), (1, _), (2, _), (3, _)]) [2, 3, 1, 0] rfl ?_
  exact ok_X2_leavesNeedsTold_4 d N _ _ _ _ _ hF
def F_X8_ringsFrom (x1 : Int32) (S : St) : Option (Int32 × St) :=
  gd (inb x1 20) (gd (inb (S.2.1 23 (Int32.toNatClampNeg x1)) 10) (some ((S.2.1 29 (Int32.toNatClampNeg (S.2.1 23 (Int32.toNatClampNeg x1)))) &&& ((1 <<< (x1 &&& 31)) - 1), S)))
set_option maxHeartbeats 4000000 in
set_option maxRecDepth 100000 in
theorem ok_X8_ringsFrom {l : Launch} (d : Nat) (x1 : Int32) (S : St) (R : Int32 × St) (hF : F_X8_ringsFrom x1 S = some R) : Go l (d + 0) mX8_ringsFrom (Res (some (.int R.1)) R.2) 0 [(0, .ref 1), (1, .int x1)] [] S := by
  unfold F_X8_ringsFrom at hF
  refine Go.aload_n dX8_ringsFrom_0 rfl ?_
  refine Go.getR dX8_ringsFrom_1 fX8_40 rfl ?_
  refine Go.aload_n dX8_ringsFrom_4 rfl ?_
  refine Go.getR dX8_ringsFrom_5 fX8_22 rfl ?_
  refine Go.iload_n dX8_ringsFrom_8 rfl ?_
  obtain ⟨hb_9, hF⟩ := gd_some hF
  refine Go.iald dX8_ringsFrom_9 rfl (inb_ok hb_9) ?_
  obtain ⟨hb_10, hF⟩ := gd_some hF
  refine Go.iald dX8_ringsFrom_10 rfl (inb_ok hb_10) ?_
  refine Go.iconst (v := 1) dX8_ringsFrom_11 (by decide) ?_
  refine Go.iload_n dX8_ringsFrom_12 rfl ?_
  refine Go.ishl dX8_ringsFrom_13 ?_
  refine Go.iconst (v := 1) dX8_ringsFrom_14 (by decide) ?_
  refine Go.isub dX8_ringsFrom_15 ?_
  refine Go.iand dX8_ringsFrom_16 ?_
  obtain rfl := Option.some.inj hF
  exact Go.iret (st := []) dX8_ringsFrom_17 rfl rfl ⟨rfl, rfl⟩
def F_J6_bitCount_0f7a4 (x0 : Int32) (S : St) : Option (Int32 × St) :=
  some ((((((((x0 - (((x0.toUInt32 >>> ((1 : Int32).toUInt32 &&& Int32.toUInt32 31)).toInt32) &&& 1431655765)) &&& 858993459) + ((((x0 - (((x0.toUInt32 >>> ((1 : Int32).toUInt32 &&& Int32.toUInt32 31)).toInt32) &&& 1431655765)).toUInt32 >>> ((2 : Int32).toUInt32 &&& Int32.toUInt32 31)).toInt32) &&& 858993459)) + (((((x0 - (((x0.toUInt32 >>> ((1 : Int32).toUInt32 &&& Int32.toUInt32 31)).toInt32) &&& 1431655765)) &&& 858993459) + ((((x0 - (((x0.toUInt32 >>> ((1 : Int32).toUInt32 &&& Int32.toUInt32 31)).toInt32) &&& 1431655765)).toUInt32 >>> ((2 : Int32).toUInt32 &&& Int32.toUInt32 31)).toInt32) &&& 858993459)).toUInt32 >>> ((4 : Int32).toUInt32 &&& Int32.toUInt32 31)).toInt32)) &&& 252645135) + (((((((x0 - (((x0.toUInt32 >>> ((1 : Int32).toUInt32 &&& Int32.toUInt32 31)).toInt32) &&& 1431655765)) &&& 858993459) + ((((x0 - (((x0.toUInt32 >>> ((1 : Int32).toUInt32 &&& Int32.toUInt32 31)).toInt32) &&& 1431655765)).toUInt32 >>> ((2 : Int32).toUInt32 &&& Int32.toUInt32 31)).toInt32) &&& 858993459)) + (((((x0 - (((x0.toUInt32 >>> ((1 : Int32).toUInt32 &&& Int32.toUInt32 31)).toInt32) &&& 1431655765)) &&& 858993459) + ((((x0 - (((x0.toUInt32 >>> ((1 : Int32).toUInt32 &&& Int32.toUInt32 31)).toInt32) &&& 1431655765)).toUInt32 >>> ((2 : Int32).toUInt32 &&& Int32.toUInt32 31)).toInt32) &&& 858993459)).toUInt32 >>> ((4 : Int32).toUInt32 &&& Int32.toUInt32 31)).toInt32)) &&& 252645135).toUInt32 >>> ((8 : Int32).toUInt32 &&& Int32.toUInt32 31)).toInt32)) + ((((((((x0 - (((x0.toUInt32 >>> ((1 : Int32).toUInt32 &&& Int32.toUInt32 31)).toInt32) &&& 1431655765)) &&& 858993459) + ((((x0 - (((x0.toUInt32 >>> ((1 : Int32).toUInt32 &&& Int32.toUInt32 31)).toInt32) &&& 1431655765)).toUInt32 >>> ((2 : Int32).toUInt32 &&& Int32.toUInt32 31)).toInt32) &&& 858993459)) + (((((x0 - (((x0.toUInt32 >>> ((1 : Int32).toUInt32 &&& Int32.toUInt32 31)).toInt32) &&& 1431655765)) &&& 858993459) + ((((x0 - (((x0.toUInt32 >>> ((1 : Int32).toUInt32 &&& Int32.toUInt32 31)).toInt32) &&& 1431655765)).toUInt32 >>> ((2 : Int32).toUInt32 &&& Int32.toUInt32 31)).toInt32) &&& 858993459)).toUInt32 >>> ((4 : Int32).toUInt32 &&& Int32.toUInt32 31)).toInt32)) &&& 252645135) + (((((((x0 - (((x0.toUInt32 >>> ((1 : Int32).toUInt32 &&& Int32.toUInt32 31)).toInt32) &&& 1431655765)) &&& 858993459) + ((((x0 - (((x0.toUInt32 >>> ((1 : Int32).toUInt32 &&& Int32.toUInt32 31)).toInt32) &&& 1431655765)).toUInt32 >>> ((2 : Int32).toUInt32 &&& Int32.toUInt32 31)).toInt32) &&& 858993459)) + (((((x0 - (((x0.toUInt32 >>> ((1 : Int32).toUInt32 &&& Int32.toUInt32 31)).toInt32) &&& 1431655765)) &&& 858993459) + ((((x0 - (((x0.toUInt32 >>> ((1 : Int32).toUInt32 &&& Int32.toUInt32 31)).toInt32) &&& 1431655765)).toUInt32 >>> ((2 : Int32).toUInt32 &&& Int32.toUInt32 31)).toInt32) &&& 858993459)).toUInt32 >>> ((4 : Int32).toUInt32 &&& Int32.toUInt32 31)).toInt32)) &&& 252645135).toUInt32 >>> ((8 : Int32).toUInt32 &&& Int32.toUInt32 31)).toInt32)).toUInt32 >>> ((16 : Int32).toUInt32 &&& Int32.toUInt32 31)).toInt32)) &&& 63, S)
set_option maxHeartbeats 4000000 in
set_option maxRecDepth 100000 in
theorem ok_J6_bitCount_0f7a4 {l : Launch} (d : Nat) (x0 : Int32) (S : St) (R : Int32 × St) (hF : F_J6_bitCount_0f7a4 x0 S = some R) : Go l (d + 0) mJ6_bitCount_0f7a4 (Res (some (.int R.1)) R.2) 0 [(0, .int x0)] [] S := by
  unfold F_J6_bitCount_0f7a4 at hF
  refine Go.iload_n dJ6_bitCount_0f7a4_0 rfl ?_
  refine Go.iload_n dJ6_bitCount_0f7a4_1 rfl ?_
  refine Go.iconst (v := 1) dJ6_bitCount_0f7a4_2 (by decide) ?_
  refine Go.iushr dJ6_bitCount_0f7a4_3 rfl ?_
  refine Go.ldc_w dJ6_bitCount_0f7a4_4 qJ6_265 ?_
  refine Go.iand dJ6_bitCount_0f7a4_7 ?_
  refine Go.isub dJ6_bitCount_0f7a4_8 ?_
  refine Go.istore_n (ls' := [(0, _)]) dJ6_bitCount_0f7a4_9 (by decide) rfl ?_
  refine Go.iload_n dJ6_bitCount_0f7a4_10 rfl ?_
  refine Go.ldc_w dJ6_bitCount_0f7a4_11 qJ6_266 ?_
  refine Go.iand dJ6_bitCount_0f7a4_14 ?_
  refine Go.iload_n dJ6_bitCount_0f7a4_15 rfl ?_
  refine Go.iconst (v := 2) dJ6_bitCount_0f7a4_16 (by decide) ?_
  refine Go.iushr dJ6_bitCount_0f7a4_17 rfl ?_
  refine Go.ldc_w dJ6_bitCount_0f7a4_18 qJ6_266 ?_
  refine Go.iand dJ6_bitCount_0f7a4_21 ?_
  refine Go.iadd dJ6_bitCount_0f7a4_22 ?_
  refine Go.istore_n (ls' := [(0, _)]) dJ6_bitCount_0f7a4_23 (by decide) rfl ?_
  refine Go.iload_n dJ6_bitCount_0f7a4_24 rfl ?_
  refine Go.iload_n dJ6_bitCount_0f7a4_25 rfl ?_
  refine Go.iconst (v := 4) dJ6_bitCount_0f7a4_26 (by decide) ?_
  refine Go.iushr dJ6_bitCount_0f7a4_27 rfl ?_
  refine Go.iadd dJ6_bitCount_0f7a4_28 ?_
  refine Go.ldc_w dJ6_bitCount_0f7a4_29 qJ6_267 ?_
  refine Go.iand dJ6_bitCount_0f7a4_32 ?_
  refine Go.istore_n (ls' := [(0, _)]) dJ6_bitCount_0f7a4_33 (by decide) rfl ?_
  refine Go.iload_n dJ6_bitCount_0f7a4_34 rfl ?_
  refine Go.iload_n dJ6_bitCount_0f7a4_35 rfl ?_
  refine Go.bipush (v := 8) dJ6_bitCount_0f7a4_36 (by decide) ?_
  refine Go.iushr dJ6_bitCount_0f7a4_38 rfl ?_
  refine Go.iadd dJ6_bitCount_0f7a4_39 ?_
  refine Go.istore_n (ls' := [(0, _)]) dJ6_bitCount_0f7a4_40 (by decide) rfl ?_
  refine Go.iload_n dJ6_bitCount_0f7a4_41 rfl ?_
  refine Go.iload_n dJ6_bitCount_0f7a4_42 rfl ?_
  refine Go.bipush (v := 16) dJ6_bitCount_0f7a4_43 (by decide) ?_
  refine Go.iushr dJ6_bitCount_0f7a4_45 rfl ?_
  refine Go.iadd dJ6_bitCount_0f7a4_46 ?_
  refine Go.istore_n (ls' := [(0, _)]) dJ6_bitCount_0f7a4_47 (by decide) rfl ?_
  refine Go.iload_n dJ6_bitCount_0f7a4_48 rfl ?_
  refine Go.bipush (v := 63) dJ6_bitCount_0f7a4_49 (by decide) ?_
  refine Go.iand dJ6_bitCount_0f7a4_51 ?_
  obtain rfl := Option.some.inj hF
  exact Go.iret (st := []) dJ6_bitCount_0f7a4_52 rfl rfl ⟨rfl, rfl⟩
def F_X2_weigh_9 : Nat → Int32 → Int32 → Int32 → Int32 → Int32 → St → Option (St)
  | 0 => fun _ _ _ _ _ _ => none
  | n + 1 => fun x2 x3 x4 x5 x6 S =>
    if (S.1 1 0) ≤ x6 then (if x3 = 0 then (if x4 < (S.1 9 1) then (let S99 := fset S 9 0 x2; let S105 := fset S99 9 1 x4; let S111 := fset S105 9 2 x5; some S111) else (if x4 = (S.1 9 1) then (if x5 ≤ (S.1 9 2) then (some S) else (let S99 := fset S 9 0 x2; let S105 := fset S99 9 1 x4; let S111 := fset S105 9 2 x5; some S111)) else (some S))) else (let S99 := fset S 9 0 x2; let S105 := fset S99 9 1 x4; let S111 := fset S105 9 2 x5; some S111)) else (if ((x2 >>> (x6 &&& 31)) &&& 1) = 0 then ((F_X8_ringsFrom x6 S).bind (fun r_47 => (F_J6_bitCount_0f7a4 (r_47.1 &&& (x2 ^^^ (-1))) r_47.2).bind (fun r_54 => (F_X2_weigh_9 n) x2 x3 (x4 + r_54.1) x5 (x6 + 1) r_54.2))) else (gd (inb x6 20) ((F_X2_weigh_9 n) x2 x3 x4 (x5 + (S.2.1 24 (Int32.toNatClampNeg x6))) (x6 + 1) S)))
set_option maxHeartbeats 4000000 in
set_option maxRecDepth 100000 in
theorem ok_X2_weigh_9 {l : Launch} (d : Nat) : ∀ (n : Nat) (x2 : Int32) (x3 : Int32) (x4 : Int32) (x5 : Int32) (x6 : Int32) (S : St) (R : St), F_X2_weigh_9 n x2 x3 x4 x5 x6 S = some R → Go l (d + 1) mX2_weigh (Res none R) 9 [(0, .ref 9), (1, .ref 1), (2, .int x2), (3, .int x3), (4, .int x4), (5, .int x5), (6, .int x6)] [] S := by
  intro n
  induction n with
  | zero => intro x2 x3 x4 x5 x6 S  R hF; cases hF
  | succ n hk9 =>
    intro x2 x3 x4 x5 x6 S  R hF
    have hF : (if (S.1 1 0) ≤ x6 then (if x3 = 0 then (if x4 < (S.1 9 1) then (let S99 := fset S 9 0 x2; let S105 := fset S99 9 1 x4; let S111 := fset S105 9 2 x5; some S111) else (if x4 = (S.1 9 1) then (if x5 ≤ (S.1 9 2) then (some S) else (let S99 := fset S 9 0 x2; let S105 := fset S99 9 1 x4; let S111 := fset S105 9 2 x5; some S111)) else (some S))) else (let S99 := fset S 9 0 x2; let S105 := fset S99 9 1 x4; let S111 := fset S105 9 2 x5; some S111)) else (if ((x2 >>> (x6 &&& 31)) &&& 1) = 0 then ((F_X8_ringsFrom x6 S).bind (fun r_47 => (F_J6_bitCount_0f7a4 (r_47.1 &&& (x2 ^^^ (-1))) r_47.2).bind (fun r_54 => (F_X2_weigh_9 n) x2 x3 (x4 + r_54.1) x5 (x6 + 1) r_54.2))) else (gd (inb x6 20) ((F_X2_weigh_9 n) x2 x3 x4 (x5 + (S.2.1 24 (Int32.toNatClampNeg x6))) (x6 + 1) S)))) = some R := hF
    refine Go.iload dX2_weigh_9 rfl ?_
    refine Go.aload_n dX2_weigh_11 rfl ?_
    refine Go.getI dX2_weigh_12 fX2_19 rfl ?_
    refine Go.icmpge (tgt := 66) dX2_weigh_15 (by decide) (fun h_15 => ?_) (fun h_15 => ?_)
    · have hF := ite_t h_15 hF
      refine Go.iload_n dX2_weigh_66 rfl ?_
      refine Go.ifne (tgt := 97) dX2_weigh_67 (by decide) (fun h_67 => ?_) (fun h_67 => ?_)
      · have hF := ite_f h_67 hF
        refine Go.aload_n dX2_weigh_97 rfl ?_
        refine Go.iload_n dX2_weigh_98 rfl ?_
        refine Go.putI dX2_weigh_99 fX2_7 rfl ?_
        refine Go.aload_n dX2_weigh_102 rfl ?_
        refine Go.iload dX2_weigh_103 rfl ?_
        refine Go.putI dX2_weigh_105 fX2_13 rfl ?_
        refine Go.aload_n dX2_weigh_108 rfl ?_
        refine Go.iload dX2_weigh_109 rfl ?_
        refine Go.putI dX2_weigh_111 fX2_16 rfl ?_
        obtain rfl := Option.some.inj hF
        exact Go.vret (st := []) dX2_weigh_114 rfl ⟨rfl, rfl⟩
      · have hF := ite_t h_67 hF
        refine Go.iload dX2_weigh_70 rfl ?_
        refine Go.aload_n dX2_weigh_72 rfl ?_
        refine Go.getI dX2_weigh_73 fX2_13 rfl ?_
        refine Go.icmplt (tgt := 97) dX2_weigh_76 (by decide) (fun h_76 => ?_) (fun h_76 => ?_)
        · have hF := ite_t h_76 hF
          refine Go.aload_n dX2_weigh_97 rfl ?_
          refine Go.iload_n dX2_weigh_98 rfl ?_
          refine Go.putI dX2_weigh_99 fX2_7 rfl ?_
          refine Go.aload_n dX2_weigh_102 rfl ?_
          refine Go.iload dX2_weigh_103 rfl ?_
          refine Go.putI dX2_weigh_105 fX2_13 rfl ?_
          refine Go.aload_n dX2_weigh_108 rfl ?_
          refine Go.iload dX2_weigh_109 rfl ?_
          refine Go.putI dX2_weigh_111 fX2_16 rfl ?_
          obtain rfl := Option.some.inj hF
          exact Go.vret (st := []) dX2_weigh_114 rfl ⟨rfl, rfl⟩
        · have hF := ite_f h_76 hF
          refine Go.iload dX2_weigh_79 rfl ?_
          refine Go.aload_n dX2_weigh_81 rfl ?_
          refine Go.getI dX2_weigh_82 fX2_13 rfl ?_
          refine Go.icmpne (tgt := 114) dX2_weigh_85 (by decide) (fun h_85 => ?_) (fun h_85 => ?_)
          · have hF := ite_f h_85 hF
            obtain rfl := Option.some.inj hF
            exact Go.vret (st := []) dX2_weigh_114 rfl ⟨rfl, rfl⟩
          · have hF := ite_t h_85 hF
            refine Go.iload dX2_weigh_88 rfl ?_
            refine Go.aload_n dX2_weigh_90 rfl ?_
            refine Go.getI dX2_weigh_91 fX2_16 rfl ?_
            refine Go.icmple (tgt := 114) dX2_weigh_94 (by decide) (fun h_94 => ?_) (fun h_94 => ?_)
            · have hF := ite_t h_94 hF
              obtain rfl := Option.some.inj hF
              exact Go.vret (st := []) dX2_weigh_114 rfl ⟨rfl, rfl⟩
            · have hF := ite_f h_94 hF
              refine Go.aload_n dX2_weigh_97 rfl ?_
              refine Go.iload_n dX2_weigh_98 rfl ?_
              refine Go.putI dX2_weigh_99 fX2_7 rfl ?_
              refine Go.aload_n dX2_weigh_102 rfl ?_
              refine Go.iload dX2_weigh_103 rfl ?_
              refine Go.putI dX2_weigh_105 fX2_13 rfl ?_
              refine Go.aload_n dX2_weigh_108 rfl ?_
              refine Go.iload dX2_weigh_109 rfl ?_
              refine Go.putI dX2_weigh_111 fX2_16 rfl ?_
              obtain rfl := Option.some.inj hF
              exact Go.vret (st := []) dX2_weigh_114 rfl ⟨rfl, rfl⟩
    · have hF := ite_f h_15 hF
      refine Go.iload_n dX2_weigh_18 rfl ?_
      refine Go.iload dX2_weigh_19 rfl ?_
      refine Go.ishr dX2_weigh_21 ?_
      refine Go.iconst (v := 1) dX2_weigh_22 (by decide) ?_
      refine Go.iand dX2_weigh_23 ?_
      refine Go.ifeq (tgt := 42) dX2_weigh_24 (by decide) (fun h_24 => ?_) (fun h_24 => ?_)
      · have hF := ite_t h_24 hF
        refine Go.iload dX2_weigh_42 rfl ?_
        refine Go.aload_n dX2_weigh_44 rfl ?_
        refine Go.iload dX2_weigh_45 rfl ?_
        obtain ⟨r_47, hc_47, hF⟩ := Option.bind_eq_some_iff.mp hF
        refine Go.callV [_] dX2_weigh_47 kX8_ringsFrom vX8_ringsFrom lX2_39 rfl rfl rfl rfl rfl (Nat.le_of_ble_eq_true rfl) (Nat.le_of_ble_eq_true rfl) (ok_X8_ringsFrom (d + 0) _ _ _ hc_47) ?_
        refine Go.iload_n dX2_weigh_50 rfl ?_
        refine Go.iconst (v := (-1)) dX2_weigh_51 (by decide) ?_
        refine Go.ixor dX2_weigh_52 ?_
        refine Go.iand dX2_weigh_53 ?_
        obtain ⟨r_54, hc_54, hF⟩ := Option.bind_eq_some_iff.mp hF
        refine Go.callS [_] dX2_weigh_54 kJ6_bitCount_0f7a4 sJ6_bitCount_0f7a4 lX2_42 rfl rfl (Nat.le_of_ble_eq_true rfl) (Nat.le_of_ble_eq_true rfl) (ok_J6_bitCount_0f7a4 (d + 0) _ _ _ hc_54) ?_
        refine Go.iadd dX2_weigh_57 ?_
        refine Go.istore (ls' := [(4, _), (0, _), (1, _), (2, _), (3, _), (5, _), (6, _)]) dX2_weigh_58 (by decide) rfl ?_
        refine Go.iincP (ls' := [(6, _), (4, _), (0, _), (1, _), (2, _), (3, _), (5, _)]) dX2_weigh_60 rfl (by decide) rfl ?_
        refine Go.goto (tgt := 9) dX2_weigh_63 (by decide) ?_
        refine Go.pick (ls' := [(0, _), (1, _), (2, _), (3, _), (4, _), (5, _), (6, _)]) [2, 3, 4, 5, 1, 6, 0] rfl ?_
        exact hk9 _ _ _ _ _ _ _ hF
      · have hF := ite_f h_24 hF
        refine Go.iload dX2_weigh_27 rfl ?_
        refine Go.aload_n dX2_weigh_29 rfl ?_
        refine Go.getR dX2_weigh_30 fX2_36 rfl ?_
        refine Go.iload dX2_weigh_33 rfl ?_
        obtain ⟨hb_35, hF⟩ := gd_some hF
        refine Go.iald dX2_weigh_35 rfl (inb_ok hb_35) ?_
        refine Go.iadd dX2_weigh_36 ?_
        refine Go.istore (ls' := [(5, _), (0, _), (1, _), (2, _), (3, _), (4, _), (6, _)]) dX2_weigh_37 (by decide) rfl ?_
        refine Go.goto (tgt := 60) dX2_weigh_39 (by decide) ?_
        refine Go.iincP (ls' := [(6, _), (5, _), (0, _), (1, _), (2, _), (3, _), (4, _)]) dX2_weigh_60 rfl (by decide) rfl ?_
        refine Go.goto (tgt := 9) dX2_weigh_63 (by decide) ?_
        refine Go.pick (ls' := [(0, _), (1, _), (2, _), (3, _), (4, _), (5, _), (6, _)]) [2, 3, 4, 5, 6, 1, 0] rfl ?_
        exact hk9 _ _ _ _ _ _ _ hF
def F_X2_weigh (N : Nat) (x2 : Int32) (x3 : Int32) (S : St) : Option (St) :=
  F_X2_weigh_9 N x2 x3 0 0 0 S
set_option maxHeartbeats 4000000 in
set_option maxRecDepth 100000 in
theorem ok_X2_weigh {l : Launch} (d : Nat) (N : Nat) (x2 : Int32) (x3 : Int32) (S : St) (R : St) (hF : F_X2_weigh N x2 x3 S = some R) : Go l (d + 1) mX2_weigh (Res none R) 0 [(0, .ref 9), (1, .ref 1), (2, .int x2), (3, .int x3)] [] S := by
  unfold F_X2_weigh at hF
  refine Go.iconst (v := 0) dX2_weigh_0 (by decide) ?_
  refine Go.istore (ls' := [(4, _), (0, _), (1, _), (2, _), (3, _)]) dX2_weigh_1 (by decide) rfl ?_
  refine Go.iconst (v := 0) dX2_weigh_3 (by decide) ?_
  refine Go.istore (ls' := [(5, _), (4, _), (0, _), (1, _), (2, _), (3, _)]) dX2_weigh_4 (by decide) rfl ?_
  refine Go.iconst (v := 0) dX2_weigh_6 (by decide) ?_
  refine Go.istore (ls' := [(6, _), (5, _), (4, _), (0, _), (1, _), (2, _), (3, _)]) dX2_weigh_7 (by decide) rfl ?_
  refine Go.pick (ls' := [(0, _), (1, _), (2, _), (3, _), (4, _), (5, _), (6, _)]) [3, 4, 5, 6, 2, 1, 0] rfl ?_
  exact ok_X2_weigh_9 d N _ _ _ _ _ _ _ hF
def F_X2_nextSet (x0 : Int32) (S : St) : Option (Int32 × St) :=
  if (x0 &&& (-x0)) = 0 then (some (x0, S)) else (gd (decide (¬ (x0 &&& (-x0)) = 0)) (some ((x0 + (x0 &&& (-x0))) ||| (((x0 ^^^ (x0 + (x0 &&& (-x0)))) / (x0 &&& (-x0))) >>> (2 &&& 31)), S)))
set_option maxHeartbeats 4000000 in
set_option maxRecDepth 100000 in
theorem ok_X2_nextSet {l : Launch} (d : Nat) (x0 : Int32) (S : St) (R : Int32 × St) (hF : F_X2_nextSet x0 S = some R) : Go l (d + 0) mX2_nextSet (Res (some (.int R.1)) R.2) 0 [(0, .int x0)] [] S := by
  unfold F_X2_nextSet at hF
  refine Go.iload_n dX2_nextSet_0 rfl ?_
  refine Go.iload_n dX2_nextSet_1 rfl ?_
  refine Go.ineg dX2_nextSet_2 ?_
  refine Go.iand dX2_nextSet_3 ?_
  refine Go.istore_n (ls' := [(1, _), (0, _)]) dX2_nextSet_4 (by decide) rfl ?_
  refine Go.iload_n dX2_nextSet_5 rfl ?_
  refine Go.ifne (tgt := 11) dX2_nextSet_6 (by decide) (fun h_6 => ?_) (fun h_6 => ?_)
  · have hF := ite_f h_6 hF
    refine Go.iload_n dX2_nextSet_11 rfl ?_
    refine Go.iload_n dX2_nextSet_12 rfl ?_
    refine Go.iadd dX2_nextSet_13 ?_
    refine Go.istore_n (ls' := [(2, _), (1, _), (0, _)]) dX2_nextSet_14 (by decide) rfl ?_
    refine Go.iload_n dX2_nextSet_15 rfl ?_
    refine Go.iload_n dX2_nextSet_16 rfl ?_
    refine Go.iload_n dX2_nextSet_17 rfl ?_
    refine Go.ixor dX2_nextSet_18 ?_
    refine Go.iload_n dX2_nextSet_19 rfl ?_
    obtain ⟨hb_20, hF⟩ := gd_some hF
    refine Go.idiv dX2_nextSet_20 (of_decide_eq_true hb_20) ?_
    refine Go.iconst (v := 2) dX2_nextSet_21 (by decide) ?_
    refine Go.ishr dX2_nextSet_22 ?_
    refine Go.ior dX2_nextSet_23 ?_
    obtain rfl := Option.some.inj hF
    exact Go.iret (st := []) dX2_nextSet_24 rfl rfl ⟨rfl, rfl⟩
  · have hF := ite_t h_6 hF
    refine Go.iload_n dX2_nextSet_9 rfl ?_
    obtain rfl := Option.some.inj hF
    exact Go.iret (st := []) dX2_nextSet_10 rfl rfl ⟨rfl, rfl⟩
def F_X2_find_12 (N : Nat) : Nat → Int32 → Int32 → Int32 → St → Option (Int32 × St)
  | 0 => fun _ _ _ _ => none
  | n + 1 => fun x3 x4 x5 S =>
    if 2000 ≤ x5 then (gd (decide (x3 = 0 ∨ x3 = 1)) (some (x3, S))) else (if (1 <<< ((S.1 1 0) &&& 31)) ≤ x4 then (gd (decide (x3 = 0 ∨ x3 = 1)) (some (x3, S))) else ((F_X2_leavesNeedsTold N x4 S).bind (fun r_34 => if r_34.1 = 0 then (if x4 = 0 then (gd (decide (x3 = 0 ∨ x3 = 1)) (some (x3, r_34.2))) else ((F_X2_nextSet x4 r_34.2).bind (fun r_67 => (F_X2_find_12 N n) x3 r_67.1 (x5 + 1) r_67.2))) else (if x3 = 0 then ((F_X2_weigh N x4 (1 : Int32) r_34.2).bind (fun r_53 => if x4 = 0 then (some (1, r_53)) else ((F_X2_nextSet x4 r_53).bind (fun r_67 => (F_X2_find_12 N n) 1 r_67.1 (x5 + 1) r_67.2)))) else ((F_X2_weigh N x4 (0 : Int32) r_34.2).bind (fun r_53 => if x4 = 0 then (some (1, r_53)) else ((F_X2_nextSet x4 r_53).bind (fun r_67 => (F_X2_find_12 N n) 1 r_67.1 (x5 + 1) r_67.2))))))))
set_option maxHeartbeats 4000000 in
set_option maxRecDepth 100000 in
theorem ok_X2_find_12 {l : Launch} (d : Nat) (N : Nat) : ∀ (n : Nat) (x3 : Int32) (x4 : Int32) (x5 : Int32) (S : St) (R : Int32 × St), F_X2_find_12 N n x3 x4 x5 S = some R → Go l (d + 2) mX2_find (Res (some (.int R.1)) R.2) 12 [(0, .ref 9), (1, .ref 1), (3, .int x3), (4, .int x4), (5, .int x5)] [] S := by
  intro n
  induction n with
  | zero => intro x3 x4 x5 S  R hF; cases hF
  | succ n hk12 =>
    intro x3 x4 x5 S  R hF
    have hF : (if 2000 ≤ x5 then (gd (decide (x3 = 0 ∨ x3 = 1)) (some (x3, S))) else (if (1 <<< ((S.1 1 0) &&& 31)) ≤ x4 then (gd (decide (x3 = 0 ∨ x3 = 1)) (some (x3, S))) else ((F_X2_leavesNeedsTold N x4 S).bind (fun r_34 => if r_34.1 = 0 then (if x4 = 0 then (gd (decide (x3 = 0 ∨ x3 = 1)) (some (x3, r_34.2))) else ((F_X2_nextSet x4 r_34.2).bind (fun r_67 => (F_X2_find_12 N n) x3 r_67.1 (x5 + 1) r_67.2))) else (if x3 = 0 then ((F_X2_weigh N x4 (1 : Int32) r_34.2).bind (fun r_53 => if x4 = 0 then (some (1, r_53)) else ((F_X2_nextSet x4 r_53).bind (fun r_67 => (F_X2_find_12 N n) 1 r_67.1 (x5 + 1) r_67.2)))) else ((F_X2_weigh N x4 (0 : Int32) r_34.2).bind (fun r_53 => if x4 = 0 then (some (1, r_53)) else ((F_X2_nextSet x4 r_53).bind (fun r_67 => (F_X2_find_12 N n) 1 r_67.1 (x5 + 1) r_67.2))))))))) = some R := hF
    refine Go.iload dX2_find_12 rfl ?_
    refine Go.sipush (v := 2000) dX2_find_14 (by decide) ?_
    refine Go.icmpge (tgt := 78) dX2_find_17 (by decide) (fun h_17 => ?_) (fun h_17 => ?_)
    · have hF := ite_t h_17 hF
      refine Go.iload_n dX2_find_78 rfl ?_
      obtain ⟨hb_79, hF⟩ := gd_some hF
      obtain rfl := Option.some.inj hF
      exact Go.iret (st := []) dX2_find_79 rfl (nar01 (of_decide_eq_true hb_79)) ⟨rfl, rfl⟩
    · have hF := ite_f h_17 hF
      refine Go.iload dX2_find_20 rfl ?_
      refine Go.iconst (v := 1) dX2_find_22 (by decide) ?_
      refine Go.aload_n dX2_find_23 rfl ?_
      refine Go.getI dX2_find_24 fX2_19 rfl ?_
      refine Go.ishl dX2_find_27 ?_
      refine Go.icmpge (tgt := 78) dX2_find_28 (by decide) (fun h_28 => ?_) (fun h_28 => ?_)
      · have hF := ite_t h_28 hF
        refine Go.iload_n dX2_find_78 rfl ?_
        obtain ⟨hb_79, hF⟩ := gd_some hF
        obtain rfl := Option.some.inj hF
        exact Go.iret (st := []) dX2_find_79 rfl (nar01 (of_decide_eq_true hb_79)) ⟨rfl, rfl⟩
      · have hF := ite_f h_28 hF
        refine Go.aload_n dX2_find_31 rfl ?_
        refine Go.iload dX2_find_32 rfl ?_
        obtain ⟨r_34, hc_34, hF⟩ := Option.bind_eq_some_iff.mp hF
        refine Go.callS [_, _] dX2_find_34 kX2_leavesNeedsTold sX2_leavesNeedsTold lX2_24 rfl rfl (Nat.le_of_ble_eq_true rfl) (Nat.le_of_ble_eq_true rfl) (ok_X2_leavesNeedsTold (d + 1) N _ _ _ hc_34) ?_
        refine Go.ifeq (tgt := 58) dX2_find_37 (by decide) (fun h_37 => ?_) (fun h_37 => ?_)
        · have hF := ite_t h_37 hF
          refine Go.iload dX2_find_58 rfl ?_
          refine Go.ifne (tgt := 65) dX2_find_60 (by decide) (fun h_60 => ?_) (fun h_60 => ?_)
          · have hF := ite_f h_60 hF
            refine Go.iload dX2_find_65 rfl ?_
            obtain ⟨r_67, hc_67, hF⟩ := Option.bind_eq_some_iff.mp hF
            refine Go.callS [_] dX2_find_67 kX2_nextSet sX2_nextSet lX2_32 rfl rfl (Nat.le_of_ble_eq_true rfl) (Nat.le_of_ble_eq_true rfl) (ok_X2_nextSet (d + 1) _ _ _ hc_67) ?_
            refine Go.istore (ls' := [(4, _), (0, _), (1, _), (3, _), (5, _)]) dX2_find_70 (by decide) rfl ?_
            refine Go.iincP (ls' := [(5, _), (4, _), (0, _), (1, _), (3, _)]) dX2_find_72 rfl (by decide) rfl ?_
            refine Go.goto (tgt := 12) dX2_find_75 (by decide) ?_
            refine Go.pick (ls' := [(0, _), (1, _), (3, _), (4, _), (5, _)]) [2, 3, 4, 1, 0] rfl ?_
            exact hk12 _ _ _ _ _ hF
          · have hF := ite_t h_60 hF
            refine Go.iload_n dX2_find_63 rfl ?_
            obtain ⟨hb_64, hF⟩ := gd_some hF
            obtain rfl := Option.some.inj hF
            exact Go.iret (st := []) dX2_find_64 rfl (nar01 (of_decide_eq_true hb_64)) ⟨rfl, rfl⟩
        · have hF := ite_f h_37 hF
          refine Go.aload_n dX2_find_40 rfl ?_
          refine Go.aload_n dX2_find_41 rfl ?_
          refine Go.iload dX2_find_42 rfl ?_
          refine Go.iload_n dX2_find_44 rfl ?_
          refine Go.ifne (tgt := 52) dX2_find_45 (by decide) (fun h_45 => ?_) (fun h_45 => ?_)
          · have hF := ite_f h_45 hF
            refine Go.iconst (v := 0) dX2_find_52 (by decide) ?_
            obtain ⟨r_53, hc_53, hF⟩ := Option.bind_eq_some_iff.mp hF
            refine Go.callV [_, _, _] dX2_find_53 kX2_weigh vX2_weigh lX2_28 rfl rfl rfl rfl rfl (Nat.le_of_ble_eq_true rfl) (Nat.le_of_ble_eq_true rfl) (ok_X2_weigh (d + 0) N _ _ _ _ hc_53) ?_
            refine Go.iconst (v := 1) dX2_find_56 (by decide) ?_
            refine Go.istore_n (ls' := [(3, _), (0, _), (1, _), (4, _), (5, _)]) dX2_find_57 (by decide) rfl ?_
            refine Go.iload dX2_find_58 rfl ?_
            refine Go.ifne (tgt := 65) dX2_find_60 (by decide) (fun h_60 => ?_) (fun h_60 => ?_)
            · have hF := ite_f h_60 hF
              refine Go.iload dX2_find_65 rfl ?_
              obtain ⟨r_67, hc_67, hF⟩ := Option.bind_eq_some_iff.mp hF
              refine Go.callS [_] dX2_find_67 kX2_nextSet sX2_nextSet lX2_32 rfl rfl (Nat.le_of_ble_eq_true rfl) (Nat.le_of_ble_eq_true rfl) (ok_X2_nextSet (d + 1) _ _ _ hc_67) ?_
              refine Go.istore (ls' := [(4, _), (3, _), (0, _), (1, _), (5, _)]) dX2_find_70 (by decide) rfl ?_
              refine Go.iincP (ls' := [(5, _), (4, _), (3, _), (0, _), (1, _)]) dX2_find_72 rfl (by decide) rfl ?_
              refine Go.goto (tgt := 12) dX2_find_75 (by decide) ?_
              refine Go.pick (ls' := [(0, _), (1, _), (3, _), (4, _), (5, _)]) [3, 4, 2, 1, 0] rfl ?_
              exact hk12 _ _ _ _ _ hF
            · have hF := ite_t h_60 hF
              refine Go.iload_n dX2_find_63 rfl ?_
              obtain rfl := Option.some.inj hF
              exact Go.iret (st := []) dX2_find_64 rfl rfl ⟨rfl, rfl⟩
          · have hF := ite_t h_45 hF
            refine Go.iconst (v := 1) dX2_find_48 (by decide) ?_
            refine Go.goto (tgt := 53) dX2_find_49 (by decide) ?_
            obtain ⟨r_53, hc_53, hF⟩ := Option.bind_eq_some_iff.mp hF
            refine Go.callV [_, _, _] dX2_find_53 kX2_weigh vX2_weigh lX2_28 rfl rfl rfl rfl rfl (Nat.le_of_ble_eq_true rfl) (Nat.le_of_ble_eq_true rfl) (ok_X2_weigh (d + 0) N _ _ _ _ hc_53) ?_
            refine Go.iconst (v := 1) dX2_find_56 (by decide) ?_
            refine Go.istore_n (ls' := [(3, _), (0, _), (1, _), (4, _), (5, _)]) dX2_find_57 (by decide) rfl ?_
            refine Go.iload dX2_find_58 rfl ?_
            refine Go.ifne (tgt := 65) dX2_find_60 (by decide) (fun h_60 => ?_) (fun h_60 => ?_)
            · have hF := ite_f h_60 hF
              refine Go.iload dX2_find_65 rfl ?_
              obtain ⟨r_67, hc_67, hF⟩ := Option.bind_eq_some_iff.mp hF
              refine Go.callS [_] dX2_find_67 kX2_nextSet sX2_nextSet lX2_32 rfl rfl (Nat.le_of_ble_eq_true rfl) (Nat.le_of_ble_eq_true rfl) (ok_X2_nextSet (d + 1) _ _ _ hc_67) ?_
              refine Go.istore (ls' := [(4, _), (3, _), (0, _), (1, _), (5, _)]) dX2_find_70 (by decide) rfl ?_
              refine Go.iincP (ls' := [(5, _), (4, _), (3, _), (0, _), (1, _)]) dX2_find_72 rfl (by decide) rfl ?_
              refine Go.goto (tgt := 12) dX2_find_75 (by decide) ?_
              refine Go.pick (ls' := [(0, _), (1, _), (3, _), (4, _), (5, _)]) [3, 4, 2, 1, 0] rfl ?_
              exact hk12 _ _ _ _ _ hF
            · have hF := ite_t h_60 hF
              refine Go.iload_n dX2_find_63 rfl ?_
              obtain rfl := Option.some.inj hF
              exact Go.iret (st := []) dX2_find_64 rfl rfl ⟨rfl, rfl⟩
def F_X2_find (N : Nat) (x2 : Int32) (S : St) : Option (Int32 × St) :=
  F_X2_find_12 N N 0 ((1 <<< (x2 &&& 31)) - 1) 0 S
set_option maxHeartbeats 4000000 in
set_option maxRecDepth 100000 in
theorem ok_X2_find {l : Launch} (d : Nat) (N : Nat) (x2 : Int32) (S : St) (R : Int32 × St) (hF : F_X2_find N x2 S = some R) : Go l (d + 2) mX2_find (Res (some (.int R.1)) R.2) 0 [(0, .ref 9), (1, .ref 1), (2, .int x2)] [] S := by
  unfold F_X2_find at hF
  refine Go.iconst (v := 0) dX2_find_0 (by decide) ?_
  refine Go.istore_n (ls' := [(3, _), (0, _), (1, _), (2, _)]) dX2_find_1 (by decide) rfl ?_
  refine Go.iconst (v := 1) dX2_find_2 (by decide) ?_
  refine Go.iload_n dX2_find_3 rfl ?_
  refine Go.ishl dX2_find_4 ?_
  refine Go.iconst (v := 1) dX2_find_5 (by decide) ?_
  refine Go.isub dX2_find_6 ?_
  refine Go.istore (ls' := [(4, _), (3, _), (0, _), (1, _), (2, _)]) dX2_find_7 (by decide) rfl ?_
  refine Go.iconst (v := 0) dX2_find_9 (by decide) ?_
  refine Go.istore (ls' := [(5, _), (4, _), (3, _), (0, _), (1, _), (2, _)]) dX2_find_10 (by decide) rfl ?_
  refine Go.pick (ls' := [(0, _), (1, _), (3, _), (4, _), (5, _)]) [3, 4, 2, 1, 0] rfl ?_
  exact ok_X2_find_12 d N N _ _ _ _ _ hF
def F_X8_jumpsFrom (x1 : Int32) (S : St) : Option (Int32 × St) :=
  gd (inb x1 20) (gd (inb (S.2.1 23 (Int32.toNatClampNeg x1)) 10) (some ((S.2.1 29 (Int32.toNatClampNeg (S.2.1 23 (Int32.toNatClampNeg x1)))) &&& ((3 <<< (x1 &&& 31)) ^^^ (-1)), S)))
set_option maxHeartbeats 4000000 in
set_option maxRecDepth 100000 in
theorem ok_X8_jumpsFrom {l : Launch} (d : Nat) (x1 : Int32) (S : St) (R : Int32 × St) (hF : F_X8_jumpsFrom x1 S = some R) : Go l (d + 0) mX8_jumpsFrom (Res (some (.int R.1)) R.2) 0 [(0, .ref 1), (1, .int x1)] [] S := by
  unfold F_X8_jumpsFrom at hF
  refine Go.aload_n dX8_jumpsFrom_0 rfl ?_
  refine Go.getR dX8_jumpsFrom_1 fX8_40 rfl ?_
  refine Go.aload_n dX8_jumpsFrom_4 rfl ?_
  refine Go.getR dX8_jumpsFrom_5 fX8_22 rfl ?_
  refine Go.iload_n dX8_jumpsFrom_8 rfl ?_
  obtain ⟨hb_9, hF⟩ := gd_some hF
  refine Go.iald dX8_jumpsFrom_9 rfl (inb_ok hb_9) ?_
  obtain ⟨hb_10, hF⟩ := gd_some hF
  refine Go.iald dX8_jumpsFrom_10 rfl (inb_ok hb_10) ?_
  refine Go.iconst (v := 3) dX8_jumpsFrom_11 (by decide) ?_
  refine Go.iload_n dX8_jumpsFrom_12 rfl ?_
  refine Go.ishl dX8_jumpsFrom_13 ?_
  refine Go.iconst (v := (-1)) dX8_jumpsFrom_14 (by decide) ?_
  refine Go.ixor dX8_jumpsFrom_15 ?_
  refine Go.iand dX8_jumpsFrom_16 ?_
  obtain rfl := Option.some.inj hF
  exact Go.iret (st := []) dX8_jumpsFrom_17 rfl rfl ⟨rfl, rfl⟩
def F_X5_isTold (b : Nat) (S : St) : Option (Int32 × St) :=
  if (S.1 (2 + b) 1) ≤ 0 then (some (0, S)) else (some (1, S))
set_option maxHeartbeats 4000000 in
set_option maxRecDepth 100000 in
theorem ok_X5_isTold {l : Launch} (d : Nat) (b : Nat) (S : St) (hb : b < 2) (R : Int32 × St) (hF : F_X5_isTold b S = some R) : Go l (d + 0) mX5_isTold (Res (some (.int R.1)) R.2) 0 [(0, .ref (2 + b))] [] S := by
  unfold F_X5_isTold at hF
  refine Go.aload_n dX5_isTold_0 rfl ?_
  refine Go.getI dX5_isTold_1 fX5_15 (sl_X5_1 hb) ?_
  refine Go.ifle (tgt := 11) dX5_isTold_4 (by decide) (fun h_4 => ?_) (fun h_4 => ?_)
  · have hF := ite_t h_4 hF
    refine Go.iconst (v := 0) dX5_isTold_11 (by decide) ?_
    obtain rfl := Option.some.inj hF
    exact Go.iret (st := []) dX5_isTold_12 rfl rfl ⟨rfl, rfl⟩
  · have hF := ite_f h_4 hF
    refine Go.iconst (v := 1) dX5_isTold_7 (by decide) ?_
    refine Go.goto (tgt := 12) dX5_isTold_8 (by decide) ?_
    obtain rfl := Option.some.inj hF
    exact Go.iret (st := []) dX5_isTold_12 rfl rfl ⟨rfl, rfl⟩
def F_X5_push (b : Nat) (x1 : Int32) (S : St) : Option (St) :=
  if 121 ≤ (S.1 (2 + b) 3) then (some S) else (gd (inb (S.1 (2 + b) 3) 121) (let S21 := aset S (32 + b) (upd (S.2.1 (32 + b)) (Int32.toNatClampNeg (S.1 (2 + b) 3)) x1); let S29 := fset S21 (2 + b) 3 ((S21.1 (2 + b) 3) + 1); some S29))
set_option maxHeartbeats 4000000 in
set_option maxRecDepth 100000 in
theorem ok_X5_push {l : Launch} (d : Nat) (b : Nat) (x1 : Int32) (S : St) (hb : b < 2) (R : St) (hF : F_X5_push b x1 S = some R) : Go l (d + 0) mX5_push (Res none R) 0 [(0, .ref (2 + b)), (1, .int x1)] [] S := by
  unfold F_X5_push at hF
  refine Go.aload_n dX5_push_0 rfl ?_
  refine Go.getI dX5_push_1 fX5_22 (sl_X5_3 hb) ?_
  refine Go.aload_n dX5_push_4 rfl ?_
  refine Go.getR dX5_push_5 fX5_19 (sl_X5_2 hb) ?_
  refine Go.alen (v := 121) dX5_push_8 (ar_32 hb) (by decide) (by decide) ?_
  refine Go.icmpge (tgt := 32) dX5_push_9 (by decide) (fun h_9 => ?_) (fun h_9 => ?_)
  · have hF := ite_t h_9 hF
    obtain rfl := Option.some.inj hF
    exact Go.vret (st := []) dX5_push_32 rfl ⟨rfl, rfl⟩
  · have hF := ite_f h_9 hF
    refine Go.aload_n dX5_push_12 rfl ?_
    refine Go.getR dX5_push_13 fX5_19 (sl_X5_2 hb) ?_
    refine Go.aload_n dX5_push_16 rfl ?_
    refine Go.getI dX5_push_17 fX5_22 (sl_X5_3 hb) ?_
    refine Go.iload_n dX5_push_20 rfl ?_
    obtain ⟨hb_21, hF⟩ := gd_some hF
    refine Go.iast dX5_push_21 (ar_32 hb) (inb_ok hb_21) ?_
    refine Go.aload_n dX5_push_22 rfl ?_
    refine Go.dup dX5_push_23 rfl ?_
    refine Go.getI dX5_push_24 fX5_22 (sl_X5_3 hb) ?_
    refine Go.iconst (v := 1) dX5_push_27 (by decide) ?_
    refine Go.iadd dX5_push_28 ?_
    refine Go.putI dX5_push_29 fX5_22 (sl_X5_3 hb) ?_
    obtain rfl := Option.some.inj hF
    exact Go.vret (st := []) dX5_push_32 rfl ⟨rfl, rfl⟩
def F_X5_pop (b : Nat) (S : St) : Option (Int32 × St) :=
  if 0 < (S.1 (2 + b) 3) then (let S16 := fset S (2 + b) 3 ((S.1 (2 + b) 3) - 1); gd (inb (S16.1 (2 + b) 3) 121) (some (S16.2.1 (32 + b) (Int32.toNatClampNeg (S16.1 (2 + b) 3)), S16))) else (some (0, S))
set_option maxHeartbeats 4000000 in
set_option maxRecDepth 100000 in
theorem ok_X5_pop {l : Launch} (d : Nat) (b : Nat) (S : St) (hb : b < 2) (R : Int32 × St) (hF : F_X5_pop b S = some R) : Go l (d + 0) mX5_pop (Res (some (.int R.1)) R.2) 0 [(0, .ref (2 + b))] [] S := by
  unfold F_X5_pop at hF
  refine Go.aload_n dX5_pop_0 rfl ?_
  refine Go.getI dX5_pop_1 fX5_22 (sl_X5_3 hb) ?_
  refine Go.ifgt (tgt := 9) dX5_pop_4 (by decide) (fun h_4 => ?_) (fun h_4 => ?_)
  · have hF := ite_t h_4 hF
    refine Go.aload_n dX5_pop_9 rfl ?_
    refine Go.dup dX5_pop_10 rfl ?_
    refine Go.getI dX5_pop_11 fX5_22 (sl_X5_3 hb) ?_
    refine Go.iconst (v := 1) dX5_pop_14 (by decide) ?_
    refine Go.isub dX5_pop_15 ?_
    refine Go.putI dX5_pop_16 fX5_22 (sl_X5_3 hb) ?_
    refine Go.aload_n dX5_pop_19 rfl ?_
    refine Go.getR dX5_pop_20 fX5_19 (sl_X5_2 hb) ?_
    refine Go.aload_n dX5_pop_23 rfl ?_
    refine Go.getI dX5_pop_24 fX5_22 (sl_X5_3 hb) ?_
    obtain ⟨hb_27, hF⟩ := gd_some hF
    refine Go.iald dX5_pop_27 (ar_32 hb) (inb_ok hb_27) ?_
    obtain rfl := Option.some.inj hF
    exact Go.iret (st := []) dX5_pop_28 rfl rfl ⟨rfl, rfl⟩
  · have hF := ite_f h_4 hF
    refine Go.iconst (v := 0) dX5_pop_7 (by decide) ?_
    obtain rfl := Option.some.inj hF
    exact Go.iret (st := []) dX5_pop_8 rfl rfl ⟨rfl, rfl⟩
def F_X5_isName (x0 : Int32) (S : St) : Option (Int32 × St) :=
  if x0 = 104 then (some (1, S)) else (if x0 = 110 then (some (1, S)) else (if x0 = 112 then (some (1, S)) else (if x0 = 105 then (some (1, S)) else (if x0 = 108 then (some (1, S)) else (if x0 = 99 then (some (1, S)) else (some (0, S)))))))
set_option maxHeartbeats 4000000 in
set_option maxRecDepth 100000 in
theorem ok_X5_isName {l : Launch} (d : Nat) (x0 : Int32) (S : St) (R : Int32 × St) (hF : F_X5_isName x0 S = some R) : Go l (d + 0) mX5_isName (Res (some (.int R.1)) R.2) 0 [(0, .int x0)] [] S := by
  unfold F_X5_isName at hF
  refine Go.iload_n dX5_isName_0 rfl ?_
  refine Go.bipush (v := 104) dX5_isName_1 (by decide) ?_
  refine Go.icmpeq (tgt := 36) dX5_isName_3 (by decide) (fun h_3 => ?_) (fun h_3 => ?_)
  · have hF := ite_t h_3 hF
    refine Go.iconst (v := 1) dX5_isName_36 (by decide) ?_
    refine Go.goto (tgt := 41) dX5_isName_37 (by decide) ?_
    obtain rfl := Option.some.inj hF
    exact Go.iret (st := []) dX5_isName_41 rfl rfl ⟨rfl, rfl⟩
  · have hF := ite_f h_3 hF
    refine Go.iload_n dX5_isName_6 rfl ?_
    refine Go.bipush (v := 110) dX5_isName_7 (by decide) ?_
    refine Go.icmpeq (tgt := 36) dX5_isName_9 (by decide) (fun h_9 => ?_) (fun h_9 => ?_)
    · have hF := ite_t h_9 hF
      refine Go.iconst (v := 1) dX5_isName_36 (by decide) ?_
      refine Go.goto (tgt := 41) dX5_isName_37 (by decide) ?_
      obtain rfl := Option.some.inj hF
      exact Go.iret (st := []) dX5_isName_41 rfl rfl ⟨rfl, rfl⟩
    · have hF := ite_f h_9 hF
      refine Go.iload_n dX5_isName_12 rfl ?_
      refine Go.bipush (v := 112) dX5_isName_13 (by decide) ?_
      refine Go.icmpeq (tgt := 36) dX5_isName_15 (by decide) (fun h_15 => ?_) (fun h_15 => ?_)
      · have hF := ite_t h_15 hF
        refine Go.iconst (v := 1) dX5_isName_36 (by decide) ?_
        refine Go.goto (tgt := 41) dX5_isName_37 (by decide) ?_
        obtain rfl := Option.some.inj hF
        exact Go.iret (st := []) dX5_isName_41 rfl rfl ⟨rfl, rfl⟩
      · have hF := ite_f h_15 hF
        refine Go.iload_n dX5_isName_18 rfl ?_
        refine Go.bipush (v := 105) dX5_isName_19 (by decide) ?_
        refine Go.icmpeq (tgt := 36) dX5_isName_21 (by decide) (fun h_21 => ?_) (fun h_21 => ?_)
        · have hF := ite_t h_21 hF
          refine Go.iconst (v := 1) dX5_isName_36 (by decide) ?_
          refine Go.goto (tgt := 41) dX5_isName_37 (by decide) ?_
          obtain rfl := Option.some.inj hF
          exact Go.iret (st := []) dX5_isName_41 rfl rfl ⟨rfl, rfl⟩
        · have hF := ite_f h_21 hF
          refine Go.iload_n dX5_isName_24 rfl ?_
          refine Go.bipush (v := 108) dX5_isName_25 (by decide) ?_
          refine Go.icmpeq (tgt := 36) dX5_isName_27 (by decide) (fun h_27 => ?_) (fun h_27 => ?_)
          · have hF := ite_t h_27 hF
            refine Go.iconst (v := 1) dX5_isName_36 (by decide) ?_
            refine Go.goto (tgt := 41) dX5_isName_37 (by decide) ?_
            obtain rfl := Option.some.inj hF
            exact Go.iret (st := []) dX5_isName_41 rfl rfl ⟨rfl, rfl⟩
          · have hF := ite_f h_27 hF
            refine Go.iload_n dX5_isName_30 rfl ?_
            refine Go.bipush (v := 99) dX5_isName_31 (by decide) ?_
            refine Go.icmpne (tgt := 40) dX5_isName_33 (by decide) (fun h_33 => ?_) (fun h_33 => ?_)
            · have hF := ite_f h_33 hF
              refine Go.iconst (v := 0) dX5_isName_40 (by decide) ?_
              obtain rfl := Option.some.inj hF
              exact Go.iret (st := []) dX5_isName_41 rfl rfl ⟨rfl, rfl⟩
            · have hF := ite_t h_33 hF
              refine Go.iconst (v := 1) dX5_isName_36 (by decide) ?_
              refine Go.goto (tgt := 41) dX5_isName_37 (by decide) ?_
              obtain rfl := Option.some.inj hF
              exact Go.iret (st := []) dX5_isName_41 rfl rfl ⟨rfl, rfl⟩
theorem sw_X5_named_1 (x : Int32) (h0 : ¬ x = 104) (h1 : ¬ x = 105) (h2 : ¬ x = 108) (h3 : ¬ x = 110) (h4 : ¬ x = 112) : swO 74 104 112 #[51, 65, 74, 74, 67, 74, 53, 74, 58] x = 74 := by
  by_cases h : x.toInt < 104 ∨ 112 < x.toInt
  · unfold swO; rw [if_pos h]
  · have hx : x = 104 ∨ x = 105 ∨ x = 106 ∨ x = 107 ∨ x = 108 ∨ x = 109 ∨ x = 110 ∨ x = 111 ∨ x = 112 := by
      have e : ∀ v : Int32, x.toInt = v.toInt → x = v := fun v h => Int32.toInt_inj.mp h
      have : x.toInt = 104 ∨ x.toInt = 105 ∨ x.toInt = 106 ∨ x.toInt = 107 ∨ x.toInt = 108 ∨ x.toInt = 109 ∨ x.toInt = 110 ∨ x.toInt = 111 ∨ x.toInt = 112 := by omega
      rcases this with h | h | h | h | h | h | h | h | h
      · exact Or.inl (e 104 h)
      · exact Or.inr (Or.inl (e 105 h))
      · exact Or.inr (Or.inr (Or.inl (e 106 h)))
      · exact Or.inr (Or.inr (Or.inr (Or.inl (e 107 h))))
      · exact Or.inr (Or.inr (Or.inr (Or.inr (Or.inl (e 108 h)))))
      · exact Or.inr (Or.inr (Or.inr (Or.inr (Or.inr (Or.inl (e 109 h))))))
      · exact Or.inr (Or.inr (Or.inr (Or.inr (Or.inr (Or.inr (Or.inl (e 110 h)))))))
      · exact Or.inr (Or.inr (Or.inr (Or.inr (Or.inr (Or.inr (Or.inr (Or.inl (e 111 h))))))))
      · exact Or.inr (Or.inr (Or.inr (Or.inr (Or.inr (Or.inr (Or.inr (Or.inr (e 112 h))))))))
    rcases hx with rfl | rfl | rfl | rfl | rfl | rfl | rfl | rfl | rfl <;> first | rfl | (exact absurd rfl (by assumption))
def F_X5_named (x0 : Int32) (x2 : Int32) (x3 : Int32) (S : St) : Option (Int32 × St) :=
  if x0 = 104 then (some (x3, S)) else (if x0 = 105 then (some (x2, S)) else (if x0 = 108 then (gd (inb x2 20) (some (S.2.1 24 (Int32.toNatClampNeg x2), S))) else (if x0 = 110 then (some (S.1 1 11, S)) else (if x0 = 112 then (gd (inb x2 20) (some (S.2.1 21 (Int32.toNatClampNeg x2), S))) else (gd (inb x2 20) (gd (inb (S.2.1 22 (Int32.toNatClampNeg x2)) 10) ((F_J6_bitCount_0f7a4 (S.2.1 29 (Int32.toNatClampNeg (S.2.1 22 (Int32.toNatClampNeg x2)))) S).bind (fun r_86 => some (r_86.1 - 1, r_86.2)))))))))
set_option maxHeartbeats 4000000 in
set_option maxRecDepth 100000 in
theorem ok_X5_named {l : Launch} (d : Nat) (x0 : Int32) (x2 : Int32) (x3 : Int32) (S : St) (R : Int32 × St) (hF : F_X5_named x0 x2 x3 S = some R) : Go l (d + 1) mX5_named (Res (some (.int R.1)) R.2) 0 [(0, .int x0), (1, .ref 1), (2, .int x2), (3, .int x3)] [] S := by
  unfold F_X5_named at hF
  refine Go.iload_n dX5_named_0 rfl ?_
  by_cases hs_1_0 : x0 = 104
  · have hF := ite_t hs_1_0 hF
    refine Go.swT (tgt := 52) dX5_named_1 (by first | (rw [hs_1_0]; done) | (rw [hs_1_0]; rfl) | (rw [hs_1_0]; decide)) (by decide) (by decide) ?_
    refine Go.iload_n dX5_named_52 rfl ?_
    obtain rfl := Option.some.inj hF
    exact Go.iret (st := []) dX5_named_53 rfl rfl ⟨rfl, rfl⟩
  · have hF := ite_f hs_1_0 hF
    by_cases hs_1_1 : x0 = 105
    · have hF := ite_t hs_1_1 hF
      refine Go.swT (tgt := 66) dX5_named_1 (by first | (rw [hs_1_1]; done) | (rw [hs_1_1]; rfl) | (rw [hs_1_1]; decide)) (by decide) (by decide) ?_
      refine Go.iload_n dX5_named_66 rfl ?_
      obtain rfl := Option.some.inj hF
      exact Go.iret (st := []) dX5_named_67 rfl rfl ⟨rfl, rfl⟩
    · have hF := ite_f hs_1_1 hF
      by_cases hs_1_2 : x0 = 108
      · have hF := ite_t hs_1_2 hF
        refine Go.swT (tgt := 68) dX5_named_1 (by first | (rw [hs_1_2]; done) | (rw [hs_1_2]; rfl) | (rw [hs_1_2]; decide)) (by decide) (by decide) ?_
        refine Go.aload_n dX5_named_68 rfl ?_
        refine Go.getR dX5_named_69 fX5_61 rfl ?_
        refine Go.iload_n dX5_named_72 rfl ?_
        obtain ⟨hb_73, hF⟩ := gd_some hF
        refine Go.iald dX5_named_73 rfl (inb_ok hb_73) ?_
        obtain rfl := Option.some.inj hF
        exact Go.iret (st := []) dX5_named_74 rfl rfl ⟨rfl, rfl⟩
      · have hF := ite_f hs_1_2 hF
        by_cases hs_1_3 : x0 = 110
        · have hF := ite_t hs_1_3 hF
          refine Go.swT (tgt := 54) dX5_named_1 (by first | (rw [hs_1_3]; done) | (rw [hs_1_3]; rfl) | (rw [hs_1_3]; decide)) (by decide) (by decide) ?_
          refine Go.aload_n dX5_named_54 rfl ?_
          refine Go.getI dX5_named_55 fX5_53 rfl ?_
          obtain rfl := Option.some.inj hF
          exact Go.iret (st := []) dX5_named_58 rfl rfl ⟨rfl, rfl⟩
        · have hF := ite_f hs_1_3 hF
          by_cases hs_1_4 : x0 = 112
          · have hF := ite_t hs_1_4 hF
            refine Go.swT (tgt := 59) dX5_named_1 (by first | (rw [hs_1_4]; done) | (rw [hs_1_4]; rfl) | (rw [hs_1_4]; decide)) (by decide) (by decide) ?_
            refine Go.aload_n dX5_named_59 rfl ?_
            refine Go.getR dX5_named_60 fX5_58 rfl ?_
            refine Go.iload_n dX5_named_63 rfl ?_
            obtain ⟨hb_64, hF⟩ := gd_some hF
            refine Go.iald dX5_named_64 rfl (inb_ok hb_64) ?_
            obtain rfl := Option.some.inj hF
            exact Go.iret (st := []) dX5_named_65 rfl rfl ⟨rfl, rfl⟩
          · have hF := ite_f hs_1_4 hF
            refine Go.swT (tgt := 75) dX5_named_1 (sw_X5_named_1 _ hs_1_0 hs_1_1 hs_1_2 hs_1_3 hs_1_4) (by decide) (by decide) ?_
            refine Go.aload_n dX5_named_75 rfl ?_
            refine Go.getR dX5_named_76 fX5_64 rfl ?_
            refine Go.aload_n dX5_named_79 rfl ?_
            refine Go.getR dX5_named_80 fX5_67 rfl ?_
            refine Go.iload_n dX5_named_83 rfl ?_
            obtain ⟨hb_84, hF⟩ := gd_some hF
            refine Go.iald dX5_named_84 rfl (inb_ok hb_84) ?_
            obtain ⟨hb_85, hF⟩ := gd_some hF
            refine Go.iald dX5_named_85 rfl (inb_ok hb_85) ?_
            obtain ⟨r_86, hc_86, hF⟩ := Option.bind_eq_some_iff.mp hF
            refine Go.callS [_] dX5_named_86 kJ6_bitCount_0f7a4 sJ6_bitCount_0f7a4 lX5_70 rfl rfl (Nat.le_of_ble_eq_true rfl) (Nat.le_of_ble_eq_true rfl) (ok_J6_bitCount_0f7a4 (d + 0) _ _ _ hc_86) ?_
            refine Go.iconst (v := 1) dX5_named_89 (by decide) ?_
            refine Go.isub dX5_named_90 ?_
            obtain rfl := Option.some.inj hF
            exact Go.iret (st := []) dX5_named_91 rfl rfl ⟨rfl, rfl⟩
def F_X5_truth (x0 : Int32) (S : St) : Option (Int32 × St) :=
  if x0 = 0 then (some (0, S)) else (some (1, S))
set_option maxHeartbeats 4000000 in
set_option maxRecDepth 100000 in
theorem ok_X5_truth {l : Launch} (d : Nat) (x0 : Int32) (S : St) (R : Int32 × St) (hF : F_X5_truth x0 S = some R) : Go l (d + 0) mX5_truth (Res (some (.int R.1)) R.2) 0 [(0, .int x0)] [] S := by
  unfold F_X5_truth at hF
  refine Go.iload_n dX5_truth_0 rfl ?_
  refine Go.ifeq (tgt := 8) dX5_truth_1 (by decide) (fun h_1 => ?_) (fun h_1 => ?_)
  · have hF := ite_t h_1 hF
    refine Go.iconst (v := 0) dX5_truth_8 (by decide) ?_
    obtain rfl := Option.some.inj hF
    exact Go.iret (st := []) dX5_truth_9 rfl rfl ⟨rfl, rfl⟩
  · have hF := ite_f h_1 hF
    refine Go.iconst (v := 1) dX5_truth_4 (by decide) ?_
    refine Go.goto (tgt := 9) dX5_truth_5 (by decide) ?_
    obtain rfl := Option.some.inj hF
    exact Go.iret (st := []) dX5_truth_9 rfl rfl ⟨rfl, rfl⟩
theorem sw_X5_joined_1 (x : Int32) (h0 : ¬ x = 38) (h1 : ¬ x = 42) (h2 : ¬ x = 43) (h3 : ¬ x = 45) (h4 : ¬ x = 47) (h5 : ¬ x = 60) (h6 : ¬ x = 61) (h7 : ¬ x = 62) (h8 : ¬ x = 124) : Op.lookupswitch.offset (#[(38, 100), (42, 167), (43, 159), (45, 163), (47, 171), (60, 117), (61, 131), (62, 145), (124, 83)] : Array (Int × Int)).toList 183 x.toInt = 183 := by
  have e0 : ¬ x.toInt = 38 := fun h => h0 (Int32.toInt_inj.mp h)
  have e1 : ¬ x.toInt = 42 := fun h => h1 (Int32.toInt_inj.mp h)
  have e2 : ¬ x.toInt = 43 := fun h => h2 (Int32.toInt_inj.mp h)
  have e3 : ¬ x.toInt = 45 := fun h => h3 (Int32.toInt_inj.mp h)
  have e4 : ¬ x.toInt = 47 := fun h => h4 (Int32.toInt_inj.mp h)
  have e5 : ¬ x.toInt = 60 := fun h => h5 (Int32.toInt_inj.mp h)
  have e6 : ¬ x.toInt = 61 := fun h => h6 (Int32.toInt_inj.mp h)
  have e7 : ¬ x.toInt = 62 := fun h => h7 (Int32.toInt_inj.mp h)
  have e8 : ¬ x.toInt = 124 := fun h => h8 (Int32.toInt_inj.mp h)
  simp [Op.lookupswitch.offset, eq_comm, e0, e1, e2, e3, e4, e5, e6, e7, e8]
def F_X5_joined (x0 : Int32) (x1 : Int32) (x2 : Int32) (S : St) : Option (Int32 × St) :=
  if x1 = 38 then (if x0 = 0 then ((F_X5_truth (0 : Int32) S).bind (fun r_114 => some (r_114.1, r_114.2))) else (if x2 = 0 then ((F_X5_truth (0 : Int32) S).bind (fun r_114 => some (r_114.1, r_114.2))) else ((F_X5_truth (1 : Int32) S).bind (fun r_114 => some (r_114.1, r_114.2))))) else (if x1 = 42 then (some (x0 * x2, S)) else (if x1 = 43 then (some (x0 + x2, S)) else (if x1 = 45 then (some (x0 - x2, S)) else (if x1 = 47 then (if x2 = 0 then (some (0, S)) else (gd (decide (¬ x2 = 0)) (some (x0 / x2, S)))) else (if x1 = 60 then (if x2 ≤ x0 then ((F_X5_truth (0 : Int32) S).bind (fun r_128 => some (r_128.1, r_128.2))) else ((F_X5_truth (1 : Int32) S).bind (fun r_128 => some (r_128.1, r_128.2)))) else (if x1 = 61 then (if x0 = x2 then ((F_X5_truth (1 : Int32) S).bind (fun r_142 => some (r_142.1, r_142.2))) else ((F_X5_truth (0 : Int32) S).bind (fun r_142 => some (r_142.1, r_142.2)))) else (if x1 = 62 then (if x0 ≤ x2 then ((F_X5_truth (0 : Int32) S).bind (fun r_156 => some (r_156.1, r_156.2))) else ((F_X5_truth (1 : Int32) S).bind (fun r_156 => some (r_156.1, r_156.2)))) else (if x1 = 124 then (if x0 = 0 then (if x2 = 0 then ((F_X5_truth (0 : Int32) S).bind (fun r_97 => some (r_97.1, r_97.2))) else ((F_X5_truth (1 : Int32) S).bind (fun r_97 => some (r_97.1, r_97.2)))) else ((F_X5_truth (1 : Int32) S).bind (fun r_97 => some (r_97.1, r_97.2)))) else (if x2 = 0 then (some (0, S)) else (gd (decide (¬ x2 = 0)) (some (x0 - (x0 / x2) * x2, S))))))))))))
set_option maxHeartbeats 4000000 in
set_option maxRecDepth 100000 in
theorem ok_X5_joined {l : Launch} (d : Nat) (x0 : Int32) (x1 : Int32) (x2 : Int32) (S : St) (R : Int32 × St) (hF : F_X5_joined x0 x1 x2 S = some R) : Go l (d + 1) mX5_joined (Res (some (.int R.1)) R.2) 0 [(0, .int x0), (1, .int x1), (2, .int x2)] [] S := by
  unfold F_X5_joined at hF
  refine Go.iload_n dX5_joined_0 rfl ?_
  by_cases hs_1_0 : x1 = 38
  · have hF := ite_t hs_1_0 hF
    refine Go.lookup (tgt := 101) dX5_joined_1 (by decide) (by first | (rw [hs_1_0]; done) | (rw [hs_1_0]; rfl) | (rw [hs_1_0]; decide)) (by decide) ?_
    refine Go.iload_n dX5_joined_101 rfl ?_
    refine Go.ifeq (tgt := 113) dX5_joined_102 (by decide) (fun h_102 => ?_) (fun h_102 => ?_)
    · have hF := ite_t h_102 hF
      refine Go.iconst (v := 0) dX5_joined_113 (by decide) ?_
      obtain ⟨r_114, hc_114, hF⟩ := Option.bind_eq_some_iff.mp hF
      refine Go.callS [_] dX5_joined_114 kX5_truth sX5_truth lX5_45 rfl rfl (Nat.le_of_ble_eq_true rfl) (Nat.le_of_ble_eq_true rfl) (ok_X5_truth (d + 0) _ _ _ hc_114) ?_
      obtain rfl := Option.some.inj hF
      exact Go.iret (st := []) dX5_joined_117 rfl rfl ⟨rfl, rfl⟩
    · have hF := ite_f h_102 hF
      refine Go.iload_n dX5_joined_105 rfl ?_
      refine Go.ifeq (tgt := 113) dX5_joined_106 (by decide) (fun h_106 => ?_) (fun h_106 => ?_)
      · have hF := ite_t h_106 hF
        refine Go.iconst (v := 0) dX5_joined_113 (by decide) ?_
        obtain ⟨r_114, hc_114, hF⟩ := Option.bind_eq_some_iff.mp hF
        refine Go.callS [_] dX5_joined_114 kX5_truth sX5_truth lX5_45 rfl rfl (Nat.le_of_ble_eq_true rfl) (Nat.le_of_ble_eq_true rfl) (ok_X5_truth (d + 0) _ _ _ hc_114) ?_
        obtain rfl := Option.some.inj hF
        exact Go.iret (st := []) dX5_joined_117 rfl rfl ⟨rfl, rfl⟩
      · have hF := ite_f h_106 hF
        refine Go.iconst (v := 1) dX5_joined_109 (by decide) ?_
        refine Go.goto (tgt := 114) dX5_joined_110 (by decide) ?_
        obtain ⟨r_114, hc_114, hF⟩ := Option.bind_eq_some_iff.mp hF
        refine Go.callS [_] dX5_joined_114 kX5_truth sX5_truth lX5_45 rfl rfl (Nat.le_of_ble_eq_true rfl) (Nat.le_of_ble_eq_true rfl) (ok_X5_truth (d + 0) _ _ _ hc_114) ?_
        obtain rfl := Option.some.inj hF
        exact Go.iret (st := []) dX5_joined_117 rfl rfl ⟨rfl, rfl⟩
  · have hF := ite_f hs_1_0 hF
    by_cases hs_1_1 : x1 = 42
    · have hF := ite_t hs_1_1 hF
      refine Go.lookup (tgt := 168) dX5_joined_1 (by decide) (by first | (rw [hs_1_1]; done) | (rw [hs_1_1]; rfl) | (rw [hs_1_1]; decide)) (by decide) ?_
      refine Go.iload_n dX5_joined_168 rfl ?_
      refine Go.iload_n dX5_joined_169 rfl ?_
      refine Go.imul dX5_joined_170 ?_
      obtain rfl := Option.some.inj hF
      exact Go.iret (st := []) dX5_joined_171 rfl rfl ⟨rfl, rfl⟩
    · have hF := ite_f hs_1_1 hF
      by_cases hs_1_2 : x1 = 43
      · have hF := ite_t hs_1_2 hF
        refine Go.lookup (tgt := 160) dX5_joined_1 (by decide) (by first | (rw [hs_1_2]; done) | (rw [hs_1_2]; rfl) | (rw [hs_1_2]; decide)) (by decide) ?_
        refine Go.iload_n dX5_joined_160 rfl ?_
        refine Go.iload_n dX5_joined_161 rfl ?_
        refine Go.iadd dX5_joined_162 ?_
        obtain rfl := Option.some.inj hF
        exact Go.iret (st := []) dX5_joined_163 rfl rfl ⟨rfl, rfl⟩
      · have hF := ite_f hs_1_2 hF
        by_cases hs_1_3 : x1 = 45
        · have hF := ite_t hs_1_3 hF
          refine Go.lookup (tgt := 164) dX5_joined_1 (by decide) (by first | (rw [hs_1_3]; done) | (rw [hs_1_3]; rfl) | (rw [hs_1_3]; decide)) (by decide) ?_
          refine Go.iload_n dX5_joined_164 rfl ?_
          refine Go.iload_n dX5_joined_165 rfl ?_
          refine Go.isub dX5_joined_166 ?_
          obtain rfl := Option.some.inj hF
          exact Go.iret (st := []) dX5_joined_167 rfl rfl ⟨rfl, rfl⟩
        · have hF := ite_f hs_1_3 hF
          by_cases hs_1_4 : x1 = 47
          · have hF := ite_t hs_1_4 hF
            refine Go.lookup (tgt := 172) dX5_joined_1 (by decide) (by first | (rw [hs_1_4]; done) | (rw [hs_1_4]; rfl) | (rw [hs_1_4]; decide)) (by decide) ?_
            refine Go.iload_n dX5_joined_172 rfl ?_
            refine Go.ifne (tgt := 180) dX5_joined_173 (by decide) (fun h_173 => ?_) (fun h_173 => ?_)
            · have hF := ite_f h_173 hF
              refine Go.iload_n dX5_joined_180 rfl ?_
              refine Go.iload_n dX5_joined_181 rfl ?_
              obtain ⟨hb_182, hF⟩ := gd_some hF
              refine Go.idiv dX5_joined_182 (of_decide_eq_true hb_182) ?_
              obtain rfl := Option.some.inj hF
              exact Go.iret (st := []) dX5_joined_183 rfl rfl ⟨rfl, rfl⟩
            · have hF := ite_t h_173 hF
              refine Go.iconst (v := 0) dX5_joined_176 (by decide) ?_
              refine Go.goto (tgt := 183) dX5_joined_177 (by decide) ?_
              obtain rfl := Option.some.inj hF
              exact Go.iret (st := []) dX5_joined_183 rfl rfl ⟨rfl, rfl⟩
          · have hF := ite_f hs_1_4 hF
            by_cases hs_1_5 : x1 = 60
            · have hF := ite_t hs_1_5 hF
              refine Go.lookup (tgt := 118) dX5_joined_1 (by decide) (by first | (rw [hs_1_5]; done) | (rw [hs_1_5]; rfl) | (rw [hs_1_5]; decide)) (by decide) ?_
              refine Go.iload_n dX5_joined_118 rfl ?_
              refine Go.iload_n dX5_joined_119 rfl ?_
              refine Go.icmpge (tgt := 127) dX5_joined_120 (by decide) (fun h_120 => ?_) (fun h_120 => ?_)
              · have hF := ite_t h_120 hF
                refine Go.iconst (v := 0) dX5_joined_127 (by decide) ?_
                obtain ⟨r_128, hc_128, hF⟩ := Option.bind_eq_some_iff.mp hF
                refine Go.callS [_] dX5_joined_128 kX5_truth sX5_truth lX5_45 rfl rfl (Nat.le_of_ble_eq_true rfl) (Nat.le_of_ble_eq_true rfl) (ok_X5_truth (d + 0) _ _ _ hc_128) ?_
                obtain rfl := Option.some.inj hF
                exact Go.iret (st := []) dX5_joined_131 rfl rfl ⟨rfl, rfl⟩
              · have hF := ite_f h_120 hF
                refine Go.iconst (v := 1) dX5_joined_123 (by decide) ?_
                refine Go.goto (tgt := 128) dX5_joined_124 (by decide) ?_
                obtain ⟨r_128, hc_128, hF⟩ := Option.bind_eq_some_iff.mp hF
                refine Go.callS [_] dX5_joined_128 kX5_truth sX5_truth lX5_45 rfl rfl (Nat.le_of_ble_eq_true rfl) (Nat.le_of_ble_eq_true rfl) (ok_X5_truth (d + 0) _ _ _ hc_128) ?_
                obtain rfl := Option.some.inj hF
                exact Go.iret (st := []) dX5_joined_131 rfl rfl ⟨rfl, rfl⟩
            · have hF := ite_f hs_1_5 hF
              by_cases hs_1_6 : x1 = 61
              · have hF := ite_t hs_1_6 hF
                refine Go.lookup (tgt := 132) dX5_joined_1 (by decide) (by first | (rw [hs_1_6]; done) | (rw [hs_1_6]; rfl) | (rw [hs_1_6]; decide)) (by decide) ?_
                refine Go.iload_n dX5_joined_132 rfl ?_
                refine Go.iload_n dX5_joined_133 rfl ?_
                refine Go.icmpne (tgt := 141) dX5_joined_134 (by decide) (fun h_134 => ?_) (fun h_134 => ?_)
                · have hF := ite_f h_134 hF
                  refine Go.iconst (v := 0) dX5_joined_141 (by decide) ?_
                  obtain ⟨r_142, hc_142, hF⟩ := Option.bind_eq_some_iff.mp hF
                  refine Go.callS [_] dX5_joined_142 kX5_truth sX5_truth lX5_45 rfl rfl (Nat.le_of_ble_eq_true rfl) (Nat.le_of_ble_eq_true rfl) (ok_X5_truth (d + 0) _ _ _ hc_142) ?_
                  obtain rfl := Option.some.inj hF
                  exact Go.iret (st := []) dX5_joined_145 rfl rfl ⟨rfl, rfl⟩
                · have hF := ite_t h_134 hF
                  refine Go.iconst (v := 1) dX5_joined_137 (by decide) ?_
                  refine Go.goto (tgt := 142) dX5_joined_138 (by decide) ?_
                  obtain ⟨r_142, hc_142, hF⟩ := Option.bind_eq_some_iff.mp hF
                  refine Go.callS [_] dX5_joined_142 kX5_truth sX5_truth lX5_45 rfl rfl (Nat.le_of_ble_eq_true rfl) (Nat.le_of_ble_eq_true rfl) (ok_X5_truth (d + 0) _ _ _ hc_142) ?_
                  obtain rfl := Option.some.inj hF
                  exact Go.iret (st := []) dX5_joined_145 rfl rfl ⟨rfl, rfl⟩
              · have hF := ite_f hs_1_6 hF
                by_cases hs_1_7 : x1 = 62
                · have hF := ite_t hs_1_7 hF
                  refine Go.lookup (tgt := 146) dX5_joined_1 (by decide) (by first | (rw [hs_1_7]; done) | (rw [hs_1_7]; rfl) | (rw [hs_1_7]; decide)) (by decide) ?_
                  refine Go.iload_n dX5_joined_146 rfl ?_
                  refine Go.iload_n dX5_joined_147 rfl ?_
                  refine Go.icmple (tgt := 155) dX5_joined_148 (by decide) (fun h_148 => ?_) (fun h_148 => ?_)
                  · have hF := ite_t h_148 hF
                    refine Go.iconst (v := 0) dX5_joined_155 (by decide) ?_
                    obtain ⟨r_156, hc_156, hF⟩ := Option.bind_eq_some_iff.mp hF
                    refine Go.callS [_] dX5_joined_156 kX5_truth sX5_truth lX5_45 rfl rfl (Nat.le_of_ble_eq_true rfl) (Nat.le_of_ble_eq_true rfl) (ok_X5_truth (d + 0) _ _ _ hc_156) ?_
                    obtain rfl := Option.some.inj hF
                    exact Go.iret (st := []) dX5_joined_159 rfl rfl ⟨rfl, rfl⟩
                  · have hF := ite_f h_148 hF
                    refine Go.iconst (v := 1) dX5_joined_151 (by decide) ?_
                    refine Go.goto (tgt := 156) dX5_joined_152 (by decide) ?_
                    obtain ⟨r_156, hc_156, hF⟩ := Option.bind_eq_some_iff.mp hF
                    refine Go.callS [_] dX5_joined_156 kX5_truth sX5_truth lX5_45 rfl rfl (Nat.le_of_ble_eq_true rfl) (Nat.le_of_ble_eq_true rfl) (ok_X5_truth (d + 0) _ _ _ hc_156) ?_
                    obtain rfl := Option.some.inj hF
                    exact Go.iret (st := []) dX5_joined_159 rfl rfl ⟨rfl, rfl⟩
                · have hF := ite_f hs_1_7 hF
                  by_cases hs_1_8 : x1 = 124
                  · have hF := ite_t hs_1_8 hF
                    refine Go.lookup (tgt := 84) dX5_joined_1 (by decide) (by first | (rw [hs_1_8]; done) | (rw [hs_1_8]; rfl) | (rw [hs_1_8]; decide)) (by decide) ?_
                    refine Go.iload_n dX5_joined_84 rfl ?_
                    refine Go.ifne (tgt := 92) dX5_joined_85 (by decide) (fun h_85 => ?_) (fun h_85 => ?_)
                    · have hF := ite_f h_85 hF
                      refine Go.iconst (v := 1) dX5_joined_92 (by decide) ?_
                      refine Go.goto (tgt := 97) dX5_joined_93 (by decide) ?_
                      obtain ⟨r_97, hc_97, hF⟩ := Option.bind_eq_some_iff.mp hF
                      refine Go.callS [_] dX5_joined_97 kX5_truth sX5_truth lX5_45 rfl rfl (Nat.le_of_ble_eq_true rfl) (Nat.le_of_ble_eq_true rfl) (ok_X5_truth (d + 0) _ _ _ hc_97) ?_
                      obtain rfl := Option.some.inj hF
                      exact Go.iret (st := []) dX5_joined_100 rfl rfl ⟨rfl, rfl⟩
                    · have hF := ite_t h_85 hF
                      refine Go.iload_n dX5_joined_88 rfl ?_
                      refine Go.ifeq (tgt := 96) dX5_joined_89 (by decide) (fun h_89 => ?_) (fun h_89 => ?_)
                      · have hF := ite_t h_89 hF
                        refine Go.iconst (v := 0) dX5_joined_96 (by decide) ?_
                        obtain ⟨r_97, hc_97, hF⟩ := Option.bind_eq_some_iff.mp hF
                        refine Go.callS [_] dX5_joined_97 kX5_truth sX5_truth lX5_45 rfl rfl (Nat.le_of_ble_eq_true rfl) (Nat.le_of_ble_eq_true rfl) (ok_X5_truth (d + 0) _ _ _ hc_97) ?_
                        obtain rfl := Option.some.inj hF
                        exact Go.iret (st := []) dX5_joined_100 rfl rfl ⟨rfl, rfl⟩
                      · have hF := ite_f h_89 hF
                        refine Go.iconst (v := 1) dX5_joined_92 (by decide) ?_
                        refine Go.goto (tgt := 97) dX5_joined_93 (by decide) ?_
                        obtain ⟨r_97, hc_97, hF⟩ := Option.bind_eq_some_iff.mp hF
                        refine Go.callS [_] dX5_joined_97 kX5_truth sX5_truth lX5_45 rfl rfl (Nat.le_of_ble_eq_true rfl) (Nat.le_of_ble_eq_true rfl) (ok_X5_truth (d + 0) _ _ _ hc_97) ?_
                        obtain rfl := Option.some.inj hF
                        exact Go.iret (st := []) dX5_joined_100 rfl rfl ⟨rfl, rfl⟩
                  · have hF := ite_f hs_1_8 hF
                    refine Go.lookup (tgt := 184) dX5_joined_1 (by decide) (sw_X5_joined_1 _ hs_1_0 hs_1_1 hs_1_2 hs_1_3 hs_1_4 hs_1_5 hs_1_6 hs_1_7 hs_1_8) (by decide) ?_
                    refine Go.iload_n dX5_joined_184 rfl ?_
                    refine Go.ifne (tgt := 192) dX5_joined_185 (by decide) (fun h_185 => ?_) (fun h_185 => ?_)
                    · have hF := ite_f h_185 hF
                      refine Go.iload_n dX5_joined_192 rfl ?_
                      refine Go.iload_n dX5_joined_193 rfl ?_
                      obtain ⟨hb_194, hF⟩ := gd_some hF
                      refine Go.irem dX5_joined_194 (of_decide_eq_true hb_194) ?_
                      obtain rfl := Option.some.inj hF
                      exact Go.iret (st := []) dX5_joined_195 rfl rfl ⟨rfl, rfl⟩
                    · have hF := ite_t h_185 hF
                      refine Go.iconst (v := 0) dX5_joined_188 (by decide) ?_
                      refine Go.goto (tgt := 195) dX5_joined_189 (by decide) ?_
                      obtain rfl := Option.some.inj hF
                      exact Go.iret (st := []) dX5_joined_195 rfl rfl ⟨rfl, rfl⟩
def F_X5_work (b : Nat) (x1 : Int32) (x3 : Int32) (x4 : Int32) (S : St) : Option (St) :=
  (F_X5_isName x1 S).bind (fun r_1 => if r_1.1 = 0 then (if x1 = 33 then ((F_X5_pop b r_1.2).bind (fun r_30 => if r_30.1 = 0 then ((F_X5_truth (1 : Int32) r_30.2).bind (fun r_41 => (F_X5_push b r_41.1 r_41.2).bind (fun r_44 => some r_44))) else ((F_X5_truth (0 : Int32) r_30.2).bind (fun r_41 => (F_X5_push b r_41.1 r_41.2).bind (fun r_44 => some r_44))))) else (if x1 = 126 then ((F_X5_pop b r_1.2).bind (fun r_58 => (F_X5_push b (-r_58.1) r_58.2).bind (fun r_62 => some r_62))) else ((F_X5_pop b r_1.2).bind (fun r_69 => (F_X5_pop b r_69.2).bind (fun r_75 => (F_X5_joined r_75.1 x1 r_69.1 r_75.2).bind (fun r_86 => (F_X5_push b r_86.1 r_86.2).bind (fun r_89 => some r_89))))))) else ((F_X5_named x1 x3 x4 r_1.2).bind (fun r_13 => (F_X5_push b r_13.1 r_13.2).bind (fun r_16 => some r_16))))
set_option maxHeartbeats 4000000 in
set_option maxRecDepth 100000 in
theorem ok_X5_work {l : Launch} (d : Nat) (b : Nat) (x1 : Int32) (x3 : Int32) (x4 : Int32) (S : St) (hb : b < 2) (R : St) (hF : F_X5_work b x1 x3 x4 S = some R) : Go l (d + 2) mX5_work (Res none R) 0 [(0, .ref (2 + b)), (1, .int x1), (2, .ref 1), (3, .int x3), (4, .int x4)] [] S := by
  unfold F_X5_work at hF
  refine Go.iload_n dX5_work_0 rfl ?_
  obtain ⟨r_1, hc_1, hF⟩ := Option.bind_eq_some_iff.mp hF
  refine Go.callS [_] dX5_work_1 kX5_isName sX5_isName lX5_37 rfl rfl (Nat.le_of_ble_eq_true rfl) (Nat.le_of_ble_eq_true rfl) (ok_X5_isName (d + 1) _ _ _ hc_1) ?_
  refine Go.ifeq (tgt := 22) dX5_work_4 (by decide) (fun h_4 => ?_) (fun h_4 => ?_)
  · have hF := ite_t h_4 hF
    refine Go.iload_n dX5_work_22 rfl ?_
    refine Go.bipush (v := 33) dX5_work_23 (by decide) ?_
    refine Go.icmpne (tgt := 50) dX5_work_25 (by decide) (fun h_25 => ?_) (fun h_25 => ?_)
    · have hF := ite_f h_25 hF
      refine Go.iload_n dX5_work_50 rfl ?_
      refine Go.bipush (v := 126) dX5_work_51 (by decide) ?_
      refine Go.icmpne (tgt := 68) dX5_work_53 (by decide) (fun h_53 => ?_) (fun h_53 => ?_)
      · have hF := ite_f h_53 hF
        refine Go.aload_n dX5_work_68 rfl ?_
        obtain ⟨r_69, hc_69, hF⟩ := Option.bind_eq_some_iff.mp hF
        refine Go.callV [] dX5_work_69 kX5_pop vX5_pop lX5_29 (cl_X5 hb) rfl rfl rfl rfl (Nat.le_of_ble_eq_true rfl) (Nat.le_of_ble_eq_true rfl) (ok_X5_pop (d + 1) _ _ hb _ hc_69) ?_
        refine Go.istore (ls' := [(5, _), (0, _), (1, _), (2, _), (3, _), (4, _)]) dX5_work_72 (by decide) rfl ?_
        refine Go.aload_n dX5_work_74 rfl ?_
        obtain ⟨r_75, hc_75, hF⟩ := Option.bind_eq_some_iff.mp hF
        refine Go.callV [] dX5_work_75 kX5_pop vX5_pop lX5_29 (cl_X5 hb) rfl rfl rfl rfl (Nat.le_of_ble_eq_true rfl) (Nat.le_of_ble_eq_true rfl) (ok_X5_pop (d + 1) _ _ hb _ hc_75) ?_
        refine Go.istore (ls' := [(6, _), (5, _), (0, _), (1, _), (2, _), (3, _), (4, _)]) dX5_work_78 (by decide) rfl ?_
        refine Go.aload_n dX5_work_80 rfl ?_
        refine Go.iload dX5_work_81 rfl ?_
        refine Go.iload_n dX5_work_83 rfl ?_
        refine Go.iload dX5_work_84 rfl ?_
        obtain ⟨r_86, hc_86, hF⟩ := Option.bind_eq_some_iff.mp hF
        refine Go.callS [_, _, _] dX5_work_86 kX5_joined sX5_joined lX5_49 rfl rfl (Nat.le_of_ble_eq_true rfl) (Nat.le_of_ble_eq_true rfl) (ok_X5_joined (d + 0) _ _ _ _ _ hc_86) ?_
        obtain ⟨r_89, hc_89, hF⟩ := Option.bind_eq_some_iff.mp hF
        refine Go.callV [_] dX5_work_89 kX5_push vX5_push lX5_25 (cl_X5 hb) rfl rfl rfl rfl (Nat.le_of_ble_eq_true rfl) (Nat.le_of_ble_eq_true rfl) (ok_X5_push (d + 1) _ _ _ hb _ hc_89) ?_
        obtain rfl := Option.some.inj hF
        exact Go.vret (st := []) dX5_work_92 rfl ⟨rfl, rfl⟩
      · have hF := ite_t h_53 hF
        refine Go.aload_n dX5_work_56 rfl ?_
        refine Go.aload_n dX5_work_57 rfl ?_
        obtain ⟨r_58, hc_58, hF⟩ := Option.bind_eq_some_iff.mp hF
        refine Go.callV [] dX5_work_58 kX5_pop vX5_pop lX5_29 (cl_X5 hb) rfl rfl rfl rfl (Nat.le_of_ble_eq_true rfl) (Nat.le_of_ble_eq_true rfl) (ok_X5_pop (d + 1) _ _ hb _ hc_58) ?_
        refine Go.ineg dX5_work_61 ?_
        obtain ⟨r_62, hc_62, hF⟩ := Option.bind_eq_some_iff.mp hF
        refine Go.callV [_] dX5_work_62 kX5_push vX5_push lX5_25 (cl_X5 hb) rfl rfl rfl rfl (Nat.le_of_ble_eq_true rfl) (Nat.le_of_ble_eq_true rfl) (ok_X5_push (d + 1) _ _ _ hb _ hc_62) ?_
        refine Go.goto (tgt := 92) dX5_work_65 (by decide) ?_
        obtain rfl := Option.some.inj hF
        exact Go.vret (st := []) dX5_work_92 rfl ⟨rfl, rfl⟩
    · have hF := ite_t h_25 hF
      refine Go.aload_n dX5_work_28 rfl ?_
      refine Go.aload_n dX5_work_29 rfl ?_
      obtain ⟨r_30, hc_30, hF⟩ := Option.bind_eq_some_iff.mp hF
      refine Go.callV [] dX5_work_30 kX5_pop vX5_pop lX5_29 (cl_X5 hb) rfl rfl rfl rfl (Nat.le_of_ble_eq_true rfl) (Nat.le_of_ble_eq_true rfl) (ok_X5_pop (d + 1) _ _ hb _ hc_30) ?_
      refine Go.ifne (tgt := 40) dX5_work_33 (by decide) (fun h_33 => ?_) (fun h_33 => ?_)
      · have hF := ite_f h_33 hF
        refine Go.iconst (v := 0) dX5_work_40 (by decide) ?_
        obtain ⟨r_41, hc_41, hF⟩ := Option.bind_eq_some_iff.mp hF
        refine Go.callS [_] dX5_work_41 kX5_truth sX5_truth lX5_45 rfl rfl (Nat.le_of_ble_eq_true rfl) (Nat.le_of_ble_eq_true rfl) (ok_X5_truth (d + 1) _ _ _ hc_41) ?_
        obtain ⟨r_44, hc_44, hF⟩ := Option.bind_eq_some_iff.mp hF
        refine Go.callV [_] dX5_work_44 kX5_push vX5_push lX5_25 (cl_X5 hb) rfl rfl rfl rfl (Nat.le_of_ble_eq_true rfl) (Nat.le_of_ble_eq_true rfl) (ok_X5_push (d + 1) _ _ _ hb _ hc_44) ?_
        refine Go.goto (tgt := 92) dX5_work_47 (by decide) ?_
        obtain rfl := Option.some.inj hF
        exact Go.vret (st := []) dX5_work_92 rfl ⟨rfl, rfl⟩
      · have hF := ite_t h_33 hF
        refine Go.iconst (v := 1) dX5_work_36 (by decide) ?_
        refine Go.goto (tgt := 41) dX5_work_37 (by decide) ?_
        obtain ⟨r_41, hc_41, hF⟩ := Option.bind_eq_some_iff.mp hF
        refine Go.callS [_] dX5_work_41 kX5_truth sX5_truth lX5_45 rfl rfl (Nat.le_of_ble_eq_true rfl) (Nat.le_of_ble_eq_true rfl) (ok_X5_truth (d + 1) _ _ _ hc_41) ?_
        obtain ⟨r_44, hc_44, hF⟩ := Option.bind_eq_some_iff.mp hF
        refine Go.callV [_] dX5_work_44 kX5_push vX5_push lX5_25 (cl_X5 hb) rfl rfl rfl rfl (Nat.le_of_ble_eq_true rfl) (Nat.le_of_ble_eq_true rfl) (ok_X5_push (d + 1) _ _ _ hb _ hc_44) ?_
        refine Go.goto (tgt := 92) dX5_work_47 (by decide) ?_
        obtain rfl := Option.some.inj hF
        exact Go.vret (st := []) dX5_work_92 rfl ⟨rfl, rfl⟩
  · have hF := ite_f h_4 hF
    refine Go.aload_n dX5_work_7 rfl ?_
    refine Go.iload_n dX5_work_8 rfl ?_
    refine Go.aload_n dX5_work_9 rfl ?_
    refine Go.iload_n dX5_work_10 rfl ?_
    refine Go.iload dX5_work_11 rfl ?_
    obtain ⟨r_13, hc_13, hF⟩ := Option.bind_eq_some_iff.mp hF
    refine Go.callS [_, _, _, _] dX5_work_13 kX5_named sX5_named lX5_41 rfl rfl (Nat.le_of_ble_eq_true rfl) (Nat.le_of_ble_eq_true rfl) (ok_X5_named (d + 0) _ _ _ _ _ hc_13) ?_
    obtain ⟨r_16, hc_16, hF⟩ := Option.bind_eq_some_iff.mp hF
    refine Go.callV [_] dX5_work_16 kX5_push vX5_push lX5_25 (cl_X5 hb) rfl rfl rfl rfl (Nat.le_of_ble_eq_true rfl) (Nat.le_of_ble_eq_true rfl) (ok_X5_push (d + 1) _ _ _ hb _ hc_16) ?_
    refine Go.goto (tgt := 92) dX5_work_19 (by decide) ?_
    obtain rfl := Option.some.inj hF
    exact Go.vret (st := []) dX5_work_92 rfl ⟨rfl, rfl⟩
def F_X5_worth_11 : Nat → Nat → Int32 → Int32 → Int32 → Int32 → St → Option (Int32 × St)
  | 0 => fun _ _ _ _ _ _ => none
  | n + 1 => fun x0 x2 x3 x4 x5 S =>
    if (S.1 (2 + x0) 1) ≤ x5 then (some (0, S)) else (gd (inb x5 121) (if (S.2.1 (30 + x0) (Int32.toNatClampNeg x5)) < 0 then (if (S.2.1 (30 + x0) (Int32.toNatClampNeg x5)) = (-63) then ((F_X5_pop x0 S).bind (fun r_51 => if r_51.1 = 0 then ((F_X5_worth_11 n) x0 x2 x3 0 (x5 + 1) r_51.2) else ((F_X5_worth_11 n) x0 x2 x3 1 (x5 + 1) r_51.2))) else (if (S.2.1 (30 + x0) (Int32.toNatClampNeg x5)) = (-59) then ((F_X5_pop x0 S).bind (fun r_75 => if x4 = 0 then ((F_X5_worth_11 n) x0 x2 x3 1 (x5 + 1) r_75.2) else (some (r_75.1, r_75.2)))) else ((F_X5_work x0 (-(S.2.1 (30 + x0) (Int32.toNatClampNeg x5))) x2 x3 S).bind (fun r_101 => (F_X5_worth_11 n) x0 x2 x3 x4 (x5 + 1) r_101)))) else ((F_X5_push x0 (S.2.1 (30 + x0) (Int32.toNatClampNeg x5)) S).bind (fun r_37 => (F_X5_worth_11 n) x0 x2 x3 x4 (x5 + 1) r_37))))
set_option maxHeartbeats 4000000 in
set_option maxRecDepth 100000 in
theorem ok_X5_worth_11 {l : Launch} (d : Nat) : ∀ (n : Nat) (x0 : Nat) (x2 : Int32) (x3 : Int32) (x4 : Int32) (x5 : Int32) (S : St) (hx0 : x0 < 2) (R : Int32 × St), F_X5_worth_11 n x0 x2 x3 x4 x5 S = some R → Go l (d + 3) mX5_worth (Res (some (.int R.1)) R.2) 11 [(0, .ref (2 + x0)), (1, .ref 1), (2, .int x2), (3, .int x3), (4, .int x4), (5, .int x5)] [] S := by
  intro n
  induction n with
  | zero => intro x0 x2 x3 x4 x5 S hx0 R hF; cases hF
  | succ n hk11 =>
    intro x0 x2 x3 x4 x5 S hx0 R hF
    have hF : (if (S.1 (2 + x0) 1) ≤ x5 then (some (0, S)) else (gd (inb x5 121) (if (S.2.1 (30 + x0) (Int32.toNatClampNeg x5)) < 0 then (if (S.2.1 (30 + x0) (Int32.toNatClampNeg x5)) = (-63) then ((F_X5_pop x0 S).bind (fun r_51 => if r_51.1 = 0 then ((F_X5_worth_11 n) x0 x2 x3 0 (x5 + 1) r_51.2) else ((F_X5_worth_11 n) x0 x2 x3 1 (x5 + 1) r_51.2))) else (if (S.2.1 (30 + x0) (Int32.toNatClampNeg x5)) = (-59) then ((F_X5_pop x0 S).bind (fun r_75 => if x4 = 0 then ((F_X5_worth_11 n) x0 x2 x3 1 (x5 + 1) r_75.2) else (some (r_75.1, r_75.2)))) else ((F_X5_work x0 (-(S.2.1 (30 + x0) (Int32.toNatClampNeg x5))) x2 x3 S).bind (fun r_101 => (F_X5_worth_11 n) x0 x2 x3 x4 (x5 + 1) r_101)))) else ((F_X5_push x0 (S.2.1 (30 + x0) (Int32.toNatClampNeg x5)) S).bind (fun r_37 => (F_X5_worth_11 n) x0 x2 x3 x4 (x5 + 1) r_37))))) = some R := hF
    refine Go.iload dX5_worth_11 rfl ?_
    refine Go.aload_n dX5_worth_13 rfl ?_
    refine Go.getI dX5_worth_14 fX5_15 (sl_X5_1 hx0) ?_
    refine Go.icmpge (tgt := 110) dX5_worth_17 (by decide) (fun h_17 => ?_) (fun h_17 => ?_)
    · have hF := ite_t h_17 hF
      refine Go.iconst (v := 0) dX5_worth_110 (by decide) ?_
      obtain rfl := Option.some.inj hF
      exact Go.iret (st := []) dX5_worth_111 rfl rfl ⟨rfl, rfl⟩
    · have hF := ite_f h_17 hF
      refine Go.aload_n dX5_worth_20 rfl ?_
      refine Go.getR dX5_worth_21 fX5_11 (sl_X5_0 hx0) ?_
      refine Go.iload dX5_worth_24 rfl ?_
      obtain ⟨hb_26, hF⟩ := gd_some hF
      refine Go.iald dX5_worth_26 (ar_30 hx0) (inb_ok hb_26) ?_
      refine Go.istore (ls' := [(6, _), (0, _), (1, _), (2, _), (3, _), (4, _), (5, _)]) dX5_worth_27 (by decide) rfl ?_
      refine Go.iload dX5_worth_29 rfl ?_
      refine Go.iflt (tgt := 43) dX5_worth_31 (by decide) (fun h_31 => ?_) (fun h_31 => ?_)
      · have hF := ite_t h_31 hF
        refine Go.iload dX5_worth_43 rfl ?_
        refine Go.bipush (v := (-63)) dX5_worth_45 (by decide) ?_
        refine Go.icmpne (tgt := 67) dX5_worth_47 (by decide) (fun h_47 => ?_) (fun h_47 => ?_)
        · have hF := ite_f h_47 hF
          refine Go.iload dX5_worth_67 rfl ?_
          refine Go.bipush (v := (-59)) dX5_worth_69 (by decide) ?_
          refine Go.icmpne (tgt := 94) dX5_worth_71 (by decide) (fun h_71 => ?_) (fun h_71 => ?_)
          · have hF := ite_f h_71 hF
            refine Go.aload_n dX5_worth_94 rfl ?_
            refine Go.iload dX5_worth_95 rfl ?_
            refine Go.ineg dX5_worth_97 ?_
            refine Go.aload_n dX5_worth_98 rfl ?_
            refine Go.iload_n dX5_worth_99 rfl ?_
            refine Go.iload_n dX5_worth_100 rfl ?_
            obtain ⟨r_101, hc_101, hF⟩ := Option.bind_eq_some_iff.mp hF
            refine Go.callV [_, _, _, _] dX5_worth_101 kX5_work vX5_work lX5_33 (cl_X5 hx0) rfl rfl rfl rfl (Nat.le_of_ble_eq_true rfl) (Nat.le_of_ble_eq_true rfl) (ok_X5_work (d + 0) _ _ _ _ _ hx0 _ hc_101) ?_
            refine Go.iincP (ls' := [(5, _), (6, _), (0, _), (1, _), (2, _), (3, _), (4, _)]) dX5_worth_104 rfl (by decide) rfl ?_
            refine Go.goto (tgt := 11) dX5_worth_107 (by decide) ?_
            refine Go.pick (ls' := [(0, _), (1, _), (2, _), (3, _), (4, _), (5, _)]) [2, 3, 4, 5, 6, 0] rfl ?_
            exact hk11 _ _ _ _ _ _ hx0 _ hF
          · have hF := ite_t h_71 hF
            refine Go.aload_n dX5_worth_74 rfl ?_
            obtain ⟨r_75, hc_75, hF⟩ := Option.bind_eq_some_iff.mp hF
            refine Go.callV [] dX5_worth_75 kX5_pop vX5_pop lX5_29 (cl_X5 hx0) rfl rfl rfl rfl (Nat.le_of_ble_eq_true rfl) (Nat.le_of_ble_eq_true rfl) (ok_X5_pop (d + 2) _ _ hx0 _ hc_75) ?_
            refine Go.istore (ls' := [(7, _), (6, _), (0, _), (1, _), (2, _), (3, _), (4, _), (5, _)]) dX5_worth_78 (by decide) rfl ?_
            refine Go.iload dX5_worth_80 rfl ?_
            refine Go.ifeq (tgt := 88) dX5_worth_82 (by decide) (fun h_82 => ?_) (fun h_82 => ?_)
            · have hF := ite_t h_82 hF
              refine Go.iconst (v := 1) dX5_worth_88 (by decide) ?_
              refine Go.istore (ls' := [(4, _), (7, _), (6, _), (0, _), (1, _), (2, _), (3, _), (5, _)]) dX5_worth_89 (by decide) rfl ?_
              refine Go.goto (tgt := 104) dX5_worth_91 (by decide) ?_
              refine Go.iincP (ls' := [(5, _), (4, _), (7, _), (6, _), (0, _), (1, _), (2, _), (3, _)]) dX5_worth_104 rfl (by decide) rfl ?_
              refine Go.goto (tgt := 11) dX5_worth_107 (by decide) ?_
              refine Go.pick (ls' := [(0, _), (1, _), (2, _), (3, _), (4, _), (5, _)]) [4, 5, 6, 7, 1, 0] rfl ?_
              exact hk11 _ _ _ _ _ _ hx0 _ hF
            · have hF := ite_f h_82 hF
              refine Go.iload dX5_worth_85 rfl ?_
              obtain rfl := Option.some.inj hF
              exact Go.iret (st := []) dX5_worth_87 rfl rfl ⟨rfl, rfl⟩
        · have hF := ite_t h_47 hF
          refine Go.aload_n dX5_worth_50 rfl ?_
          obtain ⟨r_51, hc_51, hF⟩ := Option.bind_eq_some_iff.mp hF
          refine Go.callV [] dX5_worth_51 kX5_pop vX5_pop lX5_29 (cl_X5 hx0) rfl rfl rfl rfl (Nat.le_of_ble_eq_true rfl) (Nat.le_of_ble_eq_true rfl) (ok_X5_pop (d + 2) _ _ hx0 _ hc_51) ?_
          refine Go.ifeq (tgt := 61) dX5_worth_54 (by decide) (fun h_54 => ?_) (fun h_54 => ?_)
          · have hF := ite_t h_54 hF
            refine Go.iconst (v := 0) dX5_worth_61 (by decide) ?_
            refine Go.istore (ls' := [(4, _), (6, _), (0, _), (1, _), (2, _), (3, _), (5, _)]) dX5_worth_62 (by decide) rfl ?_
            refine Go.goto (tgt := 104) dX5_worth_64 (by decide) ?_
            refine Go.iincP (ls' := [(5, _), (4, _), (6, _), (0, _), (1, _), (2, _), (3, _)]) dX5_worth_104 rfl (by decide) rfl ?_
            refine Go.goto (tgt := 11) dX5_worth_107 (by decide) ?_
            refine Go.pick (ls' := [(0, _), (1, _), (2, _), (3, _), (4, _), (5, _)]) [3, 4, 5, 6, 1, 0] rfl ?_
            exact hk11 _ _ _ _ _ _ hx0 _ hF
          · have hF := ite_f h_54 hF
            refine Go.iconst (v := 1) dX5_worth_57 (by decide) ?_
            refine Go.goto (tgt := 62) dX5_worth_58 (by decide) ?_
            refine Go.istore (ls' := [(4, _), (6, _), (0, _), (1, _), (2, _), (3, _), (5, _)]) dX5_worth_62 (by decide) rfl ?_
            refine Go.goto (tgt := 104) dX5_worth_64 (by decide) ?_
            refine Go.iincP (ls' := [(5, _), (4, _), (6, _), (0, _), (1, _), (2, _), (3, _)]) dX5_worth_104 rfl (by decide) rfl ?_
            refine Go.goto (tgt := 11) dX5_worth_107 (by decide) ?_
            refine Go.pick (ls' := [(0, _), (1, _), (2, _), (3, _), (4, _), (5, _)]) [3, 4, 5, 6, 1, 0] rfl ?_
            exact hk11 _ _ _ _ _ _ hx0 _ hF
      · have hF := ite_f h_31 hF
        refine Go.aload_n dX5_worth_34 rfl ?_
        refine Go.iload dX5_worth_35 rfl ?_
        obtain ⟨r_37, hc_37, hF⟩ := Option.bind_eq_some_iff.mp hF
        refine Go.callV [_] dX5_worth_37 kX5_push vX5_push lX5_25 (cl_X5 hx0) rfl rfl rfl rfl (Nat.le_of_ble_eq_true rfl) (Nat.le_of_ble_eq_true rfl) (ok_X5_push (d + 2) _ _ _ hx0 _ hc_37) ?_
        refine Go.goto (tgt := 104) dX5_worth_40 (by decide) ?_
        refine Go.iincP (ls' := [(5, _), (6, _), (0, _), (1, _), (2, _), (3, _), (4, _)]) dX5_worth_104 rfl (by decide) rfl ?_
        refine Go.goto (tgt := 11) dX5_worth_107 (by decide) ?_
        refine Go.pick (ls' := [(0, _), (1, _), (2, _), (3, _), (4, _), (5, _)]) [2, 3, 4, 5, 6, 0] rfl ?_
        exact hk11 _ _ _ _ _ _ hx0 _ hF
def F_X5_worth (N : Nat) (b : Nat) (x2 : Int32) (x3 : Int32) (S : St) : Option (Int32 × St) :=
  let S2 := fset S (2 + b) 3 0; F_X5_worth_11 N b x2 x3 1 0 S2
set_option maxHeartbeats 4000000 in
set_option maxRecDepth 100000 in
theorem ok_X5_worth {l : Launch} (d : Nat) (N : Nat) (b : Nat) (x2 : Int32) (x3 : Int32) (S : St) (hb : b < 2) (R : Int32 × St) (hF : F_X5_worth N b x2 x3 S = some R) : Go l (d + 3) mX5_worth (Res (some (.int R.1)) R.2) 0 [(0, .ref (2 + b)), (1, .ref 1), (2, .int x2), (3, .int x3)] [] S := by
  unfold F_X5_worth at hF
  refine Go.aload_n dX5_worth_0 rfl ?_
  refine Go.iconst (v := 0) dX5_worth_1 (by decide) ?_
  refine Go.putI dX5_worth_2 fX5_22 (sl_X5_3 hb) ?_
  refine Go.iconst (v := 1) dX5_worth_5 (by decide) ?_
  refine Go.istore (ls' := [(4, _), (0, _), (1, _), (2, _), (3, _)]) dX5_worth_6 (by decide) rfl ?_
  refine Go.iconst (v := 0) dX5_worth_8 (by decide) ?_
  refine Go.istore (ls' := [(5, _), (4, _), (0, _), (1, _), (2, _), (3, _)]) dX5_worth_9 (by decide) rfl ?_
  refine Go.pick (ls' := [(0, _), (1, _), (2, _), (3, _), (4, _), (5, _)]) [2, 3, 4, 5, 1, 0] rfl ?_
  exact ok_X5_worth_11 d N _ _ _ _ _ _ hb _ hF
def F_X8_gains (N : Nat) (x1 : Int32) (x2 : Int32) (S : St) : Option (Int32 × St) :=
  (F_X5_isTold 1 S).bind (fun r_4 => if r_4.1 = 0 then (some (if (0 : Int32) < (if ((100 - x2) / 3) < (100 : Int32) then (100 - x2) / 3 else 100) then if ((100 - x2) / 3) < (100 : Int32) then (100 - x2) / 3 else 100 else 0, r_4.2)) else ((F_X5_worth N 1 x1 x2 r_4.2).bind (fun r_17 => some (if (0 : Int32) < (if r_17.1 < (100 : Int32) then r_17.1 else 100) then if r_17.1 < (100 : Int32) then r_17.1 else 100 else 0, r_17.2))))
set_option maxHeartbeats 4000000 in
set_option maxRecDepth 100000 in
theorem ok_X8_gains {l : Launch} (d : Nat) (N : Nat) (x1 : Int32) (x2 : Int32) (S : St) (R : Int32 × St) (hF : F_X8_gains N x1 x2 S = some R) : Go l (d + 4) mX8_gains (Res (some (.int R.1)) R.2) 0 [(0, .ref 1), (1, .int x1), (2, .int x2)] [] S := by
  unfold F_X8_gains at hF
  refine Go.aload_n dX8_gains_0 rfl ?_
  refine Go.getR dX8_gains_1 fX8_56 rfl ?_
  obtain ⟨r_4, hc_4, hF⟩ := Option.bind_eq_some_iff.mp hF
  refine Go.callV [] dX8_gains_4 kX5_isTold vX5_isTold lX8_84 rfl rfl rfl rfl rfl (Nat.le_of_ble_eq_true rfl) (Nat.le_of_ble_eq_true rfl) (ok_X5_isTold (d + 3) _ _ (by decide) _ hc_4) ?_
  refine Go.ifeq (tgt := 23) dX8_gains_7 (by decide) (fun h_7 => ?_) (fun h_7 => ?_)
  · have hF := ite_t h_7 hF
    refine Go.bipush (v := 100) dX8_gains_23 (by decide) ?_
    refine Go.iload_n dX8_gains_25 rfl ?_
    refine Go.isub dX8_gains_26 ?_
    refine Go.iconst (v := 3) dX8_gains_27 (by decide) ?_
    refine Go.idiv dX8_gains_28 (by decide) ?_
    refine Go.istore_n (ls' := [(3, _), (0, _), (1, _), (2, _)]) dX8_gains_29 (by decide) rfl ?_
    refine Go.iconst (v := 0) dX8_gains_30 (by decide) ?_
    refine Go.bipush (v := 100) dX8_gains_31 (by decide) ?_
    refine Go.iload_n dX8_gains_33 rfl ?_
    refine Go.mmin dX8_gains_34 lX8_92 (Nat.le_of_ble_eq_true rfl) ?_
    refine Go.mmax dX8_gains_37 lX8_97 (Nat.le_of_ble_eq_true rfl) ?_
    obtain rfl := Option.some.inj hF
    exact Go.iret (st := []) dX8_gains_40 rfl rfl ⟨rfl, rfl⟩
  · have hF := ite_f h_7 hF
    refine Go.aload_n dX8_gains_10 rfl ?_
    refine Go.getR dX8_gains_11 fX8_56 rfl ?_
    refine Go.aload_n dX8_gains_14 rfl ?_
    refine Go.iload_n dX8_gains_15 rfl ?_
    refine Go.iload_n dX8_gains_16 rfl ?_
    obtain ⟨r_17, hc_17, hF⟩ := Option.bind_eq_some_iff.mp hF
    refine Go.callV [_, _, _] dX8_gains_17 kX5_worth vX5_worth lX8_88 rfl rfl rfl rfl rfl (Nat.le_of_ble_eq_true rfl) (Nat.le_of_ble_eq_true rfl) (ok_X5_worth (d + 0) N _ _ _ _ (by decide) _ hc_17) ?_
    refine Go.goto (tgt := 29) dX8_gains_20 (by decide) ?_
    refine Go.istore_n (ls' := [(3, _), (0, _), (1, _), (2, _)]) dX8_gains_29 (by decide) rfl ?_
    refine Go.iconst (v := 0) dX8_gains_30 (by decide) ?_
    refine Go.bipush (v := 100) dX8_gains_31 (by decide) ?_
    refine Go.iload_n dX8_gains_33 rfl ?_
    refine Go.mmin dX8_gains_34 lX8_92 (Nat.le_of_ble_eq_true rfl) ?_
    refine Go.mmax dX8_gains_37 lX8_97 (Nat.le_of_ble_eq_true rfl) ?_
    obtain rfl := Option.some.inj hF
    exact Go.iret (st := []) dX8_gains_40 rfl rfl ⟨rfl, rfl⟩
def F_X3_foresee (N : Nat) (x2 : Int32) (S : St) : Option (St) :=
  gd (inb x2 20) (gd (inb x2 20) ((F_X8_gains N x2 (S.2.1 47 (Int32.toNatClampNeg x2)) S).bind (fun r_22 => gd (inb x2 20) (let S28 := aset r_22.2 49 (upd (r_22.2.2.1 49) (Int32.toNatClampNeg x2) (if r_22.1 < (100 - (S.2.1 47 (Int32.toNatClampNeg x2))) then r_22.1 else 100 - (S.2.1 47 (Int32.toNatClampNeg x2)))); some S28))))
set_option maxHeartbeats 4000000 in
set_option maxRecDepth 100000 in
theorem ok_X3_foresee {l : Launch} (d : Nat) (N : Nat) (x2 : Int32) (S : St) (R : St) (hF : F_X3_foresee N x2 S = some R) : Go l (d + 5) mX3_foresee (Res none R) 0 [(0, .ref 8), (1, .ref 1), (2, .int x2)] [] S := by
  unfold F_X3_foresee at hF
  refine Go.aload_n dX3_foresee_0 rfl ?_
  refine Go.getR dX3_foresee_1 fX3_25 rfl ?_
  refine Go.iload_n dX3_foresee_4 rfl ?_
  refine Go.bipush (v := 100) dX3_foresee_5 (by decide) ?_
  refine Go.aload_n dX3_foresee_7 rfl ?_
  refine Go.getR dX3_foresee_8 fX3_19 rfl ?_
  refine Go.iload_n dX3_foresee_11 rfl ?_
  obtain ⟨hb_12, hF⟩ := gd_some hF
  refine Go.iald dX3_foresee_12 rfl (inb_ok hb_12) ?_
  refine Go.isub dX3_foresee_13 ?_
  refine Go.aload_n dX3_foresee_14 rfl ?_
  refine Go.iload_n dX3_foresee_15 rfl ?_
  refine Go.aload_n dX3_foresee_16 rfl ?_
  refine Go.getR dX3_foresee_17 fX3_19 rfl ?_
  refine Go.iload_n dX3_foresee_20 rfl ?_
  obtain ⟨hb_21, hF⟩ := gd_some hF
  refine Go.iald dX3_foresee_21 rfl (inb_ok hb_21) ?_
  obtain ⟨r_22, hc_22, hF⟩ := Option.bind_eq_some_iff.mp hF
  refine Go.callV [_, _] dX3_foresee_22 kX8_gains vX8_gains lX3_50 rfl rfl rfl rfl rfl (Nat.le_of_ble_eq_true rfl) (Nat.le_of_ble_eq_true rfl) (ok_X8_gains (d + 0) N _ _ _ _ hc_22) ?_
  refine Go.mmin dX3_foresee_25 lX3_54 (Nat.le_of_ble_eq_true rfl) ?_
  obtain ⟨hb_28, hF⟩ := gd_some hF
  refine Go.iast dX3_foresee_28 rfl (inb_ok hb_28) ?_
  obtain rfl := Option.some.inj hF
  exact Go.vret (st := []) dX3_foresee_29 rfl ⟨rfl, rfl⟩
def F_X3_begin_52 (N : Nat) (k7 : Int32 → St → Option (St)) (x2 : Int32) (y0 : Int32) (S : St) : Option (St) :=
  gd (inb x2 20) (gd (inb x2 20) (let S66 := aset S 48 (upd (S.2.1 48) (Int32.toNatClampNeg x2) ((S.2.1 24 (Int32.toNatClampNeg x2)) + y0)); gd (inb x2 20) (gd (inb x2 20) (let S89 := fset S66 8 0 ((S66.1 8 0) + ((100 - (S66.2.1 47 (Int32.toNatClampNeg x2))) * (S66.2.1 48 (Int32.toNatClampNeg x2)))); (F_X3_foresee N x2 S89).bind (fun r_95 => k7 (x2 + 1) r_95)))))
set_option maxHeartbeats 4000000 in
set_option maxRecDepth 100000 in
theorem ok_X3_begin_52 {l : Launch} (d : Nat) (N : Nat) (k7 : Int32 → St → Option (St)) (hk7 : ∀ (x2 : Int32) (S : St) (R : St), k7 x2 S = some R → Go l (d + 6) mX3_begin (Res none R) 7 [(0, .ref 8), (1, .ref 1), (2, .int x2)] [] S) (x2 : Int32) (y0 : Int32) (S : St) (R : St) (hF : F_X3_begin_52 N k7 x2 y0 S = some R) : Go l (d + 6) mX3_begin (Res none R) 52 [(0, .ref 8), (1, .ref 1), (2, .int x2)] [.int y0] S := by
  unfold F_X3_begin_52 at hF
  refine Go.istore_n (ls' := [(3, _), (0, _), (1, _), (2, _)]) dX3_begin_52 (by decide) rfl ?_
  refine Go.aload_n dX3_begin_53 rfl ?_
  refine Go.getR dX3_begin_54 fX3_22 rfl ?_
  refine Go.iload_n dX3_begin_57 rfl ?_
  refine Go.aload_n dX3_begin_58 rfl ?_
  refine Go.getR dX3_begin_59 fX3_43 rfl ?_
  refine Go.iload_n dX3_begin_62 rfl ?_
  obtain ⟨hb_63, hF⟩ := gd_some hF
  refine Go.iald dX3_begin_63 rfl (inb_ok hb_63) ?_
  refine Go.iload_n dX3_begin_64 rfl ?_
  refine Go.iadd dX3_begin_65 ?_
  obtain ⟨hb_66, hF⟩ := gd_some hF
  refine Go.iast dX3_begin_66 rfl (inb_ok hb_66) ?_
  refine Go.aload_n dX3_begin_67 rfl ?_
  refine Go.dup dX3_begin_68 rfl ?_
  refine Go.getI dX3_begin_69 fX3_9 rfl ?_
  refine Go.bipush (v := 100) dX3_begin_72 (by decide) ?_
  refine Go.aload_n dX3_begin_74 rfl ?_
  refine Go.getR dX3_begin_75 fX3_19 rfl ?_
  refine Go.iload_n dX3_begin_78 rfl ?_
  obtain ⟨hb_79, hF⟩ := gd_some hF
  refine Go.iald dX3_begin_79 rfl (inb_ok hb_79) ?_
  refine Go.isub dX3_begin_80 ?_
  refine Go.aload_n dX3_begin_81 rfl ?_
  refine Go.getR dX3_begin_82 fX3_22 rfl ?_
  refine Go.iload_n dX3_begin_85 rfl ?_
  obtain ⟨hb_86, hF⟩ := gd_some hF
  refine Go.iald dX3_begin_86 rfl (inb_ok hb_86) ?_
  refine Go.imul dX3_begin_87 ?_
  refine Go.iadd dX3_begin_88 ?_
  refine Go.putI dX3_begin_89 fX3_9 rfl ?_
  refine Go.aload_n dX3_begin_92 rfl ?_
  refine Go.aload_n dX3_begin_93 rfl ?_
  refine Go.iload_n dX3_begin_94 rfl ?_
  obtain ⟨r_95, hc_95, hF⟩ := Option.bind_eq_some_iff.mp hF
  refine Go.callV [_, _] dX3_begin_95 kX3_foresee vX3_foresee lX3_46 rfl rfl rfl rfl rfl (Nat.le_of_ble_eq_true rfl) (Nat.le_of_ble_eq_true rfl) (ok_X3_foresee (d + 0) N _ _ _ hc_95) ?_
  refine Go.iincP (ls' := [(2, _), (3, _), (0, _), (1, _)]) dX3_begin_98 rfl (by decide) rfl ?_
  refine Go.goto (tgt := 7) dX3_begin_101 (by decide) ?_
  refine Go.pick (ls' := [(0, _), (1, _), (2, _)]) [2, 3, 0] rfl ?_
  exact hk7 _ _ _ hF
def F_X3_begin_7 (N : Nat) : Nat → Int32 → St → Option (St)
  | 0 => fun _ _ => none
  | n + 1 => fun x2 S =>
    if (S.1 1 0) ≤ x2 then (some S) else (gd (inb x2 20) (let S21 := aset S 46 (upd (S.2.1 46) (Int32.toNatClampNeg x2) (0 : Int32)); gd (inb x2 20) (gd (inb x2 20) (let S33 := aset S21 47 (upd (S21.2.1 47) (Int32.toNatClampNeg x2) (S21.2.1 27 (Int32.toNatClampNeg x2))); if x2 = 0 then (F_X3_begin_52 N (F_X3_begin_7 N n) x2 0 S33) else ((F_X8_jumpsFrom (x2 - 1) S33).bind (fun r_46 => (F_J6_bitCount_0f7a4 r_46.1 r_46.2).bind (fun r_49 => F_X3_begin_52 N (F_X3_begin_7 N n) x2 r_49.1 r_49.2)))))))
set_option maxHeartbeats 4000000 in
set_option maxRecDepth 100000 in
theorem ok_X3_begin_7 {l : Launch} (d : Nat) (N : Nat) : ∀ (n : Nat) (x2 : Int32) (S : St) (R : St), F_X3_begin_7 N n x2 S = some R → Go l (d + 6) mX3_begin (Res none R) 7 [(0, .ref 8), (1, .ref 1), (2, .int x2)] [] S := by
  intro n
  induction n with
  | zero => intro x2 S  R hF; cases hF
  | succ n hk7 =>
    intro x2 S  R hF
    have hF : (if (S.1 1 0) ≤ x2 then (some S) else (gd (inb x2 20) (let S21 := aset S 46 (upd (S.2.1 46) (Int32.toNatClampNeg x2) (0 : Int32)); gd (inb x2 20) (gd (inb x2 20) (let S33 := aset S21 47 (upd (S21.2.1 47) (Int32.toNatClampNeg x2) (S21.2.1 27 (Int32.toNatClampNeg x2))); if x2 = 0 then (F_X3_begin_52 N (F_X3_begin_7 N n) x2 0 S33) else ((F_X8_jumpsFrom (x2 - 1) S33).bind (fun r_46 => (F_J6_bitCount_0f7a4 r_46.1 r_46.2).bind (fun r_49 => F_X3_begin_52 N (F_X3_begin_7 N n) x2 r_49.1 r_49.2)))))))) = some R := hF
    refine Go.iload_n dX3_begin_7 rfl ?_
    refine Go.aload_n dX3_begin_8 rfl ?_
    refine Go.getI dX3_begin_9 fX3_28 rfl ?_
    refine Go.icmpge (tgt := 104) dX3_begin_12 (by decide) (fun h_12 => ?_) (fun h_12 => ?_)
    · have hF := ite_t h_12 hF
      obtain rfl := Option.some.inj hF
      exact Go.vret (st := []) dX3_begin_104 rfl ⟨rfl, rfl⟩
    · have hF := ite_f h_12 hF
      refine Go.aload_n dX3_begin_15 rfl ?_
      refine Go.getR dX3_begin_16 fX3_15 rfl ?_
      refine Go.iload_n dX3_begin_19 rfl ?_
      refine Go.iconst (v := 0) dX3_begin_20 (by decide) ?_
      obtain ⟨hb_21, hF⟩ := gd_some hF
      refine Go.iast dX3_begin_21 rfl (inb_ok hb_21) ?_
      refine Go.aload_n dX3_begin_22 rfl ?_
      refine Go.getR dX3_begin_23 fX3_19 rfl ?_
      refine Go.iload_n dX3_begin_26 rfl ?_
      refine Go.aload_n dX3_begin_27 rfl ?_
      refine Go.getR dX3_begin_28 fX3_33 rfl ?_
      refine Go.iload_n dX3_begin_31 rfl ?_
      obtain ⟨hb_32, hF⟩ := gd_some hF
      refine Go.iald dX3_begin_32 rfl (inb_ok hb_32) ?_
      obtain ⟨hb_33, hF⟩ := gd_some hF
      refine Go.iast dX3_begin_33 rfl (inb_ok hb_33) ?_
      refine Go.iload_n dX3_begin_34 rfl ?_
      refine Go.ifne (tgt := 42) dX3_begin_35 (by decide) (fun h_35 => ?_) (fun h_35 => ?_)
      · have hF := ite_f h_35 hF
        refine Go.aload_n dX3_begin_42 rfl ?_
        refine Go.iload_n dX3_begin_43 rfl ?_
        refine Go.iconst (v := 1) dX3_begin_44 (by decide) ?_
        refine Go.isub dX3_begin_45 ?_
        obtain ⟨r_46, hc_46, hF⟩ := Option.bind_eq_some_iff.mp hF
        refine Go.callV [_] dX3_begin_46 kX8_jumpsFrom vX8_jumpsFrom lX3_34 rfl rfl rfl rfl rfl (Nat.le_of_ble_eq_true rfl) (Nat.le_of_ble_eq_true rfl) (ok_X8_jumpsFrom (d + 5) _ _ _ hc_46) ?_
        obtain ⟨r_49, hc_49, hF⟩ := Option.bind_eq_some_iff.mp hF
        refine Go.callS [_] dX3_begin_49 kJ6_bitCount_0f7a4 sJ6_bitCount_0f7a4 lX3_38 rfl rfl (Nat.le_of_ble_eq_true rfl) (Nat.le_of_ble_eq_true rfl) (ok_J6_bitCount_0f7a4 (d + 5) _ _ _ hc_49) ?_
        refine Go.pick (ls' := [(0, _), (1, _), (2, _)]) [0, 1, 2] rfl ?_
        exact ok_X3_begin_52 d N (F_X3_begin_7 N n) hk7 _ _ _ _ hF
      · have hF := ite_t h_35 hF
        refine Go.iconst (v := 0) dX3_begin_38 (by decide) ?_
        refine Go.goto (tgt := 52) dX3_begin_39 (by decide) ?_
        refine Go.pick (ls' := [(0, _), (1, _), (2, _)]) [0, 1, 2] rfl ?_
        exact ok_X3_begin_52 d N (F_X3_begin_7 N n) hk7 _ _ _ _ hF
def F_X3_begin (N : Nat) (S : St) : Option (St) :=
  let S2 := fset S 8 0 0; F_X3_begin_7 N N 0 S2
set_option maxHeartbeats 4000000 in
set_option maxRecDepth 100000 in
theorem ok_X3_begin {l : Launch} (d : Nat) (N : Nat) (S : St) (R : St) (hF : F_X3_begin N S = some R) : Go l (d + 6) mX3_begin (Res none R) 0 [(0, .ref 8), (1, .ref 1)] [] S := by
  unfold F_X3_begin at hF
  refine Go.aload_n dX3_begin_0 rfl ?_
  refine Go.iconst (v := 0) dX3_begin_1 (by decide) ?_
  refine Go.putI dX3_begin_2 fX3_9 rfl ?_
  refine Go.iconst (v := 0) dX3_begin_5 (by decide) ?_
  refine Go.istore_n (ls' := [(2, _), (0, _), (1, _)]) dX3_begin_6 (by decide) rfl ?_
  refine Go.pick (ls' := [(0, _), (1, _), (2, _)]) [1, 2, 0] rfl ?_
  exact ok_X3_begin_7 d N N _ _ _ hF
def F_X3_spend_13 (N : Nat) (k2 : Int32 → Int32 → St → Option (St)) : Nat → Int32 → Int32 → Int32 → Int32 → St → Option (St)
  | 0 => fun _ _ _ _ _ => none
  | n + 1 => fun x2 x3 x4 x5 S =>
    if (S.1 1 0) ≤ x5 then (gd (inb x4 20) (gd (inb x4 20) (let S86 := fset S 8 0 ((S.1 8 0) - ((S.2.1 49 (Int32.toNatClampNeg x4)) * (S.2.1 48 (Int32.toNatClampNeg x4)))); gd (inb x4 20) (gd (inb x4 20) (let S99 := aset S86 46 (upd (S86.2.1 46) (Int32.toNatClampNeg x4) ((S86.2.1 46 (Int32.toNatClampNeg x4)) + 1)); gd (inb x4 20) (gd (inb x4 20) (gd (inb x4 20) (let S116 := aset S99 47 (upd (S99.2.1 47) (Int32.toNatClampNeg x4) ((S99.2.1 47 (Int32.toNatClampNeg x4)) + (S99.2.1 49 (Int32.toNatClampNeg x4)))); (F_X3_foresee N x4 S116).bind (fun r_121 => k2 x2 (x3 + 1) r_121))))))))) else (gd (inb x5 20) (gd (inb x5 20) (gd (inb x4 20) (gd (inb x4 20) (if ((S.2.1 49 (Int32.toNatClampNeg x5)) * (S.2.1 48 (Int32.toNatClampNeg x5))) ≤ ((S.2.1 49 (Int32.toNatClampNeg x4)) * (S.2.1 48 (Int32.toNatClampNeg x4))) then ((F_X3_spend_13 N k2 n) x2 x3 x4 (x5 + 1) S) else ((F_X3_spend_13 N k2 n) x2 x3 x5 (x5 + 1) S))))))
set_option maxHeartbeats 4000000 in
set_option maxRecDepth 100000 in
theorem ok_X3_spend_13 {l : Launch} (d : Nat) (N : Nat) (k2 : Int32 → Int32 → St → Option (St)) (hk2 : ∀ (x2 : Int32) (x3 : Int32) (S : St) (R : St), k2 x2 x3 S = some R → Go l (d + 6) mX3_spend (Res none R) 2 [(0, .ref 8), (1, .ref 1), (2, .int x2), (3, .int x3)] [] S) : ∀ (n : Nat) (x2 : Int32) (x3 : Int32) (x4 : Int32) (x5 : Int32) (S : St) (R : St), F_X3_spend_13 N k2 n x2 x3 x4 x5 S = some R → Go l (d + 6) mX3_spend (Res none R) 13 [(0, .ref 8), (1, .ref 1), (2, .int x2), (3, .int x3), (4, .int x4), (5, .int x5)] [] S := by
  intro n
  induction n with
  | zero => intro x2 x3 x4 x5 S  R hF; cases hF
  | succ n hk13 =>
    intro x2 x3 x4 x5 S  R hF
    have hF : (if (S.1 1 0) ≤ x5 then (gd (inb x4 20) (gd (inb x4 20) (let S86 := fset S 8 0 ((S.1 8 0) - ((S.2.1 49 (Int32.toNatClampNeg x4)) * (S.2.1 48 (Int32.toNatClampNeg x4)))); gd (inb x4 20) (gd (inb x4 20) (let S99 := aset S86 46 (upd (S86.2.1 46) (Int32.toNatClampNeg x4) ((S86.2.1 46 (Int32.toNatClampNeg x4)) + 1)); gd (inb x4 20) (gd (inb x4 20) (gd (inb x4 20) (let S116 := aset S99 47 (upd (S99.2.1 47) (Int32.toNatClampNeg x4) ((S99.2.1 47 (Int32.toNatClampNeg x4)) + (S99.2.1 49 (Int32.toNatClampNeg x4)))); (F_X3_foresee N x4 S116).bind (fun r_121 => k2 x2 (x3 + 1) r_121))))))))) else (gd (inb x5 20) (gd (inb x5 20) (gd (inb x4 20) (gd (inb x4 20) (if ((S.2.1 49 (Int32.toNatClampNeg x5)) * (S.2.1 48 (Int32.toNatClampNeg x5))) ≤ ((S.2.1 49 (Int32.toNatClampNeg x4)) * (S.2.1 48 (Int32.toNatClampNeg x4))) then ((F_X3_spend_13 N k2 n) x2 x3 x4 (x5 + 1) S) else ((F_X3_spend_13 N k2 n) x2 x3 x5 (x5 + 1) S))))))) = some R := hF
    refine Go.iload dX3_spend_13 rfl ?_
    refine Go.aload_n dX3_spend_15 rfl ?_
    refine Go.getI dX3_spend_16 fX3_28 rfl ?_
    refine Go.icmpge (tgt := 65) dX3_spend_19 (by decide) (fun h_19 => ?_) (fun h_19 => ?_)
    · have hF := ite_t h_19 hF
      refine Go.aload_n dX3_spend_65 rfl ?_
      refine Go.dup dX3_spend_66 rfl ?_
      refine Go.getI dX3_spend_67 fX3_9 rfl ?_
      refine Go.aload_n dX3_spend_70 rfl ?_
      refine Go.getR dX3_spend_71 fX3_25 rfl ?_
      refine Go.iload dX3_spend_74 rfl ?_
      obtain ⟨hb_76, hF⟩ := gd_some hF
      refine Go.iald dX3_spend_76 rfl (inb_ok hb_76) ?_
      refine Go.aload_n dX3_spend_77 rfl ?_
      refine Go.getR dX3_spend_78 fX3_22 rfl ?_
      refine Go.iload dX3_spend_81 rfl ?_
      obtain ⟨hb_83, hF⟩ := gd_some hF
      refine Go.iald dX3_spend_83 rfl (inb_ok hb_83) ?_
      refine Go.imul dX3_spend_84 ?_
      refine Go.isub dX3_spend_85 ?_
      refine Go.putI dX3_spend_86 fX3_9 rfl ?_
      refine Go.aload_n dX3_spend_89 rfl ?_
      refine Go.getR dX3_spend_90 fX3_15 rfl ?_
      refine Go.iload dX3_spend_93 rfl ?_
      refine Go.dup2 dX3_spend_95 rfl rfl ?_
      obtain ⟨hb_96, hF⟩ := gd_some hF
      refine Go.iald dX3_spend_96 rfl (inb_ok hb_96) ?_
      refine Go.iconst (v := 1) dX3_spend_97 (by decide) ?_
      refine Go.iadd dX3_spend_98 ?_
      obtain ⟨hb_99, hF⟩ := gd_some hF
      refine Go.iast dX3_spend_99 rfl (inb_ok hb_99) ?_
      refine Go.aload_n dX3_spend_100 rfl ?_
      refine Go.getR dX3_spend_101 fX3_19 rfl ?_
      refine Go.iload dX3_spend_104 rfl ?_
      refine Go.dup2 dX3_spend_106 rfl rfl ?_
      obtain ⟨hb_107, hF⟩ := gd_some hF
      refine Go.iald dX3_spend_107 rfl (inb_ok hb_107) ?_
      refine Go.aload_n dX3_spend_108 rfl ?_
      refine Go.getR dX3_spend_109 fX3_25 rfl ?_
      refine Go.iload dX3_spend_112 rfl ?_
      obtain ⟨hb_114, hF⟩ := gd_some hF
      refine Go.iald dX3_spend_114 rfl (inb_ok hb_114) ?_
      refine Go.iadd dX3_spend_115 ?_
      obtain ⟨hb_116, hF⟩ := gd_some hF
      refine Go.iast dX3_spend_116 rfl (inb_ok hb_116) ?_
      refine Go.aload_n dX3_spend_117 rfl ?_
      refine Go.aload_n dX3_spend_118 rfl ?_
      refine Go.iload dX3_spend_119 rfl ?_
      obtain ⟨r_121, hc_121, hF⟩ := Option.bind_eq_some_iff.mp hF
      refine Go.callV [_, _] dX3_spend_121 kX3_foresee vX3_foresee lX3_46 rfl rfl rfl rfl rfl (Nat.le_of_ble_eq_true rfl) (Nat.le_of_ble_eq_true rfl) (ok_X3_foresee (d + 0) N _ _ _ hc_121) ?_
      refine Go.iincP (ls' := [(3, _), (0, _), (1, _), (2, _), (4, _), (5, _)]) dX3_spend_124 rfl (by decide) rfl ?_
      refine Go.goto (tgt := 2) dX3_spend_127 (by decide) ?_
      refine Go.pick (ls' := [(0, _), (1, _), (2, _), (3, _)]) [1, 2, 3, 0] rfl ?_
      exact hk2 _ _ _ _ hF
    · have hF := ite_f h_19 hF
      refine Go.aload_n dX3_spend_22 rfl ?_
      refine Go.getR dX3_spend_23 fX3_25 rfl ?_
      refine Go.iload dX3_spend_26 rfl ?_
      obtain ⟨hb_28, hF⟩ := gd_some hF
      refine Go.iald dX3_spend_28 rfl (inb_ok hb_28) ?_
      refine Go.aload_n dX3_spend_29 rfl ?_
      refine Go.getR dX3_spend_30 fX3_22 rfl ?_
      refine Go.iload dX3_spend_33 rfl ?_
      obtain ⟨hb_35, hF⟩ := gd_some hF
      refine Go.iald dX3_spend_35 rfl (inb_ok hb_35) ?_
      refine Go.imul dX3_spend_36 ?_
      refine Go.aload_n dX3_spend_37 rfl ?_
      refine Go.getR dX3_spend_38 fX3_25 rfl ?_
      refine Go.iload dX3_spend_41 rfl ?_
      obtain ⟨hb_43, hF⟩ := gd_some hF
      refine Go.iald dX3_spend_43 rfl (inb_ok hb_43) ?_
      refine Go.aload_n dX3_spend_44 rfl ?_
      refine Go.getR dX3_spend_45 fX3_22 rfl ?_
      refine Go.iload dX3_spend_48 rfl ?_
      obtain ⟨hb_50, hF⟩ := gd_some hF
      refine Go.iald dX3_spend_50 rfl (inb_ok hb_50) ?_
      refine Go.imul dX3_spend_51 ?_
      refine Go.icmple (tgt := 59) dX3_spend_52 (by decide) (fun h_52 => ?_) (fun h_52 => ?_)
      · have hF := ite_t h_52 hF
        refine Go.iincP (ls' := [(5, _), (0, _), (1, _), (2, _), (3, _), (4, _)]) dX3_spend_59 rfl (by decide) rfl ?_
        refine Go.goto (tgt := 13) dX3_spend_62 (by decide) ?_
        refine Go.pick (ls' := [(0, _), (1, _), (2, _), (3, _), (4, _), (5, _)]) [1, 2, 3, 4, 5, 0] rfl ?_
        exact hk13 _ _ _ _ _ _ hF
      · have hF := ite_f h_52 hF
        refine Go.iload dX3_spend_55 rfl ?_
        refine Go.istore (ls' := [(4, _), (0, _), (1, _), (2, _), (3, _), (5, _)]) dX3_spend_57 (by decide) rfl ?_
        refine Go.iincP (ls' := [(5, _), (4, _), (0, _), (1, _), (2, _), (3, _)]) dX3_spend_59 rfl (by decide) rfl ?_
        refine Go.goto (tgt := 13) dX3_spend_62 (by decide) ?_
        refine Go.pick (ls' := [(0, _), (1, _), (2, _), (3, _), (4, _), (5, _)]) [2, 3, 4, 5, 1, 0] rfl ?_
        exact hk13 _ _ _ _ _ _ hF
def F_X3_spend_2 (N : Nat) : Nat → Int32 → Int32 → St → Option (St)
  | 0 => fun _ _ _ => none
  | n + 1 => fun x2 x3 S =>
    if x2 ≤ x3 then (some S) else (F_X3_spend_13 N (F_X3_spend_2 N n) N x2 x3 0 1 S)
set_option maxHeartbeats 4000000 in
set_option maxRecDepth 100000 in
theorem ok_X3_spend_2 {l : Launch} (d : Nat) (N : Nat) : ∀ (n : Nat) (x2 : Int32) (x3 : Int32) (S : St) (R : St), F_X3_spend_2 N n x2 x3 S = some R → Go l (d + 6) mX3_spend (Res none R) 2 [(0, .ref 8), (1, .ref 1), (2, .int x2), (3, .int x3)] [] S := by
  intro n
  induction n with
  | zero => intro x2 x3 S  R hF; cases hF
  | succ n hk2 =>
    intro x2 x3 S  R hF
    have hF : (if x2 ≤ x3 then (some S) else (F_X3_spend_13 N (F_X3_spend_2 N n) N x2 x3 0 1 S)) = some R := hF
    refine Go.iload_n dX3_spend_2 rfl ?_
    refine Go.iload_n dX3_spend_3 rfl ?_
    refine Go.icmpge (tgt := 130) dX3_spend_4 (by decide) (fun h_4 => ?_) (fun h_4 => ?_)
    · have hF := ite_t h_4 hF
      obtain rfl := Option.some.inj hF
      exact Go.vret (st := []) dX3_spend_130 rfl ⟨rfl, rfl⟩
    · have hF := ite_f h_4 hF
      refine Go.iconst (v := 0) dX3_spend_7 (by decide) ?_
      refine Go.istore (ls' := [(4, _), (0, _), (1, _), (2, _), (3, _)]) dX3_spend_8 (by decide) rfl ?_
      refine Go.iconst (v := 1) dX3_spend_10 (by decide) ?_
      refine Go.istore (ls' := [(5, _), (4, _), (0, _), (1, _), (2, _), (3, _)]) dX3_spend_11 (by decide) rfl ?_
      refine Go.pick (ls' := [(0, _), (1, _), (2, _), (3, _), (4, _), (5, _)]) [2, 3, 4, 5, 1, 0] rfl ?_
      exact ok_X3_spend_13 d N (F_X3_spend_2 N n) hk2 N _ _ _ _ _ _ hF
def F_X3_spend (N : Nat) (x2 : Int32) (S : St) : Option (St) :=
  F_X3_spend_2 N N x2 0 S
set_option maxHeartbeats 4000000 in
set_option maxRecDepth 100000 in
theorem ok_X3_spend {l : Launch} (d : Nat) (N : Nat) (x2 : Int32) (S : St) (R : St) (hF : F_X3_spend N x2 S = some R) : Go l (d + 6) mX3_spend (Res none R) 0 [(0, .ref 8), (1, .ref 1), (2, .int x2)] [] S := by
  unfold F_X3_spend at hF
  refine Go.iconst (v := 0) dX3_spend_0 (by decide) ?_
  refine Go.istore_n (ls' := [(3, _), (0, _), (1, _), (2, _)]) dX3_spend_1 (by decide) rfl ?_
  refine Go.pick (ls' := [(0, _), (1, _), (2, _), (3, _)]) [1, 2, 3, 0] rfl ?_
  exact ok_X3_spend_2 d N N _ _ _ _ hF
def F_X4_take (S : St) : Option (St) :=
  let S5 := fset S 10 0 (S.1 1 0); gd (cpok (0 : Int32) (0 : Int32) (S5.1 10 0) 20 20) (let S22 := aset S5 50 (va_cpy (S5.2.1 27) (S5.2.1 50) (Int32.toNatClampNeg (0 : Int32)) (Int32.toNatClampNeg (0 : Int32)) (Int32.toNatClampNeg (S5.1 10 0))); let S30 := fset S22 10 2 (S22.1 1 10); let S38 := fset S30 10 3 (S30.1 1 11); some S38)
set_option maxHeartbeats 4000000 in
set_option maxRecDepth 100000 in
theorem ok_X4_take {l : Launch} (d : Nat) (S : St) (R : St) (hF : F_X4_take S = some R) : Go l (d + 1) mX4_take (Res none R) 0 [(0, .ref 10), (1, .ref 1)] [] S := by
  unfold F_X4_take at hF
  refine Go.aload_n dX4_take_0 rfl ?_
  refine Go.aload_n dX4_take_1 rfl ?_
  refine Go.getI dX4_take_2 fX4_25 rfl ?_
  refine Go.putI dX4_take_5 fX4_9 rfl ?_
  refine Go.aload_n dX4_take_8 rfl ?_
  refine Go.getR dX4_take_9 fX4_28 rfl ?_
  refine Go.iconst (v := 0) dX4_take_12 (by decide) ?_
  refine Go.aload_n dX4_take_13 rfl ?_
  refine Go.getR dX4_take_14 fX4_15 rfl ?_
  refine Go.iconst (v := 0) dX4_take_17 (by decide) ?_
  refine Go.aload_n dX4_take_18 rfl ?_
  refine Go.getI dX4_take_19 fX4_9 rfl ?_
  obtain ⟨hb_22, hF⟩ := gd_some hF
  obtain ⟨hc1, hc2, hc3, hc4, hc5⟩ := cpok_ok hb_22
  refine Go.copyi dX4_take_22 lX4_29 ac_st ac_nt in_J10 rfl rfl hc1 hc2 hc3 hc4 hc5 (Nat.le_of_ble_eq_true rfl) ?_
  refine Go.aload_n dX4_take_25 rfl ?_
  refine Go.aload_n dX4_take_26 rfl ?_
  refine Go.getI dX4_take_27 fX4_35 rfl ?_
  refine Go.putI dX4_take_30 fX4_19 rfl ?_
  refine Go.aload_n dX4_take_33 rfl ?_
  refine Go.aload_n dX4_take_34 rfl ?_
  refine Go.getI dX4_take_35 fX4_36 rfl ?_
  refine Go.putI dX4_take_38 fX4_22 rfl ?_
  obtain rfl := Option.some.inj hF
  exact Go.vret (st := []) dX4_take_41 rfl ⟨rfl, rfl⟩
def F_X4_giveBack (S : St) : Option (St) :=
  gd (cpok (0 : Int32) (0 : Int32) (S.1 10 0) 20 20) (let S14 := aset S 27 (va_cpy (S.2.1 50) (S.2.1 27) (Int32.toNatClampNeg (0 : Int32)) (Int32.toNatClampNeg (0 : Int32)) (Int32.toNatClampNeg (S.1 10 0))); let S22 := fset S14 1 10 (S14.1 10 2); let S30 := fset S22 1 11 (S22.1 10 3); some S30)
set_option maxHeartbeats 4000000 in
set_option maxRecDepth 100000 in
theorem ok_X4_giveBack {l : Launch} (d : Nat) (S : St) (R : St) (hF : F_X4_giveBack S = some R) : Go l (d + 1) mX4_giveBack (Res none R) 0 [(0, .ref 10), (1, .ref 1)] [] S := by
  unfold F_X4_giveBack at hF
  refine Go.aload_n dX4_giveBack_0 rfl ?_
  refine Go.getR dX4_giveBack_1 fX4_15 rfl ?_
  refine Go.iconst (v := 0) dX4_giveBack_4 (by decide) ?_
  refine Go.aload_n dX4_giveBack_5 rfl ?_
  refine Go.getR dX4_giveBack_6 fX4_28 rfl ?_
  refine Go.iconst (v := 0) dX4_giveBack_9 (by decide) ?_
  refine Go.aload_n dX4_giveBack_10 rfl ?_
  refine Go.getI dX4_giveBack_11 fX4_9 rfl ?_
  obtain ⟨hb_14, hF⟩ := gd_some hF
  obtain ⟨hc1, hc2, hc3, hc4, hc5⟩ := cpok_ok hb_14
  refine Go.copyi dX4_giveBack_14 lX4_29 ac_st ac_nt in_J10 rfl rfl hc1 hc2 hc3 hc4 hc5 (Nat.le_of_ble_eq_true rfl) ?_
  refine Go.aload_n dX4_giveBack_17 rfl ?_
  refine Go.aload_n dX4_giveBack_18 rfl ?_
  refine Go.getI dX4_giveBack_19 fX4_19 rfl ?_
  refine Go.putI dX4_giveBack_22 fX4_35 rfl ?_
  refine Go.aload_n dX4_giveBack_25 rfl ?_
  refine Go.aload_n dX4_giveBack_26 rfl ?_
  refine Go.getI dX4_giveBack_27 fX4_22 rfl ?_
  refine Go.putI dX4_giveBack_30 fX4_36 rfl ?_
  obtain rfl := Option.some.inj hF
  exact Go.vret (st := []) dX4_giveBack_33 rfl ⟨rfl, rfl⟩
def F_X6_clear (S : St) : Option (St) :=
  let S2 := fset S 4 1 0; let S7 := fset S2 4 3 0; let S12 := fset S7 4 4 0; let S17 := fset S12 4 5 0; let S22 := fset S17 4 6 0; let S27 := fset S22 4 7 1; let S32 := fset S27 4 8 0; some S32
set_option maxHeartbeats 4000000 in
set_option maxRecDepth 100000 in
theorem ok_X6_clear {l : Launch} (d : Nat) (S : St) (R : St) (hF : F_X6_clear S = some R) : Go l (d + 0) mX6_clear (Res none R) 0 [(0, .ref 4)] [] S := by
  unfold F_X6_clear at hF
  refine Go.aload_n dX6_clear_0 rfl ?_
  refine Go.iconst (v := 0) dX6_clear_1 (by decide) ?_
  refine Go.putI dX6_clear_2 fX6_17 rfl ?_
  refine Go.aload_n dX6_clear_5 rfl ?_
  refine Go.iconst (v := 0) dX6_clear_6 (by decide) ?_
  refine Go.putI dX6_clear_7 fX6_24 rfl ?_
  refine Go.aload_n dX6_clear_10 rfl ?_
  refine Go.iconst (v := 0) dX6_clear_11 (by decide) ?_
  refine Go.putI dX6_clear_12 fX6_27 rfl ?_
  refine Go.aload_n dX6_clear_15 rfl ?_
  refine Go.iconst (v := 0) dX6_clear_16 (by decide) ?_
  refine Go.putI dX6_clear_17 fX6_30 rfl ?_
  refine Go.aload_n dX6_clear_20 rfl ?_
  refine Go.iconst (v := 0) dX6_clear_21 (by decide) ?_
  refine Go.putI dX6_clear_22 fX6_33 rfl ?_
  refine Go.aload_n dX6_clear_25 rfl ?_
  refine Go.iconst (v := 1) dX6_clear_26 (by decide) ?_
  refine Go.putG dX6_clear_27 fX6_36 rfl rfl rfl ?_
  refine Go.aload_n dX6_clear_30 rfl ?_
  refine Go.iconst (v := 0) dX6_clear_31 (by decide) ?_
  refine Go.putG dX6_clear_32 fX6_40 rfl rfl rfl ?_
  obtain rfl := Option.some.inj hF
  exact Go.vret (st := []) dX6_clear_35 rfl ⟨rfl, rfl⟩
def F_X6_isDigit (x0 : Int32) (S : St) : Option (Int32 × St) :=
  if x0 < 48 then (some (0, S)) else (if 57 < x0 then (some (0, S)) else (some (1, S)))
set_option maxHeartbeats 4000000 in
set_option maxRecDepth 100000 in
theorem ok_X6_isDigit {l : Launch} (d : Nat) (x0 : Int32) (S : St) (R : Int32 × St) (hF : F_X6_isDigit x0 S = some R) : Go l (d + 0) mX6_isDigit (Res (some (.int R.1)) R.2) 0 [(0, .int x0)] [] S := by
  unfold F_X6_isDigit at hF
  refine Go.iload_n dX6_isDigit_0 rfl ?_
  refine Go.bipush (v := 48) dX6_isDigit_1 (by decide) ?_
  refine Go.icmplt (tgt := 16) dX6_isDigit_3 (by decide) (fun h_3 => ?_) (fun h_3 => ?_)
  · have hF := ite_t h_3 hF
    refine Go.iconst (v := 0) dX6_isDigit_16 (by decide) ?_
    obtain rfl := Option.some.inj hF
    exact Go.iret (st := []) dX6_isDigit_17 rfl rfl ⟨rfl, rfl⟩
  · have hF := ite_f h_3 hF
    refine Go.iload_n dX6_isDigit_6 rfl ?_
    refine Go.bipush (v := 57) dX6_isDigit_7 (by decide) ?_
    refine Go.icmpgt (tgt := 16) dX6_isDigit_9 (by decide) (fun h_9 => ?_) (fun h_9 => ?_)
    · have hF := ite_t h_9 hF
      refine Go.iconst (v := 0) dX6_isDigit_16 (by decide) ?_
      obtain rfl := Option.some.inj hF
      exact Go.iret (st := []) dX6_isDigit_17 rfl rfl ⟨rfl, rfl⟩
    · have hF := ite_f h_9 hF
      refine Go.iconst (v := 1) dX6_isDigit_12 (by decide) ?_
      refine Go.goto (tgt := 17) dX6_isDigit_13 (by decide) ?_
      obtain rfl := Option.some.inj hF
      exact Go.iret (st := []) dX6_isDigit_17 rfl rfl ⟨rfl, rfl⟩
def F_X6_addStep (x1 : Int32) (S : St) : Option (St) :=
  if 121 ≤ (S.1 4 1) then (some S) else (gd (inb (S.1 4 1) 121) (let S21 := aset S 34 (upd (S.2.1 34) (Int32.toNatClampNeg (S.1 4 1)) x1); let S29 := fset S21 4 1 ((S21.1 4 1) + 1); some S29))
set_option maxHeartbeats 4000000 in
set_option maxRecDepth 100000 in
theorem ok_X6_addStep {l : Launch} (d : Nat) (x1 : Int32) (S : St) (R : St) (hF : F_X6_addStep x1 S = some R) : Go l (d + 0) mX6_addStep (Res none R) 0 [(0, .ref 4), (1, .int x1)] [] S := by
  unfold F_X6_addStep at hF
  refine Go.aload_n dX6_addStep_0 rfl ?_
  refine Go.getI dX6_addStep_1 fX6_17 rfl ?_
  refine Go.aload_n dX6_addStep_4 rfl ?_
  refine Go.getR dX6_addStep_5 fX6_11 rfl ?_
  refine Go.alen (v := 121) dX6_addStep_8 rfl (by decide) (by decide) ?_
  refine Go.icmpge (tgt := 32) dX6_addStep_9 (by decide) (fun h_9 => ?_) (fun h_9 => ?_)
  · have hF := ite_t h_9 hF
    obtain rfl := Option.some.inj hF
    exact Go.vret (st := []) dX6_addStep_32 rfl ⟨rfl, rfl⟩
  · have hF := ite_f h_9 hF
    refine Go.aload_n dX6_addStep_12 rfl ?_
    refine Go.getR dX6_addStep_13 fX6_11 rfl ?_
    refine Go.aload_n dX6_addStep_16 rfl ?_
    refine Go.getI dX6_addStep_17 fX6_17 rfl ?_
    refine Go.iload_n dX6_addStep_20 rfl ?_
    obtain ⟨hb_21, hF⟩ := gd_some hF
    refine Go.iast dX6_addStep_21 rfl (inb_ok hb_21) ?_
    refine Go.aload_n dX6_addStep_22 rfl ?_
    refine Go.dup dX6_addStep_23 rfl ?_
    refine Go.getI dX6_addStep_24 fX6_17 rfl ?_
    refine Go.iconst (v := 1) dX6_addStep_27 (by decide) ?_
    refine Go.iadd dX6_addStep_28 ?_
    refine Go.putI dX6_addStep_29 fX6_17 rfl ?_
    obtain rfl := Option.some.inj hF
    exact Go.vret (st := []) dX6_addStep_32 rfl ⟨rfl, rfl⟩
def F_X6_addWaiting (x1 : Int32) (S : St) : Option (St) :=
  if 120 ≤ (S.1 4 3) then (some S) else (gd (inb (S.1 4 3) 120) (let S21 := aset S 35 (upd (S.2.1 35) (Int32.toNatClampNeg (S.1 4 3)) x1); let S29 := fset S21 4 3 ((S21.1 4 3) + 1); some S29))
set_option maxHeartbeats 4000000 in
set_option maxRecDepth 100000 in
theorem ok_X6_addWaiting {l : Launch} (d : Nat) (x1 : Int32) (S : St) (R : St) (hF : F_X6_addWaiting x1 S = some R) : Go l (d + 0) mX6_addWaiting (Res none R) 0 [(0, .ref 4), (1, .int x1)] [] S := by
  unfold F_X6_addWaiting at hF
  refine Go.aload_n dX6_addWaiting_0 rfl ?_
  refine Go.getI dX6_addWaiting_1 fX6_24 rfl ?_
  refine Go.aload_n dX6_addWaiting_4 rfl ?_
  refine Go.getR dX6_addWaiting_5 fX6_21 rfl ?_
  refine Go.alen (v := 120) dX6_addWaiting_8 rfl (by decide) (by decide) ?_
  refine Go.icmpge (tgt := 32) dX6_addWaiting_9 (by decide) (fun h_9 => ?_) (fun h_9 => ?_)
  · have hF := ite_t h_9 hF
    obtain rfl := Option.some.inj hF
    exact Go.vret (st := []) dX6_addWaiting_32 rfl ⟨rfl, rfl⟩
  · have hF := ite_f h_9 hF
    refine Go.aload_n dX6_addWaiting_12 rfl ?_
    refine Go.getR dX6_addWaiting_13 fX6_21 rfl ?_
    refine Go.aload_n dX6_addWaiting_16 rfl ?_
    refine Go.getI dX6_addWaiting_17 fX6_24 rfl ?_
    refine Go.iload_n dX6_addWaiting_20 rfl ?_
    obtain ⟨hb_21, hF⟩ := gd_some hF
    refine Go.iast dX6_addWaiting_21 rfl (inb_ok hb_21) ?_
    refine Go.aload_n dX6_addWaiting_22 rfl ?_
    refine Go.dup dX6_addWaiting_23 rfl ?_
    refine Go.getI dX6_addWaiting_24 fX6_24 rfl ?_
    refine Go.iconst (v := 1) dX6_addWaiting_27 (by decide) ?_
    refine Go.iadd dX6_addWaiting_28 ?_
    refine Go.putI dX6_addWaiting_29 fX6_24 rfl ?_
    obtain rfl := Option.some.inj hF
    exact Go.vret (st := []) dX6_addWaiting_32 rfl ⟨rfl, rfl⟩
def F_X6_beginsOperand_65 (x1 : Int32) (S : St) : Option (Int32 × St) :=
  if (S.1 4 4) < 6 then (let S83 := fset S 4 4 ((S.1 4 4) + 1); if x1 = 40 then (let S99 := fset S83 4 5 ((S83.1 4 5) + 1); if x1 = 45 then ((F_X6_addWaiting (126 : Int32) S99).bind (fun r_115 => some (1, r_115))) else ((F_X6_addWaiting x1 S99).bind (fun r_115 => some (1, r_115)))) else (if x1 = 45 then ((F_X6_addWaiting (126 : Int32) S83).bind (fun r_115 => some (1, r_115))) else ((F_X6_addWaiting x1 S83).bind (fun r_115 => some (1, r_115))))) else (some (0, S))
set_option maxHeartbeats 4000000 in
set_option maxRecDepth 100000 in
theorem ok_X6_beginsOperand_65 {l : Launch} (d : Nat) (x1 : Int32) (S : St) (R : Int32 × St) (hF : F_X6_beginsOperand_65 x1 S = some R) : Go l (d + 1) mX6_beginsOperand (Res (some (.int R.1)) R.2) 65 [(0, .ref 4), (1, .int x1)] [] S := by
  unfold F_X6_beginsOperand_65 at hF
  refine Go.aload_n dX6_beginsOperand_65 rfl ?_
  refine Go.getI dX6_beginsOperand_66 fX6_27 rfl ?_
  refine Go.bipush (v := 6) dX6_beginsOperand_69 (by decide) ?_
  refine Go.icmplt (tgt := 76) dX6_beginsOperand_71 (by decide) (fun h_71 => ?_) (fun h_71 => ?_)
  · have hF := ite_t h_71 hF
    refine Go.aload_n dX6_beginsOperand_76 rfl ?_
    refine Go.dup dX6_beginsOperand_77 rfl ?_
    refine Go.getI dX6_beginsOperand_78 fX6_27 rfl ?_
    refine Go.iconst (v := 1) dX6_beginsOperand_81 (by decide) ?_
    refine Go.iadd dX6_beginsOperand_82 ?_
    refine Go.putI dX6_beginsOperand_83 fX6_27 rfl ?_
    refine Go.iload_n dX6_beginsOperand_86 rfl ?_
    refine Go.bipush (v := 40) dX6_beginsOperand_87 (by decide) ?_
    refine Go.icmpne (tgt := 102) dX6_beginsOperand_89 (by decide) (fun h_89 => ?_) (fun h_89 => ?_)
    · have hF := ite_f h_89 hF
      refine Go.aload_n dX6_beginsOperand_102 rfl ?_
      refine Go.iload_n dX6_beginsOperand_103 rfl ?_
      refine Go.bipush (v := 45) dX6_beginsOperand_104 (by decide) ?_
      refine Go.icmpne (tgt := 114) dX6_beginsOperand_106 (by decide) (fun h_106 => ?_) (fun h_106 => ?_)
      · have hF := ite_f h_106 hF
        refine Go.iload_n dX6_beginsOperand_114 rfl ?_
        obtain ⟨r_115, hc_115, hF⟩ := Option.bind_eq_some_iff.mp hF
        refine Go.callV [_] dX6_beginsOperand_115 kX6_addWaiting vX6_addWaiting lX6_77 rfl rfl rfl rfl rfl (Nat.le_of_ble_eq_true rfl) (Nat.le_of_ble_eq_true rfl) (ok_X6_addWaiting (d + 0) _ _ _ hc_115) ?_
        refine Go.iconst (v := 1) dX6_beginsOperand_118 (by decide) ?_
        obtain rfl := Option.some.inj hF
        exact Go.iret (st := []) dX6_beginsOperand_119 rfl rfl ⟨rfl, rfl⟩
      · have hF := ite_t h_106 hF
        refine Go.bipush (v := 126) dX6_beginsOperand_109 (by decide) ?_
        refine Go.goto (tgt := 115) dX6_beginsOperand_111 (by decide) ?_
        obtain ⟨r_115, hc_115, hF⟩ := Option.bind_eq_some_iff.mp hF
        refine Go.callV [_] dX6_beginsOperand_115 kX6_addWaiting vX6_addWaiting lX6_77 rfl rfl rfl rfl rfl (Nat.le_of_ble_eq_true rfl) (Nat.le_of_ble_eq_true rfl) (ok_X6_addWaiting (d + 0) _ _ _ hc_115) ?_
        refine Go.iconst (v := 1) dX6_beginsOperand_118 (by decide) ?_
        obtain rfl := Option.some.inj hF
        exact Go.iret (st := []) dX6_beginsOperand_119 rfl rfl ⟨rfl, rfl⟩
    · have hF := ite_t h_89 hF
      refine Go.aload_n dX6_beginsOperand_92 rfl ?_
      refine Go.dup dX6_beginsOperand_93 rfl ?_
      refine Go.getI dX6_beginsOperand_94 fX6_30 rfl ?_
      refine Go.iconst (v := 1) dX6_beginsOperand_97 (by decide) ?_
      refine Go.iadd dX6_beginsOperand_98 ?_
      refine Go.putI dX6_beginsOperand_99 fX6_30 rfl ?_
      refine Go.aload_n dX6_beginsOperand_102 rfl ?_
      refine Go.iload_n dX6_beginsOperand_103 rfl ?_
      refine Go.bipush (v := 45) dX6_beginsOperand_104 (by decide) ?_
      refine Go.icmpne (tgt := 114) dX6_beginsOperand_106 (by decide) (fun h_106 => ?_) (fun h_106 => ?_)
      · have hF := ite_f h_106 hF
        refine Go.iload_n dX6_beginsOperand_114 rfl ?_
        obtain ⟨r_115, hc_115, hF⟩ := Option.bind_eq_some_iff.mp hF
        refine Go.callV [_] dX6_beginsOperand_115 kX6_addWaiting vX6_addWaiting lX6_77 rfl rfl rfl rfl rfl (Nat.le_of_ble_eq_true rfl) (Nat.le_of_ble_eq_true rfl) (ok_X6_addWaiting (d + 0) _ _ _ hc_115) ?_
        refine Go.iconst (v := 1) dX6_beginsOperand_118 (by decide) ?_
        obtain rfl := Option.some.inj hF
        exact Go.iret (st := []) dX6_beginsOperand_119 rfl rfl ⟨rfl, rfl⟩
      · have hF := ite_t h_106 hF
        refine Go.bipush (v := 126) dX6_beginsOperand_109 (by decide) ?_
        refine Go.goto (tgt := 115) dX6_beginsOperand_111 (by decide) ?_
        obtain ⟨r_115, hc_115, hF⟩ := Option.bind_eq_some_iff.mp hF
        refine Go.callV [_] dX6_beginsOperand_115 kX6_addWaiting vX6_addWaiting lX6_77 rfl rfl rfl rfl rfl (Nat.le_of_ble_eq_true rfl) (Nat.le_of_ble_eq_true rfl) (ok_X6_addWaiting (d + 0) _ _ _ hc_115) ?_
        refine Go.iconst (v := 1) dX6_beginsOperand_118 (by decide) ?_
        obtain rfl := Option.some.inj hF
        exact Go.iret (st := []) dX6_beginsOperand_119 rfl rfl ⟨rfl, rfl⟩
  · have hF := ite_f h_71 hF
    refine Go.iconst (v := 0) dX6_beginsOperand_74 (by decide) ?_
    obtain rfl := Option.some.inj hF
    exact Go.iret (st := []) dX6_beginsOperand_75 rfl rfl ⟨rfl, rfl⟩
def F_X6_beginsOperand (x1 : Int32) (S : St) : Option (Int32 × St) :=
  (F_X6_isDigit x1 S).bind (fun r_1 => if r_1.1 = 0 then ((F_X5_isName x1 r_1.2).bind (fun r_28 => if r_28.1 = 0 then (if x1 = 40 then (F_X6_beginsOperand_65 x1 r_28.2) else (if x1 = 33 then (F_X6_beginsOperand_65 x1 r_28.2) else (if x1 = 45 then (F_X6_beginsOperand_65 x1 r_28.2) else (some (0, r_28.2))))) else ((F_X6_addStep (-x1) r_28.2).bind (fun r_37 => let S42 := fset r_37 4 7 0; some (1, S42))))) else ((F_X6_addStep (x1 - 48) r_1.2).bind (fun r_12 => let S17 := fset r_12 4 6 1; let S22 := fset S17 4 7 0; some (1, S22))))
set_option maxHeartbeats 4000000 in
set_option maxRecDepth 100000 in
theorem ok_X6_beginsOperand {l : Launch} (d : Nat) (x1 : Int32) (S : St) (R : Int32 × St) (hF : F_X6_beginsOperand x1 S = some R) : Go l (d + 1) mX6_beginsOperand (Res (some (.int R.1)) R.2) 0 [(0, .ref 4), (1, .int x1)] [] S := by
  unfold F_X6_beginsOperand at hF
  refine Go.iload_n dX6_beginsOperand_0 rfl ?_
  obtain ⟨r_1, hc_1, hF⟩ := Option.bind_eq_some_iff.mp hF
  refine Go.callS [_] dX6_beginsOperand_1 kX6_isDigit sX6_isDigit lX6_67 rfl rfl (Nat.le_of_ble_eq_true rfl) (Nat.le_of_ble_eq_true rfl) (ok_X6_isDigit (d + 0) _ _ _ hc_1) ?_
  refine Go.ifeq (tgt := 27) dX6_beginsOperand_4 (by decide) (fun h_4 => ?_) (fun h_4 => ?_)
  · have hF := ite_t h_4 hF
    refine Go.iload_n dX6_beginsOperand_27 rfl ?_
    obtain ⟨r_28, hc_28, hF⟩ := Option.bind_eq_some_iff.mp hF
    refine Go.callS [_] dX6_beginsOperand_28 kX5_isName sX5_isName lX6_74 rfl rfl (Nat.le_of_ble_eq_true rfl) (Nat.le_of_ble_eq_true rfl) (ok_X5_isName (d + 0) _ _ _ hc_28) ?_
    refine Go.ifeq (tgt := 47) dX6_beginsOperand_31 (by decide) (fun h_31 => ?_) (fun h_31 => ?_)
    · have hF := ite_t h_31 hF
      refine Go.iload_n dX6_beginsOperand_47 rfl ?_
      refine Go.bipush (v := 40) dX6_beginsOperand_48 (by decide) ?_
      refine Go.icmpeq (tgt := 65) dX6_beginsOperand_50 (by decide) (fun h_50 => ?_) (fun h_50 => ?_)
      · have hF := ite_t h_50 hF
        refine Go.pick (ls' := [(0, _), (1, _)]) [0, 1] rfl ?_
        exact ok_X6_beginsOperand_65 d _ _ _ hF
      · have hF := ite_f h_50 hF
        refine Go.iload_n dX6_beginsOperand_53 rfl ?_
        refine Go.bipush (v := 33) dX6_beginsOperand_54 (by decide) ?_
        refine Go.icmpeq (tgt := 65) dX6_beginsOperand_56 (by decide) (fun h_56 => ?_) (fun h_56 => ?_)
        · have hF := ite_t h_56 hF
          refine Go.pick (ls' := [(0, _), (1, _)]) [0, 1] rfl ?_
          exact ok_X6_beginsOperand_65 d _ _ _ hF
        · have hF := ite_f h_56 hF
          refine Go.iload_n dX6_beginsOperand_59 rfl ?_
          refine Go.bipush (v := 45) dX6_beginsOperand_60 (by decide) ?_
          refine Go.icmpne (tgt := 74) dX6_beginsOperand_62 (by decide) (fun h_62 => ?_) (fun h_62 => ?_)
          · have hF := ite_f h_62 hF
            refine Go.iconst (v := 0) dX6_beginsOperand_74 (by decide) ?_
            obtain rfl := Option.some.inj hF
            exact Go.iret (st := []) dX6_beginsOperand_75 rfl rfl ⟨rfl, rfl⟩
          · have hF := ite_t h_62 hF
            refine Go.pick (ls' := [(0, _), (1, _)]) [0, 1] rfl ?_
            exact ok_X6_beginsOperand_65 d _ _ _ hF
    · have hF := ite_f h_31 hF
      refine Go.aload_n dX6_beginsOperand_34 rfl ?_
      refine Go.iload_n dX6_beginsOperand_35 rfl ?_
      refine Go.ineg dX6_beginsOperand_36 ?_
      obtain ⟨r_37, hc_37, hF⟩ := Option.bind_eq_some_iff.mp hF
      refine Go.callV [_] dX6_beginsOperand_37 kX6_addStep vX6_addStep lX6_70 rfl rfl rfl rfl rfl (Nat.le_of_ble_eq_true rfl) (Nat.le_of_ble_eq_true rfl) (ok_X6_addStep (d + 0) _ _ _ hc_37) ?_
      refine Go.aload_n dX6_beginsOperand_40 rfl ?_
      refine Go.iconst (v := 0) dX6_beginsOperand_41 (by decide) ?_
      refine Go.putG dX6_beginsOperand_42 fX6_36 rfl rfl rfl ?_
      refine Go.iconst (v := 1) dX6_beginsOperand_45 (by decide) ?_
      obtain rfl := Option.some.inj hF
      exact Go.iret (st := []) dX6_beginsOperand_46 rfl rfl ⟨rfl, rfl⟩
  · have hF := ite_f h_4 hF
    refine Go.aload_n dX6_beginsOperand_7 rfl ?_
    refine Go.iload_n dX6_beginsOperand_8 rfl ?_
    refine Go.bipush (v := 48) dX6_beginsOperand_9 (by decide) ?_
    refine Go.isub dX6_beginsOperand_11 ?_
    obtain ⟨r_12, hc_12, hF⟩ := Option.bind_eq_some_iff.mp hF
    refine Go.callV [_] dX6_beginsOperand_12 kX6_addStep vX6_addStep lX6_70 rfl rfl rfl rfl rfl (Nat.le_of_ble_eq_true rfl) (Nat.le_of_ble_eq_true rfl) (ok_X6_addStep (d + 0) _ _ _ hc_12) ?_
    refine Go.aload_n dX6_beginsOperand_15 rfl ?_
    refine Go.iconst (v := 1) dX6_beginsOperand_16 (by decide) ?_
    refine Go.putI dX6_beginsOperand_17 fX6_33 rfl ?_
    refine Go.aload_n dX6_beginsOperand_20 rfl ?_
    refine Go.iconst (v := 0) dX6_beginsOperand_21 (by decide) ?_
    refine Go.putG dX6_beginsOperand_22 fX6_36 rfl rfl rfl ?_
    refine Go.iconst (v := 1) dX6_beginsOperand_25 (by decide) ?_
    obtain rfl := Option.some.inj hF
    exact Go.iret (st := []) dX6_beginsOperand_26 rfl rfl ⟨rfl, rfl⟩
def F_X6_addDigit (x1 : Int32) (S : St) : Option (Int32 × St) :=
  if (S.1 4 6) < 1 then (some (0, S)) else (if 4 ≤ (S.1 4 6) then (some (0, S)) else (if 1 ≤ (S.1 4 1) then (gd (inb ((S.1 4 1) - 1) 121) (gd (inb ((S.1 4 1) - 1) 121) (let S52 := aset S 34 (upd (S.2.1 34) (Int32.toNatClampNeg ((S.1 4 1) - 1)) (((S.2.1 34 (Int32.toNatClampNeg ((S.1 4 1) - 1))) * 10) + x1)); let S60 := fset S52 4 6 ((S52.1 4 6) + 1); some (1, S60)))) else (some (0, S))))
set_option maxHeartbeats 4000000 in
set_option maxRecDepth 100000 in
theorem ok_X6_addDigit {l : Launch} (d : Nat) (x1 : Int32) (S : St) (R : Int32 × St) (hF : F_X6_addDigit x1 S = some R) : Go l (d + 0) mX6_addDigit (Res (some (.int R.1)) R.2) 0 [(0, .ref 4), (1, .int x1)] [] S := by
  unfold F_X6_addDigit at hF
  refine Go.aload_n dX6_addDigit_0 rfl ?_
  refine Go.getI dX6_addDigit_1 fX6_33 rfl ?_
  refine Go.iconst (v := 1) dX6_addDigit_4 (by decide) ?_
  refine Go.icmplt (tgt := 24) dX6_addDigit_5 (by decide) (fun h_5 => ?_) (fun h_5 => ?_)
  · have hF := ite_t h_5 hF
    refine Go.iconst (v := 0) dX6_addDigit_24 (by decide) ?_
    obtain rfl := Option.some.inj hF
    exact Go.iret (st := []) dX6_addDigit_25 rfl rfl ⟨rfl, rfl⟩
  · have hF := ite_f h_5 hF
    refine Go.aload_n dX6_addDigit_8 rfl ?_
    refine Go.getI dX6_addDigit_9 fX6_33 rfl ?_
    refine Go.iconst (v := 4) dX6_addDigit_12 (by decide) ?_
    refine Go.icmpge (tgt := 24) dX6_addDigit_13 (by decide) (fun h_13 => ?_) (fun h_13 => ?_)
    · have hF := ite_t h_13 hF
      refine Go.iconst (v := 0) dX6_addDigit_24 (by decide) ?_
      obtain rfl := Option.some.inj hF
      exact Go.iret (st := []) dX6_addDigit_25 rfl rfl ⟨rfl, rfl⟩
    · have hF := ite_f h_13 hF
      refine Go.aload_n dX6_addDigit_16 rfl ?_
      refine Go.getI dX6_addDigit_17 fX6_17 rfl ?_
      refine Go.iconst (v := 1) dX6_addDigit_20 (by decide) ?_
      refine Go.icmpge (tgt := 26) dX6_addDigit_21 (by decide) (fun h_21 => ?_) (fun h_21 => ?_)
      · have hF := ite_t h_21 hF
        refine Go.aload_n dX6_addDigit_26 rfl ?_
        refine Go.getR dX6_addDigit_27 fX6_11 rfl ?_
        refine Go.aload_n dX6_addDigit_30 rfl ?_
        refine Go.getI dX6_addDigit_31 fX6_17 rfl ?_
        refine Go.iconst (v := 1) dX6_addDigit_34 (by decide) ?_
        refine Go.isub dX6_addDigit_35 ?_
        refine Go.aload_n dX6_addDigit_36 rfl ?_
        refine Go.getR dX6_addDigit_37 fX6_11 rfl ?_
        refine Go.aload_n dX6_addDigit_40 rfl ?_
        refine Go.getI dX6_addDigit_41 fX6_17 rfl ?_
        refine Go.iconst (v := 1) dX6_addDigit_44 (by decide) ?_
        refine Go.isub dX6_addDigit_45 ?_
        obtain ⟨hb_46, hF⟩ := gd_some hF
        refine Go.iald dX6_addDigit_46 rfl (inb_ok hb_46) ?_
        refine Go.bipush (v := 10) dX6_addDigit_47 (by decide) ?_
        refine Go.imul dX6_addDigit_49 ?_
        refine Go.iload_n dX6_addDigit_50 rfl ?_
        refine Go.iadd dX6_addDigit_51 ?_
        obtain ⟨hb_52, hF⟩ := gd_some hF
        refine Go.iast dX6_addDigit_52 rfl (inb_ok hb_52) ?_
        refine Go.aload_n dX6_addDigit_53 rfl ?_
        refine Go.dup dX6_addDigit_54 rfl ?_
        refine Go.getI dX6_addDigit_55 fX6_33 rfl ?_
        refine Go.iconst (v := 1) dX6_addDigit_58 (by decide) ?_
        refine Go.iadd dX6_addDigit_59 ?_
        refine Go.putI dX6_addDigit_60 fX6_33 rfl ?_
        refine Go.iconst (v := 1) dX6_addDigit_63 (by decide) ?_
        obtain rfl := Option.some.inj hF
        exact Go.iret (st := []) dX6_addDigit_64 rfl rfl ⟨rfl, rfl⟩
      · have hF := ite_f h_21 hF
        refine Go.iconst (v := 0) dX6_addDigit_24 (by decide) ?_
        obtain rfl := Option.some.inj hF
        exact Go.iret (st := []) dX6_addDigit_25 rfl rfl ⟨rfl, rfl⟩
theorem sw_X6_strengthOf_1 (x : Int32) (h0 : ¬ x = 33) (h1 : ¬ x = 37) (h2 : ¬ x = 38) (h3 : ¬ x = 42) (h4 : ¬ x = 43) (h5 : ¬ x = 45) (h6 : ¬ x = 47) (h7 : ¬ x = 60) (h8 : ¬ x = 61) (h9 : ¬ x = 62) (h10 : ¬ x = 124) (h11 : ¬ x = 126) : Op.lookupswitch.offset (#[(33, 117), (37, 115), (38, 109), (42, 115), (43, 113), (45, 113), (47, 115), (60, 111), (61, 111), (62, 111), (124, 107), (126, 117)] : Array (Int × Int)).toList 120 x.toInt = 120 := by
  have e0 : ¬ x.toInt = 33 := fun h => h0 (Int32.toInt_inj.mp h)
  have e1 : ¬ x.toInt = 37 := fun h => h1 (Int32.toInt_inj.mp h)
  have e2 : ¬ x.toInt = 38 := fun h => h2 (Int32.toInt_inj.mp h)
  have e3 : ¬ x.toInt = 42 := fun h => h3 (Int32.toInt_inj.mp h)
  have e4 : ¬ x.toInt = 43 := fun h => h4 (Int32.toInt_inj.mp h)
  have e5 : ¬ x.toInt = 45 := fun h => h5 (Int32.toInt_inj.mp h)
  have e6 : ¬ x.toInt = 47 := fun h => h6 (Int32.toInt_inj.mp h)
  have e7 : ¬ x.toInt = 60 := fun h => h7 (Int32.toInt_inj.mp h)
  have e8 : ¬ x.toInt = 61 := fun h => h8 (Int32.toInt_inj.mp h)
  have e9 : ¬ x.toInt = 62 := fun h => h9 (Int32.toInt_inj.mp h)
  have e10 : ¬ x.toInt = 124 := fun h => h10 (Int32.toInt_inj.mp h)
  have e11 : ¬ x.toInt = 126 := fun h => h11 (Int32.toInt_inj.mp h)
  simp [Op.lookupswitch.offset, eq_comm, e0, e1, e2, e3, e4, e5, e6, e7, e8, e9, e10, e11]
def F_X6_strengthOf (x0 : Int32) (S : St) : Option (Int32 × St) :=
  if x0 = 33 then (some (6, S)) else (if x0 = 37 then (some (5, S)) else (if x0 = 38 then (some (2, S)) else (if x0 = 42 then (some (5, S)) else (if x0 = 43 then (some (4, S)) else (if x0 = 45 then (some (4, S)) else (if x0 = 47 then (some (5, S)) else (if x0 = 60 then (some (3, S)) else (if x0 = 61 then (some (3, S)) else (if x0 = 62 then (some (3, S)) else (if x0 = 124 then (some (1, S)) else (if x0 = 126 then (some (6, S)) else (some (0, S)))))))))))))
set_option maxHeartbeats 4000000 in
set_option maxRecDepth 100000 in
theorem ok_X6_strengthOf {l : Launch} (d : Nat) (x0 : Int32) (S : St) (R : Int32 × St) (hF : F_X6_strengthOf x0 S = some R) : Go l (d + 0) mX6_strengthOf (Res (some (.int R.1)) R.2) 0 [(0, .int x0)] [] S := by
  unfold F_X6_strengthOf at hF
  refine Go.iload_n dX6_strengthOf_0 rfl ?_
  by_cases hs_1_0 : x0 = 33
  · have hF := ite_t hs_1_0 hF
    refine Go.lookup (tgt := 118) dX6_strengthOf_1 (by decide) (by first | (rw [hs_1_0]; done) | (rw [hs_1_0]; rfl) | (rw [hs_1_0]; decide)) (by decide) ?_
    refine Go.bipush (v := 6) dX6_strengthOf_118 (by decide) ?_
    obtain rfl := Option.some.inj hF
    exact Go.iret (st := []) dX6_strengthOf_120 rfl rfl ⟨rfl, rfl⟩
  · have hF := ite_f hs_1_0 hF
    by_cases hs_1_1 : x0 = 37
    · have hF := ite_t hs_1_1 hF
      refine Go.lookup (tgt := 116) dX6_strengthOf_1 (by decide) (by first | (rw [hs_1_1]; done) | (rw [hs_1_1]; rfl) | (rw [hs_1_1]; decide)) (by decide) ?_
      refine Go.iconst (v := 5) dX6_strengthOf_116 (by decide) ?_
      obtain rfl := Option.some.inj hF
      exact Go.iret (st := []) dX6_strengthOf_117 rfl rfl ⟨rfl, rfl⟩
    · have hF := ite_f hs_1_1 hF
      by_cases hs_1_2 : x0 = 38
      · have hF := ite_t hs_1_2 hF
        refine Go.lookup (tgt := 110) dX6_strengthOf_1 (by decide) (by first | (rw [hs_1_2]; done) | (rw [hs_1_2]; rfl) | (rw [hs_1_2]; decide)) (by decide) ?_
        refine Go.iconst (v := 2) dX6_strengthOf_110 (by decide) ?_
        obtain rfl := Option.some.inj hF
        exact Go.iret (st := []) dX6_strengthOf_111 rfl rfl ⟨rfl, rfl⟩
      · have hF := ite_f hs_1_2 hF
        by_cases hs_1_3 : x0 = 42
        · have hF := ite_t hs_1_3 hF
          refine Go.lookup (tgt := 116) dX6_strengthOf_1 (by decide) (by first | (rw [hs_1_3]; done) | (rw [hs_1_3]; rfl) | (rw [hs_1_3]; decide)) (by decide) ?_
          refine Go.iconst (v := 5) dX6_strengthOf_116 (by decide) ?_
          obtain rfl := Option.some.inj hF
          exact Go.iret (st := []) dX6_strengthOf_117 rfl rfl ⟨rfl, rfl⟩
        · have hF := ite_f hs_1_3 hF
          by_cases hs_1_4 : x0 = 43
          · have hF := ite_t hs_1_4 hF
            refine Go.lookup (tgt := 114) dX6_strengthOf_1 (by decide) (by first | (rw [hs_1_4]; done) | (rw [hs_1_4]; rfl) | (rw [hs_1_4]; decide)) (by decide) ?_
            refine Go.iconst (v := 4) dX6_strengthOf_114 (by decide) ?_
            obtain rfl := Option.some.inj hF
            exact Go.iret (st := []) dX6_strengthOf_115 rfl rfl ⟨rfl, rfl⟩
          · have hF := ite_f hs_1_4 hF
            by_cases hs_1_5 : x0 = 45
            · have hF := ite_t hs_1_5 hF
              refine Go.lookup (tgt := 114) dX6_strengthOf_1 (by decide) (by first | (rw [hs_1_5]; done) | (rw [hs_1_5]; rfl) | (rw [hs_1_5]; decide)) (by decide) ?_
              refine Go.iconst (v := 4) dX6_strengthOf_114 (by decide) ?_
              obtain rfl := Option.some.inj hF
              exact Go.iret (st := []) dX6_strengthOf_115 rfl rfl ⟨rfl, rfl⟩
            · have hF := ite_f hs_1_5 hF
              by_cases hs_1_6 : x0 = 47
              · have hF := ite_t hs_1_6 hF
                refine Go.lookup (tgt := 116) dX6_strengthOf_1 (by decide) (by first | (rw [hs_1_6]; done) | (rw [hs_1_6]; rfl) | (rw [hs_1_6]; decide)) (by decide) ?_
                refine Go.iconst (v := 5) dX6_strengthOf_116 (by decide) ?_
                obtain rfl := Option.some.inj hF
                exact Go.iret (st := []) dX6_strengthOf_117 rfl rfl ⟨rfl, rfl⟩
              · have hF := ite_f hs_1_6 hF
                by_cases hs_1_7 : x0 = 60
                · have hF := ite_t hs_1_7 hF
                  refine Go.lookup (tgt := 112) dX6_strengthOf_1 (by decide) (by first | (rw [hs_1_7]; done) | (rw [hs_1_7]; rfl) | (rw [hs_1_7]; decide)) (by decide) ?_
                  refine Go.iconst (v := 3) dX6_strengthOf_112 (by decide) ?_
                  obtain rfl := Option.some.inj hF
                  exact Go.iret (st := []) dX6_strengthOf_113 rfl rfl ⟨rfl, rfl⟩
                · have hF := ite_f hs_1_7 hF
                  by_cases hs_1_8 : x0 = 61
                  · have hF := ite_t hs_1_8 hF
                    refine Go.lookup (tgt := 112) dX6_strengthOf_1 (by decide) (by first | (rw [hs_1_8]; done) | (rw [hs_1_8]; rfl) | (rw [hs_1_8]; decide)) (by decide) ?_
                    refine Go.iconst (v := 3) dX6_strengthOf_112 (by decide) ?_
                    obtain rfl := Option.some.inj hF
                    exact Go.iret (st := []) dX6_strengthOf_113 rfl rfl ⟨rfl, rfl⟩
                  · have hF := ite_f hs_1_8 hF
                    by_cases hs_1_9 : x0 = 62
                    · have hF := ite_t hs_1_9 hF
                      refine Go.lookup (tgt := 112) dX6_strengthOf_1 (by decide) (by first | (rw [hs_1_9]; done) | (rw [hs_1_9]; rfl) | (rw [hs_1_9]; decide)) (by decide) ?_
                      refine Go.iconst (v := 3) dX6_strengthOf_112 (by decide) ?_
                      obtain rfl := Option.some.inj hF
                      exact Go.iret (st := []) dX6_strengthOf_113 rfl rfl ⟨rfl, rfl⟩
                    · have hF := ite_f hs_1_9 hF
                      by_cases hs_1_10 : x0 = 124
                      · have hF := ite_t hs_1_10 hF
                        refine Go.lookup (tgt := 108) dX6_strengthOf_1 (by decide) (by first | (rw [hs_1_10]; done) | (rw [hs_1_10]; rfl) | (rw [hs_1_10]; decide)) (by decide) ?_
                        refine Go.iconst (v := 1) dX6_strengthOf_108 (by decide) ?_
                        obtain rfl := Option.some.inj hF
                        exact Go.iret (st := []) dX6_strengthOf_109 rfl rfl ⟨rfl, rfl⟩
                      · have hF := ite_f hs_1_10 hF
                        by_cases hs_1_11 : x0 = 126
                        · have hF := ite_t hs_1_11 hF
                          refine Go.lookup (tgt := 118) dX6_strengthOf_1 (by decide) (by first | (rw [hs_1_11]; done) | (rw [hs_1_11]; rfl) | (rw [hs_1_11]; decide)) (by decide) ?_
                          refine Go.bipush (v := 6) dX6_strengthOf_118 (by decide) ?_
                          obtain rfl := Option.some.inj hF
                          exact Go.iret (st := []) dX6_strengthOf_120 rfl rfl ⟨rfl, rfl⟩
                        · have hF := ite_f hs_1_11 hF
                          refine Go.lookup (tgt := 121) dX6_strengthOf_1 (by decide) (sw_X6_strengthOf_1 _ hs_1_0 hs_1_1 hs_1_2 hs_1_3 hs_1_4 hs_1_5 hs_1_6 hs_1_7 hs_1_8 hs_1_9 hs_1_10 hs_1_11) (by decide) ?_
                          refine Go.iconst (v := 0) dX6_strengthOf_121 (by decide) ?_
                          obtain rfl := Option.some.inj hF
                          exact Go.iret (st := []) dX6_strengthOf_122 rfl rfl ⟨rfl, rfl⟩
def F_X6_settle_0 : Nat → Int32 → St → Option (St)
  | 0 => fun _ _ => none
  | n + 1 => fun x1 S =>
    if (S.1 4 3) ≤ 0 then (some S) else (gd (inb ((S.1 4 3) - 1) 120) ((F_X6_strengthOf (S.2.1 35 (Int32.toNatClampNeg ((S.1 4 3) - 1))) S).bind (fun r_18 => if r_18.1 < x1 then (some r_18.2) else (let S32 := fset r_18.2 4 3 ((r_18.2.1 4 3) - 1); gd (inb (S32.1 4 3) 120) ((F_X6_addStep (-(S32.2.1 35 (Int32.toNatClampNeg (S32.1 4 3)))) S32).bind (fun r_46 => gd (inb (r_46.1 4 3) 120) ((F_X6_strengthOf (r_46.2.1 35 (Int32.toNatClampNeg (r_46.1 4 3))) r_46).bind (fun r_58 => if r_58.1 = 6 then (let S73 := fset r_58.2 4 4 ((r_58.2.1 4 4) - 1); (F_X6_settle_0 n) x1 S73) else ((F_X6_settle_0 n) x1 r_58.2)))))))))
set_option maxHeartbeats 4000000 in
set_option maxRecDepth 100000 in
theorem ok_X6_settle_0 {l : Launch} (d : Nat) : ∀ (n : Nat) (x1 : Int32) (S : St) (R : St), F_X6_settle_0 n x1 S = some R → Go l (d + 1) mX6_settle (Res none R) 0 [(0, .ref 4), (1, .int x1)] [] S := by
  intro n
  induction n with
  | zero => intro x1 S  R hF; cases hF
  | succ n hk0 =>
    intro x1 S  R hF
    have hF : (if (S.1 4 3) ≤ 0 then (some S) else (gd (inb ((S.1 4 3) - 1) 120) ((F_X6_strengthOf (S.2.1 35 (Int32.toNatClampNeg ((S.1 4 3) - 1))) S).bind (fun r_18 => if r_18.1 < x1 then (some r_18.2) else (let S32 := fset r_18.2 4 3 ((r_18.2.1 4 3) - 1); gd (inb (S32.1 4 3) 120) ((F_X6_addStep (-(S32.2.1 35 (Int32.toNatClampNeg (S32.1 4 3)))) S32).bind (fun r_46 => gd (inb (r_46.1 4 3) 120) ((F_X6_strengthOf (r_46.2.1 35 (Int32.toNatClampNeg (r_46.1 4 3))) r_46).bind (fun r_58 => if r_58.1 = 6 then (let S73 := fset r_58.2 4 4 ((r_58.2.1 4 4) - 1); (F_X6_settle_0 n) x1 S73) else ((F_X6_settle_0 n) x1 r_58.2)))))))))) = some R := hF
    refine Go.aload_n dX6_settle_0 rfl ?_
    refine Go.getI dX6_settle_1 fX6_24 rfl ?_
    refine Go.ifle (tgt := 79) dX6_settle_4 (by decide) (fun h_4 => ?_) (fun h_4 => ?_)
    · have hF := ite_t h_4 hF
      obtain rfl := Option.some.inj hF
      exact Go.vret (st := []) dX6_settle_79 rfl ⟨rfl, rfl⟩
    · have hF := ite_f h_4 hF
      refine Go.aload_n dX6_settle_7 rfl ?_
      refine Go.getR dX6_settle_8 fX6_21 rfl ?_
      refine Go.aload_n dX6_settle_11 rfl ?_
      refine Go.getI dX6_settle_12 fX6_24 rfl ?_
      refine Go.iconst (v := 1) dX6_settle_15 (by decide) ?_
      refine Go.isub dX6_settle_16 ?_
      obtain ⟨hb_17, hF⟩ := gd_some hF
      refine Go.iald dX6_settle_17 rfl (inb_ok hb_17) ?_
      obtain ⟨r_18, hc_18, hF⟩ := Option.bind_eq_some_iff.mp hF
      refine Go.callS [_] dX6_settle_18 kX6_strengthOf sX6_strengthOf lX6_95 rfl rfl (Nat.le_of_ble_eq_true rfl) (Nat.le_of_ble_eq_true rfl) (ok_X6_strengthOf (d + 0) _ _ _ hc_18) ?_
      refine Go.iload_n dX6_settle_21 rfl ?_
      refine Go.icmplt (tgt := 79) dX6_settle_22 (by decide) (fun h_22 => ?_) (fun h_22 => ?_)
      · have hF := ite_t h_22 hF
        obtain rfl := Option.some.inj hF
        exact Go.vret (st := []) dX6_settle_79 rfl ⟨rfl, rfl⟩
      · have hF := ite_f h_22 hF
        refine Go.aload_n dX6_settle_25 rfl ?_
        refine Go.dup dX6_settle_26 rfl ?_
        refine Go.getI dX6_settle_27 fX6_24 rfl ?_
        refine Go.iconst (v := 1) dX6_settle_30 (by decide) ?_
        refine Go.isub dX6_settle_31 ?_
        refine Go.putI dX6_settle_32 fX6_24 rfl ?_
        refine Go.aload_n dX6_settle_35 rfl ?_
        refine Go.aload_n dX6_settle_36 rfl ?_
        refine Go.getR dX6_settle_37 fX6_21 rfl ?_
        refine Go.aload_n dX6_settle_40 rfl ?_
        refine Go.getI dX6_settle_41 fX6_24 rfl ?_
        obtain ⟨hb_44, hF⟩ := gd_some hF
        refine Go.iald dX6_settle_44 rfl (inb_ok hb_44) ?_
        refine Go.ineg dX6_settle_45 ?_
        obtain ⟨r_46, hc_46, hF⟩ := Option.bind_eq_some_iff.mp hF
        refine Go.callV [_] dX6_settle_46 kX6_addStep vX6_addStep lX6_70 rfl rfl rfl rfl rfl (Nat.le_of_ble_eq_true rfl) (Nat.le_of_ble_eq_true rfl) (ok_X6_addStep (d + 0) _ _ _ hc_46) ?_
        refine Go.aload_n dX6_settle_49 rfl ?_
        refine Go.getR dX6_settle_50 fX6_21 rfl ?_
        refine Go.aload_n dX6_settle_53 rfl ?_
        refine Go.getI dX6_settle_54 fX6_24 rfl ?_
        obtain ⟨hb_57, hF⟩ := gd_some hF
        refine Go.iald dX6_settle_57 rfl (inb_ok hb_57) ?_
        obtain ⟨r_58, hc_58, hF⟩ := Option.bind_eq_some_iff.mp hF
        refine Go.callS [_] dX6_settle_58 kX6_strengthOf sX6_strengthOf lX6_95 rfl rfl (Nat.le_of_ble_eq_true rfl) (Nat.le_of_ble_eq_true rfl) (ok_X6_strengthOf (d + 0) _ _ _ hc_58) ?_
        refine Go.bipush (v := 6) dX6_settle_61 (by decide) ?_
        refine Go.icmpne (tgt := 0) dX6_settle_63 (by decide) (fun h_63 => ?_) (fun h_63 => ?_)
        · have hF := ite_f h_63 hF
          refine Go.pick (ls' := [(0, _), (1, _)]) [0, 1] rfl ?_
          exact hk0 _ _ _ hF
        · have hF := ite_t h_63 hF
          refine Go.aload_n dX6_settle_66 rfl ?_
          refine Go.dup dX6_settle_67 rfl ?_
          refine Go.getI dX6_settle_68 fX6_27 rfl ?_
          refine Go.iconst (v := 1) dX6_settle_71 (by decide) ?_
          refine Go.isub dX6_settle_72 ?_
          refine Go.putI dX6_settle_73 fX6_27 rfl ?_
          refine Go.goto (tgt := 0) dX6_settle_76 (by decide) ?_
          refine Go.pick (ls' := [(0, _), (1, _)]) [0, 1] rfl ?_
          exact hk0 _ _ _ hF
def F_X6_settle (N : Nat) (x1 : Int32) (S : St) : Option (St) :=
  F_X6_settle_0 N x1 S
set_option maxHeartbeats 4000000 in
set_option maxRecDepth 100000 in
theorem ok_X6_settle {l : Launch} (d : Nat) (N : Nat) (x1 : Int32) (S : St) (R : St) (hF : F_X6_settle N x1 S = some R) : Go l (d + 1) mX6_settle (Res none R) 0 [(0, .ref 4), (1, .int x1)] [] S := by
  unfold F_X6_settle at hF
  refine Go.pick (ls' := [(0, _), (1, _)]) [0, 1] rfl ?_
  exact ok_X6_settle_0 d N _ _ _ hF
def F_X6_closesBracket (N : Nat) (S : St) : Option (Int32 × St) :=
  if (S.1 4 5) = 0 then (some (0, S)) else ((F_X6_settle N (1 : Int32) S).bind (fun r_11 => let S21 := fset r_11 4 3 ((r_11.1 4 3) - 1); let S31 := fset S21 4 5 ((S21.1 4 5) - 1); let S41 := fset S31 4 4 ((S31.1 4 4) - 1); some (1, S41)))
set_option maxHeartbeats 4000000 in
set_option maxRecDepth 100000 in
theorem ok_X6_closesBracket {l : Launch} (d : Nat) (N : Nat) (S : St) (R : Int32 × St) (hF : F_X6_closesBracket N S = some R) : Go l (d + 2) mX6_closesBracket (Res (some (.int R.1)) R.2) 0 [(0, .ref 4)] [] S := by
  unfold F_X6_closesBracket at hF
  refine Go.aload_n dX6_closesBracket_0 rfl ?_
  refine Go.getI dX6_closesBracket_1 fX6_30 rfl ?_
  refine Go.ifne (tgt := 9) dX6_closesBracket_4 (by decide) (fun h_4 => ?_) (fun h_4 => ?_)
  · have hF := ite_f h_4 hF
    refine Go.aload_n dX6_closesBracket_9 rfl ?_
    refine Go.iconst (v := 1) dX6_closesBracket_10 (by decide) ?_
    obtain ⟨r_11, hc_11, hF⟩ := Option.bind_eq_some_iff.mp hF
    refine Go.callV [_] dX6_closesBracket_11 kX6_settle vX6_settle lX6_92 rfl rfl rfl rfl rfl (Nat.le_of_ble_eq_true rfl) (Nat.le_of_ble_eq_true rfl) (ok_X6_settle (d + 0) N _ _ _ hc_11) ?_
    refine Go.aload_n dX6_closesBracket_14 rfl ?_
    refine Go.dup dX6_closesBracket_15 rfl ?_
    refine Go.getI dX6_closesBracket_16 fX6_24 rfl ?_
    refine Go.iconst (v := 1) dX6_closesBracket_19 (by decide) ?_
    refine Go.isub dX6_closesBracket_20 ?_
    refine Go.putI dX6_closesBracket_21 fX6_24 rfl ?_
    refine Go.aload_n dX6_closesBracket_24 rfl ?_
    refine Go.dup dX6_closesBracket_25 rfl ?_
    refine Go.getI dX6_closesBracket_26 fX6_30 rfl ?_
    refine Go.iconst (v := 1) dX6_closesBracket_29 (by decide) ?_
    refine Go.isub dX6_closesBracket_30 ?_
    refine Go.putI dX6_closesBracket_31 fX6_30 rfl ?_
    refine Go.aload_n dX6_closesBracket_34 rfl ?_
    refine Go.dup dX6_closesBracket_35 rfl ?_
    refine Go.getI dX6_closesBracket_36 fX6_27 rfl ?_
    refine Go.iconst (v := 1) dX6_closesBracket_39 (by decide) ?_
    refine Go.isub dX6_closesBracket_40 ?_
    refine Go.putI dX6_closesBracket_41 fX6_27 rfl ?_
    refine Go.iconst (v := 1) dX6_closesBracket_44 (by decide) ?_
    obtain rfl := Option.some.inj hF
    exact Go.iret (st := []) dX6_closesBracket_45 rfl rfl ⟨rfl, rfl⟩
  · have hF := ite_t h_4 hF
    refine Go.iconst (v := 0) dX6_closesBracket_7 (by decide) ?_
    obtain rfl := Option.some.inj hF
    exact Go.iret (st := []) dX6_closesBracket_8 rfl rfl ⟨rfl, rfl⟩
def F_X6_endsCondition (N : Nat) (S : St) : Option (Int32 × St) :=
  if 0 < (S.1 4 5) then (some (0, S)) else (if (S.1 4 8) = 0 then ((F_X6_settle N (1 : Int32) S).bind (fun r_18 => (F_X6_addStep (-63 : Int32) r_18).bind (fun r_24 => let S29 := fset r_24 4 8 1; let S34 := fset S29 4 7 1; some (1, S34)))) else (some (0, S)))
set_option maxHeartbeats 4000000 in
set_option maxRecDepth 100000 in
theorem ok_X6_endsCondition {l : Launch} (d : Nat) (N : Nat) (S : St) (R : Int32 × St) (hF : F_X6_endsCondition N S = some R) : Go l (d + 2) mX6_endsCondition (Res (some (.int R.1)) R.2) 0 [(0, .ref 4)] [] S := by
  unfold F_X6_endsCondition at hF
  refine Go.aload_n dX6_endsCondition_0 rfl ?_
  refine Go.getI dX6_endsCondition_1 fX6_30 rfl ?_
  refine Go.ifgt (tgt := 14) dX6_endsCondition_4 (by decide) (fun h_4 => ?_) (fun h_4 => ?_)
  · have hF := ite_t h_4 hF
    refine Go.iconst (v := 0) dX6_endsCondition_14 (by decide) ?_
    obtain rfl := Option.some.inj hF
    exact Go.iret (st := []) dX6_endsCondition_15 rfl rfl ⟨rfl, rfl⟩
  · have hF := ite_f h_4 hF
    refine Go.aload_n dX6_endsCondition_7 rfl ?_
    refine Go.getI dX6_endsCondition_8 fX6_40 rfl ?_
    refine Go.ifeq (tgt := 16) dX6_endsCondition_11 (by decide) (fun h_11 => ?_) (fun h_11 => ?_)
    · have hF := ite_t h_11 hF
      refine Go.aload_n dX6_endsCondition_16 rfl ?_
      refine Go.iconst (v := 1) dX6_endsCondition_17 (by decide) ?_
      obtain ⟨r_18, hc_18, hF⟩ := Option.bind_eq_some_iff.mp hF
      refine Go.callV [_] dX6_endsCondition_18 kX6_settle vX6_settle lX6_92 rfl rfl rfl rfl rfl (Nat.le_of_ble_eq_true rfl) (Nat.le_of_ble_eq_true rfl) (ok_X6_settle (d + 0) N _ _ _ hc_18) ?_
      refine Go.aload_n dX6_endsCondition_21 rfl ?_
      refine Go.bipush (v := (-63)) dX6_endsCondition_22 (by decide) ?_
      obtain ⟨r_24, hc_24, hF⟩ := Option.bind_eq_some_iff.mp hF
      refine Go.callV [_] dX6_endsCondition_24 kX6_addStep vX6_addStep lX6_70 rfl rfl rfl rfl rfl (Nat.le_of_ble_eq_true rfl) (Nat.le_of_ble_eq_true rfl) (ok_X6_addStep (d + 1) _ _ _ hc_24) ?_
      refine Go.aload_n dX6_endsCondition_27 rfl ?_
      refine Go.iconst (v := 1) dX6_endsCondition_28 (by decide) ?_
      refine Go.putG dX6_endsCondition_29 fX6_40 rfl rfl rfl ?_
      refine Go.aload_n dX6_endsCondition_32 rfl ?_
      refine Go.iconst (v := 1) dX6_endsCondition_33 (by decide) ?_
      refine Go.putG dX6_endsCondition_34 fX6_36 rfl rfl rfl ?_
      refine Go.iconst (v := 1) dX6_endsCondition_37 (by decide) ?_
      obtain rfl := Option.some.inj hF
      exact Go.iret (st := []) dX6_endsCondition_38 rfl rfl ⟨rfl, rfl⟩
    · have hF := ite_f h_11 hF
      refine Go.iconst (v := 0) dX6_endsCondition_14 (by decide) ?_
      obtain rfl := Option.some.inj hF
      exact Go.iret (st := []) dX6_endsCondition_15 rfl rfl ⟨rfl, rfl⟩
def F_X6_endsLine (N : Nat) (S : St) : Option (Int32 × St) :=
  if (S.1 4 5) ≤ 0 then ((F_X6_settle N (1 : Int32) S).bind (fun r_11 => (F_X6_addStep (-59 : Int32) r_11).bind (fun r_17 => let S22 := fset r_17 4 8 0; let S27 := fset S22 4 7 1; some (1, S27)))) else (some (0, S))
set_option maxHeartbeats 4000000 in
set_option maxRecDepth 100000 in
theorem ok_X6_endsLine {l : Launch} (d : Nat) (N : Nat) (S : St) (R : Int32 × St) (hF : F_X6_endsLine N S = some R) : Go l (d + 2) mX6_endsLine (Res (some (.int R.1)) R.2) 0 [(0, .ref 4)] [] S := by
  unfold F_X6_endsLine at hF
  refine Go.aload_n dX6_endsLine_0 rfl ?_
  refine Go.getI dX6_endsLine_1 fX6_30 rfl ?_
  refine Go.ifle (tgt := 9) dX6_endsLine_4 (by decide) (fun h_4 => ?_) (fun h_4 => ?_)
  · have hF := ite_t h_4 hF
    refine Go.aload_n dX6_endsLine_9 rfl ?_
    refine Go.iconst (v := 1) dX6_endsLine_10 (by decide) ?_
    obtain ⟨r_11, hc_11, hF⟩ := Option.bind_eq_some_iff.mp hF
    refine Go.callV [_] dX6_endsLine_11 kX6_settle vX6_settle lX6_92 rfl rfl rfl rfl rfl (Nat.le_of_ble_eq_true rfl) (Nat.le_of_ble_eq_true rfl) (ok_X6_settle (d + 0) N _ _ _ hc_11) ?_
    refine Go.aload_n dX6_endsLine_14 rfl ?_
    refine Go.bipush (v := (-59)) dX6_endsLine_15 (by decide) ?_
    obtain ⟨r_17, hc_17, hF⟩ := Option.bind_eq_some_iff.mp hF
    refine Go.callV [_] dX6_endsLine_17 kX6_addStep vX6_addStep lX6_70 rfl rfl rfl rfl rfl (Nat.le_of_ble_eq_true rfl) (Nat.le_of_ble_eq_true rfl) (ok_X6_addStep (d + 1) _ _ _ hc_17) ?_
    refine Go.aload_n dX6_endsLine_20 rfl ?_
    refine Go.iconst (v := 0) dX6_endsLine_21 (by decide) ?_
    refine Go.putG dX6_endsLine_22 fX6_40 rfl rfl rfl ?_
    refine Go.aload_n dX6_endsLine_25 rfl ?_
    refine Go.iconst (v := 1) dX6_endsLine_26 (by decide) ?_
    refine Go.putG dX6_endsLine_27 fX6_36 rfl rfl rfl ?_
    refine Go.iconst (v := 1) dX6_endsLine_30 (by decide) ?_
    obtain rfl := Option.some.inj hF
    exact Go.iret (st := []) dX6_endsLine_31 rfl rfl ⟨rfl, rfl⟩
  · have hF := ite_f h_4 hF
    refine Go.iconst (v := 0) dX6_endsLine_7 (by decide) ?_
    obtain rfl := Option.some.inj hF
    exact Go.iret (st := []) dX6_endsLine_8 rfl rfl ⟨rfl, rfl⟩
def F_X6_joins_30 (N : Nat) (x1 : Int32) (x2 : Int32) (y1 : Int32) (S : St) : Option (Int32 × St) :=
  (F_X6_settle N y1 S).bind (fun r_30 => if x2 = 3 then (if (r_30.1 4 3) ≤ 0 then ((F_X6_addWaiting x1 r_30).bind (fun r_67 => let S72 := fset r_67 4 7 1; some (1, S72))) else (gd (inb ((r_30.1 4 3) - 1) 120) ((F_X6_strengthOf (r_30.2.1 35 (Int32.toNatClampNeg ((r_30.1 4 3) - 1))) r_30).bind (fun r_56 => if r_56.1 = 3 then (some (0, r_56.2)) else ((F_X6_addWaiting x1 r_56.2).bind (fun r_67 => let S72 := fset r_67 4 7 1; some (1, S72))))))) else ((F_X6_addWaiting x1 r_30).bind (fun r_67 => let S72 := fset r_67 4 7 1; some (1, S72))))
set_option maxHeartbeats 4000000 in
set_option maxRecDepth 100000 in
theorem ok_X6_joins_30 {l : Launch} (d : Nat) (N : Nat) (x1 : Int32) (x2 : Int32) (y1 : Int32) (S : St) (R : Int32 × St) (hF : F_X6_joins_30 N x1 x2 y1 S = some R) : Go l (d + 2) mX6_joins (Res (some (.int R.1)) R.2) 30 [(0, .ref 4), (1, .int x1), (2, .int x2)] [.int y1, .ref 4] S := by
  unfold F_X6_joins_30 at hF
  obtain ⟨r_30, hc_30, hF⟩ := Option.bind_eq_some_iff.mp hF
  refine Go.callV [_] dX6_joins_30 kX6_settle vX6_settle lX6_92 rfl rfl rfl rfl rfl (Nat.le_of_ble_eq_true rfl) (Nat.le_of_ble_eq_true rfl) (ok_X6_settle (d + 0) N _ _ _ hc_30) ?_
  refine Go.iload_n dX6_joins_33 rfl ?_
  refine Go.iconst (v := 3) dX6_joins_34 (by decide) ?_
  refine Go.icmpne (tgt := 65) dX6_joins_35 (by decide) (fun h_35 => ?_) (fun h_35 => ?_)
  · have hF := ite_f h_35 hF
    refine Go.aload_n dX6_joins_65 rfl ?_
    refine Go.iload_n dX6_joins_66 rfl ?_
    obtain ⟨r_67, hc_67, hF⟩ := Option.bind_eq_some_iff.mp hF
    refine Go.callV [_] dX6_joins_67 kX6_addWaiting vX6_addWaiting lX6_77 rfl rfl rfl rfl rfl (Nat.le_of_ble_eq_true rfl) (Nat.le_of_ble_eq_true rfl) (ok_X6_addWaiting (d + 1) _ _ _ hc_67) ?_
    refine Go.aload_n dX6_joins_70 rfl ?_
    refine Go.iconst (v := 1) dX6_joins_71 (by decide) ?_
    refine Go.putG dX6_joins_72 fX6_36 rfl rfl rfl ?_
    refine Go.iconst (v := 1) dX6_joins_75 (by decide) ?_
    obtain rfl := Option.some.inj hF
    exact Go.iret (st := []) dX6_joins_76 rfl rfl ⟨rfl, rfl⟩
  · have hF := ite_t h_35 hF
    refine Go.aload_n dX6_joins_38 rfl ?_
    refine Go.getI dX6_joins_39 fX6_24 rfl ?_
    refine Go.ifle (tgt := 65) dX6_joins_42 (by decide) (fun h_42 => ?_) (fun h_42 => ?_)
    · have hF := ite_t h_42 hF
      refine Go.aload_n dX6_joins_65 rfl ?_
      refine Go.iload_n dX6_joins_66 rfl ?_
      obtain ⟨r_67, hc_67, hF⟩ := Option.bind_eq_some_iff.mp hF
      refine Go.callV [_] dX6_joins_67 kX6_addWaiting vX6_addWaiting lX6_77 rfl rfl rfl rfl rfl (Nat.le_of_ble_eq_true rfl) (Nat.le_of_ble_eq_true rfl) (ok_X6_addWaiting (d + 1) _ _ _ hc_67) ?_
      refine Go.aload_n dX6_joins_70 rfl ?_
      refine Go.iconst (v := 1) dX6_joins_71 (by decide) ?_
      refine Go.putG dX6_joins_72 fX6_36 rfl rfl rfl ?_
      refine Go.iconst (v := 1) dX6_joins_75 (by decide) ?_
      obtain rfl := Option.some.inj hF
      exact Go.iret (st := []) dX6_joins_76 rfl rfl ⟨rfl, rfl⟩
    · have hF := ite_f h_42 hF
      refine Go.aload_n dX6_joins_45 rfl ?_
      refine Go.getR dX6_joins_46 fX6_21 rfl ?_
      refine Go.aload_n dX6_joins_49 rfl ?_
      refine Go.getI dX6_joins_50 fX6_24 rfl ?_
      refine Go.iconst (v := 1) dX6_joins_53 (by decide) ?_
      refine Go.isub dX6_joins_54 ?_
      obtain ⟨hb_55, hF⟩ := gd_some hF
      refine Go.iald dX6_joins_55 rfl (inb_ok hb_55) ?_
      obtain ⟨r_56, hc_56, hF⟩ := Option.bind_eq_some_iff.mp hF
      refine Go.callS [_] dX6_joins_56 kX6_strengthOf sX6_strengthOf lX6_95 rfl rfl (Nat.le_of_ble_eq_true rfl) (Nat.le_of_ble_eq_true rfl) (ok_X6_strengthOf (d + 1) _ _ _ hc_56) ?_
      refine Go.iconst (v := 3) dX6_joins_59 (by decide) ?_
      refine Go.icmpne (tgt := 65) dX6_joins_60 (by decide) (fun h_60 => ?_) (fun h_60 => ?_)
      · have hF := ite_f h_60 hF
        refine Go.aload_n dX6_joins_65 rfl ?_
        refine Go.iload_n dX6_joins_66 rfl ?_
        obtain ⟨r_67, hc_67, hF⟩ := Option.bind_eq_some_iff.mp hF
        refine Go.callV [_] dX6_joins_67 kX6_addWaiting vX6_addWaiting lX6_77 rfl rfl rfl rfl rfl (Nat.le_of_ble_eq_true rfl) (Nat.le_of_ble_eq_true rfl) (ok_X6_addWaiting (d + 1) _ _ _ hc_67) ?_
        refine Go.aload_n dX6_joins_70 rfl ?_
        refine Go.iconst (v := 1) dX6_joins_71 (by decide) ?_
        refine Go.putG dX6_joins_72 fX6_36 rfl rfl rfl ?_
        refine Go.iconst (v := 1) dX6_joins_75 (by decide) ?_
        obtain rfl := Option.some.inj hF
        exact Go.iret (st := []) dX6_joins_76 rfl rfl ⟨rfl, rfl⟩
      · have hF := ite_t h_60 hF
        refine Go.iconst (v := 0) dX6_joins_63 (by decide) ?_
        obtain rfl := Option.some.inj hF
        exact Go.iret (st := []) dX6_joins_64 rfl rfl ⟨rfl, rfl⟩
def F_X6_joins (N : Nat) (x1 : Int32) (S : St) : Option (Int32 × St) :=
  (F_X6_strengthOf x1 S).bind (fun r_1 => if r_1.1 = 0 then (some (0, r_1.2)) else (if r_1.1 = 6 then (some (0, r_1.2)) else (if r_1.1 = 3 then (F_X6_joins_30 N x1 r_1.1 (r_1.1 + 1) r_1.2) else (F_X6_joins_30 N x1 r_1.1 r_1.1 r_1.2))))
set_option maxHeartbeats 4000000 in
set_option maxRecDepth 100000 in
theorem ok_X6_joins {l : Launch} (d : Nat) (N : Nat) (x1 : Int32) (S : St) (R : Int32 × St) (hF : F_X6_joins N x1 S = some R) : Go l (d + 2) mX6_joins (Res (some (.int R.1)) R.2) 0 [(0, .ref 4), (1, .int x1)] [] S := by
  unfold F_X6_joins at hF
  refine Go.iload_n dX6_joins_0 rfl ?_
  obtain ⟨r_1, hc_1, hF⟩ := Option.bind_eq_some_iff.mp hF
  refine Go.callS [_] dX6_joins_1 kX6_strengthOf sX6_strengthOf lX6_95 rfl rfl (Nat.le_of_ble_eq_true rfl) (Nat.le_of_ble_eq_true rfl) (ok_X6_strengthOf (d + 1) _ _ _ hc_1) ?_
  refine Go.istore_n (ls' := [(2, _), (0, _), (1, _)]) dX6_joins_4 (by decide) rfl ?_
  refine Go.iload_n dX6_joins_5 rfl ?_
  refine Go.ifeq (tgt := 15) dX6_joins_6 (by decide) (fun h_6 => ?_) (fun h_6 => ?_)
  · have hF := ite_t h_6 hF
    refine Go.iconst (v := 0) dX6_joins_15 (by decide) ?_
    obtain rfl := Option.some.inj hF
    exact Go.iret (st := []) dX6_joins_16 rfl rfl ⟨rfl, rfl⟩
  · have hF := ite_f h_6 hF
    refine Go.iload_n dX6_joins_9 rfl ?_
    refine Go.bipush (v := 6) dX6_joins_10 (by decide) ?_
    refine Go.icmpne (tgt := 17) dX6_joins_12 (by decide) (fun h_12 => ?_) (fun h_12 => ?_)
    · have hF := ite_f h_12 hF
      refine Go.aload_n dX6_joins_17 rfl ?_
      refine Go.iload_n dX6_joins_18 rfl ?_
      refine Go.iconst (v := 3) dX6_joins_19 (by decide) ?_
      refine Go.icmpne (tgt := 29) dX6_joins_20 (by decide) (fun h_20 => ?_) (fun h_20 => ?_)
      · have hF := ite_f h_20 hF
        refine Go.iload_n dX6_joins_29 rfl ?_
        refine Go.pick (ls' := [(0, _), (1, _), (2, _)]) [1, 2, 0] rfl ?_
        exact ok_X6_joins_30 d N _ _ _ _ _ hF
      · have hF := ite_t h_20 hF
        refine Go.iload_n dX6_joins_23 rfl ?_
        refine Go.iconst (v := 1) dX6_joins_24 (by decide) ?_
        refine Go.iadd dX6_joins_25 ?_
        refine Go.goto (tgt := 30) dX6_joins_26 (by decide) ?_
        refine Go.pick (ls' := [(0, _), (1, _), (2, _)]) [1, 2, 0] rfl ?_
        exact ok_X6_joins_30 d N _ _ _ _ _ hF
    · have hF := ite_t h_12 hF
      refine Go.iconst (v := 0) dX6_joins_15 (by decide) ?_
      obtain rfl := Option.some.inj hF
      exact Go.iret (st := []) dX6_joins_16 rfl rfl ⟨rfl, rfl⟩
def F_X6_followsOperand (N : Nat) (x1 : Int32) (S : St) : Option (Int32 × St) :=
  (F_X6_isDigit x1 S).bind (fun r_1 => if r_1.1 = 0 then (let S18 := fset r_1.2 4 6 0; if x1 = 41 then ((F_X6_closesBracket N S18).bind (fun r_28 => gd (decide (r_28.1 = 0 ∨ r_28.1 = 1)) (some (r_28.1, r_28.2)))) else (if x1 = 63 then ((F_X6_endsCondition N S18).bind (fun r_39 => gd (decide (r_39.1 = 0 ∨ r_39.1 = 1)) (some (r_39.1, r_39.2)))) else (if x1 = 59 then ((F_X6_endsLine N S18).bind (fun r_50 => gd (decide (r_50.1 = 0 ∨ r_50.1 = 1)) (some (r_50.1, r_50.2)))) else ((F_X6_joins N x1 S18).bind (fun r_58 => gd (decide (r_58.1 = 0 ∨ r_58.1 = 1)) (some (r_58.1, r_58.2))))))) else ((F_X6_addDigit (x1 - 48) r_1.2).bind (fun r_12 => gd (decide (r_12.1 = 0 ∨ r_12.1 = 1)) (some (r_12.1, r_12.2)))))
set_option maxHeartbeats 4000000 in
set_option maxRecDepth 100000 in
theorem ok_X6_followsOperand {l : Launch} (d : Nat) (N : Nat) (x1 : Int32) (S : St) (R : Int32 × St) (hF : F_X6_followsOperand N x1 S = some R) : Go l (d + 3) mX6_followsOperand (Res (some (.int R.1)) R.2) 0 [(0, .ref 4), (1, .int x1)] [] S := by
  unfold F_X6_followsOperand at hF
  refine Go.iload_n dX6_followsOperand_0 rfl ?_
  obtain ⟨r_1, hc_1, hF⟩ := Option.bind_eq_some_iff.mp hF
  refine Go.callS [_] dX6_followsOperand_1 kX6_isDigit sX6_isDigit lX6_67 rfl rfl (Nat.le_of_ble_eq_true rfl) (Nat.le_of_ble_eq_true rfl) (ok_X6_isDigit (d + 2) _ _ _ hc_1) ?_
  refine Go.ifeq (tgt := 16) dX6_followsOperand_4 (by decide) (fun h_4 => ?_) (fun h_4 => ?_)
  · have hF := ite_t h_4 hF
    refine Go.aload_n dX6_followsOperand_16 rfl ?_
    refine Go.iconst (v := 0) dX6_followsOperand_17 (by decide) ?_
    refine Go.putI dX6_followsOperand_18 fX6_33 rfl ?_
    refine Go.iload_n dX6_followsOperand_21 rfl ?_
    refine Go.bipush (v := 41) dX6_followsOperand_22 (by decide) ?_
    refine Go.icmpne (tgt := 32) dX6_followsOperand_24 (by decide) (fun h_24 => ?_) (fun h_24 => ?_)
    · have hF := ite_f h_24 hF
      refine Go.iload_n dX6_followsOperand_32 rfl ?_
      refine Go.bipush (v := 63) dX6_followsOperand_33 (by decide) ?_
      refine Go.icmpne (tgt := 43) dX6_followsOperand_35 (by decide) (fun h_35 => ?_) (fun h_35 => ?_)
      · have hF := ite_f h_35 hF
        refine Go.iload_n dX6_followsOperand_43 rfl ?_
        refine Go.bipush (v := 59) dX6_followsOperand_44 (by decide) ?_
        refine Go.icmpne (tgt := 56) dX6_followsOperand_46 (by decide) (fun h_46 => ?_) (fun h_46 => ?_)
        · have hF := ite_f h_46 hF
          refine Go.aload_n dX6_followsOperand_56 rfl ?_
          refine Go.iload_n dX6_followsOperand_57 rfl ?_
          obtain ⟨r_58, hc_58, hF⟩ := Option.bind_eq_some_iff.mp hF
          refine Go.callV [_] dX6_followsOperand_58 kX6_joins vX6_joins lX6_89 rfl rfl rfl rfl rfl (Nat.le_of_ble_eq_true rfl) (Nat.le_of_ble_eq_true rfl) (ok_X6_joins (d + 0) N _ _ _ hc_58) ?_
          obtain ⟨hb_61, hF⟩ := gd_some hF
          obtain rfl := Option.some.inj hF
          exact Go.iret (st := []) dX6_followsOperand_61 rfl (nar01 (of_decide_eq_true hb_61)) ⟨rfl, rfl⟩
        · have hF := ite_t h_46 hF
          refine Go.aload_n dX6_followsOperand_49 rfl ?_
          obtain ⟨r_50, hc_50, hF⟩ := Option.bind_eq_some_iff.mp hF
          refine Go.callV [] dX6_followsOperand_50 kX6_endsLine vX6_endsLine lX6_53 rfl rfl rfl rfl rfl (Nat.le_of_ble_eq_true rfl) (Nat.le_of_ble_eq_true rfl) (ok_X6_endsLine (d + 0) N _ _ hc_50) ?_
          refine Go.goto (tgt := 61) dX6_followsOperand_53 (by decide) ?_
          obtain ⟨hb_61, hF⟩ := gd_some hF
          obtain rfl := Option.some.inj hF
          exact Go.iret (st := []) dX6_followsOperand_61 rfl (nar01 (of_decide_eq_true hb_61)) ⟨rfl, rfl⟩
      · have hF := ite_t h_35 hF
        refine Go.aload_n dX6_followsOperand_38 rfl ?_
        obtain ⟨r_39, hc_39, hF⟩ := Option.bind_eq_some_iff.mp hF
        refine Go.callV [] dX6_followsOperand_39 kX6_endsCondition vX6_endsCondition lX6_86 rfl rfl rfl rfl rfl (Nat.le_of_ble_eq_true rfl) (Nat.le_of_ble_eq_true rfl) (ok_X6_endsCondition (d + 0) N _ _ hc_39) ?_
        obtain ⟨hb_42, hF⟩ := gd_some hF
        obtain rfl := Option.some.inj hF
        exact Go.iret (st := []) dX6_followsOperand_42 rfl (nar01 (of_decide_eq_true hb_42)) ⟨rfl, rfl⟩
    · have hF := ite_t h_24 hF
      refine Go.aload_n dX6_followsOperand_27 rfl ?_
      obtain ⟨r_28, hc_28, hF⟩ := Option.bind_eq_some_iff.mp hF
      refine Go.callV [] dX6_followsOperand_28 kX6_closesBracket vX6_closesBracket lX6_83 rfl rfl rfl rfl rfl (Nat.le_of_ble_eq_true rfl) (Nat.le_of_ble_eq_true rfl) (ok_X6_closesBracket (d + 0) N _ _ hc_28) ?_
      obtain ⟨hb_31, hF⟩ := gd_some hF
      obtain rfl := Option.some.inj hF
      exact Go.iret (st := []) dX6_followsOperand_31 rfl (nar01 (of_decide_eq_true hb_31)) ⟨rfl, rfl⟩
  · have hF := ite_f h_4 hF
    refine Go.aload_n dX6_followsOperand_7 rfl ?_
    refine Go.iload_n dX6_followsOperand_8 rfl ?_
    refine Go.bipush (v := 48) dX6_followsOperand_9 (by decide) ?_
    refine Go.isub dX6_followsOperand_11 ?_
    obtain ⟨r_12, hc_12, hF⟩ := Option.bind_eq_some_iff.mp hF
    refine Go.callV [_] dX6_followsOperand_12 kX6_addDigit vX6_addDigit lX6_80 rfl rfl rfl rfl rfl (Nat.le_of_ble_eq_true rfl) (Nat.le_of_ble_eq_true rfl) (ok_X6_addDigit (d + 2) _ _ _ hc_12) ?_
    obtain ⟨hb_15, hF⟩ := gd_some hF
    obtain rfl := Option.some.inj hF
    exact Go.iret (st := []) dX6_followsOperand_15 rfl (nar01 (of_decide_eq_true hb_15)) ⟨rfl, rfl⟩
def F_X6_faultOf_6 (N : Nat) : Nat → Int32 → Int32 → St → Option (Int32 × St)
  | 0 => fun _ _ _ => none
  | n + 1 => fun x2 x3 S =>
    if x2 ≤ x3 then (if (S.1 4 7) = 0 then ((F_X6_endsLine N S).bind (fun r_58 => if r_58.1 = 0 then (some (x2, r_58.2)) else (some ((-1), r_58.2)))) else (some (x2, S))) else (if (S.1 4 7) = 0 then (gd (inb x3 120) ((F_X6_followsOperand N (S.2.1 20 (Int32.toNatClampNeg x3)) S).bind (fun r_32 => if r_32.1 = 0 then (some (x3, r_32.2)) else ((F_X6_faultOf_6 N n) x2 (x3 + 1) r_32.2)))) else (gd (inb x3 120) ((F_X6_beginsOperand (S.2.1 20 (Int32.toNatClampNeg x3)) S).bind (fun r_22 => if r_22.1 = 0 then (some (x3, r_22.2)) else ((F_X6_faultOf_6 N n) x2 (x3 + 1) r_22.2)))))
set_option maxHeartbeats 4000000 in
set_option maxRecDepth 100000 in
theorem ok_X6_faultOf_6 {l : Launch} (d : Nat) (N : Nat) : ∀ (n : Nat) (x2 : Int32) (x3 : Int32) (S : St) (R : Int32 × St), F_X6_faultOf_6 N n x2 x3 S = some R → Go l (d + 4) mX6_faultOf (Res (some (.int R.1)) R.2) 6 [(0, .ref 4), (1, .ref 20), (2, .int x2), (3, .int x3)] [] S := by
  intro n
  induction n with
  | zero => intro x2 x3 S  R hF; cases hF
  | succ n hk6 =>
    intro x2 x3 S  R hF
    have hF : (if x2 ≤ x3 then (if (S.1 4 7) = 0 then ((F_X6_endsLine N S).bind (fun r_58 => if r_58.1 = 0 then (some (x2, r_58.2)) else (some ((-1), r_58.2)))) else (some (x2, S))) else (if (S.1 4 7) = 0 then (gd (inb x3 120) ((F_X6_followsOperand N (S.2.1 20 (Int32.toNatClampNeg x3)) S).bind (fun r_32 => if r_32.1 = 0 then (some (x3, r_32.2)) else ((F_X6_faultOf_6 N n) x2 (x3 + 1) r_32.2)))) else (gd (inb x3 120) ((F_X6_beginsOperand (S.2.1 20 (Int32.toNatClampNeg x3)) S).bind (fun r_22 => if r_22.1 = 0 then (some (x3, r_22.2)) else ((F_X6_faultOf_6 N n) x2 (x3 + 1) r_22.2)))))) = some R := hF
    refine Go.iload_n dX6_faultOf_6 rfl ?_
    refine Go.iload_n dX6_faultOf_7 rfl ?_
    refine Go.icmpge (tgt := 50) dX6_faultOf_8 (by decide) (fun h_8 => ?_) (fun h_8 => ?_)
    · have hF := ite_t h_8 hF
      refine Go.aload_n dX6_faultOf_50 rfl ?_
      refine Go.getI dX6_faultOf_51 fX6_36 rfl ?_
      refine Go.ifne (tgt := 68) dX6_faultOf_54 (by decide) (fun h_54 => ?_) (fun h_54 => ?_)
      · have hF := ite_f h_54 hF
        refine Go.iload_n dX6_faultOf_68 rfl ?_
        obtain rfl := Option.some.inj hF
        exact Go.iret (st := []) dX6_faultOf_69 rfl rfl ⟨rfl, rfl⟩
      · have hF := ite_t h_54 hF
        refine Go.aload_n dX6_faultOf_57 rfl ?_
        obtain ⟨r_58, hc_58, hF⟩ := Option.bind_eq_some_iff.mp hF
        refine Go.callV [] dX6_faultOf_58 kX6_endsLine vX6_endsLine lX6_53 rfl rfl rfl rfl rfl (Nat.le_of_ble_eq_true rfl) (Nat.le_of_ble_eq_true rfl) (ok_X6_endsLine (d + 1) N _ _ hc_58) ?_
        refine Go.ifeq (tgt := 68) dX6_faultOf_61 (by decide) (fun h_61 => ?_) (fun h_61 => ?_)
        · have hF := ite_t h_61 hF
          refine Go.iload_n dX6_faultOf_68 rfl ?_
          obtain rfl := Option.some.inj hF
          exact Go.iret (st := []) dX6_faultOf_69 rfl rfl ⟨rfl, rfl⟩
        · have hF := ite_f h_61 hF
          refine Go.iconst (v := (-1)) dX6_faultOf_64 (by decide) ?_
          refine Go.goto (tgt := 69) dX6_faultOf_65 (by decide) ?_
          obtain rfl := Option.some.inj hF
          exact Go.iret (st := []) dX6_faultOf_69 rfl rfl ⟨rfl, rfl⟩
    · have hF := ite_f h_8 hF
      refine Go.aload_n dX6_faultOf_11 rfl ?_
      refine Go.getI dX6_faultOf_12 fX6_36 rfl ?_
      refine Go.ifeq (tgt := 28) dX6_faultOf_15 (by decide) (fun h_15 => ?_) (fun h_15 => ?_)
      · have hF := ite_t h_15 hF
        refine Go.aload_n dX6_faultOf_28 rfl ?_
        refine Go.aload_n dX6_faultOf_29 rfl ?_
        refine Go.iload_n dX6_faultOf_30 rfl ?_
        obtain ⟨hb_31, hF⟩ := gd_some hF
        refine Go.iald dX6_faultOf_31 rfl (inb_ok hb_31) ?_
        obtain ⟨r_32, hc_32, hF⟩ := Option.bind_eq_some_iff.mp hF
        refine Go.callV [_] dX6_faultOf_32 kX6_followsOperand vX6_followsOperand lX6_50 rfl rfl rfl rfl rfl (Nat.le_of_ble_eq_true rfl) (Nat.le_of_ble_eq_true rfl) (ok_X6_followsOperand (d + 0) N _ _ _ hc_32) ?_
        refine Go.istore (ls' := [(4, _), (0, _), (1, _), (2, _), (3, _)]) dX6_faultOf_35 (by decide) rfl ?_
        refine Go.iload dX6_faultOf_37 rfl ?_
        refine Go.ifne (tgt := 44) dX6_faultOf_39 (by decide) (fun h_39 => ?_) (fun h_39 => ?_)
        · have hF := ite_f h_39 hF
          refine Go.iincP (ls' := [(3, _), (4, _), (0, _), (1, _), (2, _)]) dX6_faultOf_44 rfl (by decide) rfl ?_
          refine Go.goto (tgt := 6) dX6_faultOf_47 (by decide) ?_
          refine Go.pick (ls' := [(0, _), (1, _), (2, _), (3, _)]) [2, 3, 4, 0] rfl ?_
          exact hk6 _ _ _ _ hF
        · have hF := ite_t h_39 hF
          refine Go.iload_n dX6_faultOf_42 rfl ?_
          obtain rfl := Option.some.inj hF
          exact Go.iret (st := []) dX6_faultOf_43 rfl rfl ⟨rfl, rfl⟩
      · have hF := ite_f h_15 hF
        refine Go.aload_n dX6_faultOf_18 rfl ?_
        refine Go.aload_n dX6_faultOf_19 rfl ?_
        refine Go.iload_n dX6_faultOf_20 rfl ?_
        obtain ⟨hb_21, hF⟩ := gd_some hF
        refine Go.iald dX6_faultOf_21 rfl (inb_ok hb_21) ?_
        obtain ⟨r_22, hc_22, hF⟩ := Option.bind_eq_some_iff.mp hF
        refine Go.callV [_] dX6_faultOf_22 kX6_beginsOperand vX6_beginsOperand lX6_46 rfl rfl rfl rfl rfl (Nat.le_of_ble_eq_true rfl) (Nat.le_of_ble_eq_true rfl) (ok_X6_beginsOperand (d + 2) _ _ _ hc_22) ?_
        refine Go.goto (tgt := 35) dX6_faultOf_25 (by decide) ?_
        refine Go.istore (ls' := [(4, _), (0, _), (1, _), (2, _), (3, _)]) dX6_faultOf_35 (by decide) rfl ?_
        refine Go.iload dX6_faultOf_37 rfl ?_
        refine Go.ifne (tgt := 44) dX6_faultOf_39 (by decide) (fun h_39 => ?_) (fun h_39 => ?_)
        · have hF := ite_f h_39 hF
          refine Go.iincP (ls' := [(3, _), (4, _), (0, _), (1, _), (2, _)]) dX6_faultOf_44 rfl (by decide) rfl ?_
          refine Go.goto (tgt := 6) dX6_faultOf_47 (by decide) ?_
          refine Go.pick (ls' := [(0, _), (1, _), (2, _), (3, _)]) [2, 3, 4, 0] rfl ?_
          exact hk6 _ _ _ _ hF
        · have hF := ite_t h_39 hF
          refine Go.iload_n dX6_faultOf_42 rfl ?_
          obtain rfl := Option.some.inj hF
          exact Go.iret (st := []) dX6_faultOf_43 rfl rfl ⟨rfl, rfl⟩
def F_X6_faultOf (N : Nat) (x2 : Int32) (S : St) : Option (Int32 × St) :=
  (F_X6_clear S).bind (fun r_1 => F_X6_faultOf_6 N N x2 0 r_1)
set_option maxHeartbeats 4000000 in
set_option maxRecDepth 100000 in
theorem ok_X6_faultOf {l : Launch} (d : Nat) (N : Nat) (x2 : Int32) (S : St) (R : Int32 × St) (hF : F_X6_faultOf N x2 S = some R) : Go l (d + 4) mX6_faultOf (Res (some (.int R.1)) R.2) 0 [(0, .ref 4), (1, .ref 20), (2, .int x2)] [] S := by
  unfold F_X6_faultOf at hF
  refine Go.aload_n dX6_faultOf_0 rfl ?_
  obtain ⟨r_1, hc_1, hF⟩ := Option.bind_eq_some_iff.mp hF
  refine Go.callV [] dX6_faultOf_1 kX6_clear vX6_clear lX6_43 rfl rfl rfl rfl rfl (Nat.le_of_ble_eq_true rfl) (Nat.le_of_ble_eq_true rfl) (ok_X6_clear (d + 3) _ _ hc_1) ?_
  refine Go.iconst (v := 0) dX6_faultOf_4 (by decide) ?_
  refine Go.istore_n (ls' := [(3, _), (0, _), (1, _), (2, _)]) dX6_faultOf_5 (by decide) rfl ?_
  refine Go.pick (ls' := [(0, _), (1, _), (2, _), (3, _)]) [1, 2, 3, 0] rfl ?_
  exact ok_X6_faultOf_6 d N N _ _ _ _ hF
def F_X6_handTo (b1 : Nat) (S : St) : Option (St) :=
  gd (cpok (0 : Int32) (0 : Int32) (S.1 4 1) 121 121) (let S14 := aset S (30 + b1) (va_cpy (S.2.1 34) (S.2.1 (30 + b1)) (Int32.toNatClampNeg (0 : Int32)) (Int32.toNatClampNeg (0 : Int32)) (Int32.toNatClampNeg (S.1 4 1))); let S22 := fset S14 (2 + b1) 1 (S14.1 4 1); some S22)
set_option maxHeartbeats 4000000 in
set_option maxRecDepth 100000 in
theorem ok_X6_handTo {l : Launch} (d : Nat) (b1 : Nat) (S : St) (hb1 : b1 < 2) (R : St) (hF : F_X6_handTo b1 S = some R) : Go l (d + 1) mX6_handTo (Res none R) 0 [(0, .ref 4), (1, .ref (2 + b1))] [] S := by
  unfold F_X6_handTo at hF
  refine Go.aload_n dX6_handTo_0 rfl ?_
  refine Go.getR dX6_handTo_1 fX6_11 rfl ?_
  refine Go.iconst (v := 0) dX6_handTo_4 (by decide) ?_
  refine Go.aload_n dX6_handTo_5 rfl ?_
  refine Go.getR dX6_handTo_6 fX6_57 (sl_X5_0 hb1) ?_
  refine Go.iconst (v := 0) dX6_handTo_9 (by decide) ?_
  refine Go.aload_n dX6_handTo_10 rfl ?_
  refine Go.getI dX6_handTo_11 fX6_17 rfl ?_
  obtain ⟨hb_14, hF⟩ := gd_some hF
  obtain ⟨hc1, hc2, hc3, hc4, hc5⟩ := cpok_ok hb_14
  refine Go.copyi dX6_handTo_14 lX6_60 ac_st ac_nt in_J10 rfl (ar_30 hb1) hc1 hc2 hc3 hc4 hc5 (Nat.le_of_ble_eq_true rfl) ?_
  refine Go.aload_n dX6_handTo_17 rfl ?_
  refine Go.aload_n dX6_handTo_18 rfl ?_
  refine Go.getI dX6_handTo_19 fX6_17 rfl ?_
  refine Go.putI dX6_handTo_22 fX6_66 (sl_X5_1 hb1) ?_
  obtain rfl := Option.some.inj hF
  exact Go.vret (st := []) dX6_handTo_25 rfl ⟨rfl, rfl⟩
def F_X8_knows (N : Nat) (x1 : Int32) (S : St) : Option (Int32 × St) :=
  gd (inb x1 20) ((F_X5_isTold 0 S).bind (fun r_11 => if r_11.1 = 0 then (some (if (0 : Int32) < (if ((S.2.1 27 (Int32.toNatClampNeg x1)) - (3 * (r_11.2.1 1 11))) < (100 : Int32) then (S.2.1 27 (Int32.toNatClampNeg x1)) - (3 * (r_11.2.1 1 11)) else 100) then if ((S.2.1 27 (Int32.toNatClampNeg x1)) - (3 * (r_11.2.1 1 11))) < (100 : Int32) then (S.2.1 27 (Int32.toNatClampNeg x1)) - (3 * (r_11.2.1 1 11)) else 100 else 0, r_11.2)) else ((F_X5_worth N 0 x1 (S.2.1 27 (Int32.toNatClampNeg x1)) r_11.2).bind (fun r_24 => some (if (0 : Int32) < (if r_24.1 < (100 : Int32) then r_24.1 else 100) then if r_24.1 < (100 : Int32) then r_24.1 else 100 else 0, r_24.2)))))
set_option maxHeartbeats 4000000 in
set_option maxRecDepth 100000 in
theorem ok_X8_knows {l : Launch} (d : Nat) (N : Nat) (x1 : Int32) (S : St) (R : Int32 × St) (hF : F_X8_knows N x1 S = some R) : Go l (d + 4) mX8_knows (Res (some (.int R.1)) R.2) 0 [(0, .ref 1), (1, .int x1)] [] S := by
  unfold F_X8_knows at hF
  refine Go.aload_n dX8_knows_0 rfl ?_
  refine Go.getR dX8_knows_1 fX8_34 rfl ?_
  refine Go.iload_n dX8_knows_4 rfl ?_
  obtain ⟨hb_5, hF⟩ := gd_some hF
  refine Go.iald dX8_knows_5 rfl (inb_ok hb_5) ?_
  refine Go.istore_n (ls' := [(2, _), (0, _), (1, _)]) dX8_knows_6 (by decide) rfl ?_
  refine Go.aload_n dX8_knows_7 rfl ?_
  refine Go.getR dX8_knows_8 fX8_52 rfl ?_
  obtain ⟨r_11, hc_11, hF⟩ := Option.bind_eq_some_iff.mp hF
  refine Go.callV [] dX8_knows_11 kX5_isTold vX5_isTold lX8_84 rfl rfl rfl rfl rfl (Nat.le_of_ble_eq_true rfl) (Nat.le_of_ble_eq_true rfl) (ok_X5_isTold (d + 3) _ _ (by decide) _ hc_11) ?_
  refine Go.ifeq (tgt := 30) dX8_knows_14 (by decide) (fun h_14 => ?_) (fun h_14 => ?_)
  · have hF := ite_t h_14 hF
    refine Go.iload_n dX8_knows_30 rfl ?_
    refine Go.iconst (v := 3) dX8_knows_31 (by decide) ?_
    refine Go.aload_n dX8_knows_32 rfl ?_
    refine Go.getI dX8_knows_33 fX8_46 rfl ?_
    refine Go.imul dX8_knows_36 ?_
    refine Go.isub dX8_knows_37 ?_
    refine Go.istore_n (ls' := [(3, _), (2, _), (0, _), (1, _)]) dX8_knows_38 (by decide) rfl ?_
    refine Go.iconst (v := 0) dX8_knows_39 (by decide) ?_
    refine Go.bipush (v := 100) dX8_knows_40 (by decide) ?_
    refine Go.iload_n dX8_knows_42 rfl ?_
    refine Go.mmin dX8_knows_43 lX8_92 (Nat.le_of_ble_eq_true rfl) ?_
    refine Go.mmax dX8_knows_46 lX8_97 (Nat.le_of_ble_eq_true rfl) ?_
    obtain rfl := Option.some.inj hF
    exact Go.iret (st := []) dX8_knows_49 rfl rfl ⟨rfl, rfl⟩
  · have hF := ite_f h_14 hF
    refine Go.aload_n dX8_knows_17 rfl ?_
    refine Go.getR dX8_knows_18 fX8_52 rfl ?_
    refine Go.aload_n dX8_knows_21 rfl ?_
    refine Go.iload_n dX8_knows_22 rfl ?_
    refine Go.iload_n dX8_knows_23 rfl ?_
    obtain ⟨r_24, hc_24, hF⟩ := Option.bind_eq_some_iff.mp hF
    refine Go.callV [_, _, _] dX8_knows_24 kX5_worth vX5_worth lX8_88 rfl rfl rfl rfl rfl (Nat.le_of_ble_eq_true rfl) (Nat.le_of_ble_eq_true rfl) (ok_X5_worth (d + 0) N _ _ _ _ (by decide) _ hc_24) ?_
    refine Go.goto (tgt := 38) dX8_knows_27 (by decide) ?_
    refine Go.istore_n (ls' := [(3, _), (2, _), (0, _), (1, _)]) dX8_knows_38 (by decide) rfl ?_
    refine Go.iconst (v := 0) dX8_knows_39 (by decide) ?_
    refine Go.bipush (v := 100) dX8_knows_40 (by decide) ?_
    refine Go.iload_n dX8_knows_42 rfl ?_
    refine Go.mmin dX8_knows_43 lX8_92 (Nat.le_of_ble_eq_true rfl) ?_
    refine Go.mmax dX8_knows_46 lX8_97 (Nat.le_of_ble_eq_true rfl) ?_
    obtain rfl := Option.some.inj hF
    exact Go.iret (st := []) dX8_knows_49 rfl rfl ⟨rfl, rfl⟩
def F_X7_learn_2 (N : Nat) : Nat → Nat → Int32 → St → Option (St)
  | 0 => fun _ _ _ => none
  | n + 1 => fun x0 x2 S =>
    if (S.1 1 0) ≤ x2 then (some S) else ((F_X8_knows N x2 S).bind (fun r_17 => gd (inb x2 20) (let S20 := aset r_17.2 (42 + x0) (upd (r_17.2.2.1 (42 + x0)) (Int32.toNatClampNeg x2) r_17.1); (F_X7_learn_2 N n) x0 (x2 + 1) S20)))
set_option maxHeartbeats 4000000 in
set_option maxRecDepth 100000 in
theorem ok_X7_learn_2 {l : Launch} (d : Nat) (N : Nat) : ∀ (n : Nat) (x0 : Nat) (x2 : Int32) (S : St) (hx0 : x0 < 2) (R : St), F_X7_learn_2 N n x0 x2 S = some R → Go l (d + 5) mX7_learn (Res none R) 2 [(0, .ref (5 + x0)), (1, .ref 1), (2, .int x2)] [] S := by
  intro n
  induction n with
  | zero => intro x0 x2 S hx0 R hF; cases hF
  | succ n hk2 =>
    intro x0 x2 S hx0 R hF
    have hF : (if (S.1 1 0) ≤ x2 then (some S) else ((F_X8_knows N x2 S).bind (fun r_17 => gd (inb x2 20) (let S20 := aset r_17.2 (42 + x0) (upd (r_17.2.2.1 (42 + x0)) (Int32.toNatClampNeg x2) r_17.1); (F_X7_learn_2 N n) x0 (x2 + 1) S20)))) = some R := hF
    refine Go.iload_n dX7_learn_2 rfl ?_
    refine Go.aload_n dX7_learn_3 rfl ?_
    refine Go.getI dX7_learn_4 fX7_40 rfl ?_
    refine Go.icmpge (tgt := 27) dX7_learn_7 (by decide) (fun h_7 => ?_) (fun h_7 => ?_)
    · have hF := ite_t h_7 hF
      obtain rfl := Option.some.inj hF
      exact Go.vret (st := []) dX7_learn_27 rfl ⟨rfl, rfl⟩
    · have hF := ite_f h_7 hF
      refine Go.aload_n dX7_learn_10 rfl ?_
      refine Go.getR dX7_learn_11 fX7_37 (sl_X7_8 hx0) ?_
      refine Go.iload_n dX7_learn_14 rfl ?_
      refine Go.aload_n dX7_learn_15 rfl ?_
      refine Go.iload_n dX7_learn_16 rfl ?_
      obtain ⟨r_17, hc_17, hF⟩ := Option.bind_eq_some_iff.mp hF
      refine Go.callV [_] dX7_learn_17 kX8_knows vX8_knows lX7_43 rfl rfl rfl rfl rfl (Nat.le_of_ble_eq_true rfl) (Nat.le_of_ble_eq_true rfl) (ok_X8_knows (d + 0) N _ _ _ hc_17) ?_
      obtain ⟨hb_20, hF⟩ := gd_some hF
      refine Go.iast dX7_learn_20 (ar_42 hx0) (inb_ok hb_20) ?_
      refine Go.iincP (ls' := [(2, _), (0, _), (1, _)]) dX7_learn_21 rfl (by decide) rfl ?_
      refine Go.goto (tgt := 2) dX7_learn_24 (by decide) ?_
      refine Go.pick (ls' := [(0, _), (1, _), (2, _)]) [1, 2, 0] rfl ?_
      exact hk2 _ _ _ hx0 _ hF
def F_X7_learn (N : Nat) (b : Nat) (S : St) : Option (St) :=
  F_X7_learn_2 N N b 0 S
set_option maxHeartbeats 4000000 in
set_option maxRecDepth 100000 in
theorem ok_X7_learn {l : Launch} (d : Nat) (N : Nat) (b : Nat) (S : St) (hb : b < 2) (R : St) (hF : F_X7_learn N b S = some R) : Go l (d + 5) mX7_learn (Res none R) 0 [(0, .ref (5 + b)), (1, .ref 1)] [] S := by
  unfold F_X7_learn at hF
  refine Go.iconst (v := 0) dX7_learn_0 (by decide) ?_
  refine Go.istore_n (ls' := [(2, _), (0, _), (1, _)]) dX7_learn_1 (by decide) rfl ?_
  refine Go.pick (ls' := [(0, _), (1, _), (2, _)]) [1, 2, 0] rfl ?_
  exact ok_X7_learn_2 d N N _ _ _ hb _ hF
def F_X7_clear (b : Nat) (S : St) : Option (St) :=
  let S2 := fset S (5 + b) 0 0; let S7 := fset S2 (5 + b) 4 0; let S12 := fset S7 (5 + b) 5 0; let S17 := fset S12 (5 + b) 6 0; let S22 := fset S17 (5 + b) 7 0; some S22
set_option maxHeartbeats 4000000 in
set_option maxRecDepth 100000 in
theorem ok_X7_clear {l : Launch} (d : Nat) (b : Nat) (S : St) (hb : b < 2) (R : St) (hF : F_X7_clear b S = some R) : Go l (d + 0) mX7_clear (Res none R) 0 [(0, .ref (5 + b))] [] S := by
  unfold F_X7_clear at hF
  refine Go.aload_n dX7_clear_0 rfl ?_
  refine Go.iconst (v := 0) dX7_clear_1 (by decide) ?_
  refine Go.putI dX7_clear_2 fX7_9 (sl_X7_0 hb) ?_
  refine Go.aload_n dX7_clear_5 rfl ?_
  refine Go.iconst (v := 0) dX7_clear_6 (by decide) ?_
  refine Go.putI dX7_clear_7 fX7_25 (sl_X7_4 hb) ?_
  refine Go.aload_n dX7_clear_10 rfl ?_
  refine Go.iconst (v := 0) dX7_clear_11 (by decide) ?_
  refine Go.putI dX7_clear_12 fX7_28 (sl_X7_5 hb) ?_
  refine Go.aload_n dX7_clear_15 rfl ?_
  refine Go.iconst (v := 0) dX7_clear_16 (by decide) ?_
  refine Go.putI dX7_clear_17 fX7_31 (sl_X7_6 hb) ?_
  refine Go.aload_n dX7_clear_20 rfl ?_
  refine Go.iconst (v := 0) dX7_clear_21 (by decide) ?_
  refine Go.putI dX7_clear_22 fX7_34 (sl_X7_7 hb) ?_
  obtain rfl := Option.some.inj hF
  exact Go.vret (st := []) dX7_clear_25 rfl ⟨rfl, rfl⟩
def F_X8_likeliestJump_11 : Nat → Int32 → Int32 → Int32 → St → Option (Int32 × St)
  | 0 => fun _ _ _ _ => none
  | n + 1 => fun x2 x3 x4 S =>
    if (S.1 1 0) ≤ x4 then (some (x3, S)) else (if ((x2 >>> (x4 &&& 31)) &&& 1) = 0 then ((F_X8_likeliestJump_11 n) x2 x3 (x4 + 1) S) else (if x3 = (-1) then ((F_X8_likeliestJump_11 n) x2 x4 (x4 + 1) S) else (gd (inb x4 20) (gd (inb x3 20) (if (S.2.1 27 (Int32.toNatClampNeg x4)) ≤ (S.2.1 27 (Int32.toNatClampNeg x3)) then ((F_X8_likeliestJump_11 n) x2 x3 (x4 + 1) S) else ((F_X8_likeliestJump_11 n) x2 x4 (x4 + 1) S))))))
set_option maxHeartbeats 4000000 in
set_option maxRecDepth 100000 in
theorem ok_X8_likeliestJump_11 {l : Launch} (d : Nat) : ∀ (n : Nat) (x2 : Int32) (x3 : Int32) (x4 : Int32) (S : St) (R : Int32 × St), F_X8_likeliestJump_11 n x2 x3 x4 S = some R → Go l (d + 1) mX8_likeliestJump (Res (some (.int R.1)) R.2) 11 [(0, .ref 1), (2, .int x2), (3, .int x3), (4, .int x4)] [] S := by
  intro n
  induction n with
  | zero => intro x2 x3 x4 S  R hF; cases hF
  | succ n hk11 =>
    intro x2 x3 x4 S  R hF
    have hF : (if (S.1 1 0) ≤ x4 then (some (x3, S)) else (if ((x2 >>> (x4 &&& 31)) &&& 1) = 0 then ((F_X8_likeliestJump_11 n) x2 x3 (x4 + 1) S) else (if x3 = (-1) then ((F_X8_likeliestJump_11 n) x2 x4 (x4 + 1) S) else (gd (inb x4 20) (gd (inb x3 20) (if (S.2.1 27 (Int32.toNatClampNeg x4)) ≤ (S.2.1 27 (Int32.toNatClampNeg x3)) then ((F_X8_likeliestJump_11 n) x2 x3 (x4 + 1) S) else ((F_X8_likeliestJump_11 n) x2 x4 (x4 + 1) S))))))) = some R := hF
    refine Go.iload dX8_likeliestJump_11 rfl ?_
    refine Go.aload_n dX8_likeliestJump_13 rfl ?_
    refine Go.getI dX8_likeliestJump_14 fX8_9 rfl ?_
    refine Go.icmpge (tgt := 59) dX8_likeliestJump_17 (by decide) (fun h_17 => ?_) (fun h_17 => ?_)
    · have hF := ite_t h_17 hF
      refine Go.iload_n dX8_likeliestJump_59 rfl ?_
      obtain rfl := Option.some.inj hF
      exact Go.iret (st := []) dX8_likeliestJump_60 rfl rfl ⟨rfl, rfl⟩
    · have hF := ite_f h_17 hF
      refine Go.iload_n dX8_likeliestJump_20 rfl ?_
      refine Go.iload dX8_likeliestJump_21 rfl ?_
      refine Go.ishr dX8_likeliestJump_23 ?_
      refine Go.iconst (v := 1) dX8_likeliestJump_24 (by decide) ?_
      refine Go.iand dX8_likeliestJump_25 ?_
      refine Go.ifeq (tgt := 53) dX8_likeliestJump_26 (by decide) (fun h_26 => ?_) (fun h_26 => ?_)
      · have hF := ite_t h_26 hF
        refine Go.iincP (ls' := [(4, _), (0, _), (2, _), (3, _)]) dX8_likeliestJump_53 rfl (by decide) rfl ?_
        refine Go.goto (tgt := 11) dX8_likeliestJump_56 (by decide) ?_
        refine Go.pick (ls' := [(0, _), (2, _), (3, _), (4, _)]) [1, 2, 3, 0] rfl ?_
        exact hk11 _ _ _ _ _ hF
      · have hF := ite_f h_26 hF
        refine Go.iload_n dX8_likeliestJump_29 rfl ?_
        refine Go.iconst (v := (-1)) dX8_likeliestJump_30 (by decide) ?_
        refine Go.icmpeq (tgt := 50) dX8_likeliestJump_31 (by decide) (fun h_31 => ?_) (fun h_31 => ?_)
        · have hF := ite_t h_31 hF
          refine Go.iload dX8_likeliestJump_50 rfl ?_
          refine Go.istore_n (ls' := [(3, _), (0, _), (2, _), (4, _)]) dX8_likeliestJump_52 (by decide) rfl ?_
          refine Go.iincP (ls' := [(4, _), (3, _), (0, _), (2, _)]) dX8_likeliestJump_53 rfl (by decide) rfl ?_
          refine Go.goto (tgt := 11) dX8_likeliestJump_56 (by decide) ?_
          refine Go.pick (ls' := [(0, _), (2, _), (3, _), (4, _)]) [2, 3, 1, 0] rfl ?_
          exact hk11 _ _ _ _ _ hF
        · have hF := ite_f h_31 hF
          refine Go.aload_n dX8_likeliestJump_34 rfl ?_
          refine Go.getR dX8_likeliestJump_35 fX8_34 rfl ?_
          refine Go.iload dX8_likeliestJump_38 rfl ?_
          obtain ⟨hb_40, hF⟩ := gd_some hF
          refine Go.iald dX8_likeliestJump_40 rfl (inb_ok hb_40) ?_
          refine Go.aload_n dX8_likeliestJump_41 rfl ?_
          refine Go.getR dX8_likeliestJump_42 fX8_34 rfl ?_
          refine Go.iload_n dX8_likeliestJump_45 rfl ?_
          obtain ⟨hb_46, hF⟩ := gd_some hF
          refine Go.iald dX8_likeliestJump_46 rfl (inb_ok hb_46) ?_
          refine Go.icmple (tgt := 53) dX8_likeliestJump_47 (by decide) (fun h_47 => ?_) (fun h_47 => ?_)
          · have hF := ite_t h_47 hF
            refine Go.iincP (ls' := [(4, _), (0, _), (2, _), (3, _)]) dX8_likeliestJump_53 rfl (by decide) rfl ?_
            refine Go.goto (tgt := 11) dX8_likeliestJump_56 (by decide) ?_
            refine Go.pick (ls' := [(0, _), (2, _), (3, _), (4, _)]) [1, 2, 3, 0] rfl ?_
            exact hk11 _ _ _ _ _ hF
          · have hF := ite_f h_47 hF
            refine Go.iload dX8_likeliestJump_50 rfl ?_
            refine Go.istore_n (ls' := [(3, _), (0, _), (2, _), (4, _)]) dX8_likeliestJump_52 (by decide) rfl ?_
            refine Go.iincP (ls' := [(4, _), (3, _), (0, _), (2, _)]) dX8_likeliestJump_53 rfl (by decide) rfl ?_
            refine Go.goto (tgt := 11) dX8_likeliestJump_56 (by decide) ?_
            refine Go.pick (ls' := [(0, _), (2, _), (3, _), (4, _)]) [2, 3, 1, 0] rfl ?_
            exact hk11 _ _ _ _ _ hF
def F_X8_likeliestJump (N : Nat) (x1 : Int32) (S : St) : Option (Int32 × St) :=
  (F_X8_jumpsFrom x1 S).bind (fun r_2 => F_X8_likeliestJump_11 N r_2.1 (-1) 0 r_2.2)
set_option maxHeartbeats 4000000 in
set_option maxRecDepth 100000 in
theorem ok_X8_likeliestJump {l : Launch} (d : Nat) (N : Nat) (x1 : Int32) (S : St) (R : Int32 × St) (hF : F_X8_likeliestJump N x1 S = some R) : Go l (d + 1) mX8_likeliestJump (Res (some (.int R.1)) R.2) 0 [(0, .ref 1), (1, .int x1)] [] S := by
  unfold F_X8_likeliestJump at hF
  refine Go.aload_n dX8_likeliestJump_0 rfl ?_
  refine Go.iload_n dX8_likeliestJump_1 rfl ?_
  obtain ⟨r_2, hc_2, hF⟩ := Option.bind_eq_some_iff.mp hF
  refine Go.callV [_] dX8_likeliestJump_2 kX8_jumpsFrom vX8_jumpsFrom lX8_76 rfl rfl rfl rfl rfl (Nat.le_of_ble_eq_true rfl) (Nat.le_of_ble_eq_true rfl) (ok_X8_jumpsFrom (d + 0) _ _ _ hc_2) ?_
  refine Go.istore_n (ls' := [(2, _), (0, _), (1, _)]) dX8_likeliestJump_5 (by decide) rfl ?_
  refine Go.iconst (v := (-1)) dX8_likeliestJump_6 (by decide) ?_
  refine Go.istore_n (ls' := [(3, _), (2, _), (0, _), (1, _)]) dX8_likeliestJump_7 (by decide) rfl ?_
  refine Go.iconst (v := 0) dX8_likeliestJump_8 (by decide) ?_
  refine Go.istore (ls' := [(4, _), (3, _), (2, _), (0, _), (1, _)]) dX8_likeliestJump_9 (by decide) rfl ?_
  refine Go.pick (ls' := [(0, _), (2, _), (3, _), (4, _)]) [3, 2, 1, 0] rfl ?_
  exact ok_X8_likeliestJump_11 d N _ _ _ _ _ hF
def F_X7_say_104 (x0 : Nat) (x3 : Int32) (S : St) : Option (St) :=
  if x3 = 2 then (let S116 := fset S (5 + x0) 7 ((S.1 (5 + x0) 7) + 1); let S129 := fset S116 (5 + x0) 4 ((S116.1 (5 + x0) 4) + (S116.1 1 10)); let S139 := fset S129 (5 + x0) 0 ((S129.1 (5 + x0) 0) + 1); some S139) else (let S139 := fset S (5 + x0) 0 ((S.1 (5 + x0) 0) + 1); some S139)
set_option maxHeartbeats 4000000 in
set_option maxRecDepth 100000 in
theorem ok_X7_say_104 {l : Launch} (d : Nat) (x0 : Nat) (x3 : Int32) (S : St) (hx0 : x0 < 2) (R : St) (hF : F_X7_say_104 x0 x3 S = some R) : Go l (d + 0) mX7_say (Res none R) 104 [(0, .ref (5 + x0)), (1, .ref 1), (3, .int x3)] [] S := by
  unfold F_X7_say_104 at hF
  refine Go.iload_n dX7_say_104 rfl ?_
  refine Go.iconst (v := 2) dX7_say_105 (by decide) ?_
  refine Go.icmpne (tgt := 132) dX7_say_106 (by decide) (fun h_106 => ?_) (fun h_106 => ?_)
  · have hF := ite_f h_106 hF
    refine Go.aload_n dX7_say_132 rfl ?_
    refine Go.dup dX7_say_133 rfl ?_
    refine Go.getI dX7_say_134 fX7_9 (sl_X7_0 hx0) ?_
    refine Go.iconst (v := 1) dX7_say_137 (by decide) ?_
    refine Go.iadd dX7_say_138 ?_
    refine Go.putI dX7_say_139 fX7_9 (sl_X7_0 hx0) ?_
    obtain rfl := Option.some.inj hF
    exact Go.vret (st := []) dX7_say_142 rfl ⟨rfl, rfl⟩
  · have hF := ite_t h_106 hF
    refine Go.aload_n dX7_say_109 rfl ?_
    refine Go.dup dX7_say_110 rfl ?_
    refine Go.getI dX7_say_111 fX7_34 (sl_X7_7 hx0) ?_
    refine Go.iconst (v := 1) dX7_say_114 (by decide) ?_
    refine Go.iadd dX7_say_115 ?_
    refine Go.putI dX7_say_116 fX7_34 (sl_X7_7 hx0) ?_
    refine Go.aload_n dX7_say_119 rfl ?_
    refine Go.dup dX7_say_120 rfl ?_
    refine Go.getI dX7_say_121 fX7_25 (sl_X7_4 hx0) ?_
    refine Go.aload_n dX7_say_124 rfl ?_
    refine Go.getI dX7_say_125 fX7_71 rfl ?_
    refine Go.iadd dX7_say_128 ?_
    refine Go.putI dX7_say_129 fX7_25 (sl_X7_4 hx0) ?_
    refine Go.aload_n dX7_say_132 rfl ?_
    refine Go.dup dX7_say_133 rfl ?_
    refine Go.getI dX7_say_134 fX7_9 (sl_X7_0 hx0) ?_
    refine Go.iconst (v := 1) dX7_say_137 (by decide) ?_
    refine Go.iadd dX7_say_138 ?_
    refine Go.putI dX7_say_139 fX7_9 (sl_X7_0 hx0) ?_
    obtain rfl := Option.some.inj hF
    exact Go.vret (st := []) dX7_say_142 rfl ⟨rfl, rfl⟩
def F_X7_say (b : Nat) (x2 : Int32) (x3 : Int32) (x4 : Int32) (S : St) : Option (St) :=
  gd (inb (S.1 (5 + b) 0) 60) (let S9 := aset S (36 + b) (upd (S.2.1 (36 + b)) (Int32.toNatClampNeg (S.1 (5 + b) 0)) x2); gd (inb (S9.1 (5 + b) 0) 60) (let S19 := aset S9 (38 + b) (upd (S9.2.1 (38 + b)) (Int32.toNatClampNeg (S9.1 (5 + b) 0)) x3); gd (inb x2 20) (gd (inb (S19.1 (5 + b) 0) 60) (let S39 := aset S19 (40 + b) (upd (S19.2.1 (40 + b)) (Int32.toNatClampNeg (S19.1 (5 + b) 0)) ((S19.2.1 26 (Int32.toNatClampNeg x2)) &&& (x4 ^^^ (-1)))); gd (inb x2 20) (gd (inb (S39.2.1 21 (Int32.toNatClampNeg x2)) 6) (gd (inb x2 20) (let S64 := fset S39 (5 + b) 4 ((S39.1 (5 + b) 4) + ((S39.2.1 28 (Int32.toNatClampNeg (S39.2.1 21 (Int32.toNatClampNeg x2)))) + (S39.2.1 24 (Int32.toNatClampNeg x2)))); gd (inb (S64.1 (5 + b) 0) 60) (if (S64.2.1 (40 + b) (Int32.toNatClampNeg (S64.1 (5 + b) 0))) = 0 then (if x3 = 1 then (let S101 := fset S64 (5 + b) 5 ((S64.1 (5 + b) 5) + 1); F_X7_say_104 b x3 S101) else (F_X7_say_104 b x3 S64)) else (let S86 := fset S64 (5 + b) 6 ((S64.1 (5 + b) 6) + 1); if x3 = 1 then (let S101 := fset S86 (5 + b) 5 ((S86.1 (5 + b) 5) + 1); F_X7_say_104 b x3 S101) else (F_X7_say_104 b x3 S86))))))))))
set_option maxHeartbeats 4000000 in
set_option maxRecDepth 100000 in
theorem ok_X7_say {l : Launch} (d : Nat) (b : Nat) (x2 : Int32) (x3 : Int32) (x4 : Int32) (S : St) (hb : b < 2) (R : St) (hF : F_X7_say b x2 x3 x4 S = some R) : Go l (d + 0) mX7_say (Res none R) 0 [(0, .ref (5 + b)), (1, .ref 1), (2, .int x2), (3, .int x3), (4, .int x4)] [] S := by
  unfold F_X7_say at hF
  refine Go.aload_n dX7_say_0 rfl ?_
  refine Go.getR dX7_say_1 fX7_15 (sl_X7_1 hb) ?_
  refine Go.aload_n dX7_say_4 rfl ?_
  refine Go.getI dX7_say_5 fX7_9 (sl_X7_0 hb) ?_
  refine Go.iload_n dX7_say_8 rfl ?_
  obtain ⟨hb_9, hF⟩ := gd_some hF
  refine Go.iast dX7_say_9 (ar_36 hb) (inb_ok hb_9) ?_
  refine Go.aload_n dX7_say_10 rfl ?_
  refine Go.getR dX7_say_11 fX7_19 (sl_X7_2 hb) ?_
  refine Go.aload_n dX7_say_14 rfl ?_
  refine Go.getI dX7_say_15 fX7_9 (sl_X7_0 hb) ?_
  refine Go.iload_n dX7_say_18 rfl ?_
  obtain ⟨hb_19, hF⟩ := gd_some hF
  refine Go.iast dX7_say_19 (ar_38 hb) (inb_ok hb_19) ?_
  refine Go.aload_n dX7_say_20 rfl ?_
  refine Go.getR dX7_say_21 fX7_22 (sl_X7_3 hb) ?_
  refine Go.aload_n dX7_say_24 rfl ?_
  refine Go.getI dX7_say_25 fX7_9 (sl_X7_0 hb) ?_
  refine Go.aload_n dX7_say_28 rfl ?_
  refine Go.getR dX7_say_29 fX7_60 rfl ?_
  refine Go.iload_n dX7_say_32 rfl ?_
  obtain ⟨hb_33, hF⟩ := gd_some hF
  refine Go.iald dX7_say_33 rfl (inb_ok hb_33) ?_
  refine Go.iload dX7_say_34 rfl ?_
  refine Go.iconst (v := (-1)) dX7_say_36 (by decide) ?_
  refine Go.ixor dX7_say_37 ?_
  refine Go.iand dX7_say_38 ?_
  obtain ⟨hb_39, hF⟩ := gd_some hF
  refine Go.iast dX7_say_39 (ar_40 hb) (inb_ok hb_39) ?_
  refine Go.aload_n dX7_say_40 rfl ?_
  refine Go.dup dX7_say_41 rfl ?_
  refine Go.getI dX7_say_42 fX7_25 (sl_X7_4 hb) ?_
  refine Go.aload_n dX7_say_45 rfl ?_
  refine Go.getR dX7_say_46 fX7_63 rfl ?_
  refine Go.aload_n dX7_say_49 rfl ?_
  refine Go.getR dX7_say_50 fX7_66 rfl ?_
  refine Go.iload_n dX7_say_53 rfl ?_
  obtain ⟨hb_54, hF⟩ := gd_some hF
  refine Go.iald dX7_say_54 rfl (inb_ok hb_54) ?_
  obtain ⟨hb_55, hF⟩ := gd_some hF
  refine Go.iald dX7_say_55 rfl (inb_ok hb_55) ?_
  refine Go.aload_n dX7_say_56 rfl ?_
  refine Go.getR dX7_say_57 fX7_69 rfl ?_
  refine Go.iload_n dX7_say_60 rfl ?_
  obtain ⟨hb_61, hF⟩ := gd_some hF
  refine Go.iald dX7_say_61 rfl (inb_ok hb_61) ?_
  refine Go.iadd dX7_say_62 ?_
  refine Go.iadd dX7_say_63 ?_
  refine Go.putI dX7_say_64 fX7_25 (sl_X7_4 hb) ?_
  refine Go.aload_n dX7_say_67 rfl ?_
  refine Go.getR dX7_say_68 fX7_22 (sl_X7_3 hb) ?_
  refine Go.aload_n dX7_say_71 rfl ?_
  refine Go.getI dX7_say_72 fX7_9 (sl_X7_0 hb) ?_
  obtain ⟨hb_75, hF⟩ := gd_some hF
  refine Go.iald dX7_say_75 (ar_40 hb) (inb_ok hb_75) ?_
  refine Go.ifeq (tgt := 89) dX7_say_76 (by decide) (fun h_76 => ?_) (fun h_76 => ?_)
  · have hF := ite_t h_76 hF
    refine Go.iload_n dX7_say_89 rfl ?_
    refine Go.iconst (v := 1) dX7_say_90 (by decide) ?_
    refine Go.icmpne (tgt := 104) dX7_say_91 (by decide) (fun h_91 => ?_) (fun h_91 => ?_)
    · have hF := ite_f h_91 hF
      refine Go.pick (ls' := [(0, _), (1, _), (3, _)]) [0, 1, 3] rfl ?_
      exact ok_X7_say_104 d _ _ _ hb _ hF
    · have hF := ite_t h_91 hF
      refine Go.aload_n dX7_say_94 rfl ?_
      refine Go.dup dX7_say_95 rfl ?_
      refine Go.getI dX7_say_96 fX7_28 (sl_X7_5 hb) ?_
      refine Go.iconst (v := 1) dX7_say_99 (by decide) ?_
      refine Go.iadd dX7_say_100 ?_
      refine Go.putI dX7_say_101 fX7_28 (sl_X7_5 hb) ?_
      refine Go.pick (ls' := [(0, _), (1, _), (3, _)]) [0, 1, 3] rfl ?_
      exact ok_X7_say_104 d _ _ _ hb _ hF
  · have hF := ite_f h_76 hF
    refine Go.aload_n dX7_say_79 rfl ?_
    refine Go.dup dX7_say_80 rfl ?_
    refine Go.getI dX7_say_81 fX7_31 (sl_X7_6 hb) ?_
    refine Go.iconst (v := 1) dX7_say_84 (by decide) ?_
    refine Go.iadd dX7_say_85 ?_
    refine Go.putI dX7_say_86 fX7_31 (sl_X7_6 hb) ?_
    refine Go.iload_n dX7_say_89 rfl ?_
    refine Go.iconst (v := 1) dX7_say_90 (by decide) ?_
    refine Go.icmpne (tgt := 104) dX7_say_91 (by decide) (fun h_91 => ?_) (fun h_91 => ?_)
    · have hF := ite_f h_91 hF
      refine Go.pick (ls' := [(0, _), (1, _), (3, _)]) [0, 1, 3] rfl ?_
      exact ok_X7_say_104 d _ _ _ hb _ hF
    · have hF := ite_t h_91 hF
      refine Go.aload_n dX7_say_94 rfl ?_
      refine Go.dup dX7_say_95 rfl ?_
      refine Go.getI dX7_say_96 fX7_28 (sl_X7_5 hb) ?_
      refine Go.iconst (v := 1) dX7_say_99 (by decide) ?_
      refine Go.iadd dX7_say_100 ?_
      refine Go.putI dX7_say_101 fX7_28 (sl_X7_5 hb) ?_
      refine Go.pick (ls' := [(0, _), (1, _), (3, _)]) [0, 1, 3] rfl ?_
      exact ok_X7_say_104 d _ _ _ hb _ hF
def F_X7_perform_114 (k15 : Nat → Int32 → Int32 → Int32 → Int32 → St → Option (Int32 × St)) (x0 : Nat) (x3 : Int32) (x5 : Int32) (x6 : Int32) (x7 : Int32) (x8 : Int32) (S : St) : Option (Int32 × St) :=
  (F_X7_say x0 x7 x8 x5 S).bind (fun r_122 => gd (inb x7 20) (k15 x0 x3 x7 (x5 ||| (r_122.2.1 25 (Int32.toNatClampNeg x7))) (x6 + 1) r_122))
set_option maxHeartbeats 4000000 in
set_option maxRecDepth 100000 in
theorem ok_X7_perform_114 {l : Launch} (d : Nat) (k15 : Nat → Int32 → Int32 → Int32 → Int32 → St → Option (Int32 × St)) (hk15 : ∀ (x0 : Nat) (x3 : Int32) (x4 : Int32) (x5 : Int32) (x6 : Int32) (S : St) (hx0 : x0 < 2) (R : Int32 × St), k15 x0 x3 x4 x5 x6 S = some R → Go l (d + 2) mX7_perform (Res (some (.int R.1)) R.2) 15 [(0, .ref (5 + x0)), (1, .ref 1), (3, .int x3), (4, .int x4), (5, .int x5), (6, .int x6)] [] S) (x0 : Nat) (x3 : Int32) (x5 : Int32) (x6 : Int32) (x7 : Int32) (x8 : Int32) (S : St) (hx0 : x0 < 2) (R : Int32 × St) (hF : F_X7_perform_114 k15 x0 x3 x5 x6 x7 x8 S = some R) : Go l (d + 2) mX7_perform (Res (some (.int R.1)) R.2) 114 [(0, .ref (5 + x0)), (1, .ref 1), (3, .int x3), (5, .int x5), (6, .int x6), (7, .int x7), (8, .int x8)] [] S := by
  unfold F_X7_perform_114 at hF
  refine Go.aload_n dX7_perform_114 rfl ?_
  refine Go.aload_n dX7_perform_115 rfl ?_
  refine Go.iload dX7_perform_116 rfl ?_
  refine Go.iload dX7_perform_118 rfl ?_
  refine Go.iload dX7_perform_120 rfl ?_
  obtain ⟨r_122, hc_122, hF⟩ := Option.bind_eq_some_iff.mp hF
  refine Go.callV [_, _, _, _] dX7_perform_122 kX7_say vX7_say lX7_53 (cl_X7 hx0) rfl rfl rfl rfl (Nat.le_of_ble_eq_true rfl) (Nat.le_of_ble_eq_true rfl) (ok_X7_say (d + 1) _ _ _ _ _ hx0 _ hc_122) ?_
  refine Go.iload dX7_perform_125 rfl ?_
  refine Go.aload_n dX7_perform_127 rfl ?_
  refine Go.getR dX7_perform_128 fX7_57 rfl ?_
  refine Go.iload dX7_perform_131 rfl ?_
  obtain ⟨hb_133, hF⟩ := gd_some hF
  refine Go.iald dX7_perform_133 rfl (inb_ok hb_133) ?_
  refine Go.ior dX7_perform_134 ?_
  refine Go.istore (ls' := [(5, _), (0, _), (1, _), (3, _), (6, _), (7, _), (8, _)]) dX7_perform_135 (by decide) rfl ?_
  refine Go.iload dX7_perform_137 rfl ?_
  refine Go.istore (ls' := [(4, _), (5, _), (0, _), (1, _), (3, _), (6, _), (7, _), (8, _)]) dX7_perform_139 (by decide) rfl ?_
  refine Go.iincP (ls' := [(6, _), (4, _), (5, _), (0, _), (1, _), (3, _), (7, _), (8, _)]) dX7_perform_141 rfl (by decide) rfl ?_
  refine Go.goto (tgt := 15) dX7_perform_144 (by decide) ?_
  refine Go.pick (ls' := [(0, _), (1, _), (3, _), (4, _), (5, _), (6, _)]) [3, 4, 5, 1, 2, 0] rfl ?_
  exact hk15 _ _ _ _ _ _ hx0 _ hF
def F_X7_perform_84 (k15 : Nat → Int32 → Int32 → Int32 → Int32 → St → Option (Int32 × St)) (x0 : Nat) (x3 : Int32) (x5 : Int32) (x6 : Int32) (x7 : Int32) (y0 : Int32) (S : St) : Option (Int32 × St) :=
  if y0 = (-1) then (if y0 = (-1) then (F_X7_perform_114 k15 x0 x3 x5 x6 x7 2 S) else (F_X7_perform_114 k15 x0 x3 x5 x6 y0 2 S)) else (if y0 = (-1) then (F_X7_perform_114 k15 x0 x3 x5 x6 x7 1 S) else (F_X7_perform_114 k15 x0 x3 x5 x6 y0 1 S))
set_option maxHeartbeats 4000000 in
set_option maxRecDepth 100000 in
theorem ok_X7_perform_84 {l : Launch} (d : Nat) (k15 : Nat → Int32 → Int32 → Int32 → Int32 → St → Option (Int32 × St)) (hk15 : ∀ (x0 : Nat) (x3 : Int32) (x4 : Int32) (x5 : Int32) (x6 : Int32) (S : St) (hx0 : x0 < 2) (R : Int32 × St), k15 x0 x3 x4 x5 x6 S = some R → Go l (d + 2) mX7_perform (Res (some (.int R.1)) R.2) 15 [(0, .ref (5 + x0)), (1, .ref 1), (3, .int x3), (4, .int x4), (5, .int x5), (6, .int x6)] [] S) (x0 : Nat) (x3 : Int32) (x5 : Int32) (x6 : Int32) (x7 : Int32) (y0 : Int32) (S : St) (hx0 : x0 < 2) (R : Int32 × St) (hF : F_X7_perform_84 k15 x0 x3 x5 x6 x7 y0 S = some R) : Go l (d + 2) mX7_perform (Res (some (.int R.1)) R.2) 84 [(0, .ref (5 + x0)), (1, .ref 1), (3, .int x3), (5, .int x5), (6, .int x6), (7, .int x7)] [.int y0] S := by
  unfold F_X7_perform_84 at hF
  refine Go.istore (ls' := [(9, _), (0, _), (1, _), (3, _), (5, _), (6, _), (7, _)]) dX7_perform_84 (by decide) rfl ?_
  refine Go.iload dX7_perform_86 rfl ?_
  refine Go.iconst (v := (-1)) dX7_perform_88 (by decide) ?_
  refine Go.icmpne (tgt := 96) dX7_perform_89 (by decide) (fun h_89 => ?_) (fun h_89 => ?_)
  · have hF := ite_f h_89 hF
    refine Go.iconst (v := 1) dX7_perform_96 (by decide) ?_
    refine Go.istore (ls' := [(8, _), (9, _), (0, _), (1, _), (3, _), (5, _), (6, _), (7, _)]) dX7_perform_97 (by decide) rfl ?_
    refine Go.iload dX7_perform_99 rfl ?_
    refine Go.iconst (v := (-1)) dX7_perform_101 (by decide) ?_
    refine Go.icmpne (tgt := 110) dX7_perform_102 (by decide) (fun h_102 => ?_) (fun h_102 => ?_)
    · have hF := ite_f h_102 hF
      refine Go.iload dX7_perform_110 rfl ?_
      refine Go.istore (ls' := [(7, _), (8, _), (9, _), (0, _), (1, _), (3, _), (5, _), (6, _)]) dX7_perform_112 (by decide) rfl ?_
      refine Go.pick (ls' := [(0, _), (1, _), (3, _), (5, _), (6, _), (7, _), (8, _)]) [3, 4, 5, 6, 7, 0, 1] rfl ?_
      exact ok_X7_perform_114 d k15 hk15 _ _ _ _ _ _ _ hx0 _ hF
    · have hF := ite_t h_102 hF
      refine Go.iload dX7_perform_105 rfl ?_
      refine Go.goto (tgt := 112) dX7_perform_107 (by decide) ?_
      refine Go.istore (ls' := [(7, _), (8, _), (9, _), (0, _), (1, _), (3, _), (5, _), (6, _)]) dX7_perform_112 (by decide) rfl ?_
      refine Go.pick (ls' := [(0, _), (1, _), (3, _), (5, _), (6, _), (7, _), (8, _)]) [3, 4, 5, 6, 7, 0, 1] rfl ?_
      exact ok_X7_perform_114 d k15 hk15 _ _ _ _ _ _ _ hx0 _ hF
  · have hF := ite_t h_89 hF
    refine Go.iconst (v := 2) dX7_perform_92 (by decide) ?_
    refine Go.goto (tgt := 97) dX7_perform_93 (by decide) ?_
    refine Go.istore (ls' := [(8, _), (9, _), (0, _), (1, _), (3, _), (5, _), (6, _), (7, _)]) dX7_perform_97 (by decide) rfl ?_
    refine Go.iload dX7_perform_99 rfl ?_
    refine Go.iconst (v := (-1)) dX7_perform_101 (by decide) ?_
    refine Go.icmpne (tgt := 110) dX7_perform_102 (by decide) (fun h_102 => ?_) (fun h_102 => ?_)
    · have hF := ite_f h_102 hF
      refine Go.iload dX7_perform_110 rfl ?_
      refine Go.istore (ls' := [(7, _), (8, _), (9, _), (0, _), (1, _), (3, _), (5, _), (6, _)]) dX7_perform_112 (by decide) rfl ?_
      refine Go.pick (ls' := [(0, _), (1, _), (3, _), (5, _), (6, _), (7, _), (8, _)]) [3, 4, 5, 6, 7, 0, 1] rfl ?_
      exact ok_X7_perform_114 d k15 hk15 _ _ _ _ _ _ _ hx0 _ hF
    · have hF := ite_t h_102 hF
      refine Go.iload dX7_perform_105 rfl ?_
      refine Go.goto (tgt := 112) dX7_perform_107 (by decide) ?_
      refine Go.istore (ls' := [(7, _), (8, _), (9, _), (0, _), (1, _), (3, _), (5, _), (6, _)]) dX7_perform_112 (by decide) rfl ?_
      refine Go.pick (ls' := [(0, _), (1, _), (3, _), (5, _), (6, _), (7, _), (8, _)]) [3, 4, 5, 6, 7, 0, 1] rfl ?_
      exact ok_X7_perform_114 d k15 hk15 _ _ _ _ _ _ _ hx0 _ hF
def F_X7_perform_15 (N : Nat) : Nat → Nat → Int32 → Int32 → Int32 → Int32 → St → Option (Int32 × St)
  | 0 => fun _ _ _ _ _ _ => none
  | n + 1 => fun x0 x3 x4 x5 x6 S =>
    if 60 ≤ x6 then (some (x3, S)) else (if ((S.1 1 0) - 1) ≤ x4 then (some (x3, S)) else (gd (inb (x4 + 1) 20) (if (((((x3 * 1103515245) + 12345).toUInt32 >>> ((8 : Int32).toUInt32 &&& Int32.toUInt32 31)).toInt32) - (((((x3 * 1103515245) + 12345).toUInt32 >>> ((8 : Int32).toUInt32 &&& Int32.toUInt32 31)).toInt32) / 100) * 100) < (S.2.1 (42 + x0) (Int32.toNatClampNeg (x4 + 1))) then (F_X7_perform_114 (F_X7_perform_15 N n) x0 ((x3 * 1103515245) + 12345) x5 x6 (x4 + 1) 0 S) else (if x4 = (-1) then (F_X7_perform_84 (F_X7_perform_15 N n) x0 ((x3 * 1103515245) + 12345) x5 x6 (x4 + 1) (-1) S) else ((F_X8_likeliestJump N x4 S).bind (fun r_81 => F_X7_perform_84 (F_X7_perform_15 N n) x0 ((x3 * 1103515245) + 12345) x5 x6 (x4 + 1) r_81.1 r_81.2))))))
set_option maxHeartbeats 4000000 in
set_option maxRecDepth 100000 in
theorem ok_X7_perform_15 {l : Launch} (d : Nat) (N : Nat) : ∀ (n : Nat) (x0 : Nat) (x3 : Int32) (x4 : Int32) (x5 : Int32) (x6 : Int32) (S : St) (hx0 : x0 < 2) (R : Int32 × St), F_X7_perform_15 N n x0 x3 x4 x5 x6 S = some R → Go l (d + 2) mX7_perform (Res (some (.int R.1)) R.2) 15 [(0, .ref (5 + x0)), (1, .ref 1), (3, .int x3), (4, .int x4), (5, .int x5), (6, .int x6)] [] S := by
  intro n
  induction n with
  | zero => intro x0 x3 x4 x5 x6 S hx0 R hF; cases hF
  | succ n hk15 =>
    intro x0 x3 x4 x5 x6 S hx0 R hF
    have hF : (if 60 ≤ x6 then (some (x3, S)) else (if ((S.1 1 0) - 1) ≤ x4 then (some (x3, S)) else (gd (inb (x4 + 1) 20) (if (((((x3 * 1103515245) + 12345).toUInt32 >>> ((8 : Int32).toUInt32 &&& Int32.toUInt32 31)).toInt32) - (((((x3 * 1103515245) + 12345).toUInt32 >>> ((8 : Int32).toUInt32 &&& Int32.toUInt32 31)).toInt32) / 100) * 100) < (S.2.1 (42 + x0) (Int32.toNatClampNeg (x4 + 1))) then (F_X7_perform_114 (F_X7_perform_15 N n) x0 ((x3 * 1103515245) + 12345) x5 x6 (x4 + 1) 0 S) else (if x4 = (-1) then (F_X7_perform_84 (F_X7_perform_15 N n) x0 ((x3 * 1103515245) + 12345) x5 x6 (x4 + 1) (-1) S) else ((F_X8_likeliestJump N x4 S).bind (fun r_81 => F_X7_perform_84 (F_X7_perform_15 N n) x0 ((x3 * 1103515245) + 12345) x5 x6 (x4 + 1) r_81.1 r_81.2))))))) = some R := hF
    refine Go.iload dX7_perform_15 rfl ?_
    refine Go.bipush (v := 60) dX7_perform_17 (by decide) ?_
    refine Go.icmpge (tgt := 147) dX7_perform_19 (by decide) (fun h_19 => ?_) (fun h_19 => ?_)
    · have hF := ite_t h_19 hF
      refine Go.iload_n dX7_perform_147 rfl ?_
      obtain rfl := Option.some.inj hF
      exact Go.iret (st := []) dX7_perform_148 rfl rfl ⟨rfl, rfl⟩
    · have hF := ite_f h_19 hF
      refine Go.iload dX7_perform_22 rfl ?_
      refine Go.aload_n dX7_perform_24 rfl ?_
      refine Go.getI dX7_perform_25 fX7_40 rfl ?_
      refine Go.iconst (v := 1) dX7_perform_28 (by decide) ?_
      refine Go.isub dX7_perform_29 ?_
      refine Go.icmpge (tgt := 147) dX7_perform_30 (by decide) (fun h_30 => ?_) (fun h_30 => ?_)
      · have hF := ite_t h_30 hF
        refine Go.iload_n dX7_perform_147 rfl ?_
        obtain rfl := Option.some.inj hF
        exact Go.iret (st := []) dX7_perform_148 rfl rfl ⟨rfl, rfl⟩
      · have hF := ite_f h_30 hF
        refine Go.iload_n dX7_perform_33 rfl ?_
        refine Go.ldc dX7_perform_34 qX7_49 ?_
        refine Go.imul dX7_perform_36 ?_
        refine Go.sipush (v := 12345) dX7_perform_37 (by decide) ?_
        refine Go.iadd dX7_perform_40 ?_
        refine Go.istore_n (ls' := [(3, _), (0, _), (1, _), (4, _), (5, _), (6, _)]) dX7_perform_41 (by decide) rfl ?_
        refine Go.iload dX7_perform_42 rfl ?_
        refine Go.iconst (v := 1) dX7_perform_44 (by decide) ?_
        refine Go.iadd dX7_perform_45 ?_
        refine Go.istore (ls' := [(7, _), (3, _), (0, _), (1, _), (4, _), (5, _), (6, _)]) dX7_perform_46 (by decide) rfl ?_
        refine Go.iconst (v := 0) dX7_perform_48 (by decide) ?_
        refine Go.istore (ls' := [(8, _), (7, _), (3, _), (0, _), (1, _), (4, _), (5, _), (6, _)]) dX7_perform_49 (by decide) rfl ?_
        refine Go.iload_n dX7_perform_51 rfl ?_
        refine Go.bipush (v := 8) dX7_perform_52 (by decide) ?_
        refine Go.iushr dX7_perform_54 rfl ?_
        refine Go.bipush (v := 100) dX7_perform_55 (by decide) ?_
        refine Go.irem dX7_perform_57 (by decide) ?_
        refine Go.aload_n dX7_perform_58 rfl ?_
        refine Go.getR dX7_perform_59 fX7_37 (sl_X7_8 hx0) ?_
        refine Go.iload dX7_perform_62 rfl ?_
        obtain ⟨hb_64, hF⟩ := gd_some hF
        refine Go.iald dX7_perform_64 (ar_42 hx0) (inb_ok hb_64) ?_
        refine Go.icmplt (tgt := 114) dX7_perform_65 (by decide) (fun h_65 => ?_) (fun h_65 => ?_)
        · have hF := ite_t h_65 hF
          refine Go.pick (ls' := [(0, _), (1, _), (3, _), (5, _), (6, _), (7, _), (8, _)]) [3, 4, 2, 6, 7, 1, 0] rfl ?_
          exact ok_X7_perform_114 d (F_X7_perform_15 N n) hk15 _ _ _ _ _ _ _ hx0 _ hF
        · have hF := ite_f h_65 hF
          refine Go.iload dX7_perform_68 rfl ?_
          refine Go.iconst (v := (-1)) dX7_perform_70 (by decide) ?_
          refine Go.icmpne (tgt := 78) dX7_perform_71 (by decide) (fun h_71 => ?_) (fun h_71 => ?_)
          · have hF := ite_f h_71 hF
            refine Go.aload_n dX7_perform_78 rfl ?_
            refine Go.iload dX7_perform_79 rfl ?_
            obtain ⟨r_81, hc_81, hF⟩ := Option.bind_eq_some_iff.mp hF
            refine Go.callV [_] dX7_perform_81 kX8_likeliestJump vX8_likeliestJump lX7_50 rfl rfl rfl rfl rfl (Nat.le_of_ble_eq_true rfl) (Nat.le_of_ble_eq_true rfl) (ok_X8_likeliestJump (d + 0) N _ _ _ hc_81) ?_
            refine Go.pick (ls' := [(0, _), (1, _), (3, _), (5, _), (6, _), (7, _)]) [3, 4, 2, 6, 7, 1] rfl ?_
            exact ok_X7_perform_84 d (F_X7_perform_15 N n) hk15 _ _ _ _ _ _ _ hx0 _ hF
          · have hF := ite_t h_71 hF
            refine Go.iconst (v := (-1)) dX7_perform_74 (by decide) ?_
            refine Go.goto (tgt := 84) dX7_perform_75 (by decide) ?_
            refine Go.pick (ls' := [(0, _), (1, _), (3, _), (5, _), (6, _), (7, _)]) [3, 4, 2, 6, 7, 1] rfl ?_
            exact ok_X7_perform_84 d (F_X7_perform_15 N n) hk15 _ _ _ _ _ _ _ hx0 _ hF
def F_X7_perform (N : Nat) (b : Nat) (x2 : Int32) (S : St) : Option (Int32 × St) :=
  (F_X7_clear b S).bind (fun r_1 => F_X7_perform_15 N N b x2 (-1) 0 0 r_1)
set_option maxHeartbeats 4000000 in
set_option maxRecDepth 100000 in
theorem ok_X7_perform {l : Launch} (d : Nat) (N : Nat) (b : Nat) (x2 : Int32) (S : St) (hb : b < 2) (R : Int32 × St) (hF : F_X7_perform N b x2 S = some R) : Go l (d + 2) mX7_perform (Res (some (.int R.1)) R.2) 0 [(0, .ref (5 + b)), (1, .ref 1), (2, .int x2)] [] S := by
  unfold F_X7_perform at hF
  refine Go.aload_n dX7_perform_0 rfl ?_
  obtain ⟨r_1, hc_1, hF⟩ := Option.bind_eq_some_iff.mp hF
  refine Go.callV [] dX7_perform_1 kX7_clear vX7_clear lX7_46 (cl_X7 hb) rfl rfl rfl rfl (Nat.le_of_ble_eq_true rfl) (Nat.le_of_ble_eq_true rfl) (ok_X7_clear (d + 1) _ _ hb _ hc_1) ?_
  refine Go.iload_n dX7_perform_4 rfl ?_
  refine Go.istore_n (ls' := [(3, _), (0, _), (1, _), (2, _)]) dX7_perform_5 (by decide) rfl ?_
  refine Go.iconst (v := (-1)) dX7_perform_6 (by decide) ?_
  refine Go.istore (ls' := [(4, _), (3, _), (0, _), (1, _), (2, _)]) dX7_perform_7 (by decide) rfl ?_
  refine Go.iconst (v := 0) dX7_perform_9 (by decide) ?_
  refine Go.istore (ls' := [(5, _), (4, _), (3, _), (0, _), (1, _), (2, _)]) dX7_perform_10 (by decide) rfl ?_
  refine Go.iconst (v := 0) dX7_perform_12 (by decide) ?_
  refine Go.istore (ls' := [(6, _), (5, _), (4, _), (3, _), (0, _), (1, _), (2, _)]) dX7_perform_13 (by decide) rfl ?_
  refine Go.pick (ls' := [(0, _), (1, _), (3, _), (4, _), (5, _), (6, _)]) [4, 5, 3, 2, 1, 0] rfl ?_
  exact ok_X7_perform_15 d N N _ _ _ _ _ _ hb _ hF
theorem sw_X7_figure_1 (x : Int32) (h0 : ¬ x = 0) (h1 : ¬ x = 1) (h2 : ¬ x = 2) (h3 : ¬ x = 3) : swO 51 0 3 #[31, 36, 41, 46] x = 51 := by
  by_cases h : x.toInt < 0 ∨ 3 < x.toInt
  · unfold swO; rw [if_pos h]
  · have hx : x = 0 ∨ x = 1 ∨ x = 2 ∨ x = 3 := by
      have e : ∀ v : Int32, x.toInt = v.toInt → x = v := fun v h => Int32.toInt_inj.mp h
      have : x.toInt = 0 ∨ x.toInt = 1 ∨ x.toInt = 2 ∨ x.toInt = 3 := by omega
      rcases this with h | h | h | h
      · exact Or.inl (e 0 h)
      · exact Or.inr (Or.inl (e 1 h))
      · exact Or.inr (Or.inr (Or.inl (e 2 h)))
      · exact Or.inr (Or.inr (Or.inr (e 3 h)))
    rcases hx with rfl | rfl | rfl | rfl <;> first | rfl | (exact absurd rfl (by assumption))
def F_X7_figure (b : Nat) (x1 : Int32) (S : St) : Option (Int32 × St) :=
  if x1 = 0 then (some (S.1 (5 + b) 0, S)) else (if x1 = 1 then (some (S.1 (5 + b) 4, S)) else (if x1 = 2 then (some (S.1 (5 + b) 5, S)) else (if x1 = 3 then (some (S.1 (5 + b) 6, S)) else (some (S.1 (5 + b) 7, S)))))
set_option maxHeartbeats 4000000 in
set_option maxRecDepth 100000 in
theorem ok_X7_figure {l : Launch} (d : Nat) (b : Nat) (x1 : Int32) (S : St) (hb : b < 2) (R : Int32 × St) (hF : F_X7_figure b x1 S = some R) : Go l (d + 0) mX7_figure (Res (some (.int R.1)) R.2) 0 [(0, .ref (5 + b)), (1, .int x1)] [] S := by
  unfold F_X7_figure at hF
  refine Go.iload_n dX7_figure_0 rfl ?_
  by_cases hs_1_0 : x1 = 0
  · have hF := ite_t hs_1_0 hF
    refine Go.swT (tgt := 32) dX7_figure_1 (by first | (rw [hs_1_0]; done) | (rw [hs_1_0]; rfl) | (rw [hs_1_0]; decide)) (by decide) (by decide) ?_
    refine Go.aload_n dX7_figure_32 rfl ?_
    refine Go.getI dX7_figure_33 fX7_9 (sl_X7_0 hb) ?_
    obtain rfl := Option.some.inj hF
    exact Go.iret (st := []) dX7_figure_36 rfl rfl ⟨rfl, rfl⟩
  · have hF := ite_f hs_1_0 hF
    by_cases hs_1_1 : x1 = 1
    · have hF := ite_t hs_1_1 hF
      refine Go.swT (tgt := 37) dX7_figure_1 (by first | (rw [hs_1_1]; done) | (rw [hs_1_1]; rfl) | (rw [hs_1_1]; decide)) (by decide) (by decide) ?_
      refine Go.aload_n dX7_figure_37 rfl ?_
      refine Go.getI dX7_figure_38 fX7_25 (sl_X7_4 hb) ?_
      obtain rfl := Option.some.inj hF
      exact Go.iret (st := []) dX7_figure_41 rfl rfl ⟨rfl, rfl⟩
    · have hF := ite_f hs_1_1 hF
      by_cases hs_1_2 : x1 = 2
      · have hF := ite_t hs_1_2 hF
        refine Go.swT (tgt := 42) dX7_figure_1 (by first | (rw [hs_1_2]; done) | (rw [hs_1_2]; rfl) | (rw [hs_1_2]; decide)) (by decide) (by decide) ?_
        refine Go.aload_n dX7_figure_42 rfl ?_
        refine Go.getI dX7_figure_43 fX7_28 (sl_X7_5 hb) ?_
        obtain rfl := Option.some.inj hF
        exact Go.iret (st := []) dX7_figure_46 rfl rfl ⟨rfl, rfl⟩
      · have hF := ite_f hs_1_2 hF
        by_cases hs_1_3 : x1 = 3
        · have hF := ite_t hs_1_3 hF
          refine Go.swT (tgt := 47) dX7_figure_1 (by first | (rw [hs_1_3]; done) | (rw [hs_1_3]; rfl) | (rw [hs_1_3]; decide)) (by decide) (by decide) ?_
          refine Go.aload_n dX7_figure_47 rfl ?_
          refine Go.getI dX7_figure_48 fX7_31 (sl_X7_6 hb) ?_
          obtain rfl := Option.some.inj hF
          exact Go.iret (st := []) dX7_figure_51 rfl rfl ⟨rfl, rfl⟩
        · have hF := ite_f hs_1_3 hF
          refine Go.swT (tgt := 52) dX7_figure_1 (sw_X7_figure_1 _ hs_1_0 hs_1_1 hs_1_2 hs_1_3) (by decide) (by decide) ?_
          refine Go.aload_n dX7_figure_52 rfl ?_
          refine Go.getI dX7_figure_53 fX7_34 (sl_X7_7 hb) ?_
          obtain rfl := Option.some.inj hF
          exact Go.iret (st := []) dX7_figure_56 rfl rfl ⟨rfl, rfl⟩
def F_X7_about (b : Nat) (x1 : Int32) (x2 : Int32) (S : St) : Option (Int32 × St) :=
  if x2 = 0 then (gd (inb x1 60) (some (S.2.1 (36 + b) (Int32.toNatClampNeg x1), S))) else (if x2 = 1 then (gd (inb x1 60) (some (S.2.1 (38 + b) (Int32.toNatClampNeg x1), S))) else (gd (inb x1 60) (some (S.2.1 (40 + b) (Int32.toNatClampNeg x1), S))))
set_option maxHeartbeats 4000000 in
set_option maxRecDepth 100000 in
theorem ok_X7_about {l : Launch} (d : Nat) (b : Nat) (x1 : Int32) (x2 : Int32) (S : St) (hb : b < 2) (R : Int32 × St) (hF : F_X7_about b x1 x2 S = some R) : Go l (d + 0) mX7_about (Res (some (.int R.1)) R.2) 0 [(0, .ref (5 + b)), (1, .int x1), (2, .int x2)] [] S := by
  unfold F_X7_about at hF
  refine Go.iload_n dX7_about_0 rfl ?_
  refine Go.ifne (tgt := 11) dX7_about_1 (by decide) (fun h_1 => ?_) (fun h_1 => ?_)
  · have hF := ite_f h_1 hF
    refine Go.iload_n dX7_about_11 rfl ?_
    refine Go.iconst (v := 1) dX7_about_12 (by decide) ?_
    refine Go.icmpne (tgt := 25) dX7_about_13 (by decide) (fun h_13 => ?_) (fun h_13 => ?_)
    · have hF := ite_f h_13 hF
      refine Go.aload_n dX7_about_25 rfl ?_
      refine Go.getR dX7_about_26 fX7_22 (sl_X7_3 hb) ?_
      refine Go.iload_n dX7_about_29 rfl ?_
      obtain ⟨hb_30, hF⟩ := gd_some hF
      refine Go.iald dX7_about_30 (ar_40 hb) (inb_ok hb_30) ?_
      obtain rfl := Option.some.inj hF
      exact Go.iret (st := []) dX7_about_31 rfl rfl ⟨rfl, rfl⟩
    · have hF := ite_t h_13 hF
      refine Go.aload_n dX7_about_16 rfl ?_
      refine Go.getR dX7_about_17 fX7_19 (sl_X7_2 hb) ?_
      refine Go.iload_n dX7_about_20 rfl ?_
      obtain ⟨hb_21, hF⟩ := gd_some hF
      refine Go.iald dX7_about_21 (ar_38 hb) (inb_ok hb_21) ?_
      refine Go.goto (tgt := 31) dX7_about_22 (by decide) ?_
      obtain rfl := Option.some.inj hF
      exact Go.iret (st := []) dX7_about_31 rfl rfl ⟨rfl, rfl⟩
  · have hF := ite_t h_1 hF
    refine Go.aload_n dX7_about_4 rfl ?_
    refine Go.getR dX7_about_5 fX7_15 (sl_X7_1 hb) ?_
    refine Go.iload_n dX7_about_8 rfl ?_
    obtain ⟨hb_9, hF⟩ := gd_some hF
    refine Go.iald dX7_about_9 (ar_36 hb) (inb_ok hb_9) ?_
    obtain rfl := Option.some.inj hF
    exact Go.iret (st := []) dX7_about_10 rfl rfl ⟨rfl, rfl⟩
def F_X8_mayBe (x0 : Int32) (x1 : Int32) (x2 : Int32) (x3 : Int32) (x4 : Int32) (S : St) : Option (Int32 × St) :=
  (F_X11_isPart x0 S).bind (fun r_1 => if r_1.1 = 0 then (some (0, r_1.2)) else (if x1 < 0 then (some (0, r_1.2)) else (if 10 ≤ x1 then (some (0, r_1.2)) else (if x2 < 0 then (some (0, r_1.2)) else (if 10 ≤ x2 then (some (0, r_1.2)) else (if x3 < 1 then (some (0, r_1.2)) else (if 30 < x3 then (some (0, r_1.2)) else (if x4 < 0 then (some (0, r_1.2)) else (if 255 < x4 then (some (0, r_1.2)) else (some (1, r_1.2)))))))))))
set_option maxHeartbeats 4000000 in
set_option maxRecDepth 100000 in
theorem ok_X8_mayBe {l : Launch} (d : Nat) (x0 : Int32) (x1 : Int32) (x2 : Int32) (x3 : Int32) (x4 : Int32) (S : St) (R : Int32 × St) (hF : F_X8_mayBe x0 x1 x2 x3 x4 S = some R) : Go l (d + 1) mX8_mayBe (Res (some (.int R.1)) R.2) 0 [(0, .int x0), (1, .int x1), (2, .int x2), (3, .int x3), (4, .int x4)] [] S := by
  unfold F_X8_mayBe at hF
  refine Go.iload_n dX8_mayBe_0 rfl ?_
  obtain ⟨r_1, hc_1, hF⟩ := Option.bind_eq_some_iff.mp hF
  refine Go.callPart [_] rfl dX8_mayBe_1 kX11_isPart sX11_isPart rfl rfl (Nat.le_of_ble_eq_true rfl) (Nat.le_of_ble_eq_true rfl) (ok_X11_isPart (d + 0) _ _ _ hc_1) (fun v' S' h' => ?_)
  obtain ⟨rfl, rfl⟩ := h'
  refine Go.ifeq (tgt := 55) dX8_mayBe_4 (by decide) (fun h_4 => ?_) (fun h_4 => ?_)
  · have hF := ite_t h_4 hF
    refine Go.iconst (v := 0) dX8_mayBe_55 (by decide) ?_
    obtain rfl := Option.some.inj hF
    exact Go.iret (st := []) dX8_mayBe_56 rfl rfl ⟨rfl, rfl⟩
  · have hF := ite_f h_4 hF
    refine Go.iload_n dX8_mayBe_7 rfl ?_
    refine Go.iflt (tgt := 55) dX8_mayBe_8 (by decide) (fun h_8 => ?_) (fun h_8 => ?_)
    · have hF := ite_t h_8 hF
      refine Go.iconst (v := 0) dX8_mayBe_55 (by decide) ?_
      obtain rfl := Option.some.inj hF
      exact Go.iret (st := []) dX8_mayBe_56 rfl rfl ⟨rfl, rfl⟩
    · have hF := ite_f h_8 hF
      refine Go.iload_n dX8_mayBe_11 rfl ?_
      refine Go.bipush (v := 10) dX8_mayBe_12 (by decide) ?_
      refine Go.icmpge (tgt := 55) dX8_mayBe_14 (by decide) (fun h_14 => ?_) (fun h_14 => ?_)
      · have hF := ite_t h_14 hF
        refine Go.iconst (v := 0) dX8_mayBe_55 (by decide) ?_
        obtain rfl := Option.some.inj hF
        exact Go.iret (st := []) dX8_mayBe_56 rfl rfl ⟨rfl, rfl⟩
      · have hF := ite_f h_14 hF
        refine Go.iload_n dX8_mayBe_17 rfl ?_
        refine Go.iflt (tgt := 55) dX8_mayBe_18 (by decide) (fun h_18 => ?_) (fun h_18 => ?_)
        · have hF := ite_t h_18 hF
          refine Go.iconst (v := 0) dX8_mayBe_55 (by decide) ?_
          obtain rfl := Option.some.inj hF
          exact Go.iret (st := []) dX8_mayBe_56 rfl rfl ⟨rfl, rfl⟩
        · have hF := ite_f h_18 hF
          refine Go.iload_n dX8_mayBe_21 rfl ?_
          refine Go.bipush (v := 10) dX8_mayBe_22 (by decide) ?_
          refine Go.icmpge (tgt := 55) dX8_mayBe_24 (by decide) (fun h_24 => ?_) (fun h_24 => ?_)
          · have hF := ite_t h_24 hF
            refine Go.iconst (v := 0) dX8_mayBe_55 (by decide) ?_
            obtain rfl := Option.some.inj hF
            exact Go.iret (st := []) dX8_mayBe_56 rfl rfl ⟨rfl, rfl⟩
          · have hF := ite_f h_24 hF
            refine Go.iload_n dX8_mayBe_27 rfl ?_
            refine Go.iconst (v := 1) dX8_mayBe_28 (by decide) ?_
            refine Go.icmplt (tgt := 55) dX8_mayBe_29 (by decide) (fun h_29 => ?_) (fun h_29 => ?_)
            · have hF := ite_t h_29 hF
              refine Go.iconst (v := 0) dX8_mayBe_55 (by decide) ?_
              obtain rfl := Option.some.inj hF
              exact Go.iret (st := []) dX8_mayBe_56 rfl rfl ⟨rfl, rfl⟩
            · have hF := ite_f h_29 hF
              refine Go.iload_n dX8_mayBe_32 rfl ?_
              refine Go.bipush (v := 30) dX8_mayBe_33 (by decide) ?_
              refine Go.icmpgt (tgt := 55) dX8_mayBe_35 (by decide) (fun h_35 => ?_) (fun h_35 => ?_)
              · have hF := ite_t h_35 hF
                refine Go.iconst (v := 0) dX8_mayBe_55 (by decide) ?_
                obtain rfl := Option.some.inj hF
                exact Go.iret (st := []) dX8_mayBe_56 rfl rfl ⟨rfl, rfl⟩
              · have hF := ite_f h_35 hF
                refine Go.iload dX8_mayBe_38 rfl ?_
                refine Go.iflt (tgt := 55) dX8_mayBe_40 (by decide) (fun h_40 => ?_) (fun h_40 => ?_)
                · have hF := ite_t h_40 hF
                  refine Go.iconst (v := 0) dX8_mayBe_55 (by decide) ?_
                  obtain rfl := Option.some.inj hF
                  exact Go.iret (st := []) dX8_mayBe_56 rfl rfl ⟨rfl, rfl⟩
                · have hF := ite_f h_40 hF
                  refine Go.iload dX8_mayBe_43 rfl ?_
                  refine Go.sipush (v := 255) dX8_mayBe_45 (by decide) ?_
                  refine Go.icmpgt (tgt := 55) dX8_mayBe_48 (by decide) (fun h_48 => ?_) (fun h_48 => ?_)
                  · have hF := ite_t h_48 hF
                    refine Go.iconst (v := 0) dX8_mayBe_55 (by decide) ?_
                    obtain rfl := Option.some.inj hF
                    exact Go.iret (st := []) dX8_mayBe_56 rfl rfl ⟨rfl, rfl⟩
                  · have hF := ite_f h_48 hF
                    refine Go.iconst (v := 1) dX8_mayBe_51 (by decide) ?_
                    refine Go.goto (tgt := 56) dX8_mayBe_52 (by decide) ?_
                    obtain rfl := Option.some.inj hF
                    exact Go.iret (st := []) dX8_mayBe_56 rfl rfl ⟨rfl, rfl⟩
