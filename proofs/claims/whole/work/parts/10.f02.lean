def F_X11_keep_25 (x1 : Int32) (x2 : Int32) (S : St) : Option (Int32 × St) :=
  if x2 = (-1) then (gd (inb x1 6) ((F_X9_holdNothing (Int32.toNatClampNeg x1) S).bind (fun r_36 => some (1, r_36)))) else (gd (inb x1 6) (gd (inb x2 50) ((F_X9_holdBody (Int32.toNatClampNeg x1) (S.2.1 55 (Int32.toNatClampNeg x2)) S).bind (fun r_57 => some (1, r_57)))))
set_option maxHeartbeats 4000000 in
set_option maxRecDepth 100000 in
theorem ok_X11_keep_25 {l : Launch} (d : Nat) (x1 : Int32) (x2 : Int32) (S : St) (R : Int32 × St) (hF : F_X11_keep_25 x1 x2 S = some R) : Go l (d + 1) mX11_keep (Res (some (.int R.1)) R.2) 25 [(0, .ref 0), (1, .int x1), (2, .int x2)] [] S := by
  unfold F_X11_keep_25 at hF
  refine Go.iload_n dX11_keep_25 rfl ?_
  refine Go.iconst (v := (-1)) dX11_keep_26 (by decide) ?_
  refine Go.icmpne (tgt := 42) dX11_keep_27 (by decide) (fun h_27 => ?_) (fun h_27 => ?_)
  · have hF := ite_f h_27 hF
    refine Go.aload_n dX11_keep_42 rfl ?_
    refine Go.getR dX11_keep_43 fX11_85 rfl ?_
    refine Go.iload_n dX11_keep_46 rfl ?_
    obtain ⟨hb_47, hF⟩ := gd_some hF
    refine Go.aald dX11_keep_47 rfl (inb_ok hb_47) ?_
    refine Go.aload_n dX11_keep_48 rfl ?_
    refine Go.getR dX11_keep_49 fX11_79 rfl ?_
    refine Go.getR dX11_keep_52 fX11_315 rfl ?_
    refine Go.iload_n dX11_keep_55 rfl ?_
    obtain ⟨hb_56, hF⟩ := gd_some hF
    refine Go.iald dX11_keep_56 rfl (inb_ok hb_56) ?_
    obtain ⟨r_57, hc_57, hF⟩ := Option.bind_eq_some_iff.mp hF
    refine Go.callV [_] dX11_keep_57 kX9_holdBody vX9_holdBody lX11_318 (cl_X9 (inb_lt hb_47)) rfl rfl rfl rfl (Nat.le_of_ble_eq_true rfl) (Nat.le_of_ble_eq_true rfl) (ok_X9_holdBody (d + 0) _ _ _ (inb_lt hb_47) _ hc_57) ?_
    refine Go.iconst (v := 1) dX11_keep_60 (by decide) ?_
    obtain rfl := Option.some.inj hF
    exact Go.iret (st := []) dX11_keep_61 rfl rfl ⟨rfl, rfl⟩
  · have hF := ite_t h_27 hF
    refine Go.aload_n dX11_keep_30 rfl ?_
    refine Go.getR dX11_keep_31 fX11_85 rfl ?_
    refine Go.iload_n dX11_keep_34 rfl ?_
    obtain ⟨hb_35, hF⟩ := gd_some hF
    refine Go.aald dX11_keep_35 rfl (inb_ok hb_35) ?_
    obtain ⟨r_36, hc_36, hF⟩ := Option.bind_eq_some_iff.mp hF
    refine Go.callV [] dX11_keep_36 kX9_holdNothing vX9_holdNothing lX11_312 (cl_X9 (inb_lt hb_35)) rfl rfl rfl rfl (Nat.le_of_ble_eq_true rfl) (Nat.le_of_ble_eq_true rfl) (ok_X9_holdNothing (d + 0) _ _ (inb_lt hb_35) _ hc_36) ?_
    refine Go.goto (tgt := 60) dX11_keep_39 (by decide) ?_
    refine Go.iconst (v := 1) dX11_keep_60 (by decide) ?_
    obtain rfl := Option.some.inj hF
    exact Go.iret (st := []) dX11_keep_61 rfl rfl ⟨rfl, rfl⟩
def F_X11_keep (x1 : Int32) (x2 : Int32) (S : St) : Option (Int32 × St) :=
  (F_X11_isNoShelf x1 S).bind (fun r_1 => if r_1.1 = 0 then (if x2 = (-1) then (F_X11_keep_25 x1 x2 r_1.2) else ((F_X0_has x2 r_1.2).bind (fun r_17 => if r_17.1 = 0 then (some ((-1), r_17.2)) else (F_X11_keep_25 x1 x2 r_17.2)))) else (some ((-1), r_1.2)))
set_option maxHeartbeats 4000000 in
set_option maxRecDepth 100000 in
theorem ok_X11_keep {l : Launch} (d : Nat) (x1 : Int32) (x2 : Int32) (S : St) (R : Int32 × St) (hF : F_X11_keep x1 x2 S = some R) : Go l (d + 1) mX11_keep (Res (some (.int R.1)) R.2) 0 [(0, .ref 0), (1, .int x1), (2, .int x2)] [] S := by
  unfold F_X11_keep at hF
  refine Go.iload_n dX11_keep_0 rfl ?_
  obtain ⟨r_1, hc_1, hF⟩ := Option.bind_eq_some_iff.mp hF
  refine Go.callS [_] dX11_keep_1 kX11_isNoShelf sX11_isNoShelf lX11_102 rfl rfl (Nat.le_of_ble_eq_true rfl) (Nat.le_of_ble_eq_true rfl) (ok_X11_isNoShelf (d + 0) _ _ _ hc_1) ?_
  refine Go.ifne (tgt := 23) dX11_keep_4 (by decide) (fun h_4 => ?_) (fun h_4 => ?_)
  · have hF := ite_f h_4 hF
    refine Go.iconst (v := (-1)) dX11_keep_23 (by decide) ?_
    obtain rfl := Option.some.inj hF
    exact Go.iret (st := []) dX11_keep_24 rfl rfl ⟨rfl, rfl⟩
  · have hF := ite_t h_4 hF
    refine Go.iload_n dX11_keep_7 rfl ?_
    refine Go.iconst (v := (-1)) dX11_keep_8 (by decide) ?_
    refine Go.icmpeq (tgt := 25) dX11_keep_9 (by decide) (fun h_9 => ?_) (fun h_9 => ?_)
    · have hF := ite_t h_9 hF
      refine Go.pick (ls' := [(0, _), (1, _), (2, _)]) [0, 1, 2] rfl ?_
      exact ok_X11_keep_25 d _ _ _ _ hF
    · have hF := ite_f h_9 hF
      refine Go.aload_n dX11_keep_12 rfl ?_
      refine Go.getR dX11_keep_13 fX11_79 rfl ?_
      refine Go.iload_n dX11_keep_16 rfl ?_
      obtain ⟨r_17, hc_17, hF⟩ := Option.bind_eq_some_iff.mp hF
      refine Go.callV [_] dX11_keep_17 kX0_has vX0_has lX11_311 rfl rfl rfl rfl rfl (Nat.le_of_ble_eq_true rfl) (Nat.le_of_ble_eq_true rfl) (ok_X0_has (d + 0) _ _ _ hc_17) ?_
      refine Go.ifne (tgt := 25) dX11_keep_20 (by decide) (fun h_20 => ?_) (fun h_20 => ?_)
      · have hF := ite_f h_20 hF
        refine Go.pick (ls' := [(0, _), (1, _), (2, _)]) [0, 1, 2] rfl ?_
        exact ok_X11_keep_25 d _ _ _ _ hF
      · have hF := ite_t h_20 hF
        refine Go.iconst (v := (-1)) dX11_keep_23 (by decide) ?_
        obtain rfl := Option.some.inj hF
        exact Go.iret (st := []) dX11_keep_24 rfl rfl ⟨rfl, rfl⟩
def F_X11_row (N : Nat) (x1 : Int32) (x2 : Int32) (x3 : Int32) (S : St) : Option (Int32 × St) :=
  (F_X11_isNoShelf x1 S).bind (fun r_1 => if r_1.1 = 0 then (if x2 < 0 then (some ((-1), r_1.2)) else (if 4 < x2 then (some ((-1), r_1.2)) else (if x3 ≤ 60 then (if 0 ≤ x3 then (gd (inb x1 6) ((F_X9_holdRow N (Int32.toNatClampNeg x1) x2 x3 r_1.2).bind (fun r_39 => some (1, r_39)))) else (some ((-14), r_1.2))) else (some ((-1), r_1.2))))) else (some ((-1), r_1.2)))
set_option maxHeartbeats 4000000 in
set_option maxRecDepth 100000 in
theorem ok_X11_row {l : Launch} (d : Nat) (N : Nat) (x1 : Int32) (x2 : Int32) (x3 : Int32) (S : St) (R : Int32 × St) (hF : F_X11_row N x1 x2 x3 S = some R) : Go l (d + 2) mX11_row (Res (some (.int R.1)) R.2) 0 [(0, .ref 0), (1, .int x1), (2, .int x2), (3, .int x3)] [] S := by
  unfold F_X11_row at hF
  refine Go.iload_n dX11_row_0 rfl ?_
  obtain ⟨r_1, hc_1, hF⟩ := Option.bind_eq_some_iff.mp hF
  refine Go.callS [_] dX11_row_1 kX11_isNoShelf sX11_isNoShelf lX11_102 rfl rfl (Nat.le_of_ble_eq_true rfl) (Nat.le_of_ble_eq_true rfl) (ok_X11_isNoShelf (d + 1) _ _ _ hc_1) ?_
  refine Go.ifne (tgt := 22) dX11_row_4 (by decide) (fun h_4 => ?_) (fun h_4 => ?_)
  · have hF := ite_f h_4 hF
    refine Go.iconst (v := (-1)) dX11_row_22 (by decide) ?_
    obtain rfl := Option.some.inj hF
    exact Go.iret (st := []) dX11_row_23 rfl rfl ⟨rfl, rfl⟩
  · have hF := ite_t h_4 hF
    refine Go.iload_n dX11_row_7 rfl ?_
    refine Go.iflt (tgt := 22) dX11_row_8 (by decide) (fun h_8 => ?_) (fun h_8 => ?_)
    · have hF := ite_t h_8 hF
      refine Go.iconst (v := (-1)) dX11_row_22 (by decide) ?_
      obtain rfl := Option.some.inj hF
      exact Go.iret (st := []) dX11_row_23 rfl rfl ⟨rfl, rfl⟩
    · have hF := ite_f h_8 hF
      refine Go.iload_n dX11_row_11 rfl ?_
      refine Go.iconst (v := 4) dX11_row_12 (by decide) ?_
      refine Go.icmpgt (tgt := 22) dX11_row_13 (by decide) (fun h_13 => ?_) (fun h_13 => ?_)
      · have hF := ite_t h_13 hF
        refine Go.iconst (v := (-1)) dX11_row_22 (by decide) ?_
        obtain rfl := Option.some.inj hF
        exact Go.iret (st := []) dX11_row_23 rfl rfl ⟨rfl, rfl⟩
      · have hF := ite_f h_13 hF
        refine Go.iload_n dX11_row_16 rfl ?_
        refine Go.bipush (v := 60) dX11_row_17 (by decide) ?_
        refine Go.icmple (tgt := 24) dX11_row_19 (by decide) (fun h_19 => ?_) (fun h_19 => ?_)
        · have hF := ite_t h_19 hF
          refine Go.iload_n dX11_row_24 rfl ?_
          refine Go.ifge (tgt := 31) dX11_row_25 (by decide) (fun h_25 => ?_) (fun h_25 => ?_)
          · have hF := ite_t h_25 hF
            refine Go.aload_n dX11_row_31 rfl ?_
            refine Go.getR dX11_row_32 fX11_85 rfl ?_
            refine Go.iload_n dX11_row_35 rfl ?_
            obtain ⟨hb_36, hF⟩ := gd_some hF
            refine Go.aald dX11_row_36 rfl (inb_ok hb_36) ?_
            refine Go.iload_n dX11_row_37 rfl ?_
            refine Go.iload_n dX11_row_38 rfl ?_
            obtain ⟨r_39, hc_39, hF⟩ := Option.bind_eq_some_iff.mp hF
            refine Go.callV [_, _] dX11_row_39 kX9_holdRow vX9_holdRow lX11_322 (cl_X9 (inb_lt hb_36)) rfl rfl rfl rfl (Nat.le_of_ble_eq_true rfl) (Nat.le_of_ble_eq_true rfl) (ok_X9_holdRow (d + 0) N _ _ _ _ (inb_lt hb_36) _ hc_39) ?_
            refine Go.iconst (v := 1) dX11_row_42 (by decide) ?_
            obtain rfl := Option.some.inj hF
            exact Go.iret (st := []) dX11_row_43 rfl rfl ⟨rfl, rfl⟩
          · have hF := ite_f h_25 hF
            refine Go.bipush (v := (-14)) dX11_row_28 (by decide) ?_
            obtain rfl := Option.some.inj hF
            exact Go.iret (st := []) dX11_row_30 rfl rfl ⟨rfl, rfl⟩
        · have hF := ite_f h_19 hF
          refine Go.iconst (v := (-1)) dX11_row_22 (by decide) ?_
          obtain rfl := Option.some.inj hF
          exact Go.iret (st := []) dX11_row_23 rfl rfl ⟨rfl, rfl⟩
def F_X11_refusalOfPlace (x1 : Int32) (x2 : Int32) (S : St) : Option (Int32 × St) :=
  (F_X11_isNoShelf x1 S).bind (fun r_1 => if r_1.1 = 0 then (gd (inb x1 6) ((F_X9_holdsNothing (Int32.toNatClampNeg x1) r_1.2).bind (fun r_17 => if r_17.1 = 0 then ((F_X9_holdsRow (Int32.toNatClampNeg x1) r_17.2).bind (fun r_27 => if r_27.1 = 0 then (some ((-12), r_27.2)) else (if x2 < 0 then (some ((-13), r_27.2)) else (if x2 < (r_27.2.1 (14 + (Int32.toNatClampNeg x1)) 3) then (some (0, r_27.2)) else (some ((-13), r_27.2)))))) else (some ((-11), r_17.2))))) else (some ((-1), r_1.2)))
set_option maxHeartbeats 4000000 in
set_option maxRecDepth 100000 in
theorem ok_X11_refusalOfPlace {l : Launch} (d : Nat) (x1 : Int32) (x2 : Int32) (S : St) (R : Int32 × St) (hF : F_X11_refusalOfPlace x1 x2 S = some R) : Go l (d + 1) mX11_refusalOfPlace (Res (some (.int R.1)) R.2) 0 [(0, .ref 0), (1, .int x1), (2, .int x2)] [] S := by
  unfold F_X11_refusalOfPlace at hF
  refine Go.iload_n dX11_refusalOfPlace_0 rfl ?_
  obtain ⟨r_1, hc_1, hF⟩ := Option.bind_eq_some_iff.mp hF
  refine Go.callS [_] dX11_refusalOfPlace_1 kX11_isNoShelf sX11_isNoShelf lX11_102 rfl rfl (Nat.le_of_ble_eq_true rfl) (Nat.le_of_ble_eq_true rfl) (ok_X11_isNoShelf (d + 0) _ _ _ hc_1) ?_
  refine Go.ifeq (tgt := 9) dX11_refusalOfPlace_4 (by decide) (fun h_4 => ?_) (fun h_4 => ?_)
  · have hF := ite_t h_4 hF
    refine Go.aload_n dX11_refusalOfPlace_9 rfl ?_
    refine Go.getR dX11_refusalOfPlace_10 fX11_85 rfl ?_
    refine Go.iload_n dX11_refusalOfPlace_13 rfl ?_
    obtain ⟨hb_14, hF⟩ := gd_some hF
    refine Go.aald dX11_refusalOfPlace_14 rfl (inb_ok hb_14) ?_
    refine Go.astore_n (ls' := [(3, _), (0, _), (1, _), (2, _)]) dX11_refusalOfPlace_15 (by decide) rfl ?_
    refine Go.aload_n dX11_refusalOfPlace_16 rfl ?_
    obtain ⟨r_17, hc_17, hF⟩ := Option.bind_eq_some_iff.mp hF
    refine Go.callV [] dX11_refusalOfPlace_17 kX9_holdsNothing vX9_holdsNothing lX11_106 (cl_X9 (inb_lt hb_14)) rfl rfl rfl rfl (Nat.le_of_ble_eq_true rfl) (Nat.le_of_ble_eq_true rfl) (ok_X9_holdsNothing (d + 0) _ _ (inb_lt hb_14) _ hc_17) ?_
    refine Go.ifeq (tgt := 26) dX11_refusalOfPlace_20 (by decide) (fun h_20 => ?_) (fun h_20 => ?_)
    · have hF := ite_t h_20 hF
      refine Go.aload_n dX11_refusalOfPlace_26 rfl ?_
      obtain ⟨r_27, hc_27, hF⟩ := Option.bind_eq_some_iff.mp hF
      refine Go.callV [] dX11_refusalOfPlace_27 kX9_holdsRow vX9_holdsRow lX11_341 (cl_X9 (inb_lt hb_14)) rfl rfl rfl rfl (Nat.le_of_ble_eq_true rfl) (Nat.le_of_ble_eq_true rfl) (ok_X9_holdsRow (d + 0) _ _ (inb_lt hb_14) _ hc_27) ?_
      refine Go.ifne (tgt := 36) dX11_refusalOfPlace_30 (by decide) (fun h_30 => ?_) (fun h_30 => ?_)
      · have hF := ite_f h_30 hF
        refine Go.iload_n dX11_refusalOfPlace_36 rfl ?_
        refine Go.iflt (tgt := 48) dX11_refusalOfPlace_37 (by decide) (fun h_37 => ?_) (fun h_37 => ?_)
        · have hF := ite_t h_37 hF
          refine Go.bipush (v := (-13)) dX11_refusalOfPlace_48 (by decide) ?_
          refine Go.goto (tgt := 54) dX11_refusalOfPlace_50 (by decide) ?_
          obtain rfl := Option.some.inj hF
          exact Go.iret (st := []) dX11_refusalOfPlace_54 rfl rfl ⟨rfl, rfl⟩
        · have hF := ite_f h_37 hF
          refine Go.iload_n dX11_refusalOfPlace_40 rfl ?_
          refine Go.aload_n dX11_refusalOfPlace_41 rfl ?_
          refine Go.getI dX11_refusalOfPlace_42 fX11_112 (sl_X9_3 (inb_lt hb_14)) ?_
          refine Go.icmplt (tgt := 53) dX11_refusalOfPlace_45 (by decide) (fun h_45 => ?_) (fun h_45 => ?_)
          · have hF := ite_t h_45 hF
            refine Go.iconst (v := 0) dX11_refusalOfPlace_53 (by decide) ?_
            obtain rfl := Option.some.inj hF
            exact Go.iret (st := []) dX11_refusalOfPlace_54 rfl rfl ⟨rfl, rfl⟩
          · have hF := ite_f h_45 hF
            refine Go.bipush (v := (-13)) dX11_refusalOfPlace_48 (by decide) ?_
            refine Go.goto (tgt := 54) dX11_refusalOfPlace_50 (by decide) ?_
            obtain rfl := Option.some.inj hF
            exact Go.iret (st := []) dX11_refusalOfPlace_54 rfl rfl ⟨rfl, rfl⟩
      · have hF := ite_t h_30 hF
        refine Go.bipush (v := (-12)) dX11_refusalOfPlace_33 (by decide) ?_
        obtain rfl := Option.some.inj hF
        exact Go.iret (st := []) dX11_refusalOfPlace_35 rfl rfl ⟨rfl, rfl⟩
    · have hF := ite_f h_20 hF
      refine Go.bipush (v := (-11)) dX11_refusalOfPlace_23 (by decide) ?_
      obtain rfl := Option.some.inj hF
      exact Go.iret (st := []) dX11_refusalOfPlace_25 rfl rfl ⟨rfl, rfl⟩
  · have hF := ite_f h_4 hF
    refine Go.iconst (v := (-1)) dX11_refusalOfPlace_7 (by decide) ?_
    obtain rfl := Option.some.inj hF
    exact Go.iret (st := []) dX11_refusalOfPlace_8 rfl rfl ⟨rfl, rfl⟩
def F_X11_put (x1 : Int32) (x2 : Int32) (x3 : Int64) (S : St) : Option (Int32 × St) :=
  (F_X11_refusalOfPlace x1 x2 S).bind (fun r_3 => if r_3.1 = 0 then (gd (inb x1 6) ((F_X9_store (Int32.toNatClampNeg x1) x2 x3 r_3.2).bind (fun r_24 => some (1, r_24)))) else (some (r_3.1, r_3.2)))
set_option maxHeartbeats 4000000 in
set_option maxRecDepth 100000 in
theorem ok_X11_put {l : Launch} (d : Nat) (x1 : Int32) (x2 : Int32) (x3 : Int64) (S : St) (R : Int32 × St) (hF : F_X11_put x1 x2 x3 S = some R) : Go l (d + 2) mX11_put (Res (some (.int R.1)) R.2) 0 [(0, .ref 0), (1, .int x1), (2, .int x2), (3, .long x3)] [] S := by
  unfold F_X11_put at hF
  refine Go.aload_n dX11_put_0 rfl ?_
  refine Go.iload_n dX11_put_1 rfl ?_
  refine Go.iload_n dX11_put_2 rfl ?_
  obtain ⟨r_3, hc_3, hF⟩ := Option.bind_eq_some_iff.mp hF
  refine Go.callV [_, _] dX11_put_3 kX11_refusalOfPlace vX11_refusalOfPlace lX11_326 rfl rfl rfl rfl rfl (Nat.le_of_ble_eq_true rfl) (Nat.le_of_ble_eq_true rfl) (ok_X11_refusalOfPlace (d + 0) _ _ _ _ hc_3) ?_
  refine Go.istore (ls' := [(5, _), (0, _), (1, _), (2, _), (3, _)]) dX11_put_6 (by decide) rfl ?_
  refine Go.iload dX11_put_8 rfl ?_
  refine Go.ifeq (tgt := 16) dX11_put_10 (by decide) (fun h_10 => ?_) (fun h_10 => ?_)
  · have hF := ite_t h_10 hF
    refine Go.aload_n dX11_put_16 rfl ?_
    refine Go.getR dX11_put_17 fX11_85 rfl ?_
    refine Go.iload_n dX11_put_20 rfl ?_
    obtain ⟨hb_21, hF⟩ := gd_some hF
    refine Go.aald dX11_put_21 rfl (inb_ok hb_21) ?_
    refine Go.iload_n dX11_put_22 rfl ?_
    refine Go.lload_n dX11_put_23 rfl ?_
    obtain ⟨r_24, hc_24, hF⟩ := Option.bind_eq_some_iff.mp hF
    refine Go.callV [_, _] dX11_put_24 kX9_store vX9_store lX11_329 (cl_X9 (inb_lt hb_21)) rfl rfl rfl rfl (Nat.le_of_ble_eq_true rfl) (Nat.le_of_ble_eq_true rfl) (ok_X9_store (d + 0) _ _ _ _ (inb_lt hb_21) _ hc_24) ?_
    refine Go.iconst (v := 1) dX11_put_27 (by decide) ?_
    obtain rfl := Option.some.inj hF
    exact Go.iret (st := []) dX11_put_28 rfl rfl ⟨rfl, rfl⟩
  · have hF := ite_f h_10 hF
    refine Go.iload dX11_put_13 rfl ?_
    obtain rfl := Option.some.inj hF
    exact Go.iret (st := []) dX11_put_15 rfl rfl ⟨rfl, rfl⟩
def F_X11_element (x1 : Int32) (x2 : Int32) (S : St) : Option (Int64 × St) :=
  (F_X11_refusalOfPlace x1 x2 S).bind (fun r_3 => if r_3.1 = 0 then (gd (inb x1 6) (gd (inb x2 60) (some (r_3.2.2.2 (57 + (Int32.toNatClampNeg x1)) (Int32.toNatClampNeg x2), r_3.2)))) else (some ((-9223372036854775808), r_3.2)))
set_option maxHeartbeats 4000000 in
set_option maxRecDepth 100000 in
theorem ok_X11_element {l : Launch} (d : Nat) (x1 : Int32) (x2 : Int32) (S : St) (R : Int64 × St) (hF : F_X11_element x1 x2 S = some R) : Go l (d + 2) mX11_element (Res (some (.long R.1)) R.2) 0 [(0, .ref 0), (1, .int x1), (2, .int x2)] [] S := by
  unfold F_X11_element at hF
  refine Go.aload_n dX11_element_0 rfl ?_
  refine Go.iload_n dX11_element_1 rfl ?_
  refine Go.iload_n dX11_element_2 rfl ?_
  obtain ⟨r_3, hc_3, hF⟩ := Option.bind_eq_some_iff.mp hF
  refine Go.callV [_, _] dX11_element_3 kX11_refusalOfPlace vX11_refusalOfPlace lX11_326 rfl rfl rfl rfl rfl (Nat.le_of_ble_eq_true rfl) (Nat.le_of_ble_eq_true rfl) (ok_X11_refusalOfPlace (d + 0) _ _ _ _ hc_3) ?_
  refine Go.ifeq (tgt := 15) dX11_element_6 (by decide) (fun h_6 => ?_) (fun h_6 => ?_)
  · have hF := ite_t h_6 hF
    refine Go.aload_n dX11_element_15 rfl ?_
    refine Go.getR dX11_element_16 fX11_85 rfl ?_
    refine Go.iload_n dX11_element_19 rfl ?_
    obtain ⟨hb_20, hF⟩ := gd_some hF
    refine Go.aald dX11_element_20 rfl (inb_ok hb_20) ?_
    refine Go.getR dX11_element_21 fX11_337 (sl_X9_4 (inb_lt hb_20)) ?_
    refine Go.iload_n dX11_element_24 rfl ?_
    obtain ⟨hb_25, hF⟩ := gd_some hF
    refine Go.lald dX11_element_25 (ar_57 (inb_lt hb_20)) (inb_ok hb_25) ?_
    obtain rfl := Option.some.inj hF
    exact Go.lret (st := []) dX11_element_26 rfl ⟨rfl, rfl⟩
  · have hF := ite_f h_6 hF
    refine Go.ldc2_w dX11_element_9 qX11_335 ?_
    refine Go.goto (tgt := 26) dX11_element_12 (by decide) ?_
    obtain rfl := Option.some.inj hF
    exact Go.lret (st := []) dX11_element_26 rfl ⟨rfl, rfl⟩
def F_X11_shift (x1 : Int32) (x2 : Int32) (x3 : Int32) (x4 : Int32) (x5 : Int32) (S : St) : Option (Int32 × St) :=
  (F_X11_isNoShelf x1 S).bind (fun r_1 => if r_1.1 = 0 then ((F_X11_isNoShelf x3 r_1.2).bind (fun r_8 => if r_8.1 = 0 then (gd (inb x1 6) (gd (inb x3 6) ((F_X9_holdsNothing (Int32.toNatClampNeg x1) r_8.2).bind (fun r_34 => if r_34.1 = 0 then ((F_X9_holdsNothing (Int32.toNatClampNeg x3) r_34.2).bind (fun r_42 => if r_42.1 = 0 then ((F_X9_holdsRow (Int32.toNatClampNeg x1) r_42.2).bind (fun r_53 => if r_53.1 = 0 then (some ((-12), r_53.2)) else ((F_X9_holdsRowOf (Int32.toNatClampNeg x3) (r_53.2.1 (14 + (Int32.toNatClampNeg x1)) 2) r_53.2).bind (fun r_66 => if r_66.1 = 0 then (some ((-12), r_66.2)) else ((F_X9_hasPlaces (Int32.toNatClampNeg x1) x2 x5 r_66.2).bind (fun r_80 => if r_80.1 = 0 then (some ((-13), r_80.2)) else ((F_X9_hasPlaces (Int32.toNatClampNeg x3) x4 x5 r_80.2).bind (fun r_92 => if r_92.1 = 0 then (some ((-13), r_92.2)) else (gd (cpok x2 x4 x5 60 60) (let S116 := lset r_92.2 (57 + (Int32.toNatClampNeg x3)) (va_cpy (r_92.2.2.2 (57 + (Int32.toNatClampNeg x1))) (r_92.2.2.2 (57 + (Int32.toNatClampNeg x3))) (Int32.toNatClampNeg x2) (Int32.toNatClampNeg x4) (Int32.toNatClampNeg x5)); some (x5, S116))))))))))) else (some ((-11), r_42.2)))) else (some ((-11), r_34.2)))))) else (some ((-1), r_8.2)))) else (some ((-1), r_1.2)))
set_option maxHeartbeats 4000000 in
set_option maxRecDepth 100000 in
theorem ok_X11_shift {l : Launch} (d : Nat) (x1 : Int32) (x2 : Int32) (x3 : Int32) (x4 : Int32) (x5 : Int32) (S : St) (R : Int32 × St) (hF : F_X11_shift x1 x2 x3 x4 x5 S = some R) : Go l (d + 1) mX11_shift (Res (some (.int R.1)) R.2) 0 [(0, .ref 0), (1, .int x1), (2, .int x2), (3, .int x3), (4, .int x4), (5, .int x5)] [] S := by
  unfold F_X11_shift at hF
  refine Go.iload_n dX11_shift_0 rfl ?_
  obtain ⟨r_1, hc_1, hF⟩ := Option.bind_eq_some_iff.mp hF
  refine Go.callS [_] dX11_shift_1 kX11_isNoShelf sX11_isNoShelf lX11_102 rfl rfl (Nat.le_of_ble_eq_true rfl) (Nat.le_of_ble_eq_true rfl) (ok_X11_isNoShelf (d + 0) _ _ _ hc_1) ?_
  refine Go.ifne (tgt := 14) dX11_shift_4 (by decide) (fun h_4 => ?_) (fun h_4 => ?_)
  · have hF := ite_f h_4 hF
    refine Go.iconst (v := (-1)) dX11_shift_14 (by decide) ?_
    obtain rfl := Option.some.inj hF
    exact Go.iret (st := []) dX11_shift_15 rfl rfl ⟨rfl, rfl⟩
  · have hF := ite_t h_4 hF
    refine Go.iload_n dX11_shift_7 rfl ?_
    obtain ⟨r_8, hc_8, hF⟩ := Option.bind_eq_some_iff.mp hF
    refine Go.callS [_] dX11_shift_8 kX11_isNoShelf sX11_isNoShelf lX11_102 rfl rfl (Nat.le_of_ble_eq_true rfl) (Nat.le_of_ble_eq_true rfl) (ok_X11_isNoShelf (d + 0) _ _ _ hc_8) ?_
    refine Go.ifeq (tgt := 16) dX11_shift_11 (by decide) (fun h_11 => ?_) (fun h_11 => ?_)
    · have hF := ite_t h_11 hF
      refine Go.aload_n dX11_shift_16 rfl ?_
      refine Go.getR dX11_shift_17 fX11_85 rfl ?_
      refine Go.iload_n dX11_shift_20 rfl ?_
      obtain ⟨hb_21, hF⟩ := gd_some hF
      refine Go.aald dX11_shift_21 rfl (inb_ok hb_21) ?_
      refine Go.astore (ls' := [(6, _), (0, _), (1, _), (2, _), (3, _), (4, _), (5, _)]) dX11_shift_22 (by decide) rfl ?_
      refine Go.aload_n dX11_shift_24 rfl ?_
      refine Go.getR dX11_shift_25 fX11_85 rfl ?_
      refine Go.iload_n dX11_shift_28 rfl ?_
      obtain ⟨hb_29, hF⟩ := gd_some hF
      refine Go.aald dX11_shift_29 rfl (inb_ok hb_29) ?_
      refine Go.astore (ls' := [(7, _), (6, _), (0, _), (1, _), (2, _), (3, _), (4, _), (5, _)]) dX11_shift_30 (by decide) rfl ?_
      refine Go.aload dX11_shift_32 rfl ?_
      obtain ⟨r_34, hc_34, hF⟩ := Option.bind_eq_some_iff.mp hF
      refine Go.callV [] dX11_shift_34 kX9_holdsNothing vX9_holdsNothing lX11_106 (cl_X9 (inb_lt hb_21)) rfl rfl rfl rfl (Nat.le_of_ble_eq_true rfl) (Nat.le_of_ble_eq_true rfl) (ok_X9_holdsNothing (d + 0) _ _ (inb_lt hb_21) _ hc_34) ?_
      refine Go.ifne (tgt := 48) dX11_shift_37 (by decide) (fun h_37 => ?_) (fun h_37 => ?_)
      · have hF := ite_f h_37 hF
        refine Go.bipush (v := (-11)) dX11_shift_48 (by decide) ?_
        obtain rfl := Option.some.inj hF
        exact Go.iret (st := []) dX11_shift_50 rfl rfl ⟨rfl, rfl⟩
      · have hF := ite_t h_37 hF
        refine Go.aload dX11_shift_40 rfl ?_
        obtain ⟨r_42, hc_42, hF⟩ := Option.bind_eq_some_iff.mp hF
        refine Go.callV [] dX11_shift_42 kX9_holdsNothing vX9_holdsNothing lX11_106 (cl_X9 (inb_lt hb_29)) rfl rfl rfl rfl (Nat.le_of_ble_eq_true rfl) (Nat.le_of_ble_eq_true rfl) (ok_X9_holdsNothing (d + 0) _ _ (inb_lt hb_29) _ hc_42) ?_
        refine Go.ifeq (tgt := 51) dX11_shift_45 (by decide) (fun h_45 => ?_) (fun h_45 => ?_)
        · have hF := ite_t h_45 hF
          refine Go.aload dX11_shift_51 rfl ?_
          obtain ⟨r_53, hc_53, hF⟩ := Option.bind_eq_some_iff.mp hF
          refine Go.callV [] dX11_shift_53 kX9_holdsRow vX9_holdsRow lX11_341 (cl_X9 (inb_lt hb_21)) rfl rfl rfl rfl (Nat.le_of_ble_eq_true rfl) (Nat.le_of_ble_eq_true rfl) (ok_X9_holdsRow (d + 0) _ _ (inb_lt hb_21) _ hc_53) ?_
          refine Go.ifeq (tgt := 72) dX11_shift_56 (by decide) (fun h_56 => ?_) (fun h_56 => ?_)
          · have hF := ite_t h_56 hF
            refine Go.bipush (v := (-12)) dX11_shift_72 (by decide) ?_
            obtain rfl := Option.some.inj hF
            exact Go.iret (st := []) dX11_shift_74 rfl rfl ⟨rfl, rfl⟩
          · have hF := ite_f h_56 hF
            refine Go.aload dX11_shift_59 rfl ?_
            refine Go.aload dX11_shift_61 rfl ?_
            refine Go.getI dX11_shift_63 fX11_344 (sl_X9_2 (inb_lt hb_21)) ?_
            obtain ⟨r_66, hc_66, hF⟩ := Option.bind_eq_some_iff.mp hF
            refine Go.callV [_] dX11_shift_66 kX9_holdsRowOf vX9_holdsRowOf lX11_109 (cl_X9 (inb_lt hb_29)) rfl rfl rfl rfl (Nat.le_of_ble_eq_true rfl) (Nat.le_of_ble_eq_true rfl) (ok_X9_holdsRowOf (d + 0) _ _ _ (inb_lt hb_29) _ hc_66) ?_
            refine Go.ifne (tgt := 75) dX11_shift_69 (by decide) (fun h_69 => ?_) (fun h_69 => ?_)
            · have hF := ite_f h_69 hF
              refine Go.aload dX11_shift_75 rfl ?_
              refine Go.iload_n dX11_shift_77 rfl ?_
              refine Go.iload dX11_shift_78 rfl ?_
              obtain ⟨r_80, hc_80, hF⟩ := Option.bind_eq_some_iff.mp hF
              refine Go.callV [_, _] dX11_shift_80 kX9_hasPlaces vX9_hasPlaces lX11_347 (cl_X9 (inb_lt hb_21)) rfl rfl rfl rfl (Nat.le_of_ble_eq_true rfl) (Nat.le_of_ble_eq_true rfl) (ok_X9_hasPlaces (d + 0) _ _ _ _ (inb_lt hb_21) _ hc_80) ?_
              refine Go.ifeq (tgt := 98) dX11_shift_83 (by decide) (fun h_83 => ?_) (fun h_83 => ?_)
              · have hF := ite_t h_83 hF
                refine Go.bipush (v := (-13)) dX11_shift_98 (by decide) ?_
                obtain rfl := Option.some.inj hF
                exact Go.iret (st := []) dX11_shift_100 rfl rfl ⟨rfl, rfl⟩
              · have hF := ite_f h_83 hF
                refine Go.aload dX11_shift_86 rfl ?_
                refine Go.iload dX11_shift_88 rfl ?_
                refine Go.iload dX11_shift_90 rfl ?_
                obtain ⟨r_92, hc_92, hF⟩ := Option.bind_eq_some_iff.mp hF
                refine Go.callV [_, _] dX11_shift_92 kX9_hasPlaces vX9_hasPlaces lX11_347 (cl_X9 (inb_lt hb_29)) rfl rfl rfl rfl (Nat.le_of_ble_eq_true rfl) (Nat.le_of_ble_eq_true rfl) (ok_X9_hasPlaces (d + 0) _ _ _ _ (inb_lt hb_29) _ hc_92) ?_
                refine Go.ifne (tgt := 101) dX11_shift_95 (by decide) (fun h_95 => ?_) (fun h_95 => ?_)
                · have hF := ite_f h_95 hF
                  refine Go.aload dX11_shift_101 rfl ?_
                  refine Go.getR dX11_shift_103 fX11_337 (sl_X9_4 (inb_lt hb_21)) ?_
                  refine Go.iload_n dX11_shift_106 rfl ?_
                  refine Go.aload dX11_shift_107 rfl ?_
                  refine Go.getR dX11_shift_109 fX11_337 (sl_X9_4 (inb_lt hb_29)) ?_
                  refine Go.iload dX11_shift_112 rfl ?_
                  refine Go.iload dX11_shift_114 rfl ?_
                  obtain ⟨hb_116, hF⟩ := gd_some hF
                  obtain ⟨hc1, hc2, hc3, hc4, hc5⟩ := cpok_ok hb_116
                  refine Go.copyl dX11_shift_116 lX11_350 ac_st ac_nt in_J10 (ar_57 (inb_lt hb_21)) (ar_57 (inb_lt hb_29)) hc1 hc2 hc3 hc4 hc5 (Nat.le_of_ble_eq_true rfl) ?_
                  refine Go.iload dX11_shift_119 rfl ?_
                  obtain rfl := Option.some.inj hF
                  exact Go.iret (st := []) dX11_shift_121 rfl rfl ⟨rfl, rfl⟩
                · have hF := ite_t h_95 hF
                  refine Go.bipush (v := (-13)) dX11_shift_98 (by decide) ?_
                  obtain rfl := Option.some.inj hF
                  exact Go.iret (st := []) dX11_shift_100 rfl rfl ⟨rfl, rfl⟩
            · have hF := ite_t h_69 hF
              refine Go.bipush (v := (-12)) dX11_shift_72 (by decide) ?_
              obtain rfl := Option.some.inj hF
              exact Go.iret (st := []) dX11_shift_74 rfl rfl ⟨rfl, rfl⟩
        · have hF := ite_f h_45 hF
          refine Go.bipush (v := (-11)) dX11_shift_48 (by decide) ?_
          obtain rfl := Option.some.inj hF
          exact Go.iret (st := []) dX11_shift_50 rfl rfl ⟨rfl, rfl⟩
    · have hF := ite_f h_11 hF
      refine Go.iconst (v := (-1)) dX11_shift_14 (by decide) ?_
      obtain rfl := Option.some.inj hF
      exact Go.iret (st := []) dX11_shift_15 rfl rfl ⟨rfl, rfl⟩
def F_X11_taken (N : Nat) (x1 : Int32) (x2 : Int32) (S : St) : Option (Int32 × St) :=
  (F_X11_isNoShelf x1 S).bind (fun r_1 => if r_1.1 = 0 then ((F_X11_isNoKind x2 r_1.2).bind (fun r_8 => if r_8.1 = 0 then (gd (inb x1 6) ((F_X9_holdsNothing (Int32.toNatClampNeg x1) r_8.2).bind (fun r_24 => if r_24.1 = 0 then ((F_X9_holdsRow (Int32.toNatClampNeg x1) r_24.2).bind (fun r_34 => if r_34.1 = 0 then ((F_X0_isUnder N (r_34.2.1 (14 + (Int32.toNatClampNeg x1)) 1) x2 r_34.2).bind (fun r_45 => if r_45.1 = 0 then (some ((-12), r_45.2)) else (some (r_45.2.1 (14 + (Int32.toNatClampNeg x1)) 1, r_45.2)))) else (some ((-12), r_34.2)))) else (some ((-11), r_24.2))))) else (some ((-1), r_8.2)))) else (some ((-1), r_1.2)))
set_option maxHeartbeats 4000000 in
set_option maxRecDepth 100000 in
theorem ok_X11_taken {l : Launch} (d : Nat) (N : Nat) (x1 : Int32) (x2 : Int32) (S : St) (R : Int32 × St) (hF : F_X11_taken N x1 x2 S = some R) : Go l (d + 1) mX11_taken (Res (some (.int R.1)) R.2) 0 [(0, .ref 0), (1, .int x1), (2, .int x2)] [] S := by
  unfold F_X11_taken at hF
  refine Go.iload_n dX11_taken_0 rfl ?_
  obtain ⟨r_1, hc_1, hF⟩ := Option.bind_eq_some_iff.mp hF
  refine Go.callS [_] dX11_taken_1 kX11_isNoShelf sX11_isNoShelf lX11_102 rfl rfl (Nat.le_of_ble_eq_true rfl) (Nat.le_of_ble_eq_true rfl) (ok_X11_isNoShelf (d + 0) _ _ _ hc_1) ?_
  refine Go.ifne (tgt := 14) dX11_taken_4 (by decide) (fun h_4 => ?_) (fun h_4 => ?_)
  · have hF := ite_f h_4 hF
    refine Go.iconst (v := (-1)) dX11_taken_14 (by decide) ?_
    obtain rfl := Option.some.inj hF
    exact Go.iret (st := []) dX11_taken_15 rfl rfl ⟨rfl, rfl⟩
  · have hF := ite_t h_4 hF
    refine Go.iload_n dX11_taken_7 rfl ?_
    obtain ⟨r_8, hc_8, hF⟩ := Option.bind_eq_some_iff.mp hF
    refine Go.callS [_] dX11_taken_8 kX11_isNoKind sX11_isNoKind lX11_295 rfl rfl (Nat.le_of_ble_eq_true rfl) (Nat.le_of_ble_eq_true rfl) (ok_X11_isNoKind (d + 0) _ _ _ hc_8) ?_
    refine Go.ifeq (tgt := 16) dX11_taken_11 (by decide) (fun h_11 => ?_) (fun h_11 => ?_)
    · have hF := ite_t h_11 hF
      refine Go.aload_n dX11_taken_16 rfl ?_
      refine Go.getR dX11_taken_17 fX11_85 rfl ?_
      refine Go.iload_n dX11_taken_20 rfl ?_
      obtain ⟨hb_21, hF⟩ := gd_some hF
      refine Go.aald dX11_taken_21 rfl (inb_ok hb_21) ?_
      refine Go.astore_n (ls' := [(3, _), (0, _), (1, _), (2, _)]) dX11_taken_22 (by decide) rfl ?_
      refine Go.aload_n dX11_taken_23 rfl ?_
      obtain ⟨r_24, hc_24, hF⟩ := Option.bind_eq_some_iff.mp hF
      refine Go.callV [] dX11_taken_24 kX9_holdsNothing vX9_holdsNothing lX11_106 (cl_X9 (inb_lt hb_21)) rfl rfl rfl rfl (Nat.le_of_ble_eq_true rfl) (Nat.le_of_ble_eq_true rfl) (ok_X9_holdsNothing (d + 0) _ _ (inb_lt hb_21) _ hc_24) ?_
      refine Go.ifeq (tgt := 33) dX11_taken_27 (by decide) (fun h_27 => ?_) (fun h_27 => ?_)
      · have hF := ite_t h_27 hF
        refine Go.aload_n dX11_taken_33 rfl ?_
        obtain ⟨r_34, hc_34, hF⟩ := Option.bind_eq_some_iff.mp hF
        refine Go.callV [] dX11_taken_34 kX9_holdsRow vX9_holdsRow lX11_341 (cl_X9 (inb_lt hb_21)) rfl rfl rfl rfl (Nat.le_of_ble_eq_true rfl) (Nat.le_of_ble_eq_true rfl) (ok_X9_holdsRow (d + 0) _ _ (inb_lt hb_21) _ hc_34) ?_
        refine Go.ifne (tgt := 51) dX11_taken_37 (by decide) (fun h_37 => ?_) (fun h_37 => ?_)
        · have hF := ite_f h_37 hF
          refine Go.bipush (v := (-12)) dX11_taken_51 (by decide) ?_
          obtain rfl := Option.some.inj hF
          exact Go.iret (st := []) dX11_taken_53 rfl rfl ⟨rfl, rfl⟩
        · have hF := ite_t h_37 hF
          refine Go.aload_n dX11_taken_40 rfl ?_
          refine Go.getI dX11_taken_41 fX11_356 (sl_X9_1 (inb_lt hb_21)) ?_
          refine Go.iload_n dX11_taken_44 rfl ?_
          obtain ⟨r_45, hc_45, hF⟩ := Option.bind_eq_some_iff.mp hF
          refine Go.callS [_, _] dX11_taken_45 kX0_isUnder sX0_isUnder lX11_359 rfl rfl (Nat.le_of_ble_eq_true rfl) (Nat.le_of_ble_eq_true rfl) (ok_X0_isUnder (d + 0) N _ _ _ _ hc_45) ?_
          refine Go.ifne (tgt := 54) dX11_taken_48 (by decide) (fun h_48 => ?_) (fun h_48 => ?_)
          · have hF := ite_f h_48 hF
            refine Go.aload_n dX11_taken_54 rfl ?_
            refine Go.getI dX11_taken_55 fX11_356 (sl_X9_1 (inb_lt hb_21)) ?_
            obtain rfl := Option.some.inj hF
            exact Go.iret (st := []) dX11_taken_58 rfl rfl ⟨rfl, rfl⟩
          · have hF := ite_t h_48 hF
            refine Go.bipush (v := (-12)) dX11_taken_51 (by decide) ?_
            obtain rfl := Option.some.inj hF
            exact Go.iret (st := []) dX11_taken_53 rfl rfl ⟨rfl, rfl⟩
      · have hF := ite_f h_27 hF
        refine Go.bipush (v := (-11)) dX11_taken_30 (by decide) ?_
        obtain rfl := Option.some.inj hF
        exact Go.iret (st := []) dX11_taken_32 rfl rfl ⟨rfl, rfl⟩
    · have hF := ite_f h_11 hF
      refine Go.iconst (v := (-1)) dX11_taken_14 (by decide) ?_
      obtain rfl := Option.some.inj hF
      exact Go.iret (st := []) dX11_taken_15 rfl rfl ⟨rfl, rfl⟩
theorem sw_X11_count_1 (x : Int32) (h0 : ¬ x = 0) (h1 : ¬ x = 1) (h2 : ¬ x = 2) (h3 : ¬ x = 3) (h4 : ¬ x = 4) : swO 72 0 4 #[35, 43, 48, 56, 64] x = 72 := by
  by_cases h : x.toInt < 0 ∨ 4 < x.toInt
  · unfold swO; rw [if_pos h]
  · have hx : x = 0 ∨ x = 1 ∨ x = 2 ∨ x = 3 ∨ x = 4 := by
      have e : ∀ v : Int32, x.toInt = v.toInt → x = v := fun v h => Int32.toInt_inj.mp h
      have : x.toInt = 0 ∨ x.toInt = 1 ∨ x.toInt = 2 ∨ x.toInt = 3 ∨ x.toInt = 4 := by omega
      rcases this with h | h | h | h | h
      · exact Or.inl (e 0 h)
      · exact Or.inr (Or.inl (e 1 h))
      · exact Or.inr (Or.inr (Or.inl (e 2 h)))
      · exact Or.inr (Or.inr (Or.inr (Or.inl (e 3 h))))
      · exact Or.inr (Or.inr (Or.inr (Or.inr (e 4 h))))
    rcases hx with rfl | rfl | rfl | rfl | rfl <;> first | rfl | (exact absurd rfl (by assumption))
def F_X11_count (x1 : Int32) (S : St) : Option (Int32 × St) :=
  if x1 = 0 then (some (S.1 1 0, S)) else (if x1 = 1 then (some (S.1 0 2, S)) else (if x1 = 2 then (some (S.1 11 0, S)) else (if x1 = 3 then (some (S.1 12 0, S)) else (if x1 = 4 then (some (S.1 12 1, S)) else (some ((-1), S))))))
set_option maxHeartbeats 4000000 in
set_option maxRecDepth 100000 in
theorem ok_X11_count {l : Launch} (d : Nat) (x1 : Int32) (S : St) (R : Int32 × St) (hF : F_X11_count x1 S = some R) : Go l (d + 0) mX11_count (Res (some (.int R.1)) R.2) 0 [(0, .ref 0), (1, .int x1)] [] S := by
  unfold F_X11_count at hF
  refine Go.iload_n dX11_count_0 rfl ?_
  by_cases hs_1_0 : x1 = 0
  · have hF := ite_t hs_1_0 hF
    refine Go.swT (tgt := 36) dX11_count_1 (by first | (rw [hs_1_0]; done) | (rw [hs_1_0]; rfl) | (rw [hs_1_0]; decide)) (by decide) (by decide) ?_
    refine Go.aload_n dX11_count_36 rfl ?_
    refine Go.getR dX11_count_37 fX11_10 rfl ?_
    refine Go.getI dX11_count_40 fX11_179 rfl ?_
    obtain rfl := Option.some.inj hF
    exact Go.iret (st := []) dX11_count_43 rfl rfl ⟨rfl, rfl⟩
  · have hF := ite_f hs_1_0 hF
    by_cases hs_1_1 : x1 = 1
    · have hF := ite_t hs_1_1 hF
      refine Go.swT (tgt := 44) dX11_count_1 (by first | (rw [hs_1_1]; done) | (rw [hs_1_1]; rfl) | (rw [hs_1_1]; decide)) (by decide) (by decide) ?_
      refine Go.aload_n dX11_count_44 rfl ?_
      refine Go.getI dX11_count_45 fX11_20 rfl ?_
      obtain rfl := Option.some.inj hF
      exact Go.iret (st := []) dX11_count_48 rfl rfl ⟨rfl, rfl⟩
    · have hF := ite_f hs_1_1 hF
      by_cases hs_1_2 : x1 = 2
      · have hF := ite_t hs_1_2 hF
        refine Go.swT (tgt := 49) dX11_count_1 (by first | (rw [hs_1_2]; done) | (rw [hs_1_2]; rfl) | (rw [hs_1_2]; decide)) (by decide) (by decide) ?_
        refine Go.aload_n dX11_count_49 rfl ?_
        refine Go.getR dX11_count_50 fX11_72 rfl ?_
        refine Go.getI dX11_count_53 fX11_286 rfl ?_
        obtain rfl := Option.some.inj hF
        exact Go.iret (st := []) dX11_count_56 rfl rfl ⟨rfl, rfl⟩
      · have hF := ite_f hs_1_2 hF
        by_cases hs_1_3 : x1 = 3
        · have hF := ite_t hs_1_3 hF
          refine Go.swT (tgt := 57) dX11_count_1 (by first | (rw [hs_1_3]; done) | (rw [hs_1_3]; rfl) | (rw [hs_1_3]; decide)) (by decide) (by decide) ?_
          refine Go.aload_n dX11_count_57 rfl ?_
          refine Go.getR dX11_count_58 fX11_79 rfl ?_
          refine Go.getI dX11_count_61 fX11_362 rfl ?_
          obtain rfl := Option.some.inj hF
          exact Go.iret (st := []) dX11_count_64 rfl rfl ⟨rfl, rfl⟩
        · have hF := ite_f hs_1_3 hF
          by_cases hs_1_4 : x1 = 4
          · have hF := ite_t hs_1_4 hF
            refine Go.swT (tgt := 65) dX11_count_1 (by first | (rw [hs_1_4]; done) | (rw [hs_1_4]; rfl) | (rw [hs_1_4]; decide)) (by decide) (by decide) ?_
            refine Go.aload_n dX11_count_65 rfl ?_
            refine Go.getR dX11_count_66 fX11_79 rfl ?_
            refine Go.getI dX11_count_69 fX11_363 rfl ?_
            obtain rfl := Option.some.inj hF
            exact Go.iret (st := []) dX11_count_72 rfl rfl ⟨rfl, rfl⟩
          · have hF := ite_f hs_1_4 hF
            refine Go.swT (tgt := 73) dX11_count_1 (sw_X11_count_1 _ hs_1_0 hs_1_1 hs_1_2 hs_1_3 hs_1_4) (by decide) (by decide) ?_
            refine Go.iconst (v := (-1)) dX11_count_73 (by decide) ?_
            obtain rfl := Option.some.inj hF
            exact Go.iret (st := []) dX11_count_74 rfl rfl ⟨rfl, rfl⟩
def F_X12_in (x0 : Int32) (x1 : Int32) (x2 : Int32) (S : St) : Option (Int32 × St) :=
  if x0 < x1 then (some (0, S)) else (if x2 < x0 then (some (0, S)) else (some (1, S)))
set_option maxHeartbeats 4000000 in
set_option maxRecDepth 100000 in
theorem ok_X12_in {l : Launch} (d : Nat) (x0 : Int32) (x1 : Int32) (x2 : Int32) (S : St) (R : Int32 × St) (hF : F_X12_in x0 x1 x2 S = some R) : Go l (d + 0) mX12_in (Res (some (.int R.1)) R.2) 0 [(0, .int x0), (1, .int x1), (2, .int x2)] [] S := by
  unfold F_X12_in at hF
  refine Go.iload_n dX12_in_0 rfl ?_
  refine Go.iload_n dX12_in_1 rfl ?_
  refine Go.icmplt (tgt := 14) dX12_in_2 (by decide) (fun h_2 => ?_) (fun h_2 => ?_)
  · have hF := ite_t h_2 hF
    refine Go.iconst (v := 0) dX12_in_14 (by decide) ?_
    obtain rfl := Option.some.inj hF
    exact Go.iret (st := []) dX12_in_15 rfl rfl ⟨rfl, rfl⟩
  · have hF := ite_f h_2 hF
    refine Go.iload_n dX12_in_5 rfl ?_
    refine Go.iload_n dX12_in_6 rfl ?_
    refine Go.icmpgt (tgt := 14) dX12_in_7 (by decide) (fun h_7 => ?_) (fun h_7 => ?_)
    · have hF := ite_t h_7 hF
      refine Go.iconst (v := 0) dX12_in_14 (by decide) ?_
      obtain rfl := Option.some.inj hF
      exact Go.iret (st := []) dX12_in_15 rfl rfl ⟨rfl, rfl⟩
    · have hF := ite_f h_7 hF
      refine Go.iconst (v := 1) dX12_in_10 (by decide) ?_
      refine Go.goto (tgt := 15) dX12_in_11 (by decide) ?_
      obtain rfl := Option.some.inj hF
      exact Go.iret (st := []) dX12_in_15 rfl rfl ⟨rfl, rfl⟩
def F_X12_held (x0 : Int32) (x1 : Int32) (x2 : Int32) (S : St) : Option (Int32 × St) :=
  if x1 ≤ x0 then (if x0 ≤ x2 then (some (x0, S)) else (some (x2, S))) else (some (x1, S))
set_option maxHeartbeats 4000000 in
set_option maxRecDepth 100000 in
theorem ok_X12_held {l : Launch} (d : Nat) (x0 : Int32) (x1 : Int32) (x2 : Int32) (S : St) (R : Int32 × St) (hF : F_X12_held x0 x1 x2 S = some R) : Go l (d + 0) mX12_held (Res (some (.int R.1)) R.2) 0 [(0, .int x0), (1, .int x1), (2, .int x2)] [] S := by
  unfold F_X12_held at hF
  refine Go.iload_n dX12_held_0 rfl ?_
  refine Go.iload_n dX12_held_1 rfl ?_
  refine Go.icmpge (tgt := 9) dX12_held_2 (by decide) (fun h_2 => ?_) (fun h_2 => ?_)
  · have hF := ite_t h_2 hF
    refine Go.iload_n dX12_held_9 rfl ?_
    refine Go.iload_n dX12_held_10 rfl ?_
    refine Go.icmple (tgt := 18) dX12_held_11 (by decide) (fun h_11 => ?_) (fun h_11 => ?_)
    · have hF := ite_t h_11 hF
      refine Go.iload_n dX12_held_18 rfl ?_
      obtain rfl := Option.some.inj hF
      exact Go.iret (st := []) dX12_held_19 rfl rfl ⟨rfl, rfl⟩
    · have hF := ite_f h_11 hF
      refine Go.iload_n dX12_held_14 rfl ?_
      refine Go.goto (tgt := 19) dX12_held_15 (by decide) ?_
      obtain rfl := Option.some.inj hF
      exact Go.iret (st := []) dX12_held_19 rfl rfl ⟨rfl, rfl⟩
  · have hF := ite_f h_2 hF
    refine Go.iload_n dX12_held_5 rfl ?_
    refine Go.goto (tgt := 19) dX12_held_6 (by decide) ?_
    obtain rfl := Option.some.inj hF
    exact Go.iret (st := []) dX12_held_19 rfl rfl ⟨rfl, rfl⟩
def F_X12_isLine (x1 : Int32) (S : St) : Option (Int32 × St) :=
  (F_X12_in x1 (0 : Int32) ((S.1 63 1) - 1) S).bind (fun r_8 => gd (decide (r_8.1 = 0 ∨ r_8.1 = 1)) (some (r_8.1, r_8.2)))
set_option maxHeartbeats 4000000 in
set_option maxRecDepth 100000 in
theorem ok_X12_isLine {l : Launch} (d : Nat) (x1 : Int32) (S : St) (R : Int32 × St) (hF : F_X12_isLine x1 S = some R) : Go l (d + 1) mX12_isLine (Res (some (.int R.1)) R.2) 0 [(0, .ref 63), (1, .int x1)] [] S := by
  unfold F_X12_isLine at hF
  refine Go.iload_n dX12_isLine_0 rfl ?_
  refine Go.iconst (v := 0) dX12_isLine_1 (by decide) ?_
  refine Go.aload_n dX12_isLine_2 rfl ?_
  refine Go.getI dX12_isLine_3 fX12_141 rfl ?_
  refine Go.iconst (v := 1) dX12_isLine_6 (by decide) ?_
  refine Go.isub dX12_isLine_7 ?_
  obtain ⟨r_8, hc_8, hF⟩ := Option.bind_eq_some_iff.mp hF
  refine Go.callS [_, _, _] dX12_isLine_8 kX12_in sX12_in lX12_144 rfl rfl (Nat.le_of_ble_eq_true rfl) (Nat.le_of_ble_eq_true rfl) (ok_X12_in (d + 0) _ _ _ _ _ hc_8) ?_
  obtain ⟨hb_11, hF⟩ := gd_some hF
  obtain rfl := Option.some.inj hF
  exact Go.iret (st := []) dX12_isLine_11 rfl (nar01 (of_decide_eq_true hb_11)) ⟨rfl, rfl⟩
def F_X12_isPart (x0 : Int32) (S : St) : Option (Int32 × St) :=
  (F_X12_in x0 (0 : Int32) (5 : Int32) S).bind (fun r_3 => gd (decide (r_3.1 = 0 ∨ r_3.1 = 1)) (some (r_3.1, r_3.2)))
set_option maxHeartbeats 4000000 in
set_option maxRecDepth 100000 in
theorem ok_X12_isPart {l : Launch} (d : Nat) (x0 : Int32) (S : St) (R : Int32 × St) (hF : F_X12_isPart x0 S = some R) : Go l (d + 1) mX12_isPart (Res (some (.int R.1)) R.2) 0 [(0, .int x0)] [] S := by
  unfold F_X12_isPart at hF
  refine Go.iload_n dX12_isPart_0 rfl ?_
  refine Go.iconst (v := 0) dX12_isPart_1 (by decide) ?_
  refine Go.iconst (v := 5) dX12_isPart_2 (by decide) ?_
  obtain ⟨r_3, hc_3, hF⟩ := Option.bind_eq_some_iff.mp hF
  refine Go.callS [_, _, _] dX12_isPart_3 kX12_in sX12_in lX12_144 rfl rfl (Nat.le_of_ble_eq_true rfl) (Nat.le_of_ble_eq_true rfl) (ok_X12_in (d + 0) _ _ _ _ _ hc_3) ?_
  obtain ⟨hb_6, hF⟩ := gd_some hF
  obtain rfl := Option.some.inj hF
  exact Go.iret (st := []) dX12_isPart_6 rfl (nar01 (of_decide_eq_true hb_6)) ⟨rfl, rfl⟩
def F_X12_addLine (x1 : Int32) (x2 : Int32) (x3 : Int32) (x4 : Int32) (x5 : Int32) (x6 : Int32) (S : St) : Option (Int32 × St) :=
  gd (inb (S.1 63 1) 20) (let S9 := aset S 64 (upd (S.2.1 64) (Int32.toNatClampNeg (S.1 63 1)) x1); gd (inb (S9.1 63 1) 20) (let S19 := aset S9 65 (upd (S9.2.1 65) (Int32.toNatClampNeg (S9.1 63 1)) x2); gd (inb (S19.1 63 1) 20) (let S29 := aset S19 66 (upd (S19.2.1 66) (Int32.toNatClampNeg (S19.1 63 1)) x3); gd (inb (S29.1 63 1) 20) (let S40 := aset S29 67 (upd (S29.2.1 67) (Int32.toNatClampNeg (S29.1 63 1)) x4); gd (inb (S40.1 63 1) 20) (let S51 := aset S40 68 (upd (S40.2.1 68) (Int32.toNatClampNeg (S40.1 63 1)) x5); gd (inb (S51.1 63 1) 20) (let S62 := aset S51 69 (upd (S51.2.1 69) (Int32.toNatClampNeg (S51.1 63 1)) x6); gd (inb (S62.1 63 1) 20) (let S73 := aset S62 70 (upd (S62.2.1 70) (Int32.toNatClampNeg (S62.1 63 1)) (50 : Int32)); let S81 := fset S73 63 1 ((S73.1 63 1) + 1); some ((S81.1 63 1) - 1, S81))))))))
set_option maxHeartbeats 4000000 in
set_option maxRecDepth 100000 in
theorem ok_X12_addLine {l : Launch} (d : Nat) (x1 : Int32) (x2 : Int32) (x3 : Int32) (x4 : Int32) (x5 : Int32) (x6 : Int32) (S : St) (R : Int32 × St) (hF : F_X12_addLine x1 x2 x3 x4 x5 x6 S = some R) : Go l (d + 0) mX12_addLine (Res (some (.int R.1)) R.2) 0 [(0, .ref 63), (1, .int x1), (2, .int x2), (3, .int x3), (4, .int x4), (5, .int x5), (6, .int x6)] [] S := by
  unfold F_X12_addLine at hF
  refine Go.aload_n dX12_addLine_0 rfl ?_
  refine Go.getR dX12_addLine_1 fX12_7 rfl ?_
  refine Go.aload_n dX12_addLine_4 rfl ?_
  refine Go.getI dX12_addLine_5 fX12_141 rfl ?_
  refine Go.iload_n dX12_addLine_8 rfl ?_
  obtain ⟨hb_9, hF⟩ := gd_some hF
  refine Go.iast dX12_addLine_9 rfl (inb_ok hb_9) ?_
  refine Go.aload_n dX12_addLine_10 rfl ?_
  refine Go.getR dX12_addLine_11 fX12_13 rfl ?_
  refine Go.aload_n dX12_addLine_14 rfl ?_
  refine Go.getI dX12_addLine_15 fX12_141 rfl ?_
  refine Go.iload_n dX12_addLine_18 rfl ?_
  obtain ⟨hb_19, hF⟩ := gd_some hF
  refine Go.iast dX12_addLine_19 rfl (inb_ok hb_19) ?_
  refine Go.aload_n dX12_addLine_20 rfl ?_
  refine Go.getR dX12_addLine_21 fX12_16 rfl ?_
  refine Go.aload_n dX12_addLine_24 rfl ?_
  refine Go.getI dX12_addLine_25 fX12_141 rfl ?_
  refine Go.iload_n dX12_addLine_28 rfl ?_
  obtain ⟨hb_29, hF⟩ := gd_some hF
  refine Go.iast dX12_addLine_29 rfl (inb_ok hb_29) ?_
  refine Go.aload_n dX12_addLine_30 rfl ?_
  refine Go.getR dX12_addLine_31 fX12_19 rfl ?_
  refine Go.aload_n dX12_addLine_34 rfl ?_
  refine Go.getI dX12_addLine_35 fX12_141 rfl ?_
  refine Go.iload dX12_addLine_38 rfl ?_
  obtain ⟨hb_40, hF⟩ := gd_some hF
  refine Go.iast dX12_addLine_40 rfl (inb_ok hb_40) ?_
  refine Go.aload_n dX12_addLine_41 rfl ?_
  refine Go.getR dX12_addLine_42 fX12_22 rfl ?_
  refine Go.aload_n dX12_addLine_45 rfl ?_
  refine Go.getI dX12_addLine_46 fX12_141 rfl ?_
  refine Go.iload dX12_addLine_49 rfl ?_
  obtain ⟨hb_51, hF⟩ := gd_some hF
  refine Go.iast dX12_addLine_51 rfl (inb_ok hb_51) ?_
  refine Go.aload_n dX12_addLine_52 rfl ?_
  refine Go.getR dX12_addLine_53 fX12_25 rfl ?_
  refine Go.aload_n dX12_addLine_56 rfl ?_
  refine Go.getI dX12_addLine_57 fX12_141 rfl ?_
  refine Go.iload dX12_addLine_60 rfl ?_
  obtain ⟨hb_62, hF⟩ := gd_some hF
  refine Go.iast dX12_addLine_62 rfl (inb_ok hb_62) ?_
  refine Go.aload_n dX12_addLine_63 rfl ?_
  refine Go.getR dX12_addLine_64 fX12_28 rfl ?_
  refine Go.aload_n dX12_addLine_67 rfl ?_
  refine Go.getI dX12_addLine_68 fX12_141 rfl ?_
  refine Go.bipush (v := 50) dX12_addLine_71 (by decide) ?_
  obtain ⟨hb_73, hF⟩ := gd_some hF
  refine Go.iast dX12_addLine_73 rfl (inb_ok hb_73) ?_
  refine Go.aload_n dX12_addLine_74 rfl ?_
  refine Go.dup dX12_addLine_75 rfl ?_
  refine Go.getI dX12_addLine_76 fX12_141 rfl ?_
  refine Go.iconst (v := 1) dX12_addLine_79 (by decide) ?_
  refine Go.iadd dX12_addLine_80 ?_
  refine Go.putI dX12_addLine_81 fX12_141 rfl ?_
  refine Go.aload_n dX12_addLine_84 rfl ?_
  refine Go.getI dX12_addLine_85 fX12_141 rfl ?_
  refine Go.iconst (v := 1) dX12_addLine_88 (by decide) ?_
  refine Go.isub dX12_addLine_89 ?_
  obtain rfl := Option.some.inj hF
  exact Go.iret (st := []) dX12_addLine_90 rfl rfl ⟨rfl, rfl⟩
def F_X12_line (x1 : Int32) (x2 : Int32) (x3 : Int32) (S : St) : Option (Int32 × St) :=
  (F_X12_in x1 (0 : Int32) (599 : Int32) S).bind (fun r_5 => if r_5.1 = 0 then (some ((-1), r_5.2)) else ((F_X12_in x2 (1 : Int32) (30 : Int32) r_5.2).bind (fun r_15 => if r_15.1 = 0 then (some ((-1), r_15.2)) else (if x3 < 0 then (some ((-1), r_15.2)) else (if 255 < (x3 / 1000) then (some ((-1), r_15.2)) else (if (x3 - (x3 / 1000) * 1000) ≤ 255 then (if (r_15.2.1 63 1) = 20 then (some ((-3), r_15.2)) else ((F_X12_addLine (x1 / 100) ((x1 / 10) - ((x1 / 10) / 10) * 10) (x1 - (x1 / 10) * 10) x2 (x3 / 1000) (x3 - (x3 / 1000) * 1000) r_15.2).bind (fun r_90 => some (r_90.1, r_90.2)))) else (some ((-1), r_15.2))))))))
set_option maxHeartbeats 4000000 in
set_option maxRecDepth 100000 in
theorem ok_X12_line {l : Launch} (d : Nat) (x1 : Int32) (x2 : Int32) (x3 : Int32) (S : St) (R : Int32 × St) (hF : F_X12_line x1 x2 x3 S = some R) : Go l (d + 1) mX12_line (Res (some (.int R.1)) R.2) 0 [(0, .ref 63), (1, .int x1), (2, .int x2), (3, .int x3)] [] S := by
  unfold F_X12_line at hF
  refine Go.iload_n dX12_line_0 rfl ?_
  refine Go.iconst (v := 0) dX12_line_1 (by decide) ?_
  refine Go.sipush (v := 599) dX12_line_2 (by decide) ?_
  obtain ⟨r_5, hc_5, hF⟩ := Option.bind_eq_some_iff.mp hF
  refine Go.callS [_, _, _] dX12_line_5 kX12_in sX12_in lX12_144 rfl rfl (Nat.le_of_ble_eq_true rfl) (Nat.le_of_ble_eq_true rfl) (ok_X12_in (d + 0) _ _ _ _ _ hc_5) ?_
  refine Go.ifeq (tgt := 47) dX12_line_8 (by decide) (fun h_8 => ?_) (fun h_8 => ?_)
  · have hF := ite_t h_8 hF
    refine Go.iconst (v := (-1)) dX12_line_47 (by decide) ?_
    obtain rfl := Option.some.inj hF
    exact Go.iret (st := []) dX12_line_48 rfl rfl ⟨rfl, rfl⟩
  · have hF := ite_f h_8 hF
    refine Go.iload_n dX12_line_11 rfl ?_
    refine Go.iconst (v := 1) dX12_line_12 (by decide) ?_
    refine Go.bipush (v := 30) dX12_line_13 (by decide) ?_
    obtain ⟨r_15, hc_15, hF⟩ := Option.bind_eq_some_iff.mp hF
    refine Go.callS [_, _, _] dX12_line_15 kX12_in sX12_in lX12_144 rfl rfl (Nat.le_of_ble_eq_true rfl) (Nat.le_of_ble_eq_true rfl) (ok_X12_in (d + 0) _ _ _ _ _ hc_15) ?_
    refine Go.ifeq (tgt := 47) dX12_line_18 (by decide) (fun h_18 => ?_) (fun h_18 => ?_)
    · have hF := ite_t h_18 hF
      refine Go.iconst (v := (-1)) dX12_line_47 (by decide) ?_
      obtain rfl := Option.some.inj hF
      exact Go.iret (st := []) dX12_line_48 rfl rfl ⟨rfl, rfl⟩
    · have hF := ite_f h_18 hF
      refine Go.iload_n dX12_line_21 rfl ?_
      refine Go.iflt (tgt := 47) dX12_line_22 (by decide) (fun h_22 => ?_) (fun h_22 => ?_)
      · have hF := ite_t h_22 hF
        refine Go.iconst (v := (-1)) dX12_line_47 (by decide) ?_
        obtain rfl := Option.some.inj hF
        exact Go.iret (st := []) dX12_line_48 rfl rfl ⟨rfl, rfl⟩
      · have hF := ite_f h_22 hF
        refine Go.iload_n dX12_line_25 rfl ?_
        refine Go.sipush (v := 1000) dX12_line_26 (by decide) ?_
        refine Go.idiv dX12_line_29 (by decide) ?_
        refine Go.sipush (v := 255) dX12_line_30 (by decide) ?_
        refine Go.icmpgt (tgt := 47) dX12_line_33 (by decide) (fun h_33 => ?_) (fun h_33 => ?_)
        · have hF := ite_t h_33 hF
          refine Go.iconst (v := (-1)) dX12_line_47 (by decide) ?_
          obtain rfl := Option.some.inj hF
          exact Go.iret (st := []) dX12_line_48 rfl rfl ⟨rfl, rfl⟩
        · have hF := ite_f h_33 hF
          refine Go.iload_n dX12_line_36 rfl ?_
          refine Go.sipush (v := 1000) dX12_line_37 (by decide) ?_
          refine Go.irem dX12_line_40 (by decide) ?_
          refine Go.sipush (v := 255) dX12_line_41 (by decide) ?_
          refine Go.icmple (tgt := 49) dX12_line_44 (by decide) (fun h_44 => ?_) (fun h_44 => ?_)
          · have hF := ite_t h_44 hF
            refine Go.aload_n dX12_line_49 rfl ?_
            refine Go.getI dX12_line_50 fX12_141 rfl ?_
            refine Go.bipush (v := 20) dX12_line_53 (by decide) ?_
            refine Go.icmpne (tgt := 63) dX12_line_55 (by decide) (fun h_55 => ?_) (fun h_55 => ?_)
            · have hF := ite_f h_55 hF
              refine Go.aload_n dX12_line_63 rfl ?_
              refine Go.iload_n dX12_line_64 rfl ?_
              refine Go.bipush (v := 100) dX12_line_65 (by decide) ?_
              refine Go.idiv dX12_line_67 (by decide) ?_
              refine Go.iload_n dX12_line_68 rfl ?_
              refine Go.bipush (v := 10) dX12_line_69 (by decide) ?_
              refine Go.idiv dX12_line_71 (by decide) ?_
              refine Go.bipush (v := 10) dX12_line_72 (by decide) ?_
              refine Go.irem dX12_line_74 (by decide) ?_
              refine Go.iload_n dX12_line_75 rfl ?_
              refine Go.bipush (v := 10) dX12_line_76 (by decide) ?_
              refine Go.irem dX12_line_78 (by decide) ?_
              refine Go.iload_n dX12_line_79 rfl ?_
              refine Go.iload_n dX12_line_80 rfl ?_
              refine Go.sipush (v := 1000) dX12_line_81 (by decide) ?_
              refine Go.idiv dX12_line_84 (by decide) ?_
              refine Go.iload_n dX12_line_85 rfl ?_
              refine Go.sipush (v := 1000) dX12_line_86 (by decide) ?_
              refine Go.irem dX12_line_89 (by decide) ?_
              obtain ⟨r_90, hc_90, hF⟩ := Option.bind_eq_some_iff.mp hF
              refine Go.callV [_, _, _, _, _, _] dX12_line_90 kX12_addLine vX12_addLine lX12_148 rfl rfl rfl rfl rfl (Nat.le_of_ble_eq_true rfl) (Nat.le_of_ble_eq_true rfl) (ok_X12_addLine (d + 0) _ _ _ _ _ _ _ _ hc_90) ?_
              obtain rfl := Option.some.inj hF
              exact Go.iret (st := []) dX12_line_93 rfl rfl ⟨rfl, rfl⟩
            · have hF := ite_t h_55 hF
              refine Go.bipush (v := (-3)) dX12_line_58 (by decide) ?_
              refine Go.goto (tgt := 93) dX12_line_60 (by decide) ?_
              obtain rfl := Option.some.inj hF
              exact Go.iret (st := []) dX12_line_93 rfl rfl ⟨rfl, rfl⟩
          · have hF := ite_f h_44 hF
            refine Go.iconst (v := (-1)) dX12_line_47 (by decide) ?_
            obtain rfl := Option.some.inj hF
            exact Go.iret (st := []) dX12_line_48 rfl rfl ⟨rfl, rfl⟩
def F_X12_isShelf (x0 : Int32) (S : St) : Option (Int32 × St) :=
  (F_X12_in x0 (0 : Int32) (5 : Int32) S).bind (fun r_3 => gd (decide (r_3.1 = 0 ∨ r_3.1 = 1)) (some (r_3.1, r_3.2)))
set_option maxHeartbeats 4000000 in
set_option maxRecDepth 100000 in
theorem ok_X12_isShelf {l : Launch} (d : Nat) (x0 : Int32) (S : St) (R : Int32 × St) (hF : F_X12_isShelf x0 S = some R) : Go l (d + 1) mX12_isShelf (Res (some (.int R.1)) R.2) 0 [(0, .int x0)] [] S := by
  unfold F_X12_isShelf at hF
  refine Go.iload_n dX12_isShelf_0 rfl ?_
  refine Go.iconst (v := 0) dX12_isShelf_1 (by decide) ?_
  refine Go.iconst (v := 5) dX12_isShelf_2 (by decide) ?_
  obtain ⟨r_3, hc_3, hF⟩ := Option.bind_eq_some_iff.mp hF
  refine Go.callS [_, _, _] dX12_isShelf_3 kX12_in sX12_in lX12_144 rfl rfl (Nat.le_of_ble_eq_true rfl) (Nat.le_of_ble_eq_true rfl) (ok_X12_in (d + 0) _ _ _ _ _ hc_3) ?_
  obtain ⟨hb_6, hF⟩ := gd_some hF
  obtain rfl := Option.some.inj hF
  exact Go.iret (st := []) dX12_isShelf_6 rfl (nar01 (of_decide_eq_true hb_6)) ⟨rfl, rfl⟩
def F_X12_lines_58 : Nat → Int32 → Int32 → Int32 → Int32 → St → Option (Int32 × St)
  | 0 => fun _ _ _ _ _ => none
  | n + 1 => fun x1 x2 x3 x4 S =>
    if x3 ≤ x4 then (some (x3, S)) else (if (lg_cmp ((Int32.toInt64 x2) + (Int32.toInt64 (5 * x4))) 0) < 0 then (some (x4, S)) else (gd (inb x1 6) (if 0 ≤ (lg_cmp (((Int32.toInt64 x2) + (Int32.toInt64 (5 * x4))) + 4) (Int32.toInt64 (S.2.1 101 (Int32.toNatClampNeg x1)))) then (some (x4, S)) else (if (S.1 63 1) = 20 then (some (x4, S)) else (gd (inb ((60 * x1) + (Int64.toInt32 ((Int32.toInt64 x2) + (Int32.toInt64 (5 * x4))))) 360) (gd (inb (((60 * x1) + (Int64.toInt32 ((Int32.toInt64 x2) + (Int32.toInt64 (5 * x4))))) + 1) 360) (gd (inb (((60 * x1) + (Int64.toInt32 ((Int32.toInt64 x2) + (Int32.toInt64 (5 * x4))))) + 2) 360) (gd (inb (((60 * x1) + (Int64.toInt32 ((Int32.toInt64 x2) + (Int32.toInt64 (5 * x4))))) + 3) 360) (gd (inb (((60 * x1) + (Int64.toInt32 ((Int32.toInt64 x2) + (Int32.toInt64 (5 * x4))))) + 4) 360) ((F_X12_isPart (Int64.toInt32 (S.2.2 102 (Int32.toNatClampNeg ((60 * x1) + (Int64.toInt32 ((Int32.toInt64 x2) + (Int32.toInt64 (5 * x4)))))))) S).bind (fun r_180 => if r_180.1 = 0 then (some (x4, r_180.2)) else ((F_X12_in (Int64.toInt32 (S.2.2 102 (Int32.toNatClampNeg (((60 * x1) + (Int64.toInt32 ((Int32.toInt64 x2) + (Int32.toInt64 (5 * x4))))) + 1)))) (0 : Int32) (9 : Int32) r_180.2).bind (fun r_191 => if r_191.1 = 0 then (some (x4, r_191.2)) else ((F_X12_in (Int64.toInt32 (S.2.2 102 (Int32.toNatClampNeg (((60 * x1) + (Int64.toInt32 ((Int32.toInt64 x2) + (Int32.toInt64 (5 * x4))))) + 2)))) (0 : Int32) (9 : Int32) r_191.2).bind (fun r_202 => if r_202.1 = 0 then (some (x4, r_202.2)) else ((F_X12_in (Int64.toInt32 (S.2.2 102 (Int32.toNatClampNeg (((60 * x1) + (Int64.toInt32 ((Int32.toInt64 x2) + (Int32.toInt64 (5 * x4))))) + 3)))) (1 : Int32) (30 : Int32) r_202.2).bind (fun r_213 => if r_213.1 = 0 then (some (x4, r_213.2)) else ((F_X12_in (Int64.toInt32 (S.2.2 102 (Int32.toNatClampNeg (((60 * x1) + (Int64.toInt32 ((Int32.toInt64 x2) + (Int32.toInt64 (5 * x4))))) + 4)))) (0 : Int32) (255 : Int32) r_213.2).bind (fun r_225 => if r_225.1 = 0 then (some (x4, r_225.2)) else ((F_X12_addLine (Int64.toInt32 (S.2.2 102 (Int32.toNatClampNeg ((60 * x1) + (Int64.toInt32 ((Int32.toInt64 x2) + (Int32.toInt64 (5 * x4)))))))) (Int64.toInt32 (S.2.2 102 (Int32.toNatClampNeg (((60 * x1) + (Int64.toInt32 ((Int32.toInt64 x2) + (Int32.toInt64 (5 * x4))))) + 1)))) (Int64.toInt32 (S.2.2 102 (Int32.toNatClampNeg (((60 * x1) + (Int64.toInt32 ((Int32.toInt64 x2) + (Int32.toInt64 (5 * x4))))) + 2)))) (Int64.toInt32 (S.2.2 102 (Int32.toNatClampNeg (((60 * x1) + (Int64.toInt32 ((Int32.toInt64 x2) + (Int32.toInt64 (5 * x4))))) + 3)))) (Int64.toInt32 (S.2.2 102 (Int32.toNatClampNeg (((60 * x1) + (Int64.toInt32 ((Int32.toInt64 x2) + (Int32.toInt64 (5 * x4))))) + 4)))) (0 : Int32) r_225.2).bind (fun r_246 => (F_X12_lines_58 n) x1 x2 x3 (x4 + 1) r_246.2)))))))))))))))))))))
set_option maxHeartbeats 4000000 in
set_option maxRecDepth 100000 in
theorem ok_X12_lines_58 {l : Launch} (d : Nat) : ∀ (n : Nat) (x1 : Int32) (x2 : Int32) (x3 : Int32) (x4 : Int32) (S : St) (R : Int32 × St), F_X12_lines_58 n x1 x2 x3 x4 S = some R → Go l (d + 2) mX12_lines (Res (some (.int R.1)) R.2) 58 [(0, .ref 63), (1, .int x1), (2, .int x2), (3, .int x3), (4, .int x4)] [] S := by
  intro n
  induction n with
  | zero => intro x1 x2 x3 x4 S  R hF; cases hF
  | succ n hk58 =>
    intro x1 x2 x3 x4 S  R hF
    have hF : (if x3 ≤ x4 then (some (x3, S)) else (if (lg_cmp ((Int32.toInt64 x2) + (Int32.toInt64 (5 * x4))) 0) < 0 then (some (x4, S)) else (gd (inb x1 6) (if 0 ≤ (lg_cmp (((Int32.toInt64 x2) + (Int32.toInt64 (5 * x4))) + 4) (Int32.toInt64 (S.2.1 101 (Int32.toNatClampNeg x1)))) then (some (x4, S)) else (if (S.1 63 1) = 20 then (some (x4, S)) else (gd (inb ((60 * x1) + (Int64.toInt32 ((Int32.toInt64 x2) + (Int32.toInt64 (5 * x4))))) 360) (gd (inb (((60 * x1) + (Int64.toInt32 ((Int32.toInt64 x2) + (Int32.toInt64 (5 * x4))))) + 1) 360) (gd (inb (((60 * x1) + (Int64.toInt32 ((Int32.toInt64 x2) + (Int32.toInt64 (5 * x4))))) + 2) 360) (gd (inb (((60 * x1) + (Int64.toInt32 ((Int32.toInt64 x2) + (Int32.toInt64 (5 * x4))))) + 3) 360) (gd (inb (((60 * x1) + (Int64.toInt32 ((Int32.toInt64 x2) + (Int32.toInt64 (5 * x4))))) + 4) 360) ((F_X12_isPart (Int64.toInt32 (S.2.2 102 (Int32.toNatClampNeg ((60 * x1) + (Int64.toInt32 ((Int32.toInt64 x2) + (Int32.toInt64 (5 * x4)))))))) S).bind (fun r_180 => if r_180.1 = 0 then (some (x4, r_180.2)) else ((F_X12_in (Int64.toInt32 (S.2.2 102 (Int32.toNatClampNeg (((60 * x1) + (Int64.toInt32 ((Int32.toInt64 x2) + (Int32.toInt64 (5 * x4))))) + 1)))) (0 : Int32) (9 : Int32) r_180.2).bind (fun r_191 => if r_191.1 = 0 then (some (x4, r_191.2)) else ((F_X12_in (Int64.toInt32 (S.2.2 102 (Int32.toNatClampNeg (((60 * x1) + (Int64.toInt32 ((Int32.toInt64 x2) + (Int32.toInt64 (5 * x4))))) + 2)))) (0 : Int32) (9 : Int32) r_191.2).bind (fun r_202 => if r_202.1 = 0 then (some (x4, r_202.2)) else ((F_X12_in (Int64.toInt32 (S.2.2 102 (Int32.toNatClampNeg (((60 * x1) + (Int64.toInt32 ((Int32.toInt64 x2) + (Int32.toInt64 (5 * x4))))) + 3)))) (1 : Int32) (30 : Int32) r_202.2).bind (fun r_213 => if r_213.1 = 0 then (some (x4, r_213.2)) else ((F_X12_in (Int64.toInt32 (S.2.2 102 (Int32.toNatClampNeg (((60 * x1) + (Int64.toInt32 ((Int32.toInt64 x2) + (Int32.toInt64 (5 * x4))))) + 4)))) (0 : Int32) (255 : Int32) r_213.2).bind (fun r_225 => if r_225.1 = 0 then (some (x4, r_225.2)) else ((F_X12_addLine (Int64.toInt32 (S.2.2 102 (Int32.toNatClampNeg ((60 * x1) + (Int64.toInt32 ((Int32.toInt64 x2) + (Int32.toInt64 (5 * x4)))))))) (Int64.toInt32 (S.2.2 102 (Int32.toNatClampNeg (((60 * x1) + (Int64.toInt32 ((Int32.toInt64 x2) + (Int32.toInt64 (5 * x4))))) + 1)))) (Int64.toInt32 (S.2.2 102 (Int32.toNatClampNeg (((60 * x1) + (Int64.toInt32 ((Int32.toInt64 x2) + (Int32.toInt64 (5 * x4))))) + 2)))) (Int64.toInt32 (S.2.2 102 (Int32.toNatClampNeg (((60 * x1) + (Int64.toInt32 ((Int32.toInt64 x2) + (Int32.toInt64 (5 * x4))))) + 3)))) (Int64.toInt32 (S.2.2 102 (Int32.toNatClampNeg (((60 * x1) + (Int64.toInt32 ((Int32.toInt64 x2) + (Int32.toInt64 (5 * x4))))) + 4)))) (0 : Int32) r_225.2).bind (fun r_246 => (F_X12_lines_58 n) x1 x2 x3 (x4 + 1) r_246.2)))))))))))))))))))))) = some R := hF
    refine Go.iload dX12_lines_58 rfl ?_
    refine Go.iload_n dX12_lines_60 rfl ?_
    refine Go.icmpge (tgt := 256) dX12_lines_61 (by decide) (fun h_61 => ?_) (fun h_61 => ?_)
    · have hF := ite_t h_61 hF
      refine Go.iload_n dX12_lines_256 rfl ?_
      obtain rfl := Option.some.inj hF
      exact Go.iret (st := []) dX12_lines_257 rfl rfl ⟨rfl, rfl⟩
    · have hF := ite_f h_61 hF
      refine Go.iload_n dX12_lines_64 rfl ?_
      refine Go.i2l dX12_lines_65 rfl ?_
      refine Go.iconst (v := 5) dX12_lines_66 (by decide) ?_
      refine Go.iload dX12_lines_67 rfl ?_
      refine Go.imul dX12_lines_69 ?_
      refine Go.i2l dX12_lines_70 rfl ?_
      refine Go.ladd dX12_lines_71 ?_
      refine Go.lstore (ls' := [(5, _), (0, _), (1, _), (2, _), (3, _), (4, _)]) dX12_lines_72 (by decide) rfl ?_
      refine Go.lload dX12_lines_74 rfl ?_
      refine Go.lconst (v := 0) dX12_lines_76 (by decide) ?_
      refine Go.lcmp dX12_lines_77 ?_
      refine Go.iflt (tgt := 107) dX12_lines_78 (by decide) (fun h_78 => ?_) (fun h_78 => ?_)
      · have hF := ite_t h_78 hF
        refine Go.iload dX12_lines_107 rfl ?_
        obtain rfl := Option.some.inj hF
        exact Go.iret (st := []) dX12_lines_109 rfl rfl ⟨rfl, rfl⟩
      · have hF := ite_f h_78 hF
        refine Go.lload dX12_lines_81 rfl ?_
        refine Go.ldc2_w dX12_lines_83 qX12_156 ?_
        refine Go.ladd dX12_lines_86 ?_
        refine Go.aload_n dX12_lines_87 rfl ?_
        refine Go.getR dX12_lines_88 fX12_128 rfl ?_
        refine Go.iload_n dX12_lines_91 rfl ?_
        obtain ⟨hb_92, hF⟩ := gd_some hF
        refine Go.iald dX12_lines_92 rfl (inb_ok hb_92) ?_
        refine Go.i2l dX12_lines_93 rfl ?_
        refine Go.lcmp dX12_lines_94 ?_
        refine Go.ifge (tgt := 107) dX12_lines_95 (by decide) (fun h_95 => ?_) (fun h_95 => ?_)
        · have hF := ite_t h_95 hF
          refine Go.iload dX12_lines_107 rfl ?_
          obtain rfl := Option.some.inj hF
          exact Go.iret (st := []) dX12_lines_109 rfl rfl ⟨rfl, rfl⟩
        · have hF := ite_f h_95 hF
          refine Go.aload_n dX12_lines_98 rfl ?_
          refine Go.getI dX12_lines_99 fX12_141 rfl ?_
          refine Go.bipush (v := 20) dX12_lines_102 (by decide) ?_
          refine Go.icmpne (tgt := 110) dX12_lines_104 (by decide) (fun h_104 => ?_) (fun h_104 => ?_)
          · have hF := ite_f h_104 hF
            refine Go.bipush (v := 60) dX12_lines_110 (by decide) ?_
            refine Go.iload_n dX12_lines_112 rfl ?_
            refine Go.imul dX12_lines_113 ?_
            refine Go.lload dX12_lines_114 rfl ?_
            refine Go.l2i dX12_lines_116 rfl ?_
            refine Go.iadd dX12_lines_117 ?_
            refine Go.istore (ls' := [(7, _), (5, _), (0, _), (1, _), (2, _), (3, _), (4, _)]) dX12_lines_118 (by decide) rfl ?_
            refine Go.aload_n dX12_lines_120 rfl ?_
            refine Go.getR dX12_lines_121 fX12_131 rfl ?_
            refine Go.iload dX12_lines_124 rfl ?_
            obtain ⟨hb_126, hF⟩ := gd_some hF
            refine Go.lald dX12_lines_126 rfl (inb_ok hb_126) ?_
            refine Go.l2i dX12_lines_127 rfl ?_
            refine Go.istore (ls' := [(8, _), (7, _), (5, _), (0, _), (1, _), (2, _), (3, _), (4, _)]) dX12_lines_128 (by decide) rfl ?_
            refine Go.aload_n dX12_lines_130 rfl ?_
            refine Go.getR dX12_lines_131 fX12_131 rfl ?_
            refine Go.iload dX12_lines_134 rfl ?_
            refine Go.iconst (v := 1) dX12_lines_136 (by decide) ?_
            refine Go.iadd dX12_lines_137 ?_
            obtain ⟨hb_138, hF⟩ := gd_some hF
            refine Go.lald dX12_lines_138 rfl (inb_ok hb_138) ?_
            refine Go.l2i dX12_lines_139 rfl ?_
            refine Go.istore (ls' := [(9, _), (8, _), (7, _), (5, _), (0, _), (1, _), (2, _), (3, _), (4, _)]) dX12_lines_140 (by decide) rfl ?_
            refine Go.aload_n dX12_lines_142 rfl ?_
            refine Go.getR dX12_lines_143 fX12_131 rfl ?_
            refine Go.iload dX12_lines_146 rfl ?_
            refine Go.iconst (v := 2) dX12_lines_148 (by decide) ?_
            refine Go.iadd dX12_lines_149 ?_
            obtain ⟨hb_150, hF⟩ := gd_some hF
            refine Go.lald dX12_lines_150 rfl (inb_ok hb_150) ?_
            refine Go.l2i dX12_lines_151 rfl ?_
            refine Go.istore (ls' := [(10, _), (9, _), (8, _), (7, _), (5, _), (0, _), (1, _), (2, _), (3, _), (4, _)]) dX12_lines_152 (by decide) rfl ?_
            refine Go.aload_n dX12_lines_154 rfl ?_
            refine Go.getR dX12_lines_155 fX12_131 rfl ?_
            refine Go.iload dX12_lines_158 rfl ?_
            refine Go.iconst (v := 3) dX12_lines_160 (by decide) ?_
            refine Go.iadd dX12_lines_161 ?_
            obtain ⟨hb_162, hF⟩ := gd_some hF
            refine Go.lald dX12_lines_162 rfl (inb_ok hb_162) ?_
            refine Go.l2i dX12_lines_163 rfl ?_
            refine Go.istore (ls' := [(11, _), (10, _), (9, _), (8, _), (7, _), (5, _), (0, _), (1, _), (2, _), (3, _), (4, _)]) dX12_lines_164 (by decide) rfl ?_
            refine Go.aload_n dX12_lines_166 rfl ?_
            refine Go.getR dX12_lines_167 fX12_131 rfl ?_
            refine Go.iload dX12_lines_170 rfl ?_
            refine Go.iconst (v := 4) dX12_lines_172 (by decide) ?_
            refine Go.iadd dX12_lines_173 ?_
            obtain ⟨hb_174, hF⟩ := gd_some hF
            refine Go.lald dX12_lines_174 rfl (inb_ok hb_174) ?_
            refine Go.l2i dX12_lines_175 rfl ?_
            refine Go.istore (ls' := [(12, _), (11, _), (10, _), (9, _), (8, _), (7, _), (5, _), (0, _), (1, _), (2, _), (3, _), (4, _)]) dX12_lines_176 (by decide) rfl ?_
            refine Go.iload dX12_lines_178 rfl ?_
            obtain ⟨r_180, hc_180, hF⟩ := Option.bind_eq_some_iff.mp hF
            refine Go.callS [_] dX12_lines_180 kX12_isPart sX12_isPart lX12_158 rfl rfl (Nat.le_of_ble_eq_true rfl) (Nat.le_of_ble_eq_true rfl) (ok_X12_isPart (d + 0) _ _ _ hc_180) ?_
            refine Go.ifeq (tgt := 231) dX12_lines_183 (by decide) (fun h_183 => ?_) (fun h_183 => ?_)
            · have hF := ite_t h_183 hF
              refine Go.iload dX12_lines_231 rfl ?_
              obtain rfl := Option.some.inj hF
              exact Go.iret (st := []) dX12_lines_233 rfl rfl ⟨rfl, rfl⟩
            · have hF := ite_f h_183 hF
              refine Go.iload dX12_lines_186 rfl ?_
              refine Go.iconst (v := 0) dX12_lines_188 (by decide) ?_
              refine Go.bipush (v := 9) dX12_lines_189 (by decide) ?_
              obtain ⟨r_191, hc_191, hF⟩ := Option.bind_eq_some_iff.mp hF
              refine Go.callS [_, _, _] dX12_lines_191 kX12_in sX12_in lX12_144 rfl rfl (Nat.le_of_ble_eq_true rfl) (Nat.le_of_ble_eq_true rfl) (ok_X12_in (d + 1) _ _ _ _ _ hc_191) ?_
              refine Go.ifeq (tgt := 231) dX12_lines_194 (by decide) (fun h_194 => ?_) (fun h_194 => ?_)
              · have hF := ite_t h_194 hF
                refine Go.iload dX12_lines_231 rfl ?_
                obtain rfl := Option.some.inj hF
                exact Go.iret (st := []) dX12_lines_233 rfl rfl ⟨rfl, rfl⟩
              · have hF := ite_f h_194 hF
                refine Go.iload dX12_lines_197 rfl ?_
                refine Go.iconst (v := 0) dX12_lines_199 (by decide) ?_
                refine Go.bipush (v := 9) dX12_lines_200 (by decide) ?_
                obtain ⟨r_202, hc_202, hF⟩ := Option.bind_eq_some_iff.mp hF
                refine Go.callS [_, _, _] dX12_lines_202 kX12_in sX12_in lX12_144 rfl rfl (Nat.le_of_ble_eq_true rfl) (Nat.le_of_ble_eq_true rfl) (ok_X12_in (d + 1) _ _ _ _ _ hc_202) ?_
                refine Go.ifeq (tgt := 231) dX12_lines_205 (by decide) (fun h_205 => ?_) (fun h_205 => ?_)
                · have hF := ite_t h_205 hF
                  refine Go.iload dX12_lines_231 rfl ?_
                  obtain rfl := Option.some.inj hF
                  exact Go.iret (st := []) dX12_lines_233 rfl rfl ⟨rfl, rfl⟩
                · have hF := ite_f h_205 hF
                  refine Go.iload dX12_lines_208 rfl ?_
                  refine Go.iconst (v := 1) dX12_lines_210 (by decide) ?_
                  refine Go.bipush (v := 30) dX12_lines_211 (by decide) ?_
                  obtain ⟨r_213, hc_213, hF⟩ := Option.bind_eq_some_iff.mp hF
                  refine Go.callS [_, _, _] dX12_lines_213 kX12_in sX12_in lX12_144 rfl rfl (Nat.le_of_ble_eq_true rfl) (Nat.le_of_ble_eq_true rfl) (ok_X12_in (d + 1) _ _ _ _ _ hc_213) ?_
                  refine Go.ifeq (tgt := 231) dX12_lines_216 (by decide) (fun h_216 => ?_) (fun h_216 => ?_)
                  · have hF := ite_t h_216 hF
                    refine Go.iload dX12_lines_231 rfl ?_
                    obtain rfl := Option.some.inj hF
                    exact Go.iret (st := []) dX12_lines_233 rfl rfl ⟨rfl, rfl⟩
                  · have hF := ite_f h_216 hF
                    refine Go.iload dX12_lines_219 rfl ?_
                    refine Go.iconst (v := 0) dX12_lines_221 (by decide) ?_
                    refine Go.sipush (v := 255) dX12_lines_222 (by decide) ?_
                    obtain ⟨r_225, hc_225, hF⟩ := Option.bind_eq_some_iff.mp hF
                    refine Go.callS [_, _, _] dX12_lines_225 kX12_in sX12_in lX12_144 rfl rfl (Nat.le_of_ble_eq_true rfl) (Nat.le_of_ble_eq_true rfl) (ok_X12_in (d + 1) _ _ _ _ _ hc_225) ?_
                    refine Go.ifne (tgt := 234) dX12_lines_228 (by decide) (fun h_228 => ?_) (fun h_228 => ?_)
                    · have hF := ite_f h_228 hF
                      refine Go.aload_n dX12_lines_234 rfl ?_
                      refine Go.iload dX12_lines_235 rfl ?_
                      refine Go.iload dX12_lines_237 rfl ?_
                      refine Go.iload dX12_lines_239 rfl ?_
                      refine Go.iload dX12_lines_241 rfl ?_
                      refine Go.iload dX12_lines_243 rfl ?_
                      refine Go.iconst (v := 0) dX12_lines_245 (by decide) ?_
                      obtain ⟨r_246, hc_246, hF⟩ := Option.bind_eq_some_iff.mp hF
                      refine Go.callV [_, _, _, _, _, _] dX12_lines_246 kX12_addLine vX12_addLine lX12_148 rfl rfl rfl rfl rfl (Nat.le_of_ble_eq_true rfl) (Nat.le_of_ble_eq_true rfl) (ok_X12_addLine (d + 1) _ _ _ _ _ _ _ _ hc_246) ?_
                      refine Go.pop dX12_lines_249 rfl ?_
                      refine Go.iincP (ls' := [(4, _), (12, _), (11, _), (10, _), (9, _), (8, _), (7, _), (5, _), (0, _), (1, _), (2, _), (3, _)]) dX12_lines_250 rfl (by decide) rfl ?_
                      refine Go.goto (tgt := 58) dX12_lines_253 (by decide) ?_
                      refine Go.pick (ls' := [(0, _), (1, _), (2, _), (3, _), (4, _)]) [8, 9, 10, 11, 0] rfl ?_
                      exact hk58 _ _ _ _ _ _ hF
                    · have hF := ite_t h_228 hF
                      refine Go.iload dX12_lines_231 rfl ?_
                      obtain rfl := Option.some.inj hF
                      exact Go.iret (st := []) dX12_lines_233 rfl rfl ⟨rfl, rfl⟩
          · have hF := ite_t h_104 hF
            refine Go.iload dX12_lines_107 rfl ?_
            obtain rfl := Option.some.inj hF
            exact Go.iret (st := []) dX12_lines_109 rfl rfl ⟨rfl, rfl⟩
def F_X12_lines (N : Nat) (x1 : Int32) (x2 : Int32) (x3 : Int32) (S : St) : Option (Int32 × St) :=
  (F_X12_isShelf x1 S).bind (fun r_1 => if r_1.1 = 0 then (some ((-1), r_1.2)) else ((F_X12_in x3 (1 : Int32) (12 : Int32) r_1.2).bind (fun r_11 => if r_11.1 = 0 then (some ((-1), r_11.2)) else (gd (inb x1 6) (if (r_11.2.2.1 100 (Int32.toNatClampNeg x1)) = (-1) then (gd (inb x1 6) (if (r_11.2.2.1 100 (Int32.toNatClampNeg x1)) = (-1) then (some (0, r_11.2)) else (F_X12_lines_58 N x1 x2 x3 0 r_11.2))) else (gd (inb x1 6) (if (r_11.2.2.1 100 (Int32.toNatClampNeg x1)) = (-3) then (gd (inb x1 6) (if (r_11.2.2.1 100 (Int32.toNatClampNeg x1)) = (-1) then (some (0, r_11.2)) else (F_X12_lines_58 N x1 x2 x3 0 r_11.2))) else (some ((-12), r_11.2)))))))))
set_option maxHeartbeats 4000000 in
set_option maxRecDepth 100000 in
theorem ok_X12_lines {l : Launch} (d : Nat) (N : Nat) (x1 : Int32) (x2 : Int32) (x3 : Int32) (S : St) (R : Int32 × St) (hF : F_X12_lines N x1 x2 x3 S = some R) : Go l (d + 2) mX12_lines (Res (some (.int R.1)) R.2) 0 [(0, .ref 63), (1, .int x1), (2, .int x2), (3, .int x3)] [] S := by
  unfold F_X12_lines at hF
  refine Go.iload_n dX12_lines_0 rfl ?_
  obtain ⟨r_1, hc_1, hF⟩ := Option.bind_eq_some_iff.mp hF
  refine Go.callS [_] dX12_lines_1 kX12_isShelf sX12_isShelf lX12_152 rfl rfl (Nat.le_of_ble_eq_true rfl) (Nat.le_of_ble_eq_true rfl) (ok_X12_isShelf (d + 0) _ _ _ hc_1) ?_
  refine Go.ifeq (tgt := 17) dX12_lines_4 (by decide) (fun h_4 => ?_) (fun h_4 => ?_)
  · have hF := ite_t h_4 hF
    refine Go.iconst (v := (-1)) dX12_lines_17 (by decide) ?_
    obtain rfl := Option.some.inj hF
    exact Go.iret (st := []) dX12_lines_18 rfl rfl ⟨rfl, rfl⟩
  · have hF := ite_f h_4 hF
    refine Go.iload_n dX12_lines_7 rfl ?_
    refine Go.iconst (v := 1) dX12_lines_8 (by decide) ?_
    refine Go.bipush (v := 12) dX12_lines_9 (by decide) ?_
    obtain ⟨r_11, hc_11, hF⟩ := Option.bind_eq_some_iff.mp hF
    refine Go.callS [_, _, _] dX12_lines_11 kX12_in sX12_in lX12_144 rfl rfl (Nat.le_of_ble_eq_true rfl) (Nat.le_of_ble_eq_true rfl) (ok_X12_in (d + 1) _ _ _ _ _ hc_11) ?_
    refine Go.ifne (tgt := 19) dX12_lines_14 (by decide) (fun h_14 => ?_) (fun h_14 => ?_)
    · have hF := ite_f h_14 hF
      refine Go.aload_n dX12_lines_19 rfl ?_
      refine Go.getR dX12_lines_20 fX12_125 rfl ?_
      refine Go.iload_n dX12_lines_23 rfl ?_
      obtain ⟨hb_24, hF⟩ := gd_some hF
      refine Go.iald dX12_lines_24 rfl (inb_ok hb_24) ?_
      refine Go.iconst (v := (-1)) dX12_lines_25 (by decide) ?_
      refine Go.icmpeq (tgt := 43) dX12_lines_26 (by decide) (fun h_26 => ?_) (fun h_26 => ?_)
      · have hF := ite_t h_26 hF
        refine Go.aload_n dX12_lines_43 rfl ?_
        refine Go.getR dX12_lines_44 fX12_125 rfl ?_
        refine Go.iload_n dX12_lines_47 rfl ?_
        obtain ⟨hb_48, hF⟩ := gd_some hF
        refine Go.iald dX12_lines_48 rfl (inb_ok hb_48) ?_
        refine Go.iconst (v := (-1)) dX12_lines_49 (by decide) ?_
        refine Go.icmpne (tgt := 55) dX12_lines_50 (by decide) (fun h_50 => ?_) (fun h_50 => ?_)
        · have hF := ite_f h_50 hF
          refine Go.iconst (v := 0) dX12_lines_55 (by decide) ?_
          refine Go.istore (ls' := [(4, _), (0, _), (1, _), (2, _), (3, _)]) dX12_lines_56 (by decide) rfl ?_
          refine Go.pick (ls' := [(0, _), (1, _), (2, _), (3, _), (4, _)]) [1, 2, 3, 4, 0] rfl ?_
          exact ok_X12_lines_58 d N _ _ _ _ _ _ hF
        · have hF := ite_t h_50 hF
          refine Go.iconst (v := 0) dX12_lines_53 (by decide) ?_
          obtain rfl := Option.some.inj hF
          exact Go.iret (st := []) dX12_lines_54 rfl rfl ⟨rfl, rfl⟩
      · have hF := ite_f h_26 hF
        refine Go.aload_n dX12_lines_29 rfl ?_
        refine Go.getR dX12_lines_30 fX12_125 rfl ?_
        refine Go.iload_n dX12_lines_33 rfl ?_
        obtain ⟨hb_34, hF⟩ := gd_some hF
        refine Go.iald dX12_lines_34 rfl (inb_ok hb_34) ?_
        refine Go.bipush (v := (-3)) dX12_lines_35 (by decide) ?_
        refine Go.icmpeq (tgt := 43) dX12_lines_37 (by decide) (fun h_37 => ?_) (fun h_37 => ?_)
        · have hF := ite_t h_37 hF
          refine Go.aload_n dX12_lines_43 rfl ?_
          refine Go.getR dX12_lines_44 fX12_125 rfl ?_
          refine Go.iload_n dX12_lines_47 rfl ?_
          obtain ⟨hb_48, hF⟩ := gd_some hF
          refine Go.iald dX12_lines_48 rfl (inb_ok hb_48) ?_
          refine Go.iconst (v := (-1)) dX12_lines_49 (by decide) ?_
          refine Go.icmpne (tgt := 55) dX12_lines_50 (by decide) (fun h_50 => ?_) (fun h_50 => ?_)
          · have hF := ite_f h_50 hF
            refine Go.iconst (v := 0) dX12_lines_55 (by decide) ?_
            refine Go.istore (ls' := [(4, _), (0, _), (1, _), (2, _), (3, _)]) dX12_lines_56 (by decide) rfl ?_
            refine Go.pick (ls' := [(0, _), (1, _), (2, _), (3, _), (4, _)]) [1, 2, 3, 4, 0] rfl ?_
            exact ok_X12_lines_58 d N _ _ _ _ _ _ hF
          · have hF := ite_t h_50 hF
            refine Go.iconst (v := 0) dX12_lines_53 (by decide) ?_
            obtain rfl := Option.some.inj hF
            exact Go.iret (st := []) dX12_lines_54 rfl rfl ⟨rfl, rfl⟩
        · have hF := ite_f h_37 hF
          refine Go.bipush (v := (-12)) dX12_lines_40 (by decide) ?_
          obtain rfl := Option.some.inj hF
          exact Go.iret (st := []) dX12_lines_42 rfl rfl ⟨rfl, rfl⟩
    · have hF := ite_t h_14 hF
      refine Go.iconst (v := (-1)) dX12_lines_17 (by decide) ?_
      obtain rfl := Option.some.inj hF
      exact Go.iret (st := []) dX12_lines_18 rfl rfl ⟨rfl, rfl⟩
def F_X12_set (x1 : Int32) (x2 : Int32) (S : St) : Option (Int32 × St) :=
  (F_X12_in x1 (0 : Int32) (1 : Int32) S).bind (fun r_3 => if r_3.1 = 0 then (some ((-1), r_3.2)) else ((F_X12_in x2 (0 : Int32) (9 : Int32) r_3.2).bind (fun r_13 => if r_13.1 = 0 then (some ((-1), r_13.2)) else (if x1 = 0 then (if x1 = 0 then (let S43 := fset r_13.2 63 10 x2; some (r_13.2.1 63 10, S43)) else (let S51 := fset r_13.2 63 11 x2; some (r_13.2.1 63 10, S51))) else (if x1 = 0 then (let S43 := fset r_13.2 63 10 x2; some (r_13.2.1 63 11, S43)) else (let S51 := fset r_13.2 63 11 x2; some (r_13.2.1 63 11, S51)))))))
set_option maxHeartbeats 4000000 in
set_option maxRecDepth 100000 in
theorem ok_X12_set {l : Launch} (d : Nat) (x1 : Int32) (x2 : Int32) (S : St) (R : Int32 × St) (hF : F_X12_set x1 x2 S = some R) : Go l (d + 1) mX12_set (Res (some (.int R.1)) R.2) 0 [(0, .ref 63), (1, .int x1), (2, .int x2)] [] S := by
  unfold F_X12_set at hF
  refine Go.iload_n dX12_set_0 rfl ?_
  refine Go.iconst (v := 0) dX12_set_1 (by decide) ?_
  refine Go.iconst (v := 1) dX12_set_2 (by decide) ?_
  obtain ⟨r_3, hc_3, hF⟩ := Option.bind_eq_some_iff.mp hF
  refine Go.callS [_, _, _] dX12_set_3 kX12_in sX12_in lX12_144 rfl rfl (Nat.le_of_ble_eq_true rfl) (Nat.le_of_ble_eq_true rfl) (ok_X12_in (d + 0) _ _ _ _ _ hc_3) ?_
  refine Go.ifeq (tgt := 19) dX12_set_6 (by decide) (fun h_6 => ?_) (fun h_6 => ?_)
  · have hF := ite_t h_6 hF
    refine Go.iconst (v := (-1)) dX12_set_19 (by decide) ?_
    obtain rfl := Option.some.inj hF
    exact Go.iret (st := []) dX12_set_20 rfl rfl ⟨rfl, rfl⟩
  · have hF := ite_f h_6 hF
    refine Go.iload_n dX12_set_9 rfl ?_
    refine Go.iconst (v := 0) dX12_set_10 (by decide) ?_
    refine Go.bipush (v := 9) dX12_set_11 (by decide) ?_
    obtain ⟨r_13, hc_13, hF⟩ := Option.bind_eq_some_iff.mp hF
    refine Go.callS [_, _, _] dX12_set_13 kX12_in sX12_in lX12_144 rfl rfl (Nat.le_of_ble_eq_true rfl) (Nat.le_of_ble_eq_true rfl) (ok_X12_in (d + 0) _ _ _ _ _ hc_13) ?_
    refine Go.ifne (tgt := 21) dX12_set_16 (by decide) (fun h_16 => ?_) (fun h_16 => ?_)
    · have hF := ite_f h_16 hF
      refine Go.iload_n dX12_set_21 rfl ?_
      refine Go.ifne (tgt := 32) dX12_set_22 (by decide) (fun h_22 => ?_) (fun h_22 => ?_)
      · have hF := ite_f h_22 hF
        refine Go.aload_n dX12_set_32 rfl ?_
        refine Go.getI dX12_set_33 fX12_161 rfl ?_
        refine Go.istore_n (ls' := [(3, _), (0, _), (1, _), (2, _)]) dX12_set_36 (by decide) rfl ?_
        refine Go.iload_n dX12_set_37 rfl ?_
        refine Go.ifne (tgt := 49) dX12_set_38 (by decide) (fun h_38 => ?_) (fun h_38 => ?_)
        · have hF := ite_f h_38 hF
          refine Go.aload_n dX12_set_49 rfl ?_
          refine Go.iload_n dX12_set_50 rfl ?_
          refine Go.putI dX12_set_51 fX12_161 rfl ?_
          refine Go.iload_n dX12_set_54 rfl ?_
          obtain rfl := Option.some.inj hF
          exact Go.iret (st := []) dX12_set_55 rfl rfl ⟨rfl, rfl⟩
        · have hF := ite_t h_38 hF
          refine Go.aload_n dX12_set_41 rfl ?_
          refine Go.iload_n dX12_set_42 rfl ?_
          refine Go.putI dX12_set_43 fX12_34 rfl ?_
          refine Go.goto (tgt := 54) dX12_set_46 (by decide) ?_
          refine Go.iload_n dX12_set_54 rfl ?_
          obtain rfl := Option.some.inj hF
          exact Go.iret (st := []) dX12_set_55 rfl rfl ⟨rfl, rfl⟩
      · have hF := ite_t h_22 hF
        refine Go.aload_n dX12_set_25 rfl ?_
        refine Go.getI dX12_set_26 fX12_34 rfl ?_
        refine Go.goto (tgt := 36) dX12_set_29 (by decide) ?_
        refine Go.istore_n (ls' := [(3, _), (0, _), (1, _), (2, _)]) dX12_set_36 (by decide) rfl ?_
        refine Go.iload_n dX12_set_37 rfl ?_
        refine Go.ifne (tgt := 49) dX12_set_38 (by decide) (fun h_38 => ?_) (fun h_38 => ?_)
        · have hF := ite_f h_38 hF
          refine Go.aload_n dX12_set_49 rfl ?_
          refine Go.iload_n dX12_set_50 rfl ?_
          refine Go.putI dX12_set_51 fX12_161 rfl ?_
          refine Go.iload_n dX12_set_54 rfl ?_
          obtain rfl := Option.some.inj hF
          exact Go.iret (st := []) dX12_set_55 rfl rfl ⟨rfl, rfl⟩
        · have hF := ite_t h_38 hF
          refine Go.aload_n dX12_set_41 rfl ?_
          refine Go.iload_n dX12_set_42 rfl ?_
          refine Go.putI dX12_set_43 fX12_34 rfl ?_
          refine Go.goto (tgt := 54) dX12_set_46 (by decide) ?_
          refine Go.iload_n dX12_set_54 rfl ?_
          obtain rfl := Option.some.inj hF
          exact Go.iret (st := []) dX12_set_55 rfl rfl ⟨rfl, rfl⟩
    · have hF := ite_t h_16 hF
      refine Go.iconst (v := (-1)) dX12_set_19 (by decide) ?_
      obtain rfl := Option.some.inj hF
      exact Go.iret (st := []) dX12_set_20 rfl rfl ⟨rfl, rfl⟩
def F_X12_valueAt (x1 : Int32) (x2 : Int32) (S : St) : Option (Int32 × St) :=
  if x1 = 0 then (gd (inb x2 20) (some (S.2.1 70 (Int32.toNatClampNeg x2), S))) else (gd (inb x2 6) (some (S.2.1 71 (Int32.toNatClampNeg x2), S)))
set_option maxHeartbeats 4000000 in
set_option maxRecDepth 100000 in
theorem ok_X12_valueAt {l : Launch} (d : Nat) (x1 : Int32) (x2 : Int32) (S : St) (R : Int32 × St) (hF : F_X12_valueAt x1 x2 S = some R) : Go l (d + 0) mX12_valueAt (Res (some (.int R.1)) R.2) 0 [(0, .ref 63), (1, .int x1), (2, .int x2)] [] S := by
  unfold F_X12_valueAt at hF
  refine Go.iload_n dX12_valueAt_0 rfl ?_
  refine Go.ifne (tgt := 13) dX12_valueAt_1 (by decide) (fun h_1 => ?_) (fun h_1 => ?_)
  · have hF := ite_f h_1 hF
    refine Go.aload_n dX12_valueAt_13 rfl ?_
    refine Go.getR dX12_valueAt_14 fX12_31 rfl ?_
    refine Go.iload_n dX12_valueAt_17 rfl ?_
    obtain ⟨hb_18, hF⟩ := gd_some hF
    refine Go.iald dX12_valueAt_18 rfl (inb_ok hb_18) ?_
    obtain rfl := Option.some.inj hF
    exact Go.iret (st := []) dX12_valueAt_19 rfl rfl ⟨rfl, rfl⟩
  · have hF := ite_t h_1 hF
    refine Go.aload_n dX12_valueAt_4 rfl ?_
    refine Go.getR dX12_valueAt_5 fX12_28 rfl ?_
    refine Go.iload_n dX12_valueAt_8 rfl ?_
    obtain ⟨hb_9, hF⟩ := gd_some hF
    refine Go.iald dX12_valueAt_9 rfl (inb_ok hb_9) ?_
    refine Go.goto (tgt := 19) dX12_valueAt_10 (by decide) ?_
    obtain rfl := Option.some.inj hF
    exact Go.iret (st := []) dX12_valueAt_19 rfl rfl ⟨rfl, rfl⟩
def F_X12_lays (x1 : Int32) (x2 : Int32) (x3 : Int32) (S : St) : Option (St) :=
  if x1 = 0 then (gd (inb x2 20) (let S10 := aset S 70 (upd (S.2.1 70) (Int32.toNatClampNeg x2) x3); some S10)) else (gd (inb x2 6) (let S20 := aset S 71 (upd (S.2.1 71) (Int32.toNatClampNeg x2) x3); some S20))
set_option maxHeartbeats 4000000 in
set_option maxRecDepth 100000 in
theorem ok_X12_lays {l : Launch} (d : Nat) (x1 : Int32) (x2 : Int32) (x3 : Int32) (S : St) (R : St) (hF : F_X12_lays x1 x2 x3 S = some R) : Go l (d + 0) mX12_lays (Res none R) 0 [(0, .ref 63), (1, .int x1), (2, .int x2), (3, .int x3)] [] S := by
  unfold F_X12_lays at hF
  refine Go.iload_n dX12_lays_0 rfl ?_
  refine Go.ifne (tgt := 14) dX12_lays_1 (by decide) (fun h_1 => ?_) (fun h_1 => ?_)
  · have hF := ite_f h_1 hF
    refine Go.aload_n dX12_lays_14 rfl ?_
    refine Go.getR dX12_lays_15 fX12_31 rfl ?_
    refine Go.iload_n dX12_lays_18 rfl ?_
    refine Go.iload_n dX12_lays_19 rfl ?_
    obtain ⟨hb_20, hF⟩ := gd_some hF
    refine Go.iast dX12_lays_20 rfl (inb_ok hb_20) ?_
    obtain rfl := Option.some.inj hF
    exact Go.vret (st := []) dX12_lays_21 rfl ⟨rfl, rfl⟩
  · have hF := ite_t h_1 hF
    refine Go.aload_n dX12_lays_4 rfl ?_
    refine Go.getR dX12_lays_5 fX12_28 rfl ?_
    refine Go.iload_n dX12_lays_8 rfl ?_
    refine Go.iload_n dX12_lays_9 rfl ?_
    obtain ⟨hb_10, hF⟩ := gd_some hF
    refine Go.iast dX12_lays_10 rfl (inb_ok hb_10) ?_
    refine Go.goto (tgt := 21) dX12_lays_11 (by decide) ?_
    obtain rfl := Option.some.inj hF
    exact Go.vret (st := []) dX12_lays_21 rfl ⟨rfl, rfl⟩
def F_X12_changes_121 (x1 : Int32) (x2 : Int32) (x3 : Int32) (x4 : Int32) (S : St) : Option (Int32 × St) :=
  gd (inb (S.1 63 12) 40) (let S130 := aset S 72 (upd (S.2.1 72) (Int32.toNatClampNeg (S.1 63 12)) x1); gd (inb (S130.1 63 12) 40) (let S140 := aset S130 73 (upd (S130.2.1 73) (Int32.toNatClampNeg (S130.1 63 12)) x2); gd (inb (S140.1 63 12) 40) (let S151 := aset S140 74 (upd (S140.2.1 74) (Int32.toNatClampNeg (S140.1 63 12)) x4); gd (inb (S151.1 63 12) 40) (let S161 := aset S151 75 (upd (S151.2.1 75) (Int32.toNatClampNeg (S151.1 63 12)) x3); let S169 := fset S161 63 12 ((S161.1 63 12) + 1); (F_X12_lays x1 x2 x3 S169).bind (fun r_176 => some (x4, r_176))))))
set_option maxHeartbeats 4000000 in
set_option maxRecDepth 100000 in
theorem ok_X12_changes_121 {l : Launch} (d : Nat) (x1 : Int32) (x2 : Int32) (x3 : Int32) (x4 : Int32) (S : St) (R : Int32 × St) (hF : F_X12_changes_121 x1 x2 x3 x4 S = some R) : Go l (d + 1) mX12_changes (Res (some (.int R.1)) R.2) 121 [(0, .ref 63), (1, .int x1), (2, .int x2), (3, .int x3), (4, .int x4)] [] S := by
  unfold F_X12_changes_121 at hF
  refine Go.aload_n dX12_changes_121 rfl ?_
  refine Go.getR dX12_changes_122 fX12_38 rfl ?_
  refine Go.aload_n dX12_changes_125 rfl ?_
  refine Go.getI dX12_changes_126 fX12_171 rfl ?_
  refine Go.iload_n dX12_changes_129 rfl ?_
  obtain ⟨hb_130, hF⟩ := gd_some hF
  refine Go.iast dX12_changes_130 rfl (inb_ok hb_130) ?_
  refine Go.aload_n dX12_changes_131 rfl ?_
  refine Go.getR dX12_changes_132 fX12_41 rfl ?_
  refine Go.aload_n dX12_changes_135 rfl ?_
  refine Go.getI dX12_changes_136 fX12_171 rfl ?_
  refine Go.iload_n dX12_changes_139 rfl ?_
  obtain ⟨hb_140, hF⟩ := gd_some hF
  refine Go.iast dX12_changes_140 rfl (inb_ok hb_140) ?_
  refine Go.aload_n dX12_changes_141 rfl ?_
  refine Go.getR dX12_changes_142 fX12_44 rfl ?_
  refine Go.aload_n dX12_changes_145 rfl ?_
  refine Go.getI dX12_changes_146 fX12_171 rfl ?_
  refine Go.iload dX12_changes_149 rfl ?_
  obtain ⟨hb_151, hF⟩ := gd_some hF
  refine Go.iast dX12_changes_151 rfl (inb_ok hb_151) ?_
  refine Go.aload_n dX12_changes_152 rfl ?_
  refine Go.getR dX12_changes_153 fX12_47 rfl ?_
  refine Go.aload_n dX12_changes_156 rfl ?_
  refine Go.getI dX12_changes_157 fX12_171 rfl ?_
  refine Go.iload_n dX12_changes_160 rfl ?_
  obtain ⟨hb_161, hF⟩ := gd_some hF
  refine Go.iast dX12_changes_161 rfl (inb_ok hb_161) ?_
  refine Go.aload_n dX12_changes_162 rfl ?_
  refine Go.dup dX12_changes_163 rfl ?_
  refine Go.getI dX12_changes_164 fX12_171 rfl ?_
  refine Go.iconst (v := 1) dX12_changes_167 (by decide) ?_
  refine Go.iadd dX12_changes_168 ?_
  refine Go.putI dX12_changes_169 fX12_171 rfl ?_
  refine Go.aload_n dX12_changes_172 rfl ?_
  refine Go.iload_n dX12_changes_173 rfl ?_
  refine Go.iload_n dX12_changes_174 rfl ?_
  refine Go.iload_n dX12_changes_175 rfl ?_
  obtain ⟨r_176, hc_176, hF⟩ := Option.bind_eq_some_iff.mp hF
  refine Go.callV [_, _, _] dX12_changes_176 kX12_lays vX12_lays lX12_174 rfl rfl rfl rfl rfl (Nat.le_of_ble_eq_true rfl) (Nat.le_of_ble_eq_true rfl) (ok_X12_lays (d + 0) _ _ _ _ _ hc_176) ?_
  refine Go.iload dX12_changes_179 rfl ?_
  obtain rfl := Option.some.inj hF
  exact Go.iret (st := []) dX12_changes_181 rfl rfl ⟨rfl, rfl⟩
def F_X12_changes_34 : Nat → Int32 → Int32 → Int32 → Int32 → Int32 → St → Option (Int32 × St)
  | 0 => fun _ _ _ _ _ _ => none
  | n + 1 => fun x1 x2 x3 x4 x5 S =>
    if 40 ≤ x5 then (let S118 := fset S 63 12 ((S.1 63 12) - 1); F_X12_changes_121 x1 x2 x3 x4 S118) else (gd (inb x5 40) (gd (inb (x5 - 1) 40) (let S56 := aset S 72 (upd (S.2.1 72) (Int32.toNatClampNeg (x5 - 1)) (S.2.1 72 (Int32.toNatClampNeg x5))); gd (inb x5 40) (gd (inb (x5 - 1) 40) (let S72 := aset S56 73 (upd (S56.2.1 73) (Int32.toNatClampNeg (x5 - 1)) (S56.2.1 73 (Int32.toNatClampNeg x5))); gd (inb x5 40) (gd (inb (x5 - 1) 40) (let S88 := aset S72 74 (upd (S72.2.1 74) (Int32.toNatClampNeg (x5 - 1)) (S72.2.1 74 (Int32.toNatClampNeg x5))); gd (inb x5 40) (gd (inb (x5 - 1) 40) (let S104 := aset S88 75 (upd (S88.2.1 75) (Int32.toNatClampNeg (x5 - 1)) (S88.2.1 75 (Int32.toNatClampNeg x5))); (F_X12_changes_34 n) x1 x2 x3 x4 (x5 + 1) S104)))))))))
set_option maxHeartbeats 4000000 in
set_option maxRecDepth 100000 in
theorem ok_X12_changes_34 {l : Launch} (d : Nat) : ∀ (n : Nat) (x1 : Int32) (x2 : Int32) (x3 : Int32) (x4 : Int32) (x5 : Int32) (S : St) (R : Int32 × St), F_X12_changes_34 n x1 x2 x3 x4 x5 S = some R → Go l (d + 1) mX12_changes (Res (some (.int R.1)) R.2) 34 [(0, .ref 63), (1, .int x1), (2, .int x2), (3, .int x3), (4, .int x4), (5, .int x5)] [] S := by
  intro n
  induction n with
  | zero => intro x1 x2 x3 x4 x5 S  R hF; cases hF
  | succ n hk34 =>
    intro x1 x2 x3 x4 x5 S  R hF
    have hF : (if 40 ≤ x5 then (let S118 := fset S 63 12 ((S.1 63 12) - 1); F_X12_changes_121 x1 x2 x3 x4 S118) else (gd (inb x5 40) (gd (inb (x5 - 1) 40) (let S56 := aset S 72 (upd (S.2.1 72) (Int32.toNatClampNeg (x5 - 1)) (S.2.1 72 (Int32.toNatClampNeg x5))); gd (inb x5 40) (gd (inb (x5 - 1) 40) (let S72 := aset S56 73 (upd (S56.2.1 73) (Int32.toNatClampNeg (x5 - 1)) (S56.2.1 73 (Int32.toNatClampNeg x5))); gd (inb x5 40) (gd (inb (x5 - 1) 40) (let S88 := aset S72 74 (upd (S72.2.1 74) (Int32.toNatClampNeg (x5 - 1)) (S72.2.1 74 (Int32.toNatClampNeg x5))); gd (inb x5 40) (gd (inb (x5 - 1) 40) (let S104 := aset S88 75 (upd (S88.2.1 75) (Int32.toNatClampNeg (x5 - 1)) (S88.2.1 75 (Int32.toNatClampNeg x5))); (F_X12_changes_34 n) x1 x2 x3 x4 (x5 + 1) S104)))))))))) = some R := hF
    refine Go.iload dX12_changes_34 rfl ?_
    refine Go.bipush (v := 40) dX12_changes_36 (by decide) ?_
    refine Go.icmpge (tgt := 111) dX12_changes_38 (by decide) (fun h_38 => ?_) (fun h_38 => ?_)
    · have hF := ite_t h_38 hF
      refine Go.aload_n dX12_changes_111 rfl ?_
      refine Go.dup dX12_changes_112 rfl ?_
      refine Go.getI dX12_changes_113 fX12_171 rfl ?_
      refine Go.iconst (v := 1) dX12_changes_116 (by decide) ?_
      refine Go.isub dX12_changes_117 ?_
      refine Go.putI dX12_changes_118 fX12_171 rfl ?_
      refine Go.pick (ls' := [(0, _), (1, _), (2, _), (3, _), (4, _)]) [0, 1, 2, 3, 4] rfl ?_
      exact ok_X12_changes_121 d _ _ _ _ _ _ hF
    · have hF := ite_f h_38 hF
      refine Go.aload_n dX12_changes_41 rfl ?_
      refine Go.getR dX12_changes_42 fX12_38 rfl ?_
      refine Go.iload dX12_changes_45 rfl ?_
      refine Go.iconst (v := 1) dX12_changes_47 (by decide) ?_
      refine Go.isub dX12_changes_48 ?_
      refine Go.aload_n dX12_changes_49 rfl ?_
      refine Go.getR dX12_changes_50 fX12_38 rfl ?_
      refine Go.iload dX12_changes_53 rfl ?_
      obtain ⟨hb_55, hF⟩ := gd_some hF
      refine Go.iald dX12_changes_55 rfl (inb_ok hb_55) ?_
      obtain ⟨hb_56, hF⟩ := gd_some hF
      refine Go.iast dX12_changes_56 rfl (inb_ok hb_56) ?_
      refine Go.aload_n dX12_changes_57 rfl ?_
      refine Go.getR dX12_changes_58 fX12_41 rfl ?_
      refine Go.iload dX12_changes_61 rfl ?_
      refine Go.iconst (v := 1) dX12_changes_63 (by decide) ?_
      refine Go.isub dX12_changes_64 ?_
      refine Go.aload_n dX12_changes_65 rfl ?_
      refine Go.getR dX12_changes_66 fX12_41 rfl ?_
      refine Go.iload dX12_changes_69 rfl ?_
      obtain ⟨hb_71, hF⟩ := gd_some hF
      refine Go.iald dX12_changes_71 rfl (inb_ok hb_71) ?_
      obtain ⟨hb_72, hF⟩ := gd_some hF
      refine Go.iast dX12_changes_72 rfl (inb_ok hb_72) ?_
      refine Go.aload_n dX12_changes_73 rfl ?_
      refine Go.getR dX12_changes_74 fX12_44 rfl ?_
      refine Go.iload dX12_changes_77 rfl ?_
      refine Go.iconst (v := 1) dX12_changes_79 (by decide) ?_
      refine Go.isub dX12_changes_80 ?_
      refine Go.aload_n dX12_changes_81 rfl ?_
      refine Go.getR dX12_changes_82 fX12_44 rfl ?_
      refine Go.iload dX12_changes_85 rfl ?_
      obtain ⟨hb_87, hF⟩ := gd_some hF
      refine Go.iald dX12_changes_87 rfl (inb_ok hb_87) ?_
      obtain ⟨hb_88, hF⟩ := gd_some hF
      refine Go.iast dX12_changes_88 rfl (inb_ok hb_88) ?_
      refine Go.aload_n dX12_changes_89 rfl ?_
      refine Go.getR dX12_changes_90 fX12_47 rfl ?_
      refine Go.iload dX12_changes_93 rfl ?_
      refine Go.iconst (v := 1) dX12_changes_95 (by decide) ?_
      refine Go.isub dX12_changes_96 ?_
      refine Go.aload_n dX12_changes_97 rfl ?_
      refine Go.getR dX12_changes_98 fX12_47 rfl ?_
      refine Go.iload dX12_changes_101 rfl ?_
      obtain ⟨hb_103, hF⟩ := gd_some hF
      refine Go.iald dX12_changes_103 rfl (inb_ok hb_103) ?_
      obtain ⟨hb_104, hF⟩ := gd_some hF
      refine Go.iast dX12_changes_104 rfl (inb_ok hb_104) ?_
      refine Go.iincP (ls' := [(5, _), (0, _), (1, _), (2, _), (3, _), (4, _)]) dX12_changes_105 rfl (by decide) rfl ?_
      refine Go.goto (tgt := 34) dX12_changes_108 (by decide) ?_
      refine Go.pick (ls' := [(0, _), (1, _), (2, _), (3, _), (4, _), (5, _)]) [1, 2, 3, 4, 5, 0] rfl ?_
      exact hk34 _ _ _ _ _ _ _ hF
def F_X12_changes (N : Nat) (x1 : Int32) (x2 : Int32) (x3 : Int32) (S : St) : Option (Int32 × St) :=
  (F_X12_valueAt x1 x2 S).bind (fun r_3 => if r_3.1 = x3 then (some (r_3.1, r_3.2)) else (let S19 := fset r_3.2 63 13 0; if (S19.1 63 12) = 40 then (F_X12_changes_34 N x1 x2 x3 r_3.1 1 S19) else (F_X12_changes_121 x1 x2 x3 r_3.1 S19)))
set_option maxHeartbeats 4000000 in
set_option maxRecDepth 100000 in
theorem ok_X12_changes {l : Launch} (d : Nat) (N : Nat) (x1 : Int32) (x2 : Int32) (x3 : Int32) (S : St) (R : Int32 × St) (hF : F_X12_changes N x1 x2 x3 S = some R) : Go l (d + 1) mX12_changes (Res (some (.int R.1)) R.2) 0 [(0, .ref 63), (1, .int x1), (2, .int x2), (3, .int x3)] [] S := by
  unfold F_X12_changes at hF
  refine Go.aload_n dX12_changes_0 rfl ?_
  refine Go.iload_n dX12_changes_1 rfl ?_
  refine Go.iload_n dX12_changes_2 rfl ?_
  obtain ⟨r_3, hc_3, hF⟩ := Option.bind_eq_some_iff.mp hF
  refine Go.callV [_, _] dX12_changes_3 kX12_valueAt vX12_valueAt lX12_164 rfl rfl rfl rfl rfl (Nat.le_of_ble_eq_true rfl) (Nat.le_of_ble_eq_true rfl) (ok_X12_valueAt (d + 0) _ _ _ _ hc_3) ?_
  refine Go.istore (ls' := [(4, _), (0, _), (1, _), (2, _), (3, _)]) dX12_changes_6 (by decide) rfl ?_
  refine Go.iload dX12_changes_8 rfl ?_
  refine Go.iload_n dX12_changes_10 rfl ?_
  refine Go.icmpne (tgt := 17) dX12_changes_11 (by decide) (fun h_11 => ?_) (fun h_11 => ?_)
  · have hF := ite_f h_11 hF
    refine Go.aload_n dX12_changes_17 rfl ?_
    refine Go.iconst (v := 0) dX12_changes_18 (by decide) ?_
    refine Go.putI dX12_changes_19 fX12_168 rfl ?_
    refine Go.aload_n dX12_changes_22 rfl ?_
    refine Go.getI dX12_changes_23 fX12_171 rfl ?_
    refine Go.bipush (v := 40) dX12_changes_26 (by decide) ?_
    refine Go.icmpne (tgt := 121) dX12_changes_28 (by decide) (fun h_28 => ?_) (fun h_28 => ?_)
    · have hF := ite_f h_28 hF
      refine Go.pick (ls' := [(0, _), (1, _), (2, _), (3, _), (4, _)]) [1, 2, 3, 4, 0] rfl ?_
      exact ok_X12_changes_121 d _ _ _ _ _ _ hF
    · have hF := ite_t h_28 hF
      refine Go.iconst (v := 1) dX12_changes_31 (by decide) ?_
      refine Go.istore (ls' := [(5, _), (4, _), (0, _), (1, _), (2, _), (3, _)]) dX12_changes_32 (by decide) rfl ?_
      refine Go.pick (ls' := [(0, _), (1, _), (2, _), (3, _), (4, _), (5, _)]) [2, 3, 4, 5, 1, 0] rfl ?_
      exact ok_X12_changes_34 d N _ _ _ _ _ _ _ hF
  · have hF := ite_t h_11 hF
    refine Go.iload dX12_changes_14 rfl ?_
    obtain rfl := Option.some.inj hF
    exact Go.iret (st := []) dX12_changes_16 rfl rfl ⟨rfl, rfl⟩
def F_X12_undo (S : St) : Option (Int32 × St) :=
  if (S.1 63 12) = 0 then (some ((-5), S)) else (let S17 := fset S 63 12 ((S.1 63 12) - 1); let S27 := fset S17 63 13 ((S17.1 63 13) + 1); gd (inb (S27.1 63 12) 40) (gd (inb (S27.1 63 12) 40) (gd (inb (S27.1 63 12) 40) ((F_X12_lays (S27.2.1 72 (Int32.toNatClampNeg (S27.1 63 12))) (S27.2.1 73 (Int32.toNatClampNeg (S27.1 63 12))) (S27.2.1 74 (Int32.toNatClampNeg (S27.1 63 12))) S27).bind (fun r_58 => some (r_58.1 63 12, r_58))))))
set_option maxHeartbeats 4000000 in
set_option maxRecDepth 100000 in
theorem ok_X12_undo {l : Launch} (d : Nat) (S : St) (R : Int32 × St) (hF : F_X12_undo S = some R) : Go l (d + 1) mX12_undo (Res (some (.int R.1)) R.2) 0 [(0, .ref 63)] [] S := by
  unfold F_X12_undo at hF
  refine Go.aload_n dX12_undo_0 rfl ?_
  refine Go.getI dX12_undo_1 fX12_171 rfl ?_
  refine Go.ifne (tgt := 10) dX12_undo_4 (by decide) (fun h_4 => ?_) (fun h_4 => ?_)
  · have hF := ite_f h_4 hF
    refine Go.aload_n dX12_undo_10 rfl ?_
    refine Go.dup dX12_undo_11 rfl ?_
    refine Go.getI dX12_undo_12 fX12_171 rfl ?_
    refine Go.iconst (v := 1) dX12_undo_15 (by decide) ?_
    refine Go.isub dX12_undo_16 ?_
    refine Go.putI dX12_undo_17 fX12_171 rfl ?_
    refine Go.aload_n dX12_undo_20 rfl ?_
    refine Go.dup dX12_undo_21 rfl ?_
    refine Go.getI dX12_undo_22 fX12_168 rfl ?_
    refine Go.iconst (v := 1) dX12_undo_25 (by decide) ?_
    refine Go.iadd dX12_undo_26 ?_
    refine Go.putI dX12_undo_27 fX12_168 rfl ?_
    refine Go.aload_n dX12_undo_30 rfl ?_
    refine Go.aload_n dX12_undo_31 rfl ?_
    refine Go.getR dX12_undo_32 fX12_38 rfl ?_
    refine Go.aload_n dX12_undo_35 rfl ?_
    refine Go.getI dX12_undo_36 fX12_171 rfl ?_
    obtain ⟨hb_39, hF⟩ := gd_some hF
    refine Go.iald dX12_undo_39 rfl (inb_ok hb_39) ?_
    refine Go.aload_n dX12_undo_40 rfl ?_
    refine Go.getR dX12_undo_41 fX12_41 rfl ?_
    refine Go.aload_n dX12_undo_44 rfl ?_
    refine Go.getI dX12_undo_45 fX12_171 rfl ?_
    obtain ⟨hb_48, hF⟩ := gd_some hF
    refine Go.iald dX12_undo_48 rfl (inb_ok hb_48) ?_
    refine Go.aload_n dX12_undo_49 rfl ?_
    refine Go.getR dX12_undo_50 fX12_44 rfl ?_
    refine Go.aload_n dX12_undo_53 rfl ?_
    refine Go.getI dX12_undo_54 fX12_171 rfl ?_
    obtain ⟨hb_57, hF⟩ := gd_some hF
    refine Go.iald dX12_undo_57 rfl (inb_ok hb_57) ?_
    obtain ⟨r_58, hc_58, hF⟩ := Option.bind_eq_some_iff.mp hF
    refine Go.callV [_, _, _] dX12_undo_58 kX12_lays vX12_lays lX12_174 rfl rfl rfl rfl rfl (Nat.le_of_ble_eq_true rfl) (Nat.le_of_ble_eq_true rfl) (ok_X12_lays (d + 0) _ _ _ _ _ hc_58) ?_
    refine Go.aload_n dX12_undo_61 rfl ?_
    refine Go.getI dX12_undo_62 fX12_171 rfl ?_
    obtain rfl := Option.some.inj hF
    exact Go.iret (st := []) dX12_undo_65 rfl rfl ⟨rfl, rfl⟩
  · have hF := ite_t h_4 hF
    refine Go.bipush (v := (-5)) dX12_undo_7 (by decide) ?_
    obtain rfl := Option.some.inj hF
    exact Go.iret (st := []) dX12_undo_9 rfl rfl ⟨rfl, rfl⟩
def F_X12_redo (S : St) : Option (Int32 × St) :=
  if (S.1 63 13) = 0 then (some ((-5), S)) else (gd (inb (S.1 63 12) 40) (gd (inb (S.1 63 12) 40) (gd (inb (S.1 63 12) 40) ((F_X12_lays (S.2.1 72 (Int32.toNatClampNeg (S.1 63 12))) (S.2.1 73 (Int32.toNatClampNeg (S.1 63 12))) (S.2.1 75 (Int32.toNatClampNeg (S.1 63 12))) S).bind (fun r_38 => let S48 := fset r_38 63 12 ((r_38.1 63 12) + 1); let S58 := fset S48 63 13 ((S48.1 63 13) - 1); some (S58.1 63 13, S58))))))
set_option maxHeartbeats 4000000 in
set_option maxRecDepth 100000 in
theorem ok_X12_redo {l : Launch} (d : Nat) (S : St) (R : Int32 × St) (hF : F_X12_redo S = some R) : Go l (d + 1) mX12_redo (Res (some (.int R.1)) R.2) 0 [(0, .ref 63)] [] S := by
  unfold F_X12_redo at hF
  refine Go.aload_n dX12_redo_0 rfl ?_
  refine Go.getI dX12_redo_1 fX12_168 rfl ?_
  refine Go.ifne (tgt := 10) dX12_redo_4 (by decide) (fun h_4 => ?_) (fun h_4 => ?_)
  · have hF := ite_f h_4 hF
    refine Go.aload_n dX12_redo_10 rfl ?_
    refine Go.aload_n dX12_redo_11 rfl ?_
    refine Go.getR dX12_redo_12 fX12_38 rfl ?_
    refine Go.aload_n dX12_redo_15 rfl ?_
    refine Go.getI dX12_redo_16 fX12_171 rfl ?_
    obtain ⟨hb_19, hF⟩ := gd_some hF
    refine Go.iald dX12_redo_19 rfl (inb_ok hb_19) ?_
    refine Go.aload_n dX12_redo_20 rfl ?_
    refine Go.getR dX12_redo_21 fX12_41 rfl ?_
    refine Go.aload_n dX12_redo_24 rfl ?_
    refine Go.getI dX12_redo_25 fX12_171 rfl ?_
    obtain ⟨hb_28, hF⟩ := gd_some hF
    refine Go.iald dX12_redo_28 rfl (inb_ok hb_28) ?_
    refine Go.aload_n dX12_redo_29 rfl ?_
    refine Go.getR dX12_redo_30 fX12_47 rfl ?_
    refine Go.aload_n dX12_redo_33 rfl ?_
    refine Go.getI dX12_redo_34 fX12_171 rfl ?_
    obtain ⟨hb_37, hF⟩ := gd_some hF
    refine Go.iald dX12_redo_37 rfl (inb_ok hb_37) ?_
    obtain ⟨r_38, hc_38, hF⟩ := Option.bind_eq_some_iff.mp hF
    refine Go.callV [_, _, _] dX12_redo_38 kX12_lays vX12_lays lX12_174 rfl rfl rfl rfl rfl (Nat.le_of_ble_eq_true rfl) (Nat.le_of_ble_eq_true rfl) (ok_X12_lays (d + 0) _ _ _ _ _ hc_38) ?_
    refine Go.aload_n dX12_redo_41 rfl ?_
    refine Go.dup dX12_redo_42 rfl ?_
    refine Go.getI dX12_redo_43 fX12_171 rfl ?_
    refine Go.iconst (v := 1) dX12_redo_46 (by decide) ?_
    refine Go.iadd dX12_redo_47 ?_
    refine Go.putI dX12_redo_48 fX12_171 rfl ?_
    refine Go.aload_n dX12_redo_51 rfl ?_
    refine Go.dup dX12_redo_52 rfl ?_
    refine Go.getI dX12_redo_53 fX12_168 rfl ?_
    refine Go.iconst (v := 1) dX12_redo_56 (by decide) ?_
    refine Go.isub dX12_redo_57 ?_
    refine Go.putI dX12_redo_58 fX12_168 rfl ?_
    refine Go.aload_n dX12_redo_61 rfl ?_
    refine Go.getI dX12_redo_62 fX12_168 rfl ?_
    obtain rfl := Option.some.inj hF
    exact Go.iret (st := []) dX12_redo_65 rfl rfl ⟨rfl, rfl⟩
  · have hF := ite_t h_4 hF
    refine Go.bipush (v := (-5)) dX12_redo_7 (by decide) ?_
    obtain rfl := Option.some.inj hF
    exact Go.iret (st := []) dX12_redo_9 rfl rfl ⟨rfl, rfl⟩
def F_X12_mend (N : Nat) (x1 : Int32) (x2 : Int32) (x3 : Int32) (S : St) : Option (Int32 × St) :=
  if x2 = 0 then ((F_X12_isLine x1 S).bind (fun r_6 => if r_6.1 = 0 then (some ((-1), r_6.2)) else ((F_X12_in x3 (0 : Int32) (100 : Int32) r_6.2).bind (fun r_16 => if r_16.1 = 0 then (some ((-1), r_16.2)) else ((F_X12_changes N (0 : Int32) x1 x3 r_16.2).bind (fun r_26 => some (r_26.1, r_26.2))))))) else (if x2 = 1 then ((F_X12_isPart x1 S).bind (fun r_40 => if r_40.1 = 0 then (some ((-1), r_40.2)) else ((F_X12_in x3 (0 : Int32) (9 : Int32) r_40.2).bind (fun r_50 => if r_50.1 = 0 then (some ((-1), r_50.2)) else ((F_X12_changes N (1 : Int32) x1 x3 r_50.2).bind (fun r_60 => some (r_60.1, r_60.2))))))) else (some ((-1), S)))
set_option maxHeartbeats 4000000 in
set_option maxRecDepth 100000 in
theorem ok_X12_mend {l : Launch} (d : Nat) (N : Nat) (x1 : Int32) (x2 : Int32) (x3 : Int32) (S : St) (R : Int32 × St) (hF : F_X12_mend N x1 x2 x3 S = some R) : Go l (d + 2) mX12_mend (Res (some (.int R.1)) R.2) 0 [(0, .ref 63), (1, .int x1), (2, .int x2), (3, .int x3)] [] S := by
  unfold F_X12_mend at hF
  refine Go.iload_n dX12_mend_0 rfl ?_
  refine Go.ifne (tgt := 34) dX12_mend_1 (by decide) (fun h_1 => ?_) (fun h_1 => ?_)
  · have hF := ite_f h_1 hF
    refine Go.iload_n dX12_mend_34 rfl ?_
    refine Go.iconst (v := 1) dX12_mend_35 (by decide) ?_
    refine Go.icmpne (tgt := 66) dX12_mend_36 (by decide) (fun h_36 => ?_) (fun h_36 => ?_)
    · have hF := ite_f h_36 hF
      refine Go.iconst (v := (-1)) dX12_mend_66 (by decide) ?_
      obtain rfl := Option.some.inj hF
      exact Go.iret (st := []) dX12_mend_67 rfl rfl ⟨rfl, rfl⟩
    · have hF := ite_t h_36 hF
      refine Go.iload_n dX12_mend_39 rfl ?_
      obtain ⟨r_40, hc_40, hF⟩ := Option.bind_eq_some_iff.mp hF
      refine Go.callS [_] dX12_mend_40 kX12_isPart sX12_isPart lX12_158 rfl rfl (Nat.le_of_ble_eq_true rfl) (Nat.le_of_ble_eq_true rfl) (ok_X12_isPart (d + 0) _ _ _ hc_40) ?_
      refine Go.ifeq (tgt := 66) dX12_mend_43 (by decide) (fun h_43 => ?_) (fun h_43 => ?_)
      · have hF := ite_t h_43 hF
        refine Go.iconst (v := (-1)) dX12_mend_66 (by decide) ?_
        obtain rfl := Option.some.inj hF
        exact Go.iret (st := []) dX12_mend_67 rfl rfl ⟨rfl, rfl⟩
      · have hF := ite_f h_43 hF
        refine Go.iload_n dX12_mend_46 rfl ?_
        refine Go.iconst (v := 0) dX12_mend_47 (by decide) ?_
        refine Go.bipush (v := 9) dX12_mend_48 (by decide) ?_
        obtain ⟨r_50, hc_50, hF⟩ := Option.bind_eq_some_iff.mp hF
        refine Go.callS [_, _, _] dX12_mend_50 kX12_in sX12_in lX12_144 rfl rfl (Nat.le_of_ble_eq_true rfl) (Nat.le_of_ble_eq_true rfl) (ok_X12_in (d + 1) _ _ _ _ _ hc_50) ?_
        refine Go.ifeq (tgt := 66) dX12_mend_53 (by decide) (fun h_53 => ?_) (fun h_53 => ?_)
        · have hF := ite_t h_53 hF
          refine Go.iconst (v := (-1)) dX12_mend_66 (by decide) ?_
          obtain rfl := Option.some.inj hF
          exact Go.iret (st := []) dX12_mend_67 rfl rfl ⟨rfl, rfl⟩
        · have hF := ite_f h_53 hF
          refine Go.aload_n dX12_mend_56 rfl ?_
          refine Go.iconst (v := 1) dX12_mend_57 (by decide) ?_
          refine Go.iload_n dX12_mend_58 rfl ?_
          refine Go.iload_n dX12_mend_59 rfl ?_
          obtain ⟨r_60, hc_60, hF⟩ := Option.bind_eq_some_iff.mp hF
          refine Go.callV [_, _, _] dX12_mend_60 kX12_changes vX12_changes lX12_181 rfl rfl rfl rfl rfl (Nat.le_of_ble_eq_true rfl) (Nat.le_of_ble_eq_true rfl) (ok_X12_changes (d + 0) N _ _ _ _ _ hc_60) ?_
          refine Go.goto (tgt := 67) dX12_mend_63 (by decide) ?_
          obtain rfl := Option.some.inj hF
          exact Go.iret (st := []) dX12_mend_67 rfl rfl ⟨rfl, rfl⟩
  · have hF := ite_t h_1 hF
    refine Go.aload_n dX12_mend_4 rfl ?_
    refine Go.iload_n dX12_mend_5 rfl ?_
    obtain ⟨r_6, hc_6, hF⟩ := Option.bind_eq_some_iff.mp hF
    refine Go.callV [_] dX12_mend_6 kX12_isLine vX12_isLine lX12_178 rfl rfl rfl rfl rfl (Nat.le_of_ble_eq_true rfl) (Nat.le_of_ble_eq_true rfl) (ok_X12_isLine (d + 0) _ _ _ hc_6) ?_
    refine Go.ifeq (tgt := 32) dX12_mend_9 (by decide) (fun h_9 => ?_) (fun h_9 => ?_)
    · have hF := ite_t h_9 hF
      refine Go.iconst (v := (-1)) dX12_mend_32 (by decide) ?_
      obtain rfl := Option.some.inj hF
      exact Go.iret (st := []) dX12_mend_33 rfl rfl ⟨rfl, rfl⟩
    · have hF := ite_f h_9 hF
      refine Go.iload_n dX12_mend_12 rfl ?_
      refine Go.iconst (v := 0) dX12_mend_13 (by decide) ?_
      refine Go.bipush (v := 100) dX12_mend_14 (by decide) ?_
      obtain ⟨r_16, hc_16, hF⟩ := Option.bind_eq_some_iff.mp hF
      refine Go.callS [_, _, _] dX12_mend_16 kX12_in sX12_in lX12_144 rfl rfl (Nat.le_of_ble_eq_true rfl) (Nat.le_of_ble_eq_true rfl) (ok_X12_in (d + 1) _ _ _ _ _ hc_16) ?_
      refine Go.ifeq (tgt := 32) dX12_mend_19 (by decide) (fun h_19 => ?_) (fun h_19 => ?_)
      · have hF := ite_t h_19 hF
        refine Go.iconst (v := (-1)) dX12_mend_32 (by decide) ?_
        obtain rfl := Option.some.inj hF
        exact Go.iret (st := []) dX12_mend_33 rfl rfl ⟨rfl, rfl⟩
      · have hF := ite_f h_19 hF
        refine Go.aload_n dX12_mend_22 rfl ?_
        refine Go.iconst (v := 0) dX12_mend_23 (by decide) ?_
        refine Go.iload_n dX12_mend_24 rfl ?_
        refine Go.iload_n dX12_mend_25 rfl ?_
        obtain ⟨r_26, hc_26, hF⟩ := Option.bind_eq_some_iff.mp hF
        refine Go.callV [_, _, _] dX12_mend_26 kX12_changes vX12_changes lX12_181 rfl rfl rfl rfl rfl (Nat.le_of_ble_eq_true rfl) (Nat.le_of_ble_eq_true rfl) (ok_X12_changes (d + 0) N _ _ _ _ _ hc_26) ?_
        refine Go.goto (tgt := 33) dX12_mend_29 (by decide) ?_
        obtain rfl := Option.some.inj hF
        exact Go.iret (st := []) dX12_mend_33 rfl rfl ⟨rfl, rfl⟩
def F_X12_feed (x1 : Int32) (S : St) : Option (Int32 × St) :=
  (F_X12_in x1 (0 : Int32) (255 : Int32) S).bind (fun r_5 => if r_5.1 = 0 then (some ((-1), r_5.2)) else (if (r_5.2.1 63 19) = 120 then (some ((-3), r_5.2)) else (gd (inb (r_5.2.1 63 19) 120) (let S35 := aset r_5.2 76 (upd (r_5.2.2.1 76) (Int32.toNatClampNeg (r_5.2.1 63 19)) (vp_nar .byte ((Int32.toInt8 x1).toInt32))); let S43 := fset S35 63 19 ((S35.1 63 19) + 1); some (S43.1 63 19, S43)))))
set_option maxHeartbeats 4000000 in
set_option maxRecDepth 100000 in
theorem ok_X12_feed {l : Launch} (d : Nat) (x1 : Int32) (S : St) (R : Int32 × St) (hF : F_X12_feed x1 S = some R) : Go l (d + 1) mX12_feed (Res (some (.int R.1)) R.2) 0 [(0, .ref 63), (1, .int x1)] [] S := by
  unfold F_X12_feed at hF
  refine Go.iload_n dX12_feed_0 rfl ?_
  refine Go.iconst (v := 0) dX12_feed_1 (by decide) ?_
  refine Go.sipush (v := 255) dX12_feed_2 (by decide) ?_
  obtain ⟨r_5, hc_5, hF⟩ := Option.bind_eq_some_iff.mp hF
  refine Go.callS [_, _, _] dX12_feed_5 kX12_in sX12_in lX12_144 rfl rfl (Nat.le_of_ble_eq_true rfl) (Nat.le_of_ble_eq_true rfl) (ok_X12_in (d + 0) _ _ _ _ _ hc_5) ?_
  refine Go.ifne (tgt := 13) dX12_feed_8 (by decide) (fun h_8 => ?_) (fun h_8 => ?_)
  · have hF := ite_f h_8 hF
    refine Go.aload_n dX12_feed_13 rfl ?_
    refine Go.getI dX12_feed_14 fX12_185 rfl ?_
    refine Go.bipush (v := 120) dX12_feed_17 (by decide) ?_
    refine Go.icmpne (tgt := 25) dX12_feed_19 (by decide) (fun h_19 => ?_) (fun h_19 => ?_)
    · have hF := ite_f h_19 hF
      refine Go.aload_n dX12_feed_25 rfl ?_
      refine Go.getR dX12_feed_26 fX12_50 rfl ?_
      refine Go.aload_n dX12_feed_29 rfl ?_
      refine Go.getI dX12_feed_30 fX12_185 rfl ?_
      refine Go.iload_n dX12_feed_33 rfl ?_
      refine Go.i2b dX12_feed_34 rfl ?_
      obtain ⟨hb_35, hF⟩ := gd_some hF
      refine Go.bast dX12_feed_35 rfl (inb_ok hb_35) ?_
      refine Go.aload_n dX12_feed_36 rfl ?_
      refine Go.dup dX12_feed_37 rfl ?_
      refine Go.getI dX12_feed_38 fX12_185 rfl ?_
      refine Go.iconst (v := 1) dX12_feed_41 (by decide) ?_
      refine Go.iadd dX12_feed_42 ?_
      refine Go.putI dX12_feed_43 fX12_185 rfl ?_
      refine Go.aload_n dX12_feed_46 rfl ?_
      refine Go.getI dX12_feed_47 fX12_185 rfl ?_
      obtain rfl := Option.some.inj hF
      exact Go.iret (st := []) dX12_feed_50 rfl rfl ⟨rfl, rfl⟩
    · have hF := ite_t h_19 hF
      refine Go.bipush (v := (-3)) dX12_feed_22 (by decide) ?_
      obtain rfl := Option.some.inj hF
      exact Go.iret (st := []) dX12_feed_24 rfl rfl ⟨rfl, rfl⟩
  · have hF := ite_t h_8 hF
    refine Go.iconst (v := (-1)) dX12_feed_11 (by decide) ?_
    obtain rfl := Option.some.inj hF
    exact Go.iret (st := []) dX12_feed_12 rfl rfl ⟨rfl, rfl⟩
def F_X12_look (S : St) : Option (Int32 × St) :=
  if (S.1 63 19) ≤ (S.1 63 20) then (some ((-1), S)) else (gd (inb (S.1 63 20) 120) (some (S.2.1 76 (Int32.toNatClampNeg (S.1 63 20)), S)))
set_option maxHeartbeats 4000000 in
set_option maxRecDepth 100000 in
theorem ok_X12_look {l : Launch} (d : Nat) (S : St) (R : Int32 × St) (hF : F_X12_look S = some R) : Go l (d + 0) mX12_look (Res (some (.int R.1)) R.2) 0 [(0, .ref 63)] [] S := by
  unfold F_X12_look at hF
  refine Go.aload_n dX12_look_0 rfl ?_
  refine Go.getI dX12_look_1 fX12_188 rfl ?_
  refine Go.aload_n dX12_look_4 rfl ?_
  refine Go.getI dX12_look_5 fX12_185 rfl ?_
  refine Go.icmpge (tgt := 23) dX12_look_8 (by decide) (fun h_8 => ?_) (fun h_8 => ?_)
  · have hF := ite_t h_8 hF
    refine Go.iconst (v := (-1)) dX12_look_23 (by decide) ?_
    obtain rfl := Option.some.inj hF
    exact Go.iret (st := []) dX12_look_24 rfl rfl ⟨rfl, rfl⟩
  · have hF := ite_f h_8 hF
    refine Go.aload_n dX12_look_11 rfl ?_
    refine Go.getR dX12_look_12 fX12_50 rfl ?_
    refine Go.aload_n dX12_look_15 rfl ?_
    refine Go.getI dX12_look_16 fX12_188 rfl ?_
    obtain ⟨hb_19, hF⟩ := gd_some hF
    refine Go.bald dX12_look_19 rfl (inb_ok hb_19) ?_
    refine Go.goto (tgt := 24) dX12_look_20 (by decide) ?_
    obtain rfl := Option.some.inj hF
    exact Go.iret (st := []) dX12_look_24 rfl rfl ⟨rfl, rfl⟩
def F_X12_faulty (S : St) : Option (St) :=
  if 0 ≤ (S.1 63 21) then (some S) else (let S12 := fset S 63 21 (S.1 63 20); some S12)
set_option maxHeartbeats 4000000 in
set_option maxRecDepth 100000 in
theorem ok_X12_faulty {l : Launch} (d : Nat) (S : St) (R : St) (hF : F_X12_faulty S = some R) : Go l (d + 0) mX12_faulty (Res none R) 0 [(0, .ref 63)] [] S := by
  unfold F_X12_faulty at hF
  refine Go.aload_n dX12_faulty_0 rfl ?_
  refine Go.getI dX12_faulty_1 fX12_191 rfl ?_
  refine Go.ifge (tgt := 15) dX12_faulty_4 (by decide) (fun h_4 => ?_) (fun h_4 => ?_)
  · have hF := ite_t h_4 hF
    obtain rfl := Option.some.inj hF
    exact Go.vret (st := []) dX12_faulty_15 rfl ⟨rfl, rfl⟩
  · have hF := ite_f h_4 hF
    refine Go.aload_n dX12_faulty_7 rfl ?_
    refine Go.aload_n dX12_faulty_8 rfl ?_
    refine Go.getI dX12_faulty_9 fX12_188 rfl ?_
    refine Go.putI dX12_faulty_12 fX12_191 rfl ?_
    obtain rfl := Option.some.inj hF
    exact Go.vret (st := []) dX12_faulty_15 rfl ⟨rfl, rfl⟩
def F_X12_addStep (x1 : Int32) (x2 : Int32) (S : St) : Option (St) :=
  gd (inb (260 + (S.1 63 23)) 390) (let S14 := aset S 77 (upd (S.2.1 77) (Int32.toNatClampNeg (260 + (S.1 63 23))) (vp_nar .byte ((Int32.toInt8 x1).toInt32))); gd (inb (260 + (S14.1 63 23)) 390) (let S28 := aset S14 78 (upd (S14.2.1 78) (Int32.toNatClampNeg (260 + (S14.1 63 23))) x2); let S36 := fset S28 63 23 ((S28.1 63 23) + 1); some S36))
set_option maxHeartbeats 4000000 in
set_option maxRecDepth 100000 in
theorem ok_X12_addStep {l : Launch} (d : Nat) (x1 : Int32) (x2 : Int32) (S : St) (R : St) (hF : F_X12_addStep x1 x2 S = some R) : Go l (d + 0) mX12_addStep (Res none R) 0 [(0, .ref 63), (1, .int x1), (2, .int x2)] [] S := by
  unfold F_X12_addStep at hF
  refine Go.aload_n dX12_addStep_0 rfl ?_
  refine Go.getR dX12_addStep_1 fX12_54 rfl ?_
  refine Go.sipush (v := 260) dX12_addStep_4 (by decide) ?_
  refine Go.aload_n dX12_addStep_7 rfl ?_
  refine Go.getI dX12_addStep_8 fX12_194 rfl ?_
  refine Go.iadd dX12_addStep_11 ?_
  refine Go.iload_n dX12_addStep_12 rfl ?_
  refine Go.i2b dX12_addStep_13 rfl ?_
  obtain ⟨hb_14, hF⟩ := gd_some hF
  refine Go.bast dX12_addStep_14 rfl (inb_ok hb_14) ?_
  refine Go.aload_n dX12_addStep_15 rfl ?_
  refine Go.getR dX12_addStep_16 fX12_57 rfl ?_
  refine Go.sipush (v := 260) dX12_addStep_19 (by decide) ?_
  refine Go.aload_n dX12_addStep_22 rfl ?_
  refine Go.getI dX12_addStep_23 fX12_194 rfl ?_
  refine Go.iadd dX12_addStep_26 ?_
  refine Go.iload_n dX12_addStep_27 rfl ?_
  obtain ⟨hb_28, hF⟩ := gd_some hF
  refine Go.iast dX12_addStep_28 rfl (inb_ok hb_28) ?_
  refine Go.aload_n dX12_addStep_29 rfl ?_
  refine Go.dup dX12_addStep_30 rfl ?_
  refine Go.getI dX12_addStep_31 fX12_194 rfl ?_
  refine Go.iconst (v := 1) dX12_addStep_34 (by decide) ?_
  refine Go.iadd dX12_addStep_35 ?_
  refine Go.putI dX12_addStep_36 fX12_194 rfl ?_
  obtain rfl := Option.some.inj hF
  exact Go.vret (st := []) dX12_addStep_39 rfl ⟨rfl, rfl⟩
theorem sw_X12_nameOf_1 (x : Int32) (h0 : ¬ x = 99) (h1 : ¬ x = 104) (h2 : ¬ x = 105) (h3 : ¬ x = 108) (h4 : ¬ x = 110) (h5 : ¬ x = 112) : swO 83 99 112 #[81, 83, 83, 83, 83, 71, 77, 83, 83, 79, 83, 73, 83, 75] x = 83 := by
  by_cases h : x.toInt < 99 ∨ 112 < x.toInt
  · unfold swO; rw [if_pos h]
  · have hx : x = 99 ∨ x = 100 ∨ x = 101 ∨ x = 102 ∨ x = 103 ∨ x = 104 ∨ x = 105 ∨ x = 106 ∨ x = 107 ∨ x = 108 ∨ x = 109 ∨ x = 110 ∨ x = 111 ∨ x = 112 := by
      have e : ∀ v : Int32, x.toInt = v.toInt → x = v := fun v h => Int32.toInt_inj.mp h
      have : x.toInt = 99 ∨ x.toInt = 100 ∨ x.toInt = 101 ∨ x.toInt = 102 ∨ x.toInt = 103 ∨ x.toInt = 104 ∨ x.toInt = 105 ∨ x.toInt = 106 ∨ x.toInt = 107 ∨ x.toInt = 108 ∨ x.toInt = 109 ∨ x.toInt = 110 ∨ x.toInt = 111 ∨ x.toInt = 112 := by omega
      rcases this with h | h | h | h | h | h | h | h | h | h | h | h | h | h
      · exact Or.inl (e 99 h)
      · exact Or.inr (Or.inl (e 100 h))
      · exact Or.inr (Or.inr (Or.inl (e 101 h)))
      · exact Or.inr (Or.inr (Or.inr (Or.inl (e 102 h))))
      · exact Or.inr (Or.inr (Or.inr (Or.inr (Or.inl (e 103 h)))))
      · exact Or.inr (Or.inr (Or.inr (Or.inr (Or.inr (Or.inl (e 104 h))))))
      · exact Or.inr (Or.inr (Or.inr (Or.inr (Or.inr (Or.inr (Or.inl (e 105 h)))))))
      · exact Or.inr (Or.inr (Or.inr (Or.inr (Or.inr (Or.inr (Or.inr (Or.inl (e 106 h))))))))
      · exact Or.inr (Or.inr (Or.inr (Or.inr (Or.inr (Or.inr (Or.inr (Or.inr (Or.inl (e 107 h)))))))))
      · exact Or.inr (Or.inr (Or.inr (Or.inr (Or.inr (Or.inr (Or.inr (Or.inr (Or.inr (Or.inl (e 108 h))))))))))
      · exact Or.inr (Or.inr (Or.inr (Or.inr (Or.inr (Or.inr (Or.inr (Or.inr (Or.inr (Or.inr (Or.inl (e 109 h)))))))))))
      · exact Or.inr (Or.inr (Or.inr (Or.inr (Or.inr (Or.inr (Or.inr (Or.inr (Or.inr (Or.inr (Or.inr (Or.inl (e 110 h))))))))))))
      · exact Or.inr (Or.inr (Or.inr (Or.inr (Or.inr (Or.inr (Or.inr (Or.inr (Or.inr (Or.inr (Or.inr (Or.inr (Or.inl (e 111 h)))))))))))))
      · exact Or.inr (Or.inr (Or.inr (Or.inr (Or.inr (Or.inr (Or.inr (Or.inr (Or.inr (Or.inr (Or.inr (Or.inr (Or.inr (e 112 h)))))))))))))
    rcases hx with rfl | rfl | rfl | rfl | rfl | rfl | rfl | rfl | rfl | rfl | rfl | rfl | rfl | rfl <;> first | rfl | (exact absurd rfl (by assumption))
def F_X12_nameOf (x0 : Int32) (S : St) : Option (Int32 × St) :=
  if x0 = 99 then (some (5, S)) else (if x0 = 104 then (some (0, S)) else (if x0 = 105 then (some (3, S)) else (if x0 = 108 then (some (4, S)) else (if x0 = 110 then (some (1, S)) else (if x0 = 112 then (some (2, S)) else (some ((-1), S)))))))
set_option maxHeartbeats 4000000 in
set_option maxRecDepth 100000 in
theorem ok_X12_nameOf {l : Launch} (d : Nat) (x0 : Int32) (S : St) (R : Int32 × St) (hF : F_X12_nameOf x0 S = some R) : Go l (d + 0) mX12_nameOf (Res (some (.int R.1)) R.2) 0 [(0, .int x0)] [] S := by
  unfold F_X12_nameOf at hF
  refine Go.iload_n dX12_nameOf_0 rfl ?_
  by_cases hs_1_0 : x0 = 99
  · have hF := ite_t hs_1_0 hF
    refine Go.swT (tgt := 82) dX12_nameOf_1 (by first | (rw [hs_1_0]; done) | (rw [hs_1_0]; rfl) | (rw [hs_1_0]; decide)) (by decide) (by decide) ?_
    refine Go.iconst (v := 5) dX12_nameOf_82 (by decide) ?_
    obtain rfl := Option.some.inj hF
    exact Go.iret (st := []) dX12_nameOf_83 rfl rfl ⟨rfl, rfl⟩
  · have hF := ite_f hs_1_0 hF
    by_cases hs_1_1 : x0 = 104
    · have hF := ite_t hs_1_1 hF
      refine Go.swT (tgt := 72) dX12_nameOf_1 (by first | (rw [hs_1_1]; done) | (rw [hs_1_1]; rfl) | (rw [hs_1_1]; decide)) (by decide) (by decide) ?_
      refine Go.iconst (v := 0) dX12_nameOf_72 (by decide) ?_
      obtain rfl := Option.some.inj hF
      exact Go.iret (st := []) dX12_nameOf_73 rfl rfl ⟨rfl, rfl⟩
    · have hF := ite_f hs_1_1 hF
      by_cases hs_1_2 : x0 = 105
      · have hF := ite_t hs_1_2 hF
        refine Go.swT (tgt := 78) dX12_nameOf_1 (by first | (rw [hs_1_2]; done) | (rw [hs_1_2]; rfl) | (rw [hs_1_2]; decide)) (by decide) (by decide) ?_
        refine Go.iconst (v := 3) dX12_nameOf_78 (by decide) ?_
        obtain rfl := Option.some.inj hF
        exact Go.iret (st := []) dX12_nameOf_79 rfl rfl ⟨rfl, rfl⟩
      · have hF := ite_f hs_1_2 hF
        by_cases hs_1_3 : x0 = 108
        · have hF := ite_t hs_1_3 hF
          refine Go.swT (tgt := 80) dX12_nameOf_1 (by first | (rw [hs_1_3]; done) | (rw [hs_1_3]; rfl) | (rw [hs_1_3]; decide)) (by decide) (by decide) ?_
          refine Go.iconst (v := 4) dX12_nameOf_80 (by decide) ?_
          obtain rfl := Option.some.inj hF
          exact Go.iret (st := []) dX12_nameOf_81 rfl rfl ⟨rfl, rfl⟩
        · have hF := ite_f hs_1_3 hF
          by_cases hs_1_4 : x0 = 110
          · have hF := ite_t hs_1_4 hF
            refine Go.swT (tgt := 74) dX12_nameOf_1 (by first | (rw [hs_1_4]; done) | (rw [hs_1_4]; rfl) | (rw [hs_1_4]; decide)) (by decide) (by decide) ?_
            refine Go.iconst (v := 1) dX12_nameOf_74 (by decide) ?_
            obtain rfl := Option.some.inj hF
            exact Go.iret (st := []) dX12_nameOf_75 rfl rfl ⟨rfl, rfl⟩
          · have hF := ite_f hs_1_4 hF
            by_cases hs_1_5 : x0 = 112
            · have hF := ite_t hs_1_5 hF
              refine Go.swT (tgt := 76) dX12_nameOf_1 (by first | (rw [hs_1_5]; done) | (rw [hs_1_5]; rfl) | (rw [hs_1_5]; decide)) (by decide) (by decide) ?_
              refine Go.iconst (v := 2) dX12_nameOf_76 (by decide) ?_
              obtain rfl := Option.some.inj hF
              exact Go.iret (st := []) dX12_nameOf_77 rfl rfl ⟨rfl, rfl⟩
            · have hF := ite_f hs_1_5 hF
              refine Go.swT (tgt := 84) dX12_nameOf_1 (sw_X12_nameOf_1 _ hs_1_0 hs_1_1 hs_1_2 hs_1_3 hs_1_4 hs_1_5) (by decide) (by decide) ?_
              refine Go.iconst (v := (-1)) dX12_nameOf_84 (by decide) ?_
              obtain rfl := Option.some.inj hF
              exact Go.iret (st := []) dX12_nameOf_85 rfl rfl ⟨rfl, rfl⟩
def F_X12_opens (S : St) : Option (Int32 × St) :=
  if (S.1 63 22) = 6 then ((F_X12_faulty S).bind (fun r_10 => some (0, r_10))) else (let S22 := fset S 63 22 ((S.1 63 22) + 1); let S32 := fset S22 63 20 ((S22.1 63 20) + 1); some (1, S32))
set_option maxHeartbeats 4000000 in
set_option maxRecDepth 100000 in
theorem ok_X12_opens {l : Launch} (d : Nat) (S : St) (R : Int32 × St) (hF : F_X12_opens S = some R) : Go l (d + 1) mX12_opens (Res (some (.int R.1)) R.2) 0 [(0, .ref 63)] [] S := by
  unfold F_X12_opens at hF
  refine Go.aload_n dX12_opens_0 rfl ?_
  refine Go.getI dX12_opens_1 fX12_197 rfl ?_
  refine Go.bipush (v := 6) dX12_opens_4 (by decide) ?_
  refine Go.icmpne (tgt := 15) dX12_opens_6 (by decide) (fun h_6 => ?_) (fun h_6 => ?_)
  · have hF := ite_f h_6 hF
    refine Go.aload_n dX12_opens_15 rfl ?_
    refine Go.dup dX12_opens_16 rfl ?_
    refine Go.getI dX12_opens_17 fX12_197 rfl ?_
    refine Go.iconst (v := 1) dX12_opens_20 (by decide) ?_
    refine Go.iadd dX12_opens_21 ?_
    refine Go.putI dX12_opens_22 fX12_197 rfl ?_
    refine Go.aload_n dX12_opens_25 rfl ?_
    refine Go.dup dX12_opens_26 rfl ?_
    refine Go.getI dX12_opens_27 fX12_188 rfl ?_
    refine Go.iconst (v := 1) dX12_opens_30 (by decide) ?_
    refine Go.iadd dX12_opens_31 ?_
    refine Go.putI dX12_opens_32 fX12_188 rfl ?_
    refine Go.iconst (v := 1) dX12_opens_35 (by decide) ?_
    obtain rfl := Option.some.inj hF
    exact Go.iret (st := []) dX12_opens_36 rfl rfl ⟨rfl, rfl⟩
  · have hF := ite_t h_6 hF
    refine Go.aload_n dX12_opens_9 rfl ?_
    obtain ⟨r_10, hc_10, hF⟩ := Option.bind_eq_some_iff.mp hF
    refine Go.callV [] dX12_opens_10 kX12_faulty vX12_faulty lX12_200 rfl rfl rfl rfl rfl (Nat.le_of_ble_eq_true rfl) (Nat.le_of_ble_eq_true rfl) (ok_X12_faulty (d + 0) _ _ hc_10) ?_
    refine Go.iconst (v := 0) dX12_opens_13 (by decide) ?_
    obtain rfl := Option.some.inj hF
    exact Go.iret (st := []) dX12_opens_14 rfl rfl ⟨rfl, rfl⟩
def F_X12_figure_52 (x1 : Int32) (x2 : Int32) (S : St) : Option (St) :=
  if x2 = 0 then ((F_X12_faulty S).bind (fun r_71 => (F_X12_addStep (1 : Int32) x1 r_71).bind (fun r_77 => some r_77))) else ((F_X12_look S).bind (fun r_57 => (F_X12_in r_57.1 (48 : Int32) (57 : Int32) r_57.2).bind (fun r_64 => if r_64.1 = 0 then ((F_X12_addStep (1 : Int32) x1 r_64.2).bind (fun r_77 => some r_77)) else ((F_X12_faulty r_64.2).bind (fun r_71 => (F_X12_addStep (1 : Int32) x1 r_71).bind (fun r_77 => some r_77))))))
set_option maxHeartbeats 4000000 in
set_option maxRecDepth 100000 in
theorem ok_X12_figure_52 {l : Launch} (d : Nat) (x1 : Int32) (x2 : Int32) (S : St) (R : St) (hF : F_X12_figure_52 x1 x2 S = some R) : Go l (d + 1) mX12_figure (Res none R) 52 [(0, .ref 63), (1, .int x1), (2, .int x2)] [] S := by
  unfold F_X12_figure_52 at hF
  refine Go.iload_n dX12_figure_52 rfl ?_
  refine Go.ifeq (tgt := 70) dX12_figure_53 (by decide) (fun h_53 => ?_) (fun h_53 => ?_)
  · have hF := ite_t h_53 hF
    refine Go.aload_n dX12_figure_70 rfl ?_
    obtain ⟨r_71, hc_71, hF⟩ := Option.bind_eq_some_iff.mp hF
    refine Go.callV [] dX12_figure_71 kX12_faulty vX12_faulty lX12_200 rfl rfl rfl rfl rfl (Nat.le_of_ble_eq_true rfl) (Nat.le_of_ble_eq_true rfl) (ok_X12_faulty (d + 0) _ _ hc_71) ?_
    refine Go.aload_n dX12_figure_74 rfl ?_
    refine Go.iconst (v := 1) dX12_figure_75 (by decide) ?_
    refine Go.iload_n dX12_figure_76 rfl ?_
    obtain ⟨r_77, hc_77, hF⟩ := Option.bind_eq_some_iff.mp hF
    refine Go.callV [_, _] dX12_figure_77 kX12_addStep vX12_addStep lX12_207 rfl rfl rfl rfl rfl (Nat.le_of_ble_eq_true rfl) (Nat.le_of_ble_eq_true rfl) (ok_X12_addStep (d + 0) _ _ _ _ hc_77) ?_
    obtain rfl := Option.some.inj hF
    exact Go.vret (st := []) dX12_figure_80 rfl ⟨rfl, rfl⟩
  · have hF := ite_f h_53 hF
    refine Go.aload_n dX12_figure_56 rfl ?_
    obtain ⟨r_57, hc_57, hF⟩ := Option.bind_eq_some_iff.mp hF
    refine Go.callV [] dX12_figure_57 kX12_look vX12_look lX12_203 rfl rfl rfl rfl rfl (Nat.le_of_ble_eq_true rfl) (Nat.le_of_ble_eq_true rfl) (ok_X12_look (d + 0) _ _ hc_57) ?_
    refine Go.bipush (v := 48) dX12_figure_60 (by decide) ?_
    refine Go.bipush (v := 57) dX12_figure_62 (by decide) ?_
    obtain ⟨r_64, hc_64, hF⟩ := Option.bind_eq_some_iff.mp hF
    refine Go.callS [_, _, _] dX12_figure_64 kX12_in sX12_in lX12_144 rfl rfl (Nat.le_of_ble_eq_true rfl) (Nat.le_of_ble_eq_true rfl) (ok_X12_in (d + 0) _ _ _ _ _ hc_64) ?_
    refine Go.ifeq (tgt := 74) dX12_figure_67 (by decide) (fun h_67 => ?_) (fun h_67 => ?_)
    · have hF := ite_t h_67 hF
      refine Go.aload_n dX12_figure_74 rfl ?_
      refine Go.iconst (v := 1) dX12_figure_75 (by decide) ?_
      refine Go.iload_n dX12_figure_76 rfl ?_
      obtain ⟨r_77, hc_77, hF⟩ := Option.bind_eq_some_iff.mp hF
      refine Go.callV [_, _] dX12_figure_77 kX12_addStep vX12_addStep lX12_207 rfl rfl rfl rfl rfl (Nat.le_of_ble_eq_true rfl) (Nat.le_of_ble_eq_true rfl) (ok_X12_addStep (d + 0) _ _ _ _ hc_77) ?_
      obtain rfl := Option.some.inj hF
      exact Go.vret (st := []) dX12_figure_80 rfl ⟨rfl, rfl⟩
    · have hF := ite_f h_67 hF
      refine Go.aload_n dX12_figure_70 rfl ?_
      obtain ⟨r_71, hc_71, hF⟩ := Option.bind_eq_some_iff.mp hF
      refine Go.callV [] dX12_figure_71 kX12_faulty vX12_faulty lX12_200 rfl rfl rfl rfl rfl (Nat.le_of_ble_eq_true rfl) (Nat.le_of_ble_eq_true rfl) (ok_X12_faulty (d + 0) _ _ hc_71) ?_
      refine Go.aload_n dX12_figure_74 rfl ?_
      refine Go.iconst (v := 1) dX12_figure_75 (by decide) ?_
      refine Go.iload_n dX12_figure_76 rfl ?_
      obtain ⟨r_77, hc_77, hF⟩ := Option.bind_eq_some_iff.mp hF
      refine Go.callV [_, _] dX12_figure_77 kX12_addStep vX12_addStep lX12_207 rfl rfl rfl rfl rfl (Nat.le_of_ble_eq_true rfl) (Nat.le_of_ble_eq_true rfl) (ok_X12_addStep (d + 0) _ _ _ _ hc_77) ?_
      obtain rfl := Option.some.inj hF
      exact Go.vret (st := []) dX12_figure_80 rfl ⟨rfl, rfl⟩
def F_X12_figure_4 : Nat → Int32 → Int32 → St → Option (St)
  | 0 => fun _ _ _ => none
  | n + 1 => fun x1 x2 S =>
    if 4 ≤ x2 then (F_X12_figure_52 x1 x2 S) else ((F_X12_look S).bind (fun r_10 => (F_X12_in r_10.1 (48 : Int32) (57 : Int32) r_10.2).bind (fun r_17 => if r_17.1 = 0 then (F_X12_figure_52 x1 x2 r_17.2) else ((F_X12_look r_17.2).bind (fun r_28 => let S46 := fset r_28.2 63 20 ((r_28.2.1 63 20) + 1); (F_X12_figure_4 n) (((10 * x1) + r_28.1) - 48) (x2 + 1) S46)))))
set_option maxHeartbeats 4000000 in
set_option maxRecDepth 100000 in
theorem ok_X12_figure_4 {l : Launch} (d : Nat) : ∀ (n : Nat) (x1 : Int32) (x2 : Int32) (S : St) (R : St), F_X12_figure_4 n x1 x2 S = some R → Go l (d + 1) mX12_figure (Res none R) 4 [(0, .ref 63), (1, .int x1), (2, .int x2)] [] S := by
  intro n
  induction n with
  | zero => intro x1 x2 S  R hF; cases hF
  | succ n hk4 =>
    intro x1 x2 S  R hF
    have hF : (if 4 ≤ x2 then (F_X12_figure_52 x1 x2 S) else ((F_X12_look S).bind (fun r_10 => (F_X12_in r_10.1 (48 : Int32) (57 : Int32) r_10.2).bind (fun r_17 => if r_17.1 = 0 then (F_X12_figure_52 x1 x2 r_17.2) else ((F_X12_look r_17.2).bind (fun r_28 => let S46 := fset r_28.2 63 20 ((r_28.2.1 63 20) + 1); (F_X12_figure_4 n) (((10 * x1) + r_28.1) - 48) (x2 + 1) S46)))))) = some R := hF
    refine Go.iload_n dX12_figure_4 rfl ?_
    refine Go.iconst (v := 4) dX12_figure_5 (by decide) ?_
    refine Go.icmpge (tgt := 52) dX12_figure_6 (by decide) (fun h_6 => ?_) (fun h_6 => ?_)
    · have hF := ite_t h_6 hF
      refine Go.pick (ls' := [(0, _), (1, _), (2, _)]) [0, 1, 2] rfl ?_
      exact ok_X12_figure_52 d _ _ _ _ hF
    · have hF := ite_f h_6 hF
      refine Go.aload_n dX12_figure_9 rfl ?_
      obtain ⟨r_10, hc_10, hF⟩ := Option.bind_eq_some_iff.mp hF
      refine Go.callV [] dX12_figure_10 kX12_look vX12_look lX12_203 rfl rfl rfl rfl rfl (Nat.le_of_ble_eq_true rfl) (Nat.le_of_ble_eq_true rfl) (ok_X12_look (d + 0) _ _ hc_10) ?_
      refine Go.bipush (v := 48) dX12_figure_13 (by decide) ?_
      refine Go.bipush (v := 57) dX12_figure_15 (by decide) ?_
      obtain ⟨r_17, hc_17, hF⟩ := Option.bind_eq_some_iff.mp hF
      refine Go.callS [_, _, _] dX12_figure_17 kX12_in sX12_in lX12_144 rfl rfl (Nat.le_of_ble_eq_true rfl) (Nat.le_of_ble_eq_true rfl) (ok_X12_in (d + 0) _ _ _ _ _ hc_17) ?_
      refine Go.ifeq (tgt := 52) dX12_figure_20 (by decide) (fun h_20 => ?_) (fun h_20 => ?_)
      · have hF := ite_t h_20 hF
        refine Go.pick (ls' := [(0, _), (1, _), (2, _)]) [0, 1, 2] rfl ?_
        exact ok_X12_figure_52 d _ _ _ _ hF
      · have hF := ite_f h_20 hF
        refine Go.bipush (v := 10) dX12_figure_23 (by decide) ?_
        refine Go.iload_n dX12_figure_25 rfl ?_
        refine Go.imul dX12_figure_26 ?_
        refine Go.aload_n dX12_figure_27 rfl ?_
        obtain ⟨r_28, hc_28, hF⟩ := Option.bind_eq_some_iff.mp hF
        refine Go.callV [] dX12_figure_28 kX12_look vX12_look lX12_203 rfl rfl rfl rfl rfl (Nat.le_of_ble_eq_true rfl) (Nat.le_of_ble_eq_true rfl) (ok_X12_look (d + 0) _ _ hc_28) ?_
        refine Go.iadd dX12_figure_31 ?_
        refine Go.bipush (v := 48) dX12_figure_32 (by decide) ?_
        refine Go.isub dX12_figure_34 ?_
        refine Go.istore_n (ls' := [(1, _), (0, _), (2, _)]) dX12_figure_35 (by decide) rfl ?_
        refine Go.iincP (ls' := [(2, _), (1, _), (0, _)]) dX12_figure_36 rfl (by decide) rfl ?_
        refine Go.aload_n dX12_figure_39 rfl ?_
        refine Go.dup dX12_figure_40 rfl ?_
        refine Go.getI dX12_figure_41 fX12_188 rfl ?_
        refine Go.iconst (v := 1) dX12_figure_44 (by decide) ?_
        refine Go.iadd dX12_figure_45 ?_
        refine Go.putI dX12_figure_46 fX12_188 rfl ?_
        refine Go.goto (tgt := 4) dX12_figure_49 (by decide) ?_
        refine Go.pick (ls' := [(0, _), (1, _), (2, _)]) [2, 1, 0] rfl ?_
        exact hk4 _ _ _ _ hF
def F_X12_figure (N : Nat) (S : St) : Option (St) :=
  F_X12_figure_4 N 0 0 S
set_option maxHeartbeats 4000000 in
set_option maxRecDepth 100000 in
theorem ok_X12_figure {l : Launch} (d : Nat) (N : Nat) (S : St) (R : St) (hF : F_X12_figure N S = some R) : Go l (d + 1) mX12_figure (Res none R) 0 [(0, .ref 63)] [] S := by
  unfold F_X12_figure at hF
  refine Go.iconst (v := 0) dX12_figure_0 (by decide) ?_
  refine Go.istore_n (ls' := [(1, _), (0, _)]) dX12_figure_1 (by decide) rfl ?_
  refine Go.iconst (v := 0) dX12_figure_2 (by decide) ?_
  refine Go.istore_n (ls' := [(2, _), (1, _), (0, _)]) dX12_figure_3 (by decide) rfl ?_
  refine Go.pick (ls' := [(0, _), (1, _), (2, _)]) [2, 1, 0] rfl ?_
  exact ok_X12_figure_4 d N _ _ _ _ hF
theorem sw_X12_twoOf_1 (x : Int32) (h0 : ¬ x = 37) (h1 : ¬ x = 38) (h2 : ¬ x = 42) (h3 : ¬ x = 43) (h4 : ¬ x = 45) (h5 : ¬ x = 47) (h6 : ¬ x = 60) (h7 : ¬ x = 61) (h8 : ¬ x = 62) : swO 217 37 62 #[153, 203, 217, 217, 217, 127, 119, 217, 123, 217, 131, 217, 217, 217, 217, 217, 217, 217, 217, 217, 217, 217, 217, 170, 181, 192] x = 217 := by
  by_cases h : x.toInt < 37 ∨ 62 < x.toInt
  · unfold swO; rw [if_pos h]
  · have hx : x = 37 ∨ x = 38 ∨ x = 39 ∨ x = 40 ∨ x = 41 ∨ x = 42 ∨ x = 43 ∨ x = 44 ∨ x = 45 ∨ x = 46 ∨ x = 47 ∨ x = 48 ∨ x = 49 ∨ x = 50 ∨ x = 51 ∨ x = 52 ∨ x = 53 ∨ x = 54 ∨ x = 55 ∨ x = 56 ∨ x = 57 ∨ x = 58 ∨ x = 59 ∨ x = 60 ∨ x = 61 ∨ x = 62 := by
      have e : ∀ v : Int32, x.toInt = v.toInt → x = v := fun v h => Int32.toInt_inj.mp h
      have : x.toInt = 37 ∨ x.toInt = 38 ∨ x.toInt = 39 ∨ x.toInt = 40 ∨ x.toInt = 41 ∨ x.toInt = 42 ∨ x.toInt = 43 ∨ x.toInt = 44 ∨ x.toInt = 45 ∨ x.toInt = 46 ∨ x.toInt = 47 ∨ x.toInt = 48 ∨ x.toInt = 49 ∨ x.toInt = 50 ∨ x.toInt = 51 ∨ x.toInt = 52 ∨ x.toInt = 53 ∨ x.toInt = 54 ∨ x.toInt = 55 ∨ x.toInt = 56 ∨ x.toInt = 57 ∨ x.toInt = 58 ∨ x.toInt = 59 ∨ x.toInt = 60 ∨ x.toInt = 61 ∨ x.toInt = 62 := by omega
      rcases this with h | h | h | h | h | h | h | h | h | h | h | h | h | h | h | h | h | h | h | h | h | h | h | h | h | h
      · exact Or.inl (e 37 h)
      · exact Or.inr (Or.inl (e 38 h))
      · exact Or.inr (Or.inr (Or.inl (e 39 h)))
      · exact Or.inr (Or.inr (Or.inr (Or.inl (e 40 h))))
      · exact Or.inr (Or.inr (Or.inr (Or.inr (Or.inl (e 41 h)))))
      · exact Or.inr (Or.inr (Or.inr (Or.inr (Or.inr (Or.inl (e 42 h))))))
      · exact Or.inr (Or.inr (Or.inr (Or.inr (Or.inr (Or.inr (Or.inl (e 43 h)))))))
      · exact Or.inr (Or.inr (Or.inr (Or.inr (Or.inr (Or.inr (Or.inr (Or.inl (e 44 h))))))))
      · exact Or.inr (Or.inr (Or.inr (Or.inr (Or.inr (Or.inr (Or.inr (Or.inr (Or.inl (e 45 h)))))))))
      · exact Or.inr (Or.inr (Or.inr (Or.inr (Or.inr (Or.inr (Or.inr (Or.inr (Or.inr (Or.inl (e 46 h))))))))))
      · exact Or.inr (Or.inr (Or.inr (Or.inr (Or.inr (Or.inr (Or.inr (Or.inr (Or.inr (Or.inr (Or.inl (e 47 h)))))))))))
      · exact Or.inr (Or.inr (Or.inr (Or.inr (Or.inr (Or.inr (Or.inr (Or.inr (Or.inr (Or.inr (Or.inr (Or.inl (e 48 h))))))))))))
      · exact Or.inr (Or.inr (Or.inr (Or.inr (Or.inr (Or.inr (Or.inr (Or.inr (Or.inr (Or.inr (Or.inr (Or.inr (Or.inl (e 49 h)))))))))))))
      · exact Or.inr (Or.inr (Or.inr (Or.inr (Or.inr (Or.inr (Or.inr (Or.inr (Or.inr (Or.inr (Or.inr (Or.inr (Or.inr (Or.inl (e 50 h))))))))))))))
      · exact Or.inr (Or.inr (Or.inr (Or.inr (Or.inr (Or.inr (Or.inr (Or.inr (Or.inr (Or.inr (Or.inr (Or.inr (Or.inr (Or.inr (Or.inl (e 51 h)))))))))))))))
      · exact Or.inr (Or.inr (Or.inr (Or.inr (Or.inr (Or.inr (Or.inr (Or.inr (Or.inr (Or.inr (Or.inr (Or.inr (Or.inr (Or.inr (Or.inr (Or.inl (e 52 h))))))))))))))))
      · exact Or.inr (Or.inr (Or.inr (Or.inr (Or.inr (Or.inr (Or.inr (Or.inr (Or.inr (Or.inr (Or.inr (Or.inr (Or.inr (Or.inr (Or.inr (Or.inr (Or.inl (e 53 h)))))))))))))))))
      · exact Or.inr (Or.inr (Or.inr (Or.inr (Or.inr (Or.inr (Or.inr (Or.inr (Or.inr (Or.inr (Or.inr (Or.inr (Or.inr (Or.inr (Or.inr (Or.inr (Or.inr (Or.inl (e 54 h))))))))))))))))))
      · exact Or.inr (Or.inr (Or.inr (Or.inr (Or.inr (Or.inr (Or.inr (Or.inr (Or.inr (Or.inr (Or.inr (Or.inr (Or.inr (Or.inr (Or.inr (Or.inr (Or.inr (Or.inr (Or.inl (e 55 h)))))))))))))))))))
      · exact Or.inr (Or.inr (Or.inr (Or.inr (Or.inr (Or.inr (Or.inr (Or.inr (Or.inr (Or.inr (Or.inr (Or.inr (Or.inr (Or.inr (Or.inr (Or.inr (Or.inr (Or.inr (Or.inr (Or.inl (e 56 h))))))))))))))))))))
      · exact Or.inr (Or.inr (Or.inr (Or.inr (Or.inr (Or.inr (Or.inr (Or.inr (Or.inr (Or.inr (Or.inr (Or.inr (Or.inr (Or.inr (Or.inr (Or.inr (Or.inr (Or.inr (Or.inr (Or.inr (Or.inl (e 57 h)))))))))))))))))))))
      · exact Or.inr (Or.inr (Or.inr (Or.inr (Or.inr (Or.inr (Or.inr (Or.inr (Or.inr (Or.inr (Or.inr (Or.inr (Or.inr (Or.inr (Or.inr (Or.inr (Or.inr (Or.inr (Or.inr (Or.inr (Or.inr (Or.inl (e 58 h))))))))))))))))))))))
      · exact Or.inr (Or.inr (Or.inr (Or.inr (Or.inr (Or.inr (Or.inr (Or.inr (Or.inr (Or.inr (Or.inr (Or.inr (Or.inr (Or.inr (Or.inr (Or.inr (Or.inr (Or.inr (Or.inr (Or.inr (Or.inr (Or.inr (Or.inl (e 59 h)))))))))))))))))))))))
      · exact Or.inr (Or.inr (Or.inr (Or.inr (Or.inr (Or.inr (Or.inr (Or.inr (Or.inr (Or.inr (Or.inr (Or.inr (Or.inr (Or.inr (Or.inr (Or.inr (Or.inr (Or.inr (Or.inr (Or.inr (Or.inr (Or.inr (Or.inr (Or.inl (e 60 h))))))))))))))))))))))))
      · exact Or.inr (Or.inr (Or.inr (Or.inr (Or.inr (Or.inr (Or.inr (Or.inr (Or.inr (Or.inr (Or.inr (Or.inr (Or.inr (Or.inr (Or.inr (Or.inr (Or.inr (Or.inr (Or.inr (Or.inr (Or.inr (Or.inr (Or.inr (Or.inr (Or.inl (e 61 h)))))))))))))))))))))))))
      · exact Or.inr (Or.inr (Or.inr (Or.inr (Or.inr (Or.inr (Or.inr (Or.inr (Or.inr (Or.inr (Or.inr (Or.inr (Or.inr (Or.inr (Or.inr (Or.inr (Or.inr (Or.inr (Or.inr (Or.inr (Or.inr (Or.inr (Or.inr (Or.inr (Or.inr (e 62 h)))))))))))))))))))))))))
    rcases hx with rfl | rfl | rfl | rfl | rfl | rfl | rfl | rfl | rfl | rfl | rfl | rfl | rfl | rfl | rfl | rfl | rfl | rfl | rfl | rfl | rfl | rfl | rfl | rfl | rfl | rfl <;> first | rfl | (exact absurd rfl (by assumption))
def F_X12_twoOf (x0 : Int32) (x1 : Int32) (x2 : Int32) (S : St) : Option (Int32 × St) :=
  if x0 = 37 then (if x2 = 0 then (some (0, S)) else (if x2 = (-1) then (some (0, S)) else (gd (decide (¬ x2 = 0)) (some (x1 - (x1 / x2) * x2, S))))) else (if x0 = 38 then (if x1 = 0 then (some (0, S)) else (if x2 = 0 then (some (0, S)) else (some (1, S)))) else (if x0 = 42 then (some (x1 * x2, S)) else (if x0 = 43 then (some (x1 + x2, S)) else (if x0 = 45 then (some (x1 - x2, S)) else (if x0 = 47 then (if x2 = 0 then (some (0, S)) else (if x2 = (-1) then (some (-x1, S)) else (gd (decide (¬ x2 = 0)) (some (x1 / x2, S))))) else (if x0 = 60 then (if x2 ≤ x1 then (some (0, S)) else (some (1, S))) else (if x0 = 61 then (if x1 = x2 then (some (1, S)) else (some (0, S))) else (if x0 = 62 then (if x1 ≤ x2 then (some (0, S)) else (some (1, S))) else (if x1 = 0 then (if x2 = 0 then (some (0, S)) else (some (1, S))) else (some (1, S)))))))))))
set_option maxHeartbeats 4000000 in
set_option maxRecDepth 100000 in
theorem ok_X12_twoOf {l : Launch} (d : Nat) (x0 : Int32) (x1 : Int32) (x2 : Int32) (S : St) (R : Int32 × St) (hF : F_X12_twoOf x0 x1 x2 S = some R) : Go l (d + 0) mX12_twoOf (Res (some (.int R.1)) R.2) 0 [(0, .int x0), (1, .int x1), (2, .int x2)] [] S := by
  unfold F_X12_twoOf at hF
  refine Go.iload_n dX12_twoOf_0 rfl ?_
  by_cases hs_1_0 : x0 = 37
  · have hF := ite_t hs_1_0 hF
    refine Go.swT (tgt := 154) dX12_twoOf_1 (by first | (rw [hs_1_0]; done) | (rw [hs_1_0]; rfl) | (rw [hs_1_0]; decide)) (by decide) (by decide) ?_
    refine Go.iload_n dX12_twoOf_154 rfl ?_
    refine Go.ifeq (tgt := 163) dX12_twoOf_155 (by decide) (fun h_155 => ?_) (fun h_155 => ?_)
    · have hF := ite_t h_155 hF
      refine Go.iconst (v := 0) dX12_twoOf_163 (by decide) ?_
      refine Go.goto (tgt := 170) dX12_twoOf_164 (by decide) ?_
      obtain rfl := Option.some.inj hF
      exact Go.iret (st := []) dX12_twoOf_170 rfl rfl ⟨rfl, rfl⟩
    · have hF := ite_f h_155 hF
      refine Go.iload_n dX12_twoOf_158 rfl ?_
      refine Go.iconst (v := (-1)) dX12_twoOf_159 (by decide) ?_
      refine Go.icmpne (tgt := 167) dX12_twoOf_160 (by decide) (fun h_160 => ?_) (fun h_160 => ?_)
      · have hF := ite_f h_160 hF
        refine Go.iload_n dX12_twoOf_167 rfl ?_
        refine Go.iload_n dX12_twoOf_168 rfl ?_
        obtain ⟨hb_169, hF⟩ := gd_some hF
        refine Go.irem dX12_twoOf_169 (of_decide_eq_true hb_169) ?_
        obtain rfl := Option.some.inj hF
        exact Go.iret (st := []) dX12_twoOf_170 rfl rfl ⟨rfl, rfl⟩
      · have hF := ite_t h_160 hF
        refine Go.iconst (v := 0) dX12_twoOf_163 (by decide) ?_
        refine Go.goto (tgt := 170) dX12_twoOf_164 (by decide) ?_
        obtain rfl := Option.some.inj hF
        exact Go.iret (st := []) dX12_twoOf_170 rfl rfl ⟨rfl, rfl⟩
  · have hF := ite_f hs_1_0 hF
    by_cases hs_1_1 : x0 = 38
    · have hF := ite_t hs_1_1 hF
      refine Go.swT (tgt := 204) dX12_twoOf_1 (by first | (rw [hs_1_1]; done) | (rw [hs_1_1]; rfl) | (rw [hs_1_1]; decide)) (by decide) (by decide) ?_
      refine Go.iload_n dX12_twoOf_204 rfl ?_
      refine Go.ifeq (tgt := 216) dX12_twoOf_205 (by decide) (fun h_205 => ?_) (fun h_205 => ?_)
      · have hF := ite_t h_205 hF
        refine Go.iconst (v := 0) dX12_twoOf_216 (by decide) ?_
        obtain rfl := Option.some.inj hF
        exact Go.iret (st := []) dX12_twoOf_217 rfl rfl ⟨rfl, rfl⟩
      · have hF := ite_f h_205 hF
        refine Go.iload_n dX12_twoOf_208 rfl ?_
        refine Go.ifeq (tgt := 216) dX12_twoOf_209 (by decide) (fun h_209 => ?_) (fun h_209 => ?_)
        · have hF := ite_t h_209 hF
          refine Go.iconst (v := 0) dX12_twoOf_216 (by decide) ?_
          obtain rfl := Option.some.inj hF
          exact Go.iret (st := []) dX12_twoOf_217 rfl rfl ⟨rfl, rfl⟩
        · have hF := ite_f h_209 hF
          refine Go.iconst (v := 1) dX12_twoOf_212 (by decide) ?_
          refine Go.goto (tgt := 217) dX12_twoOf_213 (by decide) ?_
          obtain rfl := Option.some.inj hF
          exact Go.iret (st := []) dX12_twoOf_217 rfl rfl ⟨rfl, rfl⟩
    · have hF := ite_f hs_1_1 hF
      by_cases hs_1_2 : x0 = 42
      · have hF := ite_t hs_1_2 hF
        refine Go.swT (tgt := 128) dX12_twoOf_1 (by first | (rw [hs_1_2]; done) | (rw [hs_1_2]; rfl) | (rw [hs_1_2]; decide)) (by decide) (by decide) ?_
        refine Go.iload_n dX12_twoOf_128 rfl ?_
        refine Go.iload_n dX12_twoOf_129 rfl ?_
        refine Go.imul dX12_twoOf_130 ?_
        obtain rfl := Option.some.inj hF
        exact Go.iret (st := []) dX12_twoOf_131 rfl rfl ⟨rfl, rfl⟩
      · have hF := ite_f hs_1_2 hF
        by_cases hs_1_3 : x0 = 43
        · have hF := ite_t hs_1_3 hF
          refine Go.swT (tgt := 120) dX12_twoOf_1 (by first | (rw [hs_1_3]; done) | (rw [hs_1_3]; rfl) | (rw [hs_1_3]; decide)) (by decide) (by decide) ?_
          refine Go.iload_n dX12_twoOf_120 rfl ?_
          refine Go.iload_n dX12_twoOf_121 rfl ?_
          refine Go.iadd dX12_twoOf_122 ?_
          obtain rfl := Option.some.inj hF
          exact Go.iret (st := []) dX12_twoOf_123 rfl rfl ⟨rfl, rfl⟩
        · have hF := ite_f hs_1_3 hF
          by_cases hs_1_4 : x0 = 45
          · have hF := ite_t hs_1_4 hF
            refine Go.swT (tgt := 124) dX12_twoOf_1 (by first | (rw [hs_1_4]; done) | (rw [hs_1_4]; rfl) | (rw [hs_1_4]; decide)) (by decide) (by decide) ?_
            refine Go.iload_n dX12_twoOf_124 rfl ?_
            refine Go.iload_n dX12_twoOf_125 rfl ?_
            refine Go.isub dX12_twoOf_126 ?_
            obtain rfl := Option.some.inj hF
            exact Go.iret (st := []) dX12_twoOf_127 rfl rfl ⟨rfl, rfl⟩
          · have hF := ite_f hs_1_4 hF
            by_cases hs_1_5 : x0 = 47
            · have hF := ite_t hs_1_5 hF
              refine Go.swT (tgt := 132) dX12_twoOf_1 (by first | (rw [hs_1_5]; done) | (rw [hs_1_5]; rfl) | (rw [hs_1_5]; decide)) (by decide) (by decide) ?_
              refine Go.iload_n dX12_twoOf_132 rfl ?_
              refine Go.ifne (tgt := 140) dX12_twoOf_133 (by decide) (fun h_133 => ?_) (fun h_133 => ?_)
              · have hF := ite_f h_133 hF
                refine Go.iload_n dX12_twoOf_140 rfl ?_
                refine Go.iconst (v := (-1)) dX12_twoOf_141 (by decide) ?_
                refine Go.icmpne (tgt := 150) dX12_twoOf_142 (by decide) (fun h_142 => ?_) (fun h_142 => ?_)
                · have hF := ite_f h_142 hF
                  refine Go.iload_n dX12_twoOf_150 rfl ?_
                  refine Go.iload_n dX12_twoOf_151 rfl ?_
                  obtain ⟨hb_152, hF⟩ := gd_some hF
                  refine Go.idiv dX12_twoOf_152 (of_decide_eq_true hb_152) ?_
                  obtain rfl := Option.some.inj hF
                  exact Go.iret (st := []) dX12_twoOf_153 rfl rfl ⟨rfl, rfl⟩
                · have hF := ite_t h_142 hF
                  refine Go.iload_n dX12_twoOf_145 rfl ?_
                  refine Go.ineg dX12_twoOf_146 ?_
                  refine Go.goto (tgt := 153) dX12_twoOf_147 (by decide) ?_
                  obtain rfl := Option.some.inj hF
                  exact Go.iret (st := []) dX12_twoOf_153 rfl rfl ⟨rfl, rfl⟩
              · have hF := ite_t h_133 hF
                refine Go.iconst (v := 0) dX12_twoOf_136 (by decide) ?_
                refine Go.goto (tgt := 153) dX12_twoOf_137 (by decide) ?_
                obtain rfl := Option.some.inj hF
                exact Go.iret (st := []) dX12_twoOf_153 rfl rfl ⟨rfl, rfl⟩
            · have hF := ite_f hs_1_5 hF
              by_cases hs_1_6 : x0 = 60
              · have hF := ite_t hs_1_6 hF
                refine Go.swT (tgt := 171) dX12_twoOf_1 (by first | (rw [hs_1_6]; done) | (rw [hs_1_6]; rfl) | (rw [hs_1_6]; decide)) (by decide) (by decide) ?_
                refine Go.iload_n dX12_twoOf_171 rfl ?_
                refine Go.iload_n dX12_twoOf_172 rfl ?_
                refine Go.icmpge (tgt := 180) dX12_twoOf_173 (by decide) (fun h_173 => ?_) (fun h_173 => ?_)
                · have hF := ite_t h_173 hF
                  refine Go.iconst (v := 0) dX12_twoOf_180 (by decide) ?_
                  obtain rfl := Option.some.inj hF
                  exact Go.iret (st := []) dX12_twoOf_181 rfl rfl ⟨rfl, rfl⟩
                · have hF := ite_f h_173 hF
                  refine Go.iconst (v := 1) dX12_twoOf_176 (by decide) ?_
                  refine Go.goto (tgt := 181) dX12_twoOf_177 (by decide) ?_
                  obtain rfl := Option.some.inj hF
                  exact Go.iret (st := []) dX12_twoOf_181 rfl rfl ⟨rfl, rfl⟩
              · have hF := ite_f hs_1_6 hF
                by_cases hs_1_7 : x0 = 61
                · have hF := ite_t hs_1_7 hF
                  refine Go.swT (tgt := 182) dX12_twoOf_1 (by first | (rw [hs_1_7]; done) | (rw [hs_1_7]; rfl) | (rw [hs_1_7]; decide)) (by decide) (by decide) ?_
                  refine Go.iload_n dX12_twoOf_182 rfl ?_
                  refine Go.iload_n dX12_twoOf_183 rfl ?_
                  refine Go.icmpne (tgt := 191) dX12_twoOf_184 (by decide) (fun h_184 => ?_) (fun h_184 => ?_)
                  · have hF := ite_f h_184 hF
                    refine Go.iconst (v := 0) dX12_twoOf_191 (by decide) ?_
                    obtain rfl := Option.some.inj hF
                    exact Go.iret (st := []) dX12_twoOf_192 rfl rfl ⟨rfl, rfl⟩
                  · have hF := ite_t h_184 hF
                    refine Go.iconst (v := 1) dX12_twoOf_187 (by decide) ?_
                    refine Go.goto (tgt := 192) dX12_twoOf_188 (by decide) ?_
                    obtain rfl := Option.some.inj hF
                    exact Go.iret (st := []) dX12_twoOf_192 rfl rfl ⟨rfl, rfl⟩
                · have hF := ite_f hs_1_7 hF
                  by_cases hs_1_8 : x0 = 62
                  · have hF := ite_t hs_1_8 hF
                    refine Go.swT (tgt := 193) dX12_twoOf_1 (by first | (rw [hs_1_8]; done) | (rw [hs_1_8]; rfl) | (rw [hs_1_8]; decide)) (by decide) (by decide) ?_
                    refine Go.iload_n dX12_twoOf_193 rfl ?_
                    refine Go.iload_n dX12_twoOf_194 rfl ?_
                    refine Go.icmple (tgt := 202) dX12_twoOf_195 (by decide) (fun h_195 => ?_) (fun h_195 => ?_)
                    · have hF := ite_t h_195 hF
                      refine Go.iconst (v := 0) dX12_twoOf_202 (by decide) ?_
                      obtain rfl := Option.some.inj hF
                      exact Go.iret (st := []) dX12_twoOf_203 rfl rfl ⟨rfl, rfl⟩
                    · have hF := ite_f h_195 hF
                      refine Go.iconst (v := 1) dX12_twoOf_198 (by decide) ?_
                      refine Go.goto (tgt := 203) dX12_twoOf_199 (by decide) ?_
                      obtain rfl := Option.some.inj hF
                      exact Go.iret (st := []) dX12_twoOf_203 rfl rfl ⟨rfl, rfl⟩
                  · have hF := ite_f hs_1_8 hF
                    refine Go.swT (tgt := 218) dX12_twoOf_1 (sw_X12_twoOf_1 _ hs_1_0 hs_1_1 hs_1_2 hs_1_3 hs_1_4 hs_1_5 hs_1_6 hs_1_7 hs_1_8) (by decide) (by decide) ?_
                    refine Go.iload_n dX12_twoOf_218 rfl ?_
                    refine Go.ifne (tgt := 226) dX12_twoOf_219 (by decide) (fun h_219 => ?_) (fun h_219 => ?_)
                    · have hF := ite_f h_219 hF
                      refine Go.iconst (v := 1) dX12_twoOf_226 (by decide) ?_
                      refine Go.goto (tgt := 231) dX12_twoOf_227 (by decide) ?_
                      obtain rfl := Option.some.inj hF
                      exact Go.iret (st := []) dX12_twoOf_231 rfl rfl ⟨rfl, rfl⟩
                    · have hF := ite_t h_219 hF
                      refine Go.iload_n dX12_twoOf_222 rfl ?_
                      refine Go.ifeq (tgt := 230) dX12_twoOf_223 (by decide) (fun h_223 => ?_) (fun h_223 => ?_)
                      · have hF := ite_t h_223 hF
                        refine Go.iconst (v := 0) dX12_twoOf_230 (by decide) ?_
                        obtain rfl := Option.some.inj hF
                        exact Go.iret (st := []) dX12_twoOf_231 rfl rfl ⟨rfl, rfl⟩
                      · have hF := ite_f h_223 hF
                        refine Go.iconst (v := 1) dX12_twoOf_226 (by decide) ?_
                        refine Go.goto (tgt := 231) dX12_twoOf_227 (by decide) ?_
                        obtain rfl := Option.some.inj hF
                        exact Go.iret (st := []) dX12_twoOf_231 rfl rfl ⟨rfl, rfl⟩
def F_X12_worked_45 (k12 : Int32 → Int32 → Int32 → Int32 → St → Option (Int32 × St)) (x1 : Int32) (x3 : Int32) (x4 : Int32) (x5 : Int32) (x6 : Int32) (S : St) : Option (Int32 × St) :=
  if x6 = 1 then (gd (inb x5 390) (gd (inb x4 130) (let S79 := aset S 83 (upd (S.2.1 83) (Int32.toNatClampNeg x4) (S.2.1 78 (Int32.toNatClampNeg x5))); k12 x1 x3 (x4 + 1) (x5 + 1) S79))) else (gd (inb x5 390) (gd (inb (S.2.1 78 (Int32.toNatClampNeg x5)) 6) (gd (inb x4 130) (let S79 := aset S 83 (upd (S.2.1 83) (Int32.toNatClampNeg x4) (S.2.1 82 (Int32.toNatClampNeg (S.2.1 78 (Int32.toNatClampNeg x5))))); k12 x1 x3 (x4 + 1) (x5 + 1) S79))))
set_option maxHeartbeats 4000000 in
set_option maxRecDepth 100000 in
theorem ok_X12_worked_45 {l : Launch} (d : Nat) (k12 : Int32 → Int32 → Int32 → Int32 → St → Option (Int32 × St)) (hk12 : ∀ (x1 : Int32) (x3 : Int32) (x4 : Int32) (x5 : Int32) (S : St) (R : Int32 × St), k12 x1 x3 x4 x5 S = some R → Go l (d + 1) mX12_worked (Res (some (.int R.1)) R.2) 12 [(0, .ref 63), (1, .int x1), (3, .int x3), (4, .int x4), (5, .int x5)] [] S) (x1 : Int32) (x3 : Int32) (x4 : Int32) (x5 : Int32) (x6 : Int32) (S : St) (R : Int32 × St) (hF : F_X12_worked_45 k12 x1 x3 x4 x5 x6 S = some R) : Go l (d + 1) mX12_worked (Res (some (.int R.1)) R.2) 45 [(0, .ref 63), (1, .int x1), (3, .int x3), (4, .int x4), (5, .int x5), (6, .int x6)] [] S := by
  unfold F_X12_worked_45 at hF
  refine Go.aload_n dX12_worked_45 rfl ?_
  refine Go.getR dX12_worked_46 fX12_73 rfl ?_
  refine Go.iload dX12_worked_49 rfl ?_
  refine Go.iload dX12_worked_51 rfl ?_
  refine Go.iconst (v := 1) dX12_worked_53 (by decide) ?_
  refine Go.icmpne (tgt := 67) dX12_worked_54 (by decide) (fun h_54 => ?_) (fun h_54 => ?_)
  · have hF := ite_f h_54 hF
    refine Go.aload_n dX12_worked_67 rfl ?_
    refine Go.getR dX12_worked_68 fX12_70 rfl ?_
    refine Go.aload_n dX12_worked_71 rfl ?_
    refine Go.getR dX12_worked_72 fX12_57 rfl ?_
    refine Go.iload dX12_worked_75 rfl ?_
    obtain ⟨hb_77, hF⟩ := gd_some hF
    refine Go.iald dX12_worked_77 rfl (inb_ok hb_77) ?_
    obtain ⟨hb_78, hF⟩ := gd_some hF
    refine Go.iald dX12_worked_78 rfl (inb_ok hb_78) ?_
    obtain ⟨hb_79, hF⟩ := gd_some hF
    refine Go.iast dX12_worked_79 rfl (inb_ok hb_79) ?_
    refine Go.iincP (ls' := [(4, _), (0, _), (1, _), (3, _), (5, _), (6, _)]) dX12_worked_80 rfl (by decide) rfl ?_
    refine Go.goto (tgt := 182) dX12_worked_83 (by decide) ?_
    refine Go.iincP (ls' := [(5, _), (4, _), (0, _), (1, _), (3, _), (6, _)]) dX12_worked_182 rfl (by decide) rfl ?_
    refine Go.goto (tgt := 12) dX12_worked_185 (by decide) ?_
    refine Go.pick (ls' := [(0, _), (1, _), (3, _), (4, _), (5, _)]) [2, 3, 4, 1, 0] rfl ?_
    exact hk12 _ _ _ _ _ _ hF
  · have hF := ite_t h_54 hF
    refine Go.aload_n dX12_worked_57 rfl ?_
    refine Go.getR dX12_worked_58 fX12_57 rfl ?_
    refine Go.iload dX12_worked_61 rfl ?_
    obtain ⟨hb_63, hF⟩ := gd_some hF
    refine Go.iald dX12_worked_63 rfl (inb_ok hb_63) ?_
    refine Go.goto (tgt := 79) dX12_worked_64 (by decide) ?_
    obtain ⟨hb_79, hF⟩ := gd_some hF
    refine Go.iast dX12_worked_79 rfl (inb_ok hb_79) ?_
    refine Go.iincP (ls' := [(4, _), (0, _), (1, _), (3, _), (5, _), (6, _)]) dX12_worked_80 rfl (by decide) rfl ?_
    refine Go.goto (tgt := 182) dX12_worked_83 (by decide) ?_
    refine Go.iincP (ls' := [(5, _), (4, _), (0, _), (1, _), (3, _), (6, _)]) dX12_worked_182 rfl (by decide) rfl ?_
    refine Go.goto (tgt := 12) dX12_worked_185 (by decide) ?_
    refine Go.pick (ls' := [(0, _), (1, _), (3, _), (4, _), (5, _)]) [2, 3, 4, 1, 0] rfl ?_
    exact hk12 _ _ _ _ _ _ hF
def F_X12_worked_12 : Nat → Int32 → Int32 → Int32 → Int32 → St → Option (Int32 × St)
  | 0 => fun _ _ _ _ _ => none
  | n + 1 => fun x1 x3 x4 x5 S =>
    if ((130 * x1) + x3) ≤ x5 then (gd (inb (0 : Int32) 130) (some (S.2.1 83 (Int32.toNatClampNeg (0 : Int32)), S))) else (gd (inb x5 390) (if (S.2.1 77 (Int32.toNatClampNeg x5)) = 1 then (F_X12_worked_45 (F_X12_worked_12 n) x1 x3 x4 x5 (S.2.1 77 (Int32.toNatClampNeg x5)) S) else (if (S.2.1 77 (Int32.toNatClampNeg x5)) = 2 then (F_X12_worked_45 (F_X12_worked_12 n) x1 x3 x4 x5 (S.2.1 77 (Int32.toNatClampNeg x5)) S) else (if (S.2.1 77 (Int32.toNatClampNeg x5)) = 3 then (gd (inb (x4 - 1) 130) (if (S.2.1 83 (Int32.toNatClampNeg (x4 - 1))) = 0 then (gd (inb (x4 - 1) 130) (let S117 := aset S 83 (upd (S.2.1 83) (Int32.toNatClampNeg (x4 - 1)) (1 : Int32)); (F_X12_worked_12 n) x1 x3 x4 (x5 + 1) S117)) else (gd (inb (x4 - 1) 130) (let S117 := aset S 83 (upd (S.2.1 83) (Int32.toNatClampNeg (x4 - 1)) (0 : Int32)); (F_X12_worked_12 n) x1 x3 x4 (x5 + 1) S117)))) else (if (S.2.1 77 (Int32.toNatClampNeg x5)) = 4 then (gd (inb (x4 - 1) 130) (gd (inb (x4 - 1) 130) (let S145 := aset S 83 (upd (S.2.1 83) (Int32.toNatClampNeg (x4 - 1)) (-(S.2.1 83 (Int32.toNatClampNeg (x4 - 1))))); (F_X12_worked_12 n) x1 x3 x4 (x5 + 1) S145))) else (gd (inb ((x4 + (-1)) - 1) 130) (gd (inb (x4 + (-1)) 130) ((F_X12_twoOf (S.2.1 77 (Int32.toNatClampNeg x5)) (S.2.1 83 (Int32.toNatClampNeg ((x4 + (-1)) - 1))) (S.2.1 83 (Int32.toNatClampNeg (x4 + (-1)))) S).bind (fun r_178 => gd (inb ((x4 + (-1)) - 1) 130) (let S181 := aset r_178.2 83 (upd (r_178.2.2.1 83) (Int32.toNatClampNeg ((x4 + (-1)) - 1)) r_178.1); (F_X12_worked_12 n) x1 x3 (x4 + (-1)) (x5 + 1) S181))))))))))
set_option maxHeartbeats 4000000 in
set_option maxRecDepth 100000 in
theorem ok_X12_worked_12 {l : Launch} (d : Nat) : ∀ (n : Nat) (x1 : Int32) (x3 : Int32) (x4 : Int32) (x5 : Int32) (S : St) (R : Int32 × St), F_X12_worked_12 n x1 x3 x4 x5 S = some R → Go l (d + 1) mX12_worked (Res (some (.int R.1)) R.2) 12 [(0, .ref 63), (1, .int x1), (3, .int x3), (4, .int x4), (5, .int x5)] [] S := by
  intro n
  induction n with
  | zero => intro x1 x3 x4 x5 S  R hF; cases hF
  | succ n hk12 =>
    intro x1 x3 x4 x5 S  R hF
    have hF : (if ((130 * x1) + x3) ≤ x5 then (gd (inb (0 : Int32) 130) (some (S.2.1 83 (Int32.toNatClampNeg (0 : Int32)), S))) else (gd (inb x5 390) (if (S.2.1 77 (Int32.toNatClampNeg x5)) = 1 then (F_X12_worked_45 (F_X12_worked_12 n) x1 x3 x4 x5 (S.2.1 77 (Int32.toNatClampNeg x5)) S) else (if (S.2.1 77 (Int32.toNatClampNeg x5)) = 2 then (F_X12_worked_45 (F_X12_worked_12 n) x1 x3 x4 x5 (S.2.1 77 (Int32.toNatClampNeg x5)) S) else (if (S.2.1 77 (Int32.toNatClampNeg x5)) = 3 then (gd (inb (x4 - 1) 130) (if (S.2.1 83 (Int32.toNatClampNeg (x4 - 1))) = 0 then (gd (inb (x4 - 1) 130) (let S117 := aset S 83 (upd (S.2.1 83) (Int32.toNatClampNeg (x4 - 1)) (1 : Int32)); (F_X12_worked_12 n) x1 x3 x4 (x5 + 1) S117)) else (gd (inb (x4 - 1) 130) (let S117 := aset S 83 (upd (S.2.1 83) (Int32.toNatClampNeg (x4 - 1)) (0 : Int32)); (F_X12_worked_12 n) x1 x3 x4 (x5 + 1) S117)))) else (if (S.2.1 77 (Int32.toNatClampNeg x5)) = 4 then (gd (inb (x4 - 1) 130) (gd (inb (x4 - 1) 130) (let S145 := aset S 83 (upd (S.2.1 83) (Int32.toNatClampNeg (x4 - 1)) (-(S.2.1 83 (Int32.toNatClampNeg (x4 - 1))))); (F_X12_worked_12 n) x1 x3 x4 (x5 + 1) S145))) else (gd (inb ((x4 + (-1)) - 1) 130) (gd (inb (x4 + (-1)) 130) ((F_X12_twoOf (S.2.1 77 (Int32.toNatClampNeg x5)) (S.2.1 83 (Int32.toNatClampNeg ((x4 + (-1)) - 1))) (S.2.1 83 (Int32.toNatClampNeg (x4 + (-1)))) S).bind (fun r_178 => gd (inb ((x4 + (-1)) - 1) 130) (let S181 := aset r_178.2 83 (upd (r_178.2.2.1 83) (Int32.toNatClampNeg ((x4 + (-1)) - 1)) r_178.1); (F_X12_worked_12 n) x1 x3 (x4 + (-1)) (x5 + 1) S181))))))))))) = some R := hF
    refine Go.iload dX12_worked_12 rfl ?_
    refine Go.sipush (v := 130) dX12_worked_14 (by decide) ?_
    refine Go.iload_n dX12_worked_17 rfl ?_
    refine Go.imul dX12_worked_18 ?_
    refine Go.iload_n dX12_worked_19 rfl ?_
    refine Go.iadd dX12_worked_20 ?_
    refine Go.icmpge (tgt := 188) dX12_worked_21 (by decide) (fun h_21 => ?_) (fun h_21 => ?_)
    · have hF := ite_t h_21 hF
      refine Go.aload_n dX12_worked_188 rfl ?_
      refine Go.getR dX12_worked_189 fX12_73 rfl ?_
      refine Go.iconst (v := 0) dX12_worked_192 (by decide) ?_
      obtain ⟨hb_193, hF⟩ := gd_some hF
      refine Go.iald dX12_worked_193 rfl (inb_ok hb_193) ?_
      obtain rfl := Option.some.inj hF
      exact Go.iret (st := []) dX12_worked_194 rfl rfl ⟨rfl, rfl⟩
    · have hF := ite_f h_21 hF
      refine Go.aload_n dX12_worked_24 rfl ?_
      refine Go.getR dX12_worked_25 fX12_54 rfl ?_
      refine Go.iload dX12_worked_28 rfl ?_
      obtain ⟨hb_30, hF⟩ := gd_some hF
      refine Go.bald dX12_worked_30 rfl (inb_ok hb_30) ?_
      refine Go.istore (ls' := [(6, _), (0, _), (1, _), (3, _), (4, _), (5, _)]) dX12_worked_31 (by decide) rfl ?_
      refine Go.iload dX12_worked_33 rfl ?_
      refine Go.iconst (v := 1) dX12_worked_35 (by decide) ?_
      refine Go.icmpeq (tgt := 45) dX12_worked_36 (by decide) (fun h_36 => ?_) (fun h_36 => ?_)
      · have hF := ite_t h_36 hF
        refine Go.pick (ls' := [(0, _), (1, _), (3, _), (4, _), (5, _), (6, _)]) [1, 2, 3, 4, 5, 0] rfl ?_
        exact ok_X12_worked_45 d (F_X12_worked_12 n) hk12 _ _ _ _ _ _ _ hF
      · have hF := ite_f h_36 hF
        refine Go.iload dX12_worked_39 rfl ?_
        refine Go.iconst (v := 2) dX12_worked_41 (by decide) ?_
        refine Go.icmpne (tgt := 86) dX12_worked_42 (by decide) (fun h_42 => ?_) (fun h_42 => ?_)
        · have hF := ite_f h_42 hF
          refine Go.iload dX12_worked_86 rfl ?_
          refine Go.iconst (v := 3) dX12_worked_88 (by decide) ?_
          refine Go.icmpne (tgt := 121) dX12_worked_89 (by decide) (fun h_89 => ?_) (fun h_89 => ?_)
          · have hF := ite_f h_89 hF
            refine Go.iload dX12_worked_121 rfl ?_
            refine Go.iconst (v := 4) dX12_worked_123 (by decide) ?_
            refine Go.icmpne (tgt := 149) dX12_worked_124 (by decide) (fun h_124 => ?_) (fun h_124 => ?_)
            · have hF := ite_f h_124 hF
              refine Go.iincM (ls' := [(4, _), (6, _), (0, _), (1, _), (3, _), (5, _)]) dX12_worked_149 rfl (by decide) rfl ?_
              refine Go.aload_n dX12_worked_152 rfl ?_
              refine Go.getR dX12_worked_153 fX12_73 rfl ?_
              refine Go.iload dX12_worked_156 rfl ?_
              refine Go.iconst (v := 1) dX12_worked_158 (by decide) ?_
              refine Go.isub dX12_worked_159 ?_
              refine Go.iload dX12_worked_160 rfl ?_
              refine Go.aload_n dX12_worked_162 rfl ?_
              refine Go.getR dX12_worked_163 fX12_73 rfl ?_
              refine Go.iload dX12_worked_166 rfl ?_
              refine Go.iconst (v := 1) dX12_worked_168 (by decide) ?_
              refine Go.isub dX12_worked_169 ?_
              obtain ⟨hb_170, hF⟩ := gd_some hF
              refine Go.iald dX12_worked_170 rfl (inb_ok hb_170) ?_
              refine Go.aload_n dX12_worked_171 rfl ?_
              refine Go.getR dX12_worked_172 fX12_73 rfl ?_
              refine Go.iload dX12_worked_175 rfl ?_
              obtain ⟨hb_177, hF⟩ := gd_some hF
              refine Go.iald dX12_worked_177 rfl (inb_ok hb_177) ?_
              obtain ⟨r_178, hc_178, hF⟩ := Option.bind_eq_some_iff.mp hF
              refine Go.callS [_, _, _] dX12_worked_178 kX12_twoOf sX12_twoOf lX12_243 rfl rfl (Nat.le_of_ble_eq_true rfl) (Nat.le_of_ble_eq_true rfl) (ok_X12_twoOf (d + 0) _ _ _ _ _ hc_178) ?_
              obtain ⟨hb_181, hF⟩ := gd_some hF
              refine Go.iast dX12_worked_181 rfl (inb_ok hb_181) ?_
              refine Go.iincP (ls' := [(5, _), (4, _), (6, _), (0, _), (1, _), (3, _)]) dX12_worked_182 rfl (by decide) rfl ?_
              refine Go.goto (tgt := 12) dX12_worked_185 (by decide) ?_
              refine Go.pick (ls' := [(0, _), (1, _), (3, _), (4, _), (5, _)]) [3, 4, 5, 1, 0] rfl ?_
              exact hk12 _ _ _ _ _ _ hF
            · have hF := ite_t h_124 hF
              refine Go.aload_n dX12_worked_127 rfl ?_
              refine Go.getR dX12_worked_128 fX12_73 rfl ?_
              refine Go.iload dX12_worked_131 rfl ?_
              refine Go.iconst (v := 1) dX12_worked_133 (by decide) ?_
              refine Go.isub dX12_worked_134 ?_
              refine Go.aload_n dX12_worked_135 rfl ?_
              refine Go.getR dX12_worked_136 fX12_73 rfl ?_
              refine Go.iload dX12_worked_139 rfl ?_
              refine Go.iconst (v := 1) dX12_worked_141 (by decide) ?_
              refine Go.isub dX12_worked_142 ?_
              obtain ⟨hb_143, hF⟩ := gd_some hF
              refine Go.iald dX12_worked_143 rfl (inb_ok hb_143) ?_
              refine Go.ineg dX12_worked_144 ?_
              obtain ⟨hb_145, hF⟩ := gd_some hF
              refine Go.iast dX12_worked_145 rfl (inb_ok hb_145) ?_
              refine Go.goto (tgt := 182) dX12_worked_146 (by decide) ?_
              refine Go.iincP (ls' := [(5, _), (6, _), (0, _), (1, _), (3, _), (4, _)]) dX12_worked_182 rfl (by decide) rfl ?_
              refine Go.goto (tgt := 12) dX12_worked_185 (by decide) ?_
              refine Go.pick (ls' := [(0, _), (1, _), (3, _), (4, _), (5, _)]) [2, 3, 4, 5, 0] rfl ?_
              exact hk12 _ _ _ _ _ _ hF
          · have hF := ite_t h_89 hF
            refine Go.aload_n dX12_worked_92 rfl ?_
            refine Go.getR dX12_worked_93 fX12_73 rfl ?_
            refine Go.iload dX12_worked_96 rfl ?_
            refine Go.iconst (v := 1) dX12_worked_98 (by decide) ?_
            refine Go.isub dX12_worked_99 ?_
            refine Go.aload_n dX12_worked_100 rfl ?_
            refine Go.getR dX12_worked_101 fX12_73 rfl ?_
            refine Go.iload dX12_worked_104 rfl ?_
            refine Go.iconst (v := 1) dX12_worked_106 (by decide) ?_
            refine Go.isub dX12_worked_107 ?_
            obtain ⟨hb_108, hF⟩ := gd_some hF
            refine Go.iald dX12_worked_108 rfl (inb_ok hb_108) ?_
            refine Go.ifne (tgt := 116) dX12_worked_109 (by decide) (fun h_109 => ?_) (fun h_109 => ?_)
            · have hF := ite_f h_109 hF
              refine Go.iconst (v := 0) dX12_worked_116 (by decide) ?_
              obtain ⟨hb_117, hF⟩ := gd_some hF
              refine Go.iast dX12_worked_117 rfl (inb_ok hb_117) ?_
              refine Go.goto (tgt := 182) dX12_worked_118 (by decide) ?_
              refine Go.iincP (ls' := [(5, _), (6, _), (0, _), (1, _), (3, _), (4, _)]) dX12_worked_182 rfl (by decide) rfl ?_
              refine Go.goto (tgt := 12) dX12_worked_185 (by decide) ?_
              refine Go.pick (ls' := [(0, _), (1, _), (3, _), (4, _), (5, _)]) [2, 3, 4, 5, 0] rfl ?_
              exact hk12 _ _ _ _ _ _ hF
            · have hF := ite_t h_109 hF
              refine Go.iconst (v := 1) dX12_worked_112 (by decide) ?_
              refine Go.goto (tgt := 117) dX12_worked_113 (by decide) ?_
              obtain ⟨hb_117, hF⟩ := gd_some hF
              refine Go.iast dX12_worked_117 rfl (inb_ok hb_117) ?_
              refine Go.goto (tgt := 182) dX12_worked_118 (by decide) ?_
              refine Go.iincP (ls' := [(5, _), (6, _), (0, _), (1, _), (3, _), (4, _)]) dX12_worked_182 rfl (by decide) rfl ?_
              refine Go.goto (tgt := 12) dX12_worked_185 (by decide) ?_
              refine Go.pick (ls' := [(0, _), (1, _), (3, _), (4, _), (5, _)]) [2, 3, 4, 5, 0] rfl ?_
              exact hk12 _ _ _ _ _ _ hF
        · have hF := ite_t h_42 hF
          refine Go.pick (ls' := [(0, _), (1, _), (3, _), (4, _), (5, _), (6, _)]) [1, 2, 3, 4, 5, 0] rfl ?_
          exact ok_X12_worked_45 d (F_X12_worked_12 n) hk12 _ _ _ _ _ _ _ hF
def F_X12_worked (N : Nat) (x1 : Int32) (x2 : Int32) (x3 : Int32) (S : St) : Option (Int32 × St) :=
  F_X12_worked_12 N x1 x3 0 ((130 * x1) + x2) S
set_option maxHeartbeats 4000000 in
set_option maxRecDepth 100000 in
theorem ok_X12_worked {l : Launch} (d : Nat) (N : Nat) (x1 : Int32) (x2 : Int32) (x3 : Int32) (S : St) (R : Int32 × St) (hF : F_X12_worked N x1 x2 x3 S = some R) : Go l (d + 1) mX12_worked (Res (some (.int R.1)) R.2) 0 [(0, .ref 63), (1, .int x1), (2, .int x2), (3, .int x3)] [] S := by
  unfold F_X12_worked at hF
  refine Go.iconst (v := 0) dX12_worked_0 (by decide) ?_
  refine Go.istore (ls' := [(4, _), (0, _), (1, _), (2, _), (3, _)]) dX12_worked_1 (by decide) rfl ?_
  refine Go.sipush (v := 130) dX12_worked_3 (by decide) ?_
  refine Go.iload_n dX12_worked_6 rfl ?_
  refine Go.imul dX12_worked_7 ?_
  refine Go.iload_n dX12_worked_8 rfl ?_
  refine Go.iadd dX12_worked_9 ?_
  refine Go.istore (ls' := [(5, _), (4, _), (0, _), (1, _), (2, _), (3, _)]) dX12_worked_10 (by decide) rfl ?_
  refine Go.pick (ls' := [(0, _), (1, _), (3, _), (4, _), (5, _)]) [2, 3, 5, 1, 0] rfl ?_
  exact ok_X12_worked_12 d N _ _ _ _ _ _ hF
def F_X12_gives_7 (N : Nat) : Nat → Int32 → Int32 → Int32 → St → Option (Int32 × St)
  | 0 => fun _ _ _ _ => none
  | n + 1 => fun x1 x2 x3 S =>
    gd (inb x1 3) (if ((61 * x1) + (S.2.1 79 (Int32.toNatClampNeg x1))) ≤ x3 then (some (0, S)) else (gd (inb x3 183) (if (S.2.1 80 (Int32.toNatClampNeg x3)) = x2 then (gd (inb x3 183) (gd (inb x3 183) ((F_X12_worked N x1 (S.2.1 80 (Int32.toNatClampNeg x3)) (S.2.1 81 (Int32.toNatClampNeg x3)) S).bind (fun r_61 => some (r_61.1, r_61.2))))) else (gd (inb x3 183) ((F_X12_worked N x1 x2 (S.2.1 80 (Int32.toNatClampNeg x3)) S).bind (fun r_41 => if r_41.1 = 0 then (gd (inb x3 183) ((F_X12_gives_7 N n) x1 (r_41.2.2.1 81 (Int32.toNatClampNeg x3)) (x3 + 1) r_41.2)) else (gd (inb x3 183) (gd (inb x3 183) ((F_X12_worked N x1 (r_41.2.2.1 80 (Int32.toNatClampNeg x3)) (r_41.2.2.1 81 (Int32.toNatClampNeg x3)) r_41.2).bind (fun r_61 => some (r_61.1, r_61.2)))))))))))
set_option maxHeartbeats 4000000 in
set_option maxRecDepth 100000 in
theorem ok_X12_gives_7 {l : Launch} (d : Nat) (N : Nat) : ∀ (n : Nat) (x1 : Int32) (x2 : Int32) (x3 : Int32) (S : St) (R : Int32 × St), F_X12_gives_7 N n x1 x2 x3 S = some R → Go l (d + 2) mX12_gives (Res (some (.int R.1)) R.2) 7 [(0, .ref 63), (1, .int x1), (2, .int x2), (3, .int x3)] [] S := by
  intro n
  induction n with
  | zero => intro x1 x2 x3 S  R hF; cases hF
  | succ n hk7 =>
    intro x1 x2 x3 S  R hF
    have hF : (gd (inb x1 3) (if ((61 * x1) + (S.2.1 79 (Int32.toNatClampNeg x1))) ≤ x3 then (some (0, S)) else (gd (inb x3 183) (if (S.2.1 80 (Int32.toNatClampNeg x3)) = x2 then (gd (inb x3 183) (gd (inb x3 183) ((F_X12_worked N x1 (S.2.1 80 (Int32.toNatClampNeg x3)) (S.2.1 81 (Int32.toNatClampNeg x3)) S).bind (fun r_61 => some (r_61.1, r_61.2))))) else (gd (inb x3 183) ((F_X12_worked N x1 x2 (S.2.1 80 (Int32.toNatClampNeg x3)) S).bind (fun r_41 => if r_41.1 = 0 then (gd (inb x3 183) ((F_X12_gives_7 N n) x1 (r_41.2.2.1 81 (Int32.toNatClampNeg x3)) (x3 + 1) r_41.2)) else (gd (inb x3 183) (gd (inb x3 183) ((F_X12_worked N x1 (r_41.2.2.1 80 (Int32.toNatClampNeg x3)) (r_41.2.2.1 81 (Int32.toNatClampNeg x3)) r_41.2).bind (fun r_61 => some (r_61.1, r_61.2)))))))))))) = some R := hF
    refine Go.iload_n dX12_gives_7 rfl ?_
    refine Go.bipush (v := 61) dX12_gives_8 (by decide) ?_
    refine Go.iload_n dX12_gives_10 rfl ?_
    refine Go.imul dX12_gives_11 ?_
    refine Go.aload_n dX12_gives_12 rfl ?_
    refine Go.getR dX12_gives_13 fX12_60 rfl ?_
    refine Go.iload_n dX12_gives_16 rfl ?_
    obtain ⟨hb_17, hF⟩ := gd_some hF
    refine Go.iald dX12_gives_17 rfl (inb_ok hb_17) ?_
    refine Go.iadd dX12_gives_18 ?_
    refine Go.icmpge (tgt := 78) dX12_gives_19 (by decide) (fun h_19 => ?_) (fun h_19 => ?_)
    · have hF := ite_t h_19 hF
      refine Go.iconst (v := 0) dX12_gives_78 (by decide) ?_
      obtain rfl := Option.some.inj hF
      exact Go.iret (st := []) dX12_gives_79 rfl rfl ⟨rfl, rfl⟩
    · have hF := ite_f h_19 hF
      refine Go.aload_n dX12_gives_22 rfl ?_
      refine Go.getR dX12_gives_23 fX12_63 rfl ?_
      refine Go.iload_n dX12_gives_26 rfl ?_
      obtain ⟨hb_27, hF⟩ := gd_some hF
      refine Go.sald dX12_gives_27 rfl (inb_ok hb_27) ?_
      refine Go.iload_n dX12_gives_28 rfl ?_
      refine Go.icmpeq (tgt := 47) dX12_gives_29 (by decide) (fun h_29 => ?_) (fun h_29 => ?_)
      · have hF := ite_t h_29 hF
        refine Go.aload_n dX12_gives_47 rfl ?_
        refine Go.iload_n dX12_gives_48 rfl ?_
        refine Go.aload_n dX12_gives_49 rfl ?_
        refine Go.getR dX12_gives_50 fX12_63 rfl ?_
        refine Go.iload_n dX12_gives_53 rfl ?_
        obtain ⟨hb_54, hF⟩ := gd_some hF
        refine Go.sald dX12_gives_54 rfl (inb_ok hb_54) ?_
        refine Go.aload_n dX12_gives_55 rfl ?_
        refine Go.getR dX12_gives_56 fX12_67 rfl ?_
        refine Go.iload_n dX12_gives_59 rfl ?_
        obtain ⟨hb_60, hF⟩ := gd_some hF
        refine Go.sald dX12_gives_60 rfl (inb_ok hb_60) ?_
        obtain ⟨r_61, hc_61, hF⟩ := Option.bind_eq_some_iff.mp hF
        refine Go.callV [_, _, _] dX12_gives_61 kX12_worked vX12_worked lX12_246 rfl rfl rfl rfl rfl (Nat.le_of_ble_eq_true rfl) (Nat.le_of_ble_eq_true rfl) (ok_X12_worked (d + 0) N _ _ _ _ _ hc_61) ?_
        obtain rfl := Option.some.inj hF
        exact Go.iret (st := []) dX12_gives_64 rfl rfl ⟨rfl, rfl⟩
      · have hF := ite_f h_29 hF
        refine Go.aload_n dX12_gives_32 rfl ?_
        refine Go.iload_n dX12_gives_33 rfl ?_
        refine Go.iload_n dX12_gives_34 rfl ?_
        refine Go.aload_n dX12_gives_35 rfl ?_
        refine Go.getR dX12_gives_36 fX12_63 rfl ?_
        refine Go.iload_n dX12_gives_39 rfl ?_
        obtain ⟨hb_40, hF⟩ := gd_some hF
        refine Go.sald dX12_gives_40 rfl (inb_ok hb_40) ?_
        obtain ⟨r_41, hc_41, hF⟩ := Option.bind_eq_some_iff.mp hF
        refine Go.callV [_, _, _] dX12_gives_41 kX12_worked vX12_worked lX12_246 rfl rfl rfl rfl rfl (Nat.le_of_ble_eq_true rfl) (Nat.le_of_ble_eq_true rfl) (ok_X12_worked (d + 0) N _ _ _ _ _ hc_41) ?_
        refine Go.ifeq (tgt := 65) dX12_gives_44 (by decide) (fun h_44 => ?_) (fun h_44 => ?_)
        · have hF := ite_t h_44 hF
          refine Go.aload_n dX12_gives_65 rfl ?_
          refine Go.getR dX12_gives_66 fX12_67 rfl ?_
          refine Go.iload_n dX12_gives_69 rfl ?_
          obtain ⟨hb_70, hF⟩ := gd_some hF
          refine Go.sald dX12_gives_70 rfl (inb_ok hb_70) ?_
          refine Go.istore_n (ls' := [(2, _), (0, _), (1, _), (3, _)]) dX12_gives_71 (by decide) rfl ?_
          refine Go.iincP (ls' := [(3, _), (2, _), (0, _), (1, _)]) dX12_gives_72 rfl (by decide) rfl ?_
          refine Go.goto (tgt := 7) dX12_gives_75 (by decide) ?_
          refine Go.pick (ls' := [(0, _), (1, _), (2, _), (3, _)]) [2, 3, 1, 0] rfl ?_
          exact hk7 _ _ _ _ _ hF
        · have hF := ite_f h_44 hF
          refine Go.aload_n dX12_gives_47 rfl ?_
          refine Go.iload_n dX12_gives_48 rfl ?_
          refine Go.aload_n dX12_gives_49 rfl ?_
          refine Go.getR dX12_gives_50 fX12_63 rfl ?_
          refine Go.iload_n dX12_gives_53 rfl ?_
          obtain ⟨hb_54, hF⟩ := gd_some hF
          refine Go.sald dX12_gives_54 rfl (inb_ok hb_54) ?_
          refine Go.aload_n dX12_gives_55 rfl ?_
          refine Go.getR dX12_gives_56 fX12_67 rfl ?_
          refine Go.iload_n dX12_gives_59 rfl ?_
          obtain ⟨hb_60, hF⟩ := gd_some hF
          refine Go.sald dX12_gives_60 rfl (inb_ok hb_60) ?_
          obtain ⟨r_61, hc_61, hF⟩ := Option.bind_eq_some_iff.mp hF
          refine Go.callV [_, _, _] dX12_gives_61 kX12_worked vX12_worked lX12_246 rfl rfl rfl rfl rfl (Nat.le_of_ble_eq_true rfl) (Nat.le_of_ble_eq_true rfl) (ok_X12_worked (d + 0) N _ _ _ _ _ hc_61) ?_
          obtain rfl := Option.some.inj hF
          exact Go.iret (st := []) dX12_gives_64 rfl rfl ⟨rfl, rfl⟩
def F_X12_gives (N : Nat) (x1 : Int32) (S : St) : Option (Int32 × St) :=
  F_X12_gives_7 N N x1 0 (61 * x1) S
set_option maxHeartbeats 4000000 in
set_option maxRecDepth 100000 in
theorem ok_X12_gives {l : Launch} (d : Nat) (N : Nat) (x1 : Int32) (S : St) (R : Int32 × St) (hF : F_X12_gives N x1 S = some R) : Go l (d + 2) mX12_gives (Res (some (.int R.1)) R.2) 0 [(0, .ref 63), (1, .int x1)] [] S := by
  unfold F_X12_gives at hF
  refine Go.iconst (v := 0) dX12_gives_0 (by decide) ?_
  refine Go.istore_n (ls' := [(2, _), (0, _), (1, _)]) dX12_gives_1 (by decide) rfl ?_
  refine Go.bipush (v := 61) dX12_gives_2 (by decide) ?_
  refine Go.iload_n dX12_gives_4 rfl ?_
  refine Go.imul dX12_gives_5 ?_
  refine Go.istore_n (ls' := [(3, _), (2, _), (0, _), (1, _)]) dX12_gives_6 (by decide) rfl ?_
  refine Go.pick (ls' := [(0, _), (1, _), (2, _), (3, _)]) [2, 3, 1, 0] rfl ?_
  exact ok_X12_gives_7 d N N _ _ _ _ _ hF
def F_X12_lawOf_5 (N : Nat) : Nat → Int32 → Int32 → Int32 → Int32 → St → Option (Int32 × St)
  | 0 => fun _ _ _ _ _ => none
  | n + 1 => fun x1 x2 x3 x4 S =>
    if (S.1 63 1) ≤ x4 then (gd (inb x2 20) (gd (inb (0 : Int32) 6) (let S56 := aset S 82 (upd (S.2.1 82) (Int32.toNatClampNeg (0 : Int32)) (S.2.1 70 (Int32.toNatClampNeg x2))); gd (inb (1 : Int32) 6) (let S66 := aset S56 82 (upd (S56.2.1 82) (Int32.toNatClampNeg (1 : Int32)) (S56.1 63 11)); gd (inb x2 20) (gd (inb (2 : Int32) 6) (let S78 := aset S66 82 (upd (S66.2.1 82) (Int32.toNatClampNeg (2 : Int32)) (S66.2.1 64 (Int32.toNatClampNeg x2))); gd (inb (3 : Int32) 6) (let S85 := aset S78 82 (upd (S78.2.1 82) (Int32.toNatClampNeg (3 : Int32)) x2); gd (inb x2 20) (gd (inb (4 : Int32) 6) (let S97 := aset S85 82 (upd (S85.2.1 82) (Int32.toNatClampNeg (4 : Int32)) (S85.2.1 67 (Int32.toNatClampNeg x2))); gd (inb (5 : Int32) 6) (let S104 := aset S97 82 (upd (S97.2.1 82) (Int32.toNatClampNeg (5 : Int32)) x3); (F_X12_gives N x1 S104).bind (fun r_107 => (F_X12_held r_107.1 (0 : Int32) (100 : Int32) r_107.2).bind (fun r_113 => some (r_113.1, r_113.2))))))))))))) else (if x4 = x2 then ((F_X12_lawOf_5 N n) x1 x2 x3 (x4 + 1) S) else (gd (inb x4 20) (gd (inb x2 20) (if (S.2.1 65 (Int32.toNatClampNeg x4)) = (S.2.1 65 (Int32.toNatClampNeg x2)) then ((F_X12_lawOf_5 N n) x1 x2 (x3 + 1) (x4 + 1) S) else ((F_X12_lawOf_5 N n) x1 x2 x3 (x4 + 1) S)))))
set_option maxHeartbeats 4000000 in
set_option maxRecDepth 100000 in
theorem ok_X12_lawOf_5 {l : Launch} (d : Nat) (N : Nat) : ∀ (n : Nat) (x1 : Int32) (x2 : Int32) (x3 : Int32) (x4 : Int32) (S : St) (R : Int32 × St), F_X12_lawOf_5 N n x1 x2 x3 x4 S = some R → Go l (d + 3) mX12_lawOf (Res (some (.int R.1)) R.2) 5 [(0, .ref 63), (1, .int x1), (2, .int x2), (3, .int x3), (4, .int x4)] [] S := by
  intro n
  induction n with
  | zero => intro x1 x2 x3 x4 S  R hF; cases hF
  | succ n hk5 =>
    intro x1 x2 x3 x4 S  R hF
    have hF : (if (S.1 63 1) ≤ x4 then (gd (inb x2 20) (gd (inb (0 : Int32) 6) (let S56 := aset S 82 (upd (S.2.1 82) (Int32.toNatClampNeg (0 : Int32)) (S.2.1 70 (Int32.toNatClampNeg x2))); gd (inb (1 : Int32) 6) (let S66 := aset S56 82 (upd (S56.2.1 82) (Int32.toNatClampNeg (1 : Int32)) (S56.1 63 11)); gd (inb x2 20) (gd (inb (2 : Int32) 6) (let S78 := aset S66 82 (upd (S66.2.1 82) (Int32.toNatClampNeg (2 : Int32)) (S66.2.1 64 (Int32.toNatClampNeg x2))); gd (inb (3 : Int32) 6) (let S85 := aset S78 82 (upd (S78.2.1 82) (Int32.toNatClampNeg (3 : Int32)) x2); gd (inb x2 20) (gd (inb (4 : Int32) 6) (let S97 := aset S85 82 (upd (S85.2.1 82) (Int32.toNatClampNeg (4 : Int32)) (S85.2.1 67 (Int32.toNatClampNeg x2))); gd (inb (5 : Int32) 6) (let S104 := aset S97 82 (upd (S97.2.1 82) (Int32.toNatClampNeg (5 : Int32)) x3); (F_X12_gives N x1 S104).bind (fun r_107 => (F_X12_held r_107.1 (0 : Int32) (100 : Int32) r_107.2).bind (fun r_113 => some (r_113.1, r_113.2))))))))))))) else (if x4 = x2 then ((F_X12_lawOf_5 N n) x1 x2 x3 (x4 + 1) S) else (gd (inb x4 20) (gd (inb x2 20) (if (S.2.1 65 (Int32.toNatClampNeg x4)) = (S.2.1 65 (Int32.toNatClampNeg x2)) then ((F_X12_lawOf_5 N n) x1 x2 (x3 + 1) (x4 + 1) S) else ((F_X12_lawOf_5 N n) x1 x2 x3 (x4 + 1) S)))))) = some R := hF
    refine Go.iload dX12_lawOf_5 rfl ?_
    refine Go.aload_n dX12_lawOf_7 rfl ?_
    refine Go.getI dX12_lawOf_8 fX12_141 rfl ?_
    refine Go.icmpge (tgt := 45) dX12_lawOf_11 (by decide) (fun h_11 => ?_) (fun h_11 => ?_)
    · have hF := ite_t h_11 hF
      refine Go.aload_n dX12_lawOf_45 rfl ?_
      refine Go.getR dX12_lawOf_46 fX12_70 rfl ?_
      refine Go.iconst (v := 0) dX12_lawOf_49 (by decide) ?_
      refine Go.aload_n dX12_lawOf_50 rfl ?_
      refine Go.getR dX12_lawOf_51 fX12_28 rfl ?_
      refine Go.iload_n dX12_lawOf_54 rfl ?_
      obtain ⟨hb_55, hF⟩ := gd_some hF
      refine Go.iald dX12_lawOf_55 rfl (inb_ok hb_55) ?_
      obtain ⟨hb_56, hF⟩ := gd_some hF
      refine Go.iast dX12_lawOf_56 rfl (inb_ok hb_56) ?_
      refine Go.aload_n dX12_lawOf_57 rfl ?_
      refine Go.getR dX12_lawOf_58 fX12_70 rfl ?_
      refine Go.iconst (v := 1) dX12_lawOf_61 (by decide) ?_
      refine Go.aload_n dX12_lawOf_62 rfl ?_
      refine Go.getI dX12_lawOf_63 fX12_161 rfl ?_
      obtain ⟨hb_66, hF⟩ := gd_some hF
      refine Go.iast dX12_lawOf_66 rfl (inb_ok hb_66) ?_
      refine Go.aload_n dX12_lawOf_67 rfl ?_
      refine Go.getR dX12_lawOf_68 fX12_70 rfl ?_
      refine Go.iconst (v := 2) dX12_lawOf_71 (by decide) ?_
      refine Go.aload_n dX12_lawOf_72 rfl ?_
      refine Go.getR dX12_lawOf_73 fX12_7 rfl ?_
      refine Go.iload_n dX12_lawOf_76 rfl ?_
      obtain ⟨hb_77, hF⟩ := gd_some hF
      refine Go.iald dX12_lawOf_77 rfl (inb_ok hb_77) ?_
      obtain ⟨hb_78, hF⟩ := gd_some hF
      refine Go.iast dX12_lawOf_78 rfl (inb_ok hb_78) ?_
      refine Go.aload_n dX12_lawOf_79 rfl ?_
      refine Go.getR dX12_lawOf_80 fX12_70 rfl ?_
      refine Go.iconst (v := 3) dX12_lawOf_83 (by decide) ?_
      refine Go.iload_n dX12_lawOf_84 rfl ?_
      obtain ⟨hb_85, hF⟩ := gd_some hF
      refine Go.iast dX12_lawOf_85 rfl (inb_ok hb_85) ?_
      refine Go.aload_n dX12_lawOf_86 rfl ?_
      refine Go.getR dX12_lawOf_87 fX12_70 rfl ?_
      refine Go.iconst (v := 4) dX12_lawOf_90 (by decide) ?_
      refine Go.aload_n dX12_lawOf_91 rfl ?_
      refine Go.getR dX12_lawOf_92 fX12_19 rfl ?_
      refine Go.iload_n dX12_lawOf_95 rfl ?_
      obtain ⟨hb_96, hF⟩ := gd_some hF
      refine Go.iald dX12_lawOf_96 rfl (inb_ok hb_96) ?_
      obtain ⟨hb_97, hF⟩ := gd_some hF
      refine Go.iast dX12_lawOf_97 rfl (inb_ok hb_97) ?_
      refine Go.aload_n dX12_lawOf_98 rfl ?_
      refine Go.getR dX12_lawOf_99 fX12_70 rfl ?_
      refine Go.iconst (v := 5) dX12_lawOf_102 (by decide) ?_
      refine Go.iload_n dX12_lawOf_103 rfl ?_
      obtain ⟨hb_104, hF⟩ := gd_some hF
      refine Go.iast dX12_lawOf_104 rfl (inb_ok hb_104) ?_
      refine Go.aload_n dX12_lawOf_105 rfl ?_
      refine Go.iload_n dX12_lawOf_106 rfl ?_
      obtain ⟨r_107, hc_107, hF⟩ := Option.bind_eq_some_iff.mp hF
      refine Go.callV [_] dX12_lawOf_107 kX12_gives vX12_gives lX12_252 rfl rfl rfl rfl rfl (Nat.le_of_ble_eq_true rfl) (Nat.le_of_ble_eq_true rfl) (ok_X12_gives (d + 0) N _ _ _ hc_107) ?_
      refine Go.iconst (v := 0) dX12_lawOf_110 (by decide) ?_
      refine Go.bipush (v := 100) dX12_lawOf_111 (by decide) ?_
      obtain ⟨r_113, hc_113, hF⟩ := Option.bind_eq_some_iff.mp hF
      refine Go.callS [_, _, _] dX12_lawOf_113 kX12_held sX12_held lX12_255 rfl rfl (Nat.le_of_ble_eq_true rfl) (Nat.le_of_ble_eq_true rfl) (ok_X12_held (d + 2) _ _ _ _ _ hc_113) ?_
      obtain rfl := Option.some.inj hF
      exact Go.iret (st := []) dX12_lawOf_116 rfl rfl ⟨rfl, rfl⟩
    · have hF := ite_f h_11 hF
      refine Go.iload dX12_lawOf_14 rfl ?_
      refine Go.iload_n dX12_lawOf_16 rfl ?_
      refine Go.icmpeq (tgt := 39) dX12_lawOf_17 (by decide) (fun h_17 => ?_) (fun h_17 => ?_)
      · have hF := ite_t h_17 hF
        refine Go.iincP (ls' := [(4, _), (0, _), (1, _), (2, _), (3, _)]) dX12_lawOf_39 rfl (by decide) rfl ?_
        refine Go.goto (tgt := 5) dX12_lawOf_42 (by decide) ?_
        refine Go.pick (ls' := [(0, _), (1, _), (2, _), (3, _), (4, _)]) [1, 2, 3, 4, 0] rfl ?_
        exact hk5 _ _ _ _ _ _ hF
      · have hF := ite_f h_17 hF
        refine Go.aload_n dX12_lawOf_20 rfl ?_
        refine Go.getR dX12_lawOf_21 fX12_13 rfl ?_
        refine Go.iload dX12_lawOf_24 rfl ?_
        obtain ⟨hb_26, hF⟩ := gd_some hF
        refine Go.iald dX12_lawOf_26 rfl (inb_ok hb_26) ?_
        refine Go.aload_n dX12_lawOf_27 rfl ?_
        refine Go.getR dX12_lawOf_28 fX12_13 rfl ?_
        refine Go.iload_n dX12_lawOf_31 rfl ?_
        obtain ⟨hb_32, hF⟩ := gd_some hF
        refine Go.iald dX12_lawOf_32 rfl (inb_ok hb_32) ?_
        refine Go.icmpne (tgt := 39) dX12_lawOf_33 (by decide) (fun h_33 => ?_) (fun h_33 => ?_)
        · have hF := ite_f h_33 hF
          refine Go.iincP (ls' := [(4, _), (0, _), (1, _), (2, _), (3, _)]) dX12_lawOf_39 rfl (by decide) rfl ?_
          refine Go.goto (tgt := 5) dX12_lawOf_42 (by decide) ?_
          refine Go.pick (ls' := [(0, _), (1, _), (2, _), (3, _), (4, _)]) [1, 2, 3, 4, 0] rfl ?_
          exact hk5 _ _ _ _ _ _ hF
        · have hF := ite_t h_33 hF
          refine Go.iincP (ls' := [(3, _), (0, _), (1, _), (2, _), (4, _)]) dX12_lawOf_36 rfl (by decide) rfl ?_
          refine Go.iincP (ls' := [(4, _), (3, _), (0, _), (1, _), (2, _)]) dX12_lawOf_39 rfl (by decide) rfl ?_
          refine Go.goto (tgt := 5) dX12_lawOf_42 (by decide) ?_
          refine Go.pick (ls' := [(0, _), (1, _), (2, _), (3, _), (4, _)]) [2, 3, 4, 1, 0] rfl ?_
          exact hk5 _ _ _ _ _ _ hF
def F_X12_lawOf (N : Nat) (x1 : Int32) (x2 : Int32) (S : St) : Option (Int32 × St) :=
  F_X12_lawOf_5 N N x1 x2 0 0 S
set_option maxHeartbeats 4000000 in
set_option maxRecDepth 100000 in
theorem ok_X12_lawOf {l : Launch} (d : Nat) (N : Nat) (x1 : Int32) (x2 : Int32) (S : St) (R : Int32 × St) (hF : F_X12_lawOf N x1 x2 S = some R) : Go l (d + 3) mX12_lawOf (Res (some (.int R.1)) R.2) 0 [(0, .ref 63), (1, .int x1), (2, .int x2)] [] S := by
  unfold F_X12_lawOf at hF
  refine Go.iconst (v := 0) dX12_lawOf_0 (by decide) ?_
  refine Go.istore_n (ls' := [(3, _), (0, _), (1, _), (2, _)]) dX12_lawOf_1 (by decide) rfl ?_
  refine Go.iconst (v := 0) dX12_lawOf_2 (by decide) ?_
  refine Go.istore (ls' := [(4, _), (3, _), (0, _), (1, _), (2, _)]) dX12_lawOf_3 (by decide) rfl ?_
  refine Go.pick (ls' := [(0, _), (1, _), (2, _), (3, _), (4, _)]) [2, 3, 4, 1, 0] rfl ?_
  exact ok_X12_lawOf_5 d N N _ _ _ _ _ _ hF
def F_X12_knows (N : Nat) (x1 : Int32) (S : St) : Option (Int32 × St) :=
  gd (inb (0 : Int32) 2) (if (S.2.1 84 (Int32.toNatClampNeg (0 : Int32))) = 0 then (gd (inb x1 20) ((F_X12_held ((S.2.1 70 (Int32.toNatClampNeg x1)) - (3 * (S.1 63 11))) (0 : Int32) (100 : Int32) S).bind (fun r_34 => some (r_34.1, r_34.2)))) else ((F_X12_lawOf N (0 : Int32) x1 S).bind (fun r_12 => some (r_12.1, r_12.2))))
set_option maxHeartbeats 4000000 in
set_option maxRecDepth 100000 in
theorem ok_X12_knows {l : Launch} (d : Nat) (N : Nat) (x1 : Int32) (S : St) (R : Int32 × St) (hF : F_X12_knows N x1 S = some R) : Go l (d + 4) mX12_knows (Res (some (.int R.1)) R.2) 0 [(0, .ref 63), (1, .int x1)] [] S := by
  unfold F_X12_knows at hF
  refine Go.aload_n dX12_knows_0 rfl ?_
  refine Go.getR dX12_knows_1 fX12_76 rfl ?_
  refine Go.iconst (v := 0) dX12_knows_4 (by decide) ?_
  obtain ⟨hb_5, hF⟩ := gd_some hF
  refine Go.zald dX12_knows_5 rfl (inb_ok hb_5) ?_
  refine Go.ifeq (tgt := 18) dX12_knows_6 (by decide) (fun h_6 => ?_) (fun h_6 => ?_)
  · have hF := ite_t h_6 hF
    refine Go.aload_n dX12_knows_18 rfl ?_
    refine Go.getR dX12_knows_19 fX12_28 rfl ?_
    refine Go.iload_n dX12_knows_22 rfl ?_
    obtain ⟨hb_23, hF⟩ := gd_some hF
    refine Go.iald dX12_knows_23 rfl (inb_ok hb_23) ?_
    refine Go.iconst (v := 3) dX12_knows_24 (by decide) ?_
    refine Go.aload_n dX12_knows_25 rfl ?_
    refine Go.getI dX12_knows_26 fX12_161 rfl ?_
    refine Go.imul dX12_knows_29 ?_
    refine Go.isub dX12_knows_30 ?_
    refine Go.iconst (v := 0) dX12_knows_31 (by decide) ?_
    refine Go.bipush (v := 100) dX12_knows_32 (by decide) ?_
    obtain ⟨r_34, hc_34, hF⟩ := Option.bind_eq_some_iff.mp hF
    refine Go.callS [_, _, _] dX12_knows_34 kX12_held sX12_held lX12_255 rfl rfl (Nat.le_of_ble_eq_true rfl) (Nat.le_of_ble_eq_true rfl) (ok_X12_held (d + 3) _ _ _ _ _ hc_34) ?_
    obtain rfl := Option.some.inj hF
    exact Go.iret (st := []) dX12_knows_37 rfl rfl ⟨rfl, rfl⟩
  · have hF := ite_f h_6 hF
    refine Go.aload_n dX12_knows_9 rfl ?_
    refine Go.iconst (v := 0) dX12_knows_10 (by decide) ?_
    refine Go.iload_n dX12_knows_11 rfl ?_
    obtain ⟨r_12, hc_12, hF⟩ := Option.bind_eq_some_iff.mp hF
    refine Go.callV [_, _] dX12_knows_12 kX12_lawOf vX12_lawOf lX12_258 rfl rfl rfl rfl rfl (Nat.le_of_ble_eq_true rfl) (Nat.le_of_ble_eq_true rfl) (ok_X12_lawOf (d + 0) N _ _ _ _ hc_12) ?_
    refine Go.goto (tgt := 37) dX12_knows_15 (by decide) ?_
    obtain rfl := Option.some.inj hF
    exact Go.iret (st := []) dX12_knows_37 rfl rfl ⟨rfl, rfl⟩
def F_X12_gains (N : Nat) (x1 : Int32) (S : St) : Option (Int32 × St) :=
  gd (inb (1 : Int32) 2) (if (S.2.1 84 (Int32.toNatClampNeg (1 : Int32))) = 0 then (gd (inb x1 20) (some ((100 - (S.2.1 70 (Int32.toNatClampNeg x1))) / 3, S))) else ((F_X12_lawOf N (1 : Int32) x1 S).bind (fun r_12 => some (r_12.1, r_12.2))))
set_option maxHeartbeats 4000000 in
set_option maxRecDepth 100000 in
theorem ok_X12_gains {l : Launch} (d : Nat) (N : Nat) (x1 : Int32) (S : St) (R : Int32 × St) (hF : F_X12_gains N x1 S = some R) : Go l (d + 4) mX12_gains (Res (some (.int R.1)) R.2) 0 [(0, .ref 63), (1, .int x1)] [] S := by
  unfold F_X12_gains at hF
  refine Go.aload_n dX12_gains_0 rfl ?_
  refine Go.getR dX12_gains_1 fX12_76 rfl ?_
  refine Go.iconst (v := 1) dX12_gains_4 (by decide) ?_
  obtain ⟨hb_5, hF⟩ := gd_some hF
  refine Go.zald dX12_gains_5 rfl (inb_ok hb_5) ?_
  refine Go.ifeq (tgt := 18) dX12_gains_6 (by decide) (fun h_6 => ?_) (fun h_6 => ?_)
  · have hF := ite_t h_6 hF
    refine Go.bipush (v := 100) dX12_gains_18 (by decide) ?_
    refine Go.aload_n dX12_gains_20 rfl ?_
    refine Go.getR dX12_gains_21 fX12_28 rfl ?_
    refine Go.iload_n dX12_gains_24 rfl ?_
    obtain ⟨hb_25, hF⟩ := gd_some hF
    refine Go.iald dX12_gains_25 rfl (inb_ok hb_25) ?_
    refine Go.isub dX12_gains_26 ?_
    refine Go.iconst (v := 3) dX12_gains_27 (by decide) ?_
    refine Go.idiv dX12_gains_28 (by decide) ?_
    obtain rfl := Option.some.inj hF
    exact Go.iret (st := []) dX12_gains_29 rfl rfl ⟨rfl, rfl⟩
  · have hF := ite_f h_6 hF
    refine Go.aload_n dX12_gains_9 rfl ?_
    refine Go.iconst (v := 1) dX12_gains_10 (by decide) ?_
    refine Go.iload_n dX12_gains_11 rfl ?_
    obtain ⟨r_12, hc_12, hF⟩ := Option.bind_eq_some_iff.mp hF
    refine Go.callV [_, _] dX12_gains_12 kX12_lawOf vX12_lawOf lX12_258 rfl rfl rfl rfl rfl (Nat.le_of_ble_eq_true rfl) (Nat.le_of_ble_eq_true rfl) (ok_X12_lawOf (d + 0) N _ _ _ _ hc_12) ?_
    refine Go.goto (tgt := 29) dX12_gains_15 (by decide) ?_
    obtain rfl := Option.some.inj hF
    exact Go.iret (st := []) dX12_gains_29 rfl rfl ⟨rfl, rfl⟩
def F_X12_heldThen (N : Nat) (x1 : Int32) (S : St) : Option (Int32 × St) :=
  gd (inb x1 20) ((F_X12_gains N x1 S).bind (fun r_8 => (F_X12_held ((S.2.1 70 (Int32.toNatClampNeg x1)) + r_8.1) (0 : Int32) (100 : Int32) r_8.2).bind (fun r_15 => some (r_15.1, r_15.2))))
set_option maxHeartbeats 4000000 in
set_option maxRecDepth 100000 in
theorem ok_X12_heldThen {l : Launch} (d : Nat) (N : Nat) (x1 : Int32) (S : St) (R : Int32 × St) (hF : F_X12_heldThen N x1 S = some R) : Go l (d + 5) mX12_heldThen (Res (some (.int R.1)) R.2) 0 [(0, .ref 63), (1, .int x1)] [] S := by
  unfold F_X12_heldThen at hF
  refine Go.aload_n dX12_heldThen_0 rfl ?_
  refine Go.getR dX12_heldThen_1 fX12_28 rfl ?_
  refine Go.iload_n dX12_heldThen_4 rfl ?_
  obtain ⟨hb_5, hF⟩ := gd_some hF
  refine Go.iald dX12_heldThen_5 rfl (inb_ok hb_5) ?_
  refine Go.aload_n dX12_heldThen_6 rfl ?_
  refine Go.iload_n dX12_heldThen_7 rfl ?_
  obtain ⟨r_8, hc_8, hF⟩ := Option.bind_eq_some_iff.mp hF
  refine Go.callV [_] dX12_heldThen_8 kX12_gains vX12_gains lX12_261 rfl rfl rfl rfl rfl (Nat.le_of_ble_eq_true rfl) (Nat.le_of_ble_eq_true rfl) (ok_X12_gains (d + 0) N _ _ _ hc_8) ?_
  refine Go.iadd dX12_heldThen_11 ?_
  refine Go.iconst (v := 0) dX12_heldThen_12 (by decide) ?_
  refine Go.bipush (v := 100) dX12_heldThen_13 (by decide) ?_
  obtain ⟨r_15, hc_15, hF⟩ := Option.bind_eq_some_iff.mp hF
  refine Go.callS [_, _, _] dX12_heldThen_15 kX12_held sX12_held lX12_255 rfl rfl (Nat.le_of_ble_eq_true rfl) (Nat.le_of_ble_eq_true rfl) (ok_X12_held (d + 4) _ _ _ _ _ hc_15) ?_
  obtain rfl := Option.some.inj hF
  exact Go.iret (st := []) dX12_heldThen_18 rfl rfl ⟨rfl, rfl⟩
def F_X12_isJump (x1 : Int32) (x2 : Int32) (S : St) : Option (Int32 × St) :=
  gd (inb x2 20) (gd (inb x1 20) (if (S.2.1 65 (Int32.toNatClampNeg x2)) = (S.2.1 66 (Int32.toNatClampNeg x1)) then (if x2 = x1 then (some (0, S)) else (if x2 = (x1 + 1) then (some (0, S)) else (some (1, S)))) else (some (0, S))))
set_option maxHeartbeats 4000000 in
set_option maxRecDepth 100000 in
theorem ok_X12_isJump {l : Launch} (d : Nat) (x1 : Int32) (x2 : Int32) (S : St) (R : Int32 × St) (hF : F_X12_isJump x1 x2 S = some R) : Go l (d + 0) mX12_isJump (Res (some (.int R.1)) R.2) 0 [(0, .ref 63), (1, .int x1), (2, .int x2)] [] S := by
  unfold F_X12_isJump at hF
  refine Go.aload_n dX12_isJump_0 rfl ?_
  refine Go.getR dX12_isJump_1 fX12_13 rfl ?_
  refine Go.iload_n dX12_isJump_4 rfl ?_
  obtain ⟨hb_5, hF⟩ := gd_some hF
  refine Go.iald dX12_isJump_5 rfl (inb_ok hb_5) ?_
  refine Go.aload_n dX12_isJump_6 rfl ?_
  refine Go.getR dX12_isJump_7 fX12_16 rfl ?_
  refine Go.iload_n dX12_isJump_10 rfl ?_
  obtain ⟨hb_11, hF⟩ := gd_some hF
  refine Go.iald dX12_isJump_11 rfl (inb_ok hb_11) ?_
  refine Go.icmpne (tgt := 31) dX12_isJump_12 (by decide) (fun h_12 => ?_) (fun h_12 => ?_)
  · have hF := ite_f h_12 hF
    refine Go.iconst (v := 0) dX12_isJump_31 (by decide) ?_
    obtain rfl := Option.some.inj hF
    exact Go.iret (st := []) dX12_isJump_32 rfl rfl ⟨rfl, rfl⟩
  · have hF := ite_t h_12 hF
    refine Go.iload_n dX12_isJump_15 rfl ?_
    refine Go.iload_n dX12_isJump_16 rfl ?_
    refine Go.icmpeq (tgt := 31) dX12_isJump_17 (by decide) (fun h_17 => ?_) (fun h_17 => ?_)
    · have hF := ite_t h_17 hF
      refine Go.iconst (v := 0) dX12_isJump_31 (by decide) ?_
      obtain rfl := Option.some.inj hF
      exact Go.iret (st := []) dX12_isJump_32 rfl rfl ⟨rfl, rfl⟩
    · have hF := ite_f h_17 hF
      refine Go.iload_n dX12_isJump_20 rfl ?_
      refine Go.iload_n dX12_isJump_21 rfl ?_
      refine Go.iconst (v := 1) dX12_isJump_22 (by decide) ?_
      refine Go.iadd dX12_isJump_23 ?_
      refine Go.icmpeq (tgt := 31) dX12_isJump_24 (by decide) (fun h_24 => ?_) (fun h_24 => ?_)
      · have hF := ite_t h_24 hF
        refine Go.iconst (v := 0) dX12_isJump_31 (by decide) ?_
        obtain rfl := Option.some.inj hF
        exact Go.iret (st := []) dX12_isJump_32 rfl rfl ⟨rfl, rfl⟩
      · have hF := ite_f h_24 hF
        refine Go.iconst (v := 1) dX12_isJump_27 (by decide) ?_
        refine Go.goto (tgt := 32) dX12_isJump_28 (by decide) ?_
        obtain rfl := Option.some.inj hF
        exact Go.iret (st := []) dX12_isJump_32 rfl rfl ⟨rfl, rfl⟩
def F_X12_jumpsFrom_4 : Nat → Int32 → Int32 → Int32 → St → Option (Int32 × St)
  | 0 => fun _ _ _ _ => none
  | n + 1 => fun x1 x2 x3 S =>
    if (S.1 63 1) ≤ x3 then (some (x2, S)) else ((F_X12_isJump x1 x3 S).bind (fun r_15 => if r_15.1 = 0 then ((F_X12_jumpsFrom_4 n) x1 x2 (x3 + 1) r_15.2) else ((F_X12_jumpsFrom_4 n) x1 (x2 + 1) (x3 + 1) r_15.2)))
set_option maxHeartbeats 4000000 in
set_option maxRecDepth 100000 in
theorem ok_X12_jumpsFrom_4 {l : Launch} (d : Nat) : ∀ (n : Nat) (x1 : Int32) (x2 : Int32) (x3 : Int32) (S : St) (R : Int32 × St), F_X12_jumpsFrom_4 n x1 x2 x3 S = some R → Go l (d + 1) mX12_jumpsFrom (Res (some (.int R.1)) R.2) 4 [(0, .ref 63), (1, .int x1), (2, .int x2), (3, .int x3)] [] S := by
  intro n
  induction n with
  | zero => intro x1 x2 x3 S  R hF; cases hF
  | succ n hk4 =>
    intro x1 x2 x3 S  R hF
    have hF : (if (S.1 63 1) ≤ x3 then (some (x2, S)) else ((F_X12_isJump x1 x3 S).bind (fun r_15 => if r_15.1 = 0 then ((F_X12_jumpsFrom_4 n) x1 x2 (x3 + 1) r_15.2) else ((F_X12_jumpsFrom_4 n) x1 (x2 + 1) (x3 + 1) r_15.2)))) = some R := hF
    refine Go.iload_n dX12_jumpsFrom_4 rfl ?_
    refine Go.aload_n dX12_jumpsFrom_5 rfl ?_
    refine Go.getI dX12_jumpsFrom_6 fX12_141 rfl ?_
    refine Go.icmpge (tgt := 30) dX12_jumpsFrom_9 (by decide) (fun h_9 => ?_) (fun h_9 => ?_)
    · have hF := ite_t h_9 hF
      refine Go.iload_n dX12_jumpsFrom_30 rfl ?_
      obtain rfl := Option.some.inj hF
      exact Go.iret (st := []) dX12_jumpsFrom_31 rfl rfl ⟨rfl, rfl⟩
    · have hF := ite_f h_9 hF
      refine Go.aload_n dX12_jumpsFrom_12 rfl ?_
      refine Go.iload_n dX12_jumpsFrom_13 rfl ?_
      refine Go.iload_n dX12_jumpsFrom_14 rfl ?_
      obtain ⟨r_15, hc_15, hF⟩ := Option.bind_eq_some_iff.mp hF
      refine Go.callV [_, _] dX12_jumpsFrom_15 kX12_isJump vX12_isJump lX12_264 rfl rfl rfl rfl rfl (Nat.le_of_ble_eq_true rfl) (Nat.le_of_ble_eq_true rfl) (ok_X12_isJump (d + 0) _ _ _ _ hc_15) ?_
      refine Go.ifeq (tgt := 24) dX12_jumpsFrom_18 (by decide) (fun h_18 => ?_) (fun h_18 => ?_)
      · have hF := ite_t h_18 hF
        refine Go.iincP (ls' := [(3, _), (0, _), (1, _), (2, _)]) dX12_jumpsFrom_24 rfl (by decide) rfl ?_
        refine Go.goto (tgt := 4) dX12_jumpsFrom_27 (by decide) ?_
        refine Go.pick (ls' := [(0, _), (1, _), (2, _), (3, _)]) [1, 2, 3, 0] rfl ?_
        exact hk4 _ _ _ _ _ hF
      · have hF := ite_f h_18 hF
        refine Go.iincP (ls' := [(2, _), (0, _), (1, _), (3, _)]) dX12_jumpsFrom_21 rfl (by decide) rfl ?_
        refine Go.iincP (ls' := [(3, _), (2, _), (0, _), (1, _)]) dX12_jumpsFrom_24 rfl (by decide) rfl ?_
        refine Go.goto (tgt := 4) dX12_jumpsFrom_27 (by decide) ?_
        refine Go.pick (ls' := [(0, _), (1, _), (2, _), (3, _)]) [2, 3, 1, 0] rfl ?_
        exact hk4 _ _ _ _ _ hF
def F_X12_jumpsFrom (N : Nat) (x1 : Int32) (S : St) : Option (Int32 × St) :=
  F_X12_jumpsFrom_4 N x1 0 0 S
set_option maxHeartbeats 4000000 in
set_option maxRecDepth 100000 in
theorem ok_X12_jumpsFrom {l : Launch} (d : Nat) (N : Nat) (x1 : Int32) (S : St) (R : Int32 × St) (hF : F_X12_jumpsFrom N x1 S = some R) : Go l (d + 1) mX12_jumpsFrom (Res (some (.int R.1)) R.2) 0 [(0, .ref 63), (1, .int x1)] [] S := by
  unfold F_X12_jumpsFrom at hF
  refine Go.iconst (v := 0) dX12_jumpsFrom_0 (by decide) ?_
  refine Go.istore_n (ls' := [(2, _), (0, _), (1, _)]) dX12_jumpsFrom_1 (by decide) rfl ?_
  refine Go.iconst (v := 0) dX12_jumpsFrom_2 (by decide) ?_
  refine Go.istore_n (ls' := [(3, _), (2, _), (0, _), (1, _)]) dX12_jumpsFrom_3 (by decide) rfl ?_
  refine Go.pick (ls' := [(0, _), (1, _), (2, _), (3, _)]) [2, 3, 1, 0] rfl ?_
  exact ok_X12_jumpsFrom_4 d N _ _ _ _ _ hF
def F_X12_linesOf_4 : Nat → Int32 → Int32 → Int32 → St → Option (Int32 × St)
  | 0 => fun _ _ _ _ => none
  | n + 1 => fun x1 x2 x3 S =>
    if (S.1 63 1) ≤ x3 then (some (x2, S)) else (gd (inb x3 20) (if (S.2.1 64 (Int32.toNatClampNeg x3)) = x1 then ((F_X12_linesOf_4 n) x1 (x2 + 1) (x3 + 1) S) else ((F_X12_linesOf_4 n) x1 x2 (x3 + 1) S)))
set_option maxHeartbeats 4000000 in
set_option maxRecDepth 100000 in
theorem ok_X12_linesOf_4 {l : Launch} (d : Nat) : ∀ (n : Nat) (x1 : Int32) (x2 : Int32) (x3 : Int32) (S : St) (R : Int32 × St), F_X12_linesOf_4 n x1 x2 x3 S = some R → Go l (d + 0) mX12_linesOf (Res (some (.int R.1)) R.2) 4 [(0, .ref 63), (1, .int x1), (2, .int x2), (3, .int x3)] [] S := by
  intro n
  induction n with
  | zero => intro x1 x2 x3 S  R hF; cases hF
  | succ n hk4 =>
    intro x1 x2 x3 S  R hF
    have hF : (if (S.1 63 1) ≤ x3 then (some (x2, S)) else (gd (inb x3 20) (if (S.2.1 64 (Int32.toNatClampNeg x3)) = x1 then ((F_X12_linesOf_4 n) x1 (x2 + 1) (x3 + 1) S) else ((F_X12_linesOf_4 n) x1 x2 (x3 + 1) S)))) = some R := hF
    refine Go.iload_n dX12_linesOf_4 rfl ?_
    refine Go.aload_n dX12_linesOf_5 rfl ?_
    refine Go.getI dX12_linesOf_6 fX12_141 rfl ?_
    refine Go.icmpge (tgt := 31) dX12_linesOf_9 (by decide) (fun h_9 => ?_) (fun h_9 => ?_)
    · have hF := ite_t h_9 hF
      refine Go.iload_n dX12_linesOf_31 rfl ?_
      obtain rfl := Option.some.inj hF
      exact Go.iret (st := []) dX12_linesOf_32 rfl rfl ⟨rfl, rfl⟩
    · have hF := ite_f h_9 hF
      refine Go.aload_n dX12_linesOf_12 rfl ?_
      refine Go.getR dX12_linesOf_13 fX12_7 rfl ?_
      refine Go.iload_n dX12_linesOf_16 rfl ?_
      obtain ⟨hb_17, hF⟩ := gd_some hF
      refine Go.iald dX12_linesOf_17 rfl (inb_ok hb_17) ?_
      refine Go.iload_n dX12_linesOf_18 rfl ?_
      refine Go.icmpne (tgt := 25) dX12_linesOf_19 (by decide) (fun h_19 => ?_) (fun h_19 => ?_)
      · have hF := ite_f h_19 hF
        refine Go.iincP (ls' := [(3, _), (0, _), (1, _), (2, _)]) dX12_linesOf_25 rfl (by decide) rfl ?_
        refine Go.goto (tgt := 4) dX12_linesOf_28 (by decide) ?_
        refine Go.pick (ls' := [(0, _), (1, _), (2, _), (3, _)]) [1, 2, 3, 0] rfl ?_
        exact hk4 _ _ _ _ _ hF
      · have hF := ite_t h_19 hF
        refine Go.iincP (ls' := [(2, _), (0, _), (1, _), (3, _)]) dX12_linesOf_22 rfl (by decide) rfl ?_
        refine Go.iincP (ls' := [(3, _), (2, _), (0, _), (1, _)]) dX12_linesOf_25 rfl (by decide) rfl ?_
        refine Go.goto (tgt := 4) dX12_linesOf_28 (by decide) ?_
        refine Go.pick (ls' := [(0, _), (1, _), (2, _), (3, _)]) [2, 3, 1, 0] rfl ?_
        exact hk4 _ _ _ _ _ hF
def F_X12_linesOf (N : Nat) (x1 : Int32) (S : St) : Option (Int32 × St) :=
  F_X12_linesOf_4 N x1 0 0 S
set_option maxHeartbeats 4000000 in
set_option maxRecDepth 100000 in
theorem ok_X12_linesOf {l : Launch} (d : Nat) (N : Nat) (x1 : Int32) (S : St) (R : Int32 × St) (hF : F_X12_linesOf N x1 S = some R) : Go l (d + 0) mX12_linesOf (Res (some (.int R.1)) R.2) 0 [(0, .ref 63), (1, .int x1)] [] S := by
  unfold F_X12_linesOf at hF
  refine Go.iconst (v := 0) dX12_linesOf_0 (by decide) ?_
  refine Go.istore_n (ls' := [(2, _), (0, _), (1, _)]) dX12_linesOf_1 (by decide) rfl ?_
  refine Go.iconst (v := 0) dX12_linesOf_2 (by decide) ?_
  refine Go.istore_n (ls' := [(3, _), (2, _), (0, _), (1, _)]) dX12_linesOf_3 (by decide) rfl ?_
  refine Go.pick (ls' := [(0, _), (1, _), (2, _), (3, _)]) [2, 3, 1, 0] rfl ?_
  exact ok_X12_linesOf_4 d N _ _ _ _ _ hF
theorem sw_X12_of_54 (x : Int32) (h0 : ¬ x = 0) (h1 : ¬ x = 1) (h2 : ¬ x = 2) (h3 : ¬ x = 3) (h4 : ¬ x = 4) (h5 : ¬ x = 5) (h6 : ¬ x = 6) (h7 : ¬ x = 7) (h8 : ¬ x = 8) (h9 : ¬ x = 9) : swO 121 0 9 #[54, 61, 68, 75, 82, 89, 96, 103, 109, 115] x = 121 := by
  by_cases h : x.toInt < 0 ∨ 9 < x.toInt
  · unfold swO; rw [if_pos h]
  · have hx : x = 0 ∨ x = 1 ∨ x = 2 ∨ x = 3 ∨ x = 4 ∨ x = 5 ∨ x = 6 ∨ x = 7 ∨ x = 8 ∨ x = 9 := by
      have e : ∀ v : Int32, x.toInt = v.toInt → x = v := fun v h => Int32.toInt_inj.mp h
      have : x.toInt = 0 ∨ x.toInt = 1 ∨ x.toInt = 2 ∨ x.toInt = 3 ∨ x.toInt = 4 ∨ x.toInt = 5 ∨ x.toInt = 6 ∨ x.toInt = 7 ∨ x.toInt = 8 ∨ x.toInt = 9 := by omega
      rcases this with h | h | h | h | h | h | h | h | h | h
      · exact Or.inl (e 0 h)
      · exact Or.inr (Or.inl (e 1 h))
      · exact Or.inr (Or.inr (Or.inl (e 2 h)))
      · exact Or.inr (Or.inr (Or.inr (Or.inl (e 3 h))))
      · exact Or.inr (Or.inr (Or.inr (Or.inr (Or.inl (e 4 h)))))
      · exact Or.inr (Or.inr (Or.inr (Or.inr (Or.inr (Or.inl (e 5 h))))))
      · exact Or.inr (Or.inr (Or.inr (Or.inr (Or.inr (Or.inr (Or.inl (e 6 h)))))))
      · exact Or.inr (Or.inr (Or.inr (Or.inr (Or.inr (Or.inr (Or.inr (Or.inl (e 7 h))))))))
      · exact Or.inr (Or.inr (Or.inr (Or.inr (Or.inr (Or.inr (Or.inr (Or.inr (Or.inl (e 8 h)))))))))
      · exact Or.inr (Or.inr (Or.inr (Or.inr (Or.inr (Or.inr (Or.inr (Or.inr (Or.inr (e 9 h)))))))))
    rcases hx with rfl | rfl | rfl | rfl | rfl | rfl | rfl | rfl | rfl | rfl <;> first | rfl | (exact absurd rfl (by assumption))
def F_X12_of (N : Nat) (x1 : Int32) (x2 : Int32) (S : St) : Option (Int32 × St) :=
  (F_X12_in x2 (10 : Int32) (11 : Int32) S).bind (fun r_5 => if r_5.1 = 0 then ((F_X12_isLine x1 r_5.2).bind (fun r_45 => if r_45.1 = 0 then (some ((-1), r_45.2)) else (if x2 = 0 then (gd (inb x1 20) (some (r_45.2.2.1 64 (Int32.toNatClampNeg x1), r_45.2))) else (if x2 = 1 then (gd (inb x1 20) (some (r_45.2.2.1 65 (Int32.toNatClampNeg x1), r_45.2))) else (if x2 = 2 then (gd (inb x1 20) (some (r_45.2.2.1 66 (Int32.toNatClampNeg x1), r_45.2))) else (if x2 = 3 then (gd (inb x1 20) (some (r_45.2.2.1 67 (Int32.toNatClampNeg x1), r_45.2))) else (if x2 = 4 then (gd (inb x1 20) (some (r_45.2.2.1 68 (Int32.toNatClampNeg x1), r_45.2))) else (if x2 = 5 then (gd (inb x1 20) (some (r_45.2.2.1 69 (Int32.toNatClampNeg x1), r_45.2))) else (if x2 = 6 then (gd (inb x1 20) (some (r_45.2.2.1 70 (Int32.toNatClampNeg x1), r_45.2))) else (if x2 = 7 then ((F_X12_knows N x1 r_45.2).bind (fun r_159 => some (r_159.1, r_159.2))) else (if x2 = 8 then ((F_X12_gains N x1 r_45.2).bind (fun r_165 => some (r_165.1, r_165.2))) else (if x2 = 9 then ((F_X12_jumpsFrom N x1 r_45.2).bind (fun r_171 => some (r_171.1, r_171.2))) else (some ((-1), r_45.2)))))))))))))) else ((F_X12_isPart x1 r_5.2).bind (fun r_12 => if r_12.1 = 0 then (some ((-1), r_12.2)) else (if x2 = 10 then (gd (inb x1 6) (some (r_12.2.2.1 71 (Int32.toNatClampNeg x1), r_12.2))) else ((F_X12_linesOf N x1 r_12.2).bind (fun r_39 => some (r_39.1, r_39.2)))))))
set_option maxHeartbeats 4000000 in
set_option maxRecDepth 100000 in
theorem ok_X12_of {l : Launch} (d : Nat) (N : Nat) (x1 : Int32) (x2 : Int32) (S : St) (R : Int32 × St) (hF : F_X12_of N x1 x2 S = some R) : Go l (d + 5) mX12_of (Res (some (.int R.1)) R.2) 0 [(0, .ref 63), (1, .int x1), (2, .int x2)] [] S := by
  unfold F_X12_of at hF
  refine Go.iload_n dX12_of_0 rfl ?_
  refine Go.bipush (v := 10) dX12_of_1 (by decide) ?_
  refine Go.bipush (v := 11) dX12_of_3 (by decide) ?_
  obtain ⟨r_5, hc_5, hF⟩ := Option.bind_eq_some_iff.mp hF
  refine Go.callS [_, _, _] dX12_of_5 kX12_in sX12_in lX12_144 rfl rfl (Nat.le_of_ble_eq_true rfl) (Nat.le_of_ble_eq_true rfl) (ok_X12_in (d + 4) _ _ _ _ _ hc_5) ?_
  refine Go.ifeq (tgt := 43) dX12_of_8 (by decide) (fun h_8 => ?_) (fun h_8 => ?_)
  · have hF := ite_t h_8 hF
    refine Go.aload_n dX12_of_43 rfl ?_
    refine Go.iload_n dX12_of_44 rfl ?_
    obtain ⟨r_45, hc_45, hF⟩ := Option.bind_eq_some_iff.mp hF
    refine Go.callV [_] dX12_of_45 kX12_isLine vX12_isLine lX12_178 rfl rfl rfl rfl rfl (Nat.le_of_ble_eq_true rfl) (Nat.le_of_ble_eq_true rfl) (ok_X12_isLine (d + 3) _ _ _ hc_45) ?_
    refine Go.ifne (tgt := 53) dX12_of_48 (by decide) (fun h_48 => ?_) (fun h_48 => ?_)
    · have hF := ite_f h_48 hF
      refine Go.iload_n dX12_of_53 rfl ?_
      by_cases hs_54_0 : x2 = 0
      · have hF := ite_t hs_54_0 hF
        refine Go.swT (tgt := 108) dX12_of_54 (by first | (rw [hs_54_0]; done) | (rw [hs_54_0]; rfl) | (rw [hs_54_0]; decide)) (by decide) (by decide) ?_
        refine Go.aload_n dX12_of_108 rfl ?_
        refine Go.getR dX12_of_109 fX12_7 rfl ?_
        refine Go.iload_n dX12_of_112 rfl ?_
        obtain ⟨hb_113, hF⟩ := gd_some hF
        refine Go.iald dX12_of_113 rfl (inb_ok hb_113) ?_
        obtain rfl := Option.some.inj hF
        exact Go.iret (st := []) dX12_of_114 rfl rfl ⟨rfl, rfl⟩
      · have hF := ite_f hs_54_0 hF
        by_cases hs_54_1 : x2 = 1
        · have hF := ite_t hs_54_1 hF
          refine Go.swT (tgt := 115) dX12_of_54 (by first | (rw [hs_54_1]; done) | (rw [hs_54_1]; rfl) | (rw [hs_54_1]; decide)) (by decide) (by decide) ?_
          refine Go.aload_n dX12_of_115 rfl ?_
          refine Go.getR dX12_of_116 fX12_13 rfl ?_
          refine Go.iload_n dX12_of_119 rfl ?_
          obtain ⟨hb_120, hF⟩ := gd_some hF
          refine Go.iald dX12_of_120 rfl (inb_ok hb_120) ?_
          obtain rfl := Option.some.inj hF
          exact Go.iret (st := []) dX12_of_121 rfl rfl ⟨rfl, rfl⟩
        · have hF := ite_f hs_54_1 hF
          by_cases hs_54_2 : x2 = 2
          · have hF := ite_t hs_54_2 hF
            refine Go.swT (tgt := 122) dX12_of_54 (by first | (rw [hs_54_2]; done) | (rw [hs_54_2]; rfl) | (rw [hs_54_2]; decide)) (by decide) (by decide) ?_
            refine Go.aload_n dX12_of_122 rfl ?_
            refine Go.getR dX12_of_123 fX12_16 rfl ?_
            refine Go.iload_n dX12_of_126 rfl ?_
            obtain ⟨hb_127, hF⟩ := gd_some hF
            refine Go.iald dX12_of_127 rfl (inb_ok hb_127) ?_
            obtain rfl := Option.some.inj hF
            exact Go.iret (st := []) dX12_of_128 rfl rfl ⟨rfl, rfl⟩
          · have hF := ite_f hs_54_2 hF
            by_cases hs_54_3 : x2 = 3
            · have hF := ite_t hs_54_3 hF
              refine Go.swT (tgt := 129) dX12_of_54 (by first | (rw [hs_54_3]; done) | (rw [hs_54_3]; rfl) | (rw [hs_54_3]; decide)) (by decide) (by decide) ?_
              refine Go.aload_n dX12_of_129 rfl ?_
              refine Go.getR dX12_of_130 fX12_19 rfl ?_
              refine Go.iload_n dX12_of_133 rfl ?_
              obtain ⟨hb_134, hF⟩ := gd_some hF
              refine Go.iald dX12_of_134 rfl (inb_ok hb_134) ?_
              obtain rfl := Option.some.inj hF
              exact Go.iret (st := []) dX12_of_135 rfl rfl ⟨rfl, rfl⟩
            · have hF := ite_f hs_54_3 hF
              by_cases hs_54_4 : x2 = 4
              · have hF := ite_t hs_54_4 hF
                refine Go.swT (tgt := 136) dX12_of_54 (by first | (rw [hs_54_4]; done) | (rw [hs_54_4]; rfl) | (rw [hs_54_4]; decide)) (by decide) (by decide) ?_
                refine Go.aload_n dX12_of_136 rfl ?_
                refine Go.getR dX12_of_137 fX12_22 rfl ?_
                refine Go.iload_n dX12_of_140 rfl ?_
                obtain ⟨hb_141, hF⟩ := gd_some hF
                refine Go.iald dX12_of_141 rfl (inb_ok hb_141) ?_
                obtain rfl := Option.some.inj hF
                exact Go.iret (st := []) dX12_of_142 rfl rfl ⟨rfl, rfl⟩
              · have hF := ite_f hs_54_4 hF
                by_cases hs_54_5 : x2 = 5
                · have hF := ite_t hs_54_5 hF
                  refine Go.swT (tgt := 143) dX12_of_54 (by first | (rw [hs_54_5]; done) | (rw [hs_54_5]; rfl) | (rw [hs_54_5]; decide)) (by decide) (by decide) ?_
                  refine Go.aload_n dX12_of_143 rfl ?_
                  refine Go.getR dX12_of_144 fX12_25 rfl ?_
                  refine Go.iload_n dX12_of_147 rfl ?_
                  obtain ⟨hb_148, hF⟩ := gd_some hF
                  refine Go.iald dX12_of_148 rfl (inb_ok hb_148) ?_
                  obtain rfl := Option.some.inj hF
                  exact Go.iret (st := []) dX12_of_149 rfl rfl ⟨rfl, rfl⟩
                · have hF := ite_f hs_54_5 hF
                  by_cases hs_54_6 : x2 = 6
                  · have hF := ite_t hs_54_6 hF
                    refine Go.swT (tgt := 150) dX12_of_54 (by first | (rw [hs_54_6]; done) | (rw [hs_54_6]; rfl) | (rw [hs_54_6]; decide)) (by decide) (by decide) ?_
                    refine Go.aload_n dX12_of_150 rfl ?_
                    refine Go.getR dX12_of_151 fX12_28 rfl ?_
                    refine Go.iload_n dX12_of_154 rfl ?_
                    obtain ⟨hb_155, hF⟩ := gd_some hF
                    refine Go.iald dX12_of_155 rfl (inb_ok hb_155) ?_
                    obtain rfl := Option.some.inj hF
                    exact Go.iret (st := []) dX12_of_156 rfl rfl ⟨rfl, rfl⟩
                  · have hF := ite_f hs_54_6 hF
                    by_cases hs_54_7 : x2 = 7
                    · have hF := ite_t hs_54_7 hF
                      refine Go.swT (tgt := 157) dX12_of_54 (by first | (rw [hs_54_7]; done) | (rw [hs_54_7]; rfl) | (rw [hs_54_7]; decide)) (by decide) (by decide) ?_
                      refine Go.aload_n dX12_of_157 rfl ?_
                      refine Go.iload_n dX12_of_158 rfl ?_
                      obtain ⟨r_159, hc_159, hF⟩ := Option.bind_eq_some_iff.mp hF
                      refine Go.callV [_] dX12_of_159 kX12_knows vX12_knows lX12_271 rfl rfl rfl rfl rfl (Nat.le_of_ble_eq_true rfl) (Nat.le_of_ble_eq_true rfl) (ok_X12_knows (d + 0) N _ _ _ hc_159) ?_
                      obtain rfl := Option.some.inj hF
                      exact Go.iret (st := []) dX12_of_162 rfl rfl ⟨rfl, rfl⟩
                    · have hF := ite_f hs_54_7 hF
                      by_cases hs_54_8 : x2 = 8
                      · have hF := ite_t hs_54_8 hF
                        refine Go.swT (tgt := 163) dX12_of_54 (by first | (rw [hs_54_8]; done) | (rw [hs_54_8]; rfl) | (rw [hs_54_8]; decide)) (by decide) (by decide) ?_
                        refine Go.aload_n dX12_of_163 rfl ?_
                        refine Go.iload_n dX12_of_164 rfl ?_
                        obtain ⟨r_165, hc_165, hF⟩ := Option.bind_eq_some_iff.mp hF
                        refine Go.callV [_] dX12_of_165 kX12_gains vX12_gains lX12_261 rfl rfl rfl rfl rfl (Nat.le_of_ble_eq_true rfl) (Nat.le_of_ble_eq_true rfl) (ok_X12_gains (d + 0) N _ _ _ hc_165) ?_
                        obtain rfl := Option.some.inj hF
                        exact Go.iret (st := []) dX12_of_168 rfl rfl ⟨rfl, rfl⟩
                      · have hF := ite_f hs_54_8 hF
                        by_cases hs_54_9 : x2 = 9
                        · have hF := ite_t hs_54_9 hF
                          refine Go.swT (tgt := 169) dX12_of_54 (by first | (rw [hs_54_9]; done) | (rw [hs_54_9]; rfl) | (rw [hs_54_9]; decide)) (by decide) (by decide) ?_
                          refine Go.aload_n dX12_of_169 rfl ?_
                          refine Go.iload_n dX12_of_170 rfl ?_
                          obtain ⟨r_171, hc_171, hF⟩ := Option.bind_eq_some_iff.mp hF
                          refine Go.callV [_] dX12_of_171 kX12_jumpsFrom vX12_jumpsFrom lX12_274 rfl rfl rfl rfl rfl (Nat.le_of_ble_eq_true rfl) (Nat.le_of_ble_eq_true rfl) (ok_X12_jumpsFrom (d + 3) N _ _ _ hc_171) ?_
                          obtain rfl := Option.some.inj hF
                          exact Go.iret (st := []) dX12_of_174 rfl rfl ⟨rfl, rfl⟩
                        · have hF := ite_f hs_54_9 hF
                          refine Go.swT (tgt := 175) dX12_of_54 (sw_X12_of_54 _ hs_54_0 hs_54_1 hs_54_2 hs_54_3 hs_54_4 hs_54_5 hs_54_6 hs_54_7 hs_54_8 hs_54_9) (by decide) (by decide) ?_
                          refine Go.iconst (v := (-1)) dX12_of_175 (by decide) ?_
                          obtain rfl := Option.some.inj hF
                          exact Go.iret (st := []) dX12_of_176 rfl rfl ⟨rfl, rfl⟩
    · have hF := ite_t h_48 hF
      refine Go.iconst (v := (-1)) dX12_of_51 (by decide) ?_
      obtain rfl := Option.some.inj hF
      exact Go.iret (st := []) dX12_of_52 rfl rfl ⟨rfl, rfl⟩
  · have hF := ite_f h_8 hF
    refine Go.iload_n dX12_of_11 rfl ?_
    obtain ⟨r_12, hc_12, hF⟩ := Option.bind_eq_some_iff.mp hF
    refine Go.callS [_] dX12_of_12 kX12_isPart sX12_isPart lX12_158 rfl rfl (Nat.le_of_ble_eq_true rfl) (Nat.le_of_ble_eq_true rfl) (ok_X12_isPart (d + 3) _ _ _ hc_12) ?_
    refine Go.ifne (tgt := 22) dX12_of_15 (by decide) (fun h_15 => ?_) (fun h_15 => ?_)
    · have hF := ite_f h_15 hF
      refine Go.iload_n dX12_of_22 rfl ?_
      refine Go.bipush (v := 10) dX12_of_23 (by decide) ?_
      refine Go.icmpne (tgt := 37) dX12_of_25 (by decide) (fun h_25 => ?_) (fun h_25 => ?_)
      · have hF := ite_f h_25 hF
        refine Go.aload_n dX12_of_37 rfl ?_
        refine Go.iload_n dX12_of_38 rfl ?_
        obtain ⟨r_39, hc_39, hF⟩ := Option.bind_eq_some_iff.mp hF
        refine Go.callV [_] dX12_of_39 kX12_linesOf vX12_linesOf lX12_268 rfl rfl rfl rfl rfl (Nat.le_of_ble_eq_true rfl) (Nat.le_of_ble_eq_true rfl) (ok_X12_linesOf (d + 4) N _ _ _ hc_39) ?_
        obtain rfl := Option.some.inj hF
        exact Go.iret (st := []) dX12_of_42 rfl rfl ⟨rfl, rfl⟩
      · have hF := ite_t h_25 hF
        refine Go.aload_n dX12_of_28 rfl ?_
        refine Go.getR dX12_of_29 fX12_31 rfl ?_
        refine Go.iload_n dX12_of_32 rfl ?_
        obtain ⟨hb_33, hF⟩ := gd_some hF
        refine Go.iald dX12_of_33 rfl (inb_ok hb_33) ?_
        refine Go.goto (tgt := 42) dX12_of_34 (by decide) ?_
        obtain rfl := Option.some.inj hF
        exact Go.iret (st := []) dX12_of_42 rfl rfl ⟨rfl, rfl⟩
    · have hF := ite_t h_15 hF
      refine Go.iconst (v := (-1)) dX12_of_18 (by decide) ?_
      refine Go.goto (tgt := 42) dX12_of_19 (by decide) ?_
      obtain rfl := Option.some.inj hF
      exact Go.iret (st := []) dX12_of_42 rfl rfl ⟨rfl, rfl⟩
def F_X12_rehearse (N : Nat) (x1 : Int32) (S : St) : Option (Int32 × St) :=
  (F_X12_isLine x1 S).bind (fun r_2 => if r_2.1 = 0 then (some ((-1), r_2.2)) else ((F_X12_heldThen N x1 r_2.2).bind (fun r_17 => gd (inb x1 20) (let S20 := aset r_17.2 70 (upd (r_17.2.2.1 70) (Int32.toNatClampNeg x1) r_17.1); gd (inb x1 20) (some (S20.2.1 70 (Int32.toNatClampNeg x1), S20))))))
set_option maxHeartbeats 4000000 in
set_option maxRecDepth 100000 in
theorem ok_X12_rehearse {l : Launch} (d : Nat) (N : Nat) (x1 : Int32) (S : St) (R : Int32 × St) (hF : F_X12_rehearse N x1 S = some R) : Go l (d + 6) mX12_rehearse (Res (some (.int R.1)) R.2) 0 [(0, .ref 63), (1, .int x1)] [] S := by
  unfold F_X12_rehearse at hF
  refine Go.aload_n dX12_rehearse_0 rfl ?_
  refine Go.iload_n dX12_rehearse_1 rfl ?_
  obtain ⟨r_2, hc_2, hF⟩ := Option.bind_eq_some_iff.mp hF
  refine Go.callV [_] dX12_rehearse_2 kX12_isLine vX12_isLine lX12_178 rfl rfl rfl rfl rfl (Nat.le_of_ble_eq_true rfl) (Nat.le_of_ble_eq_true rfl) (ok_X12_isLine (d + 4) _ _ _ hc_2) ?_
  refine Go.ifne (tgt := 10) dX12_rehearse_5 (by decide) (fun h_5 => ?_) (fun h_5 => ?_)
  · have hF := ite_f h_5 hF
    refine Go.aload_n dX12_rehearse_10 rfl ?_
    refine Go.getR dX12_rehearse_11 fX12_28 rfl ?_
    refine Go.iload_n dX12_rehearse_14 rfl ?_
    refine Go.aload_n dX12_rehearse_15 rfl ?_
    refine Go.iload_n dX12_rehearse_16 rfl ?_
    obtain ⟨r_17, hc_17, hF⟩ := Option.bind_eq_some_iff.mp hF
    refine Go.callV [_] dX12_rehearse_17 kX12_heldThen vX12_heldThen lX12_277 rfl rfl rfl rfl rfl (Nat.le_of_ble_eq_true rfl) (Nat.le_of_ble_eq_true rfl) (ok_X12_heldThen (d + 0) N _ _ _ hc_17) ?_
    obtain ⟨hb_20, hF⟩ := gd_some hF
    refine Go.iast dX12_rehearse_20 rfl (inb_ok hb_20) ?_
    refine Go.aload_n dX12_rehearse_21 rfl ?_
    refine Go.getR dX12_rehearse_22 fX12_28 rfl ?_
    refine Go.iload_n dX12_rehearse_25 rfl ?_
    obtain ⟨hb_26, hF⟩ := gd_some hF
    refine Go.iald dX12_rehearse_26 rfl (inb_ok hb_26) ?_
    obtain rfl := Option.some.inj hF
    exact Go.iret (st := []) dX12_rehearse_27 rfl rfl ⟨rfl, rfl⟩
  · have hF := ite_t h_5 hF
    refine Go.iconst (v := (-1)) dX12_rehearse_8 (by decide) ?_
    obtain rfl := Option.some.inj hF
    exact Go.iret (st := []) dX12_rehearse_9 rfl rfl ⟨rfl, rfl⟩
def F_X12_jumps_33 (k21 : Int32 → Int32 → Int32 → Int32 → St → Option (Int32 × St)) : Nat → Int32 → Int32 → Int32 → Int32 → Int32 → St → Option (Int32 × St)
  | 0 => fun _ _ _ _ _ _ => none
  | n + 1 => fun x1 x2 x3 x4 x5 S =>
    if (S.1 63 1) ≤ x5 then (k21 x1 x2 x3 (x4 + 1) S) else ((F_X12_isJump x4 x5 S).bind (fun r_47 => if r_47.1 = 0 then ((F_X12_jumps_33 k21 n) x1 x2 x3 x4 (x5 + 1) r_47.2) else (if x1 = 1 then (if x5 ≤ x4 then (if x3 = x2 then (some ((100 * x4) + x5, r_47.2)) else ((F_X12_jumps_33 k21 n) x1 x2 (x3 + 1) x4 (x5 + 1) r_47.2)) else ((F_X12_jumps_33 k21 n) x1 x2 x3 x4 (x5 + 1) r_47.2)) else (if x3 = x2 then (some ((100 * x4) + x5, r_47.2)) else ((F_X12_jumps_33 k21 n) x1 x2 (x3 + 1) x4 (x5 + 1) r_47.2)))))
set_option maxHeartbeats 4000000 in
set_option maxRecDepth 100000 in
theorem ok_X12_jumps_33 {l : Launch} (d : Nat) (k21 : Int32 → Int32 → Int32 → Int32 → St → Option (Int32 × St)) (hk21 : ∀ (x1 : Int32) (x2 : Int32) (x3 : Int32) (x4 : Int32) (S : St) (R : Int32 × St), k21 x1 x2 x3 x4 S = some R → Go l (d + 1) mX12_jumps (Res (some (.int R.1)) R.2) 21 [(0, .ref 63), (1, .int x1), (2, .int x2), (3, .int x3), (4, .int x4)] [] S) : ∀ (n : Nat) (x1 : Int32) (x2 : Int32) (x3 : Int32) (x4 : Int32) (x5 : Int32) (S : St) (R : Int32 × St), F_X12_jumps_33 k21 n x1 x2 x3 x4 x5 S = some R → Go l (d + 1) mX12_jumps (Res (some (.int R.1)) R.2) 33 [(0, .ref 63), (1, .int x1), (2, .int x2), (3, .int x3), (4, .int x4), (5, .int x5)] [] S := by
  intro n
  induction n with
  | zero => intro x1 x2 x3 x4 x5 S  R hF; cases hF
  | succ n hk33 =>
    intro x1 x2 x3 x4 x5 S  R hF
    have hF : (if (S.1 63 1) ≤ x5 then (k21 x1 x2 x3 (x4 + 1) S) else ((F_X12_isJump x4 x5 S).bind (fun r_47 => if r_47.1 = 0 then ((F_X12_jumps_33 k21 n) x1 x2 x3 x4 (x5 + 1) r_47.2) else (if x1 = 1 then (if x5 ≤ x4 then (if x3 = x2 then (some ((100 * x4) + x5, r_47.2)) else ((F_X12_jumps_33 k21 n) x1 x2 (x3 + 1) x4 (x5 + 1) r_47.2)) else ((F_X12_jumps_33 k21 n) x1 x2 x3 x4 (x5 + 1) r_47.2)) else (if x3 = x2 then (some ((100 * x4) + x5, r_47.2)) else ((F_X12_jumps_33 k21 n) x1 x2 (x3 + 1) x4 (x5 + 1) r_47.2)))))) = some R := hF
    refine Go.iload dX12_jumps_33 rfl ?_
    refine Go.aload_n dX12_jumps_35 rfl ?_
    refine Go.getI dX12_jumps_36 fX12_141 rfl ?_
    refine Go.icmpge (tgt := 91) dX12_jumps_39 (by decide) (fun h_39 => ?_) (fun h_39 => ?_)
    · have hF := ite_t h_39 hF
      refine Go.iincP (ls' := [(4, _), (0, _), (1, _), (2, _), (3, _), (5, _)]) dX12_jumps_91 rfl (by decide) rfl ?_
      refine Go.goto (tgt := 21) dX12_jumps_94 (by decide) ?_
      refine Go.pick (ls' := [(0, _), (1, _), (2, _), (3, _), (4, _)]) [1, 2, 3, 4, 0] rfl ?_
      exact hk21 _ _ _ _ _ _ hF
    · have hF := ite_f h_39 hF
      refine Go.aload_n dX12_jumps_42 rfl ?_
      refine Go.iload dX12_jumps_43 rfl ?_
      refine Go.iload dX12_jumps_45 rfl ?_
      obtain ⟨r_47, hc_47, hF⟩ := Option.bind_eq_some_iff.mp hF
      refine Go.callV [_, _] dX12_jumps_47 kX12_isJump vX12_isJump lX12_264 rfl rfl rfl rfl rfl (Nat.le_of_ble_eq_true rfl) (Nat.le_of_ble_eq_true rfl) (ok_X12_isJump (d + 0) _ _ _ _ hc_47) ?_
      refine Go.ifeq (tgt := 85) dX12_jumps_50 (by decide) (fun h_50 => ?_) (fun h_50 => ?_)
      · have hF := ite_t h_50 hF
        refine Go.iincP (ls' := [(5, _), (0, _), (1, _), (2, _), (3, _), (4, _)]) dX12_jumps_85 rfl (by decide) rfl ?_
        refine Go.goto (tgt := 33) dX12_jumps_88 (by decide) ?_
        refine Go.pick (ls' := [(0, _), (1, _), (2, _), (3, _), (4, _), (5, _)]) [1, 2, 3, 4, 5, 0] rfl ?_
        exact hk33 _ _ _ _ _ _ _ hF
      · have hF := ite_f h_50 hF
        refine Go.iload_n dX12_jumps_53 rfl ?_
        refine Go.iconst (v := 1) dX12_jumps_54 (by decide) ?_
        refine Go.icmpne (tgt := 68) dX12_jumps_55 (by decide) (fun h_55 => ?_) (fun h_55 => ?_)
        · have hF := ite_f h_55 hF
          refine Go.iload_n dX12_jumps_68 rfl ?_
          refine Go.iload_n dX12_jumps_69 rfl ?_
          refine Go.icmpne (tgt := 82) dX12_jumps_70 (by decide) (fun h_70 => ?_) (fun h_70 => ?_)
          · have hF := ite_f h_70 hF
            refine Go.iincP (ls' := [(3, _), (0, _), (1, _), (2, _), (4, _), (5, _)]) dX12_jumps_82 rfl (by decide) rfl ?_
            refine Go.iincP (ls' := [(5, _), (3, _), (0, _), (1, _), (2, _), (4, _)]) dX12_jumps_85 rfl (by decide) rfl ?_
            refine Go.goto (tgt := 33) dX12_jumps_88 (by decide) ?_
            refine Go.pick (ls' := [(0, _), (1, _), (2, _), (3, _), (4, _), (5, _)]) [2, 3, 4, 1, 5, 0] rfl ?_
            exact hk33 _ _ _ _ _ _ _ hF
          · have hF := ite_t h_70 hF
            refine Go.bipush (v := 100) dX12_jumps_73 (by decide) ?_
            refine Go.iload dX12_jumps_75 rfl ?_
            refine Go.imul dX12_jumps_77 ?_
            refine Go.iload dX12_jumps_78 rfl ?_
            refine Go.iadd dX12_jumps_80 ?_
            obtain rfl := Option.some.inj hF
            exact Go.iret (st := []) dX12_jumps_81 rfl rfl ⟨rfl, rfl⟩
        · have hF := ite_t h_55 hF
          refine Go.iload dX12_jumps_58 rfl ?_
          refine Go.iload dX12_jumps_60 rfl ?_
          refine Go.icmple (tgt := 68) dX12_jumps_62 (by decide) (fun h_62 => ?_) (fun h_62 => ?_)
          · have hF := ite_t h_62 hF
            refine Go.iload_n dX12_jumps_68 rfl ?_
            refine Go.iload_n dX12_jumps_69 rfl ?_
            refine Go.icmpne (tgt := 82) dX12_jumps_70 (by decide) (fun h_70 => ?_) (fun h_70 => ?_)
            · have hF := ite_f h_70 hF
              refine Go.iincP (ls' := [(3, _), (0, _), (1, _), (2, _), (4, _), (5, _)]) dX12_jumps_82 rfl (by decide) rfl ?_
              refine Go.iincP (ls' := [(5, _), (3, _), (0, _), (1, _), (2, _), (4, _)]) dX12_jumps_85 rfl (by decide) rfl ?_
              refine Go.goto (tgt := 33) dX12_jumps_88 (by decide) ?_
              refine Go.pick (ls' := [(0, _), (1, _), (2, _), (3, _), (4, _), (5, _)]) [2, 3, 4, 1, 5, 0] rfl ?_
              exact hk33 _ _ _ _ _ _ _ hF
            · have hF := ite_t h_70 hF
              refine Go.bipush (v := 100) dX12_jumps_73 (by decide) ?_
              refine Go.iload dX12_jumps_75 rfl ?_
              refine Go.imul dX12_jumps_77 ?_
              refine Go.iload dX12_jumps_78 rfl ?_
              refine Go.iadd dX12_jumps_80 ?_
              obtain rfl := Option.some.inj hF
              exact Go.iret (st := []) dX12_jumps_81 rfl rfl ⟨rfl, rfl⟩
          · have hF := ite_f h_62 hF
            refine Go.goto (tgt := 85) dX12_jumps_65 (by decide) ?_
            refine Go.iincP (ls' := [(5, _), (0, _), (1, _), (2, _), (3, _), (4, _)]) dX12_jumps_85 rfl (by decide) rfl ?_
            refine Go.goto (tgt := 33) dX12_jumps_88 (by decide) ?_
            refine Go.pick (ls' := [(0, _), (1, _), (2, _), (3, _), (4, _), (5, _)]) [1, 2, 3, 4, 5, 0] rfl ?_
            exact hk33 _ _ _ _ _ _ _ hF
def F_X12_jumps_21 (N : Nat) : Nat → Int32 → Int32 → Int32 → Int32 → St → Option (Int32 × St)
  | 0 => fun _ _ _ _ _ => none
  | n + 1 => fun x1 x2 x3 x4 S =>
    if (S.1 63 1) ≤ x4 then (if 0 ≤ x2 then (some ((-1), S)) else (some (x3, S))) else (F_X12_jumps_33 (F_X12_jumps_21 N n) N x1 x2 x3 x4 0 S)
set_option maxHeartbeats 4000000 in
set_option maxRecDepth 100000 in
theorem ok_X12_jumps_21 {l : Launch} (d : Nat) (N : Nat) : ∀ (n : Nat) (x1 : Int32) (x2 : Int32) (x3 : Int32) (x4 : Int32) (S : St) (R : Int32 × St), F_X12_jumps_21 N n x1 x2 x3 x4 S = some R → Go l (d + 1) mX12_jumps (Res (some (.int R.1)) R.2) 21 [(0, .ref 63), (1, .int x1), (2, .int x2), (3, .int x3), (4, .int x4)] [] S := by
  intro n
  induction n with
  | zero => intro x1 x2 x3 x4 S  R hF; cases hF
  | succ n hk21 =>
    intro x1 x2 x3 x4 S  R hF
    have hF : (if (S.1 63 1) ≤ x4 then (if 0 ≤ x2 then (some ((-1), S)) else (some (x3, S))) else (F_X12_jumps_33 (F_X12_jumps_21 N n) N x1 x2 x3 x4 0 S)) = some R := hF
    refine Go.iload dX12_jumps_21 rfl ?_
    refine Go.aload_n dX12_jumps_23 rfl ?_
    refine Go.getI dX12_jumps_24 fX12_141 rfl ?_
    refine Go.icmpge (tgt := 97) dX12_jumps_27 (by decide) (fun h_27 => ?_) (fun h_27 => ?_)
    · have hF := ite_t h_27 hF
      refine Go.iload_n dX12_jumps_97 rfl ?_
      refine Go.ifge (tgt := 105) dX12_jumps_98 (by decide) (fun h_98 => ?_) (fun h_98 => ?_)
      · have hF := ite_t h_98 hF
        refine Go.iconst (v := (-1)) dX12_jumps_105 (by decide) ?_
        obtain rfl := Option.some.inj hF
        exact Go.iret (st := []) dX12_jumps_106 rfl rfl ⟨rfl, rfl⟩
      · have hF := ite_f h_98 hF
        refine Go.iload_n dX12_jumps_101 rfl ?_
        refine Go.goto (tgt := 106) dX12_jumps_102 (by decide) ?_
        obtain rfl := Option.some.inj hF
        exact Go.iret (st := []) dX12_jumps_106 rfl rfl ⟨rfl, rfl⟩
    · have hF := ite_f h_27 hF
      refine Go.iconst (v := 0) dX12_jumps_30 (by decide) ?_
      refine Go.istore (ls' := [(5, _), (0, _), (1, _), (2, _), (3, _), (4, _)]) dX12_jumps_31 (by decide) rfl ?_
      refine Go.pick (ls' := [(0, _), (1, _), (2, _), (3, _), (4, _), (5, _)]) [1, 2, 3, 4, 5, 0] rfl ?_
      exact ok_X12_jumps_33 d (F_X12_jumps_21 N n) hk21 N _ _ _ _ _ _ _ hF
def F_X12_jumps (N : Nat) (x1 : Int32) (x2 : Int32) (S : St) : Option (Int32 × St) :=
  (F_X12_in x1 (0 : Int32) (1 : Int32) S).bind (fun r_3 => if r_3.1 = 0 then (some ((-1), r_3.2)) else (if (-1) ≤ x2 then (F_X12_jumps_21 N N x1 x2 0 0 r_3.2) else (some ((-1), r_3.2))))
set_option maxHeartbeats 4000000 in
set_option maxRecDepth 100000 in
theorem ok_X12_jumps {l : Launch} (d : Nat) (N : Nat) (x1 : Int32) (x2 : Int32) (S : St) (R : Int32 × St) (hF : F_X12_jumps N x1 x2 S = some R) : Go l (d + 1) mX12_jumps (Res (some (.int R.1)) R.2) 0 [(0, .ref 63), (1, .int x1), (2, .int x2)] [] S := by
  unfold F_X12_jumps at hF
  refine Go.iload_n dX12_jumps_0 rfl ?_
  refine Go.iconst (v := 0) dX12_jumps_1 (by decide) ?_
  refine Go.iconst (v := 1) dX12_jumps_2 (by decide) ?_
  obtain ⟨r_3, hc_3, hF⟩ := Option.bind_eq_some_iff.mp hF
  refine Go.callS [_, _, _] dX12_jumps_3 kX12_in sX12_in lX12_144 rfl rfl (Nat.le_of_ble_eq_true rfl) (Nat.le_of_ble_eq_true rfl) (ok_X12_in (d + 0) _ _ _ _ _ hc_3) ?_
  refine Go.ifeq (tgt := 14) dX12_jumps_6 (by decide) (fun h_6 => ?_) (fun h_6 => ?_)
  · have hF := ite_t h_6 hF
    refine Go.iconst (v := (-1)) dX12_jumps_14 (by decide) ?_
    obtain rfl := Option.some.inj hF
    exact Go.iret (st := []) dX12_jumps_15 rfl rfl ⟨rfl, rfl⟩
  · have hF := ite_f h_6 hF
    refine Go.iload_n dX12_jumps_9 rfl ?_
    refine Go.iconst (v := (-1)) dX12_jumps_10 (by decide) ?_
    refine Go.icmpge (tgt := 16) dX12_jumps_11 (by decide) (fun h_11 => ?_) (fun h_11 => ?_)
    · have hF := ite_t h_11 hF
      refine Go.iconst (v := 0) dX12_jumps_16 (by decide) ?_
      refine Go.istore_n (ls' := [(3, _), (0, _), (1, _), (2, _)]) dX12_jumps_17 (by decide) rfl ?_
      refine Go.iconst (v := 0) dX12_jumps_18 (by decide) ?_
      refine Go.istore (ls' := [(4, _), (3, _), (0, _), (1, _), (2, _)]) dX12_jumps_19 (by decide) rfl ?_
      refine Go.pick (ls' := [(0, _), (1, _), (2, _), (3, _), (4, _)]) [2, 3, 4, 1, 0] rfl ?_
      exact ok_X12_jumps_21 d N N _ _ _ _ _ _ hF
    · have hF := ite_f h_11 hF
      refine Go.iconst (v := (-1)) dX12_jumps_14 (by decide) ?_
      obtain rfl := Option.some.inj hF
      exact Go.iret (st := []) dX12_jumps_15 rfl rfl ⟨rfl, rfl⟩
def F_X12_behind_103 : Nat → Int32 → Int32 → Int32 → St → Option (Int32 × St)
  | 0 => fun _ _ _ _ => none
  | n + 1 => fun x4 x5 x6 S =>
    if (S.1 63 1) ≤ x6 then (some (x5, S)) else (gd (inb x6 20) (gd (inb x6 20) ((F_X12_behind_103 n) (x4 ||| (S.2.1 68 (Int32.toNatClampNeg x6))) (x5 ||| ((S.2.1 69 (Int32.toNatClampNeg x6)) &&& (x4 ^^^ (-1)))) (x6 + 1) S)))
set_option maxHeartbeats 4000000 in
set_option maxRecDepth 100000 in
theorem ok_X12_behind_103 {l : Launch} (d : Nat) : ∀ (n : Nat) (x4 : Int32) (x5 : Int32) (x6 : Int32) (S : St) (R : Int32 × St), F_X12_behind_103 n x4 x5 x6 S = some R → Go l (d + 2) mX12_behind (Res (some (.int R.1)) R.2) 103 [(0, .ref 63), (4, .int x4), (5, .int x5), (6, .int x6)] [] S := by
  intro n
  induction n with
  | zero => intro x4 x5 x6 S  R hF; cases hF
  | succ n hk103 =>
    intro x4 x5 x6 S  R hF
    have hF : (if (S.1 63 1) ≤ x6 then (some (x5, S)) else (gd (inb x6 20) (gd (inb x6 20) ((F_X12_behind_103 n) (x4 ||| (S.2.1 68 (Int32.toNatClampNeg x6))) (x5 ||| ((S.2.1 69 (Int32.toNatClampNeg x6)) &&& (x4 ^^^ (-1)))) (x6 + 1) S)))) = some R := hF
    refine Go.iload dX12_behind_103 rfl ?_
    refine Go.aload_n dX12_behind_105 rfl ?_
    refine Go.getI dX12_behind_106 fX12_141 rfl ?_
    refine Go.icmpge (tgt := 147) dX12_behind_109 (by decide) (fun h_109 => ?_) (fun h_109 => ?_)
    · have hF := ite_t h_109 hF
      refine Go.iload dX12_behind_147 rfl ?_
      obtain rfl := Option.some.inj hF
      exact Go.iret (st := []) dX12_behind_149 rfl rfl ⟨rfl, rfl⟩
    · have hF := ite_f h_109 hF
      refine Go.iload dX12_behind_112 rfl ?_
      refine Go.aload_n dX12_behind_114 rfl ?_
      refine Go.getR dX12_behind_115 fX12_25 rfl ?_
      refine Go.iload dX12_behind_118 rfl ?_
      obtain ⟨hb_120, hF⟩ := gd_some hF
      refine Go.iald dX12_behind_120 rfl (inb_ok hb_120) ?_
      refine Go.iload dX12_behind_121 rfl ?_
      refine Go.iconst (v := (-1)) dX12_behind_123 (by decide) ?_
      refine Go.ixor dX12_behind_124 ?_
      refine Go.iand dX12_behind_125 ?_
      refine Go.ior dX12_behind_126 ?_
      refine Go.istore (ls' := [(5, _), (0, _), (4, _), (6, _)]) dX12_behind_127 (by decide) rfl ?_
      refine Go.iload dX12_behind_129 rfl ?_
      refine Go.aload_n dX12_behind_131 rfl ?_
      refine Go.getR dX12_behind_132 fX12_22 rfl ?_
      refine Go.iload dX12_behind_135 rfl ?_
      obtain ⟨hb_137, hF⟩ := gd_some hF
      refine Go.iald dX12_behind_137 rfl (inb_ok hb_137) ?_
      refine Go.ior dX12_behind_138 ?_
      refine Go.istore (ls' := [(4, _), (5, _), (0, _), (6, _)]) dX12_behind_139 (by decide) rfl ?_
      refine Go.iincP (ls' := [(6, _), (4, _), (5, _), (0, _)]) dX12_behind_141 rfl (by decide) rfl ?_
      refine Go.goto (tgt := 103) dX12_behind_144 (by decide) ?_
      refine Go.pick (ls' := [(0, _), (4, _), (5, _), (6, _)]) [3, 1, 2, 0] rfl ?_
      exact hk103 _ _ _ _ _ hF
def F_X12_behind_59 (N : Nat) : Nat → Int32 → Int32 → Int32 → Int32 → Int32 → St → Option (Int32 × St)
  | 0 => fun _ _ _ _ _ _ => none
  | n + 1 => fun x2 x3 x4 x5 x6 S =>
    if x2 < x6 then (F_X12_behind_103 N x4 x5 x3 S) else (gd (inb x6 20) (gd (inb x6 20) ((F_X12_behind_59 N n) x2 x3 (x4 ||| (S.2.1 68 (Int32.toNatClampNeg x6))) (x5 ||| ((S.2.1 69 (Int32.toNatClampNeg x6)) &&& (x4 ^^^ (-1)))) (x6 + 1) S)))
set_option maxHeartbeats 4000000 in
set_option maxRecDepth 100000 in
theorem ok_X12_behind_59 {l : Launch} (d : Nat) (N : Nat) : ∀ (n : Nat) (x2 : Int32) (x3 : Int32) (x4 : Int32) (x5 : Int32) (x6 : Int32) (S : St) (R : Int32 × St), F_X12_behind_59 N n x2 x3 x4 x5 x6 S = some R → Go l (d + 2) mX12_behind (Res (some (.int R.1)) R.2) 59 [(0, .ref 63), (2, .int x2), (3, .int x3), (4, .int x4), (5, .int x5), (6, .int x6)] [] S := by
  intro n
  induction n with
  | zero => intro x2 x3 x4 x5 x6 S  R hF; cases hF
  | succ n hk59 =>
    intro x2 x3 x4 x5 x6 S  R hF
    have hF : (if x2 < x6 then (F_X12_behind_103 N x4 x5 x3 S) else (gd (inb x6 20) (gd (inb x6 20) ((F_X12_behind_59 N n) x2 x3 (x4 ||| (S.2.1 68 (Int32.toNatClampNeg x6))) (x5 ||| ((S.2.1 69 (Int32.toNatClampNeg x6)) &&& (x4 ^^^ (-1)))) (x6 + 1) S)))) = some R := hF
    refine Go.iload dX12_behind_59 rfl ?_
    refine Go.iload_n dX12_behind_61 rfl ?_
    refine Go.icmpgt (tgt := 100) dX12_behind_62 (by decide) (fun h_62 => ?_) (fun h_62 => ?_)
    · have hF := ite_t h_62 hF
      refine Go.iload_n dX12_behind_100 rfl ?_
      refine Go.istore (ls' := [(6, _), (0, _), (2, _), (3, _), (4, _), (5, _)]) dX12_behind_101 (by decide) rfl ?_
      refine Go.pick (ls' := [(0, _), (4, _), (5, _), (6, _)]) [1, 4, 5, 0] rfl ?_
      exact ok_X12_behind_103 d N _ _ _ _ _ hF
    · have hF := ite_f h_62 hF
      refine Go.iload dX12_behind_65 rfl ?_
      refine Go.aload_n dX12_behind_67 rfl ?_
      refine Go.getR dX12_behind_68 fX12_25 rfl ?_
      refine Go.iload dX12_behind_71 rfl ?_
      obtain ⟨hb_73, hF⟩ := gd_some hF
      refine Go.iald dX12_behind_73 rfl (inb_ok hb_73) ?_
      refine Go.iload dX12_behind_74 rfl ?_
      refine Go.iconst (v := (-1)) dX12_behind_76 (by decide) ?_
      refine Go.ixor dX12_behind_77 ?_
      refine Go.iand dX12_behind_78 ?_
      refine Go.ior dX12_behind_79 ?_
      refine Go.istore (ls' := [(5, _), (0, _), (2, _), (3, _), (4, _), (6, _)]) dX12_behind_80 (by decide) rfl ?_
      refine Go.iload dX12_behind_82 rfl ?_
      refine Go.aload_n dX12_behind_84 rfl ?_
      refine Go.getR dX12_behind_85 fX12_22 rfl ?_
      refine Go.iload dX12_behind_88 rfl ?_
      obtain ⟨hb_90, hF⟩ := gd_some hF
      refine Go.iald dX12_behind_90 rfl (inb_ok hb_90) ?_
      refine Go.ior dX12_behind_91 ?_
      refine Go.istore (ls' := [(4, _), (5, _), (0, _), (2, _), (3, _), (6, _)]) dX12_behind_92 (by decide) rfl ?_
      refine Go.iincP (ls' := [(6, _), (4, _), (5, _), (0, _), (2, _), (3, _)]) dX12_behind_94 rfl (by decide) rfl ?_
      refine Go.goto (tgt := 59) dX12_behind_97 (by decide) ?_
      refine Go.pick (ls' := [(0, _), (2, _), (3, _), (4, _), (5, _), (6, _)]) [3, 4, 5, 1, 2, 0] rfl ?_
      exact hk59 _ _ _ _ _ _ _ hF
def F_X12_behind (N : Nat) (x1 : Int32) (S : St) : Option (Int32 × St) :=
  if x1 < 0 then (some ((-1), S)) else ((F_X12_isLine (x1 / 100) S).bind (fun r_9 => if r_9.1 = 0 then (some ((-1), r_9.2)) else ((F_X12_isLine (x1 - (x1 / 100) * 100) r_9.2).bind (fun r_20 => if r_20.1 = 0 then (some ((-1), r_20.2)) else ((F_X12_isJump (x1 / 100) (x1 - (x1 / 100) * 100) r_20.2).bind (fun r_41 => if r_41.1 = 0 then (some ((-2), r_41.2)) else (F_X12_behind_59 N N (x1 / 100) (x1 - (x1 / 100) * 100) 0 0 0 r_41.2)))))))
set_option maxHeartbeats 4000000 in
set_option maxRecDepth 100000 in
theorem ok_X12_behind {l : Launch} (d : Nat) (N : Nat) (x1 : Int32) (S : St) (R : Int32 × St) (hF : F_X12_behind N x1 S = some R) : Go l (d + 2) mX12_behind (Res (some (.int R.1)) R.2) 0 [(0, .ref 63), (1, .int x1)] [] S := by
  unfold F_X12_behind at hF
  refine Go.iload_n dX12_behind_0 rfl ?_
  refine Go.iflt (tgt := 26) dX12_behind_1 (by decide) (fun h_1 => ?_) (fun h_1 => ?_)
  · have hF := ite_t h_1 hF
    refine Go.iconst (v := (-1)) dX12_behind_26 (by decide) ?_
    obtain rfl := Option.some.inj hF
    exact Go.iret (st := []) dX12_behind_27 rfl rfl ⟨rfl, rfl⟩
  · have hF := ite_f h_1 hF
    refine Go.aload_n dX12_behind_4 rfl ?_
    refine Go.iload_n dX12_behind_5 rfl ?_
    refine Go.bipush (v := 100) dX12_behind_6 (by decide) ?_
    refine Go.idiv dX12_behind_8 (by decide) ?_
    obtain ⟨r_9, hc_9, hF⟩ := Option.bind_eq_some_iff.mp hF
    refine Go.callV [_] dX12_behind_9 kX12_isLine vX12_isLine lX12_178 rfl rfl rfl rfl rfl (Nat.le_of_ble_eq_true rfl) (Nat.le_of_ble_eq_true rfl) (ok_X12_isLine (d + 0) _ _ _ hc_9) ?_
    refine Go.ifeq (tgt := 26) dX12_behind_12 (by decide) (fun h_12 => ?_) (fun h_12 => ?_)
    · have hF := ite_t h_12 hF
      refine Go.iconst (v := (-1)) dX12_behind_26 (by decide) ?_
      obtain rfl := Option.some.inj hF
      exact Go.iret (st := []) dX12_behind_27 rfl rfl ⟨rfl, rfl⟩
    · have hF := ite_f h_12 hF
      refine Go.aload_n dX12_behind_15 rfl ?_
      refine Go.iload_n dX12_behind_16 rfl ?_
      refine Go.bipush (v := 100) dX12_behind_17 (by decide) ?_
      refine Go.irem dX12_behind_19 (by decide) ?_
      obtain ⟨r_20, hc_20, hF⟩ := Option.bind_eq_some_iff.mp hF
      refine Go.callV [_] dX12_behind_20 kX12_isLine vX12_isLine lX12_178 rfl rfl rfl rfl rfl (Nat.le_of_ble_eq_true rfl) (Nat.le_of_ble_eq_true rfl) (ok_X12_isLine (d + 0) _ _ _ hc_20) ?_
      refine Go.ifne (tgt := 28) dX12_behind_23 (by decide) (fun h_23 => ?_) (fun h_23 => ?_)
      · have hF := ite_f h_23 hF
        refine Go.iload_n dX12_behind_28 rfl ?_
        refine Go.bipush (v := 100) dX12_behind_29 (by decide) ?_
        refine Go.idiv dX12_behind_31 (by decide) ?_
        refine Go.istore_n (ls' := [(2, _), (0, _), (1, _)]) dX12_behind_32 (by decide) rfl ?_
        refine Go.iload_n dX12_behind_33 rfl ?_
        refine Go.bipush (v := 100) dX12_behind_34 (by decide) ?_
        refine Go.irem dX12_behind_36 (by decide) ?_
        refine Go.istore_n (ls' := [(3, _), (2, _), (0, _), (1, _)]) dX12_behind_37 (by decide) rfl ?_
        refine Go.aload_n dX12_behind_38 rfl ?_
        refine Go.iload_n dX12_behind_39 rfl ?_
        refine Go.iload_n dX12_behind_40 rfl ?_
        obtain ⟨r_41, hc_41, hF⟩ := Option.bind_eq_some_iff.mp hF
        refine Go.callV [_, _] dX12_behind_41 kX12_isJump vX12_isJump lX12_264 rfl rfl rfl rfl rfl (Nat.le_of_ble_eq_true rfl) (Nat.le_of_ble_eq_true rfl) (ok_X12_isJump (d + 1) _ _ _ _ hc_41) ?_
        refine Go.ifne (tgt := 50) dX12_behind_44 (by decide) (fun h_44 => ?_) (fun h_44 => ?_)
        · have hF := ite_f h_44 hF
          refine Go.iconst (v := 0) dX12_behind_50 (by decide) ?_
          refine Go.istore (ls' := [(4, _), (3, _), (2, _), (0, _), (1, _)]) dX12_behind_51 (by decide) rfl ?_
          refine Go.iconst (v := 0) dX12_behind_53 (by decide) ?_
          refine Go.istore (ls' := [(5, _), (4, _), (3, _), (2, _), (0, _), (1, _)]) dX12_behind_54 (by decide) rfl ?_
          refine Go.iconst (v := 0) dX12_behind_56 (by decide) ?_
          refine Go.istore (ls' := [(6, _), (5, _), (4, _), (3, _), (2, _), (0, _), (1, _)]) dX12_behind_57 (by decide) rfl ?_
          refine Go.pick (ls' := [(0, _), (2, _), (3, _), (4, _), (5, _), (6, _)]) [5, 4, 3, 2, 1, 0] rfl ?_
          exact ok_X12_behind_59 d N N _ _ _ _ _ _ _ hF
        · have hF := ite_t h_44 hF
          refine Go.bipush (v := (-2)) dX12_behind_47 (by decide) ?_
          obtain rfl := Option.some.inj hF
          exact Go.iret (st := []) dX12_behind_49 rfl rfl ⟨rfl, rfl⟩
      · have hF := ite_t h_23 hF
        refine Go.iconst (v := (-1)) dX12_behind_26 (by decide) ?_
        obtain rfl := Option.some.inj hF
        exact Go.iret (st := []) dX12_behind_27 rfl rfl ⟨rfl, rfl⟩
def F_X12_mayGo (x1 : Int32) (x2 : Int32) (x3 : Int32) (S : St) : Option (Int32 × St) :=
  if x2 = (x1 + 1) then (gd (inb x2 20) (if ((S.2.1 69 (Int32.toNatClampNeg x2)) &&& (x3 ^^^ (-1))) = 0 then (some (1, S)) else (some (0, S)))) else ((F_X12_isJump x1 x2 S).bind (fun r_10 => if r_10.1 = 0 then (some (0, r_10.2)) else (gd (inb x2 20) (if ((r_10.2.2.1 69 (Int32.toNatClampNeg x2)) &&& (x3 ^^^ (-1))) = 0 then (some (1, r_10.2)) else (some (0, r_10.2))))))
set_option maxHeartbeats 4000000 in
set_option maxRecDepth 100000 in
theorem ok_X12_mayGo {l : Launch} (d : Nat) (x1 : Int32) (x2 : Int32) (x3 : Int32) (S : St) (R : Int32 × St) (hF : F_X12_mayGo x1 x2 x3 S = some R) : Go l (d + 1) mX12_mayGo (Res (some (.int R.1)) R.2) 0 [(0, .ref 63), (1, .int x1), (2, .int x2), (3, .int x3)] [] S := by
  unfold F_X12_mayGo at hF
  refine Go.iload_n dX12_mayGo_0 rfl ?_
  refine Go.iload_n dX12_mayGo_1 rfl ?_
  refine Go.iconst (v := 1) dX12_mayGo_2 (by decide) ?_
  refine Go.iadd dX12_mayGo_3 ?_
  refine Go.icmpeq (tgt := 16) dX12_mayGo_4 (by decide) (fun h_4 => ?_) (fun h_4 => ?_)
  · have hF := ite_t h_4 hF
    refine Go.aload_n dX12_mayGo_16 rfl ?_
    refine Go.getR dX12_mayGo_17 fX12_25 rfl ?_
    refine Go.iload_n dX12_mayGo_20 rfl ?_
    obtain ⟨hb_21, hF⟩ := gd_some hF
    refine Go.iald dX12_mayGo_21 rfl (inb_ok hb_21) ?_
    refine Go.iload_n dX12_mayGo_22 rfl ?_
    refine Go.iconst (v := (-1)) dX12_mayGo_23 (by decide) ?_
    refine Go.ixor dX12_mayGo_24 ?_
    refine Go.iand dX12_mayGo_25 ?_
    refine Go.ifne (tgt := 33) dX12_mayGo_26 (by decide) (fun h_26 => ?_) (fun h_26 => ?_)
    · have hF := ite_f h_26 hF
      refine Go.iconst (v := 0) dX12_mayGo_33 (by decide) ?_
      obtain rfl := Option.some.inj hF
      exact Go.iret (st := []) dX12_mayGo_34 rfl rfl ⟨rfl, rfl⟩
    · have hF := ite_t h_26 hF
      refine Go.iconst (v := 1) dX12_mayGo_29 (by decide) ?_
      refine Go.goto (tgt := 34) dX12_mayGo_30 (by decide) ?_
      obtain rfl := Option.some.inj hF
      exact Go.iret (st := []) dX12_mayGo_34 rfl rfl ⟨rfl, rfl⟩
  · have hF := ite_f h_4 hF
    refine Go.aload_n dX12_mayGo_7 rfl ?_
    refine Go.iload_n dX12_mayGo_8 rfl ?_
    refine Go.iload_n dX12_mayGo_9 rfl ?_
    obtain ⟨r_10, hc_10, hF⟩ := Option.bind_eq_some_iff.mp hF
    refine Go.callV [_, _] dX12_mayGo_10 kX12_isJump vX12_isJump lX12_264 rfl rfl rfl rfl rfl (Nat.le_of_ble_eq_true rfl) (Nat.le_of_ble_eq_true rfl) (ok_X12_isJump (d + 0) _ _ _ _ hc_10) ?_
    refine Go.ifeq (tgt := 33) dX12_mayGo_13 (by decide) (fun h_13 => ?_) (fun h_13 => ?_)
    · have hF := ite_t h_13 hF
      refine Go.iconst (v := 0) dX12_mayGo_33 (by decide) ?_
      obtain rfl := Option.some.inj hF
      exact Go.iret (st := []) dX12_mayGo_34 rfl rfl ⟨rfl, rfl⟩
    · have hF := ite_f h_13 hF
      refine Go.aload_n dX12_mayGo_16 rfl ?_
      refine Go.getR dX12_mayGo_17 fX12_25 rfl ?_
      refine Go.iload_n dX12_mayGo_20 rfl ?_
      obtain ⟨hb_21, hF⟩ := gd_some hF
      refine Go.iald dX12_mayGo_21 rfl (inb_ok hb_21) ?_
      refine Go.iload_n dX12_mayGo_22 rfl ?_
      refine Go.iconst (v := (-1)) dX12_mayGo_23 (by decide) ?_
      refine Go.ixor dX12_mayGo_24 ?_
      refine Go.iand dX12_mayGo_25 ?_
      refine Go.ifne (tgt := 33) dX12_mayGo_26 (by decide) (fun h_26 => ?_) (fun h_26 => ?_)
      · have hF := ite_f h_26 hF
        refine Go.iconst (v := 0) dX12_mayGo_33 (by decide) ?_
        obtain rfl := Option.some.inj hF
        exact Go.iret (st := []) dX12_mayGo_34 rfl rfl ⟨rfl, rfl⟩
      · have hF := ite_t h_26 hF
        refine Go.iconst (v := 1) dX12_mayGo_29 (by decide) ?_
        refine Go.goto (tgt := 34) dX12_mayGo_30 (by decide) ?_
        obtain rfl := Option.some.inj hF
        exact Go.iret (st := []) dX12_mayGo_34 rfl rfl ⟨rfl, rfl⟩
def F_X12_moreBy_8 : Nat → Int32 → Int32 → Int32 → Int32 → Int32 → St → Option (Int32 × St)
  | 0 => fun _ _ _ _ _ _ => none
  | n + 1 => fun x1 x2 x3 x4 x5 S =>
    if (S.1 63 1) ≤ x5 then (some (x4, S)) else ((F_X12_mayGo x1 x5 x2 S).bind (fun r_22 => if r_22.1 = 0 then ((F_X12_moreBy_8 n) x1 x2 x3 x4 (x5 + 1) r_22.2) else (if x5 = x3 then (if x4 ≤ (1 : Int32) then ((F_X12_moreBy_8 n) x1 x2 x3 x4 (x5 + 1) r_22.2) else ((F_X12_moreBy_8 n) x1 x2 x3 1 (x5 + 1) r_22.2)) else (gd (inb x5 20) (gd (inb ((256 * x5) + (x2 ||| (r_22.2.2.1 68 (Int32.toNatClampNeg x5)))) 5120) (if x4 ≤ (1 + (r_22.2.2.1 85 (Int32.toNatClampNeg ((256 * x5) + (x2 ||| (r_22.2.2.1 68 (Int32.toNatClampNeg x5))))))) then ((F_X12_moreBy_8 n) x1 x2 x3 x4 (x5 + 1) r_22.2) else ((F_X12_moreBy_8 n) x1 x2 x3 (1 + (r_22.2.2.1 85 (Int32.toNatClampNeg ((256 * x5) + (x2 ||| (r_22.2.2.1 68 (Int32.toNatClampNeg x5))))))) (x5 + 1) r_22.2)))))))
set_option maxHeartbeats 4000000 in
set_option maxRecDepth 100000 in
theorem ok_X12_moreBy_8 {l : Launch} (d : Nat) : ∀ (n : Nat) (x1 : Int32) (x2 : Int32) (x3 : Int32) (x4 : Int32) (x5 : Int32) (S : St) (R : Int32 × St), F_X12_moreBy_8 n x1 x2 x3 x4 x5 S = some R → Go l (d + 2) mX12_moreBy (Res (some (.int R.1)) R.2) 8 [(0, .ref 63), (1, .int x1), (2, .int x2), (3, .int x3), (4, .int x4), (5, .int x5)] [] S := by
  intro n
  induction n with
  | zero => intro x1 x2 x3 x4 x5 S  R hF; cases hF
  | succ n hk8 =>
    intro x1 x2 x3 x4 x5 S  R hF
    have hF : (if (S.1 63 1) ≤ x5 then (some (x4, S)) else ((F_X12_mayGo x1 x5 x2 S).bind (fun r_22 => if r_22.1 = 0 then ((F_X12_moreBy_8 n) x1 x2 x3 x4 (x5 + 1) r_22.2) else (if x5 = x3 then (if x4 ≤ (1 : Int32) then ((F_X12_moreBy_8 n) x1 x2 x3 x4 (x5 + 1) r_22.2) else ((F_X12_moreBy_8 n) x1 x2 x3 1 (x5 + 1) r_22.2)) else (gd (inb x5 20) (gd (inb ((256 * x5) + (x2 ||| (r_22.2.2.1 68 (Int32.toNatClampNeg x5)))) 5120) (if x4 ≤ (1 + (r_22.2.2.1 85 (Int32.toNatClampNeg ((256 * x5) + (x2 ||| (r_22.2.2.1 68 (Int32.toNatClampNeg x5))))))) then ((F_X12_moreBy_8 n) x1 x2 x3 x4 (x5 + 1) r_22.2) else ((F_X12_moreBy_8 n) x1 x2 x3 (1 + (r_22.2.2.1 85 (Int32.toNatClampNeg ((256 * x5) + (x2 ||| (r_22.2.2.1 68 (Int32.toNatClampNeg x5))))))) (x5 + 1) r_22.2)))))))) = some R := hF
    refine Go.iload dX12_moreBy_8 rfl ?_
    refine Go.aload_n dX12_moreBy_10 rfl ?_
    refine Go.getI dX12_moreBy_11 fX12_141 rfl ?_
    refine Go.icmpge (tgt := 83) dX12_moreBy_14 (by decide) (fun h_14 => ?_) (fun h_14 => ?_)
    · have hF := ite_t h_14 hF
      refine Go.iload dX12_moreBy_83 rfl ?_
      obtain rfl := Option.some.inj hF
      exact Go.iret (st := []) dX12_moreBy_85 rfl rfl ⟨rfl, rfl⟩
    · have hF := ite_f h_14 hF
      refine Go.aload_n dX12_moreBy_17 rfl ?_
      refine Go.iload_n dX12_moreBy_18 rfl ?_
      refine Go.iload dX12_moreBy_19 rfl ?_
      refine Go.iload_n dX12_moreBy_21 rfl ?_
      obtain ⟨r_22, hc_22, hF⟩ := Option.bind_eq_some_iff.mp hF
      refine Go.callV [_, _, _] dX12_moreBy_22 kX12_mayGo vX12_mayGo lX12_281 rfl rfl rfl rfl rfl (Nat.le_of_ble_eq_true rfl) (Nat.le_of_ble_eq_true rfl) (ok_X12_mayGo (d + 0) _ _ _ _ _ hc_22) ?_
      refine Go.ifne (tgt := 31) dX12_moreBy_25 (by decide) (fun h_25 => ?_) (fun h_25 => ?_)
      · have hF := ite_f h_25 hF
        refine Go.iload dX12_moreBy_31 rfl ?_
        refine Go.iload_n dX12_moreBy_33 rfl ?_
        refine Go.icmpne (tgt := 41) dX12_moreBy_34 (by decide) (fun h_34 => ?_) (fun h_34 => ?_)
        · have hF := ite_f h_34 hF
          refine Go.iconst (v := 1) dX12_moreBy_41 (by decide) ?_
          refine Go.aload_n dX12_moreBy_42 rfl ?_
          refine Go.getR dX12_moreBy_43 fX12_80 rfl ?_
          refine Go.sipush (v := 256) dX12_moreBy_46 (by decide) ?_
          refine Go.iload dX12_moreBy_49 rfl ?_
          refine Go.imul dX12_moreBy_51 ?_
          refine Go.iload_n dX12_moreBy_52 rfl ?_
          refine Go.aload_n dX12_moreBy_53 rfl ?_
          refine Go.getR dX12_moreBy_54 fX12_22 rfl ?_
          refine Go.iload dX12_moreBy_57 rfl ?_
          obtain ⟨hb_59, hF⟩ := gd_some hF
          refine Go.iald dX12_moreBy_59 rfl (inb_ok hb_59) ?_
          refine Go.ior dX12_moreBy_60 ?_
          refine Go.iadd dX12_moreBy_61 ?_
          obtain ⟨hb_62, hF⟩ := gd_some hF
          refine Go.iald dX12_moreBy_62 rfl (inb_ok hb_62) ?_
          refine Go.iadd dX12_moreBy_63 ?_
          refine Go.istore (ls' := [(6, _), (0, _), (1, _), (2, _), (3, _), (4, _), (5, _)]) dX12_moreBy_64 (by decide) rfl ?_
          refine Go.iload dX12_moreBy_66 rfl ?_
          refine Go.iload dX12_moreBy_68 rfl ?_
          refine Go.icmpge (tgt := 77) dX12_moreBy_70 (by decide) (fun h_70 => ?_) (fun h_70 => ?_)
          · have hF := ite_t h_70 hF
            refine Go.iincP (ls' := [(5, _), (6, _), (0, _), (1, _), (2, _), (3, _), (4, _)]) dX12_moreBy_77 rfl (by decide) rfl ?_
            refine Go.goto (tgt := 8) dX12_moreBy_80 (by decide) ?_
            refine Go.pick (ls' := [(0, _), (1, _), (2, _), (3, _), (4, _), (5, _)]) [2, 3, 4, 5, 6, 0] rfl ?_
            exact hk8 _ _ _ _ _ _ _ hF
          · have hF := ite_f h_70 hF
            refine Go.iload dX12_moreBy_73 rfl ?_
            refine Go.istore (ls' := [(4, _), (6, _), (0, _), (1, _), (2, _), (3, _), (5, _)]) dX12_moreBy_75 (by decide) rfl ?_
            refine Go.iincP (ls' := [(5, _), (4, _), (6, _), (0, _), (1, _), (2, _), (3, _)]) dX12_moreBy_77 rfl (by decide) rfl ?_
            refine Go.goto (tgt := 8) dX12_moreBy_80 (by decide) ?_
            refine Go.pick (ls' := [(0, _), (1, _), (2, _), (3, _), (4, _), (5, _)]) [3, 4, 5, 6, 1, 0] rfl ?_
            exact hk8 _ _ _ _ _ _ _ hF
        · have hF := ite_t h_34 hF
          refine Go.iconst (v := 1) dX12_moreBy_37 (by decide) ?_
          refine Go.goto (tgt := 64) dX12_moreBy_38 (by decide) ?_
          refine Go.istore (ls' := [(6, _), (0, _), (1, _), (2, _), (3, _), (4, _), (5, _)]) dX12_moreBy_64 (by decide) rfl ?_
          refine Go.iload dX12_moreBy_66 rfl ?_
          refine Go.iload dX12_moreBy_68 rfl ?_
          refine Go.icmpge (tgt := 77) dX12_moreBy_70 (by decide) (fun h_70 => ?_) (fun h_70 => ?_)
          · have hF := ite_t h_70 hF
            refine Go.iincP (ls' := [(5, _), (6, _), (0, _), (1, _), (2, _), (3, _), (4, _)]) dX12_moreBy_77 rfl (by decide) rfl ?_
            refine Go.goto (tgt := 8) dX12_moreBy_80 (by decide) ?_
            refine Go.pick (ls' := [(0, _), (1, _), (2, _), (3, _), (4, _), (5, _)]) [2, 3, 4, 5, 6, 0] rfl ?_
            exact hk8 _ _ _ _ _ _ _ hF
          · have hF := ite_f h_70 hF
            refine Go.iload dX12_moreBy_73 rfl ?_
            refine Go.istore (ls' := [(4, _), (6, _), (0, _), (1, _), (2, _), (3, _), (5, _)]) dX12_moreBy_75 (by decide) rfl ?_
            refine Go.iincP (ls' := [(5, _), (4, _), (6, _), (0, _), (1, _), (2, _), (3, _)]) dX12_moreBy_77 rfl (by decide) rfl ?_
            refine Go.goto (tgt := 8) dX12_moreBy_80 (by decide) ?_
            refine Go.pick (ls' := [(0, _), (1, _), (2, _), (3, _), (4, _), (5, _)]) [3, 4, 5, 6, 1, 0] rfl ?_
            exact hk8 _ _ _ _ _ _ _ hF
      · have hF := ite_t h_25 hF
        refine Go.goto (tgt := 77) dX12_moreBy_28 (by decide) ?_
        refine Go.iincP (ls' := [(5, _), (0, _), (1, _), (2, _), (3, _), (4, _)]) dX12_moreBy_77 rfl (by decide) rfl ?_
        refine Go.goto (tgt := 8) dX12_moreBy_80 (by decide) ?_
        refine Go.pick (ls' := [(0, _), (1, _), (2, _), (3, _), (4, _), (5, _)]) [1, 2, 3, 4, 5, 0] rfl ?_
        exact hk8 _ _ _ _ _ _ _ hF
def F_X12_moreBy (N : Nat) (x1 : Int32) (x2 : Int32) (x3 : Int32) (S : St) : Option (Int32 × St) :=
  F_X12_moreBy_8 N x1 x2 x3 100000 0 S
set_option maxHeartbeats 4000000 in
set_option maxRecDepth 100000 in
theorem ok_X12_moreBy {l : Launch} (d : Nat) (N : Nat) (x1 : Int32) (x2 : Int32) (x3 : Int32) (S : St) (R : Int32 × St) (hF : F_X12_moreBy N x1 x2 x3 S = some R) : Go l (d + 2) mX12_moreBy (Res (some (.int R.1)) R.2) 0 [(0, .ref 63), (1, .int x1), (2, .int x2), (3, .int x3)] [] S := by
  unfold F_X12_moreBy at hF
  refine Go.ldc_w dX12_moreBy_0 qX12_280 ?_
  refine Go.istore (ls' := [(4, _), (0, _), (1, _), (2, _), (3, _)]) dX12_moreBy_3 (by decide) rfl ?_
  refine Go.iconst (v := 0) dX12_moreBy_5 (by decide) ?_
  refine Go.istore (ls' := [(5, _), (4, _), (0, _), (1, _), (2, _), (3, _)]) dX12_moreBy_6 (by decide) rfl ?_
  refine Go.pick (ls' := [(0, _), (1, _), (2, _), (3, _), (4, _), (5, _)]) [2, 3, 4, 5, 1, 0] rfl ?_
  exact ok_X12_moreBy_8 d N _ _ _ _ _ _ _ hF
def F_X12_findWays_45 (N : Nat) (k34 : Int32 → Int32 → Int32 → St → Option (St)) : Nat → Int32 → Int32 → Int32 → Int32 → St → Option (St)
  | 0 => fun _ _ _ _ _ => none
  | n + 1 => fun x1 x2 x3 x4 S =>
    if 256 ≤ x4 then (k34 x1 x2 (x3 + 1) S) else ((F_X12_moreBy N x3 x4 x1 S).bind (fun r_58 => gd (inb ((256 * x3) + x4) 5120) (if r_58.1 < (r_58.2.2.1 85 (Int32.toNatClampNeg ((256 * x3) + x4))) then (gd (inb ((256 * x3) + x4) 5120) (let S98 := aset r_58.2 85 (upd (r_58.2.2.1 85) (Int32.toNatClampNeg ((256 * x3) + x4)) r_58.1); (F_X12_findWays_45 N k34 n) x1 1 x3 (x4 + 1) S98)) else ((F_X12_findWays_45 N k34 n) x1 x2 x3 (x4 + 1) r_58.2))))
set_option maxHeartbeats 4000000 in
set_option maxRecDepth 100000 in
theorem ok_X12_findWays_45 {l : Launch} (d : Nat) (N : Nat) (k34 : Int32 → Int32 → Int32 → St → Option (St)) (hk34 : ∀ (x1 : Int32) (x2 : Int32) (x3 : Int32) (S : St) (R : St), k34 x1 x2 x3 S = some R → Go l (d + 3) mX12_findWays (Res none R) 34 [(0, .ref 63), (1, .int x1), (2, .int x2), (3, .int x3)] [] S) : ∀ (n : Nat) (x1 : Int32) (x2 : Int32) (x3 : Int32) (x4 : Int32) (S : St) (R : St), F_X12_findWays_45 N k34 n x1 x2 x3 x4 S = some R → Go l (d + 3) mX12_findWays (Res none R) 45 [(0, .ref 63), (1, .int x1), (2, .int x2), (3, .int x3), (4, .int x4)] [] S := by
  intro n
  induction n with
  | zero => intro x1 x2 x3 x4 S  R hF; cases hF
  | succ n hk45 =>
    intro x1 x2 x3 x4 S  R hF
    have hF : (if 256 ≤ x4 then (k34 x1 x2 (x3 + 1) S) else ((F_X12_moreBy N x3 x4 x1 S).bind (fun r_58 => gd (inb ((256 * x3) + x4) 5120) (if r_58.1 < (r_58.2.2.1 85 (Int32.toNatClampNeg ((256 * x3) + x4))) then (gd (inb ((256 * x3) + x4) 5120) (let S98 := aset r_58.2 85 (upd (r_58.2.2.1 85) (Int32.toNatClampNeg ((256 * x3) + x4)) r_58.1); (F_X12_findWays_45 N k34 n) x1 1 x3 (x4 + 1) S98)) else ((F_X12_findWays_45 N k34 n) x1 x2 x3 (x4 + 1) r_58.2))))) = some R := hF
    refine Go.iload dX12_findWays_45 rfl ?_
    refine Go.sipush (v := 256) dX12_findWays_47 (by decide) ?_
    refine Go.icmpge (tgt := 107) dX12_findWays_50 (by decide) (fun h_50 => ?_) (fun h_50 => ?_)
    · have hF := ite_t h_50 hF
      refine Go.iincP (ls' := [(3, _), (0, _), (1, _), (2, _), (4, _)]) dX12_findWays_107 rfl (by decide) rfl ?_
      refine Go.goto (tgt := 34) dX12_findWays_110 (by decide) ?_
      refine Go.pick (ls' := [(0, _), (1, _), (2, _), (3, _)]) [1, 2, 3, 0] rfl ?_
      exact hk34 _ _ _ _ _ hF
    · have hF := ite_f h_50 hF
      refine Go.aload_n dX12_findWays_53 rfl ?_
      refine Go.iload_n dX12_findWays_54 rfl ?_
      refine Go.iload dX12_findWays_55 rfl ?_
      refine Go.iload_n dX12_findWays_57 rfl ?_
      obtain ⟨r_58, hc_58, hF⟩ := Option.bind_eq_some_iff.mp hF
      refine Go.callV [_, _, _] dX12_findWays_58 kX12_moreBy vX12_moreBy lX12_284 rfl rfl rfl rfl rfl (Nat.le_of_ble_eq_true rfl) (Nat.le_of_ble_eq_true rfl) (ok_X12_moreBy (d + 0) N _ _ _ _ _ hc_58) ?_
      refine Go.istore (ls' := [(5, _), (0, _), (1, _), (2, _), (3, _), (4, _)]) dX12_findWays_61 (by decide) rfl ?_
      refine Go.iload dX12_findWays_63 rfl ?_
      refine Go.aload_n dX12_findWays_65 rfl ?_
      refine Go.getR dX12_findWays_66 fX12_80 rfl ?_
      refine Go.sipush (v := 256) dX12_findWays_69 (by decide) ?_
      refine Go.iload_n dX12_findWays_72 rfl ?_
      refine Go.imul dX12_findWays_73 ?_
      refine Go.iload dX12_findWays_74 rfl ?_
      refine Go.iadd dX12_findWays_76 ?_
      obtain ⟨hb_77, hF⟩ := gd_some hF
      refine Go.iald dX12_findWays_77 rfl (inb_ok hb_77) ?_
      refine Go.icmplt (tgt := 84) dX12_findWays_78 (by decide) (fun h_78 => ?_) (fun h_78 => ?_)
      · have hF := ite_t h_78 hF
        refine Go.aload_n dX12_findWays_84 rfl ?_
        refine Go.getR dX12_findWays_85 fX12_80 rfl ?_
        refine Go.sipush (v := 256) dX12_findWays_88 (by decide) ?_
        refine Go.iload_n dX12_findWays_91 rfl ?_
        refine Go.imul dX12_findWays_92 ?_
        refine Go.iload dX12_findWays_93 rfl ?_
        refine Go.iadd dX12_findWays_95 ?_
        refine Go.iload dX12_findWays_96 rfl ?_
        obtain ⟨hb_98, hF⟩ := gd_some hF
        refine Go.iast dX12_findWays_98 rfl (inb_ok hb_98) ?_
        refine Go.iconst (v := 1) dX12_findWays_99 (by decide) ?_
        refine Go.istore_n (ls' := [(2, _), (5, _), (0, _), (1, _), (3, _), (4, _)]) dX12_findWays_100 (by decide) rfl ?_
        refine Go.iincP (ls' := [(4, _), (2, _), (5, _), (0, _), (1, _), (3, _)]) dX12_findWays_101 rfl (by decide) rfl ?_
        refine Go.goto (tgt := 45) dX12_findWays_104 (by decide) ?_
        refine Go.pick (ls' := [(0, _), (1, _), (2, _), (3, _), (4, _)]) [3, 4, 1, 5, 0] rfl ?_
        exact hk45 _ _ _ _ _ _ hF
      · have hF := ite_f h_78 hF
        refine Go.goto (tgt := 101) dX12_findWays_81 (by decide) ?_
        refine Go.iincP (ls' := [(4, _), (5, _), (0, _), (1, _), (2, _), (3, _)]) dX12_findWays_101 rfl (by decide) rfl ?_
        refine Go.goto (tgt := 45) dX12_findWays_104 (by decide) ?_
        refine Go.pick (ls' := [(0, _), (1, _), (2, _), (3, _), (4, _)]) [2, 3, 4, 5, 0] rfl ?_
        exact hk45 _ _ _ _ _ _ hF
def F_X12_findWays_34 (N : Nat) (k26 : Int32 → Int32 → St → Option (St)) : Nat → Int32 → Int32 → Int32 → St → Option (St)
  | 0 => fun _ _ _ _ => none
  | n + 1 => fun x1 x2 x3 S =>
    if (S.1 63 1) ≤ x3 then (k26 x1 x2 S) else (F_X12_findWays_45 N (F_X12_findWays_34 N k26 n) N x1 x2 x3 0 S)
set_option maxHeartbeats 4000000 in
set_option maxRecDepth 100000 in
theorem ok_X12_findWays_34 {l : Launch} (d : Nat) (N : Nat) (k26 : Int32 → Int32 → St → Option (St)) (hk26 : ∀ (x1 : Int32) (x2 : Int32) (S : St) (R : St), k26 x1 x2 S = some R → Go l (d + 3) mX12_findWays (Res none R) 26 [(0, .ref 63), (1, .int x1), (2, .int x2)] [] S) : ∀ (n : Nat) (x1 : Int32) (x2 : Int32) (x3 : Int32) (S : St) (R : St), F_X12_findWays_34 N k26 n x1 x2 x3 S = some R → Go l (d + 3) mX12_findWays (Res none R) 34 [(0, .ref 63), (1, .int x1), (2, .int x2), (3, .int x3)] [] S := by
  intro n
  induction n with
  | zero => intro x1 x2 x3 S  R hF; cases hF
  | succ n hk34 =>
    intro x1 x2 x3 S  R hF
    have hF : (if (S.1 63 1) ≤ x3 then (k26 x1 x2 S) else (F_X12_findWays_45 N (F_X12_findWays_34 N k26 n) N x1 x2 x3 0 S)) = some R := hF
    refine Go.iload_n dX12_findWays_34 rfl ?_
    refine Go.aload_n dX12_findWays_35 rfl ?_
    refine Go.getI dX12_findWays_36 fX12_141 rfl ?_
    refine Go.icmpge (tgt := 113) dX12_findWays_39 (by decide) (fun h_39 => ?_) (fun h_39 => ?_)
    · have hF := ite_t h_39 hF
      refine Go.goto (tgt := 26) dX12_findWays_113 (by decide) ?_
      refine Go.pick (ls' := [(0, _), (1, _), (2, _)]) [0, 1, 2] rfl ?_
      exact hk26 _ _ _ _ hF
    · have hF := ite_f h_39 hF
      refine Go.iconst (v := 0) dX12_findWays_42 (by decide) ?_
      refine Go.istore (ls' := [(4, _), (0, _), (1, _), (2, _), (3, _)]) dX12_findWays_43 (by decide) rfl ?_
      refine Go.pick (ls' := [(0, _), (1, _), (2, _), (3, _), (4, _)]) [1, 2, 3, 4, 0] rfl ?_
      exact ok_X12_findWays_45 d N (F_X12_findWays_34 N k26 n) hk34 N _ _ _ _ _ _ hF
def F_X12_findWays_26 (N : Nat) : Nat → Int32 → Int32 → St → Option (St)
  | 0 => fun _ _ _ => none
  | n + 1 => fun x1 x2 S =>
    if x2 = 0 then (some S) else (F_X12_findWays_34 N (F_X12_findWays_26 N n) N x1 0 0 S)
set_option maxHeartbeats 4000000 in
set_option maxRecDepth 100000 in
theorem ok_X12_findWays_26 {l : Launch} (d : Nat) (N : Nat) : ∀ (n : Nat) (x1 : Int32) (x2 : Int32) (S : St) (R : St), F_X12_findWays_26 N n x1 x2 S = some R → Go l (d + 3) mX12_findWays (Res none R) 26 [(0, .ref 63), (1, .int x1), (2, .int x2)] [] S := by
  intro n
  induction n with
  | zero => intro x1 x2 S  R hF; cases hF
  | succ n hk26 =>
    intro x1 x2 S  R hF
    have hF : (if x2 = 0 then (some S) else (F_X12_findWays_34 N (F_X12_findWays_26 N n) N x1 0 0 S)) = some R := hF
    refine Go.iload_n dX12_findWays_26 rfl ?_
    refine Go.ifeq (tgt := 116) dX12_findWays_27 (by decide) (fun h_27 => ?_) (fun h_27 => ?_)
    · have hF := ite_t h_27 hF
      obtain rfl := Option.some.inj hF
      exact Go.vret (st := []) dX12_findWays_116 rfl ⟨rfl, rfl⟩
    · have hF := ite_f h_27 hF
      refine Go.iconst (v := 0) dX12_findWays_30 (by decide) ?_
      refine Go.istore_n (ls' := [(2, _), (0, _), (1, _)]) dX12_findWays_31 (by decide) rfl ?_
      refine Go.iconst (v := 0) dX12_findWays_32 (by decide) ?_
      refine Go.istore_n (ls' := [(3, _), (2, _), (0, _), (1, _)]) dX12_findWays_33 (by decide) rfl ?_
      refine Go.pick (ls' := [(0, _), (1, _), (2, _), (3, _)]) [2, 3, 1, 0] rfl ?_
      exact ok_X12_findWays_34 d N (F_X12_findWays_26 N n) hk26 N _ _ _ _ _ hF
def F_X12_findWays_2 (N : Nat) : Nat → Int32 → Int32 → St → Option (St)
  | 0 => fun _ _ _ => none
  | n + 1 => fun x1 x2 S =>
    if 5120 ≤ x2 then (F_X12_findWays_26 N N x1 1 S) else (gd (inb x2 5120) (let S17 := aset S 85 (upd (S.2.1 85) (Int32.toNatClampNeg x2) (100000 : Int32)); (F_X12_findWays_2 N n) x1 (x2 + 1) S17))
set_option maxHeartbeats 4000000 in
set_option maxRecDepth 100000 in
theorem ok_X12_findWays_2 {l : Launch} (d : Nat) (N : Nat) : ∀ (n : Nat) (x1 : Int32) (x2 : Int32) (S : St) (R : St), F_X12_findWays_2 N n x1 x2 S = some R → Go l (d + 3) mX12_findWays (Res none R) 2 [(0, .ref 63), (1, .int x1), (2, .int x2)] [] S := by
  intro n
  induction n with
  | zero => intro x1 x2 S  R hF; cases hF
  | succ n hk2 =>
    intro x1 x2 S  R hF
    have hF : (if 5120 ≤ x2 then (F_X12_findWays_26 N N x1 1 S) else (gd (inb x2 5120) (let S17 := aset S 85 (upd (S.2.1 85) (Int32.toNatClampNeg x2) (100000 : Int32)); (F_X12_findWays_2 N n) x1 (x2 + 1) S17))) = some R := hF
    refine Go.iload_n dX12_findWays_2 rfl ?_
    refine Go.sipush (v := 5120) dX12_findWays_3 (by decide) ?_
    refine Go.icmpge (tgt := 24) dX12_findWays_6 (by decide) (fun h_6 => ?_) (fun h_6 => ?_)
    · have hF := ite_t h_6 hF
      refine Go.iconst (v := 1) dX12_findWays_24 (by decide) ?_
      refine Go.istore_n (ls' := [(2, _), (0, _), (1, _)]) dX12_findWays_25 (by decide) rfl ?_
      refine Go.pick (ls' := [(0, _), (1, _), (2, _)]) [1, 2, 0] rfl ?_
      exact ok_X12_findWays_26 d N N _ _ _ _ hF
    · have hF := ite_f h_6 hF
      refine Go.aload_n dX12_findWays_9 rfl ?_
      refine Go.getR dX12_findWays_10 fX12_80 rfl ?_
      refine Go.iload_n dX12_findWays_13 rfl ?_
      refine Go.ldc_w dX12_findWays_14 qX12_280 ?_
      obtain ⟨hb_17, hF⟩ := gd_some hF
      refine Go.iast dX12_findWays_17 rfl (inb_ok hb_17) ?_
      refine Go.iincP (ls' := [(2, _), (0, _), (1, _)]) dX12_findWays_18 rfl (by decide) rfl ?_
      refine Go.goto (tgt := 2) dX12_findWays_21 (by decide) ?_
      refine Go.pick (ls' := [(0, _), (1, _), (2, _)]) [1, 2, 0] rfl ?_
      exact hk2 _ _ _ _ hF
def F_X12_findWays (N : Nat) (x1 : Int32) (S : St) : Option (St) :=
  F_X12_findWays_2 N N x1 0 S
set_option maxHeartbeats 4000000 in
set_option maxRecDepth 100000 in
theorem ok_X12_findWays {l : Launch} (d : Nat) (N : Nat) (x1 : Int32) (S : St) (R : St) (hF : F_X12_findWays N x1 S = some R) : Go l (d + 3) mX12_findWays (Res none R) 0 [(0, .ref 63), (1, .int x1)] [] S := by
  unfold F_X12_findWays at hF
  refine Go.iconst (v := 0) dX12_findWays_0 (by decide) ?_
  refine Go.istore_n (ls' := [(2, _), (0, _), (1, _)]) dX12_findWays_1 (by decide) rfl ?_
  refine Go.pick (ls' := [(0, _), (1, _), (2, _)]) [1, 2, 0] rfl ?_
  exact ok_X12_findWays_2 d N N _ _ _ _ hF
