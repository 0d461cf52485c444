def F_X12_product_38 (r : St → Option (St)) (k4 : St → Option (St)) (S : St) : Option (St) :=
  (F_X12_look S).bind (fun r_39 => let S50 := fset r_39.2 63 20 ((r_39.2.1 63 20) + 1); (r S50).bind (fun r_54 => (F_X12_addStep r_39.1 (0 : Int32) r_54).bind (fun r_60 => k4 r_60)))
set_option maxHeartbeats 4000000 in
set_option maxRecDepth 100000 in
theorem ok_X12_product_38 {l : Launch} (d : Nat) (r : St → Option (St)) (hr : ∀ (S : St) (R : St), r  S = some R → Go l (d + 0) mX12_operand (Res none R) 0 [(0, .ref 63)] [] S) (k4 : St → Option (St)) (hk4 : ∀ (S : St) (R : St), k4  S = some R → Go l (d + 1) mX12_product (Res none R) 4 [(0, .ref 63)] [] S) (S : St) (R : St) (hF : F_X12_product_38 r k4 S = some R) : Go l (d + 1) mX12_product (Res none R) 38 [(0, .ref 63)] [] S := by
  unfold F_X12_product_38 at hF
  refine Go.aload_n dX12_product_38 rfl ?_
  obtain ⟨r_39, hc_39, hF⟩ := Option.bind_eq_some_iff.mp hF
  refine Go.callV [] dX12_product_39 kX12_look vX12_look lX12_203 rfl rfl rfl rfl rfl (Nat.le_of_ble_eq_true rfl) (Nat.le_of_ble_eq_true rfl) (ok_X12_look (d + 0) _ _ hc_39) ?_
  refine Go.istore_n (ls' := [(1, _), (0, _)]) dX12_product_42 (by decide) rfl ?_
  refine Go.aload_n dX12_product_43 rfl ?_
  refine Go.dup dX12_product_44 rfl ?_
  refine Go.getI dX12_product_45 fX12_188 rfl ?_
  refine Go.iconst (v := 1) dX12_product_48 (by decide) ?_
  refine Go.iadd dX12_product_49 ?_
  refine Go.putI dX12_product_50 fX12_188 rfl ?_
  refine Go.aload_n dX12_product_53 rfl ?_
  obtain ⟨r_54, hc_54, hF⟩ := Option.bind_eq_some_iff.mp hF
  refine Go.callV [] dX12_product_54 kX12_operand vX12_operand lX12_219 rfl rfl rfl rfl rfl (Nat.le_of_ble_eq_true rfl) (Nat.le_of_ble_eq_true rfl) (Go.deep (by omega) (hr _ _ hc_54)) ?_
  refine Go.aload_n dX12_product_57 rfl ?_
  refine Go.iload_n dX12_product_58 rfl ?_
  refine Go.iconst (v := 0) dX12_product_59 (by decide) ?_
  obtain ⟨r_60, hc_60, hF⟩ := Option.bind_eq_some_iff.mp hF
  refine Go.callV [_, _] dX12_product_60 kX12_addStep vX12_addStep lX12_207 rfl rfl rfl rfl rfl (Nat.le_of_ble_eq_true rfl) (Nat.le_of_ble_eq_true rfl) (ok_X12_addStep (d + 0) _ _ _ _ hc_60) ?_
  refine Go.goto (tgt := 4) dX12_product_63 (by decide) ?_
  refine Go.pick (ls' := [(0, _)]) [1] rfl ?_
  exact hk4 _ _ hF
def F_X12_product_4 (r : St → Option (St)) : Nat → St → Option (St)
  | 0 => fun _ => none
  | n + 1 => fun  S =>
    if 0 ≤ (S.1 63 21) then (some S) else ((F_X12_look S).bind (fun r_12 => if r_12.1 = 42 then (F_X12_product_38 r (F_X12_product_4 r n) r_12.2) else ((F_X12_look r_12.2).bind (fun r_21 => if r_21.1 = 47 then (F_X12_product_38 r (F_X12_product_4 r n) r_21.2) else ((F_X12_look r_21.2).bind (fun r_30 => if r_30.1 = 37 then (F_X12_product_38 r (F_X12_product_4 r n) r_30.2) else (some r_30.2)))))))
set_option maxHeartbeats 4000000 in
set_option maxRecDepth 100000 in
theorem ok_X12_product_4 {l : Launch} (d : Nat) (r : St → Option (St)) (hr : ∀ (S : St) (R : St), r  S = some R → Go l (d + 0) mX12_operand (Res none R) 0 [(0, .ref 63)] [] S) : ∀ (n : Nat) (S : St) (R : St), F_X12_product_4 r n  S = some R → Go l (d + 1) mX12_product (Res none R) 4 [(0, .ref 63)] [] S := by
  intro n
  induction n with
  | zero => intro  S  R hF; cases hF
  | succ n hk4 =>
    intro  S  R hF
    have hF : (if 0 ≤ (S.1 63 21) then (some S) else ((F_X12_look S).bind (fun r_12 => if r_12.1 = 42 then (F_X12_product_38 r (F_X12_product_4 r n) r_12.2) else ((F_X12_look r_12.2).bind (fun r_21 => if r_21.1 = 47 then (F_X12_product_38 r (F_X12_product_4 r n) r_21.2) else ((F_X12_look r_21.2).bind (fun r_30 => if r_30.1 = 37 then (F_X12_product_38 r (F_X12_product_4 r n) r_30.2) else (some r_30.2)))))))) = some R := hF
    refine Go.aload_n dX12_product_4 rfl ?_
    refine Go.getI dX12_product_5 fX12_191 rfl ?_
    refine Go.ifge (tgt := 66) dX12_product_8 (by decide) (fun h_8 => ?_) (fun h_8 => ?_)
    · have hF := ite_t h_8 hF
      obtain rfl := Option.some.inj hF
      exact Go.vret (st := []) dX12_product_66 rfl ⟨rfl, rfl⟩
    · have hF := ite_f h_8 hF
      refine Go.aload_n dX12_product_11 rfl ?_
      obtain ⟨r_12, hc_12, hF⟩ := Option.bind_eq_some_iff.mp hF
      refine Go.callV [] dX12_product_12 kX12_look vX12_look lX12_203 rfl rfl rfl rfl rfl (Nat.le_of_ble_eq_true rfl) (Nat.le_of_ble_eq_true rfl) (ok_X12_look (d + 0) _ _ hc_12) ?_
      refine Go.bipush (v := 42) dX12_product_15 (by decide) ?_
      refine Go.icmpeq (tgt := 38) dX12_product_17 (by decide) (fun h_17 => ?_) (fun h_17 => ?_)
      · have hF := ite_t h_17 hF
        refine Go.pick (ls' := [(0, _)]) [0] rfl ?_
        exact ok_X12_product_38 d r hr (F_X12_product_4 r n) hk4 _ _ hF
      · have hF := ite_f h_17 hF
        refine Go.aload_n dX12_product_20 rfl ?_
        obtain ⟨r_21, hc_21, hF⟩ := Option.bind_eq_some_iff.mp hF
        refine Go.callV [] dX12_product_21 kX12_look vX12_look lX12_203 rfl rfl rfl rfl rfl (Nat.le_of_ble_eq_true rfl) (Nat.le_of_ble_eq_true rfl) (ok_X12_look (d + 0) _ _ hc_21) ?_
        refine Go.bipush (v := 47) dX12_product_24 (by decide) ?_
        refine Go.icmpeq (tgt := 38) dX12_product_26 (by decide) (fun h_26 => ?_) (fun h_26 => ?_)
        · have hF := ite_t h_26 hF
          refine Go.pick (ls' := [(0, _)]) [0] rfl ?_
          exact ok_X12_product_38 d r hr (F_X12_product_4 r n) hk4 _ _ hF
        · have hF := ite_f h_26 hF
          refine Go.aload_n dX12_product_29 rfl ?_
          obtain ⟨r_30, hc_30, hF⟩ := Option.bind_eq_some_iff.mp hF
          refine Go.callV [] dX12_product_30 kX12_look vX12_look lX12_203 rfl rfl rfl rfl rfl (Nat.le_of_ble_eq_true rfl) (Nat.le_of_ble_eq_true rfl) (ok_X12_look (d + 0) _ _ hc_30) ?_
          refine Go.bipush (v := 37) dX12_product_33 (by decide) ?_
          refine Go.icmpne (tgt := 66) dX12_product_35 (by decide) (fun h_35 => ?_) (fun h_35 => ?_)
          · have hF := ite_f h_35 hF
            obtain rfl := Option.some.inj hF
            exact Go.vret (st := []) dX12_product_66 rfl ⟨rfl, rfl⟩
          · have hF := ite_t h_35 hF
            refine Go.pick (ls' := [(0, _)]) [0] rfl ?_
            exact ok_X12_product_38 d r hr (F_X12_product_4 r n) hk4 _ _ hF
def F_X12_product (r : St → Option (St)) (N : Nat) (S : St) : Option (St) :=
  (r S).bind (fun r_1 => F_X12_product_4 r N r_1)
set_option maxHeartbeats 4000000 in
set_option maxRecDepth 100000 in
theorem ok_X12_product {l : Launch} (d : Nat) (r : St → Option (St)) (hr : ∀ (S : St) (R : St), r  S = some R → Go l (d + 0) mX12_operand (Res none R) 0 [(0, .ref 63)] [] S) (N : Nat) (S : St) (R : St) (hF : F_X12_product r N S = some R) : Go l (d + 1) mX12_product (Res none R) 0 [(0, .ref 63)] [] S := by
  unfold F_X12_product at hF
  refine Go.aload_n dX12_product_0 rfl ?_
  obtain ⟨r_1, hc_1, hF⟩ := Option.bind_eq_some_iff.mp hF
  refine Go.callV [] dX12_product_1 kX12_operand vX12_operand lX12_219 rfl rfl rfl rfl rfl (Nat.le_of_ble_eq_true rfl) (Nat.le_of_ble_eq_true rfl) (Go.deep (by omega) (hr _ _ hc_1)) ?_
  refine Go.pick (ls' := [(0, _)]) [0] rfl ?_
  exact ok_X12_product_4 d r hr N _ _ hF
def F_X12_sum_29 (r : St → Option (St)) (N : Nat) (k4 : St → Option (St)) (S : St) : Option (St) :=
  (F_X12_look S).bind (fun r_30 => let S41 := fset r_30.2 63 20 ((r_30.2.1 63 20) + 1); (F_X12_product r N S41).bind (fun r_45 => (F_X12_addStep r_30.1 (0 : Int32) r_45).bind (fun r_51 => k4 r_51)))
set_option maxHeartbeats 4000000 in
set_option maxRecDepth 100000 in
theorem ok_X12_sum_29 {l : Launch} (d : Nat) (r : St → Option (St)) (hr : ∀ (S : St) (R : St), r  S = some R → Go l (d + 0) mX12_operand (Res none R) 0 [(0, .ref 63)] [] S) (N : Nat) (k4 : St → Option (St)) (hk4 : ∀ (S : St) (R : St), k4  S = some R → Go l (d + 2) mX12_sum (Res none R) 4 [(0, .ref 63)] [] S) (S : St) (R : St) (hF : F_X12_sum_29 r N k4 S = some R) : Go l (d + 2) mX12_sum (Res none R) 29 [(0, .ref 63)] [] S := by
  unfold F_X12_sum_29 at hF
  refine Go.aload_n dX12_sum_29 rfl ?_
  obtain ⟨r_30, hc_30, hF⟩ := Option.bind_eq_some_iff.mp hF
  refine Go.callV [] dX12_sum_30 kX12_look vX12_look lX12_203 rfl rfl rfl rfl rfl (Nat.le_of_ble_eq_true rfl) (Nat.le_of_ble_eq_true rfl) (ok_X12_look (d + 1) _ _ hc_30) ?_
  refine Go.istore_n (ls' := [(1, _), (0, _)]) dX12_sum_33 (by decide) rfl ?_
  refine Go.aload_n dX12_sum_34 rfl ?_
  refine Go.dup dX12_sum_35 rfl ?_
  refine Go.getI dX12_sum_36 fX12_188 rfl ?_
  refine Go.iconst (v := 1) dX12_sum_39 (by decide) ?_
  refine Go.iadd dX12_sum_40 ?_
  refine Go.putI dX12_sum_41 fX12_188 rfl ?_
  refine Go.aload_n dX12_sum_44 rfl ?_
  obtain ⟨r_45, hc_45, hF⟩ := Option.bind_eq_some_iff.mp hF
  refine Go.callV [] dX12_sum_45 kX12_product vX12_product lX12_228 rfl rfl rfl rfl rfl (Nat.le_of_ble_eq_true rfl) (Nat.le_of_ble_eq_true rfl) (ok_X12_product (d + 0) r (fun  S R h => Go.deep (by omega) (hr  S R h)) N _ _ hc_45) ?_
  refine Go.aload_n dX12_sum_48 rfl ?_
  refine Go.iload_n dX12_sum_49 rfl ?_
  refine Go.iconst (v := 0) dX12_sum_50 (by decide) ?_
  obtain ⟨r_51, hc_51, hF⟩ := Option.bind_eq_some_iff.mp hF
  refine Go.callV [_, _] dX12_sum_51 kX12_addStep vX12_addStep lX12_207 rfl rfl rfl rfl rfl (Nat.le_of_ble_eq_true rfl) (Nat.le_of_ble_eq_true rfl) (ok_X12_addStep (d + 1) _ _ _ _ hc_51) ?_
  refine Go.goto (tgt := 4) dX12_sum_54 (by decide) ?_
  refine Go.pick (ls' := [(0, _)]) [1] rfl ?_
  exact hk4 _ _ hF
def F_X12_sum_4 (r : St → Option (St)) (N : Nat) : Nat → St → Option (St)
  | 0 => fun _ => none
  | n + 1 => fun  S =>
    if 0 ≤ (S.1 63 21) then (some S) else ((F_X12_look S).bind (fun r_12 => if r_12.1 = 43 then (F_X12_sum_29 r N (F_X12_sum_4 r N n) r_12.2) else ((F_X12_look r_12.2).bind (fun r_21 => if r_21.1 = 45 then (F_X12_sum_29 r N (F_X12_sum_4 r N n) r_21.2) else (some r_21.2)))))
set_option maxHeartbeats 4000000 in
set_option maxRecDepth 100000 in
theorem ok_X12_sum_4 {l : Launch} (d : Nat) (r : St → Option (St)) (hr : ∀ (S : St) (R : St), r  S = some R → Go l (d + 0) mX12_operand (Res none R) 0 [(0, .ref 63)] [] S) (N : Nat) : ∀ (n : Nat) (S : St) (R : St), F_X12_sum_4 r N n  S = some R → Go l (d + 2) mX12_sum (Res none R) 4 [(0, .ref 63)] [] S := by
  intro n
  induction n with
  | zero => intro  S  R hF; cases hF
  | succ n hk4 =>
    intro  S  R hF
    have hF : (if 0 ≤ (S.1 63 21) then (some S) else ((F_X12_look S).bind (fun r_12 => if r_12.1 = 43 then (F_X12_sum_29 r N (F_X12_sum_4 r N n) r_12.2) else ((F_X12_look r_12.2).bind (fun r_21 => if r_21.1 = 45 then (F_X12_sum_29 r N (F_X12_sum_4 r N n) r_21.2) else (some r_21.2)))))) = some R := hF
    refine Go.aload_n dX12_sum_4 rfl ?_
    refine Go.getI dX12_sum_5 fX12_191 rfl ?_
    refine Go.ifge (tgt := 57) dX12_sum_8 (by decide) (fun h_8 => ?_) (fun h_8 => ?_)
    · have hF := ite_t h_8 hF
      obtain rfl := Option.some.inj hF
      exact Go.vret (st := []) dX12_sum_57 rfl ⟨rfl, rfl⟩
    · have hF := ite_f h_8 hF
      refine Go.aload_n dX12_sum_11 rfl ?_
      obtain ⟨r_12, hc_12, hF⟩ := Option.bind_eq_some_iff.mp hF
      refine Go.callV [] dX12_sum_12 kX12_look vX12_look lX12_203 rfl rfl rfl rfl rfl (Nat.le_of_ble_eq_true rfl) (Nat.le_of_ble_eq_true rfl) (ok_X12_look (d + 1) _ _ hc_12) ?_
      refine Go.bipush (v := 43) dX12_sum_15 (by decide) ?_
      refine Go.icmpeq (tgt := 29) dX12_sum_17 (by decide) (fun h_17 => ?_) (fun h_17 => ?_)
      · have hF := ite_t h_17 hF
        refine Go.pick (ls' := [(0, _)]) [0] rfl ?_
        exact ok_X12_sum_29 d r hr N (F_X12_sum_4 r N n) hk4 _ _ hF
      · have hF := ite_f h_17 hF
        refine Go.aload_n dX12_sum_20 rfl ?_
        obtain ⟨r_21, hc_21, hF⟩ := Option.bind_eq_some_iff.mp hF
        refine Go.callV [] dX12_sum_21 kX12_look vX12_look lX12_203 rfl rfl rfl rfl rfl (Nat.le_of_ble_eq_true rfl) (Nat.le_of_ble_eq_true rfl) (ok_X12_look (d + 1) _ _ hc_21) ?_
        refine Go.bipush (v := 45) dX12_sum_24 (by decide) ?_
        refine Go.icmpne (tgt := 57) dX12_sum_26 (by decide) (fun h_26 => ?_) (fun h_26 => ?_)
        · have hF := ite_f h_26 hF
          obtain rfl := Option.some.inj hF
          exact Go.vret (st := []) dX12_sum_57 rfl ⟨rfl, rfl⟩
        · have hF := ite_t h_26 hF
          refine Go.pick (ls' := [(0, _)]) [0] rfl ?_
          exact ok_X12_sum_29 d r hr N (F_X12_sum_4 r N n) hk4 _ _ hF
def F_X12_sum (r : St → Option (St)) (N : Nat) (S : St) : Option (St) :=
  (F_X12_product r N S).bind (fun r_1 => F_X12_sum_4 r N N r_1)
set_option maxHeartbeats 4000000 in
set_option maxRecDepth 100000 in
theorem ok_X12_sum {l : Launch} (d : Nat) (r : St → Option (St)) (hr : ∀ (S : St) (R : St), r  S = some R → Go l (d + 0) mX12_operand (Res none R) 0 [(0, .ref 63)] [] S) (N : Nat) (S : St) (R : St) (hF : F_X12_sum r N S = some R) : Go l (d + 2) mX12_sum (Res none R) 0 [(0, .ref 63)] [] S := by
  unfold F_X12_sum at hF
  refine Go.aload_n dX12_sum_0 rfl ?_
  obtain ⟨r_1, hc_1, hF⟩ := Option.bind_eq_some_iff.mp hF
  refine Go.callV [] dX12_sum_1 kX12_product vX12_product lX12_228 rfl rfl rfl rfl rfl (Nat.le_of_ble_eq_true rfl) (Nat.le_of_ble_eq_true rfl) (ok_X12_product (d + 0) r (fun  S R h => Go.deep (by omega) (hr  S R h)) N _ _ hc_1) ?_
  refine Go.pick (ls' := [(0, _)]) [0] rfl ?_
  exact ok_X12_sum_4 d r hr N N _ _ hF
def F_X12_compared (r : St → Option (St)) (N : Nat) (S : St) : Option (St) :=
  (F_X12_sum r N S).bind (fun r_1 => (F_X12_look r_1).bind (fun r_5 => if 0 ≤ (r_5.2.1 63 21) then (some r_5.2) else (if r_5.1 = 60 then (let S42 := fset r_5.2 63 20 ((r_5.2.1 63 20) + 1); (F_X12_sum r N S42).bind (fun r_46 => (F_X12_addStep r_5.1 (0 : Int32) r_46).bind (fun r_52 => some r_52))) else (if r_5.1 = 61 then (let S42 := fset r_5.2 63 20 ((r_5.2.1 63 20) + 1); (F_X12_sum r N S42).bind (fun r_46 => (F_X12_addStep r_5.1 (0 : Int32) r_46).bind (fun r_52 => some r_52))) else (if r_5.1 = 62 then (let S42 := fset r_5.2 63 20 ((r_5.2.1 63 20) + 1); (F_X12_sum r N S42).bind (fun r_46 => (F_X12_addStep r_5.1 (0 : Int32) r_46).bind (fun r_52 => some r_52))) else (some r_5.2))))))
set_option maxHeartbeats 4000000 in
set_option maxRecDepth 100000 in
theorem ok_X12_compared {l : Launch} (d : Nat) (r : St → Option (St)) (hr : ∀ (S : St) (R : St), r  S = some R → Go l (d + 0) mX12_operand (Res none R) 0 [(0, .ref 63)] [] S) (N : Nat) (S : St) (R : St) (hF : F_X12_compared r N S = some R) : Go l (d + 3) mX12_compared (Res none R) 0 [(0, .ref 63)] [] S := by
  unfold F_X12_compared at hF
  refine Go.aload_n dX12_compared_0 rfl ?_
  obtain ⟨r_1, hc_1, hF⟩ := Option.bind_eq_some_iff.mp hF
  refine Go.callV [] dX12_compared_1 kX12_sum vX12_sum lX12_231 rfl rfl rfl rfl rfl (Nat.le_of_ble_eq_true rfl) (Nat.le_of_ble_eq_true rfl) (ok_X12_sum (d + 0) r (fun  S R h => Go.deep (by omega) (hr  S R h)) N _ _ hc_1) ?_
  refine Go.aload_n dX12_compared_4 rfl ?_
  obtain ⟨r_5, hc_5, hF⟩ := Option.bind_eq_some_iff.mp hF
  refine Go.callV [] dX12_compared_5 kX12_look vX12_look lX12_203 rfl rfl rfl rfl rfl (Nat.le_of_ble_eq_true rfl) (Nat.le_of_ble_eq_true rfl) (ok_X12_look (d + 2) _ _ hc_5) ?_
  refine Go.istore_n (ls' := [(1, _), (0, _)]) dX12_compared_8 (by decide) rfl ?_
  refine Go.aload_n dX12_compared_9 rfl ?_
  refine Go.getI dX12_compared_10 fX12_191 rfl ?_
  refine Go.ifge (tgt := 34) dX12_compared_13 (by decide) (fun h_13 => ?_) (fun h_13 => ?_)
  · have hF := ite_t h_13 hF
    obtain rfl := Option.some.inj hF
    exact Go.vret (st := []) dX12_compared_34 rfl ⟨rfl, rfl⟩
  · have hF := ite_f h_13 hF
    refine Go.iload_n dX12_compared_16 rfl ?_
    refine Go.bipush (v := 60) dX12_compared_17 (by decide) ?_
    refine Go.icmpeq (tgt := 35) dX12_compared_19 (by decide) (fun h_19 => ?_) (fun h_19 => ?_)
    · have hF := ite_t h_19 hF
      refine Go.aload_n dX12_compared_35 rfl ?_
      refine Go.dup dX12_compared_36 rfl ?_
      refine Go.getI dX12_compared_37 fX12_188 rfl ?_
      refine Go.iconst (v := 1) dX12_compared_40 (by decide) ?_
      refine Go.iadd dX12_compared_41 ?_
      refine Go.putI dX12_compared_42 fX12_188 rfl ?_
      refine Go.aload_n dX12_compared_45 rfl ?_
      obtain ⟨r_46, hc_46, hF⟩ := Option.bind_eq_some_iff.mp hF
      refine Go.callV [] dX12_compared_46 kX12_sum vX12_sum lX12_231 rfl rfl rfl rfl rfl (Nat.le_of_ble_eq_true rfl) (Nat.le_of_ble_eq_true rfl) (ok_X12_sum (d + 0) r (fun  S R h => Go.deep (by omega) (hr  S R h)) N _ _ hc_46) ?_
      refine Go.aload_n dX12_compared_49 rfl ?_
      refine Go.iload_n dX12_compared_50 rfl ?_
      refine Go.iconst (v := 0) dX12_compared_51 (by decide) ?_
      obtain ⟨r_52, hc_52, hF⟩ := Option.bind_eq_some_iff.mp hF
      refine Go.callV [_, _] dX12_compared_52 kX12_addStep vX12_addStep lX12_207 rfl rfl rfl rfl rfl (Nat.le_of_ble_eq_true rfl) (Nat.le_of_ble_eq_true rfl) (ok_X12_addStep (d + 2) _ _ _ _ hc_52) ?_
      obtain rfl := Option.some.inj hF
      exact Go.vret (st := []) dX12_compared_55 rfl ⟨rfl, rfl⟩
    · have hF := ite_f h_19 hF
      refine Go.iload_n dX12_compared_22 rfl ?_
      refine Go.bipush (v := 61) dX12_compared_23 (by decide) ?_
      refine Go.icmpeq (tgt := 35) dX12_compared_25 (by decide) (fun h_25 => ?_) (fun h_25 => ?_)
      · have hF := ite_t h_25 hF
        refine Go.aload_n dX12_compared_35 rfl ?_
        refine Go.dup dX12_compared_36 rfl ?_
        refine Go.getI dX12_compared_37 fX12_188 rfl ?_
        refine Go.iconst (v := 1) dX12_compared_40 (by decide) ?_
        refine Go.iadd dX12_compared_41 ?_
        refine Go.putI dX12_compared_42 fX12_188 rfl ?_
        refine Go.aload_n dX12_compared_45 rfl ?_
        obtain ⟨r_46, hc_46, hF⟩ := Option.bind_eq_some_iff.mp hF
        refine Go.callV [] dX12_compared_46 kX12_sum vX12_sum lX12_231 rfl rfl rfl rfl rfl (Nat.le_of_ble_eq_true rfl) (Nat.le_of_ble_eq_true rfl) (ok_X12_sum (d + 0) r (fun  S R h => Go.deep (by omega) (hr  S R h)) N _ _ hc_46) ?_
        refine Go.aload_n dX12_compared_49 rfl ?_
        refine Go.iload_n dX12_compared_50 rfl ?_
        refine Go.iconst (v := 0) dX12_compared_51 (by decide) ?_
        obtain ⟨r_52, hc_52, hF⟩ := Option.bind_eq_some_iff.mp hF
        refine Go.callV [_, _] dX12_compared_52 kX12_addStep vX12_addStep lX12_207 rfl rfl rfl rfl rfl (Nat.le_of_ble_eq_true rfl) (Nat.le_of_ble_eq_true rfl) (ok_X12_addStep (d + 2) _ _ _ _ hc_52) ?_
        obtain rfl := Option.some.inj hF
        exact Go.vret (st := []) dX12_compared_55 rfl ⟨rfl, rfl⟩
      · have hF := ite_f h_25 hF
        refine Go.iload_n dX12_compared_28 rfl ?_
        refine Go.bipush (v := 62) dX12_compared_29 (by decide) ?_
        refine Go.icmpeq (tgt := 35) dX12_compared_31 (by decide) (fun h_31 => ?_) (fun h_31 => ?_)
        · have hF := ite_t h_31 hF
          refine Go.aload_n dX12_compared_35 rfl ?_
          refine Go.dup dX12_compared_36 rfl ?_
          refine Go.getI dX12_compared_37 fX12_188 rfl ?_
          refine Go.iconst (v := 1) dX12_compared_40 (by decide) ?_
          refine Go.iadd dX12_compared_41 ?_
          refine Go.putI dX12_compared_42 fX12_188 rfl ?_
          refine Go.aload_n dX12_compared_45 rfl ?_
          obtain ⟨r_46, hc_46, hF⟩ := Option.bind_eq_some_iff.mp hF
          refine Go.callV [] dX12_compared_46 kX12_sum vX12_sum lX12_231 rfl rfl rfl rfl rfl (Nat.le_of_ble_eq_true rfl) (Nat.le_of_ble_eq_true rfl) (ok_X12_sum (d + 0) r (fun  S R h => Go.deep (by omega) (hr  S R h)) N _ _ hc_46) ?_
          refine Go.aload_n dX12_compared_49 rfl ?_
          refine Go.iload_n dX12_compared_50 rfl ?_
          refine Go.iconst (v := 0) dX12_compared_51 (by decide) ?_
          obtain ⟨r_52, hc_52, hF⟩ := Option.bind_eq_some_iff.mp hF
          refine Go.callV [_, _] dX12_compared_52 kX12_addStep vX12_addStep lX12_207 rfl rfl rfl rfl rfl (Nat.le_of_ble_eq_true rfl) (Nat.le_of_ble_eq_true rfl) (ok_X12_addStep (d + 2) _ _ _ _ hc_52) ?_
          obtain rfl := Option.some.inj hF
          exact Go.vret (st := []) dX12_compared_55 rfl ⟨rfl, rfl⟩
        · have hF := ite_f h_31 hF
          obtain rfl := Option.some.inj hF
          exact Go.vret (st := []) dX12_compared_34 rfl ⟨rfl, rfl⟩
def F_X12_both_4 (r : St → Option (St)) (N : Nat) : Nat → St → Option (St)
  | 0 => fun _ => none
  | n + 1 => fun  S =>
    if 0 ≤ (S.1 63 21) then (some S) else ((F_X12_look S).bind (fun r_12 => if r_12.1 = 38 then (let S27 := fset r_12.2 63 20 ((r_12.2.1 63 20) + 1); (F_X12_compared r N S27).bind (fun r_31 => (F_X12_addStep (38 : Int32) (0 : Int32) r_31).bind (fun r_38 => (F_X12_both_4 r N n) r_38))) else (some r_12.2)))
set_option maxHeartbeats 4000000 in
set_option maxRecDepth 100000 in
theorem ok_X12_both_4 {l : Launch} (d : Nat) (r : St → Option (St)) (hr : ∀ (S : St) (R : St), r  S = some R → Go l (d + 0) mX12_operand (Res none R) 0 [(0, .ref 63)] [] S) (N : Nat) : ∀ (n : Nat) (S : St) (R : St), F_X12_both_4 r N n  S = some R → Go l (d + 4) mX12_both (Res none R) 4 [(0, .ref 63)] [] S := by
  intro n
  induction n with
  | zero => intro  S  R hF; cases hF
  | succ n hk4 =>
    intro  S  R hF
    have hF : (if 0 ≤ (S.1 63 21) then (some S) else ((F_X12_look S).bind (fun r_12 => if r_12.1 = 38 then (let S27 := fset r_12.2 63 20 ((r_12.2.1 63 20) + 1); (F_X12_compared r N S27).bind (fun r_31 => (F_X12_addStep (38 : Int32) (0 : Int32) r_31).bind (fun r_38 => (F_X12_both_4 r N n) r_38))) else (some r_12.2)))) = some R := hF
    refine Go.aload_n dX12_both_4 rfl ?_
    refine Go.getI dX12_both_5 fX12_191 rfl ?_
    refine Go.ifge (tgt := 44) dX12_both_8 (by decide) (fun h_8 => ?_) (fun h_8 => ?_)
    · have hF := ite_t h_8 hF
      obtain rfl := Option.some.inj hF
      exact Go.vret (st := []) dX12_both_44 rfl ⟨rfl, rfl⟩
    · have hF := ite_f h_8 hF
      refine Go.aload_n dX12_both_11 rfl ?_
      obtain ⟨r_12, hc_12, hF⟩ := Option.bind_eq_some_iff.mp hF
      refine Go.callV [] dX12_both_12 kX12_look vX12_look lX12_203 rfl rfl rfl rfl rfl (Nat.le_of_ble_eq_true rfl) (Nat.le_of_ble_eq_true rfl) (ok_X12_look (d + 3) _ _ hc_12) ?_
      refine Go.bipush (v := 38) dX12_both_15 (by decide) ?_
      refine Go.icmpne (tgt := 44) dX12_both_17 (by decide) (fun h_17 => ?_) (fun h_17 => ?_)
      · have hF := ite_f h_17 hF
        obtain rfl := Option.some.inj hF
        exact Go.vret (st := []) dX12_both_44 rfl ⟨rfl, rfl⟩
      · have hF := ite_t h_17 hF
        refine Go.aload_n dX12_both_20 rfl ?_
        refine Go.dup dX12_both_21 rfl ?_
        refine Go.getI dX12_both_22 fX12_188 rfl ?_
        refine Go.iconst (v := 1) dX12_both_25 (by decide) ?_
        refine Go.iadd dX12_both_26 ?_
        refine Go.putI dX12_both_27 fX12_188 rfl ?_
        refine Go.aload_n dX12_both_30 rfl ?_
        obtain ⟨r_31, hc_31, hF⟩ := Option.bind_eq_some_iff.mp hF
        refine Go.callV [] dX12_both_31 kX12_compared vX12_compared lX12_234 rfl rfl rfl rfl rfl (Nat.le_of_ble_eq_true rfl) (Nat.le_of_ble_eq_true rfl) (ok_X12_compared (d + 0) r (fun  S R h => Go.deep (by omega) (hr  S R h)) N _ _ hc_31) ?_
        refine Go.aload_n dX12_both_34 rfl ?_
        refine Go.bipush (v := 38) dX12_both_35 (by decide) ?_
        refine Go.iconst (v := 0) dX12_both_37 (by decide) ?_
        obtain ⟨r_38, hc_38, hF⟩ := Option.bind_eq_some_iff.mp hF
        refine Go.callV [_, _] dX12_both_38 kX12_addStep vX12_addStep lX12_207 rfl rfl rfl rfl rfl (Nat.le_of_ble_eq_true rfl) (Nat.le_of_ble_eq_true rfl) (ok_X12_addStep (d + 3) _ _ _ _ hc_38) ?_
        refine Go.goto (tgt := 4) dX12_both_41 (by decide) ?_
        refine Go.pick (ls' := [(0, _)]) [0] rfl ?_
        exact hk4 _ _ hF
def F_X12_both (r : St → Option (St)) (N : Nat) (S : St) : Option (St) :=
  (F_X12_compared r N S).bind (fun r_1 => F_X12_both_4 r N N r_1)
set_option maxHeartbeats 4000000 in
set_option maxRecDepth 100000 in
theorem ok_X12_both {l : Launch} (d : Nat) (r : St → Option (St)) (hr : ∀ (S : St) (R : St), r  S = some R → Go l (d + 0) mX12_operand (Res none R) 0 [(0, .ref 63)] [] S) (N : Nat) (S : St) (R : St) (hF : F_X12_both r N S = some R) : Go l (d + 4) mX12_both (Res none R) 0 [(0, .ref 63)] [] S := by
  unfold F_X12_both at hF
  refine Go.aload_n dX12_both_0 rfl ?_
  obtain ⟨r_1, hc_1, hF⟩ := Option.bind_eq_some_iff.mp hF
  refine Go.callV [] dX12_both_1 kX12_compared vX12_compared lX12_234 rfl rfl rfl rfl rfl (Nat.le_of_ble_eq_true rfl) (Nat.le_of_ble_eq_true rfl) (ok_X12_compared (d + 0) r (fun  S R h => Go.deep (by omega) (hr  S R h)) N _ _ hc_1) ?_
  refine Go.pick (ls' := [(0, _)]) [0] rfl ?_
  exact ok_X12_both_4 d r hr N N _ _ hF
def F_X12_either_4 (r : St → Option (St)) (N : Nat) : Nat → St → Option (St)
  | 0 => fun _ => none
  | n + 1 => fun  S =>
    if 0 ≤ (S.1 63 21) then (some S) else ((F_X12_look S).bind (fun r_12 => if r_12.1 = 124 then (let S27 := fset r_12.2 63 20 ((r_12.2.1 63 20) + 1); (F_X12_both r N S27).bind (fun r_31 => (F_X12_addStep (124 : Int32) (0 : Int32) r_31).bind (fun r_38 => (F_X12_either_4 r N n) r_38))) else (some r_12.2)))
set_option maxHeartbeats 4000000 in
set_option maxRecDepth 100000 in
theorem ok_X12_either_4 {l : Launch} (d : Nat) (r : St → Option (St)) (hr : ∀ (S : St) (R : St), r  S = some R → Go l (d + 0) mX12_operand (Res none R) 0 [(0, .ref 63)] [] S) (N : Nat) : ∀ (n : Nat) (S : St) (R : St), F_X12_either_4 r N n  S = some R → Go l (d + 5) mX12_either (Res none R) 4 [(0, .ref 63)] [] S := by
  intro n
  induction n with
  | zero => intro  S  R hF; cases hF
  | succ n hk4 =>
    intro  S  R hF
    have hF : (if 0 ≤ (S.1 63 21) then (some S) else ((F_X12_look S).bind (fun r_12 => if r_12.1 = 124 then (let S27 := fset r_12.2 63 20 ((r_12.2.1 63 20) + 1); (F_X12_both r N S27).bind (fun r_31 => (F_X12_addStep (124 : Int32) (0 : Int32) r_31).bind (fun r_38 => (F_X12_either_4 r N n) r_38))) else (some r_12.2)))) = some R := hF
    refine Go.aload_n dX12_either_4 rfl ?_
    refine Go.getI dX12_either_5 fX12_191 rfl ?_
    refine Go.ifge (tgt := 44) dX12_either_8 (by decide) (fun h_8 => ?_) (fun h_8 => ?_)
    · have hF := ite_t h_8 hF
      obtain rfl := Option.some.inj hF
      exact Go.vret (st := []) dX12_either_44 rfl ⟨rfl, rfl⟩
    · have hF := ite_f h_8 hF
      refine Go.aload_n dX12_either_11 rfl ?_
      obtain ⟨r_12, hc_12, hF⟩ := Option.bind_eq_some_iff.mp hF
      refine Go.callV [] dX12_either_12 kX12_look vX12_look lX12_203 rfl rfl rfl rfl rfl (Nat.le_of_ble_eq_true rfl) (Nat.le_of_ble_eq_true rfl) (ok_X12_look (d + 4) _ _ hc_12) ?_
      refine Go.bipush (v := 124) dX12_either_15 (by decide) ?_
      refine Go.icmpne (tgt := 44) dX12_either_17 (by decide) (fun h_17 => ?_) (fun h_17 => ?_)
      · have hF := ite_f h_17 hF
        obtain rfl := Option.some.inj hF
        exact Go.vret (st := []) dX12_either_44 rfl ⟨rfl, rfl⟩
      · have hF := ite_t h_17 hF
        refine Go.aload_n dX12_either_20 rfl ?_
        refine Go.dup dX12_either_21 rfl ?_
        refine Go.getI dX12_either_22 fX12_188 rfl ?_
        refine Go.iconst (v := 1) dX12_either_25 (by decide) ?_
        refine Go.iadd dX12_either_26 ?_
        refine Go.putI dX12_either_27 fX12_188 rfl ?_
        refine Go.aload_n dX12_either_30 rfl ?_
        obtain ⟨r_31, hc_31, hF⟩ := Option.bind_eq_some_iff.mp hF
        refine Go.callV [] dX12_either_31 kX12_both vX12_both lX12_237 rfl rfl rfl rfl rfl (Nat.le_of_ble_eq_true rfl) (Nat.le_of_ble_eq_true rfl) (ok_X12_both (d + 0) r (fun  S R h => Go.deep (by omega) (hr  S R h)) N _ _ hc_31) ?_
        refine Go.aload_n dX12_either_34 rfl ?_
        refine Go.bipush (v := 124) dX12_either_35 (by decide) ?_
        refine Go.iconst (v := 0) dX12_either_37 (by decide) ?_
        obtain ⟨r_38, hc_38, hF⟩ := Option.bind_eq_some_iff.mp hF
        refine Go.callV [_, _] dX12_either_38 kX12_addStep vX12_addStep lX12_207 rfl rfl rfl rfl rfl (Nat.le_of_ble_eq_true rfl) (Nat.le_of_ble_eq_true rfl) (ok_X12_addStep (d + 4) _ _ _ _ hc_38) ?_
        refine Go.goto (tgt := 4) dX12_either_41 (by decide) ?_
        refine Go.pick (ls' := [(0, _)]) [0] rfl ?_
        exact hk4 _ _ hF
def F_X12_either (r : St → Option (St)) (N : Nat) (S : St) : Option (St) :=
  (F_X12_both r N S).bind (fun r_1 => F_X12_either_4 r N N r_1)
set_option maxHeartbeats 4000000 in
set_option maxRecDepth 100000 in
theorem ok_X12_either {l : Launch} (d : Nat) (r : St → Option (St)) (hr : ∀ (S : St) (R : St), r  S = some R → Go l (d + 0) mX12_operand (Res none R) 0 [(0, .ref 63)] [] S) (N : Nat) (S : St) (R : St) (hF : F_X12_either r N S = some R) : Go l (d + 5) mX12_either (Res none R) 0 [(0, .ref 63)] [] S := by
  unfold F_X12_either at hF
  refine Go.aload_n dX12_either_0 rfl ?_
  obtain ⟨r_1, hc_1, hF⟩ := Option.bind_eq_some_iff.mp hF
  refine Go.callV [] dX12_either_1 kX12_both vX12_both lX12_237 rfl rfl rfl rfl rfl (Nat.le_of_ble_eq_true rfl) (Nat.le_of_ble_eq_true rfl) (ok_X12_both (d + 0) r (fun  S R h => Go.deep (by omega) (hr  S R h)) N _ _ hc_1) ?_
  refine Go.pick (ls' := [(0, _)]) [0] rfl ?_
  exact ok_X12_either_4 d r hr N N _ _ hF
def F_X12_operand_46 (r : St → Option (St)) (x1 : Int32) (S : St) : Option (St) :=
  (F_X12_opens S).bind (fun r_47 => if r_47.1 = 0 then (some r_47.2) else ((r r_47.2).bind (fun r_55 => let S65 := fset r_55 63 22 ((r_55.1 63 22) - 1); if x1 = 33 then ((F_X12_addStep (3 : Int32) (0 : Int32) S65).bind (fun r_81 => some r_81)) else ((F_X12_addStep (4 : Int32) (0 : Int32) S65).bind (fun r_81 => some r_81)))))
set_option maxHeartbeats 4000000 in
set_option maxRecDepth 100000 in
theorem ok_X12_operand_46 {l : Launch} (d : Nat) (r : St → Option (St)) (hr : ∀ (S : St) (R : St), r  S = some R → Go l (d + 0) mX12_operand (Res none R) 0 [(0, .ref 63)] [] S) (x1 : Int32) (S : St) (R : St) (hF : F_X12_operand_46 r x1 S = some R) : Go l (d + 6) mX12_operand (Res none R) 46 [(0, .ref 63), (1, .int x1)] [] S := by
  unfold F_X12_operand_46 at hF
  refine Go.aload_n dX12_operand_46 rfl ?_
  obtain ⟨r_47, hc_47, hF⟩ := Option.bind_eq_some_iff.mp hF
  refine Go.callV [] dX12_operand_47 kX12_opens vX12_opens lX12_215 rfl rfl rfl rfl rfl (Nat.le_of_ble_eq_true rfl) (Nat.le_of_ble_eq_true rfl) (ok_X12_opens (d + 4) _ _ hc_47) ?_
  refine Go.ifne (tgt := 54) dX12_operand_50 (by decide) (fun h_50 => ?_) (fun h_50 => ?_)
  · have hF := ite_f h_50 hF
    refine Go.aload_n dX12_operand_54 rfl ?_
    obtain ⟨r_55, hc_55, hF⟩ := Option.bind_eq_some_iff.mp hF
    refine Go.callV [] dX12_operand_55 kX12_operand vX12_operand lX12_219 rfl rfl rfl rfl rfl (Nat.le_of_ble_eq_true rfl) (Nat.le_of_ble_eq_true rfl) (Go.deep (by omega) (hr _ _ hc_55)) ?_
    refine Go.aload_n dX12_operand_58 rfl ?_
    refine Go.dup dX12_operand_59 rfl ?_
    refine Go.getI dX12_operand_60 fX12_197 rfl ?_
    refine Go.iconst (v := 1) dX12_operand_63 (by decide) ?_
    refine Go.isub dX12_operand_64 ?_
    refine Go.putI dX12_operand_65 fX12_197 rfl ?_
    refine Go.aload_n dX12_operand_68 rfl ?_
    refine Go.iload_n dX12_operand_69 rfl ?_
    refine Go.bipush (v := 33) dX12_operand_70 (by decide) ?_
    refine Go.icmpne (tgt := 79) dX12_operand_72 (by decide) (fun h_72 => ?_) (fun h_72 => ?_)
    · have hF := ite_f h_72 hF
      refine Go.iconst (v := 4) dX12_operand_79 (by decide) ?_
      refine Go.iconst (v := 0) dX12_operand_80 (by decide) ?_
      obtain ⟨r_81, hc_81, hF⟩ := Option.bind_eq_some_iff.mp hF
      refine Go.callV [_, _] dX12_operand_81 kX12_addStep vX12_addStep lX12_207 rfl rfl rfl rfl rfl (Nat.le_of_ble_eq_true rfl) (Nat.le_of_ble_eq_true rfl) (ok_X12_addStep (d + 5) _ _ _ _ hc_81) ?_
      refine Go.goto (tgt := 154) dX12_operand_84 (by decide) ?_
      obtain rfl := Option.some.inj hF
      exact Go.vret (st := []) dX12_operand_154 rfl ⟨rfl, rfl⟩
    · have hF := ite_t h_72 hF
      refine Go.iconst (v := 3) dX12_operand_75 (by decide) ?_
      refine Go.goto (tgt := 80) dX12_operand_76 (by decide) ?_
      refine Go.iconst (v := 0) dX12_operand_80 (by decide) ?_
      obtain ⟨r_81, hc_81, hF⟩ := Option.bind_eq_some_iff.mp hF
      refine Go.callV [_, _] dX12_operand_81 kX12_addStep vX12_addStep lX12_207 rfl rfl rfl rfl rfl (Nat.le_of_ble_eq_true rfl) (Nat.le_of_ble_eq_true rfl) (ok_X12_addStep (d + 5) _ _ _ _ hc_81) ?_
      refine Go.goto (tgt := 154) dX12_operand_84 (by decide) ?_
      obtain rfl := Option.some.inj hF
      exact Go.vret (st := []) dX12_operand_154 rfl ⟨rfl, rfl⟩
  · have hF := ite_t h_50 hF
    obtain rfl := Option.some.inj hF
    exact Go.vret (st := []) dX12_operand_53 rfl ⟨rfl, rfl⟩
def F_X12_operand (r : St → Option (St)) (N : Nat) (S : St) : Option (St) :=
  (F_X12_look S).bind (fun r_1 => (F_X12_nameOf r_1.1 r_1.2).bind (fun r_6 => if r_6.1 < 0 then (if r_1.1 = 33 then (F_X12_operand_46 r r_1.1 r_6.2) else (if r_1.1 = 45 then (F_X12_operand_46 r r_1.1 r_6.2) else (if r_1.1 = 40 then ((F_X12_opens r_6.2).bind (fun r_94 => if r_94.1 = 0 then (some r_94.2) else ((F_X12_either r N r_94.2).bind (fun r_102 => if (r_102.1 63 21) < 0 then ((F_X12_look r_102).bind (fun r_114 => if r_114.1 = 41 then (let S134 := fset r_114.2 63 20 ((r_114.2.1 63 20) + 1); let S144 := fset S134 63 22 ((S134.1 63 22) - 1); some S144) else ((F_X12_faulty r_114.2).bind (fun r_123 => some r_123)))) else (some r_102))))) else ((F_X12_figure N r_6.2).bind (fun r_151 => some r_151))))) else ((F_X12_nameOf r_1.1 r_6.2).bind (fun r_15 => (F_X12_addStep (2 : Int32) r_15.1 r_15.2).bind (fun r_18 => let S28 := fset r_18 63 20 ((r_18.1 63 20) + 1); some S28)))))
set_option maxHeartbeats 4000000 in
set_option maxRecDepth 100000 in
theorem ok_X12_operand {l : Launch} (d : Nat) (r : St → Option (St)) (hr : ∀ (S : St) (R : St), r  S = some R → Go l (d + 0) mX12_operand (Res none R) 0 [(0, .ref 63)] [] S) (N : Nat) (S : St) (R : St) (hF : F_X12_operand r N S = some R) : Go l (d + 6) mX12_operand (Res none R) 0 [(0, .ref 63)] [] S := by
  unfold F_X12_operand at hF
  refine Go.aload_n dX12_operand_0 rfl ?_
  obtain ⟨r_1, hc_1, hF⟩ := Option.bind_eq_some_iff.mp hF
  refine Go.callV [] dX12_operand_1 kX12_look vX12_look lX12_203 rfl rfl rfl rfl rfl (Nat.le_of_ble_eq_true rfl) (Nat.le_of_ble_eq_true rfl) (ok_X12_look (d + 5) _ _ hc_1) ?_
  refine Go.istore_n (ls' := [(1, _), (0, _)]) dX12_operand_4 (by decide) rfl ?_
  refine Go.iload_n dX12_operand_5 rfl ?_
  obtain ⟨r_6, hc_6, hF⟩ := Option.bind_eq_some_iff.mp hF
  refine Go.callS [_] dX12_operand_6 kX12_nameOf sX12_nameOf lX12_211 rfl rfl (Nat.le_of_ble_eq_true rfl) (Nat.le_of_ble_eq_true rfl) (ok_X12_nameOf (d + 5) _ _ _ hc_6) ?_
  refine Go.iflt (tgt := 34) dX12_operand_9 (by decide) (fun h_9 => ?_) (fun h_9 => ?_)
  · have hF := ite_t h_9 hF
    refine Go.iload_n dX12_operand_34 rfl ?_
    refine Go.bipush (v := 33) dX12_operand_35 (by decide) ?_
    refine Go.icmpeq (tgt := 46) dX12_operand_37 (by decide) (fun h_37 => ?_) (fun h_37 => ?_)
    · have hF := ite_t h_37 hF
      refine Go.pick (ls' := [(0, _), (1, _)]) [1, 0] rfl ?_
      exact ok_X12_operand_46 d r hr _ _ _ hF
    · have hF := ite_f h_37 hF
      refine Go.iload_n dX12_operand_40 rfl ?_
      refine Go.bipush (v := 45) dX12_operand_41 (by decide) ?_
      refine Go.icmpne (tgt := 87) dX12_operand_43 (by decide) (fun h_43 => ?_) (fun h_43 => ?_)
      · have hF := ite_f h_43 hF
        refine Go.iload_n dX12_operand_87 rfl ?_
        refine Go.bipush (v := 40) dX12_operand_88 (by decide) ?_
        refine Go.icmpne (tgt := 150) dX12_operand_90 (by decide) (fun h_90 => ?_) (fun h_90 => ?_)
        · have hF := ite_f h_90 hF
          refine Go.aload_n dX12_operand_150 rfl ?_
          obtain ⟨r_151, hc_151, hF⟩ := Option.bind_eq_some_iff.mp hF
          refine Go.callV [] dX12_operand_151 kX12_figure vX12_figure lX12_225 rfl rfl rfl rfl rfl (Nat.le_of_ble_eq_true rfl) (Nat.le_of_ble_eq_true rfl) (ok_X12_figure (d + 4) N _ _ hc_151) ?_
          obtain rfl := Option.some.inj hF
          exact Go.vret (st := []) dX12_operand_154 rfl ⟨rfl, rfl⟩
        · have hF := ite_t h_90 hF
          refine Go.aload_n dX12_operand_93 rfl ?_
          obtain ⟨r_94, hc_94, hF⟩ := Option.bind_eq_some_iff.mp hF
          refine Go.callV [] dX12_operand_94 kX12_opens vX12_opens lX12_215 rfl rfl rfl rfl rfl (Nat.le_of_ble_eq_true rfl) (Nat.le_of_ble_eq_true rfl) (ok_X12_opens (d + 4) _ _ hc_94) ?_
          refine Go.ifne (tgt := 101) dX12_operand_97 (by decide) (fun h_97 => ?_) (fun h_97 => ?_)
          · have hF := ite_f h_97 hF
            refine Go.aload_n dX12_operand_101 rfl ?_
            obtain ⟨r_102, hc_102, hF⟩ := Option.bind_eq_some_iff.mp hF
            refine Go.callV [] dX12_operand_102 kX12_either vX12_either lX12_222 rfl rfl rfl rfl rfl (Nat.le_of_ble_eq_true rfl) (Nat.le_of_ble_eq_true rfl) (ok_X12_either (d + 0) r (fun  S R h => Go.deep (by omega) (hr  S R h)) N _ _ hc_102) ?_
            refine Go.aload_n dX12_operand_105 rfl ?_
            refine Go.getI dX12_operand_106 fX12_191 rfl ?_
            refine Go.iflt (tgt := 113) dX12_operand_109 (by decide) (fun h_109 => ?_) (fun h_109 => ?_)
            · have hF := ite_t h_109 hF
              refine Go.aload_n dX12_operand_113 rfl ?_
              obtain ⟨r_114, hc_114, hF⟩ := Option.bind_eq_some_iff.mp hF
              refine Go.callV [] dX12_operand_114 kX12_look vX12_look lX12_203 rfl rfl rfl rfl rfl (Nat.le_of_ble_eq_true rfl) (Nat.le_of_ble_eq_true rfl) (ok_X12_look (d + 5) _ _ hc_114) ?_
              refine Go.bipush (v := 41) dX12_operand_117 (by decide) ?_
              refine Go.icmpeq (tgt := 127) dX12_operand_119 (by decide) (fun h_119 => ?_) (fun h_119 => ?_)
              · have hF := ite_t h_119 hF
                refine Go.aload_n dX12_operand_127 rfl ?_
                refine Go.dup dX12_operand_128 rfl ?_
                refine Go.getI dX12_operand_129 fX12_188 rfl ?_
                refine Go.iconst (v := 1) dX12_operand_132 (by decide) ?_
                refine Go.iadd dX12_operand_133 ?_
                refine Go.putI dX12_operand_134 fX12_188 rfl ?_
                refine Go.aload_n dX12_operand_137 rfl ?_
                refine Go.dup dX12_operand_138 rfl ?_
                refine Go.getI dX12_operand_139 fX12_197 rfl ?_
                refine Go.iconst (v := 1) dX12_operand_142 (by decide) ?_
                refine Go.isub dX12_operand_143 ?_
                refine Go.putI dX12_operand_144 fX12_197 rfl ?_
                refine Go.goto (tgt := 154) dX12_operand_147 (by decide) ?_
                obtain rfl := Option.some.inj hF
                exact Go.vret (st := []) dX12_operand_154 rfl ⟨rfl, rfl⟩
              · have hF := ite_f h_119 hF
                refine Go.aload_n dX12_operand_122 rfl ?_
                obtain ⟨r_123, hc_123, hF⟩ := Option.bind_eq_some_iff.mp hF
                refine Go.callV [] dX12_operand_123 kX12_faulty vX12_faulty lX12_200 rfl rfl rfl rfl rfl (Nat.le_of_ble_eq_true rfl) (Nat.le_of_ble_eq_true rfl) (ok_X12_faulty (d + 5) _ _ hc_123) ?_
                obtain rfl := Option.some.inj hF
                exact Go.vret (st := []) dX12_operand_126 rfl ⟨rfl, rfl⟩
            · have hF := ite_f h_109 hF
              obtain rfl := Option.some.inj hF
              exact Go.vret (st := []) dX12_operand_112 rfl ⟨rfl, rfl⟩
          · have hF := ite_t h_97 hF
            obtain rfl := Option.some.inj hF
            exact Go.vret (st := []) dX12_operand_100 rfl ⟨rfl, rfl⟩
      · have hF := ite_t h_43 hF
        refine Go.pick (ls' := [(0, _), (1, _)]) [1, 0] rfl ?_
        exact ok_X12_operand_46 d r hr _ _ _ hF
  · have hF := ite_f h_9 hF
    refine Go.aload_n dX12_operand_12 rfl ?_
    refine Go.iconst (v := 2) dX12_operand_13 (by decide) ?_
    refine Go.iload_n dX12_operand_14 rfl ?_
    obtain ⟨r_15, hc_15, hF⟩ := Option.bind_eq_some_iff.mp hF
    refine Go.callS [_] dX12_operand_15 kX12_nameOf sX12_nameOf lX12_211 rfl rfl (Nat.le_of_ble_eq_true rfl) (Nat.le_of_ble_eq_true rfl) (ok_X12_nameOf (d + 5) _ _ _ hc_15) ?_
    obtain ⟨r_18, hc_18, hF⟩ := Option.bind_eq_some_iff.mp hF
    refine Go.callV [_, _] dX12_operand_18 kX12_addStep vX12_addStep lX12_207 rfl rfl rfl rfl rfl (Nat.le_of_ble_eq_true rfl) (Nat.le_of_ble_eq_true rfl) (ok_X12_addStep (d + 5) _ _ _ _ hc_18) ?_
    refine Go.aload_n dX12_operand_21 rfl ?_
    refine Go.dup dX12_operand_22 rfl ?_
    refine Go.getI dX12_operand_23 fX12_188 rfl ?_
    refine Go.iconst (v := 1) dX12_operand_26 (by decide) ?_
    refine Go.iadd dX12_operand_27 ?_
    refine Go.putI dX12_operand_28 fX12_188 rfl ?_
    refine Go.goto (tgt := 154) dX12_operand_31 (by decide) ?_
    obtain rfl := Option.some.inj hF
    exact Go.vret (st := []) dX12_operand_154 rfl ⟨rfl, rfl⟩
def rec_X12_operand (N : Nat) : Nat → St → Option (St)
  | 0 => fun _ => none
  | n + 1 => F_X12_operand (rec_X12_operand N n) N
theorem rec_X12_operand_ok {l : Launch} (d : Nat) (N : Nat) : ∀ n : Nat, ∀ (S : St) (R : St), rec_X12_operand N n  S = some R → Go l (d + 0 + 6 * n) mX12_operand (Res none R) 0 [(0, .ref 63)] [] S := by
  intro n
  induction n with
  | zero => intro  S R hF; cases hF
  | succ n ih =>
    intro  S R hF
    have hh := fun  S R h => Go.deep (d' := (d + 6 * n) + 0) (by omega) (ih  S R h)
    have := ok_X12_operand (l := l) (d + 6 * n) (rec_X12_operand N n) hh N  S R hF
    exact Go.deep (by omega) this
def FF_X12_either (N : Nat) (S : St) : Option (St) := F_X12_either (rec_X12_operand N 8) N  S
theorem okk_X12_either {l : Launch} (d : Nat) (N : Nat) (S : St) (R : St) (hF : FF_X12_either N  S = some R) : Go l (d + 53) mX12_either (Res none R) 0 [(0, .ref 63)] [] S := by
  have hh := fun  S R h => Go.deep (d' := (d + 48) + 0) (by omega) (rec_X12_operand_ok (l := l) (d + 0) N 8  S R h)
  have := ok_X12_either (l := l) (d + 48) (rec_X12_operand N 8) hh N  S R hF
  exact Go.deep (by omega) this
def F_X12_oneLine_66 (x1 : Int32) (S : St) : Option (St) :=
  gd (inb x1 183) (let S76 := aset S 81 (upd (S.2.1 81) (Int32.toNatClampNeg x1) (vp_nar .short ((Int32.toInt16 (S.1 63 23)).toInt32))); gd (inb (2 : Int32) 3) (gd (inb (2 : Int32) 3) (let S86 := aset S76 79 (upd (S76.2.1 79) (Int32.toNatClampNeg (2 : Int32)) ((S76.2.1 79 (Int32.toNatClampNeg (2 : Int32))) + 1)); some S86)))
set_option maxHeartbeats 4000000 in
set_option maxRecDepth 100000 in
theorem ok_X12_oneLine_66 {l : Launch} (d : Nat) (x1 : Int32) (S : St) (R : St) (hF : F_X12_oneLine_66 x1 S = some R) : Go l (d + 54) mX12_oneLine (Res none R) 66 [(0, .ref 63), (1, .int x1)] [] S := by
  unfold F_X12_oneLine_66 at hF
  refine Go.aload_n dX12_oneLine_66 rfl ?_
  refine Go.getR dX12_oneLine_67 fX12_67 rfl ?_
  refine Go.iload_n dX12_oneLine_70 rfl ?_
  refine Go.aload_n dX12_oneLine_71 rfl ?_
  refine Go.getI dX12_oneLine_72 fX12_194 rfl ?_
  refine Go.i2s dX12_oneLine_75 rfl ?_
  obtain ⟨hb_76, hF⟩ := gd_some hF
  refine Go.sast dX12_oneLine_76 rfl (inb_ok hb_76) ?_
  refine Go.aload_n dX12_oneLine_77 rfl ?_
  refine Go.getR dX12_oneLine_78 fX12_60 rfl ?_
  refine Go.iconst (v := 2) dX12_oneLine_81 (by decide) ?_
  refine Go.dup2 dX12_oneLine_82 rfl rfl ?_
  obtain ⟨hb_83, hF⟩ := gd_some hF
  refine Go.iald dX12_oneLine_83 rfl (inb_ok hb_83) ?_
  refine Go.iconst (v := 1) dX12_oneLine_84 (by decide) ?_
  refine Go.iadd dX12_oneLine_85 ?_
  obtain ⟨hb_86, hF⟩ := gd_some hF
  refine Go.iast dX12_oneLine_86 rfl (inb_ok hb_86) ?_
  obtain rfl := Option.some.inj hF
  exact Go.vret (st := []) dX12_oneLine_87 rfl ⟨rfl, rfl⟩
def F_X12_oneLine (N : Nat) (S : St) : Option (St) :=
  gd (inb (2 : Int32) 3) (gd (inb (122 + (S.2.1 79 (Int32.toNatClampNeg (2 : Int32)))) 183) (let S20 := aset S 80 (upd (S.2.1 80) (Int32.toNatClampNeg (122 + (S.2.1 79 (Int32.toNatClampNeg (2 : Int32))))) (vp_nar .short ((Int32.toInt16 (S.1 63 23)).toInt32))); (FF_X12_either N S20).bind (fun r_22 => if 0 ≤ (r_22.1 63 21) then (F_X12_oneLine_66 (122 + (S.2.1 79 (Int32.toNatClampNeg (2 : Int32)))) r_22) else ((F_X12_look r_22).bind (fun r_33 => if r_33.1 = 63 then (let S48 := fset r_33.2 63 20 ((r_33.2.1 63 20) + 1); gd (inb (122 + (S.2.1 79 (Int32.toNatClampNeg (2 : Int32)))) 183) (let S61 := aset S48 80 (upd (S48.2.1 80) (Int32.toNatClampNeg (122 + (S.2.1 79 (Int32.toNatClampNeg (2 : Int32))))) (vp_nar .short ((Int32.toInt16 (S48.1 63 23)).toInt32))); (FF_X12_either N S61).bind (fun r_63 => F_X12_oneLine_66 (122 + (S.2.1 79 (Int32.toNatClampNeg (2 : Int32)))) r_63))) else (F_X12_oneLine_66 (122 + (S.2.1 79 (Int32.toNatClampNeg (2 : Int32)))) r_33.2))))))
set_option maxHeartbeats 4000000 in
set_option maxRecDepth 100000 in
theorem ok_X12_oneLine {l : Launch} (d : Nat) (N : Nat) (S : St) (R : St) (hF : F_X12_oneLine N S = some R) : Go l (d + 54) mX12_oneLine (Res none R) 0 [(0, .ref 63)] [] S := by
  unfold F_X12_oneLine at hF
  refine Go.bipush (v := 122) dX12_oneLine_0 (by decide) ?_
  refine Go.aload_n dX12_oneLine_2 rfl ?_
  refine Go.getR dX12_oneLine_3 fX12_60 rfl ?_
  refine Go.iconst (v := 2) dX12_oneLine_6 (by decide) ?_
  obtain ⟨hb_7, hF⟩ := gd_some hF
  refine Go.iald dX12_oneLine_7 rfl (inb_ok hb_7) ?_
  refine Go.iadd dX12_oneLine_8 ?_
  refine Go.istore_n (ls' := [(1, _), (0, _)]) dX12_oneLine_9 (by decide) rfl ?_
  refine Go.aload_n dX12_oneLine_10 rfl ?_
  refine Go.getR dX12_oneLine_11 fX12_63 rfl ?_
  refine Go.iload_n dX12_oneLine_14 rfl ?_
  refine Go.aload_n dX12_oneLine_15 rfl ?_
  refine Go.getI dX12_oneLine_16 fX12_194 rfl ?_
  refine Go.i2s dX12_oneLine_19 rfl ?_
  obtain ⟨hb_20, hF⟩ := gd_some hF
  refine Go.sast dX12_oneLine_20 rfl (inb_ok hb_20) ?_
  refine Go.aload_n dX12_oneLine_21 rfl ?_
  obtain ⟨r_22, hc_22, hF⟩ := Option.bind_eq_some_iff.mp hF
  refine Go.callV [] dX12_oneLine_22 kX12_either vX12_either lX12_222 rfl rfl rfl rfl rfl (Nat.le_of_ble_eq_true rfl) (Nat.le_of_ble_eq_true rfl) (okk_X12_either (d + 0) N _ _ hc_22) ?_
  refine Go.aload_n dX12_oneLine_25 rfl ?_
  refine Go.getI dX12_oneLine_26 fX12_191 rfl ?_
  refine Go.ifge (tgt := 66) dX12_oneLine_29 (by decide) (fun h_29 => ?_) (fun h_29 => ?_)
  · have hF := ite_t h_29 hF
    refine Go.pick (ls' := [(0, _), (1, _)]) [1, 0] rfl ?_
    exact ok_X12_oneLine_66 d _ _ _ hF
  · have hF := ite_f h_29 hF
    refine Go.aload_n dX12_oneLine_32 rfl ?_
    obtain ⟨r_33, hc_33, hF⟩ := Option.bind_eq_some_iff.mp hF
    refine Go.callV [] dX12_oneLine_33 kX12_look vX12_look lX12_203 rfl rfl rfl rfl rfl (Nat.le_of_ble_eq_true rfl) (Nat.le_of_ble_eq_true rfl) (ok_X12_look (d + 53) _ _ hc_33) ?_
    refine Go.bipush (v := 63) dX12_oneLine_36 (by decide) ?_
    refine Go.icmpne (tgt := 66) dX12_oneLine_38 (by decide) (fun h_38 => ?_) (fun h_38 => ?_)
    · have hF := ite_f h_38 hF
      refine Go.pick (ls' := [(0, _), (1, _)]) [1, 0] rfl ?_
      exact ok_X12_oneLine_66 d _ _ _ hF
    · have hF := ite_t h_38 hF
      refine Go.aload_n dX12_oneLine_41 rfl ?_
      refine Go.dup dX12_oneLine_42 rfl ?_
      refine Go.getI dX12_oneLine_43 fX12_188 rfl ?_
      refine Go.iconst (v := 1) dX12_oneLine_46 (by decide) ?_
      refine Go.iadd dX12_oneLine_47 ?_
      refine Go.putI dX12_oneLine_48 fX12_188 rfl ?_
      refine Go.aload_n dX12_oneLine_51 rfl ?_
      refine Go.getR dX12_oneLine_52 fX12_63 rfl ?_
      refine Go.iload_n dX12_oneLine_55 rfl ?_
      refine Go.aload_n dX12_oneLine_56 rfl ?_
      refine Go.getI dX12_oneLine_57 fX12_194 rfl ?_
      refine Go.i2s dX12_oneLine_60 rfl ?_
      obtain ⟨hb_61, hF⟩ := gd_some hF
      refine Go.sast dX12_oneLine_61 rfl (inb_ok hb_61) ?_
      refine Go.aload_n dX12_oneLine_62 rfl ?_
      obtain ⟨r_63, hc_63, hF⟩ := Option.bind_eq_some_iff.mp hF
      refine Go.callV [] dX12_oneLine_63 kX12_either vX12_either lX12_222 rfl rfl rfl rfl rfl (Nat.le_of_ble_eq_true rfl) (Nat.le_of_ble_eq_true rfl) (okk_X12_either (d + 0) N _ _ hc_63) ?_
      refine Go.pick (ls' := [(0, _), (1, _)]) [1, 0] rfl ?_
      exact ok_X12_oneLine_66 d _ _ _ hF
def F_X12_readText_177 : Nat → Int32 → Int32 → St → Option (Int32 × St)
  | 0 => fun _ _ _ => none
  | n + 1 => fun x1 x2 S =>
    gd (inb x1 3) (if (S.2.1 79 (Int32.toNatClampNeg x1)) ≤ x2 then (some ((-1), S)) else (gd (inb (122 + x2) 183) (gd (inb ((61 * x1) + x2) 183) (let S206 := aset S 80 (upd (S.2.1 80) (Int32.toNatClampNeg ((61 * x1) + x2)) (vp_nar .short (S.2.1 80 (Int32.toNatClampNeg (122 + x2))))); gd (inb (122 + x2) 183) (gd (inb ((61 * x1) + x2) 183) (let S226 := aset S206 81 (upd (S206.2.1 81) (Int32.toNatClampNeg ((61 * x1) + x2)) (vp_nar .short (S206.2.1 81 (Int32.toNatClampNeg (122 + x2))))); (F_X12_readText_177 n) x1 (x2 + 1) S226))))))
set_option maxHeartbeats 4000000 in
set_option maxRecDepth 100000 in
theorem ok_X12_readText_177 {l : Launch} (d : Nat) : ∀ (n : Nat) (x1 : Int32) (x2 : Int32) (S : St) (R : Int32 × St), F_X12_readText_177 n x1 x2 S = some R → Go l (d + 55) mX12_readText (Res (some (.int R.1)) R.2) 177 [(0, .ref 63), (1, .int x1), (2, .int x2)] [] S := by
  intro n
  induction n with
  | zero => intro x1 x2 S  R hF; cases hF
  | succ n hk177 =>
    intro x1 x2 S  R hF
    have hF : (gd (inb x1 3) (if (S.2.1 79 (Int32.toNatClampNeg x1)) ≤ x2 then (some ((-1), S)) else (gd (inb (122 + x2) 183) (gd (inb ((61 * x1) + x2) 183) (let S206 := aset S 80 (upd (S.2.1 80) (Int32.toNatClampNeg ((61 * x1) + x2)) (vp_nar .short (S.2.1 80 (Int32.toNatClampNeg (122 + x2))))); gd (inb (122 + x2) 183) (gd (inb ((61 * x1) + x2) 183) (let S226 := aset S206 81 (upd (S206.2.1 81) (Int32.toNatClampNeg ((61 * x1) + x2)) (vp_nar .short (S206.2.1 81 (Int32.toNatClampNeg (122 + x2))))); (F_X12_readText_177 n) x1 (x2 + 1) S226))))))) = some R := hF
    refine Go.iload_n dX12_readText_177 rfl ?_
    refine Go.aload_n dX12_readText_178 rfl ?_
    refine Go.getR dX12_readText_179 fX12_60 rfl ?_
    refine Go.iload_n dX12_readText_182 rfl ?_
    obtain ⟨hb_183, hF⟩ := gd_some hF
    refine Go.iald dX12_readText_183 rfl (inb_ok hb_183) ?_
    refine Go.icmpge (tgt := 233) dX12_readText_184 (by decide) (fun h_184 => ?_) (fun h_184 => ?_)
    · have hF := ite_t h_184 hF
      refine Go.iconst (v := (-1)) dX12_readText_233 (by decide) ?_
      obtain rfl := Option.some.inj hF
      exact Go.iret (st := []) dX12_readText_234 rfl rfl ⟨rfl, rfl⟩
    · have hF := ite_f h_184 hF
      refine Go.aload_n dX12_readText_187 rfl ?_
      refine Go.getR dX12_readText_188 fX12_63 rfl ?_
      refine Go.bipush (v := 61) dX12_readText_191 (by decide) ?_
      refine Go.iload_n dX12_readText_193 rfl ?_
      refine Go.imul dX12_readText_194 ?_
      refine Go.iload_n dX12_readText_195 rfl ?_
      refine Go.iadd dX12_readText_196 ?_
      refine Go.aload_n dX12_readText_197 rfl ?_
      refine Go.getR dX12_readText_198 fX12_63 rfl ?_
      refine Go.bipush (v := 122) dX12_readText_201 (by decide) ?_
      refine Go.iload_n dX12_readText_203 rfl ?_
      refine Go.iadd dX12_readText_204 ?_
      obtain ⟨hb_205, hF⟩ := gd_some hF
      refine Go.sald dX12_readText_205 rfl (inb_ok hb_205) ?_
      obtain ⟨hb_206, hF⟩ := gd_some hF
      refine Go.sast dX12_readText_206 rfl (inb_ok hb_206) ?_
      refine Go.aload_n dX12_readText_207 rfl ?_
      refine Go.getR dX12_readText_208 fX12_67 rfl ?_
      refine Go.bipush (v := 61) dX12_readText_211 (by decide) ?_
      refine Go.iload_n dX12_readText_213 rfl ?_
      refine Go.imul dX12_readText_214 ?_
      refine Go.iload_n dX12_readText_215 rfl ?_
      refine Go.iadd dX12_readText_216 ?_
      refine Go.aload_n dX12_readText_217 rfl ?_
      refine Go.getR dX12_readText_218 fX12_67 rfl ?_
      refine Go.bipush (v := 122) dX12_readText_221 (by decide) ?_
      refine Go.iload_n dX12_readText_223 rfl ?_
      refine Go.iadd dX12_readText_224 ?_
      obtain ⟨hb_225, hF⟩ := gd_some hF
      refine Go.sald dX12_readText_225 rfl (inb_ok hb_225) ?_
      obtain ⟨hb_226, hF⟩ := gd_some hF
      refine Go.sast dX12_readText_226 rfl (inb_ok hb_226) ?_
      refine Go.iincP (ls' := [(2, _), (0, _), (1, _)]) dX12_readText_227 rfl (by decide) rfl ?_
      refine Go.goto (tgt := 177) dX12_readText_230 (by decide) ?_
      refine Go.pick (ls' := [(0, _), (1, _), (2, _)]) [1, 2, 0] rfl ?_
      exact hk177 _ _ _ _ hF
def F_X12_readText_105 (N : Nat) : Nat → Int32 → Int32 → St → Option (Int32 × St)
  | 0 => fun _ _ _ => none
  | n + 1 => fun x1 x2 S =>
    if (S.1 63 23) ≤ x2 then (gd (inb (2 : Int32) 3) (gd (inb x1 3) (let S174 := aset S 79 (upd (S.2.1 79) (Int32.toNatClampNeg x1) (S.2.1 79 (Int32.toNatClampNeg (2 : Int32)))); F_X12_readText_177 N x1 0 S174))) else (gd (inb (260 + x2) 390) (gd (inb ((130 * x1) + x2) 390) (let S134 := aset S 77 (upd (S.2.1 77) (Int32.toNatClampNeg ((130 * x1) + x2)) (vp_nar .byte (S.2.1 77 (Int32.toNatClampNeg (260 + x2))))); gd (inb (260 + x2) 390) (gd (inb ((130 * x1) + x2) 390) (let S156 := aset S134 78 (upd (S134.2.1 78) (Int32.toNatClampNeg ((130 * x1) + x2)) (S134.2.1 78 (Int32.toNatClampNeg (260 + x2)))); (F_X12_readText_105 N n) x1 (x2 + 1) S156)))))
set_option maxHeartbeats 4000000 in
set_option maxRecDepth 100000 in
theorem ok_X12_readText_105 {l : Launch} (d : Nat) (N : Nat) : ∀ (n : Nat) (x1 : Int32) (x2 : Int32) (S : St) (R : Int32 × St), F_X12_readText_105 N n x1 x2 S = some R → Go l (d + 55) mX12_readText (Res (some (.int R.1)) R.2) 105 [(0, .ref 63), (1, .int x1), (2, .int x2)] [] S := by
  intro n
  induction n with
  | zero => intro x1 x2 S  R hF; cases hF
  | succ n hk105 =>
    intro x1 x2 S  R hF
    have hF : (if (S.1 63 23) ≤ x2 then (gd (inb (2 : Int32) 3) (gd (inb x1 3) (let S174 := aset S 79 (upd (S.2.1 79) (Int32.toNatClampNeg x1) (S.2.1 79 (Int32.toNatClampNeg (2 : Int32)))); F_X12_readText_177 N x1 0 S174))) else (gd (inb (260 + x2) 390) (gd (inb ((130 * x1) + x2) 390) (let S134 := aset S 77 (upd (S.2.1 77) (Int32.toNatClampNeg ((130 * x1) + x2)) (vp_nar .byte (S.2.1 77 (Int32.toNatClampNeg (260 + x2))))); gd (inb (260 + x2) 390) (gd (inb ((130 * x1) + x2) 390) (let S156 := aset S134 78 (upd (S134.2.1 78) (Int32.toNatClampNeg ((130 * x1) + x2)) (S134.2.1 78 (Int32.toNatClampNeg (260 + x2)))); (F_X12_readText_105 N n) x1 (x2 + 1) S156)))))) = some R := hF
    refine Go.iload_n dX12_readText_105 rfl ?_
    refine Go.aload_n dX12_readText_106 rfl ?_
    refine Go.getI dX12_readText_107 fX12_194 rfl ?_
    refine Go.icmpge (tgt := 163) dX12_readText_110 (by decide) (fun h_110 => ?_) (fun h_110 => ?_)
    · have hF := ite_t h_110 hF
      refine Go.aload_n dX12_readText_163 rfl ?_
      refine Go.getR dX12_readText_164 fX12_60 rfl ?_
      refine Go.iload_n dX12_readText_167 rfl ?_
      refine Go.aload_n dX12_readText_168 rfl ?_
      refine Go.getR dX12_readText_169 fX12_60 rfl ?_
      refine Go.iconst (v := 2) dX12_readText_172 (by decide) ?_
      obtain ⟨hb_173, hF⟩ := gd_some hF
      refine Go.iald dX12_readText_173 rfl (inb_ok hb_173) ?_
      obtain ⟨hb_174, hF⟩ := gd_some hF
      refine Go.iast dX12_readText_174 rfl (inb_ok hb_174) ?_
      refine Go.iconst (v := 0) dX12_readText_175 (by decide) ?_
      refine Go.istore_n (ls' := [(2, _), (0, _), (1, _)]) dX12_readText_176 (by decide) rfl ?_
      refine Go.pick (ls' := [(0, _), (1, _), (2, _)]) [1, 2, 0] rfl ?_
      exact ok_X12_readText_177 d N _ _ _ _ hF
    · have hF := ite_f h_110 hF
      refine Go.aload_n dX12_readText_113 rfl ?_
      refine Go.getR dX12_readText_114 fX12_54 rfl ?_
      refine Go.sipush (v := 130) dX12_readText_117 (by decide) ?_
      refine Go.iload_n dX12_readText_120 rfl ?_
      refine Go.imul dX12_readText_121 ?_
      refine Go.iload_n dX12_readText_122 rfl ?_
      refine Go.iadd dX12_readText_123 ?_
      refine Go.aload_n dX12_readText_124 rfl ?_
      refine Go.getR dX12_readText_125 fX12_54 rfl ?_
      refine Go.sipush (v := 260) dX12_readText_128 (by decide) ?_
      refine Go.iload_n dX12_readText_131 rfl ?_
      refine Go.iadd dX12_readText_132 ?_
      obtain ⟨hb_133, hF⟩ := gd_some hF
      refine Go.bald dX12_readText_133 rfl (inb_ok hb_133) ?_
      obtain ⟨hb_134, hF⟩ := gd_some hF
      refine Go.bast dX12_readText_134 rfl (inb_ok hb_134) ?_
      refine Go.aload_n dX12_readText_135 rfl ?_
      refine Go.getR dX12_readText_136 fX12_57 rfl ?_
      refine Go.sipush (v := 130) dX12_readText_139 (by decide) ?_
      refine Go.iload_n dX12_readText_142 rfl ?_
      refine Go.imul dX12_readText_143 ?_
      refine Go.iload_n dX12_readText_144 rfl ?_
      refine Go.iadd dX12_readText_145 ?_
      refine Go.aload_n dX12_readText_146 rfl ?_
      refine Go.getR dX12_readText_147 fX12_57 rfl ?_
      refine Go.sipush (v := 260) dX12_readText_150 (by decide) ?_
      refine Go.iload_n dX12_readText_153 rfl ?_
      refine Go.iadd dX12_readText_154 ?_
      obtain ⟨hb_155, hF⟩ := gd_some hF
      refine Go.iald dX12_readText_155 rfl (inb_ok hb_155) ?_
      obtain ⟨hb_156, hF⟩ := gd_some hF
      refine Go.iast dX12_readText_156 rfl (inb_ok hb_156) ?_
      refine Go.iincP (ls' := [(2, _), (0, _), (1, _)]) dX12_readText_157 rfl (by decide) rfl ?_
      refine Go.goto (tgt := 105) dX12_readText_160 (by decide) ?_
      refine Go.pick (ls' := [(0, _), (1, _), (2, _)]) [1, 2, 0] rfl ?_
      exact hk105 _ _ _ _ hF
def F_X12_readText_64 (N : Nat) (x1 : Int32) (S : St) : Option (Int32 × St) :=
  if 0 ≤ (S.1 63 21) then (let S88 := fset S 63 19 0; if (S88.1 63 21) < 0 then (F_X12_readText_105 N N x1 0 S88) else (some (S88.1 63 21, S88))) else (if (S.1 63 19) ≤ (S.1 63 20) then (let S88 := fset S 63 19 0; if (S88.1 63 21) < 0 then (F_X12_readText_105 N N x1 0 S88) else (some (S88.1 63 21, S88))) else ((F_X12_faulty S).bind (fun r_83 => let S88 := fset r_83 63 19 0; if (S88.1 63 21) < 0 then (F_X12_readText_105 N N x1 0 S88) else (some (S88.1 63 21, S88)))))
set_option maxHeartbeats 4000000 in
set_option maxRecDepth 100000 in
theorem ok_X12_readText_64 {l : Launch} (d : Nat) (N : Nat) (x1 : Int32) (S : St) (R : Int32 × St) (hF : F_X12_readText_64 N x1 S = some R) : Go l (d + 55) mX12_readText (Res (some (.int R.1)) R.2) 64 [(0, .ref 63), (1, .int x1)] [] S := by
  unfold F_X12_readText_64 at hF
  refine Go.aload_n dX12_readText_64 rfl ?_
  refine Go.getI dX12_readText_65 fX12_191 rfl ?_
  refine Go.ifge (tgt := 86) dX12_readText_68 (by decide) (fun h_68 => ?_) (fun h_68 => ?_)
  · have hF := ite_t h_68 hF
    refine Go.aload_n dX12_readText_86 rfl ?_
    refine Go.iconst (v := 0) dX12_readText_87 (by decide) ?_
    refine Go.putI dX12_readText_88 fX12_185 rfl ?_
    refine Go.aload_n dX12_readText_91 rfl ?_
    refine Go.getI dX12_readText_92 fX12_191 rfl ?_
    refine Go.iflt (tgt := 103) dX12_readText_95 (by decide) (fun h_95 => ?_) (fun h_95 => ?_)
    · have hF := ite_t h_95 hF
      refine Go.iconst (v := 0) dX12_readText_103 (by decide) ?_
      refine Go.istore_n (ls' := [(2, _), (0, _), (1, _)]) dX12_readText_104 (by decide) rfl ?_
      refine Go.pick (ls' := [(0, _), (1, _), (2, _)]) [1, 2, 0] rfl ?_
      exact ok_X12_readText_105 d N N _ _ _ _ hF
    · have hF := ite_f h_95 hF
      refine Go.aload_n dX12_readText_98 rfl ?_
      refine Go.getI dX12_readText_99 fX12_191 rfl ?_
      obtain rfl := Option.some.inj hF
      exact Go.iret (st := []) dX12_readText_102 rfl rfl ⟨rfl, rfl⟩
  · have hF := ite_f h_68 hF
    refine Go.aload_n dX12_readText_71 rfl ?_
    refine Go.getI dX12_readText_72 fX12_188 rfl ?_
    refine Go.aload_n dX12_readText_75 rfl ?_
    refine Go.getI dX12_readText_76 fX12_185 rfl ?_
    refine Go.icmpge (tgt := 86) dX12_readText_79 (by decide) (fun h_79 => ?_) (fun h_79 => ?_)
    · have hF := ite_t h_79 hF
      refine Go.aload_n dX12_readText_86 rfl ?_
      refine Go.iconst (v := 0) dX12_readText_87 (by decide) ?_
      refine Go.putI dX12_readText_88 fX12_185 rfl ?_
      refine Go.aload_n dX12_readText_91 rfl ?_
      refine Go.getI dX12_readText_92 fX12_191 rfl ?_
      refine Go.iflt (tgt := 103) dX12_readText_95 (by decide) (fun h_95 => ?_) (fun h_95 => ?_)
      · have hF := ite_t h_95 hF
        refine Go.iconst (v := 0) dX12_readText_103 (by decide) ?_
        refine Go.istore_n (ls' := [(2, _), (0, _), (1, _)]) dX12_readText_104 (by decide) rfl ?_
        refine Go.pick (ls' := [(0, _), (1, _), (2, _)]) [1, 2, 0] rfl ?_
        exact ok_X12_readText_105 d N N _ _ _ _ hF
      · have hF := ite_f h_95 hF
        refine Go.aload_n dX12_readText_98 rfl ?_
        refine Go.getI dX12_readText_99 fX12_191 rfl ?_
        obtain rfl := Option.some.inj hF
        exact Go.iret (st := []) dX12_readText_102 rfl rfl ⟨rfl, rfl⟩
    · have hF := ite_f h_79 hF
      refine Go.aload_n dX12_readText_82 rfl ?_
      obtain ⟨r_83, hc_83, hF⟩ := Option.bind_eq_some_iff.mp hF
      refine Go.callV [] dX12_readText_83 kX12_faulty vX12_faulty lX12_200 rfl rfl rfl rfl rfl (Nat.le_of_ble_eq_true rfl) (Nat.le_of_ble_eq_true rfl) (ok_X12_faulty (d + 54) _ _ hc_83) ?_
      refine Go.aload_n dX12_readText_86 rfl ?_
      refine Go.iconst (v := 0) dX12_readText_87 (by decide) ?_
      refine Go.putI dX12_readText_88 fX12_185 rfl ?_
      refine Go.aload_n dX12_readText_91 rfl ?_
      refine Go.getI dX12_readText_92 fX12_191 rfl ?_
      refine Go.iflt (tgt := 103) dX12_readText_95 (by decide) (fun h_95 => ?_) (fun h_95 => ?_)
      · have hF := ite_t h_95 hF
        refine Go.iconst (v := 0) dX12_readText_103 (by decide) ?_
        refine Go.istore_n (ls' := [(2, _), (0, _), (1, _)]) dX12_readText_104 (by decide) rfl ?_
        refine Go.pick (ls' := [(0, _), (1, _), (2, _)]) [1, 2, 0] rfl ?_
        exact ok_X12_readText_105 d N N _ _ _ _ hF
      · have hF := ite_f h_95 hF
        refine Go.aload_n dX12_readText_98 rfl ?_
        refine Go.getI dX12_readText_99 fX12_191 rfl ?_
        obtain rfl := Option.some.inj hF
        exact Go.iret (st := []) dX12_readText_102 rfl rfl ⟨rfl, rfl⟩
def F_X12_readText_31 (N : Nat) : Nat → Int32 → St → Option (Int32 × St)
  | 0 => fun _ _ => none
  | n + 1 => fun x1 S =>
    if 0 ≤ (S.1 63 21) then (F_X12_readText_64 N x1 S) else ((F_X12_look S).bind (fun r_39 => if r_39.1 = 59 then (let S54 := fset r_39.2 63 20 ((r_39.2.1 63 20) + 1); (F_X12_oneLine N S54).bind (fun r_58 => (F_X12_readText_31 N n) x1 r_58)) else (F_X12_readText_64 N x1 r_39.2)))
set_option maxHeartbeats 4000000 in
set_option maxRecDepth 100000 in
theorem ok_X12_readText_31 {l : Launch} (d : Nat) (N : Nat) : ∀ (n : Nat) (x1 : Int32) (S : St) (R : Int32 × St), F_X12_readText_31 N n x1 S = some R → Go l (d + 55) mX12_readText (Res (some (.int R.1)) R.2) 31 [(0, .ref 63), (1, .int x1)] [] S := by
  intro n
  induction n with
  | zero => intro x1 S  R hF; cases hF
  | succ n hk31 =>
    intro x1 S  R hF
    have hF : (if 0 ≤ (S.1 63 21) then (F_X12_readText_64 N x1 S) else ((F_X12_look S).bind (fun r_39 => if r_39.1 = 59 then (let S54 := fset r_39.2 63 20 ((r_39.2.1 63 20) + 1); (F_X12_oneLine N S54).bind (fun r_58 => (F_X12_readText_31 N n) x1 r_58)) else (F_X12_readText_64 N x1 r_39.2)))) = some R := hF
    refine Go.aload_n dX12_readText_31 rfl ?_
    refine Go.getI dX12_readText_32 fX12_191 rfl ?_
    refine Go.ifge (tgt := 64) dX12_readText_35 (by decide) (fun h_35 => ?_) (fun h_35 => ?_)
    · have hF := ite_t h_35 hF
      refine Go.pick (ls' := [(0, _), (1, _)]) [0, 1] rfl ?_
      exact ok_X12_readText_64 d N _ _ _ hF
    · have hF := ite_f h_35 hF
      refine Go.aload_n dX12_readText_38 rfl ?_
      obtain ⟨r_39, hc_39, hF⟩ := Option.bind_eq_some_iff.mp hF
      refine Go.callV [] dX12_readText_39 kX12_look vX12_look lX12_203 rfl rfl rfl rfl rfl (Nat.le_of_ble_eq_true rfl) (Nat.le_of_ble_eq_true rfl) (ok_X12_look (d + 54) _ _ hc_39) ?_
      refine Go.bipush (v := 59) dX12_readText_42 (by decide) ?_
      refine Go.icmpne (tgt := 64) dX12_readText_44 (by decide) (fun h_44 => ?_) (fun h_44 => ?_)
      · have hF := ite_f h_44 hF
        refine Go.pick (ls' := [(0, _), (1, _)]) [0, 1] rfl ?_
        exact ok_X12_readText_64 d N _ _ _ hF
      · have hF := ite_t h_44 hF
        refine Go.aload_n dX12_readText_47 rfl ?_
        refine Go.dup dX12_readText_48 rfl ?_
        refine Go.getI dX12_readText_49 fX12_188 rfl ?_
        refine Go.iconst (v := 1) dX12_readText_52 (by decide) ?_
        refine Go.iadd dX12_readText_53 ?_
        refine Go.putI dX12_readText_54 fX12_188 rfl ?_
        refine Go.aload_n dX12_readText_57 rfl ?_
        obtain ⟨r_58, hc_58, hF⟩ := Option.bind_eq_some_iff.mp hF
        refine Go.callV [] dX12_readText_58 kX12_oneLine vX12_oneLine lX12_240 rfl rfl rfl rfl rfl (Nat.le_of_ble_eq_true rfl) (Nat.le_of_ble_eq_true rfl) (ok_X12_oneLine (d + 0) N _ _ hc_58) ?_
        refine Go.goto (tgt := 31) dX12_readText_61 (by decide) ?_
        refine Go.pick (ls' := [(0, _), (1, _)]) [0, 1] rfl ?_
        exact hk31 _ _ _ hF
def F_X12_readText (N : Nat) (x1 : Int32) (S : St) : Option (Int32 × St) :=
  let S2 := fset S 63 20 0; let S7 := fset S2 63 21 (-1); let S12 := fset S7 63 22 0; let S17 := fset S12 63 23 0; gd (inb (2 : Int32) 3) (let S26 := aset S17 79 (upd (S17.2.1 79) (Int32.toNatClampNeg (2 : Int32)) (0 : Int32)); (F_X12_oneLine N S26).bind (fun r_28 => F_X12_readText_31 N N x1 r_28))
set_option maxHeartbeats 4000000 in
set_option maxRecDepth 100000 in
theorem ok_X12_readText {l : Launch} (d : Nat) (N : Nat) (x1 : Int32) (S : St) (R : Int32 × St) (hF : F_X12_readText N x1 S = some R) : Go l (d + 55) mX12_readText (Res (some (.int R.1)) R.2) 0 [(0, .ref 63), (1, .int x1)] [] S := by
  unfold F_X12_readText at hF
  refine Go.aload_n dX12_readText_0 rfl ?_
  refine Go.iconst (v := 0) dX12_readText_1 (by decide) ?_
  refine Go.putI dX12_readText_2 fX12_188 rfl ?_
  refine Go.aload_n dX12_readText_5 rfl ?_
  refine Go.iconst (v := (-1)) dX12_readText_6 (by decide) ?_
  refine Go.putI dX12_readText_7 fX12_191 rfl ?_
  refine Go.aload_n dX12_readText_10 rfl ?_
  refine Go.iconst (v := 0) dX12_readText_11 (by decide) ?_
  refine Go.putI dX12_readText_12 fX12_197 rfl ?_
  refine Go.aload_n dX12_readText_15 rfl ?_
  refine Go.iconst (v := 0) dX12_readText_16 (by decide) ?_
  refine Go.putI dX12_readText_17 fX12_194 rfl ?_
  refine Go.aload_n dX12_readText_20 rfl ?_
  refine Go.getR dX12_readText_21 fX12_60 rfl ?_
  refine Go.iconst (v := 2) dX12_readText_24 (by decide) ?_
  refine Go.iconst (v := 0) dX12_readText_25 (by decide) ?_
  obtain ⟨hb_26, hF⟩ := gd_some hF
  refine Go.iast dX12_readText_26 rfl (inb_ok hb_26) ?_
  refine Go.aload_n dX12_readText_27 rfl ?_
  obtain ⟨r_28, hc_28, hF⟩ := Option.bind_eq_some_iff.mp hF
  refine Go.callV [] dX12_readText_28 kX12_oneLine vX12_oneLine lX12_240 rfl rfl rfl rfl rfl (Nat.le_of_ble_eq_true rfl) (Nat.le_of_ble_eq_true rfl) (ok_X12_oneLine (d + 0) N _ _ hc_28) ?_
  refine Go.pick (ls' := [(0, _), (1, _)]) [0, 1] rfl ?_
  exact ok_X12_readText_31 d N N _ _ _ hF
def F_X12_law (N : Nat) (x1 : Int32) (S : St) : Option (Int32 × St) :=
  (F_X12_in x1 (0 : Int32) (1 : Int32) S).bind (fun r_3 => if r_3.1 = 0 then (some ((-1), r_3.2)) else ((F_X12_readText N x1 r_3.2).bind (fun r_13 => if r_13.1 < 0 then (gd (inb x1 2) (let S32 := aset r_13.2 84 (upd (r_13.2.2.1 84) (Int32.toNatClampNeg x1) (vp_nar .boolean (1 : Int32))); some (1, S32))) else (some ((-100) - r_13.1, r_13.2)))))
set_option maxHeartbeats 4000000 in
set_option maxRecDepth 100000 in
theorem ok_X12_law {l : Launch} (d : Nat) (N : Nat) (x1 : Int32) (S : St) (R : Int32 × St) (hF : F_X12_law N x1 S = some R) : Go l (d + 56) mX12_law (Res (some (.int R.1)) R.2) 0 [(0, .ref 63), (1, .int x1)] [] S := by
  unfold F_X12_law at hF
  refine Go.iload_n dX12_law_0 rfl ?_
  refine Go.iconst (v := 0) dX12_law_1 (by decide) ?_
  refine Go.iconst (v := 1) dX12_law_2 (by decide) ?_
  obtain ⟨r_3, hc_3, hF⟩ := Option.bind_eq_some_iff.mp hF
  refine Go.callS [_, _, _] dX12_law_3 kX12_in sX12_in lX12_144 rfl rfl (Nat.le_of_ble_eq_true rfl) (Nat.le_of_ble_eq_true rfl) (ok_X12_in (d + 55) _ _ _ _ _ hc_3) ?_
  refine Go.ifne (tgt := 11) dX12_law_6 (by decide) (fun h_6 => ?_) (fun h_6 => ?_)
  · have hF := ite_f h_6 hF
    refine Go.aload_n dX12_law_11 rfl ?_
    refine Go.iload_n dX12_law_12 rfl ?_
    obtain ⟨r_13, hc_13, hF⟩ := Option.bind_eq_some_iff.mp hF
    refine Go.callV [_] dX12_law_13 kX12_readText vX12_readText lX12_249 rfl rfl rfl rfl rfl (Nat.le_of_ble_eq_true rfl) (Nat.le_of_ble_eq_true rfl) (ok_X12_readText (d + 0) N _ _ _ hc_13) ?_
    refine Go.istore_n (ls' := [(2, _), (0, _), (1, _)]) dX12_law_16 (by decide) rfl ?_
    refine Go.iload_n dX12_law_17 rfl ?_
    refine Go.iflt (tgt := 26) dX12_law_18 (by decide) (fun h_18 => ?_) (fun h_18 => ?_)
    · have hF := ite_t h_18 hF
      refine Go.aload_n dX12_law_26 rfl ?_
      refine Go.getR dX12_law_27 fX12_76 rfl ?_
      refine Go.iload_n dX12_law_30 rfl ?_
      refine Go.iconst (v := 1) dX12_law_31 (by decide) ?_
      obtain ⟨hb_32, hF⟩ := gd_some hF
      refine Go.zast dX12_law_32 rfl (inb_ok hb_32) ?_
      refine Go.iconst (v := 1) dX12_law_33 (by decide) ?_
      obtain rfl := Option.some.inj hF
      exact Go.iret (st := []) dX12_law_34 rfl rfl ⟨rfl, rfl⟩
    · have hF := ite_f h_18 hF
      refine Go.bipush (v := (-100)) dX12_law_21 (by decide) ?_
      refine Go.iload_n dX12_law_23 rfl ?_
      refine Go.isub dX12_law_24 ?_
      obtain rfl := Option.some.inj hF
      exact Go.iret (st := []) dX12_law_25 rfl rfl ⟨rfl, rfl⟩
  · have hF := ite_t h_6 hF
    refine Go.iconst (v := (-1)) dX12_law_9 (by decide) ?_
    obtain rfl := Option.some.inj hF
    exact Go.iret (st := []) dX12_law_10 rfl rfl ⟨rfl, rfl⟩
def F_X12_cutFrom_13 (r : Int32 → Int32 → Int32 → St → Option (St)) : Nat → Int32 → Int32 → Int32 → St → Option (St)
  | 0 => fun _ _ _ _ => none
  | n + 1 => fun x2 x3 x4 S =>
    if (S.1 63 1) ≤ x4 then (some S) else ((r (x4 + 1) (x2 - 1) (x3 ||| (1 <<< (x4 &&& 31))) S).bind (fun r_36 => (F_X12_cutFrom_13 r n) x2 x3 (x4 + 1) r_36))
set_option maxHeartbeats 4000000 in
set_option maxRecDepth 100000 in
theorem ok_X12_cutFrom_13 {l : Launch} (d : Nat) (r : Int32 → Int32 → Int32 → St → Option (St)) (hr : ∀ (x1 : Int32) (x2 : Int32) (x3 : Int32) (S : St) (R : St), r x1 x2 x3 S = some R → Go l (d + 1) mX12_cutFrom (Res none R) 0 [(0, .ref 63), (1, .int x1), (2, .int x2), (3, .int x3)] [] S) : ∀ (n : Nat) (x2 : Int32) (x3 : Int32) (x4 : Int32) (S : St) (R : St), F_X12_cutFrom_13 r n x2 x3 x4 S = some R → Go l (d + 2) mX12_cutFrom (Res none R) 13 [(0, .ref 63), (2, .int x2), (3, .int x3), (4, .int x4)] [] S := by
  intro n
  induction n with
  | zero => intro x2 x3 x4 S  R hF; cases hF
  | succ n hk13 =>
    intro x2 x3 x4 S  R hF
    have hF : (if (S.1 63 1) ≤ x4 then (some S) else ((r (x4 + 1) (x2 - 1) (x3 ||| (1 <<< (x4 &&& 31))) S).bind (fun r_36 => (F_X12_cutFrom_13 r n) x2 x3 (x4 + 1) r_36))) = some R := hF
    refine Go.iload dX12_cutFrom_13 rfl ?_
    refine Go.aload_n dX12_cutFrom_15 rfl ?_
    refine Go.getI dX12_cutFrom_16 fX12_141 rfl ?_
    refine Go.icmpge (tgt := 45) dX12_cutFrom_19 (by decide) (fun h_19 => ?_) (fun h_19 => ?_)
    · have hF := ite_t h_19 hF
      obtain rfl := Option.some.inj hF
      exact Go.vret (st := []) dX12_cutFrom_45 rfl ⟨rfl, rfl⟩
    · have hF := ite_f h_19 hF
      refine Go.aload_n dX12_cutFrom_22 rfl ?_
      refine Go.iload dX12_cutFrom_23 rfl ?_
      refine Go.iconst (v := 1) dX12_cutFrom_25 (by decide) ?_
      refine Go.iadd dX12_cutFrom_26 ?_
      refine Go.iload_n dX12_cutFrom_27 rfl ?_
      refine Go.iconst (v := 1) dX12_cutFrom_28 (by decide) ?_
      refine Go.isub dX12_cutFrom_29 ?_
      refine Go.iload_n dX12_cutFrom_30 rfl ?_
      refine Go.iconst (v := 1) dX12_cutFrom_31 (by decide) ?_
      refine Go.iload dX12_cutFrom_32 rfl ?_
      refine Go.ishl dX12_cutFrom_34 ?_
      refine Go.ior dX12_cutFrom_35 ?_
      obtain ⟨r_36, hc_36, hF⟩ := Option.bind_eq_some_iff.mp hF
      refine Go.callV [_, _, _] dX12_cutFrom_36 kX12_cutFrom vX12_cutFrom lX12_342 rfl rfl rfl rfl rfl (Nat.le_of_ble_eq_true rfl) (Nat.le_of_ble_eq_true rfl) (Go.deep (by omega) (hr _ _ _ _ _ hc_36)) ?_
      refine Go.iincP (ls' := [(4, _), (0, _), (2, _), (3, _)]) dX12_cutFrom_39 rfl (by decide) rfl ?_
      refine Go.goto (tgt := 13) dX12_cutFrom_42 (by decide) ?_
      refine Go.pick (ls' := [(0, _), (2, _), (3, _), (4, _)]) [1, 2, 3, 0] rfl ?_
      exact hk13 _ _ _ _ _ hF
def F_X12_cutFrom (r : Int32 → Int32 → Int32 → St → Option (St)) (N : Nat) (x1 : Int32) (x2 : Int32) (x3 : Int32) (S : St) : Option (St) :=
  if x2 = 0 then ((F_X12_tryCut N x3 S).bind (fun r_6 => some r_6)) else (F_X12_cutFrom_13 r N x2 x3 x1 S)
set_option maxHeartbeats 4000000 in
set_option maxRecDepth 100000 in
theorem ok_X12_cutFrom {l : Launch} (d : Nat) (r : Int32 → Int32 → Int32 → St → Option (St)) (hr : ∀ (x1 : Int32) (x2 : Int32) (x3 : Int32) (S : St) (R : St), r x1 x2 x3 S = some R → Go l (d + 1) mX12_cutFrom (Res none R) 0 [(0, .ref 63), (1, .int x1), (2, .int x2), (3, .int x3)] [] S) (N : Nat) (x1 : Int32) (x2 : Int32) (x3 : Int32) (S : St) (R : St) (hF : F_X12_cutFrom r N x1 x2 x3 S = some R) : Go l (d + 2) mX12_cutFrom (Res none R) 0 [(0, .ref 63), (1, .int x1), (2, .int x2), (3, .int x3)] [] S := by
  unfold F_X12_cutFrom at hF
  refine Go.iload_n dX12_cutFrom_0 rfl ?_
  refine Go.ifne (tgt := 10) dX12_cutFrom_1 (by decide) (fun h_1 => ?_) (fun h_1 => ?_)
  · have hF := ite_f h_1 hF
    refine Go.iload_n dX12_cutFrom_10 rfl ?_
    refine Go.istore (ls' := [(4, _), (0, _), (1, _), (2, _), (3, _)]) dX12_cutFrom_11 (by decide) rfl ?_
    refine Go.pick (ls' := [(0, _), (2, _), (3, _), (4, _)]) [1, 3, 4, 0] rfl ?_
    exact ok_X12_cutFrom_13 d r hr N _ _ _ _ _ hF
  · have hF := ite_t h_1 hF
    refine Go.aload_n dX12_cutFrom_4 rfl ?_
    refine Go.iload_n dX12_cutFrom_5 rfl ?_
    obtain ⟨r_6, hc_6, hF⟩ := Option.bind_eq_some_iff.mp hF
    refine Go.callV [_] dX12_cutFrom_6 kX12_tryCut vX12_tryCut lX12_339 rfl rfl rfl rfl rfl (Nat.le_of_ble_eq_true rfl) (Nat.le_of_ble_eq_true rfl) (ok_X12_tryCut (d + 0) N _ _ _ hc_6) ?_
    obtain rfl := Option.some.inj hF
    exact Go.vret (st := []) dX12_cutFrom_9 rfl ⟨rfl, rfl⟩
def rec_X12_cutFrom (N : Nat) : Nat → Int32 → Int32 → Int32 → St → Option (St)
  | 0 => fun _ _ _ _ => none
  | n + 1 => F_X12_cutFrom (rec_X12_cutFrom N n) N
theorem rec_X12_cutFrom_ok {l : Launch} (d : Nat) (N : Nat) : ∀ n : Nat, ∀ (x1 : Int32) (x2 : Int32) (x3 : Int32) (S : St) (R : St), rec_X12_cutFrom N n x1 x2 x3 S = some R → Go l (d + 1 + 1 * n) mX12_cutFrom (Res none R) 0 [(0, .ref 63), (1, .int x1), (2, .int x2), (3, .int x3)] [] S := by
  intro n
  induction n with
  | zero => intro x1 x2 x3 S R hF; cases hF
  | succ n ih =>
    intro x1 x2 x3 S R hF
    have hh := fun x1 x2 x3 S R h => Go.deep (d' := (d + 1 * n) + 1) (by omega) (ih x1 x2 x3 S R h)
    have := ok_X12_cutFrom (l := l) (d + 1 * n) (rec_X12_cutFrom N n) hh N x1 x2 x3 S R hF
    exact Go.deep (by omega) this
def FF_X12_cutFrom (N : Nat) (x1 : Int32) (x2 : Int32) (x3 : Int32) (S : St) : Option (St) := F_X12_cutFrom (rec_X12_cutFrom N 5) N x1 x2 x3 S
theorem okk_X12_cutFrom {l : Launch} (d : Nat) (N : Nat) (x1 : Int32) (x2 : Int32) (x3 : Int32) (S : St) (R : St) (hF : FF_X12_cutFrom N x1 x2 x3 S = some R) : Go l (d + 8) mX12_cutFrom (Res none R) 0 [(0, .ref 63), (1, .int x1), (2, .int x2), (3, .int x3)] [] S := by
  have hh := fun y1 y2 y3 S R h => Go.deep (d' := (d + 6) + 1) (by omega) (rec_X12_cutFrom_ok (l := l) (d + 0) N 5 y1 y2 y3 S R h)
  have := ok_X12_cutFrom (l := l) (d + 6) (rec_X12_cutFrom N 5) hh N x1 x2 x3 S R hF
  exact Go.deep (by omega) this
def F_X12_cut (N : Nat) (x1 : Int32) (x2 : Int32) (S : St) : Option (Int32 × St) :=
  (F_X12_in x1 (0 : Int32) (3 : Int32) S).bind (fun r_3 => if r_3.1 = 0 then (some ((-1), r_3.2)) else ((F_X12_in x2 (0 : Int32) (1 : Int32) r_3.2).bind (fun r_12 => if r_12.1 = 0 then (some ((-1), r_12.2)) else (let S23 := fset r_12.2 63 48 (-2); (FF_X12_cutFrom N (0 : Int32) x1 (0 : Int32) S23).bind (fun r_30 => if (r_30.1 63 48) < 0 then (some (r_30.1 63 48, r_30)) else (if x2 = 0 then (some (r_30.1 63 48, r_30)) else (some (r_30.1 63 49, r_30))))))))
set_option maxHeartbeats 4000000 in
set_option maxRecDepth 100000 in
theorem ok_X12_cut {l : Launch} (d : Nat) (N : Nat) (x1 : Int32) (x2 : Int32) (S : St) (R : Int32 × St) (hF : F_X12_cut N x1 x2 S = some R) : Go l (d + 9) mX12_cut (Res (some (.int R.1)) R.2) 0 [(0, .ref 63), (1, .int x1), (2, .int x2)] [] S := by
  unfold F_X12_cut at hF
  refine Go.iload_n dX12_cut_0 rfl ?_
  refine Go.iconst (v := 0) dX12_cut_1 (by decide) ?_
  refine Go.iconst (v := 3) dX12_cut_2 (by decide) ?_
  obtain ⟨r_3, hc_3, hF⟩ := Option.bind_eq_some_iff.mp hF
  refine Go.callS [_, _, _] dX12_cut_3 kX12_in sX12_in lX12_144 rfl rfl (Nat.le_of_ble_eq_true rfl) (Nat.le_of_ble_eq_true rfl) (ok_X12_in (d + 8) _ _ _ _ _ hc_3) ?_
  refine Go.ifeq (tgt := 18) dX12_cut_6 (by decide) (fun h_6 => ?_) (fun h_6 => ?_)
  · have hF := ite_t h_6 hF
    refine Go.iconst (v := (-1)) dX12_cut_18 (by decide) ?_
    obtain rfl := Option.some.inj hF
    exact Go.iret (st := []) dX12_cut_19 rfl rfl ⟨rfl, rfl⟩
  · have hF := ite_f h_6 hF
    refine Go.iload_n dX12_cut_9 rfl ?_
    refine Go.iconst (v := 0) dX12_cut_10 (by decide) ?_
    refine Go.iconst (v := 1) dX12_cut_11 (by decide) ?_
    obtain ⟨r_12, hc_12, hF⟩ := Option.bind_eq_some_iff.mp hF
    refine Go.callS [_, _, _] dX12_cut_12 kX12_in sX12_in lX12_144 rfl rfl (Nat.le_of_ble_eq_true rfl) (Nat.le_of_ble_eq_true rfl) (ok_X12_in (d + 8) _ _ _ _ _ hc_12) ?_
    refine Go.ifne (tgt := 20) dX12_cut_15 (by decide) (fun h_15 => ?_) (fun h_15 => ?_)
    · have hF := ite_f h_15 hF
      refine Go.aload_n dX12_cut_20 rfl ?_
      refine Go.bipush (v := (-2)) dX12_cut_21 (by decide) ?_
      refine Go.putI dX12_cut_23 fX12_330 rfl ?_
      refine Go.aload_n dX12_cut_26 rfl ?_
      refine Go.iconst (v := 0) dX12_cut_27 (by decide) ?_
      refine Go.iload_n dX12_cut_28 rfl ?_
      refine Go.iconst (v := 0) dX12_cut_29 (by decide) ?_
      obtain ⟨r_30, hc_30, hF⟩ := Option.bind_eq_some_iff.mp hF
      refine Go.callV [_, _, _] dX12_cut_30 kX12_cutFrom vX12_cutFrom lX12_342 rfl rfl rfl rfl rfl (Nat.le_of_ble_eq_true rfl) (Nat.le_of_ble_eq_true rfl) (okk_X12_cutFrom (d + 0) N _ _ _ _ _ hc_30) ?_
      refine Go.aload_n dX12_cut_33 rfl ?_
      refine Go.getI dX12_cut_34 fX12_330 rfl ?_
      refine Go.iflt (tgt := 44) dX12_cut_37 (by decide) (fun h_37 => ?_) (fun h_37 => ?_)
      · have hF := ite_t h_37 hF
        refine Go.aload_n dX12_cut_44 rfl ?_
        refine Go.getI dX12_cut_45 fX12_330 rfl ?_
        refine Go.goto (tgt := 55) dX12_cut_48 (by decide) ?_
        obtain rfl := Option.some.inj hF
        exact Go.iret (st := []) dX12_cut_55 rfl rfl ⟨rfl, rfl⟩
      · have hF := ite_f h_37 hF
        refine Go.iload_n dX12_cut_40 rfl ?_
        refine Go.ifne (tgt := 51) dX12_cut_41 (by decide) (fun h_41 => ?_) (fun h_41 => ?_)
        · have hF := ite_f h_41 hF
          refine Go.aload_n dX12_cut_51 rfl ?_
          refine Go.getI dX12_cut_52 fX12_333 rfl ?_
          obtain rfl := Option.some.inj hF
          exact Go.iret (st := []) dX12_cut_55 rfl rfl ⟨rfl, rfl⟩
        · have hF := ite_t h_41 hF
          refine Go.aload_n dX12_cut_44 rfl ?_
          refine Go.getI dX12_cut_45 fX12_330 rfl ?_
          refine Go.goto (tgt := 55) dX12_cut_48 (by decide) ?_
          obtain rfl := Option.some.inj hF
          exact Go.iret (st := []) dX12_cut_55 rfl rfl ⟨rfl, rfl⟩
    · have hF := ite_t h_15 hF
      refine Go.iconst (v := (-1)) dX12_cut_18 (by decide) ?_
      obtain rfl := Option.some.inj hF
      exact Go.iret (st := []) dX12_cut_19 rfl rfl ⟨rfl, rfl⟩
def F_X0_above (r : Int32 → Int32 → Int32 → Int32 → St → Option (Int32 × St)) (x1 : Int32) (x2 : Int32) (x3 : Int32) (x4 : Int32) (S : St) : Option (Int32 × St) :=
  gd (inb x1 8) ((r (aboveT (Int32.toNatClampNeg x1)) x2 x3 (x4 + 1) S).bind (fun r_12 => some (r_12.1, r_12.2)))
set_option maxHeartbeats 4000000 in
set_option maxRecDepth 100000 in
theorem ok_X0_above {l : Launch} (d : Nat) (r : Int32 → Int32 → Int32 → Int32 → St → Option (Int32 × St)) (hr : ∀ (x1 : Int32) (x2 : Int32) (x3 : Int32) (x4 : Int32) (S : St) (R : Int32 × St), r x1 x2 x3 x4 S = some R → Go l (d + 0) mX0_from (Res (some (.int R.1)) R.2) 0 [(0, .ref 12), (1, .int x1), (2, .int x2), (3, .int x3), (4, .int x4)] [] S) (x1 : Int32) (x2 : Int32) (x3 : Int32) (x4 : Int32) (S : St) (R : Int32 × St) (hF : F_X0_above r x1 x2 x3 x4 S = some R) : Go l (d + 1) mX0_above (Res (some (.int R.1)) R.2) 0 [(0, .ref 12), (1, .int x1), (2, .int x2), (3, .int x3), (4, .int x4)] [] S := by
  unfold F_X0_above at hF
  refine Go.aload_n dX0_above_0 rfl ?_
  refine Go.gsABOVE dX0_above_1 fX0_34 ?_
  refine Go.iload_n dX0_above_4 rfl ?_
  obtain ⟨hb_5, hF⟩ := gd_some hF
  refine Go.tiABOVE dX0_above_5 (inb_ok hb_5) ?_
  refine Go.iload_n dX0_above_6 rfl ?_
  refine Go.iload_n dX0_above_7 rfl ?_
  refine Go.iload dX0_above_8 rfl ?_
  refine Go.iconst (v := 1) dX0_above_10 (by decide) ?_
  refine Go.iadd dX0_above_11 ?_
  obtain ⟨r_12, hc_12, hF⟩ := Option.bind_eq_some_iff.mp hF
  refine Go.callV [_, _, _, _] dX0_above_12 kX0_from vX0_from lX0_45 rfl rfl rfl rfl rfl (Nat.le_of_ble_eq_true rfl) (Nat.le_of_ble_eq_true rfl) (Go.deep (by omega) (hr _ _ _ _ _ _ hc_12)) ?_
  obtain rfl := Option.some.inj hF
  exact Go.iret (st := []) dX0_above_15 rfl rfl ⟨rfl, rfl⟩
def F_X0_own (r : Int32 → Int32 → Int32 → Int32 → St → Option (Int32 × St)) (x1 : Int32) (x2 : Int32) (x3 : Int32) (S : St) : Option (Int32 × St) :=
  gd (inb (S.1 12 4) 50) ((r (S.2.1 55 (Int32.toNatClampNeg (S.1 12 4))) x1 x2 (x3 + 1) S).bind (fun r_15 => some (r_15.1, r_15.2)))
set_option maxHeartbeats 4000000 in
set_option maxRecDepth 100000 in
theorem ok_X0_own {l : Launch} (d : Nat) (r : Int32 → Int32 → Int32 → Int32 → St → Option (Int32 × St)) (hr : ∀ (x1 : Int32) (x2 : Int32) (x3 : Int32) (x4 : Int32) (S : St) (R : Int32 × St), r x1 x2 x3 x4 S = some R → Go l (d + 0) mX0_from (Res (some (.int R.1)) R.2) 0 [(0, .ref 12), (1, .int x1), (2, .int x2), (3, .int x3), (4, .int x4)] [] S) (x1 : Int32) (x2 : Int32) (x3 : Int32) (S : St) (R : Int32 × St) (hF : F_X0_own r x1 x2 x3 S = some R) : Go l (d + 1) mX0_own (Res (some (.int R.1)) R.2) 0 [(0, .ref 12), (1, .int x1), (2, .int x2), (3, .int x3)] [] S := by
  unfold F_X0_own at hF
  refine Go.aload_n dX0_own_0 rfl ?_
  refine Go.aload_n dX0_own_1 rfl ?_
  refine Go.getR dX0_own_2 fX0_18 rfl ?_
  refine Go.aload_n dX0_own_5 rfl ?_
  refine Go.getI dX0_own_6 fX0_25 rfl ?_
  obtain ⟨hb_9, hF⟩ := gd_some hF
  refine Go.iald dX0_own_9 rfl (inb_ok hb_9) ?_
  refine Go.iload_n dX0_own_10 rfl ?_
  refine Go.iload_n dX0_own_11 rfl ?_
  refine Go.iload_n dX0_own_12 rfl ?_
  refine Go.iconst (v := 1) dX0_own_13 (by decide) ?_
  refine Go.iadd dX0_own_14 ?_
  obtain ⟨r_15, hc_15, hF⟩ := Option.bind_eq_some_iff.mp hF
  refine Go.callV [_, _, _, _] dX0_own_15 kX0_from vX0_from lX0_45 rfl rfl rfl rfl rfl (Nat.le_of_ble_eq_true rfl) (Nat.le_of_ble_eq_true rfl) (Go.deep (by omega) (hr _ _ _ _ _ _ hc_15)) ?_
  obtain rfl := Option.some.inj hF
  exact Go.iret (st := []) dX0_own_18 rfl rfl ⟨rfl, rfl⟩
theorem sw_X0_begun_30 (x : Int32) (h0 : ¬ x = 1) (h1 : ¬ x = 2) (h2 : ¬ x = 10) (h3 : ¬ x = 11) (h4 : ¬ x = 20) (h5 : ¬ x = 30) (h6 : ¬ x = 40) (h7 : ¬ x = 41) (h8 : ¬ x = 50) (h9 : ¬ x = 60) (h10 : ¬ x = 61) (h11 : ¬ x = 70) (h12 : ¬ x = 80) (h13 : ¬ x = 81) : Op.lookupswitch.offset (#[(1, 122), (2, 129), (10, 145), (11, 155), (20, 162), (30, 173), (40, 183), (41, 194), (50, 205), (60, 216), (61, 233), (70, 244), (80, 256), (81, 274)] : Array (Int × Int)).toList 286 x.toInt = 286 := by
  have e0 : ¬ x.toInt = 1 := fun h => h0 (Int32.toInt_inj.mp h)
  have e1 : ¬ x.toInt = 2 := fun h => h1 (Int32.toInt_inj.mp h)
  have e2 : ¬ x.toInt = 10 := fun h => h2 (Int32.toInt_inj.mp h)
  have e3 : ¬ x.toInt = 11 := fun h => h3 (Int32.toInt_inj.mp h)
  have e4 : ¬ x.toInt = 20 := fun h => h4 (Int32.toInt_inj.mp h)
  have e5 : ¬ x.toInt = 30 := fun h => h5 (Int32.toInt_inj.mp h)
  have e6 : ¬ x.toInt = 40 := fun h => h6 (Int32.toInt_inj.mp h)
  have e7 : ¬ x.toInt = 41 := fun h => h7 (Int32.toInt_inj.mp h)
  have e8 : ¬ x.toInt = 50 := fun h => h8 (Int32.toInt_inj.mp h)
  have e9 : ¬ x.toInt = 60 := fun h => h9 (Int32.toInt_inj.mp h)
  have e10 : ¬ x.toInt = 61 := fun h => h10 (Int32.toInt_inj.mp h)
  have e11 : ¬ x.toInt = 70 := fun h => h11 (Int32.toInt_inj.mp h)
  have e12 : ¬ x.toInt = 80 := fun h => h12 (Int32.toInt_inj.mp h)
  have e13 : ¬ x.toInt = 81 := fun h => h13 (Int32.toInt_inj.mp h)
  simp [Op.lookupswitch.offset, eq_comm, e0, e1, e2, e3, e4, e5, e6, e7, e8, e9, e10, e11, e12, e13]
def F_X0_begun_19 (r : Int32 → Int32 → Int32 → Int32 → St → Option (Int32 × St)) (x1 : Int32) (x2 : Int32) (x3 : Int32) (S : St) : Option (Int32 × St) :=
  let S26 := fset S 12 1 ((S.1 12 1) + 1); if x1 = 1 then (some (x2 + (S26.1 12 4), S26)) else (if x1 = 2 then ((F_X0_own r (1 : Int32) x2 x3 S26).bind (fun r_163 => (F_X0_own r (2 : Int32) (1 : Int32) x3 r_163.2).bind (fun r_170 => some (r_163.1 - r_170.1, r_170.2)))) else (if x1 = 10 then ((F_X0_own r (0 : Int32) x2 x3 S26).bind (fun r_179 => some (r_179.1 * 2, r_179.2))) else (if x1 = 11 then (some (x2 ^^^ (S26.1 12 4), S26)) else (if x1 = 20 then ((F_X0_above r (1 : Int32) (0 : Int32) x2 x3 S26).bind (fun r_197 => some (r_197.1 + 3, r_197.2))) else (if x1 = 30 then ((F_X0_above r (2 : Int32) (1 : Int32) x2 x3 S26).bind (fun r_208 => some (-r_208.1, r_208.2))) else (if x1 = 40 then ((F_X0_above r (3 : Int32) (2 : Int32) x2 x3 S26).bind (fun r_218 => some (r_218.1 * 3, r_218.2))) else (if x1 = 41 then ((F_X0_above r (3 : Int32) (1 : Int32) (x2 + 1) x3 S26).bind (fun r_231 => some (r_231.1, r_231.2))) else (if x1 = 50 then ((F_X0_above r (4 : Int32) (3 : Int32) x2 x3 S26).bind (fun r_240 => some (r_240.1 ^^^ 5, r_240.2))) else (if x1 = 60 then ((F_X0_above r (5 : Int32) (2 : Int32) x2 x3 S26).bind (fun r_251 => (F_X0_own r (0 : Int32) (2 : Int32) x3 r_251.2).bind (fun r_258 => some (r_251.1 - r_258.1, r_258.2)))) else (if x1 = 61 then ((F_X0_above r (5 : Int32) (3 : Int32) x2 x3 S26).bind (fun r_268 => some (r_268.1 + 1, r_268.2))) else (if x1 = 70 then ((F_X0_above r (6 : Int32) (0 : Int32) x2 x3 S26).bind (fun r_280 => some (r_280.1 * 2, r_280.2))) else (if x1 = 80 then ((F_X0_above r (7 : Int32) (1 : Int32) x2 x3 S26).bind (fun r_292 => (F_X0_own r (2 : Int32) (2 : Int32) x3 r_292.2).bind (fun r_299 => some (r_292.1 + r_299.1, r_299.2)))) else (if x1 = 81 then ((F_X0_above r (7 : Int32) (0 : Int32) x2 x3 S26).bind (fun r_310 => some (r_310.1 - 1, r_310.2))) else (some (0, S26)))))))))))))))
set_option maxHeartbeats 4000000 in
set_option maxRecDepth 100000 in
theorem ok_X0_begun_19 {l : Launch} (d : Nat) (r : Int32 → Int32 → Int32 → Int32 → St → Option (Int32 × St)) (hr : ∀ (x1 : Int32) (x2 : Int32) (x3 : Int32) (x4 : Int32) (S : St) (R : Int32 × St), r x1 x2 x3 x4 S = some R → Go l (d + 0) mX0_from (Res (some (.int R.1)) R.2) 0 [(0, .ref 12), (1, .int x1), (2, .int x2), (3, .int x3), (4, .int x4)] [] S) (x1 : Int32) (x2 : Int32) (x3 : Int32) (S : St) (R : Int32 × St) (hF : F_X0_begun_19 r x1 x2 x3 S = some R) : Go l (d + 2) mX0_begun (Res (some (.int R.1)) R.2) 19 [(0, .ref 12), (1, .int x1), (2, .int x2), (3, .int x3)] [] S := by
  unfold F_X0_begun_19 at hF
  refine Go.aload_n dX0_begun_19 rfl ?_
  refine Go.dup dX0_begun_20 rfl ?_
  refine Go.getI dX0_begun_21 fX0_15 rfl ?_
  refine Go.iconst (v := 1) dX0_begun_24 (by decide) ?_
  refine Go.iadd dX0_begun_25 ?_
  refine Go.putI dX0_begun_26 fX0_15 rfl ?_
  refine Go.iload_n dX0_begun_29 rfl ?_
  by_cases hs_30_0 : x1 = 1
  · have hF := ite_t hs_30_0 hF
    refine Go.lookup (tgt := 152) dX0_begun_30 (by decide) (by first | (rw [hs_30_0]; done) | (rw [hs_30_0]; rfl) | (rw [hs_30_0]; decide)) (by decide) ?_
    refine Go.iload_n dX0_begun_152 rfl ?_
    refine Go.aload_n dX0_begun_153 rfl ?_
    refine Go.getI dX0_begun_154 fX0_25 rfl ?_
    refine Go.iadd dX0_begun_157 ?_
    obtain rfl := Option.some.inj hF
    exact Go.iret (st := []) dX0_begun_158 rfl rfl ⟨rfl, rfl⟩
  · have hF := ite_f hs_30_0 hF
    by_cases hs_30_1 : x1 = 2
    · have hF := ite_t hs_30_1 hF
      refine Go.lookup (tgt := 159) dX0_begun_30 (by decide) (by first | (rw [hs_30_1]; done) | (rw [hs_30_1]; rfl) | (rw [hs_30_1]; decide)) (by decide) ?_
      refine Go.aload_n dX0_begun_159 rfl ?_
      refine Go.iconst (v := 1) dX0_begun_160 (by decide) ?_
      refine Go.iload_n dX0_begun_161 rfl ?_
      refine Go.iload_n dX0_begun_162 rfl ?_
      obtain ⟨r_163, hc_163, hF⟩ := Option.bind_eq_some_iff.mp hF
      refine Go.callV [_, _, _] dX0_begun_163 kX0_own vX0_own lX0_41 rfl rfl rfl rfl rfl (Nat.le_of_ble_eq_true rfl) (Nat.le_of_ble_eq_true rfl) (ok_X0_own (d + 0) r (fun a0 a1 a2 a3 S R h => Go.deep (by omega) (hr a0 a1 a2 a3 S R h)) _ _ _ _ _ hc_163) ?_
      refine Go.aload_n dX0_begun_166 rfl ?_
      refine Go.iconst (v := 2) dX0_begun_167 (by decide) ?_
      refine Go.iconst (v := 1) dX0_begun_168 (by decide) ?_
      refine Go.iload_n dX0_begun_169 rfl ?_
      obtain ⟨r_170, hc_170, hF⟩ := Option.bind_eq_some_iff.mp hF
      refine Go.callV [_, _, _] dX0_begun_170 kX0_own vX0_own lX0_41 rfl rfl rfl rfl rfl (Nat.le_of_ble_eq_true rfl) (Nat.le_of_ble_eq_true rfl) (ok_X0_own (d + 0) r (fun a0 a1 a2 a3 S R h => Go.deep (by omega) (hr a0 a1 a2 a3 S R h)) _ _ _ _ _ hc_170) ?_
      refine Go.isub dX0_begun_173 ?_
      obtain rfl := Option.some.inj hF
      exact Go.iret (st := []) dX0_begun_174 rfl rfl ⟨rfl, rfl⟩
    · have hF := ite_f hs_30_1 hF
      by_cases hs_30_2 : x1 = 10
      · have hF := ite_t hs_30_2 hF
        refine Go.lookup (tgt := 175) dX0_begun_30 (by decide) (by first | (rw [hs_30_2]; done) | (rw [hs_30_2]; rfl) | (rw [hs_30_2]; decide)) (by decide) ?_
        refine Go.aload_n dX0_begun_175 rfl ?_
        refine Go.iconst (v := 0) dX0_begun_176 (by decide) ?_
        refine Go.iload_n dX0_begun_177 rfl ?_
        refine Go.iload_n dX0_begun_178 rfl ?_
        obtain ⟨r_179, hc_179, hF⟩ := Option.bind_eq_some_iff.mp hF
        refine Go.callV [_, _, _] dX0_begun_179 kX0_own vX0_own lX0_41 rfl rfl rfl rfl rfl (Nat.le_of_ble_eq_true rfl) (Nat.le_of_ble_eq_true rfl) (ok_X0_own (d + 0) r (fun a0 a1 a2 a3 S R h => Go.deep (by omega) (hr a0 a1 a2 a3 S R h)) _ _ _ _ _ hc_179) ?_
        refine Go.iconst (v := 2) dX0_begun_182 (by decide) ?_
        refine Go.imul dX0_begun_183 ?_
        obtain rfl := Option.some.inj hF
        exact Go.iret (st := []) dX0_begun_184 rfl rfl ⟨rfl, rfl⟩
      · have hF := ite_f hs_30_2 hF
        by_cases hs_30_3 : x1 = 11
        · have hF := ite_t hs_30_3 hF
          refine Go.lookup (tgt := 185) dX0_begun_30 (by decide) (by first | (rw [hs_30_3]; done) | (rw [hs_30_3]; rfl) | (rw [hs_30_3]; decide)) (by decide) ?_
          refine Go.iload_n dX0_begun_185 rfl ?_
          refine Go.aload_n dX0_begun_186 rfl ?_
          refine Go.getI dX0_begun_187 fX0_25 rfl ?_
          refine Go.ixor dX0_begun_190 ?_
          obtain rfl := Option.some.inj hF
          exact Go.iret (st := []) dX0_begun_191 rfl rfl ⟨rfl, rfl⟩
        · have hF := ite_f hs_30_3 hF
          by_cases hs_30_4 : x1 = 20
          · have hF := ite_t hs_30_4 hF
            refine Go.lookup (tgt := 192) dX0_begun_30 (by decide) (by first | (rw [hs_30_4]; done) | (rw [hs_30_4]; rfl) | (rw [hs_30_4]; decide)) (by decide) ?_
            refine Go.aload_n dX0_begun_192 rfl ?_
            refine Go.iconst (v := 1) dX0_begun_193 (by decide) ?_
            refine Go.iconst (v := 0) dX0_begun_194 (by decide) ?_
            refine Go.iload_n dX0_begun_195 rfl ?_
            refine Go.iload_n dX0_begun_196 rfl ?_
            obtain ⟨r_197, hc_197, hF⟩ := Option.bind_eq_some_iff.mp hF
            refine Go.callV [_, _, _, _] dX0_begun_197 kX0_above vX0_above lX0_55 rfl rfl rfl rfl rfl (Nat.le_of_ble_eq_true rfl) (Nat.le_of_ble_eq_true rfl) (ok_X0_above (d + 0) r (fun a0 a1 a2 a3 S R h => Go.deep (by omega) (hr a0 a1 a2 a3 S R h)) _ _ _ _ _ _ hc_197) ?_
            refine Go.iconst (v := 3) dX0_begun_200 (by decide) ?_
            refine Go.iadd dX0_begun_201 ?_
            obtain rfl := Option.some.inj hF
            exact Go.iret (st := []) dX0_begun_202 rfl rfl ⟨rfl, rfl⟩
          · have hF := ite_f hs_30_4 hF
            by_cases hs_30_5 : x1 = 30
            · have hF := ite_t hs_30_5 hF
              refine Go.lookup (tgt := 203) dX0_begun_30 (by decide) (by first | (rw [hs_30_5]; done) | (rw [hs_30_5]; rfl) | (rw [hs_30_5]; decide)) (by decide) ?_
              refine Go.aload_n dX0_begun_203 rfl ?_
              refine Go.iconst (v := 2) dX0_begun_204 (by decide) ?_
              refine Go.iconst (v := 1) dX0_begun_205 (by decide) ?_
              refine Go.iload_n dX0_begun_206 rfl ?_
              refine Go.iload_n dX0_begun_207 rfl ?_
              obtain ⟨r_208, hc_208, hF⟩ := Option.bind_eq_some_iff.mp hF
              refine Go.callV [_, _, _, _] dX0_begun_208 kX0_above vX0_above lX0_55 rfl rfl rfl rfl rfl (Nat.le_of_ble_eq_true rfl) (Nat.le_of_ble_eq_true rfl) (ok_X0_above (d + 0) r (fun a0 a1 a2 a3 S R h => Go.deep (by omega) (hr a0 a1 a2 a3 S R h)) _ _ _ _ _ _ hc_208) ?_
              refine Go.ineg dX0_begun_211 ?_
              obtain rfl := Option.some.inj hF
              exact Go.iret (st := []) dX0_begun_212 rfl rfl ⟨rfl, rfl⟩
            · have hF := ite_f hs_30_5 hF
              by_cases hs_30_6 : x1 = 40
              · have hF := ite_t hs_30_6 hF
                refine Go.lookup (tgt := 213) dX0_begun_30 (by decide) (by first | (rw [hs_30_6]; done) | (rw [hs_30_6]; rfl) | (rw [hs_30_6]; decide)) (by decide) ?_
                refine Go.aload_n dX0_begun_213 rfl ?_
                refine Go.iconst (v := 3) dX0_begun_214 (by decide) ?_
                refine Go.iconst (v := 2) dX0_begun_215 (by decide) ?_
                refine Go.iload_n dX0_begun_216 rfl ?_
                refine Go.iload_n dX0_begun_217 rfl ?_
                obtain ⟨r_218, hc_218, hF⟩ := Option.bind_eq_some_iff.mp hF
                refine Go.callV [_, _, _, _] dX0_begun_218 kX0_above vX0_above lX0_55 rfl rfl rfl rfl rfl (Nat.le_of_ble_eq_true rfl) (Nat.le_of_ble_eq_true rfl) (ok_X0_above (d + 0) r (fun a0 a1 a2 a3 S R h => Go.deep (by omega) (hr a0 a1 a2 a3 S R h)) _ _ _ _ _ _ hc_218) ?_
                refine Go.iconst (v := 3) dX0_begun_221 (by decide) ?_
                refine Go.imul dX0_begun_222 ?_
                obtain rfl := Option.some.inj hF
                exact Go.iret (st := []) dX0_begun_223 rfl rfl ⟨rfl, rfl⟩
              · have hF := ite_f hs_30_6 hF
                by_cases hs_30_7 : x1 = 41
                · have hF := ite_t hs_30_7 hF
                  refine Go.lookup (tgt := 224) dX0_begun_30 (by decide) (by first | (rw [hs_30_7]; done) | (rw [hs_30_7]; rfl) | (rw [hs_30_7]; decide)) (by decide) ?_
                  refine Go.aload_n dX0_begun_224 rfl ?_
                  refine Go.iconst (v := 3) dX0_begun_225 (by decide) ?_
                  refine Go.iconst (v := 1) dX0_begun_226 (by decide) ?_
                  refine Go.iload_n dX0_begun_227 rfl ?_
                  refine Go.iconst (v := 1) dX0_begun_228 (by decide) ?_
                  refine Go.iadd dX0_begun_229 ?_
                  refine Go.iload_n dX0_begun_230 rfl ?_
                  obtain ⟨r_231, hc_231, hF⟩ := Option.bind_eq_some_iff.mp hF
                  refine Go.callV [_, _, _, _] dX0_begun_231 kX0_above vX0_above lX0_55 rfl rfl rfl rfl rfl (Nat.le_of_ble_eq_true rfl) (Nat.le_of_ble_eq_true rfl) (ok_X0_above (d + 0) r (fun a0 a1 a2 a3 S R h => Go.deep (by omega) (hr a0 a1 a2 a3 S R h)) _ _ _ _ _ _ hc_231) ?_
                  obtain rfl := Option.some.inj hF
                  exact Go.iret (st := []) dX0_begun_234 rfl rfl ⟨rfl, rfl⟩
                · have hF := ite_f hs_30_7 hF
                  by_cases hs_30_8 : x1 = 50
                  · have hF := ite_t hs_30_8 hF
                    refine Go.lookup (tgt := 235) dX0_begun_30 (by decide) (by first | (rw [hs_30_8]; done) | (rw [hs_30_8]; rfl) | (rw [hs_30_8]; decide)) (by decide) ?_
                    refine Go.aload_n dX0_begun_235 rfl ?_
                    refine Go.iconst (v := 4) dX0_begun_236 (by decide) ?_
                    refine Go.iconst (v := 3) dX0_begun_237 (by decide) ?_
                    refine Go.iload_n dX0_begun_238 rfl ?_
                    refine Go.iload_n dX0_begun_239 rfl ?_
                    obtain ⟨r_240, hc_240, hF⟩ := Option.bind_eq_some_iff.mp hF
                    refine Go.callV [_, _, _, _] dX0_begun_240 kX0_above vX0_above lX0_55 rfl rfl rfl rfl rfl (Nat.le_of_ble_eq_true rfl) (Nat.le_of_ble_eq_true rfl) (ok_X0_above (d + 0) r (fun a0 a1 a2 a3 S R h => Go.deep (by omega) (hr a0 a1 a2 a3 S R h)) _ _ _ _ _ _ hc_240) ?_
                    refine Go.iconst (v := 5) dX0_begun_243 (by decide) ?_
                    refine Go.ixor dX0_begun_244 ?_
                    obtain rfl := Option.some.inj hF
                    exact Go.iret (st := []) dX0_begun_245 rfl rfl ⟨rfl, rfl⟩
                  · have hF := ite_f hs_30_8 hF
                    by_cases hs_30_9 : x1 = 60
                    · have hF := ite_t hs_30_9 hF
                      refine Go.lookup (tgt := 246) dX0_begun_30 (by decide) (by first | (rw [hs_30_9]; done) | (rw [hs_30_9]; rfl) | (rw [hs_30_9]; decide)) (by decide) ?_
                      refine Go.aload_n dX0_begun_246 rfl ?_
                      refine Go.iconst (v := 5) dX0_begun_247 (by decide) ?_
                      refine Go.iconst (v := 2) dX0_begun_248 (by decide) ?_
                      refine Go.iload_n dX0_begun_249 rfl ?_
                      refine Go.iload_n dX0_begun_250 rfl ?_
                      obtain ⟨r_251, hc_251, hF⟩ := Option.bind_eq_some_iff.mp hF
                      refine Go.callV [_, _, _, _] dX0_begun_251 kX0_above vX0_above lX0_55 rfl rfl rfl rfl rfl (Nat.le_of_ble_eq_true rfl) (Nat.le_of_ble_eq_true rfl) (ok_X0_above (d + 0) r (fun a0 a1 a2 a3 S R h => Go.deep (by omega) (hr a0 a1 a2 a3 S R h)) _ _ _ _ _ _ hc_251) ?_
                      refine Go.aload_n dX0_begun_254 rfl ?_
                      refine Go.iconst (v := 0) dX0_begun_255 (by decide) ?_
                      refine Go.iconst (v := 2) dX0_begun_256 (by decide) ?_
                      refine Go.iload_n dX0_begun_257 rfl ?_
                      obtain ⟨r_258, hc_258, hF⟩ := Option.bind_eq_some_iff.mp hF
                      refine Go.callV [_, _, _] dX0_begun_258 kX0_own vX0_own lX0_41 rfl rfl rfl rfl rfl (Nat.le_of_ble_eq_true rfl) (Nat.le_of_ble_eq_true rfl) (ok_X0_own (d + 0) r (fun a0 a1 a2 a3 S R h => Go.deep (by omega) (hr a0 a1 a2 a3 S R h)) _ _ _ _ _ hc_258) ?_
                      refine Go.isub dX0_begun_261 ?_
                      obtain rfl := Option.some.inj hF
                      exact Go.iret (st := []) dX0_begun_262 rfl rfl ⟨rfl, rfl⟩
                    · have hF := ite_f hs_30_9 hF
                      by_cases hs_30_10 : x1 = 61
                      · have hF := ite_t hs_30_10 hF
                        refine Go.lookup (tgt := 263) dX0_begun_30 (by decide) (by first | (rw [hs_30_10]; done) | (rw [hs_30_10]; rfl) | (rw [hs_30_10]; decide)) (by decide) ?_
                        refine Go.aload_n dX0_begun_263 rfl ?_
                        refine Go.iconst (v := 5) dX0_begun_264 (by decide) ?_
                        refine Go.iconst (v := 3) dX0_begun_265 (by decide) ?_
                        refine Go.iload_n dX0_begun_266 rfl ?_
                        refine Go.iload_n dX0_begun_267 rfl ?_
                        obtain ⟨r_268, hc_268, hF⟩ := Option.bind_eq_some_iff.mp hF
                        refine Go.callV [_, _, _, _] dX0_begun_268 kX0_above vX0_above lX0_55 rfl rfl rfl rfl rfl (Nat.le_of_ble_eq_true rfl) (Nat.le_of_ble_eq_true rfl) (ok_X0_above (d + 0) r (fun a0 a1 a2 a3 S R h => Go.deep (by omega) (hr a0 a1 a2 a3 S R h)) _ _ _ _ _ _ hc_268) ?_
                        refine Go.iconst (v := 1) dX0_begun_271 (by decide) ?_
                        refine Go.iadd dX0_begun_272 ?_
                        obtain rfl := Option.some.inj hF
                        exact Go.iret (st := []) dX0_begun_273 rfl rfl ⟨rfl, rfl⟩
                      · have hF := ite_f hs_30_10 hF
                        by_cases hs_30_11 : x1 = 70
                        · have hF := ite_t hs_30_11 hF
                          refine Go.lookup (tgt := 274) dX0_begun_30 (by decide) (by first | (rw [hs_30_11]; done) | (rw [hs_30_11]; rfl) | (rw [hs_30_11]; decide)) (by decide) ?_
                          refine Go.aload_n dX0_begun_274 rfl ?_
                          refine Go.bipush (v := 6) dX0_begun_275 (by decide) ?_
                          refine Go.iconst (v := 0) dX0_begun_277 (by decide) ?_
                          refine Go.iload_n dX0_begun_278 rfl ?_
                          refine Go.iload_n dX0_begun_279 rfl ?_
                          obtain ⟨r_280, hc_280, hF⟩ := Option.bind_eq_some_iff.mp hF
                          refine Go.callV [_, _, _, _] dX0_begun_280 kX0_above vX0_above lX0_55 rfl rfl rfl rfl rfl (Nat.le_of_ble_eq_true rfl) (Nat.le_of_ble_eq_true rfl) (ok_X0_above (d + 0) r (fun a0 a1 a2 a3 S R h => Go.deep (by omega) (hr a0 a1 a2 a3 S R h)) _ _ _ _ _ _ hc_280) ?_
                          refine Go.iconst (v := 2) dX0_begun_283 (by decide) ?_
                          refine Go.imul dX0_begun_284 ?_
                          obtain rfl := Option.some.inj hF
                          exact Go.iret (st := []) dX0_begun_285 rfl rfl ⟨rfl, rfl⟩
                        · have hF := ite_f hs_30_11 hF
                          by_cases hs_30_12 : x1 = 80
                          · have hF := ite_t hs_30_12 hF
                            refine Go.lookup (tgt := 286) dX0_begun_30 (by decide) (by first | (rw [hs_30_12]; done) | (rw [hs_30_12]; rfl) | (rw [hs_30_12]; decide)) (by decide) ?_
                            refine Go.aload_n dX0_begun_286 rfl ?_
                            refine Go.bipush (v := 7) dX0_begun_287 (by decide) ?_
                            refine Go.iconst (v := 1) dX0_begun_289 (by decide) ?_
                            refine Go.iload_n dX0_begun_290 rfl ?_
                            refine Go.iload_n dX0_begun_291 rfl ?_
                            obtain ⟨r_292, hc_292, hF⟩ := Option.bind_eq_some_iff.mp hF
                            refine Go.callV [_, _, _, _] dX0_begun_292 kX0_above vX0_above lX0_55 rfl rfl rfl rfl rfl (Nat.le_of_ble_eq_true rfl) (Nat.le_of_ble_eq_true rfl) (ok_X0_above (d + 0) r (fun a0 a1 a2 a3 S R h => Go.deep (by omega) (hr a0 a1 a2 a3 S R h)) _ _ _ _ _ _ hc_292) ?_
                            refine Go.aload_n dX0_begun_295 rfl ?_
                            refine Go.iconst (v := 2) dX0_begun_296 (by decide) ?_
                            refine Go.iconst (v := 2) dX0_begun_297 (by decide) ?_
                            refine Go.iload_n dX0_begun_298 rfl ?_
                            obtain ⟨r_299, hc_299, hF⟩ := Option.bind_eq_some_iff.mp hF
                            refine Go.callV [_, _, _] dX0_begun_299 kX0_own vX0_own lX0_41 rfl rfl rfl rfl rfl (Nat.le_of_ble_eq_true rfl) (Nat.le_of_ble_eq_true rfl) (ok_X0_own (d + 0) r (fun a0 a1 a2 a3 S R h => Go.deep (by omega) (hr a0 a1 a2 a3 S R h)) _ _ _ _ _ hc_299) ?_
                            refine Go.iadd dX0_begun_302 ?_
                            obtain rfl := Option.some.inj hF
                            exact Go.iret (st := []) dX0_begun_303 rfl rfl ⟨rfl, rfl⟩
                          · have hF := ite_f hs_30_12 hF
                            by_cases hs_30_13 : x1 = 81
                            · have hF := ite_t hs_30_13 hF
                              refine Go.lookup (tgt := 304) dX0_begun_30 (by decide) (by first | (rw [hs_30_13]; done) | (rw [hs_30_13]; rfl) | (rw [hs_30_13]; decide)) (by decide) ?_
                              refine Go.aload_n dX0_begun_304 rfl ?_
                              refine Go.bipush (v := 7) dX0_begun_305 (by decide) ?_
                              refine Go.iconst (v := 0) dX0_begun_307 (by decide) ?_
                              refine Go.iload_n dX0_begun_308 rfl ?_
                              refine Go.iload_n dX0_begun_309 rfl ?_
                              obtain ⟨r_310, hc_310, hF⟩ := Option.bind_eq_some_iff.mp hF
                              refine Go.callV [_, _, _, _] dX0_begun_310 kX0_above vX0_above lX0_55 rfl rfl rfl rfl rfl (Nat.le_of_ble_eq_true rfl) (Nat.le_of_ble_eq_true rfl) (ok_X0_above (d + 0) r (fun a0 a1 a2 a3 S R h => Go.deep (by omega) (hr a0 a1 a2 a3 S R h)) _ _ _ _ _ _ hc_310) ?_
                              refine Go.iconst (v := 1) dX0_begun_313 (by decide) ?_
                              refine Go.isub dX0_begun_314 ?_
                              obtain rfl := Option.some.inj hF
                              exact Go.iret (st := []) dX0_begun_315 rfl rfl ⟨rfl, rfl⟩
                            · have hF := ite_f hs_30_13 hF
                              refine Go.lookup (tgt := 316) dX0_begun_30 (by decide) (sw_X0_begun_30 _ hs_30_0 hs_30_1 hs_30_2 hs_30_3 hs_30_4 hs_30_5 hs_30_6 hs_30_7 hs_30_8 hs_30_9 hs_30_10 hs_30_11 hs_30_12 hs_30_13) (by decide) ?_
                              refine Go.iconst (v := 0) dX0_begun_316 (by decide) ?_
                              obtain rfl := Option.some.inj hF
                              exact Go.iret (st := []) dX0_begun_317 rfl rfl ⟨rfl, rfl⟩
def F_X0_begun (r : Int32 → Int32 → Int32 → Int32 → St → Option (Int32 × St)) (x1 : Int32) (x2 : Int32) (x3 : Int32) (S : St) : Option (Int32 × St) :=
  if 24 ≤ (S.1 12 1) then (F_X0_begun_19 r x1 x2 x3 S) else (gd (inb (S.1 12 1) 24) (let S18 := aset S 56 (upd (S.2.1 56) (Int32.toNatClampNeg (S.1 12 1)) x1); F_X0_begun_19 r x1 x2 x3 S18))
set_option maxHeartbeats 4000000 in
set_option maxRecDepth 100000 in
theorem ok_X0_begun {l : Launch} (d : Nat) (r : Int32 → Int32 → Int32 → Int32 → St → Option (Int32 × St)) (hr : ∀ (x1 : Int32) (x2 : Int32) (x3 : Int32) (x4 : Int32) (S : St) (R : Int32 × St), r x1 x2 x3 x4 S = some R → Go l (d + 0) mX0_from (Res (some (.int R.1)) R.2) 0 [(0, .ref 12), (1, .int x1), (2, .int x2), (3, .int x3), (4, .int x4)] [] S) (x1 : Int32) (x2 : Int32) (x3 : Int32) (S : St) (R : Int32 × St) (hF : F_X0_begun r x1 x2 x3 S = some R) : Go l (d + 2) mX0_begun (Res (some (.int R.1)) R.2) 0 [(0, .ref 12), (1, .int x1), (2, .int x2), (3, .int x3)] [] S := by
  unfold F_X0_begun at hF
  refine Go.aload_n dX0_begun_0 rfl ?_
  refine Go.getI dX0_begun_1 fX0_15 rfl ?_
  refine Go.bipush (v := 24) dX0_begun_4 (by decide) ?_
  refine Go.icmpge (tgt := 19) dX0_begun_6 (by decide) (fun h_6 => ?_) (fun h_6 => ?_)
  · have hF := ite_t h_6 hF
    refine Go.pick (ls' := [(0, _), (1, _), (2, _), (3, _)]) [0, 1, 2, 3] rfl ?_
    exact ok_X0_begun_19 d r hr _ _ _ _ _ hF
  · have hF := ite_f h_6 hF
    refine Go.aload_n dX0_begun_9 rfl ?_
    refine Go.getR dX0_begun_10 fX0_22 rfl ?_
    refine Go.aload_n dX0_begun_13 rfl ?_
    refine Go.getI dX0_begun_14 fX0_15 rfl ?_
    refine Go.iload_n dX0_begun_17 rfl ?_
    obtain ⟨hb_18, hF⟩ := gd_some hF
    refine Go.iast dX0_begun_18 rfl (inb_ok hb_18) ?_
    refine Go.pick (ls' := [(0, _), (1, _), (2, _), (3, _)]) [0, 1, 2, 3] rfl ?_
    exact ok_X0_begun_19 d r hr _ _ _ _ _ hF
def F_X0_from_6 (r : Int32 → Int32 → Int32 → Int32 → St → Option (Int32 × St)) : Nat → Int32 → Int32 → Int32 → Int32 → Int32 → St → Option (Int32 × St)
  | 0 => fun _ _ _ _ _ _ => none
  | n + 1 => fun x2 x3 x4 x5 x6 S =>
    if 8 ≤ x6 then (some (0, S)) else (if x5 = (-1) then (some (0, S)) else (gd (inb ((x5 * 4) + x2) 32) (if (ownT (Int32.toNatClampNeg ((x5 * 4) + x2))) = 0 then (gd (inb x5 8) ((F_X0_from_6 r n) x2 x3 x4 (aboveT (Int32.toNatClampNeg x5)) (x6 + 1) S)) else (if x4 ≤ 30 then ((F_X0_begun r (ownT (Int32.toNatClampNeg ((x5 * 4) + x2))) x3 x4 S).bind (fun r_53 => some (r_53.1, r_53.2))) else (some (0, S))))))
set_option maxHeartbeats 4000000 in
set_option maxRecDepth 100000 in
theorem ok_X0_from_6 {l : Launch} (d : Nat) (r : Int32 → Int32 → Int32 → Int32 → St → Option (Int32 × St)) (hr : ∀ (x1 : Int32) (x2 : Int32) (x3 : Int32) (x4 : Int32) (S : St) (R : Int32 × St), r x1 x2 x3 x4 S = some R → Go l (d + 0) mX0_from (Res (some (.int R.1)) R.2) 0 [(0, .ref 12), (1, .int x1), (2, .int x2), (3, .int x3), (4, .int x4)] [] S) : ∀ (n : Nat) (x2 : Int32) (x3 : Int32) (x4 : Int32) (x5 : Int32) (x6 : Int32) (S : St) (R : Int32 × St), F_X0_from_6 r n x2 x3 x4 x5 x6 S = some R → Go l (d + 3) mX0_from (Res (some (.int R.1)) R.2) 6 [(0, .ref 12), (2, .int x2), (3, .int x3), (4, .int x4), (5, .int x5), (6, .int x6)] [] S := by
  intro n
  induction n with
  | zero => intro x2 x3 x4 x5 x6 S  R hF; cases hF
  | succ n hk6 =>
    intro x2 x3 x4 x5 x6 S  R hF
    have hF : (if 8 ≤ x6 then (some (0, S)) else (if x5 = (-1) then (some (0, S)) else (gd (inb ((x5 * 4) + x2) 32) (if (ownT (Int32.toNatClampNeg ((x5 * 4) + x2))) = 0 then (gd (inb x5 8) ((F_X0_from_6 r n) x2 x3 x4 (aboveT (Int32.toNatClampNeg x5)) (x6 + 1) S)) else (if x4 ≤ 30 then ((F_X0_begun r (ownT (Int32.toNatClampNeg ((x5 * 4) + x2))) x3 x4 S).bind (fun r_53 => some (r_53.1, r_53.2))) else (some (0, S))))))) = some R := hF
    refine Go.iload dX0_from_6 rfl ?_
    refine Go.bipush (v := 8) dX0_from_8 (by decide) ?_
    refine Go.icmpge (tgt := 71) dX0_from_10 (by decide) (fun h_10 => ?_) (fun h_10 => ?_)
    · have hF := ite_t h_10 hF
      refine Go.iconst (v := 0) dX0_from_71 (by decide) ?_
      obtain rfl := Option.some.inj hF
      exact Go.iret (st := []) dX0_from_72 rfl rfl ⟨rfl, rfl⟩
    · have hF := ite_f h_10 hF
      refine Go.iload dX0_from_13 rfl ?_
      refine Go.iconst (v := (-1)) dX0_from_15 (by decide) ?_
      refine Go.icmpeq (tgt := 71) dX0_from_16 (by decide) (fun h_16 => ?_) (fun h_16 => ?_)
      · have hF := ite_t h_16 hF
        refine Go.iconst (v := 0) dX0_from_71 (by decide) ?_
        obtain rfl := Option.some.inj hF
        exact Go.iret (st := []) dX0_from_72 rfl rfl ⟨rfl, rfl⟩
      · have hF := ite_f h_16 hF
        refine Go.gsOWN dX0_from_19 fX0_49 ?_
        refine Go.iload dX0_from_22 rfl ?_
        refine Go.iconst (v := 4) dX0_from_24 (by decide) ?_
        refine Go.imul dX0_from_25 ?_
        refine Go.iload_n dX0_from_26 rfl ?_
        refine Go.iadd dX0_from_27 ?_
        obtain ⟨hb_28, hF⟩ := gd_some hF
        refine Go.tiOWN dX0_from_28 (inb_ok hb_28) ?_
        refine Go.istore (ls' := [(7, _), (0, _), (2, _), (3, _), (4, _), (5, _), (6, _)]) dX0_from_29 (by decide) rfl ?_
        refine Go.iload dX0_from_31 rfl ?_
        refine Go.ifeq (tgt := 57) dX0_from_33 (by decide) (fun h_33 => ?_) (fun h_33 => ?_)
        · have hF := ite_t h_33 hF
          refine Go.gsABOVE dX0_from_57 fX0_34 ?_
          refine Go.iload dX0_from_60 rfl ?_
          obtain ⟨hb_62, hF⟩ := gd_some hF
          refine Go.tiABOVE dX0_from_62 (inb_ok hb_62) ?_
          refine Go.istore (ls' := [(5, _), (7, _), (0, _), (2, _), (3, _), (4, _), (6, _)]) dX0_from_63 (by decide) rfl ?_
          refine Go.iincP (ls' := [(6, _), (5, _), (7, _), (0, _), (2, _), (3, _), (4, _)]) dX0_from_65 rfl (by decide) rfl ?_
          refine Go.goto (tgt := 6) dX0_from_68 (by decide) ?_
          refine Go.pick (ls' := [(0, _), (2, _), (3, _), (4, _), (5, _), (6, _)]) [3, 4, 5, 6, 1, 0] rfl ?_
          exact hk6 _ _ _ _ _ _ _ hF
        · have hF := ite_f h_33 hF
          refine Go.iload dX0_from_36 rfl ?_
          refine Go.bipush (v := 30) dX0_from_38 (by decide) ?_
          refine Go.icmple (tgt := 47) dX0_from_40 (by decide) (fun h_40 => ?_) (fun h_40 => ?_)
          · have hF := ite_t h_40 hF
            refine Go.aload_n dX0_from_47 rfl ?_
            refine Go.iload dX0_from_48 rfl ?_
            refine Go.iload_n dX0_from_50 rfl ?_
            refine Go.iload dX0_from_51 rfl ?_
            obtain ⟨r_53, hc_53, hF⟩ := Option.bind_eq_some_iff.mp hF
            refine Go.callV [_, _, _] dX0_from_53 kX0_begun vX0_begun lX0_52 rfl rfl rfl rfl rfl (Nat.le_of_ble_eq_true rfl) (Nat.le_of_ble_eq_true rfl) (ok_X0_begun (d + 0) r (fun a0 a1 a2 a3 S R h => Go.deep (by omega) (hr a0 a1 a2 a3 S R h)) _ _ _ _ _ hc_53) ?_
            obtain rfl := Option.some.inj hF
            exact Go.iret (st := []) dX0_from_56 rfl rfl ⟨rfl, rfl⟩
          · have hF := ite_f h_40 hF
            refine Go.iconst (v := 0) dX0_from_43 (by decide) ?_
            refine Go.goto (tgt := 56) dX0_from_44 (by decide) ?_
            obtain rfl := Option.some.inj hF
            exact Go.iret (st := []) dX0_from_56 rfl rfl ⟨rfl, rfl⟩
def F_X0_from (r : Int32 → Int32 → Int32 → Int32 → St → Option (Int32 × St)) (N : Nat) (x1 : Int32) (x2 : Int32) (x3 : Int32) (x4 : Int32) (S : St) : Option (Int32 × St) :=
  F_X0_from_6 r N x2 x3 x4 x1 0 S
set_option maxHeartbeats 4000000 in
set_option maxRecDepth 100000 in
theorem ok_X0_from {l : Launch} (d : Nat) (r : Int32 → Int32 → Int32 → Int32 → St → Option (Int32 × St)) (hr : ∀ (x1 : Int32) (x2 : Int32) (x3 : Int32) (x4 : Int32) (S : St) (R : Int32 × St), r x1 x2 x3 x4 S = some R → Go l (d + 0) mX0_from (Res (some (.int R.1)) R.2) 0 [(0, .ref 12), (1, .int x1), (2, .int x2), (3, .int x3), (4, .int x4)] [] S) (N : Nat) (x1 : Int32) (x2 : Int32) (x3 : Int32) (x4 : Int32) (S : St) (R : Int32 × St) (hF : F_X0_from r N x1 x2 x3 x4 S = some R) : Go l (d + 3) mX0_from (Res (some (.int R.1)) R.2) 0 [(0, .ref 12), (1, .int x1), (2, .int x2), (3, .int x3), (4, .int x4)] [] S := by
  unfold F_X0_from at hF
  refine Go.iload_n dX0_from_0 rfl ?_
  refine Go.istore (ls' := [(5, _), (0, _), (1, _), (2, _), (3, _), (4, _)]) dX0_from_1 (by decide) rfl ?_
  refine Go.iconst (v := 0) dX0_from_3 (by decide) ?_
  refine Go.istore (ls' := [(6, _), (5, _), (0, _), (1, _), (2, _), (3, _), (4, _)]) dX0_from_4 (by decide) rfl ?_
  refine Go.pick (ls' := [(0, _), (2, _), (3, _), (4, _), (5, _), (6, _)]) [2, 4, 5, 6, 1, 0] rfl ?_
  exact ok_X0_from_6 d r hr N _ _ _ _ _ _ _ hF
def rec_X0_from (N : Nat) : Nat → Int32 → Int32 → Int32 → Int32 → St → Option (Int32 × St)
  | 0 => fun _ _ _ _ _ => none
  | n + 1 => F_X0_from (rec_X0_from N n) N
theorem rec_X0_from_ok {l : Launch} (d : Nat) (N : Nat) : ∀ n : Nat, ∀ (x1 : Int32) (x2 : Int32) (x3 : Int32) (x4 : Int32) (S : St) (R : Int32 × St), rec_X0_from N n x1 x2 x3 x4 S = some R → Go l (d + 0 + 3 * n) mX0_from (Res (some (.int R.1)) R.2) 0 [(0, .ref 12), (1, .int x1), (2, .int x2), (3, .int x3), (4, .int x4)] [] S := by
  intro n
  induction n with
  | zero => intro x1 x2 x3 x4 S R hF; cases hF
  | succ n ih =>
    intro x1 x2 x3 x4 S R hF
    have hh := fun x1 x2 x3 x4 S R h => Go.deep (d' := (d + 3 * n) + 0) (by omega) (ih x1 x2 x3 x4 S R h)
    have := ok_X0_from (l := l) (d + 3 * n) (rec_X0_from N n) hh N x1 x2 x3 x4 S R hF
    exact Go.deep (by omega) this
def FF_X0_own (N : Nat) (x1 : Int32) (x2 : Int32) (x3 : Int32) (S : St) : Option (Int32 × St) := F_X0_own (rec_X0_from N 14) x1 x2 x3 S
theorem okk_X0_own {l : Launch} (d : Nat) (N : Nat) (x1 : Int32) (x2 : Int32) (x3 : Int32) (S : St) (R : Int32 × St) (hF : FF_X0_own N x1 x2 x3 S = some R) : Go l (d + 43) mX0_own (Res (some (.int R.1)) R.2) 0 [(0, .ref 12), (1, .int x1), (2, .int x2), (3, .int x3)] [] S := by
  have hh := fun y1 y2 y3 y4 S R h => Go.deep (d' := (d + 42) + 0) (by omega) (rec_X0_from_ok (l := l) (d + 0) N 14 y1 y2 y3 y4 S R h)
  have := ok_X0_own (l := l) (d + 42) (rec_X0_from N 14) hh x1 x2 x3 S R hF
  exact Go.deep (by omega) this
def F_X0_perform (N : Nat) (x1 : Int32) (x2 : Int32) (x3 : Int32) (S : St) : Option (Int32 × St) :=
  let S2 := fset S 12 1 0; (F_X0_has x1 S2).bind (fun r_7 => if r_7.1 = 0 then (some (0, r_7.2)) else (if x2 < 0 then (some (0, r_7.2)) else (if x2 < 4 then (let S26 := fset r_7.2 12 4 x1; (FF_X0_own N x2 x3 (0 : Int32) S26).bind (fun r_33 => some (r_33.1, r_33.2))) else (some (0, r_7.2)))))
set_option maxHeartbeats 4000000 in
set_option maxRecDepth 100000 in
theorem ok_X0_perform {l : Launch} (d : Nat) (N : Nat) (x1 : Int32) (x2 : Int32) (x3 : Int32) (S : St) (R : Int32 × St) (hF : F_X0_perform N x1 x2 x3 S = some R) : Go l (d + 44) mX0_perform (Res (some (.int R.1)) R.2) 0 [(0, .ref 12), (1, .int x1), (2, .int x2), (3, .int x3)] [] S := by
  unfold F_X0_perform at hF
  refine Go.aload_n dX0_perform_0 rfl ?_
  refine Go.iconst (v := 0) dX0_perform_1 (by decide) ?_
  refine Go.putI dX0_perform_2 fX0_15 rfl ?_
  refine Go.aload_n dX0_perform_5 rfl ?_
  refine Go.iload_n dX0_perform_6 rfl ?_
  obtain ⟨r_7, hc_7, hF⟩ := Option.bind_eq_some_iff.mp hF
  refine Go.callV [_] dX0_perform_7 kX0_has vX0_has lX0_37 rfl rfl rfl rfl rfl (Nat.le_of_ble_eq_true rfl) (Nat.le_of_ble_eq_true rfl) (ok_X0_has (d + 43) _ _ _ hc_7) ?_
  refine Go.ifeq (tgt := 22) dX0_perform_10 (by decide) (fun h_10 => ?_) (fun h_10 => ?_)
  · have hF := ite_t h_10 hF
    refine Go.iconst (v := 0) dX0_perform_22 (by decide) ?_
    obtain rfl := Option.some.inj hF
    exact Go.iret (st := []) dX0_perform_23 rfl rfl ⟨rfl, rfl⟩
  · have hF := ite_f h_10 hF
    refine Go.iload_n dX0_perform_13 rfl ?_
    refine Go.iflt (tgt := 22) dX0_perform_14 (by decide) (fun h_14 => ?_) (fun h_14 => ?_)
    · have hF := ite_t h_14 hF
      refine Go.iconst (v := 0) dX0_perform_22 (by decide) ?_
      obtain rfl := Option.some.inj hF
      exact Go.iret (st := []) dX0_perform_23 rfl rfl ⟨rfl, rfl⟩
    · have hF := ite_f h_14 hF
      refine Go.iload_n dX0_perform_17 rfl ?_
      refine Go.iconst (v := 4) dX0_perform_18 (by decide) ?_
      refine Go.icmplt (tgt := 24) dX0_perform_19 (by decide) (fun h_19 => ?_) (fun h_19 => ?_)
      · have hF := ite_t h_19 hF
        refine Go.aload_n dX0_perform_24 rfl ?_
        refine Go.iload_n dX0_perform_25 rfl ?_
        refine Go.putI dX0_perform_26 fX0_25 rfl ?_
        refine Go.aload_n dX0_perform_29 rfl ?_
        refine Go.iload_n dX0_perform_30 rfl ?_
        refine Go.iload_n dX0_perform_31 rfl ?_
        refine Go.iconst (v := 0) dX0_perform_32 (by decide) ?_
        obtain ⟨r_33, hc_33, hF⟩ := Option.bind_eq_some_iff.mp hF
        refine Go.callV [_, _, _] dX0_perform_33 kX0_own vX0_own lX0_41 rfl rfl rfl rfl rfl (Nat.le_of_ble_eq_true rfl) (Nat.le_of_ble_eq_true rfl) (okk_X0_own (d + 0) N _ _ _ _ _ hc_33) ?_
        obtain rfl := Option.some.inj hF
        exact Go.iret (st := []) dX0_perform_36 rfl rfl ⟨rfl, rfl⟩
      · have hF := ite_f h_19 hF
        refine Go.iconst (v := 0) dX0_perform_22 (by decide) ?_
        obtain rfl := Option.some.inj hF
        exact Go.iret (st := []) dX0_perform_23 rfl rfl ⟨rfl, rfl⟩
def F_X11_act (N : Nat) (x1 : Int32) (x2 : Int32) (x3 : Int32) (S : St) : Option (Int32 × St) :=
  (F_X0_perform N x1 x2 x3 S).bind (fun r_7 => some (r_7.1, r_7.2))
set_option maxHeartbeats 4000000 in
set_option maxRecDepth 100000 in
theorem ok_X11_act {l : Launch} (d : Nat) (N : Nat) (x1 : Int32) (x2 : Int32) (x3 : Int32) (S : St) (R : Int32 × St) (hF : F_X11_act N x1 x2 x3 S = some R) : Go l (d + 45) mX11_act (Res (some (.int R.1)) R.2) 0 [(0, .ref 0), (1, .int x1), (2, .int x2), (3, .int x3)] [] S := by
  unfold F_X11_act at hF
  refine Go.aload_n dX11_act_0 rfl ?_
  refine Go.getR dX11_act_1 fX11_79 rfl ?_
  refine Go.iload_n dX11_act_4 rfl ?_
  refine Go.iload_n dX11_act_5 rfl ?_
  refine Go.iload_n dX11_act_6 rfl ?_
  obtain ⟨r_7, hc_7, hF⟩ := Option.bind_eq_some_iff.mp hF
  refine Go.callV [_, _, _] dX11_act_7 kX0_perform vX0_perform lX11_301 rfl rfl rfl rfl rfl (Nat.le_of_ble_eq_true rfl) (Nat.le_of_ble_eq_true rfl) (ok_X0_perform (d + 0) N _ _ _ _ _ hc_7) ?_
  obtain rfl := Option.some.inj hF
  exact Go.iret (st := []) dX11_act_10 rfl rfl ⟨rfl, rfl⟩
