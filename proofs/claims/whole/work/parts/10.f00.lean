def F_X12_isJump (x1 : Int32) (x2 : Int32) (S : St) : Option (Int32 × St) :=
  gd (inb x2 20) (gd (inb x1 20) (if (S.2.1 65 (Int32.toNatClampNeg x2)) = (S.2.1 66 (Int32.toNatClampNeg x1)) then (if x2 = x1 then (some (0, S)) else (if x2 = (x1 + 1) then (some (0, S)) else (some (1, S)))) else (some (0, S))))
set_option maxHeartbeats 4000000 in
set_option maxRecDepth 100000 in
theorem ok_X12_isJump {l : Launch} (d : Nat) (x1 : Int32) (x2 : Int32) (S : St) (R : Int32 × St) (hF : F_X12_isJump x1 x2 S = some R) : Go l (d + 0) mX12_isJump (Res (some (.int R.1)) R.2) 0 [(0, .ref 63), (1, .int x1), (2, .int x2)] [] S := by
  unfold F_X12_isJump at hF
  refine Go.aload_n dX12_isJump_0 rfl ?_
  refine Go.getR dX12_isJump_1 fX12_13 rfl ?_
  refine Go.iload_n dX12_isJump_4 rfl ?_
  obtain ⟨hb_5, hF⟩ := gd_some hF
  refine Go.iald dX12_isJump_5 rfl (inb_ok hb_5) ?_
  refine Go.aload_n dX12_isJump_6 rfl ?_
  refine Go.getR dX12_isJump_7 fX12_16 rfl ?_
  refine Go.iload_n dX12_isJump_10 rfl ?_
  obtain ⟨hb_11, hF⟩ := gd_some hF
  refine Go.iald dX12_isJump_11 rfl (inb_ok hb_11) ?_
  refine Go.icmpne (tgt := 31) dX12_isJump_12 (by decide) (fun h_12 => ?_) (fun h_12 => ?_)
  · have hF := ite_f h_12 hF
    refine Go.iconst (v := 0) dX12_isJump_31 (by decide) ?_
    obtain rfl := Option.some.inj hF
    exact Go.iret dX12_isJump_32 rfl rfl ⟨rfl, rfl⟩
  · have hF := ite_t h_12 hF
    refine Go.iload_n dX12_isJump_15 rfl ?_
    refine Go.iload_n dX12_isJump_16 rfl ?_
    refine Go.icmpeq (tgt := 31) dX12_isJump_17 (by decide) (fun h_17 => ?_) (fun h_17 => ?_)
    · have hF := ite_t h_17 hF
      refine Go.iconst (v := 0) dX12_isJump_31 (by decide) ?_
      obtain rfl := Option.some.inj hF
      exact Go.iret dX12_isJump_32 rfl rfl ⟨rfl, rfl⟩
    · have hF := ite_f h_17 hF
      refine Go.iload_n dX12_isJump_20 rfl ?_
      refine Go.iload_n dX12_isJump_21 rfl ?_
      refine Go.iconst (v := 1) dX12_isJump_22 (by decide) ?_
      refine Go.iadd dX12_isJump_23 ?_
      refine Go.icmpeq (tgt := 31) dX12_isJump_24 (by decide) (fun h_24 => ?_) (fun h_24 => ?_)
      · have hF := ite_t h_24 hF
        refine Go.iconst (v := 0) dX12_isJump_31 (by decide) ?_
        obtain rfl := Option.some.inj hF
        exact Go.iret dX12_isJump_32 rfl rfl ⟨rfl, rfl⟩
      · have hF := ite_f h_24 hF
        refine Go.iconst (v := 1) dX12_isJump_27 (by decide) ?_
        refine Go.goto (tgt := 32) dX12_isJump_28 (by decide) ?_
        obtain rfl := Option.some.inj hF
        exact Go.iret dX12_isJump_32 rfl rfl ⟨rfl, rfl⟩
def F_X12_jumpsFrom_4 : Nat → Int32 → Int32 → Int32 → St → Option (Int32 × St)
  | 0 => fun _ _ _ _ => none
  | n + 1 => fun x1 x2 x3 S =>
    if (S.1 63 1) ≤ x3 then (some (x2, S)) else ((F_X12_isJump x1 x3 S).bind (fun r_15 => if r_15.1 = 0 then ((F_X12_jumpsFrom_4 n) x1 x2 (x3 + 1) r_15.2) else ((F_X12_jumpsFrom_4 n) x1 (x2 + 1) (x3 + 1) r_15.2)))
set_option maxHeartbeats 4000000 in
set_option maxRecDepth 100000 in
theorem ok_X12_jumpsFrom_4 {l : Launch} (d : Nat) : ∀ (n : Nat) (x1 : Int32) (x2 : Int32) (x3 : Int32) (S : St) (R : Int32 × St), F_X12_jumpsFrom_4 n x1 x2 x3 S = some R → Go l (d + 1) mX12_jumpsFrom (Res (some (.int R.1)) R.2) 4 [(0, .ref 63), (1, .int x1), (2, .int x2), (3, .int x3)] [] S := by
  intro n
  induction n with
  | zero => intro x1 x2 x3 S  R hF; cases hF
  | succ n hk4 =>
    intro x1 x2 x3 S  R hF
    have hF : (if (S.1 63 1) ≤ x3 then (some (x2, S)) else ((F_X12_isJump x1 x3 S).bind (fun r_15 => if r_15.1 = 0 then ((F_X12_jumpsFrom_4 n) x1 x2 (x3 + 1) r_15.2) else ((F_X12_jumpsFrom_4 n) x1 (x2 + 1) (x3 + 1) r_15.2)))) = some R := hF
    refine Go.iload_n dX12_jumpsFrom_4 rfl ?_
    refine Go.aload_n dX12_jumpsFrom_5 rfl ?_
    refine Go.getI dX12_jumpsFrom_6 fX12_141 rfl ?_
    refine Go.icmpge (tgt := 30) dX12_jumpsFrom_9 (by decide) (fun h_9 => ?_) (fun h_9 => ?_)
    · have hF := ite_t h_9 hF
      refine Go.iload_n dX12_jumpsFrom_30 rfl ?_
      obtain rfl := Option.some.inj hF
      exact Go.iret dX12_jumpsFrom_31 rfl rfl ⟨rfl, rfl⟩
    · have hF := ite_f h_9 hF
      refine Go.aload_n dX12_jumpsFrom_12 rfl ?_
      refine Go.iload_n dX12_jumpsFrom_13 rfl ?_
      refine Go.iload_n dX12_jumpsFrom_14 rfl ?_
      obtain ⟨r_15, hc_15, hF⟩ := Option.bind_eq_some_iff.mp hF
      refine Go.callV [_, _] dX12_jumpsFrom_15 kX12_isJump vX12_isJump lX12_264 rfl rfl rfl rfl rfl (by decide) (by decide) (ok_X12_isJump (d + 0) _ _ _ _ hc_15) ?_
      refine Go.ifeq (tgt := 24) dX12_jumpsFrom_18 (by decide) (fun h_18 => ?_) (fun h_18 => ?_)
      · have hF := ite_t h_18 hF
        refine Go.iincP (ls' := [(3, _), (0, _), (1, _), (2, _)]) dX12_jumpsFrom_24 rfl (by decide) rfl ?_
        refine Go.goto (tgt := 4) dX12_jumpsFrom_27 (by decide) ?_
        refine Go.pick (ls' := [(0, _), (1, _), (2, _), (3, _)]) [1, 2, 3, 0] rfl ?_
        exact hk4 _ _ _ _ _ hF
      · have hF := ite_f h_18 hF
        refine Go.iincP (ls' := [(2, _), (0, _), (1, _), (3, _)]) dX12_jumpsFrom_21 rfl (by decide) rfl ?_
        refine Go.iincP (ls' := [(3, _), (2, _), (0, _), (1, _)]) dX12_jumpsFrom_24 rfl (by decide) rfl ?_
        refine Go.goto (tgt := 4) dX12_jumpsFrom_27 (by decide) ?_
        refine Go.pick (ls' := [(0, _), (1, _), (2, _), (3, _)]) [2, 3, 1, 0] rfl ?_
        exact hk4 _ _ _ _ _ hF
def F_X12_jumpsFrom (N : Nat) (x1 : Int32) (S : St) : Option (Int32 × St) :=
  F_X12_jumpsFrom_4 N x1 0 0 S
set_option maxHeartbeats 4000000 in
set_option maxRecDepth 100000 in
theorem ok_X12_jumpsFrom {l : Launch} (d : Nat) (N : Nat) (x1 : Int32) (S : St) (R : Int32 × St) (hF : F_X12_jumpsFrom N x1 S = some R) : Go l (d + 1) mX12_jumpsFrom (Res (some (.int R.1)) R.2) 0 [(0, .ref 63), (1, .int x1)] [] S := by
  unfold F_X12_jumpsFrom at hF
  refine Go.iconst (v := 0) dX12_jumpsFrom_0 (by decide) ?_
  refine Go.istore_n (ls' := [(2, _), (0, _), (1, _)]) dX12_jumpsFrom_1 (by decide) rfl ?_
  refine Go.iconst (v := 0) dX12_jumpsFrom_2 (by decide) ?_
  refine Go.istore_n (ls' := [(3, _), (2, _), (0, _), (1, _)]) dX12_jumpsFrom_3 (by decide) rfl ?_
  refine Go.pick (ls' := [(0, _), (1, _), (2, _), (3, _)]) [2, 3, 1, 0] rfl ?_
  exact ok_X12_jumpsFrom_4 d N _ _ _ _ _ hF
def F_X8_has (x1 : Int32) (S : St) : Option (Int32 × St) :=
  if x1 < 0 then (some (0, S)) else (if (S.1 1 0) ≤ x1 then (some (0, S)) else (some (1, S)))
set_option maxHeartbeats 4000000 in
set_option maxRecDepth 100000 in
theorem ok_X8_has {l : Launch} (d : Nat) (x1 : Int32) (S : St) (R : Int32 × St) (hF : F_X8_has x1 S = some R) : Go l (d + 0) mX8_has (Res (some (.int R.1)) R.2) 0 [(0, .ref 1), (1, .int x1)] [] S := by
  unfold F_X8_has at hF
  refine Go.iload_n dX8_has_0 rfl ?_
  refine Go.iflt (tgt := 16) dX8_has_1 (by decide) (fun h_1 => ?_) (fun h_1 => ?_)
  · have hF := ite_t h_1 hF
    refine Go.iconst (v := 0) dX8_has_16 (by decide) ?_
    obtain rfl := Option.some.inj hF
    exact Go.iret dX8_has_17 rfl rfl ⟨rfl, rfl⟩
  · have hF := ite_f h_1 hF
    refine Go.iload_n dX8_has_4 rfl ?_
    refine Go.aload_n dX8_has_5 rfl ?_
    refine Go.getI dX8_has_6 fX8_9 rfl ?_
    refine Go.icmpge (tgt := 16) dX8_has_9 (by decide) (fun h_9 => ?_) (fun h_9 => ?_)
    · have hF := ite_t h_9 hF
      refine Go.iconst (v := 0) dX8_has_16 (by decide) ?_
      obtain rfl := Option.some.inj hF
      exact Go.iret dX8_has_17 rfl rfl ⟨rfl, rfl⟩
    · have hF := ite_f h_9 hF
      refine Go.iconst (v := 1) dX8_has_12 (by decide) ?_
      refine Go.goto (tgt := 17) dX8_has_13 (by decide) ?_
      obtain rfl := Option.some.inj hF
      exact Go.iret dX8_has_17 rfl rfl ⟨rfl, rfl⟩
def F_X8_jumpsFrom (x1 : Int32) (S : St) : Option (Int32 × St) :=
  gd (inb x1 20) (gd (inb (S.2.1 23 (Int32.toNatClampNeg x1)) 10) (some ((S.2.1 29 (Int32.toNatClampNeg (S.2.1 23 (Int32.toNatClampNeg x1)))) &&& ((3 <<< (x1 &&& 31)) ^^^ (-1)), S)))
set_option maxHeartbeats 4000000 in
set_option maxRecDepth 100000 in
theorem ok_X8_jumpsFrom {l : Launch} (d : Nat) (x1 : Int32) (S : St) (R : Int32 × St) (hF : F_X8_jumpsFrom x1 S = some R) : Go l (d + 0) mX8_jumpsFrom (Res (some (.int R.1)) R.2) 0 [(0, .ref 1), (1, .int x1)] [] S := by
  unfold F_X8_jumpsFrom at hF
  refine Go.aload_n dX8_jumpsFrom_0 rfl ?_
  refine Go.getR dX8_jumpsFrom_1 fX8_40 rfl ?_
  refine Go.aload_n dX8_jumpsFrom_4 rfl ?_
  refine Go.getR dX8_jumpsFrom_5 fX8_22 rfl ?_
  refine Go.iload_n dX8_jumpsFrom_8 rfl ?_
  obtain ⟨hb_9, hF⟩ := gd_some hF
  refine Go.iald dX8_jumpsFrom_9 rfl (inb_ok hb_9) ?_
  obtain ⟨hb_10, hF⟩ := gd_some hF
  refine Go.iald dX8_jumpsFrom_10 rfl (inb_ok hb_10) ?_
  refine Go.iconst (v := 3) dX8_jumpsFrom_11 (by decide) ?_
  refine Go.iload_n dX8_jumpsFrom_12 rfl ?_
  refine Go.ishl dX8_jumpsFrom_13 ?_
  refine Go.iconst (v := (-1)) dX8_jumpsFrom_14 (by decide) ?_
  refine Go.ixor dX8_jumpsFrom_15 ?_
  refine Go.iand dX8_jumpsFrom_16 ?_
  obtain rfl := Option.some.inj hF
  exact Go.iret dX8_jumpsFrom_17 rfl rfl ⟨rfl, rfl⟩
def F_X8_isJump (x1 : Int32) (x2 : Int32) (S : St) : Option (Int32 × St) :=
  (F_X8_has x1 S).bind (fun r_2 => if r_2.1 = 0 then (some (0, r_2.2)) else ((F_X8_has x2 r_2.2).bind (fun r_10 => if r_10.1 = 0 then (some (0, r_10.2)) else ((F_X8_jumpsFrom x1 r_10.2).bind (fun r_18 => if ((r_18.1 >>> (x2 &&& 31)) &&& 1) = 0 then (some (0, r_18.2)) else (some (1, r_18.2)))))))
set_option maxHeartbeats 4000000 in
set_option maxRecDepth 100000 in
theorem ok_X8_isJump {l : Launch} (d : Nat) (x1 : Int32) (x2 : Int32) (S : St) (R : Int32 × St) (hF : F_X8_isJump x1 x2 S = some R) : Go l (d + 1) mX8_isJump (Res (some (.int R.1)) R.2) 0 [(0, .ref 1), (1, .int x1), (2, .int x2)] [] S := by
  unfold F_X8_isJump at hF
  refine Go.aload_n dX8_isJump_0 rfl ?_
  refine Go.iload_n dX8_isJump_1 rfl ?_
  obtain ⟨r_2, hc_2, hF⟩ := Option.bind_eq_some_iff.mp hF
  refine Go.callV [_] dX8_isJump_2 kX8_has vX8_has lX8_63 rfl rfl rfl rfl rfl (by decide) (by decide) (ok_X8_has (d + 0) _ _ _ hc_2) ?_
  refine Go.ifeq (tgt := 32) dX8_isJump_5 (by decide) (fun h_5 => ?_) (fun h_5 => ?_)
  · have hF := ite_t h_5 hF
    refine Go.iconst (v := 0) dX8_isJump_32 (by decide) ?_
    obtain rfl := Option.some.inj hF
    exact Go.iret dX8_isJump_33 rfl rfl ⟨rfl, rfl⟩
  · have hF := ite_f h_5 hF
    refine Go.aload_n dX8_isJump_8 rfl ?_
    refine Go.iload_n dX8_isJump_9 rfl ?_
    obtain ⟨r_10, hc_10, hF⟩ := Option.bind_eq_some_iff.mp hF
    refine Go.callV [_] dX8_isJump_10 kX8_has vX8_has lX8_63 rfl rfl rfl rfl rfl (by decide) (by decide) (ok_X8_has (d + 0) _ _ _ hc_10) ?_
    refine Go.ifeq (tgt := 32) dX8_isJump_13 (by decide) (fun h_13 => ?_) (fun h_13 => ?_)
    · have hF := ite_t h_13 hF
      refine Go.iconst (v := 0) dX8_isJump_32 (by decide) ?_
      obtain rfl := Option.some.inj hF
      exact Go.iret dX8_isJump_33 rfl rfl ⟨rfl, rfl⟩
    · have hF := ite_f h_13 hF
      refine Go.aload_n dX8_isJump_16 rfl ?_
      refine Go.iload_n dX8_isJump_17 rfl ?_
      obtain ⟨r_18, hc_18, hF⟩ := Option.bind_eq_some_iff.mp hF
      refine Go.callV [_] dX8_isJump_18 kX8_jumpsFrom vX8_jumpsFrom lX8_76 rfl rfl rfl rfl rfl (by decide) (by decide) (ok_X8_jumpsFrom (d + 0) _ _ _ hc_18) ?_
      refine Go.iload_n dX8_isJump_21 rfl ?_
      refine Go.ishr dX8_isJump_22 ?_
      refine Go.iconst (v := 1) dX8_isJump_23 (by decide) ?_
      refine Go.iand dX8_isJump_24 ?_
      refine Go.ifeq (tgt := 32) dX8_isJump_25 (by decide) (fun h_25 => ?_) (fun h_25 => ?_)
      · have hF := ite_t h_25 hF
        refine Go.iconst (v := 0) dX8_isJump_32 (by decide) ?_
        obtain rfl := Option.some.inj hF
        exact Go.iret dX8_isJump_33 rfl rfl ⟨rfl, rfl⟩
      · have hF := ite_f h_25 hF
        refine Go.iconst (v := 1) dX8_isJump_28 (by decide) ?_
        refine Go.goto (tgt := 33) dX8_isJump_29 (by decide) ?_
        obtain rfl := Option.some.inj hF
        exact Go.iret dX8_isJump_33 rfl rfl ⟨rfl, rfl⟩
def F_X11_isPart (x0 : Int32) (S : St) : Option (Int32 × St) :=
  if x0 < 0 then (some (0, S)) else (if 6 ≤ x0 then (some (0, S)) else (some (1, S)))
set_option maxHeartbeats 4000000 in
set_option maxRecDepth 100000 in
theorem ok_X11_isPart {l : Launch} (d : Nat) (x0 : Int32) (S : St) (R : Int32 × St) (hF : F_X11_isPart x0 S = some R) : Go l (d + 0) mX11_isPart (Res (some (.int R.1)) R.2) 0 [(0, .int x0)] [] S := by
  unfold F_X11_isPart at hF
  refine Go.iload_n dX11_isPart_0 rfl ?_
  refine Go.iflt (tgt := 14) dX11_isPart_1 (by decide) (fun h_1 => ?_) (fun h_1 => ?_)
  · have hF := ite_t h_1 hF
    refine Go.iconst (v := 0) dX11_isPart_14 (by decide) ?_
    obtain rfl := Option.some.inj hF
    exact Go.iret dX11_isPart_15 rfl rfl ⟨rfl, rfl⟩
  · have hF := ite_f h_1 hF
    refine Go.iload_n dX11_isPart_4 rfl ?_
    refine Go.bipush (v := 6) dX11_isPart_5 (by decide) ?_
    refine Go.icmpge (tgt := 14) dX11_isPart_7 (by decide) (fun h_7 => ?_) (fun h_7 => ?_)
    · have hF := ite_t h_7 hF
      refine Go.iconst (v := 0) dX11_isPart_14 (by decide) ?_
      obtain rfl := Option.some.inj hF
      exact Go.iret dX11_isPart_15 rfl rfl ⟨rfl, rfl⟩
    · have hF := ite_f h_7 hF
      refine Go.iconst (v := 1) dX11_isPart_10 (by decide) ?_
      refine Go.goto (tgt := 15) dX11_isPart_11 (by decide) ?_
      obtain rfl := Option.some.inj hF
      exact Go.iret dX11_isPart_15 rfl rfl ⟨rfl, rfl⟩
def F_X8_mayBe (x0 : Int32) (x1 : Int32) (x2 : Int32) (x3 : Int32) (x4 : Int32) (S : St) : Option (Int32 × St) :=
  (F_X11_isPart x0 S).bind (fun r_1 => if r_1.1 = 0 then (some (0, r_1.2)) else (if x1 < 0 then (some (0, r_1.2)) else (if 10 ≤ x1 then (some (0, r_1.2)) else (if x2 < 0 then (some (0, r_1.2)) else (if 10 ≤ x2 then (some (0, r_1.2)) else (if x3 < 1 then (some (0, r_1.2)) else (if 30 < x3 then (some (0, r_1.2)) else (if x4 < 0 then (some (0, r_1.2)) else (if 255 < x4 then (some (0, r_1.2)) else (some (1, r_1.2)))))))))))
set_option maxHeartbeats 4000000 in
set_option maxRecDepth 100000 in
theorem ok_X8_mayBe {l : Launch} (d : Nat) (x0 : Int32) (x1 : Int32) (x2 : Int32) (x3 : Int32) (x4 : Int32) (S : St) (R : Int32 × St) (hF : F_X8_mayBe x0 x1 x2 x3 x4 S = some R) : Go l (d + 1) mX8_mayBe (Res (some (.int R.1)) R.2) 0 [(0, .int x0), (1, .int x1), (2, .int x2), (3, .int x3), (4, .int x4)] [] S := by
  unfold F_X8_mayBe at hF
  refine Go.iload_n dX8_mayBe_0 rfl ?_
  obtain ⟨r_1, hc_1, hF⟩ := Option.bind_eq_some_iff.mp hF
  refine Go.callPart [_] rfl dX8_mayBe_1 kX11_isPart sX11_isPart rfl rfl (by decide) (by decide) (ok_X11_isPart (d + 0) _ _ _ hc_1) (fun v' S' h' => ?_)
  obtain ⟨rfl, rfl⟩ := h'
  refine Go.ifeq (tgt := 55) dX8_mayBe_4 (by decide) (fun h_4 => ?_) (fun h_4 => ?_)
  · have hF := ite_t h_4 hF
    refine Go.iconst (v := 0) dX8_mayBe_55 (by decide) ?_
    obtain rfl := Option.some.inj hF
    exact Go.iret dX8_mayBe_56 rfl rfl ⟨rfl, rfl⟩
  · have hF := ite_f h_4 hF
    refine Go.iload_n dX8_mayBe_7 rfl ?_
    refine Go.iflt (tgt := 55) dX8_mayBe_8 (by decide) (fun h_8 => ?_) (fun h_8 => ?_)
    · have hF := ite_t h_8 hF
      refine Go.iconst (v := 0) dX8_mayBe_55 (by decide) ?_
      obtain rfl := Option.some.inj hF
      exact Go.iret dX8_mayBe_56 rfl rfl ⟨rfl, rfl⟩
    · have hF := ite_f h_8 hF
      refine Go.iload_n dX8_mayBe_11 rfl ?_
      refine Go.bipush (v := 10) dX8_mayBe_12 (by decide) ?_
      refine Go.icmpge (tgt := 55) dX8_mayBe_14 (by decide) (fun h_14 => ?_) (fun h_14 => ?_)
      · have hF := ite_t h_14 hF
        refine Go.iconst (v := 0) dX8_mayBe_55 (by decide) ?_
        obtain rfl := Option.some.inj hF
        exact Go.iret dX8_mayBe_56 rfl rfl ⟨rfl, rfl⟩
      · have hF := ite_f h_14 hF
        refine Go.iload_n dX8_mayBe_17 rfl ?_
        refine Go.iflt (tgt := 55) dX8_mayBe_18 (by decide) (fun h_18 => ?_) (fun h_18 => ?_)
        · have hF := ite_t h_18 hF
          refine Go.iconst (v := 0) dX8_mayBe_55 (by decide) ?_
          obtain rfl := Option.some.inj hF
          exact Go.iret dX8_mayBe_56 rfl rfl ⟨rfl, rfl⟩
        · have hF := ite_f h_18 hF
          refine Go.iload_n dX8_mayBe_21 rfl ?_
          refine Go.bipush (v := 10) dX8_mayBe_22 (by decide) ?_
          refine Go.icmpge (tgt := 55) dX8_mayBe_24 (by decide) (fun h_24 => ?_) (fun h_24 => ?_)
          · have hF := ite_t h_24 hF
            refine Go.iconst (v := 0) dX8_mayBe_55 (by decide) ?_
            obtain rfl := Option.some.inj hF
            exact Go.iret dX8_mayBe_56 rfl rfl ⟨rfl, rfl⟩
          · have hF := ite_f h_24 hF
            refine Go.iload_n dX8_mayBe_27 rfl ?_
            refine Go.iconst (v := 1) dX8_mayBe_28 (by decide) ?_
            refine Go.icmplt (tgt := 55) dX8_mayBe_29 (by decide) (fun h_29 => ?_) (fun h_29 => ?_)
            · have hF := ite_t h_29 hF
              refine Go.iconst (v := 0) dX8_mayBe_55 (by decide) ?_
              obtain rfl := Option.some.inj hF
              exact Go.iret dX8_mayBe_56 rfl rfl ⟨rfl, rfl⟩
            · have hF := ite_f h_29 hF
              refine Go.iload_n dX8_mayBe_32 rfl ?_
              refine Go.bipush (v := 30) dX8_mayBe_33 (by decide) ?_
              refine Go.icmpgt (tgt := 55) dX8_mayBe_35 (by decide) (fun h_35 => ?_) (fun h_35 => ?_)
              · have hF := ite_t h_35 hF
                refine Go.iconst (v := 0) dX8_mayBe_55 (by decide) ?_
                obtain rfl := Option.some.inj hF
                exact Go.iret dX8_mayBe_56 rfl rfl ⟨rfl, rfl⟩
              · have hF := ite_f h_35 hF
                refine Go.iload dX8_mayBe_38 rfl ?_
                refine Go.iflt (tgt := 55) dX8_mayBe_40 (by decide) (fun h_40 => ?_) (fun h_40 => ?_)
                · have hF := ite_t h_40 hF
                  refine Go.iconst (v := 0) dX8_mayBe_55 (by decide) ?_
                  obtain rfl := Option.some.inj hF
                  exact Go.iret dX8_mayBe_56 rfl rfl ⟨rfl, rfl⟩
                · have hF := ite_f h_40 hF
                  refine Go.iload dX8_mayBe_43 rfl ?_
                  refine Go.sipush (v := 255) dX8_mayBe_45 (by decide) ?_
                  refine Go.icmpgt (tgt := 55) dX8_mayBe_48 (by decide) (fun h_48 => ?_) (fun h_48 => ?_)
                  · have hF := ite_t h_48 hF
                    refine Go.iconst (v := 0) dX8_mayBe_55 (by decide) ?_
                    obtain rfl := Option.some.inj hF
                    exact Go.iret dX8_mayBe_56 rfl rfl ⟨rfl, rfl⟩
                  · have hF := ite_f h_48 hF
                    refine Go.iconst (v := 1) dX8_mayBe_51 (by decide) ?_
                    refine Go.goto (tgt := 56) dX8_mayBe_52 (by decide) ?_
                    obtain rfl := Option.some.inj hF
                    exact Go.iret dX8_mayBe_56 rfl rfl ⟨rfl, rfl⟩
