/-! small methods, as the code has them: no premise but bounds of rows -/
set_option maxHeartbeats 4000000 in
set_option maxRecDepth 100000 in
theorem c_X11_isPart (l : Launch) (d : Nat) (S : St) (x : Int32)  : Go l d mX11_isPart (Res (some (.int (bI (decide (¬ x < 0 ∧ ¬ 6 ≤ x))))) S) 0 [(0, .int x)] [] S := by
  refine Go.iload_n dX11_isPart_0 rfl ?_
  refine Go.iflt (tgt := 14) dX11_isPart_1 (by decide) (fun h_1 => ?_) (fun h_1 => ?_)
  · refine Go.iconst (v := 0) dX11_isPart_14 (by decide) ?_
    exact Go.iret dX11_isPart_15 rfl rfl (res_i (by simp [bI, *]) rfl)
  · refine Go.iload_n dX11_isPart_4 rfl ?_
    refine Go.bipush (v := 6) dX11_isPart_5 (by decide) ?_
    refine Go.icmpge (tgt := 14) dX11_isPart_7 (by decide) (fun h_7 => ?_) (fun h_7 => ?_)
    · refine Go.iconst (v := 0) dX11_isPart_14 (by decide) ?_
      exact Go.iret dX11_isPart_15 rfl rfl (res_i (by simp [bI, *]) rfl)
    · refine Go.iconst (v := 1) dX11_isPart_10 (by decide) ?_
      refine Go.goto (tgt := 15) dX11_isPart_11 (by decide) ?_
      exact Go.iret dX11_isPart_15 rfl rfl (res_i (by simp [bI, *]) rfl)
set_option maxHeartbeats 4000000 in
set_option maxRecDepth 100000 in
theorem c_X11_isNoShelf (l : Launch) (d : Nat) (S : St) (x : Int32)  : Go l d mX11_isNoShelf (Res (some (.int (bI (decide (x < 0 ∨ 6 ≤ x))))) S) 0 [(0, .int x)] [] S := by
  refine Go.iload_n dX11_isNoShelf_0 rfl ?_
  refine Go.iflt (tgt := 10) dX11_isNoShelf_1 (by decide) (fun h_1 => ?_) (fun h_1 => ?_)
  · refine Go.iconst (v := 1) dX11_isNoShelf_10 (by decide) ?_
    refine Go.goto (tgt := 15) dX11_isNoShelf_11 (by decide) ?_
    exact Go.iret dX11_isNoShelf_15 rfl rfl (res_i (by simp [bI, *]) rfl)
  · refine Go.iload_n dX11_isNoShelf_4 rfl ?_
    refine Go.bipush (v := 6) dX11_isNoShelf_5 (by decide) ?_
    refine Go.icmplt (tgt := 14) dX11_isNoShelf_7 (by decide) (fun h_7 => ?_) (fun h_7 => ?_)
    · refine Go.iconst (v := 0) dX11_isNoShelf_14 (by decide) ?_
      exact Go.iret dX11_isNoShelf_15 rfl rfl (res_i (by simp [bI, *]) rfl)
    · refine Go.iconst (v := 1) dX11_isNoShelf_10 (by decide) ?_
      refine Go.goto (tgt := 15) dX11_isNoShelf_11 (by decide) ?_
      exact Go.iret dX11_isNoShelf_15 rfl rfl (res_i (by simp [bI, *]) rfl)
set_option maxHeartbeats 4000000 in
set_option maxRecDepth 100000 in
theorem c_X11_isNoKind (l : Launch) (d : Nat) (S : St) (x : Int32)  : Go l d mX11_isNoKind (Res (some (.int (bI (decide (x < 0 ∨ 8 ≤ x))))) S) 0 [(0, .int x)] [] S := by
  refine Go.iload_n dX11_isNoKind_0 rfl ?_
  refine Go.iflt (tgt := 10) dX11_isNoKind_1 (by decide) (fun h_1 => ?_) (fun h_1 => ?_)
  · refine Go.iconst (v := 1) dX11_isNoKind_10 (by decide) ?_
    refine Go.goto (tgt := 15) dX11_isNoKind_11 (by decide) ?_
    exact Go.iret dX11_isNoKind_15 rfl rfl (res_i (by simp [bI, *]) rfl)
  · refine Go.iload_n dX11_isNoKind_4 rfl ?_
    refine Go.bipush (v := 8) dX11_isNoKind_5 (by decide) ?_
    refine Go.icmplt (tgt := 14) dX11_isNoKind_7 (by decide) (fun h_7 => ?_) (fun h_7 => ?_)
    · refine Go.iconst (v := 0) dX11_isNoKind_14 (by decide) ?_
      exact Go.iret dX11_isNoKind_15 rfl rfl (res_i (by simp [bI, *]) rfl)
    · refine Go.iconst (v := 1) dX11_isNoKind_10 (by decide) ?_
      refine Go.goto (tgt := 15) dX11_isNoKind_11 (by decide) ?_
      exact Go.iret dX11_isNoKind_15 rfl rfl (res_i (by simp [bI, *]) rfl)
set_option maxHeartbeats 4000000 in
set_option maxRecDepth 100000 in
theorem c_X11_isNoFigure (l : Launch) (d : Nat) (S : St) (x : Int32)  : Go l d mX11_isNoFigure (Res (some (.int (bI (decide (x < 0 ∨ 4 < x))))) S) 0 [(0, .int x)] [] S := by
  refine Go.iload_n dX11_isNoFigure_0 rfl ?_
  refine Go.iflt (tgt := 9) dX11_isNoFigure_1 (by decide) (fun h_1 => ?_) (fun h_1 => ?_)
  · refine Go.iconst (v := 1) dX11_isNoFigure_9 (by decide) ?_
    refine Go.goto (tgt := 14) dX11_isNoFigure_10 (by decide) ?_
    exact Go.iret dX11_isNoFigure_14 rfl rfl (res_i (by simp [bI, *]) rfl)
  · refine Go.iload_n dX11_isNoFigure_4 rfl ?_
    refine Go.iconst (v := 4) dX11_isNoFigure_5 (by decide) ?_
    refine Go.icmple (tgt := 13) dX11_isNoFigure_6 (by decide) (fun h_6 => ?_) (fun h_6 => ?_)
    · refine Go.iconst (v := 0) dX11_isNoFigure_13 (by decide) ?_
      exact Go.iret dX11_isNoFigure_14 rfl rfl (res_i (by simp [bI, *]) rfl)
    · refine Go.iconst (v := 1) dX11_isNoFigure_9 (by decide) ?_
      refine Go.goto (tgt := 14) dX11_isNoFigure_10 (by decide) ?_
      exact Go.iret dX11_isNoFigure_14 rfl rfl (res_i (by simp [bI, *]) rfl)
set_option maxHeartbeats 4000000 in
set_option maxRecDepth 100000 in
theorem c_X8_isFull (l : Launch) (d : Nat) (S : St)   : Go l d mX8_isFull (Res (some (.int (bI (decide (¬ S.1 1 0 < 20))))) S) 0 [(0, .ref 1)] [] S := by
  refine Go.aload_n dX8_isFull_0 rfl ?_
  refine Go.getI dX8_isFull_1 fX8_9 rfl ?_
  refine Go.bipush (v := 20) dX8_isFull_4 (by decide) ?_
  refine Go.icmplt (tgt := 13) dX8_isFull_6 (by decide) (fun h_6 => ?_) (fun h_6 => ?_)
  · refine Go.iconst (v := 0) dX8_isFull_13 (by decide) ?_
    exact Go.iret dX8_isFull_14 rfl rfl (res_i (by simp [bI, *]) rfl)
  · refine Go.iconst (v := 1) dX8_isFull_9 (by decide) ?_
    refine Go.goto (tgt := 14) dX8_isFull_10 (by decide) ?_
    exact Go.iret dX8_isFull_14 rfl rfl (res_i (by simp [bI, *]) rfl)
set_option maxHeartbeats 4000000 in
set_option maxRecDepth 100000 in
theorem c_X8_has (l : Launch) (d : Nat) (S : St) (x : Int32)  : Go l d mX8_has (Res (some (.int (bI (decide (¬ x < 0 ∧ ¬ S.1 1 0 ≤ x))))) S) 0 [(0, .ref 1), (1, .int x)] [] S := by
  refine Go.iload_n dX8_has_0 rfl ?_
  refine Go.iflt (tgt := 16) dX8_has_1 (by decide) (fun h_1 => ?_) (fun h_1 => ?_)
  · refine Go.iconst (v := 0) dX8_has_16 (by decide) ?_
    exact Go.iret dX8_has_17 rfl rfl (res_i (by simp [bI, *]) rfl)
  · refine Go.iload_n dX8_has_4 rfl ?_
    refine Go.aload_n dX8_has_5 rfl ?_
    refine Go.getI dX8_has_6 fX8_9 rfl ?_
    refine Go.icmpge (tgt := 16) dX8_has_9 (by decide) (fun h_9 => ?_) (fun h_9 => ?_)
    · refine Go.iconst (v := 0) dX8_has_16 (by decide) ?_
      exact Go.iret dX8_has_17 rfl rfl (res_i (by simp [bI, *]) rfl)
    · refine Go.iconst (v := 1) dX8_has_12 (by decide) ?_
      refine Go.goto (tgt := 17) dX8_has_13 (by decide) ?_
      exact Go.iret dX8_has_17 rfl rfl (res_i (by simp [bI, *]) rfl)
set_option maxHeartbeats 4000000 in
set_option maxRecDepth 100000 in
theorem c_X12_in (l : Launch) (d : Nat) (S : St) (x y z : Int32)  : Go l d mX12_in (Res (some (.int (bI (decide (¬ x < y ∧ ¬ z < x))))) S) 0 [(0, .int x), (1, .int y), (2, .int z)] [] S := by
  refine Go.iload_n dX12_in_0 rfl ?_
  refine Go.iload_n dX12_in_1 rfl ?_
  refine Go.icmplt (tgt := 14) dX12_in_2 (by decide) (fun h_2 => ?_) (fun h_2 => ?_)
  · refine Go.iconst (v := 0) dX12_in_14 (by decide) ?_
    exact Go.iret dX12_in_15 rfl rfl (res_i (by simp [bI, *]) rfl)
  · refine Go.iload_n dX12_in_5 rfl ?_
    refine Go.iload_n dX12_in_6 rfl ?_
    refine Go.icmpgt (tgt := 14) dX12_in_7 (by decide) (fun h_7 => ?_) (fun h_7 => ?_)
    · refine Go.iconst (v := 0) dX12_in_14 (by decide) ?_
      exact Go.iret dX12_in_15 rfl rfl (res_i (by simp [bI, *]) rfl)
    · refine Go.iconst (v := 1) dX12_in_10 (by decide) ?_
      refine Go.goto (tgt := 15) dX12_in_11 (by decide) ?_
      exact Go.iret dX12_in_15 rfl rfl (res_i (by simp [bI, *]) rfl)
set_option maxHeartbeats 4000000 in
set_option maxRecDepth 100000 in
theorem c_X12_held (l : Launch) (d : Nat) (S : St) (x y z : Int32)  : Go l d mX12_held (Res (some (.int (if y ≤ x then (if x ≤ z then x else z) else y))) S) 0 [(0, .int x), (1, .int y), (2, .int z)] [] S := by
  refine Go.iload_n dX12_held_0 rfl ?_
  refine Go.iload_n dX12_held_1 rfl ?_
  refine Go.icmpge (tgt := 9) dX12_held_2 (by decide) (fun h_2 => ?_) (fun h_2 => ?_)
  · refine Go.iload_n dX12_held_9 rfl ?_
    refine Go.iload_n dX12_held_10 rfl ?_
    refine Go.icmple (tgt := 18) dX12_held_11 (by decide) (fun h_11 => ?_) (fun h_11 => ?_)
    · refine Go.iload_n dX12_held_18 rfl ?_
      exact Go.iret dX12_held_19 rfl rfl (res_i (by simp [*]) rfl)
    · refine Go.iload_n dX12_held_14 rfl ?_
      refine Go.goto (tgt := 19) dX12_held_15 (by decide) ?_
      exact Go.iret dX12_held_19 rfl rfl (res_i (by simp [*]) rfl)
  · refine Go.iload_n dX12_held_5 rfl ?_
    refine Go.goto (tgt := 19) dX12_held_6 (by decide) ?_
    exact Go.iret dX12_held_19 rfl rfl (res_i (by simp [*]) rfl)
set_option maxHeartbeats 4000000 in
set_option maxRecDepth 100000 in
theorem c_X12_isLine (l : Launch) (d : Nat) (S : St) (x : Int32)  : Go l (d + 1) mX12_isLine (Res (some (.int (bI (decide (¬ x < 0 ∧ ¬ S.1 63 1 - 1 < x))))) S) 0 [(0, .ref 63), (1, .int x)] [] S := by
  refine Go.iload_n dX12_isLine_0 rfl ?_
  refine Go.iconst (v := 0) dX12_isLine_1 (by decide) ?_
  refine Go.aload_n dX12_isLine_2 rfl ?_
  refine Go.getI dX12_isLine_3 fX12_141 rfl ?_
  refine Go.iconst (v := 1) dX12_isLine_6 (by decide) ?_
  refine Go.isub dX12_isLine_7 ?_
  refine Go.callS [_, _, _] dX12_isLine_8 kX12_in sX12_in lX12_144 rfl rfl (by decide) (by decide) (c_X12_in _ _ _ _ _ _) ?_
  exact Go.iret dX12_isLine_11 rfl (bI_n _) ⟨rfl, rfl⟩
set_option maxHeartbeats 4000000 in
set_option maxRecDepth 100000 in
theorem c_X12_isPart (l : Launch) (d : Nat) (S : St) (x : Int32)  : Go l (d + 1) mX12_isPart (Res (some (.int (bI (decide (¬ x < 0 ∧ ¬ 5 < x))))) S) 0 [(0, .int x)] [] S := by
  refine Go.iload_n dX12_isPart_0 rfl ?_
  refine Go.iconst (v := 0) dX12_isPart_1 (by decide) ?_
  refine Go.iconst (v := 5) dX12_isPart_2 (by decide) ?_
  refine Go.callS [_, _, _] dX12_isPart_3 kX12_in sX12_in lX12_144 rfl rfl (by decide) (by decide) (c_X12_in _ _ _ _ _ _) ?_
  exact Go.iret dX12_isPart_6 rfl (bI_n _) ⟨rfl, rfl⟩
set_option maxHeartbeats 4000000 in
set_option maxRecDepth 100000 in
theorem c_X12_isShelf (l : Launch) (d : Nat) (S : St) (x : Int32)  : Go l (d + 1) mX12_isShelf (Res (some (.int (bI (decide (¬ x < 0 ∧ ¬ 5 < x))))) S) 0 [(0, .int x)] [] S := by
  refine Go.iload_n dX12_isShelf_0 rfl ?_
  refine Go.iconst (v := 0) dX12_isShelf_1 (by decide) ?_
  refine Go.iconst (v := 5) dX12_isShelf_2 (by decide) ?_
  refine Go.callS [_, _, _] dX12_isShelf_3 kX12_in sX12_in lX12_144 rfl rfl (by decide) (by decide) (c_X12_in _ _ _ _ _ _) ?_
  exact Go.iret dX12_isShelf_6 rfl (bI_n _) ⟨rfl, rfl⟩
set_option maxHeartbeats 4000000 in
set_option maxRecDepth 100000 in
theorem c_X12_isBody (l : Launch) (d : Nat) (S : St) (x : Int32)  : Go l (d + 1) mX12_isBody (Res (some (.int (bI (decide (¬ x < 0 ∧ ¬ S.1 63 55 - 1 < x))))) S) 0 [(0, .ref 63), (1, .int x)] [] S := by
  refine Go.iload_n dX12_isBody_0 rfl ?_
  refine Go.iconst (v := 0) dX12_isBody_1 (by decide) ?_
  refine Go.aload_n dX12_isBody_2 rfl ?_
  refine Go.getI dX12_isBody_3 fX12_357 rfl ?_
  refine Go.iconst (v := 1) dX12_isBody_6 (by decide) ?_
  refine Go.isub dX12_isBody_7 ?_
  refine Go.callS [_, _, _] dX12_isBody_8 kX12_in sX12_in lX12_144 rfl rfl (by decide) (by decide) (c_X12_in _ _ _ _ _ _) ?_
  exact Go.iret dX12_isBody_11 rfl (bI_n _) ⟨rfl, rfl⟩
set_option maxHeartbeats 4000000 in
set_option maxRecDepth 100000 in
theorem c_X12_isJump (l : Launch) (d : Nat) (S : St) (x y : Int32) (hx : vp_in x 20) (hy : vp_in y 20) : Go l d mX12_isJump (Res (some (.int (bI (decide (S.2.1 65 y.toNatClampNeg = S.2.1 66 x.toNatClampNeg ∧ ¬ y = x ∧ ¬ y = x + 1))))) S) 0 [(0, .ref 63), (1, .int x), (2, .int y)] [] S := by
  refine Go.aload_n dX12_isJump_0 rfl ?_
  refine Go.getR dX12_isJump_1 fX12_13 rfl ?_
  refine Go.iload_n dX12_isJump_4 rfl ?_
  refine Go.iald dX12_isJump_5 rfl (by first | assumption | omega) ?_
  refine Go.aload_n dX12_isJump_6 rfl ?_
  refine Go.getR dX12_isJump_7 fX12_16 rfl ?_
  refine Go.iload_n dX12_isJump_10 rfl ?_
  refine Go.iald dX12_isJump_11 rfl (by first | assumption | omega) ?_
  refine Go.icmpne (tgt := 31) dX12_isJump_12 (by decide) (fun h_12 => ?_) (fun h_12 => ?_)
  · refine Go.iconst (v := 0) dX12_isJump_31 (by decide) ?_
    exact Go.iret dX12_isJump_32 rfl rfl (res_i (by simp [bI, *]) rfl)
  · refine Go.iload_n dX12_isJump_15 rfl ?_
    refine Go.iload_n dX12_isJump_16 rfl ?_
    refine Go.icmpeq (tgt := 31) dX12_isJump_17 (by decide) (fun h_17 => ?_) (fun h_17 => ?_)
    · refine Go.iconst (v := 0) dX12_isJump_31 (by decide) ?_
      exact Go.iret dX12_isJump_32 rfl rfl (res_i (by simp [bI, *]) rfl)
    · refine Go.iload_n dX12_isJump_20 rfl ?_
      refine Go.iload_n dX12_isJump_21 rfl ?_
      refine Go.iconst (v := 1) dX12_isJump_22 (by decide) ?_
      refine Go.iadd dX12_isJump_23 ?_
      refine Go.icmpeq (tgt := 31) dX12_isJump_24 (by decide) (fun h_24 => ?_) (fun h_24 => ?_)
      · refine Go.iconst (v := 0) dX12_isJump_31 (by decide) ?_
        exact Go.iret dX12_isJump_32 rfl rfl (res_i (by simp [bI, *]) rfl)
      · refine Go.iconst (v := 1) dX12_isJump_27 (by decide) ?_
        refine Go.goto (tgt := 32) dX12_isJump_28 (by decide) ?_
        exact Go.iret dX12_isJump_32 rfl rfl (res_i (by simp [bI, *]) rfl)
