def F_X8_isFull (S : St) : Option (Int32 × St) :=
  if (S.1 1 0) < 20 then (some (0, S)) else (some (1, S))
set_option maxHeartbeats 4000000 in
set_option maxRecDepth 100000 in
theorem ok_X8_isFull {l : Launch} (d : Nat) (S : St) (R : Int32 × St) (hF : F_X8_isFull S = some R) : Go l (d + 0) mX8_isFull (Res (some (.int R.1)) R.2) 0 [(0, .ref 1)] [] S := by
  unfold F_X8_isFull at hF
  refine Go.aload_n dX8_isFull_0 rfl ?_
  refine Go.getI dX8_isFull_1 fX8_9 rfl ?_
  refine Go.bipush (v := 20) dX8_isFull_4 (by decide) ?_
  refine Go.icmplt (tgt := 13) dX8_isFull_6 (by decide) (fun h_6 => ?_) (fun h_6 => ?_)
  · have hF := ite_t h_6 hF
    refine Go.iconst (v := 0) dX8_isFull_13 (by decide) ?_
    obtain rfl := Option.some.inj hF
    exact Go.iret (st := []) dX8_isFull_14 rfl rfl ⟨rfl, rfl⟩
  · have hF := ite_f h_6 hF
    refine Go.iconst (v := 1) dX8_isFull_9 (by decide) ?_
    refine Go.goto (tgt := 14) dX8_isFull_10 (by decide) ?_
    obtain rfl := Option.some.inj hF
    exact Go.iret (st := []) dX8_isFull_14 rfl rfl ⟨rfl, rfl⟩
def F_X8_add (x1 : Int32) (x2 : Int32) (x3 : Int32) (x4 : Int32) (S : St) : Option (Int32 × St) :=
  gd (inb (S.1 1 0) 20) (let S16 := aset S 21 (upd (S.2.1 21) (Int32.toNatClampNeg (S.1 1 0)) (x1 / 100)); gd (inb (S.1 1 0) 20) (let S30 := aset S16 22 (upd (S16.2.1 22) (Int32.toNatClampNeg (S.1 1 0)) ((x1 / 10) - ((x1 / 10) / 10) * 10)); gd (inb (S.1 1 0) 20) (let S41 := aset S30 23 (upd (S30.2.1 23) (Int32.toNatClampNeg (S.1 1 0)) (x1 - (x1 / 10) * 10)); gd (inb (S.1 1 0) 20) (let S49 := aset S41 24 (upd (S41.2.1 24) (Int32.toNatClampNeg (S.1 1 0)) x2); gd (inb (S.1 1 0) 20) (let S57 := aset S49 25 (upd (S49.2.1 25) (Int32.toNatClampNeg (S.1 1 0)) x3); gd (inb (S.1 1 0) 20) (let S66 := aset S57 26 (upd (S57.2.1 26) (Int32.toNatClampNeg (S.1 1 0)) x4); gd (inb (S.1 1 0) 20) (let S75 := aset S66 27 (upd (S66.2.1 27) (Int32.toNatClampNeg (S.1 1 0)) (50 : Int32)); gd (inb (S.1 1 0) 20) (gd (inb (S75.2.1 22 (Int32.toNatClampNeg (S.1 1 0))) 10) (gd (inb (S75.2.1 22 (Int32.toNatClampNeg (S.1 1 0))) 10) (let S94 := aset S75 29 (upd (S75.2.1 29) (Int32.toNatClampNeg (S75.2.1 22 (Int32.toNatClampNeg (S.1 1 0)))) ((S75.2.1 29 (Int32.toNatClampNeg (S75.2.1 22 (Int32.toNatClampNeg (S.1 1 0))))) ||| (1 <<< ((S.1 1 0) &&& 31)))); let S102 := fset S94 1 0 ((S94.1 1 0) + 1); some (S.1 1 0, S102)))))))))))
set_option maxHeartbeats 4000000 in
set_option maxRecDepth 100000 in
theorem ok_X8_add {l : Launch} (d : Nat) (x1 : Int32) (x2 : Int32) (x3 : Int32) (x4 : Int32) (S : St) (R : Int32 × St) (hF : F_X8_add x1 x2 x3 x4 S = some R) : Go l (d + 0) mX8_add (Res (some (.int R.1)) R.2) 0 [(0, .ref 1), (1, .int x1), (2, .int x2), (3, .int x3), (4, .int x4)] [] S := by
  unfold F_X8_add at hF
  refine Go.aload_n dX8_add_0 rfl ?_
  refine Go.getI dX8_add_1 fX8_9 rfl ?_
  refine Go.istore (ls' := [(5, _), (0, _), (1, _), (2, _), (3, _), (4, _)]) dX8_add_4 (by decide) rfl ?_
  refine Go.aload_n dX8_add_6 rfl ?_
  refine Go.getR dX8_add_7 fX8_15 rfl ?_
  refine Go.iload dX8_add_10 rfl ?_
  refine Go.iload_n dX8_add_12 rfl ?_
  refine Go.bipush (v := 100) dX8_add_13 (by decide) ?_
  refine Go.idiv dX8_add_15 (by decide) ?_
  obtain ⟨hb_16, hF⟩ := gd_some hF
  refine Go.iast dX8_add_16 rfl (inb_ok hb_16) ?_
  refine Go.aload_n dX8_add_17 rfl ?_
  refine Go.getR dX8_add_18 fX8_19 rfl ?_
  refine Go.iload dX8_add_21 rfl ?_
  refine Go.iload_n dX8_add_23 rfl ?_
  refine Go.bipush (v := 10) dX8_add_24 (by decide) ?_
  refine Go.idiv dX8_add_26 (by decide) ?_
  refine Go.bipush (v := 10) dX8_add_27 (by decide) ?_
  refine Go.irem dX8_add_29 (by decide) ?_
  obtain ⟨hb_30, hF⟩ := gd_some hF
  refine Go.iast dX8_add_30 rfl (inb_ok hb_30) ?_
  refine Go.aload_n dX8_add_31 rfl ?_
  refine Go.getR dX8_add_32 fX8_22 rfl ?_
  refine Go.iload dX8_add_35 rfl ?_
  refine Go.iload_n dX8_add_37 rfl ?_
  refine Go.bipush (v := 10) dX8_add_38 (by decide) ?_
  refine Go.irem dX8_add_40 (by decide) ?_
  obtain ⟨hb_41, hF⟩ := gd_some hF
  refine Go.iast dX8_add_41 rfl (inb_ok hb_41) ?_
  refine Go.aload_n dX8_add_42 rfl ?_
  refine Go.getR dX8_add_43 fX8_25 rfl ?_
  refine Go.iload dX8_add_46 rfl ?_
  refine Go.iload_n dX8_add_48 rfl ?_
  obtain ⟨hb_49, hF⟩ := gd_some hF
  refine Go.iast dX8_add_49 rfl (inb_ok hb_49) ?_
  refine Go.aload_n dX8_add_50 rfl ?_
  refine Go.getR dX8_add_51 fX8_28 rfl ?_
  refine Go.iload dX8_add_54 rfl ?_
  refine Go.iload_n dX8_add_56 rfl ?_
  obtain ⟨hb_57, hF⟩ := gd_some hF
  refine Go.iast dX8_add_57 rfl (inb_ok hb_57) ?_
  refine Go.aload_n dX8_add_58 rfl ?_
  refine Go.getR dX8_add_59 fX8_31 rfl ?_
  refine Go.iload dX8_add_62 rfl ?_
  refine Go.iload dX8_add_64 rfl ?_
  obtain ⟨hb_66, hF⟩ := gd_some hF
  refine Go.iast dX8_add_66 rfl (inb_ok hb_66) ?_
  refine Go.aload_n dX8_add_67 rfl ?_
  refine Go.getR dX8_add_68 fX8_34 rfl ?_
  refine Go.iload dX8_add_71 rfl ?_
  refine Go.bipush (v := 50) dX8_add_73 (by decide) ?_
  obtain ⟨hb_75, hF⟩ := gd_some hF
  refine Go.iast dX8_add_75 rfl (inb_ok hb_75) ?_
  refine Go.aload_n dX8_add_76 rfl ?_
  refine Go.getR dX8_add_77 fX8_40 rfl ?_
  refine Go.aload_n dX8_add_80 rfl ?_
  refine Go.getR dX8_add_81 fX8_19 rfl ?_
  refine Go.iload dX8_add_84 rfl ?_
  obtain ⟨hb_86, hF⟩ := gd_some hF
  refine Go.iald dX8_add_86 rfl (inb_ok hb_86) ?_
  refine Go.dup2 dX8_add_87 rfl rfl ?_
  obtain ⟨hb_88, hF⟩ := gd_some hF
  refine Go.iald dX8_add_88 rfl (inb_ok hb_88) ?_
  refine Go.iconst (v := 1) dX8_add_89 (by decide) ?_
  refine Go.iload dX8_add_90 rfl ?_
  refine Go.ishl dX8_add_92 ?_
  refine Go.ior dX8_add_93 ?_
  obtain ⟨hb_94, hF⟩ := gd_some hF
  refine Go.iast dX8_add_94 rfl (inb_ok hb_94) ?_
  refine Go.aload_n dX8_add_95 rfl ?_
  refine Go.dup dX8_add_96 rfl ?_
  refine Go.getI dX8_add_97 fX8_9 rfl ?_
  refine Go.iconst (v := 1) dX8_add_100 (by decide) ?_
  refine Go.iadd dX8_add_101 ?_
  refine Go.putI dX8_add_102 fX8_9 rfl ?_
  refine Go.iload dX8_add_105 rfl ?_
  obtain rfl := Option.some.inj hF
  exact Go.iret (st := []) dX8_add_107 rfl rfl ⟨rfl, rfl⟩
theorem sw_X8_about_1 (x : Int32) (h0 : ¬ x = 0) (h1 : ¬ x = 1) (h2 : ¬ x = 2) (h3 : ¬ x = 3) (h4 : ¬ x = 4) (h5 : ¬ x = 5) (h6 : ¬ x = 6) (h7 : ¬ x = 7) (h8 : ¬ x = 8) (h9 : ¬ x = 9) : swO 131 0 9 #[55, 62, 69, 76, 83, 90, 97, 104, 110, 122] x = 131 := by
  by_cases h : x.toInt < 0 ∨ 9 < x.toInt
  · unfold swO; rw [if_pos h]
  · have hx : x = 0 ∨ x = 1 ∨ x = 2 ∨ x = 3 ∨ x = 4 ∨ x = 5 ∨ x = 6 ∨ x = 7 ∨ x = 8 ∨ x = 9 := by
      have e : ∀ v : Int32, x.toInt = v.toInt → x = v := fun v h => Int32.toInt_inj.mp h
      have : x.toInt = 0 ∨ x.toInt = 1 ∨ x.toInt = 2 ∨ x.toInt = 3 ∨ x.toInt = 4 ∨ x.toInt = 5 ∨ x.toInt = 6 ∨ x.toInt = 7 ∨ x.toInt = 8 ∨ x.toInt = 9 := by omega
      rcases this with h | h | h | h | h | h | h | h | h | h
      · exact Or.inl (e 0 h)
      · exact Or.inr (Or.inl (e 1 h))
      · exact Or.inr (Or.inr (Or.inl (e 2 h)))
      · exact Or.inr (Or.inr (Or.inr (Or.inl (e 3 h))))
      · exact Or.inr (Or.inr (Or.inr (Or.inr (Or.inl (e 4 h)))))
      · exact Or.inr (Or.inr (Or.inr (Or.inr (Or.inr (Or.inl (e 5 h))))))
      · exact Or.inr (Or.inr (Or.inr (Or.inr (Or.inr (Or.inr (Or.inl (e 6 h)))))))
      · exact Or.inr (Or.inr (Or.inr (Or.inr (Or.inr (Or.inr (Or.inr (Or.inl (e 7 h))))))))
      · exact Or.inr (Or.inr (Or.inr (Or.inr (Or.inr (Or.inr (Or.inr (Or.inr (Or.inl (e 8 h)))))))))
      · exact Or.inr (Or.inr (Or.inr (Or.inr (Or.inr (Or.inr (Or.inr (Or.inr (Or.inr (e 9 h)))))))))
    rcases hx with rfl | rfl | rfl | rfl | rfl | rfl | rfl | rfl | rfl | rfl <;> first | rfl | (exact absurd rfl (by assumption))
def F_X8_about (N : Nat) (x1 : Int32) (x2 : Int32) (S : St) : Option (Int32 × St) :=
  if x2 = 0 then (gd (inb x1 20) (some (S.2.1 21 (Int32.toNatClampNeg x1), S))) else (if x2 = 1 then (gd (inb x1 20) (some (S.2.1 22 (Int32.toNatClampNeg x1), S))) else (if x2 = 2 then (gd (inb x1 20) (some (S.2.1 23 (Int32.toNatClampNeg x1), S))) else (if x2 = 3 then (gd (inb x1 20) (some (S.2.1 24 (Int32.toNatClampNeg x1), S))) else (if x2 = 4 then (gd (inb x1 20) (some (S.2.1 25 (Int32.toNatClampNeg x1), S))) else (if x2 = 5 then (gd (inb x1 20) (some (S.2.1 26 (Int32.toNatClampNeg x1), S))) else (if x2 = 6 then (gd (inb x1 20) (some (S.2.1 27 (Int32.toNatClampNeg x1), S))) else (if x2 = 7 then ((F_X8_knows N x1 S).bind (fun r_107 => some (r_107.1, r_107.2))) else (if x2 = 8 then (gd (inb x1 20) ((F_X8_gains N x1 (S.2.1 27 (Int32.toNatClampNeg x1)) S).bind (fun r_119 => some (r_119.1, r_119.2)))) else (if x2 = 9 then ((F_X8_jumpsFrom x1 S).bind (fun r_125 => (F_J6_bitCount_0f7a4 r_125.1 r_125.2).bind (fun r_128 => some (r_128.1, r_128.2)))) else (some ((-1), S)))))))))))
set_option maxHeartbeats 4000000 in
set_option maxRecDepth 100000 in
theorem ok_X8_about {l : Launch} (d : Nat) (N : Nat) (x1 : Int32) (x2 : Int32) (S : St) (R : Int32 × St) (hF : F_X8_about N x1 x2 S = some R) : Go l (d + 5) mX8_about (Res (some (.int R.1)) R.2) 0 [(0, .ref 1), (1, .int x1), (2, .int x2)] [] S := by
  unfold F_X8_about at hF
  refine Go.iload_n dX8_about_0 rfl ?_
  by_cases hs_1_0 : x2 = 0
  · have hF := ite_t hs_1_0 hF
    refine Go.swT (tgt := 56) dX8_about_1 (by first | (rw [hs_1_0]; done) | (rw [hs_1_0]; rfl) | (rw [hs_1_0]; decide)) (by decide) (by decide) ?_
    refine Go.aload_n dX8_about_56 rfl ?_
    refine Go.getR dX8_about_57 fX8_15 rfl ?_
    refine Go.iload_n dX8_about_60 rfl ?_
    obtain ⟨hb_61, hF⟩ := gd_some hF
    refine Go.iald dX8_about_61 rfl (inb_ok hb_61) ?_
    obtain rfl := Option.some.inj hF
    exact Go.iret (st := []) dX8_about_62 rfl rfl ⟨rfl, rfl⟩
  · have hF := ite_f hs_1_0 hF
    by_cases hs_1_1 : x2 = 1
    · have hF := ite_t hs_1_1 hF
      refine Go.swT (tgt := 63) dX8_about_1 (by first | (rw [hs_1_1]; done) | (rw [hs_1_1]; rfl) | (rw [hs_1_1]; decide)) (by decide) (by decide) ?_
      refine Go.aload_n dX8_about_63 rfl ?_
      refine Go.getR dX8_about_64 fX8_19 rfl ?_
      refine Go.iload_n dX8_about_67 rfl ?_
      obtain ⟨hb_68, hF⟩ := gd_some hF
      refine Go.iald dX8_about_68 rfl (inb_ok hb_68) ?_
      obtain rfl := Option.some.inj hF
      exact Go.iret (st := []) dX8_about_69 rfl rfl ⟨rfl, rfl⟩
    · have hF := ite_f hs_1_1 hF
      by_cases hs_1_2 : x2 = 2
      · have hF := ite_t hs_1_2 hF
        refine Go.swT (tgt := 70) dX8_about_1 (by first | (rw [hs_1_2]; done) | (rw [hs_1_2]; rfl) | (rw [hs_1_2]; decide)) (by decide) (by decide) ?_
        refine Go.aload_n dX8_about_70 rfl ?_
        refine Go.getR dX8_about_71 fX8_22 rfl ?_
        refine Go.iload_n dX8_about_74 rfl ?_
        obtain ⟨hb_75, hF⟩ := gd_some hF
        refine Go.iald dX8_about_75 rfl (inb_ok hb_75) ?_
        obtain rfl := Option.some.inj hF
        exact Go.iret (st := []) dX8_about_76 rfl rfl ⟨rfl, rfl⟩
      · have hF := ite_f hs_1_2 hF
        by_cases hs_1_3 : x2 = 3
        · have hF := ite_t hs_1_3 hF
          refine Go.swT (tgt := 77) dX8_about_1 (by first | (rw [hs_1_3]; done) | (rw [hs_1_3]; rfl) | (rw [hs_1_3]; decide)) (by decide) (by decide) ?_
          refine Go.aload_n dX8_about_77 rfl ?_
          refine Go.getR dX8_about_78 fX8_25 rfl ?_
          refine Go.iload_n dX8_about_81 rfl ?_
          obtain ⟨hb_82, hF⟩ := gd_some hF
          refine Go.iald dX8_about_82 rfl (inb_ok hb_82) ?_
          obtain rfl := Option.some.inj hF
          exact Go.iret (st := []) dX8_about_83 rfl rfl ⟨rfl, rfl⟩
        · have hF := ite_f hs_1_3 hF
          by_cases hs_1_4 : x2 = 4
          · have hF := ite_t hs_1_4 hF
            refine Go.swT (tgt := 84) dX8_about_1 (by first | (rw [hs_1_4]; done) | (rw [hs_1_4]; rfl) | (rw [hs_1_4]; decide)) (by decide) (by decide) ?_
            refine Go.aload_n dX8_about_84 rfl ?_
            refine Go.getR dX8_about_85 fX8_28 rfl ?_
            refine Go.iload_n dX8_about_88 rfl ?_
            obtain ⟨hb_89, hF⟩ := gd_some hF
            refine Go.iald dX8_about_89 rfl (inb_ok hb_89) ?_
            obtain rfl := Option.some.inj hF
            exact Go.iret (st := []) dX8_about_90 rfl rfl ⟨rfl, rfl⟩
          · have hF := ite_f hs_1_4 hF
            by_cases hs_1_5 : x2 = 5
            · have hF := ite_t hs_1_5 hF
              refine Go.swT (tgt := 91) dX8_about_1 (by first | (rw [hs_1_5]; done) | (rw [hs_1_5]; rfl) | (rw [hs_1_5]; decide)) (by decide) (by decide) ?_
              refine Go.aload_n dX8_about_91 rfl ?_
              refine Go.getR dX8_about_92 fX8_31 rfl ?_
              refine Go.iload_n dX8_about_95 rfl ?_
              obtain ⟨hb_96, hF⟩ := gd_some hF
              refine Go.iald dX8_about_96 rfl (inb_ok hb_96) ?_
              obtain rfl := Option.some.inj hF
              exact Go.iret (st := []) dX8_about_97 rfl rfl ⟨rfl, rfl⟩
            · have hF := ite_f hs_1_5 hF
              by_cases hs_1_6 : x2 = 6
              · have hF := ite_t hs_1_6 hF
                refine Go.swT (tgt := 98) dX8_about_1 (by first | (rw [hs_1_6]; done) | (rw [hs_1_6]; rfl) | (rw [hs_1_6]; decide)) (by decide) (by decide) ?_
                refine Go.aload_n dX8_about_98 rfl ?_
                refine Go.getR dX8_about_99 fX8_34 rfl ?_
                refine Go.iload_n dX8_about_102 rfl ?_
                obtain ⟨hb_103, hF⟩ := gd_some hF
                refine Go.iald dX8_about_103 rfl (inb_ok hb_103) ?_
                obtain rfl := Option.some.inj hF
                exact Go.iret (st := []) dX8_about_104 rfl rfl ⟨rfl, rfl⟩
              · have hF := ite_f hs_1_6 hF
                by_cases hs_1_7 : x2 = 7
                · have hF := ite_t hs_1_7 hF
                  refine Go.swT (tgt := 105) dX8_about_1 (by first | (rw [hs_1_7]; done) | (rw [hs_1_7]; rfl) | (rw [hs_1_7]; decide)) (by decide) (by decide) ?_
                  refine Go.aload_n dX8_about_105 rfl ?_
                  refine Go.iload_n dX8_about_106 rfl ?_
                  obtain ⟨r_107, hc_107, hF⟩ := Option.bind_eq_some_iff.mp hF
                  refine Go.callV [_] dX8_about_107 kX8_knows vX8_knows lX8_68 rfl rfl rfl rfl rfl (Nat.le_of_ble_eq_true rfl) (Nat.le_of_ble_eq_true rfl) (ok_X8_knows (d + 0) N _ _ _ hc_107) ?_
                  obtain rfl := Option.some.inj hF
                  exact Go.iret (st := []) dX8_about_110 rfl rfl ⟨rfl, rfl⟩
                · have hF := ite_f hs_1_7 hF
                  by_cases hs_1_8 : x2 = 8
                  · have hF := ite_t hs_1_8 hF
                    refine Go.swT (tgt := 111) dX8_about_1 (by first | (rw [hs_1_8]; done) | (rw [hs_1_8]; rfl) | (rw [hs_1_8]; decide)) (by decide) (by decide) ?_
                    refine Go.aload_n dX8_about_111 rfl ?_
                    refine Go.iload_n dX8_about_112 rfl ?_
                    refine Go.aload_n dX8_about_113 rfl ?_
                    refine Go.getR dX8_about_114 fX8_34 rfl ?_
                    refine Go.iload_n dX8_about_117 rfl ?_
                    obtain ⟨hb_118, hF⟩ := gd_some hF
                    refine Go.iald dX8_about_118 rfl (inb_ok hb_118) ?_
                    obtain ⟨r_119, hc_119, hF⟩ := Option.bind_eq_some_iff.mp hF
                    refine Go.callV [_, _] dX8_about_119 kX8_gains vX8_gains lX8_72 rfl rfl rfl rfl rfl (Nat.le_of_ble_eq_true rfl) (Nat.le_of_ble_eq_true rfl) (ok_X8_gains (d + 0) N _ _ _ _ hc_119) ?_
                    obtain rfl := Option.some.inj hF
                    exact Go.iret (st := []) dX8_about_122 rfl rfl ⟨rfl, rfl⟩
                  · have hF := ite_f hs_1_8 hF
                    by_cases hs_1_9 : x2 = 9
                    · have hF := ite_t hs_1_9 hF
                      refine Go.swT (tgt := 123) dX8_about_1 (by first | (rw [hs_1_9]; done) | (rw [hs_1_9]; rfl) | (rw [hs_1_9]; decide)) (by decide) (by decide) ?_
                      refine Go.aload_n dX8_about_123 rfl ?_
                      refine Go.iload_n dX8_about_124 rfl ?_
                      obtain ⟨r_125, hc_125, hF⟩ := Option.bind_eq_some_iff.mp hF
                      refine Go.callV [_] dX8_about_125 kX8_jumpsFrom vX8_jumpsFrom lX8_76 rfl rfl rfl rfl rfl (Nat.le_of_ble_eq_true rfl) (Nat.le_of_ble_eq_true rfl) (ok_X8_jumpsFrom (d + 4) _ _ _ hc_125) ?_
                      obtain ⟨r_128, hc_128, hF⟩ := Option.bind_eq_some_iff.mp hF
                      refine Go.callS [_] dX8_about_128 kJ6_bitCount_0f7a4 sJ6_bitCount_0f7a4 lX8_79 rfl rfl (Nat.le_of_ble_eq_true rfl) (Nat.le_of_ble_eq_true rfl) (ok_J6_bitCount_0f7a4 (d + 4) _ _ _ hc_128) ?_
                      obtain rfl := Option.some.inj hF
                      exact Go.iret (st := []) dX8_about_131 rfl rfl ⟨rfl, rfl⟩
                    · have hF := ite_f hs_1_9 hF
                      refine Go.swT (tgt := 132) dX8_about_1 (sw_X8_about_1 _ hs_1_0 hs_1_1 hs_1_2 hs_1_3 hs_1_4 hs_1_5 hs_1_6 hs_1_7 hs_1_8 hs_1_9) (by decide) (by decide) ?_
                      refine Go.iconst (v := (-1)) dX8_about_132 (by decide) ?_
                      obtain rfl := Option.some.inj hF
                      exact Go.iret (st := []) dX8_about_133 rfl rfl ⟨rfl, rfl⟩
def F_X8_linesOfPart_4 : Nat → Int32 → Int32 → Int32 → St → Option (Int32 × St)
  | 0 => fun _ _ _ _ => none
  | n + 1 => fun x1 x2 x3 S =>
    if (S.1 1 0) ≤ x3 then (some (x2, S)) else (gd (inb x3 20) (if (S.2.1 21 (Int32.toNatClampNeg x3)) = x1 then ((F_X8_linesOfPart_4 n) x1 (x2 + 1) (x3 + 1) S) else ((F_X8_linesOfPart_4 n) x1 x2 (x3 + 1) S)))
set_option maxHeartbeats 4000000 in
set_option maxRecDepth 100000 in
theorem ok_X8_linesOfPart_4 {l : Launch} (d : Nat) : ∀ (n : Nat) (x1 : Int32) (x2 : Int32) (x3 : Int32) (S : St) (R : Int32 × St), F_X8_linesOfPart_4 n x1 x2 x3 S = some R → Go l (d + 0) mX8_linesOfPart (Res (some (.int R.1)) R.2) 4 [(0, .ref 1), (1, .int x1), (2, .int x2), (3, .int x3)] [] S := by
  intro n
  induction n with
  | zero => intro x1 x2 x3 S  R hF; cases hF
  | succ n hk4 =>
    intro x1 x2 x3 S  R hF
    have hF : (if (S.1 1 0) ≤ x3 then (some (x2, S)) else (gd (inb x3 20) (if (S.2.1 21 (Int32.toNatClampNeg x3)) = x1 then ((F_X8_linesOfPart_4 n) x1 (x2 + 1) (x3 + 1) S) else ((F_X8_linesOfPart_4 n) x1 x2 (x3 + 1) S)))) = some R := hF
    refine Go.iload_n dX8_linesOfPart_4 rfl ?_
    refine Go.aload_n dX8_linesOfPart_5 rfl ?_
    refine Go.getI dX8_linesOfPart_6 fX8_9 rfl ?_
    refine Go.icmpge (tgt := 31) dX8_linesOfPart_9 (by decide) (fun h_9 => ?_) (fun h_9 => ?_)
    · have hF := ite_t h_9 hF
      refine Go.iload_n dX8_linesOfPart_31 rfl ?_
      obtain rfl := Option.some.inj hF
      exact Go.iret (st := []) dX8_linesOfPart_32 rfl rfl ⟨rfl, rfl⟩
    · have hF := ite_f h_9 hF
      refine Go.aload_n dX8_linesOfPart_12 rfl ?_
      refine Go.getR dX8_linesOfPart_13 fX8_15 rfl ?_
      refine Go.iload_n dX8_linesOfPart_16 rfl ?_
      obtain ⟨hb_17, hF⟩ := gd_some hF
      refine Go.iald dX8_linesOfPart_17 rfl (inb_ok hb_17) ?_
      refine Go.iload_n dX8_linesOfPart_18 rfl ?_
      refine Go.icmpne (tgt := 25) dX8_linesOfPart_19 (by decide) (fun h_19 => ?_) (fun h_19 => ?_)
      · have hF := ite_f h_19 hF
        refine Go.iincP (ls' := [(3, _), (0, _), (1, _), (2, _)]) dX8_linesOfPart_25 rfl (by decide) rfl ?_
        refine Go.goto (tgt := 4) dX8_linesOfPart_28 (by decide) ?_
        refine Go.pick (ls' := [(0, _), (1, _), (2, _), (3, _)]) [1, 2, 3, 0] rfl ?_
        exact hk4 _ _ _ _ _ hF
      · have hF := ite_t h_19 hF
        refine Go.iincP (ls' := [(2, _), (0, _), (1, _), (3, _)]) dX8_linesOfPart_22 rfl (by decide) rfl ?_
        refine Go.iincP (ls' := [(3, _), (2, _), (0, _), (1, _)]) dX8_linesOfPart_25 rfl (by decide) rfl ?_
        refine Go.goto (tgt := 4) dX8_linesOfPart_28 (by decide) ?_
        refine Go.pick (ls' := [(0, _), (1, _), (2, _), (3, _)]) [2, 3, 1, 0] rfl ?_
        exact hk4 _ _ _ _ _ hF
def F_X8_linesOfPart (N : Nat) (x1 : Int32) (S : St) : Option (Int32 × St) :=
  F_X8_linesOfPart_4 N x1 0 0 S
set_option maxHeartbeats 4000000 in
set_option maxRecDepth 100000 in
theorem ok_X8_linesOfPart {l : Launch} (d : Nat) (N : Nat) (x1 : Int32) (S : St) (R : Int32 × St) (hF : F_X8_linesOfPart N x1 S = some R) : Go l (d + 0) mX8_linesOfPart (Res (some (.int R.1)) R.2) 0 [(0, .ref 1), (1, .int x1)] [] S := by
  unfold F_X8_linesOfPart at hF
  refine Go.iconst (v := 0) dX8_linesOfPart_0 (by decide) ?_
  refine Go.istore_n (ls' := [(2, _), (0, _), (1, _)]) dX8_linesOfPart_1 (by decide) rfl ?_
  refine Go.iconst (v := 0) dX8_linesOfPart_2 (by decide) ?_
  refine Go.istore_n (ls' := [(3, _), (2, _), (0, _), (1, _)]) dX8_linesOfPart_3 (by decide) rfl ?_
  refine Go.pick (ls' := [(0, _), (1, _), (2, _), (3, _)]) [2, 3, 1, 0] rfl ?_
  exact ok_X8_linesOfPart_4 d N _ _ _ _ _ hF
def F_X8_isJump (x1 : Int32) (x2 : Int32) (S : St) : Option (Int32 × St) :=
  (F_X8_has x1 S).bind (fun r_2 => if r_2.1 = 0 then (some (0, r_2.2)) else ((F_X8_has x2 r_2.2).bind (fun r_10 => if r_10.1 = 0 then (some (0, r_10.2)) else ((F_X8_jumpsFrom x1 r_10.2).bind (fun r_18 => if ((r_18.1 >>> (x2 &&& 31)) &&& 1) = 0 then (some (0, r_18.2)) else (some (1, r_18.2)))))))
set_option maxHeartbeats 4000000 in
set_option maxRecDepth 100000 in
theorem ok_X8_isJump {l : Launch} (d : Nat) (x1 : Int32) (x2 : Int32) (S : St) (R : Int32 × St) (hF : F_X8_isJump x1 x2 S = some R) : Go l (d + 1) mX8_isJump (Res (some (.int R.1)) R.2) 0 [(0, .ref 1), (1, .int x1), (2, .int x2)] [] S := by
  unfold F_X8_isJump at hF
  refine Go.aload_n dX8_isJump_0 rfl ?_
  refine Go.iload_n dX8_isJump_1 rfl ?_
  obtain ⟨r_2, hc_2, hF⟩ := Option.bind_eq_some_iff.mp hF
  refine Go.callV [_] dX8_isJump_2 kX8_has vX8_has lX8_63 rfl rfl rfl rfl rfl (Nat.le_of_ble_eq_true rfl) (Nat.le_of_ble_eq_true rfl) (ok_X8_has (d + 0) _ _ _ hc_2) ?_
  refine Go.ifeq (tgt := 32) dX8_isJump_5 (by decide) (fun h_5 => ?_) (fun h_5 => ?_)
  · have hF := ite_t h_5 hF
    refine Go.iconst (v := 0) dX8_isJump_32 (by decide) ?_
    obtain rfl := Option.some.inj hF
    exact Go.iret (st := []) dX8_isJump_33 rfl rfl ⟨rfl, rfl⟩
  · have hF := ite_f h_5 hF
    refine Go.aload_n dX8_isJump_8 rfl ?_
    refine Go.iload_n dX8_isJump_9 rfl ?_
    obtain ⟨r_10, hc_10, hF⟩ := Option.bind_eq_some_iff.mp hF
    refine Go.callV [_] dX8_isJump_10 kX8_has vX8_has lX8_63 rfl rfl rfl rfl rfl (Nat.le_of_ble_eq_true rfl) (Nat.le_of_ble_eq_true rfl) (ok_X8_has (d + 0) _ _ _ hc_10) ?_
    refine Go.ifeq (tgt := 32) dX8_isJump_13 (by decide) (fun h_13 => ?_) (fun h_13 => ?_)
    · have hF := ite_t h_13 hF
      refine Go.iconst (v := 0) dX8_isJump_32 (by decide) ?_
      obtain rfl := Option.some.inj hF
      exact Go.iret (st := []) dX8_isJump_33 rfl rfl ⟨rfl, rfl⟩
    · have hF := ite_f h_13 hF
      refine Go.aload_n dX8_isJump_16 rfl ?_
      refine Go.iload_n dX8_isJump_17 rfl ?_
      obtain ⟨r_18, hc_18, hF⟩ := Option.bind_eq_some_iff.mp hF
      refine Go.callV [_] dX8_isJump_18 kX8_jumpsFrom vX8_jumpsFrom lX8_76 rfl rfl rfl rfl rfl (Nat.le_of_ble_eq_true rfl) (Nat.le_of_ble_eq_true rfl) (ok_X8_jumpsFrom (d + 0) _ _ _ hc_18) ?_
      refine Go.iload_n dX8_isJump_21 rfl ?_
      refine Go.ishr dX8_isJump_22 ?_
      refine Go.iconst (v := 1) dX8_isJump_23 (by decide) ?_
      refine Go.iand dX8_isJump_24 ?_
      refine Go.ifeq (tgt := 32) dX8_isJump_25 (by decide) (fun h_25 => ?_) (fun h_25 => ?_)
      · have hF := ite_t h_25 hF
        refine Go.iconst (v := 0) dX8_isJump_32 (by decide) ?_
        obtain rfl := Option.some.inj hF
        exact Go.iret (st := []) dX8_isJump_33 rfl rfl ⟨rfl, rfl⟩
      · have hF := ite_f h_25 hF
        refine Go.iconst (v := 1) dX8_isJump_28 (by decide) ?_
        refine Go.goto (tgt := 33) dX8_isJump_29 (by decide) ?_
        obtain rfl := Option.some.inj hF
        exact Go.iret (st := []) dX8_isJump_33 rfl rfl ⟨rfl, rfl⟩
def F_X8_risk (N : Nat) (x1 : Int32) (S : St) : Option (Int32 × St) :=
  (F_X8_knows N x1 S).bind (fun r_4 => gd (inb x1 20) (some ((100 - r_4.1) * (r_4.2.2.1 24 (Int32.toNatClampNeg x1)), r_4.2)))
set_option maxHeartbeats 4000000 in
set_option maxRecDepth 100000 in
theorem ok_X8_risk {l : Launch} (d : Nat) (N : Nat) (x1 : Int32) (S : St) (R : Int32 × St) (hF : F_X8_risk N x1 S = some R) : Go l (d + 5) mX8_risk (Res (some (.int R.1)) R.2) 0 [(0, .ref 1), (1, .int x1)] [] S := by
  unfold F_X8_risk at hF
  refine Go.bipush (v := 100) dX8_risk_0 (by decide) ?_
  refine Go.aload_n dX8_risk_2 rfl ?_
  refine Go.iload_n dX8_risk_3 rfl ?_
  obtain ⟨r_4, hc_4, hF⟩ := Option.bind_eq_some_iff.mp hF
  refine Go.callV [_] dX8_risk_4 kX8_knows vX8_knows lX8_68 rfl rfl rfl rfl rfl (Nat.le_of_ble_eq_true rfl) (Nat.le_of_ble_eq_true rfl) (ok_X8_knows (d + 0) N _ _ _ hc_4) ?_
  refine Go.isub dX8_risk_7 ?_
  refine Go.aload_n dX8_risk_8 rfl ?_
  refine Go.getR dX8_risk_9 fX8_25 rfl ?_
  refine Go.iload_n dX8_risk_12 rfl ?_
  obtain ⟨hb_13, hF⟩ := gd_some hF
  refine Go.iald dX8_risk_13 rfl (inb_ok hb_13) ?_
  refine Go.imul dX8_risk_14 ?_
  obtain rfl := Option.some.inj hF
  exact Go.iret (st := []) dX8_risk_15 rfl rfl ⟨rfl, rfl⟩
def F_X9_holdsNothing (b : Nat) (S : St) : Option (Int32 × St) :=
  if (S.1 (14 + b) 0) = 0 then (some (1, S)) else (some (0, S))
set_option maxHeartbeats 4000000 in
set_option maxRecDepth 100000 in
theorem ok_X9_holdsNothing {l : Launch} (d : Nat) (b : Nat) (S : St) (hb : b < 6) (R : Int32 × St) (hF : F_X9_holdsNothing b S = some R) : Go l (d + 0) mX9_holdsNothing (Res (some (.int R.1)) R.2) 0 [(0, .ref (14 + b))] [] S := by
  unfold F_X9_holdsNothing at hF
  refine Go.aload_n dX9_holdsNothing_0 rfl ?_
  refine Go.getI dX9_holdsNothing_1 fX9_11 (sl_X9_0 hb) ?_
  refine Go.ifne (tgt := 11) dX9_holdsNothing_4 (by decide) (fun h_4 => ?_) (fun h_4 => ?_)
  · have hF := ite_f h_4 hF
    refine Go.iconst (v := 0) dX9_holdsNothing_11 (by decide) ?_
    obtain rfl := Option.some.inj hF
    exact Go.iret (st := []) dX9_holdsNothing_12 rfl rfl ⟨rfl, rfl⟩
  · have hF := ite_t h_4 hF
    refine Go.iconst (v := 1) dX9_holdsNothing_7 (by decide) ?_
    refine Go.goto (tgt := 12) dX9_holdsNothing_8 (by decide) ?_
    obtain rfl := Option.some.inj hF
    exact Go.iret (st := []) dX9_holdsNothing_12 rfl rfl ⟨rfl, rfl⟩
def F_X9_holdsRow (b : Nat) (S : St) : Option (Int32 × St) :=
  if (S.1 (14 + b) 0) = 2 then (some (1, S)) else (some (0, S))
set_option maxHeartbeats 4000000 in
set_option maxRecDepth 100000 in
theorem ok_X9_holdsRow {l : Launch} (d : Nat) (b : Nat) (S : St) (hb : b < 6) (R : Int32 × St) (hF : F_X9_holdsRow b S = some R) : Go l (d + 0) mX9_holdsRow (Res (some (.int R.1)) R.2) 0 [(0, .ref (14 + b))] [] S := by
  unfold F_X9_holdsRow at hF
  refine Go.aload_n dX9_holdsRow_0 rfl ?_
  refine Go.getI dX9_holdsRow_1 fX9_11 (sl_X9_0 hb) ?_
  refine Go.iconst (v := 2) dX9_holdsRow_4 (by decide) ?_
  refine Go.icmpne (tgt := 12) dX9_holdsRow_5 (by decide) (fun h_5 => ?_) (fun h_5 => ?_)
  · have hF := ite_f h_5 hF
    refine Go.iconst (v := 0) dX9_holdsRow_12 (by decide) ?_
    obtain rfl := Option.some.inj hF
    exact Go.iret (st := []) dX9_holdsRow_13 rfl rfl ⟨rfl, rfl⟩
  · have hF := ite_t h_5 hF
    refine Go.iconst (v := 1) dX9_holdsRow_8 (by decide) ?_
    refine Go.goto (tgt := 13) dX9_holdsRow_9 (by decide) ?_
    obtain rfl := Option.some.inj hF
    exact Go.iret (st := []) dX9_holdsRow_13 rfl rfl ⟨rfl, rfl⟩
def F_X9_holdsRowOf (b : Nat) (x1 : Int32) (S : St) : Option (Int32 × St) :=
  if (S.1 (14 + b) 0) = 2 then (if (S.1 (14 + b) 2) = x1 then (some (1, S)) else (some (0, S))) else (some (0, S))
set_option maxHeartbeats 4000000 in
set_option maxRecDepth 100000 in
theorem ok_X9_holdsRowOf {l : Launch} (d : Nat) (b : Nat) (x1 : Int32) (S : St) (hb : b < 6) (R : Int32 × St) (hF : F_X9_holdsRowOf b x1 S = some R) : Go l (d + 0) mX9_holdsRowOf (Res (some (.int R.1)) R.2) 0 [(0, .ref (14 + b)), (1, .int x1)] [] S := by
  unfold F_X9_holdsRowOf at hF
  refine Go.aload_n dX9_holdsRowOf_0 rfl ?_
  refine Go.getI dX9_holdsRowOf_1 fX9_11 (sl_X9_0 hb) ?_
  refine Go.iconst (v := 2) dX9_holdsRowOf_4 (by decide) ?_
  refine Go.icmpne (tgt := 20) dX9_holdsRowOf_5 (by decide) (fun h_5 => ?_) (fun h_5 => ?_)
  · have hF := ite_f h_5 hF
    refine Go.iconst (v := 0) dX9_holdsRowOf_20 (by decide) ?_
    obtain rfl := Option.some.inj hF
    exact Go.iret (st := []) dX9_holdsRowOf_21 rfl rfl ⟨rfl, rfl⟩
  · have hF := ite_t h_5 hF
    refine Go.aload_n dX9_holdsRowOf_8 rfl ?_
    refine Go.getI dX9_holdsRowOf_9 fX9_18 (sl_X9_2 hb) ?_
    refine Go.iload_n dX9_holdsRowOf_12 rfl ?_
    refine Go.icmpne (tgt := 20) dX9_holdsRowOf_13 (by decide) (fun h_13 => ?_) (fun h_13 => ?_)
    · have hF := ite_f h_13 hF
      refine Go.iconst (v := 0) dX9_holdsRowOf_20 (by decide) ?_
      obtain rfl := Option.some.inj hF
      exact Go.iret (st := []) dX9_holdsRowOf_21 rfl rfl ⟨rfl, rfl⟩
    · have hF := ite_t h_13 hF
      refine Go.iconst (v := 1) dX9_holdsRowOf_16 (by decide) ?_
      refine Go.goto (tgt := 21) dX9_holdsRowOf_17 (by decide) ?_
      obtain rfl := Option.some.inj hF
      exact Go.iret (st := []) dX9_holdsRowOf_21 rfl rfl ⟨rfl, rfl⟩
def F_X9_holdNothing (b : Nat) (S : St) : Option (St) :=
  let S2 := fset S (14 + b) 0 0; some S2
set_option maxHeartbeats 4000000 in
set_option maxRecDepth 100000 in
theorem ok_X9_holdNothing {l : Launch} (d : Nat) (b : Nat) (S : St) (hb : b < 6) (R : St) (hF : F_X9_holdNothing b S = some R) : Go l (d + 0) mX9_holdNothing (Res none R) 0 [(0, .ref (14 + b))] [] S := by
  unfold F_X9_holdNothing at hF
  refine Go.aload_n dX9_holdNothing_0 rfl ?_
  refine Go.iconst (v := 0) dX9_holdNothing_1 (by decide) ?_
  refine Go.putI dX9_holdNothing_2 fX9_11 (sl_X9_0 hb) ?_
  obtain rfl := Option.some.inj hF
  exact Go.vret (st := []) dX9_holdNothing_5 rfl ⟨rfl, rfl⟩
def F_X9_holdBody (b : Nat) (x1 : Int32) (S : St) : Option (St) :=
  let S2 := fset S (14 + b) 0 1; let S7 := fset S2 (14 + b) 1 x1; some S7
set_option maxHeartbeats 4000000 in
set_option maxRecDepth 100000 in
theorem ok_X9_holdBody {l : Launch} (d : Nat) (b : Nat) (x1 : Int32) (S : St) (hb : b < 6) (R : St) (hF : F_X9_holdBody b x1 S = some R) : Go l (d + 0) mX9_holdBody (Res none R) 0 [(0, .ref (14 + b)), (1, .int x1)] [] S := by
  unfold F_X9_holdBody at hF
  refine Go.aload_n dX9_holdBody_0 rfl ?_
  refine Go.iconst (v := 1) dX9_holdBody_1 (by decide) ?_
  refine Go.putI dX9_holdBody_2 fX9_11 (sl_X9_0 hb) ?_
  refine Go.aload_n dX9_holdBody_5 rfl ?_
  refine Go.iload_n dX9_holdBody_6 rfl ?_
  refine Go.putI dX9_holdBody_7 fX9_15 (sl_X9_1 hb) ?_
  obtain rfl := Option.some.inj hF
  exact Go.vret (st := []) dX9_holdBody_10 rfl ⟨rfl, rfl⟩
def F_J7_fill_d0a16_6 : Nat → Nat → Nat → Int64 → Int32 → Int32 → St → Option (St)
  | 0 => fun _ _ _ _ _ _ => none
  | n + 1 => fun k z x1 x3 x4 S =>
    if x4 ≤ x3 then (some S) else (gd (inb x3 z) (let S15 := lset S k (vp_updL (S.2.2 k) (Int32.toNatClampNeg x3) x1); (F_J7_fill_d0a16_6 n) k z x1 (x3 + 1) x4 S15))
set_option maxHeartbeats 4000000 in
set_option maxRecDepth 100000 in
theorem ok_J7_fill_d0a16_6 {l : Launch} (d : Nat) : ∀ (n : Nat) (k : Nat) (z : Nat) (x1 : Int64) (x3 : Int32) (x4 : Int32) (S : St) (ha : arK k = some (4, z)) (R : St), F_J7_fill_d0a16_6 n k z x1 x3 x4 S = some R → Go l (d + 0) mJ7_fill_d0a16 (Res none R) 6 [(0, .ref k), (1, .long x1), (3, .int x3), (4, .int x4)] [] S := by
  intro n
  induction n with
  | zero => intro k z x1 x3 x4 S ha R hF; cases hF
  | succ n hk6 =>
    intro k z x1 x3 x4 S ha R hF
    have hF : (if x4 ≤ x3 then (some S) else (gd (inb x3 z) (let S15 := lset S k (vp_updL (S.2.2 k) (Int32.toNatClampNeg x3) x1); (F_J7_fill_d0a16_6 n) k z x1 (x3 + 1) x4 S15))) = some R := hF
    refine Go.iload_n dJ7_fill_d0a16_6 rfl ?_
    refine Go.iload dJ7_fill_d0a16_7 rfl ?_
    refine Go.icmpge (tgt := 22) dJ7_fill_d0a16_9 (by decide) (fun h_9 => ?_) (fun h_9 => ?_)
    · have hF := ite_t h_9 hF
      obtain rfl := Option.some.inj hF
      exact Go.vret (st := []) dJ7_fill_d0a16_22 rfl ⟨rfl, rfl⟩
    · have hF := ite_f h_9 hF
      refine Go.aload_n dJ7_fill_d0a16_12 rfl ?_
      refine Go.iload_n dJ7_fill_d0a16_13 rfl ?_
      refine Go.lload_n dJ7_fill_d0a16_14 rfl ?_
      obtain ⟨hb_15, hF⟩ := gd_some hF
      refine Go.last dJ7_fill_d0a16_15 ha (inb_ok hb_15) ?_
      refine Go.iincP (ls' := [(3, _), (0, _), (1, _), (4, _)]) dJ7_fill_d0a16_16 rfl (by decide) rfl ?_
      refine Go.goto (tgt := 6) dJ7_fill_d0a16_19 (by decide) ?_
      refine Go.pick (ls' := [(0, _), (1, _), (3, _), (4, _)]) [1, 2, 0, 3] rfl ?_
      exact hk6 _ _ _ _ _ _ ha _ hF
def F_J7_fill_d0a16 (N : Nat) (k : Nat) (z : Nat) (x1 : Int64) (S : St) : Option (St) :=
  F_J7_fill_d0a16_6 N k z x1 0 (Int32.ofNat z) S
set_option maxHeartbeats 4000000 in
set_option maxRecDepth 100000 in
theorem ok_J7_fill_d0a16 {l : Launch} (d : Nat) (N : Nat) (k : Nat) (z : Nat) (x1 : Int64) (S : St) (ha : arK k = some (4, z)) (R : St) (hF : F_J7_fill_d0a16 N k z x1 S = some R) : Go l (d + 0) mJ7_fill_d0a16 (Res none R) 0 [(0, .ref k), (1, .long x1)] [] S := by
  unfold F_J7_fill_d0a16 at hF
  refine Go.iconst (v := 0) dJ7_fill_d0a16_0 (by decide) ?_
  refine Go.istore_n (ls' := [(3, _), (0, _), (1, _)]) dJ7_fill_d0a16_1 (by decide) rfl ?_
  refine Go.aload_n dJ7_fill_d0a16_2 rfl ?_
  refine Go.alenL dJ7_fill_d0a16_3 ha rfl ?_
  refine Go.istore (ls' := [(4, _), (3, _), (0, _), (1, _)]) dJ7_fill_d0a16_4 (by decide) rfl ?_
  refine Go.pick (ls' := [(0, _), (1, _), (3, _), (4, _)]) [2, 3, 1, 0] rfl ?_
  exact ok_J7_fill_d0a16_6 d N _ _ _ _ _ _ ha _ hF
def F_X9_holdRow (N : Nat) (b : Nat) (x1 : Int32) (x2 : Int32) (S : St) : Option (St) :=
  let S2 := fset S (14 + b) 0 2; let S7 := fset S2 (14 + b) 2 x1; let S12 := fset S7 (14 + b) 3 x2; (F_J7_fill_d0a16 N (57 + b) 60 (0 : Int64) S12).bind (fun r_20 => some r_20)
set_option maxHeartbeats 4000000 in
set_option maxRecDepth 100000 in
theorem ok_X9_holdRow {l : Launch} (d : Nat) (N : Nat) (b : Nat) (x1 : Int32) (x2 : Int32) (S : St) (hb : b < 6) (R : St) (hF : F_X9_holdRow N b x1 x2 S = some R) : Go l (d + 1) mX9_holdRow (Res none R) 0 [(0, .ref (14 + b)), (1, .int x1), (2, .int x2)] [] S := by
  unfold F_X9_holdRow at hF
  refine Go.aload_n dX9_holdRow_0 rfl ?_
  refine Go.iconst (v := 2) dX9_holdRow_1 (by decide) ?_
  refine Go.putI dX9_holdRow_2 fX9_11 (sl_X9_0 hb) ?_
  refine Go.aload_n dX9_holdRow_5 rfl ?_
  refine Go.iload_n dX9_holdRow_6 rfl ?_
  refine Go.putI dX9_holdRow_7 fX9_18 (sl_X9_2 hb) ?_
  refine Go.aload_n dX9_holdRow_10 rfl ?_
  refine Go.iload_n dX9_holdRow_11 rfl ?_
  refine Go.putI dX9_holdRow_12 fX9_21 (sl_X9_3 hb) ?_
  refine Go.aload_n dX9_holdRow_15 rfl ?_
  refine Go.getR dX9_holdRow_16 fX9_24 (sl_X9_4 hb) ?_
  refine Go.lconst (v := 0) dX9_holdRow_19 (by decide) ?_
  obtain ⟨r_20, hc_20, hF⟩ := Option.bind_eq_some_iff.mp hF
  refine Go.callS [_, _] dX9_holdRow_20 kJ7_fill_d0a16 sJ7_fill_d0a16 lX9_28 rfl rfl (Nat.le_of_ble_eq_true rfl) (Nat.le_of_ble_eq_true rfl) (ok_J7_fill_d0a16 (d + 0) N _ _ _ _ (ar_57 hb) _ hc_20) ?_
  obtain rfl := Option.some.inj hF
  exact Go.vret (st := []) dX9_holdRow_23 rfl ⟨rfl, rfl⟩
def F_X9_intAt (b : Nat) (x1 : Int32) (S : St) : Option (Int32 × St) :=
  if x1 < 0 then (some ((-1), S)) else (if (S.1 (14 + b) 3) ≤ x1 then (some ((-1), S)) else (gd (inb x1 60) (some (Int64.toInt32 (S.2.2 (57 + b) (Int32.toNatClampNeg x1)), S))))
set_option maxHeartbeats 4000000 in
set_option maxRecDepth 100000 in
theorem ok_X9_intAt {l : Launch} (d : Nat) (b : Nat) (x1 : Int32) (S : St) (hb : b < 6) (R : Int32 × St) (hF : F_X9_intAt b x1 S = some R) : Go l (d + 0) mX9_intAt (Res (some (.int R.1)) R.2) 0 [(0, .ref (14 + b)), (1, .int x1)] [] S := by
  unfold F_X9_intAt at hF
  refine Go.iload_n dX9_intAt_0 rfl ?_
  refine Go.iflt (tgt := 22) dX9_intAt_1 (by decide) (fun h_1 => ?_) (fun h_1 => ?_)
  · have hF := ite_t h_1 hF
    refine Go.iconst (v := (-1)) dX9_intAt_22 (by decide) ?_
    obtain rfl := Option.some.inj hF
    exact Go.iret (st := []) dX9_intAt_23 rfl rfl ⟨rfl, rfl⟩
  · have hF := ite_f h_1 hF
    refine Go.iload_n dX9_intAt_4 rfl ?_
    refine Go.aload_n dX9_intAt_5 rfl ?_
    refine Go.getI dX9_intAt_6 fX9_21 (sl_X9_3 hb) ?_
    refine Go.icmpge (tgt := 22) dX9_intAt_9 (by decide) (fun h_9 => ?_) (fun h_9 => ?_)
    · have hF := ite_t h_9 hF
      refine Go.iconst (v := (-1)) dX9_intAt_22 (by decide) ?_
      obtain rfl := Option.some.inj hF
      exact Go.iret (st := []) dX9_intAt_23 rfl rfl ⟨rfl, rfl⟩
    · have hF := ite_f h_9 hF
      refine Go.aload_n dX9_intAt_12 rfl ?_
      refine Go.getR dX9_intAt_13 fX9_24 (sl_X9_4 hb) ?_
      refine Go.iload_n dX9_intAt_16 rfl ?_
      obtain ⟨hb_17, hF⟩ := gd_some hF
      refine Go.lald dX9_intAt_17 (ar_57 hb) (inb_ok hb_17) ?_
      refine Go.l2i dX9_intAt_18 rfl ?_
      refine Go.goto (tgt := 23) dX9_intAt_19 (by decide) ?_
      obtain rfl := Option.some.inj hF
      exact Go.iret (st := []) dX9_intAt_23 rfl rfl ⟨rfl, rfl⟩
def F_X9_hasPlaces (b : Nat) (x1 : Int32) (x2 : Int32) (S : St) : Option (Int32 × St) :=
  if x1 < 0 then (some (0, S)) else (if x2 < 0 then (some (0, S)) else (if (S.1 (14 + b) 3) < x2 then (some (0, S)) else (if ((S.1 (14 + b) 3) - x2) < x1 then (some (0, S)) else (some (1, S)))))
set_option maxHeartbeats 4000000 in
set_option maxRecDepth 100000 in
theorem ok_X9_hasPlaces {l : Launch} (d : Nat) (b : Nat) (x1 : Int32) (x2 : Int32) (S : St) (hb : b < 6) (R : Int32 × St) (hF : F_X9_hasPlaces b x1 x2 S = some R) : Go l (d + 0) mX9_hasPlaces (Res (some (.int R.1)) R.2) 0 [(0, .ref (14 + b)), (1, .int x1), (2, .int x2)] [] S := by
  unfold F_X9_hasPlaces at hF
  refine Go.iload_n dX9_hasPlaces_0 rfl ?_
  refine Go.iflt (tgt := 30) dX9_hasPlaces_1 (by decide) (fun h_1 => ?_) (fun h_1 => ?_)
  · have hF := ite_t h_1 hF
    refine Go.iconst (v := 0) dX9_hasPlaces_30 (by decide) ?_
    obtain rfl := Option.some.inj hF
    exact Go.iret (st := []) dX9_hasPlaces_31 rfl rfl ⟨rfl, rfl⟩
  · have hF := ite_f h_1 hF
    refine Go.iload_n dX9_hasPlaces_4 rfl ?_
    refine Go.iflt (tgt := 30) dX9_hasPlaces_5 (by decide) (fun h_5 => ?_) (fun h_5 => ?_)
    · have hF := ite_t h_5 hF
      refine Go.iconst (v := 0) dX9_hasPlaces_30 (by decide) ?_
      obtain rfl := Option.some.inj hF
      exact Go.iret (st := []) dX9_hasPlaces_31 rfl rfl ⟨rfl, rfl⟩
    · have hF := ite_f h_5 hF
      refine Go.iload_n dX9_hasPlaces_8 rfl ?_
      refine Go.aload_n dX9_hasPlaces_9 rfl ?_
      refine Go.getI dX9_hasPlaces_10 fX9_21 (sl_X9_3 hb) ?_
      refine Go.icmpgt (tgt := 30) dX9_hasPlaces_13 (by decide) (fun h_13 => ?_) (fun h_13 => ?_)
      · have hF := ite_t h_13 hF
        refine Go.iconst (v := 0) dX9_hasPlaces_30 (by decide) ?_
        obtain rfl := Option.some.inj hF
        exact Go.iret (st := []) dX9_hasPlaces_31 rfl rfl ⟨rfl, rfl⟩
      · have hF := ite_f h_13 hF
        refine Go.iload_n dX9_hasPlaces_16 rfl ?_
        refine Go.aload_n dX9_hasPlaces_17 rfl ?_
        refine Go.getI dX9_hasPlaces_18 fX9_21 (sl_X9_3 hb) ?_
        refine Go.iload_n dX9_hasPlaces_21 rfl ?_
        refine Go.isub dX9_hasPlaces_22 ?_
        refine Go.icmpgt (tgt := 30) dX9_hasPlaces_23 (by decide) (fun h_23 => ?_) (fun h_23 => ?_)
        · have hF := ite_t h_23 hF
          refine Go.iconst (v := 0) dX9_hasPlaces_30 (by decide) ?_
          obtain rfl := Option.some.inj hF
          exact Go.iret (st := []) dX9_hasPlaces_31 rfl rfl ⟨rfl, rfl⟩
        · have hF := ite_f h_23 hF
          refine Go.iconst (v := 1) dX9_hasPlaces_26 (by decide) ?_
          refine Go.goto (tgt := 31) dX9_hasPlaces_27 (by decide) ?_
          obtain rfl := Option.some.inj hF
          exact Go.iret (st := []) dX9_hasPlaces_31 rfl rfl ⟨rfl, rfl⟩
theorem sw_X9_narrowed_4 (x : Int32) (h0 : ¬ x = 0) (h1 : ¬ x = 1) (h2 : ¬ x = 2) (h3 : ¬ x = 4) : swO 62 0 4 #[36, 41, 46, 62, 50] x = 62 := by
  by_cases h : x.toInt < 0 ∨ 4 < x.toInt
  · unfold swO; rw [if_pos h]
  · have hx : x = 0 ∨ x = 1 ∨ x = 2 ∨ x = 3 ∨ x = 4 := by
      have e : ∀ v : Int32, x.toInt = v.toInt → x = v := fun v h => Int32.toInt_inj.mp h
      have : x.toInt = 0 ∨ x.toInt = 1 ∨ x.toInt = 2 ∨ x.toInt = 3 ∨ x.toInt = 4 := by omega
      rcases this with h | h | h | h | h
      · exact Or.inl (e 0 h)
      · exact Or.inr (Or.inl (e 1 h))
      · exact Or.inr (Or.inr (Or.inl (e 2 h)))
      · exact Or.inr (Or.inr (Or.inr (Or.inl (e 3 h))))
      · exact Or.inr (Or.inr (Or.inr (Or.inr (e 4 h))))
    rcases hx with rfl | rfl | rfl | rfl | rfl <;> first | rfl | (exact absurd rfl (by assumption))
def F_X9_narrowed (b : Nat) (x1 : Int64) (S : St) : Option (Int64 × St) :=
  if (S.1 (14 + b) 2) = 0 then (some (Int32.toInt64 ((Int32.toInt8 (Int64.toInt32 x1)).toInt32), S)) else (if (S.1 (14 + b) 2) = 1 then (some (Int32.toInt64 ((Int32.toInt16 (Int64.toInt32 x1)).toInt32), S)) else (if (S.1 (14 + b) 2) = 2 then (some (Int32.toInt64 (Int64.toInt32 x1), S)) else (if (S.1 (14 + b) 2) = 4 then (if (lg_cmp x1 0) = 0 then (some (0, S)) else (some (1, S))) else (some (x1, S)))))
set_option maxHeartbeats 4000000 in
set_option maxRecDepth 100000 in
theorem ok_X9_narrowed {l : Launch} (d : Nat) (b : Nat) (x1 : Int64) (S : St) (hb : b < 6) (R : Int64 × St) (hF : F_X9_narrowed b x1 S = some R) : Go l (d + 0) mX9_narrowed (Res (some (.long R.1)) R.2) 0 [(0, .ref (14 + b)), (1, .long x1)] [] S := by
  unfold F_X9_narrowed at hF
  refine Go.aload_n dX9_narrowed_0 rfl ?_
  refine Go.getI dX9_narrowed_1 fX9_18 (sl_X9_2 hb) ?_
  by_cases hs_4_0 : (S.1 (14 + b) 2) = 0
  · have hF := ite_t hs_4_0 hF
    refine Go.swT (tgt := 40) dX9_narrowed_4 (by first | (rw [hs_4_0]; done) | (rw [hs_4_0]; rfl) | (rw [hs_4_0]; decide)) (by decide) (by decide) ?_
    refine Go.lload_n dX9_narrowed_40 rfl ?_
    refine Go.l2i dX9_narrowed_41 rfl ?_
    refine Go.i2b dX9_narrowed_42 rfl ?_
    refine Go.i2l dX9_narrowed_43 rfl ?_
    obtain rfl := Option.some.inj hF
    exact Go.lret (st := []) dX9_narrowed_44 rfl ⟨rfl, rfl⟩
  · have hF := ite_f hs_4_0 hF
    by_cases hs_4_1 : (S.1 (14 + b) 2) = 1
    · have hF := ite_t hs_4_1 hF
      refine Go.swT (tgt := 45) dX9_narrowed_4 (by first | (rw [hs_4_1]; done) | (rw [hs_4_1]; rfl) | (rw [hs_4_1]; decide)) (by decide) (by decide) ?_
      refine Go.lload_n dX9_narrowed_45 rfl ?_
      refine Go.l2i dX9_narrowed_46 rfl ?_
      refine Go.i2s dX9_narrowed_47 rfl ?_
      refine Go.i2l dX9_narrowed_48 rfl ?_
      obtain rfl := Option.some.inj hF
      exact Go.lret (st := []) dX9_narrowed_49 rfl ⟨rfl, rfl⟩
    · have hF := ite_f hs_4_1 hF
      by_cases hs_4_2 : (S.1 (14 + b) 2) = 2
      · have hF := ite_t hs_4_2 hF
        refine Go.swT (tgt := 50) dX9_narrowed_4 (by first | (rw [hs_4_2]; done) | (rw [hs_4_2]; rfl) | (rw [hs_4_2]; decide)) (by decide) (by decide) ?_
        refine Go.lload_n dX9_narrowed_50 rfl ?_
        refine Go.l2i dX9_narrowed_51 rfl ?_
        refine Go.i2l dX9_narrowed_52 rfl ?_
        obtain rfl := Option.some.inj hF
        exact Go.lret (st := []) dX9_narrowed_53 rfl ⟨rfl, rfl⟩
      · have hF := ite_f hs_4_2 hF
        by_cases hs_4_3 : (S.1 (14 + b) 2) = 4
        · have hF := ite_t hs_4_3 hF
          refine Go.swT (tgt := 54) dX9_narrowed_4 (by first | (rw [hs_4_3]; done) | (rw [hs_4_3]; rfl) | (rw [hs_4_3]; decide)) (by decide) (by decide) ?_
          refine Go.lload_n dX9_narrowed_54 rfl ?_
          refine Go.lconst (v := 0) dX9_narrowed_55 (by decide) ?_
          refine Go.lcmp dX9_narrowed_56 ?_
          refine Go.ifeq (tgt := 64) dX9_narrowed_57 (by decide) (fun h_57 => ?_) (fun h_57 => ?_)
          · have hF := ite_t h_57 hF
            refine Go.lconst (v := 0) dX9_narrowed_64 (by decide) ?_
            obtain rfl := Option.some.inj hF
            exact Go.lret (st := []) dX9_narrowed_65 rfl ⟨rfl, rfl⟩
          · have hF := ite_f h_57 hF
            refine Go.lconst (v := 1) dX9_narrowed_60 (by decide) ?_
            refine Go.goto (tgt := 65) dX9_narrowed_61 (by decide) ?_
            obtain rfl := Option.some.inj hF
            exact Go.lret (st := []) dX9_narrowed_65 rfl ⟨rfl, rfl⟩
        · have hF := ite_f hs_4_3 hF
          refine Go.swT (tgt := 66) dX9_narrowed_4 (sw_X9_narrowed_4 _ hs_4_0 hs_4_1 hs_4_2 hs_4_3) (by decide) (by decide) ?_
          refine Go.lload_n dX9_narrowed_66 rfl ?_
          obtain rfl := Option.some.inj hF
          exact Go.lret (st := []) dX9_narrowed_67 rfl ⟨rfl, rfl⟩
def F_X9_store (b : Nat) (x1 : Int32) (x2 : Int64) (S : St) : Option (St) :=
  (F_X9_narrowed b x2 S).bind (fun r_7 => gd (inb x1 60) (let S10 := lset r_7.2 (57 + b) (vp_updL (r_7.2.2.2 (57 + b)) (Int32.toNatClampNeg x1) r_7.1); some S10))
set_option maxHeartbeats 4000000 in
set_option maxRecDepth 100000 in
theorem ok_X9_store {l : Launch} (d : Nat) (b : Nat) (x1 : Int32) (x2 : Int64) (S : St) (hb : b < 6) (R : St) (hF : F_X9_store b x1 x2 S = some R) : Go l (d + 1) mX9_store (Res none R) 0 [(0, .ref (14 + b)), (1, .int x1), (2, .long x2)] [] S := by
  unfold F_X9_store at hF
  refine Go.aload_n dX9_store_0 rfl ?_
  refine Go.getR dX9_store_1 fX9_24 (sl_X9_4 hb) ?_
  refine Go.iload_n dX9_store_4 rfl ?_
  refine Go.aload_n dX9_store_5 rfl ?_
  refine Go.lload_n dX9_store_6 rfl ?_
  obtain ⟨r_7, hc_7, hF⟩ := Option.bind_eq_some_iff.mp hF
  refine Go.callV [_] dX9_store_7 kX9_narrowed vX9_narrowed lX9_34 (cl_X9 hb) rfl rfl rfl rfl (Nat.le_of_ble_eq_true rfl) (Nat.le_of_ble_eq_true rfl) (ok_X9_narrowed (d + 0) _ _ _ hb _ hc_7) ?_
  obtain ⟨hb_10, hF⟩ := gd_some hF
  refine Go.last dX9_store_10 (ar_57 hb) (inb_ok hb_10) ?_
  obtain rfl := Option.some.inj hF
  exact Go.vret (st := []) dX9_store_11 rfl ⟨rfl, rfl⟩
def F_J7_fill_53178_5 : Nat → Nat → Nat → Int32 → Int32 → Int32 → St → Option (St)
  | 0 => fun _ _ _ _ _ _ => none
  | n + 1 => fun k z x1 x2 x3 S =>
    if x3 ≤ x2 then (some S) else (gd (inb x2 z) (let S13 := aset S k (upd (S.2.1 k) (Int32.toNatClampNeg x2) x1); (F_J7_fill_53178_5 n) k z x1 (x2 + 1) x3 S13))
set_option maxHeartbeats 4000000 in
set_option maxRecDepth 100000 in
theorem ok_J7_fill_53178_5 {l : Launch} (d : Nat) : ∀ (n : Nat) (k : Nat) (z : Nat) (x1 : Int32) (x2 : Int32) (x3 : Int32) (S : St) (ha : arK k = some (0, z)) (R : St), F_J7_fill_53178_5 n k z x1 x2 x3 S = some R → Go l (d + 0) mJ7_fill_53178 (Res none R) 5 [(0, .ref k), (1, .int x1), (2, .int x2), (3, .int x3)] [] S := by
  intro n
  induction n with
  | zero => intro k z x1 x2 x3 S ha R hF; cases hF
  | succ n hk5 =>
    intro k z x1 x2 x3 S ha R hF
    have hF : (if x3 ≤ x2 then (some S) else (gd (inb x2 z) (let S13 := aset S k (upd (S.2.1 k) (Int32.toNatClampNeg x2) x1); (F_J7_fill_53178_5 n) k z x1 (x2 + 1) x3 S13))) = some R := hF
    refine Go.iload_n dJ7_fill_53178_5 rfl ?_
    refine Go.iload_n dJ7_fill_53178_6 rfl ?_
    refine Go.icmpge (tgt := 20) dJ7_fill_53178_7 (by decide) (fun h_7 => ?_) (fun h_7 => ?_)
    · have hF := ite_t h_7 hF
      obtain rfl := Option.some.inj hF
      exact Go.vret (st := []) dJ7_fill_53178_20 rfl ⟨rfl, rfl⟩
    · have hF := ite_f h_7 hF
      refine Go.aload_n dJ7_fill_53178_10 rfl ?_
      refine Go.iload_n dJ7_fill_53178_11 rfl ?_
      refine Go.iload_n dJ7_fill_53178_12 rfl ?_
      obtain ⟨hb_13, hF⟩ := gd_some hF
      refine Go.iast dJ7_fill_53178_13 ha (inb_ok hb_13) ?_
      refine Go.iincP (ls' := [(2, _), (0, _), (1, _), (3, _)]) dJ7_fill_53178_14 rfl (by decide) rfl ?_
      refine Go.goto (tgt := 5) dJ7_fill_53178_17 (by decide) ?_
      refine Go.pick (ls' := [(0, _), (1, _), (2, _), (3, _)]) [1, 2, 0, 3] rfl ?_
      exact hk5 _ _ _ _ _ _ ha _ hF
def F_J7_fill_53178 (N : Nat) (k : Nat) (z : Nat) (x1 : Int32) (S : St) : Option (St) :=
  F_J7_fill_53178_5 N k z x1 0 (Int32.ofNat z) S
set_option maxHeartbeats 4000000 in
set_option maxRecDepth 100000 in
theorem ok_J7_fill_53178 {l : Launch} (d : Nat) (N : Nat) (k : Nat) (z : Nat) (x1 : Int32) (S : St) (ha : arK k = some (0, z)) (R : St) (hF : F_J7_fill_53178 N k z x1 S = some R) : Go l (d + 0) mJ7_fill_53178 (Res none R) 0 [(0, .ref k), (1, .int x1)] [] S := by
  unfold F_J7_fill_53178 at hF
  refine Go.iconst (v := 0) dJ7_fill_53178_0 (by decide) ?_
  refine Go.istore_n (ls' := [(2, _), (0, _), (1, _)]) dJ7_fill_53178_1 (by decide) rfl ?_
  refine Go.aload_n dJ7_fill_53178_2 rfl ?_
  refine Go.alen dJ7_fill_53178_3 ha (by decide) rfl ?_
  refine Go.istore_n (ls' := [(3, _), (2, _), (0, _), (1, _)]) dJ7_fill_53178_4 (by decide) rfl ?_
  refine Go.pick (ls' := [(0, _), (1, _), (2, _), (3, _)]) [2, 3, 1, 0] rfl ?_
  exact ok_J7_fill_53178_5 d N _ _ _ _ _ _ ha _ hF
def F_X10_add (x1 : Int32) (x2 : Int32) (x3 : Int32) (S : St) : Option (St) :=
  if 5121 ≤ (S.1 7 2) then (some S) else (gd (inb (S.1 7 2) 5121) (let S30 := aset S 45 (upd (S.2.1 45) (Int32.toNatClampNeg (S.1 7 2)) ((x1 ||| (x2 <<< (5 &&& 31))) ||| (x3 <<< (13 &&& 31)))); let S38 := fset S30 7 2 ((S30.1 7 2) + 1); some S38))
set_option maxHeartbeats 4000000 in
set_option maxRecDepth 100000 in
theorem ok_X10_add {l : Launch} (d : Nat) (x1 : Int32) (x2 : Int32) (x3 : Int32) (S : St) (R : St) (hF : F_X10_add x1 x2 x3 S = some R) : Go l (d + 0) mX10_add (Res none R) 0 [(0, .ref 7), (1, .int x1), (2, .int x2), (3, .int x3)] [] S := by
  unfold F_X10_add at hF
  refine Go.aload_n dX10_add_0 rfl ?_
  refine Go.getI dX10_add_1 fX10_18 rfl ?_
  refine Go.aload_n dX10_add_4 rfl ?_
  refine Go.getR dX10_add_5 fX10_15 rfl ?_
  refine Go.alen (v := 5121) dX10_add_8 rfl (by decide) (by decide) ?_
  refine Go.icmpge (tgt := 41) dX10_add_9 (by decide) (fun h_9 => ?_) (fun h_9 => ?_)
  · have hF := ite_t h_9 hF
    obtain rfl := Option.some.inj hF
    exact Go.vret (st := []) dX10_add_41 rfl ⟨rfl, rfl⟩
  · have hF := ite_f h_9 hF
    refine Go.aload_n dX10_add_12 rfl ?_
    refine Go.getR dX10_add_13 fX10_15 rfl ?_
    refine Go.aload_n dX10_add_16 rfl ?_
    refine Go.getI dX10_add_17 fX10_18 rfl ?_
    refine Go.iload_n dX10_add_20 rfl ?_
    refine Go.iload_n dX10_add_21 rfl ?_
    refine Go.iconst (v := 5) dX10_add_22 (by decide) ?_
    refine Go.ishl dX10_add_23 ?_
    refine Go.ior dX10_add_24 ?_
    refine Go.iload_n dX10_add_25 rfl ?_
    refine Go.bipush (v := 13) dX10_add_26 (by decide) ?_
    refine Go.ishl dX10_add_28 ?_
    refine Go.ior dX10_add_29 ?_
    obtain ⟨hb_30, hF⟩ := gd_some hF
    refine Go.iast dX10_add_30 rfl (inb_ok hb_30) ?_
    refine Go.aload_n dX10_add_31 rfl ?_
    refine Go.dup dX10_add_32 rfl ?_
    refine Go.getI dX10_add_33 fX10_18 rfl ?_
    refine Go.iconst (v := 1) dX10_add_36 (by decide) ?_
    refine Go.iadd dX10_add_37 ?_
    refine Go.putI dX10_add_38 fX10_18 rfl ?_
    obtain rfl := Option.some.inj hF
    exact Go.vret (st := []) dX10_add_41 rfl ⟨rfl, rfl⟩
def F_X10_lineOf (x1 : Int32) (S : St) : Option (Int32 × St) :=
  gd (inb x1 5121) (some ((S.2.1 45 (Int32.toNatClampNeg x1)) &&& 31, S))
set_option maxHeartbeats 4000000 in
set_option maxRecDepth 100000 in
theorem ok_X10_lineOf {l : Launch} (d : Nat) (x1 : Int32) (S : St) (R : Int32 × St) (hF : F_X10_lineOf x1 S = some R) : Go l (d + 0) mX10_lineOf (Res (some (.int R.1)) R.2) 0 [(0, .ref 7), (1, .int x1)] [] S := by
  unfold F_X10_lineOf at hF
  refine Go.aload_n dX10_lineOf_0 rfl ?_
  refine Go.getR dX10_lineOf_1 fX10_15 rfl ?_
  refine Go.iload_n dX10_lineOf_4 rfl ?_
  obtain ⟨hb_5, hF⟩ := gd_some hF
  refine Go.iald dX10_lineOf_5 rfl (inb_ok hb_5) ?_
  refine Go.bipush (v := 31) dX10_lineOf_6 (by decide) ?_
  refine Go.iand dX10_lineOf_8 ?_
  obtain rfl := Option.some.inj hF
  exact Go.iret (st := []) dX10_lineOf_9 rfl rfl ⟨rfl, rfl⟩
def F_X10_reaches_37 : Nat → Int32 → Int32 → Int32 → Int32 → Int32 → St → Option (Int32 × St)
  | 0 => fun _ _ _ _ _ _ => none
  | n + 1 => fun x2 x3 x5 x6 x7 S =>
    if (S.1 1 0) ≤ x7 then (some (0, S)) else (if ((x6 >>> (x7 &&& 31)) &&& 1) = 0 then ((F_X10_reaches_37 n) x2 x3 x5 x6 (x7 + 1) S) else (gd (inb x7 20) (if ((S.2.1 26 (Int32.toNatClampNeg x7)) &&& (x5 ^^^ (-1))) = 0 then (gd (inb x7 20) (if x7 = x3 then ((F_X10_add x7 (x5 ||| (S.2.1 25 (Int32.toNatClampNeg x7))) x2 S).bind (fun r_98 => some (1, r_98))) else (gd (inb (x5 ||| (S.2.1 25 (Int32.toNatClampNeg x7))) 256) (if (((S.2.1 44 (Int32.toNatClampNeg (x5 ||| (S.2.1 25 (Int32.toNatClampNeg x7))))) >>> (x7 &&& 31)) &&& 1) = 0 then (gd (inb (x5 ||| (S.2.1 25 (Int32.toNatClampNeg x7))) 256) (gd (inb (x5 ||| (S.2.1 25 (Int32.toNatClampNeg x7))) 256) (let S131 := aset S 44 (upd (S.2.1 44) (Int32.toNatClampNeg (x5 ||| (S.2.1 25 (Int32.toNatClampNeg x7)))) ((S.2.1 44 (Int32.toNatClampNeg (x5 ||| (S.2.1 25 (Int32.toNatClampNeg x7))))) ||| (1 <<< (x7 &&& 31)))); (F_X10_add x7 (x5 ||| (S.2.1 25 (Int32.toNatClampNeg x7))) x2 S131).bind (fun r_138 => (F_X10_reaches_37 n) x2 x3 x5 x6 (x7 + 1) r_138)))) else ((F_X10_reaches_37 n) x2 x3 x5 x6 (x7 + 1) S))))) else ((F_X10_reaches_37 n) x2 x3 x5 x6 (x7 + 1) S))))
set_option maxHeartbeats 4000000 in
set_option maxRecDepth 100000 in
theorem ok_X10_reaches_37 {l : Launch} (d : Nat) : ∀ (n : Nat) (x2 : Int32) (x3 : Int32) (x5 : Int32) (x6 : Int32) (x7 : Int32) (S : St) (R : Int32 × St), F_X10_reaches_37 n x2 x3 x5 x6 x7 S = some R → Go l (d + 1) mX10_reaches (Res (some (.int R.1)) R.2) 37 [(0, .ref 7), (1, .ref 1), (2, .int x2), (3, .int x3), (5, .int x5), (6, .int x6), (7, .int x7)] [] S := by
  intro n
  induction n with
  | zero => intro x2 x3 x5 x6 x7 S  R hF; cases hF
  | succ n hk37 =>
    intro x2 x3 x5 x6 x7 S  R hF
    have hF : (if (S.1 1 0) ≤ x7 then (some (0, S)) else (if ((x6 >>> (x7 &&& 31)) &&& 1) = 0 then ((F_X10_reaches_37 n) x2 x3 x5 x6 (x7 + 1) S) else (gd (inb x7 20) (if ((S.2.1 26 (Int32.toNatClampNeg x7)) &&& (x5 ^^^ (-1))) = 0 then (gd (inb x7 20) (if x7 = x3 then ((F_X10_add x7 (x5 ||| (S.2.1 25 (Int32.toNatClampNeg x7))) x2 S).bind (fun r_98 => some (1, r_98))) else (gd (inb (x5 ||| (S.2.1 25 (Int32.toNatClampNeg x7))) 256) (if (((S.2.1 44 (Int32.toNatClampNeg (x5 ||| (S.2.1 25 (Int32.toNatClampNeg x7))))) >>> (x7 &&& 31)) &&& 1) = 0 then (gd (inb (x5 ||| (S.2.1 25 (Int32.toNatClampNeg x7))) 256) (gd (inb (x5 ||| (S.2.1 25 (Int32.toNatClampNeg x7))) 256) (let S131 := aset S 44 (upd (S.2.1 44) (Int32.toNatClampNeg (x5 ||| (S.2.1 25 (Int32.toNatClampNeg x7)))) ((S.2.1 44 (Int32.toNatClampNeg (x5 ||| (S.2.1 25 (Int32.toNatClampNeg x7))))) ||| (1 <<< (x7 &&& 31)))); (F_X10_add x7 (x5 ||| (S.2.1 25 (Int32.toNatClampNeg x7))) x2 S131).bind (fun r_138 => (F_X10_reaches_37 n) x2 x3 x5 x6 (x7 + 1) r_138)))) else ((F_X10_reaches_37 n) x2 x3 x5 x6 (x7 + 1) S))))) else ((F_X10_reaches_37 n) x2 x3 x5 x6 (x7 + 1) S))))) = some R := hF
    refine Go.iload dX10_reaches_37 rfl ?_
    refine Go.aload_n dX10_reaches_39 rfl ?_
    refine Go.getI dX10_reaches_40 fX10_51 rfl ?_
    refine Go.icmpge (tgt := 147) dX10_reaches_43 (by decide) (fun h_43 => ?_) (fun h_43 => ?_)
    · have hF := ite_t h_43 hF
      refine Go.iconst (v := 0) dX10_reaches_147 (by decide) ?_
      obtain rfl := Option.some.inj hF
      exact Go.iret (st := []) dX10_reaches_148 rfl rfl ⟨rfl, rfl⟩
    · have hF := ite_f h_43 hF
      refine Go.iload dX10_reaches_46 rfl ?_
      refine Go.iload dX10_reaches_48 rfl ?_
      refine Go.ishr dX10_reaches_50 ?_
      refine Go.iconst (v := 1) dX10_reaches_51 (by decide) ?_
      refine Go.iand dX10_reaches_52 ?_
      refine Go.ifeq (tgt := 141) dX10_reaches_53 (by decide) (fun h_53 => ?_) (fun h_53 => ?_)
      · have hF := ite_t h_53 hF
        refine Go.iincP (ls' := [(7, _), (0, _), (1, _), (2, _), (3, _), (5, _), (6, _)]) dX10_reaches_141 rfl (by decide) rfl ?_
        refine Go.goto (tgt := 37) dX10_reaches_144 (by decide) ?_
        refine Go.pick (ls' := [(0, _), (1, _), (2, _), (3, _), (5, _), (6, _), (7, _)]) [1, 2, 3, 4, 5, 6, 0] rfl ?_
        exact hk37 _ _ _ _ _ _ _ hF
      · have hF := ite_f h_53 hF
        refine Go.aload_n dX10_reaches_56 rfl ?_
        refine Go.getR dX10_reaches_57 fX10_54 rfl ?_
        refine Go.iload dX10_reaches_60 rfl ?_
        obtain ⟨hb_62, hF⟩ := gd_some hF
        refine Go.iald dX10_reaches_62 rfl (inb_ok hb_62) ?_
        refine Go.iload dX10_reaches_63 rfl ?_
        refine Go.iconst (v := (-1)) dX10_reaches_65 (by decide) ?_
        refine Go.ixor dX10_reaches_66 ?_
        refine Go.iand dX10_reaches_67 ?_
        refine Go.ifeq (tgt := 74) dX10_reaches_68 (by decide) (fun h_68 => ?_) (fun h_68 => ?_)
        · have hF := ite_t h_68 hF
          refine Go.iload dX10_reaches_74 rfl ?_
          refine Go.aload_n dX10_reaches_76 rfl ?_
          refine Go.getR dX10_reaches_77 fX10_28 rfl ?_
          refine Go.iload dX10_reaches_80 rfl ?_
          obtain ⟨hb_82, hF⟩ := gd_some hF
          refine Go.iald dX10_reaches_82 rfl (inb_ok hb_82) ?_
          refine Go.ior dX10_reaches_83 ?_
          refine Go.istore (ls' := [(8, _), (0, _), (1, _), (2, _), (3, _), (5, _), (6, _), (7, _)]) dX10_reaches_84 (by decide) rfl ?_
          refine Go.iload dX10_reaches_86 rfl ?_
          refine Go.iload_n dX10_reaches_88 rfl ?_
          refine Go.icmpne (tgt := 103) dX10_reaches_89 (by decide) (fun h_89 => ?_) (fun h_89 => ?_)
          · have hF := ite_f h_89 hF
            refine Go.aload_n dX10_reaches_103 rfl ?_
            refine Go.getR dX10_reaches_104 fX10_11 rfl ?_
            refine Go.iload dX10_reaches_107 rfl ?_
            obtain ⟨hb_109, hF⟩ := gd_some hF
            refine Go.iald dX10_reaches_109 rfl (inb_ok hb_109) ?_
            refine Go.iload dX10_reaches_110 rfl ?_
            refine Go.ishr dX10_reaches_112 ?_
            refine Go.iconst (v := 1) dX10_reaches_113 (by decide) ?_
            refine Go.iand dX10_reaches_114 ?_
            refine Go.ifne (tgt := 141) dX10_reaches_115 (by decide) (fun h_115 => ?_) (fun h_115 => ?_)
            · have hF := ite_f h_115 hF
              refine Go.iincP (ls' := [(7, _), (8, _), (0, _), (1, _), (2, _), (3, _), (5, _), (6, _)]) dX10_reaches_141 rfl (by decide) rfl ?_
              refine Go.goto (tgt := 37) dX10_reaches_144 (by decide) ?_
              refine Go.pick (ls' := [(0, _), (1, _), (2, _), (3, _), (5, _), (6, _), (7, _)]) [2, 3, 4, 5, 6, 7, 0] rfl ?_
              exact hk37 _ _ _ _ _ _ _ hF
            · have hF := ite_t h_115 hF
              refine Go.aload_n dX10_reaches_118 rfl ?_
              refine Go.getR dX10_reaches_119 fX10_11 rfl ?_
              refine Go.iload dX10_reaches_122 rfl ?_
              refine Go.dup2 dX10_reaches_124 rfl rfl ?_
              obtain ⟨hb_125, hF⟩ := gd_some hF
              refine Go.iald dX10_reaches_125 rfl (inb_ok hb_125) ?_
              refine Go.iconst (v := 1) dX10_reaches_126 (by decide) ?_
              refine Go.iload dX10_reaches_127 rfl ?_
              refine Go.ishl dX10_reaches_129 ?_
              refine Go.ior dX10_reaches_130 ?_
              obtain ⟨hb_131, hF⟩ := gd_some hF
              refine Go.iast dX10_reaches_131 rfl (inb_ok hb_131) ?_
              refine Go.aload_n dX10_reaches_132 rfl ?_
              refine Go.iload dX10_reaches_133 rfl ?_
              refine Go.iload dX10_reaches_135 rfl ?_
              refine Go.iload_n dX10_reaches_137 rfl ?_
              obtain ⟨r_138, hc_138, hF⟩ := Option.bind_eq_some_iff.mp hF
              refine Go.callV [_, _, _] dX10_reaches_138 kX10_add vX10_add lX10_33 rfl rfl rfl rfl rfl (Nat.le_of_ble_eq_true rfl) (Nat.le_of_ble_eq_true rfl) (ok_X10_add (d + 0) _ _ _ _ _ hc_138) ?_
              refine Go.iincP (ls' := [(7, _), (8, _), (0, _), (1, _), (2, _), (3, _), (5, _), (6, _)]) dX10_reaches_141 rfl (by decide) rfl ?_
              refine Go.goto (tgt := 37) dX10_reaches_144 (by decide) ?_
              refine Go.pick (ls' := [(0, _), (1, _), (2, _), (3, _), (5, _), (6, _), (7, _)]) [2, 3, 4, 5, 6, 7, 0] rfl ?_
              exact hk37 _ _ _ _ _ _ _ hF
          · have hF := ite_t h_89 hF
            refine Go.aload_n dX10_reaches_92 rfl ?_
            refine Go.iload dX10_reaches_93 rfl ?_
            refine Go.iload dX10_reaches_95 rfl ?_
            refine Go.iload_n dX10_reaches_97 rfl ?_
            obtain ⟨r_98, hc_98, hF⟩ := Option.bind_eq_some_iff.mp hF
            refine Go.callV [_, _, _] dX10_reaches_98 kX10_add vX10_add lX10_33 rfl rfl rfl rfl rfl (Nat.le_of_ble_eq_true rfl) (Nat.le_of_ble_eq_true rfl) (ok_X10_add (d + 0) _ _ _ _ _ hc_98) ?_
            refine Go.iconst (v := 1) dX10_reaches_101 (by decide) ?_
            obtain rfl := Option.some.inj hF
            exact Go.iret (st := []) dX10_reaches_102 rfl rfl ⟨rfl, rfl⟩
        · have hF := ite_f h_68 hF
          refine Go.goto (tgt := 141) dX10_reaches_71 (by decide) ?_
          refine Go.iincP (ls' := [(7, _), (0, _), (1, _), (2, _), (3, _), (5, _), (6, _)]) dX10_reaches_141 rfl (by decide) rfl ?_
          refine Go.goto (tgt := 37) dX10_reaches_144 (by decide) ?_
          refine Go.pick (ls' := [(0, _), (1, _), (2, _), (3, _), (5, _), (6, _), (7, _)]) [1, 2, 3, 4, 5, 6, 0] rfl ?_
          exact hk37 _ _ _ _ _ _ _ hF
def F_X10_reaches (N : Nat) (x2 : Int32) (x3 : Int32) (S : St) : Option (Int32 × St) :=
  (F_X10_lineOf x2 S).bind (fun r_2 => gd (inb x2 5121) ((F_X8_jumpsFrom r_2.1 r_2.2).bind (fun r_24 => F_X10_reaches_37 N x2 x3 (((r_2.2.2.1 45 (Int32.toNatClampNeg x2)) >>> (5 &&& 31)) &&& 255) (r_24.1 ||| (2 <<< (r_2.1 &&& 31))) 0 r_24.2)))
set_option maxHeartbeats 4000000 in
set_option maxRecDepth 100000 in
theorem ok_X10_reaches {l : Launch} (d : Nat) (N : Nat) (x2 : Int32) (x3 : Int32) (S : St) (R : Int32 × St) (hF : F_X10_reaches N x2 x3 S = some R) : Go l (d + 1) mX10_reaches (Res (some (.int R.1)) R.2) 0 [(0, .ref 7), (1, .ref 1), (2, .int x2), (3, .int x3)] [] S := by
  unfold F_X10_reaches at hF
  refine Go.aload_n dX10_reaches_0 rfl ?_
  refine Go.iload_n dX10_reaches_1 rfl ?_
  obtain ⟨r_2, hc_2, hF⟩ := Option.bind_eq_some_iff.mp hF
  refine Go.callV [_] dX10_reaches_2 kX10_lineOf vX10_lineOf lX10_45 rfl rfl rfl rfl rfl (Nat.le_of_ble_eq_true rfl) (Nat.le_of_ble_eq_true rfl) (ok_X10_lineOf (d + 0) _ _ _ hc_2) ?_
  refine Go.istore (ls' := [(4, _), (0, _), (1, _), (2, _), (3, _)]) dX10_reaches_5 (by decide) rfl ?_
  refine Go.aload_n dX10_reaches_7 rfl ?_
  refine Go.getR dX10_reaches_8 fX10_15 rfl ?_
  refine Go.iload_n dX10_reaches_11 rfl ?_
  obtain ⟨hb_12, hF⟩ := gd_some hF
  refine Go.iald dX10_reaches_12 rfl (inb_ok hb_12) ?_
  refine Go.iconst (v := 5) dX10_reaches_13 (by decide) ?_
  refine Go.ishr dX10_reaches_14 ?_
  refine Go.sipush (v := 255) dX10_reaches_15 (by decide) ?_
  refine Go.iand dX10_reaches_18 ?_
  refine Go.istore (ls' := [(5, _), (4, _), (0, _), (1, _), (2, _), (3, _)]) dX10_reaches_19 (by decide) rfl ?_
  refine Go.aload_n dX10_reaches_21 rfl ?_
  refine Go.iload dX10_reaches_22 rfl ?_
  obtain ⟨r_24, hc_24, hF⟩ := Option.bind_eq_some_iff.mp hF
  refine Go.callV [_] dX10_reaches_24 kX8_jumpsFrom vX8_jumpsFrom lX10_48 rfl rfl rfl rfl rfl (Nat.le_of_ble_eq_true rfl) (Nat.le_of_ble_eq_true rfl) (ok_X8_jumpsFrom (d + 0) _ _ _ hc_24) ?_
  refine Go.iconst (v := 2) dX10_reaches_27 (by decide) ?_
  refine Go.iload dX10_reaches_28 rfl ?_
  refine Go.ishl dX10_reaches_30 ?_
  refine Go.ior dX10_reaches_31 ?_
  refine Go.istore (ls' := [(6, _), (5, _), (4, _), (0, _), (1, _), (2, _), (3, _)]) dX10_reaches_32 (by decide) rfl ?_
  refine Go.iconst (v := 0) dX10_reaches_34 (by decide) ?_
  refine Go.istore (ls' := [(7, _), (6, _), (5, _), (4, _), (0, _), (1, _), (2, _), (3, _)]) dX10_reaches_35 (by decide) rfl ?_
  refine Go.pick (ls' := [(0, _), (1, _), (2, _), (3, _), (5, _), (6, _), (7, _)]) [4, 5, 6, 7, 2, 1, 0] rfl ?_
  exact ok_X10_reaches_37 d N _ _ _ _ _ _ _ hF
def F_X10_stepsTo_4 : Nat → Int32 → Int32 → St → Option (Int32 × St)
  | 0 => fun _ _ _ => none
  | n + 1 => fun x2 x3 S =>
    if 5121 ≤ x3 then (some ((-1), S)) else (if 0 < x2 then (gd (inb x2 5121) ((F_X10_stepsTo_4 n) ((S.2.1 45 (Int32.toNatClampNeg x2)) >>> (13 &&& 31)) (x3 + 1) S)) else (some (x3, S)))
set_option maxHeartbeats 4000000 in
set_option maxRecDepth 100000 in
theorem ok_X10_stepsTo_4 {l : Launch} (d : Nat) : ∀ (n : Nat) (x2 : Int32) (x3 : Int32) (S : St) (R : Int32 × St), F_X10_stepsTo_4 n x2 x3 S = some R → Go l (d + 0) mX10_stepsTo (Res (some (.int R.1)) R.2) 4 [(0, .ref 7), (2, .int x2), (3, .int x3)] [] S := by
  intro n
  induction n with
  | zero => intro x2 x3 S  R hF; cases hF
  | succ n hk4 =>
    intro x2 x3 S  R hF
    have hF : (if 5121 ≤ x3 then (some ((-1), S)) else (if 0 < x2 then (gd (inb x2 5121) ((F_X10_stepsTo_4 n) ((S.2.1 45 (Int32.toNatClampNeg x2)) >>> (13 &&& 31)) (x3 + 1) S)) else (some (x3, S)))) = some R := hF
    refine Go.iload_n dX10_stepsTo_4 rfl ?_
    refine Go.aload_n dX10_stepsTo_5 rfl ?_
    refine Go.getR dX10_stepsTo_6 fX10_15 rfl ?_
    refine Go.alen (v := 5121) dX10_stepsTo_9 rfl (by decide) (by decide) ?_
    refine Go.icmpge (tgt := 35) dX10_stepsTo_10 (by decide) (fun h_10 => ?_) (fun h_10 => ?_)
    · have hF := ite_t h_10 hF
      refine Go.iconst (v := (-1)) dX10_stepsTo_35 (by decide) ?_
      obtain rfl := Option.some.inj hF
      exact Go.iret (st := []) dX10_stepsTo_36 rfl rfl ⟨rfl, rfl⟩
    · have hF := ite_f h_10 hF
      refine Go.iload_n dX10_stepsTo_13 rfl ?_
      refine Go.ifgt (tgt := 19) dX10_stepsTo_14 (by decide) (fun h_14 => ?_) (fun h_14 => ?_)
      · have hF := ite_t h_14 hF
        refine Go.aload_n dX10_stepsTo_19 rfl ?_
        refine Go.getR dX10_stepsTo_20 fX10_15 rfl ?_
        refine Go.iload_n dX10_stepsTo_23 rfl ?_
        obtain ⟨hb_24, hF⟩ := gd_some hF
        refine Go.iald dX10_stepsTo_24 rfl (inb_ok hb_24) ?_
        refine Go.bipush (v := 13) dX10_stepsTo_25 (by decide) ?_
        refine Go.ishr dX10_stepsTo_27 ?_
        refine Go.istore_n (ls' := [(2, _), (0, _), (3, _)]) dX10_stepsTo_28 (by decide) rfl ?_
        refine Go.iincP (ls' := [(3, _), (2, _), (0, _)]) dX10_stepsTo_29 rfl (by decide) rfl ?_
        refine Go.goto (tgt := 4) dX10_stepsTo_32 (by decide) ?_
        refine Go.pick (ls' := [(0, _), (2, _), (3, _)]) [2, 1, 0] rfl ?_
        exact hk4 _ _ _ _ hF
      · have hF := ite_f h_14 hF
        refine Go.iload_n dX10_stepsTo_17 rfl ?_
        obtain rfl := Option.some.inj hF
        exact Go.iret (st := []) dX10_stepsTo_18 rfl rfl ⟨rfl, rfl⟩
def F_X10_stepsTo (N : Nat) (x1 : Int32) (S : St) : Option (Int32 × St) :=
  F_X10_stepsTo_4 N x1 0 S
set_option maxHeartbeats 4000000 in
set_option maxRecDepth 100000 in
theorem ok_X10_stepsTo {l : Launch} (d : Nat) (N : Nat) (x1 : Int32) (S : St) (R : Int32 × St) (hF : F_X10_stepsTo N x1 S = some R) : Go l (d + 0) mX10_stepsTo (Res (some (.int R.1)) R.2) 0 [(0, .ref 7), (1, .int x1)] [] S := by
  unfold F_X10_stepsTo at hF
  refine Go.iload_n dX10_stepsTo_0 rfl ?_
  refine Go.istore_n (ls' := [(2, _), (0, _), (1, _)]) dX10_stepsTo_1 (by decide) rfl ?_
  refine Go.iconst (v := 0) dX10_stepsTo_2 (by decide) ?_
  refine Go.istore_n (ls' := [(3, _), (2, _), (0, _), (1, _)]) dX10_stepsTo_3 (by decide) rfl ?_
  refine Go.pick (ls' := [(0, _), (2, _), (3, _)]) [2, 1, 0] rfl ?_
  exact ok_X10_stepsTo_4 d N _ _ _ _ hF
def F_X10_search_54 (N : Nat) : Nat → Int32 → Int32 → St → Option (Int32 × St)
  | 0 => fun _ _ _ => none
  | n + 1 => fun x3 x5 S =>
    if (S.1 7 2) ≤ x5 then (some ((-1), S)) else (if 5121 ≤ x5 then (some ((-1), S)) else ((F_X10_reaches N x5 x3 S).bind (fun r_78 => if r_78.1 = 0 then ((F_X10_search_54 N n) x3 (x5 + 1) r_78.2) else ((F_X10_stepsTo N ((r_78.2.1 7 2) - 1) r_78.2).bind (fun r_91 => some (r_91.1, r_91.2))))))
set_option maxHeartbeats 4000000 in
set_option maxRecDepth 100000 in
theorem ok_X10_search_54 {l : Launch} (d : Nat) (N : Nat) : ∀ (n : Nat) (x3 : Int32) (x5 : Int32) (S : St) (R : Int32 × St), F_X10_search_54 N n x3 x5 S = some R → Go l (d + 2) mX10_search (Res (some (.int R.1)) R.2) 54 [(0, .ref 7), (1, .ref 1), (3, .int x3), (5, .int x5)] [] S := by
  intro n
  induction n with
  | zero => intro x3 x5 S  R hF; cases hF
  | succ n hk54 =>
    intro x3 x5 S  R hF
    have hF : (if (S.1 7 2) ≤ x5 then (some ((-1), S)) else (if 5121 ≤ x5 then (some ((-1), S)) else ((F_X10_reaches N x5 x3 S).bind (fun r_78 => if r_78.1 = 0 then ((F_X10_search_54 N n) x3 (x5 + 1) r_78.2) else ((F_X10_stepsTo N ((r_78.2.1 7 2) - 1) r_78.2).bind (fun r_91 => some (r_91.1, r_91.2))))))) = some R := hF
    refine Go.iload dX10_search_54 rfl ?_
    refine Go.aload_n dX10_search_56 rfl ?_
    refine Go.getI dX10_search_57 fX10_18 rfl ?_
    refine Go.icmpge (tgt := 101) dX10_search_60 (by decide) (fun h_60 => ?_) (fun h_60 => ?_)
    · have hF := ite_t h_60 hF
      refine Go.iconst (v := (-1)) dX10_search_101 (by decide) ?_
      obtain rfl := Option.some.inj hF
      exact Go.iret (st := []) dX10_search_102 rfl rfl ⟨rfl, rfl⟩
    · have hF := ite_f h_60 hF
      refine Go.iload dX10_search_63 rfl ?_
      refine Go.aload_n dX10_search_65 rfl ?_
      refine Go.getR dX10_search_66 fX10_15 rfl ?_
      refine Go.alen (v := 5121) dX10_search_69 rfl (by decide) (by decide) ?_
      refine Go.icmpge (tgt := 101) dX10_search_70 (by decide) (fun h_70 => ?_) (fun h_70 => ?_)
      · have hF := ite_t h_70 hF
        refine Go.iconst (v := (-1)) dX10_search_101 (by decide) ?_
        obtain rfl := Option.some.inj hF
        exact Go.iret (st := []) dX10_search_102 rfl rfl ⟨rfl, rfl⟩
      · have hF := ite_f h_70 hF
        refine Go.aload_n dX10_search_73 rfl ?_
        refine Go.aload_n dX10_search_74 rfl ?_
        refine Go.iload dX10_search_75 rfl ?_
        refine Go.iload_n dX10_search_77 rfl ?_
        obtain ⟨r_78, hc_78, hF⟩ := Option.bind_eq_some_iff.mp hF
        refine Go.callV [_, _, _] dX10_search_78 kX10_reaches vX10_reaches lX10_37 rfl rfl rfl rfl rfl (Nat.le_of_ble_eq_true rfl) (Nat.le_of_ble_eq_true rfl) (ok_X10_reaches (d + 0) N _ _ _ _ hc_78) ?_
        refine Go.ifeq (tgt := 95) dX10_search_81 (by decide) (fun h_81 => ?_) (fun h_81 => ?_)
        · have hF := ite_t h_81 hF
          refine Go.iincP (ls' := [(5, _), (0, _), (1, _), (3, _)]) dX10_search_95 rfl (by decide) rfl ?_
          refine Go.goto (tgt := 54) dX10_search_98 (by decide) ?_
          refine Go.pick (ls' := [(0, _), (1, _), (3, _), (5, _)]) [1, 2, 3, 0] rfl ?_
          exact hk54 _ _ _ _ hF
        · have hF := ite_f h_81 hF
          refine Go.aload_n dX10_search_84 rfl ?_
          refine Go.aload_n dX10_search_85 rfl ?_
          refine Go.getI dX10_search_86 fX10_18 rfl ?_
          refine Go.iconst (v := 1) dX10_search_89 (by decide) ?_
          refine Go.isub dX10_search_90 ?_
          obtain ⟨r_91, hc_91, hF⟩ := Option.bind_eq_some_iff.mp hF
          refine Go.callV [_] dX10_search_91 kX10_stepsTo vX10_stepsTo lX10_41 rfl rfl rfl rfl rfl (Nat.le_of_ble_eq_true rfl) (Nat.le_of_ble_eq_true rfl) (ok_X10_stepsTo (d + 1) N _ _ _ hc_91) ?_
          obtain rfl := Option.some.inj hF
          exact Go.iret (st := []) dX10_search_94 rfl rfl ⟨rfl, rfl⟩
def F_X10_search_14 (N : Nat) : Nat → Int32 → Int32 → Int32 → Int32 → St → Option (Int32 × St)
  | 0 => fun _ _ _ _ _ => none
  | n + 1 => fun x2 x3 x4 x5 S =>
    if x2 < x5 then (let S40 := fset S 7 2 0; (F_X10_add x2 x4 (0 : Int32) S40).bind (fun r_48 => F_X10_search_54 N N x3 0 r_48)) else (gd (inb x5 20) ((F_X10_search_14 N n) x2 x3 (x4 ||| (S.2.1 25 (Int32.toNatClampNeg x5))) (x5 + 1) S))
set_option maxHeartbeats 4000000 in
set_option maxRecDepth 100000 in
theorem ok_X10_search_14 {l : Launch} (d : Nat) (N : Nat) : ∀ (n : Nat) (x2 : Int32) (x3 : Int32) (x4 : Int32) (x5 : Int32) (S : St) (R : Int32 × St), F_X10_search_14 N n x2 x3 x4 x5 S = some R → Go l (d + 2) mX10_search (Res (some (.int R.1)) R.2) 14 [(0, .ref 7), (1, .ref 1), (2, .int x2), (3, .int x3), (4, .int x4), (5, .int x5)] [] S := by
  intro n
  induction n with
  | zero => intro x2 x3 x4 x5 S  R hF; cases hF
  | succ n hk14 =>
    intro x2 x3 x4 x5 S  R hF
    have hF : (if x2 < x5 then (let S40 := fset S 7 2 0; (F_X10_add x2 x4 (0 : Int32) S40).bind (fun r_48 => F_X10_search_54 N N x3 0 r_48)) else (gd (inb x5 20) ((F_X10_search_14 N n) x2 x3 (x4 ||| (S.2.1 25 (Int32.toNatClampNeg x5))) (x5 + 1) S))) = some R := hF
    refine Go.iload dX10_search_14 rfl ?_
    refine Go.iload_n dX10_search_16 rfl ?_
    refine Go.icmpgt (tgt := 38) dX10_search_17 (by decide) (fun h_17 => ?_) (fun h_17 => ?_)
    · have hF := ite_t h_17 hF
      refine Go.aload_n dX10_search_38 rfl ?_
      refine Go.iconst (v := 0) dX10_search_39 (by decide) ?_
      refine Go.putI dX10_search_40 fX10_18 rfl ?_
      refine Go.aload_n dX10_search_43 rfl ?_
      refine Go.iload_n dX10_search_44 rfl ?_
      refine Go.iload dX10_search_45 rfl ?_
      refine Go.iconst (v := 0) dX10_search_47 (by decide) ?_
      obtain ⟨r_48, hc_48, hF⟩ := Option.bind_eq_some_iff.mp hF
      refine Go.callV [_, _, _] dX10_search_48 kX10_add vX10_add lX10_33 rfl rfl rfl rfl rfl (Nat.le_of_ble_eq_true rfl) (Nat.le_of_ble_eq_true rfl) (ok_X10_add (d + 1) _ _ _ _ _ hc_48) ?_
      refine Go.iconst (v := 0) dX10_search_51 (by decide) ?_
      refine Go.istore (ls' := [(5, _), (0, _), (1, _), (2, _), (3, _), (4, _)]) dX10_search_52 (by decide) rfl ?_
      refine Go.pick (ls' := [(0, _), (1, _), (3, _), (5, _)]) [1, 2, 4, 0] rfl ?_
      exact ok_X10_search_54 d N N _ _ _ _ hF
    · have hF := ite_f h_17 hF
      refine Go.iload dX10_search_20 rfl ?_
      refine Go.aload_n dX10_search_22 rfl ?_
      refine Go.getR dX10_search_23 fX10_28 rfl ?_
      refine Go.iload dX10_search_26 rfl ?_
      obtain ⟨hb_28, hF⟩ := gd_some hF
      refine Go.iald dX10_search_28 rfl (inb_ok hb_28) ?_
      refine Go.ior dX10_search_29 ?_
      refine Go.istore (ls' := [(4, _), (0, _), (1, _), (2, _), (3, _), (5, _)]) dX10_search_30 (by decide) rfl ?_
      refine Go.iincP (ls' := [(5, _), (4, _), (0, _), (1, _), (2, _), (3, _)]) dX10_search_32 rfl (by decide) rfl ?_
      refine Go.goto (tgt := 14) dX10_search_35 (by decide) ?_
      refine Go.pick (ls' := [(0, _), (1, _), (2, _), (3, _), (4, _), (5, _)]) [2, 3, 4, 5, 1, 0] rfl ?_
      exact hk14 _ _ _ _ _ _ hF
def F_X10_search (N : Nat) (x2 : Int32) (x3 : Int32) (S : St) : Option (Int32 × St) :=
  (F_J7_fill_53178 N 44 256 (0 : Int32) S).bind (fun r_5 => F_X10_search_14 N N x2 x3 0 0 r_5)
set_option maxHeartbeats 4000000 in
set_option maxRecDepth 100000 in
theorem ok_X10_search {l : Launch} (d : Nat) (N : Nat) (x2 : Int32) (x3 : Int32) (S : St) (R : Int32 × St) (hF : F_X10_search N x2 x3 S = some R) : Go l (d + 2) mX10_search (Res (some (.int R.1)) R.2) 0 [(0, .ref 7), (1, .ref 1), (2, .int x2), (3, .int x3)] [] S := by
  unfold F_X10_search at hF
  refine Go.aload_n dX10_search_0 rfl ?_
  refine Go.getR dX10_search_1 fX10_11 rfl ?_
  refine Go.iconst (v := 0) dX10_search_4 (by decide) ?_
  obtain ⟨r_5, hc_5, hF⟩ := Option.bind_eq_some_iff.mp hF
  refine Go.callS [_, _] dX10_search_5 kJ7_fill_53178 sJ7_fill_53178 lX10_22 rfl rfl (Nat.le_of_ble_eq_true rfl) (Nat.le_of_ble_eq_true rfl) (ok_J7_fill_53178 (d + 1) N _ _ _ _ rfl _ hc_5) ?_
  refine Go.iconst (v := 0) dX10_search_8 (by decide) ?_
  refine Go.istore (ls' := [(4, _), (0, _), (1, _), (2, _), (3, _)]) dX10_search_9 (by decide) rfl ?_
  refine Go.iconst (v := 0) dX10_search_11 (by decide) ?_
  refine Go.istore (ls' := [(5, _), (4, _), (0, _), (1, _), (2, _), (3, _)]) dX10_search_12 (by decide) rfl ?_
  refine Go.pick (ls' := [(0, _), (1, _), (2, _), (3, _), (4, _), (5, _)]) [2, 3, 4, 5, 1, 0] rfl ?_
  exact ok_X10_search_14 d N N _ _ _ _ _ _ hF
def F_X10_lineAt_12 : Nat → Int32 → Int32 → Int32 → St → Option (Int32 × St)
  | 0 => fun _ _ _ _ => none
  | n + 1 => fun x2 x3 x4 S =>
    if x4 ≤ x2 then ((F_X10_lineOf x3 S).bind (fun r_36 => some (r_36.1, r_36.2))) else (gd (inb x3 5121) ((F_X10_lineAt_12 n) x2 ((S.2.1 45 (Int32.toNatClampNeg x3)) >>> (13 &&& 31)) (x4 + (-1)) S))
set_option maxHeartbeats 4000000 in
set_option maxRecDepth 100000 in
theorem ok_X10_lineAt_12 {l : Launch} (d : Nat) : ∀ (n : Nat) (x2 : Int32) (x3 : Int32) (x4 : Int32) (S : St) (R : Int32 × St), F_X10_lineAt_12 n x2 x3 x4 S = some R → Go l (d + 1) mX10_lineAt (Res (some (.int R.1)) R.2) 12 [(0, .ref 7), (2, .int x2), (3, .int x3), (4, .int x4)] [] S := by
  intro n
  induction n with
  | zero => intro x2 x3 x4 S  R hF; cases hF
  | succ n hk12 =>
    intro x2 x3 x4 S  R hF
    have hF : (if x4 ≤ x2 then ((F_X10_lineOf x3 S).bind (fun r_36 => some (r_36.1, r_36.2))) else (gd (inb x3 5121) ((F_X10_lineAt_12 n) x2 ((S.2.1 45 (Int32.toNatClampNeg x3)) >>> (13 &&& 31)) (x4 + (-1)) S))) = some R := hF
    refine Go.iload dX10_lineAt_12 rfl ?_
    refine Go.iload_n dX10_lineAt_14 rfl ?_
    refine Go.icmple (tgt := 34) dX10_lineAt_15 (by decide) (fun h_15 => ?_) (fun h_15 => ?_)
    · have hF := ite_t h_15 hF
      refine Go.aload_n dX10_lineAt_34 rfl ?_
      refine Go.iload_n dX10_lineAt_35 rfl ?_
      obtain ⟨r_36, hc_36, hF⟩ := Option.bind_eq_some_iff.mp hF
      refine Go.callV [_] dX10_lineAt_36 kX10_lineOf vX10_lineOf lX10_45 rfl rfl rfl rfl rfl (Nat.le_of_ble_eq_true rfl) (Nat.le_of_ble_eq_true rfl) (ok_X10_lineOf (d + 0) _ _ _ hc_36) ?_
      obtain rfl := Option.some.inj hF
      exact Go.iret (st := []) dX10_lineAt_39 rfl rfl ⟨rfl, rfl⟩
    · have hF := ite_f h_15 hF
      refine Go.aload_n dX10_lineAt_18 rfl ?_
      refine Go.getR dX10_lineAt_19 fX10_15 rfl ?_
      refine Go.iload_n dX10_lineAt_22 rfl ?_
      obtain ⟨hb_23, hF⟩ := gd_some hF
      refine Go.iald dX10_lineAt_23 rfl (inb_ok hb_23) ?_
      refine Go.bipush (v := 13) dX10_lineAt_24 (by decide) ?_
      refine Go.ishr dX10_lineAt_26 ?_
      refine Go.istore_n (ls' := [(3, _), (0, _), (2, _), (4, _)]) dX10_lineAt_27 (by decide) rfl ?_
      refine Go.iincM (ls' := [(4, _), (3, _), (0, _), (2, _)]) dX10_lineAt_28 rfl (by decide) rfl ?_
      refine Go.goto (tgt := 12) dX10_lineAt_31 (by decide) ?_
      refine Go.pick (ls' := [(0, _), (2, _), (3, _), (4, _)]) [2, 3, 1, 0] rfl ?_
      exact hk12 _ _ _ _ _ hF
def F_X10_lineAt (N : Nat) (x1 : Int32) (x2 : Int32) (S : St) : Option (Int32 × St) :=
  F_X10_lineAt_12 N x2 ((S.1 7 2) - 1) (x1 - 1) S
set_option maxHeartbeats 4000000 in
set_option maxRecDepth 100000 in
theorem ok_X10_lineAt {l : Launch} (d : Nat) (N : Nat) (x1 : Int32) (x2 : Int32) (S : St) (R : Int32 × St) (hF : F_X10_lineAt N x1 x2 S = some R) : Go l (d + 1) mX10_lineAt (Res (some (.int R.1)) R.2) 0 [(0, .ref 7), (1, .int x1), (2, .int x2)] [] S := by
  unfold F_X10_lineAt at hF
  refine Go.aload_n dX10_lineAt_0 rfl ?_
  refine Go.getI dX10_lineAt_1 fX10_18 rfl ?_
  refine Go.iconst (v := 1) dX10_lineAt_4 (by decide) ?_
  refine Go.isub dX10_lineAt_5 ?_
  refine Go.istore_n (ls' := [(3, _), (0, _), (1, _), (2, _)]) dX10_lineAt_6 (by decide) rfl ?_
  refine Go.iload_n dX10_lineAt_7 rfl ?_
  refine Go.iconst (v := 1) dX10_lineAt_8 (by decide) ?_
  refine Go.isub dX10_lineAt_9 ?_
  refine Go.istore (ls' := [(4, _), (3, _), (0, _), (1, _), (2, _)]) dX10_lineAt_10 (by decide) rfl ?_
  refine Go.pick (ls' := [(0, _), (2, _), (3, _), (4, _)]) [2, 4, 1, 0] rfl ?_
  exact ok_X10_lineAt_12 d N _ _ _ _ _ hF
def F_X11_line (x1 : Int32) (x2 : Int32) (x3 : Int32) (S : St) : Option (Int32 × St) :=
  if x1 < 0 then (some ((-1), S)) else (if 0 ≤ x3 then ((F_X8_mayBe (x1 / 100) ((x1 / 10) - ((x1 / 10) / 10) * 10) (x1 - (x1 / 10) * 10) x2 (x3 / 1000) S).bind (fun r_46 => if r_46.1 = 0 then (some ((-1), r_46.2)) else (if (x3 - (x3 / 1000) * 1000) ≤ 255 then ((F_X8_isFull r_46.2).bind (fun r_66 => if r_66.1 = 0 then ((F_X8_add x1 x2 (x3 / 1000) (x3 - (x3 / 1000) * 1000) r_66.2).bind (fun r_85 => some (r_85.1, r_85.2))) else (some ((-3), r_66.2)))) else (some ((-1), r_46.2))))) else (some ((-1), S)))
set_option maxHeartbeats 4000000 in
set_option maxRecDepth 100000 in
theorem ok_X11_line {l : Launch} (d : Nat) (x1 : Int32) (x2 : Int32) (x3 : Int32) (S : St) (R : Int32 × St) (hF : F_X11_line x1 x2 x3 S = some R) : Go l (d + 2) mX11_line (Res (some (.int R.1)) R.2) 0 [(0, .ref 0), (1, .int x1), (2, .int x2), (3, .int x3)] [] S := by
  unfold F_X11_line at hF
  refine Go.iload_n dX11_line_0 rfl ?_
  refine Go.iflt (tgt := 8) dX11_line_1 (by decide) (fun h_1 => ?_) (fun h_1 => ?_)
  · have hF := ite_t h_1 hF
    refine Go.iconst (v := (-1)) dX11_line_8 (by decide) ?_
    obtain rfl := Option.some.inj hF
    exact Go.iret (st := []) dX11_line_9 rfl rfl ⟨rfl, rfl⟩
  · have hF := ite_f h_1 hF
    refine Go.iload_n dX11_line_4 rfl ?_
    refine Go.ifge (tgt := 10) dX11_line_5 (by decide) (fun h_5 => ?_) (fun h_5 => ?_)
    · have hF := ite_t h_5 hF
      refine Go.iload_n dX11_line_10 rfl ?_
      refine Go.bipush (v := 100) dX11_line_11 (by decide) ?_
      refine Go.idiv dX11_line_13 (by decide) ?_
      refine Go.istore (ls' := [(4, _), (0, _), (1, _), (2, _), (3, _)]) dX11_line_14 (by decide) rfl ?_
      refine Go.iload_n dX11_line_16 rfl ?_
      refine Go.sipush (v := 1000) dX11_line_17 (by decide) ?_
      refine Go.idiv dX11_line_20 (by decide) ?_
      refine Go.istore (ls' := [(5, _), (4, _), (0, _), (1, _), (2, _), (3, _)]) dX11_line_21 (by decide) rfl ?_
      refine Go.iload_n dX11_line_23 rfl ?_
      refine Go.sipush (v := 1000) dX11_line_24 (by decide) ?_
      refine Go.irem dX11_line_27 (by decide) ?_
      refine Go.istore (ls' := [(6, _), (5, _), (4, _), (0, _), (1, _), (2, _), (3, _)]) dX11_line_28 (by decide) rfl ?_
      refine Go.iload dX11_line_30 rfl ?_
      refine Go.iload_n dX11_line_32 rfl ?_
      refine Go.bipush (v := 10) dX11_line_33 (by decide) ?_
      refine Go.idiv dX11_line_35 (by decide) ?_
      refine Go.bipush (v := 10) dX11_line_36 (by decide) ?_
      refine Go.irem dX11_line_38 (by decide) ?_
      refine Go.iload_n dX11_line_39 rfl ?_
      refine Go.bipush (v := 10) dX11_line_40 (by decide) ?_
      refine Go.irem dX11_line_42 (by decide) ?_
      refine Go.iload_n dX11_line_43 rfl ?_
      refine Go.iload dX11_line_44 rfl ?_
      obtain ⟨r_46, hc_46, hF⟩ := Option.bind_eq_some_iff.mp hF
      refine Go.callS [_, _, _, _, _] dX11_line_46 kX8_mayBe sX8_mayBe lX11_90 rfl rfl (Nat.le_of_ble_eq_true rfl) (Nat.le_of_ble_eq_true rfl) (ok_X8_mayBe (d + 0) _ _ _ _ _ _ _ hc_46) ?_
      refine Go.ifeq (tgt := 60) dX11_line_49 (by decide) (fun h_49 => ?_) (fun h_49 => ?_)
      · have hF := ite_t h_49 hF
        refine Go.iconst (v := (-1)) dX11_line_60 (by decide) ?_
        obtain rfl := Option.some.inj hF
        exact Go.iret (st := []) dX11_line_61 rfl rfl ⟨rfl, rfl⟩
      · have hF := ite_f h_49 hF
        refine Go.iload dX11_line_52 rfl ?_
        refine Go.sipush (v := 255) dX11_line_54 (by decide) ?_
        refine Go.icmple (tgt := 62) dX11_line_57 (by decide) (fun h_57 => ?_) (fun h_57 => ?_)
        · have hF := ite_t h_57 hF
          refine Go.aload_n dX11_line_62 rfl ?_
          refine Go.getR dX11_line_63 fX11_10 rfl ?_
          obtain ⟨r_66, hc_66, hF⟩ := Option.bind_eq_some_iff.mp hF
          refine Go.callV [] dX11_line_66 kX8_isFull vX8_isFull lX11_94 rfl rfl rfl rfl rfl (Nat.le_of_ble_eq_true rfl) (Nat.le_of_ble_eq_true rfl) (ok_X8_isFull (d + 1) _ _ hc_66) ?_
          refine Go.ifeq (tgt := 75) dX11_line_69 (by decide) (fun h_69 => ?_) (fun h_69 => ?_)
          · have hF := ite_t h_69 hF
            refine Go.aload_n dX11_line_75 rfl ?_
            refine Go.getR dX11_line_76 fX11_10 rfl ?_
            refine Go.iload_n dX11_line_79 rfl ?_
            refine Go.iload_n dX11_line_80 rfl ?_
            refine Go.iload dX11_line_81 rfl ?_
            refine Go.iload dX11_line_83 rfl ?_
            obtain ⟨r_85, hc_85, hF⟩ := Option.bind_eq_some_iff.mp hF
            refine Go.callV [_, _, _, _] dX11_line_85 kX8_add vX8_add lX11_98 rfl rfl rfl rfl rfl (Nat.le_of_ble_eq_true rfl) (Nat.le_of_ble_eq_true rfl) (ok_X8_add (d + 1) _ _ _ _ _ _ hc_85) ?_
            obtain rfl := Option.some.inj hF
            exact Go.iret (st := []) dX11_line_88 rfl rfl ⟨rfl, rfl⟩
          · have hF := ite_f h_69 hF
            refine Go.bipush (v := (-3)) dX11_line_72 (by decide) ?_
            obtain rfl := Option.some.inj hF
            exact Go.iret (st := []) dX11_line_74 rfl rfl ⟨rfl, rfl⟩
        · have hF := ite_f h_57 hF
          refine Go.iconst (v := (-1)) dX11_line_60 (by decide) ?_
          obtain rfl := Option.some.inj hF
          exact Go.iret (st := []) dX11_line_61 rfl rfl ⟨rfl, rfl⟩
    · have hF := ite_f h_5 hF
      refine Go.iconst (v := (-1)) dX11_line_8 (by decide) ?_
      obtain rfl := Option.some.inj hF
      exact Go.iret (st := []) dX11_line_9 rfl rfl ⟨rfl, rfl⟩
def F_X11_isNoShelf (x0 : Int32) (S : St) : Option (Int32 × St) :=
  if x0 < 0 then (some (1, S)) else (if x0 < 6 then (some (0, S)) else (some (1, S)))
set_option maxHeartbeats 4000000 in
set_option maxRecDepth 100000 in
theorem ok_X11_isNoShelf {l : Launch} (d : Nat) (x0 : Int32) (S : St) (R : Int32 × St) (hF : F_X11_isNoShelf x0 S = some R) : Go l (d + 0) mX11_isNoShelf (Res (some (.int R.1)) R.2) 0 [(0, .int x0)] [] S := by
  unfold F_X11_isNoShelf at hF
  refine Go.iload_n dX11_isNoShelf_0 rfl ?_
  refine Go.iflt (tgt := 10) dX11_isNoShelf_1 (by decide) (fun h_1 => ?_) (fun h_1 => ?_)
  · have hF := ite_t h_1 hF
    refine Go.iconst (v := 1) dX11_isNoShelf_10 (by decide) ?_
    refine Go.goto (tgt := 15) dX11_isNoShelf_11 (by decide) ?_
    obtain rfl := Option.some.inj hF
    exact Go.iret (st := []) dX11_isNoShelf_15 rfl rfl ⟨rfl, rfl⟩
  · have hF := ite_f h_1 hF
    refine Go.iload_n dX11_isNoShelf_4 rfl ?_
    refine Go.bipush (v := 6) dX11_isNoShelf_5 (by decide) ?_
    refine Go.icmplt (tgt := 14) dX11_isNoShelf_7 (by decide) (fun h_7 => ?_) (fun h_7 => ?_)
    · have hF := ite_t h_7 hF
      refine Go.iconst (v := 0) dX11_isNoShelf_14 (by decide) ?_
      obtain rfl := Option.some.inj hF
      exact Go.iret (st := []) dX11_isNoShelf_15 rfl rfl ⟨rfl, rfl⟩
    · have hF := ite_f h_7 hF
      refine Go.iconst (v := 1) dX11_isNoShelf_10 (by decide) ?_
      refine Go.goto (tgt := 15) dX11_isNoShelf_11 (by decide) ?_
      obtain rfl := Option.some.inj hF
      exact Go.iret (st := []) dX11_isNoShelf_15 rfl rfl ⟨rfl, rfl⟩
def F_X11_addFromRow (b1 : Nat) (x2 : Int32) (S : St) : Option (Int32 × St) :=
  (F_X9_intAt b1 x2 S).bind (fun r_2 => (F_X9_intAt b1 (x2 + 1) r_2.2).bind (fun r_10 => (F_X9_intAt b1 (x2 + 2) r_10.2).bind (fun r_19 => (F_X9_intAt b1 (x2 + 3) r_19.2).bind (fun r_28 => (F_X9_intAt b1 (x2 + 4) r_28.2).bind (fun r_37 => (F_X8_mayBe r_2.1 r_10.1 r_19.1 r_28.1 r_37.1 r_37.2).bind (fun r_51 => if r_51.1 = 0 then (some (0, r_51.2)) else ((F_X8_isFull r_51.2).bind (fun r_61 => if r_61.1 = 0 then ((F_X8_add (((100 * r_2.1) + (10 * r_10.1)) + r_19.1) r_28.1 r_37.1 (0 : Int32) r_61.2).bind (fun r_91 => some (1, r_91.2))) else (some (0, r_61.2))))))))))
set_option maxHeartbeats 4000000 in
set_option maxRecDepth 100000 in
theorem ok_X11_addFromRow {l : Launch} (d : Nat) (b1 : Nat) (x2 : Int32) (S : St) (hb1 : b1 < 6) (R : Int32 × St) (hF : F_X11_addFromRow b1 x2 S = some R) : Go l (d + 2) mX11_addFromRow (Res (some (.int R.1)) R.2) 0 [(0, .ref 0), (1, .ref (14 + b1)), (2, .int x2)] [] S := by
  unfold F_X11_addFromRow at hF
  refine Go.aload_n dX11_addFromRow_0 rfl ?_
  refine Go.iload_n dX11_addFromRow_1 rfl ?_
  obtain ⟨r_2, hc_2, hF⟩ := Option.bind_eq_some_iff.mp hF
  refine Go.callV [_] dX11_addFromRow_2 kX9_intAt vX9_intAt lX11_119 (cl_X9 hb1) rfl rfl rfl rfl (Nat.le_of_ble_eq_true rfl) (Nat.le_of_ble_eq_true rfl) (ok_X9_intAt (d + 1) _ _ _ hb1 _ hc_2) ?_
  refine Go.istore_n (ls' := [(3, _), (0, _), (1, _), (2, _)]) dX11_addFromRow_5 (by decide) rfl ?_
  refine Go.aload_n dX11_addFromRow_6 rfl ?_
  refine Go.iload_n dX11_addFromRow_7 rfl ?_
  refine Go.iconst (v := 1) dX11_addFromRow_8 (by decide) ?_
  refine Go.iadd dX11_addFromRow_9 ?_
  obtain ⟨r_10, hc_10, hF⟩ := Option.bind_eq_some_iff.mp hF
  refine Go.callV [_] dX11_addFromRow_10 kX9_intAt vX9_intAt lX11_119 (cl_X9 hb1) rfl rfl rfl rfl (Nat.le_of_ble_eq_true rfl) (Nat.le_of_ble_eq_true rfl) (ok_X9_intAt (d + 1) _ _ _ hb1 _ hc_10) ?_
  refine Go.istore (ls' := [(4, _), (3, _), (0, _), (1, _), (2, _)]) dX11_addFromRow_13 (by decide) rfl ?_
  refine Go.aload_n dX11_addFromRow_15 rfl ?_
  refine Go.iload_n dX11_addFromRow_16 rfl ?_
  refine Go.iconst (v := 2) dX11_addFromRow_17 (by decide) ?_
  refine Go.iadd dX11_addFromRow_18 ?_
  obtain ⟨r_19, hc_19, hF⟩ := Option.bind_eq_some_iff.mp hF
  refine Go.callV [_] dX11_addFromRow_19 kX9_intAt vX9_intAt lX11_119 (cl_X9 hb1) rfl rfl rfl rfl (Nat.le_of_ble_eq_true rfl) (Nat.le_of_ble_eq_true rfl) (ok_X9_intAt (d + 1) _ _ _ hb1 _ hc_19) ?_
  refine Go.istore (ls' := [(5, _), (4, _), (3, _), (0, _), (1, _), (2, _)]) dX11_addFromRow_22 (by decide) rfl ?_
  refine Go.aload_n dX11_addFromRow_24 rfl ?_
  refine Go.iload_n dX11_addFromRow_25 rfl ?_
  refine Go.iconst (v := 3) dX11_addFromRow_26 (by decide) ?_
  refine Go.iadd dX11_addFromRow_27 ?_
  obtain ⟨r_28, hc_28, hF⟩ := Option.bind_eq_some_iff.mp hF
  refine Go.callV [_] dX11_addFromRow_28 kX9_intAt vX9_intAt lX11_119 (cl_X9 hb1) rfl rfl rfl rfl (Nat.le_of_ble_eq_true rfl) (Nat.le_of_ble_eq_true rfl) (ok_X9_intAt (d + 1) _ _ _ hb1 _ hc_28) ?_
  refine Go.istore (ls' := [(6, _), (5, _), (4, _), (3, _), (0, _), (1, _), (2, _)]) dX11_addFromRow_31 (by decide) rfl ?_
  refine Go.aload_n dX11_addFromRow_33 rfl ?_
  refine Go.iload_n dX11_addFromRow_34 rfl ?_
  refine Go.iconst (v := 4) dX11_addFromRow_35 (by decide) ?_
  refine Go.iadd dX11_addFromRow_36 ?_
  obtain ⟨r_37, hc_37, hF⟩ := Option.bind_eq_some_iff.mp hF
  refine Go.callV [_] dX11_addFromRow_37 kX9_intAt vX9_intAt lX11_119 (cl_X9 hb1) rfl rfl rfl rfl (Nat.le_of_ble_eq_true rfl) (Nat.le_of_ble_eq_true rfl) (ok_X9_intAt (d + 1) _ _ _ hb1 _ hc_37) ?_
  refine Go.istore (ls' := [(7, _), (6, _), (5, _), (4, _), (3, _), (0, _), (1, _), (2, _)]) dX11_addFromRow_40 (by decide) rfl ?_
  refine Go.iload_n dX11_addFromRow_42 rfl ?_
  refine Go.iload dX11_addFromRow_43 rfl ?_
  refine Go.iload dX11_addFromRow_45 rfl ?_
  refine Go.iload dX11_addFromRow_47 rfl ?_
  refine Go.iload dX11_addFromRow_49 rfl ?_
  obtain ⟨r_51, hc_51, hF⟩ := Option.bind_eq_some_iff.mp hF
  refine Go.callS [_, _, _, _, _] dX11_addFromRow_51 kX8_mayBe sX8_mayBe lX11_90 rfl rfl (Nat.le_of_ble_eq_true rfl) (Nat.le_of_ble_eq_true rfl) (ok_X8_mayBe (d + 0) _ _ _ _ _ _ _ hc_51) ?_
  refine Go.ifeq (tgt := 67) dX11_addFromRow_54 (by decide) (fun h_54 => ?_) (fun h_54 => ?_)
  · have hF := ite_t h_54 hF
    refine Go.iconst (v := 0) dX11_addFromRow_67 (by decide) ?_
    obtain rfl := Option.some.inj hF
    exact Go.iret (st := []) dX11_addFromRow_68 rfl rfl ⟨rfl, rfl⟩
  · have hF := ite_f h_54 hF
    refine Go.aload_n dX11_addFromRow_57 rfl ?_
    refine Go.getR dX11_addFromRow_58 fX11_10 rfl ?_
    obtain ⟨r_61, hc_61, hF⟩ := Option.bind_eq_some_iff.mp hF
    refine Go.callV [] dX11_addFromRow_61 kX8_isFull vX8_isFull lX11_94 rfl rfl rfl rfl rfl (Nat.le_of_ble_eq_true rfl) (Nat.le_of_ble_eq_true rfl) (ok_X8_isFull (d + 1) _ _ hc_61) ?_
    refine Go.ifeq (tgt := 69) dX11_addFromRow_64 (by decide) (fun h_64 => ?_) (fun h_64 => ?_)
    · have hF := ite_t h_64 hF
      refine Go.aload_n dX11_addFromRow_69 rfl ?_
      refine Go.getR dX11_addFromRow_70 fX11_10 rfl ?_
      refine Go.bipush (v := 100) dX11_addFromRow_73 (by decide) ?_
      refine Go.iload_n dX11_addFromRow_75 rfl ?_
      refine Go.imul dX11_addFromRow_76 ?_
      refine Go.bipush (v := 10) dX11_addFromRow_77 (by decide) ?_
      refine Go.iload dX11_addFromRow_79 rfl ?_
      refine Go.imul dX11_addFromRow_81 ?_
      refine Go.iadd dX11_addFromRow_82 ?_
      refine Go.iload dX11_addFromRow_83 rfl ?_
      refine Go.iadd dX11_addFromRow_85 ?_
      refine Go.iload dX11_addFromRow_86 rfl ?_
      refine Go.iload dX11_addFromRow_88 rfl ?_
      refine Go.iconst (v := 0) dX11_addFromRow_90 (by decide) ?_
      obtain ⟨r_91, hc_91, hF⟩ := Option.bind_eq_some_iff.mp hF
      refine Go.callV [_, _, _, _] dX11_addFromRow_91 kX8_add vX8_add lX11_98 rfl rfl rfl rfl rfl (Nat.le_of_ble_eq_true rfl) (Nat.le_of_ble_eq_true rfl) (ok_X8_add (d + 1) _ _ _ _ _ _ hc_91) ?_
      refine Go.pop dX11_addFromRow_94 rfl ?_
      refine Go.iconst (v := 1) dX11_addFromRow_95 (by decide) ?_
      obtain rfl := Option.some.inj hF
      exact Go.iret (st := []) dX11_addFromRow_96 rfl rfl ⟨rfl, rfl⟩
    · have hF := ite_f h_64 hF
      refine Go.iconst (v := 0) dX11_addFromRow_67 (by decide) ?_
      obtain rfl := Option.some.inj hF
      exact Go.iret (st := []) dX11_addFromRow_68 rfl rfl ⟨rfl, rfl⟩
def F_X11_lines_53 : Nat → Int32 → Int32 → Nat → Int32 → St → Option (Int32 × St)
  | 0 => fun _ _ _ _ _ => none
  | n + 1 => fun x2 x3 x4 x5 S =>
    if x3 ≤ x5 then (some (x3, S)) else (if x2 < 0 then (some (x5, S)) else (if ((S.1 (14 + x4) 3) - (5 * (x5 + 1))) < x2 then (some (x5, S)) else ((F_X11_addFromRow x4 (x2 + (5 * x5)) S).bind (fun r_88 => if r_88.1 = 0 then (some (x5, r_88.2)) else ((F_X11_lines_53 n) x2 x3 x4 (x5 + 1) r_88.2)))))
set_option maxHeartbeats 4000000 in
set_option maxRecDepth 100000 in
theorem ok_X11_lines_53 {l : Launch} (d : Nat) : ∀ (n : Nat) (x2 : Int32) (x3 : Int32) (x4 : Nat) (x5 : Int32) (S : St) (hx4 : x4 < 6) (R : Int32 × St), F_X11_lines_53 n x2 x3 x4 x5 S = some R → Go l (d + 3) mX11_lines (Res (some (.int R.1)) R.2) 53 [(0, .ref 0), (2, .int x2), (3, .int x3), (4, .ref (14 + x4)), (5, .int x5)] [] S := by
  intro n
  induction n with
  | zero => intro x2 x3 x4 x5 S hx4 R hF; cases hF
  | succ n hk53 =>
    intro x2 x3 x4 x5 S hx4 R hF
    have hF : (if x3 ≤ x5 then (some (x3, S)) else (if x2 < 0 then (some (x5, S)) else (if ((S.1 (14 + x4) 3) - (5 * (x5 + 1))) < x2 then (some (x5, S)) else ((F_X11_addFromRow x4 (x2 + (5 * x5)) S).bind (fun r_88 => if r_88.1 = 0 then (some (x5, r_88.2)) else ((F_X11_lines_53 n) x2 x3 x4 (x5 + 1) r_88.2)))))) = some R := hF
    refine Go.iload dX11_lines_53 rfl ?_
    refine Go.iload_n dX11_lines_55 rfl ?_
    refine Go.icmpge (tgt := 103) dX11_lines_56 (by decide) (fun h_56 => ?_) (fun h_56 => ?_)
    · have hF := ite_t h_56 hF
      refine Go.iload_n dX11_lines_103 rfl ?_
      obtain rfl := Option.some.inj hF
      exact Go.iret (st := []) dX11_lines_104 rfl rfl ⟨rfl, rfl⟩
    · have hF := ite_f h_56 hF
      refine Go.iload_n dX11_lines_59 rfl ?_
      refine Go.iflt (tgt := 94) dX11_lines_60 (by decide) (fun h_60 => ?_) (fun h_60 => ?_)
      · have hF := ite_t h_60 hF
        refine Go.iload dX11_lines_94 rfl ?_
        obtain rfl := Option.some.inj hF
        exact Go.iret (st := []) dX11_lines_96 rfl rfl ⟨rfl, rfl⟩
      · have hF := ite_f h_60 hF
        refine Go.iload_n dX11_lines_63 rfl ?_
        refine Go.aload dX11_lines_64 rfl ?_
        refine Go.getI dX11_lines_66 fX11_112 (sl_X9_3 hx4) ?_
        refine Go.iconst (v := 5) dX11_lines_69 (by decide) ?_
        refine Go.iload dX11_lines_70 rfl ?_
        refine Go.iconst (v := 1) dX11_lines_72 (by decide) ?_
        refine Go.iadd dX11_lines_73 ?_
        refine Go.imul dX11_lines_74 ?_
        refine Go.isub dX11_lines_75 ?_
        refine Go.icmpgt (tgt := 94) dX11_lines_76 (by decide) (fun h_76 => ?_) (fun h_76 => ?_)
        · have hF := ite_t h_76 hF
          refine Go.iload dX11_lines_94 rfl ?_
          obtain rfl := Option.some.inj hF
          exact Go.iret (st := []) dX11_lines_96 rfl rfl ⟨rfl, rfl⟩
        · have hF := ite_f h_76 hF
          refine Go.aload_n dX11_lines_79 rfl ?_
          refine Go.aload dX11_lines_80 rfl ?_
          refine Go.iload_n dX11_lines_82 rfl ?_
          refine Go.iconst (v := 5) dX11_lines_83 (by decide) ?_
          refine Go.iload dX11_lines_84 rfl ?_
          refine Go.imul dX11_lines_86 ?_
          refine Go.iadd dX11_lines_87 ?_
          obtain ⟨r_88, hc_88, hF⟩ := Option.bind_eq_some_iff.mp hF
          refine Go.callV [_, _] dX11_lines_88 kX11_addFromRow vX11_addFromRow lX11_115 rfl rfl rfl rfl rfl (Nat.le_of_ble_eq_true rfl) (Nat.le_of_ble_eq_true rfl) (ok_X11_addFromRow (d + 0) _ _ _ hx4 _ hc_88) ?_
          refine Go.ifne (tgt := 97) dX11_lines_91 (by decide) (fun h_91 => ?_) (fun h_91 => ?_)
          · have hF := ite_f h_91 hF
            refine Go.iincP (ls' := [(5, _), (0, _), (2, _), (3, _), (4, _)]) dX11_lines_97 rfl (by decide) rfl ?_
            refine Go.goto (tgt := 53) dX11_lines_100 (by decide) ?_
            refine Go.pick (ls' := [(0, _), (2, _), (3, _), (4, _), (5, _)]) [1, 2, 3, 4, 0] rfl ?_
            exact hk53 _ _ _ _ _ hx4 _ hF
          · have hF := ite_t h_91 hF
            refine Go.iload dX11_lines_94 rfl ?_
            obtain rfl := Option.some.inj hF
            exact Go.iret (st := []) dX11_lines_96 rfl rfl ⟨rfl, rfl⟩
def F_X11_lines (N : Nat) (x1 : Int32) (x2 : Int32) (x3 : Int32) (S : St) : Option (Int32 × St) :=
  (F_X11_isNoShelf x1 S).bind (fun r_1 => if r_1.1 = 0 then (if x3 < 1 then (some ((-1), r_1.2)) else (if x3 ≤ 12 then (gd (inb x1 6) ((F_X9_holdsNothing (Int32.toNatClampNeg x1) r_1.2).bind (fun r_30 => if r_30.1 = 0 then ((F_X9_holdsRowOf (Int32.toNatClampNeg x1) (1 : Int32) r_30.2).bind (fun r_41 => if r_41.1 = 0 then (some ((-12), r_41.2)) else (F_X11_lines_53 N x2 x3 (Int32.toNatClampNeg x1) 0 r_41.2))) else (some (0, r_30.2))))) else (some ((-1), r_1.2)))) else (some ((-1), r_1.2)))
set_option maxHeartbeats 4000000 in
set_option maxRecDepth 100000 in
theorem ok_X11_lines {l : Launch} (d : Nat) (N : Nat) (x1 : Int32) (x2 : Int32) (x3 : Int32) (S : St) (R : Int32 × St) (hF : F_X11_lines N x1 x2 x3 S = some R) : Go l (d + 3) mX11_lines (Res (some (.int R.1)) R.2) 0 [(0, .ref 0), (1, .int x1), (2, .int x2), (3, .int x3)] [] S := by
  unfold F_X11_lines at hF
  refine Go.iload_n dX11_lines_0 rfl ?_
  obtain ⟨r_1, hc_1, hF⟩ := Option.bind_eq_some_iff.mp hF
  refine Go.callS [_] dX11_lines_1 kX11_isNoShelf sX11_isNoShelf lX11_102 rfl rfl (Nat.le_of_ble_eq_true rfl) (Nat.le_of_ble_eq_true rfl) (ok_X11_isNoShelf (d + 2) _ _ _ hc_1) ?_
  refine Go.ifne (tgt := 18) dX11_lines_4 (by decide) (fun h_4 => ?_) (fun h_4 => ?_)
  · have hF := ite_f h_4 hF
    refine Go.iconst (v := (-1)) dX11_lines_18 (by decide) ?_
    obtain rfl := Option.some.inj hF
    exact Go.iret (st := []) dX11_lines_19 rfl rfl ⟨rfl, rfl⟩
  · have hF := ite_t h_4 hF
    refine Go.iload_n dX11_lines_7 rfl ?_
    refine Go.iconst (v := 1) dX11_lines_8 (by decide) ?_
    refine Go.icmplt (tgt := 18) dX11_lines_9 (by decide) (fun h_9 => ?_) (fun h_9 => ?_)
    · have hF := ite_t h_9 hF
      refine Go.iconst (v := (-1)) dX11_lines_18 (by decide) ?_
      obtain rfl := Option.some.inj hF
      exact Go.iret (st := []) dX11_lines_19 rfl rfl ⟨rfl, rfl⟩
    · have hF := ite_f h_9 hF
      refine Go.iload_n dX11_lines_12 rfl ?_
      refine Go.bipush (v := 12) dX11_lines_13 (by decide) ?_
      refine Go.icmple (tgt := 20) dX11_lines_15 (by decide) (fun h_15 => ?_) (fun h_15 => ?_)
      · have hF := ite_t h_15 hF
        refine Go.aload_n dX11_lines_20 rfl ?_
        refine Go.getR dX11_lines_21 fX11_85 rfl ?_
        refine Go.iload_n dX11_lines_24 rfl ?_
        obtain ⟨hb_25, hF⟩ := gd_some hF
        refine Go.aald dX11_lines_25 rfl (inb_ok hb_25) ?_
        refine Go.astore (ls' := [(4, _), (0, _), (1, _), (2, _), (3, _)]) dX11_lines_26 (by decide) rfl ?_
        refine Go.aload dX11_lines_28 rfl ?_
        obtain ⟨r_30, hc_30, hF⟩ := Option.bind_eq_some_iff.mp hF
        refine Go.callV [] dX11_lines_30 kX9_holdsNothing vX9_holdsNothing lX11_106 (cl_X9 (inb_lt hb_25)) rfl rfl rfl rfl (Nat.le_of_ble_eq_true rfl) (Nat.le_of_ble_eq_true rfl) (ok_X9_holdsNothing (d + 2) _ _ (inb_lt hb_25) _ hc_30) ?_
        refine Go.ifeq (tgt := 38) dX11_lines_33 (by decide) (fun h_33 => ?_) (fun h_33 => ?_)
        · have hF := ite_t h_33 hF
          refine Go.aload dX11_lines_38 rfl ?_
          refine Go.iconst (v := 1) dX11_lines_40 (by decide) ?_
          obtain ⟨r_41, hc_41, hF⟩ := Option.bind_eq_some_iff.mp hF
          refine Go.callV [_] dX11_lines_41 kX9_holdsRowOf vX9_holdsRowOf lX11_109 (cl_X9 (inb_lt hb_25)) rfl rfl rfl rfl (Nat.le_of_ble_eq_true rfl) (Nat.le_of_ble_eq_true rfl) (ok_X9_holdsRowOf (d + 2) _ _ _ (inb_lt hb_25) _ hc_41) ?_
          refine Go.ifne (tgt := 50) dX11_lines_44 (by decide) (fun h_44 => ?_) (fun h_44 => ?_)
          · have hF := ite_f h_44 hF
            refine Go.iconst (v := 0) dX11_lines_50 (by decide) ?_
            refine Go.istore (ls' := [(5, _), (4, _), (0, _), (1, _), (2, _), (3, _)]) dX11_lines_51 (by decide) rfl ?_
            refine Go.pick (ls' := [(0, _), (2, _), (3, _), (4, _), (5, _)]) [2, 4, 5, 1, 0] rfl ?_
            exact ok_X11_lines_53 d N _ _ _ _ _ (inb_lt hb_25) _ hF
          · have hF := ite_t h_44 hF
            refine Go.bipush (v := (-12)) dX11_lines_47 (by decide) ?_
            obtain rfl := Option.some.inj hF
            exact Go.iret (st := []) dX11_lines_49 rfl rfl ⟨rfl, rfl⟩
        · have hF := ite_f h_33 hF
          refine Go.iconst (v := 0) dX11_lines_36 (by decide) ?_
          obtain rfl := Option.some.inj hF
          exact Go.iret (st := []) dX11_lines_37 rfl rfl ⟨rfl, rfl⟩
      · have hF := ite_f h_15 hF
        refine Go.iconst (v := (-1)) dX11_lines_18 (by decide) ?_
        obtain rfl := Option.some.inj hF
        exact Go.iret (st := []) dX11_lines_19 rfl rfl ⟨rfl, rfl⟩
def F_X11_feed (x1 : Int32) (S : St) : Option (Int32 × St) :=
  if x1 < 0 then (some ((-1), S)) else (if x1 ≤ 255 then (if (S.1 0 2) < 120 then (gd (inb (S.1 0 2) 120) (let S34 := aset S 20 (upd (S.2.1 20) (Int32.toNatClampNeg (S.1 0 2)) x1); let S42 := fset S34 0 2 ((S34.1 0 2) + 1); some (S42.1 0 2, S42))) else (some ((-3), S))) else (some ((-1), S)))
set_option maxHeartbeats 4000000 in
set_option maxRecDepth 100000 in
theorem ok_X11_feed {l : Launch} (d : Nat) (x1 : Int32) (S : St) (R : Int32 × St) (hF : F_X11_feed x1 S = some R) : Go l (d + 0) mX11_feed (Res (some (.int R.1)) R.2) 0 [(0, .ref 0), (1, .int x1)] [] S := by
  unfold F_X11_feed at hF
  refine Go.iload_n dX11_feed_0 rfl ?_
  refine Go.iflt (tgt := 11) dX11_feed_1 (by decide) (fun h_1 => ?_) (fun h_1 => ?_)
  · have hF := ite_t h_1 hF
    refine Go.iconst (v := (-1)) dX11_feed_11 (by decide) ?_
    obtain rfl := Option.some.inj hF
    exact Go.iret (st := []) dX11_feed_12 rfl rfl ⟨rfl, rfl⟩
  · have hF := ite_f h_1 hF
    refine Go.iload_n dX11_feed_4 rfl ?_
    refine Go.sipush (v := 255) dX11_feed_5 (by decide) ?_
    refine Go.icmple (tgt := 13) dX11_feed_8 (by decide) (fun h_8 => ?_) (fun h_8 => ?_)
    · have hF := ite_t h_8 hF
      refine Go.aload_n dX11_feed_13 rfl ?_
      refine Go.getI dX11_feed_14 fX11_20 rfl ?_
      refine Go.bipush (v := 120) dX11_feed_17 (by decide) ?_
      refine Go.icmplt (tgt := 25) dX11_feed_19 (by decide) (fun h_19 => ?_) (fun h_19 => ?_)
      · have hF := ite_t h_19 hF
        refine Go.aload_n dX11_feed_25 rfl ?_
        refine Go.getR dX11_feed_26 fX11_16 rfl ?_
        refine Go.aload_n dX11_feed_29 rfl ?_
        refine Go.getI dX11_feed_30 fX11_20 rfl ?_
        refine Go.iload_n dX11_feed_33 rfl ?_
        obtain ⟨hb_34, hF⟩ := gd_some hF
        refine Go.iast dX11_feed_34 rfl (inb_ok hb_34) ?_
        refine Go.aload_n dX11_feed_35 rfl ?_
        refine Go.dup dX11_feed_36 rfl ?_
        refine Go.getI dX11_feed_37 fX11_20 rfl ?_
        refine Go.iconst (v := 1) dX11_feed_40 (by decide) ?_
        refine Go.iadd dX11_feed_41 ?_
        refine Go.putI dX11_feed_42 fX11_20 rfl ?_
        refine Go.aload_n dX11_feed_45 rfl ?_
        refine Go.getI dX11_feed_46 fX11_20 rfl ?_
        obtain rfl := Option.some.inj hF
        exact Go.iret (st := []) dX11_feed_49 rfl rfl ⟨rfl, rfl⟩
      · have hF := ite_f h_19 hF
        refine Go.bipush (v := (-3)) dX11_feed_22 (by decide) ?_
        obtain rfl := Option.some.inj hF
        exact Go.iret (st := []) dX11_feed_24 rfl rfl ⟨rfl, rfl⟩
    · have hF := ite_f h_8 hF
      refine Go.iconst (v := (-1)) dX11_feed_11 (by decide) ?_
      obtain rfl := Option.some.inj hF
      exact Go.iret (st := []) dX11_feed_12 rfl rfl ⟨rfl, rfl⟩
def F_X11_law_11 (N : Nat) (x1 : Int32) (S : St) : Option (Int32 × St) :=
  (F_X6_faultOf N (S.1 0 2) S).bind (fun r_23 => let S29 := fset r_23.2 0 2 0; if r_23.1 = (-1) then (if x1 = 0 then ((F_X6_handTo 0 S29).bind (fun r_67 => some (1, r_67))) else ((F_X6_handTo 1 S29).bind (fun r_67 => some (1, r_67)))) else (some ((-100) - r_23.1, S29)))
set_option maxHeartbeats 4000000 in
set_option maxRecDepth 100000 in
theorem ok_X11_law_11 {l : Launch} (d : Nat) (N : Nat) (x1 : Int32) (S : St) (R : Int32 × St) (hF : F_X11_law_11 N x1 S = some R) : Go l (d + 5) mX11_law (Res (some (.int R.1)) R.2) 11 [(0, .ref 0), (1, .int x1)] [] S := by
  unfold F_X11_law_11 at hF
  refine Go.aload_n dX11_law_11 rfl ?_
  refine Go.getR dX11_law_12 fX11_27 rfl ?_
  refine Go.aload_n dX11_law_15 rfl ?_
  refine Go.getR dX11_law_16 fX11_16 rfl ?_
  refine Go.aload_n dX11_law_19 rfl ?_
  refine Go.getI dX11_law_20 fX11_20 rfl ?_
  obtain ⟨r_23, hc_23, hF⟩ := Option.bind_eq_some_iff.mp hF
  refine Go.callV [_, _] dX11_law_23 kX6_faultOf vX6_faultOf lX11_123 rfl rfl rfl rfl rfl (Nat.le_of_ble_eq_true rfl) (Nat.le_of_ble_eq_true rfl) (ok_X6_faultOf (d + 0) N _ _ _ hc_23) ?_
  refine Go.istore_n (ls' := [(2, _), (0, _), (1, _)]) dX11_law_26 (by decide) rfl ?_
  refine Go.aload_n dX11_law_27 rfl ?_
  refine Go.iconst (v := 0) dX11_law_28 (by decide) ?_
  refine Go.putI dX11_law_29 fX11_20 rfl ?_
  refine Go.iload_n dX11_law_32 rfl ?_
  refine Go.iconst (v := (-1)) dX11_law_33 (by decide) ?_
  refine Go.icmpeq (tgt := 42) dX11_law_34 (by decide) (fun h_34 => ?_) (fun h_34 => ?_)
  · have hF := ite_t h_34 hF
    refine Go.aload_n dX11_law_42 rfl ?_
    refine Go.getR dX11_law_43 fX11_27 rfl ?_
    refine Go.iload_n dX11_law_46 rfl ?_
    refine Go.ifne (tgt := 60) dX11_law_47 (by decide) (fun h_47 => ?_) (fun h_47 => ?_)
    · have hF := ite_f h_47 hF
      refine Go.aload_n dX11_law_60 rfl ?_
      refine Go.getR dX11_law_61 fX11_10 rfl ?_
      refine Go.getR dX11_law_64 fX11_131 rfl ?_
      obtain ⟨r_67, hc_67, hF⟩ := Option.bind_eq_some_iff.mp hF
      refine Go.callV [_] dX11_law_67 kX6_handTo vX6_handTo lX11_134 rfl rfl rfl rfl rfl (Nat.le_of_ble_eq_true rfl) (Nat.le_of_ble_eq_true rfl) (ok_X6_handTo (d + 3) _ _ (by decide) _ hc_67) ?_
      refine Go.iconst (v := 1) dX11_law_70 (by decide) ?_
      obtain rfl := Option.some.inj hF
      exact Go.iret (st := []) dX11_law_71 rfl rfl ⟨rfl, rfl⟩
    · have hF := ite_t h_47 hF
      refine Go.aload_n dX11_law_50 rfl ?_
      refine Go.getR dX11_law_51 fX11_10 rfl ?_
      refine Go.getR dX11_law_54 fX11_127 rfl ?_
      refine Go.goto (tgt := 67) dX11_law_57 (by decide) ?_
      obtain ⟨r_67, hc_67, hF⟩ := Option.bind_eq_some_iff.mp hF
      refine Go.callV [_] dX11_law_67 kX6_handTo vX6_handTo lX11_134 rfl rfl rfl rfl rfl (Nat.le_of_ble_eq_true rfl) (Nat.le_of_ble_eq_true rfl) (ok_X6_handTo (d + 3) _ _ (by decide) _ hc_67) ?_
      refine Go.iconst (v := 1) dX11_law_70 (by decide) ?_
      obtain rfl := Option.some.inj hF
      exact Go.iret (st := []) dX11_law_71 rfl rfl ⟨rfl, rfl⟩
  · have hF := ite_f h_34 hF
    refine Go.bipush (v := (-100)) dX11_law_37 (by decide) ?_
    refine Go.iload_n dX11_law_39 rfl ?_
    refine Go.isub dX11_law_40 ?_
    obtain rfl := Option.some.inj hF
    exact Go.iret (st := []) dX11_law_41 rfl rfl ⟨rfl, rfl⟩
def F_X11_law (N : Nat) (x1 : Int32) (S : St) : Option (Int32 × St) :=
  if x1 = 0 then (F_X11_law_11 N x1 S) else (if x1 = 1 then (F_X11_law_11 N x1 S) else (some ((-1), S)))
set_option maxHeartbeats 4000000 in
set_option maxRecDepth 100000 in
theorem ok_X11_law {l : Launch} (d : Nat) (N : Nat) (x1 : Int32) (S : St) (R : Int32 × St) (hF : F_X11_law N x1 S = some R) : Go l (d + 5) mX11_law (Res (some (.int R.1)) R.2) 0 [(0, .ref 0), (1, .int x1)] [] S := by
  unfold F_X11_law at hF
  refine Go.iload_n dX11_law_0 rfl ?_
  refine Go.ifeq (tgt := 11) dX11_law_1 (by decide) (fun h_1 => ?_) (fun h_1 => ?_)
  · have hF := ite_t h_1 hF
    refine Go.pick (ls' := [(0, _), (1, _)]) [0, 1] rfl ?_
    exact ok_X11_law_11 d N _ _ _ hF
  · have hF := ite_f h_1 hF
    refine Go.iload_n dX11_law_4 rfl ?_
    refine Go.iconst (v := 1) dX11_law_5 (by decide) ?_
    refine Go.icmpeq (tgt := 11) dX11_law_6 (by decide) (fun h_6 => ?_) (fun h_6 => ?_)
    · have hF := ite_t h_6 hF
      refine Go.pick (ls' := [(0, _), (1, _)]) [0, 1] rfl ?_
      exact ok_X11_law_11 d N _ _ _ hF
    · have hF := ite_f h_6 hF
      refine Go.iconst (v := (-1)) dX11_law_9 (by decide) ?_
      obtain rfl := Option.some.inj hF
      exact Go.iret (st := []) dX11_law_10 rfl rfl ⟨rfl, rfl⟩
def F_X11_set_32 (x1 : Int32) (x2 : Int32) (S : St) : Option (Int32 × St) :=
  if x1 = 1 then (if x2 < 0 then (some ((-1), S)) else (if 9 < x2 then (some ((-1), S)) else (let S60 := fset S 1 11 x2; some (S.1 1 11, S60)))) else (some ((-1), S))
set_option maxHeartbeats 4000000 in
set_option maxRecDepth 100000 in
theorem ok_X11_set_32 {l : Launch} (d : Nat) (x1 : Int32) (x2 : Int32) (S : St) (R : Int32 × St) (hF : F_X11_set_32 x1 x2 S = some R) : Go l (d + 0) mX11_set (Res (some (.int R.1)) R.2) 32 [(0, .ref 0), (1, .int x1), (2, .int x2)] [] S := by
  unfold F_X11_set_32 at hF
  refine Go.iload_n dX11_set_32 rfl ?_
  refine Go.iconst (v := 1) dX11_set_33 (by decide) ?_
  refine Go.icmpne (tgt := 65) dX11_set_34 (by decide) (fun h_34 => ?_) (fun h_34 => ?_)
  · have hF := ite_f h_34 hF
    refine Go.iconst (v := (-1)) dX11_set_65 (by decide) ?_
    obtain rfl := Option.some.inj hF
    exact Go.iret (st := []) dX11_set_66 rfl rfl ⟨rfl, rfl⟩
  · have hF := ite_t h_34 hF
    refine Go.iload_n dX11_set_37 rfl ?_
    refine Go.iflt (tgt := 65) dX11_set_38 (by decide) (fun h_38 => ?_) (fun h_38 => ?_)
    · have hF := ite_t h_38 hF
      refine Go.iconst (v := (-1)) dX11_set_65 (by decide) ?_
      obtain rfl := Option.some.inj hF
      exact Go.iret (st := []) dX11_set_66 rfl rfl ⟨rfl, rfl⟩
    · have hF := ite_f h_38 hF
      refine Go.iload_n dX11_set_41 rfl ?_
      refine Go.bipush (v := 9) dX11_set_42 (by decide) ?_
      refine Go.icmpgt (tgt := 65) dX11_set_44 (by decide) (fun h_44 => ?_) (fun h_44 => ?_)
      · have hF := ite_t h_44 hF
        refine Go.iconst (v := (-1)) dX11_set_65 (by decide) ?_
        obtain rfl := Option.some.inj hF
        exact Go.iret (st := []) dX11_set_66 rfl rfl ⟨rfl, rfl⟩
      · have hF := ite_f h_44 hF
        refine Go.aload_n dX11_set_47 rfl ?_
        refine Go.getR dX11_set_48 fX11_10 rfl ?_
        refine Go.getI dX11_set_51 fX11_141 rfl ?_
        refine Go.istore_n (ls' := [(3, _), (0, _), (1, _), (2, _)]) dX11_set_54 (by decide) rfl ?_
        refine Go.aload_n dX11_set_55 rfl ?_
        refine Go.getR dX11_set_56 fX11_10 rfl ?_
        refine Go.iload_n dX11_set_59 rfl ?_
        refine Go.putI dX11_set_60 fX11_141 rfl ?_
        refine Go.iload_n dX11_set_63 rfl ?_
        obtain rfl := Option.some.inj hF
        exact Go.iret (st := []) dX11_set_64 rfl rfl ⟨rfl, rfl⟩
def F_X11_set (x1 : Int32) (x2 : Int32) (S : St) : Option (Int32 × St) :=
  if x1 = 0 then (if x2 < 0 then (F_X11_set_32 x1 x2 S) else (if 9 < x2 then (F_X11_set_32 x1 x2 S) else (let S27 := fset S 1 10 x2; some (S.1 1 10, S27)))) else (F_X11_set_32 x1 x2 S)
set_option maxHeartbeats 4000000 in
set_option maxRecDepth 100000 in
theorem ok_X11_set {l : Launch} (d : Nat) (x1 : Int32) (x2 : Int32) (S : St) (R : Int32 × St) (hF : F_X11_set x1 x2 S = some R) : Go l (d + 0) mX11_set (Res (some (.int R.1)) R.2) 0 [(0, .ref 0), (1, .int x1), (2, .int x2)] [] S := by
  unfold F_X11_set at hF
  refine Go.iload_n dX11_set_0 rfl ?_
  refine Go.ifne (tgt := 32) dX11_set_1 (by decide) (fun h_1 => ?_) (fun h_1 => ?_)
  · have hF := ite_f h_1 hF
    refine Go.pick (ls' := [(0, _), (1, _), (2, _)]) [0, 1, 2] rfl ?_
    exact ok_X11_set_32 d _ _ _ _ hF
  · have hF := ite_t h_1 hF
    refine Go.iload_n dX11_set_4 rfl ?_
    refine Go.iflt (tgt := 32) dX11_set_5 (by decide) (fun h_5 => ?_) (fun h_5 => ?_)
    · have hF := ite_t h_5 hF
      refine Go.pick (ls' := [(0, _), (1, _), (2, _)]) [0, 1, 2] rfl ?_
      exact ok_X11_set_32 d _ _ _ _ hF
    · have hF := ite_f h_5 hF
      refine Go.iload_n dX11_set_8 rfl ?_
      refine Go.bipush (v := 9) dX11_set_9 (by decide) ?_
      refine Go.icmpgt (tgt := 32) dX11_set_11 (by decide) (fun h_11 => ?_) (fun h_11 => ?_)
      · have hF := ite_t h_11 hF
        refine Go.pick (ls' := [(0, _), (1, _), (2, _)]) [0, 1, 2] rfl ?_
        exact ok_X11_set_32 d _ _ _ _ hF
      · have hF := ite_f h_11 hF
        refine Go.aload_n dX11_set_14 rfl ?_
        refine Go.getR dX11_set_15 fX11_10 rfl ?_
        refine Go.getI dX11_set_18 fX11_138 rfl ?_
        refine Go.istore_n (ls' := [(3, _), (0, _), (1, _), (2, _)]) dX11_set_21 (by decide) rfl ?_
        refine Go.aload_n dX11_set_22 rfl ?_
        refine Go.getR dX11_set_23 fX11_10 rfl ?_
        refine Go.iload_n dX11_set_26 rfl ?_
        refine Go.putI dX11_set_27 fX11_138 rfl ?_
        refine Go.iload_n dX11_set_30 rfl ?_
        obtain rfl := Option.some.inj hF
        exact Go.iret (st := []) dX11_set_31 rfl rfl ⟨rfl, rfl⟩
def F_X11_mend_99 (x1 : Int32) (x2 : Int32) (x3 : Int32) (y0 : Int32) (S : St) : Option (Int32 × St) :=
  if x3 = y0 then (some (y0, S)) else ((F_X1_note x2 x1 y0 x3 S).bind (fun r_116 => (F_X8_change x2 x1 x3 r_116).bind (fun r_126 => some (y0, r_126))))
set_option maxHeartbeats 4000000 in
set_option maxRecDepth 100000 in
theorem ok_X11_mend_99 {l : Launch} (d : Nat) (x1 : Int32) (x2 : Int32) (x3 : Int32) (y0 : Int32) (S : St) (R : Int32 × St) (hF : F_X11_mend_99 x1 x2 x3 y0 S = some R) : Go l (d + 3) mX11_mend (Res (some (.int R.1)) R.2) 99 [(0, .ref 0), (1, .int x1), (2, .int x2), (3, .int x3)] [.int y0] S := by
  unfold F_X11_mend_99 at hF
  refine Go.istore (ls' := [(6, _), (0, _), (1, _), (2, _), (3, _)]) dX11_mend_99 (by decide) rfl ?_
  refine Go.iload_n dX11_mend_101 rfl ?_
  refine Go.iload dX11_mend_102 rfl ?_
  refine Go.icmpeq (tgt := 129) dX11_mend_104 (by decide) (fun h_104 => ?_) (fun h_104 => ?_)
  · have hF := ite_t h_104 hF
    refine Go.iload dX11_mend_129 rfl ?_
    obtain rfl := Option.some.inj hF
    exact Go.iret (st := []) dX11_mend_131 rfl rfl ⟨rfl, rfl⟩
  · have hF := ite_f h_104 hF
    refine Go.aload_n dX11_mend_107 rfl ?_
    refine Go.getR dX11_mend_108 fX11_72 rfl ?_
    refine Go.iload_n dX11_mend_111 rfl ?_
    refine Go.iload_n dX11_mend_112 rfl ?_
    refine Go.iload dX11_mend_113 rfl ?_
    refine Go.iload_n dX11_mend_115 rfl ?_
    obtain ⟨r_116, hc_116, hF⟩ := Option.bind_eq_some_iff.mp hF
    refine Go.callV [_, _, _, _] dX11_mend_116 kX1_note vX1_note lX11_156 rfl rfl rfl rfl rfl (Nat.le_of_ble_eq_true rfl) (Nat.le_of_ble_eq_true rfl) (ok_X1_note (d + 0) _ _ _ _ _ _ hc_116) ?_
    refine Go.aload_n dX11_mend_119 rfl ?_
    refine Go.getR dX11_mend_120 fX11_10 rfl ?_
    refine Go.iload_n dX11_mend_123 rfl ?_
    refine Go.iload_n dX11_mend_124 rfl ?_
    refine Go.iload_n dX11_mend_125 rfl ?_
    obtain ⟨r_126, hc_126, hF⟩ := Option.bind_eq_some_iff.mp hF
    refine Go.callV [_, _, _] dX11_mend_126 kX8_change vX8_change lX11_160 rfl rfl rfl rfl rfl (Nat.le_of_ble_eq_true rfl) (Nat.le_of_ble_eq_true rfl) (ok_X8_change (d + 1) _ _ _ _ _ hc_126) ?_
    refine Go.iload dX11_mend_129 rfl ?_
    obtain rfl := Option.some.inj hF
    exact Go.iret (st := []) dX11_mend_131 rfl rfl ⟨rfl, rfl⟩
def F_X11_mend_59 (x1 : Int32) (x2 : Int32) (x3 : Int32) (x4 : Int32) (y0 : Int32) (S : St) : Option (Int32 × St) :=
  if x4 = 0 then (if y0 = 0 then (some ((-1), S)) else (if x4 = 0 then (gd (inb x1 6) (F_X11_mend_99 x1 x2 x3 (S.2.1 28 (Int32.toNatClampNeg x1)) S)) else (gd (inb x1 20) (F_X11_mend_99 x1 x2 x3 (S.2.1 27 (Int32.toNatClampNeg x1)) S)))) else (if x4 = 0 then (gd (inb x1 6) (F_X11_mend_99 x1 x2 x3 (S.2.1 28 (Int32.toNatClampNeg x1)) S)) else (gd (inb x1 20) (F_X11_mend_99 x1 x2 x3 (S.2.1 27 (Int32.toNatClampNeg x1)) S)))
set_option maxHeartbeats 4000000 in
set_option maxRecDepth 100000 in
theorem ok_X11_mend_59 {l : Launch} (d : Nat) (x1 : Int32) (x2 : Int32) (x3 : Int32) (x4 : Int32) (y0 : Int32) (S : St) (R : Int32 × St) (hF : F_X11_mend_59 x1 x2 x3 x4 y0 S = some R) : Go l (d + 3) mX11_mend (Res (some (.int R.1)) R.2) 59 [(0, .ref 0), (1, .int x1), (2, .int x2), (3, .int x3), (4, .int x4)] [.int y0] S := by
  unfold F_X11_mend_59 at hF
  refine Go.istore (ls' := [(5, _), (0, _), (1, _), (2, _), (3, _), (4, _)]) dX11_mend_59 (by decide) rfl ?_
  refine Go.iload dX11_mend_61 rfl ?_
  refine Go.ifne (tgt := 73) dX11_mend_63 (by decide) (fun h_63 => ?_) (fun h_63 => ?_)
  · have hF := ite_f h_63 hF
    refine Go.iload dX11_mend_73 rfl ?_
    refine Go.ifeq (tgt := 90) dX11_mend_75 (by decide) (fun h_75 => ?_) (fun h_75 => ?_)
    · have hF := ite_t h_75 hF
      refine Go.aload_n dX11_mend_90 rfl ?_
      refine Go.getR dX11_mend_91 fX11_10 rfl ?_
      refine Go.getR dX11_mend_94 fX11_153 rfl ?_
      refine Go.iload_n dX11_mend_97 rfl ?_
      obtain ⟨hb_98, hF⟩ := gd_some hF
      refine Go.iald dX11_mend_98 rfl (inb_ok hb_98) ?_
      refine Go.pick (ls' := [(0, _), (1, _), (2, _), (3, _)]) [1, 2, 3, 4] rfl ?_
      exact ok_X11_mend_99 d _ _ _ _ _ _ hF
    · have hF := ite_f h_75 hF
      refine Go.aload_n dX11_mend_78 rfl ?_
      refine Go.getR dX11_mend_79 fX11_10 rfl ?_
      refine Go.getR dX11_mend_82 fX11_150 rfl ?_
      refine Go.iload_n dX11_mend_85 rfl ?_
      obtain ⟨hb_86, hF⟩ := gd_some hF
      refine Go.iald dX11_mend_86 rfl (inb_ok hb_86) ?_
      refine Go.goto (tgt := 99) dX11_mend_87 (by decide) ?_
      refine Go.pick (ls' := [(0, _), (1, _), (2, _), (3, _)]) [1, 2, 3, 4] rfl ?_
      exact ok_X11_mend_99 d _ _ _ _ _ _ hF
  · have hF := ite_t h_63 hF
    refine Go.iload dX11_mend_66 rfl ?_
    refine Go.ifne (tgt := 73) dX11_mend_68 (by decide) (fun h_68 => ?_) (fun h_68 => ?_)
    · have hF := ite_f h_68 hF
      refine Go.iload dX11_mend_73 rfl ?_
      refine Go.ifeq (tgt := 90) dX11_mend_75 (by decide) (fun h_75 => ?_) (fun h_75 => ?_)
      · have hF := ite_t h_75 hF
        refine Go.aload_n dX11_mend_90 rfl ?_
        refine Go.getR dX11_mend_91 fX11_10 rfl ?_
        refine Go.getR dX11_mend_94 fX11_153 rfl ?_
        refine Go.iload_n dX11_mend_97 rfl ?_
        obtain ⟨hb_98, hF⟩ := gd_some hF
        refine Go.iald dX11_mend_98 rfl (inb_ok hb_98) ?_
        refine Go.pick (ls' := [(0, _), (1, _), (2, _), (3, _)]) [1, 2, 3, 4] rfl ?_
        exact ok_X11_mend_99 d _ _ _ _ _ _ hF
      · have hF := ite_f h_75 hF
        refine Go.aload_n dX11_mend_78 rfl ?_
        refine Go.getR dX11_mend_79 fX11_10 rfl ?_
        refine Go.getR dX11_mend_82 fX11_150 rfl ?_
        refine Go.iload_n dX11_mend_85 rfl ?_
        obtain ⟨hb_86, hF⟩ := gd_some hF
        refine Go.iald dX11_mend_86 rfl (inb_ok hb_86) ?_
        refine Go.goto (tgt := 99) dX11_mend_87 (by decide) ?_
        refine Go.pick (ls' := [(0, _), (1, _), (2, _), (3, _)]) [1, 2, 3, 4] rfl ?_
        exact ok_X11_mend_99 d _ _ _ _ _ _ hF
    · have hF := ite_t h_68 hF
      refine Go.iconst (v := (-1)) dX11_mend_71 (by decide) ?_
      obtain rfl := Option.some.inj hF
      exact Go.iret (st := []) dX11_mend_72 rfl rfl ⟨rfl, rfl⟩
def F_X11_mend_30 (x1 : Int32) (x2 : Int32) (x3 : Int32) (y0 : Int32) (S : St) : Option (Int32 × St) :=
  if x2 = 1 then ((F_X11_isPart x1 S).bind (fun r_38 => if r_38.1 = 0 then (F_X11_mend_59 x1 x2 x3 y0 0 r_38.2) else (if x3 < 0 then (F_X11_mend_59 x1 x2 x3 y0 0 r_38.2) else (if 9 < x3 then (F_X11_mend_59 x1 x2 x3 y0 0 r_38.2) else (F_X11_mend_59 x1 x2 x3 y0 1 r_38.2))))) else (F_X11_mend_59 x1 x2 x3 y0 0 S)
set_option maxHeartbeats 4000000 in
set_option maxRecDepth 100000 in
theorem ok_X11_mend_30 {l : Launch} (d : Nat) (x1 : Int32) (x2 : Int32) (x3 : Int32) (y0 : Int32) (S : St) (R : Int32 × St) (hF : F_X11_mend_30 x1 x2 x3 y0 S = some R) : Go l (d + 3) mX11_mend (Res (some (.int R.1)) R.2) 30 [(0, .ref 0), (1, .int x1), (2, .int x2), (3, .int x3)] [.int y0] S := by
  unfold F_X11_mend_30 at hF
  refine Go.istore (ls' := [(4, _), (0, _), (1, _), (2, _), (3, _)]) dX11_mend_30 (by decide) rfl ?_
  refine Go.iload_n dX11_mend_32 rfl ?_
  refine Go.iconst (v := 1) dX11_mend_33 (by decide) ?_
  refine Go.icmpne (tgt := 58) dX11_mend_34 (by decide) (fun h_34 => ?_) (fun h_34 => ?_)
  · have hF := ite_f h_34 hF
    refine Go.iconst (v := 0) dX11_mend_58 (by decide) ?_
    refine Go.pick (ls' := [(0, _), (1, _), (2, _), (3, _), (4, _)]) [1, 2, 3, 4, 0] rfl ?_
    exact ok_X11_mend_59 d _ _ _ _ _ _ _ hF
  · have hF := ite_t h_34 hF
    refine Go.iload_n dX11_mend_37 rfl ?_
    obtain ⟨r_38, hc_38, hF⟩ := Option.bind_eq_some_iff.mp hF
    refine Go.callS [_] dX11_mend_38 kX11_isPart sX11_isPart lX11_147 rfl rfl (Nat.le_of_ble_eq_true rfl) (Nat.le_of_ble_eq_true rfl) (ok_X11_isPart (d + 2) _ _ _ hc_38) ?_
    refine Go.ifeq (tgt := 58) dX11_mend_41 (by decide) (fun h_41 => ?_) (fun h_41 => ?_)
    · have hF := ite_t h_41 hF
      refine Go.iconst (v := 0) dX11_mend_58 (by decide) ?_
      refine Go.pick (ls' := [(0, _), (1, _), (2, _), (3, _), (4, _)]) [1, 2, 3, 4, 0] rfl ?_
      exact ok_X11_mend_59 d _ _ _ _ _ _ _ hF
    · have hF := ite_f h_41 hF
      refine Go.iload_n dX11_mend_44 rfl ?_
      refine Go.iflt (tgt := 58) dX11_mend_45 (by decide) (fun h_45 => ?_) (fun h_45 => ?_)
      · have hF := ite_t h_45 hF
        refine Go.iconst (v := 0) dX11_mend_58 (by decide) ?_
        refine Go.pick (ls' := [(0, _), (1, _), (2, _), (3, _), (4, _)]) [1, 2, 3, 4, 0] rfl ?_
        exact ok_X11_mend_59 d _ _ _ _ _ _ _ hF
      · have hF := ite_f h_45 hF
        refine Go.iload_n dX11_mend_48 rfl ?_
        refine Go.bipush (v := 9) dX11_mend_49 (by decide) ?_
        refine Go.icmpgt (tgt := 58) dX11_mend_51 (by decide) (fun h_51 => ?_) (fun h_51 => ?_)
        · have hF := ite_t h_51 hF
          refine Go.iconst (v := 0) dX11_mend_58 (by decide) ?_
          refine Go.pick (ls' := [(0, _), (1, _), (2, _), (3, _), (4, _)]) [1, 2, 3, 4, 0] rfl ?_
          exact ok_X11_mend_59 d _ _ _ _ _ _ _ hF
        · have hF := ite_f h_51 hF
          refine Go.iconst (v := 1) dX11_mend_54 (by decide) ?_
          refine Go.goto (tgt := 59) dX11_mend_55 (by decide) ?_
          refine Go.pick (ls' := [(0, _), (1, _), (2, _), (3, _), (4, _)]) [1, 2, 3, 4, 0] rfl ?_
          exact ok_X11_mend_59 d _ _ _ _ _ _ _ hF
def F_X11_mend (x1 : Int32) (x2 : Int32) (x3 : Int32) (S : St) : Option (Int32 × St) :=
  if x2 = 0 then ((F_X8_has x1 S).bind (fun r_9 => if r_9.1 = 0 then (F_X11_mend_30 x1 x2 x3 0 r_9.2) else (if x3 < 0 then (F_X11_mend_30 x1 x2 x3 0 r_9.2) else (if 100 < x3 then (F_X11_mend_30 x1 x2 x3 0 r_9.2) else (F_X11_mend_30 x1 x2 x3 1 r_9.2))))) else (F_X11_mend_30 x1 x2 x3 0 S)
set_option maxHeartbeats 4000000 in
set_option maxRecDepth 100000 in
theorem ok_X11_mend {l : Launch} (d : Nat) (x1 : Int32) (x2 : Int32) (x3 : Int32) (S : St) (R : Int32 × St) (hF : F_X11_mend x1 x2 x3 S = some R) : Go l (d + 3) mX11_mend (Res (some (.int R.1)) R.2) 0 [(0, .ref 0), (1, .int x1), (2, .int x2), (3, .int x3)] [] S := by
  unfold F_X11_mend at hF
  refine Go.iload_n dX11_mend_0 rfl ?_
  refine Go.ifne (tgt := 29) dX11_mend_1 (by decide) (fun h_1 => ?_) (fun h_1 => ?_)
  · have hF := ite_f h_1 hF
    refine Go.iconst (v := 0) dX11_mend_29 (by decide) ?_
    refine Go.pick (ls' := [(0, _), (1, _), (2, _), (3, _)]) [0, 1, 2, 3] rfl ?_
    exact ok_X11_mend_30 d _ _ _ _ _ _ hF
  · have hF := ite_t h_1 hF
    refine Go.aload_n dX11_mend_4 rfl ?_
    refine Go.getR dX11_mend_5 fX11_10 rfl ?_
    refine Go.iload_n dX11_mend_8 rfl ?_
    obtain ⟨r_9, hc_9, hF⟩ := Option.bind_eq_some_iff.mp hF
    refine Go.callV [_] dX11_mend_9 kX8_has vX8_has lX11_144 rfl rfl rfl rfl rfl (Nat.le_of_ble_eq_true rfl) (Nat.le_of_ble_eq_true rfl) (ok_X8_has (d + 2) _ _ _ hc_9) ?_
    refine Go.ifeq (tgt := 29) dX11_mend_12 (by decide) (fun h_12 => ?_) (fun h_12 => ?_)
    · have hF := ite_t h_12 hF
      refine Go.iconst (v := 0) dX11_mend_29 (by decide) ?_
      refine Go.pick (ls' := [(0, _), (1, _), (2, _), (3, _)]) [0, 1, 2, 3] rfl ?_
      exact ok_X11_mend_30 d _ _ _ _ _ _ hF
    · have hF := ite_f h_12 hF
      refine Go.iload_n dX11_mend_15 rfl ?_
      refine Go.iflt (tgt := 29) dX11_mend_16 (by decide) (fun h_16 => ?_) (fun h_16 => ?_)
      · have hF := ite_t h_16 hF
        refine Go.iconst (v := 0) dX11_mend_29 (by decide) ?_
        refine Go.pick (ls' := [(0, _), (1, _), (2, _), (3, _)]) [0, 1, 2, 3] rfl ?_
        exact ok_X11_mend_30 d _ _ _ _ _ _ hF
      · have hF := ite_f h_16 hF
        refine Go.iload_n dX11_mend_19 rfl ?_
        refine Go.bipush (v := 100) dX11_mend_20 (by decide) ?_
        refine Go.icmpgt (tgt := 29) dX11_mend_22 (by decide) (fun h_22 => ?_) (fun h_22 => ?_)
        · have hF := ite_t h_22 hF
          refine Go.iconst (v := 0) dX11_mend_29 (by decide) ?_
          refine Go.pick (ls' := [(0, _), (1, _), (2, _), (3, _)]) [0, 1, 2, 3] rfl ?_
          exact ok_X11_mend_30 d _ _ _ _ _ _ hF
        · have hF := ite_f h_22 hF
          refine Go.iconst (v := 1) dX11_mend_25 (by decide) ?_
          refine Go.goto (tgt := 30) dX11_mend_26 (by decide) ?_
          refine Go.pick (ls' := [(0, _), (1, _), (2, _), (3, _)]) [0, 1, 2, 3] rfl ?_
          exact ok_X11_mend_30 d _ _ _ _ _ _ hF
def F_X11_of_12 (N : Nat) (x1 : Int32) (x2 : Int32) (S : St) : Option (Int32 × St) :=
  (F_X11_isPart x1 S).bind (fun r_13 => if r_13.1 = 0 then (some ((-1), r_13.2)) else (if x2 = 10 then (gd (inb x1 6) (some (r_13.2.2.1 28 (Int32.toNatClampNeg x1), r_13.2))) else ((F_X8_linesOfPart N x1 r_13.2).bind (fun r_44 => some (r_44.1, r_44.2)))))
set_option maxHeartbeats 4000000 in
set_option maxRecDepth 100000 in
theorem ok_X11_of_12 {l : Launch} (d : Nat) (N : Nat) (x1 : Int32) (x2 : Int32) (S : St) (R : Int32 × St) (hF : F_X11_of_12 N x1 x2 S = some R) : Go l (d + 6) mX11_of (Res (some (.int R.1)) R.2) 12 [(0, .ref 0), (1, .int x1), (2, .int x2)] [] S := by
  unfold F_X11_of_12 at hF
  refine Go.iload_n dX11_of_12 rfl ?_
  obtain ⟨r_13, hc_13, hF⟩ := Option.bind_eq_some_iff.mp hF
  refine Go.callS [_] dX11_of_13 kX11_isPart sX11_isPart lX11_147 rfl rfl (Nat.le_of_ble_eq_true rfl) (Nat.le_of_ble_eq_true rfl) (ok_X11_isPart (d + 5) _ _ _ hc_13) ?_
  refine Go.ifne (tgt := 21) dX11_of_16 (by decide) (fun h_16 => ?_) (fun h_16 => ?_)
  · have hF := ite_f h_16 hF
    refine Go.iload_n dX11_of_21 rfl ?_
    refine Go.bipush (v := 10) dX11_of_22 (by decide) ?_
    refine Go.icmpne (tgt := 39) dX11_of_24 (by decide) (fun h_24 => ?_) (fun h_24 => ?_)
    · have hF := ite_f h_24 hF
      refine Go.aload_n dX11_of_39 rfl ?_
      refine Go.getR dX11_of_40 fX11_10 rfl ?_
      refine Go.iload_n dX11_of_43 rfl ?_
      obtain ⟨r_44, hc_44, hF⟩ := Option.bind_eq_some_iff.mp hF
      refine Go.callV [_] dX11_of_44 kX8_linesOfPart vX8_linesOfPart lX11_164 rfl rfl rfl rfl rfl (Nat.le_of_ble_eq_true rfl) (Nat.le_of_ble_eq_true rfl) (ok_X8_linesOfPart (d + 5) N _ _ _ hc_44) ?_
      obtain rfl := Option.some.inj hF
      exact Go.iret (st := []) dX11_of_47 rfl rfl ⟨rfl, rfl⟩
    · have hF := ite_t h_24 hF
      refine Go.aload_n dX11_of_27 rfl ?_
      refine Go.getR dX11_of_28 fX11_10 rfl ?_
      refine Go.getR dX11_of_31 fX11_153 rfl ?_
      refine Go.iload_n dX11_of_34 rfl ?_
      obtain ⟨hb_35, hF⟩ := gd_some hF
      refine Go.iald dX11_of_35 rfl (inb_ok hb_35) ?_
      refine Go.goto (tgt := 47) dX11_of_36 (by decide) ?_
      obtain rfl := Option.some.inj hF
      exact Go.iret (st := []) dX11_of_47 rfl rfl ⟨rfl, rfl⟩
  · have hF := ite_t h_16 hF
    refine Go.iconst (v := (-1)) dX11_of_19 (by decide) ?_
    obtain rfl := Option.some.inj hF
    exact Go.iret (st := []) dX11_of_20 rfl rfl ⟨rfl, rfl⟩
def F_X11_of (N : Nat) (x1 : Int32) (x2 : Int32) (S : St) : Option (Int32 × St) :=
  if x2 = 10 then (F_X11_of_12 N x1 x2 S) else (if x2 = 11 then (F_X11_of_12 N x1 x2 S) else ((F_X8_has x1 S).bind (fun r_53 => if r_53.1 = 0 then (some ((-1), r_53.2)) else ((F_X8_about N x1 x2 r_53.2).bind (fun r_67 => some (r_67.1, r_67.2))))))
set_option maxHeartbeats 4000000 in
set_option maxRecDepth 100000 in
theorem ok_X11_of {l : Launch} (d : Nat) (N : Nat) (x1 : Int32) (x2 : Int32) (S : St) (R : Int32 × St) (hF : F_X11_of N x1 x2 S = some R) : Go l (d + 6) mX11_of (Res (some (.int R.1)) R.2) 0 [(0, .ref 0), (1, .int x1), (2, .int x2)] [] S := by
  unfold F_X11_of at hF
  refine Go.iload_n dX11_of_0 rfl ?_
  refine Go.bipush (v := 10) dX11_of_1 (by decide) ?_
  refine Go.icmpeq (tgt := 12) dX11_of_3 (by decide) (fun h_3 => ?_) (fun h_3 => ?_)
  · have hF := ite_t h_3 hF
    refine Go.pick (ls' := [(0, _), (1, _), (2, _)]) [0, 1, 2] rfl ?_
    exact ok_X11_of_12 d N _ _ _ _ hF
  · have hF := ite_f h_3 hF
    refine Go.iload_n dX11_of_6 rfl ?_
    refine Go.bipush (v := 11) dX11_of_7 (by decide) ?_
    refine Go.icmpne (tgt := 48) dX11_of_9 (by decide) (fun h_9 => ?_) (fun h_9 => ?_)
    · have hF := ite_f h_9 hF
      refine Go.aload_n dX11_of_48 rfl ?_
      refine Go.getR dX11_of_49 fX11_10 rfl ?_
      refine Go.iload_n dX11_of_52 rfl ?_
      obtain ⟨r_53, hc_53, hF⟩ := Option.bind_eq_some_iff.mp hF
      refine Go.callV [_] dX11_of_53 kX8_has vX8_has lX11_144 rfl rfl rfl rfl rfl (Nat.le_of_ble_eq_true rfl) (Nat.le_of_ble_eq_true rfl) (ok_X8_has (d + 5) _ _ _ hc_53) ?_
      refine Go.ifne (tgt := 61) dX11_of_56 (by decide) (fun h_56 => ?_) (fun h_56 => ?_)
      · have hF := ite_f h_56 hF
        refine Go.aload_n dX11_of_61 rfl ?_
        refine Go.getR dX11_of_62 fX11_10 rfl ?_
        refine Go.iload_n dX11_of_65 rfl ?_
        refine Go.iload_n dX11_of_66 rfl ?_
        obtain ⟨r_67, hc_67, hF⟩ := Option.bind_eq_some_iff.mp hF
        refine Go.callV [_, _] dX11_of_67 kX8_about vX8_about lX11_167 rfl rfl rfl rfl rfl (Nat.le_of_ble_eq_true rfl) (Nat.le_of_ble_eq_true rfl) (ok_X8_about (d + 0) N _ _ _ _ hc_67) ?_
        obtain rfl := Option.some.inj hF
        exact Go.iret (st := []) dX11_of_70 rfl rfl ⟨rfl, rfl⟩
      · have hF := ite_t h_56 hF
        refine Go.iconst (v := (-1)) dX11_of_59 (by decide) ?_
        obtain rfl := Option.some.inj hF
        exact Go.iret (st := []) dX11_of_60 rfl rfl ⟨rfl, rfl⟩
    · have hF := ite_t h_9 hF
      refine Go.pick (ls' := [(0, _), (1, _), (2, _)]) [0, 1, 2] rfl ?_
      exact ok_X11_of_12 d N _ _ _ _ hF
def F_X11_rehearse (N : Nat) (x1 : Int32) (S : St) : Option (Int32 × St) :=
  (F_X8_has x1 S).bind (fun r_5 => if r_5.1 = 0 then (some ((-1), r_5.2)) else (gd (inb x1 20) ((F_X8_gains N x1 (r_5.2.2.1 27 (Int32.toNatClampNeg x1)) r_5.2).bind (fun r_40 => gd (inb x1 20) (let S47 := aset r_40.2 27 (upd (r_40.2.2.1 27) (Int32.toNatClampNeg x1) (if ((r_5.2.2.1 27 (Int32.toNatClampNeg x1)) + r_40.1) < (100 : Int32) then (r_5.2.2.1 27 (Int32.toNatClampNeg x1)) + r_40.1 else 100)); gd (inb x1 20) (some (S47.2.1 27 (Int32.toNatClampNeg x1), S47)))))))
set_option maxHeartbeats 4000000 in
set_option maxRecDepth 100000 in
theorem ok_X11_rehearse {l : Launch} (d : Nat) (N : Nat) (x1 : Int32) (S : St) (R : Int32 × St) (hF : F_X11_rehearse N x1 S = some R) : Go l (d + 5) mX11_rehearse (Res (some (.int R.1)) R.2) 0 [(0, .ref 0), (1, .int x1)] [] S := by
  unfold F_X11_rehearse at hF
  refine Go.aload_n dX11_rehearse_0 rfl ?_
  refine Go.getR dX11_rehearse_1 fX11_10 rfl ?_
  refine Go.iload_n dX11_rehearse_4 rfl ?_
  obtain ⟨r_5, hc_5, hF⟩ := Option.bind_eq_some_iff.mp hF
  refine Go.callV [_] dX11_rehearse_5 kX8_has vX8_has lX11_144 rfl rfl rfl rfl rfl (Nat.le_of_ble_eq_true rfl) (Nat.le_of_ble_eq_true rfl) (ok_X8_has (d + 4) _ _ _ hc_5) ?_
  refine Go.ifne (tgt := 13) dX11_rehearse_8 (by decide) (fun h_8 => ?_) (fun h_8 => ?_)
  · have hF := ite_f h_8 hF
    refine Go.aload_n dX11_rehearse_13 rfl ?_
    refine Go.getR dX11_rehearse_14 fX11_10 rfl ?_
    refine Go.getR dX11_rehearse_17 fX11_150 rfl ?_
    refine Go.iload_n dX11_rehearse_20 rfl ?_
    obtain ⟨hb_21, hF⟩ := gd_some hF
    refine Go.iald dX11_rehearse_21 rfl (inb_ok hb_21) ?_
    refine Go.istore_n (ls' := [(2, _), (0, _), (1, _)]) dX11_rehearse_22 (by decide) rfl ?_
    refine Go.aload_n dX11_rehearse_23 rfl ?_
    refine Go.getR dX11_rehearse_24 fX11_10 rfl ?_
    refine Go.getR dX11_rehearse_27 fX11_150 rfl ?_
    refine Go.iload_n dX11_rehearse_30 rfl ?_
    refine Go.bipush (v := 100) dX11_rehearse_31 (by decide) ?_
    refine Go.iload_n dX11_rehearse_33 rfl ?_
    refine Go.aload_n dX11_rehearse_34 rfl ?_
    refine Go.getR dX11_rehearse_35 fX11_10 rfl ?_
    refine Go.iload_n dX11_rehearse_38 rfl ?_
    refine Go.iload_n dX11_rehearse_39 rfl ?_
    obtain ⟨r_40, hc_40, hF⟩ := Option.bind_eq_some_iff.mp hF
    refine Go.callV [_, _] dX11_rehearse_40 kX8_gains vX8_gains lX11_171 rfl rfl rfl rfl rfl (Nat.le_of_ble_eq_true rfl) (Nat.le_of_ble_eq_true rfl) (ok_X8_gains (d + 0) N _ _ _ _ hc_40) ?_
    refine Go.iadd dX11_rehearse_43 ?_
    refine Go.mmin dX11_rehearse_44 lX11_174 (Nat.le_of_ble_eq_true rfl) ?_
    obtain ⟨hb_47, hF⟩ := gd_some hF
    refine Go.iast dX11_rehearse_47 rfl (inb_ok hb_47) ?_
    refine Go.aload_n dX11_rehearse_48 rfl ?_
    refine Go.getR dX11_rehearse_49 fX11_10 rfl ?_
    refine Go.getR dX11_rehearse_52 fX11_150 rfl ?_
    refine Go.iload_n dX11_rehearse_55 rfl ?_
    obtain ⟨hb_56, hF⟩ := gd_some hF
    refine Go.iald dX11_rehearse_56 rfl (inb_ok hb_56) ?_
    obtain rfl := Option.some.inj hF
    exact Go.iret (st := []) dX11_rehearse_57 rfl rfl ⟨rfl, rfl⟩
  · have hF := ite_t h_8 hF
    refine Go.iconst (v := (-1)) dX11_rehearse_11 (by decide) ?_
    obtain rfl := Option.some.inj hF
    exact Go.iret (st := []) dX11_rehearse_12 rfl rfl ⟨rfl, rfl⟩
def F_X11_bitNumber_4 : Nat → Int32 → Int32 → Int32 → St → Option (Int32 × St)
  | 0 => fun _ _ _ _ => none
  | n + 1 => fun x0 x2 x3 S =>
    if 20 ≤ x3 then (some ((-1), S)) else (if ((x0 >>> (x3 &&& 31)) &&& 1) = 0 then ((F_X11_bitNumber_4 n) x0 x2 (x3 + 1) S) else (if x2 = 0 then (some (x3, S)) else ((F_X11_bitNumber_4 n) x0 (x2 + (-1)) (x3 + 1) S)))
set_option maxHeartbeats 4000000 in
set_option maxRecDepth 100000 in
theorem ok_X11_bitNumber_4 {l : Launch} (d : Nat) : ∀ (n : Nat) (x0 : Int32) (x2 : Int32) (x3 : Int32) (S : St) (R : Int32 × St), F_X11_bitNumber_4 n x0 x2 x3 S = some R → Go l (d + 0) mX11_bitNumber (Res (some (.int R.1)) R.2) 4 [(0, .int x0), (2, .int x2), (3, .int x3)] [] S := by
  intro n
  induction n with
  | zero => intro x0 x2 x3 S  R hF; cases hF
  | succ n hk4 =>
    intro x0 x2 x3 S  R hF
    have hF : (if 20 ≤ x3 then (some ((-1), S)) else (if ((x0 >>> (x3 &&& 31)) &&& 1) = 0 then ((F_X11_bitNumber_4 n) x0 x2 (x3 + 1) S) else (if x2 = 0 then (some (x3, S)) else ((F_X11_bitNumber_4 n) x0 (x2 + (-1)) (x3 + 1) S)))) = some R := hF
    refine Go.iload_n dX11_bitNumber_4 rfl ?_
    refine Go.bipush (v := 20) dX11_bitNumber_5 (by decide) ?_
    refine Go.icmpge (tgt := 33) dX11_bitNumber_7 (by decide) (fun h_7 => ?_) (fun h_7 => ?_)
    · have hF := ite_t h_7 hF
      refine Go.iconst (v := (-1)) dX11_bitNumber_33 (by decide) ?_
      obtain rfl := Option.some.inj hF
      exact Go.iret (st := []) dX11_bitNumber_34 rfl rfl ⟨rfl, rfl⟩
    · have hF := ite_f h_7 hF
      refine Go.iload_n dX11_bitNumber_10 rfl ?_
      refine Go.iload_n dX11_bitNumber_11 rfl ?_
      refine Go.ishr dX11_bitNumber_12 ?_
      refine Go.iconst (v := 1) dX11_bitNumber_13 (by decide) ?_
      refine Go.iand dX11_bitNumber_14 ?_
      refine Go.ifeq (tgt := 27) dX11_bitNumber_15 (by decide) (fun h_15 => ?_) (fun h_15 => ?_)
      · have hF := ite_t h_15 hF
        refine Go.iincP (ls' := [(3, _), (0, _), (2, _)]) dX11_bitNumber_27 rfl (by decide) rfl ?_
        refine Go.goto (tgt := 4) dX11_bitNumber_30 (by decide) ?_
        refine Go.pick (ls' := [(0, _), (2, _), (3, _)]) [1, 2, 0] rfl ?_
        exact hk4 _ _ _ _ _ hF
      · have hF := ite_f h_15 hF
        refine Go.iload_n dX11_bitNumber_18 rfl ?_
        refine Go.ifne (tgt := 24) dX11_bitNumber_19 (by decide) (fun h_19 => ?_) (fun h_19 => ?_)
        · have hF := ite_f h_19 hF
          refine Go.iincM (ls' := [(2, _), (0, _), (3, _)]) dX11_bitNumber_24 rfl (by decide) rfl ?_
          refine Go.iincP (ls' := [(3, _), (2, _), (0, _)]) dX11_bitNumber_27 rfl (by decide) rfl ?_
          refine Go.goto (tgt := 4) dX11_bitNumber_30 (by decide) ?_
          refine Go.pick (ls' := [(0, _), (2, _), (3, _)]) [2, 1, 0] rfl ?_
          exact hk4 _ _ _ _ _ hF
        · have hF := ite_t h_19 hF
          refine Go.iload_n dX11_bitNumber_22 rfl ?_
          obtain rfl := Option.some.inj hF
          exact Go.iret (st := []) dX11_bitNumber_23 rfl rfl ⟨rfl, rfl⟩
def F_X11_bitNumber (N : Nat) (x0 : Int32) (x1 : Int32) (S : St) : Option (Int32 × St) :=
  F_X11_bitNumber_4 N x0 x1 0 S
set_option maxHeartbeats 4000000 in
set_option maxRecDepth 100000 in
theorem ok_X11_bitNumber {l : Launch} (d : Nat) (N : Nat) (x0 : Int32) (x1 : Int32) (S : St) (R : Int32 × St) (hF : F_X11_bitNumber N x0 x1 S = some R) : Go l (d + 0) mX11_bitNumber (Res (some (.int R.1)) R.2) 0 [(0, .int x0), (1, .int x1)] [] S := by
  unfold F_X11_bitNumber at hF
  refine Go.iload_n dX11_bitNumber_0 rfl ?_
  refine Go.istore_n (ls' := [(2, _), (0, _), (1, _)]) dX11_bitNumber_1 (by decide) rfl ?_
  refine Go.iconst (v := 0) dX11_bitNumber_2 (by decide) ?_
  refine Go.istore_n (ls' := [(3, _), (2, _), (0, _), (1, _)]) dX11_bitNumber_3 (by decide) rfl ?_
  refine Go.pick (ls' := [(0, _), (2, _), (3, _)]) [2, 1, 0] rfl ?_
  exact ok_X11_bitNumber_4 d N _ _ _ _ _ hF
def F_X11_jumps_58 (N : Nat) (k21 : Int32 → Int32 → Int32 → Int32 → St → Option (Int32 × St)) (x1 : Int32) (x2 : Int32) (x3 : Int32) (x4 : Int32) (y0 : Int32) (S : St) : Option (Int32 × St) :=
  (F_J6_bitCount_0f7a4 y0 S).bind (fun r_62 => if x2 < 0 then (k21 x1 x2 (x3 + r_62.1) (x4 + 1) r_62.2) else (if (x3 + r_62.1) ≤ x2 then (k21 x1 x2 (x3 + r_62.1) (x4 + 1) r_62.2) else ((F_X11_bitNumber N y0 (x2 - x3) r_62.2).bind (fun r_89 => some ((100 * x4) + r_89.1, r_89.2)))))
set_option maxHeartbeats 4000000 in
set_option maxRecDepth 100000 in
theorem ok_X11_jumps_58 {l : Launch} (d : Nat) (N : Nat) (k21 : Int32 → Int32 → Int32 → Int32 → St → Option (Int32 × St)) (hk21 : ∀ (x1 : Int32) (x2 : Int32) (x3 : Int32) (x4 : Int32) (S : St) (R : Int32 × St), k21 x1 x2 x3 x4 S = some R → Go l (d + 1) mX11_jumps (Res (some (.int R.1)) R.2) 21 [(0, .ref 0), (1, .int x1), (2, .int x2), (3, .int x3), (4, .int x4)] [] S) (x1 : Int32) (x2 : Int32) (x3 : Int32) (x4 : Int32) (y0 : Int32) (S : St) (R : Int32 × St) (hF : F_X11_jumps_58 N k21 x1 x2 x3 x4 y0 S = some R) : Go l (d + 1) mX11_jumps (Res (some (.int R.1)) R.2) 58 [(0, .ref 0), (1, .int x1), (2, .int x2), (3, .int x3), (4, .int x4)] [.int y0] S := by
  unfold F_X11_jumps_58 at hF
  refine Go.istore (ls' := [(5, _), (0, _), (1, _), (2, _), (3, _), (4, _)]) dX11_jumps_58 (by decide) rfl ?_
  refine Go.iload dX11_jumps_60 rfl ?_
  obtain ⟨r_62, hc_62, hF⟩ := Option.bind_eq_some_iff.mp hF
  refine Go.callS [_] dX11_jumps_62 kJ6_bitCount_0f7a4 sJ6_bitCount_0f7a4 lX11_186 rfl rfl (Nat.le_of_ble_eq_true rfl) (Nat.le_of_ble_eq_true rfl) (ok_J6_bitCount_0f7a4 (d + 0) _ _ _ hc_62) ?_
  refine Go.istore (ls' := [(6, _), (5, _), (0, _), (1, _), (2, _), (3, _), (4, _)]) dX11_jumps_65 (by decide) rfl ?_
  refine Go.iload_n dX11_jumps_67 rfl ?_
  refine Go.iflt (tgt := 94) dX11_jumps_68 (by decide) (fun h_68 => ?_) (fun h_68 => ?_)
  · have hF := ite_t h_68 hF
    refine Go.iload_n dX11_jumps_94 rfl ?_
    refine Go.iload dX11_jumps_95 rfl ?_
    refine Go.iadd dX11_jumps_97 ?_
    refine Go.istore_n (ls' := [(3, _), (6, _), (5, _), (0, _), (1, _), (2, _), (4, _)]) dX11_jumps_98 (by decide) rfl ?_
    refine Go.iincP (ls' := [(4, _), (3, _), (6, _), (5, _), (0, _), (1, _), (2, _)]) dX11_jumps_99 rfl (by decide) rfl ?_
    refine Go.goto (tgt := 21) dX11_jumps_102 (by decide) ?_
    refine Go.pick (ls' := [(0, _), (1, _), (2, _), (3, _), (4, _)]) [4, 5, 6, 1, 0] rfl ?_
    exact hk21 _ _ _ _ _ _ hF
  · have hF := ite_f h_68 hF
    refine Go.iload_n dX11_jumps_71 rfl ?_
    refine Go.iload_n dX11_jumps_72 rfl ?_
    refine Go.iload dX11_jumps_73 rfl ?_
    refine Go.iadd dX11_jumps_75 ?_
    refine Go.icmpge (tgt := 94) dX11_jumps_76 (by decide) (fun h_76 => ?_) (fun h_76 => ?_)
    · have hF := ite_t h_76 hF
      refine Go.iload_n dX11_jumps_94 rfl ?_
      refine Go.iload dX11_jumps_95 rfl ?_
      refine Go.iadd dX11_jumps_97 ?_
      refine Go.istore_n (ls' := [(3, _), (6, _), (5, _), (0, _), (1, _), (2, _), (4, _)]) dX11_jumps_98 (by decide) rfl ?_
      refine Go.iincP (ls' := [(4, _), (3, _), (6, _), (5, _), (0, _), (1, _), (2, _)]) dX11_jumps_99 rfl (by decide) rfl ?_
      refine Go.goto (tgt := 21) dX11_jumps_102 (by decide) ?_
      refine Go.pick (ls' := [(0, _), (1, _), (2, _), (3, _), (4, _)]) [4, 5, 6, 1, 0] rfl ?_
      exact hk21 _ _ _ _ _ _ hF
    · have hF := ite_f h_76 hF
      refine Go.bipush (v := 100) dX11_jumps_79 (by decide) ?_
      refine Go.iload dX11_jumps_81 rfl ?_
      refine Go.imul dX11_jumps_83 ?_
      refine Go.iload dX11_jumps_84 rfl ?_
      refine Go.iload_n dX11_jumps_86 rfl ?_
      refine Go.iload_n dX11_jumps_87 rfl ?_
      refine Go.isub dX11_jumps_88 ?_
      obtain ⟨r_89, hc_89, hF⟩ := Option.bind_eq_some_iff.mp hF
      refine Go.callS [_, _] dX11_jumps_89 kX11_bitNumber sX11_bitNumber lX11_191 rfl rfl (Nat.le_of_ble_eq_true rfl) (Nat.le_of_ble_eq_true rfl) (ok_X11_bitNumber (d + 0) N _ _ _ _ hc_89) ?_
      refine Go.iadd dX11_jumps_92 ?_
      obtain rfl := Option.some.inj hF
      exact Go.iret (st := []) dX11_jumps_93 rfl rfl ⟨rfl, rfl⟩
def F_X11_jumps_21 (N : Nat) : Nat → Int32 → Int32 → Int32 → Int32 → St → Option (Int32 × St)
  | 0 => fun _ _ _ _ _ => none
  | n + 1 => fun x1 x2 x3 x4 S =>
    if (S.1 1 0) ≤ x4 then (if x2 = (-1) then (some (x3, S)) else (some ((-1), S))) else (if x1 = 0 then ((F_X8_jumpsFrom x4 S).bind (fun r_43 => F_X11_jumps_58 N (F_X11_jumps_21 N n) x1 x2 x3 x4 r_43.1 r_43.2)) else ((F_X8_ringsFrom x4 S).bind (fun r_55 => F_X11_jumps_58 N (F_X11_jumps_21 N n) x1 x2 x3 x4 r_55.1 r_55.2)))
set_option maxHeartbeats 4000000 in
set_option maxRecDepth 100000 in
theorem ok_X11_jumps_21 {l : Launch} (d : Nat) (N : Nat) : ∀ (n : Nat) (x1 : Int32) (x2 : Int32) (x3 : Int32) (x4 : Int32) (S : St) (R : Int32 × St), F_X11_jumps_21 N n x1 x2 x3 x4 S = some R → Go l (d + 1) mX11_jumps (Res (some (.int R.1)) R.2) 21 [(0, .ref 0), (1, .int x1), (2, .int x2), (3, .int x3), (4, .int x4)] [] S := by
  intro n
  induction n with
  | zero => intro x1 x2 x3 x4 S  R hF; cases hF
  | succ n hk21 =>
    intro x1 x2 x3 x4 S  R hF
    have hF : (if (S.1 1 0) ≤ x4 then (if x2 = (-1) then (some (x3, S)) else (some ((-1), S))) else (if x1 = 0 then ((F_X8_jumpsFrom x4 S).bind (fun r_43 => F_X11_jumps_58 N (F_X11_jumps_21 N n) x1 x2 x3 x4 r_43.1 r_43.2)) else ((F_X8_ringsFrom x4 S).bind (fun r_55 => F_X11_jumps_58 N (F_X11_jumps_21 N n) x1 x2 x3 x4 r_55.1 r_55.2)))) = some R := hF
    refine Go.iload dX11_jumps_21 rfl ?_
    refine Go.aload_n dX11_jumps_23 rfl ?_
    refine Go.getR dX11_jumps_24 fX11_10 rfl ?_
    refine Go.getI dX11_jumps_27 fX11_179 rfl ?_
    refine Go.icmpge (tgt := 105) dX11_jumps_30 (by decide) (fun h_30 => ?_) (fun h_30 => ?_)
    · have hF := ite_t h_30 hF
      refine Go.iload_n dX11_jumps_105 rfl ?_
      refine Go.iconst (v := (-1)) dX11_jumps_106 (by decide) ?_
      refine Go.icmpne (tgt := 114) dX11_jumps_107 (by decide) (fun h_107 => ?_) (fun h_107 => ?_)
      · have hF := ite_f h_107 hF
        refine Go.iconst (v := (-1)) dX11_jumps_114 (by decide) ?_
        obtain rfl := Option.some.inj hF
        exact Go.iret (st := []) dX11_jumps_115 rfl rfl ⟨rfl, rfl⟩
      · have hF := ite_t h_107 hF
        refine Go.iload_n dX11_jumps_110 rfl ?_
        refine Go.goto (tgt := 115) dX11_jumps_111 (by decide) ?_
        obtain rfl := Option.some.inj hF
        exact Go.iret (st := []) dX11_jumps_115 rfl rfl ⟨rfl, rfl⟩
    · have hF := ite_f h_30 hF
      refine Go.iload_n dX11_jumps_33 rfl ?_
      refine Go.ifne (tgt := 49) dX11_jumps_34 (by decide) (fun h_34 => ?_) (fun h_34 => ?_)
      · have hF := ite_f h_34 hF
        refine Go.aload_n dX11_jumps_49 rfl ?_
        refine Go.getR dX11_jumps_50 fX11_10 rfl ?_
        refine Go.iload dX11_jumps_53 rfl ?_
        obtain ⟨r_55, hc_55, hF⟩ := Option.bind_eq_some_iff.mp hF
        refine Go.callV [_] dX11_jumps_55 kX8_ringsFrom vX8_ringsFrom lX11_183 rfl rfl rfl rfl rfl (Nat.le_of_ble_eq_true rfl) (Nat.le_of_ble_eq_true rfl) (ok_X8_ringsFrom (d + 0) _ _ _ hc_55) ?_
        refine Go.pick (ls' := [(0, _), (1, _), (2, _), (3, _), (4, _)]) [0, 1, 2, 3, 4] rfl ?_
        exact ok_X11_jumps_58 d N (F_X11_jumps_21 N n) hk21 _ _ _ _ _ _ _ hF
      · have hF := ite_t h_34 hF
        refine Go.aload_n dX11_jumps_37 rfl ?_
        refine Go.getR dX11_jumps_38 fX11_10 rfl ?_
        refine Go.iload dX11_jumps_41 rfl ?_
        obtain ⟨r_43, hc_43, hF⟩ := Option.bind_eq_some_iff.mp hF
        refine Go.callV [_] dX11_jumps_43 kX8_jumpsFrom vX8_jumpsFrom lX11_180 rfl rfl rfl rfl rfl (Nat.le_of_ble_eq_true rfl) (Nat.le_of_ble_eq_true rfl) (ok_X8_jumpsFrom (d + 0) _ _ _ hc_43) ?_
        refine Go.goto (tgt := 58) dX11_jumps_46 (by decide) ?_
        refine Go.pick (ls' := [(0, _), (1, _), (2, _), (3, _), (4, _)]) [0, 1, 2, 3, 4] rfl ?_
        exact ok_X11_jumps_58 d N (F_X11_jumps_21 N n) hk21 _ _ _ _ _ _ _ hF
def F_X11_jumps (N : Nat) (x1 : Int32) (x2 : Int32) (S : St) : Option (Int32 × St) :=
  if x1 < 0 then (some ((-1), S)) else (if 1 < x1 then (some ((-1), S)) else (if (-1) ≤ x2 then (F_X11_jumps_21 N N x1 x2 0 0 S) else (some ((-1), S))))
set_option maxHeartbeats 4000000 in
set_option maxRecDepth 100000 in
theorem ok_X11_jumps {l : Launch} (d : Nat) (N : Nat) (x1 : Int32) (x2 : Int32) (S : St) (R : Int32 × St) (hF : F_X11_jumps N x1 x2 S = some R) : Go l (d + 1) mX11_jumps (Res (some (.int R.1)) R.2) 0 [(0, .ref 0), (1, .int x1), (2, .int x2)] [] S := by
  unfold F_X11_jumps at hF
  refine Go.iload_n dX11_jumps_0 rfl ?_
  refine Go.iflt (tgt := 14) dX11_jumps_1 (by decide) (fun h_1 => ?_) (fun h_1 => ?_)
  · have hF := ite_t h_1 hF
    refine Go.iconst (v := (-1)) dX11_jumps_14 (by decide) ?_
    obtain rfl := Option.some.inj hF
    exact Go.iret (st := []) dX11_jumps_15 rfl rfl ⟨rfl, rfl⟩
  · have hF := ite_f h_1 hF
    refine Go.iload_n dX11_jumps_4 rfl ?_
    refine Go.iconst (v := 1) dX11_jumps_5 (by decide) ?_
    refine Go.icmpgt (tgt := 14) dX11_jumps_6 (by decide) (fun h_6 => ?_) (fun h_6 => ?_)
    · have hF := ite_t h_6 hF
      refine Go.iconst (v := (-1)) dX11_jumps_14 (by decide) ?_
      obtain rfl := Option.some.inj hF
      exact Go.iret (st := []) dX11_jumps_15 rfl rfl ⟨rfl, rfl⟩
    · have hF := ite_f h_6 hF
      refine Go.iload_n dX11_jumps_9 rfl ?_
      refine Go.iconst (v := (-1)) dX11_jumps_10 (by decide) ?_
      refine Go.icmpge (tgt := 16) dX11_jumps_11 (by decide) (fun h_11 => ?_) (fun h_11 => ?_)
      · have hF := ite_t h_11 hF
        refine Go.iconst (v := 0) dX11_jumps_16 (by decide) ?_
        refine Go.istore_n (ls' := [(3, _), (0, _), (1, _), (2, _)]) dX11_jumps_17 (by decide) rfl ?_
        refine Go.iconst (v := 0) dX11_jumps_18 (by decide) ?_
        refine Go.istore (ls' := [(4, _), (3, _), (0, _), (1, _), (2, _)]) dX11_jumps_19 (by decide) rfl ?_
        refine Go.pick (ls' := [(0, _), (1, _), (2, _), (3, _), (4, _)]) [2, 3, 4, 1, 0] rfl ?_
        exact ok_X11_jumps_21 d N N _ _ _ _ _ _ hF
      · have hF := ite_f h_11 hF
        refine Go.iconst (v := (-1)) dX11_jumps_14 (by decide) ?_
        obtain rfl := Option.some.inj hF
        exact Go.iret (st := []) dX11_jumps_15 rfl rfl ⟨rfl, rfl⟩
def F_X11_areLines (x1 : Int32) (S : St) : Option (Int32 × St) :=
  if x1 < 0 then (some (0, S)) else ((F_X8_has (x1 / 100) S).bind (fun r_12 => if r_12.1 = 0 then (some (0, r_12.2)) else ((F_X8_has (x1 - (x1 / 100) * 100) r_12.2).bind (fun r_26 => if r_26.1 = 0 then (some (0, r_26.2)) else (some (1, r_26.2))))))
set_option maxHeartbeats 4000000 in
set_option maxRecDepth 100000 in
theorem ok_X11_areLines {l : Launch} (d : Nat) (x1 : Int32) (S : St) (R : Int32 × St) (hF : F_X11_areLines x1 S = some R) : Go l (d + 1) mX11_areLines (Res (some (.int R.1)) R.2) 0 [(0, .ref 0), (1, .int x1)] [] S := by
  unfold F_X11_areLines at hF
  refine Go.iload_n dX11_areLines_0 rfl ?_
  refine Go.iflt (tgt := 36) dX11_areLines_1 (by decide) (fun h_1 => ?_) (fun h_1 => ?_)
  · have hF := ite_t h_1 hF
    refine Go.iconst (v := 0) dX11_areLines_36 (by decide) ?_
    obtain rfl := Option.some.inj hF
    exact Go.iret (st := []) dX11_areLines_37 rfl rfl ⟨rfl, rfl⟩
  · have hF := ite_f h_1 hF
    refine Go.aload_n dX11_areLines_4 rfl ?_
    refine Go.getR dX11_areLines_5 fX11_10 rfl ?_
    refine Go.iload_n dX11_areLines_8 rfl ?_
    refine Go.bipush (v := 100) dX11_areLines_9 (by decide) ?_
    refine Go.idiv dX11_areLines_11 (by decide) ?_
    obtain ⟨r_12, hc_12, hF⟩ := Option.bind_eq_some_iff.mp hF
    refine Go.callV [_] dX11_areLines_12 kX8_has vX8_has lX11_144 rfl rfl rfl rfl rfl (Nat.le_of_ble_eq_true rfl) (Nat.le_of_ble_eq_true rfl) (ok_X8_has (d + 0) _ _ _ hc_12) ?_
    refine Go.ifeq (tgt := 36) dX11_areLines_15 (by decide) (fun h_15 => ?_) (fun h_15 => ?_)
    · have hF := ite_t h_15 hF
      refine Go.iconst (v := 0) dX11_areLines_36 (by decide) ?_
      obtain rfl := Option.some.inj hF
      exact Go.iret (st := []) dX11_areLines_37 rfl rfl ⟨rfl, rfl⟩
    · have hF := ite_f h_15 hF
      refine Go.aload_n dX11_areLines_18 rfl ?_
      refine Go.getR dX11_areLines_19 fX11_10 rfl ?_
      refine Go.iload_n dX11_areLines_22 rfl ?_
      refine Go.bipush (v := 100) dX11_areLines_23 (by decide) ?_
      refine Go.irem dX11_areLines_25 (by decide) ?_
      obtain ⟨r_26, hc_26, hF⟩ := Option.bind_eq_some_iff.mp hF
      refine Go.callV [_] dX11_areLines_26 kX8_has vX8_has lX11_144 rfl rfl rfl rfl rfl (Nat.le_of_ble_eq_true rfl) (Nat.le_of_ble_eq_true rfl) (ok_X8_has (d + 0) _ _ _ hc_26) ?_
      refine Go.ifeq (tgt := 36) dX11_areLines_29 (by decide) (fun h_29 => ?_) (fun h_29 => ?_)
      · have hF := ite_t h_29 hF
        refine Go.iconst (v := 0) dX11_areLines_36 (by decide) ?_
        obtain rfl := Option.some.inj hF
        exact Go.iret (st := []) dX11_areLines_37 rfl rfl ⟨rfl, rfl⟩
      · have hF := ite_f h_29 hF
        refine Go.iconst (v := 1) dX11_areLines_32 (by decide) ?_
        refine Go.goto (tgt := 37) dX11_areLines_33 (by decide) ?_
        obtain rfl := Option.some.inj hF
        exact Go.iret (st := []) dX11_areLines_37 rfl rfl ⟨rfl, rfl⟩
def F_X11_behind_94 : Nat → Int32 → Int32 → Int32 → St → Option (Int32 × St)
  | 0 => fun _ _ _ _ => none
  | n + 1 => fun x4 x5 x6 S =>
    if (S.1 1 0) ≤ x6 then (some (x5, S)) else (gd (inb x6 20) (gd (inb x6 20) ((F_X11_behind_94 n) (x4 ||| (S.2.1 25 (Int32.toNatClampNeg x6))) (x5 ||| ((S.2.1 26 (Int32.toNatClampNeg x6)) &&& (x4 ^^^ (-1)))) (x6 + 1) S)))
set_option maxHeartbeats 4000000 in
set_option maxRecDepth 100000 in
theorem ok_X11_behind_94 {l : Launch} (d : Nat) : ∀ (n : Nat) (x4 : Int32) (x5 : Int32) (x6 : Int32) (S : St) (R : Int32 × St), F_X11_behind_94 n x4 x5 x6 S = some R → Go l (d + 2) mX11_behind (Res (some (.int R.1)) R.2) 94 [(0, .ref 0), (4, .int x4), (5, .int x5), (6, .int x6)] [] S := by
  intro n
  induction n with
  | zero => intro x4 x5 x6 S  R hF; cases hF
  | succ n hk94 =>
    intro x4 x5 x6 S  R hF
    have hF : (if (S.1 1 0) ≤ x6 then (some (x5, S)) else (gd (inb x6 20) (gd (inb x6 20) ((F_X11_behind_94 n) (x4 ||| (S.2.1 25 (Int32.toNatClampNeg x6))) (x5 ||| ((S.2.1 26 (Int32.toNatClampNeg x6)) &&& (x4 ^^^ (-1)))) (x6 + 1) S)))) = some R := hF
    refine Go.iload dX11_behind_94 rfl ?_
    refine Go.aload_n dX11_behind_96 rfl ?_
    refine Go.getR dX11_behind_97 fX11_10 rfl ?_
    refine Go.getI dX11_behind_100 fX11_179 rfl ?_
    refine Go.icmpge (tgt := 147) dX11_behind_103 (by decide) (fun h_103 => ?_) (fun h_103 => ?_)
    · have hF := ite_t h_103 hF
      refine Go.iload dX11_behind_147 rfl ?_
      obtain rfl := Option.some.inj hF
      exact Go.iret (st := []) dX11_behind_149 rfl rfl ⟨rfl, rfl⟩
    · have hF := ite_f h_103 hF
      refine Go.iload dX11_behind_106 rfl ?_
      refine Go.aload_n dX11_behind_108 rfl ?_
      refine Go.getR dX11_behind_109 fX11_10 rfl ?_
      refine Go.getR dX11_behind_112 fX11_201 rfl ?_
      refine Go.iload dX11_behind_115 rfl ?_
      obtain ⟨hb_117, hF⟩ := gd_some hF
      refine Go.iald dX11_behind_117 rfl (inb_ok hb_117) ?_
      refine Go.iload dX11_behind_118 rfl ?_
      refine Go.iconst (v := (-1)) dX11_behind_120 (by decide) ?_
      refine Go.ixor dX11_behind_121 ?_
      refine Go.iand dX11_behind_122 ?_
      refine Go.ior dX11_behind_123 ?_
      refine Go.istore (ls' := [(5, _), (0, _), (4, _), (6, _)]) dX11_behind_124 (by decide) rfl ?_
      refine Go.iload dX11_behind_126 rfl ?_
      refine Go.aload_n dX11_behind_128 rfl ?_
      refine Go.getR dX11_behind_129 fX11_10 rfl ?_
      refine Go.getR dX11_behind_132 fX11_204 rfl ?_
      refine Go.iload dX11_behind_135 rfl ?_
      obtain ⟨hb_137, hF⟩ := gd_some hF
      refine Go.iald dX11_behind_137 rfl (inb_ok hb_137) ?_
      refine Go.ior dX11_behind_138 ?_
      refine Go.istore (ls' := [(4, _), (5, _), (0, _), (6, _)]) dX11_behind_139 (by decide) rfl ?_
      refine Go.iincP (ls' := [(6, _), (4, _), (5, _), (0, _)]) dX11_behind_141 rfl (by decide) rfl ?_
      refine Go.goto (tgt := 94) dX11_behind_144 (by decide) ?_
      refine Go.pick (ls' := [(0, _), (4, _), (5, _), (6, _)]) [3, 1, 2, 0] rfl ?_
      exact hk94 _ _ _ _ _ hF
def F_X11_behind_44 (N : Nat) : Nat → Int32 → Int32 → Int32 → Int32 → Int32 → St → Option (Int32 × St)
  | 0 => fun _ _ _ _ _ _ => none
  | n + 1 => fun x2 x3 x4 x5 x6 S =>
    if x2 < x6 then (F_X11_behind_94 N x4 x5 x3 S) else (gd (inb x6 20) (gd (inb x6 20) ((F_X11_behind_44 N n) x2 x3 (x4 ||| (S.2.1 25 (Int32.toNatClampNeg x6))) (x5 ||| ((S.2.1 26 (Int32.toNatClampNeg x6)) &&& (x4 ^^^ (-1)))) (x6 + 1) S)))
set_option maxHeartbeats 4000000 in
set_option maxRecDepth 100000 in
theorem ok_X11_behind_44 {l : Launch} (d : Nat) (N : Nat) : ∀ (n : Nat) (x2 : Int32) (x3 : Int32) (x4 : Int32) (x5 : Int32) (x6 : Int32) (S : St) (R : Int32 × St), F_X11_behind_44 N n x2 x3 x4 x5 x6 S = some R → Go l (d + 2) mX11_behind (Res (some (.int R.1)) R.2) 44 [(0, .ref 0), (2, .int x2), (3, .int x3), (4, .int x4), (5, .int x5), (6, .int x6)] [] S := by
  intro n
  induction n with
  | zero => intro x2 x3 x4 x5 x6 S  R hF; cases hF
  | succ n hk44 =>
    intro x2 x3 x4 x5 x6 S  R hF
    have hF : (if x2 < x6 then (F_X11_behind_94 N x4 x5 x3 S) else (gd (inb x6 20) (gd (inb x6 20) ((F_X11_behind_44 N n) x2 x3 (x4 ||| (S.2.1 25 (Int32.toNatClampNeg x6))) (x5 ||| ((S.2.1 26 (Int32.toNatClampNeg x6)) &&& (x4 ^^^ (-1)))) (x6 + 1) S)))) = some R := hF
    refine Go.iload dX11_behind_44 rfl ?_
    refine Go.iload_n dX11_behind_46 rfl ?_
    refine Go.icmpgt (tgt := 91) dX11_behind_47 (by decide) (fun h_47 => ?_) (fun h_47 => ?_)
    · have hF := ite_t h_47 hF
      refine Go.iload_n dX11_behind_91 rfl ?_
      refine Go.istore (ls' := [(6, _), (0, _), (2, _), (3, _), (4, _), (5, _)]) dX11_behind_92 (by decide) rfl ?_
      refine Go.pick (ls' := [(0, _), (4, _), (5, _), (6, _)]) [1, 4, 5, 0] rfl ?_
      exact ok_X11_behind_94 d N _ _ _ _ _ hF
    · have hF := ite_f h_47 hF
      refine Go.iload dX11_behind_50 rfl ?_
      refine Go.aload_n dX11_behind_52 rfl ?_
      refine Go.getR dX11_behind_53 fX11_10 rfl ?_
      refine Go.getR dX11_behind_56 fX11_201 rfl ?_
      refine Go.iload dX11_behind_59 rfl ?_
      obtain ⟨hb_61, hF⟩ := gd_some hF
      refine Go.iald dX11_behind_61 rfl (inb_ok hb_61) ?_
      refine Go.iload dX11_behind_62 rfl ?_
      refine Go.iconst (v := (-1)) dX11_behind_64 (by decide) ?_
      refine Go.ixor dX11_behind_65 ?_
      refine Go.iand dX11_behind_66 ?_
      refine Go.ior dX11_behind_67 ?_
      refine Go.istore (ls' := [(5, _), (0, _), (2, _), (3, _), (4, _), (6, _)]) dX11_behind_68 (by decide) rfl ?_
      refine Go.iload dX11_behind_70 rfl ?_
      refine Go.aload_n dX11_behind_72 rfl ?_
      refine Go.getR dX11_behind_73 fX11_10 rfl ?_
      refine Go.getR dX11_behind_76 fX11_204 rfl ?_
      refine Go.iload dX11_behind_79 rfl ?_
      obtain ⟨hb_81, hF⟩ := gd_some hF
      refine Go.iald dX11_behind_81 rfl (inb_ok hb_81) ?_
      refine Go.ior dX11_behind_82 ?_
      refine Go.istore (ls' := [(4, _), (5, _), (0, _), (2, _), (3, _), (6, _)]) dX11_behind_83 (by decide) rfl ?_
      refine Go.iincP (ls' := [(6, _), (4, _), (5, _), (0, _), (2, _), (3, _)]) dX11_behind_85 rfl (by decide) rfl ?_
      refine Go.goto (tgt := 44) dX11_behind_88 (by decide) ?_
      refine Go.pick (ls' := [(0, _), (2, _), (3, _), (4, _), (5, _), (6, _)]) [3, 4, 5, 1, 2, 0] rfl ?_
      exact hk44 _ _ _ _ _ _ _ hF
def F_X11_behind (N : Nat) (x1 : Int32) (S : St) : Option (Int32 × St) :=
  (F_X11_areLines x1 S).bind (fun r_2 => if r_2.1 = 0 then (some ((-1), r_2.2)) else ((F_X8_isJump (x1 / 100) (x1 - (x1 / 100) * 100) r_2.2).bind (fun r_26 => if r_26.1 = 0 then (some ((-2), r_26.2)) else (F_X11_behind_44 N N (x1 / 100) (x1 - (x1 / 100) * 100) 0 0 0 r_26.2))))
set_option maxHeartbeats 4000000 in
set_option maxRecDepth 100000 in
theorem ok_X11_behind {l : Launch} (d : Nat) (N : Nat) (x1 : Int32) (S : St) (R : Int32 × St) (hF : F_X11_behind N x1 S = some R) : Go l (d + 2) mX11_behind (Res (some (.int R.1)) R.2) 0 [(0, .ref 0), (1, .int x1)] [] S := by
  unfold F_X11_behind at hF
  refine Go.aload_n dX11_behind_0 rfl ?_
  refine Go.iload_n dX11_behind_1 rfl ?_
  obtain ⟨r_2, hc_2, hF⟩ := Option.bind_eq_some_iff.mp hF
  refine Go.callV [_] dX11_behind_2 kX11_areLines vX11_areLines lX11_194 rfl rfl rfl rfl rfl (Nat.le_of_ble_eq_true rfl) (Nat.le_of_ble_eq_true rfl) (ok_X11_areLines (d + 0) _ _ _ hc_2) ?_
  refine Go.ifne (tgt := 10) dX11_behind_5 (by decide) (fun h_5 => ?_) (fun h_5 => ?_)
  · have hF := ite_f h_5 hF
    refine Go.iload_n dX11_behind_10 rfl ?_
    refine Go.bipush (v := 100) dX11_behind_11 (by decide) ?_
    refine Go.idiv dX11_behind_13 (by decide) ?_
    refine Go.istore_n (ls' := [(2, _), (0, _), (1, _)]) dX11_behind_14 (by decide) rfl ?_
    refine Go.iload_n dX11_behind_15 rfl ?_
    refine Go.bipush (v := 100) dX11_behind_16 (by decide) ?_
    refine Go.irem dX11_behind_18 (by decide) ?_
    refine Go.istore_n (ls' := [(3, _), (2, _), (0, _), (1, _)]) dX11_behind_19 (by decide) rfl ?_
    refine Go.aload_n dX11_behind_20 rfl ?_
    refine Go.getR dX11_behind_21 fX11_10 rfl ?_
    refine Go.iload_n dX11_behind_24 rfl ?_
    refine Go.iload_n dX11_behind_25 rfl ?_
    obtain ⟨r_26, hc_26, hF⟩ := Option.bind_eq_some_iff.mp hF
    refine Go.callV [_, _] dX11_behind_26 kX8_isJump vX8_isJump lX11_197 rfl rfl rfl rfl rfl (Nat.le_of_ble_eq_true rfl) (Nat.le_of_ble_eq_true rfl) (ok_X8_isJump (d + 0) _ _ _ _ hc_26) ?_
    refine Go.ifne (tgt := 35) dX11_behind_29 (by decide) (fun h_29 => ?_) (fun h_29 => ?_)
    · have hF := ite_f h_29 hF
      refine Go.iconst (v := 0) dX11_behind_35 (by decide) ?_
      refine Go.istore (ls' := [(4, _), (3, _), (2, _), (0, _), (1, _)]) dX11_behind_36 (by decide) rfl ?_
      refine Go.iconst (v := 0) dX11_behind_38 (by decide) ?_
      refine Go.istore (ls' := [(5, _), (4, _), (3, _), (2, _), (0, _), (1, _)]) dX11_behind_39 (by decide) rfl ?_
      refine Go.iconst (v := 0) dX11_behind_41 (by decide) ?_
      refine Go.istore (ls' := [(6, _), (5, _), (4, _), (3, _), (2, _), (0, _), (1, _)]) dX11_behind_42 (by decide) rfl ?_
      refine Go.pick (ls' := [(0, _), (2, _), (3, _), (4, _), (5, _), (6, _)]) [5, 4, 3, 2, 1, 0] rfl ?_
      exact ok_X11_behind_44 d N N _ _ _ _ _ _ _ hF
    · have hF := ite_t h_29 hF
      refine Go.bipush (v := (-2)) dX11_behind_32 (by decide) ?_
      obtain rfl := Option.some.inj hF
      exact Go.iret (st := []) dX11_behind_34 rfl rfl ⟨rfl, rfl⟩
  · have hF := ite_t h_5 hF
    refine Go.iconst (v := (-1)) dX11_behind_8 (by decide) ?_
    obtain rfl := Option.some.inj hF
    exact Go.iret (st := []) dX11_behind_9 rfl rfl ⟨rfl, rfl⟩
def F_X11_way (N : Nat) (x1 : Int32) (x2 : Int32) (S : St) : Option (Int32 × St) :=
  (F_X11_areLines x1 S).bind (fun r_2 => if r_2.1 = 0 then (some ((-1), r_2.2)) else (if (-1) ≤ x2 then ((F_X10_search N (x1 / 100) (x1 - (x1 / 100) * 100) r_2.2).bind (fun r_31 => if r_31.1 = (-1) then (some ((-2), r_31.2)) else (if x2 < r_31.1 then (if x2 = (-1) then (some (r_31.1, r_31.2)) else ((F_X10_lineAt N r_31.1 x2 r_31.2).bind (fun r_65 => some (r_65.1, r_65.2)))) else (some ((-1), r_31.2))))) else (some ((-1), r_2.2))))
set_option maxHeartbeats 4000000 in
set_option maxRecDepth 100000 in
theorem ok_X11_way {l : Launch} (d : Nat) (N : Nat) (x1 : Int32) (x2 : Int32) (S : St) (R : Int32 × St) (hF : F_X11_way N x1 x2 S = some R) : Go l (d + 3) mX11_way (Res (some (.int R.1)) R.2) 0 [(0, .ref 0), (1, .int x1), (2, .int x2)] [] S := by
  unfold F_X11_way at hF
  refine Go.aload_n dX11_way_0 rfl ?_
  refine Go.iload_n dX11_way_1 rfl ?_
  obtain ⟨r_2, hc_2, hF⟩ := Option.bind_eq_some_iff.mp hF
  refine Go.callV [_] dX11_way_2 kX11_areLines vX11_areLines lX11_194 rfl rfl rfl rfl rfl (Nat.le_of_ble_eq_true rfl) (Nat.le_of_ble_eq_true rfl) (ok_X11_areLines (d + 1) _ _ _ hc_2) ?_
  refine Go.ifeq (tgt := 13) dX11_way_5 (by decide) (fun h_5 => ?_) (fun h_5 => ?_)
  · have hF := ite_t h_5 hF
    refine Go.iconst (v := (-1)) dX11_way_13 (by decide) ?_
    obtain rfl := Option.some.inj hF
    exact Go.iret (st := []) dX11_way_14 rfl rfl ⟨rfl, rfl⟩
  · have hF := ite_f h_5 hF
    refine Go.iload_n dX11_way_8 rfl ?_
    refine Go.iconst (v := (-1)) dX11_way_9 (by decide) ?_
    refine Go.icmpge (tgt := 15) dX11_way_10 (by decide) (fun h_10 => ?_) (fun h_10 => ?_)
    · have hF := ite_t h_10 hF
      refine Go.aload_n dX11_way_15 rfl ?_
      refine Go.getR dX11_way_16 fX11_44 rfl ?_
      refine Go.aload_n dX11_way_19 rfl ?_
      refine Go.getR dX11_way_20 fX11_10 rfl ?_
      refine Go.iload_n dX11_way_23 rfl ?_
      refine Go.bipush (v := 100) dX11_way_24 (by decide) ?_
      refine Go.idiv dX11_way_26 (by decide) ?_
      refine Go.iload_n dX11_way_27 rfl ?_
      refine Go.bipush (v := 100) dX11_way_28 (by decide) ?_
      refine Go.irem dX11_way_30 (by decide) ?_
      obtain ⟨r_31, hc_31, hF⟩ := Option.bind_eq_some_iff.mp hF
      refine Go.callV [_, _, _] dX11_way_31 kX10_search vX10_search lX11_207 rfl rfl rfl rfl rfl (Nat.le_of_ble_eq_true rfl) (Nat.le_of_ble_eq_true rfl) (ok_X10_search (d + 0) N _ _ _ _ hc_31) ?_
      refine Go.istore_n (ls' := [(3, _), (0, _), (1, _), (2, _)]) dX11_way_34 (by decide) rfl ?_
      refine Go.iload_n dX11_way_35 rfl ?_
      refine Go.iconst (v := (-1)) dX11_way_36 (by decide) ?_
      refine Go.icmpne (tgt := 43) dX11_way_37 (by decide) (fun h_37 => ?_) (fun h_37 => ?_)
      · have hF := ite_f h_37 hF
        refine Go.iload_n dX11_way_43 rfl ?_
        refine Go.iload_n dX11_way_44 rfl ?_
        refine Go.icmplt (tgt := 50) dX11_way_45 (by decide) (fun h_45 => ?_) (fun h_45 => ?_)
        · have hF := ite_t h_45 hF
          refine Go.iload_n dX11_way_50 rfl ?_
          refine Go.iconst (v := (-1)) dX11_way_51 (by decide) ?_
          refine Go.icmpne (tgt := 59) dX11_way_52 (by decide) (fun h_52 => ?_) (fun h_52 => ?_)
          · have hF := ite_f h_52 hF
            refine Go.aload_n dX11_way_59 rfl ?_
            refine Go.getR dX11_way_60 fX11_44 rfl ?_
            refine Go.iload_n dX11_way_63 rfl ?_
            refine Go.iload_n dX11_way_64 rfl ?_
            obtain ⟨r_65, hc_65, hF⟩ := Option.bind_eq_some_iff.mp hF
            refine Go.callV [_, _] dX11_way_65 kX10_lineAt vX10_lineAt lX11_211 rfl rfl rfl rfl rfl (Nat.le_of_ble_eq_true rfl) (Nat.le_of_ble_eq_true rfl) (ok_X10_lineAt (d + 1) N _ _ _ _ hc_65) ?_
            obtain rfl := Option.some.inj hF
            exact Go.iret (st := []) dX11_way_68 rfl rfl ⟨rfl, rfl⟩
          · have hF := ite_t h_52 hF
            refine Go.iload_n dX11_way_55 rfl ?_
            refine Go.goto (tgt := 68) dX11_way_56 (by decide) ?_
            obtain rfl := Option.some.inj hF
            exact Go.iret (st := []) dX11_way_68 rfl rfl ⟨rfl, rfl⟩
        · have hF := ite_f h_45 hF
          refine Go.iconst (v := (-1)) dX11_way_48 (by decide) ?_
          obtain rfl := Option.some.inj hF
          exact Go.iret (st := []) dX11_way_49 rfl rfl ⟨rfl, rfl⟩
      · have hF := ite_t h_37 hF
        refine Go.bipush (v := (-2)) dX11_way_40 (by decide) ?_
        obtain rfl := Option.some.inj hF
        exact Go.iret (st := []) dX11_way_42 rfl rfl ⟨rfl, rfl⟩
    · have hF := ite_f h_10 hF
      refine Go.iconst (v := (-1)) dX11_way_13 (by decide) ?_
      obtain rfl := Option.some.inj hF
      exact Go.iret (st := []) dX11_way_14 rfl rfl ⟨rfl, rfl⟩
def F_X11_night (N : Nat) (x1 : Int32) (S : St) : Option (Int32 × St) :=
  if (S.1 1 0) = 0 then (some ((-5), S)) else ((F_X7_learn N 0 S).bind (fun r_21 => (F_X7_perform N 0 x1 r_21).bind (fun r_33 => some (r_33.2.1 5 0, r_33.2))))
set_option maxHeartbeats 4000000 in
set_option maxRecDepth 100000 in
theorem ok_X11_night {l : Launch} (d : Nat) (N : Nat) (x1 : Int32) (S : St) (R : Int32 × St) (hF : F_X11_night N x1 S = some R) : Go l (d + 6) mX11_night (Res (some (.int R.1)) R.2) 0 [(0, .ref 0), (1, .int x1)] [] S := by
  unfold F_X11_night at hF
  refine Go.aload_n dX11_night_0 rfl ?_
  refine Go.getR dX11_night_1 fX11_10 rfl ?_
  refine Go.getI dX11_night_4 fX11_179 rfl ?_
  refine Go.ifne (tgt := 13) dX11_night_7 (by decide) (fun h_7 => ?_) (fun h_7 => ?_)
  · have hF := ite_f h_7 hF
    refine Go.aload_n dX11_night_13 rfl ?_
    refine Go.getR dX11_night_14 fX11_34 rfl ?_
    refine Go.aload_n dX11_night_17 rfl ?_
    refine Go.getR dX11_night_18 fX11_10 rfl ?_
    obtain ⟨r_21, hc_21, hF⟩ := Option.bind_eq_some_iff.mp hF
    refine Go.callV [_] dX11_night_21 kX7_learn vX7_learn lX11_214 rfl rfl rfl rfl rfl (Nat.le_of_ble_eq_true rfl) (Nat.le_of_ble_eq_true rfl) (ok_X7_learn (d + 0) N _ _ (by decide) _ hc_21) ?_
    refine Go.aload_n dX11_night_24 rfl ?_
    refine Go.getR dX11_night_25 fX11_34 rfl ?_
    refine Go.aload_n dX11_night_28 rfl ?_
    refine Go.getR dX11_night_29 fX11_10 rfl ?_
    refine Go.iload_n dX11_night_32 rfl ?_
    obtain ⟨r_33, hc_33, hF⟩ := Option.bind_eq_some_iff.mp hF
    refine Go.callV [_, _] dX11_night_33 kX7_perform vX7_perform lX11_218 rfl rfl rfl rfl rfl (Nat.le_of_ble_eq_true rfl) (Nat.le_of_ble_eq_true rfl) (ok_X7_perform (d + 3) N _ _ _ (by decide) _ hc_33) ?_
    refine Go.pop dX11_night_36 rfl ?_
    refine Go.aload_n dX11_night_37 rfl ?_
    refine Go.getR dX11_night_38 fX11_34 rfl ?_
    refine Go.getI dX11_night_41 fX11_222 rfl ?_
    obtain rfl := Option.some.inj hF
    exact Go.iret (st := []) dX11_night_44 rfl rfl ⟨rfl, rfl⟩
  · have hF := ite_t h_7 hF
    refine Go.bipush (v := (-5)) dX11_night_10 (by decide) ?_
    obtain rfl := Option.some.inj hF
    exact Go.iret (st := []) dX11_night_12 rfl rfl ⟨rfl, rfl⟩
def F_X11_isNoFigure (x0 : Int32) (S : St) : Option (Int32 × St) :=
  if x0 < 0 then (some (1, S)) else (if x0 ≤ 4 then (some (0, S)) else (some (1, S)))
set_option maxHeartbeats 4000000 in
set_option maxRecDepth 100000 in
theorem ok_X11_isNoFigure {l : Launch} (d : Nat) (x0 : Int32) (S : St) (R : Int32 × St) (hF : F_X11_isNoFigure x0 S = some R) : Go l (d + 0) mX11_isNoFigure (Res (some (.int R.1)) R.2) 0 [(0, .int x0)] [] S := by
  unfold F_X11_isNoFigure at hF
  refine Go.iload_n dX11_isNoFigure_0 rfl ?_
  refine Go.iflt (tgt := 9) dX11_isNoFigure_1 (by decide) (fun h_1 => ?_) (fun h_1 => ?_)
  · have hF := ite_t h_1 hF
    refine Go.iconst (v := 1) dX11_isNoFigure_9 (by decide) ?_
    refine Go.goto (tgt := 14) dX11_isNoFigure_10 (by decide) ?_
    obtain rfl := Option.some.inj hF
    exact Go.iret (st := []) dX11_isNoFigure_14 rfl rfl ⟨rfl, rfl⟩
  · have hF := ite_f h_1 hF
    refine Go.iload_n dX11_isNoFigure_4 rfl ?_
    refine Go.iconst (v := 4) dX11_isNoFigure_5 (by decide) ?_
    refine Go.icmple (tgt := 13) dX11_isNoFigure_6 (by decide) (fun h_6 => ?_) (fun h_6 => ?_)
    · have hF := ite_t h_6 hF
      refine Go.iconst (v := 0) dX11_isNoFigure_13 (by decide) ?_
      obtain rfl := Option.some.inj hF
      exact Go.iret (st := []) dX11_isNoFigure_14 rfl rfl ⟨rfl, rfl⟩
    · have hF := ite_f h_6 hF
      refine Go.iconst (v := 1) dX11_isNoFigure_9 (by decide) ?_
      refine Go.goto (tgt := 14) dX11_isNoFigure_10 (by decide) ?_
      obtain rfl := Option.some.inj hF
      exact Go.iret (st := []) dX11_isNoFigure_14 rfl rfl ⟨rfl, rfl⟩
def F_X11_told (x1 : Int32) (S : St) : Option (Int32 × St) :=
  (F_X11_isNoFigure x1 S).bind (fun r_1 => if r_1.1 = 0 then (if (r_1.2.1 5 0) = 0 then (some ((-5), r_1.2)) else ((F_X7_figure 0 x1 r_1.2).bind (fun r_29 => some (r_29.1, r_29.2)))) else (some ((-1), r_1.2)))
set_option maxHeartbeats 4000000 in
set_option maxRecDepth 100000 in
theorem ok_X11_told {l : Launch} (d : Nat) (x1 : Int32) (S : St) (R : Int32 × St) (hF : F_X11_told x1 S = some R) : Go l (d + 1) mX11_told (Res (some (.int R.1)) R.2) 0 [(0, .ref 0), (1, .int x1)] [] S := by
  unfold F_X11_told at hF
  refine Go.iload_n dX11_told_0 rfl ?_
  obtain ⟨r_1, hc_1, hF⟩ := Option.bind_eq_some_iff.mp hF
  refine Go.callS [_] dX11_told_1 kX11_isNoFigure sX11_isNoFigure lX11_223 rfl rfl (Nat.le_of_ble_eq_true rfl) (Nat.le_of_ble_eq_true rfl) (ok_X11_isNoFigure (d + 0) _ _ _ hc_1) ?_
  refine Go.ifeq (tgt := 9) dX11_told_4 (by decide) (fun h_4 => ?_) (fun h_4 => ?_)
  · have hF := ite_t h_4 hF
    refine Go.aload_n dX11_told_9 rfl ?_
    refine Go.getR dX11_told_10 fX11_34 rfl ?_
    refine Go.getI dX11_told_13 fX11_222 rfl ?_
    refine Go.ifne (tgt := 24) dX11_told_16 (by decide) (fun h_16 => ?_) (fun h_16 => ?_)
    · have hF := ite_f h_16 hF
      refine Go.aload_n dX11_told_24 rfl ?_
      refine Go.getR dX11_told_25 fX11_34 rfl ?_
      refine Go.iload_n dX11_told_28 rfl ?_
      obtain ⟨r_29, hc_29, hF⟩ := Option.bind_eq_some_iff.mp hF
      refine Go.callV [_] dX11_told_29 kX7_figure vX7_figure lX11_226 rfl rfl rfl rfl rfl (Nat.le_of_ble_eq_true rfl) (Nat.le_of_ble_eq_true rfl) (ok_X7_figure (d + 0) _ _ _ (by decide) _ hc_29) ?_
      obtain rfl := Option.some.inj hF
      exact Go.iret (st := []) dX11_told_32 rfl rfl ⟨rfl, rfl⟩
    · have hF := ite_t h_16 hF
      refine Go.bipush (v := (-5)) dX11_told_19 (by decide) ?_
      refine Go.goto (tgt := 32) dX11_told_21 (by decide) ?_
      obtain rfl := Option.some.inj hF
      exact Go.iret (st := []) dX11_told_32 rfl rfl ⟨rfl, rfl⟩
  · have hF := ite_f h_4 hF
    refine Go.iconst (v := (-1)) dX11_told_7 (by decide) ?_
    obtain rfl := Option.some.inj hF
    exact Go.iret (st := []) dX11_told_8 rfl rfl ⟨rfl, rfl⟩
def F_X11_said (x1 : Int32) (x2 : Int32) (S : St) : Option (Int32 × St) :=
  if x1 < 0 then (some ((-1), S)) else (if x2 < 0 then (some ((-1), S)) else (if x2 ≤ 2 then (if (S.1 5 0) = 0 then (some ((-5), S)) else (if x1 < (S.1 5 0) then ((F_X7_about 0 x1 x2 S).bind (fun r_49 => some (r_49.1, r_49.2))) else (some ((-1), S)))) else (some ((-1), S))))
set_option maxHeartbeats 4000000 in
set_option maxRecDepth 100000 in
theorem ok_X11_said {l : Launch} (d : Nat) (x1 : Int32) (x2 : Int32) (S : St) (R : Int32 × St) (hF : F_X11_said x1 x2 S = some R) : Go l (d + 1) mX11_said (Res (some (.int R.1)) R.2) 0 [(0, .ref 0), (1, .int x1), (2, .int x2)] [] S := by
  unfold F_X11_said at hF
  refine Go.iload_n dX11_said_0 rfl ?_
  refine Go.iflt (tgt := 13) dX11_said_1 (by decide) (fun h_1 => ?_) (fun h_1 => ?_)
  · have hF := ite_t h_1 hF
    refine Go.iconst (v := (-1)) dX11_said_13 (by decide) ?_
    obtain rfl := Option.some.inj hF
    exact Go.iret (st := []) dX11_said_14 rfl rfl ⟨rfl, rfl⟩
  · have hF := ite_f h_1 hF
    refine Go.iload_n dX11_said_4 rfl ?_
    refine Go.iflt (tgt := 13) dX11_said_5 (by decide) (fun h_5 => ?_) (fun h_5 => ?_)
    · have hF := ite_t h_5 hF
      refine Go.iconst (v := (-1)) dX11_said_13 (by decide) ?_
      obtain rfl := Option.some.inj hF
      exact Go.iret (st := []) dX11_said_14 rfl rfl ⟨rfl, rfl⟩
    · have hF := ite_f h_5 hF
      refine Go.iload_n dX11_said_8 rfl ?_
      refine Go.iconst (v := 2) dX11_said_9 (by decide) ?_
      refine Go.icmple (tgt := 15) dX11_said_10 (by decide) (fun h_10 => ?_) (fun h_10 => ?_)
      · have hF := ite_t h_10 hF
        refine Go.aload_n dX11_said_15 rfl ?_
        refine Go.getR dX11_said_16 fX11_34 rfl ?_
        refine Go.getI dX11_said_19 fX11_222 rfl ?_
        refine Go.ifne (tgt := 28) dX11_said_22 (by decide) (fun h_22 => ?_) (fun h_22 => ?_)
        · have hF := ite_f h_22 hF
          refine Go.iload_n dX11_said_28 rfl ?_
          refine Go.aload_n dX11_said_29 rfl ?_
          refine Go.getR dX11_said_30 fX11_34 rfl ?_
          refine Go.getI dX11_said_33 fX11_222 rfl ?_
          refine Go.icmplt (tgt := 43) dX11_said_36 (by decide) (fun h_36 => ?_) (fun h_36 => ?_)
          · have hF := ite_t h_36 hF
            refine Go.aload_n dX11_said_43 rfl ?_
            refine Go.getR dX11_said_44 fX11_34 rfl ?_
            refine Go.iload_n dX11_said_47 rfl ?_
            refine Go.iload_n dX11_said_48 rfl ?_
            obtain ⟨r_49, hc_49, hF⟩ := Option.bind_eq_some_iff.mp hF
            refine Go.callV [_, _] dX11_said_49 kX7_about vX7_about lX11_229 rfl rfl rfl rfl rfl (Nat.le_of_ble_eq_true rfl) (Nat.le_of_ble_eq_true rfl) (ok_X7_about (d + 0) _ _ _ _ (by decide) _ hc_49) ?_
            obtain rfl := Option.some.inj hF
            exact Go.iret (st := []) dX11_said_52 rfl rfl ⟨rfl, rfl⟩
          · have hF := ite_f h_36 hF
            refine Go.iconst (v := (-1)) dX11_said_39 (by decide) ?_
            refine Go.goto (tgt := 52) dX11_said_40 (by decide) ?_
            obtain rfl := Option.some.inj hF
            exact Go.iret (st := []) dX11_said_52 rfl rfl ⟨rfl, rfl⟩
        · have hF := ite_t h_22 hF
          refine Go.bipush (v := (-5)) dX11_said_25 (by decide) ?_
          obtain rfl := Option.some.inj hF
          exact Go.iret (st := []) dX11_said_27 rfl rfl ⟨rfl, rfl⟩
      · have hF := ite_f h_10 hF
        refine Go.iconst (v := (-1)) dX11_said_13 (by decide) ?_
        obtain rfl := Option.some.inj hF
        exact Go.iret (st := []) dX11_said_14 rfl rfl ⟨rfl, rfl⟩
def F_X11_mean_53 (N : Nat) : Nat → Int32 → Int32 → Int32 → Int32 → Int32 → St → Option (Int32 × St)
  | 0 => fun _ _ _ _ _ _ => none
  | n + 1 => fun x2 x3 x4 x5 x6 S =>
    if x2 ≤ x6 then (gd (decide (¬ x2 = 0)) (some (x5 / x2, S))) else ((F_X7_perform N 1 x4 S).bind (fun r_69 => (F_X7_figure 1 x3 r_69.2).bind (fun r_81 => (F_X11_mean_53 N n) x2 x3 r_69.1 (x5 + r_81.1) (x6 + 1) r_81.2)))
set_option maxHeartbeats 4000000 in
set_option maxRecDepth 100000 in
theorem ok_X11_mean_53 {l : Launch} (d : Nat) (N : Nat) : ∀ (n : Nat) (x2 : Int32) (x3 : Int32) (x4 : Int32) (x5 : Int32) (x6 : Int32) (S : St) (R : Int32 × St), F_X11_mean_53 N n x2 x3 x4 x5 x6 S = some R → Go l (d + 6) mX11_mean (Res (some (.int R.1)) R.2) 53 [(0, .ref 0), (2, .int x2), (3, .int x3), (4, .int x4), (5, .int x5), (6, .int x6)] [] S := by
  intro n
  induction n with
  | zero => intro x2 x3 x4 x5 x6 S  R hF; cases hF
  | succ n hk53 =>
    intro x2 x3 x4 x5 x6 S  R hF
    have hF : (if x2 ≤ x6 then (gd (decide (¬ x2 = 0)) (some (x5 / x2, S))) else ((F_X7_perform N 1 x4 S).bind (fun r_69 => (F_X7_figure 1 x3 r_69.2).bind (fun r_81 => (F_X11_mean_53 N n) x2 x3 r_69.1 (x5 + r_81.1) (x6 + 1) r_81.2)))) = some R := hF
    refine Go.iload dX11_mean_53 rfl ?_
    refine Go.iload_n dX11_mean_55 rfl ?_
    refine Go.icmpge (tgt := 93) dX11_mean_56 (by decide) (fun h_56 => ?_) (fun h_56 => ?_)
    · have hF := ite_t h_56 hF
      refine Go.iload dX11_mean_93 rfl ?_
      refine Go.iload_n dX11_mean_95 rfl ?_
      obtain ⟨hb_96, hF⟩ := gd_some hF
      refine Go.idiv dX11_mean_96 (of_decide_eq_true hb_96) ?_
      obtain rfl := Option.some.inj hF
      exact Go.iret (st := []) dX11_mean_97 rfl rfl ⟨rfl, rfl⟩
    · have hF := ite_f h_56 hF
      refine Go.aload_n dX11_mean_59 rfl ?_
      refine Go.getR dX11_mean_60 fX11_38 rfl ?_
      refine Go.aload_n dX11_mean_63 rfl ?_
      refine Go.getR dX11_mean_64 fX11_10 rfl ?_
      refine Go.iload dX11_mean_67 rfl ?_
      obtain ⟨r_69, hc_69, hF⟩ := Option.bind_eq_some_iff.mp hF
      refine Go.callV [_, _] dX11_mean_69 kX7_perform vX7_perform lX11_218 rfl rfl rfl rfl rfl (Nat.le_of_ble_eq_true rfl) (Nat.le_of_ble_eq_true rfl) (ok_X7_perform (d + 3) N _ _ _ (by decide) _ hc_69) ?_
      refine Go.istore (ls' := [(4, _), (0, _), (2, _), (3, _), (5, _), (6, _)]) dX11_mean_72 (by decide) rfl ?_
      refine Go.iload dX11_mean_74 rfl ?_
      refine Go.aload_n dX11_mean_76 rfl ?_
      refine Go.getR dX11_mean_77 fX11_38 rfl ?_
      refine Go.iload_n dX11_mean_80 rfl ?_
      obtain ⟨r_81, hc_81, hF⟩ := Option.bind_eq_some_iff.mp hF
      refine Go.callV [_] dX11_mean_81 kX7_figure vX7_figure lX11_226 rfl rfl rfl rfl rfl (Nat.le_of_ble_eq_true rfl) (Nat.le_of_ble_eq_true rfl) (ok_X7_figure (d + 5) _ _ _ (by decide) _ hc_81) ?_
      refine Go.iadd dX11_mean_84 ?_
      refine Go.istore (ls' := [(5, _), (4, _), (0, _), (2, _), (3, _), (6, _)]) dX11_mean_85 (by decide) rfl ?_
      refine Go.iincP (ls' := [(6, _), (5, _), (4, _), (0, _), (2, _), (3, _)]) dX11_mean_87 rfl (by decide) rfl ?_
      refine Go.goto (tgt := 53) dX11_mean_90 (by decide) ?_
      refine Go.pick (ls' := [(0, _), (2, _), (3, _), (4, _), (5, _), (6, _)]) [3, 4, 5, 2, 1, 0] rfl ?_
      exact hk53 _ _ _ _ _ _ _ hF
def F_X11_mean (N : Nat) (x1 : Int32) (x2 : Int32) (x3 : Int32) (S : St) : Option (Int32 × St) :=
  if x2 < 1 then (some ((-1), S)) else (if 20 < x2 then (some ((-1), S)) else ((F_X11_isNoFigure x3 S).bind (fun r_12 => if r_12.1 = 0 then (if (r_12.2.1 1 0) = 0 then (some ((-5), r_12.2)) else ((F_X7_learn N 1 r_12.2).bind (fun r_41 => F_X11_mean_53 N N x2 x3 x1 0 0 r_41))) else (some ((-1), r_12.2)))))
set_option maxHeartbeats 4000000 in
set_option maxRecDepth 100000 in
theorem ok_X11_mean {l : Launch} (d : Nat) (N : Nat) (x1 : Int32) (x2 : Int32) (x3 : Int32) (S : St) (R : Int32 × St) (hF : F_X11_mean N x1 x2 x3 S = some R) : Go l (d + 6) mX11_mean (Res (some (.int R.1)) R.2) 0 [(0, .ref 0), (1, .int x1), (2, .int x2), (3, .int x3)] [] S := by
  unfold F_X11_mean at hF
  refine Go.iload_n dX11_mean_0 rfl ?_
  refine Go.iconst (v := 1) dX11_mean_1 (by decide) ?_
  refine Go.icmplt (tgt := 18) dX11_mean_2 (by decide) (fun h_2 => ?_) (fun h_2 => ?_)
  · have hF := ite_t h_2 hF
    refine Go.iconst (v := (-1)) dX11_mean_18 (by decide) ?_
    obtain rfl := Option.some.inj hF
    exact Go.iret (st := []) dX11_mean_19 rfl rfl ⟨rfl, rfl⟩
  · have hF := ite_f h_2 hF
    refine Go.iload_n dX11_mean_5 rfl ?_
    refine Go.bipush (v := 20) dX11_mean_6 (by decide) ?_
    refine Go.icmpgt (tgt := 18) dX11_mean_8 (by decide) (fun h_8 => ?_) (fun h_8 => ?_)
    · have hF := ite_t h_8 hF
      refine Go.iconst (v := (-1)) dX11_mean_18 (by decide) ?_
      obtain rfl := Option.some.inj hF
      exact Go.iret (st := []) dX11_mean_19 rfl rfl ⟨rfl, rfl⟩
    · have hF := ite_f h_8 hF
      refine Go.iload_n dX11_mean_11 rfl ?_
      obtain ⟨r_12, hc_12, hF⟩ := Option.bind_eq_some_iff.mp hF
      refine Go.callS [_] dX11_mean_12 kX11_isNoFigure sX11_isNoFigure lX11_223 rfl rfl (Nat.le_of_ble_eq_true rfl) (Nat.le_of_ble_eq_true rfl) (ok_X11_isNoFigure (d + 5) _ _ _ hc_12) ?_
      refine Go.ifeq (tgt := 20) dX11_mean_15 (by decide) (fun h_15 => ?_) (fun h_15 => ?_)
      · have hF := ite_t h_15 hF
        refine Go.aload_n dX11_mean_20 rfl ?_
        refine Go.getR dX11_mean_21 fX11_10 rfl ?_
        refine Go.getI dX11_mean_24 fX11_179 rfl ?_
        refine Go.ifne (tgt := 33) dX11_mean_27 (by decide) (fun h_27 => ?_) (fun h_27 => ?_)
        · have hF := ite_f h_27 hF
          refine Go.aload_n dX11_mean_33 rfl ?_
          refine Go.getR dX11_mean_34 fX11_38 rfl ?_
          refine Go.aload_n dX11_mean_37 rfl ?_
          refine Go.getR dX11_mean_38 fX11_10 rfl ?_
          obtain ⟨r_41, hc_41, hF⟩ := Option.bind_eq_some_iff.mp hF
          refine Go.callV [_] dX11_mean_41 kX7_learn vX7_learn lX11_214 rfl rfl rfl rfl rfl (Nat.le_of_ble_eq_true rfl) (Nat.le_of_ble_eq_true rfl) (ok_X7_learn (d + 0) N _ _ (by decide) _ hc_41) ?_
          refine Go.iload_n dX11_mean_44 rfl ?_
          refine Go.istore (ls' := [(4, _), (0, _), (1, _), (2, _), (3, _)]) dX11_mean_45 (by decide) rfl ?_
          refine Go.iconst (v := 0) dX11_mean_47 (by decide) ?_
          refine Go.istore (ls' := [(5, _), (4, _), (0, _), (1, _), (2, _), (3, _)]) dX11_mean_48 (by decide) rfl ?_
          refine Go.iconst (v := 0) dX11_mean_50 (by decide) ?_
          refine Go.istore (ls' := [(6, _), (5, _), (4, _), (0, _), (1, _), (2, _), (3, _)]) dX11_mean_51 (by decide) rfl ?_
          refine Go.pick (ls' := [(0, _), (2, _), (3, _), (4, _), (5, _), (6, _)]) [3, 5, 6, 2, 1, 0] rfl ?_
          exact ok_X11_mean_53 d N N _ _ _ _ _ _ _ hF
        · have hF := ite_t h_27 hF
          refine Go.bipush (v := (-5)) dX11_mean_30 (by decide) ?_
          obtain rfl := Option.some.inj hF
          exact Go.iret (st := []) dX11_mean_32 rfl rfl ⟨rfl, rfl⟩
      · have hF := ite_f h_15 hF
        refine Go.iconst (v := (-1)) dX11_mean_18 (by decide) ?_
        obtain rfl := Option.some.inj hF
        exact Go.iret (st := []) dX11_mean_19 rfl rfl ⟨rfl, rfl⟩
def F_X11_firstImpossible_4 : Nat → Nat → Int32 → Int32 → St → Option (Int32 × St)
  | 0 => fun _ _ _ _ => none
  | n + 1 => fun x1 x2 x3 S =>
    if (S.1 (14 + x1) 3) ≤ x3 then (some ((-1), S)) else ((F_X9_intAt x1 x3 S).bind (fun r_14 => (F_X8_has r_14.1 r_14.2).bind (fun r_25 => if r_25.1 = 0 then (some (x3, r_25.2)) else (if r_14.1 = (x2 + 1) then ((F_X11_firstImpossible_4 n) x1 r_14.1 (x3 + 1) r_25.2) else ((F_X8_isJump x2 r_14.1 r_25.2).bind (fun r_46 => if r_46.1 = 0 then (some (x3, r_46.2)) else ((F_X11_firstImpossible_4 n) x1 r_14.1 (x3 + 1) r_46.2)))))))
set_option maxHeartbeats 4000000 in
set_option maxRecDepth 100000 in
theorem ok_X11_firstImpossible_4 {l : Launch} (d : Nat) : ∀ (n : Nat) (x1 : Nat) (x2 : Int32) (x3 : Int32) (S : St) (hx1 : x1 < 6) (R : Int32 × St), F_X11_firstImpossible_4 n x1 x2 x3 S = some R → Go l (d + 2) mX11_firstImpossible (Res (some (.int R.1)) R.2) 4 [(0, .ref 0), (1, .ref (14 + x1)), (2, .int x2), (3, .int x3)] [] S := by
  intro n
  induction n with
  | zero => intro x1 x2 x3 S hx1 R hF; cases hF
  | succ n hk4 =>
    intro x1 x2 x3 S hx1 R hF
    have hF : (if (S.1 (14 + x1) 3) ≤ x3 then (some ((-1), S)) else ((F_X9_intAt x1 x3 S).bind (fun r_14 => (F_X8_has r_14.1 r_14.2).bind (fun r_25 => if r_25.1 = 0 then (some (x3, r_25.2)) else (if r_14.1 = (x2 + 1) then ((F_X11_firstImpossible_4 n) x1 r_14.1 (x3 + 1) r_25.2) else ((F_X8_isJump x2 r_14.1 r_25.2).bind (fun r_46 => if r_46.1 = 0 then (some (x3, r_46.2)) else ((F_X11_firstImpossible_4 n) x1 r_14.1 (x3 + 1) r_46.2)))))))) = some R := hF
    refine Go.iload_n dX11_firstImpossible_4 rfl ?_
    refine Go.aload_n dX11_firstImpossible_5 rfl ?_
    refine Go.getI dX11_firstImpossible_6 fX11_112 (sl_X9_3 hx1) ?_
    refine Go.icmpge (tgt := 63) dX11_firstImpossible_9 (by decide) (fun h_9 => ?_) (fun h_9 => ?_)
    · have hF := ite_t h_9 hF
      refine Go.iconst (v := (-1)) dX11_firstImpossible_63 (by decide) ?_
      obtain rfl := Option.some.inj hF
      exact Go.iret (st := []) dX11_firstImpossible_64 rfl rfl ⟨rfl, rfl⟩
    · have hF := ite_f h_9 hF
      refine Go.aload_n dX11_firstImpossible_12 rfl ?_
      refine Go.iload_n dX11_firstImpossible_13 rfl ?_
      obtain ⟨r_14, hc_14, hF⟩ := Option.bind_eq_some_iff.mp hF
      refine Go.callV [_] dX11_firstImpossible_14 kX9_intAt vX9_intAt lX11_119 (cl_X9 hx1) rfl rfl rfl rfl (Nat.le_of_ble_eq_true rfl) (Nat.le_of_ble_eq_true rfl) (ok_X9_intAt (d + 1) _ _ _ hx1 _ hc_14) ?_
      refine Go.istore (ls' := [(4, _), (0, _), (1, _), (2, _), (3, _)]) dX11_firstImpossible_17 (by decide) rfl ?_
      refine Go.aload_n dX11_firstImpossible_19 rfl ?_
      refine Go.getR dX11_firstImpossible_20 fX11_10 rfl ?_
      refine Go.iload dX11_firstImpossible_23 rfl ?_
      obtain ⟨r_25, hc_25, hF⟩ := Option.bind_eq_some_iff.mp hF
      refine Go.callV [_] dX11_firstImpossible_25 kX8_has vX8_has lX11_144 rfl rfl rfl rfl rfl (Nat.le_of_ble_eq_true rfl) (Nat.le_of_ble_eq_true rfl) (ok_X8_has (d + 1) _ _ _ hc_25) ?_
      refine Go.ifeq (tgt := 52) dX11_firstImpossible_28 (by decide) (fun h_28 => ?_) (fun h_28 => ?_)
      · have hF := ite_t h_28 hF
        refine Go.iload_n dX11_firstImpossible_52 rfl ?_
        obtain rfl := Option.some.inj hF
        exact Go.iret (st := []) dX11_firstImpossible_53 rfl rfl ⟨rfl, rfl⟩
      · have hF := ite_f h_28 hF
        refine Go.iload dX11_firstImpossible_31 rfl ?_
        refine Go.iload_n dX11_firstImpossible_33 rfl ?_
        refine Go.iconst (v := 1) dX11_firstImpossible_34 (by decide) ?_
        refine Go.iadd dX11_firstImpossible_35 ?_
        refine Go.icmpeq (tgt := 54) dX11_firstImpossible_36 (by decide) (fun h_36 => ?_) (fun h_36 => ?_)
        · have hF := ite_t h_36 hF
          refine Go.iload dX11_firstImpossible_54 rfl ?_
          refine Go.istore_n (ls' := [(2, _), (4, _), (0, _), (1, _), (3, _)]) dX11_firstImpossible_56 (by decide) rfl ?_
          refine Go.iincP (ls' := [(3, _), (2, _), (4, _), (0, _), (1, _)]) dX11_firstImpossible_57 rfl (by decide) rfl ?_
          refine Go.goto (tgt := 4) dX11_firstImpossible_60 (by decide) ?_
          refine Go.pick (ls' := [(0, _), (1, _), (2, _), (3, _)]) [3, 4, 1, 0] rfl ?_
          exact hk4 _ _ _ _ hx1 _ hF
        · have hF := ite_f h_36 hF
          refine Go.aload_n dX11_firstImpossible_39 rfl ?_
          refine Go.getR dX11_firstImpossible_40 fX11_10 rfl ?_
          refine Go.iload_n dX11_firstImpossible_43 rfl ?_
          refine Go.iload dX11_firstImpossible_44 rfl ?_
          obtain ⟨r_46, hc_46, hF⟩ := Option.bind_eq_some_iff.mp hF
          refine Go.callV [_, _] dX11_firstImpossible_46 kX8_isJump vX8_isJump lX11_197 rfl rfl rfl rfl rfl (Nat.le_of_ble_eq_true rfl) (Nat.le_of_ble_eq_true rfl) (ok_X8_isJump (d + 0) _ _ _ _ hc_46) ?_
          refine Go.ifne (tgt := 54) dX11_firstImpossible_49 (by decide) (fun h_49 => ?_) (fun h_49 => ?_)
          · have hF := ite_f h_49 hF
            refine Go.iload dX11_firstImpossible_54 rfl ?_
            refine Go.istore_n (ls' := [(2, _), (4, _), (0, _), (1, _), (3, _)]) dX11_firstImpossible_56 (by decide) rfl ?_
            refine Go.iincP (ls' := [(3, _), (2, _), (4, _), (0, _), (1, _)]) dX11_firstImpossible_57 rfl (by decide) rfl ?_
            refine Go.goto (tgt := 4) dX11_firstImpossible_60 (by decide) ?_
            refine Go.pick (ls' := [(0, _), (1, _), (2, _), (3, _)]) [3, 4, 1, 0] rfl ?_
            exact hk4 _ _ _ _ hx1 _ hF
          · have hF := ite_t h_49 hF
            refine Go.iload_n dX11_firstImpossible_52 rfl ?_
            obtain rfl := Option.some.inj hF
            exact Go.iret (st := []) dX11_firstImpossible_53 rfl rfl ⟨rfl, rfl⟩
def F_X11_firstImpossible (N : Nat) (b1 : Nat) (S : St) : Option (Int32 × St) :=
  F_X11_firstImpossible_4 N b1 (-1) 0 S
set_option maxHeartbeats 4000000 in
set_option maxRecDepth 100000 in
theorem ok_X11_firstImpossible {l : Launch} (d : Nat) (N : Nat) (b1 : Nat) (S : St) (hb1 : b1 < 6) (R : Int32 × St) (hF : F_X11_firstImpossible N b1 S = some R) : Go l (d + 2) mX11_firstImpossible (Res (some (.int R.1)) R.2) 0 [(0, .ref 0), (1, .ref (14 + b1))] [] S := by
  unfold F_X11_firstImpossible at hF
  refine Go.iconst (v := (-1)) dX11_firstImpossible_0 (by decide) ?_
  refine Go.istore_n (ls' := [(2, _), (0, _), (1, _)]) dX11_firstImpossible_1 (by decide) rfl ?_
  refine Go.iconst (v := 0) dX11_firstImpossible_2 (by decide) ?_
  refine Go.istore_n (ls' := [(3, _), (2, _), (0, _), (1, _)]) dX11_firstImpossible_3 (by decide) rfl ?_
  refine Go.pick (ls' := [(0, _), (1, _), (2, _), (3, _)]) [2, 3, 1, 0] rfl ?_
  exact ok_X11_firstImpossible_4 d N _ _ _ _ hb1 _ hF
def F_X11_jumpsOnTape_4 : Nat → Nat → Int32 → Int32 → St → Option (Int32 × St)
  | 0 => fun _ _ _ _ => none
  | n + 1 => fun x1 x2 x3 S =>
    if (S.1 (14 + x1) 3) ≤ x3 then (some (x2, S)) else ((F_X9_intAt x1 x3 S).bind (fun r_14 => (F_X9_intAt x1 (x3 - 1) r_14.2).bind (fun r_21 => if r_14.1 = (r_21.1 + 1) then ((F_X11_jumpsOnTape_4 n) x1 x2 (x3 + 1) r_21.2) else ((F_X11_jumpsOnTape_4 n) x1 (x2 + 1) (x3 + 1) r_21.2))))
set_option maxHeartbeats 4000000 in
set_option maxRecDepth 100000 in
theorem ok_X11_jumpsOnTape_4 {l : Launch} (d : Nat) : ∀ (n : Nat) (x1 : Nat) (x2 : Int32) (x3 : Int32) (S : St) (hx1 : x1 < 6) (R : Int32 × St), F_X11_jumpsOnTape_4 n x1 x2 x3 S = some R → Go l (d + 1) mX11_jumpsOnTape (Res (some (.int R.1)) R.2) 4 [(1, .ref (14 + x1)), (2, .int x2), (3, .int x3)] [] S := by
  intro n
  induction n with
  | zero => intro x1 x2 x3 S hx1 R hF; cases hF
  | succ n hk4 =>
    intro x1 x2 x3 S hx1 R hF
    have hF : (if (S.1 (14 + x1) 3) ≤ x3 then (some (x2, S)) else ((F_X9_intAt x1 x3 S).bind (fun r_14 => (F_X9_intAt x1 (x3 - 1) r_14.2).bind (fun r_21 => if r_14.1 = (r_21.1 + 1) then ((F_X11_jumpsOnTape_4 n) x1 x2 (x3 + 1) r_21.2) else ((F_X11_jumpsOnTape_4 n) x1 (x2 + 1) (x3 + 1) r_21.2))))) = some R := hF
    refine Go.iload_n dX11_jumpsOnTape_4 rfl ?_
    refine Go.aload_n dX11_jumpsOnTape_5 rfl ?_
    refine Go.getI dX11_jumpsOnTape_6 fX11_112 (sl_X9_3 hx1) ?_
    refine Go.icmpge (tgt := 38) dX11_jumpsOnTape_9 (by decide) (fun h_9 => ?_) (fun h_9 => ?_)
    · have hF := ite_t h_9 hF
      refine Go.iload_n dX11_jumpsOnTape_38 rfl ?_
      obtain rfl := Option.some.inj hF
      exact Go.iret (st := []) dX11_jumpsOnTape_39 rfl rfl ⟨rfl, rfl⟩
    · have hF := ite_f h_9 hF
      refine Go.aload_n dX11_jumpsOnTape_12 rfl ?_
      refine Go.iload_n dX11_jumpsOnTape_13 rfl ?_
      obtain ⟨r_14, hc_14, hF⟩ := Option.bind_eq_some_iff.mp hF
      refine Go.callV [_] dX11_jumpsOnTape_14 kX9_intAt vX9_intAt lX11_119 (cl_X9 hx1) rfl rfl rfl rfl (Nat.le_of_ble_eq_true rfl) (Nat.le_of_ble_eq_true rfl) (ok_X9_intAt (d + 0) _ _ _ hx1 _ hc_14) ?_
      refine Go.aload_n dX11_jumpsOnTape_17 rfl ?_
      refine Go.iload_n dX11_jumpsOnTape_18 rfl ?_
      refine Go.iconst (v := 1) dX11_jumpsOnTape_19 (by decide) ?_
      refine Go.isub dX11_jumpsOnTape_20 ?_
      obtain ⟨r_21, hc_21, hF⟩ := Option.bind_eq_some_iff.mp hF
      refine Go.callV [_] dX11_jumpsOnTape_21 kX9_intAt vX9_intAt lX11_119 (cl_X9 hx1) rfl rfl rfl rfl (Nat.le_of_ble_eq_true rfl) (Nat.le_of_ble_eq_true rfl) (ok_X9_intAt (d + 0) _ _ _ hx1 _ hc_21) ?_
      refine Go.iconst (v := 1) dX11_jumpsOnTape_24 (by decide) ?_
      refine Go.iadd dX11_jumpsOnTape_25 ?_
      refine Go.icmpeq (tgt := 32) dX11_jumpsOnTape_26 (by decide) (fun h_26 => ?_) (fun h_26 => ?_)
      · have hF := ite_t h_26 hF
        refine Go.iincP (ls' := [(3, _), (1, _), (2, _)]) dX11_jumpsOnTape_32 rfl (by decide) rfl ?_
        refine Go.goto (tgt := 4) dX11_jumpsOnTape_35 (by decide) ?_
        refine Go.pick (ls' := [(1, _), (2, _), (3, _)]) [1, 2, 0] rfl ?_
        exact hk4 _ _ _ _ hx1 _ hF
      · have hF := ite_f h_26 hF
        refine Go.iincP (ls' := [(2, _), (1, _), (3, _)]) dX11_jumpsOnTape_29 rfl (by decide) rfl ?_
        refine Go.iincP (ls' := [(3, _), (2, _), (1, _)]) dX11_jumpsOnTape_32 rfl (by decide) rfl ?_
        refine Go.goto (tgt := 4) dX11_jumpsOnTape_35 (by decide) ?_
        refine Go.pick (ls' := [(1, _), (2, _), (3, _)]) [2, 1, 0] rfl ?_
        exact hk4 _ _ _ _ hx1 _ hF
def F_X11_jumpsOnTape (N : Nat) (b1 : Nat) (S : St) : Option (Int32 × St) :=
  F_X11_jumpsOnTape_4 N b1 0 1 S
set_option maxHeartbeats 4000000 in
set_option maxRecDepth 100000 in
theorem ok_X11_jumpsOnTape {l : Launch} (d : Nat) (N : Nat) (b1 : Nat) (S : St) (hb1 : b1 < 6) (R : Int32 × St) (hF : F_X11_jumpsOnTape N b1 S = some R) : Go l (d + 1) mX11_jumpsOnTape (Res (some (.int R.1)) R.2) 0 [(0, .ref 0), (1, .ref (14 + b1))] [] S := by
  unfold F_X11_jumpsOnTape at hF
  refine Go.iconst (v := 0) dX11_jumpsOnTape_0 (by decide) ?_
  refine Go.istore_n (ls' := [(2, _), (0, _), (1, _)]) dX11_jumpsOnTape_1 (by decide) rfl ?_
  refine Go.iconst (v := 1) dX11_jumpsOnTape_2 (by decide) ?_
  refine Go.istore_n (ls' := [(3, _), (2, _), (0, _), (1, _)]) dX11_jumpsOnTape_3 (by decide) rfl ?_
  refine Go.pick (ls' := [(1, _), (2, _), (3, _)]) [3, 1, 0] rfl ?_
  exact ok_X11_jumpsOnTape_4 d N _ _ _ _ hb1 _ hF
def F_X11_tape (N : Nat) (x1 : Int32) (x2 : Int32) (S : St) : Option (Int32 × St) :=
  (F_X11_isNoShelf x1 S).bind (fun r_1 => if r_1.1 = 0 then (if x2 < 0 then (some ((-1), r_1.2)) else (if x2 ≤ 1 then (gd (inb x1 6) ((F_X9_holdsNothing (Int32.toNatClampNeg x1) r_1.2).bind (fun r_26 => if r_26.1 = 0 then ((F_X9_holdsRowOf (Int32.toNatClampNeg x1) (0 : Int32) r_26.2).bind (fun r_37 => if r_37.1 = 0 then (some ((-12), r_37.2)) else ((F_X11_firstImpossible N (Int32.toNatClampNeg x1) r_37.2).bind (fun r_48 => if x2 = 0 then (if r_48.1 = (-1) then (some ((-2), r_48.2)) else (some (r_48.1, r_48.2))) else (if r_48.1 = (-1) then ((F_X11_jumpsOnTape N (Int32.toNatClampNeg x1) r_48.2).bind (fun r_79 => some (r_79.1, r_79.2))) else (some ((-5), r_48.2))))))) else (some ((-11), r_26.2))))) else (some ((-1), r_1.2)))) else (some ((-1), r_1.2)))
set_option maxHeartbeats 4000000 in
set_option maxRecDepth 100000 in
theorem ok_X11_tape {l : Launch} (d : Nat) (N : Nat) (x1 : Int32) (x2 : Int32) (S : St) (R : Int32 × St) (hF : F_X11_tape N x1 x2 S = some R) : Go l (d + 3) mX11_tape (Res (some (.int R.1)) R.2) 0 [(0, .ref 0), (1, .int x1), (2, .int x2)] [] S := by
  unfold F_X11_tape at hF
  refine Go.iload_n dX11_tape_0 rfl ?_
  obtain ⟨r_1, hc_1, hF⟩ := Option.bind_eq_some_iff.mp hF
  refine Go.callS [_] dX11_tape_1 kX11_isNoShelf sX11_isNoShelf lX11_102 rfl rfl (Nat.le_of_ble_eq_true rfl) (Nat.le_of_ble_eq_true rfl) (ok_X11_isNoShelf (d + 2) _ _ _ hc_1) ?_
  refine Go.ifne (tgt := 16) dX11_tape_4 (by decide) (fun h_4 => ?_) (fun h_4 => ?_)
  · have hF := ite_f h_4 hF
    refine Go.iconst (v := (-1)) dX11_tape_16 (by decide) ?_
    obtain rfl := Option.some.inj hF
    exact Go.iret (st := []) dX11_tape_17 rfl rfl ⟨rfl, rfl⟩
  · have hF := ite_t h_4 hF
    refine Go.iload_n dX11_tape_7 rfl ?_
    refine Go.iflt (tgt := 16) dX11_tape_8 (by decide) (fun h_8 => ?_) (fun h_8 => ?_)
    · have hF := ite_t h_8 hF
      refine Go.iconst (v := (-1)) dX11_tape_16 (by decide) ?_
      obtain rfl := Option.some.inj hF
      exact Go.iret (st := []) dX11_tape_17 rfl rfl ⟨rfl, rfl⟩
    · have hF := ite_f h_8 hF
      refine Go.iload_n dX11_tape_11 rfl ?_
      refine Go.iconst (v := 1) dX11_tape_12 (by decide) ?_
      refine Go.icmple (tgt := 18) dX11_tape_13 (by decide) (fun h_13 => ?_) (fun h_13 => ?_)
      · have hF := ite_t h_13 hF
        refine Go.aload_n dX11_tape_18 rfl ?_
        refine Go.getR dX11_tape_19 fX11_85 rfl ?_
        refine Go.iload_n dX11_tape_22 rfl ?_
        obtain ⟨hb_23, hF⟩ := gd_some hF
        refine Go.aald dX11_tape_23 rfl (inb_ok hb_23) ?_
        refine Go.astore_n (ls' := [(3, _), (0, _), (1, _), (2, _)]) dX11_tape_24 (by decide) rfl ?_
        refine Go.aload_n dX11_tape_25 rfl ?_
        obtain ⟨r_26, hc_26, hF⟩ := Option.bind_eq_some_iff.mp hF
        refine Go.callV [] dX11_tape_26 kX9_holdsNothing vX9_holdsNothing lX11_106 (cl_X9 (inb_lt hb_23)) rfl rfl rfl rfl (Nat.le_of_ble_eq_true rfl) (Nat.le_of_ble_eq_true rfl) (ok_X9_holdsNothing (d + 2) _ _ (inb_lt hb_23) _ hc_26) ?_
        refine Go.ifeq (tgt := 35) dX11_tape_29 (by decide) (fun h_29 => ?_) (fun h_29 => ?_)
        · have hF := ite_t h_29 hF
          refine Go.aload_n dX11_tape_35 rfl ?_
          refine Go.iconst (v := 0) dX11_tape_36 (by decide) ?_
          obtain ⟨r_37, hc_37, hF⟩ := Option.bind_eq_some_iff.mp hF
          refine Go.callV [_] dX11_tape_37 kX9_holdsRowOf vX9_holdsRowOf lX11_109 (cl_X9 (inb_lt hb_23)) rfl rfl rfl rfl (Nat.le_of_ble_eq_true rfl) (Nat.le_of_ble_eq_true rfl) (ok_X9_holdsRowOf (d + 2) _ _ _ (inb_lt hb_23) _ hc_37) ?_
          refine Go.ifne (tgt := 46) dX11_tape_40 (by decide) (fun h_40 => ?_) (fun h_40 => ?_)
          · have hF := ite_f h_40 hF
            refine Go.aload_n dX11_tape_46 rfl ?_
            refine Go.aload_n dX11_tape_47 rfl ?_
            obtain ⟨r_48, hc_48, hF⟩ := Option.bind_eq_some_iff.mp hF
            refine Go.callV [_] dX11_tape_48 kX11_firstImpossible vX11_firstImpossible lX11_230 rfl rfl rfl rfl rfl (Nat.le_of_ble_eq_true rfl) (Nat.le_of_ble_eq_true rfl) (ok_X11_firstImpossible (d + 0) N _ _ (inb_lt hb_23) _ hc_48) ?_
            refine Go.istore (ls' := [(4, _), (3, _), (0, _), (1, _), (2, _)]) dX11_tape_51 (by decide) rfl ?_
            refine Go.iload_n dX11_tape_53 rfl ?_
            refine Go.ifne (tgt := 71) dX11_tape_54 (by decide) (fun h_54 => ?_) (fun h_54 => ?_)
            · have hF := ite_f h_54 hF
              refine Go.iload dX11_tape_71 rfl ?_
              refine Go.iconst (v := (-1)) dX11_tape_73 (by decide) ?_
              refine Go.icmpne (tgt := 85) dX11_tape_74 (by decide) (fun h_74 => ?_) (fun h_74 => ?_)
              · have hF := ite_f h_74 hF
                refine Go.bipush (v := (-5)) dX11_tape_85 (by decide) ?_
                obtain rfl := Option.some.inj hF
                exact Go.iret (st := []) dX11_tape_87 rfl rfl ⟨rfl, rfl⟩
              · have hF := ite_t h_74 hF
                refine Go.aload_n dX11_tape_77 rfl ?_
                refine Go.aload_n dX11_tape_78 rfl ?_
                obtain ⟨r_79, hc_79, hF⟩ := Option.bind_eq_some_iff.mp hF
                refine Go.callV [_] dX11_tape_79 kX11_jumpsOnTape vX11_jumpsOnTape lX11_234 rfl rfl rfl rfl rfl (Nat.le_of_ble_eq_true rfl) (Nat.le_of_ble_eq_true rfl) (ok_X11_jumpsOnTape (d + 1) N _ _ (inb_lt hb_23) _ hc_79) ?_
                refine Go.goto (tgt := 87) dX11_tape_82 (by decide) ?_
                obtain rfl := Option.some.inj hF
                exact Go.iret (st := []) dX11_tape_87 rfl rfl ⟨rfl, rfl⟩
            · have hF := ite_t h_54 hF
              refine Go.iload dX11_tape_57 rfl ?_
              refine Go.iconst (v := (-1)) dX11_tape_59 (by decide) ?_
              refine Go.icmpne (tgt := 68) dX11_tape_60 (by decide) (fun h_60 => ?_) (fun h_60 => ?_)
              · have hF := ite_f h_60 hF
                refine Go.iload dX11_tape_68 rfl ?_
                obtain rfl := Option.some.inj hF
                exact Go.iret (st := []) dX11_tape_70 rfl rfl ⟨rfl, rfl⟩
              · have hF := ite_t h_60 hF
                refine Go.bipush (v := (-2)) dX11_tape_63 (by decide) ?_
                refine Go.goto (tgt := 70) dX11_tape_65 (by decide) ?_
                obtain rfl := Option.some.inj hF
                exact Go.iret (st := []) dX11_tape_70 rfl rfl ⟨rfl, rfl⟩
          · have hF := ite_t h_40 hF
            refine Go.bipush (v := (-12)) dX11_tape_43 (by decide) ?_
            obtain rfl := Option.some.inj hF
            exact Go.iret (st := []) dX11_tape_45 rfl rfl ⟨rfl, rfl⟩
        · have hF := ite_f h_29 hF
          refine Go.bipush (v := (-11)) dX11_tape_32 (by decide) ?_
          obtain rfl := Option.some.inj hF
          exact Go.iret (st := []) dX11_tape_34 rfl rfl ⟨rfl, rfl⟩
      · have hF := ite_f h_13 hF
        refine Go.iconst (v := (-1)) dX11_tape_16 (by decide) ?_
        obtain rfl := Option.some.inj hF
        exact Go.iret (st := []) dX11_tape_17 rfl rfl ⟨rfl, rfl⟩
def F_X11_prompt_120 (k82 : Int32 → Int32 → Int32 → Int32 → Int32 → Int32 → Int32 → St → Option (Int32 × St)) (x1 : Int32) (x2 : Int32) (x3 : Int32) (x4 : Int32) (x5 : Int32) (x6 : Int32) (x7 : Int32) (y0 : Int32) (y1 : Int32) (S : St) : Option (Int32 × St) :=
  if x7 = 0 then (k82 x1 x2 x3 x4 x7 (y0 + y1) (x7 + 1) S) else (if x6 ≤ (y0 + y1) then (k82 x1 x2 x3 x4 x5 x6 (x7 + 1) S) else (k82 x1 x2 x3 x4 x7 (y0 + y1) (x7 + 1) S))
set_option maxHeartbeats 4000000 in
set_option maxRecDepth 100000 in
theorem ok_X11_prompt_120 {l : Launch} (d : Nat) (k82 : Int32 → Int32 → Int32 → Int32 → Int32 → Int32 → Int32 → St → Option (Int32 × St)) (hk82 : ∀ (x1 : Int32) (x2 : Int32) (x3 : Int32) (x4 : Int32) (x5 : Int32) (x6 : Int32) (x7 : Int32) (S : St) (R : Int32 × St), k82 x1 x2 x3 x4 x5 x6 x7 S = some R → Go l (d + 5) mX11_prompt (Res (some (.int R.1)) R.2) 82 [(0, .ref 0), (1, .int x1), (2, .int x2), (3, .int x3), (4, .int x4), (5, .int x5), (6, .int x6), (7, .int x7)] [] S) (x1 : Int32) (x2 : Int32) (x3 : Int32) (x4 : Int32) (x5 : Int32) (x6 : Int32) (x7 : Int32) (y0 : Int32) (y1 : Int32) (S : St) (R : Int32 × St) (hF : F_X11_prompt_120 k82 x1 x2 x3 x4 x5 x6 x7 y0 y1 S = some R) : Go l (d + 5) mX11_prompt (Res (some (.int R.1)) R.2) 120 [(0, .ref 0), (1, .int x1), (2, .int x2), (3, .int x3), (4, .int x4), (5, .int x5), (6, .int x6), (7, .int x7)] [.int y1, .int y0] S := by
  unfold F_X11_prompt_120 at hF
  refine Go.iadd dX11_prompt_120 ?_
  refine Go.istore (ls' := [(8, _), (0, _), (1, _), (2, _), (3, _), (4, _), (5, _), (6, _), (7, _)]) dX11_prompt_121 (by decide) rfl ?_
  refine Go.iload dX11_prompt_123 rfl ?_
  refine Go.ifeq (tgt := 135) dX11_prompt_125 (by decide) (fun h_125 => ?_) (fun h_125 => ?_)
  · have hF := ite_t h_125 hF
    refine Go.iload dX11_prompt_135 rfl ?_
    refine Go.istore (ls' := [(5, _), (8, _), (0, _), (1, _), (2, _), (3, _), (4, _), (6, _), (7, _)]) dX11_prompt_137 (by decide) rfl ?_
    refine Go.iload dX11_prompt_139 rfl ?_
    refine Go.istore (ls' := [(6, _), (5, _), (8, _), (0, _), (1, _), (2, _), (3, _), (4, _), (7, _)]) dX11_prompt_141 (by decide) rfl ?_
    refine Go.iincP (ls' := [(7, _), (6, _), (5, _), (8, _), (0, _), (1, _), (2, _), (3, _), (4, _)]) dX11_prompt_143 rfl (by decide) rfl ?_
    refine Go.goto (tgt := 82) dX11_prompt_146 (by decide) ?_
    refine Go.pick (ls' := [(0, _), (1, _), (2, _), (3, _), (4, _), (5, _), (6, _), (7, _)]) [4, 5, 6, 7, 8, 2, 1, 0] rfl ?_
    exact hk82 _ _ _ _ _ _ _ _ _ hF
  · have hF := ite_f h_125 hF
    refine Go.iload dX11_prompt_128 rfl ?_
    refine Go.iload dX11_prompt_130 rfl ?_
    refine Go.icmpge (tgt := 143) dX11_prompt_132 (by decide) (fun h_132 => ?_) (fun h_132 => ?_)
    · have hF := ite_t h_132 hF
      refine Go.iincP (ls' := [(7, _), (8, _), (0, _), (1, _), (2, _), (3, _), (4, _), (5, _), (6, _)]) dX11_prompt_143 rfl (by decide) rfl ?_
      refine Go.goto (tgt := 82) dX11_prompt_146 (by decide) ?_
      refine Go.pick (ls' := [(0, _), (1, _), (2, _), (3, _), (4, _), (5, _), (6, _), (7, _)]) [2, 3, 4, 5, 6, 7, 8, 0] rfl ?_
      exact hk82 _ _ _ _ _ _ _ _ _ hF
    · have hF := ite_f h_132 hF
      refine Go.iload dX11_prompt_135 rfl ?_
      refine Go.istore (ls' := [(5, _), (8, _), (0, _), (1, _), (2, _), (3, _), (4, _), (6, _), (7, _)]) dX11_prompt_137 (by decide) rfl ?_
      refine Go.iload dX11_prompt_139 rfl ?_
      refine Go.istore (ls' := [(6, _), (5, _), (8, _), (0, _), (1, _), (2, _), (3, _), (4, _), (7, _)]) dX11_prompt_141 (by decide) rfl ?_
      refine Go.iincP (ls' := [(7, _), (6, _), (5, _), (8, _), (0, _), (1, _), (2, _), (3, _), (4, _)]) dX11_prompt_143 rfl (by decide) rfl ?_
      refine Go.goto (tgt := 82) dX11_prompt_146 (by decide) ?_
      refine Go.pick (ls' := [(0, _), (1, _), (2, _), (3, _), (4, _), (5, _), (6, _), (7, _)]) [4, 5, 6, 7, 8, 2, 1, 0] rfl ?_
      exact hk82 _ _ _ _ _ _ _ _ _ hF
def F_X11_prompt_82 : Nat → Int32 → Int32 → Int32 → Int32 → Int32 → Int32 → Int32 → St → Option (Int32 × St)
  | 0 => fun _ _ _ _ _ _ _ _ => none
  | n + 1 => fun x1 x2 x3 x4 x5 x6 x7 S =>
    if 9 < x7 then (if x2 = 0 then (some (x5, S)) else (some (x6, S))) else (gd (inb x1 6) (if (S.2.1 28 (Int32.toNatClampNeg x1)) ≤ x7 then (F_X11_prompt_120 (F_X11_prompt_82 n) x1 x2 x3 x4 x5 x6 x7 (((100 * x4) - x3) * x7) 0 S) else (F_X11_prompt_120 (F_X11_prompt_82 n) x1 x2 x3 x4 x5 x6 x7 (((100 * x4) - x3) * x7) (5 * x3) S)))
set_option maxHeartbeats 4000000 in
set_option maxRecDepth 100000 in
theorem ok_X11_prompt_82 {l : Launch} (d : Nat) : ∀ (n : Nat) (x1 : Int32) (x2 : Int32) (x3 : Int32) (x4 : Int32) (x5 : Int32) (x6 : Int32) (x7 : Int32) (S : St) (R : Int32 × St), F_X11_prompt_82 n x1 x2 x3 x4 x5 x6 x7 S = some R → Go l (d + 5) mX11_prompt (Res (some (.int R.1)) R.2) 82 [(0, .ref 0), (1, .int x1), (2, .int x2), (3, .int x3), (4, .int x4), (5, .int x5), (6, .int x6), (7, .int x7)] [] S := by
  intro n
  induction n with
  | zero => intro x1 x2 x3 x4 x5 x6 x7 S  R hF; cases hF
  | succ n hk82 =>
    intro x1 x2 x3 x4 x5 x6 x7 S  R hF
    have hF : (if 9 < x7 then (if x2 = 0 then (some (x5, S)) else (some (x6, S))) else (gd (inb x1 6) (if (S.2.1 28 (Int32.toNatClampNeg x1)) ≤ x7 then (F_X11_prompt_120 (F_X11_prompt_82 n) x1 x2 x3 x4 x5 x6 x7 (((100 * x4) - x3) * x7) 0 S) else (F_X11_prompt_120 (F_X11_prompt_82 n) x1 x2 x3 x4 x5 x6 x7 (((100 * x4) - x3) * x7) (5 * x3) S)))) = some R := hF
    refine Go.iload dX11_prompt_82 rfl ?_
    refine Go.bipush (v := 9) dX11_prompt_84 (by decide) ?_
    refine Go.icmpgt (tgt := 149) dX11_prompt_86 (by decide) (fun h_86 => ?_) (fun h_86 => ?_)
    · have hF := ite_t h_86 hF
      refine Go.iload_n dX11_prompt_149 rfl ?_
      refine Go.ifne (tgt := 158) dX11_prompt_150 (by decide) (fun h_150 => ?_) (fun h_150 => ?_)
      · have hF := ite_f h_150 hF
        refine Go.iload dX11_prompt_158 rfl ?_
        obtain rfl := Option.some.inj hF
        exact Go.iret (st := []) dX11_prompt_160 rfl rfl ⟨rfl, rfl⟩
      · have hF := ite_t h_150 hF
        refine Go.iload dX11_prompt_153 rfl ?_
        refine Go.goto (tgt := 160) dX11_prompt_155 (by decide) ?_
        obtain rfl := Option.some.inj hF
        exact Go.iret (st := []) dX11_prompt_160 rfl rfl ⟨rfl, rfl⟩
    · have hF := ite_f h_86 hF
      refine Go.bipush (v := 100) dX11_prompt_89 (by decide) ?_
      refine Go.iload dX11_prompt_91 rfl ?_
      refine Go.imul dX11_prompt_93 ?_
      refine Go.iload_n dX11_prompt_94 rfl ?_
      refine Go.isub dX11_prompt_95 ?_
      refine Go.iload dX11_prompt_96 rfl ?_
      refine Go.imul dX11_prompt_98 ?_
      refine Go.iload dX11_prompt_99 rfl ?_
      refine Go.aload_n dX11_prompt_101 rfl ?_
      refine Go.getR dX11_prompt_102 fX11_10 rfl ?_
      refine Go.getR dX11_prompt_105 fX11_153 rfl ?_
      refine Go.iload_n dX11_prompt_108 rfl ?_
      obtain ⟨hb_109, hF⟩ := gd_some hF
      refine Go.iald dX11_prompt_109 rfl (inb_ok hb_109) ?_
      refine Go.icmpge (tgt := 119) dX11_prompt_110 (by decide) (fun h_110 => ?_) (fun h_110 => ?_)
      · have hF := ite_t h_110 hF
        refine Go.iconst (v := 0) dX11_prompt_119 (by decide) ?_
        refine Go.pick (ls' := [(0, _), (1, _), (2, _), (3, _), (4, _), (5, _), (6, _), (7, _)]) [0, 1, 2, 3, 4, 5, 6, 7] rfl ?_
        exact ok_X11_prompt_120 d (F_X11_prompt_82 n) hk82 _ _ _ _ _ _ _ _ _ _ _ hF
      · have hF := ite_f h_110 hF
        refine Go.iconst (v := 5) dX11_prompt_113 (by decide) ?_
        refine Go.iload_n dX11_prompt_114 rfl ?_
        refine Go.imul dX11_prompt_115 ?_
        refine Go.goto (tgt := 120) dX11_prompt_116 (by decide) ?_
        refine Go.pick (ls' := [(0, _), (1, _), (2, _), (3, _), (4, _), (5, _), (6, _), (7, _)]) [0, 1, 2, 3, 4, 5, 6, 7] rfl ?_
        exact ok_X11_prompt_120 d (F_X11_prompt_82 n) hk82 _ _ _ _ _ _ _ _ _ _ _ hF
def F_X11_prompt_26 (N : Nat) : Nat → Int32 → Int32 → Int32 → Int32 → Int32 → St → Option (Int32 × St)
  | 0 => fun _ _ _ _ _ _ => none
  | n + 1 => fun x1 x2 x3 x4 x5 S =>
    if (S.1 1 0) ≤ x5 then (F_X11_prompt_82 N x1 x2 x3 x4 0 0 0 S) else (gd (inb x5 20) (if (S.2.1 21 (Int32.toNatClampNeg x5)) = x1 then ((F_X8_knows N x5 S).bind (fun r_59 => (F_X11_prompt_26 N n) x1 x2 (x3 + r_59.1) (x4 + 1) (x5 + 1) r_59.2)) else ((F_X11_prompt_26 N n) x1 x2 x3 x4 (x5 + 1) S)))
set_option maxHeartbeats 4000000 in
set_option maxRecDepth 100000 in
theorem ok_X11_prompt_26 {l : Launch} (d : Nat) (N : Nat) : ∀ (n : Nat) (x1 : Int32) (x2 : Int32) (x3 : Int32) (x4 : Int32) (x5 : Int32) (S : St) (R : Int32 × St), F_X11_prompt_26 N n x1 x2 x3 x4 x5 S = some R → Go l (d + 5) mX11_prompt (Res (some (.int R.1)) R.2) 26 [(0, .ref 0), (1, .int x1), (2, .int x2), (3, .int x3), (4, .int x4), (5, .int x5)] [] S := by
  intro n
  induction n with
  | zero => intro x1 x2 x3 x4 x5 S  R hF; cases hF
  | succ n hk26 =>
    intro x1 x2 x3 x4 x5 S  R hF
    have hF : (if (S.1 1 0) ≤ x5 then (F_X11_prompt_82 N x1 x2 x3 x4 0 0 0 S) else (gd (inb x5 20) (if (S.2.1 21 (Int32.toNatClampNeg x5)) = x1 then ((F_X8_knows N x5 S).bind (fun r_59 => (F_X11_prompt_26 N n) x1 x2 (x3 + r_59.1) (x4 + 1) (x5 + 1) r_59.2)) else ((F_X11_prompt_26 N n) x1 x2 x3 x4 (x5 + 1) S)))) = some R := hF
    refine Go.iload dX11_prompt_26 rfl ?_
    refine Go.aload_n dX11_prompt_28 rfl ?_
    refine Go.getR dX11_prompt_29 fX11_10 rfl ?_
    refine Go.getI dX11_prompt_32 fX11_179 rfl ?_
    refine Go.icmpge (tgt := 73) dX11_prompt_35 (by decide) (fun h_35 => ?_) (fun h_35 => ?_)
    · have hF := ite_t h_35 hF
      refine Go.iconst (v := 0) dX11_prompt_73 (by decide) ?_
      refine Go.istore (ls' := [(5, _), (0, _), (1, _), (2, _), (3, _), (4, _)]) dX11_prompt_74 (by decide) rfl ?_
      refine Go.iconst (v := 0) dX11_prompt_76 (by decide) ?_
      refine Go.istore (ls' := [(6, _), (5, _), (0, _), (1, _), (2, _), (3, _), (4, _)]) dX11_prompt_77 (by decide) rfl ?_
      refine Go.iconst (v := 0) dX11_prompt_79 (by decide) ?_
      refine Go.istore (ls' := [(7, _), (6, _), (5, _), (0, _), (1, _), (2, _), (3, _), (4, _)]) dX11_prompt_80 (by decide) rfl ?_
      refine Go.pick (ls' := [(0, _), (1, _), (2, _), (3, _), (4, _), (5, _), (6, _), (7, _)]) [3, 4, 5, 6, 7, 2, 1, 0] rfl ?_
      exact ok_X11_prompt_82 d N _ _ _ _ _ _ _ _ _ hF
    · have hF := ite_f h_35 hF
      refine Go.aload_n dX11_prompt_38 rfl ?_
      refine Go.getR dX11_prompt_39 fX11_10 rfl ?_
      refine Go.getR dX11_prompt_42 fX11_237 rfl ?_
      refine Go.iload dX11_prompt_45 rfl ?_
      obtain ⟨hb_47, hF⟩ := gd_some hF
      refine Go.iald dX11_prompt_47 rfl (inb_ok hb_47) ?_
      refine Go.iload_n dX11_prompt_48 rfl ?_
      refine Go.icmpne (tgt := 67) dX11_prompt_49 (by decide) (fun h_49 => ?_) (fun h_49 => ?_)
      · have hF := ite_f h_49 hF
        refine Go.iincP (ls' := [(5, _), (0, _), (1, _), (2, _), (3, _), (4, _)]) dX11_prompt_67 rfl (by decide) rfl ?_
        refine Go.goto (tgt := 26) dX11_prompt_70 (by decide) ?_
        refine Go.pick (ls' := [(0, _), (1, _), (2, _), (3, _), (4, _), (5, _)]) [1, 2, 3, 4, 5, 0] rfl ?_
        exact hk26 _ _ _ _ _ _ _ hF
      · have hF := ite_t h_49 hF
        refine Go.iload_n dX11_prompt_52 rfl ?_
        refine Go.aload_n dX11_prompt_53 rfl ?_
        refine Go.getR dX11_prompt_54 fX11_10 rfl ?_
        refine Go.iload dX11_prompt_57 rfl ?_
        obtain ⟨r_59, hc_59, hF⟩ := Option.bind_eq_some_iff.mp hF
        refine Go.callV [_] dX11_prompt_59 kX8_knows vX8_knows lX11_240 rfl rfl rfl rfl rfl (Nat.le_of_ble_eq_true rfl) (Nat.le_of_ble_eq_true rfl) (ok_X8_knows (d + 0) N _ _ _ hc_59) ?_
        refine Go.iadd dX11_prompt_62 ?_
        refine Go.istore_n (ls' := [(3, _), (0, _), (1, _), (2, _), (4, _), (5, _)]) dX11_prompt_63 (by decide) rfl ?_
        refine Go.iincP (ls' := [(4, _), (3, _), (0, _), (1, _), (2, _), (5, _)]) dX11_prompt_64 rfl (by decide) rfl ?_
        refine Go.iincP (ls' := [(5, _), (4, _), (3, _), (0, _), (1, _), (2, _)]) dX11_prompt_67 rfl (by decide) rfl ?_
        refine Go.goto (tgt := 26) dX11_prompt_70 (by decide) ?_
        refine Go.pick (ls' := [(0, _), (1, _), (2, _), (3, _), (4, _), (5, _)]) [3, 4, 5, 2, 1, 0] rfl ?_
        exact hk26 _ _ _ _ _ _ _ hF
def F_X11_prompt (N : Nat) (x1 : Int32) (x2 : Int32) (S : St) : Option (Int32 × St) :=
  (F_X11_isPart x1 S).bind (fun r_1 => if r_1.1 = 0 then (some ((-1), r_1.2)) else (if x2 < 0 then (some ((-1), r_1.2)) else (if x2 ≤ 1 then (F_X11_prompt_26 N N x1 x2 0 0 0 r_1.2) else (some ((-1), r_1.2)))))
set_option maxHeartbeats 4000000 in
set_option maxRecDepth 100000 in
theorem ok_X11_prompt {l : Launch} (d : Nat) (N : Nat) (x1 : Int32) (x2 : Int32) (S : St) (R : Int32 × St) (hF : F_X11_prompt N x1 x2 S = some R) : Go l (d + 5) mX11_prompt (Res (some (.int R.1)) R.2) 0 [(0, .ref 0), (1, .int x1), (2, .int x2)] [] S := by
  unfold F_X11_prompt at hF
  refine Go.iload_n dX11_prompt_0 rfl ?_
  obtain ⟨r_1, hc_1, hF⟩ := Option.bind_eq_some_iff.mp hF
  refine Go.callS [_] dX11_prompt_1 kX11_isPart sX11_isPart lX11_147 rfl rfl (Nat.le_of_ble_eq_true rfl) (Nat.le_of_ble_eq_true rfl) (ok_X11_isPart (d + 4) _ _ _ hc_1) ?_
  refine Go.ifeq (tgt := 16) dX11_prompt_4 (by decide) (fun h_4 => ?_) (fun h_4 => ?_)
  · have hF := ite_t h_4 hF
    refine Go.iconst (v := (-1)) dX11_prompt_16 (by decide) ?_
    obtain rfl := Option.some.inj hF
    exact Go.iret (st := []) dX11_prompt_17 rfl rfl ⟨rfl, rfl⟩
  · have hF := ite_f h_4 hF
    refine Go.iload_n dX11_prompt_7 rfl ?_
    refine Go.iflt (tgt := 16) dX11_prompt_8 (by decide) (fun h_8 => ?_) (fun h_8 => ?_)
    · have hF := ite_t h_8 hF
      refine Go.iconst (v := (-1)) dX11_prompt_16 (by decide) ?_
      obtain rfl := Option.some.inj hF
      exact Go.iret (st := []) dX11_prompt_17 rfl rfl ⟨rfl, rfl⟩
    · have hF := ite_f h_8 hF
      refine Go.iload_n dX11_prompt_11 rfl ?_
      refine Go.iconst (v := 1) dX11_prompt_12 (by decide) ?_
      refine Go.icmple (tgt := 18) dX11_prompt_13 (by decide) (fun h_13 => ?_) (fun h_13 => ?_)
      · have hF := ite_t h_13 hF
        refine Go.iconst (v := 0) dX11_prompt_18 (by decide) ?_
        refine Go.istore_n (ls' := [(3, _), (0, _), (1, _), (2, _)]) dX11_prompt_19 (by decide) rfl ?_
        refine Go.iconst (v := 0) dX11_prompt_20 (by decide) ?_
        refine Go.istore (ls' := [(4, _), (3, _), (0, _), (1, _), (2, _)]) dX11_prompt_21 (by decide) rfl ?_
        refine Go.iconst (v := 0) dX11_prompt_23 (by decide) ?_
        refine Go.istore (ls' := [(5, _), (4, _), (3, _), (0, _), (1, _), (2, _)]) dX11_prompt_24 (by decide) rfl ?_
        refine Go.pick (ls' := [(0, _), (1, _), (2, _), (3, _), (4, _), (5, _)]) [3, 4, 5, 2, 1, 0] rfl ?_
        exact ok_X11_prompt_26 d N N _ _ _ _ _ _ _ hF
      · have hF := ite_f h_13 hF
        refine Go.iconst (v := (-1)) dX11_prompt_16 (by decide) ?_
        obtain rfl := Option.some.inj hF
        exact Go.iret (st := []) dX11_prompt_17 rfl rfl ⟨rfl, rfl⟩
def F_X11_evenings_28 (N : Nat) (x1 : Int32) (x2 : Int32) (S : St) : Option (Int32 × St) :=
  if (S.1 1 0) = 0 then (some ((-5), S)) else ((F_X3_begin N S).bind (fun r_49 => (F_X3_spend N x1 r_49).bind (fun r_61 => if x2 = (-1) then (some (r_61.1 8 0, r_61)) else (gd (inb x2 20) (some (r_61.2.1 46 (Int32.toNatClampNeg x2), r_61))))))
set_option maxHeartbeats 4000000 in
set_option maxRecDepth 100000 in
theorem ok_X11_evenings_28 {l : Launch} (d : Nat) (N : Nat) (x1 : Int32) (x2 : Int32) (S : St) (R : Int32 × St) (hF : F_X11_evenings_28 N x1 x2 S = some R) : Go l (d + 7) mX11_evenings (Res (some (.int R.1)) R.2) 28 [(0, .ref 0), (1, .int x1), (2, .int x2)] [] S := by
  unfold F_X11_evenings_28 at hF
  refine Go.aload_n dX11_evenings_28 rfl ?_
  refine Go.getR dX11_evenings_29 fX11_10 rfl ?_
  refine Go.getI dX11_evenings_32 fX11_179 rfl ?_
  refine Go.ifne (tgt := 41) dX11_evenings_35 (by decide) (fun h_35 => ?_) (fun h_35 => ?_)
  · have hF := ite_f h_35 hF
    refine Go.aload_n dX11_evenings_41 rfl ?_
    refine Go.getR dX11_evenings_42 fX11_51 rfl ?_
    refine Go.aload_n dX11_evenings_45 rfl ?_
    refine Go.getR dX11_evenings_46 fX11_10 rfl ?_
    obtain ⟨r_49, hc_49, hF⟩ := Option.bind_eq_some_iff.mp hF
    refine Go.callV [_] dX11_evenings_49 kX3_begin vX3_begin lX11_243 rfl rfl rfl rfl rfl (Nat.le_of_ble_eq_true rfl) (Nat.le_of_ble_eq_true rfl) (ok_X3_begin (d + 0) N _ _ hc_49) ?_
    refine Go.aload_n dX11_evenings_52 rfl ?_
    refine Go.getR dX11_evenings_53 fX11_51 rfl ?_
    refine Go.aload_n dX11_evenings_56 rfl ?_
    refine Go.getR dX11_evenings_57 fX11_10 rfl ?_
    refine Go.iload_n dX11_evenings_60 rfl ?_
    obtain ⟨r_61, hc_61, hF⟩ := Option.bind_eq_some_iff.mp hF
    refine Go.callV [_, _] dX11_evenings_61 kX3_spend vX3_spend lX11_246 rfl rfl rfl rfl rfl (Nat.le_of_ble_eq_true rfl) (Nat.le_of_ble_eq_true rfl) (ok_X3_spend (d + 0) N _ _ _ hc_61) ?_
    refine Go.iload_n dX11_evenings_64 rfl ?_
    refine Go.iconst (v := (-1)) dX11_evenings_65 (by decide) ?_
    refine Go.icmpne (tgt := 79) dX11_evenings_66 (by decide) (fun h_66 => ?_) (fun h_66 => ?_)
    · have hF := ite_f h_66 hF
      refine Go.aload_n dX11_evenings_79 rfl ?_
      refine Go.getR dX11_evenings_80 fX11_51 rfl ?_
      refine Go.getR dX11_evenings_83 fX11_253 rfl ?_
      refine Go.iload_n dX11_evenings_86 rfl ?_
      obtain ⟨hb_87, hF⟩ := gd_some hF
      refine Go.iald dX11_evenings_87 rfl (inb_ok hb_87) ?_
      obtain rfl := Option.some.inj hF
      exact Go.iret (st := []) dX11_evenings_88 rfl rfl ⟨rfl, rfl⟩
    · have hF := ite_t h_66 hF
      refine Go.aload_n dX11_evenings_69 rfl ?_
      refine Go.getR dX11_evenings_70 fX11_51 rfl ?_
      refine Go.getI dX11_evenings_73 fX11_250 rfl ?_
      refine Go.goto (tgt := 88) dX11_evenings_76 (by decide) ?_
      obtain rfl := Option.some.inj hF
      exact Go.iret (st := []) dX11_evenings_88 rfl rfl ⟨rfl, rfl⟩
  · have hF := ite_t h_35 hF
    refine Go.bipush (v := (-5)) dX11_evenings_38 (by decide) ?_
    obtain rfl := Option.some.inj hF
    exact Go.iret (st := []) dX11_evenings_40 rfl rfl ⟨rfl, rfl⟩
def F_X11_evenings (N : Nat) (x1 : Int32) (x2 : Int32) (S : St) : Option (Int32 × St) :=
  if x1 < 0 then (some ((-1), S)) else (if 30 < x1 then (some ((-1), S)) else (if x2 = (-1) then (F_X11_evenings_28 N x1 x2 S) else ((F_X8_has x2 S).bind (fun r_20 => if r_20.1 = 0 then (some ((-1), r_20.2)) else (F_X11_evenings_28 N x1 x2 r_20.2)))))
set_option maxHeartbeats 4000000 in
set_option maxRecDepth 100000 in
theorem ok_X11_evenings {l : Launch} (d : Nat) (N : Nat) (x1 : Int32) (x2 : Int32) (S : St) (R : Int32 × St) (hF : F_X11_evenings N x1 x2 S = some R) : Go l (d + 7) mX11_evenings (Res (some (.int R.1)) R.2) 0 [(0, .ref 0), (1, .int x1), (2, .int x2)] [] S := by
  unfold F_X11_evenings at hF
  refine Go.iload_n dX11_evenings_0 rfl ?_
  refine Go.iflt (tgt := 26) dX11_evenings_1 (by decide) (fun h_1 => ?_) (fun h_1 => ?_)
  · have hF := ite_t h_1 hF
    refine Go.iconst (v := (-1)) dX11_evenings_26 (by decide) ?_
    obtain rfl := Option.some.inj hF
    exact Go.iret (st := []) dX11_evenings_27 rfl rfl ⟨rfl, rfl⟩
  · have hF := ite_f h_1 hF
    refine Go.iload_n dX11_evenings_4 rfl ?_
    refine Go.bipush (v := 30) dX11_evenings_5 (by decide) ?_
    refine Go.icmpgt (tgt := 26) dX11_evenings_7 (by decide) (fun h_7 => ?_) (fun h_7 => ?_)
    · have hF := ite_t h_7 hF
      refine Go.iconst (v := (-1)) dX11_evenings_26 (by decide) ?_
      obtain rfl := Option.some.inj hF
      exact Go.iret (st := []) dX11_evenings_27 rfl rfl ⟨rfl, rfl⟩
    · have hF := ite_f h_7 hF
      refine Go.iload_n dX11_evenings_10 rfl ?_
      refine Go.iconst (v := (-1)) dX11_evenings_11 (by decide) ?_
      refine Go.icmpeq (tgt := 28) dX11_evenings_12 (by decide) (fun h_12 => ?_) (fun h_12 => ?_)
      · have hF := ite_t h_12 hF
        refine Go.pick (ls' := [(0, _), (1, _), (2, _)]) [0, 1, 2] rfl ?_
        exact ok_X11_evenings_28 d N _ _ _ _ hF
      · have hF := ite_f h_12 hF
        refine Go.aload_n dX11_evenings_15 rfl ?_
        refine Go.getR dX11_evenings_16 fX11_10 rfl ?_
        refine Go.iload_n dX11_evenings_19 rfl ?_
        obtain ⟨r_20, hc_20, hF⟩ := Option.bind_eq_some_iff.mp hF
        refine Go.callV [_] dX11_evenings_20 kX8_has vX8_has lX11_144 rfl rfl rfl rfl rfl (Nat.le_of_ble_eq_true rfl) (Nat.le_of_ble_eq_true rfl) (ok_X8_has (d + 6) _ _ _ hc_20) ?_
        refine Go.ifne (tgt := 28) dX11_evenings_23 (by decide) (fun h_23 => ?_) (fun h_23 => ?_)
        · have hF := ite_f h_23 hF
          refine Go.pick (ls' := [(0, _), (1, _), (2, _)]) [0, 1, 2] rfl ?_
          exact ok_X11_evenings_28 d N _ _ _ _ hF
        · have hF := ite_t h_23 hF
          refine Go.iconst (v := (-1)) dX11_evenings_26 (by decide) ?_
          obtain rfl := Option.some.inj hF
          exact Go.iret (st := []) dX11_evenings_27 rfl rfl ⟨rfl, rfl⟩
def F_X11_cut (N : Nat) (x1 : Int32) (x2 : Int32) (S : St) : Option (Int32 × St) :=
  if x1 < 0 then (some ((-1), S)) else (if 3 < x1 then (some ((-1), S)) else (if x2 < 0 then (some ((-1), S)) else (if x2 ≤ 1 then ((F_X2_find N x1 S).bind (fun r_29 => if r_29.1 = 0 then (some ((-2), r_29.2)) else (if x2 = 0 then (some (r_29.2.1 9 0, r_29.2)) else (some (r_29.2.1 9 1, r_29.2))))) else (some ((-1), S)))))
set_option maxHeartbeats 4000000 in
set_option maxRecDepth 100000 in
theorem ok_X11_cut {l : Launch} (d : Nat) (N : Nat) (x1 : Int32) (x2 : Int32) (S : St) (R : Int32 × St) (hF : F_X11_cut N x1 x2 S = some R) : Go l (d + 3) mX11_cut (Res (some (.int R.1)) R.2) 0 [(0, .ref 0), (1, .int x1), (2, .int x2)] [] S := by
  unfold F_X11_cut at hF
  refine Go.iload_n dX11_cut_0 rfl ?_
  refine Go.iflt (tgt := 18) dX11_cut_1 (by decide) (fun h_1 => ?_) (fun h_1 => ?_)
  · have hF := ite_t h_1 hF
    refine Go.iconst (v := (-1)) dX11_cut_18 (by decide) ?_
    obtain rfl := Option.some.inj hF
    exact Go.iret (st := []) dX11_cut_19 rfl rfl ⟨rfl, rfl⟩
  · have hF := ite_f h_1 hF
    refine Go.iload_n dX11_cut_4 rfl ?_
    refine Go.iconst (v := 3) dX11_cut_5 (by decide) ?_
    refine Go.icmpgt (tgt := 18) dX11_cut_6 (by decide) (fun h_6 => ?_) (fun h_6 => ?_)
    · have hF := ite_t h_6 hF
      refine Go.iconst (v := (-1)) dX11_cut_18 (by decide) ?_
      obtain rfl := Option.some.inj hF
      exact Go.iret (st := []) dX11_cut_19 rfl rfl ⟨rfl, rfl⟩
    · have hF := ite_f h_6 hF
      refine Go.iload_n dX11_cut_9 rfl ?_
      refine Go.iflt (tgt := 18) dX11_cut_10 (by decide) (fun h_10 => ?_) (fun h_10 => ?_)
      · have hF := ite_t h_10 hF
        refine Go.iconst (v := (-1)) dX11_cut_18 (by decide) ?_
        obtain rfl := Option.some.inj hF
        exact Go.iret (st := []) dX11_cut_19 rfl rfl ⟨rfl, rfl⟩
      · have hF := ite_f h_10 hF
        refine Go.iload_n dX11_cut_13 rfl ?_
        refine Go.iconst (v := 1) dX11_cut_14 (by decide) ?_
        refine Go.icmple (tgt := 20) dX11_cut_15 (by decide) (fun h_15 => ?_) (fun h_15 => ?_)
        · have hF := ite_t h_15 hF
          refine Go.aload_n dX11_cut_20 rfl ?_
          refine Go.getR dX11_cut_21 fX11_58 rfl ?_
          refine Go.aload_n dX11_cut_24 rfl ?_
          refine Go.getR dX11_cut_25 fX11_10 rfl ?_
          refine Go.iload_n dX11_cut_28 rfl ?_
          obtain ⟨r_29, hc_29, hF⟩ := Option.bind_eq_some_iff.mp hF
          refine Go.callV [_, _] dX11_cut_29 kX2_find vX2_find lX11_256 rfl rfl rfl rfl rfl (Nat.le_of_ble_eq_true rfl) (Nat.le_of_ble_eq_true rfl) (ok_X2_find (d + 0) N _ _ _ hc_29) ?_
          refine Go.ifne (tgt := 38) dX11_cut_32 (by decide) (fun h_32 => ?_) (fun h_32 => ?_)
          · have hF := ite_f h_32 hF
            refine Go.iload_n dX11_cut_38 rfl ?_
            refine Go.ifne (tgt := 52) dX11_cut_39 (by decide) (fun h_39 => ?_) (fun h_39 => ?_)
            · have hF := ite_f h_39 hF
              refine Go.aload_n dX11_cut_52 rfl ?_
              refine Go.getR dX11_cut_53 fX11_58 rfl ?_
              refine Go.getI dX11_cut_56 fX11_263 rfl ?_
              obtain rfl := Option.some.inj hF
              exact Go.iret (st := []) dX11_cut_59 rfl rfl ⟨rfl, rfl⟩
            · have hF := ite_t h_39 hF
              refine Go.aload_n dX11_cut_42 rfl ?_
              refine Go.getR dX11_cut_43 fX11_58 rfl ?_
              refine Go.getI dX11_cut_46 fX11_260 rfl ?_
              refine Go.goto (tgt := 59) dX11_cut_49 (by decide) ?_
              obtain rfl := Option.some.inj hF
              exact Go.iret (st := []) dX11_cut_59 rfl rfl ⟨rfl, rfl⟩
          · have hF := ite_t h_32 hF
            refine Go.bipush (v := (-2)) dX11_cut_35 (by decide) ?_
            obtain rfl := Option.some.inj hF
            exact Go.iret (st := []) dX11_cut_37 rfl rfl ⟨rfl, rfl⟩
        · have hF := ite_f h_15 hF
          refine Go.iconst (v := (-1)) dX11_cut_18 (by decide) ?_
          obtain rfl := Option.some.inj hF
          exact Go.iret (st := []) dX11_cut_19 rfl rfl ⟨rfl, rfl⟩
def F_X11_dearestLine_8 (N : Nat) : Nat → Int32 → Int32 → Int32 → Int32 → Int32 → St → Option (Int32 × St)
  | 0 => fun _ _ _ _ _ _ => none
  | n + 1 => fun x1 x2 x3 x4 x5 S =>
    if (S.1 1 0) ≤ x5 then (some (x3, S)) else (gd (inb x5 20) (if (S.2.1 21 (Int32.toNatClampNeg x5)) = x1 then (if ((x2 >>> (x5 &&& 31)) &&& 1) = 0 then ((F_X8_risk N x5 S).bind (fun r_49 => if r_49.1 ≤ x4 then ((F_X11_dearestLine_8 N n) x1 x2 x3 x4 (x5 + 1) r_49.2) else ((F_X11_dearestLine_8 N n) x1 x2 x5 r_49.1 (x5 + 1) r_49.2))) else ((F_X11_dearestLine_8 N n) x1 x2 x3 x4 (x5 + 1) S)) else ((F_X11_dearestLine_8 N n) x1 x2 x3 x4 (x5 + 1) S)))
set_option maxHeartbeats 4000000 in
set_option maxRecDepth 100000 in
theorem ok_X11_dearestLine_8 {l : Launch} (d : Nat) (N : Nat) : ∀ (n : Nat) (x1 : Int32) (x2 : Int32) (x3 : Int32) (x4 : Int32) (x5 : Int32) (S : St) (R : Int32 × St), F_X11_dearestLine_8 N n x1 x2 x3 x4 x5 S = some R → Go l (d + 6) mX11_dearestLine (Res (some (.int R.1)) R.2) 8 [(0, .ref 0), (1, .int x1), (2, .int x2), (3, .int x3), (4, .int x4), (5, .int x5)] [] S := by
  intro n
  induction n with
  | zero => intro x1 x2 x3 x4 x5 S  R hF; cases hF
  | succ n hk8 =>
    intro x1 x2 x3 x4 x5 S  R hF
    have hF : (if (S.1 1 0) ≤ x5 then (some (x3, S)) else (gd (inb x5 20) (if (S.2.1 21 (Int32.toNatClampNeg x5)) = x1 then (if ((x2 >>> (x5 &&& 31)) &&& 1) = 0 then ((F_X8_risk N x5 S).bind (fun r_49 => if r_49.1 ≤ x4 then ((F_X11_dearestLine_8 N n) x1 x2 x3 x4 (x5 + 1) r_49.2) else ((F_X11_dearestLine_8 N n) x1 x2 x5 r_49.1 (x5 + 1) r_49.2))) else ((F_X11_dearestLine_8 N n) x1 x2 x3 x4 (x5 + 1) S)) else ((F_X11_dearestLine_8 N n) x1 x2 x3 x4 (x5 + 1) S)))) = some R := hF
    refine Go.iload dX11_dearestLine_8 rfl ?_
    refine Go.aload_n dX11_dearestLine_10 rfl ?_
    refine Go.getR dX11_dearestLine_11 fX11_10 rfl ?_
    refine Go.getI dX11_dearestLine_14 fX11_179 rfl ?_
    refine Go.icmpge (tgt := 74) dX11_dearestLine_17 (by decide) (fun h_17 => ?_) (fun h_17 => ?_)
    · have hF := ite_t h_17 hF
      refine Go.iload_n dX11_dearestLine_74 rfl ?_
      obtain rfl := Option.some.inj hF
      exact Go.iret (st := []) dX11_dearestLine_75 rfl rfl ⟨rfl, rfl⟩
    · have hF := ite_f h_17 hF
      refine Go.aload_n dX11_dearestLine_20 rfl ?_
      refine Go.getR dX11_dearestLine_21 fX11_10 rfl ?_
      refine Go.getR dX11_dearestLine_24 fX11_237 rfl ?_
      refine Go.iload dX11_dearestLine_27 rfl ?_
      obtain ⟨hb_29, hF⟩ := gd_some hF
      refine Go.iald dX11_dearestLine_29 rfl (inb_ok hb_29) ?_
      refine Go.iload_n dX11_dearestLine_30 rfl ?_
      refine Go.icmpne (tgt := 68) dX11_dearestLine_31 (by decide) (fun h_31 => ?_) (fun h_31 => ?_)
      · have hF := ite_f h_31 hF
        refine Go.iincP (ls' := [(5, _), (0, _), (1, _), (2, _), (3, _), (4, _)]) dX11_dearestLine_68 rfl (by decide) rfl ?_
        refine Go.goto (tgt := 8) dX11_dearestLine_71 (by decide) ?_
        refine Go.pick (ls' := [(0, _), (1, _), (2, _), (3, _), (4, _), (5, _)]) [1, 2, 3, 4, 5, 0] rfl ?_
        exact hk8 _ _ _ _ _ _ _ hF
      · have hF := ite_t h_31 hF
        refine Go.iload_n dX11_dearestLine_34 rfl ?_
        refine Go.iload dX11_dearestLine_35 rfl ?_
        refine Go.ishr dX11_dearestLine_37 ?_
        refine Go.iconst (v := 1) dX11_dearestLine_38 (by decide) ?_
        refine Go.iand dX11_dearestLine_39 ?_
        refine Go.ifne (tgt := 68) dX11_dearestLine_40 (by decide) (fun h_40 => ?_) (fun h_40 => ?_)
        · have hF := ite_f h_40 hF
          refine Go.iincP (ls' := [(5, _), (0, _), (1, _), (2, _), (3, _), (4, _)]) dX11_dearestLine_68 rfl (by decide) rfl ?_
          refine Go.goto (tgt := 8) dX11_dearestLine_71 (by decide) ?_
          refine Go.pick (ls' := [(0, _), (1, _), (2, _), (3, _), (4, _), (5, _)]) [1, 2, 3, 4, 5, 0] rfl ?_
          exact hk8 _ _ _ _ _ _ _ hF
        · have hF := ite_t h_40 hF
          refine Go.aload_n dX11_dearestLine_43 rfl ?_
          refine Go.getR dX11_dearestLine_44 fX11_10 rfl ?_
          refine Go.iload dX11_dearestLine_47 rfl ?_
          obtain ⟨r_49, hc_49, hF⟩ := Option.bind_eq_some_iff.mp hF
          refine Go.callV [_] dX11_dearestLine_49 kX8_risk vX8_risk lX11_269 rfl rfl rfl rfl rfl (Nat.le_of_ble_eq_true rfl) (Nat.le_of_ble_eq_true rfl) (ok_X8_risk (d + 0) N _ _ _ hc_49) ?_
          refine Go.istore (ls' := [(6, _), (0, _), (1, _), (2, _), (3, _), (4, _), (5, _)]) dX11_dearestLine_52 (by decide) rfl ?_
          refine Go.iload dX11_dearestLine_54 rfl ?_
          refine Go.iload dX11_dearestLine_56 rfl ?_
          refine Go.icmple (tgt := 68) dX11_dearestLine_58 (by decide) (fun h_58 => ?_) (fun h_58 => ?_)
          · have hF := ite_t h_58 hF
            refine Go.iincP (ls' := [(5, _), (6, _), (0, _), (1, _), (2, _), (3, _), (4, _)]) dX11_dearestLine_68 rfl (by decide) rfl ?_
            refine Go.goto (tgt := 8) dX11_dearestLine_71 (by decide) ?_
            refine Go.pick (ls' := [(0, _), (1, _), (2, _), (3, _), (4, _), (5, _)]) [2, 3, 4, 5, 6, 0] rfl ?_
            exact hk8 _ _ _ _ _ _ _ hF
          · have hF := ite_f h_58 hF
            refine Go.iload dX11_dearestLine_61 rfl ?_
            refine Go.istore (ls' := [(4, _), (6, _), (0, _), (1, _), (2, _), (3, _), (5, _)]) dX11_dearestLine_63 (by decide) rfl ?_
            refine Go.iload dX11_dearestLine_65 rfl ?_
            refine Go.istore_n (ls' := [(3, _), (4, _), (6, _), (0, _), (1, _), (2, _), (5, _)]) dX11_dearestLine_67 (by decide) rfl ?_
            refine Go.iincP (ls' := [(5, _), (3, _), (4, _), (6, _), (0, _), (1, _), (2, _)]) dX11_dearestLine_68 rfl (by decide) rfl ?_
            refine Go.goto (tgt := 8) dX11_dearestLine_71 (by decide) ?_
            refine Go.pick (ls' := [(0, _), (1, _), (2, _), (3, _), (4, _), (5, _)]) [4, 5, 6, 1, 2, 0] rfl ?_
            exact hk8 _ _ _ _ _ _ _ hF
def F_X11_dearestLine (N : Nat) (x1 : Int32) (x2 : Int32) (S : St) : Option (Int32 × St) :=
  F_X11_dearestLine_8 N N x1 x2 (-1) 0 0 S
set_option maxHeartbeats 4000000 in
set_option maxRecDepth 100000 in
theorem ok_X11_dearestLine {l : Launch} (d : Nat) (N : Nat) (x1 : Int32) (x2 : Int32) (S : St) (R : Int32 × St) (hF : F_X11_dearestLine N x1 x2 S = some R) : Go l (d + 6) mX11_dearestLine (Res (some (.int R.1)) R.2) 0 [(0, .ref 0), (1, .int x1), (2, .int x2)] [] S := by
  unfold F_X11_dearestLine at hF
  refine Go.iconst (v := (-1)) dX11_dearestLine_0 (by decide) ?_
  refine Go.istore_n (ls' := [(3, _), (0, _), (1, _), (2, _)]) dX11_dearestLine_1 (by decide) rfl ?_
  refine Go.iconst (v := 0) dX11_dearestLine_2 (by decide) ?_
  refine Go.istore (ls' := [(4, _), (3, _), (0, _), (1, _), (2, _)]) dX11_dearestLine_3 (by decide) rfl ?_
  refine Go.iconst (v := 0) dX11_dearestLine_5 (by decide) ?_
  refine Go.istore (ls' := [(5, _), (4, _), (3, _), (0, _), (1, _), (2, _)]) dX11_dearestLine_6 (by decide) rfl ?_
  refine Go.pick (ls' := [(0, _), (1, _), (2, _), (3, _), (4, _), (5, _)]) [3, 4, 5, 2, 1, 0] rfl ?_
  exact ok_X11_dearestLine_8 d N N _ _ _ _ _ _ _ hF
def F_X11_newspaper_41 (N : Nat) : Nat → Int32 → Int32 → Int32 → Int32 → Int32 → St → Option (Int32 × St)
  | 0 => fun _ _ _ _ _ _ => none
  | n + 1 => fun x1 x2 x3 x4 x5 S =>
    if (x1 - (x1 / 10) * 10) ≤ x5 then (if x2 = 0 then (some (x3, S)) else (some (x4, S))) else ((F_X11_dearestLine N (x1 / 10) x3 S).bind (fun r_56 => if r_56.1 = (-1) then ((F_X11_newspaper_41 N n) x1 x2 x3 x4 (x5 + 1) r_56.2) else ((F_X8_risk N r_56.1 r_56.2).bind (fun r_82 => (F_X11_newspaper_41 N n) x1 x2 (x3 ||| (1 <<< (r_56.1 &&& 31))) (x4 + r_82.1) (x5 + 1) r_82.2))))
set_option maxHeartbeats 4000000 in
set_option maxRecDepth 100000 in
theorem ok_X11_newspaper_41 {l : Launch} (d : Nat) (N : Nat) : ∀ (n : Nat) (x1 : Int32) (x2 : Int32) (x3 : Int32) (x4 : Int32) (x5 : Int32) (S : St) (R : Int32 × St), F_X11_newspaper_41 N n x1 x2 x3 x4 x5 S = some R → Go l (d + 7) mX11_newspaper (Res (some (.int R.1)) R.2) 41 [(0, .ref 0), (1, .int x1), (2, .int x2), (3, .int x3), (4, .int x4), (5, .int x5)] [] S := by
  intro n
  induction n with
  | zero => intro x1 x2 x3 x4 x5 S  R hF; cases hF
  | succ n hk41 =>
    intro x1 x2 x3 x4 x5 S  R hF
    have hF : (if (x1 - (x1 / 10) * 10) ≤ x5 then (if x2 = 0 then (some (x3, S)) else (some (x4, S))) else ((F_X11_dearestLine N (x1 / 10) x3 S).bind (fun r_56 => if r_56.1 = (-1) then ((F_X11_newspaper_41 N n) x1 x2 x3 x4 (x5 + 1) r_56.2) else ((F_X8_risk N r_56.1 r_56.2).bind (fun r_82 => (F_X11_newspaper_41 N n) x1 x2 (x3 ||| (1 <<< (r_56.1 &&& 31))) (x4 + r_82.1) (x5 + 1) r_82.2))))) = some R := hF
    refine Go.iload dX11_newspaper_41 rfl ?_
    refine Go.iload_n dX11_newspaper_43 rfl ?_
    refine Go.bipush (v := 10) dX11_newspaper_44 (by decide) ?_
    refine Go.irem dX11_newspaper_46 (by decide) ?_
    refine Go.icmpge (tgt := 94) dX11_newspaper_47 (by decide) (fun h_47 => ?_) (fun h_47 => ?_)
    · have hF := ite_t h_47 hF
      refine Go.iload_n dX11_newspaper_94 rfl ?_
      refine Go.ifne (tgt := 102) dX11_newspaper_95 (by decide) (fun h_95 => ?_) (fun h_95 => ?_)
      · have hF := ite_f h_95 hF
        refine Go.iload dX11_newspaper_102 rfl ?_
        obtain rfl := Option.some.inj hF
        exact Go.iret (st := []) dX11_newspaper_104 rfl rfl ⟨rfl, rfl⟩
      · have hF := ite_t h_95 hF
        refine Go.iload_n dX11_newspaper_98 rfl ?_
        refine Go.goto (tgt := 104) dX11_newspaper_99 (by decide) ?_
        obtain rfl := Option.some.inj hF
        exact Go.iret (st := []) dX11_newspaper_104 rfl rfl ⟨rfl, rfl⟩
    · have hF := ite_f h_47 hF
      refine Go.aload_n dX11_newspaper_50 rfl ?_
      refine Go.iload_n dX11_newspaper_51 rfl ?_
      refine Go.bipush (v := 10) dX11_newspaper_52 (by decide) ?_
      refine Go.idiv dX11_newspaper_54 (by decide) ?_
      refine Go.iload_n dX11_newspaper_55 rfl ?_
      obtain ⟨r_56, hc_56, hF⟩ := Option.bind_eq_some_iff.mp hF
      refine Go.callV [_, _] dX11_newspaper_56 kX11_dearestLine vX11_dearestLine lX11_266 rfl rfl rfl rfl rfl (Nat.le_of_ble_eq_true rfl) (Nat.le_of_ble_eq_true rfl) (ok_X11_dearestLine (d + 0) N _ _ _ _ hc_56) ?_
      refine Go.istore (ls' := [(6, _), (0, _), (1, _), (2, _), (3, _), (4, _), (5, _)]) dX11_newspaper_59 (by decide) rfl ?_
      refine Go.iload dX11_newspaper_61 rfl ?_
      refine Go.iconst (v := (-1)) dX11_newspaper_63 (by decide) ?_
      refine Go.icmpeq (tgt := 88) dX11_newspaper_64 (by decide) (fun h_64 => ?_) (fun h_64 => ?_)
      · have hF := ite_t h_64 hF
        refine Go.iincP (ls' := [(5, _), (6, _), (0, _), (1, _), (2, _), (3, _), (4, _)]) dX11_newspaper_88 rfl (by decide) rfl ?_
        refine Go.goto (tgt := 41) dX11_newspaper_91 (by decide) ?_
        refine Go.pick (ls' := [(0, _), (1, _), (2, _), (3, _), (4, _), (5, _)]) [2, 3, 4, 5, 6, 0] rfl ?_
        exact hk41 _ _ _ _ _ _ _ hF
      · have hF := ite_f h_64 hF
        refine Go.iload_n dX11_newspaper_67 rfl ?_
        refine Go.iconst (v := 1) dX11_newspaper_68 (by decide) ?_
        refine Go.iload dX11_newspaper_69 rfl ?_
        refine Go.ishl dX11_newspaper_71 ?_
        refine Go.ior dX11_newspaper_72 ?_
        refine Go.istore_n (ls' := [(3, _), (6, _), (0, _), (1, _), (2, _), (4, _), (5, _)]) dX11_newspaper_73 (by decide) rfl ?_
        refine Go.iload dX11_newspaper_74 rfl ?_
        refine Go.aload_n dX11_newspaper_76 rfl ?_
        refine Go.getR dX11_newspaper_77 fX11_10 rfl ?_
        refine Go.iload dX11_newspaper_80 rfl ?_
        obtain ⟨r_82, hc_82, hF⟩ := Option.bind_eq_some_iff.mp hF
        refine Go.callV [_] dX11_newspaper_82 kX8_risk vX8_risk lX11_269 rfl rfl rfl rfl rfl (Nat.le_of_ble_eq_true rfl) (Nat.le_of_ble_eq_true rfl) (ok_X8_risk (d + 1) N _ _ _ hc_82) ?_
        refine Go.iadd dX11_newspaper_85 ?_
        refine Go.istore (ls' := [(4, _), (3, _), (6, _), (0, _), (1, _), (2, _), (5, _)]) dX11_newspaper_86 (by decide) rfl ?_
        refine Go.iincP (ls' := [(5, _), (4, _), (3, _), (6, _), (0, _), (1, _), (2, _)]) dX11_newspaper_88 rfl (by decide) rfl ?_
        refine Go.goto (tgt := 41) dX11_newspaper_91 (by decide) ?_
        refine Go.pick (ls' := [(0, _), (1, _), (2, _), (3, _), (4, _), (5, _)]) [4, 5, 6, 2, 1, 0] rfl ?_
        exact hk41 _ _ _ _ _ _ _ hF
def F_X11_newspaper (N : Nat) (x1 : Int32) (x2 : Int32) (S : St) : Option (Int32 × St) :=
  if x1 < 0 then (some ((-1), S)) else ((F_X11_isPart (x1 / 10) S).bind (fun r_8 => if r_8.1 = 0 then (some ((-1), r_8.2)) else (if 5 < (x1 - (x1 / 10) * 10) then (some ((-1), r_8.2)) else (if x2 < 0 then (some ((-1), r_8.2)) else (if x2 ≤ 1 then (F_X11_newspaper_41 N N x1 x2 0 0 0 r_8.2) else (some ((-1), r_8.2)))))))
set_option maxHeartbeats 4000000 in
set_option maxRecDepth 100000 in
theorem ok_X11_newspaper {l : Launch} (d : Nat) (N : Nat) (x1 : Int32) (x2 : Int32) (S : St) (R : Int32 × St) (hF : F_X11_newspaper N x1 x2 S = some R) : Go l (d + 7) mX11_newspaper (Res (some (.int R.1)) R.2) 0 [(0, .ref 0), (1, .int x1), (2, .int x2)] [] S := by
  unfold F_X11_newspaper at hF
  refine Go.iload_n dX11_newspaper_0 rfl ?_
  refine Go.iflt (tgt := 31) dX11_newspaper_1 (by decide) (fun h_1 => ?_) (fun h_1 => ?_)
  · have hF := ite_t h_1 hF
    refine Go.iconst (v := (-1)) dX11_newspaper_31 (by decide) ?_
    obtain rfl := Option.some.inj hF
    exact Go.iret (st := []) dX11_newspaper_32 rfl rfl ⟨rfl, rfl⟩
  · have hF := ite_f h_1 hF
    refine Go.iload_n dX11_newspaper_4 rfl ?_
    refine Go.bipush (v := 10) dX11_newspaper_5 (by decide) ?_
    refine Go.idiv dX11_newspaper_7 (by decide) ?_
    obtain ⟨r_8, hc_8, hF⟩ := Option.bind_eq_some_iff.mp hF
    refine Go.callS [_] dX11_newspaper_8 kX11_isPart sX11_isPart lX11_147 rfl rfl (Nat.le_of_ble_eq_true rfl) (Nat.le_of_ble_eq_true rfl) (ok_X11_isPart (d + 6) _ _ _ hc_8) ?_
    refine Go.ifeq (tgt := 31) dX11_newspaper_11 (by decide) (fun h_11 => ?_) (fun h_11 => ?_)
    · have hF := ite_t h_11 hF
      refine Go.iconst (v := (-1)) dX11_newspaper_31 (by decide) ?_
      obtain rfl := Option.some.inj hF
      exact Go.iret (st := []) dX11_newspaper_32 rfl rfl ⟨rfl, rfl⟩
    · have hF := ite_f h_11 hF
      refine Go.iload_n dX11_newspaper_14 rfl ?_
      refine Go.bipush (v := 10) dX11_newspaper_15 (by decide) ?_
      refine Go.irem dX11_newspaper_17 (by decide) ?_
      refine Go.iconst (v := 5) dX11_newspaper_18 (by decide) ?_
      refine Go.icmpgt (tgt := 31) dX11_newspaper_19 (by decide) (fun h_19 => ?_) (fun h_19 => ?_)
      · have hF := ite_t h_19 hF
        refine Go.iconst (v := (-1)) dX11_newspaper_31 (by decide) ?_
        obtain rfl := Option.some.inj hF
        exact Go.iret (st := []) dX11_newspaper_32 rfl rfl ⟨rfl, rfl⟩
      · have hF := ite_f h_19 hF
        refine Go.iload_n dX11_newspaper_22 rfl ?_
        refine Go.iflt (tgt := 31) dX11_newspaper_23 (by decide) (fun h_23 => ?_) (fun h_23 => ?_)
        · have hF := ite_t h_23 hF
          refine Go.iconst (v := (-1)) dX11_newspaper_31 (by decide) ?_
          obtain rfl := Option.some.inj hF
          exact Go.iret (st := []) dX11_newspaper_32 rfl rfl ⟨rfl, rfl⟩
        · have hF := ite_f h_23 hF
          refine Go.iload_n dX11_newspaper_26 rfl ?_
          refine Go.iconst (v := 1) dX11_newspaper_27 (by decide) ?_
          refine Go.icmple (tgt := 33) dX11_newspaper_28 (by decide) (fun h_28 => ?_) (fun h_28 => ?_)
          · have hF := ite_t h_28 hF
            refine Go.iconst (v := 0) dX11_newspaper_33 (by decide) ?_
            refine Go.istore_n (ls' := [(3, _), (0, _), (1, _), (2, _)]) dX11_newspaper_34 (by decide) rfl ?_
            refine Go.iconst (v := 0) dX11_newspaper_35 (by decide) ?_
            refine Go.istore (ls' := [(4, _), (3, _), (0, _), (1, _), (2, _)]) dX11_newspaper_36 (by decide) rfl ?_
            refine Go.iconst (v := 0) dX11_newspaper_38 (by decide) ?_
            refine Go.istore (ls' := [(5, _), (4, _), (3, _), (0, _), (1, _), (2, _)]) dX11_newspaper_39 (by decide) rfl ?_
            refine Go.pick (ls' := [(0, _), (1, _), (2, _), (3, _), (4, _), (5, _)]) [3, 4, 5, 2, 1, 0] rfl ?_
            exact ok_X11_newspaper_41 d N N _ _ _ _ _ _ _ hF
          · have hF := ite_f h_28 hF
            refine Go.iconst (v := (-1)) dX11_newspaper_31 (by decide) ?_
            obtain rfl := Option.some.inj hF
            exact Go.iret (st := []) dX11_newspaper_32 rfl rfl ⟨rfl, rfl⟩
def F_X11_image (S : St) : Option (Int32 × St) :=
  (F_X4_take S).bind (fun r_8 => some (r_8.1 1 0, r_8))
set_option maxHeartbeats 4000000 in
set_option maxRecDepth 100000 in
theorem ok_X11_image {l : Launch} (d : Nat) (S : St) (R : Int32 × St) (hF : F_X11_image S = some R) : Go l (d + 2) mX11_image (Res (some (.int R.1)) R.2) 0 [(0, .ref 0)] [] S := by
  unfold F_X11_image at hF
  refine Go.aload_n dX11_image_0 rfl ?_
  refine Go.getR dX11_image_1 fX11_65 rfl ?_
  refine Go.aload_n dX11_image_4 rfl ?_
  refine Go.getR dX11_image_5 fX11_10 rfl ?_
  obtain ⟨r_8, hc_8, hF⟩ := Option.bind_eq_some_iff.mp hF
  refine Go.callV [_] dX11_image_8 kX4_take vX4_take lX11_272 rfl rfl rfl rfl rfl (Nat.le_of_ble_eq_true rfl) (Nat.le_of_ble_eq_true rfl) (ok_X4_take (d + 0) _ _ hc_8) ?_
  refine Go.aload_n dX11_image_11 rfl ?_
  refine Go.getR dX11_image_12 fX11_10 rfl ?_
  refine Go.getI dX11_image_15 fX11_179 rfl ?_
  obtain rfl := Option.some.inj hF
  exact Go.iret (st := []) dX11_image_18 rfl rfl ⟨rfl, rfl⟩
def F_X11_back (S : St) : Option (Int32 × St) :=
  if (S.1 10 0) = (-1) then (some ((-5), S)) else ((F_X4_giveBack S).bind (fun r_22 => (F_X1_forget r_22).bind (fun r_29 => some (r_29.1 10 0, r_29))))
set_option maxHeartbeats 4000000 in
set_option maxRecDepth 100000 in
theorem ok_X11_back {l : Launch} (d : Nat) (S : St) (R : Int32 × St) (hF : F_X11_back S = some R) : Go l (d + 2) mX11_back (Res (some (.int R.1)) R.2) 0 [(0, .ref 0)] [] S := by
  unfold F_X11_back at hF
  refine Go.aload_n dX11_back_0 rfl ?_
  refine Go.getR dX11_back_1 fX11_65 rfl ?_
  refine Go.getI dX11_back_4 fX11_275 rfl ?_
  refine Go.iconst (v := (-1)) dX11_back_7 (by decide) ?_
  refine Go.icmpne (tgt := 14) dX11_back_8 (by decide) (fun h_8 => ?_) (fun h_8 => ?_)
  · have hF := ite_f h_8 hF
    refine Go.aload_n dX11_back_14 rfl ?_
    refine Go.getR dX11_back_15 fX11_65 rfl ?_
    refine Go.aload_n dX11_back_18 rfl ?_
    refine Go.getR dX11_back_19 fX11_10 rfl ?_
    obtain ⟨r_22, hc_22, hF⟩ := Option.bind_eq_some_iff.mp hF
    refine Go.callV [_] dX11_back_22 kX4_giveBack vX4_giveBack lX11_276 rfl rfl rfl rfl rfl (Nat.le_of_ble_eq_true rfl) (Nat.le_of_ble_eq_true rfl) (ok_X4_giveBack (d + 0) _ _ hc_22) ?_
    refine Go.aload_n dX11_back_25 rfl ?_
    refine Go.getR dX11_back_26 fX11_72 rfl ?_
    obtain ⟨r_29, hc_29, hF⟩ := Option.bind_eq_some_iff.mp hF
    refine Go.callV [] dX11_back_29 kX1_forget vX1_forget lX11_279 rfl rfl rfl rfl rfl (Nat.le_of_ble_eq_true rfl) (Nat.le_of_ble_eq_true rfl) (ok_X1_forget (d + 1) _ _ hc_29) ?_
    refine Go.aload_n dX11_back_32 rfl ?_
    refine Go.getR dX11_back_33 fX11_65 rfl ?_
    refine Go.getI dX11_back_36 fX11_275 rfl ?_
    obtain rfl := Option.some.inj hF
    exact Go.iret (st := []) dX11_back_39 rfl rfl ⟨rfl, rfl⟩
  · have hF := ite_t h_8 hF
    refine Go.bipush (v := (-5)) dX11_back_11 (by decide) ?_
    obtain rfl := Option.some.inj hF
    exact Go.iret (st := []) dX11_back_13 rfl rfl ⟨rfl, rfl⟩
def F_X11_undo (S : St) : Option (Int32 × St) :=
  (F_X1_stepBack S).bind (fun r_8 => if r_8.1 = 0 then (some ((-5), r_8.2)) else (some (r_8.2.1 11 0, r_8.2)))
set_option maxHeartbeats 4000000 in
set_option maxRecDepth 100000 in
theorem ok_X11_undo {l : Launch} (d : Nat) (S : St) (R : Int32 × St) (hF : F_X11_undo S = some R) : Go l (d + 3) mX11_undo (Res (some (.int R.1)) R.2) 0 [(0, .ref 0)] [] S := by
  unfold F_X11_undo at hF
  refine Go.aload_n dX11_undo_0 rfl ?_
  refine Go.getR dX11_undo_1 fX11_72 rfl ?_
  refine Go.aload_n dX11_undo_4 rfl ?_
  refine Go.getR dX11_undo_5 fX11_10 rfl ?_
  obtain ⟨r_8, hc_8, hF⟩ := Option.bind_eq_some_iff.mp hF
  refine Go.callV [_] dX11_undo_8 kX1_stepBack vX1_stepBack lX11_282 rfl rfl rfl rfl rfl (Nat.le_of_ble_eq_true rfl) (Nat.le_of_ble_eq_true rfl) (ok_X1_stepBack (d + 0) _ _ hc_8) ?_
  refine Go.ifeq (tgt := 24) dX11_undo_11 (by decide) (fun h_11 => ?_) (fun h_11 => ?_)
  · have hF := ite_t h_11 hF
    refine Go.bipush (v := (-5)) dX11_undo_24 (by decide) ?_
    obtain rfl := Option.some.inj hF
    exact Go.iret (st := []) dX11_undo_26 rfl rfl ⟨rfl, rfl⟩
  · have hF := ite_f h_11 hF
    refine Go.aload_n dX11_undo_14 rfl ?_
    refine Go.getR dX11_undo_15 fX11_72 rfl ?_
    refine Go.getI dX11_undo_18 fX11_286 rfl ?_
    refine Go.goto (tgt := 26) dX11_undo_21 (by decide) ?_
    obtain rfl := Option.some.inj hF
    exact Go.iret (st := []) dX11_undo_26 rfl rfl ⟨rfl, rfl⟩
def F_X11_redo (S : St) : Option (Int32 × St) :=
  (F_X1_stepOn S).bind (fun r_8 => if r_8.1 = 0 then (some ((-5), r_8.2)) else (some ((r_8.2.1 11 1) - (r_8.2.1 11 0), r_8.2)))
set_option maxHeartbeats 4000000 in
set_option maxRecDepth 100000 in
theorem ok_X11_redo {l : Launch} (d : Nat) (S : St) (R : Int32 × St) (hF : F_X11_redo S = some R) : Go l (d + 3) mX11_redo (Res (some (.int R.1)) R.2) 0 [(0, .ref 0)] [] S := by
  unfold F_X11_redo at hF
  refine Go.aload_n dX11_redo_0 rfl ?_
  refine Go.getR dX11_redo_1 fX11_72 rfl ?_
  refine Go.aload_n dX11_redo_4 rfl ?_
  refine Go.getR dX11_redo_5 fX11_10 rfl ?_
  obtain ⟨r_8, hc_8, hF⟩ := Option.bind_eq_some_iff.mp hF
  refine Go.callV [_] dX11_redo_8 kX1_stepOn vX1_stepOn lX11_289 rfl rfl rfl rfl rfl (Nat.le_of_ble_eq_true rfl) (Nat.le_of_ble_eq_true rfl) (ok_X1_stepOn (d + 0) _ _ hc_8) ?_
  refine Go.ifeq (tgt := 32) dX11_redo_11 (by decide) (fun h_11 => ?_) (fun h_11 => ?_)
  · have hF := ite_t h_11 hF
    refine Go.bipush (v := (-5)) dX11_redo_32 (by decide) ?_
    obtain rfl := Option.some.inj hF
    exact Go.iret (st := []) dX11_redo_34 rfl rfl ⟨rfl, rfl⟩
  · have hF := ite_f h_11 hF
    refine Go.aload_n dX11_redo_14 rfl ?_
    refine Go.getR dX11_redo_15 fX11_72 rfl ?_
    refine Go.getI dX11_redo_18 fX11_292 rfl ?_
    refine Go.aload_n dX11_redo_21 rfl ?_
    refine Go.getR dX11_redo_22 fX11_72 rfl ?_
    refine Go.getI dX11_redo_25 fX11_286 rfl ?_
    refine Go.isub dX11_redo_28 ?_
    refine Go.goto (tgt := 34) dX11_redo_29 (by decide) ?_
    obtain rfl := Option.some.inj hF
    exact Go.iret (st := []) dX11_redo_34 rfl rfl ⟨rfl, rfl⟩
def F_X11_isNoKind (x0 : Int32) (S : St) : Option (Int32 × St) :=
  if x0 < 0 then (some (1, S)) else (if x0 < 8 then (some (0, S)) else (some (1, S)))
set_option maxHeartbeats 4000000 in
set_option maxRecDepth 100000 in
theorem ok_X11_isNoKind {l : Launch} (d : Nat) (x0 : Int32) (S : St) (R : Int32 × St) (hF : F_X11_isNoKind x0 S = some R) : Go l (d + 0) mX11_isNoKind (Res (some (.int R.1)) R.2) 0 [(0, .int x0)] [] S := by
  unfold F_X11_isNoKind at hF
  refine Go.iload_n dX11_isNoKind_0 rfl ?_
  refine Go.iflt (tgt := 10) dX11_isNoKind_1 (by decide) (fun h_1 => ?_) (fun h_1 => ?_)
  · have hF := ite_t h_1 hF
    refine Go.iconst (v := 1) dX11_isNoKind_10 (by decide) ?_
    refine Go.goto (tgt := 15) dX11_isNoKind_11 (by decide) ?_
    obtain rfl := Option.some.inj hF
    exact Go.iret (st := []) dX11_isNoKind_15 rfl rfl ⟨rfl, rfl⟩
  · have hF := ite_f h_1 hF
    refine Go.iload_n dX11_isNoKind_4 rfl ?_
    refine Go.bipush (v := 8) dX11_isNoKind_5 (by decide) ?_
    refine Go.icmplt (tgt := 14) dX11_isNoKind_7 (by decide) (fun h_7 => ?_) (fun h_7 => ?_)
    · have hF := ite_t h_7 hF
      refine Go.iconst (v := 0) dX11_isNoKind_14 (by decide) ?_
      obtain rfl := Option.some.inj hF
      exact Go.iret (st := []) dX11_isNoKind_15 rfl rfl ⟨rfl, rfl⟩
    · have hF := ite_f h_7 hF
      refine Go.iconst (v := 1) dX11_isNoKind_10 (by decide) ?_
      refine Go.goto (tgt := 15) dX11_isNoKind_11 (by decide) ?_
      obtain rfl := Option.some.inj hF
      exact Go.iret (st := []) dX11_isNoKind_15 rfl rfl ⟨rfl, rfl⟩
def F_X11_body (x1 : Int32) (S : St) : Option (Int32 × St) :=
  (F_X11_isNoKind x1 S).bind (fun r_1 => if r_1.1 = 0 then ((F_X0_isFull r_1.2).bind (fun r_13 => if r_13.1 = 0 then ((F_X0_add x1 r_13.2).bind (fun r_29 => some (r_29.1, r_29.2))) else (some ((-3), r_13.2)))) else (some ((-1), r_1.2)))
set_option maxHeartbeats 4000000 in
set_option maxRecDepth 100000 in
theorem ok_X11_body {l : Launch} (d : Nat) (x1 : Int32) (S : St) (R : Int32 × St) (hF : F_X11_body x1 S = some R) : Go l (d + 1) mX11_body (Res (some (.int R.1)) R.2) 0 [(0, .ref 0), (1, .int x1)] [] S := by
  unfold F_X11_body at hF
  refine Go.iload_n dX11_body_0 rfl ?_
  obtain ⟨r_1, hc_1, hF⟩ := Option.bind_eq_some_iff.mp hF
  refine Go.callS [_] dX11_body_1 kX11_isNoKind sX11_isNoKind lX11_295 rfl rfl (Nat.le_of_ble_eq_true rfl) (Nat.le_of_ble_eq_true rfl) (ok_X11_isNoKind (d + 0) _ _ _ hc_1) ?_
  refine Go.ifeq (tgt := 9) dX11_body_4 (by decide) (fun h_4 => ?_) (fun h_4 => ?_)
  · have hF := ite_t h_4 hF
    refine Go.aload_n dX11_body_9 rfl ?_
    refine Go.getR dX11_body_10 fX11_79 rfl ?_
    obtain ⟨r_13, hc_13, hF⟩ := Option.bind_eq_some_iff.mp hF
    refine Go.callV [] dX11_body_13 kX0_isFull vX0_isFull lX11_298 rfl rfl rfl rfl rfl (Nat.le_of_ble_eq_true rfl) (Nat.le_of_ble_eq_true rfl) (ok_X0_isFull (d + 0) _ _ hc_13) ?_
    refine Go.ifeq (tgt := 24) dX11_body_16 (by decide) (fun h_16 => ?_) (fun h_16 => ?_)
    · have hF := ite_t h_16 hF
      refine Go.aload_n dX11_body_24 rfl ?_
      refine Go.getR dX11_body_25 fX11_79 rfl ?_
      refine Go.iload_n dX11_body_28 rfl ?_
      obtain ⟨r_29, hc_29, hF⟩ := Option.bind_eq_some_iff.mp hF
      refine Go.callV [_] dX11_body_29 kX0_add vX0_add lX11_299 rfl rfl rfl rfl rfl (Nat.le_of_ble_eq_true rfl) (Nat.le_of_ble_eq_true rfl) (ok_X0_add (d + 0) _ _ _ hc_29) ?_
      obtain rfl := Option.some.inj hF
      exact Go.iret (st := []) dX11_body_32 rfl rfl ⟨rfl, rfl⟩
    · have hF := ite_f h_16 hF
      refine Go.bipush (v := (-3)) dX11_body_19 (by decide) ?_
      refine Go.goto (tgt := 32) dX11_body_21 (by decide) ?_
      obtain rfl := Option.some.inj hF
      exact Go.iret (st := []) dX11_body_32 rfl rfl ⟨rfl, rfl⟩
  · have hF := ite_f h_4 hF
    refine Go.iconst (v := (-1)) dX11_body_7 (by decide) ?_
    obtain rfl := Option.some.inj hF
    exact Go.iret (st := []) dX11_body_8 rfl rfl ⟨rfl, rfl⟩
def F_X11_trace (x1 : Int32) (S : St) : Option (Int32 × St) :=
  if x1 < 0 then (some ((-1), S)) else ((F_X0_traced S).bind (fun r_9 => if x1 < r_9.1 then (gd (inb x1 24) (some (r_9.2.2.1 56 (Int32.toNatClampNeg x1), r_9.2))) else (some ((-1), r_9.2))))
set_option maxHeartbeats 4000000 in
set_option maxRecDepth 100000 in
theorem ok_X11_trace {l : Launch} (d : Nat) (x1 : Int32) (S : St) (R : Int32 × St) (hF : F_X11_trace x1 S = some R) : Go l (d + 2) mX11_trace (Res (some (.int R.1)) R.2) 0 [(0, .ref 0), (1, .int x1)] [] S := by
  unfold F_X11_trace at hF
  refine Go.iload_n dX11_trace_0 rfl ?_
  refine Go.iflt (tgt := 15) dX11_trace_1 (by decide) (fun h_1 => ?_) (fun h_1 => ?_)
  · have hF := ite_t h_1 hF
    refine Go.iconst (v := (-1)) dX11_trace_15 (by decide) ?_
    refine Go.goto (tgt := 28) dX11_trace_16 (by decide) ?_
    obtain rfl := Option.some.inj hF
    exact Go.iret (st := []) dX11_trace_28 rfl rfl ⟨rfl, rfl⟩
  · have hF := ite_f h_1 hF
    refine Go.iload_n dX11_trace_4 rfl ?_
    refine Go.aload_n dX11_trace_5 rfl ?_
    refine Go.getR dX11_trace_6 fX11_79 rfl ?_
    obtain ⟨r_9, hc_9, hF⟩ := Option.bind_eq_some_iff.mp hF
    refine Go.callV [] dX11_trace_9 kX0_traced vX0_traced lX11_304 rfl rfl rfl rfl rfl (Nat.le_of_ble_eq_true rfl) (Nat.le_of_ble_eq_true rfl) (ok_X0_traced (d + 0) _ _ hc_9) ?_
    refine Go.icmplt (tgt := 19) dX11_trace_12 (by decide) (fun h_12 => ?_) (fun h_12 => ?_)
    · have hF := ite_t h_12 hF
      refine Go.aload_n dX11_trace_19 rfl ?_
      refine Go.getR dX11_trace_20 fX11_79 rfl ?_
      refine Go.getR dX11_trace_23 fX11_308 rfl ?_
      refine Go.iload_n dX11_trace_26 rfl ?_
      obtain ⟨hb_27, hF⟩ := gd_some hF
      refine Go.iald dX11_trace_27 rfl (inb_ok hb_27) ?_
      obtain rfl := Option.some.inj hF
      exact Go.iret (st := []) dX11_trace_28 rfl rfl ⟨rfl, rfl⟩
    · have hF := ite_f h_12 hF
      refine Go.iconst (v := (-1)) dX11_trace_15 (by decide) ?_
      refine Go.goto (tgt := 28) dX11_trace_16 (by decide) ?_
      obtain rfl := Option.some.inj hF
      exact Go.iret (st := []) dX11_trace_28 rfl rfl ⟨rfl, rfl⟩
