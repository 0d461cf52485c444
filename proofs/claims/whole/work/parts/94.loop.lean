/-! the law's own loop: 34 calls -/
theorem two_ok {f1 f2 : St → Option (Int32 × St)} {S : St} (h : Both f1 f2 S) {K : St → Option (Int32 × St)} (hK : ∀ S2, Inv S2 → ∃ S', K S2 = some (1, S')) : ∃ S', ((f1 S).bind (fun r => (f2 r.2).bind (fun q => if r.1 = q.1 then K q.2 else some (0, q.2)))) = some (1, S') := by
  obtain ⟨r, S1, S2, h1, h2, h3⟩ := h
  obtain ⟨S', hS⟩ := hK S2 h3
  refine ⟨S', ?_⟩
  rw [h1, Option.bind_some]
  show ((f2 S1).bind (fun q => if r = q.1 then K q.2 else some (0, q.2))) = _
  rw [h2, Option.bind_some]
  show (if r = r then K S2 else some (0, S2)) = _
  rw [if_pos rfl, hS]
theorem lgc_self (a : Int64) : lg_cmp a a = 0 := by
  unfold lg_cmp
  simp
theorem two_okL {f1 f2 : St → Option (Int64 × St)} {S : St} (h : BothL f1 f2 S) {K : St → Option (Int32 × St)} (hK : ∀ S2, Inv S2 → ∃ S', K S2 = some (1, S')) : ∃ S', ((f1 S).bind (fun r => (f2 r.2).bind (fun q => if (lg_cmp r.1 q.1) = 0 then K q.2 else some (0, q.2)))) = some (1, S') := by
  obtain ⟨r, S1, S2, h1, h2, h3⟩ := h
  obtain ⟨S', hS⟩ := hK S2 h3
  refine ⟨S', ?_⟩
  rw [h1, Option.bind_some]
  show ((f2 S1).bind (fun q => if (lg_cmp r q.1) = 0 then K q.2 else some (0, q.2))) = _
  rw [h2, Option.bind_some]
  show (if (lg_cmp r r) = 0 then K S2 else some (0, S2)) = _
  rw [if_pos (lgc_self r), hS]
theorem law_stp (L : Nat) (xs : Nat → Int32) (N n : Nat) (x3 : Int32) (S : St) : F_L_law_18 L xs N (n + 1) x3 S = (
    if ((Int32.ofNat L) - 6) < x3 then (some (1, S)) else (gd (inb x3 L) (if ((xs (Int32.toNatClampNeg x3)) &&& 63) = 0 then (gd (inb (x3 + 1) L) (gd (inb (x3 + 2) L) (gd (inb (x3 + 3) L) ((F_X11_line (xs (Int32.toNatClampNeg (x3 + 1))) (xs (Int32.toNatClampNeg (x3 + 2))) (xs (Int32.toNatClampNeg (x3 + 3))) S).bind (fun r_200 => gd (inb (x3 + 1) L) (gd (inb (x3 + 2) L) (gd (inb (x3 + 3) L) ((F_X12_line (xs (Int32.toNatClampNeg (x3 + 1))) (xs (Int32.toNatClampNeg (x3 + 2))) (xs (Int32.toNatClampNeg (x3 + 3))) r_200.2).bind (fun r_219 => if r_200.1 = r_219.1 then ((F_L_law_18 L xs N n) (x3 + 6) r_219.2) else (some (0, r_219.2))))))))))) else (if ((xs (Int32.toNatClampNeg x3)) &&& 63) = 1 then (gd (inb (x3 + 1) L) (gd (inb (x3 + 2) L) (gd (inb (x3 + 3) L) ((F_X11_lines N (xs (Int32.toNatClampNeg (x3 + 1))) (xs (Int32.toNatClampNeg (x3 + 2))) (xs (Int32.toNatClampNeg (x3 + 3))) S).bind (fun r_243 => gd (inb (x3 + 1) L) (gd (inb (x3 + 2) L) (gd (inb (x3 + 3) L) ((F_X12_lines N (xs (Int32.toNatClampNeg (x3 + 1))) (xs (Int32.toNatClampNeg (x3 + 2))) (xs (Int32.toNatClampNeg (x3 + 3))) r_243.2).bind (fun r_262 => if r_243.1 = r_262.1 then ((F_L_law_18 L xs N n) (x3 + 6) r_262.2) else (some (0, r_262.2))))))))))) else (if ((xs (Int32.toNatClampNeg x3)) &&& 63) = 2 then (gd (inb (x3 + 1) L) ((F_X11_feed (xs (Int32.toNatClampNeg (x3 + 1))) S).bind (fun r_276 => gd (inb (x3 + 1) L) ((F_X12_feed (xs (Int32.toNatClampNeg (x3 + 1))) r_276.2).bind (fun r_285 => if r_276.1 = r_285.1 then ((F_L_law_18 L xs N n) (x3 + 6) r_285.2) else (some (0, r_285.2))))))) else (if ((xs (Int32.toNatClampNeg x3)) &&& 63) = 3 then (gd (inb (x3 + 1) L) ((F_X11_law N (xs (Int32.toNatClampNeg (x3 + 1))) S).bind (fun r_299 => gd (inb (x3 + 1) L) ((F_X12_law N (xs (Int32.toNatClampNeg (x3 + 1))) r_299.2).bind (fun r_308 => if r_299.1 = r_308.1 then ((F_L_law_18 L xs N n) (x3 + 6) r_308.2) else (some (0, r_308.2))))))) else (if ((xs (Int32.toNatClampNeg x3)) &&& 63) = 4 then (gd (inb (x3 + 1) L) (gd (inb (x3 + 2) L) ((F_X11_set (xs (Int32.toNatClampNeg (x3 + 1))) (xs (Int32.toNatClampNeg (x3 + 2))) S).bind (fun r_327 => gd (inb (x3 + 1) L) (gd (inb (x3 + 2) L) ((F_X12_set (xs (Int32.toNatClampNeg (x3 + 1))) (xs (Int32.toNatClampNeg (x3 + 2))) r_327.2).bind (fun r_341 => if r_327.1 = r_341.1 then ((F_L_law_18 L xs N n) (x3 + 6) r_341.2) else (some (0, r_341.2))))))))) else (if ((xs (Int32.toNatClampNeg x3)) &&& 63) = 5 then (gd (inb (x3 + 1) L) (gd (inb (x3 + 2) L) (gd (inb (x3 + 3) L) ((F_X11_mend (xs (Int32.toNatClampNeg (x3 + 1))) (xs (Int32.toNatClampNeg (x3 + 2))) (xs (Int32.toNatClampNeg (x3 + 3))) S).bind (fun r_365 => gd (inb (x3 + 1) L) (gd (inb (x3 + 2) L) (gd (inb (x3 + 3) L) ((F_X12_mend N (xs (Int32.toNatClampNeg (x3 + 1))) (xs (Int32.toNatClampNeg (x3 + 2))) (xs (Int32.toNatClampNeg (x3 + 3))) r_365.2).bind (fun r_384 => if r_365.1 = r_384.1 then ((F_L_law_18 L xs N n) (x3 + 6) r_384.2) else (some (0, r_384.2))))))))))) else (if ((xs (Int32.toNatClampNeg x3)) &&& 63) = 6 then (gd (inb (x3 + 1) L) (gd (inb (x3 + 2) L) ((F_X11_of N (xs (Int32.toNatClampNeg (x3 + 1))) (xs (Int32.toNatClampNeg (x3 + 2))) S).bind (fun r_403 => gd (inb (x3 + 1) L) (gd (inb (x3 + 2) L) ((F_X12_of N (xs (Int32.toNatClampNeg (x3 + 1))) (xs (Int32.toNatClampNeg (x3 + 2))) r_403.2).bind (fun r_417 => if r_403.1 = r_417.1 then ((F_L_law_18 L xs N n) (x3 + 6) r_417.2) else (some (0, r_417.2))))))))) else (if ((xs (Int32.toNatClampNeg x3)) &&& 63) = 7 then (gd (inb (x3 + 1) L) ((F_X11_rehearse N (xs (Int32.toNatClampNeg (x3 + 1))) S).bind (fun r_431 => gd (inb (x3 + 1) L) ((F_X12_rehearse N (xs (Int32.toNatClampNeg (x3 + 1))) r_431.2).bind (fun r_440 => if r_431.1 = r_440.1 then ((F_L_law_18 L xs N n) (x3 + 6) r_440.2) else (some (0, r_440.2))))))) else (if ((xs (Int32.toNatClampNeg x3)) &&& 63) = 8 then (gd (inb (x3 + 1) L) (gd (inb (x3 + 2) L) ((F_X11_jumps N (xs (Int32.toNatClampNeg (x3 + 1))) (xs (Int32.toNatClampNeg (x3 + 2))) S).bind (fun r_459 => gd (inb (x3 + 1) L) (gd (inb (x3 + 2) L) ((F_X12_jumps N (xs (Int32.toNatClampNeg (x3 + 1))) (xs (Int32.toNatClampNeg (x3 + 2))) r_459.2).bind (fun r_473 => if r_459.1 = r_473.1 then ((F_L_law_18 L xs N n) (x3 + 6) r_473.2) else (some (0, r_473.2))))))))) else (if ((xs (Int32.toNatClampNeg x3)) &&& 63) = 9 then (gd (inb (x3 + 1) L) ((F_X11_behind N (xs (Int32.toNatClampNeg (x3 + 1))) S).bind (fun r_487 => gd (inb (x3 + 1) L) ((F_X12_behind N (xs (Int32.toNatClampNeg (x3 + 1))) r_487.2).bind (fun r_496 => if r_487.1 = r_496.1 then ((F_L_law_18 L xs N n) (x3 + 6) r_496.2) else (some (0, r_496.2))))))) else (if ((xs (Int32.toNatClampNeg x3)) &&& 63) = 10 then (gd (inb (x3 + 1) L) (gd (inb (x3 + 2) L) ((F_X11_way N (xs (Int32.toNatClampNeg (x3 + 1))) (xs (Int32.toNatClampNeg (x3 + 2))) S).bind (fun r_515 => gd (inb (x3 + 1) L) (gd (inb (x3 + 2) L) ((F_X12_way N (xs (Int32.toNatClampNeg (x3 + 1))) (xs (Int32.toNatClampNeg (x3 + 2))) r_515.2).bind (fun r_529 => if r_515.1 = r_529.1 then ((F_L_law_18 L xs N n) (x3 + 6) r_529.2) else (some (0, r_529.2))))))))) else (if ((xs (Int32.toNatClampNeg x3)) &&& 63) = 11 then (gd (inb (x3 + 1) L) ((F_X11_night N (xs (Int32.toNatClampNeg (x3 + 1))) S).bind (fun r_543 => gd (inb (x3 + 1) L) ((F_X12_night N (xs (Int32.toNatClampNeg (x3 + 1))) r_543.2).bind (fun r_552 => if r_543.1 = r_552.1 then ((F_L_law_18 L xs N n) (x3 + 6) r_552.2) else (some (0, r_552.2))))))) else (if ((xs (Int32.toNatClampNeg x3)) &&& 63) = 12 then (gd (inb (x3 + 1) L) ((F_X11_told (xs (Int32.toNatClampNeg (x3 + 1))) S).bind (fun r_566 => gd (inb (x3 + 1) L) ((F_X12_told (xs (Int32.toNatClampNeg (x3 + 1))) r_566.2).bind (fun r_575 => if r_566.1 = r_575.1 then ((F_L_law_18 L xs N n) (x3 + 6) r_575.2) else (some (0, r_575.2))))))) else (if ((xs (Int32.toNatClampNeg x3)) &&& 63) = 13 then (gd (inb (x3 + 1) L) (gd (inb (x3 + 2) L) ((F_X11_said (xs (Int32.toNatClampNeg (x3 + 1))) (xs (Int32.toNatClampNeg (x3 + 2))) S).bind (fun r_594 => gd (inb (x3 + 1) L) (gd (inb (x3 + 2) L) ((F_X12_said (xs (Int32.toNatClampNeg (x3 + 1))) (xs (Int32.toNatClampNeg (x3 + 2))) r_594.2).bind (fun r_608 => if r_594.1 = r_608.1 then ((F_L_law_18 L xs N n) (x3 + 6) r_608.2) else (some (0, r_608.2))))))))) else (if ((xs (Int32.toNatClampNeg x3)) &&& 63) = 14 then (gd (inb (x3 + 1) L) (gd (inb (x3 + 2) L) (gd (inb (x3 + 3) L) ((F_X11_mean N (xs (Int32.toNatClampNeg (x3 + 1))) (xs (Int32.toNatClampNeg (x3 + 2))) (xs (Int32.toNatClampNeg (x3 + 3))) S).bind (fun r_632 => gd (inb (x3 + 1) L) (gd (inb (x3 + 2) L) (gd (inb (x3 + 3) L) ((F_X12_mean N (xs (Int32.toNatClampNeg (x3 + 1))) (xs (Int32.toNatClampNeg (x3 + 2))) (xs (Int32.toNatClampNeg (x3 + 3))) r_632.2).bind (fun r_651 => if r_632.1 = r_651.1 then ((F_L_law_18 L xs N n) (x3 + 6) r_651.2) else (some (0, r_651.2))))))))))) else (if ((xs (Int32.toNatClampNeg x3)) &&& 63) = 15 then (gd (inb (x3 + 1) L) (gd (inb (x3 + 2) L) ((F_X11_tape N (xs (Int32.toNatClampNeg (x3 + 1))) (xs (Int32.toNatClampNeg (x3 + 2))) S).bind (fun r_670 => gd (inb (x3 + 1) L) (gd (inb (x3 + 2) L) ((F_X12_tape N (xs (Int32.toNatClampNeg (x3 + 1))) (xs (Int32.toNatClampNeg (x3 + 2))) r_670.2).bind (fun r_684 => if r_670.1 = r_684.1 then ((F_L_law_18 L xs N n) (x3 + 6) r_684.2) else (some (0, r_684.2))))))))) else (if ((xs (Int32.toNatClampNeg x3)) &&& 63) = 16 then (gd (inb (x3 + 1) L) (gd (inb (x3 + 2) L) ((F_X11_prompt N (xs (Int32.toNatClampNeg (x3 + 1))) (xs (Int32.toNatClampNeg (x3 + 2))) S).bind (fun r_703 => gd (inb (x3 + 1) L) (gd (inb (x3 + 2) L) ((F_X12_prompt N (xs (Int32.toNatClampNeg (x3 + 1))) (xs (Int32.toNatClampNeg (x3 + 2))) r_703.2).bind (fun r_717 => if r_703.1 = r_717.1 then ((F_L_law_18 L xs N n) (x3 + 6) r_717.2) else (some (0, r_717.2))))))))) else (if ((xs (Int32.toNatClampNeg x3)) &&& 63) = 17 then (gd (inb (x3 + 1) L) (gd (inb (x3 + 2) L) ((F_X11_evenings N (xs (Int32.toNatClampNeg (x3 + 1))) (xs (Int32.toNatClampNeg (x3 + 2))) S).bind (fun r_736 => gd (inb (x3 + 1) L) (gd (inb (x3 + 2) L) ((F_X12_evenings N (xs (Int32.toNatClampNeg (x3 + 1))) (xs (Int32.toNatClampNeg (x3 + 2))) r_736.2).bind (fun r_750 => if r_736.1 = r_750.1 then ((F_L_law_18 L xs N n) (x3 + 6) r_750.2) else (some (0, r_750.2))))))))) else (if ((xs (Int32.toNatClampNeg x3)) &&& 63) = 18 then (gd (inb (x3 + 1) L) (gd (inb (x3 + 2) L) ((F_X11_cut N (xs (Int32.toNatClampNeg (x3 + 1))) (xs (Int32.toNatClampNeg (x3 + 2))) S).bind (fun r_769 => gd (inb (x3 + 1) L) (gd (inb (x3 + 2) L) ((F_X12_cut N (xs (Int32.toNatClampNeg (x3 + 1))) (xs (Int32.toNatClampNeg (x3 + 2))) r_769.2).bind (fun r_783 => if r_769.1 = r_783.1 then ((F_L_law_18 L xs N n) (x3 + 6) r_783.2) else (some (0, r_783.2))))))))) else (if ((xs (Int32.toNatClampNeg x3)) &&& 63) = 19 then (gd (inb (x3 + 1) L) (gd (inb (x3 + 2) L) ((F_X11_newspaper N (xs (Int32.toNatClampNeg (x3 + 1))) (xs (Int32.toNatClampNeg (x3 + 2))) S).bind (fun r_802 => gd (inb (x3 + 1) L) (gd (inb (x3 + 2) L) ((F_X12_newspaper N (xs (Int32.toNatClampNeg (x3 + 1))) (xs (Int32.toNatClampNeg (x3 + 2))) r_802.2).bind (fun r_816 => if r_802.1 = r_816.1 then ((F_L_law_18 L xs N n) (x3 + 6) r_816.2) else (some (0, r_816.2))))))))) else (if ((xs (Int32.toNatClampNeg x3)) &&& 63) = 20 then ((F_X11_image S).bind (fun r_825 => (F_X12_image N r_825.2).bind (fun r_829 => if r_825.1 = r_829.1 then ((F_L_law_18 L xs N n) (x3 + 6) r_829.2) else (some (0, r_829.2))))) else (if ((xs (Int32.toNatClampNeg x3)) &&& 63) = 21 then ((F_X11_back S).bind (fun r_838 => (F_X12_back N r_838.2).bind (fun r_842 => if r_838.1 = r_842.1 then ((F_L_law_18 L xs N n) (x3 + 6) r_842.2) else (some (0, r_842.2))))) else (if ((xs (Int32.toNatClampNeg x3)) &&& 63) = 22 then ((F_X11_undo S).bind (fun r_851 => (F_X12_undo r_851.2).bind (fun r_855 => if r_851.1 = r_855.1 then ((F_L_law_18 L xs N n) (x3 + 6) r_855.2) else (some (0, r_855.2))))) else (if ((xs (Int32.toNatClampNeg x3)) &&& 63) = 23 then ((F_X11_redo S).bind (fun r_864 => (F_X12_redo r_864.2).bind (fun r_868 => if r_864.1 = r_868.1 then ((F_L_law_18 L xs N n) (x3 + 6) r_868.2) else (some (0, r_868.2))))) else (if ((xs (Int32.toNatClampNeg x3)) &&& 63) = 24 then (gd (inb (x3 + 1) L) ((F_X11_body (xs (Int32.toNatClampNeg (x3 + 1))) S).bind (fun r_882 => gd (inb (x3 + 1) L) ((F_X12_body (xs (Int32.toNatClampNeg (x3 + 1))) r_882.2).bind (fun r_891 => if r_882.1 = r_891.1 then ((F_L_law_18 L xs N n) (x3 + 6) r_891.2) else (some (0, r_891.2))))))) else (if ((xs (Int32.toNatClampNeg x3)) &&& 63) = 25 then (gd (inb (x3 + 1) L) (gd (inb (x3 + 2) L) (gd (inb (x3 + 3) L) ((F_X11_act N (xs (Int32.toNatClampNeg (x3 + 1))) (xs (Int32.toNatClampNeg (x3 + 2))) (xs (Int32.toNatClampNeg (x3 + 3))) S).bind (fun r_915 => gd (inb (x3 + 1) L) (gd (inb (x3 + 2) L) (gd (inb (x3 + 3) L) ((F_X12_act (xs (Int32.toNatClampNeg (x3 + 1))) (xs (Int32.toNatClampNeg (x3 + 2))) (xs (Int32.toNatClampNeg (x3 + 3))) r_915.2).bind (fun r_934 => if r_915.1 = r_934.1 then ((F_L_law_18 L xs N n) (x3 + 6) r_934.2) else (some (0, r_934.2))))))))))) else (if ((xs (Int32.toNatClampNeg x3)) &&& 63) = 26 then (gd (inb (x3 + 1) L) ((F_X11_trace (xs (Int32.toNatClampNeg (x3 + 1))) S).bind (fun r_948 => gd (inb (x3 + 1) L) ((F_X12_trace (xs (Int32.toNatClampNeg (x3 + 1))) r_948.2).bind (fun r_957 => if r_948.1 = r_957.1 then ((F_L_law_18 L xs N n) (x3 + 6) r_957.2) else (some (0, r_957.2))))))) else (if ((xs (Int32.toNatClampNeg x3)) &&& 63) = 27 then (gd (inb (x3 + 1) L) (gd (inb (x3 + 2) L) ((F_X11_keep (xs (Int32.toNatClampNeg (x3 + 1))) (xs (Int32.toNatClampNeg (x3 + 2))) S).bind (fun r_976 => gd (inb (x3 + 1) L) (gd (inb (x3 + 2) L) ((F_X12_keep (xs (Int32.toNatClampNeg (x3 + 1))) (xs (Int32.toNatClampNeg (x3 + 2))) r_976.2).bind (fun r_990 => if r_976.1 = r_990.1 then ((F_L_law_18 L xs N n) (x3 + 6) r_990.2) else (some (0, r_990.2))))))))) else (if ((xs (Int32.toNatClampNeg x3)) &&& 63) = 28 then (gd (inb (x3 + 1) L) (gd (inb (x3 + 2) L) (gd (inb (x3 + 3) L) ((F_X11_row N (xs (Int32.toNatClampNeg (x3 + 1))) (xs (Int32.toNatClampNeg (x3 + 2))) (xs (Int32.toNatClampNeg (x3 + 3))) S).bind (fun r_1014 => gd (inb (x3 + 1) L) (gd (inb (x3 + 2) L) (gd (inb (x3 + 3) L) ((F_X12_row N (xs (Int32.toNatClampNeg (x3 + 1))) (xs (Int32.toNatClampNeg (x3 + 2))) (xs (Int32.toNatClampNeg (x3 + 3))) r_1014.2).bind (fun r_1033 => if r_1014.1 = r_1033.1 then ((F_L_law_18 L xs N n) (x3 + 6) r_1033.2) else (some (0, r_1033.2))))))))))) else (if ((xs (Int32.toNatClampNeg x3)) &&& 63) = 29 then (gd (inb (x3 + 1) L) (gd (inb (x3 + 2) L) (gd (inb (x3 + 3) L) (gd (inb (x3 + 4) L) ((F_X11_put (xs (Int32.toNatClampNeg (x3 + 1))) (xs (Int32.toNatClampNeg (x3 + 2))) (((Int32.toInt64 (xs (Int32.toNatClampNeg (x3 + 3)))) <<< (Int32.toInt64 (32 : Int32) &&& 63)) ||| ((Int32.toInt64 (xs (Int32.toNatClampNeg (x3 + 4)))) &&& 4294967295)) S).bind (fun r_1072 => gd (inb (x3 + 1) L) (gd (inb (x3 + 2) L) (gd (inb (x3 + 3) L) (gd (inb (x3 + 4) L) ((F_X12_put (xs (Int32.toNatClampNeg (x3 + 1))) (xs (Int32.toNatClampNeg (x3 + 2))) (((Int32.toInt64 (xs (Int32.toNatClampNeg (x3 + 3)))) <<< (Int32.toInt64 (32 : Int32) &&& 63)) ||| ((Int32.toInt64 (xs (Int32.toNatClampNeg (x3 + 4)))) &&& 4294967295)) r_1072.2).bind (fun r_1106 => if r_1072.1 = r_1106.1 then ((F_L_law_18 L xs N n) (x3 + 6) r_1106.2) else (some (0, r_1106.2))))))))))))) else (if ((xs (Int32.toNatClampNeg x3)) &&& 63) = 30 then (gd (inb (x3 + 1) L) (gd (inb (x3 + 2) L) ((F_X11_element (xs (Int32.toNatClampNeg (x3 + 1))) (xs (Int32.toNatClampNeg (x3 + 2))) S).bind (fun r_1125 => gd (inb (x3 + 1) L) (gd (inb (x3 + 2) L) ((F_X12_element (xs (Int32.toNatClampNeg (x3 + 1))) (xs (Int32.toNatClampNeg (x3 + 2))) r_1125.2).bind (fun r_1139 => if (lg_cmp r_1125.1 r_1139.1) = 0 then ((F_L_law_18 L xs N n) (x3 + 6) r_1139.2) else (some (0, r_1139.2))))))))) else (if ((xs (Int32.toNatClampNeg x3)) &&& 63) = 31 then (gd (inb (x3 + 1) L) (gd (inb (x3 + 2) L) (gd (inb (x3 + 3) L) (gd (inb (x3 + 4) L) (gd (inb (x3 + 5) L) ((F_X11_shift (xs (Int32.toNatClampNeg (x3 + 1))) (xs (Int32.toNatClampNeg (x3 + 2))) (xs (Int32.toNatClampNeg (x3 + 3))) (xs (Int32.toNatClampNeg (x3 + 4))) (xs (Int32.toNatClampNeg (x3 + 5))) S).bind (fun r_1174 => gd (inb (x3 + 1) L) (gd (inb (x3 + 2) L) (gd (inb (x3 + 3) L) (gd (inb (x3 + 4) L) (gd (inb (x3 + 5) L) ((F_X12_shift N (xs (Int32.toNatClampNeg (x3 + 1))) (xs (Int32.toNatClampNeg (x3 + 2))) (xs (Int32.toNatClampNeg (x3 + 3))) (xs (Int32.toNatClampNeg (x3 + 4))) (xs (Int32.toNatClampNeg (x3 + 5))) r_1174.2).bind (fun r_1203 => if r_1174.1 = r_1203.1 then ((F_L_law_18 L xs N n) (x3 + 6) r_1203.2) else (some (0, r_1203.2))))))))))))))) else (if ((xs (Int32.toNatClampNeg x3)) &&& 63) = 32 then (gd (inb (x3 + 1) L) (gd (inb (x3 + 2) L) ((F_X11_taken N (xs (Int32.toNatClampNeg (x3 + 1))) (xs (Int32.toNatClampNeg (x3 + 2))) S).bind (fun r_1222 => gd (inb (x3 + 1) L) (gd (inb (x3 + 2) L) ((F_X12_taken (xs (Int32.toNatClampNeg (x3 + 1))) (xs (Int32.toNatClampNeg (x3 + 2))) r_1222.2).bind (fun r_1236 => if r_1222.1 = r_1236.1 then ((F_L_law_18 L xs N n) (x3 + 6) r_1236.2) else (some (0, r_1236.2))))))))) else (if ((xs (Int32.toNatClampNeg x3)) &&& 63) = 33 then (gd (inb (x3 + 1) L) ((F_X11_count (xs (Int32.toNatClampNeg (x3 + 1))) S).bind (fun r_1250 => gd (inb (x3 + 1) L) ((F_X12_count (xs (Int32.toNatClampNeg (x3 + 1))) r_1250.2).bind (fun r_1259 => if r_1250.1 = r_1259.1 then ((F_L_law_18 L xs N n) (x3 + 6) r_1259.2) else (some (0, r_1259.2))))))) else ((F_L_law_18 L xs N n) (x3 + 6) S))))))))))))))))))))))))))))))))))))) := rfl
theorem lw_end {L i : Nat} (hL : L ≤ 384) (hi : i ≤ 1000) : ((Int32.ofNat L) - 6) < nI i ↔ L < i + 6 := by
  by_cases c : 6 ≤ L
  · have e : (Int32.ofNat L) - 6 = nI (L - 6) := pk_sub (a := L) (b := 6) c
    rw [e]
    constructor
    · intro h
      by_cases d : L < i + 6
      · exact d
      · exact absurd h (nI_nlt (by omega) (by omega))
    · intro h
      exact nI_lt (by omega) (by omega)
  · have e : (Int32.ofNat L) - 6 < 0 := by
      rcases (show L = 0 ∨ L = 1 ∨ L = 2 ∨ L = 3 ∨ L = 4 ∨ L = 5 by omega) with rfl | rfl | rfl | rfl | rfl | rfl <;> decide
    have e2 : ¬ nI i < 0 := nI_pos (by omega)
    have e3 := Int32.lt_iff_toInt_lt.mp e
    have e4 : ¬ (nI i).toInt < (0 : Int32).toInt := fun z => e2 (Int32.lt_iff_toInt_lt.mpr z)
    exact ⟨fun _ => by omega, fun _ => Int32.lt_iff_toInt_lt.mpr (by omega)⟩
theorem law_go {L : Nat} {xs : Nat → Int32} {N : Nat} (hN : 1000000000 ≤ N) (hL : L ≤ 384) : ∀ (n i : Nat) (S : St), Inv S → i ≤ 1000 → L < i + n + 6 → ∃ S', F_L_law_18 L xs N (n + 1) (nI i) S = some (1, S')
  | n, i, S, h, hi, hn => by
    rw [law_stp]
    by_cases c : L < i + 6
    · rw [if_pos ((lw_end hL hi).mpr c)]
      exact ⟨S, rfl⟩
    · rw [if_neg (fun z => c ((lw_end hL hi).mp z))]
      obtain ⟨n', rfl⟩ : ∃ n', n = n' + 1 := ⟨n - 1, by omega⟩
      have ih : ∀ S2, Inv S2 → ∃ S', (F_L_law_18 L xs N (n' + 1)) (nI i + 6) S2 = some (1, S') := fun S2 h2 => by
        have e : nI i + 6 = nI (i + 6) := nI_add i 6
        rw [e]
        exact law_go hN hL n' (i + 6) S2 h2 (by omega) (by omega)
      have g0 : inb (nI i) L = true := inb_nI (by omega) (by omega)
      have g1 : inb (nI i + 1) L = true := by
        have e : nI i + 1 = nI (i + 1) := nI_add i 1
        rw [e]; exact inb_nI (by omega) (by omega)
      have g2 : inb (nI i + 2) L = true := by
        have e : nI i + 2 = nI (i + 2) := nI_add i 2
        rw [e]; exact inb_nI (by omega) (by omega)
      have g3 : inb (nI i + 3) L = true := by
        have e : nI i + 3 = nI (i + 3) := nI_add i 3
        rw [e]; exact inb_nI (by omega) (by omega)
      have g4 : inb (nI i + 4) L = true := by
        have e : nI i + 4 = nI (i + 4) := nI_add i 4
        rw [e]; exact inb_nI (by omega) (by omega)
      have g5 : inb (nI i + 5) L = true := by
        have e : nI i + 5 = nI (i + 5) := nI_add i 5
        rw [e]; exact inb_nI (by omega) (by omega)
      simp only [gd_t g0, gd_t g1, gd_t g2, gd_t g3, gd_t g4, gd_t g5]
      by_cases c0 : ((xs (Int32.toNatClampNeg (nI i))) &&& 63) = 0
      · rw [if_pos c0]
        exact two_ok (st_line h _ _ _) ih
      rw [if_neg c0]
      by_cases c1 : ((xs (Int32.toNatClampNeg (nI i))) &&& 63) = 1
      · rw [if_pos c1]
        exact two_ok (st_lines (by omega) h _ _ _) ih
      rw [if_neg c1]
      by_cases c2 : ((xs (Int32.toNatClampNeg (nI i))) &&& 63) = 2
      · rw [if_pos c2]
        exact two_ok (st_feed h _) ih
      rw [if_neg c2]
      by_cases c3 : ((xs (Int32.toNatClampNeg (nI i))) &&& 63) = 3
      · rw [if_pos c3]
        exact two_ok (st_law (by omega) h _) ih
      rw [if_neg c3]
      by_cases c4 : ((xs (Int32.toNatClampNeg (nI i))) &&& 63) = 4
      · rw [if_pos c4]
        exact two_ok (st_set h _ _) ih
      rw [if_neg c4]
      by_cases c5 : ((xs (Int32.toNatClampNeg (nI i))) &&& 63) = 5
      · rw [if_pos c5]
        exact two_ok (st_mend (by omega) h _ _ _) ih
      rw [if_neg c5]
      by_cases c6 : ((xs (Int32.toNatClampNeg (nI i))) &&& 63) = 6
      · rw [if_pos c6]
        exact two_ok (st_of (by omega) h _ _) ih
      rw [if_neg c6]
      by_cases c7 : ((xs (Int32.toNatClampNeg (nI i))) &&& 63) = 7
      · rw [if_pos c7]
        exact two_ok (st_rehearse (by omega) h _) ih
      rw [if_neg c7]
      by_cases c8 : ((xs (Int32.toNatClampNeg (nI i))) &&& 63) = 8
      · rw [if_pos c8]
        exact two_ok (st_jumps (by omega) h _ _) ih
      rw [if_neg c8]
      by_cases c9 : ((xs (Int32.toNatClampNeg (nI i))) &&& 63) = 9
      · rw [if_pos c9]
        exact two_ok (st_behind (by omega) h _) ih
      rw [if_neg c9]
      by_cases c10 : ((xs (Int32.toNatClampNeg (nI i))) &&& 63) = 10
      · rw [if_pos c10]
        exact two_ok (st_way (by omega) h _ _) ih
      rw [if_neg c10]
      by_cases c11 : ((xs (Int32.toNatClampNeg (nI i))) &&& 63) = 11
      · rw [if_pos c11]
        exact two_ok (st_night (by omega) h _) ih
      rw [if_neg c11]
      by_cases c12 : ((xs (Int32.toNatClampNeg (nI i))) &&& 63) = 12
      · rw [if_pos c12]
        exact two_ok (st_told h _) ih
      rw [if_neg c12]
      by_cases c13 : ((xs (Int32.toNatClampNeg (nI i))) &&& 63) = 13
      · rw [if_pos c13]
        exact two_ok (st_said h _ _) ih
      rw [if_neg c13]
      by_cases c14 : ((xs (Int32.toNatClampNeg (nI i))) &&& 63) = 14
      · rw [if_pos c14]
        exact two_ok (st_mean (by omega) h _ _ _) ih
      rw [if_neg c14]
      by_cases c15 : ((xs (Int32.toNatClampNeg (nI i))) &&& 63) = 15
      · rw [if_pos c15]
        exact two_ok (st_tape (by omega) h _ _) ih
      rw [if_neg c15]
      by_cases c16 : ((xs (Int32.toNatClampNeg (nI i))) &&& 63) = 16
      · rw [if_pos c16]
        exact two_ok (st_prompt (by omega) h _ _) ih
      rw [if_neg c16]
      by_cases c17 : ((xs (Int32.toNatClampNeg (nI i))) &&& 63) = 17
      · rw [if_pos c17]
        exact two_ok (st_evenings (by omega) h _ _) ih
      rw [if_neg c17]
      by_cases c18 : ((xs (Int32.toNatClampNeg (nI i))) &&& 63) = 18
      · rw [if_pos c18]
        exact two_ok (st_cut (by omega) h _ _) ih
      rw [if_neg c18]
      by_cases c19 : ((xs (Int32.toNatClampNeg (nI i))) &&& 63) = 19
      · rw [if_pos c19]
        exact two_ok (st_newspaper (by omega) h _ _) ih
      rw [if_neg c19]
      by_cases c20 : ((xs (Int32.toNatClampNeg (nI i))) &&& 63) = 20
      · rw [if_pos c20]
        exact two_ok (st_image (by omega) h) ih
      rw [if_neg c20]
      by_cases c21 : ((xs (Int32.toNatClampNeg (nI i))) &&& 63) = 21
      · rw [if_pos c21]
        exact two_ok (st_back (by omega) h) ih
      rw [if_neg c21]
      by_cases c22 : ((xs (Int32.toNatClampNeg (nI i))) &&& 63) = 22
      · rw [if_pos c22]
        exact two_ok (st_undo h) ih
      rw [if_neg c22]
      by_cases c23 : ((xs (Int32.toNatClampNeg (nI i))) &&& 63) = 23
      · rw [if_pos c23]
        exact two_ok (st_redo h) ih
      rw [if_neg c23]
      by_cases c24 : ((xs (Int32.toNatClampNeg (nI i))) &&& 63) = 24
      · rw [if_pos c24]
        exact two_ok (st_body h _) ih
      rw [if_neg c24]
      by_cases c25 : ((xs (Int32.toNatClampNeg (nI i))) &&& 63) = 25
      · rw [if_pos c25]
        exact two_ok (st_act (by omega) h _ _ _) ih
      rw [if_neg c25]
      by_cases c26 : ((xs (Int32.toNatClampNeg (nI i))) &&& 63) = 26
      · rw [if_pos c26]
        exact two_ok (st_trace h _) ih
      rw [if_neg c26]
      by_cases c27 : ((xs (Int32.toNatClampNeg (nI i))) &&& 63) = 27
      · rw [if_pos c27]
        exact two_ok (st_keep h _ _) ih
      rw [if_neg c27]
      by_cases c28 : ((xs (Int32.toNatClampNeg (nI i))) &&& 63) = 28
      · rw [if_pos c28]
        exact two_ok (st_row (by omega) h _ _ _) ih
      rw [if_neg c28]
      by_cases c29 : ((xs (Int32.toNatClampNeg (nI i))) &&& 63) = 29
      · rw [if_pos c29]
        exact two_ok (st_put h _ _ _) ih
      rw [if_neg c29]
      by_cases c30 : ((xs (Int32.toNatClampNeg (nI i))) &&& 63) = 30
      · rw [if_pos c30]
        exact two_okL (st_element h _ _) ih
      rw [if_neg c30]
      by_cases c31 : ((xs (Int32.toNatClampNeg (nI i))) &&& 63) = 31
      · rw [if_pos c31]
        exact two_ok (st_shift (by omega) h _ _ _ _ _) ih
      rw [if_neg c31]
      by_cases c32 : ((xs (Int32.toNatClampNeg (nI i))) &&& 63) = 32
      · rw [if_pos c32]
        exact two_ok (st_taken (by omega) h _ _) ih
      rw [if_neg c32]
      by_cases c33 : ((xs (Int32.toNatClampNeg (nI i))) &&& 63) = 33
      · rw [if_pos c33]
        exact two_ok (st_count h _) ih
      rw [if_neg c33]
      exact ih S h
theorem pure_law_go (L : Nat) (xs : Nat → Int32) (hL : L ≤ 384) : ∃ (N n : Nat) (S' : St), F_L_law_18 L xs N n 0 S0 = some (1, S') := by
  obtain ⟨S', h⟩ := law_go (xs := xs) (N := 1000000000) (Nat.le_refl _) hL L 0 S0 Inv_start (Nat.zero_le _) (by omega)
  exact ⟨1000000000, L + 1, S', h⟩
