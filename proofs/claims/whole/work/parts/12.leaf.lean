theorem lc_s {x : Nat × Value} {l l2 : List (Nat × Value)} (t : l = l2) : x :: l = x :: l2 := by rw [t]
theorem lc_i {k : Nat} {a b : Int} {l l2 : List (Nat × Value)} (h : a = b) (t : l = l2) : (k, Value.int (iI a)) :: l = (k, Value.int (iI b)) :: l2 := by rw [h, t]
theorem lc_j {k : Nat} {a b : Int} {l l2 : List (Nat × Value)} (h : a = b) (t : l = l2) : (k, Value.long (jI a)) :: l = (k, Value.long (jI b)) :: l2 := by rw [h, t]
theorem lv_cast {ls : Array Slot} {n : Nat} {l l2 : List (Nat × Value)} (h : lv_has ls n l) (e : l = l2) : lv_has ls n l2 := e ▸ h
set_option maxHeartbeats 4000000 in
set_option maxRecDepth 100000 in
theorem c_X6_within {l : Launch} (a b c : Int) (ha : -2147483648 ≤ a ∧ a < 2147483648) (hb_ : -2147483648 ≤ b ∧ b < 2147483648) (hc_ : -2147483648 ≤ c ∧ c < 2147483648) : Met l yX6_within wsX6_within ({ frames := 0, cells := 0, slots := 0, locals := 0 }) (fun v _ => v = ([.int (iI a), .int (iI b), .int (iI c)] : List Value).toArray) (nRd (.int (iI (bI (a ≤ b ∧ b ≤ c))))) 0 0 (fun _ => False) := by
  refine n_ent0 (cc := cX6_within) (maxL := 3) (ret := (some .boolean)) (by decide) rfl (Nat.le_of_ble_eq_true rfl) ?_
  intro p e s m below meth cd hx hb hr hml hlocks hts hown Q hQ ls hl
  have hown : s.vm.findClass RX6 = some m.cls := hown
  have hl : lv_has ls 3 [(0, .int (iI a)), (1, .int (iI b)), (2, .int (iI c))] := hl
  refine lv_iload_n hx hb dX6_within_0 rfl (lv_at hl 0 rfl) ?_
  refine lv_iload_n hx hb dX6_within_1 rfl (lv_at hl 1 rfl) ?_
  refine n_icmp_gt (tgt := 14) hx hb dX6_within_2 (by decide) (by omega) (by omega) (fun hc2 => ?_) (fun hc2 => ?_)
  · skip
    refine n_iconst hx hb dX6_within_14 ?_
    exact n_zretR hQ hx hb hr hlocks (by unfold bI; split <;> omega) dX6_within_15
  · skip
    refine lv_iload_n hx hb dX6_within_5 rfl (lv_at hl 1 rfl) ?_
    refine lv_iload_n hx hb dX6_within_6 rfl (lv_at hl 2 rfl) ?_
    refine n_icmp_gt (tgt := 14) hx hb dX6_within_7 (by decide) (by omega) (by omega) (fun hc7 => ?_) (fun hc7 => ?_)
    · skip
      refine n_iconst hx hb dX6_within_14 ?_
      exact n_zretR hQ hx hb hr hlocks (by unfold bI; split <;> omega) dX6_within_15
    · skip
      refine n_iconst hx hb dX6_within_10 ?_
      refine lv_goto (tgt := 15) hx hb dX6_within_11 (by decide) ?_
      exact n_zretR hQ hx hb hr hlocks (by unfold bI; split <;> omega) dX6_within_15
set_option maxHeartbeats 4000000 in
set_option maxRecDepth 100000 in
theorem c_X6_isRule {l : Launch} (a : Int) (ha : -2147483648 ≤ a ∧ a < 2147483648) : Met l yX6_isRule wsX6_isRule ({ frames := 1, cells := 0, slots := 0, locals := 22 }) (fun v _ => v = ([.int (iI a)] : List Value).toArray) (nRd (.int (iI (bI (0 ≤ a ∧ a ≤ 3))))) 0 0 (fun _ => False) := by
  refine n_ent0 (cc := cX6_isRule) (maxL := 1) (ret := (some .boolean)) (by decide) rfl (Nat.le_of_ble_eq_true rfl) ?_
  intro p e s m below meth cd hx hb hr hml hlocks hts hown Q hQ ls hl
  have hown : s.vm.findClass RX6 = some m.cls := hown
  have hl : lv_has ls 1 [(0, .int (iI a))] := hl
  refine n_iconst hx hb dX6_isRule_0 ?_
  refine lv_iload_n hx hb dX6_isRule_1 rfl (lv_at hl 0 rfl) ?_
  refine n_iconst hx hb dX6_isRule_2 ?_
  refine n_rdF (va_runS (As := [.int (iI 0), .int (iI a), .int (iI 3)]) (rest := []) ⟨hx, hb, hml, hown, hts⟩ (c_X6_within 0 a 3 (by omega) (by omega) (by omega)) (va_cwS 3 hts (nT_S wl_X6_49 wt_X6_within wn_X6 wc_X6_within) rfl rfl rfl (by decide +kernel) ⟨Nat.le_of_ble_eq_true rfl, Nat.le_of_ble_eq_true rfl⟩) preEq rfl rfl hl.1 rfl (lv_room (Nat.le_of_ble_eq_true rfl)) dX6_isRule_3 ⟨Nat.zero_le _, Nat.zero_le _⟩) ?_
  exact n_zretR hQ hx hb hr hlocks rfl dX6_isRule_6
set_option maxHeartbeats 4000000 in
set_option maxRecDepth 100000 in
theorem c_X6_isSum {l : Launch} (a : Int) (ha : -2147483648 ≤ a ∧ a < 2147483648) : Met l yX6_isSum wsX6_isSum ({ frames := 1, cells := 0, slots := 0, locals := 22 }) (fun v _ => v = ([.int (iI a)] : List Value).toArray) (nRd (.int (iI (bI (0 ≤ a ∧ a ≤ 2000))))) 0 0 (fun _ => False) := by
  refine n_ent0 (cc := cX6_isSum) (maxL := 1) (ret := (some .boolean)) (by decide) rfl (Nat.le_of_ble_eq_true rfl) ?_
  intro p e s m below meth cd hx hb hr hml hlocks hts hown Q hQ ls hl
  have hown : s.vm.findClass RX6 = some m.cls := hown
  have hl : lv_has ls 1 [(0, .int (iI a))] := hl
  refine n_iconst hx hb dX6_isSum_0 ?_
  refine lv_iload_n hx hb dX6_isSum_1 rfl (lv_at hl 0 rfl) ?_
  refine n_sipush hx hb dX6_isSum_2 (by decide) ?_
  refine n_rdF (va_runS (As := [.int (iI 0), .int (iI a), .int (iI 2000)]) (rest := []) ⟨hx, hb, hml, hown, hts⟩ (c_X6_within 0 a 2000 (by omega) (by omega) (by omega)) (va_cwS 3 hts (nT_S wl_X6_49 wt_X6_within wn_X6 wc_X6_within) rfl rfl rfl (by decide +kernel) ⟨Nat.le_of_ble_eq_true rfl, Nat.le_of_ble_eq_true rfl⟩) preEq rfl rfl hl.1 rfl (lv_room (Nat.le_of_ble_eq_true rfl)) dX6_isSum_5 ⟨Nat.zero_le _, Nat.zero_le _⟩) ?_
  exact n_zretR hQ hx hb hr hlocks rfl dX6_isSum_8
set_option maxHeartbeats 4000000 in
set_option maxRecDepth 100000 in
theorem c_X6_wholeTimes {l : Launch} (a d : Int) (ha : 0 ≤ a ∧ a < 2147483648) (hd : 0 < d ∧ d < 2147483648) : Met l yX6_wholeTimes wsX6_wholeTimes ({ frames := 0, cells := 0, slots := 0, locals := 0 }) (fun v _ => v = ([.int (iI a), .int (iI d)] : List Value).toArray) (nRd (.int (iI (a / d)))) 0 0 (fun _ => False) := by
  refine n_ent0 (cc := cX6_wholeTimes) (maxL := 2) (ret := (some .int)) (by decide) rfl (Nat.le_of_ble_eq_true rfl) ?_
  intro p e s m below meth cd hx hb hr hml hlocks hts hown Q hQ ls hl
  have hown : s.vm.findClass RX6 = some m.cls := hown
  have hl : lv_has ls 2 [(0, .int (iI a)), (1, .int (iI d))] := hl
  refine lv_iload_n hx hb dX6_wholeTimes_0 rfl (lv_at hl 1 rfl) ?_
  refine n_iconst hx hb dX6_wholeTimes_1 ?_
  refine n_icmp_ge (tgt := 9) hx hb dX6_wholeTimes_2 (by decide) (by omega) (by omega) (fun hc2 => ?_) (fun hc2 => ?_)
  · skip
    refine lv_iload_n hx hb dX6_wholeTimes_9 rfl (lv_at hl 0 rfl) ?_
    refine lv_iload_n hx hb dX6_wholeTimes_10 rfl (lv_at hl 1 rfl) ?_
    refine n_idivN hx hb dX6_wholeTimes_11 (by omega) (by omega) ?_
    exact n_iretR hQ hx hb hr hlocks rfl dX6_wholeTimes_12
  · skip
    refine n_iconst hx hb dX6_wholeTimes_5 ?_
    refine lv_goto (tgt := 12) hx hb dX6_wholeTimes_6 (by decide) ?_
    exact n_iretR hQ hx hb hr hlocks (by omega) dX6_wholeTimes_12
set_option maxHeartbeats 4000000 in
set_option maxRecDepth 100000 in
theorem c_X1_isCoin {l : Launch} {G : nG} {N : Nat} {ad : Nat → Nat} {w : Nat → va_E} {sz : Nat} (i cnt : Nat) (z : Int) (hN : i + 3 < N) (hc : cnt ≤ 8) (hz : -2147483648 ≤ z ∧ z < 2147483648) (f_o : w i = .inr (1, [.int (iI ((cnt : Nat) : Int)), .ref (ad (i + 1)), .ref (ad (i + 2)), .ref (ad (i + 3))])) : Met l yX1_isCoin wsX1_isCoin ({ frames := 1, cells := 0, slots := 0, locals := 22 }) (va_Pc [.ref (ad i), .int (iI z)] (nB G N ad w sz)) (nRd (.int (iI (bI (0 ≤ z ∧ z < cnt))))) 0 0 (fun _ => False) := by
  refine n_ent (cc := cX1_isCoin) (maxL := 2) (ret := (some .boolean)) (by decide) rfl (Nat.le_of_ble_eq_true rfl) ?_
  intro p e s m below meth cd hx hb hr hml hlocks hts hown hnm hsz hP hK hI Q hQ ls hl
  have hown : s.vm.findClass RX1 = some m.cls := hown
  have hl : lv_has ls 2 [(0, .ref (ad i)), (1, .int (iI z))] := hl
  refine n_iconst hx hb dX1_isCoin_0 ?_
  refine lv_iload_n hx hb dX1_isCoin_1 rfl (lv_at hl 1 rfl) ?_
  refine lv_aload_n hx hb dX1_isCoin_2 rfl (lv_at hl 0 rfl) ?_
  refine n_get hx hb hts u_X1 hown hK hP (by omega) f_o rfl 0 (by decide) (nT_m wf_X1_9) rfl dX1_isCoin_3 ?_
  refine n_iconst hx hb dX1_isCoin_6 ?_
  refine n_isub hx hb dX1_isCoin_7 ?_
  refine n_rdF (va_runSN (As := [.int (iI 0), .int (iI z), .int (iI (((cnt : Nat) : Int) - 1))]) (rest := []) ⟨hx, hb, hml, hown, hts⟩ (c_X6_within 0 z (((cnt : Nat) : Int) - 1) (by omega) (by omega) (by omega)) ⟨va_cnB 3 hts (nT_N wc_X6_within) rfl rfl rfl (hK.2 _ (List.mem_of_getElem? (i := 4) rfl)) (hts _ (nT_m wn_X6)) (by decide +kernel) ⟨Nat.le_of_ble_eq_true rfl, Nat.le_of_ble_eq_true rfl⟩, hts _ (nT_m wt_X6_within), trivial⟩ preEq rfl rfl hl.1 rfl (lv_room (Nat.le_of_ble_eq_true rfl)) dX1_isCoin_8 ⟨Nat.zero_le _, Nat.zero_le _⟩) ?_
  exact n_zretR hQ hx hb hr hlocks (bI_c (by omega)) dX1_isCoin_11
theorem iI_wrap (z : Int) : iI (z + 4294967296) = iI z := by
  rw [← iI_add]
  have h : iI 4294967296 = 0 := by decide
  rw [h, Int32.add_zero]
theorem c_X1_isCoinW {l : Launch} {G : nG} {N : Nat} {ad : Nat → Nat} {w : Nat → va_E} {sz : Nat} (i cnt : Nat) (z : Int) (hN : i + 3 < N) (hc : cnt ≤ 8) (hz : -2147483648 ≤ z ∧ z < 2147483648) (f_o : w i = .inr (1, [.int (iI ((cnt : Nat) : Int)), .ref (ad (i + 1)), .ref (ad (i + 2)), .ref (ad (i + 3))])) : Met l yX1_isCoin wsX1_isCoin ({ frames := 1, cells := 0, slots := 0, locals := 22 }) (va_Pc [.ref (ad i), .int (iI (z - 10))] (nB G N ad w sz)) (nRd (.int (iI (bI (10 ≤ z ∧ z < 10 + (cnt : Int)))))) 0 0 (fun _ => False) := by
  by_cases h : -2147483648 ≤ z - 10
  · have e1 : bI (10 ≤ z ∧ z < 10 + (cnt : Int)) = bI (0 ≤ z - 10 ∧ z - 10 < (cnt : Int)) := bI_c (by omega)
    rw [e1]
    exact c_X1_isCoin i cnt (z - 10) hN hc (by omega) f_o
  · have e1 : bI (10 ≤ z ∧ z < 10 + (cnt : Int)) = bI (0 ≤ z - 10 + 4294967296 ∧ z - 10 + 4294967296 < (cnt : Int)) := bI_c (by omega)
    rw [e1, ← iI_wrap (z - 10)]
    exact c_X1_isCoin i cnt (z - 10 + 4294967296) hN hc (by omega) f_o
