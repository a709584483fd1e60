
theorem nUp_t {ru st ov sp : Nat} (h : (ru = 1 ∧ 0 < ov) ∨ (ru = 2 ∧ sp ≤ 2 * ov) ∨ (ru = 3 ∧ (sp < 2 * ov ∨ (2 * ov = sp ∧ st % 2 = 1)))) : nUp ru st ov sp = true := by
  unfold nUp
  rcases h with ⟨rfl, h⟩ | ⟨rfl, h⟩ | ⟨rfl, h⟩
  · simpa using h
  · simpa using h
  · simpa using h
theorem nUp_f {ru st ov sp : Nat} (h : ¬ ((ru = 1 ∧ 0 < ov) ∨ (ru = 2 ∧ sp ≤ 2 * ov) ∨ (ru = 3 ∧ (sp < 2 * ov ∨ (2 * ov = sp ∧ st % 2 = 1))))) : nUp ru st ov sp = false := by
  unfold nUp
  split
  · exact decide_eq_false (by omega)
  · split
    · exact decide_eq_false (by omega)
    · split
      · exact decide_eq_false (by omega)
      · rfl
theorem mPr_u {pa sp stp c : Nat} (h : nUp c (pa / sp) (pa % sp) sp = true) : ((stp : Nat) : Int) * (((pa / sp : Nat) : Int) + 1) = ((nPr pa sp stp c : Nat) : Int) := by
  unfold nPr
  rw [if_pos h, Nat.mul_comm, Int.natCast_mul]
  rfl
theorem mPr_d {pa sp stp c : Nat} (h : nUp c (pa / sp) (pa % sp) sp = false) : ((stp : Nat) : Int) * ((pa / sp : Nat) : Int) = ((nPr pa sp stp c : Nat) : Int) := by
  unfold nPr
  rw [if_neg (by rw [h]; decide), Nat.mul_comm, Int.natCast_mul]
set_option maxHeartbeats 4000000 in
set_option maxRecDepth 100000 in
theorem c_X7_in {l : Launch} (v1 a b : Int) (hv : -2147483648 ≤ v1 ∧ v1 < 2147483648) (ha : -2147483648 ≤ a ∧ a < 2147483648) (hb_ : -2147483648 ≤ b ∧ b < 2147483648) : Met l yX7_in wsX7_in ({ frames := 0, cells := 0, slots := 0, locals := 0 }) (fun v _ => v = ([.int (iI v1), .int (iI a), .int (iI b)] : List Value).toArray) (nRd (.int (iI (bI (a ≤ v1 ∧ v1 ≤ b))))) 0 0 (fun _ => False) := by
  refine n_ent0 (cc := cX7_in) (maxL := 3) (ret := (some .boolean)) (by decide) rfl (Nat.le_of_ble_eq_true rfl) ?_
  intro p e s m below meth cd hx hb hr hml hlocks hts hown Q hQ ls hl
  have hown : s.vm.findClass RX7 = some m.cls := hown
  have hl : lv_has ls 3 [(0, .int (iI v1)), (1, .int (iI a)), (2, .int (iI b))] := hl
  refine lv_iload_n hx hb dX7_in_0 rfl (lv_at hl 0 rfl) ?_
  refine lv_iload_n hx hb dX7_in_1 rfl (lv_at hl 1 rfl) ?_
  refine n_icmp_lt (tgt := 14) hx hb dX7_in_2 (by decide) (by omega) (by omega) (fun hc2 => ?_) (fun hc2 => ?_)
  · skip
    refine n_iconst hx hb dX7_in_14 ?_
    exact n_zretR hQ hx hb hr hlocks (by unfold bI; split <;> omega) dX7_in_15
  · skip
    refine lv_iload_n hx hb dX7_in_5 rfl (lv_at hl 0 rfl) ?_
    refine lv_iload_n hx hb dX7_in_6 rfl (lv_at hl 2 rfl) ?_
    refine n_icmp_gt (tgt := 14) hx hb dX7_in_7 (by decide) (by omega) (by omega) (fun hc7 => ?_) (fun hc7 => ?_)
    · skip
      refine n_iconst hx hb dX7_in_14 ?_
      exact n_zretR hQ hx hb hr hlocks (by unfold bI; split <;> omega) dX7_in_15
    · skip
      refine n_iconst hx hb dX7_in_10 ?_
      refine lv_goto (tgt := 15) hx hb dX7_in_11 (by decide) ?_
      exact n_zretR hQ hx hb hr hlocks (by unfold bI; split <;> omega) dX7_in_15
set_option maxHeartbeats 4000000 in
set_option maxRecDepth 100000 in
theorem c_X7_cell {l : Launch} (t s1 q : Nat) (ht : t < 4) (hs : s1 < 2) (hq : q < 8) : Met l yX7_cell wsX7_cell ({ frames := 0, cells := 0, slots := 0, locals := 0 }) (fun v _ => v = ([.int (iI ((t : Nat) : Int)), .int (iI ((s1 : Nat) : Int)), .int (iI ((q : Nat) : Int))] : List Value).toArray) (nRd (.int (iI ((16 * t + 8 * s1 + q : Nat) : Int)))) 0 0 (fun _ => False) := by
  refine n_ent0 (cc := cX7_cell) (maxL := 3) (ret := (some .int)) (by decide) rfl (Nat.le_of_ble_eq_true rfl) ?_
  intro p e s m below meth cd hx hb hr hml hlocks hts hown Q hQ ls hl
  have hown : s.vm.findClass RX7 = some m.cls := hown
  have hl : lv_has ls 3 [(0, .int (iI ((t : Nat) : Int))), (1, .int (iI ((s1 : Nat) : Int))), (2, .int (iI ((q : Nat) : Int)))] := hl
  refine n_bipush hx hb dX7_cell_0 (by decide) ?_
  refine n_iconst hx hb dX7_cell_2 ?_
  refine lv_iload_n hx hb dX7_cell_3 rfl (lv_at hl 0 rfl) ?_
  refine n_imul hx hb dX7_cell_4 ?_
  refine lv_iload_n hx hb dX7_cell_5 rfl (lv_at hl 1 rfl) ?_
  refine n_iadd hx hb dX7_cell_6 ?_
  refine n_imul hx hb dX7_cell_7 ?_
  refine lv_iload_n hx hb dX7_cell_8 rfl (lv_at hl 2 rfl) ?_
  refine n_iadd hx hb dX7_cell_9 ?_
  exact n_iretR hQ hx hb hr hlocks (by omega) dX7_cell_10
set_option maxHeartbeats 4000000 in
set_option maxRecDepth 100000 in
theorem c_X7_isCoin {l : Launch} {G : nG} {N : Nat} {ad : Nat → Nat} {w : Nat → va_E} {sz : Nat} (y : Nat) (Co : Nat → Nat) (yz z : Int) (hN : y + 26 < N) (hCo : ∀ k, k < 2 → Co k ≤ 8) (hy : -2147483648 ≤ yz ∧ yz < 2147483648) (hz : -2147483648 ≤ z ∧ z < 2147483648) (f_y : w y = .inr (7, [.int (iI 0), .ref (ad (y + 1)), .ref (ad (y + 2)), .ref (ad (y + 3)), .ref (ad (y + 4)), .ref (ad (y + 5)), .ref (ad (y + 6)), .ref (ad (y + 7)), .ref (ad (y + 8)), .ref (ad (y + 9)), .ref (ad (y + 10)), .ref (ad (y + 11)), .ref (ad (y + 12)), .ref (ad (y + 13)), .ref (ad (y + 14)), .ref (ad (y + 15)), .ref (ad (y + 16)), .ref (ad (y + 17)), .ref (ad (y + 18)), .ref (ad (y + 19)), .ref (ad (y + 20)), .ref (ad (y + 21)), .ref (ad (y + 22)), .ref (ad (y + 23)), .ref (ad (y + 24)), .ref (ad (y + 25)), .ref (ad (y + 26))])) (f_Co : w (y + 1) = aI G 8 (fun q => (Co q : Int))) : Met l yX7_isCoin wsX7_isCoin ({ frames := 1, cells := 0, slots := 0, locals := 22 }) (va_Pc [.ref (ad y), .int (iI yz), .int (iI z)] (nB G N ad w sz)) (nRd (.int (iI (bI ((yz = 0 ∨ yz = 1) ∧ 0 ≤ z ∧ z < (Co (yz).toNat : Int)))))) 0 0 (fun _ => False) := by
  refine n_ent (cc := cX7_isCoin) (maxL := 3) (ret := (some .boolean)) (by decide) rfl (Nat.le_of_ble_eq_true rfl) ?_
  intro p e s m below meth cd hx hb hr hml hlocks hts hown hnm hsz hP hK hI Q hQ ls hl
  have hown : s.vm.findClass RX7 = some m.cls := hown
  have hl : lv_has ls 3 [(0, .ref (ad y)), (1, .int (iI yz)), (2, .int (iI z))] := hl
  refine lv_iload_n hx hb dX7_isCoin_0 rfl (lv_at hl 1 rfl) ?_
  refine n_iconst hx hb dX7_isCoin_1 ?_
  refine n_iconst hx hb dX7_isCoin_2 ?_
  refine n_rdF (va_runS (As := [.int (iI yz), .int (iI 0), .int (iI 1)]) (rest := []) ⟨hx, hb, hml, hown, hts⟩ (c_X7_in yz 0 1 (by omega) (by omega) (by omega)) (va_cwS 3 hts (nT_S wl_X7_98 wt_X7_in wn_X7 wc_X7_in) rfl rfl rfl (by decide +kernel) ⟨Nat.le_of_ble_eq_true rfl, Nat.le_of_ble_eq_true rfl⟩) preEq rfl rfl hl.1 rfl (lv_room (Nat.le_of_ble_eq_true rfl)) dX7_isCoin_3 ⟨Nat.zero_le _, Nat.zero_le _⟩) ?_
  refine n_if_eqB (tgt := 29) hx hb dX7_isCoin_6 (by decide) (fun hc6 => ?_) (fun hc6 => ?_)
  · skip
    refine n_iconst hx hb dX7_isCoin_29 ?_
    exact n_zretR hQ hx hb hr hlocks (by unfold bI; split <;> omega) dX7_isCoin_30
  · skip
    refine lv_iload_n hx hb dX7_isCoin_9 rfl (lv_at hl 2 rfl) ?_
    refine n_iconst hx hb dX7_isCoin_10 ?_
    refine lv_aload_n hx hb dX7_isCoin_11 rfl (lv_at hl 0 rfl) ?_
    refine n_get hx hb hts u_X7 hown hK hP (by omega) f_y rfl 1 (by decide) (nT_m wf_X7_7) rfl dX7_isCoin_12 ?_
    refine lv_iload_n hx hb dX7_isCoin_15 rfl (lv_at hl 1 rfl) ?_
    refine n_iald hx hb hK hP yz.toNat (by omega) f_Co (by omega) (by omega) (by decide) dX7_isCoin_16 ?_
    have ho1 := hCo yz.toNat (by omega)
    refine n_iconst hx hb dX7_isCoin_17 ?_
    refine n_isub hx hb dX7_isCoin_18 ?_
    refine n_rdF (va_runS (As := [.int (iI z), .int (iI 0), .int (iI ((Co yz.toNat : Int) - 1))]) (rest := []) ⟨hx, hb, hml, hown, hts⟩ (c_X7_in z 0 ((Co yz.toNat : Int) - 1) (by omega) (by omega) (by omega)) (va_cwS 3 hts (nT_S wl_X7_98 wt_X7_in wn_X7 wc_X7_in) rfl rfl rfl (by decide +kernel) ⟨Nat.le_of_ble_eq_true rfl, Nat.le_of_ble_eq_true rfl⟩) preEq rfl rfl hl.1 rfl (lv_room (Nat.le_of_ble_eq_true rfl)) dX7_isCoin_19 ⟨Nat.zero_le _, Nat.zero_le _⟩) ?_
    refine n_if_eqB (tgt := 29) hx hb dX7_isCoin_22 (by decide) (fun hc22 => ?_) (fun hc22 => ?_)
    · skip
      refine n_iconst hx hb dX7_isCoin_29 ?_
      exact n_zretR hQ hx hb hr hlocks (by unfold bI; split <;> omega) dX7_isCoin_30
    · skip
      refine n_iconst hx hb dX7_isCoin_25 ?_
      refine lv_goto (tgt := 30) hx hb dX7_isCoin_26 (by decide) ?_
      exact n_zretR hQ hx hb hr hlocks (by unfold bI; split <;> omega) dX7_isCoin_30
set_option maxHeartbeats 4000000 in
set_option maxRecDepth 100000 in
theorem c_X7_isGood {l : Launch} {G : nG} {N : Nat} {ad : Nat → Nat} {w : Nat → va_E} {sz : Nat} (y : Nat) (Go : Nat → Nat) (z : Int) (hN : y + 26 < N) (hGo : ∀ k, k < 1 → Go k ≤ 14) (hz : -2147483648 ≤ z ∧ z < 2147483648) (f_y : w y = .inr (7, [.int (iI 0), .ref (ad (y + 1)), .ref (ad (y + 2)), .ref (ad (y + 3)), .ref (ad (y + 4)), .ref (ad (y + 5)), .ref (ad (y + 6)), .ref (ad (y + 7)), .ref (ad (y + 8)), .ref (ad (y + 9)), .ref (ad (y + 10)), .ref (ad (y + 11)), .ref (ad (y + 12)), .ref (ad (y + 13)), .ref (ad (y + 14)), .ref (ad (y + 15)), .ref (ad (y + 16)), .ref (ad (y + 17)), .ref (ad (y + 18)), .ref (ad (y + 19)), .ref (ad (y + 20)), .ref (ad (y + 21)), .ref (ad (y + 22)), .ref (ad (y + 23)), .ref (ad (y + 24)), .ref (ad (y + 25)), .ref (ad (y + 26))])) (f_Go : w (y + 5) = aI G 4 (fun q => (Go q : Int))) : Met l yX7_isGood wsX7_isGood ({ frames := 1, cells := 0, slots := 0, locals := 22 }) (va_Pc [.ref (ad y), .int (iI z)] (nB G N ad w sz)) (nRd (.int (iI (bI (0 ≤ z ∧ z < (Go 0 : Int)))))) 0 0 (fun _ => False) := by
  refine n_ent (cc := cX7_isGood) (maxL := 2) (ret := (some .boolean)) (by decide) rfl (Nat.le_of_ble_eq_true rfl) ?_
  intro p e s m below meth cd hx hb hr hml hlocks hts hown hnm hsz hP hK hI Q hQ ls hl
  have hown : s.vm.findClass RX7 = some m.cls := hown
  have hl : lv_has ls 2 [(0, .ref (ad y)), (1, .int (iI z))] := hl
  refine lv_iload_n hx hb dX7_isGood_0 rfl (lv_at hl 1 rfl) ?_
  refine n_iconst hx hb dX7_isGood_1 ?_
  refine lv_aload_n hx hb dX7_isGood_2 rfl (lv_at hl 0 rfl) ?_
  refine n_get hx hb hts u_X7 hown hK hP (by omega) f_y rfl 5 (by decide) (nT_m wf_X7_22) rfl dX7_isGood_3 ?_
  refine n_iconst hx hb dX7_isGood_6 ?_
  refine n_iald hx hb hK hP 0 (by omega) f_Go (by omega) (by omega) (by decide) dX7_isGood_7 ?_
  have ho1 := hGo 0 (by omega)
  refine n_iconst hx hb dX7_isGood_8 ?_
  refine n_isub hx hb dX7_isGood_9 ?_
  refine n_rdF (va_runS (As := [.int (iI z), .int (iI 0), .int (iI ((Go 0 : Int) - 1))]) (rest := []) ⟨hx, hb, hml, hown, hts⟩ (c_X7_in z 0 ((Go 0 : Int) - 1) (by omega) (by omega) (by omega)) (va_cwS 3 hts (nT_S wl_X7_98 wt_X7_in wn_X7 wc_X7_in) rfl rfl rfl (by decide +kernel) ⟨Nat.le_of_ble_eq_true rfl, Nat.le_of_ble_eq_true rfl⟩) preEq rfl rfl hl.1 rfl (lv_room (Nat.le_of_ble_eq_true rfl)) dX7_isGood_10 ⟨Nat.zero_le _, Nat.zero_le _⟩) ?_
  exact n_zretR hQ hx hb hr hlocks (bI_c (by omega)) dX7_isGood_13
set_option maxHeartbeats 4000000 in
set_option maxRecDepth 100000 in
theorem c_X7_isTill {l : Launch} {G : nG} {N : Nat} {ad : Nat → Nat} {w : Nat → va_E} {sz : Nat} (y : Nat) (Tl : Nat → Nat) (z : Int) (hN : y + 26 < N) (hTl : ∀ k, k < 1 → Tl k ≤ 4) (hz : -2147483648 ≤ z ∧ z < 2147483648) (f_y : w y = .inr (7, [.int (iI 0), .ref (ad (y + 1)), .ref (ad (y + 2)), .ref (ad (y + 3)), .ref (ad (y + 4)), .ref (ad (y + 5)), .ref (ad (y + 6)), .ref (ad (y + 7)), .ref (ad (y + 8)), .ref (ad (y + 9)), .ref (ad (y + 10)), .ref (ad (y + 11)), .ref (ad (y + 12)), .ref (ad (y + 13)), .ref (ad (y + 14)), .ref (ad (y + 15)), .ref (ad (y + 16)), .ref (ad (y + 17)), .ref (ad (y + 18)), .ref (ad (y + 19)), .ref (ad (y + 20)), .ref (ad (y + 21)), .ref (ad (y + 22)), .ref (ad (y + 23)), .ref (ad (y + 24)), .ref (ad (y + 25)), .ref (ad (y + 26))])) (f_Tl : w (y + 9) = aI G 4 (fun q => (Tl q : Int))) : Met l yX7_isTill wsX7_isTill ({ frames := 1, cells := 0, slots := 0, locals := 22 }) (va_Pc [.ref (ad y), .int (iI z)] (nB G N ad w sz)) (nRd (.int (iI (bI (0 ≤ z ∧ z < (Tl 0 : Int)))))) 0 0 (fun _ => False) := by
  refine n_ent (cc := cX7_isTill) (maxL := 2) (ret := (some .boolean)) (by decide) rfl (Nat.le_of_ble_eq_true rfl) ?_
  intro p e s m below meth cd hx hb hr hml hlocks hts hown hnm hsz hP hK hI Q hQ ls hl
  have hown : s.vm.findClass RX7 = some m.cls := hown
  have hl : lv_has ls 2 [(0, .ref (ad y)), (1, .int (iI z))] := hl
  refine lv_iload_n hx hb dX7_isTill_0 rfl (lv_at hl 1 rfl) ?_
  refine n_iconst hx hb dX7_isTill_1 ?_
  refine lv_aload_n hx hb dX7_isTill_2 rfl (lv_at hl 0 rfl) ?_
  refine n_get hx hb hts u_X7 hown hK hP (by omega) f_y rfl 9 (by decide) (nT_m wf_X7_34) rfl dX7_isTill_3 ?_
  refine n_iconst hx hb dX7_isTill_6 ?_
  refine n_iald hx hb hK hP 0 (by omega) f_Tl (by omega) (by omega) (by decide) dX7_isTill_7 ?_
  have ho1 := hTl 0 (by omega)
  refine n_iconst hx hb dX7_isTill_8 ?_
  refine n_isub hx hb dX7_isTill_9 ?_
  refine n_rdF (va_runS (As := [.int (iI z), .int (iI 0), .int (iI ((Tl 0 : Int) - 1))]) (rest := []) ⟨hx, hb, hml, hown, hts⟩ (c_X7_in z 0 ((Tl 0 : Int) - 1) (by omega) (by omega) (by omega)) (va_cwS 3 hts (nT_S wl_X7_98 wt_X7_in wn_X7 wc_X7_in) rfl rfl rfl (by decide +kernel) ⟨Nat.le_of_ble_eq_true rfl, Nat.le_of_ble_eq_true rfl⟩) preEq rfl rfl hl.1 rfl (lv_room (Nat.le_of_ble_eq_true rfl)) dX7_isTill_10 ⟨Nat.zero_le _, Nat.zero_le _⟩) ?_
  exact n_zretR hQ hx hb hr hlocks (bI_c (by omega)) dX7_isTill_13
set_option maxHeartbeats 4000000 in
set_option maxRecDepth 100000 in
theorem c_X7_isSale {l : Launch} {G : nG} {N : Nat} {ad : Nat → Nat} {w : Nat → va_E} {sz : Nat} (y : Nat) (Co Tl : Nat → Nat) (tz pz yz z nz : Int) (hN : y + 26 < N) (hCo : ∀ k, k < 2 → Co k ≤ 8) (hTl : ∀ k, k < 1 → Tl k ≤ 4) (htz : -2147483648 ≤ tz ∧ tz < 2147483648) (hpz : -2147483648 ≤ pz ∧ pz < 2147483648) (hy : -2147483648 ≤ yz ∧ yz < 2147483648) (hz : -2147483648 ≤ z ∧ z < 2147483648) (hnz : -2147483648 ≤ nz ∧ nz < 2147483648) (f_y : w y = .inr (7, [.int (iI 0), .ref (ad (y + 1)), .ref (ad (y + 2)), .ref (ad (y + 3)), .ref (ad (y + 4)), .ref (ad (y + 5)), .ref (ad (y + 6)), .ref (ad (y + 7)), .ref (ad (y + 8)), .ref (ad (y + 9)), .ref (ad (y + 10)), .ref (ad (y + 11)), .ref (ad (y + 12)), .ref (ad (y + 13)), .ref (ad (y + 14)), .ref (ad (y + 15)), .ref (ad (y + 16)), .ref (ad (y + 17)), .ref (ad (y + 18)), .ref (ad (y + 19)), .ref (ad (y + 20)), .ref (ad (y + 21)), .ref (ad (y + 22)), .ref (ad (y + 23)), .ref (ad (y + 24)), .ref (ad (y + 25)), .ref (ad (y + 26))])) (f_Co : w (y + 1) = aI G 8 (fun q => (Co q : Int))) (f_Tl : w (y + 9) = aI G 4 (fun q => (Tl q : Int))) : Met l yX7_isSale wsX7_isSale ({ frames := 2, cells := 0, slots := 0, locals := 44 }) (va_Pc [.ref (ad y), .int (iI tz), .int (iI pz), .int (iI yz), .int (iI z), .int (iI nz)] (nB G N ad w sz)) (nRd (.int (iI (bI ((0 ≤ tz ∧ tz < (Tl 0 : Int)) ∧ ((1 ≤ pz ∧ pz ≤ 2000) ∧ (1 ≤ nz ∧ nz ≤ 50) ∧ (yz = 0 ∨ yz = 1) ∧ (0 ≤ z ∧ z < (Co (yz).toNat : Int)))))))) 0 0 (fun _ => False) := by
  refine n_ent (cc := cX7_isSale) (maxL := 6) (ret := (some .boolean)) (by decide) rfl (Nat.le_of_ble_eq_true rfl) ?_
  intro p e s m below meth cd hx hb hr hml hlocks hts hown hnm hsz hP hK hI Q hQ ls hl
  have hown : s.vm.findClass RX7 = some m.cls := hown
  have hl : lv_has ls 6 [(0, .ref (ad y)), (1, .int (iI tz)), (2, .int (iI pz)), (3, .int (iI yz)), (4, .int (iI z)), (5, .int (iI nz))] := hl
  refine lv_aload_n hx hb dX7_isSale_0 rfl (lv_at hl 0 rfl) ?_
  refine lv_iload_n hx hb dX7_isSale_1 rfl (lv_at hl 1 rfl) ?_
  refine n_rdF (va_runV (As := [.int (iI tz)]) (rest := []) ⟨hx, hb, hml, hown, hts⟩ (c_X7_isTill _ Tl tz (by omega) hTl (by omega) f_y f_Tl) (cwV 1 hts (nT_V wl_X7_138 wi_X7_isTill ws_X7_isTill wn_X7 wc_X7_isTill) rfl rfl rfl (by decide +kernel) ⟨Nat.le_of_ble_eq_true rfl, Nat.le_of_ble_eq_true rfl⟩) (nB.preV hK hI hP (by omega) f_y rfl rfl) rfl rfl hl.1 rfl (lv_room (Nat.le_of_ble_eq_true rfl)) dX7_isSale_2 ⟨Nat.zero_le _, Nat.zero_le _⟩) ?_
  refine n_if_eqB (tgt := 44) hx hb dX7_isSale_5 (by decide) (fun hc5 => ?_) (fun hc5 => ?_)
  · skip
    refine n_iconst hx hb dX7_isSale_44 ?_
    exact n_zretR hQ hx hb hr hlocks (by unfold bI; split <;> omega) dX7_isSale_45
  · skip
    refine lv_iload_n hx hb dX7_isSale_8 rfl (lv_at hl 2 rfl) ?_
    refine n_iconst hx hb dX7_isSale_9 ?_
    refine n_sipush hx hb dX7_isSale_10 (by decide) ?_
    refine n_rdF (va_runS (As := [.int (iI pz), .int (iI 1), .int (iI 2000)]) (rest := []) ⟨hx, hb, hml, hown, hts⟩ (c_X7_in pz 1 2000 (by omega) (by omega) (by omega)) (va_cwS 3 hts (nT_S wl_X7_98 wt_X7_in wn_X7 wc_X7_in) rfl rfl rfl (by decide +kernel) ⟨Nat.le_of_ble_eq_true rfl, Nat.le_of_ble_eq_true rfl⟩) preEq rfl rfl hl.1 rfl (lv_room (Nat.le_of_ble_eq_true rfl)) dX7_isSale_13 ⟨Nat.zero_le _, Nat.zero_le _⟩) ?_
    refine n_if_eqB (tgt := 44) hx hb dX7_isSale_16 (by decide) (fun hc16 => ?_) (fun hc16 => ?_)
    · skip
      refine n_iconst hx hb dX7_isSale_44 ?_
      exact n_zretR hQ hx hb hr hlocks (by unfold bI; split <;> omega) dX7_isSale_45
    · skip
      refine lv_aload_n hx hb dX7_isSale_19 rfl (lv_at hl 0 rfl) ?_
      refine lv_iload_n hx hb dX7_isSale_20 rfl (lv_at hl 3 rfl) ?_
      refine lv_iload hx hb dX7_isSale_21 (lv_at hl 4 rfl) ?_
      refine n_rdF (va_runV (As := [.int (iI yz), .int (iI z)]) (rest := []) ⟨hx, hb, hml, hown, hts⟩ (c_X7_isCoin _ Co yz z (by omega) hCo (by omega) (by omega) f_y f_Co) (cwV 2 hts (nT_V wl_X7_121 wi_X7_isCoin ws_X7_isCoin wn_X7 wc_X7_isCoin) rfl rfl rfl (by decide +kernel) ⟨Nat.le_of_ble_eq_true rfl, Nat.le_of_ble_eq_true rfl⟩) (nB.preV hK hI hP (by omega) f_y rfl rfl) rfl rfl hl.1 rfl (lv_room (Nat.le_of_ble_eq_true rfl)) dX7_isSale_23 ⟨Nat.zero_le _, Nat.zero_le _⟩) ?_
      refine n_if_eqB (tgt := 44) hx hb dX7_isSale_26 (by decide) (fun hc26 => ?_) (fun hc26 => ?_)
      · skip
        refine n_iconst hx hb dX7_isSale_44 ?_
        exact n_zretR hQ hx hb hr hlocks (by unfold bI; split <;> omega) dX7_isSale_45
      · skip
        refine lv_iload hx hb dX7_isSale_29 (lv_at hl 5 rfl) ?_
        refine n_iconst hx hb dX7_isSale_31 ?_
        refine n_bipush hx hb dX7_isSale_32 (by decide) ?_
        refine n_rdF (va_runS (As := [.int (iI nz), .int (iI 1), .int (iI 50)]) (rest := []) ⟨hx, hb, hml, hown, hts⟩ (c_X7_in nz 1 50 (by omega) (by omega) (by omega)) (va_cwS 3 hts (nT_S wl_X7_98 wt_X7_in wn_X7 wc_X7_in) rfl rfl rfl (by decide +kernel) ⟨Nat.le_of_ble_eq_true rfl, Nat.le_of_ble_eq_true rfl⟩) preEq rfl rfl hl.1 rfl (lv_room (Nat.le_of_ble_eq_true rfl)) dX7_isSale_34 ⟨Nat.zero_le _, Nat.zero_le _⟩) ?_
        refine n_if_eqB (tgt := 44) hx hb dX7_isSale_37 (by decide) (fun hc37 => ?_) (fun hc37 => ?_)
        · skip
          refine n_iconst hx hb dX7_isSale_44 ?_
          exact n_zretR hQ hx hb hr hlocks (by unfold bI; split <;> omega) dX7_isSale_45
        · skip
          refine n_iconst hx hb dX7_isSale_40 ?_
          refine lv_goto (tgt := 45) hx hb dX7_isSale_41 (by decide) ?_
          exact n_zretR hQ hx hb hr hlocks (by unfold bI; split <;> omega) dX7_isSale_45
set_option maxHeartbeats 4000000 in
set_option maxRecDepth 100000 in
theorem c_X7_coin_n {l : Launch} {G : nG} {N : Nat} {ad : Nat → Nat} {w : Nat → va_E} {sz : Nat} (y : Nat) (yz z : Int) (hN : y + 26 < N) (hy : -2147483648 ≤ yz ∧ yz < 2147483648) (hs : ¬ yz = 0 ∧ ¬ yz = 1) (f_y : w y = .inr (7, [.int (iI 0), .ref (ad (y + 1)), .ref (ad (y + 2)), .ref (ad (y + 3)), .ref (ad (y + 4)), .ref (ad (y + 5)), .ref (ad (y + 6)), .ref (ad (y + 7)), .ref (ad (y + 8)), .ref (ad (y + 9)), .ref (ad (y + 10)), .ref (ad (y + 11)), .ref (ad (y + 12)), .ref (ad (y + 13)), .ref (ad (y + 14)), .ref (ad (y + 15)), .ref (ad (y + 16)), .ref (ad (y + 17)), .ref (ad (y + 18)), .ref (ad (y + 19)), .ref (ad (y + 20)), .ref (ad (y + 21)), .ref (ad (y + 22)), .ref (ad (y + 23)), .ref (ad (y + 24)), .ref (ad (y + 25)), .ref (ad (y + 26))])) : Met l yX7_coin wsX7_coin ({ frames := 1, cells := 0, slots := 0, locals := 22 }) (va_Pc [.ref (ad y), .int (iI yz), .int (iI z)] (nB G N ad w sz)) (nPi G N ad sz (fun r u => (∀ j, u j = w j) ∧ (r = -1))) 0 0 (nA N ad sz) := by
  refine n_ent (cc := cX7_coin) (maxL := 4) (ret := (some .int)) (by decide) rfl (Nat.le_of_ble_eq_true rfl) ?_
  intro p e s m below meth cd hx hb hr hml hlocks hts hown hnm hsz hP hK hI Q hQ ls hl
  have hown : s.vm.findClass RX7 = some m.cls := hown
  subst hsz
  have hJ := hI.J s.heap.size
  have hS : va_S (nA N ad s.heap.size) s.heap s.heap [] := va_S.rf
  have hfr : ∀ j, w j = w j := fun _  => rfl
  have hl : lv_has ls 4 [(0, .ref (ad y)), (1, .int (iI yz)), (2, .int (iI z))] := hl
  refine lv_aload_n hx hb dX7_coin_0 rfl (lv_at hl 0 rfl) ?_
  refine n_iconst hx hb dX7_coin_1 ?_
  refine n_put hx hb hts u_X7 tyX7 tyX7_ok nmX7 hown hK hJ hP hS (by omega) f_y rfl 0 (by decide) (nT_m wf_X7_90) rfl rfl rfl (Nat.le_of_ble_eq_true rfl) dX7_coin_2 (fun w1 H locs f9 hne9 hP hS => ?_)
  have ew9 : w = w1 := funext fun j9 => (Decidable.em (j9 = y)).elim (fun h9 => by rw [h9, f9]; exact f_y) (fun h9 => (hne9 j9 h9).symm)
  subst ew9
  refine lv_iload_n hx hb dX7_coin_5 rfl (lv_at hl 1 rfl) ?_
  refine n_iconst hx hb dX7_coin_6 ?_
  refine n_iconst hx hb dX7_coin_7 ?_
  refine n_rdF (va_runS (As := [.int (iI yz), .int (iI 0), .int (iI 1)]) (rest := []) ⟨hx, hb, hml, hown, hts⟩ (c_X7_in yz 0 1 (by omega) (by omega) (by omega)) (va_cwS 3 hts (nT_S wl_X7_98 wt_X7_in wn_X7 wc_X7_in) rfl rfl rfl (by decide +kernel) ⟨Nat.le_of_ble_eq_true rfl, Nat.le_of_ble_eq_true rfl⟩) preEq rfl rfl hl.1 rfl (lv_room (Nat.le_of_ble_eq_true rfl)) dX7_coin_8 ⟨Nat.zero_le _, Nat.zero_le _⟩) ?_
  refine n_if_eqB (tgt := 36) hx hb dX7_coin_11 (by decide) (fun hc11 => ?_) (fun hc11 => ?_)
  · skip
    refine n_iconst hx hb dX7_coin_36 ?_
    refine n_iretP hQ hx hb hr hlocks hP hS dX7_coin_37 ?_
    exact ⟨hfr, rfl⟩
  · skip
    exact absurd hc11 (by omega)
set_option maxHeartbeats 4000000 in
set_option maxRecDepth 100000 in
theorem c_X7_coin_no {l : Launch} {G : nG} {N : Nat} {ad : Nat → Nat} {w : Nat → va_E} {sz : Nat} (y : Nat) (Co Va : Nat → Nat) (sy : Nat) (z : Int) (hN : y + 26 < N) (hCo : ∀ k, k < 2 → Co k ≤ 8) (hVa : ∀ k, k < 16 → Va k ≤ 1000) (hs : sy < 2) (hz : -2147483648 ≤ z ∧ z < 2147483648) (hno : Co sy = 8 ∨ ¬ (1 ≤ z ∧ z ≤ 1000) ∨ anyV (fun q9 => Va (8 * sy + q9)) z (Co sy) = true) (f_y : w y = .inr (7, [.int (iI 0), .ref (ad (y + 1)), .ref (ad (y + 2)), .ref (ad (y + 3)), .ref (ad (y + 4)), .ref (ad (y + 5)), .ref (ad (y + 6)), .ref (ad (y + 7)), .ref (ad (y + 8)), .ref (ad (y + 9)), .ref (ad (y + 10)), .ref (ad (y + 11)), .ref (ad (y + 12)), .ref (ad (y + 13)), .ref (ad (y + 14)), .ref (ad (y + 15)), .ref (ad (y + 16)), .ref (ad (y + 17)), .ref (ad (y + 18)), .ref (ad (y + 19)), .ref (ad (y + 20)), .ref (ad (y + 21)), .ref (ad (y + 22)), .ref (ad (y + 23)), .ref (ad (y + 24)), .ref (ad (y + 25)), .ref (ad (y + 26))])) (f_Co : w (y + 1) = aI G 8 (fun q => (Co q : Int))) (f_Va : w (y + 2) = aI G 64 (fun q => (Va q : Int))) : Met l yX7_coin wsX7_coin ({ frames := 1, cells := 0, slots := 0, locals := 22 }) (va_Pc [.ref (ad y), .int (iI ((sy : Nat) : Int)), .int (iI z)] (nB G N ad w sz)) (nPi G N ad sz (fun r u => (∀ j, u j = w j) ∧ (r = -1))) 0 0 (nA N ad sz) := by
  refine n_ent (cc := cX7_coin) (maxL := 4) (ret := (some .int)) (by decide) rfl (Nat.le_of_ble_eq_true rfl) ?_
  intro p e s m below meth cd hx hb hr hml hlocks hts hown hnm hsz hP hK hI Q hQ ls hl
  have hown : s.vm.findClass RX7 = some m.cls := hown
  subst hsz
  have hJ := hI.J s.heap.size
  have hS : va_S (nA N ad s.heap.size) s.heap s.heap [] := va_S.rf
  have hfr : ∀ j, w j = w j := fun _  => rfl
  have hl : lv_has ls 4 [(0, .ref (ad y)), (1, .int (iI ((sy : Nat) : Int))), (2, .int (iI z))] := hl
  refine lv_aload_n hx hb dX7_coin_0 rfl (lv_at hl 0 rfl) ?_
  refine n_iconst hx hb dX7_coin_1 ?_
  refine n_put hx hb hts u_X7 tyX7 tyX7_ok nmX7 hown hK hJ hP hS (by omega) f_y rfl 0 (by decide) (nT_m wf_X7_90) rfl rfl rfl (Nat.le_of_ble_eq_true rfl) dX7_coin_2 (fun w1 H locs f9 hne9 hP hS => ?_)
  have ew9 : w = w1 := funext fun j9 => (Decidable.em (j9 = y)).elim (fun h9 => by rw [h9, f9]; exact f_y) (fun h9 => (hne9 j9 h9).symm)
  subst ew9
  refine lv_iload_n hx hb dX7_coin_5 rfl (lv_at hl 1 rfl) ?_
  refine n_iconst hx hb dX7_coin_6 ?_
  refine n_iconst hx hb dX7_coin_7 ?_
  refine n_rdF (va_runS (As := [.int (iI ((sy : Nat) : Int)), .int (iI 0), .int (iI 1)]) (rest := []) ⟨hx, hb, hml, hown, hts⟩ (c_X7_in ((sy : Nat) : Int) 0 1 (by omega) (by omega) (by omega)) (va_cwS 3 hts (nT_S wl_X7_98 wt_X7_in wn_X7 wc_X7_in) rfl rfl rfl (by decide +kernel) ⟨Nat.le_of_ble_eq_true rfl, Nat.le_of_ble_eq_true rfl⟩) preEq rfl rfl hl.1 rfl (lv_room (Nat.le_of_ble_eq_true rfl)) dX7_coin_8 ⟨Nat.zero_le _, Nat.zero_le _⟩) ?_
  refine n_if_eqB (tgt := 36) hx hb dX7_coin_11 (by decide) (fun hc11 => ?_) (fun hc11 => ?_)
  · skip
    exact absurd hc11 (by omega)
  · skip
    refine lv_aload_n hx hb dX7_coin_14 rfl (lv_at hl 0 rfl) ?_
    refine n_get hx hb hts u_X7 hown hK hP (by omega) f_y rfl 1 (by decide) (nT_m wf_X7_7) rfl dX7_coin_15 ?_
    refine lv_iload_n hx hb dX7_coin_18 rfl (lv_at hl 1 rfl) ?_
    refine n_iald hx hb hK hP sy (by omega) f_Co (by omega) (by omega) (by decide) dX7_coin_19 ?_
    have ho3 := hCo sy (by omega)
    refine n_bipush hx hb dX7_coin_20 (by decide) ?_
    refine n_icmp_eq (tgt := 36) hx hb dX7_coin_22 (by decide) (by omega) (by omega) (fun hc22 => ?_) (fun hc22 => ?_)
    · skip
      refine n_iconst hx hb dX7_coin_36 ?_
      refine n_iretP hQ hx hb hr hlocks hP hS dX7_coin_37 ?_
      exact ⟨hfr, rfl⟩
    · skip
      refine lv_iload_n hx hb dX7_coin_25 rfl (lv_at hl 2 rfl) ?_
      refine n_iconst hx hb dX7_coin_26 ?_
      refine n_sipush hx hb dX7_coin_27 (by decide) ?_
      refine n_rdF (va_runS (As := [.int (iI z), .int (iI 1), .int (iI 1000)]) (rest := []) ⟨hx, hb, hml, hown, hts⟩ (c_X7_in z 1 1000 (by omega) (by omega) (by omega)) (va_cwS 3 hts (nT_S wl_X7_98 wt_X7_in wn_X7 wc_X7_in) rfl rfl rfl (by decide +kernel) ⟨Nat.le_of_ble_eq_true rfl, Nat.le_of_ble_eq_true rfl⟩) preEq rfl rfl hl.1 rfl (lv_room (Nat.le_of_ble_eq_true rfl)) dX7_coin_30 ⟨Nat.zero_le _, Nat.zero_le _⟩) ?_
      refine n_if_neB (tgt := 38) hx hb dX7_coin_33 (by decide) (fun hc33 => ?_) (fun hc33 => ?_)
      · skip
        refine n_iconst hx hb dX7_coin_38 ?_
        refine lv_istore_n (lv' := [(3, .int (iI 0)), (0, .ref (ad y)), (1, .int (iI ((sy : Nat) : Int))), (2, .int (iI z))]) hx hb dX7_coin_39 rfl hl (by decide) rfl (fun ls hl => ?_)
        have lp4 : ∀ (fu : Nat), ∀ (q : Nat), ∀ (w5 : Nat → va_E) (H : Heap) (locs : List Loc), ∀ (ls : Array Slot), Co sy - q < fu → q ≤ Co sy → anyV (fun q9 => Va (8 * sy + q9)) z q = false → (∀ j, w5 j = w j) → w5 y = .inr (7, [.int (iI 0), .ref (ad (y + 1)), .ref (ad (y + 2)), .ref (ad (y + 3)), .ref (ad (y + 4)), .ref (ad (y + 5)), .ref (ad (y + 6)), .ref (ad (y + 7)), .ref (ad (y + 8)), .ref (ad (y + 9)), .ref (ad (y + 10)), .ref (ad (y + 11)), .ref (ad (y + 12)), .ref (ad (y + 13)), .ref (ad (y + 14)), .ref (ad (y + 15)), .ref (ad (y + 16)), .ref (ad (y + 17)), .ref (ad (y + 18)), .ref (ad (y + 19)), .ref (ad (y + 20)), .ref (ad (y + 21)), .ref (ad (y + 22)), .ref (ad (y + 23)), .ref (ad (y + 24)), .ref (ad (y + 25)), .ref (ad (y + 26))]) → w5 (y + 1) = aI G 8 (fun q => (Co q : Int)) → w5 (y + 2) = aI G 64 (fun q => (Va q : Int)) → va_P G.1 vwCl (nL N ad w5) H → va_S (nA N ad s.heap.size) s.heap H locs → lv_has ls 4 [(0, .ref (ad y)), (1, .int (iI ((sy : Nat) : Int))), (2, .int (iI z)), (3, .int (iI ((q : Nat) : Int)))] → W p l e ({ frames := 1, cells := 0, slots := 0, locals := 22 } : Room) s m ([.ref (ad y), .int (iI ((sy : Nat) : Int)), .int (iI z)] : List Value).toArray below meth cd H locs 0 0 Q (F0 m 40 ls []) := by
          intro fu
          induction fu with
          | zero =>
            intro q w5 H locs ls hfu hq hv hfr f_y f_Co f_Va hP hS hl
            exact absurd hfu (Nat.not_lt_zero _)
          | succ fu ih6 =>
            intro q w5 H locs ls hfu hq hv hfr f_y f_Co f_Va hP hS hl
            have hcs := hCo sy hs
            refine lv_iload_n hx hb dX7_coin_40 rfl (lv_at hl 3 rfl) ?_
            refine lv_aload_n hx hb dX7_coin_41 rfl (lv_at hl 0 rfl) ?_
            refine n_get hx hb hts u_X7 hown hK hP (by omega) f_y rfl 1 (by decide) (nT_m wf_X7_7) rfl dX7_coin_42 ?_
            refine lv_iload_n hx hb dX7_coin_45 rfl (lv_at hl 1 rfl) ?_
            refine n_iald hx hb hK hP sy (by omega) f_Co (by omega) (by omega) (by decide) dX7_coin_46 ?_
            have ho7 := hCo sy (by omega)
            refine n_icmp_ge (tgt := 73) hx hb dX7_coin_47 (by decide) (by omega) (by omega) (fun hc47 => ?_) (fun hc47 => ?_)
            · skip
              exact absurd hno (by intro h9; rcases h9 with h9 | h9 | h9; omega; omega; rw [show Co sy = q by omega, hv] at h9; cases h9)
            · skip
              refine lv_aload_n hx hb dX7_coin_50 rfl (lv_at hl 0 rfl) ?_
              refine n_get hx hb hts u_X7 hown hK hP (by omega) f_y rfl 2 (by decide) (nT_m wf_X7_13) rfl dX7_coin_51 ?_
              refine n_bipush hx hb dX7_coin_54 (by decide) ?_
              refine lv_iload_n hx hb dX7_coin_56 rfl (lv_at hl 1 rfl) ?_
              refine n_imul hx hb dX7_coin_57 ?_
              refine lv_iload_n hx hb dX7_coin_58 rfl (lv_at hl 3 rfl) ?_
              refine n_iadd hx hb dX7_coin_59 ?_
              refine n_iald hx hb hK hP ((8 * sy) + q) (by omega) f_Va (by omega) (by omega) (by decide) dX7_coin_60 ?_
              have ho8 := hVa ((8 * sy) + q) (by omega)
              refine lv_iload_n hx hb dX7_coin_61 rfl (lv_at hl 2 rfl) ?_
              refine n_icmp_ne (tgt := 67) hx hb dX7_coin_62 (by decide) (by omega) (by omega) (fun hc62 => ?_) (fun hc62 => ?_)
              · skip
                refine lv_iinc (v := iI (((q : Nat) : Int) + 1)) (lv' := [(3, .int (iI (((q : Nat) : Int) + 1))), (0, .ref (ad y)), (1, .int (iI ((sy : Nat) : Int))), (2, .int (iI z))]) hx hb dX7_coin_67 hl (k := 3) rfl (by first | exact iI_add _ _ | exact (iI_add _ _).trans (congrArg iI (by omega))) (by decide) rfl (fun ls hl => ?_)
                refine lv_goto (tgt := 40) hx hb dX7_coin_70 (by decide) ?_
                exact ih6 (q + 1) _ _ _ _ (by omega) (by omega) (anyV_f hv hc62) hfr f_y f_Co f_Va hP hS (by first | exact lv_sub hl [1, 2, 3, 0] rfl | exact lv_cast (lv_sub (l' := [(0, .ref (ad y)), (1, .int (iI ((sy : Nat) : Int))), (2, .int (iI z)), (3, .int (iI (((q : Nat) : Int) + 1)))]) hl [1, 2, 3, 0] rfl) (lc_s (lc_s (lc_s (lc_i (show ((((q : Nat) : Int) + 1) : Int) = (((q + 1) : Nat) : Int) by omega) rfl)))))
              · skip
                refine n_iconst hx hb dX7_coin_65 ?_
                refine n_iretP hQ hx hb hr hlocks hP hS dX7_coin_66 ?_
                exact ⟨hfr, rfl⟩
        exact lp4 (Co sy - 0 + 1) 0 _ _ _ _ (Nat.lt_succ_self _) (by omega) rfl hfr f_y f_Co f_Va hP hS (by first | exact lv_sub hl [1, 2, 3, 0] rfl | exact lv_cast (lv_sub (l' := [(0, .ref (ad y)), (1, .int (iI ((sy : Nat) : Int))), (2, .int (iI z)), (3, .int (iI 0))]) hl [1, 2, 3, 0] rfl) (lc_s (lc_s (lc_s (lc_i (show (0 : Int) = ((0 : Nat) : Int) by omega) rfl)))))
      · skip
        refine n_iconst hx hb dX7_coin_36 ?_
        refine n_iretP hQ hx hb hr hlocks hP hS dX7_coin_37 ?_
        exact ⟨hfr, rfl⟩
set_option maxHeartbeats 4000000 in
set_option maxRecDepth 100000 in
theorem c_X7_coin_yes {l : Launch} {G : nG} {N : Nat} {ad : Nat → Nat} {w : Nat → va_E} {sz : Nat} (y : Nat) (Co Va : Nat → Nat) (sy v : Nat) (hN : y + 26 < N) (hCo : ∀ k, k < 2 → Co k ≤ 8) (hVa : ∀ k, k < 16 → Va k ≤ 1000) (hs : sy < 2) (hc : Co sy < 8) (hv : 1 ≤ v ∧ v ≤ 1000) (hno : anyV (fun q9 => Va (8 * sy + q9)) v (Co sy) = false) (f_y : w y = .inr (7, [.int (iI 0), .ref (ad (y + 1)), .ref (ad (y + 2)), .ref (ad (y + 3)), .ref (ad (y + 4)), .ref (ad (y + 5)), .ref (ad (y + 6)), .ref (ad (y + 7)), .ref (ad (y + 8)), .ref (ad (y + 9)), .ref (ad (y + 10)), .ref (ad (y + 11)), .ref (ad (y + 12)), .ref (ad (y + 13)), .ref (ad (y + 14)), .ref (ad (y + 15)), .ref (ad (y + 16)), .ref (ad (y + 17)), .ref (ad (y + 18)), .ref (ad (y + 19)), .ref (ad (y + 20)), .ref (ad (y + 21)), .ref (ad (y + 22)), .ref (ad (y + 23)), .ref (ad (y + 24)), .ref (ad (y + 25)), .ref (ad (y + 26))])) (f_Co : w (y + 1) = aI G 8 (fun q => (Co q : Int))) (f_Va : w (y + 2) = aI G 64 (fun q => (Va q : Int))) : Met l yX7_coin wsX7_coin ({ frames := 1, cells := 0, slots := 0, locals := 22 }) (va_Pc [.ref (ad y), .int (iI ((sy : Nat) : Int)), .int (iI ((v : Nat) : Int))] (nB G N ad w sz)) (nPi G N ad sz (fun r u => (∀ j, j ≠ (y + 1) → j ≠ (y + 2) → u j = w j) ∧ (r = Co sy) ∧ (u (y + 1) = aI G 8 (fun q => ((va_up Co sy (Co sy + 1) q : Nat) : Int))) ∧ (u (y + 2) = aI G 64 (fun q => ((va_up Va (8 * sy + Co sy) v q : Nat) : Int))))) 0 0 (nA N ad sz) := by
  refine n_ent (cc := cX7_coin) (maxL := 4) (ret := (some .int)) (by decide) rfl (Nat.le_of_ble_eq_true rfl) ?_
  intro p e s m below meth cd hx hb hr hml hlocks hts hown hnm hsz hP hK hI Q hQ ls hl
  have hown : s.vm.findClass RX7 = some m.cls := hown
  subst hsz
  have hJ := hI.J s.heap.size
  have hS : va_S (nA N ad s.heap.size) s.heap s.heap [] := va_S.rf
  have hfr : ∀ j, j ≠ (y + 1) → j ≠ (y + 2) → w j = w j := fun _ _ _ => rfl
  have hl : lv_has ls 4 [(0, .ref (ad y)), (1, .int (iI ((sy : Nat) : Int))), (2, .int (iI ((v : Nat) : Int)))] := hl
  refine lv_aload_n hx hb dX7_coin_0 rfl (lv_at hl 0 rfl) ?_
  refine n_iconst hx hb dX7_coin_1 ?_
  refine n_put hx hb hts u_X7 tyX7 tyX7_ok nmX7 hown hK hJ hP hS (by omega) f_y rfl 0 (by decide) (nT_m wf_X7_90) rfl rfl rfl (Nat.le_of_ble_eq_true rfl) dX7_coin_2 (fun w1 H locs f9 hne9 hP hS => ?_)
  have ew9 : w = w1 := funext fun j9 => (Decidable.em (j9 = y)).elim (fun h9 => by rw [h9, f9]; exact f_y) (fun h9 => (hne9 j9 h9).symm)
  subst ew9
  refine lv_iload_n hx hb dX7_coin_5 rfl (lv_at hl 1 rfl) ?_
  refine n_iconst hx hb dX7_coin_6 ?_
  refine n_iconst hx hb dX7_coin_7 ?_
  refine n_rdF (va_runS (As := [.int (iI ((sy : Nat) : Int)), .int (iI 0), .int (iI 1)]) (rest := []) ⟨hx, hb, hml, hown, hts⟩ (c_X7_in ((sy : Nat) : Int) 0 1 (by omega) (by omega) (by omega)) (va_cwS 3 hts (nT_S wl_X7_98 wt_X7_in wn_X7 wc_X7_in) rfl rfl rfl (by decide +kernel) ⟨Nat.le_of_ble_eq_true rfl, Nat.le_of_ble_eq_true rfl⟩) preEq rfl rfl hl.1 rfl (lv_room (Nat.le_of_ble_eq_true rfl)) dX7_coin_8 ⟨Nat.zero_le _, Nat.zero_le _⟩) ?_
  refine n_if_eqB (tgt := 36) hx hb dX7_coin_11 (by decide) (fun hc11 => ?_) (fun hc11 => ?_)
  · skip
    exact absurd hc11 (by omega)
  · skip
    refine lv_aload_n hx hb dX7_coin_14 rfl (lv_at hl 0 rfl) ?_
    refine n_get hx hb hts u_X7 hown hK hP (by omega) f_y rfl 1 (by decide) (nT_m wf_X7_7) rfl dX7_coin_15 ?_
    refine lv_iload_n hx hb dX7_coin_18 rfl (lv_at hl 1 rfl) ?_
    refine n_iald hx hb hK hP sy (by omega) f_Co (by omega) (by omega) (by decide) dX7_coin_19 ?_
    have ho3 := hCo sy (by omega)
    refine n_bipush hx hb dX7_coin_20 (by decide) ?_
    refine n_icmp_eq (tgt := 36) hx hb dX7_coin_22 (by decide) (by omega) (by omega) (fun hc22 => ?_) (fun hc22 => ?_)
    · skip
      exact absurd hc22 (by omega)
    · skip
      refine lv_iload_n hx hb dX7_coin_25 rfl (lv_at hl 2 rfl) ?_
      refine n_iconst hx hb dX7_coin_26 ?_
      refine n_sipush hx hb dX7_coin_27 (by decide) ?_
      refine n_rdF (va_runS (As := [.int (iI ((v : Nat) : Int)), .int (iI 1), .int (iI 1000)]) (rest := []) ⟨hx, hb, hml, hown, hts⟩ (c_X7_in ((v : Nat) : Int) 1 1000 (by omega) (by omega) (by omega)) (va_cwS 3 hts (nT_S wl_X7_98 wt_X7_in wn_X7 wc_X7_in) rfl rfl rfl (by decide +kernel) ⟨Nat.le_of_ble_eq_true rfl, Nat.le_of_ble_eq_true rfl⟩) preEq rfl rfl hl.1 rfl (lv_room (Nat.le_of_ble_eq_true rfl)) dX7_coin_30 ⟨Nat.zero_le _, Nat.zero_le _⟩) ?_
      refine n_if_neB (tgt := 38) hx hb dX7_coin_33 (by decide) (fun hc33 => ?_) (fun hc33 => ?_)
      · skip
        refine n_iconst hx hb dX7_coin_38 ?_
        refine lv_istore_n (lv' := [(3, .int (iI 0)), (0, .ref (ad y)), (1, .int (iI ((sy : Nat) : Int))), (2, .int (iI ((v : Nat) : Int)))]) hx hb dX7_coin_39 rfl hl (by decide) rfl (fun ls hl => ?_)
        have lp4 : ∀ (fu : Nat), ∀ (q : Nat), ∀ (w5 : Nat → va_E) (H : Heap) (locs : List Loc), ∀ (ls : Array Slot), Co sy - q < fu → q ≤ Co sy → (∀ j, j ≠ (y + 1) → j ≠ (y + 2) → w5 j = w j) → w5 y = .inr (7, [.int (iI 0), .ref (ad (y + 1)), .ref (ad (y + 2)), .ref (ad (y + 3)), .ref (ad (y + 4)), .ref (ad (y + 5)), .ref (ad (y + 6)), .ref (ad (y + 7)), .ref (ad (y + 8)), .ref (ad (y + 9)), .ref (ad (y + 10)), .ref (ad (y + 11)), .ref (ad (y + 12)), .ref (ad (y + 13)), .ref (ad (y + 14)), .ref (ad (y + 15)), .ref (ad (y + 16)), .ref (ad (y + 17)), .ref (ad (y + 18)), .ref (ad (y + 19)), .ref (ad (y + 20)), .ref (ad (y + 21)), .ref (ad (y + 22)), .ref (ad (y + 23)), .ref (ad (y + 24)), .ref (ad (y + 25)), .ref (ad (y + 26))]) → w5 (y + 1) = aI G 8 (fun q => (Co q : Int)) → w5 (y + 2) = aI G 64 (fun q => (Va q : Int)) → va_P G.1 vwCl (nL N ad w5) H → va_S (nA N ad s.heap.size) s.heap H locs → lv_has ls 4 [(0, .ref (ad y)), (1, .int (iI ((sy : Nat) : Int))), (2, .int (iI ((v : Nat) : Int))), (3, .int (iI ((q : Nat) : Int)))] → W p l e ({ frames := 1, cells := 0, slots := 0, locals := 22 } : Room) s m ([.ref (ad y), .int (iI ((sy : Nat) : Int)), .int (iI ((v : Nat) : Int))] : List Value).toArray below meth cd H locs 0 0 Q (F0 m 40 ls []) := by
          intro fu
          induction fu with
          | zero =>
            intro q w5 H locs ls hfu hq hfr f_y f_Co f_Va hP hS hl
            exact absurd hfu (Nat.not_lt_zero _)
          | succ fu ih6 =>
            intro q w5 H locs ls hfu hq hfr f_y f_Co f_Va hP hS hl
            have hcs := hCo sy hs
            refine lv_iload_n hx hb dX7_coin_40 rfl (lv_at hl 3 rfl) ?_
            refine lv_aload_n hx hb dX7_coin_41 rfl (lv_at hl 0 rfl) ?_
            refine n_get hx hb hts u_X7 hown hK hP (by omega) f_y rfl 1 (by decide) (nT_m wf_X7_7) rfl dX7_coin_42 ?_
            refine lv_iload_n hx hb dX7_coin_45 rfl (lv_at hl 1 rfl) ?_
            refine n_iald hx hb hK hP sy (by omega) f_Co (by omega) (by omega) (by decide) dX7_coin_46 ?_
            have ho7 := hCo sy (by omega)
            refine n_icmp_ge (tgt := 73) hx hb dX7_coin_47 (by decide) (by omega) (by omega) (fun hc47 => ?_) (fun hc47 => ?_)
            · skip
              refine lv_aload_n hx hb dX7_coin_73 rfl (lv_at hl 0 rfl) ?_
              refine n_get hx hb hts u_X7 hown hK hP (by omega) f_y rfl 2 (by decide) (nT_m wf_X7_13) rfl dX7_coin_74 ?_
              refine n_bipush hx hb dX7_coin_77 (by decide) ?_
              refine lv_iload_n hx hb dX7_coin_79 rfl (lv_at hl 1 rfl) ?_
              refine n_imul hx hb dX7_coin_80 ?_
              refine lv_aload_n hx hb dX7_coin_81 rfl (lv_at hl 0 rfl) ?_
              refine n_get hx hb hts u_X7 hown hK hP (by omega) f_y rfl 1 (by decide) (nT_m wf_X7_7) rfl dX7_coin_82 ?_
              refine lv_iload_n hx hb dX7_coin_85 rfl (lv_at hl 1 rfl) ?_
              refine n_iald hx hb hK hP sy (by omega) f_Co (by omega) (by omega) (by decide) dX7_coin_86 ?_
              have ho8 := hCo sy (by omega)
              refine n_iadd hx hb dX7_coin_87 ?_
              refine lv_iload_n hx hb dX7_coin_88 rfl (lv_at hl 2 rfl) ?_
              refine n_iast hx hb hK hJ hP hS ((8 * sy) + (Co sy)) (by omega) f_Va (by omega) (by omega) (by decide) dX7_coin_89 (fun w9 H locs f_Va hne10 hP hS => ?_)
              have f_y := (hne10 y (by omega)).trans f_y
              have f_Co := (hne10 (y + 1) (by omega)).trans f_Co
              have hfr : ∀ j, j ≠ (y + 1) → j ≠ (y + 2) → w9 j = w j := fun j a0 a1 => (hne10 j (by omega)).trans (hfr j a0 a1)
              refine lv_aload_n hx hb dX7_coin_90 rfl (lv_at hl 0 rfl) ?_
              refine n_get hx hb hts u_X7 hown hK hP (by omega) f_y rfl 1 (by decide) (nT_m wf_X7_7) rfl dX7_coin_91 ?_
              refine lv_iload_n hx hb dX7_coin_94 rfl (lv_at hl 1 rfl) ?_
              refine lv_dup2_11 hx hb dX7_coin_95 rfl rfl ?_
              refine n_iald hx hb hK hP sy (by omega) f_Co (by omega) (by omega) (by decide) dX7_coin_96 ?_
              have ho11 := hCo sy (by omega)
              refine n_iconst hx hb dX7_coin_97 ?_
              refine n_iadd hx hb dX7_coin_98 ?_
              refine n_iast hx hb hK hJ hP hS sy (by omega) f_Co (by omega) (by omega) (by decide) dX7_coin_99 (fun w12 H locs f_Co hne13 hP hS => ?_)
              have f_y := (hne13 y (by omega)).trans f_y
              have f_Va := (hne13 (y + 2) (by omega)).trans f_Va
              have hfr : ∀ j, j ≠ (y + 1) → j ≠ (y + 2) → w12 j = w j := fun j a0 a1 => (hne13 j (by omega)).trans (hfr j a0 a1)
              refine lv_aload_n hx hb dX7_coin_100 rfl (lv_at hl 0 rfl) ?_
              refine n_get hx hb hts u_X7 hown hK hP (by omega) f_y rfl 1 (by decide) (nT_m wf_X7_7) rfl dX7_coin_101 ?_
              refine lv_iload_n hx hb dX7_coin_104 rfl (lv_at hl 1 rfl) ?_
              refine n_iald hx hb hK hP sy (by omega) f_Co (by omega) (by omega) (by decide) dX7_coin_105 ?_
              have ho14 := hCo sy (by omega)
              refine n_iconst hx hb dX7_coin_106 ?_
              refine n_isub hx hb dX7_coin_107 ?_
              refine n_iretP hQ hx hb hr hlocks hP hS dX7_coin_108 ?_
              exact ⟨hfr, by rw [va_up_self]; omega, f_Co.trans (congrArg (aI G 8) (upZ Co sy (Co sy + 1) _ (by omega))), f_Va.trans (congrArg (aI G 64) (upZ Va (8 * sy + Co sy) v _ (by omega)))⟩
            · skip
              refine lv_aload_n hx hb dX7_coin_50 rfl (lv_at hl 0 rfl) ?_
              refine n_get hx hb hts u_X7 hown hK hP (by omega) f_y rfl 2 (by decide) (nT_m wf_X7_13) rfl dX7_coin_51 ?_
              refine n_bipush hx hb dX7_coin_54 (by decide) ?_
              refine lv_iload_n hx hb dX7_coin_56 rfl (lv_at hl 1 rfl) ?_
              refine n_imul hx hb dX7_coin_57 ?_
              refine lv_iload_n hx hb dX7_coin_58 rfl (lv_at hl 3 rfl) ?_
              refine n_iadd hx hb dX7_coin_59 ?_
              refine n_iald hx hb hK hP ((8 * sy) + q) (by omega) f_Va (by omega) (by omega) (by decide) dX7_coin_60 ?_
              have ho15 := hVa ((8 * sy) + q) (by omega)
              refine lv_iload_n hx hb dX7_coin_61 rfl (lv_at hl 2 rfl) ?_
              refine n_icmp_ne (tgt := 67) hx hb dX7_coin_62 (by decide) (by omega) (by omega) (fun hc62 => ?_) (fun hc62 => ?_)
              · skip
                refine lv_iinc (v := iI (((q : Nat) : Int) + 1)) (lv' := [(3, .int (iI (((q : Nat) : Int) + 1))), (0, .ref (ad y)), (1, .int (iI ((sy : Nat) : Int))), (2, .int (iI ((v : Nat) : Int)))]) hx hb dX7_coin_67 hl (k := 3) rfl (by first | exact iI_add _ _ | exact (iI_add _ _).trans (congrArg iI (by omega))) (by decide) rfl (fun ls hl => ?_)
                refine lv_goto (tgt := 40) hx hb dX7_coin_70 (by decide) ?_
                exact ih6 (q + 1) _ _ _ _ (by omega) (by omega) hfr f_y f_Co f_Va hP hS (by first | exact lv_sub hl [1, 2, 3, 0] rfl | exact lv_cast (lv_sub (l' := [(0, .ref (ad y)), (1, .int (iI ((sy : Nat) : Int))), (2, .int (iI ((v : Nat) : Int))), (3, .int (iI (((q : Nat) : Int) + 1)))]) hl [1, 2, 3, 0] rfl) (lc_s (lc_s (lc_s (lc_i (show ((((q : Nat) : Int) + 1) : Int) = (((q + 1) : Nat) : Int) by omega) rfl)))))
              · skip
                exact absurd (anyV_le (anyV_t (val := (fun q9 => Va (8 * sy + q9))) (z := (v : Int)) (n := q) hc62) (show q + 1 ≤ Co sy by omega)) (by rw [hno]; decide)
        exact lp4 (Co sy - 0 + 1) 0 _ _ _ _ (Nat.lt_succ_self _) (by omega) hfr f_y f_Co f_Va hP hS (by first | exact lv_sub hl [1, 2, 3, 0] rfl | exact lv_cast (lv_sub (l' := [(0, .ref (ad y)), (1, .int (iI ((sy : Nat) : Int))), (2, .int (iI ((v : Nat) : Int))), (3, .int (iI 0))]) hl [1, 2, 3, 0] rfl) (lc_s (lc_s (lc_s (lc_i (show (0 : Int) = ((0 : Nat) : Int) by omega) rfl)))))
      · skip
        exact absurd hc33 (by omega)
set_option maxHeartbeats 4000000 in
set_option maxRecDepth 100000 in
theorem c_X7_rate_no {l : Launch} {G : nG} {N : Nat} {ad : Nat → Nat} {w : Nat → va_E} {sz : Nat} (y : Nat) (Sl : Nat → Nat) (a c : Int) (hN : y + 26 < N) (hSl : ∀ k, k < 1 → Sl k < 2147483647) (ha : -2147483648 ≤ a ∧ a < 2147483648) (hc : -2147483648 ≤ c ∧ c < 2147483648) (hno : ¬ (1 ≤ a ∧ a ≤ 100) ∨ ¬ (1 ≤ c ∧ c ≤ 100) ∨ 0 < Sl 0) (f_y : w y = .inr (7, [.int (iI 0), .ref (ad (y + 1)), .ref (ad (y + 2)), .ref (ad (y + 3)), .ref (ad (y + 4)), .ref (ad (y + 5)), .ref (ad (y + 6)), .ref (ad (y + 7)), .ref (ad (y + 8)), .ref (ad (y + 9)), .ref (ad (y + 10)), .ref (ad (y + 11)), .ref (ad (y + 12)), .ref (ad (y + 13)), .ref (ad (y + 14)), .ref (ad (y + 15)), .ref (ad (y + 16)), .ref (ad (y + 17)), .ref (ad (y + 18)), .ref (ad (y + 19)), .ref (ad (y + 20)), .ref (ad (y + 21)), .ref (ad (y + 22)), .ref (ad (y + 23)), .ref (ad (y + 24)), .ref (ad (y + 25)), .ref (ad (y + 26))])) (f_Sl : w (y + 4) = aI G 4 (fun q => (Sl q : Int))) : Met l yX7_rate wsX7_rate ({ frames := 1, cells := 0, slots := 0, locals := 22 }) (va_Pc [.ref (ad y), .int (iI a), .int (iI c)] (nB G N ad w sz)) (nPi G N ad sz (fun r u => (∀ j, u j = w j) ∧ (r = 0))) 0 0 (nA N ad sz) := by
  refine n_ent (cc := cX7_rate) (maxL := 3) (ret := (some .boolean)) (by decide) rfl (Nat.le_of_ble_eq_true rfl) ?_
  intro p e s m below meth cd hx hb hr hml hlocks hts hown hnm hsz hP hK hI Q hQ ls hl
  have hown : s.vm.findClass RX7 = some m.cls := hown
  subst hsz
  have hJ := hI.J s.heap.size
  have hS : va_S (nA N ad s.heap.size) s.heap s.heap [] := va_S.rf
  have hfr : ∀ j, w j = w j := fun _  => rfl
  have hl : lv_has ls 3 [(0, .ref (ad y)), (1, .int (iI a)), (2, .int (iI c))] := hl
  refine lv_aload_n hx hb dX7_rate_0 rfl (lv_at hl 0 rfl) ?_
  refine n_iconst hx hb dX7_rate_1 ?_
  refine n_put hx hb hts u_X7 tyX7 tyX7_ok nmX7 hown hK hJ hP hS (by omega) f_y rfl 0 (by decide) (nT_m wf_X7_90) rfl rfl rfl (Nat.le_of_ble_eq_true rfl) dX7_rate_2 (fun w1 H locs f9 hne9 hP hS => ?_)
  have ew9 : w = w1 := funext fun j9 => (Decidable.em (j9 = y)).elim (fun h9 => by rw [h9, f9]; exact f_y) (fun h9 => (hne9 j9 h9).symm)
  subst ew9
  refine lv_iload_n hx hb dX7_rate_5 rfl (lv_at hl 1 rfl) ?_
  refine n_iconst hx hb dX7_rate_6 ?_
  refine n_bipush hx hb dX7_rate_7 (by decide) ?_
  refine n_rdF (va_runS (As := [.int (iI a), .int (iI 1), .int (iI 100)]) (rest := []) ⟨hx, hb, hml, hown, hts⟩ (c_X7_in a 1 100 (by omega) (by omega) (by omega)) (va_cwS 3 hts (nT_S wl_X7_98 wt_X7_in wn_X7 wc_X7_in) rfl rfl rfl (by decide +kernel) ⟨Nat.le_of_ble_eq_true rfl, Nat.le_of_ble_eq_true rfl⟩) preEq rfl rfl hl.1 rfl (lv_room (Nat.le_of_ble_eq_true rfl)) dX7_rate_9 ⟨Nat.zero_le _, Nat.zero_le _⟩) ?_
  refine n_if_eqB (tgt := 34) hx hb dX7_rate_12 (by decide) (fun hc12 => ?_) (fun hc12 => ?_)
  · skip
    refine n_iconst hx hb dX7_rate_34 ?_
    refine n_zretP (t := False) hQ hx hb hr hlocks rfl hP hS dX7_rate_35 ?_
    exact ⟨hfr, rfl⟩
  · skip
    refine lv_iload_n hx hb dX7_rate_15 rfl (lv_at hl 2 rfl) ?_
    refine n_iconst hx hb dX7_rate_16 ?_
    refine n_bipush hx hb dX7_rate_17 (by decide) ?_
    refine n_rdF (va_runS (As := [.int (iI c), .int (iI 1), .int (iI 100)]) (rest := []) ⟨hx, hb, hml, hown, hts⟩ (c_X7_in c 1 100 (by omega) (by omega) (by omega)) (va_cwS 3 hts (nT_S wl_X7_98 wt_X7_in wn_X7 wc_X7_in) rfl rfl rfl (by decide +kernel) ⟨Nat.le_of_ble_eq_true rfl, Nat.le_of_ble_eq_true rfl⟩) preEq rfl rfl hl.1 rfl (lv_room (Nat.le_of_ble_eq_true rfl)) dX7_rate_19 ⟨Nat.zero_le _, Nat.zero_le _⟩) ?_
    refine n_if_eqB (tgt := 34) hx hb dX7_rate_22 (by decide) (fun hc22 => ?_) (fun hc22 => ?_)
    · skip
      refine n_iconst hx hb dX7_rate_34 ?_
      refine n_zretP (t := False) hQ hx hb hr hlocks rfl hP hS dX7_rate_35 ?_
      exact ⟨hfr, rfl⟩
    · skip
      refine lv_aload_n hx hb dX7_rate_25 rfl (lv_at hl 0 rfl) ?_
      refine n_get hx hb hts u_X7 hown hK hP (by omega) f_y rfl 4 (by decide) (nT_m wf_X7_19) rfl dX7_rate_26 ?_
      refine n_iconst hx hb dX7_rate_29 ?_
      refine n_iald hx hb hK hP 0 (by omega) f_Sl (by omega) (by omega) (by decide) dX7_rate_30 ?_
      have ho3 := hSl 0 (by omega)
      refine n_if_le (tgt := 36) hx hb dX7_rate_31 (by decide) (by omega) (fun hc31 => ?_) (fun hc31 => ?_)
      · skip
        omega
      · skip
        refine n_iconst hx hb dX7_rate_34 ?_
        refine n_zretP (t := False) hQ hx hb hr hlocks rfl hP hS dX7_rate_35 ?_
        exact ⟨hfr, rfl⟩
set_option maxHeartbeats 4000000 in
set_option maxRecDepth 100000 in
theorem c_X7_rate_yes {l : Launch} {G : nG} {N : Nat} {ad : Nat → Nat} {w : Nat → va_E} {sz : Nat} (y : Nat) (Sl Ra : Nat → Nat) (a c : Nat) (hN : y + 26 < N) (hSl : ∀ k, k < 1 → Sl k < 2147483647) (hRa : ∀ k, k < 2 → 1 ≤ Ra k ∧ Ra k ≤ 100) (ha : 1 ≤ a ∧ a ≤ 100) (hc : 1 ≤ c ∧ c ≤ 100) (hno : Sl 0 = 0) (f_y : w y = .inr (7, [.int (iI 0), .ref (ad (y + 1)), .ref (ad (y + 2)), .ref (ad (y + 3)), .ref (ad (y + 4)), .ref (ad (y + 5)), .ref (ad (y + 6)), .ref (ad (y + 7)), .ref (ad (y + 8)), .ref (ad (y + 9)), .ref (ad (y + 10)), .ref (ad (y + 11)), .ref (ad (y + 12)), .ref (ad (y + 13)), .ref (ad (y + 14)), .ref (ad (y + 15)), .ref (ad (y + 16)), .ref (ad (y + 17)), .ref (ad (y + 18)), .ref (ad (y + 19)), .ref (ad (y + 20)), .ref (ad (y + 21)), .ref (ad (y + 22)), .ref (ad (y + 23)), .ref (ad (y + 24)), .ref (ad (y + 25)), .ref (ad (y + 26))])) (f_Sl : w (y + 4) = aI G 4 (fun q => (Sl q : Int))) (f_Ra : w (y + 3) = aI G 8 (fun q => (Ra q : Int))) : Met l yX7_rate wsX7_rate ({ frames := 1, cells := 0, slots := 0, locals := 22 }) (va_Pc [.ref (ad y), .int (iI ((a : Nat) : Int)), .int (iI ((c : Nat) : Int))] (nB G N ad w sz)) (nPi G N ad sz (fun r u => (∀ j, j ≠ (y + 3) → u j = w j) ∧ (r = 1) ∧ (u (y + 3) = aI G 8 (fun q => ((va_up (va_up Ra 0 a) 1 c q : Nat) : Int))))) 0 0 (nA N ad sz) := by
  refine n_ent (cc := cX7_rate) (maxL := 3) (ret := (some .boolean)) (by decide) rfl (Nat.le_of_ble_eq_true rfl) ?_
  intro p e s m below meth cd hx hb hr hml hlocks hts hown hnm hsz hP hK hI Q hQ ls hl
  have hown : s.vm.findClass RX7 = some m.cls := hown
  subst hsz
  have hJ := hI.J s.heap.size
  have hS : va_S (nA N ad s.heap.size) s.heap s.heap [] := va_S.rf
  have hfr : ∀ j, j ≠ (y + 3) → w j = w j := fun _ _ => rfl
  have hl : lv_has ls 3 [(0, .ref (ad y)), (1, .int (iI ((a : Nat) : Int))), (2, .int (iI ((c : Nat) : Int)))] := hl
  refine lv_aload_n hx hb dX7_rate_0 rfl (lv_at hl 0 rfl) ?_
  refine n_iconst hx hb dX7_rate_1 ?_
  refine n_put hx hb hts u_X7 tyX7 tyX7_ok nmX7 hown hK hJ hP hS (by omega) f_y rfl 0 (by decide) (nT_m wf_X7_90) rfl rfl rfl (Nat.le_of_ble_eq_true rfl) dX7_rate_2 (fun w1 H locs f9 hne9 hP hS => ?_)
  have ew9 : w = w1 := funext fun j9 => (Decidable.em (j9 = y)).elim (fun h9 => by rw [h9, f9]; exact f_y) (fun h9 => (hne9 j9 h9).symm)
  subst ew9
  refine lv_iload_n hx hb dX7_rate_5 rfl (lv_at hl 1 rfl) ?_
  refine n_iconst hx hb dX7_rate_6 ?_
  refine n_bipush hx hb dX7_rate_7 (by decide) ?_
  refine n_rdF (va_runS (As := [.int (iI ((a : Nat) : Int)), .int (iI 1), .int (iI 100)]) (rest := []) ⟨hx, hb, hml, hown, hts⟩ (c_X7_in ((a : Nat) : Int) 1 100 (by omega) (by omega) (by omega)) (va_cwS 3 hts (nT_S wl_X7_98 wt_X7_in wn_X7 wc_X7_in) rfl rfl rfl (by decide +kernel) ⟨Nat.le_of_ble_eq_true rfl, Nat.le_of_ble_eq_true rfl⟩) preEq rfl rfl hl.1 rfl (lv_room (Nat.le_of_ble_eq_true rfl)) dX7_rate_9 ⟨Nat.zero_le _, Nat.zero_le _⟩) ?_
  refine n_if_eqB (tgt := 34) hx hb dX7_rate_12 (by decide) (fun hc12 => ?_) (fun hc12 => ?_)
  · skip
    exact absurd hc12 (by omega)
  · skip
    refine lv_iload_n hx hb dX7_rate_15 rfl (lv_at hl 2 rfl) ?_
    refine n_iconst hx hb dX7_rate_16 ?_
    refine n_bipush hx hb dX7_rate_17 (by decide) ?_
    refine n_rdF (va_runS (As := [.int (iI ((c : Nat) : Int)), .int (iI 1), .int (iI 100)]) (rest := []) ⟨hx, hb, hml, hown, hts⟩ (c_X7_in ((c : Nat) : Int) 1 100 (by omega) (by omega) (by omega)) (va_cwS 3 hts (nT_S wl_X7_98 wt_X7_in wn_X7 wc_X7_in) rfl rfl rfl (by decide +kernel) ⟨Nat.le_of_ble_eq_true rfl, Nat.le_of_ble_eq_true rfl⟩) preEq rfl rfl hl.1 rfl (lv_room (Nat.le_of_ble_eq_true rfl)) dX7_rate_19 ⟨Nat.zero_le _, Nat.zero_le _⟩) ?_
    refine n_if_eqB (tgt := 34) hx hb dX7_rate_22 (by decide) (fun hc22 => ?_) (fun hc22 => ?_)
    · skip
      exact absurd hc22 (by omega)
    · skip
      refine lv_aload_n hx hb dX7_rate_25 rfl (lv_at hl 0 rfl) ?_
      refine n_get hx hb hts u_X7 hown hK hP (by omega) f_y rfl 4 (by decide) (nT_m wf_X7_19) rfl dX7_rate_26 ?_
      refine n_iconst hx hb dX7_rate_29 ?_
      refine n_iald hx hb hK hP 0 (by omega) f_Sl (by omega) (by omega) (by decide) dX7_rate_30 ?_
      have ho3 := hSl 0 (by omega)
      refine n_if_le (tgt := 36) hx hb dX7_rate_31 (by decide) (by omega) (fun hc31 => ?_) (fun hc31 => ?_)
      · skip
        refine lv_aload_n hx hb dX7_rate_36 rfl (lv_at hl 0 rfl) ?_
        refine n_get hx hb hts u_X7 hown hK hP (by omega) f_y rfl 3 (by decide) (nT_m wf_X7_16) rfl dX7_rate_37 ?_
        refine n_iconst hx hb dX7_rate_40 ?_
        refine lv_iload_n hx hb dX7_rate_41 rfl (lv_at hl 1 rfl) ?_
        refine n_iast hx hb hK hJ hP hS 0 (by omega) f_Ra (by omega) (by omega) (by decide) dX7_rate_42 (fun w4 H locs f_Ra hne5 hP hS => ?_)
        have f_y := (hne5 y (by omega)).trans f_y
        have f_Sl := (hne5 (y + 4) (by omega)).trans f_Sl
        have hfr : ∀ j, j ≠ (y + 3) → w4 j = w j := fun j a0 => (hne5 j (by omega)).trans (hfr j a0)
        refine lv_aload_n hx hb dX7_rate_43 rfl (lv_at hl 0 rfl) ?_
        refine n_get hx hb hts u_X7 hown hK hP (by omega) f_y rfl 3 (by decide) (nT_m wf_X7_16) rfl dX7_rate_44 ?_
        refine n_iconst hx hb dX7_rate_47 ?_
        refine lv_iload_n hx hb dX7_rate_48 rfl (lv_at hl 2 rfl) ?_
        refine n_iast hx hb hK hJ hP hS 1 (by omega) f_Ra (by omega) (by omega) (by decide) dX7_rate_49 (fun w6 H locs f_Ra hne7 hP hS => ?_)
        have f_y := (hne7 y (by omega)).trans f_y
        have f_Sl := (hne7 (y + 4) (by omega)).trans f_Sl
        have hfr : ∀ j, j ≠ (y + 3) → w6 j = w j := fun j a0 => (hne7 j (by omega)).trans (hfr j a0)
        refine n_iconst hx hb dX7_rate_50 ?_
        refine n_zretP (t := True) hQ hx hb hr hlocks rfl hP hS dX7_rate_51 ?_
        exact ⟨hfr, rfl, f_Ra.trans (congrArg (aI G 8) (by rw [upN Ra 0 a, upN (va_up Ra 0 a) 1 c]))⟩
      · skip
        omega
set_option maxHeartbeats 4000000 in
set_option maxRecDepth 100000 in
theorem c_X7_good_no {l : Launch} {G : nG} {N : Nat} {ad : Nat → Nat} {w : Nat → va_E} {sz : Nat} (y : Nat) (Go : Nat → Nat) (a c : Int) (hN : y + 26 < N) (hGo : ∀ k, k < 1 → Go k ≤ 14) (ha : -2147483648 ≤ a ∧ a < 2147483648) (hc : -2147483648 ≤ c ∧ c < 2147483648) (hno : Go 0 = 14 ∨ ¬ (1 ≤ a ∧ a ≤ 10000) ∨ ¬ (0 ≤ c ∧ c ≤ 100)) (f_y : w y = .inr (7, [.int (iI 0), .ref (ad (y + 1)), .ref (ad (y + 2)), .ref (ad (y + 3)), .ref (ad (y + 4)), .ref (ad (y + 5)), .ref (ad (y + 6)), .ref (ad (y + 7)), .ref (ad (y + 8)), .ref (ad (y + 9)), .ref (ad (y + 10)), .ref (ad (y + 11)), .ref (ad (y + 12)), .ref (ad (y + 13)), .ref (ad (y + 14)), .ref (ad (y + 15)), .ref (ad (y + 16)), .ref (ad (y + 17)), .ref (ad (y + 18)), .ref (ad (y + 19)), .ref (ad (y + 20)), .ref (ad (y + 21)), .ref (ad (y + 22)), .ref (ad (y + 23)), .ref (ad (y + 24)), .ref (ad (y + 25)), .ref (ad (y + 26))])) (f_Go : w (y + 5) = aI G 4 (fun q => (Go q : Int))) : Met l yX7_good wsX7_good ({ frames := 1, cells := 0, slots := 0, locals := 22 }) (va_Pc [.ref (ad y), .int (iI a), .int (iI c)] (nB G N ad w sz)) (nPi G N ad sz (fun r u => (∀ j, u j = w j) ∧ (r = -1))) 0 0 (nA N ad sz) := by
  refine n_ent (cc := cX7_good) (maxL := 3) (ret := (some .int)) (by decide) rfl (Nat.le_of_ble_eq_true rfl) ?_
  intro p e s m below meth cd hx hb hr hml hlocks hts hown hnm hsz hP hK hI Q hQ ls hl
  have hown : s.vm.findClass RX7 = some m.cls := hown
  subst hsz
  have hJ := hI.J s.heap.size
  have hS : va_S (nA N ad s.heap.size) s.heap s.heap [] := va_S.rf
  have hfr : ∀ j, w j = w j := fun _  => rfl
  have hl : lv_has ls 3 [(0, .ref (ad y)), (1, .int (iI a)), (2, .int (iI c))] := hl
  refine lv_aload_n hx hb dX7_good_0 rfl (lv_at hl 0 rfl) ?_
  refine n_iconst hx hb dX7_good_1 ?_
  refine n_put hx hb hts u_X7 tyX7 tyX7_ok nmX7 hown hK hJ hP hS (by omega) f_y rfl 0 (by decide) (nT_m wf_X7_90) rfl rfl rfl (Nat.le_of_ble_eq_true rfl) dX7_good_2 (fun w1 H locs f9 hne9 hP hS => ?_)
  have ew9 : w = w1 := funext fun j9 => (Decidable.em (j9 = y)).elim (fun h9 => by rw [h9, f9]; exact f_y) (fun h9 => (hne9 j9 h9).symm)
  subst ew9
  refine lv_aload_n hx hb dX7_good_5 rfl (lv_at hl 0 rfl) ?_
  refine n_get hx hb hts u_X7 hown hK hP (by omega) f_y rfl 5 (by decide) (nT_m wf_X7_22) rfl dX7_good_6 ?_
  refine n_iconst hx hb dX7_good_9 ?_
  refine n_iald hx hb hK hP 0 (by omega) f_Go (by omega) (by omega) (by decide) dX7_good_10 ?_
  have ho3 := hGo 0 (by omega)
  refine n_bipush hx hb dX7_good_11 (by decide) ?_
  refine n_icmp_eq (tgt := 37) hx hb dX7_good_13 (by decide) (by omega) (by omega) (fun hc13 => ?_) (fun hc13 => ?_)
  · skip
    refine n_iconst hx hb dX7_good_37 ?_
    refine n_iretP hQ hx hb hr hlocks hP hS dX7_good_38 ?_
    exact ⟨hfr, rfl⟩
  · skip
    refine lv_iload_n hx hb dX7_good_16 rfl (lv_at hl 1 rfl) ?_
    refine n_iconst hx hb dX7_good_17 ?_
    refine n_sipush hx hb dX7_good_18 (by decide) ?_
    refine n_rdF (va_runS (As := [.int (iI a), .int (iI 1), .int (iI 10000)]) (rest := []) ⟨hx, hb, hml, hown, hts⟩ (c_X7_in a 1 10000 (by omega) (by omega) (by omega)) (va_cwS 3 hts (nT_S wl_X7_98 wt_X7_in wn_X7 wc_X7_in) rfl rfl rfl (by decide +kernel) ⟨Nat.le_of_ble_eq_true rfl, Nat.le_of_ble_eq_true rfl⟩) preEq rfl rfl hl.1 rfl (lv_room (Nat.le_of_ble_eq_true rfl)) dX7_good_21 ⟨Nat.zero_le _, Nat.zero_le _⟩) ?_
    refine n_if_eqB (tgt := 37) hx hb dX7_good_24 (by decide) (fun hc24 => ?_) (fun hc24 => ?_)
    · skip
      refine n_iconst hx hb dX7_good_37 ?_
      refine n_iretP hQ hx hb hr hlocks hP hS dX7_good_38 ?_
      exact ⟨hfr, rfl⟩
    · skip
      refine lv_iload_n hx hb dX7_good_27 rfl (lv_at hl 2 rfl) ?_
      refine n_iconst hx hb dX7_good_28 ?_
      refine n_bipush hx hb dX7_good_29 (by decide) ?_
      refine n_rdF (va_runS (As := [.int (iI c), .int (iI 0), .int (iI 100)]) (rest := []) ⟨hx, hb, hml, hown, hts⟩ (c_X7_in c 0 100 (by omega) (by omega) (by omega)) (va_cwS 3 hts (nT_S wl_X7_98 wt_X7_in wn_X7 wc_X7_in) rfl rfl rfl (by decide +kernel) ⟨Nat.le_of_ble_eq_true rfl, Nat.le_of_ble_eq_true rfl⟩) preEq rfl rfl hl.1 rfl (lv_room (Nat.le_of_ble_eq_true rfl)) dX7_good_31 ⟨Nat.zero_le _, Nat.zero_le _⟩) ?_
      refine n_if_neB (tgt := 39) hx hb dX7_good_34 (by decide) (fun hc34 => ?_) (fun hc34 => ?_)
      · skip
        omega
      · skip
        refine n_iconst hx hb dX7_good_37 ?_
        refine n_iretP hQ hx hb hr hlocks hP hS dX7_good_38 ?_
        exact ⟨hfr, rfl⟩
set_option maxHeartbeats 4000000 in
set_option maxRecDepth 100000 in
theorem c_X7_good_yes {l : Launch} {G : nG} {N : Nat} {ad : Nat → Nat} {w : Nat → va_E} {sz : Nat} (y : Nat) (Go Pr Ti : Nat → Nat) (a c : Nat) (hN : y + 26 < N) (hGo : ∀ k, k < 1 → Go k ≤ 14) (hPr : ∀ k, k < 14 → Pr k ≤ 10000) (hTi : ∀ k, k < 14 → Ti k ≤ 100) (hg : Go 0 < 14) (ha : 1 ≤ a ∧ a ≤ 10000) (hc : c ≤ 100) (f_y : w y = .inr (7, [.int (iI 0), .ref (ad (y + 1)), .ref (ad (y + 2)), .ref (ad (y + 3)), .ref (ad (y + 4)), .ref (ad (y + 5)), .ref (ad (y + 6)), .ref (ad (y + 7)), .ref (ad (y + 8)), .ref (ad (y + 9)), .ref (ad (y + 10)), .ref (ad (y + 11)), .ref (ad (y + 12)), .ref (ad (y + 13)), .ref (ad (y + 14)), .ref (ad (y + 15)), .ref (ad (y + 16)), .ref (ad (y + 17)), .ref (ad (y + 18)), .ref (ad (y + 19)), .ref (ad (y + 20)), .ref (ad (y + 21)), .ref (ad (y + 22)), .ref (ad (y + 23)), .ref (ad (y + 24)), .ref (ad (y + 25)), .ref (ad (y + 26))])) (f_Go : w (y + 5) = aI G 4 (fun q => (Go q : Int))) (f_Pr : w (y + 6) = aI G 56 (fun q => (Pr q : Int))) (f_Ti : w (y + 7) = aI G 56 (fun q => (Ti q : Int))) : Met l yX7_good wsX7_good ({ frames := 1, cells := 0, slots := 0, locals := 22 }) (va_Pc [.ref (ad y), .int (iI ((a : Nat) : Int)), .int (iI ((c : Nat) : Int))] (nB G N ad w sz)) (nPi G N ad sz (fun r u => (∀ j, j ≠ (y + 5) → j ≠ (y + 6) → j ≠ (y + 7) → u j = w j) ∧ (r = Go 0) ∧ (u (y + 5) = aI G 4 (fun q => ((va_up Go 0 (Go 0 + 1) q : Nat) : Int))) ∧ (u (y + 6) = aI G 56 (fun q => ((va_up Pr (Go 0) a q : Nat) : Int))) ∧ (u (y + 7) = aI G 56 (fun q => ((va_up Ti (Go 0) c q : Nat) : Int))))) 0 0 (nA N ad sz) := by
  refine n_ent (cc := cX7_good) (maxL := 3) (ret := (some .int)) (by decide) rfl (Nat.le_of_ble_eq_true rfl) ?_
  intro p e s m below meth cd hx hb hr hml hlocks hts hown hnm hsz hP hK hI Q hQ ls hl
  have hown : s.vm.findClass RX7 = some m.cls := hown
  subst hsz
  have hJ := hI.J s.heap.size
  have hS : va_S (nA N ad s.heap.size) s.heap s.heap [] := va_S.rf
  have hfr : ∀ j, j ≠ (y + 5) → j ≠ (y + 6) → j ≠ (y + 7) → w j = w j := fun _ _ _ _ => rfl
  have hl : lv_has ls 3 [(0, .ref (ad y)), (1, .int (iI ((a : Nat) : Int))), (2, .int (iI ((c : Nat) : Int)))] := hl
  refine lv_aload_n hx hb dX7_good_0 rfl (lv_at hl 0 rfl) ?_
  refine n_iconst hx hb dX7_good_1 ?_
  refine n_put hx hb hts u_X7 tyX7 tyX7_ok nmX7 hown hK hJ hP hS (by omega) f_y rfl 0 (by decide) (nT_m wf_X7_90) rfl rfl rfl (Nat.le_of_ble_eq_true rfl) dX7_good_2 (fun w1 H locs f9 hne9 hP hS => ?_)
  have ew9 : w = w1 := funext fun j9 => (Decidable.em (j9 = y)).elim (fun h9 => by rw [h9, f9]; exact f_y) (fun h9 => (hne9 j9 h9).symm)
  subst ew9
  refine lv_aload_n hx hb dX7_good_5 rfl (lv_at hl 0 rfl) ?_
  refine n_get hx hb hts u_X7 hown hK hP (by omega) f_y rfl 5 (by decide) (nT_m wf_X7_22) rfl dX7_good_6 ?_
  refine n_iconst hx hb dX7_good_9 ?_
  refine n_iald hx hb hK hP 0 (by omega) f_Go (by omega) (by omega) (by decide) dX7_good_10 ?_
  have ho3 := hGo 0 (by omega)
  refine n_bipush hx hb dX7_good_11 (by decide) ?_
  refine n_icmp_eq (tgt := 37) hx hb dX7_good_13 (by decide) (by omega) (by omega) (fun hc13 => ?_) (fun hc13 => ?_)
  · skip
    exact absurd hc13 (by omega)
  · skip
    refine lv_iload_n hx hb dX7_good_16 rfl (lv_at hl 1 rfl) ?_
    refine n_iconst hx hb dX7_good_17 ?_
    refine n_sipush hx hb dX7_good_18 (by decide) ?_
    refine n_rdF (va_runS (As := [.int (iI ((a : Nat) : Int)), .int (iI 1), .int (iI 10000)]) (rest := []) ⟨hx, hb, hml, hown, hts⟩ (c_X7_in ((a : Nat) : Int) 1 10000 (by omega) (by omega) (by omega)) (va_cwS 3 hts (nT_S wl_X7_98 wt_X7_in wn_X7 wc_X7_in) rfl rfl rfl (by decide +kernel) ⟨Nat.le_of_ble_eq_true rfl, Nat.le_of_ble_eq_true rfl⟩) preEq rfl rfl hl.1 rfl (lv_room (Nat.le_of_ble_eq_true rfl)) dX7_good_21 ⟨Nat.zero_le _, Nat.zero_le _⟩) ?_
    refine n_if_eqB (tgt := 37) hx hb dX7_good_24 (by decide) (fun hc24 => ?_) (fun hc24 => ?_)
    · skip
      exact absurd hc24 (by omega)
    · skip
      refine lv_iload_n hx hb dX7_good_27 rfl (lv_at hl 2 rfl) ?_
      refine n_iconst hx hb dX7_good_28 ?_
      refine n_bipush hx hb dX7_good_29 (by decide) ?_
      refine n_rdF (va_runS (As := [.int (iI ((c : Nat) : Int)), .int (iI 0), .int (iI 100)]) (rest := []) ⟨hx, hb, hml, hown, hts⟩ (c_X7_in ((c : Nat) : Int) 0 100 (by omega) (by omega) (by omega)) (va_cwS 3 hts (nT_S wl_X7_98 wt_X7_in wn_X7 wc_X7_in) rfl rfl rfl (by decide +kernel) ⟨Nat.le_of_ble_eq_true rfl, Nat.le_of_ble_eq_true rfl⟩) preEq rfl rfl hl.1 rfl (lv_room (Nat.le_of_ble_eq_true rfl)) dX7_good_31 ⟨Nat.zero_le _, Nat.zero_le _⟩) ?_
      refine n_if_neB (tgt := 39) hx hb dX7_good_34 (by decide) (fun hc34 => ?_) (fun hc34 => ?_)
      · skip
        refine lv_aload_n hx hb dX7_good_39 rfl (lv_at hl 0 rfl) ?_
        refine n_get hx hb hts u_X7 hown hK hP (by omega) f_y rfl 6 (by decide) (nT_m wf_X7_25) rfl dX7_good_40 ?_
        refine lv_aload_n hx hb dX7_good_43 rfl (lv_at hl 0 rfl) ?_
        refine n_get hx hb hts u_X7 hown hK hP (by omega) f_y rfl 5 (by decide) (nT_m wf_X7_22) rfl dX7_good_44 ?_
        refine n_iconst hx hb dX7_good_47 ?_
        refine n_iald hx hb hK hP 0 (by omega) f_Go (by omega) (by omega) (by decide) dX7_good_48 ?_
        have ho4 := hGo 0 (by omega)
        refine lv_iload_n hx hb dX7_good_49 rfl (lv_at hl 1 rfl) ?_
        refine n_iast hx hb hK hJ hP hS (Go 0) (by omega) f_Pr (by omega) (by omega) (by decide) dX7_good_50 (fun w5 H locs f_Pr hne6 hP hS => ?_)
        have f_y := (hne6 y (by omega)).trans f_y
        have f_Go := (hne6 (y + 5) (by omega)).trans f_Go
        have f_Ti := (hne6 (y + 7) (by omega)).trans f_Ti
        have hfr : ∀ j, j ≠ (y + 5) → j ≠ (y + 6) → j ≠ (y + 7) → w5 j = w j := fun j a0 a1 a2 => (hne6 j (by omega)).trans (hfr j a0 a1 a2)
        refine lv_aload_n hx hb dX7_good_51 rfl (lv_at hl 0 rfl) ?_
        refine n_get hx hb hts u_X7 hown hK hP (by omega) f_y rfl 7 (by decide) (nT_m wf_X7_28) rfl dX7_good_52 ?_
        refine lv_aload_n hx hb dX7_good_55 rfl (lv_at hl 0 rfl) ?_
        refine n_get hx hb hts u_X7 hown hK hP (by omega) f_y rfl 5 (by decide) (nT_m wf_X7_22) rfl dX7_good_56 ?_
        refine n_iconst hx hb dX7_good_59 ?_
        refine n_iald hx hb hK hP 0 (by omega) f_Go (by omega) (by omega) (by decide) dX7_good_60 ?_
        have ho7 := hGo 0 (by omega)
        refine lv_iload_n hx hb dX7_good_61 rfl (lv_at hl 2 rfl) ?_
        refine n_iast hx hb hK hJ hP hS (Go 0) (by omega) f_Ti (by omega) (by omega) (by decide) dX7_good_62 (fun w8 H locs f_Ti hne9 hP hS => ?_)
        have f_y := (hne9 y (by omega)).trans f_y
        have f_Go := (hne9 (y + 5) (by omega)).trans f_Go
        have f_Pr := (hne9 (y + 6) (by omega)).trans f_Pr
        have hfr : ∀ j, j ≠ (y + 5) → j ≠ (y + 6) → j ≠ (y + 7) → w8 j = w j := fun j a0 a1 a2 => (hne9 j (by omega)).trans (hfr j a0 a1 a2)
        refine lv_aload_n hx hb dX7_good_63 rfl (lv_at hl 0 rfl) ?_
        refine n_get hx hb hts u_X7 hown hK hP (by omega) f_y rfl 5 (by decide) (nT_m wf_X7_22) rfl dX7_good_64 ?_
        refine n_iconst hx hb dX7_good_67 ?_
        refine lv_dup2_11 hx hb dX7_good_68 rfl rfl ?_
        refine n_iald hx hb hK hP 0 (by omega) f_Go (by omega) (by omega) (by decide) dX7_good_69 ?_
        have ho10 := hGo 0 (by omega)
        refine n_iconst hx hb dX7_good_70 ?_
        refine n_iadd hx hb dX7_good_71 ?_
        refine n_iast hx hb hK hJ hP hS 0 (by omega) f_Go (by omega) (by omega) (by decide) dX7_good_72 (fun w11 H locs f_Go hne12 hP hS => ?_)
        have f_y := (hne12 y (by omega)).trans f_y
        have f_Pr := (hne12 (y + 6) (by omega)).trans f_Pr
        have f_Ti := (hne12 (y + 7) (by omega)).trans f_Ti
        have hfr : ∀ j, j ≠ (y + 5) → j ≠ (y + 6) → j ≠ (y + 7) → w11 j = w j := fun j a0 a1 a2 => (hne12 j (by omega)).trans (hfr j a0 a1 a2)
        refine lv_aload_n hx hb dX7_good_73 rfl (lv_at hl 0 rfl) ?_
        refine n_get hx hb hts u_X7 hown hK hP (by omega) f_y rfl 5 (by decide) (nT_m wf_X7_22) rfl dX7_good_74 ?_
        refine n_iconst hx hb dX7_good_77 ?_
        refine n_iald hx hb hK hP 0 (by omega) f_Go (by omega) (by omega) (by decide) dX7_good_78 ?_
        have ho13 := hGo 0 (by omega)
        refine n_iconst hx hb dX7_good_79 ?_
        refine n_isub hx hb dX7_good_80 ?_
        refine n_iretP hQ hx hb hr hlocks hP hS dX7_good_81 ?_
        exact ⟨hfr, by rw [va_up_self]; omega, f_Go.trans (congrArg (aI G 4) (upZ Go 0 (Go 0 + 1) _ (by omega))), f_Pr.trans (congrArg (aI G 56) (upZ Pr (Go 0) a _ (by omega))), f_Ti.trans (congrArg (aI G 56) (upZ Ti (Go 0) c _ (by omega)))⟩
      · skip
        exact absurd hc34 (by omega)
set_option maxHeartbeats 4000000 in
set_option maxRecDepth 100000 in
theorem c_X7_sold_no {l : Launch} {G : nG} {N : Nat} {ad : Nat → Nat} {w : Nat → va_E} {sz : Nat} (y : Nat) (Go : Nat → Nat) (a c : Int) (hN : y + 26 < N) (hGo : ∀ k, k < 1 → Go k ≤ 14) (ha : -2147483648 ≤ a ∧ a < 2147483648) (hc : -2147483648 ≤ c ∧ c < 2147483648) (hno : ¬ (0 ≤ a ∧ a < (Go 0 : Int)) ∨ ¬ (0 ≤ c ∧ c ≤ 100)) (f_y : w y = .inr (7, [.int (iI 0), .ref (ad (y + 1)), .ref (ad (y + 2)), .ref (ad (y + 3)), .ref (ad (y + 4)), .ref (ad (y + 5)), .ref (ad (y + 6)), .ref (ad (y + 7)), .ref (ad (y + 8)), .ref (ad (y + 9)), .ref (ad (y + 10)), .ref (ad (y + 11)), .ref (ad (y + 12)), .ref (ad (y + 13)), .ref (ad (y + 14)), .ref (ad (y + 15)), .ref (ad (y + 16)), .ref (ad (y + 17)), .ref (ad (y + 18)), .ref (ad (y + 19)), .ref (ad (y + 20)), .ref (ad (y + 21)), .ref (ad (y + 22)), .ref (ad (y + 23)), .ref (ad (y + 24)), .ref (ad (y + 25)), .ref (ad (y + 26))])) (f_Go : w (y + 5) = aI G 4 (fun q => (Go q : Int))) : Met l yX7_sold wsX7_sold ({ frames := 2, cells := 0, slots := 0, locals := 43 }) (va_Pc [.ref (ad y), .int (iI a), .int (iI c)] (nB G N ad w sz)) (nPi G N ad sz (fun r u => (∀ j, u j = w j) ∧ (r = 0))) 0 0 (nA N ad sz) := by
  refine n_ent (cc := cX7_sold) (maxL := 3) (ret := (some .boolean)) (by decide) rfl (Nat.le_of_ble_eq_true rfl) ?_
  intro p e s m below meth cd hx hb hr hml hlocks hts hown hnm hsz hP hK hI Q hQ ls hl
  have hown : s.vm.findClass RX7 = some m.cls := hown
  subst hsz
  have hJ := hI.J s.heap.size
  have hS : va_S (nA N ad s.heap.size) s.heap s.heap [] := va_S.rf
  have hfr : ∀ j, w j = w j := fun _  => rfl
  have hl : lv_has ls 3 [(0, .ref (ad y)), (1, .int (iI a)), (2, .int (iI c))] := hl
  refine lv_aload_n hx hb dX7_sold_0 rfl (lv_at hl 0 rfl) ?_
  refine n_iconst hx hb dX7_sold_1 ?_
  refine n_put hx hb hts u_X7 tyX7 tyX7_ok nmX7 hown hK hJ hP hS (by omega) f_y rfl 0 (by decide) (nT_m wf_X7_90) rfl rfl rfl (Nat.le_of_ble_eq_true rfl) dX7_sold_2 (fun w1 H locs f9 hne9 hP hS => ?_)
  have ew9 : w = w1 := funext fun j9 => (Decidable.em (j9 = y)).elim (fun h9 => by rw [h9, f9]; exact f_y) (fun h9 => (hne9 j9 h9).symm)
  subst ew9
  refine lv_aload_n hx hb dX7_sold_5 rfl (lv_at hl 0 rfl) ?_
  refine lv_iload_n hx hb dX7_sold_6 rfl (lv_at hl 1 rfl) ?_
  refine n_rdF (va_runV (As := [.int (iI a)]) (rest := []) ⟨hx, hb, hml, hown, hts⟩ (c_X7_isGood _ Go a (by omega) hGo (by omega) f_y f_Go) (cwV 1 hts (nT_V wl_X7_102 wi_X7_isGood ws_X7_isGood wn_X7 wc_X7_isGood) rfl rfl rfl (by decide +kernel) ⟨Nat.le_of_ble_eq_true rfl, Nat.le_of_ble_eq_true rfl⟩) (nB.preV hK hI hP (by omega) f_y rfl rfl) rfl rfl hl.1 rfl (lv_room (Nat.le_of_ble_eq_true rfl)) dX7_sold_7 ⟨Nat.zero_le _, Nat.zero_le _⟩) ?_
  refine n_if_eqB (tgt := 23) hx hb dX7_sold_10 (by decide) (fun hc10 => ?_) (fun hc10 => ?_)
  · skip
    refine n_iconst hx hb dX7_sold_23 ?_
    refine n_zretP (t := False) hQ hx hb hr hlocks rfl hP hS dX7_sold_24 ?_
    exact ⟨hfr, rfl⟩
  · skip
    refine lv_iload_n hx hb dX7_sold_13 rfl (lv_at hl 2 rfl) ?_
    refine n_iconst hx hb dX7_sold_14 ?_
    refine n_bipush hx hb dX7_sold_15 (by decide) ?_
    refine n_rdF (va_runS (As := [.int (iI c), .int (iI 0), .int (iI 100)]) (rest := []) ⟨hx, hb, hml, hown, hts⟩ (c_X7_in c 0 100 (by omega) (by omega) (by omega)) (va_cwS 3 hts (nT_S wl_X7_98 wt_X7_in wn_X7 wc_X7_in) rfl rfl rfl (by decide +kernel) ⟨Nat.le_of_ble_eq_true rfl, Nat.le_of_ble_eq_true rfl⟩) preEq rfl rfl hl.1 rfl (lv_room (Nat.le_of_ble_eq_true rfl)) dX7_sold_17 ⟨Nat.zero_le _, Nat.zero_le _⟩) ?_
    refine n_if_neB (tgt := 25) hx hb dX7_sold_20 (by decide) (fun hc20 => ?_) (fun hc20 => ?_)
    · skip
      omega
    · skip
      refine n_iconst hx hb dX7_sold_23 ?_
      refine n_zretP (t := False) hQ hx hb hr hlocks rfl hP hS dX7_sold_24 ?_
      exact ⟨hfr, rfl⟩
set_option maxHeartbeats 4000000 in
set_option maxRecDepth 100000 in
theorem c_X7_sold_yes {l : Launch} {G : nG} {N : Nat} {ad : Nat → Nat} {w : Nat → va_E} {sz : Nat} (y : Nat) (Go Ti : Nat → Nat) (a c : Nat) (hN : y + 26 < N) (hGo : ∀ k, k < 1 → Go k ≤ 14) (hTi : ∀ k, k < 14 → Ti k ≤ 100) (ha : a < Go 0) (hc : c ≤ 100) (f_y : w y = .inr (7, [.int (iI 0), .ref (ad (y + 1)), .ref (ad (y + 2)), .ref (ad (y + 3)), .ref (ad (y + 4)), .ref (ad (y + 5)), .ref (ad (y + 6)), .ref (ad (y + 7)), .ref (ad (y + 8)), .ref (ad (y + 9)), .ref (ad (y + 10)), .ref (ad (y + 11)), .ref (ad (y + 12)), .ref (ad (y + 13)), .ref (ad (y + 14)), .ref (ad (y + 15)), .ref (ad (y + 16)), .ref (ad (y + 17)), .ref (ad (y + 18)), .ref (ad (y + 19)), .ref (ad (y + 20)), .ref (ad (y + 21)), .ref (ad (y + 22)), .ref (ad (y + 23)), .ref (ad (y + 24)), .ref (ad (y + 25)), .ref (ad (y + 26))])) (f_Go : w (y + 5) = aI G 4 (fun q => (Go q : Int))) (f_Ti : w (y + 7) = aI G 56 (fun q => (Ti q : Int))) : Met l yX7_sold wsX7_sold ({ frames := 2, cells := 0, slots := 0, locals := 43 }) (va_Pc [.ref (ad y), .int (iI ((a : Nat) : Int)), .int (iI ((c : Nat) : Int))] (nB G N ad w sz)) (nPi G N ad sz (fun r u => (∀ j, j ≠ (y + 7) → u j = w j) ∧ (r = 1) ∧ (u (y + 7) = aI G 56 (fun q => ((va_up Ti a c q : Nat) : Int))))) 0 0 (nA N ad sz) := by
  refine n_ent (cc := cX7_sold) (maxL := 3) (ret := (some .boolean)) (by decide) rfl (Nat.le_of_ble_eq_true rfl) ?_
  intro p e s m below meth cd hx hb hr hml hlocks hts hown hnm hsz hP hK hI Q hQ ls hl
  have hown : s.vm.findClass RX7 = some m.cls := hown
  subst hsz
  have hJ := hI.J s.heap.size
  have hS : va_S (nA N ad s.heap.size) s.heap s.heap [] := va_S.rf
  have hfr : ∀ j, j ≠ (y + 7) → w j = w j := fun _ _ => rfl
  have hl : lv_has ls 3 [(0, .ref (ad y)), (1, .int (iI ((a : Nat) : Int))), (2, .int (iI ((c : Nat) : Int)))] := hl
  have hg0 := hGo 0 (by omega)
  refine lv_aload_n hx hb dX7_sold_0 rfl (lv_at hl 0 rfl) ?_
  refine n_iconst hx hb dX7_sold_1 ?_
  refine n_put hx hb hts u_X7 tyX7 tyX7_ok nmX7 hown hK hJ hP hS (by omega) f_y rfl 0 (by decide) (nT_m wf_X7_90) rfl rfl rfl (Nat.le_of_ble_eq_true rfl) dX7_sold_2 (fun w1 H locs f9 hne9 hP hS => ?_)
  have ew9 : w = w1 := funext fun j9 => (Decidable.em (j9 = y)).elim (fun h9 => by rw [h9, f9]; exact f_y) (fun h9 => (hne9 j9 h9).symm)
  subst ew9
  refine lv_aload_n hx hb dX7_sold_5 rfl (lv_at hl 0 rfl) ?_
  refine lv_iload_n hx hb dX7_sold_6 rfl (lv_at hl 1 rfl) ?_
  refine n_rdF (va_runV (As := [.int (iI ((a : Nat) : Int))]) (rest := []) ⟨hx, hb, hml, hown, hts⟩ (c_X7_isGood _ Go ((a : Nat) : Int) (by omega) hGo (by omega) f_y f_Go) (cwV 1 hts (nT_V wl_X7_102 wi_X7_isGood ws_X7_isGood wn_X7 wc_X7_isGood) rfl rfl rfl (by decide +kernel) ⟨Nat.le_of_ble_eq_true rfl, Nat.le_of_ble_eq_true rfl⟩) (nB.preV hK hI hP (by omega) f_y rfl rfl) rfl rfl hl.1 rfl (lv_room (Nat.le_of_ble_eq_true rfl)) dX7_sold_7 ⟨Nat.zero_le _, Nat.zero_le _⟩) ?_
  refine n_if_eqB (tgt := 23) hx hb dX7_sold_10 (by decide) (fun hc10 => ?_) (fun hc10 => ?_)
  · skip
    omega
  · skip
    refine lv_iload_n hx hb dX7_sold_13 rfl (lv_at hl 2 rfl) ?_
    refine n_iconst hx hb dX7_sold_14 ?_
    refine n_bipush hx hb dX7_sold_15 (by decide) ?_
    refine n_rdF (va_runS (As := [.int (iI ((c : Nat) : Int)), .int (iI 0), .int (iI 100)]) (rest := []) ⟨hx, hb, hml, hown, hts⟩ (c_X7_in ((c : Nat) : Int) 0 100 (by omega) (by omega) (by omega)) (va_cwS 3 hts (nT_S wl_X7_98 wt_X7_in wn_X7 wc_X7_in) rfl rfl rfl (by decide +kernel) ⟨Nat.le_of_ble_eq_true rfl, Nat.le_of_ble_eq_true rfl⟩) preEq rfl rfl hl.1 rfl (lv_room (Nat.le_of_ble_eq_true rfl)) dX7_sold_17 ⟨Nat.zero_le _, Nat.zero_le _⟩) ?_
    refine n_if_neB (tgt := 25) hx hb dX7_sold_20 (by decide) (fun hc20 => ?_) (fun hc20 => ?_)
    · skip
      refine lv_aload_n hx hb dX7_sold_25 rfl (lv_at hl 0 rfl) ?_
      refine n_get hx hb hts u_X7 hown hK hP (by omega) f_y rfl 7 (by decide) (nT_m wf_X7_28) rfl dX7_sold_26 ?_
      refine lv_iload_n hx hb dX7_sold_29 rfl (lv_at hl 1 rfl) ?_
      refine lv_iload_n hx hb dX7_sold_30 rfl (lv_at hl 2 rfl) ?_
      refine n_iast hx hb hK hJ hP hS a (by omega) f_Ti (by omega) (by omega) (by decide) dX7_sold_31 (fun w3 H locs f_Ti hne4 hP hS => ?_)
      have f_y := (hne4 y (by omega)).trans f_y
      have f_Go := (hne4 (y + 5) (by omega)).trans f_Go
      have hfr : ∀ j, j ≠ (y + 7) → w3 j = w j := fun j a0 => (hne4 j (by omega)).trans (hfr j a0)
      refine n_iconst hx hb dX7_sold_32 ?_
      refine n_zretP (t := True) hQ hx hb hr hlocks rfl hP hS dX7_sold_33 ?_
      exact ⟨hfr, rfl, f_Ti.trans (congrArg (aI G 56) (upZ Ti a c _ (by omega)))⟩
    · skip
      omega
set_option maxHeartbeats 4000000 in
set_option maxRecDepth 100000 in
theorem c_X7_step_no {l : Launch} {G : nG} {N : Nat} {ad : Nat → Nat} {w : Nat → va_E} {sz : Nat} (y : Nat) (a : Int) (hN : y + 26 < N) (ha : -2147483648 ≤ a ∧ a < 2147483648) (hno : ¬ (1 ≤ a ∧ a ≤ 100)) (f_y : w y = .inr (7, [.int (iI 0), .ref (ad (y + 1)), .ref (ad (y + 2)), .ref (ad (y + 3)), .ref (ad (y + 4)), .ref (ad (y + 5)), .ref (ad (y + 6)), .ref (ad (y + 7)), .ref (ad (y + 8)), .ref (ad (y + 9)), .ref (ad (y + 10)), .ref (ad (y + 11)), .ref (ad (y + 12)), .ref (ad (y + 13)), .ref (ad (y + 14)), .ref (ad (y + 15)), .ref (ad (y + 16)), .ref (ad (y + 17)), .ref (ad (y + 18)), .ref (ad (y + 19)), .ref (ad (y + 20)), .ref (ad (y + 21)), .ref (ad (y + 22)), .ref (ad (y + 23)), .ref (ad (y + 24)), .ref (ad (y + 25)), .ref (ad (y + 26))])) : Met l yX7_step wsX7_step ({ frames := 1, cells := 0, slots := 0, locals := 22 }) (va_Pc [.ref (ad y), .int (iI a)] (nB G N ad w sz)) (nPi G N ad sz (fun r u => (∀ j, u j = w j) ∧ (r = 0))) 0 0 (nA N ad sz) := by
  refine n_ent (cc := cX7_step) (maxL := 2) (ret := (some .boolean)) (by decide) rfl (Nat.le_of_ble_eq_true rfl) ?_
  intro p e s m below meth cd hx hb hr hml hlocks hts hown hnm hsz hP hK hI Q hQ ls hl
  have hown : s.vm.findClass RX7 = some m.cls := hown
  subst hsz
  have hJ := hI.J s.heap.size
  have hS : va_S (nA N ad s.heap.size) s.heap s.heap [] := va_S.rf
  have hfr : ∀ j, w j = w j := fun _  => rfl
  have hl : lv_has ls 2 [(0, .ref (ad y)), (1, .int (iI a))] := hl
  refine lv_aload_n hx hb dX7_step_0 rfl (lv_at hl 0 rfl) ?_
  refine n_iconst hx hb dX7_step_1 ?_
  refine n_put hx hb hts u_X7 tyX7 tyX7_ok nmX7 hown hK hJ hP hS (by omega) f_y rfl 0 (by decide) (nT_m wf_X7_90) rfl rfl rfl (Nat.le_of_ble_eq_true rfl) dX7_step_2 (fun w1 H locs f9 hne9 hP hS => ?_)
  have ew9 : w = w1 := funext fun j9 => (Decidable.em (j9 = y)).elim (fun h9 => by rw [h9, f9]; exact f_y) (fun h9 => (hne9 j9 h9).symm)
  subst ew9
  refine lv_iload_n hx hb dX7_step_5 rfl (lv_at hl 1 rfl) ?_
  refine n_iconst hx hb dX7_step_6 ?_
  refine n_bipush hx hb dX7_step_7 (by decide) ?_
  refine n_rdF (va_runS (As := [.int (iI a), .int (iI 1), .int (iI 100)]) (rest := []) ⟨hx, hb, hml, hown, hts⟩ (c_X7_in a 1 100 (by omega) (by omega) (by omega)) (va_cwS 3 hts (nT_S wl_X7_98 wt_X7_in wn_X7 wc_X7_in) rfl rfl rfl (by decide +kernel) ⟨Nat.le_of_ble_eq_true rfl, Nat.le_of_ble_eq_true rfl⟩) preEq rfl rfl hl.1 rfl (lv_room (Nat.le_of_ble_eq_true rfl)) dX7_step_9 ⟨Nat.zero_le _, Nat.zero_le _⟩) ?_
  refine n_if_neB (tgt := 17) hx hb dX7_step_12 (by decide) (fun hc12 => ?_) (fun hc12 => ?_)
  · skip
    exact absurd hc12 (by omega)
  · skip
    refine n_iconst hx hb dX7_step_15 ?_
    refine n_zretP (t := False) hQ hx hb hr hlocks rfl hP hS dX7_step_16 ?_
    exact ⟨hfr, rfl⟩
set_option maxHeartbeats 4000000 in
set_option maxRecDepth 100000 in
theorem c_X7_step_yes {l : Launch} {G : nG} {N : Nat} {ad : Nat → Nat} {w : Nat → va_E} {sz : Nat} (y : Nat) (St : Nat → Nat) (a : Nat) (hN : y + 26 < N) (hSt : ∀ k, k < 1 → 1 ≤ St k ∧ St k ≤ 100) (ha : 1 ≤ a ∧ a ≤ 100) (f_y : w y = .inr (7, [.int (iI 0), .ref (ad (y + 1)), .ref (ad (y + 2)), .ref (ad (y + 3)), .ref (ad (y + 4)), .ref (ad (y + 5)), .ref (ad (y + 6)), .ref (ad (y + 7)), .ref (ad (y + 8)), .ref (ad (y + 9)), .ref (ad (y + 10)), .ref (ad (y + 11)), .ref (ad (y + 12)), .ref (ad (y + 13)), .ref (ad (y + 14)), .ref (ad (y + 15)), .ref (ad (y + 16)), .ref (ad (y + 17)), .ref (ad (y + 18)), .ref (ad (y + 19)), .ref (ad (y + 20)), .ref (ad (y + 21)), .ref (ad (y + 22)), .ref (ad (y + 23)), .ref (ad (y + 24)), .ref (ad (y + 25)), .ref (ad (y + 26))])) (f_St : w (y + 8) = aI G 4 (fun q => (St q : Int))) : Met l yX7_step wsX7_step ({ frames := 1, cells := 0, slots := 0, locals := 22 }) (va_Pc [.ref (ad y), .int (iI ((a : Nat) : Int))] (nB G N ad w sz)) (nPi G N ad sz (fun r u => (∀ j, j ≠ (y + 8) → u j = w j) ∧ (r = 1) ∧ (u (y + 8) = aI G 4 (fun q => ((va_up St 0 a q : Nat) : Int))))) 0 0 (nA N ad sz) := by
  refine n_ent (cc := cX7_step) (maxL := 2) (ret := (some .boolean)) (by decide) rfl (Nat.le_of_ble_eq_true rfl) ?_
  intro p e s m below meth cd hx hb hr hml hlocks hts hown hnm hsz hP hK hI Q hQ ls hl
  have hown : s.vm.findClass RX7 = some m.cls := hown
  subst hsz
  have hJ := hI.J s.heap.size
  have hS : va_S (nA N ad s.heap.size) s.heap s.heap [] := va_S.rf
  have hfr : ∀ j, j ≠ (y + 8) → w j = w j := fun _ _ => rfl
  have hl : lv_has ls 2 [(0, .ref (ad y)), (1, .int (iI ((a : Nat) : Int)))] := hl
  refine lv_aload_n hx hb dX7_step_0 rfl (lv_at hl 0 rfl) ?_
  refine n_iconst hx hb dX7_step_1 ?_
  refine n_put hx hb hts u_X7 tyX7 tyX7_ok nmX7 hown hK hJ hP hS (by omega) f_y rfl 0 (by decide) (nT_m wf_X7_90) rfl rfl rfl (Nat.le_of_ble_eq_true rfl) dX7_step_2 (fun w1 H locs f9 hne9 hP hS => ?_)
  have ew9 : w = w1 := funext fun j9 => (Decidable.em (j9 = y)).elim (fun h9 => by rw [h9, f9]; exact f_y) (fun h9 => (hne9 j9 h9).symm)
  subst ew9
  refine lv_iload_n hx hb dX7_step_5 rfl (lv_at hl 1 rfl) ?_
  refine n_iconst hx hb dX7_step_6 ?_
  refine n_bipush hx hb dX7_step_7 (by decide) ?_
  refine n_rdF (va_runS (As := [.int (iI ((a : Nat) : Int)), .int (iI 1), .int (iI 100)]) (rest := []) ⟨hx, hb, hml, hown, hts⟩ (c_X7_in ((a : Nat) : Int) 1 100 (by omega) (by omega) (by omega)) (va_cwS 3 hts (nT_S wl_X7_98 wt_X7_in wn_X7 wc_X7_in) rfl rfl rfl (by decide +kernel) ⟨Nat.le_of_ble_eq_true rfl, Nat.le_of_ble_eq_true rfl⟩) preEq rfl rfl hl.1 rfl (lv_room (Nat.le_of_ble_eq_true rfl)) dX7_step_9 ⟨Nat.zero_le _, Nat.zero_le _⟩) ?_
  refine n_if_neB (tgt := 17) hx hb dX7_step_12 (by decide) (fun hc12 => ?_) (fun hc12 => ?_)
  · skip
    refine lv_aload_n hx hb dX7_step_17 rfl (lv_at hl 0 rfl) ?_
    refine n_get hx hb hts u_X7 hown hK hP (by omega) f_y rfl 8 (by decide) (nT_m wf_X7_31) rfl dX7_step_18 ?_
    refine n_iconst hx hb dX7_step_21 ?_
    refine lv_iload_n hx hb dX7_step_22 rfl (lv_at hl 1 rfl) ?_
    refine n_iast hx hb hK hJ hP hS 0 (by omega) f_St (by omega) (by omega) (by decide) dX7_step_23 (fun w3 H locs f_St hne4 hP hS => ?_)
    have f_y := (hne4 y (by omega)).trans f_y
    have hfr : ∀ j, j ≠ (y + 8) → w3 j = w j := fun j a0 => (hne4 j (by omega)).trans (hfr j a0)
    refine n_iconst hx hb dX7_step_24 ?_
    refine n_zretP (t := True) hQ hx hb hr hlocks rfl hP hS dX7_step_25 ?_
    exact ⟨hfr, rfl, f_St.trans (congrArg (aI G 4) (upZ St 0 a _ (by omega)))⟩
  · skip
    exact absurd hc12 (by omega)
set_option maxHeartbeats 4000000 in
set_option maxRecDepth 100000 in
theorem c_X7_priceOf {l : Launch} {G : nG} {N : Nat} {ad : Nat → Nat} {w : Nat → va_E} {sz : Nat} (y : Nat) (Ra Pr St : Nat → Nat) (a c : Nat) (hN : y + 26 < N) (hRa : ∀ k, k < 2 → 1 ≤ Ra k ∧ Ra k ≤ 100) (hPr : ∀ k, k < 14 → Pr k ≤ 10000) (hSt : ∀ k, k < 1 → 1 ≤ St k ∧ St k ≤ 100) (ha : a < 14) (hc : c ≤ 3) (f_y : w y = .inr (7, [.int (iI 0), .ref (ad (y + 1)), .ref (ad (y + 2)), .ref (ad (y + 3)), .ref (ad (y + 4)), .ref (ad (y + 5)), .ref (ad (y + 6)), .ref (ad (y + 7)), .ref (ad (y + 8)), .ref (ad (y + 9)), .ref (ad (y + 10)), .ref (ad (y + 11)), .ref (ad (y + 12)), .ref (ad (y + 13)), .ref (ad (y + 14)), .ref (ad (y + 15)), .ref (ad (y + 16)), .ref (ad (y + 17)), .ref (ad (y + 18)), .ref (ad (y + 19)), .ref (ad (y + 20)), .ref (ad (y + 21)), .ref (ad (y + 22)), .ref (ad (y + 23)), .ref (ad (y + 24)), .ref (ad (y + 25)), .ref (ad (y + 26))])) (f_Ra : w (y + 3) = aI G 8 (fun q => (Ra q : Int))) (f_Pr : w (y + 6) = aI G 56 (fun q => (Pr q : Int))) (f_St : w (y + 8) = aI G 4 (fun q => (St q : Int))) : Met l yX7_priceOf wsX7_priceOf ({ frames := 0, cells := 0, slots := 0, locals := 0 }) (va_Pc [.ref (ad y), .int (iI ((a : Nat) : Int)), .int (iI ((c : Nat) : Int))] (nB G N ad w sz)) (nRd (.int (iI ((nPr (Pr a * Ra 0) (St 0 * Ra 1) (St 0) c : Nat) : Int)))) 0 0 (fun _ => False) := by
  refine n_ent (cc := cX7_priceOf) (maxL := 9) (ret := (some .int)) (by decide) rfl (Nat.le_of_ble_eq_true rfl) ?_
  intro p e s m below meth cd hx hb hr hml hlocks hts hown hnm hsz hP hK hI Q hQ ls hl
  have hown : s.vm.findClass RX7 = some m.cls := hown
  have hl : lv_has ls 9 [(0, .ref (ad y)), (1, .int (iI ((a : Nat) : Int))), (2, .int (iI ((c : Nat) : Int)))] := hl
  have hp7 := hPr a (by omega)
  have hr7 := hRa 0 (by omega)
  have hb7 := hRa 1 (by omega)
  have hs7 := hSt 0 (by omega)
  have hpa : Pr a * Ra 0 ≤ 10000 * 100 := Nat.mul_le_mul hp7 hr7.2
  have hsp1 : St 0 * Ra 1 ≤ 100 * 100 := Nat.mul_le_mul hs7.2 hb7.2
  have hsp0 : 1 * 1 ≤ St 0 * Ra 1 := Nat.mul_le_mul hs7.1 hb7.1
  have hdl : Pr a * Ra 0 / (St 0 * Ra 1) ≤ Pr a * Ra 0 := Nat.div_le_self _ _
  have hml9 : Pr a * Ra 0 % (St 0 * Ra 1) < St 0 * Ra 1 := Nat.mod_lt _ (by omega)
  have hd0 : (0 : Int) ≤ ((Pr a * Ra 0 : Nat) : Int) / ((St 0 * Ra 1 : Nat) : Int) := Int.ediv_nonneg (by omega) (by omega)
  refine lv_aload_n hx hb dX7_priceOf_0 rfl (lv_at hl 0 rfl) ?_
  refine n_get hx hb hts u_X7 hown hK hP (by omega) f_y rfl 6 (by decide) (nT_m wf_X7_25) rfl dX7_priceOf_1 ?_
  refine lv_iload_n hx hb dX7_priceOf_4 rfl (lv_at hl 1 rfl) ?_
  refine n_iald hx hb hK hP a (by omega) f_Pr (by omega) (by omega) (by decide) dX7_priceOf_5 ?_
  have ho1 := hPr a (by omega)
  refine lv_aload_n hx hb dX7_priceOf_6 rfl (lv_at hl 0 rfl) ?_
  refine n_get hx hb hts u_X7 hown hK hP (by omega) f_y rfl 3 (by decide) (nT_m wf_X7_16) rfl dX7_priceOf_7 ?_
  refine n_iconst hx hb dX7_priceOf_10 ?_
  refine n_iald hx hb hK hP 0 (by omega) f_Ra (by omega) (by omega) (by decide) dX7_priceOf_11 ?_
  have ho2 := hRa 0 (by omega)
  refine n_imul hx hb dX7_priceOf_12 ?_
  refine lv_istore_n (lv' := [(3, .int (iI ((Pr a * Ra 0 : Nat) : Int))), (0, .ref (ad y)), (1, .int (iI ((a : Nat) : Int))), (2, .int (iI ((c : Nat) : Int)))]) hx hb dX7_priceOf_13 rfl hl (by decide) rfl (fun ls hl => ?_)
  refine lv_aload_n hx hb dX7_priceOf_14 rfl (lv_at hl 1 rfl) ?_
  refine n_get hx hb hts u_X7 hown hK hP (by omega) f_y rfl 3 (by decide) (nT_m wf_X7_16) rfl dX7_priceOf_15 ?_
  refine n_iconst hx hb dX7_priceOf_18 ?_
  refine n_iald hx hb hK hP 1 (by omega) f_Ra (by omega) (by omega) (by decide) dX7_priceOf_19 ?_
  have ho3 := hRa 1 (by omega)
  refine lv_aload_n hx hb dX7_priceOf_20 rfl (lv_at hl 1 rfl) ?_
  refine n_get hx hb hts u_X7 hown hK hP (by omega) f_y rfl 8 (by decide) (nT_m wf_X7_31) rfl dX7_priceOf_21 ?_
  refine n_iconst hx hb dX7_priceOf_24 ?_
  refine n_iald hx hb hK hP 0 (by omega) f_St (by omega) (by omega) (by decide) dX7_priceOf_25 ?_
  have ho4 := hSt 0 (by omega)
  refine n_imul hx hb dX7_priceOf_26 ?_
  refine lv_istore (lv' := [(4, .int (iI ((St 0 * Ra 1 : Nat) : Int))), (3, .int (iI ((Pr a * Ra 0 : Nat) : Int))), (0, .ref (ad y)), (1, .int (iI ((a : Nat) : Int))), (2, .int (iI ((c : Nat) : Int)))]) hx hb dX7_priceOf_27 hl (by decide) (by rw [Int.mul_comm]; rfl) (fun ls hl => ?_)
  refine lv_iload_n hx hb dX7_priceOf_29 rfl (lv_at hl 1 rfl) ?_
  refine lv_iload hx hb dX7_priceOf_30 (lv_at hl 0 rfl) ?_
  refine n_idivN hx hb dX7_priceOf_32 (by omega) (by omega) ?_
  refine lv_istore (lv' := [(5, .int (iI ((Pr a * Ra 0 / (St 0 * Ra 1) : Nat) : Int))), (4, .int (iI ((St 0 * Ra 1 : Nat) : Int))), (3, .int (iI ((Pr a * Ra 0 : Nat) : Int))), (0, .ref (ad y)), (1, .int (iI ((a : Nat) : Int))), (2, .int (iI ((c : Nat) : Int)))]) hx hb dX7_priceOf_33 hl (by decide) rfl (fun ls hl => ?_)
  refine lv_iload_n hx hb dX7_priceOf_35 rfl (lv_at hl 2 rfl) ?_
  refine lv_iload hx hb dX7_priceOf_36 (lv_at hl 1 rfl) ?_
  refine n_iremN hx hb dX7_priceOf_38 (by omega) (by omega) ?_
  refine lv_istore (lv' := [(6, .int (iI ((Pr a * Ra 0 % (St 0 * Ra 1) : Nat) : Int))), (5, .int (iI ((Pr a * Ra 0 / (St 0 * Ra 1) : Nat) : Int))), (4, .int (iI ((St 0 * Ra 1 : Nat) : Int))), (3, .int (iI ((Pr a * Ra 0 : Nat) : Int))), (0, .ref (ad y)), (1, .int (iI ((a : Nat) : Int))), (2, .int (iI ((c : Nat) : Int)))]) hx hb dX7_priceOf_39 hl (by decide) rfl (fun ls hl => ?_)
  refine lv_iload hx hb dX7_priceOf_41 (lv_at hl 0 rfl) ?_
  refine n_if_le (tgt := 53) hx hb dX7_priceOf_43 (by decide) (by omega) (fun hc43 => ?_) (fun hc43 => ?_)
  · skip
    refine lv_iload hx hb dX7_priceOf_53 (lv_at hl 1 rfl) ?_
    refine lv_istore (lv' := [(7, .int (iI ((Pr a * Ra 0 / (St 0 * Ra 1) : Nat) : Int))), (6, .int (iI ((Pr a * Ra 0 % (St 0 * Ra 1) : Nat) : Int))), (5, .int (iI ((Pr a * Ra 0 / (St 0 * Ra 1) : Nat) : Int))), (4, .int (iI ((St 0 * Ra 1 : Nat) : Int))), (3, .int (iI ((Pr a * Ra 0 : Nat) : Int))), (0, .ref (ad y)), (1, .int (iI ((a : Nat) : Int))), (2, .int (iI ((c : Nat) : Int)))]) hx hb dX7_priceOf_55 hl (by decide) rfl (fun ls hl => ?_)
    refine lv_iload_n hx hb dX7_priceOf_57 rfl (lv_at hl 7 rfl) ?_
    refine n_if_eq (tgt := 66) hx hb dX7_priceOf_58 (by decide) (by omega) (fun hc58 => ?_) (fun hc58 => ?_)
    · skip
      refine lv_aload_n hx hb dX7_priceOf_66 rfl (lv_at hl 5 rfl) ?_
      refine n_get hx hb hts u_X7 hown hK hP (by omega) f_y rfl 8 (by decide) (nT_m wf_X7_31) rfl dX7_priceOf_67 ?_
      refine n_iconst hx hb dX7_priceOf_70 ?_
      refine n_iald hx hb hK hP 0 (by omega) f_St (by omega) (by omega) (by decide) dX7_priceOf_71 ?_
      have ho5 := hSt 0 (by omega)
      refine lv_iload_n hx hb dX7_priceOf_72 rfl (lv_at hl 7 rfl) ?_
      refine n_if_ne (tgt := 81) hx hb dX7_priceOf_73 (by decide) (by omega) (fun hc73 => ?_) (fun hc73 => ?_)
      · skip
        refine lv_iload hx hb dX7_priceOf_81 (lv_at hl 0 rfl) ?_
        refine n_imul hx hb dX7_priceOf_83 ?_
        exact n_iretR hQ hx hb hr hlocks (by first | omega | exact mPr_u (nUp_t (by omega)) | exact mPr_d (nUp_f (by omega))) dX7_priceOf_84
      · skip
        refine lv_iload hx hb dX7_priceOf_76 (lv_at hl 2 rfl) ?_
        refine lv_goto (tgt := 83) hx hb dX7_priceOf_78 (by decide) ?_
        refine n_imul hx hb dX7_priceOf_83 ?_
        exact n_iretR hQ hx hb hr hlocks (by first | omega | exact mPr_u (nUp_t (by omega)) | exact mPr_d (nUp_f (by omega))) dX7_priceOf_84
    · skip
      refine lv_iload_n hx hb dX7_priceOf_61 rfl (lv_at hl 7 rfl) ?_
      refine n_iconst hx hb dX7_priceOf_62 ?_
      refine n_icmp_ne (tgt := 85) hx hb dX7_priceOf_63 (by decide) (by omega) (by omega) (fun hc63 => ?_) (fun hc63 => ?_)
      · skip
        refine n_iconst hx hb dX7_priceOf_85 ?_
        refine lv_iload hx hb dX7_priceOf_86 (lv_at hl 1 rfl) ?_
        refine n_imul hx hb dX7_priceOf_88 ?_
        refine lv_iload hx hb dX7_priceOf_89 (lv_at hl 3 rfl) ?_
        refine n_icmp_gt (tgt := 116) hx hb dX7_priceOf_91 (by decide) (by omega) (by omega) (fun hc91 => ?_) (fun hc91 => ?_)
        · skip
          refine n_iconst hx hb dX7_priceOf_116 ?_
          refine lv_goto (tgt := 121) hx hb dX7_priceOf_117 (by decide) ?_
          refine lv_istore (lv' := [(8, .int (iI 1)), (7, .int (iI ((Pr a * Ra 0 / (St 0 * Ra 1) : Nat) : Int))), (6, .int (iI ((Pr a * Ra 0 % (St 0 * Ra 1) : Nat) : Int))), (5, .int (iI ((Pr a * Ra 0 / (St 0 * Ra 1) : Nat) : Int))), (4, .int (iI ((St 0 * Ra 1 : Nat) : Int))), (3, .int (iI ((Pr a * Ra 0 : Nat) : Int))), (0, .ref (ad y)), (1, .int (iI ((a : Nat) : Int))), (2, .int (iI ((c : Nat) : Int)))]) hx hb dX7_priceOf_121 hl (by decide) rfl (fun ls hl => ?_)
          refine lv_aload_n hx hb dX7_priceOf_123 rfl (lv_at hl 6 rfl) ?_
          refine n_get hx hb hts u_X7 hown hK hP (by omega) f_y rfl 8 (by decide) (nT_m wf_X7_31) rfl dX7_priceOf_124 ?_
          refine n_iconst hx hb dX7_priceOf_127 ?_
          refine n_iald hx hb hK hP 0 (by omega) f_St (by omega) (by omega) (by decide) dX7_priceOf_128 ?_
          have ho6 := hSt 0 (by omega)
          refine lv_iload hx hb dX7_priceOf_129 (lv_at hl 0 rfl) ?_
          refine n_if_eq (tgt := 139) hx hb dX7_priceOf_131 (by decide) (by omega) (fun hc131 => ?_) (fun hc131 => ?_)
          · skip
            refine lv_iload hx hb dX7_priceOf_139 (lv_at hl 3 rfl) ?_
            refine n_imul hx hb dX7_priceOf_141 ?_
            exact n_iretR hQ hx hb hr hlocks (by first | omega | exact mPr_u (nUp_t (by omega)) | exact mPr_d (nUp_f (by omega))) dX7_priceOf_142
          · skip
            refine lv_iload hx hb dX7_priceOf_134 (lv_at hl 1 rfl) ?_
            refine lv_goto (tgt := 141) hx hb dX7_priceOf_136 (by decide) ?_
            refine n_imul hx hb dX7_priceOf_141 ?_
            exact n_iretR hQ hx hb hr hlocks (by first | omega | exact mPr_u (nUp_t (by omega)) | exact mPr_d (nUp_f (by omega))) dX7_priceOf_142
        · skip
          refine n_iconst hx hb dX7_priceOf_94 ?_
          refine lv_iload hx hb dX7_priceOf_95 (lv_at hl 1 rfl) ?_
          refine n_imul hx hb dX7_priceOf_97 ?_
          refine lv_iload hx hb dX7_priceOf_98 (lv_at hl 3 rfl) ?_
          refine n_icmp_ne (tgt := 120) hx hb dX7_priceOf_100 (by decide) (by omega) (by omega) (fun hc100 => ?_) (fun hc100 => ?_)
          · skip
            refine n_iconst hx hb dX7_priceOf_120 ?_
            refine lv_istore (lv' := [(8, .int (iI 0)), (7, .int (iI ((Pr a * Ra 0 / (St 0 * Ra 1) : Nat) : Int))), (6, .int (iI ((Pr a * Ra 0 % (St 0 * Ra 1) : Nat) : Int))), (5, .int (iI ((Pr a * Ra 0 / (St 0 * Ra 1) : Nat) : Int))), (4, .int (iI ((St 0 * Ra 1 : Nat) : Int))), (3, .int (iI ((Pr a * Ra 0 : Nat) : Int))), (0, .ref (ad y)), (1, .int (iI ((a : Nat) : Int))), (2, .int (iI ((c : Nat) : Int)))]) hx hb dX7_priceOf_121 hl (by decide) rfl (fun ls hl => ?_)
            refine lv_aload_n hx hb dX7_priceOf_123 rfl (lv_at hl 6 rfl) ?_
            refine n_get hx hb hts u_X7 hown hK hP (by omega) f_y rfl 8 (by decide) (nT_m wf_X7_31) rfl dX7_priceOf_124 ?_
            refine n_iconst hx hb dX7_priceOf_127 ?_
            refine n_iald hx hb hK hP 0 (by omega) f_St (by omega) (by omega) (by decide) dX7_priceOf_128 ?_
            have ho7 := hSt 0 (by omega)
            refine lv_iload hx hb dX7_priceOf_129 (lv_at hl 0 rfl) ?_
            refine n_if_eq (tgt := 139) hx hb dX7_priceOf_131 (by decide) (by omega) (fun hc131 => ?_) (fun hc131 => ?_)
            · skip
              refine lv_iload hx hb dX7_priceOf_139 (lv_at hl 3 rfl) ?_
              refine n_imul hx hb dX7_priceOf_141 ?_
              exact n_iretR hQ hx hb hr hlocks (by first | omega | exact mPr_u (nUp_t (by omega)) | exact mPr_d (nUp_f (by omega))) dX7_priceOf_142
            · skip
              refine lv_iload hx hb dX7_priceOf_134 (lv_at hl 1 rfl) ?_
              refine lv_goto (tgt := 141) hx hb dX7_priceOf_136 (by decide) ?_
              refine n_imul hx hb dX7_priceOf_141 ?_
              exact n_iretR hQ hx hb hr hlocks (by first | omega | exact mPr_u (nUp_t (by omega)) | exact mPr_d (nUp_f (by omega))) dX7_priceOf_142
          · skip
            refine lv_iload_n hx hb dX7_priceOf_103 rfl (lv_at hl 7 rfl) ?_
            refine n_iconst hx hb dX7_priceOf_104 ?_
            refine n_icmp_eq (tgt := 116) hx hb dX7_priceOf_105 (by decide) (by omega) (by omega) (fun hc105 => ?_) (fun hc105 => ?_)
            · skip
              refine n_iconst hx hb dX7_priceOf_116 ?_
              refine lv_goto (tgt := 121) hx hb dX7_priceOf_117 (by decide) ?_
              refine lv_istore (lv' := [(8, .int (iI 1)), (7, .int (iI ((Pr a * Ra 0 / (St 0 * Ra 1) : Nat) : Int))), (6, .int (iI ((Pr a * Ra 0 % (St 0 * Ra 1) : Nat) : Int))), (5, .int (iI ((Pr a * Ra 0 / (St 0 * Ra 1) : Nat) : Int))), (4, .int (iI ((St 0 * Ra 1 : Nat) : Int))), (3, .int (iI ((Pr a * Ra 0 : Nat) : Int))), (0, .ref (ad y)), (1, .int (iI ((a : Nat) : Int))), (2, .int (iI ((c : Nat) : Int)))]) hx hb dX7_priceOf_121 hl (by decide) rfl (fun ls hl => ?_)
              refine lv_aload_n hx hb dX7_priceOf_123 rfl (lv_at hl 6 rfl) ?_
              refine n_get hx hb hts u_X7 hown hK hP (by omega) f_y rfl 8 (by decide) (nT_m wf_X7_31) rfl dX7_priceOf_124 ?_
              refine n_iconst hx hb dX7_priceOf_127 ?_
              refine n_iald hx hb hK hP 0 (by omega) f_St (by omega) (by omega) (by decide) dX7_priceOf_128 ?_
              have ho8 := hSt 0 (by omega)
              refine lv_iload hx hb dX7_priceOf_129 (lv_at hl 0 rfl) ?_
              refine n_if_eq (tgt := 139) hx hb dX7_priceOf_131 (by decide) (by omega) (fun hc131 => ?_) (fun hc131 => ?_)
              · skip
                refine lv_iload hx hb dX7_priceOf_139 (lv_at hl 3 rfl) ?_
                refine n_imul hx hb dX7_priceOf_141 ?_
                exact n_iretR hQ hx hb hr hlocks (by first | omega | exact mPr_u (nUp_t (by omega)) | exact mPr_d (nUp_f (by omega))) dX7_priceOf_142
              · skip
                refine lv_iload hx hb dX7_priceOf_134 (lv_at hl 1 rfl) ?_
                refine lv_goto (tgt := 141) hx hb dX7_priceOf_136 (by decide) ?_
                refine n_imul hx hb dX7_priceOf_141 ?_
                exact n_iretR hQ hx hb hr hlocks (by first | omega | exact mPr_u (nUp_t (by omega)) | exact mPr_d (nUp_f (by omega))) dX7_priceOf_142
            · skip
              refine lv_iload hx hb dX7_priceOf_108 (lv_at hl 2 rfl) ?_
              refine n_iconst hx hb dX7_priceOf_110 ?_
              refine n_iremN hx hb dX7_priceOf_111 (by omega) (by omega) ?_
              refine n_iconst hx hb dX7_priceOf_112 ?_
              refine n_icmp_ne (tgt := 120) hx hb dX7_priceOf_113 (by decide) (by omega) (by omega) (fun hc113 => ?_) (fun hc113 => ?_)
              · skip
                refine n_iconst hx hb dX7_priceOf_120 ?_
                refine lv_istore (lv' := [(8, .int (iI 0)), (7, .int (iI ((Pr a * Ra 0 / (St 0 * Ra 1) : Nat) : Int))), (6, .int (iI ((Pr a * Ra 0 % (St 0 * Ra 1) : Nat) : Int))), (5, .int (iI ((Pr a * Ra 0 / (St 0 * Ra 1) : Nat) : Int))), (4, .int (iI ((St 0 * Ra 1 : Nat) : Int))), (3, .int (iI ((Pr a * Ra 0 : Nat) : Int))), (0, .ref (ad y)), (1, .int (iI ((a : Nat) : Int))), (2, .int (iI ((c : Nat) : Int)))]) hx hb dX7_priceOf_121 hl (by decide) rfl (fun ls hl => ?_)
                refine lv_aload_n hx hb dX7_priceOf_123 rfl (lv_at hl 6 rfl) ?_
                refine n_get hx hb hts u_X7 hown hK hP (by omega) f_y rfl 8 (by decide) (nT_m wf_X7_31) rfl dX7_priceOf_124 ?_
                refine n_iconst hx hb dX7_priceOf_127 ?_
                refine n_iald hx hb hK hP 0 (by omega) f_St (by omega) (by omega) (by decide) dX7_priceOf_128 ?_
                have ho9 := hSt 0 (by omega)
                refine lv_iload hx hb dX7_priceOf_129 (lv_at hl 0 rfl) ?_
                refine n_if_eq (tgt := 139) hx hb dX7_priceOf_131 (by decide) (by omega) (fun hc131 => ?_) (fun hc131 => ?_)
                · skip
                  refine lv_iload hx hb dX7_priceOf_139 (lv_at hl 3 rfl) ?_
                  refine n_imul hx hb dX7_priceOf_141 ?_
                  exact n_iretR hQ hx hb hr hlocks (by first | omega | exact mPr_u (nUp_t (by omega)) | exact mPr_d (nUp_f (by omega))) dX7_priceOf_142
                · skip
                  refine lv_iload hx hb dX7_priceOf_134 (lv_at hl 1 rfl) ?_
                  refine lv_goto (tgt := 141) hx hb dX7_priceOf_136 (by decide) ?_
                  refine n_imul hx hb dX7_priceOf_141 ?_
                  exact n_iretR hQ hx hb hr hlocks (by first | omega | exact mPr_u (nUp_t (by omega)) | exact mPr_d (nUp_f (by omega))) dX7_priceOf_142
              · skip
                refine n_iconst hx hb dX7_priceOf_116 ?_
                refine lv_goto (tgt := 121) hx hb dX7_priceOf_117 (by decide) ?_
                refine lv_istore (lv' := [(8, .int (iI 1)), (7, .int (iI ((Pr a * Ra 0 / (St 0 * Ra 1) : Nat) : Int))), (6, .int (iI ((Pr a * Ra 0 % (St 0 * Ra 1) : Nat) : Int))), (5, .int (iI ((Pr a * Ra 0 / (St 0 * Ra 1) : Nat) : Int))), (4, .int (iI ((St 0 * Ra 1 : Nat) : Int))), (3, .int (iI ((Pr a * Ra 0 : Nat) : Int))), (0, .ref (ad y)), (1, .int (iI ((a : Nat) : Int))), (2, .int (iI ((c : Nat) : Int)))]) hx hb dX7_priceOf_121 hl (by decide) rfl (fun ls hl => ?_)
                refine lv_aload_n hx hb dX7_priceOf_123 rfl (lv_at hl 6 rfl) ?_
                refine n_get hx hb hts u_X7 hown hK hP (by omega) f_y rfl 8 (by decide) (nT_m wf_X7_31) rfl dX7_priceOf_124 ?_
                refine n_iconst hx hb dX7_priceOf_127 ?_
                refine n_iald hx hb hK hP 0 (by omega) f_St (by omega) (by omega) (by decide) dX7_priceOf_128 ?_
                have ho10 := hSt 0 (by omega)
                refine lv_iload hx hb dX7_priceOf_129 (lv_at hl 0 rfl) ?_
                refine n_if_eq (tgt := 139) hx hb dX7_priceOf_131 (by decide) (by omega) (fun hc131 => ?_) (fun hc131 => ?_)
                · skip
                  refine lv_iload hx hb dX7_priceOf_139 (lv_at hl 3 rfl) ?_
                  refine n_imul hx hb dX7_priceOf_141 ?_
                  exact n_iretR hQ hx hb hr hlocks (by first | omega | exact mPr_u (nUp_t (by omega)) | exact mPr_d (nUp_f (by omega))) dX7_priceOf_142
                · skip
                  refine lv_iload hx hb dX7_priceOf_134 (lv_at hl 1 rfl) ?_
                  refine lv_goto (tgt := 141) hx hb dX7_priceOf_136 (by decide) ?_
                  refine n_imul hx hb dX7_priceOf_141 ?_
                  exact n_iretR hQ hx hb hr hlocks (by first | omega | exact mPr_u (nUp_t (by omega)) | exact mPr_d (nUp_f (by omega))) dX7_priceOf_142
      · skip
        refine lv_aload_n hx hb dX7_priceOf_66 rfl (lv_at hl 5 rfl) ?_
        refine n_get hx hb hts u_X7 hown hK hP (by omega) f_y rfl 8 (by decide) (nT_m wf_X7_31) rfl dX7_priceOf_67 ?_
        refine n_iconst hx hb dX7_priceOf_70 ?_
        refine n_iald hx hb hK hP 0 (by omega) f_St (by omega) (by omega) (by decide) dX7_priceOf_71 ?_
        have ho11 := hSt 0 (by omega)
        refine lv_iload_n hx hb dX7_priceOf_72 rfl (lv_at hl 7 rfl) ?_
        refine n_if_ne (tgt := 81) hx hb dX7_priceOf_73 (by decide) (by omega) (fun hc73 => ?_) (fun hc73 => ?_)
        · skip
          refine lv_iload hx hb dX7_priceOf_81 (lv_at hl 0 rfl) ?_
          refine n_imul hx hb dX7_priceOf_83 ?_
          exact n_iretR hQ hx hb hr hlocks (by first | omega | exact mPr_u (nUp_t (by omega)) | exact mPr_d (nUp_f (by omega))) dX7_priceOf_84
        · skip
          refine lv_iload hx hb dX7_priceOf_76 (lv_at hl 2 rfl) ?_
          refine lv_goto (tgt := 83) hx hb dX7_priceOf_78 (by decide) ?_
          refine n_imul hx hb dX7_priceOf_83 ?_
          exact n_iretR hQ hx hb hr hlocks (by first | omega | exact mPr_u (nUp_t (by omega)) | exact mPr_d (nUp_f (by omega))) dX7_priceOf_84
  · skip
    refine lv_iload hx hb dX7_priceOf_46 (lv_at hl 1 rfl) ?_
    refine n_iconst hx hb dX7_priceOf_48 ?_
    refine n_iadd hx hb dX7_priceOf_49 ?_
    refine lv_goto (tgt := 55) hx hb dX7_priceOf_50 (by decide) ?_
    refine lv_istore (lv' := [(7, .int (iI (((Pr a * Ra 0 / (St 0 * Ra 1) : Nat) : Int) + 1))), (6, .int (iI ((Pr a * Ra 0 % (St 0 * Ra 1) : Nat) : Int))), (5, .int (iI ((Pr a * Ra 0 / (St 0 * Ra 1) : Nat) : Int))), (4, .int (iI ((St 0 * Ra 1 : Nat) : Int))), (3, .int (iI ((Pr a * Ra 0 : Nat) : Int))), (0, .ref (ad y)), (1, .int (iI ((a : Nat) : Int))), (2, .int (iI ((c : Nat) : Int)))]) hx hb dX7_priceOf_55 hl (by decide) rfl (fun ls hl => ?_)
    refine lv_iload_n hx hb dX7_priceOf_57 rfl (lv_at hl 7 rfl) ?_
    refine n_if_eq (tgt := 66) hx hb dX7_priceOf_58 (by decide) (by omega) (fun hc58 => ?_) (fun hc58 => ?_)
    · skip
      refine lv_aload_n hx hb dX7_priceOf_66 rfl (lv_at hl 5 rfl) ?_
      refine n_get hx hb hts u_X7 hown hK hP (by omega) f_y rfl 8 (by decide) (nT_m wf_X7_31) rfl dX7_priceOf_67 ?_
      refine n_iconst hx hb dX7_priceOf_70 ?_
      refine n_iald hx hb hK hP 0 (by omega) f_St (by omega) (by omega) (by decide) dX7_priceOf_71 ?_
      have ho12 := hSt 0 (by omega)
      refine lv_iload_n hx hb dX7_priceOf_72 rfl (lv_at hl 7 rfl) ?_
      refine n_if_ne (tgt := 81) hx hb dX7_priceOf_73 (by decide) (by omega) (fun hc73 => ?_) (fun hc73 => ?_)
      · skip
        refine lv_iload hx hb dX7_priceOf_81 (lv_at hl 0 rfl) ?_
        refine n_imul hx hb dX7_priceOf_83 ?_
        exact n_iretR hQ hx hb hr hlocks (by first | omega | exact mPr_u (nUp_t (by omega)) | exact mPr_d (nUp_f (by omega))) dX7_priceOf_84
      · skip
        refine lv_iload hx hb dX7_priceOf_76 (lv_at hl 2 rfl) ?_
        refine lv_goto (tgt := 83) hx hb dX7_priceOf_78 (by decide) ?_
        refine n_imul hx hb dX7_priceOf_83 ?_
        exact n_iretR hQ hx hb hr hlocks (by first | omega | exact mPr_u (nUp_t (by omega)) | exact mPr_d (nUp_f (by omega))) dX7_priceOf_84
    · skip
      refine lv_iload_n hx hb dX7_priceOf_61 rfl (lv_at hl 7 rfl) ?_
      refine n_iconst hx hb dX7_priceOf_62 ?_
      refine n_icmp_ne (tgt := 85) hx hb dX7_priceOf_63 (by decide) (by omega) (by omega) (fun hc63 => ?_) (fun hc63 => ?_)
      · skip
        refine n_iconst hx hb dX7_priceOf_85 ?_
        refine lv_iload hx hb dX7_priceOf_86 (lv_at hl 1 rfl) ?_
        refine n_imul hx hb dX7_priceOf_88 ?_
        refine lv_iload hx hb dX7_priceOf_89 (lv_at hl 3 rfl) ?_
        refine n_icmp_gt (tgt := 116) hx hb dX7_priceOf_91 (by decide) (by omega) (by omega) (fun hc91 => ?_) (fun hc91 => ?_)
        · skip
          refine n_iconst hx hb dX7_priceOf_116 ?_
          refine lv_goto (tgt := 121) hx hb dX7_priceOf_117 (by decide) ?_
          refine lv_istore (lv' := [(8, .int (iI 1)), (7, .int (iI (((Pr a * Ra 0 / (St 0 * Ra 1) : Nat) : Int) + 1))), (6, .int (iI ((Pr a * Ra 0 % (St 0 * Ra 1) : Nat) : Int))), (5, .int (iI ((Pr a * Ra 0 / (St 0 * Ra 1) : Nat) : Int))), (4, .int (iI ((St 0 * Ra 1 : Nat) : Int))), (3, .int (iI ((Pr a * Ra 0 : Nat) : Int))), (0, .ref (ad y)), (1, .int (iI ((a : Nat) : Int))), (2, .int (iI ((c : Nat) : Int)))]) hx hb dX7_priceOf_121 hl (by decide) rfl (fun ls hl => ?_)
          refine lv_aload_n hx hb dX7_priceOf_123 rfl (lv_at hl 6 rfl) ?_
          refine n_get hx hb hts u_X7 hown hK hP (by omega) f_y rfl 8 (by decide) (nT_m wf_X7_31) rfl dX7_priceOf_124 ?_
          refine n_iconst hx hb dX7_priceOf_127 ?_
          refine n_iald hx hb hK hP 0 (by omega) f_St (by omega) (by omega) (by decide) dX7_priceOf_128 ?_
          have ho13 := hSt 0 (by omega)
          refine lv_iload hx hb dX7_priceOf_129 (lv_at hl 0 rfl) ?_
          refine n_if_eq (tgt := 139) hx hb dX7_priceOf_131 (by decide) (by omega) (fun hc131 => ?_) (fun hc131 => ?_)
          · skip
            refine lv_iload hx hb dX7_priceOf_139 (lv_at hl 3 rfl) ?_
            refine n_imul hx hb dX7_priceOf_141 ?_
            exact n_iretR hQ hx hb hr hlocks (by first | omega | exact mPr_u (nUp_t (by omega)) | exact mPr_d (nUp_f (by omega))) dX7_priceOf_142
          · skip
            refine lv_iload hx hb dX7_priceOf_134 (lv_at hl 1 rfl) ?_
            refine lv_goto (tgt := 141) hx hb dX7_priceOf_136 (by decide) ?_
            refine n_imul hx hb dX7_priceOf_141 ?_
            exact n_iretR hQ hx hb hr hlocks (by first | omega | exact mPr_u (nUp_t (by omega)) | exact mPr_d (nUp_f (by omega))) dX7_priceOf_142
        · skip
          refine n_iconst hx hb dX7_priceOf_94 ?_
          refine lv_iload hx hb dX7_priceOf_95 (lv_at hl 1 rfl) ?_
          refine n_imul hx hb dX7_priceOf_97 ?_
          refine lv_iload hx hb dX7_priceOf_98 (lv_at hl 3 rfl) ?_
          refine n_icmp_ne (tgt := 120) hx hb dX7_priceOf_100 (by decide) (by omega) (by omega) (fun hc100 => ?_) (fun hc100 => ?_)
          · skip
            refine n_iconst hx hb dX7_priceOf_120 ?_
            refine lv_istore (lv' := [(8, .int (iI 0)), (7, .int (iI (((Pr a * Ra 0 / (St 0 * Ra 1) : Nat) : Int) + 1))), (6, .int (iI ((Pr a * Ra 0 % (St 0 * Ra 1) : Nat) : Int))), (5, .int (iI ((Pr a * Ra 0 / (St 0 * Ra 1) : Nat) : Int))), (4, .int (iI ((St 0 * Ra 1 : Nat) : Int))), (3, .int (iI ((Pr a * Ra 0 : Nat) : Int))), (0, .ref (ad y)), (1, .int (iI ((a : Nat) : Int))), (2, .int (iI ((c : Nat) : Int)))]) hx hb dX7_priceOf_121 hl (by decide) rfl (fun ls hl => ?_)
            refine lv_aload_n hx hb dX7_priceOf_123 rfl (lv_at hl 6 rfl) ?_
            refine n_get hx hb hts u_X7 hown hK hP (by omega) f_y rfl 8 (by decide) (nT_m wf_X7_31) rfl dX7_priceOf_124 ?_
            refine n_iconst hx hb dX7_priceOf_127 ?_
            refine n_iald hx hb hK hP 0 (by omega) f_St (by omega) (by omega) (by decide) dX7_priceOf_128 ?_
            have ho14 := hSt 0 (by omega)
            refine lv_iload hx hb dX7_priceOf_129 (lv_at hl 0 rfl) ?_
            refine n_if_eq (tgt := 139) hx hb dX7_priceOf_131 (by decide) (by omega) (fun hc131 => ?_) (fun hc131 => ?_)
            · skip
              refine lv_iload hx hb dX7_priceOf_139 (lv_at hl 3 rfl) ?_
              refine n_imul hx hb dX7_priceOf_141 ?_
              exact n_iretR hQ hx hb hr hlocks (by first | omega | exact mPr_u (nUp_t (by omega)) | exact mPr_d (nUp_f (by omega))) dX7_priceOf_142
            · skip
              refine lv_iload hx hb dX7_priceOf_134 (lv_at hl 1 rfl) ?_
              refine lv_goto (tgt := 141) hx hb dX7_priceOf_136 (by decide) ?_
              refine n_imul hx hb dX7_priceOf_141 ?_
              exact n_iretR hQ hx hb hr hlocks (by first | omega | exact mPr_u (nUp_t (by omega)) | exact mPr_d (nUp_f (by omega))) dX7_priceOf_142
          · skip
            refine lv_iload_n hx hb dX7_priceOf_103 rfl (lv_at hl 7 rfl) ?_
            refine n_iconst hx hb dX7_priceOf_104 ?_
            refine n_icmp_eq (tgt := 116) hx hb dX7_priceOf_105 (by decide) (by omega) (by omega) (fun hc105 => ?_) (fun hc105 => ?_)
            · skip
              refine n_iconst hx hb dX7_priceOf_116 ?_
              refine lv_goto (tgt := 121) hx hb dX7_priceOf_117 (by decide) ?_
              refine lv_istore (lv' := [(8, .int (iI 1)), (7, .int (iI (((Pr a * Ra 0 / (St 0 * Ra 1) : Nat) : Int) + 1))), (6, .int (iI ((Pr a * Ra 0 % (St 0 * Ra 1) : Nat) : Int))), (5, .int (iI ((Pr a * Ra 0 / (St 0 * Ra 1) : Nat) : Int))), (4, .int (iI ((St 0 * Ra 1 : Nat) : Int))), (3, .int (iI ((Pr a * Ra 0 : Nat) : Int))), (0, .ref (ad y)), (1, .int (iI ((a : Nat) : Int))), (2, .int (iI ((c : Nat) : Int)))]) hx hb dX7_priceOf_121 hl (by decide) rfl (fun ls hl => ?_)
              refine lv_aload_n hx hb dX7_priceOf_123 rfl (lv_at hl 6 rfl) ?_
              refine n_get hx hb hts u_X7 hown hK hP (by omega) f_y rfl 8 (by decide) (nT_m wf_X7_31) rfl dX7_priceOf_124 ?_
              refine n_iconst hx hb dX7_priceOf_127 ?_
              refine n_iald hx hb hK hP 0 (by omega) f_St (by omega) (by omega) (by decide) dX7_priceOf_128 ?_
              have ho15 := hSt 0 (by omega)
              refine lv_iload hx hb dX7_priceOf_129 (lv_at hl 0 rfl) ?_
              refine n_if_eq (tgt := 139) hx hb dX7_priceOf_131 (by decide) (by omega) (fun hc131 => ?_) (fun hc131 => ?_)
              · skip
                refine lv_iload hx hb dX7_priceOf_139 (lv_at hl 3 rfl) ?_
                refine n_imul hx hb dX7_priceOf_141 ?_
                exact n_iretR hQ hx hb hr hlocks (by first | omega | exact mPr_u (nUp_t (by omega)) | exact mPr_d (nUp_f (by omega))) dX7_priceOf_142
              · skip
                refine lv_iload hx hb dX7_priceOf_134 (lv_at hl 1 rfl) ?_
                refine lv_goto (tgt := 141) hx hb dX7_priceOf_136 (by decide) ?_
                refine n_imul hx hb dX7_priceOf_141 ?_
                exact n_iretR hQ hx hb hr hlocks (by first | omega | exact mPr_u (nUp_t (by omega)) | exact mPr_d (nUp_f (by omega))) dX7_priceOf_142
            · skip
              refine lv_iload hx hb dX7_priceOf_108 (lv_at hl 2 rfl) ?_
              refine n_iconst hx hb dX7_priceOf_110 ?_
              refine n_iremN hx hb dX7_priceOf_111 (by omega) (by omega) ?_
              refine n_iconst hx hb dX7_priceOf_112 ?_
              refine n_icmp_ne (tgt := 120) hx hb dX7_priceOf_113 (by decide) (by omega) (by omega) (fun hc113 => ?_) (fun hc113 => ?_)
              · skip
                refine n_iconst hx hb dX7_priceOf_120 ?_
                refine lv_istore (lv' := [(8, .int (iI 0)), (7, .int (iI (((Pr a * Ra 0 / (St 0 * Ra 1) : Nat) : Int) + 1))), (6, .int (iI ((Pr a * Ra 0 % (St 0 * Ra 1) : Nat) : Int))), (5, .int (iI ((Pr a * Ra 0 / (St 0 * Ra 1) : Nat) : Int))), (4, .int (iI ((St 0 * Ra 1 : Nat) : Int))), (3, .int (iI ((Pr a * Ra 0 : Nat) : Int))), (0, .ref (ad y)), (1, .int (iI ((a : Nat) : Int))), (2, .int (iI ((c : Nat) : Int)))]) hx hb dX7_priceOf_121 hl (by decide) rfl (fun ls hl => ?_)
                refine lv_aload_n hx hb dX7_priceOf_123 rfl (lv_at hl 6 rfl) ?_
                refine n_get hx hb hts u_X7 hown hK hP (by omega) f_y rfl 8 (by decide) (nT_m wf_X7_31) rfl dX7_priceOf_124 ?_
                refine n_iconst hx hb dX7_priceOf_127 ?_
                refine n_iald hx hb hK hP 0 (by omega) f_St (by omega) (by omega) (by decide) dX7_priceOf_128 ?_
                have ho16 := hSt 0 (by omega)
                refine lv_iload hx hb dX7_priceOf_129 (lv_at hl 0 rfl) ?_
                refine n_if_eq (tgt := 139) hx hb dX7_priceOf_131 (by decide) (by omega) (fun hc131 => ?_) (fun hc131 => ?_)
                · skip
                  refine lv_iload hx hb dX7_priceOf_139 (lv_at hl 3 rfl) ?_
                  refine n_imul hx hb dX7_priceOf_141 ?_
                  exact n_iretR hQ hx hb hr hlocks (by first | omega | exact mPr_u (nUp_t (by omega)) | exact mPr_d (nUp_f (by omega))) dX7_priceOf_142
                · skip
                  refine lv_iload hx hb dX7_priceOf_134 (lv_at hl 1 rfl) ?_
                  refine lv_goto (tgt := 141) hx hb dX7_priceOf_136 (by decide) ?_
                  refine n_imul hx hb dX7_priceOf_141 ?_
                  exact n_iretR hQ hx hb hr hlocks (by first | omega | exact mPr_u (nUp_t (by omega)) | exact mPr_d (nUp_f (by omega))) dX7_priceOf_142
              · skip
                refine n_iconst hx hb dX7_priceOf_116 ?_
                refine lv_goto (tgt := 121) hx hb dX7_priceOf_117 (by decide) ?_
                refine lv_istore (lv' := [(8, .int (iI 1)), (7, .int (iI (((Pr a * Ra 0 / (St 0 * Ra 1) : Nat) : Int) + 1))), (6, .int (iI ((Pr a * Ra 0 % (St 0 * Ra 1) : Nat) : Int))), (5, .int (iI ((Pr a * Ra 0 / (St 0 * Ra 1) : Nat) : Int))), (4, .int (iI ((St 0 * Ra 1 : Nat) : Int))), (3, .int (iI ((Pr a * Ra 0 : Nat) : Int))), (0, .ref (ad y)), (1, .int (iI ((a : Nat) : Int))), (2, .int (iI ((c : Nat) : Int)))]) hx hb dX7_priceOf_121 hl (by decide) rfl (fun ls hl => ?_)
                refine lv_aload_n hx hb dX7_priceOf_123 rfl (lv_at hl 6 rfl) ?_
                refine n_get hx hb hts u_X7 hown hK hP (by omega) f_y rfl 8 (by decide) (nT_m wf_X7_31) rfl dX7_priceOf_124 ?_
                refine n_iconst hx hb dX7_priceOf_127 ?_
                refine n_iald hx hb hK hP 0 (by omega) f_St (by omega) (by omega) (by decide) dX7_priceOf_128 ?_
                have ho17 := hSt 0 (by omega)
                refine lv_iload hx hb dX7_priceOf_129 (lv_at hl 0 rfl) ?_
                refine n_if_eq (tgt := 139) hx hb dX7_priceOf_131 (by decide) (by omega) (fun hc131 => ?_) (fun hc131 => ?_)
                · skip
                  refine lv_iload hx hb dX7_priceOf_139 (lv_at hl 3 rfl) ?_
                  refine n_imul hx hb dX7_priceOf_141 ?_
                  exact n_iretR hQ hx hb hr hlocks (by first | omega | exact mPr_u (nUp_t (by omega)) | exact mPr_d (nUp_f (by omega))) dX7_priceOf_142
                · skip
                  refine lv_iload hx hb dX7_priceOf_134 (lv_at hl 1 rfl) ?_
                  refine lv_goto (tgt := 141) hx hb dX7_priceOf_136 (by decide) ?_
                  refine n_imul hx hb dX7_priceOf_141 ?_
                  exact n_iretR hQ hx hb hr hlocks (by first | omega | exact mPr_u (nUp_t (by omega)) | exact mPr_d (nUp_f (by omega))) dX7_priceOf_142
      · skip
        refine lv_aload_n hx hb dX7_priceOf_66 rfl (lv_at hl 5 rfl) ?_
        refine n_get hx hb hts u_X7 hown hK hP (by omega) f_y rfl 8 (by decide) (nT_m wf_X7_31) rfl dX7_priceOf_67 ?_
        refine n_iconst hx hb dX7_priceOf_70 ?_
        refine n_iald hx hb hK hP 0 (by omega) f_St (by omega) (by omega) (by decide) dX7_priceOf_71 ?_
        have ho18 := hSt 0 (by omega)
        refine lv_iload_n hx hb dX7_priceOf_72 rfl (lv_at hl 7 rfl) ?_
        refine n_if_ne (tgt := 81) hx hb dX7_priceOf_73 (by decide) (by omega) (fun hc73 => ?_) (fun hc73 => ?_)
        · skip
          refine lv_iload hx hb dX7_priceOf_81 (lv_at hl 0 rfl) ?_
          refine n_imul hx hb dX7_priceOf_83 ?_
          exact n_iretR hQ hx hb hr hlocks (by first | omega | exact mPr_u (nUp_t (by omega)) | exact mPr_d (nUp_f (by omega))) dX7_priceOf_84
        · skip
          refine lv_iload hx hb dX7_priceOf_76 (lv_at hl 2 rfl) ?_
          refine lv_goto (tgt := 83) hx hb dX7_priceOf_78 (by decide) ?_
          refine n_imul hx hb dX7_priceOf_83 ?_
          exact n_iretR hQ hx hb hr hlocks (by first | omega | exact mPr_u (nUp_t (by omega)) | exact mPr_d (nUp_f (by omega))) dX7_priceOf_84
set_option maxHeartbeats 4000000 in
set_option maxRecDepth 100000 in
theorem c_X7_price_no {l : Launch} {G : nG} {N : Nat} {ad : Nat → Nat} {w : Nat → va_E} {sz : Nat} (y : Nat) (Go : Nat → Nat) (a c : Int) (hN : y + 26 < N) (hGo : ∀ k, k < 1 → Go k ≤ 14) (ha : -2147483648 ≤ a ∧ a < 2147483648) (hc : -2147483648 ≤ c ∧ c < 2147483648) (hno : ¬ (0 ≤ a ∧ a < (Go 0 : Int)) ∨ ¬ (0 ≤ c ∧ c ≤ 3)) (f_y : w y = .inr (7, [.int (iI 0), .ref (ad (y + 1)), .ref (ad (y + 2)), .ref (ad (y + 3)), .ref (ad (y + 4)), .ref (ad (y + 5)), .ref (ad (y + 6)), .ref (ad (y + 7)), .ref (ad (y + 8)), .ref (ad (y + 9)), .ref (ad (y + 10)), .ref (ad (y + 11)), .ref (ad (y + 12)), .ref (ad (y + 13)), .ref (ad (y + 14)), .ref (ad (y + 15)), .ref (ad (y + 16)), .ref (ad (y + 17)), .ref (ad (y + 18)), .ref (ad (y + 19)), .ref (ad (y + 20)), .ref (ad (y + 21)), .ref (ad (y + 22)), .ref (ad (y + 23)), .ref (ad (y + 24)), .ref (ad (y + 25)), .ref (ad (y + 26))])) (f_Go : w (y + 5) = aI G 4 (fun q => (Go q : Int))) : Met l yX7_price wsX7_price ({ frames := 2, cells := 0, slots := 0, locals := 43 }) (va_Pc [.ref (ad y), .int (iI a), .int (iI c)] (nB G N ad w sz)) (nPi G N ad sz (fun r u => (∀ j, u j = w j) ∧ (r = -1))) 0 0 (nA N ad sz) := by
  refine n_ent (cc := cX7_price) (maxL := 3) (ret := (some .int)) (by decide) rfl (Nat.le_of_ble_eq_true rfl) ?_
  intro p e s m below meth cd hx hb hr hml hlocks hts hown hnm hsz hP hK hI Q hQ ls hl
  have hown : s.vm.findClass RX7 = some m.cls := hown
  subst hsz
  have hJ := hI.J s.heap.size
  have hS : va_S (nA N ad s.heap.size) s.heap s.heap [] := va_S.rf
  have hfr : ∀ j, w j = w j := fun _  => rfl
  have hl : lv_has ls 3 [(0, .ref (ad y)), (1, .int (iI a)), (2, .int (iI c))] := hl
  refine lv_aload_n hx hb dX7_price_0 rfl (lv_at hl 0 rfl) ?_
  refine n_iconst hx hb dX7_price_1 ?_
  refine n_put hx hb hts u_X7 tyX7 tyX7_ok nmX7 hown hK hJ hP hS (by omega) f_y rfl 0 (by decide) (nT_m wf_X7_90) rfl rfl rfl (Nat.le_of_ble_eq_true rfl) dX7_price_2 (fun w1 H locs f9 hne9 hP hS => ?_)
  have ew9 : w = w1 := funext fun j9 => (Decidable.em (j9 = y)).elim (fun h9 => by rw [h9, f9]; exact f_y) (fun h9 => (hne9 j9 h9).symm)
  subst ew9
  refine lv_aload_n hx hb dX7_price_5 rfl (lv_at hl 0 rfl) ?_
  refine lv_iload_n hx hb dX7_price_6 rfl (lv_at hl 1 rfl) ?_
  refine n_rdF (va_runV (As := [.int (iI a)]) (rest := []) ⟨hx, hb, hml, hown, hts⟩ (c_X7_isGood _ Go a (by omega) hGo (by omega) f_y f_Go) (cwV 1 hts (nT_V wl_X7_102 wi_X7_isGood ws_X7_isGood wn_X7 wc_X7_isGood) rfl rfl rfl (by decide +kernel) ⟨Nat.le_of_ble_eq_true rfl, Nat.le_of_ble_eq_true rfl⟩) (nB.preV hK hI hP (by omega) f_y rfl rfl) rfl rfl hl.1 rfl (lv_room (Nat.le_of_ble_eq_true rfl)) dX7_price_7 ⟨Nat.zero_le _, Nat.zero_le _⟩) ?_
  refine n_if_eqB (tgt := 31) hx hb dX7_price_10 (by decide) (fun hc10 => ?_) (fun hc10 => ?_)
  · skip
    refine n_iconst hx hb dX7_price_31 ?_
    refine n_iretP hQ hx hb hr hlocks hP hS dX7_price_32 ?_
    exact ⟨hfr, rfl⟩
  · skip
    refine lv_iload_n hx hb dX7_price_13 rfl (lv_at hl 2 rfl) ?_
    refine n_iconst hx hb dX7_price_14 ?_
    refine n_iconst hx hb dX7_price_15 ?_
    refine n_rdF (va_runS (As := [.int (iI c), .int (iI 0), .int (iI 3)]) (rest := []) ⟨hx, hb, hml, hown, hts⟩ (c_X7_in c 0 3 (by omega) (by omega) (by omega)) (va_cwS 3 hts (nT_S wl_X7_98 wt_X7_in wn_X7 wc_X7_in) rfl rfl rfl (by decide +kernel) ⟨Nat.le_of_ble_eq_true rfl, Nat.le_of_ble_eq_true rfl⟩) preEq rfl rfl hl.1 rfl (lv_room (Nat.le_of_ble_eq_true rfl)) dX7_price_16 ⟨Nat.zero_le _, Nat.zero_le _⟩) ?_
    refine n_if_eqB (tgt := 31) hx hb dX7_price_19 (by decide) (fun hc19 => ?_) (fun hc19 => ?_)
    · skip
      refine n_iconst hx hb dX7_price_31 ?_
      refine n_iretP hQ hx hb hr hlocks hP hS dX7_price_32 ?_
      exact ⟨hfr, rfl⟩
    · skip
      omega
set_option maxHeartbeats 4000000 in
set_option maxRecDepth 100000 in
theorem c_X7_price_yes {l : Launch} {G : nG} {N : Nat} {ad : Nat → Nat} {w : Nat → va_E} {sz : Nat} (y : Nat) (Ra Go Pr Ti St : Nat → Nat) (a c : Nat) (hN : y + 26 < N) (hRa : ∀ k, k < 2 → 1 ≤ Ra k ∧ Ra k ≤ 100) (hGo : ∀ k, k < 1 → Go k ≤ 14) (hPr : ∀ k, k < 14 → Pr k ≤ 10000) (hTi : ∀ k, k < 14 → Ti k ≤ 100) (hSt : ∀ k, k < 1 → 1 ≤ St k ∧ St k ≤ 100) (ha : a < Go 0) (hc : c ≤ 3) (f_y : w y = .inr (7, [.int (iI 0), .ref (ad (y + 1)), .ref (ad (y + 2)), .ref (ad (y + 3)), .ref (ad (y + 4)), .ref (ad (y + 5)), .ref (ad (y + 6)), .ref (ad (y + 7)), .ref (ad (y + 8)), .ref (ad (y + 9)), .ref (ad (y + 10)), .ref (ad (y + 11)), .ref (ad (y + 12)), .ref (ad (y + 13)), .ref (ad (y + 14)), .ref (ad (y + 15)), .ref (ad (y + 16)), .ref (ad (y + 17)), .ref (ad (y + 18)), .ref (ad (y + 19)), .ref (ad (y + 20)), .ref (ad (y + 21)), .ref (ad (y + 22)), .ref (ad (y + 23)), .ref (ad (y + 24)), .ref (ad (y + 25)), .ref (ad (y + 26))])) (f_Ra : w (y + 3) = aI G 8 (fun q => (Ra q : Int))) (f_Go : w (y + 5) = aI G 4 (fun q => (Go q : Int))) (f_Pr : w (y + 6) = aI G 56 (fun q => (Pr q : Int))) (f_Ti : w (y + 7) = aI G 56 (fun q => (Ti q : Int))) (f_St : w (y + 8) = aI G 4 (fun q => (St q : Int))) : Met l yX7_price wsX7_price ({ frames := 2, cells := 0, slots := 0, locals := 43 }) (va_Pc [.ref (ad y), .int (iI ((a : Nat) : Int)), .int (iI ((c : Nat) : Int))] (nB G N ad w sz)) (nPi G N ad sz (fun r u => (∀ j, u j = w j) ∧ (r = ((nPr (Pr a * Ra 0) (St 0 * Ra 1) (St 0) c : Nat) : Int)))) 0 0 (nA N ad sz) := by
  refine n_ent (cc := cX7_price) (maxL := 3) (ret := (some .int)) (by decide) rfl (Nat.le_of_ble_eq_true rfl) ?_
  intro p e s m below meth cd hx hb hr hml hlocks hts hown hnm hsz hP hK hI Q hQ ls hl
  have hown : s.vm.findClass RX7 = some m.cls := hown
  subst hsz
  have hJ := hI.J s.heap.size
  have hS : va_S (nA N ad s.heap.size) s.heap s.heap [] := va_S.rf
  have hfr : ∀ j, w j = w j := fun _  => rfl
  have hl : lv_has ls 3 [(0, .ref (ad y)), (1, .int (iI ((a : Nat) : Int))), (2, .int (iI ((c : Nat) : Int)))] := hl
  have hg0 := hGo 0 (by omega)
  refine lv_aload_n hx hb dX7_price_0 rfl (lv_at hl 0 rfl) ?_
  refine n_iconst hx hb dX7_price_1 ?_
  refine n_put hx hb hts u_X7 tyX7 tyX7_ok nmX7 hown hK hJ hP hS (by omega) f_y rfl 0 (by decide) (nT_m wf_X7_90) rfl rfl rfl (Nat.le_of_ble_eq_true rfl) dX7_price_2 (fun w1 H locs f9 hne9 hP hS => ?_)
  have ew9 : w = w1 := funext fun j9 => (Decidable.em (j9 = y)).elim (fun h9 => by rw [h9, f9]; exact f_y) (fun h9 => (hne9 j9 h9).symm)
  subst ew9
  refine lv_aload_n hx hb dX7_price_5 rfl (lv_at hl 0 rfl) ?_
  refine lv_iload_n hx hb dX7_price_6 rfl (lv_at hl 1 rfl) ?_
  refine n_rdF (va_runV (As := [.int (iI ((a : Nat) : Int))]) (rest := []) ⟨hx, hb, hml, hown, hts⟩ (c_X7_isGood _ Go ((a : Nat) : Int) (by omega) hGo (by omega) f_y f_Go) (cwV 1 hts (nT_V wl_X7_102 wi_X7_isGood ws_X7_isGood wn_X7 wc_X7_isGood) rfl rfl rfl (by decide +kernel) ⟨Nat.le_of_ble_eq_true rfl, Nat.le_of_ble_eq_true rfl⟩) (nB.preV hK hI hP (by omega) f_y rfl rfl) rfl rfl hl.1 rfl (lv_room (Nat.le_of_ble_eq_true rfl)) dX7_price_7 ⟨Nat.zero_le _, Nat.zero_le _⟩) ?_
  refine n_if_eqB (tgt := 31) hx hb dX7_price_10 (by decide) (fun hc10 => ?_) (fun hc10 => ?_)
  · skip
    omega
  · skip
    refine lv_iload_n hx hb dX7_price_13 rfl (lv_at hl 2 rfl) ?_
    refine n_iconst hx hb dX7_price_14 ?_
    refine n_iconst hx hb dX7_price_15 ?_
    refine n_rdF (va_runS (As := [.int (iI ((c : Nat) : Int)), .int (iI 0), .int (iI 3)]) (rest := []) ⟨hx, hb, hml, hown, hts⟩ (c_X7_in ((c : Nat) : Int) 0 3 (by omega) (by omega) (by omega)) (va_cwS 3 hts (nT_S wl_X7_98 wt_X7_in wn_X7 wc_X7_in) rfl rfl rfl (by decide +kernel) ⟨Nat.le_of_ble_eq_true rfl, Nat.le_of_ble_eq_true rfl⟩) preEq rfl rfl hl.1 rfl (lv_room (Nat.le_of_ble_eq_true rfl)) dX7_price_16 ⟨Nat.zero_le _, Nat.zero_le _⟩) ?_
    refine n_if_eqB (tgt := 31) hx hb dX7_price_19 (by decide) (fun hc19 => ?_) (fun hc19 => ?_)
    · skip
      omega
    · skip
      refine lv_aload_n hx hb dX7_price_22 rfl (lv_at hl 0 rfl) ?_
      refine lv_iload_n hx hb dX7_price_23 rfl (lv_at hl 1 rfl) ?_
      refine lv_iload_n hx hb dX7_price_24 rfl (lv_at hl 2 rfl) ?_
      refine n_rdF (va_runV (As := [.int (iI ((a : Nat) : Int)), .int (iI ((c : Nat) : Int))]) (rest := []) ⟨hx, hb, hml, hown, hts⟩ (c_X7_priceOf _ Ra Pr St a c (by omega) hRa hPr hSt (by omega) (by omega) f_y f_Ra f_Pr f_St) (cwV 2 hts (nT_V wl_X7_106 wi_X7_priceOf ws_X7_priceOf wn_X7 wc_X7_priceOf) rfl rfl rfl (by decide +kernel) ⟨Nat.le_of_ble_eq_true rfl, Nat.le_of_ble_eq_true rfl⟩) (nB.preV hK hI hP (by omega) f_y rfl rfl) rfl rfl hl.1 rfl (lv_room (Nat.le_of_ble_eq_true rfl)) dX7_price_25 ⟨Nat.zero_le _, Nat.zero_le _⟩) ?_
      have hpr9 := nPr_rng (pa := Pr a * Ra 0) (sp := St 0 * Ra 1) (stp := St 0) (ru := c) (Nat.mul_le_mul (hPr a (by omega)) (hRa 0 (by omega)).2) (hSt 0 (by omega)).2
      refine lv_goto (tgt := 32) hx hb dX7_price_28 (by decide) ?_
      refine n_iretP hQ hx hb hr hlocks hP hS dX7_price_32 ?_
      exact ⟨hfr, rfl⟩
set_option maxHeartbeats 4000000 in
set_option maxRecDepth 100000 in
theorem c_X7_gainOf {l : Launch} {G : nG} {N : Nat} {ad : Nat → Nat} {w : Nat → va_E} {sz : Nat} (y : Nat) (Ra Pr Ti St : Nat → Nat) (a c : Nat) (hN : y + 26 < N) (hRa : ∀ k, k < 2 → 1 ≤ Ra k ∧ Ra k ≤ 100) (hPr : ∀ k, k < 14 → Pr k ≤ 10000) (hTi : ∀ k, k < 14 → Ti k ≤ 100) (hSt : ∀ k, k < 1 → 1 ≤ St k ∧ St k ≤ 100) (ha : a < 14) (hc : c ≤ 3) (f_y : w y = .inr (7, [.int (iI 0), .ref (ad (y + 1)), .ref (ad (y + 2)), .ref (ad (y + 3)), .ref (ad (y + 4)), .ref (ad (y + 5)), .ref (ad (y + 6)), .ref (ad (y + 7)), .ref (ad (y + 8)), .ref (ad (y + 9)), .ref (ad (y + 10)), .ref (ad (y + 11)), .ref (ad (y + 12)), .ref (ad (y + 13)), .ref (ad (y + 14)), .ref (ad (y + 15)), .ref (ad (y + 16)), .ref (ad (y + 17)), .ref (ad (y + 18)), .ref (ad (y + 19)), .ref (ad (y + 20)), .ref (ad (y + 21)), .ref (ad (y + 22)), .ref (ad (y + 23)), .ref (ad (y + 24)), .ref (ad (y + 25)), .ref (ad (y + 26))])) (f_Ra : w (y + 3) = aI G 8 (fun q => (Ra q : Int))) (f_Pr : w (y + 6) = aI G 56 (fun q => (Pr q : Int))) (f_Ti : w (y + 7) = aI G 56 (fun q => (Ti q : Int))) (f_St : w (y + 8) = aI G 4 (fun q => (St q : Int))) : Met l yX7_gainOf wsX7_gainOf ({ frames := 1, cells := 0, slots := 0, locals := 28 }) (va_Pc [.ref (ad y), .int (iI ((a : Nat) : Int)), .int (iI ((c : Nat) : Int))] (nB G N ad w sz)) (nRd (.long (jI (gnV Pr Ti (Ra 0) (Ra 1) (St 0) a c)))) 0 0 (fun _ => False) := by
  refine n_ent (cc := cX7_gainOf) (maxL := 3) (ret := (some .long)) (by decide) rfl (Nat.le_of_ble_eq_true rfl) ?_
  intro p e s m below meth cd hx hb hr hml hlocks hts hown hnm hsz hP hK hI Q hQ ls hl
  have hown : s.vm.findClass RX7 = some m.cls := hown
  have hl : lv_has ls 3 [(0, .ref (ad y)), (1, .int (iI ((a : Nat) : Int))), (2, .int (iI ((c : Nat) : Int)))] := hl
  refine lv_aload_n hx hb dX7_gainOf_0 rfl (lv_at hl 0 rfl) ?_
  refine lv_iload_n hx hb dX7_gainOf_1 rfl (lv_at hl 1 rfl) ?_
  refine lv_iload_n hx hb dX7_gainOf_2 rfl (lv_at hl 2 rfl) ?_
  refine n_rdF (va_runV (As := [.int (iI ((a : Nat) : Int)), .int (iI ((c : Nat) : Int))]) (rest := []) ⟨hx, hb, hml, hown, hts⟩ (c_X7_priceOf _ Ra Pr St a c (by omega) hRa hPr hSt (by omega) (by omega) f_y f_Ra f_Pr f_St) (cwV 2 hts (nT_V wl_X7_106 wi_X7_priceOf ws_X7_priceOf wn_X7 wc_X7_priceOf) rfl rfl rfl (by decide +kernel) ⟨Nat.le_of_ble_eq_true rfl, Nat.le_of_ble_eq_true rfl⟩) (nB.preV hK hI hP (by omega) f_y rfl rfl) rfl rfl hl.1 rfl (lv_room (Nat.le_of_ble_eq_true rfl)) dX7_gainOf_3 ⟨Nat.zero_le _, Nat.zero_le _⟩) ?_
  have hpr9 := nPr_rng (pa := Pr a * Ra 0) (sp := St 0 * Ra 1) (stp := St 0) (ru := c) (Nat.mul_le_mul (hPr a (by omega)) (hRa 0 (by omega)).2) (hSt 0 (by omega)).2
  refine n_i2l hx hb dX7_gainOf_6 (by omega) ?_
  refine lv_aload_n hx hb dX7_gainOf_7 rfl (lv_at hl 0 rfl) ?_
  refine n_get hx hb hts u_X7 hown hK hP (by omega) f_y rfl 3 (by decide) (nT_m wf_X7_16) rfl dX7_gainOf_8 ?_
  refine n_iconst hx hb dX7_gainOf_11 ?_
  refine n_iald hx hb hK hP 1 (by omega) f_Ra (by omega) (by omega) (by decide) dX7_gainOf_12 ?_
  have ho1 := hRa 1 (by omega)
  refine n_i2l hx hb dX7_gainOf_13 (by omega) ?_
  refine n_lmul hx hb dX7_gainOf_14 ?_
  refine lv_aload_n hx hb dX7_gainOf_15 rfl (lv_at hl 0 rfl) ?_
  refine n_get hx hb hts u_X7 hown hK hP (by omega) f_y rfl 6 (by decide) (nT_m wf_X7_25) rfl dX7_gainOf_16 ?_
  refine lv_iload_n hx hb dX7_gainOf_19 rfl (lv_at hl 1 rfl) ?_
  refine n_iald hx hb hK hP a (by omega) f_Pr (by omega) (by omega) (by decide) dX7_gainOf_20 ?_
  have ho2 := hPr a (by omega)
  refine n_i2l hx hb dX7_gainOf_21 (by omega) ?_
  refine lv_aload_n hx hb dX7_gainOf_22 rfl (lv_at hl 0 rfl) ?_
  refine n_get hx hb hts u_X7 hown hK hP (by omega) f_y rfl 3 (by decide) (nT_m wf_X7_16) rfl dX7_gainOf_23 ?_
  refine n_iconst hx hb dX7_gainOf_26 ?_
  refine n_iald hx hb hK hP 0 (by omega) f_Ra (by omega) (by omega) (by decide) dX7_gainOf_27 ?_
  have ho3 := hRa 0 (by omega)
  refine n_i2l hx hb dX7_gainOf_28 (by omega) ?_
  refine n_lmul hx hb dX7_gainOf_29 ?_
  refine n_lsub hx hb dX7_gainOf_30 ?_
  refine lv_aload_n hx hb dX7_gainOf_31 rfl (lv_at hl 0 rfl) ?_
  refine n_get hx hb hts u_X7 hown hK hP (by omega) f_y rfl 7 (by decide) (nT_m wf_X7_28) rfl dX7_gainOf_32 ?_
  refine lv_iload_n hx hb dX7_gainOf_35 rfl (lv_at hl 1 rfl) ?_
  refine n_iald hx hb hK hP a (by omega) f_Ti (by omega) (by omega) (by decide) dX7_gainOf_36 ?_
  have ho4 := hTi a (by omega)
  refine n_i2l hx hb dX7_gainOf_37 (by omega) ?_
  refine n_lmul hx hb dX7_gainOf_38 ?_
  exact n_lretR hQ hx hb hr hlocks rfl dX7_gainOf_39
set_option maxHeartbeats 4000000 in
set_option maxRecDepth 100000 in
theorem c_X7_gain_no {l : Launch} {G : nG} {N : Nat} {ad : Nat → Nat} {w : Nat → va_E} {sz : Nat} (y : Nat) (Go : Nat → Nat) (a : Int) (hN : y + 26 < N) (hGo : ∀ k, k < 1 → Go k ≤ 14) (ha : -2147483648 ≤ a ∧ a < 2147483648) (hno : ¬ (0 ≤ a ∧ a ≤ 3)) (f_y : w y = .inr (7, [.int (iI 0), .ref (ad (y + 1)), .ref (ad (y + 2)), .ref (ad (y + 3)), .ref (ad (y + 4)), .ref (ad (y + 5)), .ref (ad (y + 6)), .ref (ad (y + 7)), .ref (ad (y + 8)), .ref (ad (y + 9)), .ref (ad (y + 10)), .ref (ad (y + 11)), .ref (ad (y + 12)), .ref (ad (y + 13)), .ref (ad (y + 14)), .ref (ad (y + 15)), .ref (ad (y + 16)), .ref (ad (y + 17)), .ref (ad (y + 18)), .ref (ad (y + 19)), .ref (ad (y + 20)), .ref (ad (y + 21)), .ref (ad (y + 22)), .ref (ad (y + 23)), .ref (ad (y + 24)), .ref (ad (y + 25)), .ref (ad (y + 26))])) (f_Go : w (y + 5) = aI G 4 (fun q => (Go q : Int))) : Met l yX7_gain wsX7_gain ({ frames := 2, cells := 0, slots := 0, locals := 50 }) (va_Pc [.ref (ad y), .int (iI a)] (nB G N ad w sz)) (nPl G N ad sz (fun r u => (∀ j, u j = w j) ∧ (r = 0))) 0 0 (nA N ad sz) := by
  refine n_ent (cc := cX7_gain) (maxL := 5) (ret := (some .long)) (by decide) rfl (Nat.le_of_ble_eq_true rfl) ?_
  intro p e s m below meth cd hx hb hr hml hlocks hts hown hnm hsz hP hK hI Q hQ ls hl
  have hown : s.vm.findClass RX7 = some m.cls := hown
  subst hsz
  have hJ := hI.J s.heap.size
  have hS : va_S (nA N ad s.heap.size) s.heap s.heap [] := va_S.rf
  have hfr : ∀ j, w j = w j := fun _  => rfl
  have hl : lv_has ls 5 [(0, .ref (ad y)), (1, .int (iI a))] := hl
  refine lv_aload_n hx hb dX7_gain_0 rfl (lv_at hl 0 rfl) ?_
  refine n_iconst hx hb dX7_gain_1 ?_
  refine n_put hx hb hts u_X7 tyX7 tyX7_ok nmX7 hown hK hJ hP hS (by omega) f_y rfl 0 (by decide) (nT_m wf_X7_90) rfl rfl rfl (Nat.le_of_ble_eq_true rfl) dX7_gain_2 (fun w1 H locs f9 hne9 hP hS => ?_)
  have ew9 : w = w1 := funext fun j9 => (Decidable.em (j9 = y)).elim (fun h9 => by rw [h9, f9]; exact f_y) (fun h9 => (hne9 j9 h9).symm)
  subst ew9
  refine n_lconst (z := 0) hx hb dX7_gain_5 (by decide) ?_
  refine lv_lstore_n (lv' := [(2, .long (jI 0)), (0, .ref (ad y)), (1, .int (iI a))]) hx hb dX7_gain_6 rfl hl (by decide) rfl (fun ls hl => ?_)
  refine n_iconst hx hb dX7_gain_7 ?_
  refine lv_istore (lv' := [(4, .int (iI 0)), (2, .long (jI 0)), (0, .ref (ad y)), (1, .int (iI a))]) hx hb dX7_gain_8 hl (by decide) rfl (fun ls hl => ?_)
  have lp3 : ∀ (fu : Nat), ∀ (w4 : Nat → va_E) (H : Heap) (locs : List Loc), ∀ (ls : Array Slot), 0 < fu → (∀ j, w4 j = w j) → w4 y = .inr (7, [.int (iI 0), .ref (ad (y + 1)), .ref (ad (y + 2)), .ref (ad (y + 3)), .ref (ad (y + 4)), .ref (ad (y + 5)), .ref (ad (y + 6)), .ref (ad (y + 7)), .ref (ad (y + 8)), .ref (ad (y + 9)), .ref (ad (y + 10)), .ref (ad (y + 11)), .ref (ad (y + 12)), .ref (ad (y + 13)), .ref (ad (y + 14)), .ref (ad (y + 15)), .ref (ad (y + 16)), .ref (ad (y + 17)), .ref (ad (y + 18)), .ref (ad (y + 19)), .ref (ad (y + 20)), .ref (ad (y + 21)), .ref (ad (y + 22)), .ref (ad (y + 23)), .ref (ad (y + 24)), .ref (ad (y + 25)), .ref (ad (y + 26))]) → w4 (y + 5) = aI G 4 (fun q => (Go q : Int)) → va_P G.1 vwCl (nL N ad w4) H → va_S (nA N ad s.heap.size) s.heap H locs → lv_has ls 5 [(0, .ref (ad y)), (1, .int (iI a)), (2, .long (jI 0)), (4, .int (iI ((0 : Nat) : Int)))] → W p l e ({ frames := 2, cells := 0, slots := 0, locals := 50 } : Room) s m ([.ref (ad y), .int (iI a)] : List Value).toArray below meth cd H locs 0 0 Q (F0 m 10 ls []) := by
    intro fu
    induction fu with
    | zero =>
      intro w4 H locs ls hfu hfr f_y f_Go hP hS hl
      exact absurd hfu (Nat.not_lt_zero _)
    | succ fu ih5 =>
      intro w4 H locs ls hfu hfr f_y f_Go hP hS hl
      refine lv_iload hx hb dX7_gain_10 (lv_at hl 3 rfl) ?_
      refine lv_aload_n hx hb dX7_gain_12 rfl (lv_at hl 0 rfl) ?_
      refine n_get hx hb hts u_X7 hown hK hP (by omega) f_y rfl 5 (by decide) (nT_m wf_X7_22) rfl dX7_gain_13 ?_
      refine n_iconst hx hb dX7_gain_16 ?_
      refine n_iald hx hb hK hP 0 (by omega) f_Go (by omega) (by omega) (by decide) dX7_gain_17 ?_
      have ho6 := hGo 0 (by omega)
      refine n_icmp_ge (tgt := 46) hx hb dX7_gain_18 (by decide) (by omega) (by omega) (fun hc18 => ?_) (fun hc18 => ?_)
      · skip
        refine lv_lload_n hx hb dX7_gain_46 rfl (lv_at hl 2 rfl) ?_
        refine n_lretP hQ hx hb hr hlocks hP hS dX7_gain_47 ?_
        exact ⟨hfr, rfl⟩
      · skip
        refine lv_iload_n hx hb dX7_gain_21 rfl (lv_at hl 1 rfl) ?_
        refine n_iconst hx hb dX7_gain_22 ?_
        refine n_iconst hx hb dX7_gain_23 ?_
        refine n_rdF (va_runS (As := [.int (iI a), .int (iI 0), .int (iI 3)]) (rest := []) ⟨hx, hb, hml, hown, hts⟩ (c_X7_in a 0 3 (by omega) (by omega) (by omega)) (va_cwS 3 hts (nT_S wl_X7_98 wt_X7_in wn_X7 wc_X7_in) rfl rfl rfl (by decide +kernel) ⟨Nat.le_of_ble_eq_true rfl, Nat.le_of_ble_eq_true rfl⟩) preEq rfl rfl hl.1 rfl (lv_room (Nat.le_of_ble_eq_true rfl)) dX7_gain_24 ⟨Nat.zero_le _, Nat.zero_le _⟩) ?_
        refine n_if_eqB (tgt := 46) hx hb dX7_gain_27 (by decide) (fun hc27 => ?_) (fun hc27 => ?_)
        · skip
          refine lv_lload_n hx hb dX7_gain_46 rfl (lv_at hl 2 rfl) ?_
          refine n_lretP hQ hx hb hr hlocks hP hS dX7_gain_47 ?_
          exact ⟨hfr, rfl⟩
        · skip
          exact absurd hc27 (by omega)
  exact lp3 (0 + 1) _ _ _ _ (Nat.lt_succ_self _) hfr f_y f_Go hP hS (by first | exact lv_sub hl [2, 3, 1, 0] rfl | exact lv_cast (lv_sub (l' := [(0, .ref (ad y)), (1, .int (iI a)), (2, .long (jI 0)), (4, .int (iI 0))]) hl [2, 3, 1, 0] rfl) (lc_s (lc_s (lc_s (lc_i (show (0 : Int) = ((0 : Nat) : Int) by omega) rfl)))))
set_option maxHeartbeats 4000000 in
set_option maxRecDepth 100000 in
theorem c_X7_gain_yes {l : Launch} {G : nG} {N : Nat} {ad : Nat → Nat} {w : Nat → va_E} {sz : Nat} (y : Nat) (Ra Go Pr Ti St : Nat → Nat) (a : Nat) (hN : y + 26 < N) (hRa : ∀ k, k < 2 → 1 ≤ Ra k ∧ Ra k ≤ 100) (hGo : ∀ k, k < 1 → Go k ≤ 14) (hPr : ∀ k, k < 14 → Pr k ≤ 10000) (hTi : ∀ k, k < 14 → Ti k ≤ 100) (hSt : ∀ k, k < 1 → 1 ≤ St k ∧ St k ≤ 100) (ha : a ≤ 3) (f_y : w y = .inr (7, [.int (iI 0), .ref (ad (y + 1)), .ref (ad (y + 2)), .ref (ad (y + 3)), .ref (ad (y + 4)), .ref (ad (y + 5)), .ref (ad (y + 6)), .ref (ad (y + 7)), .ref (ad (y + 8)), .ref (ad (y + 9)), .ref (ad (y + 10)), .ref (ad (y + 11)), .ref (ad (y + 12)), .ref (ad (y + 13)), .ref (ad (y + 14)), .ref (ad (y + 15)), .ref (ad (y + 16)), .ref (ad (y + 17)), .ref (ad (y + 18)), .ref (ad (y + 19)), .ref (ad (y + 20)), .ref (ad (y + 21)), .ref (ad (y + 22)), .ref (ad (y + 23)), .ref (ad (y + 24)), .ref (ad (y + 25)), .ref (ad (y + 26))])) (f_Ra : w (y + 3) = aI G 8 (fun q => (Ra q : Int))) (f_Go : w (y + 5) = aI G 4 (fun q => (Go q : Int))) (f_Pr : w (y + 6) = aI G 56 (fun q => (Pr q : Int))) (f_Ti : w (y + 7) = aI G 56 (fun q => (Ti q : Int))) (f_St : w (y + 8) = aI G 4 (fun q => (St q : Int))) : Met l yX7_gain wsX7_gain ({ frames := 2, cells := 0, slots := 0, locals := 50 }) (va_Pc [.ref (ad y), .int (iI ((a : Nat) : Int))] (nB G N ad w sz)) (nPl G N ad sz (fun r u => (∀ j, u j = w j) ∧ (r = sumI (fun g9 => gnV Pr Ti (Ra 0) (Ra 1) (St 0) g9 a) (Go 0)))) 0 0 (nA N ad sz) := by
  refine n_ent (cc := cX7_gain) (maxL := 5) (ret := (some .long)) (by decide) rfl (Nat.le_of_ble_eq_true rfl) ?_
  intro p e s m below meth cd hx hb hr hml hlocks hts hown hnm hsz hP hK hI Q hQ ls hl
  have hown : s.vm.findClass RX7 = some m.cls := hown
  subst hsz
  have hJ := hI.J s.heap.size
  have hS : va_S (nA N ad s.heap.size) s.heap s.heap [] := va_S.rf
  have hfr : ∀ j, w j = w j := fun _  => rfl
  have hl : lv_has ls 5 [(0, .ref (ad y)), (1, .int (iI ((a : Nat) : Int)))] := hl
  have hg0 := hGo 0 (by omega)
  refine lv_aload_n hx hb dX7_gain_0 rfl (lv_at hl 0 rfl) ?_
  refine n_iconst hx hb dX7_gain_1 ?_
  refine n_put hx hb hts u_X7 tyX7 tyX7_ok nmX7 hown hK hJ hP hS (by omega) f_y rfl 0 (by decide) (nT_m wf_X7_90) rfl rfl rfl (Nat.le_of_ble_eq_true rfl) dX7_gain_2 (fun w1 H locs f9 hne9 hP hS => ?_)
  have ew9 : w = w1 := funext fun j9 => (Decidable.em (j9 = y)).elim (fun h9 => by rw [h9, f9]; exact f_y) (fun h9 => (hne9 j9 h9).symm)
  subst ew9
  refine n_lconst (z := 0) hx hb dX7_gain_5 (by decide) ?_
  refine lv_lstore_n (lv' := [(2, .long (jI 0)), (0, .ref (ad y)), (1, .int (iI ((a : Nat) : Int)))]) hx hb dX7_gain_6 rfl hl (by decide) rfl (fun ls hl => ?_)
  refine n_iconst hx hb dX7_gain_7 ?_
  refine lv_istore (lv' := [(4, .int (iI 0)), (2, .long (jI 0)), (0, .ref (ad y)), (1, .int (iI ((a : Nat) : Int)))]) hx hb dX7_gain_8 hl (by decide) rfl (fun ls hl => ?_)
  have lp3 : ∀ (fu : Nat), ∀ (q : Nat), ∀ (w4 : Nat → va_E) (H : Heap) (locs : List Loc), ∀ (ls : Array Slot), Go 0 - q < fu → q ≤ Go 0 → (∀ j, w4 j = w j) → w4 y = .inr (7, [.int (iI 0), .ref (ad (y + 1)), .ref (ad (y + 2)), .ref (ad (y + 3)), .ref (ad (y + 4)), .ref (ad (y + 5)), .ref (ad (y + 6)), .ref (ad (y + 7)), .ref (ad (y + 8)), .ref (ad (y + 9)), .ref (ad (y + 10)), .ref (ad (y + 11)), .ref (ad (y + 12)), .ref (ad (y + 13)), .ref (ad (y + 14)), .ref (ad (y + 15)), .ref (ad (y + 16)), .ref (ad (y + 17)), .ref (ad (y + 18)), .ref (ad (y + 19)), .ref (ad (y + 20)), .ref (ad (y + 21)), .ref (ad (y + 22)), .ref (ad (y + 23)), .ref (ad (y + 24)), .ref (ad (y + 25)), .ref (ad (y + 26))]) → w4 (y + 3) = aI G 8 (fun q => (Ra q : Int)) → w4 (y + 5) = aI G 4 (fun q => (Go q : Int)) → w4 (y + 6) = aI G 56 (fun q => (Pr q : Int)) → w4 (y + 7) = aI G 56 (fun q => (Ti q : Int)) → w4 (y + 8) = aI G 4 (fun q => (St q : Int)) → va_P G.1 vwCl (nL N ad w4) H → va_S (nA N ad s.heap.size) s.heap H locs → lv_has ls 5 [(0, .ref (ad y)), (1, .int (iI ((a : Nat) : Int))), (2, .long (jI (sumI (fun g9 => gnV Pr Ti (Ra 0) (Ra 1) (St 0) g9 a) q))), (4, .int (iI ((q : Nat) : Int)))] → W p l e ({ frames := 2, cells := 0, slots := 0, locals := 50 } : Room) s m ([.ref (ad y), .int (iI ((a : Nat) : Int))] : List Value).toArray below meth cd H locs 0 0 Q (F0 m 10 ls []) := by
    intro fu
    induction fu with
    | zero =>
      intro q w4 H locs ls hfu hq hfr f_y f_Ra f_Go f_Pr f_Ti f_St hP hS hl
      exact absurd hfu (Nat.not_lt_zero _)
    | succ fu ih5 =>
      intro q w4 H locs ls hfu hq hfr f_y f_Ra f_Go f_Pr f_Ti f_St hP hS hl
      refine lv_iload hx hb dX7_gain_10 (lv_at hl 3 rfl) ?_
      refine lv_aload_n hx hb dX7_gain_12 rfl (lv_at hl 0 rfl) ?_
      refine n_get hx hb hts u_X7 hown hK hP (by omega) f_y rfl 5 (by decide) (nT_m wf_X7_22) rfl dX7_gain_13 ?_
      refine n_iconst hx hb dX7_gain_16 ?_
      refine n_iald hx hb hK hP 0 (by omega) f_Go (by omega) (by omega) (by decide) dX7_gain_17 ?_
      have ho6 := hGo 0 (by omega)
      refine n_icmp_ge (tgt := 46) hx hb dX7_gain_18 (by decide) (by omega) (by omega) (fun hc18 => ?_) (fun hc18 => ?_)
      · skip
        refine lv_lload_n hx hb dX7_gain_46 rfl (lv_at hl 2 rfl) ?_
        refine n_lretP hQ hx hb hr hlocks hP hS dX7_gain_47 ?_
        exact ⟨hfr, by rw [show Go 0 = q by omega]⟩
      · skip
        refine lv_iload_n hx hb dX7_gain_21 rfl (lv_at hl 1 rfl) ?_
        refine n_iconst hx hb dX7_gain_22 ?_
        refine n_iconst hx hb dX7_gain_23 ?_
        refine n_rdF (va_runS (As := [.int (iI ((a : Nat) : Int)), .int (iI 0), .int (iI 3)]) (rest := []) ⟨hx, hb, hml, hown, hts⟩ (c_X7_in ((a : Nat) : Int) 0 3 (by omega) (by omega) (by omega)) (va_cwS 3 hts (nT_S wl_X7_98 wt_X7_in wn_X7 wc_X7_in) rfl rfl rfl (by decide +kernel) ⟨Nat.le_of_ble_eq_true rfl, Nat.le_of_ble_eq_true rfl⟩) preEq rfl rfl hl.1 rfl (lv_room (Nat.le_of_ble_eq_true rfl)) dX7_gain_24 ⟨Nat.zero_le _, Nat.zero_le _⟩) ?_
        refine n_if_eqB (tgt := 46) hx hb dX7_gain_27 (by decide) (fun hc27 => ?_) (fun hc27 => ?_)
        · skip
          omega
        · skip
          refine lv_lload_n hx hb dX7_gain_30 rfl (lv_at hl 2 rfl) ?_
          refine lv_aload_n hx hb dX7_gain_31 rfl (lv_at hl 0 rfl) ?_
          refine lv_iload hx hb dX7_gain_32 (lv_at hl 3 rfl) ?_
          refine lv_iload_n hx hb dX7_gain_34 rfl (lv_at hl 1 rfl) ?_
          refine n_rdF (va_runV (As := [.int (iI ((q : Nat) : Int)), .int (iI ((a : Nat) : Int))]) (rest := [.long (jI (sumI (fun g9 => gnV Pr Ti (Ra 0) (Ra 1) (St 0) g9 a) q))]) ⟨hx, hb, hml, hown, hts⟩ (c_X7_gainOf _ Ra Pr Ti St q a (by omega) hRa hPr hTi hSt (by omega) (by omega) f_y f_Ra f_Pr f_Ti f_St) (cwV 2 hts (nT_V wl_X7_110 wi_X7_gainOf ws_X7_gainOf wn_X7 wc_X7_gainOf) rfl rfl rfl (by decide +kernel) ⟨Nat.le_of_ble_eq_true rfl, Nat.le_of_ble_eq_true rfl⟩) (nB.preV hK hI hP (by omega) f_y rfl rfl) rfl rfl hl.1 rfl (lv_room (Nat.le_of_ble_eq_true rfl)) dX7_gain_35 ⟨Nat.zero_le _, Nat.zero_le _⟩) ?_
          refine n_ladd hx hb dX7_gain_38 ?_
          refine lv_lstore_n (lv' := [(2, .long (jI (sumI (fun g9 => gnV Pr Ti (Ra 0) (Ra 1) (St 0) g9 a) q + gnV Pr Ti (Ra 0) (Ra 1) (St 0) q a))), (0, .ref (ad y)), (1, .int (iI ((a : Nat) : Int))), (4, .int (iI ((q : Nat) : Int)))]) hx hb dX7_gain_39 rfl hl (by decide) rfl (fun ls hl => ?_)
          refine lv_iinc (v := iI (((q : Nat) : Int) + 1)) (lv' := [(4, .int (iI (((q : Nat) : Int) + 1))), (2, .long (jI (sumI (fun g9 => gnV Pr Ti (Ra 0) (Ra 1) (St 0) g9 a) q + gnV Pr Ti (Ra 0) (Ra 1) (St 0) q a))), (0, .ref (ad y)), (1, .int (iI ((a : Nat) : Int)))]) hx hb dX7_gain_40 hl (k := 3) rfl (by first | exact iI_add _ _ | exact (iI_add _ _).trans (congrArg iI (by omega))) (by decide) rfl (fun ls hl => ?_)
          refine lv_goto (tgt := 10) hx hb dX7_gain_43 (by decide) ?_
          exact ih5 (q + 1) _ _ _ _ (by omega) (by omega) hfr f_y f_Ra f_Go f_Pr f_Ti f_St hP hS (by first | exact lv_sub hl [2, 3, 1, 0] rfl | exact lv_cast (lv_sub (l' := [(0, .ref (ad y)), (1, .int (iI ((a : Nat) : Int))), (2, .long (jI (sumI (fun g9 => gnV Pr Ti (Ra 0) (Ra 1) (St 0) g9 a) q + gnV Pr Ti (Ra 0) (Ra 1) (St 0) q a))), (4, .int (iI (((q : Nat) : Int) + 1)))]) hl [2, 3, 1, 0] rfl) (lc_s (lc_s (lc_j (show ((sumI (fun g9 => gnV Pr Ti (Ra 0) (Ra 1) (St 0) g9 a) q + gnV Pr Ti (Ra 0) (Ra 1) (St 0) q a) : Int) = sumI (fun g9 => gnV Pr Ti (Ra 0) (Ra 1) (St 0) g9 a) (q + 1) by rfl) (lc_i (show ((((q : Nat) : Int) + 1) : Int) = (((q + 1) : Nat) : Int) by omega) rfl)))))
  exact lp3 (Go 0 - 0 + 1) 0 _ _ _ _ (Nat.lt_succ_self _) (by omega) hfr f_y f_Ra f_Go f_Pr f_Ti f_St hP hS (by first | exact lv_sub hl [2, 3, 1, 0] rfl | exact lv_cast (lv_sub (l' := [(0, .ref (ad y)), (1, .int (iI ((a : Nat) : Int))), (2, .long (jI 0)), (4, .int (iI 0))]) hl [2, 3, 1, 0] rfl) (lc_s (lc_s (lc_j (show (0 : Int) = sumI (fun g9 => gnV Pr Ti (Ra 0) (Ra 1) (St 0) g9 a) 0 by omega) (lc_i (show (0 : Int) = ((0 : Nat) : Int) by omega) rfl)))))
set_option maxHeartbeats 4000000 in
set_option maxRecDepth 100000 in
theorem c_X7_gains {l : Launch} {G : nG} {N : Nat} {ad : Nat → Nat} {w : Nat → va_E} {sz : Nat} (y : Nat) (Ra Go Pr Ti St : Nat → Nat) (z : Int) (hN : y + 26 < N) (hRa : ∀ k, k < 2 → 1 ≤ Ra k ∧ Ra k ≤ 100) (hGo : ∀ k, k < 1 → Go k ≤ 14) (hPr : ∀ k, k < 14 → Pr k ≤ 10000) (hTi : ∀ k, k < 14 → Ti k ≤ 100) (hSt : ∀ k, k < 1 → 1 ≤ St k ∧ St k ≤ 100) (hz : -2147483648 ≤ z ∧ z < 2147483648) (f_y : w y = .inr (7, [.int (iI 0), .ref (ad (y + 1)), .ref (ad (y + 2)), .ref (ad (y + 3)), .ref (ad (y + 4)), .ref (ad (y + 5)), .ref (ad (y + 6)), .ref (ad (y + 7)), .ref (ad (y + 8)), .ref (ad (y + 9)), .ref (ad (y + 10)), .ref (ad (y + 11)), .ref (ad (y + 12)), .ref (ad (y + 13)), .ref (ad (y + 14)), .ref (ad (y + 15)), .ref (ad (y + 16)), .ref (ad (y + 17)), .ref (ad (y + 18)), .ref (ad (y + 19)), .ref (ad (y + 20)), .ref (ad (y + 21)), .ref (ad (y + 22)), .ref (ad (y + 23)), .ref (ad (y + 24)), .ref (ad (y + 25)), .ref (ad (y + 26))])) (f_Ra : w (y + 3) = aI G 8 (fun q => (Ra q : Int))) (f_Go : w (y + 5) = aI G 4 (fun q => (Go q : Int))) (f_Pr : w (y + 6) = aI G 56 (fun q => (Pr q : Int))) (f_Ti : w (y + 7) = aI G 56 (fun q => (Ti q : Int))) (f_St : w (y + 8) = aI G 4 (fun q => (St q : Int))) : Met l yX7_gains wsX7_gains ({ frames := 2, cells := 0, slots := 0, locals := 50 }) (va_Pc [.ref (ad y), .int (iI z)] (nB G N ad w sz)) (nPl G N ad sz (fun r u => (∀ j, u j = w j) ∧ (r = sumI (fun g9 => gnV Pr Ti (Ra 0) (Ra 1) (St 0) g9 (if bt z g9 = 1 then 1 else 0)) (Go 0)))) 0 0 (nA N ad sz) := by
  refine n_ent (cc := cX7_gains) (maxL := 5) (ret := (some .long)) (by decide) rfl (Nat.le_of_ble_eq_true rfl) ?_
  intro p e s m below meth cd hx hb hr hml hlocks hts hown hnm hsz hP hK hI Q hQ ls hl
  have hown : s.vm.findClass RX7 = some m.cls := hown
  subst hsz
  have hJ := hI.J s.heap.size
  have hS : va_S (nA N ad s.heap.size) s.heap s.heap [] := va_S.rf
  have hfr : ∀ j, w j = w j := fun _  => rfl
  have hl : lv_has ls 5 [(0, .ref (ad y)), (1, .int (iI z))] := hl
  have hg0 := hGo 0 (by omega)
  refine lv_aload_n hx hb dX7_gains_0 rfl (lv_at hl 0 rfl) ?_
  refine n_iconst hx hb dX7_gains_1 ?_
  refine n_put hx hb hts u_X7 tyX7 tyX7_ok nmX7 hown hK hJ hP hS (by omega) f_y rfl 0 (by decide) (nT_m wf_X7_90) rfl rfl rfl (Nat.le_of_ble_eq_true rfl) dX7_gains_2 (fun w1 H locs f9 hne9 hP hS => ?_)
  have ew9 : w = w1 := funext fun j9 => (Decidable.em (j9 = y)).elim (fun h9 => by rw [h9, f9]; exact f_y) (fun h9 => (hne9 j9 h9).symm)
  subst ew9
  refine n_lconst (z := 0) hx hb dX7_gains_5 (by decide) ?_
  refine lv_lstore_n (lv' := [(2, .long (jI 0)), (0, .ref (ad y)), (1, .int (iI z))]) hx hb dX7_gains_6 rfl hl (by decide) rfl (fun ls hl => ?_)
  refine n_iconst hx hb dX7_gains_7 ?_
  refine lv_istore (lv' := [(4, .int (iI 0)), (2, .long (jI 0)), (0, .ref (ad y)), (1, .int (iI z))]) hx hb dX7_gains_8 hl (by decide) rfl (fun ls hl => ?_)
  have lp3 : ∀ (fu : Nat), ∀ (q : Nat), ∀ (w4 : Nat → va_E) (H : Heap) (locs : List Loc), ∀ (ls : Array Slot), Go 0 - q < fu → q ≤ Go 0 → (∀ j, w4 j = w j) → w4 y = .inr (7, [.int (iI 0), .ref (ad (y + 1)), .ref (ad (y + 2)), .ref (ad (y + 3)), .ref (ad (y + 4)), .ref (ad (y + 5)), .ref (ad (y + 6)), .ref (ad (y + 7)), .ref (ad (y + 8)), .ref (ad (y + 9)), .ref (ad (y + 10)), .ref (ad (y + 11)), .ref (ad (y + 12)), .ref (ad (y + 13)), .ref (ad (y + 14)), .ref (ad (y + 15)), .ref (ad (y + 16)), .ref (ad (y + 17)), .ref (ad (y + 18)), .ref (ad (y + 19)), .ref (ad (y + 20)), .ref (ad (y + 21)), .ref (ad (y + 22)), .ref (ad (y + 23)), .ref (ad (y + 24)), .ref (ad (y + 25)), .ref (ad (y + 26))]) → w4 (y + 3) = aI G 8 (fun q => (Ra q : Int)) → w4 (y + 5) = aI G 4 (fun q => (Go q : Int)) → w4 (y + 6) = aI G 56 (fun q => (Pr q : Int)) → w4 (y + 7) = aI G 56 (fun q => (Ti q : Int)) → w4 (y + 8) = aI G 4 (fun q => (St q : Int)) → va_P G.1 vwCl (nL N ad w4) H → va_S (nA N ad s.heap.size) s.heap H locs → lv_has ls 5 [(0, .ref (ad y)), (1, .int (iI z)), (2, .long (jI (sumI (fun g9 => gnV Pr Ti (Ra 0) (Ra 1) (St 0) g9 (if bt z g9 = 1 then 1 else 0)) q))), (4, .int (iI ((q : Nat) : Int)))] → W p l e ({ frames := 2, cells := 0, slots := 0, locals := 50 } : Room) s m ([.ref (ad y), .int (iI z)] : List Value).toArray below meth cd H locs 0 0 Q (F0 m 10 ls []) := by
    intro fu
    induction fu with
    | zero =>
      intro q w4 H locs ls hfu hq hfr f_y f_Ra f_Go f_Pr f_Ti f_St hP hS hl
      exact absurd hfu (Nat.not_lt_zero _)
    | succ fu ih5 =>
      intro q w4 H locs ls hfu hq hfr f_y f_Ra f_Go f_Pr f_Ti f_St hP hS hl
      refine lv_iload hx hb dX7_gains_10 (lv_at hl 3 rfl) ?_
      refine lv_aload_n hx hb dX7_gains_12 rfl (lv_at hl 0 rfl) ?_
      refine n_get hx hb hts u_X7 hown hK hP (by omega) f_y rfl 5 (by decide) (nT_m wf_X7_22) rfl dX7_gains_13 ?_
      refine n_iconst hx hb dX7_gains_16 ?_
      refine n_iald hx hb hK hP 0 (by omega) f_Go (by omega) (by omega) (by decide) dX7_gains_17 ?_
      have ho6 := hGo 0 (by omega)
      refine n_icmp_ge (tgt := 42) hx hb dX7_gains_18 (by decide) (by omega) (by omega) (fun hc18 => ?_) (fun hc18 => ?_)
      · skip
        refine lv_lload_n hx hb dX7_gains_42 rfl (lv_at hl 2 rfl) ?_
        refine n_lretP hQ hx hb hr hlocks hP hS dX7_gains_43 ?_
        exact ⟨hfr, by rw [show Go 0 = q by omega]⟩
      · skip
        refine lv_lload_n hx hb dX7_gains_21 rfl (lv_at hl 2 rfl) ?_
        refine lv_aload_n hx hb dX7_gains_22 rfl (lv_at hl 0 rfl) ?_
        refine lv_iload hx hb dX7_gains_23 (lv_at hl 3 rfl) ?_
        refine lv_iload_n hx hb dX7_gains_25 rfl (lv_at hl 1 rfl) ?_
        refine lv_iload hx hb dX7_gains_26 (lv_at hl 3 rfl) ?_
        refine n_ishr hx hb q dX7_gains_28 (by omega) (by omega) ?_
        refine n_iconst hx hb dX7_gains_29 ?_
        refine n_bit hx hb q dX7_gains_30 (by omega) (by omega) ?_
        have hbt := bt_rng z q
        rw [show bt z q = (((if bt z q = 1 then 1 else 0 : Nat) : Nat) : Int) by split <;> omega]
        have hb9 : (if bt z q = 1 then 1 else 0 : Nat) ≤ 1 := by split <;> omega
        refine n_rdF (va_runV (As := [.int (iI ((q : Nat) : Int)), .int (iI (((if bt z q = 1 then 1 else 0 : Nat) : Nat) : Int))]) (rest := [.long (jI (sumI (fun g9 => gnV Pr Ti (Ra 0) (Ra 1) (St 0) g9 (if bt z g9 = 1 then 1 else 0)) q))]) ⟨hx, hb, hml, hown, hts⟩ (c_X7_gainOf _ Ra Pr Ti St q (if bt z q = 1 then 1 else 0 : Nat) (by omega) hRa hPr hTi hSt (by omega) (by omega) f_y f_Ra f_Pr f_Ti f_St) (cwV 2 hts (nT_V wl_X7_110 wi_X7_gainOf ws_X7_gainOf wn_X7 wc_X7_gainOf) rfl rfl rfl (by decide +kernel) ⟨Nat.le_of_ble_eq_true rfl, Nat.le_of_ble_eq_true rfl⟩) (nB.preV hK hI hP (by omega) f_y rfl rfl) rfl rfl hl.1 rfl (lv_room (Nat.le_of_ble_eq_true rfl)) dX7_gains_31 ⟨Nat.zero_le _, Nat.zero_le _⟩) ?_
        refine n_ladd hx hb dX7_gains_34 ?_
        refine lv_lstore_n (lv' := [(2, .long (jI (sumI (fun g9 => gnV Pr Ti (Ra 0) (Ra 1) (St 0) g9 (if bt z g9 = 1 then 1 else 0)) q + gnV Pr Ti (Ra 0) (Ra 1) (St 0) q (if bt z q = 1 then 1 else 0 : Nat)))), (0, .ref (ad y)), (1, .int (iI z)), (4, .int (iI ((q : Nat) : Int)))]) hx hb dX7_gains_35 rfl hl (by decide) rfl (fun ls hl => ?_)
        refine lv_iinc (v := iI (((q : Nat) : Int) + 1)) (lv' := [(4, .int (iI (((q : Nat) : Int) + 1))), (2, .long (jI (sumI (fun g9 => gnV Pr Ti (Ra 0) (Ra 1) (St 0) g9 (if bt z g9 = 1 then 1 else 0)) q + gnV Pr Ti (Ra 0) (Ra 1) (St 0) q (if bt z q = 1 then 1 else 0 : Nat)))), (0, .ref (ad y)), (1, .int (iI z))]) hx hb dX7_gains_36 hl (k := 3) rfl (by first | exact iI_add _ _ | exact (iI_add _ _).trans (congrArg iI (by omega))) (by decide) rfl (fun ls hl => ?_)
        refine lv_goto (tgt := 10) hx hb dX7_gains_39 (by decide) ?_
        exact ih5 (q + 1) _ _ _ _ (by omega) (by omega) hfr f_y f_Ra f_Go f_Pr f_Ti f_St hP hS (by first | exact lv_sub hl [2, 3, 1, 0] rfl | exact lv_cast (lv_sub (l' := [(0, .ref (ad y)), (1, .int (iI z)), (2, .long (jI (sumI (fun g9 => gnV Pr Ti (Ra 0) (Ra 1) (St 0) g9 (if bt z g9 = 1 then 1 else 0)) q + gnV Pr Ti (Ra 0) (Ra 1) (St 0) q (if bt z q = 1 then 1 else 0 : Nat)))), (4, .int (iI (((q : Nat) : Int) + 1)))]) hl [2, 3, 1, 0] rfl) (lc_s (lc_s (lc_j (show ((sumI (fun g9 => gnV Pr Ti (Ra 0) (Ra 1) (St 0) g9 (if bt z g9 = 1 then 1 else 0)) q + gnV Pr Ti (Ra 0) (Ra 1) (St 0) q (if bt z q = 1 then 1 else 0 : Nat)) : Int) = sumI (fun g9 => gnV Pr Ti (Ra 0) (Ra 1) (St 0) g9 (if bt z g9 = 1 then 1 else 0)) (q + 1) by rfl) (lc_i (show ((((q : Nat) : Int) + 1) : Int) = (((q + 1) : Nat) : Int) by omega) rfl)))))
  exact lp3 (Go 0 - 0 + 1) 0 _ _ _ _ (Nat.lt_succ_self _) (by omega) hfr f_y f_Ra f_Go f_Pr f_Ti f_St hP hS (by first | exact lv_sub hl [2, 3, 1, 0] rfl | exact lv_cast (lv_sub (l' := [(0, .ref (ad y)), (1, .int (iI z)), (2, .long (jI 0)), (4, .int (iI 0))]) hl [2, 3, 1, 0] rfl) (lc_s (lc_s (lc_j (show (0 : Int) = sumI (fun g9 => gnV Pr Ti (Ra 0) (Ra 1) (St 0) g9 (if bt z g9 = 1 then 1 else 0)) 0 by omega) (lc_i (show (0 : Int) = ((0 : Nat) : Int) by omega) rfl)))))
