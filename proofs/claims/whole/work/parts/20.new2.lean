
theorem upZ (F : Nat → Nat) (k v : Nat) (z : Int) (h : z = (v : Int)) : va_up (fun q => (F q : Int)) k z = fun q => ((va_up F k v q : Nat) : Int) := by
  rw [h]
  exact upN F k v
def tlV (sa sc tk en ra rb po pn : Nat) (z : Int) : Int := if z = 0 then (sa : Int) else if z = 1 then (sc : Int) else if z = 2 then (po : Int) * (ra : Int) + (pn : Int) * (rb : Int) else if z = 3 then (po : Int) * (ra : Int) else if z = 4 then (tk : Int) * (rb : Int) else if z = 5 then (en : Int) else -1
def addF (dr ol : Nat → Nat) (q : Nat) : Nat → Nat := fun k => if k < q then dr k + ol k else dr k
def zrF (ol : Nat → Nat) (q : Nat) : Nat → Nat := fun k => if k < q then 0 else ol k
theorem addF_0 (dr ol : Nat → Nat) : addF dr ol 0 = dr := by
  funext k
  unfold addF
  rw [if_neg (Nat.not_lt_zero k)]
theorem zrF_0 (ol : Nat → Nat) : zrF ol 0 = ol := by
  funext k
  unfold zrF
  rw [if_neg (Nat.not_lt_zero k)]
theorem zrF_at {ol : Nat → Nat} {q k : Nat} (h : q ≤ k) : zrF ol q k = ol k := by
  unfold zrF
  rw [if_neg (by omega)]
theorem addF_s (dr ol : Nat → Nat) (q : Nat) : va_up (fun k => ((addF dr ol q k : Nat) : Int)) q (((addF dr ol q q : Nat) : Int) + ((zrF ol q q : Nat) : Int)) = fun k => ((addF dr ol (q + 1) k : Nat) : Int) := by
  funext k
  unfold va_up addF zrF
  by_cases e1 : k = q
  · subst e1
    rw [if_pos rfl, if_neg (by omega), if_neg (by omega), if_pos (by omega)]
    rfl
  · rw [if_neg e1]
    dsimp only
    by_cases h2 : k < q
    · rw [if_pos h2, if_pos (by omega)]
    · rw [if_neg h2, if_neg (by omega)]
theorem zrF_s (ol : Nat → Nat) (q : Nat) : va_up (fun k => ((zrF ol q k : Nat) : Int)) q 0 = fun k => ((zrF ol (q + 1) k : Nat) : Int) := by
  funext k
  unfold va_up zrF
  by_cases e1 : k = q
  · subst e1
    rw [if_pos rfl, if_pos (by omega)]
    rfl
  · rw [if_neg e1]
    dsimp only
    by_cases h2 : k < q
    · rw [if_pos h2, if_pos (by omega)]
    · rw [if_neg h2, if_neg (by omega)]
set_option maxHeartbeats 4000000 in
set_option maxRecDepth 100000 in
theorem c_X6_fewest_no {l : Launch} {G : nG} {N : Nat} {ad : Nat → Nat} {w : Nat → va_E} {sz : Nat} (x b tn ra rb stp : Nat) (cn : Nat → Nat) (ls : Nat → Nat → Int) (y z kz : Int) (hN : x + 218 < N) (hxb : b = x + 1) (hcn : ∀ k, k < 2 → cn k ≤ 8) (hls : ∀ k, k < 2 → ∀ q, q < 2001 → -1 ≤ ls k q ∧ ls k q ≤ q) (hy : -2147483648 ≤ y ∧ y < 2147483648) (hz : -2147483648 ≤ z ∧ z < 2147483648) (hkz : -2147483648 ≤ kz ∧ kz < 2147483648) (hno : ¬ ((y = 0 ∨ y = 1) ∧ (0 ≤ z ∧ z ≤ 2000) ∧ ¬ ls y.toNat z.toNat = -1 ∧ (kz = -1 ∨ (0 ≤ kz ∧ kz < (cn y.toNat : Int))))) (f_x : w x = .inr (6, [.ref (ad b), .ref (ad (x + 51)), .ref (ad (x + 52)), .ref (ad (x + 53)), .ref (ad (x + 67)), .ref (ad (x + 68))])) (f_L : w b = .inr (4, [.ref (ad (b + 1)), .ref (ad (b + 5)), .ref (ad (b + 9)), .ref (ad (b + 12)), .ref (ad (b + 13)), .int (iI ((tn : Nat) : Int)), .int (iI ((ra : Nat) : Int)), .int (iI ((rb : Nat) : Int)), .int (iI ((stp : Nat) : Int))])) (f_cn : ∀ k, k < 2 → w (b + 1 + 4 * k) = .inr (1, [.int (iI ((cn k : Nat) : Int)), .ref (ad (b + 1 + 4 * k + 1)), .ref (ad (b + 1 + 4 * k + 2)), .ref (ad (b + 1 + 4 * k + 3))])) (f_ls : ∀ k, k < 2 → w (b + 1 + 4 * k + 3) = aI G 2001 (ls k)) : Met l yX6_fewest wsX6_fewest ({ frames := 3, cells := 0, slots := 0, locals := 63 }) (va_Pc [.ref (ad x), .int (iI y), .int (iI z), .int (iI kz)] (nB G N ad w sz)) (nRd (.int (iI (-1)))) 0 0 (fun _ => False) := by
  refine n_ent (cc := cX6_fewest) (maxL := 5) (ret := (some .int)) (by decide) rfl (Nat.le_of_ble_eq_true rfl) ?_
  intro p e s m below meth cd hx hb hr hml hlocks hts hown hnm hsz hP hK hI Q hQ ls hl
  have hown : s.vm.findClass RX6 = some m.cls := hown
  have hl : lv_has ls 5 [(0, .ref (ad x)), (1, .int (iI y)), (2, .int (iI z)), (3, .int (iI kz))] := hl
  refine lv_aload_n hx hb dX6_fewest_0 rfl (lv_at hl 0 rfl) ?_
  refine n_get hx hb hts u_X6 hown hK hP (by omega) f_x rfl 0 (by decide) (nT_m wf_X6_10) rfl dX6_fewest_1 ?_
  refine lv_iload_n hx hb dX6_fewest_4 rfl (lv_at hl 1 rfl) ?_
  by_cases hs9 : y = 0 ∨ y = 1
  · skip
    obtain ⟨sy, rfl⟩ : ∃ sy : Nat, y = (sy : Int) := ⟨(y).toNat, by omega⟩
    rw [Int.toNat_natCast] at hno
    have f_o := f_cn sy (by omega)
    have f_l := f_ls sy (by omega)
    have hlst := hls sy (by omega)
    have hcs := hcn sy (by omega)
    refine n_rdF (va_runV (As := [.int (iI ((sy : Nat) : Int))]) (rest := []) ⟨hx, hb, hml, hown, hts⟩ (c_X4_coinageOf_y _ _ _ _ _ sy (by omega) (by omega) f_L) (cwV 1 hts (nT_V wl_X6_39 wi_X4_coinageOf ws_X4_coinageOf wn_X4 wc_X4_coinageOf) rfl rfl rfl (by decide +kernel) ⟨Nat.le_of_ble_eq_true rfl, Nat.le_of_ble_eq_true rfl⟩) (nB.preV hK hI hP (by omega) f_L rfl rfl) rfl rfl hl.1 rfl (lv_room (Nat.le_of_ble_eq_true rfl)) dX6_fewest_5 ⟨Nat.zero_le _, Nat.zero_le _⟩) ?_
    refine lv_astore (lv' := [(4, .ref (ad (b + 1 + 4 * sy))), (0, .ref (ad x)), (1, .int (iI ((sy : Nat) : Int))), (2, .int (iI z)), (3, .int (iI kz))]) hx hb dX6_fewest_8 hl (by decide) rfl (fun ls hl => ?_)
    refine lv_aload hx hb dX6_fewest_10 (lv_at hl 0 rfl) ?_
    refine lv_ifnull hx hb dX6_fewest_12 ?_
    refine lv_aload hx hb dX6_fewest_15 (lv_at hl 0 rfl) ?_
    refine lv_iload_n hx hb dX6_fewest_17 rfl (lv_at hl 3 rfl) ?_
    refine n_rdF (va_runV (As := [.int (iI z)]) (rest := []) ⟨hx, hb, hml, hown, hts⟩ (c_X1_hasFewest _ _ z _ (by omega) (by omega) hlst f_o f_l) (cwV 1 hts (nT_V wl_X6_111 wi_X1_hasFewest ws_X1_hasFewest wn_X1 wc_X1_hasFewest) rfl rfl rfl (by decide +kernel) ⟨Nat.le_of_ble_eq_true rfl, Nat.le_of_ble_eq_true rfl⟩) (nB.preV hK hI hP (by omega) f_o rfl rfl) rfl rfl hl.1 rfl (lv_room (Nat.le_of_ble_eq_true rfl)) dX6_fewest_18 ⟨Nat.zero_le _, Nat.zero_le _⟩) ?_
    refine n_if_neB (tgt := 26) hx hb dX6_fewest_21 (by decide) (fun hc21 => ?_) (fun hc21 => ?_)
    · skip
      refine lv_iload_n hx hb dX6_fewest_26 rfl (lv_at hl 4 rfl) ?_
      refine n_iconst hx hb dX6_fewest_27 ?_
      refine n_icmp_ne (tgt := 39) hx hb dX6_fewest_28 (by decide) (by omega) (by omega) (fun hc28 => ?_) (fun hc28 => ?_)
      · skip
        refine lv_aload hx hb dX6_fewest_39 (lv_at hl 0 rfl) ?_
        refine lv_iload_n hx hb dX6_fewest_41 rfl (lv_at hl 4 rfl) ?_
        refine n_rdF (va_runV (As := [.int (iI kz)]) (rest := []) ⟨hx, hb, hml, hown, hts⟩ (c_X1_isCoin _ _ kz (by omega) (by omega) (by omega) f_o) (cwV 1 hts (nT_V wl_X6_117 wi_X1_isCoin ws_X1_isCoin wn_X1 wc_X1_isCoin) rfl rfl rfl (by decide +kernel) ⟨Nat.le_of_ble_eq_true rfl, Nat.le_of_ble_eq_true rfl⟩) (nB.preV hK hI hP (by omega) f_o rfl rfl) rfl rfl hl.1 rfl (lv_room (Nat.le_of_ble_eq_true rfl)) dX6_fewest_42 ⟨Nat.zero_le _, Nat.zero_le _⟩) ?_
        refine n_if_neB (tgt := 50) hx hb dX6_fewest_45 (by decide) (fun hc45 => ?_) (fun hc45 => ?_)
        · skip
          exact absurd ⟨hs9, hc21.1, hc21.2, Or.inr hc45⟩ hno
        · skip
          refine n_iconst hx hb dX6_fewest_48 ?_
          exact n_iretR hQ hx hb hr hlocks rfl dX6_fewest_49
      · skip
        exact absurd ⟨hs9, hc21.1, hc21.2, Or.inl hc28⟩ hno
    · skip
      refine n_iconst hx hb dX6_fewest_24 ?_
      exact n_iretR hQ hx hb hr hlocks rfl dX6_fewest_25
  · skip
    refine n_rdF (va_runV (As := [.int (iI y)]) (rest := []) ⟨hx, hb, hml, hown, hts⟩ (c_X4_coinageOf_n _ _ _ _ _ y (by omega) (by omega) (by omega) f_L) (cwV 1 hts (nT_V wl_X6_39 wi_X4_coinageOf ws_X4_coinageOf wn_X4 wc_X4_coinageOf) rfl rfl rfl (by decide +kernel) ⟨Nat.le_of_ble_eq_true rfl, Nat.le_of_ble_eq_true rfl⟩) (nB.preV hK hI hP (by omega) f_L rfl rfl) rfl rfl hl.1 rfl (lv_room (Nat.le_of_ble_eq_true rfl)) dX6_fewest_5 ⟨Nat.zero_le _, Nat.zero_le _⟩) ?_
    refine lv_astoreN (lv' := [(4, .null), (0, .ref (ad x)), (1, .int (iI y)), (2, .int (iI z)), (3, .int (iI kz))]) hx hb dX6_fewest_8 hl (by decide) rfl (fun ls hl => ?_)
    refine lv_aloadN hx hb dX6_fewest_10 (lv_at hl 0 rfl) ?_
    refine lv_ifnullN (tgt := 24) hx hb dX6_fewest_12 (by decide) ?_
    refine n_iconst hx hb dX6_fewest_24 ?_
    exact n_iretR hQ hx hb hr hlocks rfl dX6_fewest_25
set_option maxHeartbeats 4000000 in
set_option maxRecDepth 100000 in
theorem c_X6_fewest_cnt {l : Launch} {G : nG} {N : Nat} {ad : Nat → Nat} {w : Nat → va_E} {sz : Nat} (x b tn ra rb stp : Nat) (sy cnt : Nat) (val fal : Nat → Nat) (lst : Nat → Int) (sm : Nat) (hN : x + 218 < N) (hxb : b = x + 1) (hs : sy < 2) (hc : cnt ≤ 8) (hval : ∀ k, val k ≤ 1000) (hval1 : ∀ k, k < cnt → 1 ≤ val k) (hfal : ∀ k, k < cnt → fal k < cnt) (hlst : ∀ k, k < 2001 → -1 ≤ lst k ∧ lst k ≤ k) (hsm : sm ≤ 2000) (hls : ¬ lst sm = -1) (f_x : w x = .inr (6, [.ref (ad b), .ref (ad (x + 51)), .ref (ad (x + 52)), .ref (ad (x + 53)), .ref (ad (x + 67)), .ref (ad (x + 68))])) (f_L : w b = .inr (4, [.ref (ad (b + 1)), .ref (ad (b + 5)), .ref (ad (b + 9)), .ref (ad (b + 12)), .ref (ad (b + 13)), .int (iI ((tn : Nat) : Int)), .int (iI ((ra : Nat) : Int)), .int (iI ((rb : Nat) : Int)), .int (iI ((stp : Nat) : Int))])) (f_o : w (b + 1 + 4 * sy) = .inr (1, [.int (iI ((cnt : Nat) : Int)), .ref (ad ((b + 1 + 4 * sy) + 1)), .ref (ad ((b + 1 + 4 * sy) + 2)), .ref (ad ((b + 1 + 4 * sy) + 3))])) (f_v : w ((b + 1 + 4 * sy) + 1) = aI G 8 (fun q => (val q : Int))) (f_f : w ((b + 1 + 4 * sy) + 2) = aI G 8 (fun q => (fal q : Int))) (f_l : w ((b + 1 + 4 * sy) + 3) = aI G 2001 lst) : Met l yX6_fewest wsX6_fewest ({ frames := 3, cells := 0, slots := 0, locals := 63 }) (va_Pc [.ref (ad x), .int (iI ((sy : Nat) : Int)), .int (iI ((sm : Nat) : Int)), .int (iI (-1))] (nB G N ad w sz)) (nRd (.int (iI (lst sm)))) 0 0 (fun _ => False) := by
  refine n_ent (cc := cX6_fewest) (maxL := 5) (ret := (some .int)) (by decide) rfl (Nat.le_of_ble_eq_true rfl) ?_
  intro p e s m below meth cd hx hb hr hml hlocks hts hown hnm hsz hP hK hI Q hQ ls hl
  have hown : s.vm.findClass RX6 = some m.cls := hown
  have hl : lv_has ls 5 [(0, .ref (ad x)), (1, .int (iI ((sy : Nat) : Int))), (2, .int (iI ((sm : Nat) : Int))), (3, .int (iI (-1)))] := hl
  refine lv_aload_n hx hb dX6_fewest_0 rfl (lv_at hl 0 rfl) ?_
  refine n_get hx hb hts u_X6 hown hK hP (by omega) f_x rfl 0 (by decide) (nT_m wf_X6_10) rfl dX6_fewest_1 ?_
  refine lv_iload_n hx hb dX6_fewest_4 rfl (lv_at hl 1 rfl) ?_
  refine n_rdF (va_runV (As := [.int (iI ((sy : Nat) : Int))]) (rest := []) ⟨hx, hb, hml, hown, hts⟩ (c_X4_coinageOf_y _ _ _ _ _ sy (by omega) (by omega) f_L) (cwV 1 hts (nT_V wl_X6_39 wi_X4_coinageOf ws_X4_coinageOf wn_X4 wc_X4_coinageOf) rfl rfl rfl (by decide +kernel) ⟨Nat.le_of_ble_eq_true rfl, Nat.le_of_ble_eq_true rfl⟩) (nB.preV hK hI hP (by omega) f_L rfl rfl) rfl rfl hl.1 rfl (lv_room (Nat.le_of_ble_eq_true rfl)) dX6_fewest_5 ⟨Nat.zero_le _, Nat.zero_le _⟩) ?_
  refine lv_astore (lv' := [(4, .ref (ad (b + 1 + 4 * sy))), (0, .ref (ad x)), (1, .int (iI ((sy : Nat) : Int))), (2, .int (iI ((sm : Nat) : Int))), (3, .int (iI (-1)))]) hx hb dX6_fewest_8 hl (by decide) rfl (fun ls hl => ?_)
  refine lv_aload hx hb dX6_fewest_10 (lv_at hl 0 rfl) ?_
  refine lv_ifnull hx hb dX6_fewest_12 ?_
  refine lv_aload hx hb dX6_fewest_15 (lv_at hl 0 rfl) ?_
  refine lv_iload_n hx hb dX6_fewest_17 rfl (lv_at hl 3 rfl) ?_
  refine n_rdF (va_runV (As := [.int (iI ((sm : Nat) : Int))]) (rest := []) ⟨hx, hb, hml, hown, hts⟩ (c_X1_hasFewest _ _ ((sm : Nat) : Int) _ (by omega) (by omega) hlst f_o f_l) (cwV 1 hts (nT_V wl_X6_111 wi_X1_hasFewest ws_X1_hasFewest wn_X1 wc_X1_hasFewest) rfl rfl rfl (by decide +kernel) ⟨Nat.le_of_ble_eq_true rfl, Nat.le_of_ble_eq_true rfl⟩) (nB.preV hK hI hP (by omega) f_o rfl rfl) rfl rfl hl.1 rfl (lv_room (Nat.le_of_ble_eq_true rfl)) dX6_fewest_18 ⟨Nat.zero_le _, Nat.zero_le _⟩) ?_
  refine n_if_neB (tgt := 26) hx hb dX6_fewest_21 (by decide) (fun hc21 => ?_) (fun hc21 => ?_)
  · skip
    refine lv_iload_n hx hb dX6_fewest_26 rfl (lv_at hl 4 rfl) ?_
    refine n_iconst hx hb dX6_fewest_27 ?_
    refine n_icmp_ne (tgt := 39) hx hb dX6_fewest_28 (by decide) (by omega) (by omega) (fun hc28 => ?_) (fun hc28 => ?_)
    · skip
      exact absurd hc28 (by omega)
    · skip
      refine lv_aload hx hb dX6_fewest_31 (lv_at hl 0 rfl) ?_
      refine n_get hx hb hts u_X1 hown hK hP (by omega) f_o rfl 3 (by decide) (nT_m wf_X6_114) rfl dX6_fewest_33 ?_
      refine lv_iload_n hx hb dX6_fewest_36 rfl (lv_at hl 3 rfl) ?_
      refine n_iald hx hb hK hP sm (by omega) f_l (by omega) (by omega) (by decide) dX6_fewest_37 ?_
      have ho1 := hlst sm (by omega)
      exact n_iretR hQ hx hb hr hlocks rfl dX6_fewest_38
  · skip
    exact absurd ⟨by omega, by rw [Int.toNat_natCast]; exact hls⟩ hc21
set_option maxHeartbeats 4000000 in
set_option maxRecDepth 100000 in
theorem c_X6_fewest_row {l : Launch} {G : nG} {N : Nat} {ad : Nat → Nat} {w : Nat → va_E} {sz : Nat} (x b tn ra rb stp : Nat) (sy cnt : Nat) (val fal : Nat → Nat) (lst : Nat → Int) (sm : Nat) (kk : Nat) (row : Nat → Int) (hN : x + 218 < N) (hxb : b = x + 1) (hs : sy < 2) (hc : cnt ≤ 8) (hval : ∀ k, val k ≤ 1000) (hval1 : ∀ k, k < cnt → 1 ≤ val k) (hfal : ∀ k, k < cnt → fal k < cnt) (hlst : ∀ k, k < 2001 → -1 ≤ lst k ∧ lst k ≤ k) (hsm : sm ≤ 2000) (hls : ¬ lst sm = -1) (hk : kk < cnt) (f_x : w x = .inr (6, [.ref (ad b), .ref (ad (x + 51)), .ref (ad (x + 52)), .ref (ad (x + 53)), .ref (ad (x + 67)), .ref (ad (x + 68))])) (f_L : w b = .inr (4, [.ref (ad (b + 1)), .ref (ad (b + 5)), .ref (ad (b + 9)), .ref (ad (b + 12)), .ref (ad (b + 13)), .int (iI ((tn : Nat) : Int)), .int (iI ((ra : Nat) : Int)), .int (iI ((rb : Nat) : Int)), .int (iI ((stp : Nat) : Int))])) (f_o : w (b + 1 + 4 * sy) = .inr (1, [.int (iI ((cnt : Nat) : Int)), .ref (ad ((b + 1 + 4 * sy) + 1)), .ref (ad ((b + 1 + 4 * sy) + 2)), .ref (ad ((b + 1 + 4 * sy) + 3))])) (f_v : w ((b + 1 + 4 * sy) + 1) = aI G 8 (fun q => (val q : Int))) (f_f : w ((b + 1 + 4 * sy) + 2) = aI G 8 (fun q => (fal q : Int))) (f_l : w ((b + 1 + 4 * sy) + 3) = aI G 2001 lst) (f_r : w (x + 67) = aI G 8 row) : Met l yX6_fewest wsX6_fewest ({ frames := 3, cells := 0, slots := 0, locals := 63 }) (va_Pc [.ref (ad x), .int (iI ((sy : Nat) : Int)), .int (iI ((sm : Nat) : Int)), .int (iI ((kk : Nat) : Int))] (nB G N ad w sz)) (nPi G N ad sz (fun r u => (∀ j, j ≠ (x + 67) → u j = w j) ∧ (r = wfR val fal lst sm row cnt kk) ∧ (u (x + 67) = aI G 8 (wfR val fal lst sm row cnt)))) 0 0 (nA N ad sz) := by
  refine n_ent (cc := cX6_fewest) (maxL := 5) (ret := (some .int)) (by decide) rfl (Nat.le_of_ble_eq_true rfl) ?_
  intro p e s m below meth cd hx hb hr hml hlocks hts hown hnm hsz hP hK hI Q hQ ls hl
  have hown : s.vm.findClass RX6 = some m.cls := hown
  subst hsz
  have hJ := hI.J s.heap.size
  have hS : va_S (nA N ad s.heap.size) s.heap s.heap [] := va_S.rf
  have hfr : ∀ j, j ≠ (x + 67) → w j = w j := fun _ _ => rfl
  have hl : lv_has ls 5 [(0, .ref (ad x)), (1, .int (iI ((sy : Nat) : Int))), (2, .int (iI ((sm : Nat) : Int))), (3, .int (iI ((kk : Nat) : Int)))] := hl
  refine lv_aload_n hx hb dX6_fewest_0 rfl (lv_at hl 0 rfl) ?_
  refine n_get hx hb hts u_X6 hown hK hP (by omega) f_x rfl 0 (by decide) (nT_m wf_X6_10) rfl dX6_fewest_1 ?_
  refine lv_iload_n hx hb dX6_fewest_4 rfl (lv_at hl 1 rfl) ?_
  refine n_rdF (va_runV (As := [.int (iI ((sy : Nat) : Int))]) (rest := []) ⟨hx, hb, hml, hown, hts⟩ (c_X4_coinageOf_y _ _ _ _ _ sy (by omega) (by omega) f_L) (cwV 1 hts (nT_V wl_X6_39 wi_X4_coinageOf ws_X4_coinageOf wn_X4 wc_X4_coinageOf) rfl rfl rfl (by decide +kernel) ⟨Nat.le_of_ble_eq_true rfl, Nat.le_of_ble_eq_true rfl⟩) (nB.preV hK hI hP (by omega) f_L rfl rfl) rfl rfl hl.1 rfl (lv_room (Nat.le_of_ble_eq_true rfl)) dX6_fewest_5 ⟨Nat.zero_le _, Nat.zero_le _⟩) ?_
  refine lv_astore (lv' := [(4, .ref (ad (b + 1 + 4 * sy))), (0, .ref (ad x)), (1, .int (iI ((sy : Nat) : Int))), (2, .int (iI ((sm : Nat) : Int))), (3, .int (iI ((kk : Nat) : Int)))]) hx hb dX6_fewest_8 hl (by decide) rfl (fun ls hl => ?_)
  refine lv_aload hx hb dX6_fewest_10 (lv_at hl 0 rfl) ?_
  refine lv_ifnull hx hb dX6_fewest_12 ?_
  refine lv_aload hx hb dX6_fewest_15 (lv_at hl 0 rfl) ?_
  refine lv_iload_n hx hb dX6_fewest_17 rfl (lv_at hl 3 rfl) ?_
  refine n_rdF (va_runV (As := [.int (iI ((sm : Nat) : Int))]) (rest := []) ⟨hx, hb, hml, hown, hts⟩ (c_X1_hasFewest _ _ ((sm : Nat) : Int) _ (by omega) (by omega) hlst f_o f_l) (cwV 1 hts (nT_V wl_X6_111 wi_X1_hasFewest ws_X1_hasFewest wn_X1 wc_X1_hasFewest) rfl rfl rfl (by decide +kernel) ⟨Nat.le_of_ble_eq_true rfl, Nat.le_of_ble_eq_true rfl⟩) (nB.preV hK hI hP (by omega) f_o rfl rfl) rfl rfl hl.1 rfl (lv_room (Nat.le_of_ble_eq_true rfl)) dX6_fewest_18 ⟨Nat.zero_le _, Nat.zero_le _⟩) ?_
  refine n_if_neB (tgt := 26) hx hb dX6_fewest_21 (by decide) (fun hc21 => ?_) (fun hc21 => ?_)
  · skip
    refine lv_iload_n hx hb dX6_fewest_26 rfl (lv_at hl 4 rfl) ?_
    refine n_iconst hx hb dX6_fewest_27 ?_
    refine n_icmp_ne (tgt := 39) hx hb dX6_fewest_28 (by decide) (by omega) (by omega) (fun hc28 => ?_) (fun hc28 => ?_)
    · skip
      refine lv_aload hx hb dX6_fewest_39 (lv_at hl 0 rfl) ?_
      refine lv_iload_n hx hb dX6_fewest_41 rfl (lv_at hl 4 rfl) ?_
      refine n_rdF (va_runV (As := [.int (iI ((kk : Nat) : Int))]) (rest := []) ⟨hx, hb, hml, hown, hts⟩ (c_X1_isCoin _ _ ((kk : Nat) : Int) (by omega) (by omega) (by omega) f_o) (cwV 1 hts (nT_V wl_X6_117 wi_X1_isCoin ws_X1_isCoin wn_X1 wc_X1_isCoin) rfl rfl rfl (by decide +kernel) ⟨Nat.le_of_ble_eq_true rfl, Nat.le_of_ble_eq_true rfl⟩) (nB.preV hK hI hP (by omega) f_o rfl rfl) rfl rfl hl.1 rfl (lv_room (Nat.le_of_ble_eq_true rfl)) dX6_fewest_42 ⟨Nat.zero_le _, Nat.zero_le _⟩) ?_
      refine n_if_neB (tgt := 50) hx hb dX6_fewest_45 (by decide) (fun hc45 => ?_) (fun hc45 => ?_)
      · skip
        refine lv_aload hx hb dX6_fewest_50 (lv_at hl 0 rfl) ?_
        refine lv_iload_n hx hb dX6_fewest_52 rfl (lv_at hl 3 rfl) ?_
        refine lv_aload_n hx hb dX6_fewest_53 rfl (lv_at hl 1 rfl) ?_
        refine n_get hx hb hts u_X6 hown hK hP (by omega) f_x rfl 4 (by decide) (nT_m wf_X6_31) rfl dX6_fewest_54 ?_
        refine n_cV (va_runV (As := [.int (iI ((sm : Nat) : Int)), .ref (ad (x + 67))]) (rest := []) ⟨hx, hb, hml, hown, hts⟩ (c_X1_writeFewest _ _ val fal lst sm _ _ (by omega) (by omega) hval hval1 hfal hlst (by omega) (by omega) f_o f_v f_f f_l f_r) (cwV 2 hts (nT_V wl_X6_120 wi_X1_writeFewest ws_X1_writeFewest wn_X1 wc_X1_writeFewest) rfl rfl rfl (by decide +kernel) ⟨Nat.le_of_ble_eq_true rfl, Nat.le_of_ble_eq_true rfl⟩) (nB.preV hK hI hP (by omega) f_o rfl rfl) rfl rfl hl.1 rfl (lv_room (Nat.le_of_ble_eq_true rfl)) dX6_fewest_57 ⟨Nat.zero_le _, Nat.zero_le _⟩) hS (fun w2 H locs hq4 hP hS => ?_)
        obtain ⟨hne5, hp1⟩ := hq4
        have f_x := (hne5 x (by omega)).trans f_x
        have f_L := (hne5 b (by omega)).trans f_L
        have f_o := (hne5 (b + 1 + 4 * sy) (by omega)).trans f_o
        have f_v := (hne5 ((b + 1 + 4 * sy) + 1) (by omega)).trans f_v
        have f_f := (hne5 ((b + 1 + 4 * sy) + 2) (by omega)).trans f_f
        have f_l := (hne5 ((b + 1 + 4 * sy) + 3) (by omega)).trans f_l
        have f_r : w2 (x + 67) = aI G 8 (wfR val fal lst sm row cnt) := hp1
        have hfr : ∀ j, j ≠ (x + 67) → w2 j = w j := fun j a0 => (hne5 j (by omega)).trans (hfr j a0)
        refine lv_aload_n hx hb dX6_fewest_60 rfl (lv_at hl 1 rfl) ?_
        refine n_get hx hb hts u_X6 hown hK hP (by omega) f_x rfl 4 (by decide) (nT_m wf_X6_31) rfl dX6_fewest_61 ?_
        refine lv_iload_n hx hb dX6_fewest_64 rfl (lv_at hl 4 rfl) ?_
        refine n_iald hx hb hK hP kk (by omega) f_r (by omega) (by omega) (by decide) dX6_fewest_65 ?_
        refine n_iretP hQ hx hb hr hlocks hP hS dX6_fewest_66 ?_
        exact ⟨hfr, rfl, f_r⟩
      · skip
        exact absurd hc45 (by omega)
    · skip
      exact absurd hc28 (by omega)
  · skip
    exact absurd ⟨by omega, by rw [Int.toNat_natCast]; exact hls⟩ hc21
set_option maxHeartbeats 4000000 in
set_option maxRecDepth 100000 in
theorem c_X6_greedy_no {l : Launch} {G : nG} {N : Nat} {ad : Nat → Nat} {w : Nat → va_E} {sz : Nat} (x b tn ra rb stp : Nat) (y z : Int) (hN : x + 218 < N) (hxb : b = x + 1) (hy : -2147483648 ≤ y ∧ y < 2147483648) (hz : -2147483648 ≤ z ∧ z < 2147483648) (hno : ¬ ((y = 0 ∨ y = 1) ∧ 0 ≤ z ∧ z ≤ 2000)) (f_x : w x = .inr (6, [.ref (ad b), .ref (ad (x + 51)), .ref (ad (x + 52)), .ref (ad (x + 53)), .ref (ad (x + 67)), .ref (ad (x + 68))])) (f_L : w b = .inr (4, [.ref (ad (b + 1)), .ref (ad (b + 5)), .ref (ad (b + 9)), .ref (ad (b + 12)), .ref (ad (b + 13)), .int (iI ((tn : Nat) : Int)), .int (iI ((ra : Nat) : Int)), .int (iI ((rb : Nat) : Int)), .int (iI ((stp : Nat) : Int))])) : Met l yX6_greedy wsX6_greedy ({ frames := 2, cells := 0, slots := 0, locals := 47 }) (va_Pc [.ref (ad x), .int (iI y), .int (iI z)] (nB G N ad w sz)) (nRd (.int (iI (-1)))) 0 0 (fun _ => False) := by
  refine n_ent (cc := cX6_greedy) (maxL := 4) (ret := (some .int)) (by decide) rfl (Nat.le_of_ble_eq_true rfl) ?_
  intro p e s m below meth cd hx hb hr hml hlocks hts hown hnm hsz hP hK hI Q hQ ls hl
  have hown : s.vm.findClass RX6 = some m.cls := hown
  have hl : lv_has ls 4 [(0, .ref (ad x)), (1, .int (iI y)), (2, .int (iI z))] := hl
  refine lv_aload_n hx hb dX6_greedy_0 rfl (lv_at hl 0 rfl) ?_
  refine n_get hx hb hts u_X6 hown hK hP (by omega) f_x rfl 0 (by decide) (nT_m wf_X6_10) rfl dX6_greedy_1 ?_
  refine lv_iload_n hx hb dX6_greedy_4 rfl (lv_at hl 1 rfl) ?_
  by_cases hs9 : y = 0 ∨ y = 1
  · skip
    obtain ⟨sy, rfl⟩ : ∃ sy : Nat, y = (sy : Int) := ⟨(y).toNat, by omega⟩
    refine n_rdF (va_runV (As := [.int (iI ((sy : Nat) : Int))]) (rest := []) ⟨hx, hb, hml, hown, hts⟩ (c_X4_coinageOf_y _ _ _ _ _ sy (by omega) (by omega) f_L) (cwV 1 hts (nT_V wl_X6_39 wi_X4_coinageOf ws_X4_coinageOf wn_X4 wc_X4_coinageOf) rfl rfl rfl (by decide +kernel) ⟨Nat.le_of_ble_eq_true rfl, Nat.le_of_ble_eq_true rfl⟩) (nB.preV hK hI hP (by omega) f_L rfl rfl) rfl rfl hl.1 rfl (lv_room (Nat.le_of_ble_eq_true rfl)) dX6_greedy_5 ⟨Nat.zero_le _, Nat.zero_le _⟩) ?_
    refine lv_astore_n (lv' := [(3, .ref (ad (b + 1 + 4 * sy))), (0, .ref (ad x)), (1, .int (iI ((sy : Nat) : Int))), (2, .int (iI z))]) hx hb dX6_greedy_8 rfl hl (by decide) rfl (fun ls hl => ?_)
    refine lv_aload_n hx hb dX6_greedy_9 rfl (lv_at hl 0 rfl) ?_
    refine lv_ifnull hx hb dX6_greedy_10 ?_
    refine lv_iload_n hx hb dX6_greedy_13 rfl (lv_at hl 3 rfl) ?_
    refine n_rdF (va_runS (As := [.int (iI z)]) (rest := []) ⟨hx, hb, hml, hown, hts⟩ (c_X6_isSum z (by omega)) (va_cwS 1 hts (nT_S wl_X6_124 wt_X6_isSum wn_X6 wc_X6_isSum) rfl rfl rfl (by decide +kernel) ⟨Nat.le_of_ble_eq_true rfl, Nat.le_of_ble_eq_true rfl⟩) preEq rfl rfl hl.1 rfl (lv_room (Nat.le_of_ble_eq_true rfl)) dX6_greedy_14 ⟨Nat.zero_le _, Nat.zero_le _⟩) ?_
    refine n_if_neB (tgt := 24) hx hb dX6_greedy_17 (by decide) (fun hc17 => ?_) (fun hc17 => ?_)
    · skip
      exact absurd ⟨hs9, hc17⟩ hno
    · skip
      refine n_iconst hx hb dX6_greedy_20 ?_
      refine lv_goto (tgt := 29) hx hb dX6_greedy_21 (by decide) ?_
      exact n_iretR hQ hx hb hr hlocks rfl dX6_greedy_29
  · skip
    refine n_rdF (va_runV (As := [.int (iI y)]) (rest := []) ⟨hx, hb, hml, hown, hts⟩ (c_X4_coinageOf_n _ _ _ _ _ y (by omega) (by omega) (by omega) f_L) (cwV 1 hts (nT_V wl_X6_39 wi_X4_coinageOf ws_X4_coinageOf wn_X4 wc_X4_coinageOf) rfl rfl rfl (by decide +kernel) ⟨Nat.le_of_ble_eq_true rfl, Nat.le_of_ble_eq_true rfl⟩) (nB.preV hK hI hP (by omega) f_L rfl rfl) rfl rfl hl.1 rfl (lv_room (Nat.le_of_ble_eq_true rfl)) dX6_greedy_5 ⟨Nat.zero_le _, Nat.zero_le _⟩) ?_
    refine lv_astore_nN (lv' := [(3, .null), (0, .ref (ad x)), (1, .int (iI y)), (2, .int (iI z))]) hx hb dX6_greedy_8 rfl hl (by decide) rfl (fun ls hl => ?_)
    refine lv_aload_nN hx hb dX6_greedy_9 rfl (lv_at hl 0 rfl) ?_
    refine lv_ifnullN (tgt := 20) hx hb dX6_greedy_10 (by decide) ?_
    refine n_iconst hx hb dX6_greedy_20 ?_
    refine lv_goto (tgt := 29) hx hb dX6_greedy_21 (by decide) ?_
    exact n_iretR hQ hx hb hr hlocks rfl dX6_greedy_29
set_option maxHeartbeats 4000000 in
set_option maxRecDepth 100000 in
theorem c_X6_greedy_yes {l : Launch} {G : nG} {N : Nat} {ad : Nat → Nat} {w : Nat → va_E} {sz : Nat} (x b tn ra rb stp : Nat) (sy cnt : Nat) (val fal : Nat → Nat) (sm : Nat) (hN : x + 218 < N) (hxb : b = x + 1) (hs : sy < 2) (hc : cnt ≤ 8) (hval : ∀ k, val k ≤ 1000) (hval1 : ∀ k, k < cnt → 1 ≤ val k) (hfal : ∀ k, k < cnt → fal k < cnt) (hsm : sm ≤ 2000) (f_x : w x = .inr (6, [.ref (ad b), .ref (ad (x + 51)), .ref (ad (x + 52)), .ref (ad (x + 53)), .ref (ad (x + 67)), .ref (ad (x + 68))])) (f_L : w b = .inr (4, [.ref (ad (b + 1)), .ref (ad (b + 5)), .ref (ad (b + 9)), .ref (ad (b + 12)), .ref (ad (b + 13)), .int (iI ((tn : Nat) : Int)), .int (iI ((ra : Nat) : Int)), .int (iI ((rb : Nat) : Int)), .int (iI ((stp : Nat) : Int))])) (f_o : w (b + 1 + 4 * sy) = .inr (1, [.int (iI ((cnt : Nat) : Int)), .ref (ad ((b + 1 + 4 * sy) + 1)), .ref (ad ((b + 1 + 4 * sy) + 2)), .ref (ad ((b + 1 + 4 * sy) + 3))])) (f_v : w ((b + 1 + 4 * sy) + 1) = aI G 8 (fun q => (val q : Int))) (f_f : w ((b + 1 + 4 * sy) + 2) = aI G 8 (fun q => (fal q : Int))) : Met l yX6_greedy wsX6_greedy ({ frames := 2, cells := 0, slots := 0, locals := 47 }) (va_Pc [.ref (ad x), .int (iI ((sy : Nat) : Int)), .int (iI ((sm : Nat) : Int))] (nB G N ad w sz)) (nRd (.int (iI (grV val fal cnt sm)))) 0 0 (fun _ => False) := by
  refine n_ent (cc := cX6_greedy) (maxL := 4) (ret := (some .int)) (by decide) rfl (Nat.le_of_ble_eq_true rfl) ?_
  intro p e s m below meth cd hx hb hr hml hlocks hts hown hnm hsz hP hK hI Q hQ ls hl
  have hown : s.vm.findClass RX6 = some m.cls := hown
  have hl : lv_has ls 4 [(0, .ref (ad x)), (1, .int (iI ((sy : Nat) : Int))), (2, .int (iI ((sm : Nat) : Int)))] := hl
  refine lv_aload_n hx hb dX6_greedy_0 rfl (lv_at hl 0 rfl) ?_
  refine n_get hx hb hts u_X6 hown hK hP (by omega) f_x rfl 0 (by decide) (nT_m wf_X6_10) rfl dX6_greedy_1 ?_
  refine lv_iload_n hx hb dX6_greedy_4 rfl (lv_at hl 1 rfl) ?_
  refine n_rdF (va_runV (As := [.int (iI ((sy : Nat) : Int))]) (rest := []) ⟨hx, hb, hml, hown, hts⟩ (c_X4_coinageOf_y _ _ _ _ _ sy (by omega) (by omega) f_L) (cwV 1 hts (nT_V wl_X6_39 wi_X4_coinageOf ws_X4_coinageOf wn_X4 wc_X4_coinageOf) rfl rfl rfl (by decide +kernel) ⟨Nat.le_of_ble_eq_true rfl, Nat.le_of_ble_eq_true rfl⟩) (nB.preV hK hI hP (by omega) f_L rfl rfl) rfl rfl hl.1 rfl (lv_room (Nat.le_of_ble_eq_true rfl)) dX6_greedy_5 ⟨Nat.zero_le _, Nat.zero_le _⟩) ?_
  refine lv_astore_n (lv' := [(3, .ref (ad (b + 1 + 4 * sy))), (0, .ref (ad x)), (1, .int (iI ((sy : Nat) : Int))), (2, .int (iI ((sm : Nat) : Int)))]) hx hb dX6_greedy_8 rfl hl (by decide) rfl (fun ls hl => ?_)
  refine lv_aload_n hx hb dX6_greedy_9 rfl (lv_at hl 0 rfl) ?_
  refine lv_ifnull hx hb dX6_greedy_10 ?_
  refine lv_iload_n hx hb dX6_greedy_13 rfl (lv_at hl 3 rfl) ?_
  refine n_rdF (va_runS (As := [.int (iI ((sm : Nat) : Int))]) (rest := []) ⟨hx, hb, hml, hown, hts⟩ (c_X6_isSum ((sm : Nat) : Int) (by omega)) (va_cwS 1 hts (nT_S wl_X6_124 wt_X6_isSum wn_X6 wc_X6_isSum) rfl rfl rfl (by decide +kernel) ⟨Nat.le_of_ble_eq_true rfl, Nat.le_of_ble_eq_true rfl⟩) preEq rfl rfl hl.1 rfl (lv_room (Nat.le_of_ble_eq_true rfl)) dX6_greedy_14 ⟨Nat.zero_le _, Nat.zero_le _⟩) ?_
  refine n_if_neB (tgt := 24) hx hb dX6_greedy_17 (by decide) (fun hc17 => ?_) (fun hc17 => ?_)
  · skip
    refine lv_aload_n hx hb dX6_greedy_24 rfl (lv_at hl 0 rfl) ?_
    refine lv_iload_n hx hb dX6_greedy_25 rfl (lv_at hl 3 rfl) ?_
    refine n_rdF (va_runV (As := [.int (iI ((sm : Nat) : Int))]) (rest := []) ⟨hx, hb, hml, hown, hts⟩ (c_X1_countGreedily _ _ val fal sm (by omega) (by omega) hval hval1 hfal (by omega) f_o f_v f_f) (cwV 1 hts (nT_V wl_X6_127 wi_X1_countGreedily ws_X1_countGreedily wn_X1 wc_X1_countGreedily) rfl rfl rfl (by decide +kernel) ⟨Nat.le_of_ble_eq_true rfl, Nat.le_of_ble_eq_true rfl⟩) (nB.preV hK hI hP (by omega) f_o rfl rfl) rfl rfl hl.1 rfl (lv_room (Nat.le_of_ble_eq_true rfl)) dX6_greedy_26 ⟨Nat.zero_le _, Nat.zero_le _⟩) ?_
    have hgv := grV_rng val fal cnt sm (by omega) (by omega)
    exact n_iretR hQ hx hb hr hlocks rfl dX6_greedy_29
  · skip
    exact absurd hc17 (by omega)
set_option maxHeartbeats 4000000 in
set_option maxRecDepth 100000 in
theorem c_X6_odd_no {l : Launch} {G : nG} {N : Nat} {ad : Nat → Nat} {w : Nat → va_E} {sz : Nat} (x b tn ra rb stp : Nat) (y : Int) (hN : x + 218 < N) (hxb : b = x + 1) (hy : -2147483648 ≤ y ∧ y < 2147483648) (hs : ¬ y = 0 ∧ ¬ y = 1) (f_x : w x = .inr (6, [.ref (ad b), .ref (ad (x + 51)), .ref (ad (x + 52)), .ref (ad (x + 53)), .ref (ad (x + 67)), .ref (ad (x + 68))])) (f_L : w b = .inr (4, [.ref (ad (b + 1)), .ref (ad (b + 5)), .ref (ad (b + 9)), .ref (ad (b + 12)), .ref (ad (b + 13)), .int (iI ((tn : Nat) : Int)), .int (iI ((ra : Nat) : Int)), .int (iI ((rb : Nat) : Int)), .int (iI ((stp : Nat) : Int))])) : Met l yX6_odd wsX6_odd ({ frames := 3, cells := 0, slots := 0, locals := 68 }) (va_Pc [.ref (ad x), .int (iI y)] (nB G N ad w sz)) (nRd (.int (iI (-1)))) 0 0 (fun _ => False) := by
  refine n_ent (cc := cX6_odd) (maxL := 3) (ret := (some .int)) (by decide) rfl (Nat.le_of_ble_eq_true rfl) ?_
  intro p e s m below meth cd hx hb hr hml hlocks hts hown hnm hsz hP hK hI Q hQ ls hl
  have hown : s.vm.findClass RX6 = some m.cls := hown
  have hl : lv_has ls 3 [(0, .ref (ad x)), (1, .int (iI y))] := hl
  refine lv_aload_n hx hb dX6_odd_0 rfl (lv_at hl 0 rfl) ?_
  refine n_get hx hb hts u_X6 hown hK hP (by omega) f_x rfl 0 (by decide) (nT_m wf_X6_10) rfl dX6_odd_1 ?_
  refine lv_iload_n hx hb dX6_odd_4 rfl (lv_at hl 1 rfl) ?_
  refine n_rdF (va_runV (As := [.int (iI y)]) (rest := []) ⟨hx, hb, hml, hown, hts⟩ (c_X4_coinageOf_n _ _ _ _ _ y (by omega) (by omega) (by omega) f_L) (cwV 1 hts (nT_V wl_X6_39 wi_X4_coinageOf ws_X4_coinageOf wn_X4 wc_X4_coinageOf) rfl rfl rfl (by decide +kernel) ⟨Nat.le_of_ble_eq_true rfl, Nat.le_of_ble_eq_true rfl⟩) (nB.preV hK hI hP (by omega) f_L rfl rfl) rfl rfl hl.1 rfl (lv_room (Nat.le_of_ble_eq_true rfl)) dX6_odd_5 ⟨Nat.zero_le _, Nat.zero_le _⟩) ?_
  refine lv_astore_nN (lv' := [(2, .null), (0, .ref (ad x)), (1, .int (iI y))]) hx hb dX6_odd_8 rfl hl (by decide) rfl (fun ls hl => ?_)
  refine lv_aload_nN hx hb dX6_odd_9 rfl (lv_at hl 0 rfl) ?_
  refine lv_ifnonnullN hx hb dX6_odd_10 ?_
  refine n_iconst hx hb dX6_odd_13 ?_
  refine lv_goto (tgt := 21) hx hb dX6_odd_14 (by decide) ?_
  exact n_iretR hQ hx hb hr hlocks rfl dX6_odd_21
set_option maxHeartbeats 4000000 in
set_option maxRecDepth 100000 in
theorem c_X6_odd_yes {l : Launch} {G : nG} {N : Nat} {ad : Nat → Nat} {w : Nat → va_E} {sz : Nat} (x b tn ra rb stp : Nat) (sy cnt : Nat) (val fal : Nat → Nat) (lst : Nat → Int) (hN : x + 218 < N) (hxb : b = x + 1) (hs : sy < 2) (hc : cnt ≤ 8) (hval : ∀ k, val k ≤ 1000) (hval1 : ∀ k, k < cnt → 1 ≤ val k) (hfal : ∀ k, k < cnt → fal k < cnt) (hlst : ∀ k, k < 2001 → -1 ≤ lst k ∧ lst k ≤ k) (f_x : w x = .inr (6, [.ref (ad b), .ref (ad (x + 51)), .ref (ad (x + 52)), .ref (ad (x + 53)), .ref (ad (x + 67)), .ref (ad (x + 68))])) (f_L : w b = .inr (4, [.ref (ad (b + 1)), .ref (ad (b + 5)), .ref (ad (b + 9)), .ref (ad (b + 12)), .ref (ad (b + 13)), .int (iI ((tn : Nat) : Int)), .int (iI ((ra : Nat) : Int)), .int (iI ((rb : Nat) : Int)), .int (iI ((stp : Nat) : Int))])) (f_o : w (b + 1 + 4 * sy) = .inr (1, [.int (iI ((cnt : Nat) : Int)), .ref (ad ((b + 1 + 4 * sy) + 1)), .ref (ad ((b + 1 + 4 * sy) + 2)), .ref (ad ((b + 1 + 4 * sy) + 3))])) (f_v : w ((b + 1 + 4 * sy) + 1) = aI G 8 (fun q => (val q : Int))) (f_f : w ((b + 1 + 4 * sy) + 2) = aI G 8 (fun q => (fal q : Int))) (f_l : w ((b + 1 + 4 * sy) + 3) = aI G 2001 lst) : Met l yX6_odd wsX6_odd ({ frames := 3, cells := 0, slots := 0, locals := 68 }) (va_Pc [.ref (ad x), .int (iI ((sy : Nat) : Int))] (nB G N ad w sz)) (nRd (.int (iI (fo (fun k => decide (¬ lst k = -1 ∧ ¬ grV val fal cnt k = lst k)) 2001 0)))) 0 0 (fun _ => False) := by
  refine n_ent (cc := cX6_odd) (maxL := 3) (ret := (some .int)) (by decide) rfl (Nat.le_of_ble_eq_true rfl) ?_
  intro p e s m below meth cd hx hb hr hml hlocks hts hown hnm hsz hP hK hI Q hQ ls hl
  have hown : s.vm.findClass RX6 = some m.cls := hown
  have hl : lv_has ls 3 [(0, .ref (ad x)), (1, .int (iI ((sy : Nat) : Int)))] := hl
  refine lv_aload_n hx hb dX6_odd_0 rfl (lv_at hl 0 rfl) ?_
  refine n_get hx hb hts u_X6 hown hK hP (by omega) f_x rfl 0 (by decide) (nT_m wf_X6_10) rfl dX6_odd_1 ?_
  refine lv_iload_n hx hb dX6_odd_4 rfl (lv_at hl 1 rfl) ?_
  refine n_rdF (va_runV (As := [.int (iI ((sy : Nat) : Int))]) (rest := []) ⟨hx, hb, hml, hown, hts⟩ (c_X4_coinageOf_y _ _ _ _ _ sy (by omega) (by omega) f_L) (cwV 1 hts (nT_V wl_X6_39 wi_X4_coinageOf ws_X4_coinageOf wn_X4 wc_X4_coinageOf) rfl rfl rfl (by decide +kernel) ⟨Nat.le_of_ble_eq_true rfl, Nat.le_of_ble_eq_true rfl⟩) (nB.preV hK hI hP (by omega) f_L rfl rfl) rfl rfl hl.1 rfl (lv_room (Nat.le_of_ble_eq_true rfl)) dX6_odd_5 ⟨Nat.zero_le _, Nat.zero_le _⟩) ?_
  refine lv_astore_n (lv' := [(2, .ref (ad (b + 1 + 4 * sy))), (0, .ref (ad x)), (1, .int (iI ((sy : Nat) : Int)))]) hx hb dX6_odd_8 rfl hl (by decide) rfl (fun ls hl => ?_)
  refine lv_aload_n hx hb dX6_odd_9 rfl (lv_at hl 0 rfl) ?_
  refine lv_ifnonnull (tgt := 17) hx hb dX6_odd_10 (by decide) ?_
  refine lv_aload_n hx hb dX6_odd_17 rfl (lv_at hl 0 rfl) ?_
  refine n_rdF (va_runV (As := []) (rest := []) ⟨hx, hb, hml, hown, hts⟩ (c_X1_leastOdd _ cnt val fal lst (by omega) hc hval hval1 hfal hlst f_o f_v f_f f_l) (cwV 0 hts (nT_V wl_X6_130 wi_X1_leastOdd ws_X1_leastOdd wn_X1 wc_X1_leastOdd) rfl rfl rfl (by decide +kernel) ⟨Nat.le_of_ble_eq_true rfl, Nat.le_of_ble_eq_true rfl⟩) (nB.preV hK hI hP (by omega) f_o rfl rfl) rfl rfl hl.1 rfl (lv_room (Nat.le_of_ble_eq_true rfl)) dX6_odd_18 ⟨Nat.zero_le _, Nat.zero_le _⟩) ?_
  exact n_iretR hQ hx hb hr hlocks rfl dX6_odd_21
set_option maxHeartbeats 4000000 in
set_option maxRecDepth 100000 in
theorem c_X6_till_no {l : Launch} {G : nG} {N : Nat} {ad : Nat → Nat} {w : Nat → va_E} {sz : Nat} (x b tn ra rb stp : Nat) (hN : x + 218 < N) (hxb : b = x + 1) (hno : tn = 4) (f_x : w x = .inr (6, [.ref (ad b), .ref (ad (x + 51)), .ref (ad (x + 52)), .ref (ad (x + 53)), .ref (ad (x + 67)), .ref (ad (x + 68))])) (f_L : w b = .inr (4, [.ref (ad (b + 1)), .ref (ad (b + 5)), .ref (ad (b + 9)), .ref (ad (b + 12)), .ref (ad (b + 13)), .int (iI ((tn : Nat) : Int)), .int (iI ((ra : Nat) : Int)), .int (iI ((rb : Nat) : Int)), .int (iI ((stp : Nat) : Int))])) : Met l yX6_till wsX6_till ({ frames := 0, cells := 0, slots := 0, locals := 0 }) (va_Pc [.ref (ad x)] (nB G N ad w sz)) (nRd (.int (iI (-1)))) 0 0 (fun _ => False) := by
  refine n_ent (cc := cX6_till) (maxL := 1) (ret := (some .int)) (by decide) rfl (Nat.le_of_ble_eq_true rfl) ?_
  intro p e s m below meth cd hx hb hr hml hlocks hts hown hnm hsz hP hK hI Q hQ ls hl
  have hown : s.vm.findClass RX6 = some m.cls := hown
  have hl : lv_has ls 1 [(0, .ref (ad x))] := hl
  refine lv_aload_n hx hb dX6_till_0 rfl (lv_at hl 0 rfl) ?_
  refine n_get hx hb hts u_X6 hown hK hP (by omega) f_x rfl 0 (by decide) (nT_m wf_X6_10) rfl dX6_till_1 ?_
  refine n_get hx hb hts u_X4 hown hK hP (by omega) f_L rfl 5 (by decide) (nT_m wf_X6_134) rfl dX6_till_4 ?_
  refine n_iconst hx hb dX6_till_7 ?_
  refine n_icmp_lt (tgt := 13) hx hb dX6_till_8 (by decide) (by omega) (by omega) (fun hc8 => ?_) (fun hc8 => ?_)
  · skip
    exact absurd hc8 (by omega)
  · skip
    refine n_iconst hx hb dX6_till_11 ?_
    exact n_iretR hQ hx hb hr hlocks rfl dX6_till_12
set_option maxHeartbeats 4000000 in
set_option maxRecDepth 100000 in
theorem c_X6_till_yes {l : Launch} {G : nG} {N : Nat} {ad : Nat → Nat} {w : Nat → va_E} {sz : Nat} (x b tn ra rb stp : Nat) (hN : x + 218 < N) (hxb : b = x + 1) (hno : tn < 4) (f_x : w x = .inr (6, [.ref (ad b), .ref (ad (x + 51)), .ref (ad (x + 52)), .ref (ad (x + 53)), .ref (ad (x + 67)), .ref (ad (x + 68))])) (f_L : w b = .inr (4, [.ref (ad (b + 1)), .ref (ad (b + 5)), .ref (ad (b + 9)), .ref (ad (b + 12)), .ref (ad (b + 13)), .int (iI ((tn : Nat) : Int)), .int (iI ((ra : Nat) : Int)), .int (iI ((rb : Nat) : Int)), .int (iI ((stp : Nat) : Int))])) : Met l yX6_till wsX6_till ({ frames := 0, cells := 0, slots := 0, locals := 0 }) (va_Pc [.ref (ad x)] (nB G N ad w sz)) (nPi G N ad sz (fun r u => (∀ j, j ≠ b → u j = w j) ∧ (r = tn) ∧ (u b = .inr (4, [.ref (ad (b + 1)), .ref (ad (b + 5)), .ref (ad (b + 9)), .ref (ad (b + 12)), .ref (ad (b + 13)), .int (iI ((tn + 1 : Nat) : Int)), .int (iI ((ra : Nat) : Int)), .int (iI ((rb : Nat) : Int)), .int (iI ((stp : Nat) : Int))])))) 0 0 (nA N ad sz) := by
  refine n_ent (cc := cX6_till) (maxL := 1) (ret := (some .int)) (by decide) rfl (Nat.le_of_ble_eq_true rfl) ?_
  intro p e s m below meth cd hx hb hr hml hlocks hts hown hnm hsz hP hK hI Q hQ ls hl
  have hown : s.vm.findClass RX6 = some m.cls := hown
  subst hsz
  have hJ := hI.J s.heap.size
  have hS : va_S (nA N ad s.heap.size) s.heap s.heap [] := va_S.rf
  have hfr : ∀ j, j ≠ b → w j = w j := fun _ _ => rfl
  have hl : lv_has ls 1 [(0, .ref (ad x))] := hl
  refine lv_aload_n hx hb dX6_till_0 rfl (lv_at hl 0 rfl) ?_
  refine n_get hx hb hts u_X6 hown hK hP (by omega) f_x rfl 0 (by decide) (nT_m wf_X6_10) rfl dX6_till_1 ?_
  refine n_get hx hb hts u_X4 hown hK hP (by omega) f_L rfl 5 (by decide) (nT_m wf_X6_134) rfl dX6_till_4 ?_
  refine n_iconst hx hb dX6_till_7 ?_
  refine n_icmp_lt (tgt := 13) hx hb dX6_till_8 (by decide) (by omega) (by omega) (fun hc8 => ?_) (fun hc8 => ?_)
  · skip
    refine lv_aload_n hx hb dX6_till_13 rfl (lv_at hl 0 rfl) ?_
    refine n_get hx hb hts u_X6 hown hK hP (by omega) f_x rfl 0 (by decide) (nT_m wf_X6_10) rfl dX6_till_14 ?_
    refine lv_dup hx hb dX6_till_17 rfl ?_
    refine n_get hx hb hts u_X4 hown hK hP (by omega) f_L rfl 5 (by decide) (nT_m wf_X6_134) rfl dX6_till_18 ?_
    refine n_iconst hx hb dX6_till_21 ?_
    refine n_iadd hx hb dX6_till_22 ?_
    refine n_put hx hb hts u_X4 tyX4 tyX4_ok nmX4 hown hK hJ hP hS (by omega) f_L rfl 5 (by decide) (nT_m wf_X6_134) rfl rfl rfl (Nat.le_of_ble_eq_true rfl) dX6_till_23 (fun w1 H locs f_L hne2 hP hS => ?_)
    have f_L : w1 b = .inr (4, [.ref (ad (b + 1)), .ref (ad (b + 5)), .ref (ad (b + 9)), .ref (ad (b + 12)), .ref (ad (b + 13)), .int (iI (((tn : Nat) : Int) + 1)), .int (iI ((ra : Nat) : Int)), .int (iI ((rb : Nat) : Int)), .int (iI ((stp : Nat) : Int))]) := f_L
    have f_x := (hne2 x (by omega)).trans f_x
    have hfr : ∀ j, j ≠ b → w1 j = w j := fun j a0 => (hne2 j (by omega)).trans (hfr j a0)
    refine lv_aload_n hx hb dX6_till_26 rfl (lv_at hl 0 rfl) ?_
    refine n_get hx hb hts u_X6 hown hK hP (by omega) f_x rfl 0 (by decide) (nT_m wf_X6_10) rfl dX6_till_27 ?_
    refine n_get hx hb hts u_X4 hown hK hP (by omega) f_L rfl 5 (by decide) (nT_m wf_X6_134) rfl dX6_till_30 ?_
    refine n_iconst hx hb dX6_till_33 ?_
    refine n_isub hx hb dX6_till_34 ?_
    refine n_iretP hQ hx hb hr hlocks hP hS dX6_till_35 ?_
    exact ⟨hfr, by omega, f_L⟩
  · skip
    exact absurd hc8 (by omega)
set_option maxHeartbeats 4000000 in
set_option maxRecDepth 100000 in
theorem c_X6_put_no {l : Launch} {G : nG} {N : Nat} {ad : Nat → Nat} {w : Nat → va_E} {sz : Nat} (x b tn ra rb stp : Nat) (cn : Nat → Nat) (sa sc tk : Nat → Nat) (hs : Nat → Nat → Nat → Nat) (tz y z nz : Int) (hN : x + 218 < N) (hxb : b = x + 1) (hcn : ∀ k, k < 2 → cn k ≤ 8) (htn : tn ≤ 4) (hT : ∀ t, t < 4 → w (b + 14 + 9 * t) = .inr (5, [.ref (ad (b + 14 + 9 * t + 1)), .ref (ad (b + 14 + 9 * t + 2)), .ref (ad (b + 14 + 9 * t + 3)), .ref (ad (b + 14 + 9 * t + 4)), .int (iI ((sa t : Nat) : Int)), .long (jI ((sc t : Nat) : Int)), .long (jI ((tk t : Nat) : Int))])) (hhs : ∀ t, t < 4 → ∀ s1, s1 < 2 → w (b + 14 + 9 * t + 1 + s1) = aI G 8 (fun q => (hs t s1 q : Int))) (hhb : ∀ t s1 q, hs t s1 q ≤ 1000) (htz : -2147483648 ≤ tz ∧ tz < 2147483648) (hy : -2147483648 ≤ y ∧ y < 2147483648) (hz : -2147483648 ≤ z ∧ z < 2147483648) (hnz : -2147483648 ≤ nz ∧ nz < 2147483648) (hno : ¬ ((0 ≤ tz ∧ tz < (tn : Int)) ∧ (y = 0 ∨ y = 1) ∧ (0 ≤ z ∧ z < (cn y.toNat : Int)) ∧ 0 ≤ (hs tz.toNat y.toNat z.toNat : Int) + nz ∧ (hs tz.toNat y.toNat z.toNat : Int) + nz ≤ 1000)) (f_x : w x = .inr (6, [.ref (ad b), .ref (ad (x + 51)), .ref (ad (x + 52)), .ref (ad (x + 53)), .ref (ad (x + 67)), .ref (ad (x + 68))])) (f_L : w b = .inr (4, [.ref (ad (b + 1)), .ref (ad (b + 5)), .ref (ad (b + 9)), .ref (ad (b + 12)), .ref (ad (b + 13)), .int (iI ((tn : Nat) : Int)), .int (iI ((ra : Nat) : Int)), .int (iI ((rb : Nat) : Int)), .int (iI ((stp : Nat) : Int))])) (f_ts : w (b + 12) = aR G 3 4 (fun k => some (ad (b + 14 + 9 * k)))) (f_cn : ∀ k, k < 2 → w (b + 1 + 4 * k) = .inr (1, [.int (iI ((cn k : Nat) : Int)), .ref (ad (b + 1 + 4 * k + 1)), .ref (ad (b + 1 + 4 * k + 2)), .ref (ad (b + 1 + 4 * k + 3))])) : Met l yX6_put wsX6_put ({ frames := 3, cells := 0, slots := 0, locals := 66 }) (va_Pc [.ref (ad x), .int (iI tz), .int (iI y), .int (iI z), .int (iI nz)] (nB G N ad w sz)) (nRd (.int (iI (-1)))) 0 0 (fun _ => False) := by
  refine n_ent (cc := cX6_put) (maxL := 9) (ret := (some .int)) (by decide) rfl (Nat.le_of_ble_eq_true rfl) ?_
  intro p e s m below meth cd hx hb hr hml hlocks hts hown hnm hsz hP hK hI Q hQ ls hl
  have hown : s.vm.findClass RX6 = some m.cls := hown
  have hl : lv_has ls 9 [(0, .ref (ad x)), (1, .int (iI tz)), (2, .int (iI y)), (3, .int (iI z)), (4, .int (iI nz))] := hl
  refine lv_aload_n hx hb dX6_put_0 rfl (lv_at hl 0 rfl) ?_
  refine n_get hx hb hts u_X6 hown hK hP (by omega) f_x rfl 0 (by decide) (nT_m wf_X6_10) rfl dX6_put_1 ?_
  refine lv_iload_n hx hb dX6_put_4 rfl (lv_at hl 1 rfl) ?_
  by_cases ht9 : 0 ≤ tz ∧ tz < (tn : Int)
  · skip
    obtain ⟨t, rfl⟩ : ∃ t : Nat, tz = (t : Int) := ⟨(tz).toNat, by omega⟩
    have f_t := hT t (by omega)
    refine n_rdF (va_runV (As := [.int (iI ((t : Nat) : Int))]) (rest := []) ⟨hx, hb, hml, hown, hts⟩ (c_X4_tillAt_y _ _ _ _ _ t (by omega) (by omega) (by omega) f_L f_ts) (cwV 1 hts (nT_V wl_X6_137 wi_X4_tillAt ws_X4_tillAt wn_X4 wc_X4_tillAt) rfl rfl rfl (by decide +kernel) ⟨Nat.le_of_ble_eq_true rfl, Nat.le_of_ble_eq_true rfl⟩) (nB.preV hK hI hP (by omega) f_L rfl rfl) rfl rfl hl.1 rfl (lv_room (Nat.le_of_ble_eq_true rfl)) dX6_put_5 ⟨Nat.zero_le _, Nat.zero_le _⟩) ?_
    refine lv_astore (lv' := [(5, .ref (ad (b + 14 + 9 * t))), (0, .ref (ad x)), (1, .int (iI ((t : Nat) : Int))), (2, .int (iI y)), (3, .int (iI z)), (4, .int (iI nz))]) hx hb dX6_put_8 hl (by decide) rfl (fun ls hl => ?_)
    refine lv_aload hx hb dX6_put_10 (lv_at hl 0 rfl) ?_
    refine lv_ifnull hx hb dX6_put_12 ?_
    refine lv_aload_n hx hb dX6_put_15 rfl (lv_at hl 1 rfl) ?_
    refine n_get hx hb hts u_X6 hown hK hP (by omega) f_x rfl 0 (by decide) (nT_m wf_X6_10) rfl dX6_put_16 ?_
    refine lv_iload_n hx hb dX6_put_19 rfl (lv_at hl 3 rfl) ?_
    refine lv_iload_n hx hb dX6_put_20 rfl (lv_at hl 4 rfl) ?_
    refine n_rdF (va_runV (As := [.int (iI y), .int (iI z)]) (rest := []) ⟨hx, hb, hml, hown, hts⟩ (c_X4_isCoin _ _ _ _ _ cn y z (by omega) hcn (by omega) (by omega) f_L f_cn) (cwV 2 hts (nT_V wl_X6_141 wi_X4_isCoin ws_X4_isCoin wn_X4 wc_X4_isCoin) rfl rfl rfl (by decide +kernel) ⟨Nat.le_of_ble_eq_true rfl, Nat.le_of_ble_eq_true rfl⟩) (nB.preV hK hI hP (by omega) f_L rfl rfl) rfl rfl hl.1 rfl (lv_room (Nat.le_of_ble_eq_true rfl)) dX6_put_21 ⟨Nat.zero_le _, Nat.zero_le _⟩) ?_
    refine n_if_neB (tgt := 29) hx hb dX6_put_24 (by decide) (fun hc24 => ?_) (fun hc24 => ?_)
    · skip
      obtain ⟨sy, rfl⟩ : ∃ sy : Nat, y = (sy : Int) := ⟨y.toNat, by omega⟩
      obtain ⟨kk, rfl⟩ : ∃ kk : Nat, z = (kk : Int) := ⟨z.toNat, by omega⟩
      simp only [Int.toNat_natCast] at hno hc24
      have hc8 := hcn sy (by omega)
      have f_cs := hhs t (by omega) sy (by omega)
      refine lv_aload hx hb dX6_put_29 (lv_at hl 0 rfl) ?_
      refine lv_iload_n hx hb dX6_put_31 rfl (lv_at hl 3 rfl) ?_
      refine n_rdF (va_runV (As := [.int (iI ((sy : Nat) : Int))]) (rest := []) ⟨hx, hb, hml, hown, hts⟩ (c_X5_countsOf _ _ _ _ sy (by omega) (by omega) f_t) (cwV 1 hts (nT_V wl_X6_144 wi_X5_countsOf ws_X5_countsOf wn_X5 wc_X5_countsOf) rfl rfl rfl (by decide +kernel) ⟨Nat.le_of_ble_eq_true rfl, Nat.le_of_ble_eq_true rfl⟩) (nB.preV hK hI hP (by omega) f_t rfl rfl) rfl rfl hl.1 rfl (lv_room (Nat.le_of_ble_eq_true rfl)) dX6_put_32 ⟨Nat.zero_le _, Nat.zero_le _⟩) ?_
      refine lv_astore (lv' := [(6, .ref (ad ((b + 14 + 9 * t) + 1 + sy))), (5, .ref (ad (b + 14 + 9 * t))), (0, .ref (ad x)), (1, .int (iI ((t : Nat) : Int))), (2, .int (iI ((sy : Nat) : Int))), (3, .int (iI ((kk : Nat) : Int))), (4, .int (iI nz))]) hx hb dX6_put_35 hl (by decide) rfl (fun ls hl => ?_)
      refine lv_aload hx hb dX6_put_37 (lv_at hl 0 rfl) ?_
      refine lv_iload_n hx hb dX6_put_39 rfl (lv_at hl 5 rfl) ?_
      refine n_iald hx hb hK hP kk (by omega) f_cs (by omega) (by omega) (by decide) dX6_put_40 ?_
      have ho1 := hhb t sy kk
      refine n_i2l hx hb dX6_put_41 (by omega) ?_
      refine lv_iload hx hb dX6_put_42 (lv_at hl 6 rfl) ?_
      refine n_i2l hx hb dX6_put_44 (by omega) ?_
      refine n_ladd hx hb dX6_put_45 ?_
      refine lv_lstore (lv' := [(7, .long (jI ((hs t sy kk : Int) + nz))), (6, .ref (ad ((b + 14 + 9 * t) + 1 + sy))), (5, .ref (ad (b + 14 + 9 * t))), (0, .ref (ad x)), (1, .int (iI ((t : Nat) : Int))), (2, .int (iI ((sy : Nat) : Int))), (3, .int (iI ((kk : Nat) : Int))), (4, .int (iI nz))]) hx hb dX6_put_46 hl (by decide) rfl (fun ls hl => ?_)
      refine lv_lload hx hb dX6_put_48 (lv_at hl 0 rfl) ?_
      refine n_lconst (z := 0) hx hb dX6_put_50 (by decide) ?_
      have hcm := cmpI_rng ((hs t sy kk : Int) + nz) 0
      refine n_lcmp hx hb dX6_put_51 (by omega) (by omega) ?_
      refine n_if_lt (tgt := 64) hx hb dX6_put_52 (by decide) (by omega) (fun hc52 => ?_) (fun hc52 => ?_)
      · skip
        refine n_iconst hx hb dX6_put_64 ?_
        exact n_iretR hQ hx hb hr hlocks rfl dX6_put_65
      · skip
        refine lv_lload hx hb dX6_put_55 (lv_at hl 0 rfl) ?_
        refine lv_ldc2 (v := jI (1000)) hx hb hown (hts _ (nT_m wk_X6_150)) dX6_put_57 ?_
        have hcm2 := cmpI_rng ((hs t sy kk : Int) + nz) 1000
        refine n_lcmp hx hb dX6_put_60 (by omega) (by omega) ?_
        refine n_if_le (tgt := 66) hx hb dX6_put_61 (by decide) (by omega) (fun hc61 => ?_) (fun hc61 => ?_)
        · skip
          exact absurd ⟨ht9, hc24.1, hc24.2, by have := cmpI_lt (a := (hs t sy kk : Int) + nz) (b := 0); have := cmpI_gt (a := (hs t sy kk : Int) + nz) (b := 1000); omega⟩ hno
        · skip
          refine n_iconst hx hb dX6_put_64 ?_
          exact n_iretR hQ hx hb hr hlocks rfl dX6_put_65
    · skip
      refine n_iconst hx hb dX6_put_27 ?_
      exact n_iretR hQ hx hb hr hlocks rfl dX6_put_28
  · skip
    refine n_rdF (va_runV (As := [.int (iI tz)]) (rest := []) ⟨hx, hb, hml, hown, hts⟩ (c_X4_tillAt_n _ _ _ _ _ tz (by omega) (by omega) (by omega) (by omega) f_L) (cwV 1 hts (nT_V wl_X6_137 wi_X4_tillAt ws_X4_tillAt wn_X4 wc_X4_tillAt) rfl rfl rfl (by decide +kernel) ⟨Nat.le_of_ble_eq_true rfl, Nat.le_of_ble_eq_true rfl⟩) (nB.preV hK hI hP (by omega) f_L rfl rfl) rfl rfl hl.1 rfl (lv_room (Nat.le_of_ble_eq_true rfl)) dX6_put_5 ⟨Nat.zero_le _, Nat.zero_le _⟩) ?_
    refine lv_astoreN (lv' := [(5, .null), (0, .ref (ad x)), (1, .int (iI tz)), (2, .int (iI y)), (3, .int (iI z)), (4, .int (iI nz))]) hx hb dX6_put_8 hl (by decide) rfl (fun ls hl => ?_)
    refine lv_aloadN hx hb dX6_put_10 (lv_at hl 0 rfl) ?_
    refine lv_ifnullN (tgt := 27) hx hb dX6_put_12 (by decide) ?_
    refine n_iconst hx hb dX6_put_27 ?_
    exact n_iretR hQ hx hb hr hlocks rfl dX6_put_28
set_option maxHeartbeats 4000000 in
set_option maxRecDepth 100000 in
theorem c_X6_put_yes {l : Launch} {G : nG} {N : Nat} {ad : Nat → Nat} {w : Nat → va_E} {sz : Nat} (x b tn ra rb stp : Nat) (cn : Nat → Nat) (sa sc tk : Nat) (hs : Nat → Nat → Nat) (t sy kk : Nat) (nz : Int) (nv : Nat) (hN : x + 218 < N) (hxb : b = x + 1) (hcn : ∀ k, k < 2 → cn k ≤ 8) (htn : tn ≤ 4) (hhb : ∀ s1 q, hs s1 q ≤ 1000) (ht : t < tn) (hs_ : sy < 2) (hk : kk < cn sy) (hnz : -2147483648 ≤ nz ∧ nz < 2147483648) (hnv : (nv : Int) = (hs sy kk : Int) + nz) (hnv2 : nv ≤ 1000) (f_x : w x = .inr (6, [.ref (ad b), .ref (ad (x + 51)), .ref (ad (x + 52)), .ref (ad (x + 53)), .ref (ad (x + 67)), .ref (ad (x + 68))])) (f_L : w b = .inr (4, [.ref (ad (b + 1)), .ref (ad (b + 5)), .ref (ad (b + 9)), .ref (ad (b + 12)), .ref (ad (b + 13)), .int (iI ((tn : Nat) : Int)), .int (iI ((ra : Nat) : Int)), .int (iI ((rb : Nat) : Int)), .int (iI ((stp : Nat) : Int))])) (f_ts : w (b + 12) = aR G 3 4 (fun k => some (ad (b + 14 + 9 * k)))) (f_cn : ∀ k, k < 2 → w (b + 1 + 4 * k) = .inr (1, [.int (iI ((cn k : Nat) : Int)), .ref (ad (b + 1 + 4 * k + 1)), .ref (ad (b + 1 + 4 * k + 2)), .ref (ad (b + 1 + 4 * k + 3))])) (f_t : w (b + 14 + 9 * t) = .inr (5, [.ref (ad ((b + 14 + 9 * t) + 1)), .ref (ad ((b + 14 + 9 * t) + 2)), .ref (ad ((b + 14 + 9 * t) + 3)), .ref (ad ((b + 14 + 9 * t) + 4)), .int (iI ((sa : Nat) : Int)), .long (jI ((sc : Nat) : Int)), .long (jI ((tk : Nat) : Int))])) (f_hs : ∀ s1, s1 < 2 → w ((b + 14 + 9 * t) + 1 + s1) = aI G 8 (fun q => (hs s1 q : Int))) : Met l yX6_put wsX6_put ({ frames := 3, cells := 0, slots := 0, locals := 66 }) (va_Pc [.ref (ad x), .int (iI ((t : Nat) : Int)), .int (iI ((sy : Nat) : Int)), .int (iI ((kk : Nat) : Int)), .int (iI nz)] (nB G N ad w sz)) (nPi G N ad sz (fun r u => (∀ j, j ≠ ((b + 14 + 9 * t) + 1 + sy) → u j = w j) ∧ (r = nv) ∧ (u ((b + 14 + 9 * t) + 1 + sy) = aI G 8 (fun q => ((va_up (hs sy) kk nv q : Nat) : Int))))) 0 0 (nA N ad sz) := by
  refine n_ent (cc := cX6_put) (maxL := 9) (ret := (some .int)) (by decide) rfl (Nat.le_of_ble_eq_true rfl) ?_
  intro p e s m below meth cd hx hb hr hml hlocks hts hown hnm hsz hP hK hI Q hQ ls hl
  have hown : s.vm.findClass RX6 = some m.cls := hown
  subst hsz
  have hJ := hI.J s.heap.size
  have hS : va_S (nA N ad s.heap.size) s.heap s.heap [] := va_S.rf
  have hfr : ∀ j, j ≠ ((b + 14 + 9 * t) + 1 + sy) → w j = w j := fun _ _ => rfl
  have hl : lv_has ls 9 [(0, .ref (ad x)), (1, .int (iI ((t : Nat) : Int))), (2, .int (iI ((sy : Nat) : Int))), (3, .int (iI ((kk : Nat) : Int))), (4, .int (iI nz))] := hl
  have hc8 := hcn sy (by omega)
  refine lv_aload_n hx hb dX6_put_0 rfl (lv_at hl 0 rfl) ?_
  refine n_get hx hb hts u_X6 hown hK hP (by omega) f_x rfl 0 (by decide) (nT_m wf_X6_10) rfl dX6_put_1 ?_
  refine lv_iload_n hx hb dX6_put_4 rfl (lv_at hl 1 rfl) ?_
  refine n_rdF (va_runV (As := [.int (iI ((t : Nat) : Int))]) (rest := []) ⟨hx, hb, hml, hown, hts⟩ (c_X4_tillAt_y _ _ _ _ _ t (by omega) (by omega) (by omega) f_L f_ts) (cwV 1 hts (nT_V wl_X6_137 wi_X4_tillAt ws_X4_tillAt wn_X4 wc_X4_tillAt) rfl rfl rfl (by decide +kernel) ⟨Nat.le_of_ble_eq_true rfl, Nat.le_of_ble_eq_true rfl⟩) (nB.preV hK hI hP (by omega) f_L rfl rfl) rfl rfl hl.1 rfl (lv_room (Nat.le_of_ble_eq_true rfl)) dX6_put_5 ⟨Nat.zero_le _, Nat.zero_le _⟩) ?_
  refine lv_astore (lv' := [(5, .ref (ad (b + 14 + 9 * t))), (0, .ref (ad x)), (1, .int (iI ((t : Nat) : Int))), (2, .int (iI ((sy : Nat) : Int))), (3, .int (iI ((kk : Nat) : Int))), (4, .int (iI nz))]) hx hb dX6_put_8 hl (by decide) rfl (fun ls hl => ?_)
  refine lv_aload hx hb dX6_put_10 (lv_at hl 0 rfl) ?_
  refine lv_ifnull hx hb dX6_put_12 ?_
  refine lv_aload_n hx hb dX6_put_15 rfl (lv_at hl 1 rfl) ?_
  refine n_get hx hb hts u_X6 hown hK hP (by omega) f_x rfl 0 (by decide) (nT_m wf_X6_10) rfl dX6_put_16 ?_
  refine lv_iload_n hx hb dX6_put_19 rfl (lv_at hl 3 rfl) ?_
  refine lv_iload_n hx hb dX6_put_20 rfl (lv_at hl 4 rfl) ?_
  refine n_rdF (va_runV (As := [.int (iI ((sy : Nat) : Int)), .int (iI ((kk : Nat) : Int))]) (rest := []) ⟨hx, hb, hml, hown, hts⟩ (c_X4_isCoin _ _ _ _ _ cn ((sy : Nat) : Int) ((kk : Nat) : Int) (by omega) hcn (by omega) (by omega) f_L f_cn) (cwV 2 hts (nT_V wl_X6_141 wi_X4_isCoin ws_X4_isCoin wn_X4 wc_X4_isCoin) rfl rfl rfl (by decide +kernel) ⟨Nat.le_of_ble_eq_true rfl, Nat.le_of_ble_eq_true rfl⟩) (nB.preV hK hI hP (by omega) f_L rfl rfl) rfl rfl hl.1 rfl (lv_room (Nat.le_of_ble_eq_true rfl)) dX6_put_21 ⟨Nat.zero_le _, Nat.zero_le _⟩) ?_
  refine n_if_neB (tgt := 29) hx hb dX6_put_24 (by decide) (fun hc24 => ?_) (fun hc24 => ?_)
  · skip
    refine lv_aload hx hb dX6_put_29 (lv_at hl 0 rfl) ?_
    refine lv_iload_n hx hb dX6_put_31 rfl (lv_at hl 3 rfl) ?_
    refine n_rdF (va_runV (As := [.int (iI ((sy : Nat) : Int))]) (rest := []) ⟨hx, hb, hml, hown, hts⟩ (c_X5_countsOf _ _ _ _ sy (by omega) (by omega) f_t) (cwV 1 hts (nT_V wl_X6_144 wi_X5_countsOf ws_X5_countsOf wn_X5 wc_X5_countsOf) rfl rfl rfl (by decide +kernel) ⟨Nat.le_of_ble_eq_true rfl, Nat.le_of_ble_eq_true rfl⟩) (nB.preV hK hI hP (by omega) f_t rfl rfl) rfl rfl hl.1 rfl (lv_room (Nat.le_of_ble_eq_true rfl)) dX6_put_32 ⟨Nat.zero_le _, Nat.zero_le _⟩) ?_
    refine lv_astore (lv' := [(6, .ref (ad ((b + 14 + 9 * t) + 1 + sy))), (5, .ref (ad (b + 14 + 9 * t))), (0, .ref (ad x)), (1, .int (iI ((t : Nat) : Int))), (2, .int (iI ((sy : Nat) : Int))), (3, .int (iI ((kk : Nat) : Int))), (4, .int (iI nz))]) hx hb dX6_put_35 hl (by decide) rfl (fun ls hl => ?_)
    have f_cs := f_hs sy (by omega)
    refine lv_aload hx hb dX6_put_37 (lv_at hl 0 rfl) ?_
    refine lv_iload_n hx hb dX6_put_39 rfl (lv_at hl 5 rfl) ?_
    refine n_iald hx hb hK hP kk (by omega) f_cs (by omega) (by omega) (by decide) dX6_put_40 ?_
    have ho1 := hhb sy kk
    refine n_i2l hx hb dX6_put_41 (by omega) ?_
    refine lv_iload hx hb dX6_put_42 (lv_at hl 6 rfl) ?_
    refine n_i2l hx hb dX6_put_44 (by omega) ?_
    refine n_ladd hx hb dX6_put_45 ?_
    refine lv_lstore (lv' := [(7, .long (jI ((hs sy kk : Int) + nz))), (6, .ref (ad ((b + 14 + 9 * t) + 1 + sy))), (5, .ref (ad (b + 14 + 9 * t))), (0, .ref (ad x)), (1, .int (iI ((t : Nat) : Int))), (2, .int (iI ((sy : Nat) : Int))), (3, .int (iI ((kk : Nat) : Int))), (4, .int (iI nz))]) hx hb dX6_put_46 hl (by decide) rfl (fun ls hl => ?_)
    refine lv_lload hx hb dX6_put_48 (lv_at hl 0 rfl) ?_
    refine n_lconst (z := 0) hx hb dX6_put_50 (by decide) ?_
    have hcm := cmpI_rng ((hs sy kk : Int) + nz) 0
    refine n_lcmp hx hb dX6_put_51 (by omega) (by omega) ?_
    refine n_if_lt (tgt := 64) hx hb dX6_put_52 (by decide) (by omega) (fun hc52 => ?_) (fun hc52 => ?_)
    · skip
      exact absurd (cmpI_lt.mp hc52) (by omega)
    · skip
      refine lv_lload hx hb dX6_put_55 (lv_at hl 0 rfl) ?_
      refine lv_ldc2 (v := jI (1000)) hx hb hown (hts _ (nT_m wk_X6_150)) dX6_put_57 ?_
      have hcm2 := cmpI_rng ((hs sy kk : Int) + nz) 1000
      refine n_lcmp hx hb dX6_put_60 (by omega) (by omega) ?_
      refine n_if_le (tgt := 66) hx hb dX6_put_61 (by decide) (by omega) (fun hc61 => ?_) (fun hc61 => ?_)
      · skip
        refine lv_aload hx hb dX6_put_66 (lv_at hl 1 rfl) ?_
        refine lv_iload_n hx hb dX6_put_68 rfl (lv_at hl 6 rfl) ?_
        refine lv_lload hx hb dX6_put_69 (lv_at hl 0 rfl) ?_
        refine n_l2i hx hb dX6_put_71 ?_
        refine n_iast hx hb hK hJ hP hS kk (by omega) f_cs (by omega) (by omega) (by decide) dX6_put_72 (fun w2 H locs f_cs hne3 hP hS => ?_)
        have f_x := (hne3 x (by omega)).trans f_x
        have f_L := (hne3 b (by omega)).trans f_L
        have f_ts := (hne3 (b + 12) (by omega)).trans f_ts
        have f_cn : ∀ k, k < 2 → w2 (b + 1 + 4 * k) = .inr (1, [.int (iI ((cn k : Nat) : Int)), .ref (ad (b + 1 + 4 * k + 1)), .ref (ad (b + 1 + 4 * k + 2)), .ref (ad (b + 1 + 4 * k + 3))]) := fun k hk9 => (hne3 _ (by omega)).trans (f_cn _ hk9)
        have f_t := (hne3 (b + 14 + 9 * t) (by omega)).trans f_t
        have hfr : ∀ j, j ≠ ((b + 14 + 9 * t) + 1 + sy) → w2 j = w j := fun j a0 => (hne3 j (by omega)).trans (hfr j a0)
        refine lv_aload hx hb dX6_put_73 (lv_at hl 1 rfl) ?_
        refine lv_iload_n hx hb dX6_put_75 rfl (lv_at hl 6 rfl) ?_
        refine n_iald hx hb hK hP kk (by omega) f_cs (by omega) (by omega) (by decide) dX6_put_76 ?_
        have ho4 := hhb sy kk
        refine n_iretP hQ hx hb hr hlocks hP hS dX6_put_77 ?_
        exact ⟨hfr, by rw [va_up_self]; omega, f_cs.trans (congrArg (aI G 8) (upZ (hs sy) kk nv _ hnv.symm))⟩
      · skip
        exact absurd (cmpI_gt.mp hc61) (by omega)
  · skip
    exact absurd ⟨by omega, by omega, by rw [Int.toNat_natCast]; omega⟩ hc24
set_option maxHeartbeats 4000000 in
set_option maxRecDepth 100000 in
theorem c_X6_has_no {l : Launch} {G : nG} {N : Nat} {ad : Nat → Nat} {w : Nat → va_E} {sz : Nat} (x b tn ra rb stp : Nat) (cn : Nat → Nat) (sa sc tk : Nat → Nat) (hs : Nat → Nat → Nat → Nat) (tz y z : Int) (hN : x + 218 < N) (hxb : b = x + 1) (hcn : ∀ k, k < 2 → cn k ≤ 8) (htn : tn ≤ 4) (hT : ∀ t, t < 4 → w (b + 14 + 9 * t) = .inr (5, [.ref (ad (b + 14 + 9 * t + 1)), .ref (ad (b + 14 + 9 * t + 2)), .ref (ad (b + 14 + 9 * t + 3)), .ref (ad (b + 14 + 9 * t + 4)), .int (iI ((sa t : Nat) : Int)), .long (jI ((sc t : Nat) : Int)), .long (jI ((tk t : Nat) : Int))])) (hhs : ∀ t, t < 4 → ∀ s1, s1 < 2 → w (b + 14 + 9 * t + 1 + s1) = aI G 8 (fun q => (hs t s1 q : Int))) (hhb : ∀ t s1 q, hs t s1 q ≤ 1000) (htz : -2147483648 ≤ tz ∧ tz < 2147483648) (hy : -2147483648 ≤ y ∧ y < 2147483648) (hz : -2147483648 ≤ z ∧ z < 2147483648) (hno : ¬ ((0 ≤ tz ∧ tz < (tn : Int)) ∧ (y = 0 ∨ y = 1) ∧ (0 ≤ z ∧ z < (cn y.toNat : Int)))) (f_x : w x = .inr (6, [.ref (ad b), .ref (ad (x + 51)), .ref (ad (x + 52)), .ref (ad (x + 53)), .ref (ad (x + 67)), .ref (ad (x + 68))])) (f_L : w b = .inr (4, [.ref (ad (b + 1)), .ref (ad (b + 5)), .ref (ad (b + 9)), .ref (ad (b + 12)), .ref (ad (b + 13)), .int (iI ((tn : Nat) : Int)), .int (iI ((ra : Nat) : Int)), .int (iI ((rb : Nat) : Int)), .int (iI ((stp : Nat) : Int))])) (f_ts : w (b + 12) = aR G 3 4 (fun k => some (ad (b + 14 + 9 * k)))) (f_cn : ∀ k, k < 2 → w (b + 1 + 4 * k) = .inr (1, [.int (iI ((cn k : Nat) : Int)), .ref (ad (b + 1 + 4 * k + 1)), .ref (ad (b + 1 + 4 * k + 2)), .ref (ad (b + 1 + 4 * k + 3))])) : Met l yX6_has wsX6_has ({ frames := 3, cells := 0, slots := 0, locals := 66 }) (va_Pc [.ref (ad x), .int (iI tz), .int (iI y), .int (iI z)] (nB G N ad w sz)) (nRd (.int (iI (-1)))) 0 0 (fun _ => False) := by
  refine n_ent (cc := cX6_has) (maxL := 5) (ret := (some .int)) (by decide) rfl (Nat.le_of_ble_eq_true rfl) ?_
  intro p e s m below meth cd hx hb hr hml hlocks hts hown hnm hsz hP hK hI Q hQ ls hl
  have hown : s.vm.findClass RX6 = some m.cls := hown
  have hl : lv_has ls 5 [(0, .ref (ad x)), (1, .int (iI tz)), (2, .int (iI y)), (3, .int (iI z))] := hl
  refine lv_aload_n hx hb dX6_has_0 rfl (lv_at hl 0 rfl) ?_
  refine n_get hx hb hts u_X6 hown hK hP (by omega) f_x rfl 0 (by decide) (nT_m wf_X6_10) rfl dX6_has_1 ?_
  refine lv_iload_n hx hb dX6_has_4 rfl (lv_at hl 1 rfl) ?_
  by_cases ht9 : 0 ≤ tz ∧ tz < (tn : Int)
  · skip
    obtain ⟨t, rfl⟩ : ∃ t : Nat, tz = (t : Int) := ⟨(tz).toNat, by omega⟩
    have f_t := hT t (by omega)
    refine n_rdF (va_runV (As := [.int (iI ((t : Nat) : Int))]) (rest := []) ⟨hx, hb, hml, hown, hts⟩ (c_X4_tillAt_y _ _ _ _ _ t (by omega) (by omega) (by omega) f_L f_ts) (cwV 1 hts (nT_V wl_X6_137 wi_X4_tillAt ws_X4_tillAt wn_X4 wc_X4_tillAt) rfl rfl rfl (by decide +kernel) ⟨Nat.le_of_ble_eq_true rfl, Nat.le_of_ble_eq_true rfl⟩) (nB.preV hK hI hP (by omega) f_L rfl rfl) rfl rfl hl.1 rfl (lv_room (Nat.le_of_ble_eq_true rfl)) dX6_has_5 ⟨Nat.zero_le _, Nat.zero_le _⟩) ?_
    refine lv_astore (lv' := [(4, .ref (ad (b + 14 + 9 * t))), (0, .ref (ad x)), (1, .int (iI ((t : Nat) : Int))), (2, .int (iI y)), (3, .int (iI z))]) hx hb dX6_has_8 hl (by decide) rfl (fun ls hl => ?_)
    refine lv_aload hx hb dX6_has_10 (lv_at hl 0 rfl) ?_
    refine lv_ifnull hx hb dX6_has_12 ?_
    refine lv_aload_n hx hb dX6_has_15 rfl (lv_at hl 1 rfl) ?_
    refine n_get hx hb hts u_X6 hown hK hP (by omega) f_x rfl 0 (by decide) (nT_m wf_X6_10) rfl dX6_has_16 ?_
    refine lv_iload_n hx hb dX6_has_19 rfl (lv_at hl 3 rfl) ?_
    refine lv_iload_n hx hb dX6_has_20 rfl (lv_at hl 4 rfl) ?_
    refine n_rdF (va_runV (As := [.int (iI y), .int (iI z)]) (rest := []) ⟨hx, hb, hml, hown, hts⟩ (c_X4_isCoin _ _ _ _ _ cn y z (by omega) hcn (by omega) (by omega) f_L f_cn) (cwV 2 hts (nT_V wl_X6_141 wi_X4_isCoin ws_X4_isCoin wn_X4 wc_X4_isCoin) rfl rfl rfl (by decide +kernel) ⟨Nat.le_of_ble_eq_true rfl, Nat.le_of_ble_eq_true rfl⟩) (nB.preV hK hI hP (by omega) f_L rfl rfl) rfl rfl hl.1 rfl (lv_room (Nat.le_of_ble_eq_true rfl)) dX6_has_21 ⟨Nat.zero_le _, Nat.zero_le _⟩) ?_
    refine n_if_neB (tgt := 31) hx hb dX6_has_24 (by decide) (fun hc24 => ?_) (fun hc24 => ?_)
    · skip
      exact absurd ⟨ht9, hc24.1, hc24.2⟩ hno
    · skip
      refine n_iconst hx hb dX6_has_27 ?_
      refine lv_goto (tgt := 39) hx hb dX6_has_28 (by decide) ?_
      exact n_iretR hQ hx hb hr hlocks rfl dX6_has_39
  · skip
    refine n_rdF (va_runV (As := [.int (iI tz)]) (rest := []) ⟨hx, hb, hml, hown, hts⟩ (c_X4_tillAt_n _ _ _ _ _ tz (by omega) (by omega) (by omega) (by omega) f_L) (cwV 1 hts (nT_V wl_X6_137 wi_X4_tillAt ws_X4_tillAt wn_X4 wc_X4_tillAt) rfl rfl rfl (by decide +kernel) ⟨Nat.le_of_ble_eq_true rfl, Nat.le_of_ble_eq_true rfl⟩) (nB.preV hK hI hP (by omega) f_L rfl rfl) rfl rfl hl.1 rfl (lv_room (Nat.le_of_ble_eq_true rfl)) dX6_has_5 ⟨Nat.zero_le _, Nat.zero_le _⟩) ?_
    refine lv_astoreN (lv' := [(4, .null), (0, .ref (ad x)), (1, .int (iI tz)), (2, .int (iI y)), (3, .int (iI z))]) hx hb dX6_has_8 hl (by decide) rfl (fun ls hl => ?_)
    refine lv_aloadN hx hb dX6_has_10 (lv_at hl 0 rfl) ?_
    refine lv_ifnullN (tgt := 27) hx hb dX6_has_12 (by decide) ?_
    refine n_iconst hx hb dX6_has_27 ?_
    refine lv_goto (tgt := 39) hx hb dX6_has_28 (by decide) ?_
    exact n_iretR hQ hx hb hr hlocks rfl dX6_has_39
set_option maxHeartbeats 4000000 in
set_option maxRecDepth 100000 in
theorem c_X6_has_yes {l : Launch} {G : nG} {N : Nat} {ad : Nat → Nat} {w : Nat → va_E} {sz : Nat} (x b tn ra rb stp : Nat) (cn : Nat → Nat) (sa sc tk : Nat) (hs : Nat → Nat → Nat) (t sy kk : Nat) (hN : x + 218 < N) (hxb : b = x + 1) (hcn : ∀ k, k < 2 → cn k ≤ 8) (htn : tn ≤ 4) (hhb : ∀ s1 q, hs s1 q ≤ 1000) (ht : t < tn) (hs_ : sy < 2) (hk : kk < cn sy) (f_x : w x = .inr (6, [.ref (ad b), .ref (ad (x + 51)), .ref (ad (x + 52)), .ref (ad (x + 53)), .ref (ad (x + 67)), .ref (ad (x + 68))])) (f_L : w b = .inr (4, [.ref (ad (b + 1)), .ref (ad (b + 5)), .ref (ad (b + 9)), .ref (ad (b + 12)), .ref (ad (b + 13)), .int (iI ((tn : Nat) : Int)), .int (iI ((ra : Nat) : Int)), .int (iI ((rb : Nat) : Int)), .int (iI ((stp : Nat) : Int))])) (f_ts : w (b + 12) = aR G 3 4 (fun k => some (ad (b + 14 + 9 * k)))) (f_cn : ∀ k, k < 2 → w (b + 1 + 4 * k) = .inr (1, [.int (iI ((cn k : Nat) : Int)), .ref (ad (b + 1 + 4 * k + 1)), .ref (ad (b + 1 + 4 * k + 2)), .ref (ad (b + 1 + 4 * k + 3))])) (f_t : w (b + 14 + 9 * t) = .inr (5, [.ref (ad ((b + 14 + 9 * t) + 1)), .ref (ad ((b + 14 + 9 * t) + 2)), .ref (ad ((b + 14 + 9 * t) + 3)), .ref (ad ((b + 14 + 9 * t) + 4)), .int (iI ((sa : Nat) : Int)), .long (jI ((sc : Nat) : Int)), .long (jI ((tk : Nat) : Int))])) (f_hs : ∀ s1, s1 < 2 → w ((b + 14 + 9 * t) + 1 + s1) = aI G 8 (fun q => (hs s1 q : Int))) : Met l yX6_has wsX6_has ({ frames := 3, cells := 0, slots := 0, locals := 66 }) (va_Pc [.ref (ad x), .int (iI ((t : Nat) : Int)), .int (iI ((sy : Nat) : Int)), .int (iI ((kk : Nat) : Int))] (nB G N ad w sz)) (nRd (.int (iI ((hs sy kk : Nat) : Int)))) 0 0 (fun _ => False) := by
  refine n_ent (cc := cX6_has) (maxL := 5) (ret := (some .int)) (by decide) rfl (Nat.le_of_ble_eq_true rfl) ?_
  intro p e s m below meth cd hx hb hr hml hlocks hts hown hnm hsz hP hK hI Q hQ ls hl
  have hown : s.vm.findClass RX6 = some m.cls := hown
  have hl : lv_has ls 5 [(0, .ref (ad x)), (1, .int (iI ((t : Nat) : Int))), (2, .int (iI ((sy : Nat) : Int))), (3, .int (iI ((kk : Nat) : Int)))] := hl
  have hc8 := hcn sy (by omega)
  refine lv_aload_n hx hb dX6_has_0 rfl (lv_at hl 0 rfl) ?_
  refine n_get hx hb hts u_X6 hown hK hP (by omega) f_x rfl 0 (by decide) (nT_m wf_X6_10) rfl dX6_has_1 ?_
  refine lv_iload_n hx hb dX6_has_4 rfl (lv_at hl 1 rfl) ?_
  refine n_rdF (va_runV (As := [.int (iI ((t : Nat) : Int))]) (rest := []) ⟨hx, hb, hml, hown, hts⟩ (c_X4_tillAt_y _ _ _ _ _ t (by omega) (by omega) (by omega) f_L f_ts) (cwV 1 hts (nT_V wl_X6_137 wi_X4_tillAt ws_X4_tillAt wn_X4 wc_X4_tillAt) rfl rfl rfl (by decide +kernel) ⟨Nat.le_of_ble_eq_true rfl, Nat.le_of_ble_eq_true rfl⟩) (nB.preV hK hI hP (by omega) f_L rfl rfl) rfl rfl hl.1 rfl (lv_room (Nat.le_of_ble_eq_true rfl)) dX6_has_5 ⟨Nat.zero_le _, Nat.zero_le _⟩) ?_
  refine lv_astore (lv' := [(4, .ref (ad (b + 14 + 9 * t))), (0, .ref (ad x)), (1, .int (iI ((t : Nat) : Int))), (2, .int (iI ((sy : Nat) : Int))), (3, .int (iI ((kk : Nat) : Int)))]) hx hb dX6_has_8 hl (by decide) rfl (fun ls hl => ?_)
  refine lv_aload hx hb dX6_has_10 (lv_at hl 0 rfl) ?_
  refine lv_ifnull hx hb dX6_has_12 ?_
  refine lv_aload_n hx hb dX6_has_15 rfl (lv_at hl 1 rfl) ?_
  refine n_get hx hb hts u_X6 hown hK hP (by omega) f_x rfl 0 (by decide) (nT_m wf_X6_10) rfl dX6_has_16 ?_
  refine lv_iload_n hx hb dX6_has_19 rfl (lv_at hl 3 rfl) ?_
  refine lv_iload_n hx hb dX6_has_20 rfl (lv_at hl 4 rfl) ?_
  refine n_rdF (va_runV (As := [.int (iI ((sy : Nat) : Int)), .int (iI ((kk : Nat) : Int))]) (rest := []) ⟨hx, hb, hml, hown, hts⟩ (c_X4_isCoin _ _ _ _ _ cn ((sy : Nat) : Int) ((kk : Nat) : Int) (by omega) hcn (by omega) (by omega) f_L f_cn) (cwV 2 hts (nT_V wl_X6_141 wi_X4_isCoin ws_X4_isCoin wn_X4 wc_X4_isCoin) rfl rfl rfl (by decide +kernel) ⟨Nat.le_of_ble_eq_true rfl, Nat.le_of_ble_eq_true rfl⟩) (nB.preV hK hI hP (by omega) f_L rfl rfl) rfl rfl hl.1 rfl (lv_room (Nat.le_of_ble_eq_true rfl)) dX6_has_21 ⟨Nat.zero_le _, Nat.zero_le _⟩) ?_
  refine n_if_neB (tgt := 31) hx hb dX6_has_24 (by decide) (fun hc24 => ?_) (fun hc24 => ?_)
  · skip
    refine lv_aload hx hb dX6_has_31 (lv_at hl 0 rfl) ?_
    refine lv_iload_n hx hb dX6_has_33 rfl (lv_at hl 3 rfl) ?_
    refine n_rdF (va_runV (As := [.int (iI ((sy : Nat) : Int))]) (rest := []) ⟨hx, hb, hml, hown, hts⟩ (c_X5_countsOf _ _ _ _ sy (by omega) (by omega) f_t) (cwV 1 hts (nT_V wl_X6_144 wi_X5_countsOf ws_X5_countsOf wn_X5 wc_X5_countsOf) rfl rfl rfl (by decide +kernel) ⟨Nat.le_of_ble_eq_true rfl, Nat.le_of_ble_eq_true rfl⟩) (nB.preV hK hI hP (by omega) f_t rfl rfl) rfl rfl hl.1 rfl (lv_room (Nat.le_of_ble_eq_true rfl)) dX6_has_34 ⟨Nat.zero_le _, Nat.zero_le _⟩) ?_
    have f_cs := f_hs sy (by omega)
    refine lv_iload_n hx hb dX6_has_37 rfl (lv_at hl 4 rfl) ?_
    refine n_iald hx hb hK hP kk (by omega) f_cs (by omega) (by omega) (by decide) dX6_has_38 ?_
    have ho1 := hhb sy kk
    exact n_iretR hQ hx hb hr hlocks rfl dX6_has_39
  · skip
    exact absurd ⟨by omega, by omega, by rw [Int.toNat_natCast]; omega⟩ hc24
set_option maxHeartbeats 4000000 in
set_option maxRecDepth 100000 in
theorem c_X6_given_no {l : Launch} {G : nG} {N : Nat} {ad : Nat → Nat} {w : Nat → va_E} {sz : Nat} (x b tn ra rb stp : Nat) (cn sa sc tk : Nat → Nat) (tz z : Int) (hN : x + 218 < N) (hxb : b = x + 1) (hcn : ∀ k, k < 2 → cn k ≤ 8) (htn : tn ≤ 4) (hT : ∀ t, t < 4 → w (b + 14 + 9 * t) = .inr (5, [.ref (ad (b + 14 + 9 * t + 1)), .ref (ad (b + 14 + 9 * t + 2)), .ref (ad (b + 14 + 9 * t + 3)), .ref (ad (b + 14 + 9 * t + 4)), .int (iI ((sa t : Nat) : Int)), .long (jI ((sc t : Nat) : Int)), .long (jI ((tk t : Nat) : Int))])) (hsa : ∀ k, sa k < 2147483648) (htz : -2147483648 ≤ tz ∧ tz < 2147483648) (hz : -2147483648 ≤ z ∧ z < 2147483648) (hno : ¬ ((0 ≤ tz ∧ tz < (tn : Int)) ∧ ¬ sa tz.toNat = 0 ∧ (0 ≤ z ∧ z < (cn 1 : Int)))) (f_x : w x = .inr (6, [.ref (ad b), .ref (ad (x + 51)), .ref (ad (x + 52)), .ref (ad (x + 53)), .ref (ad (x + 67)), .ref (ad (x + 68))])) (f_L : w b = .inr (4, [.ref (ad (b + 1)), .ref (ad (b + 5)), .ref (ad (b + 9)), .ref (ad (b + 12)), .ref (ad (b + 13)), .int (iI ((tn : Nat) : Int)), .int (iI ((ra : Nat) : Int)), .int (iI ((rb : Nat) : Int)), .int (iI ((stp : Nat) : Int))])) (f_ts : w (b + 12) = aR G 3 4 (fun k => some (ad (b + 14 + 9 * k)))) (f_cn : ∀ k, k < 2 → w (b + 1 + 4 * k) = .inr (1, [.int (iI ((cn k : Nat) : Int)), .ref (ad (b + 1 + 4 * k + 1)), .ref (ad (b + 1 + 4 * k + 2)), .ref (ad (b + 1 + 4 * k + 3))])) : Met l yX6_given wsX6_given ({ frames := 3, cells := 0, slots := 0, locals := 66 }) (va_Pc [.ref (ad x), .int (iI tz), .int (iI z)] (nB G N ad w sz)) (nRd (.int (iI (-1)))) 0 0 (fun _ => False) := by
  refine n_ent (cc := cX6_given) (maxL := 4) (ret := (some .int)) (by decide) rfl (Nat.le_of_ble_eq_true rfl) ?_
  intro p e s m below meth cd hx hb hr hml hlocks hts hown hnm hsz hP hK hI Q hQ ls hl
  have hown : s.vm.findClass RX6 = some m.cls := hown
  have hl : lv_has ls 4 [(0, .ref (ad x)), (1, .int (iI tz)), (2, .int (iI z))] := hl
  refine lv_aload_n hx hb dX6_given_0 rfl (lv_at hl 0 rfl) ?_
  refine n_get hx hb hts u_X6 hown hK hP (by omega) f_x rfl 0 (by decide) (nT_m wf_X6_10) rfl dX6_given_1 ?_
  refine lv_iload_n hx hb dX6_given_4 rfl (lv_at hl 1 rfl) ?_
  by_cases ht9 : 0 ≤ tz ∧ tz < (tn : Int)
  · skip
    obtain ⟨t, rfl⟩ : ∃ t : Nat, tz = (t : Int) := ⟨(tz).toNat, by omega⟩
    have hsat := hsa t
    rw [Int.toNat_natCast] at hno
    have f_t := hT t (by omega)
    refine n_rdF (va_runV (As := [.int (iI ((t : Nat) : Int))]) (rest := []) ⟨hx, hb, hml, hown, hts⟩ (c_X4_tillAt_y _ _ _ _ _ t (by omega) (by omega) (by omega) f_L f_ts) (cwV 1 hts (nT_V wl_X6_137 wi_X4_tillAt ws_X4_tillAt wn_X4 wc_X4_tillAt) rfl rfl rfl (by decide +kernel) ⟨Nat.le_of_ble_eq_true rfl, Nat.le_of_ble_eq_true rfl⟩) (nB.preV hK hI hP (by omega) f_L rfl rfl) rfl rfl hl.1 rfl (lv_room (Nat.le_of_ble_eq_true rfl)) dX6_given_5 ⟨Nat.zero_le _, Nat.zero_le _⟩) ?_
    refine lv_astore_n (lv' := [(3, .ref (ad (b + 14 + 9 * t))), (0, .ref (ad x)), (1, .int (iI ((t : Nat) : Int))), (2, .int (iI z))]) hx hb dX6_given_8 rfl hl (by decide) rfl (fun ls hl => ?_)
    refine lv_aload_n hx hb dX6_given_9 rfl (lv_at hl 0 rfl) ?_
    refine lv_ifnull hx hb dX6_given_10 ?_
    refine lv_aload_n hx hb dX6_given_13 rfl (lv_at hl 0 rfl) ?_
    refine n_get hx hb hts u_X5 hown hK hP (by omega) f_t rfl 4 (by decide) (nT_m wf_X6_180) rfl dX6_given_14 ?_
    refine n_if_eq (tgt := 32) hx hb dX6_given_17 (by decide) (by omega) (fun hc17 => ?_) (fun hc17 => ?_)
    · skip
      refine n_iconst hx hb dX6_given_32 ?_
      refine lv_goto (tgt := 42) hx hb dX6_given_33 (by decide) ?_
      exact n_iretR hQ hx hb hr hlocks rfl dX6_given_42
    · skip
      refine lv_aload_n hx hb dX6_given_20 rfl (lv_at hl 1 rfl) ?_
      refine n_get hx hb hts u_X6 hown hK hP (by omega) f_x rfl 0 (by decide) (nT_m wf_X6_10) rfl dX6_given_21 ?_
      refine n_iconst hx hb dX6_given_24 ?_
      refine lv_iload_n hx hb dX6_given_25 rfl (lv_at hl 3 rfl) ?_
      refine n_rdF (va_runV (As := [.int (iI 1), .int (iI z)]) (rest := []) ⟨hx, hb, hml, hown, hts⟩ (c_X4_isCoin _ _ _ _ _ cn 1 z (by omega) hcn (by omega) (by omega) f_L f_cn) (cwV 2 hts (nT_V wl_X6_141 wi_X4_isCoin ws_X4_isCoin wn_X4 wc_X4_isCoin) rfl rfl rfl (by decide +kernel) ⟨Nat.le_of_ble_eq_true rfl, Nat.le_of_ble_eq_true rfl⟩) (nB.preV hK hI hP (by omega) f_L rfl rfl) rfl rfl hl.1 rfl (lv_room (Nat.le_of_ble_eq_true rfl)) dX6_given_26 ⟨Nat.zero_le _, Nat.zero_le _⟩) ?_
      refine n_if_neB (tgt := 36) hx hb dX6_given_29 (by decide) (fun hc29 => ?_) (fun hc29 => ?_)
      · skip
        exact absurd ⟨ht9, by omega, hc29.2⟩ hno
      · skip
        refine n_iconst hx hb dX6_given_32 ?_
        refine lv_goto (tgt := 42) hx hb dX6_given_33 (by decide) ?_
        exact n_iretR hQ hx hb hr hlocks rfl dX6_given_42
  · skip
    refine n_rdF (va_runV (As := [.int (iI tz)]) (rest := []) ⟨hx, hb, hml, hown, hts⟩ (c_X4_tillAt_n _ _ _ _ _ tz (by omega) (by omega) (by omega) (by omega) f_L) (cwV 1 hts (nT_V wl_X6_137 wi_X4_tillAt ws_X4_tillAt wn_X4 wc_X4_tillAt) rfl rfl rfl (by decide +kernel) ⟨Nat.le_of_ble_eq_true rfl, Nat.le_of_ble_eq_true rfl⟩) (nB.preV hK hI hP (by omega) f_L rfl rfl) rfl rfl hl.1 rfl (lv_room (Nat.le_of_ble_eq_true rfl)) dX6_given_5 ⟨Nat.zero_le _, Nat.zero_le _⟩) ?_
    refine lv_astore_nN (lv' := [(3, .null), (0, .ref (ad x)), (1, .int (iI tz)), (2, .int (iI z))]) hx hb dX6_given_8 rfl hl (by decide) rfl (fun ls hl => ?_)
    refine lv_aload_nN hx hb dX6_given_9 rfl (lv_at hl 0 rfl) ?_
    refine lv_ifnullN (tgt := 32) hx hb dX6_given_10 (by decide) ?_
    refine n_iconst hx hb dX6_given_32 ?_
    refine lv_goto (tgt := 42) hx hb dX6_given_33 (by decide) ?_
    exact n_iretR hQ hx hb hr hlocks rfl dX6_given_42
set_option maxHeartbeats 4000000 in
set_option maxRecDepth 100000 in
theorem c_X6_given_yes {l : Launch} {G : nG} {N : Nat} {ad : Nat → Nat} {w : Nat → va_E} {sz : Nat} (x b tn ra rb stp : Nat) (cn : Nat → Nat) (sa sc tk t kk : Nat) (la : Nat → Nat) (hN : x + 218 < N) (hxb : b = x + 1) (hcn : ∀ k, k < 2 → cn k ≤ 8) (htn : tn ≤ 4) (ht : t < tn) (hsa : ¬ sa = 0 ∧ sa < 2147483648) (hk : kk < cn 1) (f_x : w x = .inr (6, [.ref (ad b), .ref (ad (x + 51)), .ref (ad (x + 52)), .ref (ad (x + 53)), .ref (ad (x + 67)), .ref (ad (x + 68))])) (f_L : w b = .inr (4, [.ref (ad (b + 1)), .ref (ad (b + 5)), .ref (ad (b + 9)), .ref (ad (b + 12)), .ref (ad (b + 13)), .int (iI ((tn : Nat) : Int)), .int (iI ((ra : Nat) : Int)), .int (iI ((rb : Nat) : Int)), .int (iI ((stp : Nat) : Int))])) (f_ts : w (b + 12) = aR G 3 4 (fun k => some (ad (b + 14 + 9 * k)))) (f_cn : ∀ k, k < 2 → w (b + 1 + 4 * k) = .inr (1, [.int (iI ((cn k : Nat) : Int)), .ref (ad (b + 1 + 4 * k + 1)), .ref (ad (b + 1 + 4 * k + 2)), .ref (ad (b + 1 + 4 * k + 3))])) (f_t : w (b + 14 + 9 * t) = .inr (5, [.ref (ad ((b + 14 + 9 * t) + 1)), .ref (ad ((b + 14 + 9 * t) + 2)), .ref (ad ((b + 14 + 9 * t) + 3)), .ref (ad ((b + 14 + 9 * t) + 4)), .int (iI ((sa : Nat) : Int)), .long (jI ((sc : Nat) : Int)), .long (jI ((tk : Nat) : Int))])) (f_la : w ((b + 14 + 9 * t) + 3) = aI G 8 (fun q => (la q : Int))) : Met l yX6_given wsX6_given ({ frames := 3, cells := 0, slots := 0, locals := 66 }) (va_Pc [.ref (ad x), .int (iI ((t : Nat) : Int)), .int (iI ((kk : Nat) : Int))] (nB G N ad w sz)) (nRd (.int (iI ((la kk : Nat) : Int)))) 0 0 (fun _ => False) := by
  refine n_ent (cc := cX6_given) (maxL := 4) (ret := (some .int)) (by decide) rfl (Nat.le_of_ble_eq_true rfl) ?_
  intro p e s m below meth cd hx hb hr hml hlocks hts hown hnm hsz hP hK hI Q hQ ls hl
  have hown : s.vm.findClass RX6 = some m.cls := hown
  have hl : lv_has ls 4 [(0, .ref (ad x)), (1, .int (iI ((t : Nat) : Int))), (2, .int (iI ((kk : Nat) : Int)))] := hl
  have hc8 := hcn 1 (by omega)
  refine lv_aload_n hx hb dX6_given_0 rfl (lv_at hl 0 rfl) ?_
  refine n_get hx hb hts u_X6 hown hK hP (by omega) f_x rfl 0 (by decide) (nT_m wf_X6_10) rfl dX6_given_1 ?_
  refine lv_iload_n hx hb dX6_given_4 rfl (lv_at hl 1 rfl) ?_
  refine n_rdF (va_runV (As := [.int (iI ((t : Nat) : Int))]) (rest := []) ⟨hx, hb, hml, hown, hts⟩ (c_X4_tillAt_y _ _ _ _ _ t (by omega) (by omega) (by omega) f_L f_ts) (cwV 1 hts (nT_V wl_X6_137 wi_X4_tillAt ws_X4_tillAt wn_X4 wc_X4_tillAt) rfl rfl rfl (by decide +kernel) ⟨Nat.le_of_ble_eq_true rfl, Nat.le_of_ble_eq_true rfl⟩) (nB.preV hK hI hP (by omega) f_L rfl rfl) rfl rfl hl.1 rfl (lv_room (Nat.le_of_ble_eq_true rfl)) dX6_given_5 ⟨Nat.zero_le _, Nat.zero_le _⟩) ?_
  refine lv_astore_n (lv' := [(3, .ref (ad (b + 14 + 9 * t))), (0, .ref (ad x)), (1, .int (iI ((t : Nat) : Int))), (2, .int (iI ((kk : Nat) : Int)))]) hx hb dX6_given_8 rfl hl (by decide) rfl (fun ls hl => ?_)
  refine lv_aload_n hx hb dX6_given_9 rfl (lv_at hl 0 rfl) ?_
  refine lv_ifnull hx hb dX6_given_10 ?_
  refine lv_aload_n hx hb dX6_given_13 rfl (lv_at hl 0 rfl) ?_
  refine n_get hx hb hts u_X5 hown hK hP (by omega) f_t rfl 4 (by decide) (nT_m wf_X6_180) rfl dX6_given_14 ?_
  refine n_if_eq (tgt := 32) hx hb dX6_given_17 (by decide) (by omega) (fun hc17 => ?_) (fun hc17 => ?_)
  · skip
    exact absurd hc17 (by omega)
  · skip
    have hk2 : ((kk : Nat) : Int) < (cn (1 : Int).toNat : Int) := by show ((kk : Nat) : Int) < (cn 1 : Int); omega
    refine lv_aload_n hx hb dX6_given_20 rfl (lv_at hl 1 rfl) ?_
    refine n_get hx hb hts u_X6 hown hK hP (by omega) f_x rfl 0 (by decide) (nT_m wf_X6_10) rfl dX6_given_21 ?_
    refine n_iconst hx hb dX6_given_24 ?_
    refine lv_iload_n hx hb dX6_given_25 rfl (lv_at hl 3 rfl) ?_
    refine n_rdF (va_runV (As := [.int (iI 1), .int (iI ((kk : Nat) : Int))]) (rest := []) ⟨hx, hb, hml, hown, hts⟩ (c_X4_isCoin _ _ _ _ _ cn 1 ((kk : Nat) : Int) (by omega) hcn (by omega) (by omega) f_L f_cn) (cwV 2 hts (nT_V wl_X6_141 wi_X4_isCoin ws_X4_isCoin wn_X4 wc_X4_isCoin) rfl rfl rfl (by decide +kernel) ⟨Nat.le_of_ble_eq_true rfl, Nat.le_of_ble_eq_true rfl⟩) (nB.preV hK hI hP (by omega) f_L rfl rfl) rfl rfl hl.1 rfl (lv_room (Nat.le_of_ble_eq_true rfl)) dX6_given_26 ⟨Nat.zero_le _, Nat.zero_le _⟩) ?_
    refine n_if_neB (tgt := 36) hx hb dX6_given_29 (by decide) (fun hc29 => ?_) (fun hc29 => ?_)
    · skip
      refine lv_aload_n hx hb dX6_given_36 rfl (lv_at hl 0 rfl) ?_
      refine n_get hx hb hts u_X5 hown hK hP (by omega) f_t rfl 2 (by decide) (nT_m wf_X6_183) rfl dX6_given_37 ?_
      refine lv_iload_n hx hb dX6_given_40 rfl (lv_at hl 3 rfl) ?_
      refine n_iald hx hb hK hP kk (by omega) f_la (by omega) (by omega) (by decide) dX6_given_41 ?_
      exact n_iretR hQ hx hb hr hlocks rfl dX6_given_42
    · skip
      exact absurd ⟨by omega, by omega, hk2⟩ hc29
set_option maxHeartbeats 4000000 in
set_option maxRecDepth 100000 in
theorem c_X6_tell_no {l : Launch} {G : nG} {N : Nat} {ad : Nat → Nat} {w : Nat → va_E} {sz : Nat} (x b tn ra rb stp : Nat) (tz z : Int) (hN : x + 218 < N) (hxb : b = x + 1) (htn : tn ≤ 4) (htz : -2147483648 ≤ tz ∧ tz < 2147483648) (hno : ¬ (0 ≤ tz ∧ tz < tn)) (f_x : w x = .inr (6, [.ref (ad b), .ref (ad (x + 51)), .ref (ad (x + 52)), .ref (ad (x + 53)), .ref (ad (x + 67)), .ref (ad (x + 68))])) (f_L : w b = .inr (4, [.ref (ad (b + 1)), .ref (ad (b + 5)), .ref (ad (b + 9)), .ref (ad (b + 12)), .ref (ad (b + 13)), .int (iI ((tn : Nat) : Int)), .int (iI ((ra : Nat) : Int)), .int (iI ((rb : Nat) : Int)), .int (iI ((stp : Nat) : Int))])) : Met l yX6_tell wsX6_tell ({ frames := 2, cells := 0, slots := 0, locals := 47 }) (va_Pc [.ref (ad x), .int (iI tz), .int (iI z)] (nB G N ad w sz)) (nRd (.long (jI (-1)))) 0 0 (fun _ => False) := by
  refine n_ent (cc := cX6_tell) (maxL := 4) (ret := (some .long)) (by decide) rfl (Nat.le_of_ble_eq_true rfl) ?_
  intro p e s m below meth cd hx hb hr hml hlocks hts hown hnm hsz hP hK hI Q hQ ls hl
  have hown : s.vm.findClass RX6 = some m.cls := hown
  have hl : lv_has ls 4 [(0, .ref (ad x)), (1, .int (iI tz)), (2, .int (iI z))] := hl
  refine lv_aload_n hx hb dX6_tell_0 rfl (lv_at hl 0 rfl) ?_
  refine n_get hx hb hts u_X6 hown hK hP (by omega) f_x rfl 0 (by decide) (nT_m wf_X6_10) rfl dX6_tell_1 ?_
  refine lv_iload_n hx hb dX6_tell_4 rfl (lv_at hl 1 rfl) ?_
  refine n_rdF (va_runV (As := [.int (iI tz)]) (rest := []) ⟨hx, hb, hml, hown, hts⟩ (c_X4_tillAt_n _ _ _ _ _ tz (by omega) (by omega) (by omega) (by omega) f_L) (cwV 1 hts (nT_V wl_X6_137 wi_X4_tillAt ws_X4_tillAt wn_X4 wc_X4_tillAt) rfl rfl rfl (by decide +kernel) ⟨Nat.le_of_ble_eq_true rfl, Nat.le_of_ble_eq_true rfl⟩) (nB.preV hK hI hP (by omega) f_L rfl rfl) rfl rfl hl.1 rfl (lv_room (Nat.le_of_ble_eq_true rfl)) dX6_tell_5 ⟨Nat.zero_le _, Nat.zero_le _⟩) ?_
  refine lv_astore_nN (lv' := [(3, .null), (0, .ref (ad x)), (1, .int (iI tz)), (2, .int (iI z))]) hx hb dX6_tell_8 rfl hl (by decide) rfl (fun ls hl => ?_)
  refine lv_aload_nN hx hb dX6_tell_9 rfl (lv_at hl 0 rfl) ?_
  refine lv_ifnonnullN hx hb dX6_tell_10 ?_
  refine lv_ldc2 (v := jI (-1)) hx hb hown (hts _ (nT_m wk_X6_186)) dX6_tell_13 ?_
  exact n_lretR hQ hx hb hr hlocks rfl dX6_tell_16
set_option maxHeartbeats 4000000 in
set_option maxRecDepth 100000 in
theorem c_X6_tell_yes {l : Launch} {G : nG} {N : Nat} {ad : Nat → Nat} {w : Nat → va_E} {sz : Nat} (x b tn ra rb stp : Nat) (cn : Nat → Nat) (val : Nat → Nat → Nat) (sa sc tk en t : Nat) (hs : Nat → Nat → Nat) (z : Int) (hN : x + 218 < N) (hxb : b = x + 1) (htn : tn ≤ 4) (hra : 1 ≤ ra ∧ ra ≤ 100) (hrb : 1 ≤ rb ∧ rb ≤ 100) (hst : 1 ≤ stp ∧ stp ≤ 100) (hcn : ∀ k, k < 2 → cn k ≤ 8) (hval : ∀ k q, val k q ≤ 1000) (hhb : ∀ s1 q, hs s1 q ≤ 1000) (ht : t < tn) (hsa : sa < 2147483648) (hen : en ≤ 20) (hz : -2147483648 ≤ z ∧ z < 2147483648) (f_x : w x = .inr (6, [.ref (ad b), .ref (ad (x + 51)), .ref (ad (x + 52)), .ref (ad (x + 53)), .ref (ad (x + 67)), .ref (ad (x + 68))])) (f_L : w b = .inr (4, [.ref (ad (b + 1)), .ref (ad (b + 5)), .ref (ad (b + 9)), .ref (ad (b + 12)), .ref (ad (b + 13)), .int (iI ((tn : Nat) : Int)), .int (iI ((ra : Nat) : Int)), .int (iI ((rb : Nat) : Int)), .int (iI ((stp : Nat) : Int))])) (f_ts : w (b + 12) = aR G 3 4 (fun k => some (ad (b + 14 + 9 * k)))) (f_cn : ∀ k, k < 2 → w (b + 1 + 4 * k) = .inr (1, [.int (iI ((cn k : Nat) : Int)), .ref (ad (b + 1 + 4 * k + 1)), .ref (ad (b + 1 + 4 * k + 2)), .ref (ad (b + 1 + 4 * k + 3))])) (f_vl : ∀ k, k < 2 → w (b + 1 + 4 * k + 1) = aI G 8 (fun q => (val k q : Int))) (f_t : w (b + 14 + 9 * t) = .inr (5, [.ref (ad ((b + 14 + 9 * t) + 1)), .ref (ad ((b + 14 + 9 * t) + 2)), .ref (ad ((b + 14 + 9 * t) + 3)), .ref (ad ((b + 14 + 9 * t) + 4)), .int (iI ((sa : Nat) : Int)), .long (jI ((sc : Nat) : Int)), .long (jI ((tk : Nat) : Int))])) (f_hs : ∀ s1, s1 < 2 → w ((b + 14 + 9 * t) + 1 + s1) = aI G 8 (fun q => (hs s1 q : Int))) (f_e : w ((b + 14 + 9 * t) + 4) = .inr (2, [.int (iI ((en : Nat) : Int)), .ref (ad (((b + 14 + 9 * t) + 4) + 1)), .ref (ad (((b + 14 + 9 * t) + 4) + 2)), .ref (ad (((b + 14 + 9 * t) + 4) + 3)), .ref (ad (((b + 14 + 9 * t) + 4) + 4))])) : Met l yX6_tell wsX6_tell ({ frames := 2, cells := 0, slots := 0, locals := 47 }) (va_Pc [.ref (ad x), .int (iI ((t : Nat) : Int)), .int (iI z)] (nB G N ad w sz)) (nRd (.long (jI (tlV sa sc tk en ra rb (sumP (hs 0) (val 0) (cn 0)) (sumP (hs 1) (val 1) (cn 1)) z)))) 0 0 (fun _ => False) := by
  refine n_ent (cc := cX6_tell) (maxL := 4) (ret := (some .long)) (by decide) rfl (Nat.le_of_ble_eq_true rfl) ?_
  intro p e s m below meth cd hx hb hr hml hlocks hts hown hnm hsz hP hK hI Q hQ ls hl
  have hown : s.vm.findClass RX6 = some m.cls := hown
  have hl : lv_has ls 4 [(0, .ref (ad x)), (1, .int (iI ((t : Nat) : Int))), (2, .int (iI z))] := hl
  refine lv_aload_n hx hb dX6_tell_0 rfl (lv_at hl 0 rfl) ?_
  refine n_get hx hb hts u_X6 hown hK hP (by omega) f_x rfl 0 (by decide) (nT_m wf_X6_10) rfl dX6_tell_1 ?_
  refine lv_iload_n hx hb dX6_tell_4 rfl (lv_at hl 1 rfl) ?_
  refine n_rdF (va_runV (As := [.int (iI ((t : Nat) : Int))]) (rest := []) ⟨hx, hb, hml, hown, hts⟩ (c_X4_tillAt_y _ _ _ _ _ t (by omega) (by omega) (by omega) f_L f_ts) (cwV 1 hts (nT_V wl_X6_137 wi_X4_tillAt ws_X4_tillAt wn_X4 wc_X4_tillAt) rfl rfl rfl (by decide +kernel) ⟨Nat.le_of_ble_eq_true rfl, Nat.le_of_ble_eq_true rfl⟩) (nB.preV hK hI hP (by omega) f_L rfl rfl) rfl rfl hl.1 rfl (lv_room (Nat.le_of_ble_eq_true rfl)) dX6_tell_5 ⟨Nat.zero_le _, Nat.zero_le _⟩) ?_
  refine lv_astore_n (lv' := [(3, .ref (ad (b + 14 + 9 * t))), (0, .ref (ad x)), (1, .int (iI ((t : Nat) : Int))), (2, .int (iI z))]) hx hb dX6_tell_8 rfl hl (by decide) rfl (fun ls hl => ?_)
  refine lv_aload_n hx hb dX6_tell_9 rfl (lv_at hl 0 rfl) ?_
  refine lv_ifnonnull (tgt := 17) hx hb dX6_tell_10 (by decide) ?_
  refine lv_iload_n hx hb dX6_tell_17 rfl (lv_at hl 3 rfl) ?_
  by_cases hsw0 : z = 0
  · skip
    refine lv_tableIn (tgt := 56) (off := 38) hx hb dX6_tell_18 (by rw [iI_T (by omega)]; omega) (by rw [iI_T (by omega)]; omega) (by rw [iI_T (by omega), hsw0]; rfl) (by decide) ?_
    refine lv_aload_n hx hb dX6_tell_56 rfl (lv_at hl 0 rfl) ?_
    refine n_get hx hb hts u_X5 hown hK hP (by omega) f_t rfl 4 (by decide) (nT_m wf_X6_180) rfl dX6_tell_57 ?_
    refine n_i2l hx hb dX6_tell_60 (by omega) ?_
    exact n_lretR hQ hx hb hr hlocks (by unfold tlV; repeat (first | rw [if_pos (by omega)] | rw [if_neg (by omega)])) dX6_tell_61
  by_cases hsw1 : z = 1
  · skip
    refine lv_tableIn (tgt := 62) (off := 44) hx hb dX6_tell_18 (by rw [iI_T (by omega)]; omega) (by rw [iI_T (by omega)]; omega) (by rw [iI_T (by omega), hsw1]; rfl) (by decide) ?_
    refine lv_aload_n hx hb dX6_tell_62 rfl (lv_at hl 0 rfl) ?_
    refine n_get hx hb hts u_X5 hown hK hP (by omega) f_t rfl 5 (by decide) (nT_m wf_X6_188) rfl dX6_tell_63 ?_
    exact n_lretR hQ hx hb hr hlocks (by unfold tlV; repeat (first | rw [if_pos (by omega)] | rw [if_neg (by omega)])) dX6_tell_66
  by_cases hsw2 : z = 2
  · skip
    refine lv_tableIn (tgt := 67) (off := 49) hx hb dX6_tell_18 (by rw [iI_T (by omega)]; omega) (by rw [iI_T (by omega)]; omega) (by rw [iI_T (by omega), hsw2]; rfl) (by decide) ?_
    refine lv_aload_n hx hb dX6_tell_67 rfl (lv_at hl 1 rfl) ?_
    refine n_get hx hb hts u_X6 hown hK hP (by omega) f_x rfl 0 (by decide) (nT_m wf_X6_10) rfl dX6_tell_68 ?_
    refine n_iconst hx hb dX6_tell_71 ?_
    refine lv_aload_n hx hb dX6_tell_72 rfl (lv_at hl 0 rfl) ?_
    refine n_get hx hb hts u_X5 hown hK hP (by omega) f_t rfl 0 (by decide) (nT_m wf_X6_192) rfl dX6_tell_73 ?_
    refine n_rdF (va_runV (As := [.int (iI 0), .ref (ad ((b + 14 + 9 * t) + 1))]) (rest := []) ⟨hx, hb, hml, hown, hts⟩ (c_X4_partsOf _ _ _ _ _ 0 (cn 0) _ (val 0) (hs 0) (by omega) htn hra hrb hst (by omega) (hcn _ (by omega)) (hval _) (hhb _) (by omega) f_L (f_cn 0 (by omega)) (f_vl 0 (by omega)) (f_hs 0 (by omega))) (cwV 2 hts (nT_V wl_X6_195 wi_X4_partsOf ws_X4_partsOf wn_X4 wc_X4_partsOf) rfl rfl rfl (by decide +kernel) ⟨Nat.le_of_ble_eq_true rfl, Nat.le_of_ble_eq_true rfl⟩) (nB.preV hK hI hP (by omega) f_L rfl rfl) rfl rfl hl.1 rfl (lv_room (Nat.le_of_ble_eq_true rfl)) dX6_tell_76 ⟨Nat.zero_le _, Nat.zero_le _⟩) ?_
    refine lv_aload_n hx hb dX6_tell_79 rfl (lv_at hl 1 rfl) ?_
    refine n_get hx hb hts u_X6 hown hK hP (by omega) f_x rfl 0 (by decide) (nT_m wf_X6_10) rfl dX6_tell_80 ?_
    refine n_iconst hx hb dX6_tell_83 ?_
    refine lv_aload_n hx hb dX6_tell_84 rfl (lv_at hl 0 rfl) ?_
    refine n_get hx hb hts u_X5 hown hK hP (by omega) f_t rfl 1 (by decide) (nT_m wf_X6_167) rfl dX6_tell_85 ?_
    refine n_rdF (va_runV (As := [.int (iI 1), .ref (ad ((b + 14 + 9 * t) + 2))]) (rest := [.long (jI (((sumP (hs 0) (val 0) (cn 0) : Nat) : Int) * ((ra : Nat) : Int)))]) ⟨hx, hb, hml, hown, hts⟩ (c_X4_partsOf _ _ _ _ _ 1 (cn 1) _ (val 1) (hs 1) (by omega) htn hra hrb hst (by omega) (hcn _ (by omega)) (hval _) (hhb _) (by omega) f_L (f_cn 1 (by omega)) (f_vl 1 (by omega)) (f_hs 1 (by omega))) (cwV 2 hts (nT_V wl_X6_195 wi_X4_partsOf ws_X4_partsOf wn_X4 wc_X4_partsOf) rfl rfl rfl (by decide +kernel) ⟨Nat.le_of_ble_eq_true rfl, Nat.le_of_ble_eq_true rfl⟩) (nB.preV hK hI hP (by omega) f_L rfl rfl) rfl rfl hl.1 rfl (lv_room (Nat.le_of_ble_eq_true rfl)) dX6_tell_88 ⟨Nat.zero_le _, Nat.zero_le _⟩) ?_
    refine n_ladd hx hb dX6_tell_91 ?_
    exact n_lretR hQ hx hb hr hlocks (by unfold tlV; repeat (first | rw [if_pos (by omega)] | rw [if_neg (by omega)])) dX6_tell_92
  by_cases hsw3 : z = 3
  · skip
    refine lv_tableIn (tgt := 93) (off := 75) hx hb dX6_tell_18 (by rw [iI_T (by omega)]; omega) (by rw [iI_T (by omega)]; omega) (by rw [iI_T (by omega), hsw3]; rfl) (by decide) ?_
    refine lv_aload_n hx hb dX6_tell_93 rfl (lv_at hl 1 rfl) ?_
    refine n_get hx hb hts u_X6 hown hK hP (by omega) f_x rfl 0 (by decide) (nT_m wf_X6_10) rfl dX6_tell_94 ?_
    refine n_iconst hx hb dX6_tell_97 ?_
    refine lv_aload_n hx hb dX6_tell_98 rfl (lv_at hl 0 rfl) ?_
    refine n_get hx hb hts u_X5 hown hK hP (by omega) f_t rfl 0 (by decide) (nT_m wf_X6_192) rfl dX6_tell_99 ?_
    refine n_rdF (va_runV (As := [.int (iI 0), .ref (ad ((b + 14 + 9 * t) + 1))]) (rest := []) ⟨hx, hb, hml, hown, hts⟩ (c_X4_partsOf _ _ _ _ _ 0 (cn 0) _ (val 0) (hs 0) (by omega) htn hra hrb hst (by omega) (hcn _ (by omega)) (hval _) (hhb _) (by omega) f_L (f_cn 0 (by omega)) (f_vl 0 (by omega)) (f_hs 0 (by omega))) (cwV 2 hts (nT_V wl_X6_195 wi_X4_partsOf ws_X4_partsOf wn_X4 wc_X4_partsOf) rfl rfl rfl (by decide +kernel) ⟨Nat.le_of_ble_eq_true rfl, Nat.le_of_ble_eq_true rfl⟩) (nB.preV hK hI hP (by omega) f_L rfl rfl) rfl rfl hl.1 rfl (lv_room (Nat.le_of_ble_eq_true rfl)) dX6_tell_102 ⟨Nat.zero_le _, Nat.zero_le _⟩) ?_
    exact n_lretR hQ hx hb hr hlocks (by unfold tlV; repeat (first | rw [if_pos (by omega)] | rw [if_neg (by omega)])) dX6_tell_105
  by_cases hsw4 : z = 4
  · skip
    refine lv_tableIn (tgt := 106) (off := 88) hx hb dX6_tell_18 (by rw [iI_T (by omega)]; omega) (by rw [iI_T (by omega)]; omega) (by rw [iI_T (by omega), hsw4]; rfl) (by decide) ?_
    refine lv_aload_n hx hb dX6_tell_106 rfl (lv_at hl 0 rfl) ?_
    refine n_get hx hb hts u_X5 hown hK hP (by omega) f_t rfl 6 (by decide) (nT_m wf_X6_199) rfl dX6_tell_107 ?_
    refine lv_aload_n hx hb dX6_tell_110 rfl (lv_at hl 1 rfl) ?_
    refine n_get hx hb hts u_X6 hown hK hP (by omega) f_x rfl 0 (by decide) (nT_m wf_X6_10) rfl dX6_tell_111 ?_
    refine n_get hx hb hts u_X4 hown hK hP (by omega) f_L rfl 7 (by decide) (nT_m wf_X6_61) rfl dX6_tell_114 ?_
    refine n_i2l hx hb dX6_tell_117 (by omega) ?_
    refine n_lmul hx hb dX6_tell_118 ?_
    exact n_lretR hQ hx hb hr hlocks (by unfold tlV; repeat (first | rw [if_pos (by omega)] | rw [if_neg (by omega)])) dX6_tell_119
  by_cases hsw5 : z = 5
  · skip
    refine lv_tableIn (tgt := 120) (off := 102) hx hb dX6_tell_18 (by rw [iI_T (by omega)]; omega) (by rw [iI_T (by omega)]; omega) (by rw [iI_T (by omega), hsw5]; rfl) (by decide) ?_
    refine lv_aload_n hx hb dX6_tell_120 rfl (lv_at hl 0 rfl) ?_
    refine n_get hx hb hts u_X5 hown hK hP (by omega) f_t rfl 3 (by decide) (nT_m wf_X6_202) rfl dX6_tell_121 ?_
    refine n_get hx hb hts u_X2 hown hK hP (by omega) f_e rfl 0 (by decide) (nT_m wf_X6_206) rfl dX6_tell_124 ?_
    refine n_i2l hx hb dX6_tell_127 (by omega) ?_
    exact n_lretR hQ hx hb hr hlocks (by unfold tlV; repeat (first | rw [if_pos (by omega)] | rw [if_neg (by omega)])) dX6_tell_128
  refine lv_tableOut (tgt := 129) hx hb dX6_tell_18 (by rw [iI_T (by omega)]; omega) (by decide) ?_
  refine lv_ldc2 (v := jI (-1)) hx hb hown (hts _ (nT_m wk_X6_186)) dX6_tell_129 ?_
  exact n_lretR hQ hx hb hr hlocks (by unfold tlV; repeat (first | rw [if_pos (by omega)] | rw [if_neg (by omega)])) dX6_tell_132
set_option maxHeartbeats 4000000 in
set_option maxRecDepth 100000 in
theorem c_X6_draw_no {l : Launch} {G : nG} {N : Nat} {ad : Nat → Nat} {w : Nat → va_E} {sz : Nat} (x b tn ra rb stp : Nat) (tz : Int) (hN : x + 218 < N) (hxb : b = x + 1) (htn : tn ≤ 4) (htz : -2147483648 ≤ tz ∧ tz < 2147483648) (hno : ¬ (0 ≤ tz ∧ tz < tn)) (f_x : w x = .inr (6, [.ref (ad b), .ref (ad (x + 51)), .ref (ad (x + 52)), .ref (ad (x + 53)), .ref (ad (x + 67)), .ref (ad (x + 68))])) (f_L : w b = .inr (4, [.ref (ad (b + 1)), .ref (ad (b + 5)), .ref (ad (b + 9)), .ref (ad (b + 12)), .ref (ad (b + 13)), .int (iI ((tn : Nat) : Int)), .int (iI ((ra : Nat) : Int)), .int (iI ((rb : Nat) : Int)), .int (iI ((stp : Nat) : Int))])) : Met l yX6_draw wsX6_draw ({ frames := 2, cells := 0, slots := 0, locals := 47 }) (va_Pc [.ref (ad x), .int (iI tz)] (nB G N ad w sz)) (nRd (.long (jI (-1)))) 0 0 (fun _ => False) := by
  refine n_ent (cc := cX6_draw) (maxL := 6) (ret := (some .long)) (by decide) rfl (Nat.le_of_ble_eq_true rfl) ?_
  intro p e s m below meth cd hx hb hr hml hlocks hts hown hnm hsz hP hK hI Q hQ ls hl
  have hown : s.vm.findClass RX6 = some m.cls := hown
  have hl : lv_has ls 6 [(0, .ref (ad x)), (1, .int (iI tz))] := hl
  refine lv_aload_n hx hb dX6_draw_0 rfl (lv_at hl 0 rfl) ?_
  refine n_get hx hb hts u_X6 hown hK hP (by omega) f_x rfl 0 (by decide) (nT_m wf_X6_10) rfl dX6_draw_1 ?_
  refine lv_iload_n hx hb dX6_draw_4 rfl (lv_at hl 1 rfl) ?_
  refine n_rdF (va_runV (As := [.int (iI tz)]) (rest := []) ⟨hx, hb, hml, hown, hts⟩ (c_X4_tillAt_n _ _ _ _ _ tz (by omega) (by omega) (by omega) (by omega) f_L) (cwV 1 hts (nT_V wl_X6_137 wi_X4_tillAt ws_X4_tillAt wn_X4 wc_X4_tillAt) rfl rfl rfl (by decide +kernel) ⟨Nat.le_of_ble_eq_true rfl, Nat.le_of_ble_eq_true rfl⟩) (nB.preV hK hI hP (by omega) f_L rfl rfl) rfl rfl hl.1 rfl (lv_room (Nat.le_of_ble_eq_true rfl)) dX6_draw_5 ⟨Nat.zero_le _, Nat.zero_le _⟩) ?_
  refine lv_astore_nN (lv' := [(2, .null), (0, .ref (ad x)), (1, .int (iI tz))]) hx hb dX6_draw_8 rfl hl (by decide) rfl (fun ls hl => ?_)
  refine lv_aload_nN hx hb dX6_draw_9 rfl (lv_at hl 0 rfl) ?_
  refine lv_ifnonnullN hx hb dX6_draw_10 ?_
  refine lv_ldc2 (v := jI (-1)) hx hb hown (hts _ (nT_m wk_X6_186)) dX6_draw_13 ?_
  exact n_lretR hQ hx hb hr hlocks rfl dX6_draw_16
set_option maxHeartbeats 4000000 in
set_option maxRecDepth 100000 in
theorem c_X6_draw_yes {l : Launch} {G : nG} {N : Nat} {ad : Nat → Nat} {w : Nat → va_E} {sz : Nat} (x b tn ra rb stp : Nat) (cnt sa sc tk t : Nat) (val ol dr : Nat → Nat) (hN : x + 218 < N) (hxb : b = x + 1) (htn : tn ≤ 4) (hra : 1 ≤ ra ∧ ra ≤ 100) (hrb : 1 ≤ rb ∧ rb ≤ 100) (hst : 1 ≤ stp ∧ stp ≤ 100) (hc : cnt ≤ 8) (hval : ∀ k, val k ≤ 1000) (hhb : ∀ q, ol q ≤ 1000) (ht : t < tn) (f_x : w x = .inr (6, [.ref (ad b), .ref (ad (x + 51)), .ref (ad (x + 52)), .ref (ad (x + 53)), .ref (ad (x + 67)), .ref (ad (x + 68))])) (f_L : w b = .inr (4, [.ref (ad (b + 1)), .ref (ad (b + 5)), .ref (ad (b + 9)), .ref (ad (b + 12)), .ref (ad (b + 13)), .int (iI ((tn : Nat) : Int)), .int (iI ((ra : Nat) : Int)), .int (iI ((rb : Nat) : Int)), .int (iI ((stp : Nat) : Int))])) (f_ts : w (b + 12) = aR G 3 4 (fun k => some (ad (b + 14 + 9 * k)))) (f_o : w (b + 1) = .inr (1, [.int (iI ((cnt : Nat) : Int)), .ref (ad ((b + 1) + 1)), .ref (ad ((b + 1) + 2)), .ref (ad ((b + 1) + 3))])) (f_v : w ((b + 1) + 1) = aI G 8 (fun q => (val q : Int))) (f_t : w (b + 14 + 9 * t) = .inr (5, [.ref (ad ((b + 14 + 9 * t) + 1)), .ref (ad ((b + 14 + 9 * t) + 2)), .ref (ad ((b + 14 + 9 * t) + 3)), .ref (ad ((b + 14 + 9 * t) + 4)), .int (iI ((sa : Nat) : Int)), .long (jI ((sc : Nat) : Int)), .long (jI ((tk : Nat) : Int))])) (f_ol : w ((b + 14 + 9 * t) + 1) = aI G 8 (fun q => (ol q : Int))) (f_dr : w (b + 13) = aI G 8 (fun q => (dr q : Int))) : Met l yX6_draw wsX6_draw ({ frames := 2, cells := 0, slots := 0, locals := 47 }) (va_Pc [.ref (ad x), .int (iI ((t : Nat) : Int))] (nB G N ad w sz)) (nPl G N ad sz (fun r u => (∀ j, j ≠ ((b + 14 + 9 * t) + 1) → j ≠ (b + 13) → u j = w j) ∧ (r = ((sumP ol val cnt : Nat) : Int) * ((ra : Nat) : Int)) ∧ (u ((b + 14 + 9 * t) + 1) = aI G 8 (fun k => ((zrF ol 8 k : Nat) : Int))) ∧ (u (b + 13) = aI G 8 (fun k => ((addF dr ol 8 k : Nat) : Int))))) 0 0 (nA N ad sz) := by
  refine n_ent (cc := cX6_draw) (maxL := 6) (ret := (some .long)) (by decide) rfl (Nat.le_of_ble_eq_true rfl) ?_
  intro p e s m below meth cd hx hb hr hml hlocks hts hown hnm hsz hP hK hI Q hQ ls hl
  have hown : s.vm.findClass RX6 = some m.cls := hown
  subst hsz
  have hJ := hI.J s.heap.size
  have hS : va_S (nA N ad s.heap.size) s.heap s.heap [] := va_S.rf
  have hfr : ∀ j, j ≠ ((b + 14 + 9 * t) + 1) → j ≠ (b + 13) → w j = w j := fun _ _ _ => rfl
  have hl : lv_has ls 6 [(0, .ref (ad x)), (1, .int (iI ((t : Nat) : Int)))] := hl
  refine lv_aload_n hx hb dX6_draw_0 rfl (lv_at hl 0 rfl) ?_
  refine n_get hx hb hts u_X6 hown hK hP (by omega) f_x rfl 0 (by decide) (nT_m wf_X6_10) rfl dX6_draw_1 ?_
  refine lv_iload_n hx hb dX6_draw_4 rfl (lv_at hl 1 rfl) ?_
  refine n_rdF (va_runV (As := [.int (iI ((t : Nat) : Int))]) (rest := []) ⟨hx, hb, hml, hown, hts⟩ (c_X4_tillAt_y _ _ _ _ _ t (by omega) (by omega) (by omega) f_L f_ts) (cwV 1 hts (nT_V wl_X6_137 wi_X4_tillAt ws_X4_tillAt wn_X4 wc_X4_tillAt) rfl rfl rfl (by decide +kernel) ⟨Nat.le_of_ble_eq_true rfl, Nat.le_of_ble_eq_true rfl⟩) (nB.preV hK hI hP (by omega) f_L rfl rfl) rfl rfl hl.1 rfl (lv_room (Nat.le_of_ble_eq_true rfl)) dX6_draw_5 ⟨Nat.zero_le _, Nat.zero_le _⟩) ?_
  refine lv_astore_n (lv' := [(2, .ref (ad (b + 14 + 9 * t))), (0, .ref (ad x)), (1, .int (iI ((t : Nat) : Int)))]) hx hb dX6_draw_8 rfl hl (by decide) rfl (fun ls hl => ?_)
  refine lv_aload_n hx hb dX6_draw_9 rfl (lv_at hl 0 rfl) ?_
  refine lv_ifnonnull (tgt := 17) hx hb dX6_draw_10 (by decide) ?_
  refine lv_aload_n hx hb dX6_draw_17 rfl (lv_at hl 1 rfl) ?_
  refine n_get hx hb hts u_X6 hown hK hP (by omega) f_x rfl 0 (by decide) (nT_m wf_X6_10) rfl dX6_draw_18 ?_
  refine n_iconst hx hb dX6_draw_21 ?_
  refine lv_aload_n hx hb dX6_draw_22 rfl (lv_at hl 0 rfl) ?_
  refine n_get hx hb hts u_X5 hown hK hP (by omega) f_t rfl 0 (by decide) (nT_m wf_X6_192) rfl dX6_draw_23 ?_
  refine n_rdF (va_runV (As := [.int (iI 0), .ref (ad ((b + 14 + 9 * t) + 1))]) (rest := []) ⟨hx, hb, hml, hown, hts⟩ (c_X4_partsOf _ _ _ _ _ 0 cnt _ val ol (by omega) htn hra hrb hst (by omega) hc hval hhb (by omega) f_L f_o f_v f_ol) (cwV 2 hts (nT_V wl_X6_195 wi_X4_partsOf ws_X4_partsOf wn_X4 wc_X4_partsOf) rfl rfl rfl (by decide +kernel) ⟨Nat.le_of_ble_eq_true rfl, Nat.le_of_ble_eq_true rfl⟩) (nB.preV hK hI hP (by omega) f_L rfl rfl) rfl rfl hl.1 rfl (lv_room (Nat.le_of_ble_eq_true rfl)) dX6_draw_26 ⟨Nat.zero_le _, Nat.zero_le _⟩) ?_
  refine lv_lstore_n (lv' := [(3, .long (jI (((sumP ol val cnt : Nat) : Int) * ((ra : Nat) : Int)))), (2, .ref (ad (b + 14 + 9 * t))), (0, .ref (ad x)), (1, .int (iI ((t : Nat) : Int)))]) hx hb dX6_draw_29 rfl hl (by decide) rfl (fun ls hl => ?_)
  refine n_iconst hx hb dX6_draw_30 ?_
  refine lv_istore (lv' := [(5, .int (iI 0)), (3, .long (jI (((sumP ol val cnt : Nat) : Int) * ((ra : Nat) : Int)))), (2, .ref (ad (b + 14 + 9 * t))), (0, .ref (ad x)), (1, .int (iI ((t : Nat) : Int)))]) hx hb dX6_draw_31 hl (by decide) rfl (fun ls hl => ?_)
  have lp1 : ∀ (fu : Nat), ∀ (q : Nat), ∀ (w2 : Nat → va_E) (H : Heap) (locs : List Loc), ∀ (ls : Array Slot), 8 - q < fu → q ≤ 8 → (∀ j, j ≠ ((b + 14 + 9 * t) + 1) → j ≠ (b + 13) → w2 j = w j) → w2 x = .inr (6, [.ref (ad b), .ref (ad (x + 51)), .ref (ad (x + 52)), .ref (ad (x + 53)), .ref (ad (x + 67)), .ref (ad (x + 68))]) → w2 b = .inr (4, [.ref (ad (b + 1)), .ref (ad (b + 5)), .ref (ad (b + 9)), .ref (ad (b + 12)), .ref (ad (b + 13)), .int (iI ((tn : Nat) : Int)), .int (iI ((ra : Nat) : Int)), .int (iI ((rb : Nat) : Int)), .int (iI ((stp : Nat) : Int))]) → w2 (b + 12) = aR G 3 4 (fun k => some (ad (b + 14 + 9 * k))) → w2 (b + 1) = .inr (1, [.int (iI ((cnt : Nat) : Int)), .ref (ad ((b + 1) + 1)), .ref (ad ((b + 1) + 2)), .ref (ad ((b + 1) + 3))]) → w2 ((b + 1) + 1) = aI G 8 (fun q => (val q : Int)) → w2 (b + 14 + 9 * t) = .inr (5, [.ref (ad ((b + 14 + 9 * t) + 1)), .ref (ad ((b + 14 + 9 * t) + 2)), .ref (ad ((b + 14 + 9 * t) + 3)), .ref (ad ((b + 14 + 9 * t) + 4)), .int (iI ((sa : Nat) : Int)), .long (jI ((sc : Nat) : Int)), .long (jI ((tk : Nat) : Int))]) → w2 ((b + 14 + 9 * t) + 1) = aI G 8 (fun k => ((zrF ol q k : Nat) : Int)) → w2 (b + 13) = aI G 8 (fun k => ((addF dr ol q k : Nat) : Int)) → va_P G.1 vwCl (nL N ad w2) H → va_S (nA N ad s.heap.size) s.heap H locs → lv_has ls 6 [(0, .ref (ad x)), (1, .int (iI ((t : Nat) : Int))), (2, .ref (ad (b + 14 + 9 * t))), (3, .long (jI (((sumP ol val cnt : Nat) : Int) * ((ra : Nat) : Int)))), (5, .int (iI ((q : Nat) : Int)))] → W p l e ({ frames := 2, cells := 0, slots := 0, locals := 47 } : Room) s m ([.ref (ad x), .int (iI ((t : Nat) : Int))] : List Value).toArray below meth cd H locs 0 0 Q (F0 m 33 ls []) := by
    intro fu
    induction fu with
    | zero =>
      intro q w2 H locs ls hfu hq hfr f_x f_L f_ts f_o f_v f_t f_ol f_dr hP hS hl
      exact absurd hfu (Nat.not_lt_zero _)
    | succ fu ih3 =>
      intro q w2 H locs ls hfu hq hfr f_x f_L f_ts f_o f_v f_t f_ol f_dr hP hS hl
      refine lv_iload hx hb dX6_draw_33 (lv_at hl 4 rfl) ?_
      refine n_bipush hx hb dX6_draw_35 (by decide) ?_
      refine n_icmp_ge (tgt := 74) hx hb dX6_draw_37 (by decide) (by omega) (by omega) (fun hc37 => ?_) (fun hc37 => ?_)
      · skip
        obtain rfl : q = 8 := by omega
        refine lv_lload_n hx hb dX6_draw_74 rfl (lv_at hl 3 rfl) ?_
        refine n_lretP hQ hx hb hr hlocks hP hS dX6_draw_75 ?_
        exact ⟨hfr, rfl, f_ol, f_dr⟩
      · skip
        refine lv_aload_n hx hb dX6_draw_40 rfl (lv_at hl 0 rfl) ?_
        refine n_get hx hb hts u_X6 hown hK hP (by omega) f_x rfl 0 (by decide) (nT_m wf_X6_10) rfl dX6_draw_41 ?_
        refine n_get hx hb hts u_X4 hown hK hP (by omega) f_L rfl 4 (by decide) (nT_m wf_X6_209) rfl dX6_draw_44 ?_
        refine lv_iload hx hb dX6_draw_47 (lv_at hl 4 rfl) ?_
        refine lv_dup2_11 hx hb dX6_draw_49 rfl rfl ?_
        refine n_iald hx hb hK hP q (by omega) f_dr (by omega) (by omega) (by decide) dX6_draw_50 ?_
        refine lv_aload_n hx hb dX6_draw_51 rfl (lv_at hl 2 rfl) ?_
        refine n_get hx hb hts u_X5 hown hK hP (by omega) f_t rfl 0 (by decide) (nT_m wf_X6_192) rfl dX6_draw_52 ?_
        refine lv_iload hx hb dX6_draw_55 (lv_at hl 4 rfl) ?_
        refine n_iald hx hb hK hP q (by omega) f_ol (by omega) (by omega) (by decide) dX6_draw_57 ?_
        refine n_iadd hx hb dX6_draw_58 ?_
        refine n_iast hx hb hK hJ hP hS q (by omega) f_dr (by omega) (by omega) (by decide) dX6_draw_59 (fun w4 H locs f_dr hne5 hP hS => ?_)
        have f_x := (hne5 x (by omega)).trans f_x
        have f_L := (hne5 b (by omega)).trans f_L
        have f_ts := (hne5 (b + 12) (by omega)).trans f_ts
        have f_o := (hne5 (b + 1) (by omega)).trans f_o
        have f_v := (hne5 ((b + 1) + 1) (by omega)).trans f_v
        have f_t := (hne5 (b + 14 + 9 * t) (by omega)).trans f_t
        have f_ol := (hne5 ((b + 14 + 9 * t) + 1) (by omega)).trans f_ol
        have hfr : ∀ j, j ≠ ((b + 14 + 9 * t) + 1) → j ≠ (b + 13) → w4 j = w j := fun j a0 a1 => (hne5 j (by omega)).trans (hfr j a0 a1)
        refine lv_aload_n hx hb dX6_draw_60 rfl (lv_at hl 2 rfl) ?_
        refine n_get hx hb hts u_X5 hown hK hP (by omega) f_t rfl 0 (by decide) (nT_m wf_X6_192) rfl dX6_draw_61 ?_
        refine lv_iload hx hb dX6_draw_64 (lv_at hl 4 rfl) ?_
        refine n_iconst hx hb dX6_draw_66 ?_
        refine n_iast hx hb hK hJ hP hS q (by omega) f_ol (by omega) (by omega) (by decide) dX6_draw_67 (fun w6 H locs f_ol hne7 hP hS => ?_)
        have f_x := (hne7 x (by omega)).trans f_x
        have f_L := (hne7 b (by omega)).trans f_L
        have f_ts := (hne7 (b + 12) (by omega)).trans f_ts
        have f_o := (hne7 (b + 1) (by omega)).trans f_o
        have f_v := (hne7 ((b + 1) + 1) (by omega)).trans f_v
        have f_t := (hne7 (b + 14 + 9 * t) (by omega)).trans f_t
        have f_dr := (hne7 (b + 13) (by omega)).trans f_dr
        have hfr : ∀ j, j ≠ ((b + 14 + 9 * t) + 1) → j ≠ (b + 13) → w6 j = w j := fun j a0 a1 => (hne7 j (by omega)).trans (hfr j a0 a1)
        refine lv_iinc (v := iI (((q : Nat) : Int) + 1)) (lv' := [(5, .int (iI (((q : Nat) : Int) + 1))), (0, .ref (ad x)), (1, .int (iI ((t : Nat) : Int))), (2, .ref (ad (b + 14 + 9 * t))), (3, .long (jI (((sumP ol val cnt : Nat) : Int) * ((ra : Nat) : Int))))]) hx hb dX6_draw_68 hl (k := 4) rfl (by first | exact iI_add _ _ | exact (iI_add _ _).trans (congrArg iI (by omega))) (by decide) rfl (fun ls hl => ?_)
        refine lv_goto (tgt := 33) hx hb dX6_draw_71 (by decide) ?_
        exact ih3 (q + 1) _ _ _ _ (by omega) (by omega) hfr f_x f_L f_ts f_o f_v f_t (f_ol.trans (congrArg (aI G 8) (zrF_s ol q))) (f_dr.trans (congrArg (aI G 8) (addF_s dr ol q))) hP hS (by first | exact lv_sub hl [1, 2, 3, 4, 0] rfl | exact lv_cast (lv_sub (l' := [(0, .ref (ad x)), (1, .int (iI ((t : Nat) : Int))), (2, .ref (ad (b + 14 + 9 * t))), (3, .long (jI (((sumP ol val cnt : Nat) : Int) * ((ra : Nat) : Int)))), (5, .int (iI (((q : Nat) : Int) + 1)))]) hl [1, 2, 3, 4, 0] rfl) (lc_s (lc_s (lc_s (lc_s (lc_i (show ((((q : Nat) : Int) + 1) : Int) = (((q + 1) : Nat) : Int) by omega) rfl))))))
  exact lp1 (8 - 0 + 1) 0 _ _ _ _ (Nat.lt_succ_self _) (by omega) hfr f_x f_L f_ts f_o f_v f_t (f_ol.trans (by rw [zrF_0])) (f_dr.trans (by rw [addF_0])) hP hS (by first | exact lv_sub hl [3, 4, 2, 1, 0] rfl | exact lv_cast (lv_sub (l' := [(0, .ref (ad x)), (1, .int (iI ((t : Nat) : Int))), (2, .ref (ad (b + 14 + 9 * t))), (3, .long (jI (((sumP ol val cnt : Nat) : Int) * ((ra : Nat) : Int)))), (5, .int (iI 0))]) hl [3, 4, 2, 1, 0] rfl) (lc_s (lc_s (lc_s (lc_s (lc_i (show (0 : Int) = ((0 : Nat) : Int) by omega) rfl))))))
set_option maxHeartbeats 4000000 in
set_option maxRecDepth 100000 in
theorem c_X6_drawn_no {l : Launch} {G : nG} {N : Nat} {ad : Nat → Nat} {w : Nat → va_E} {sz : Nat} (x b tn ra rb stp : Nat) (cn : Nat → Nat) (z : Int) (hN : x + 218 < N) (hxb : b = x + 1) (hcn : ∀ k, k < 2 → cn k ≤ 8) (hz : -2147483648 ≤ z ∧ z < 2147483648) (hno : ¬ (0 ≤ z ∧ z < (cn 0 : Int))) (f_x : w x = .inr (6, [.ref (ad b), .ref (ad (x + 51)), .ref (ad (x + 52)), .ref (ad (x + 53)), .ref (ad (x + 67)), .ref (ad (x + 68))])) (f_L : w b = .inr (4, [.ref (ad (b + 1)), .ref (ad (b + 5)), .ref (ad (b + 9)), .ref (ad (b + 12)), .ref (ad (b + 13)), .int (iI ((tn : Nat) : Int)), .int (iI ((ra : Nat) : Int)), .int (iI ((rb : Nat) : Int)), .int (iI ((stp : Nat) : Int))])) (f_cn : ∀ k, k < 2 → w (b + 1 + 4 * k) = .inr (1, [.int (iI ((cn k : Nat) : Int)), .ref (ad (b + 1 + 4 * k + 1)), .ref (ad (b + 1 + 4 * k + 2)), .ref (ad (b + 1 + 4 * k + 3))])) : Met l yX6_drawn wsX6_drawn ({ frames := 3, cells := 0, slots := 0, locals := 66 }) (va_Pc [.ref (ad x), .int (iI z)] (nB G N ad w sz)) (nRd (.int (iI (-1)))) 0 0 (fun _ => False) := by
  refine n_ent (cc := cX6_drawn) (maxL := 2) (ret := (some .int)) (by decide) rfl (Nat.le_of_ble_eq_true rfl) ?_
  intro p e s m below meth cd hx hb hr hml hlocks hts hown hnm hsz hP hK hI Q hQ ls hl
  have hown : s.vm.findClass RX6 = some m.cls := hown
  have hl : lv_has ls 2 [(0, .ref (ad x)), (1, .int (iI z))] := hl
  refine lv_aload_n hx hb dX6_drawn_0 rfl (lv_at hl 0 rfl) ?_
  refine n_get hx hb hts u_X6 hown hK hP (by omega) f_x rfl 0 (by decide) (nT_m wf_X6_10) rfl dX6_drawn_1 ?_
  refine n_iconst hx hb dX6_drawn_4 ?_
  refine lv_iload_n hx hb dX6_drawn_5 rfl (lv_at hl 1 rfl) ?_
  refine n_rdF (va_runV (As := [.int (iI 0), .int (iI z)]) (rest := []) ⟨hx, hb, hml, hown, hts⟩ (c_X4_isCoin _ _ _ _ _ cn 0 z (by omega) hcn (by omega) (by omega) f_L f_cn) (cwV 2 hts (nT_V wl_X6_141 wi_X4_isCoin ws_X4_isCoin wn_X4 wc_X4_isCoin) rfl rfl rfl (by decide +kernel) ⟨Nat.le_of_ble_eq_true rfl, Nat.le_of_ble_eq_true rfl⟩) (nB.preV hK hI hP (by omega) f_L rfl rfl) rfl rfl hl.1 rfl (lv_room (Nat.le_of_ble_eq_true rfl)) dX6_drawn_6 ⟨Nat.zero_le _, Nat.zero_le _⟩) ?_
  refine n_if_eqB (tgt := 24) hx hb dX6_drawn_9 (by decide) (fun hc9 => ?_) (fun hc9 => ?_)
  · skip
    refine n_iconst hx hb dX6_drawn_24 ?_
    exact n_iretR hQ hx hb hr hlocks rfl dX6_drawn_25
  · skip
    exact absurd hc9.2 hno
set_option maxHeartbeats 4000000 in
set_option maxRecDepth 100000 in
theorem c_X6_drawn_yes {l : Launch} {G : nG} {N : Nat} {ad : Nat → Nat} {w : Nat → va_E} {sz : Nat} (x b tn ra rb stp : Nat) (cn : Nat → Nat) (kk : Nat) (dr : Nat → Nat) (hN : x + 218 < N) (hxb : b = x + 1) (hcn : ∀ k, k < 2 → cn k ≤ 8) (hk : kk < cn 0) (f_x : w x = .inr (6, [.ref (ad b), .ref (ad (x + 51)), .ref (ad (x + 52)), .ref (ad (x + 53)), .ref (ad (x + 67)), .ref (ad (x + 68))])) (f_L : w b = .inr (4, [.ref (ad (b + 1)), .ref (ad (b + 5)), .ref (ad (b + 9)), .ref (ad (b + 12)), .ref (ad (b + 13)), .int (iI ((tn : Nat) : Int)), .int (iI ((ra : Nat) : Int)), .int (iI ((rb : Nat) : Int)), .int (iI ((stp : Nat) : Int))])) (f_cn : ∀ k, k < 2 → w (b + 1 + 4 * k) = .inr (1, [.int (iI ((cn k : Nat) : Int)), .ref (ad (b + 1 + 4 * k + 1)), .ref (ad (b + 1 + 4 * k + 2)), .ref (ad (b + 1 + 4 * k + 3))])) (f_dr : w (b + 13) = aI G 8 (fun q => (dr q : Int))) : Met l yX6_drawn wsX6_drawn ({ frames := 3, cells := 0, slots := 0, locals := 66 }) (va_Pc [.ref (ad x), .int (iI ((kk : Nat) : Int))] (nB G N ad w sz)) (nRd (.int (iI ((dr kk : Nat) : Int)))) 0 0 (fun _ => False) := by
  refine n_ent (cc := cX6_drawn) (maxL := 2) (ret := (some .int)) (by decide) rfl (Nat.le_of_ble_eq_true rfl) ?_
  intro p e s m below meth cd hx hb hr hml hlocks hts hown hnm hsz hP hK hI Q hQ ls hl
  have hown : s.vm.findClass RX6 = some m.cls := hown
  have hl : lv_has ls 2 [(0, .ref (ad x)), (1, .int (iI ((kk : Nat) : Int)))] := hl
  have hc8 := hcn 0 (by omega)
  have hk2 : ((kk : Nat) : Int) < (cn (0 : Int).toNat : Int) := by show ((kk : Nat) : Int) < (cn 0 : Int); omega
  refine lv_aload_n hx hb dX6_drawn_0 rfl (lv_at hl 0 rfl) ?_
  refine n_get hx hb hts u_X6 hown hK hP (by omega) f_x rfl 0 (by decide) (nT_m wf_X6_10) rfl dX6_drawn_1 ?_
  refine n_iconst hx hb dX6_drawn_4 ?_
  refine lv_iload_n hx hb dX6_drawn_5 rfl (lv_at hl 1 rfl) ?_
  refine n_rdF (va_runV (As := [.int (iI 0), .int (iI ((kk : Nat) : Int))]) (rest := []) ⟨hx, hb, hml, hown, hts⟩ (c_X4_isCoin _ _ _ _ _ cn 0 ((kk : Nat) : Int) (by omega) hcn (by omega) (by omega) f_L f_cn) (cwV 2 hts (nT_V wl_X6_141 wi_X4_isCoin ws_X4_isCoin wn_X4 wc_X4_isCoin) rfl rfl rfl (by decide +kernel) ⟨Nat.le_of_ble_eq_true rfl, Nat.le_of_ble_eq_true rfl⟩) (nB.preV hK hI hP (by omega) f_L rfl rfl) rfl rfl hl.1 rfl (lv_room (Nat.le_of_ble_eq_true rfl)) dX6_drawn_6 ⟨Nat.zero_le _, Nat.zero_le _⟩) ?_
  refine n_if_eqB (tgt := 24) hx hb dX6_drawn_9 (by decide) (fun hc9 => ?_) (fun hc9 => ?_)
  · skip
    exact absurd ⟨by omega, by omega, hk2⟩ hc9
  · skip
    refine lv_aload_n hx hb dX6_drawn_12 rfl (lv_at hl 0 rfl) ?_
    refine n_get hx hb hts u_X6 hown hK hP (by omega) f_x rfl 0 (by decide) (nT_m wf_X6_10) rfl dX6_drawn_13 ?_
    refine n_get hx hb hts u_X4 hown hK hP (by omega) f_L rfl 4 (by decide) (nT_m wf_X6_209) rfl dX6_drawn_16 ?_
    refine lv_iload_n hx hb dX6_drawn_19 rfl (lv_at hl 1 rfl) ?_
    refine n_iald hx hb hK hP kk (by omega) f_dr (by omega) (by omega) (by decide) dX6_drawn_20 ?_
    refine lv_goto (tgt := 25) hx hb dX6_drawn_21 (by decide) ?_
    exact n_iretR hQ hx hb hr hlocks rfl dX6_drawn_25
