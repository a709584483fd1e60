set_option maxHeartbeats 4000000 in
set_option maxRecDepth 100000 in
theorem c_X6_expect_no {l : Launch} {G : nG} {N : Nat} {ad : Nat → Nat} {w : Nat → va_E} {sz : Nat} (x b tn ra rb stp : Nat) (cn sa sc tk en : Nat → Nat) (tz pz y z nz : Int) (hN : x + 218 < N) (hxb : b = x + 1) (hcn : ∀ k, k < 2 → cn k ≤ 8) (htn : tn ≤ 4) (hT : ∀ t, t < 4 → w (b + 14 + 9 * t) = .inr (5, [.ref (ad (b + 14 + 9 * t + 1)), .ref (ad (b + 14 + 9 * t + 2)), .ref (ad (b + 14 + 9 * t + 3)), .ref (ad (b + 14 + 9 * t + 4)), .int (iI ((sa t : Nat) : Int)), .long (jI ((sc t : Nat) : Int)), .long (jI ((tk t : Nat) : Int))])) (hE : ∀ t, t < 4 → w (b + 14 + 9 * t + 4) = .inr (2, [.int (iI ((en t : Nat) : Int)), .ref (ad (b + 14 + 9 * t + 4 + 1)), .ref (ad (b + 14 + 9 * t + 4 + 2)), .ref (ad (b + 14 + 9 * t + 4 + 3)), .ref (ad (b + 14 + 9 * t + 4 + 4))])) (hen : ∀ k, en k ≤ 20) (htz : -2147483648 ≤ tz ∧ tz < 2147483648) (hpz : -2147483648 ≤ pz ∧ pz < 2147483648) (hy : -2147483648 ≤ y ∧ y < 2147483648) (hz : -2147483648 ≤ z ∧ z < 2147483648) (hnz : -2147483648 ≤ nz ∧ nz < 2147483648) (hno : ¬ ((0 ≤ tz ∧ tz < (tn : Int)) ∧ ((1 ≤ pz ∧ pz ≤ 2000) ∧ (1 ≤ nz ∧ nz ≤ 50) ∧ (y = 0 ∨ y = 1) ∧ (0 ≤ z ∧ z < (cn y.toNat : Int))) ∧ ¬ en tz.toNat = 20)) (f_x : w x = .inr (6, [.ref (ad b), .ref (ad (x + 51)), .ref (ad (x + 52)), .ref (ad (x + 53)), .ref (ad (x + 67)), .ref (ad (x + 68))])) (f_L : w b = .inr (4, [.ref (ad (b + 1)), .ref (ad (b + 5)), .ref (ad (b + 9)), .ref (ad (b + 12)), .ref (ad (b + 13)), .int (iI ((tn : Nat) : Int)), .int (iI ((ra : Nat) : Int)), .int (iI ((rb : Nat) : Int)), .int (iI ((stp : Nat) : Int))])) (f_ts : w (b + 12) = aR G 3 4 (fun k => some (ad (b + 14 + 9 * k)))) (f_cn : ∀ k, k < 2 → w (b + 1 + 4 * k) = .inr (1, [.int (iI ((cn k : Nat) : Int)), .ref (ad (b + 1 + 4 * k + 1)), .ref (ad (b + 1 + 4 * k + 2)), .ref (ad (b + 1 + 4 * k + 3))])) : Met l yX6_expect wsX6_expect ({ frames := 4, cells := 0, slots := 0, locals := 90 }) (va_Pc [.ref (ad x), .int (iI tz), .int (iI pz), .int (iI y), .int (iI z), .int (iI nz)] (nB G N ad w sz)) (nRd (.int (iI (-1)))) 0 0 (fun _ => False) := by
  refine n_ent (cc := cX6_expect) (maxL := 7) (ret := (some .int)) (by decide) rfl (Nat.le_of_ble_eq_true rfl) ?_
  intro p e s m below meth cd hx hb hr hml hlocks hts hown hnm hsz hP hK hI Q hQ ls hl
  have hown : s.vm.findClass RX6 = some m.cls := hown
  have hl : lv_has ls 7 [(0, .ref (ad x)), (1, .int (iI tz)), (2, .int (iI pz)), (3, .int (iI y)), (4, .int (iI z)), (5, .int (iI nz))] := hl
  refine lv_aload_n hx hb dX6_expect_0 rfl (lv_at hl 0 rfl) ?_
  refine n_get hx hb hts u_X6 hown hK hP (by omega) f_x rfl 0 (by decide) (nT_m wf_X6_10) rfl dX6_expect_1 ?_
  refine lv_iload_n hx hb dX6_expect_4 rfl (lv_at hl 1 rfl) ?_
  by_cases ht9 : 0 ≤ tz ∧ tz < (tn : Int)
  · skip
    obtain ⟨t, rfl⟩ : ∃ t : Nat, tz = (t : Int) := ⟨(tz).toNat, by omega⟩
    have f_t := hT t (by omega)
    have f_e := hE t (by omega)
    simp only [Int.toNat_natCast] at hno
    refine n_rdF (va_runV (As := [.int (iI ((t : Nat) : Int))]) (rest := []) ⟨hx, hb, hml, hown, hts⟩ (c_X4_tillAt_y _ _ _ _ _ t (by omega) (by omega) (by omega) f_L f_ts) (cwV 1 hts (nT_V wl_X6_137 wi_X4_tillAt ws_X4_tillAt wn_X4 wc_X4_tillAt) rfl rfl rfl (by decide +kernel) ⟨Nat.le_of_ble_eq_true rfl, Nat.le_of_ble_eq_true rfl⟩) (nB.preV hK hI hP (by omega) f_L rfl rfl) rfl rfl hl.1 rfl (lv_room (Nat.le_of_ble_eq_true rfl)) dX6_expect_5 ⟨Nat.zero_le _, Nat.zero_le _⟩) ?_
    refine lv_astore (lv' := [(6, .ref (ad (b + 14 + 9 * t))), (0, .ref (ad x)), (1, .int (iI ((t : Nat) : Int))), (2, .int (iI pz)), (3, .int (iI y)), (4, .int (iI z)), (5, .int (iI nz))]) hx hb dX6_expect_8 hl (by decide) rfl (fun ls hl => ?_)
    refine lv_aload hx hb dX6_expect_10 (lv_at hl 0 rfl) ?_
    refine lv_ifnull hx hb dX6_expect_12 ?_
    refine lv_aload_n hx hb dX6_expect_15 rfl (lv_at hl 1 rfl) ?_
    refine n_get hx hb hts u_X6 hown hK hP (by omega) f_x rfl 0 (by decide) (nT_m wf_X6_10) rfl dX6_expect_16 ?_
    refine lv_iload_n hx hb dX6_expect_19 rfl (lv_at hl 3 rfl) ?_
    refine lv_iload_n hx hb dX6_expect_20 rfl (lv_at hl 4 rfl) ?_
    refine lv_iload hx hb dX6_expect_21 (lv_at hl 5 rfl) ?_
    refine lv_iload hx hb dX6_expect_23 (lv_at hl 6 rfl) ?_
    refine n_rdF (va_runV (As := [.int (iI pz), .int (iI y), .int (iI z), .int (iI nz)]) (rest := []) ⟨hx, hb, hml, hown, hts⟩ (c_X4_isSale _ _ _ _ _ cn pz y z nz (by omega) hcn (by omega) (by omega) (by omega) (by omega) f_L f_cn) (cwV 4 hts (nT_V wl_X6_152 wi_X4_isSale ws_X4_isSale wn_X4 wc_X4_isSale) rfl rfl rfl (by decide +kernel) ⟨Nat.le_of_ble_eq_true rfl, Nat.le_of_ble_eq_true rfl⟩) (nB.preV hK hI hP (by omega) f_L rfl rfl) rfl rfl hl.1 rfl (lv_room (Nat.le_of_ble_eq_true rfl)) dX6_expect_25 ⟨Nat.zero_le _, Nat.zero_le _⟩) ?_
    refine n_if_neB (tgt := 35) hx hb dX6_expect_28 (by decide) (fun hc28 => ?_) (fun hc28 => ?_)
    · skip
      refine lv_aload hx hb dX6_expect_35 (lv_at hl 0 rfl) ?_
      refine n_get hx hb hts u_X5 hown hK hP (by omega) f_t rfl 3 (by decide) (nT_m wf_X6_202) rfl dX6_expect_37 ?_
      refine lv_iload_n hx hb dX6_expect_40 rfl (lv_at hl 3 rfl) ?_
      refine lv_iload_n hx hb dX6_expect_41 rfl (lv_at hl 4 rfl) ?_
      refine lv_iload hx hb dX6_expect_42 (lv_at hl 5 rfl) ?_
      refine lv_iload hx hb dX6_expect_44 (lv_at hl 6 rfl) ?_
      refine n_rdF (va_runV (As := [.int (iI pz), .int (iI y), .int (iI z), .int (iI nz)]) (rest := []) ⟨hx, hb, hml, hown, hts⟩ (c_X2_add_no _ (en t) pz y z nz (by omega) (Decidable.byContradiction fun h9 => hno ⟨ht9, hc28, h9⟩) f_e) (cwV 4 hts (nT_V wl_X6_212 wi_X2_add ws_X2_add wn_X2 wc_X2_add) rfl rfl rfl (by decide +kernel) ⟨Nat.le_of_ble_eq_true rfl, Nat.le_of_ble_eq_true rfl⟩) (nB.preV hK hI hP (by omega) f_e rfl rfl) rfl rfl hl.1 rfl (lv_room (Nat.le_of_ble_eq_true rfl)) dX6_expect_46 ⟨Nat.zero_le _, Nat.zero_le _⟩) ?_
      exact n_iretR hQ hx hb hr hlocks rfl dX6_expect_49
    · skip
      refine n_iconst hx hb dX6_expect_31 ?_
      refine lv_goto (tgt := 49) hx hb dX6_expect_32 (by decide) ?_
      exact n_iretR hQ hx hb hr hlocks rfl dX6_expect_49
  · skip
    refine n_rdF (va_runV (As := [.int (iI tz)]) (rest := []) ⟨hx, hb, hml, hown, hts⟩ (c_X4_tillAt_n _ _ _ _ _ tz (by omega) (by omega) (by omega) (by omega) f_L) (cwV 1 hts (nT_V wl_X6_137 wi_X4_tillAt ws_X4_tillAt wn_X4 wc_X4_tillAt) rfl rfl rfl (by decide +kernel) ⟨Nat.le_of_ble_eq_true rfl, Nat.le_of_ble_eq_true rfl⟩) (nB.preV hK hI hP (by omega) f_L rfl rfl) rfl rfl hl.1 rfl (lv_room (Nat.le_of_ble_eq_true rfl)) dX6_expect_5 ⟨Nat.zero_le _, Nat.zero_le _⟩) ?_
    refine lv_astoreN (lv' := [(6, .null), (0, .ref (ad x)), (1, .int (iI tz)), (2, .int (iI pz)), (3, .int (iI y)), (4, .int (iI z)), (5, .int (iI nz))]) hx hb dX6_expect_8 hl (by decide) rfl (fun ls hl => ?_)
    refine lv_aloadN hx hb dX6_expect_10 (lv_at hl 0 rfl) ?_
    refine lv_ifnullN (tgt := 31) hx hb dX6_expect_12 (by decide) ?_
    refine n_iconst hx hb dX6_expect_31 ?_
    refine lv_goto (tgt := 49) hx hb dX6_expect_32 (by decide) ?_
    exact n_iretR hQ hx hb hr hlocks rfl dX6_expect_49
set_option maxHeartbeats 4000000 in
set_option maxRecDepth 100000 in
theorem c_X6_expect_yes {l : Launch} {G : nG} {N : Nat} {ad : Nat → Nat} {w : Nat → va_E} {sz : Nat} (x b tn ra rb stp : Nat) (cn : Nat → Nat) (sa sc tk en t sy kk a c : Nat) (pr sq co nu : Nat → Nat) (hN : x + 218 < N) (hxb : b = x + 1) (hcn : ∀ k, k < 2 → cn k ≤ 8) (htn : tn ≤ 4) (ht : t < tn) (hs_ : sy < 2) (hk : kk < cn sy) (ha : 1 ≤ a ∧ a ≤ 2000) (hc : 1 ≤ c ∧ c ≤ 50) (hen : en < 20) (f_x : w x = .inr (6, [.ref (ad b), .ref (ad (x + 51)), .ref (ad (x + 52)), .ref (ad (x + 53)), .ref (ad (x + 67)), .ref (ad (x + 68))])) (f_L : w b = .inr (4, [.ref (ad (b + 1)), .ref (ad (b + 5)), .ref (ad (b + 9)), .ref (ad (b + 12)), .ref (ad (b + 13)), .int (iI ((tn : Nat) : Int)), .int (iI ((ra : Nat) : Int)), .int (iI ((rb : Nat) : Int)), .int (iI ((stp : Nat) : Int))])) (f_ts : w (b + 12) = aR G 3 4 (fun k => some (ad (b + 14 + 9 * k)))) (f_cn : ∀ k, k < 2 → w (b + 1 + 4 * k) = .inr (1, [.int (iI ((cn k : Nat) : Int)), .ref (ad (b + 1 + 4 * k + 1)), .ref (ad (b + 1 + 4 * k + 2)), .ref (ad (b + 1 + 4 * k + 3))])) (f_t : w (b + 14 + 9 * t) = .inr (5, [.ref (ad ((b + 14 + 9 * t) + 1)), .ref (ad ((b + 14 + 9 * t) + 2)), .ref (ad ((b + 14 + 9 * t) + 3)), .ref (ad ((b + 14 + 9 * t) + 4)), .int (iI ((sa : Nat) : Int)), .long (jI ((sc : Nat) : Int)), .long (jI ((tk : Nat) : Int))])) (f_e : w ((b + 14 + 9 * t) + 4) = .inr (2, [.int (iI ((en : Nat) : Int)), .ref (ad (((b + 14 + 9 * t) + 4) + 1)), .ref (ad (((b + 14 + 9 * t) + 4) + 2)), .ref (ad (((b + 14 + 9 * t) + 4) + 3)), .ref (ad (((b + 14 + 9 * t) + 4) + 4))])) (f_ep : w (((b + 14 + 9 * t) + 4) + 1) = aI G 20 (fun q => (pr q : Int))) (f_es : w (((b + 14 + 9 * t) + 4) + 2) = aI G 20 (fun q => (sq q : Int))) (f_ec : w (((b + 14 + 9 * t) + 4) + 3) = aI G 20 (fun q => (co q : Int))) (f_en_ : w (((b + 14 + 9 * t) + 4) + 4) = aI G 20 (fun q => (nu q : Int))) : Met l yX6_expect wsX6_expect ({ frames := 4, cells := 0, slots := 0, locals := 90 }) (va_Pc [.ref (ad x), .int (iI ((t : Nat) : Int)), .int (iI ((a : Nat) : Int)), .int (iI ((sy : Nat) : Int)), .int (iI ((kk : Nat) : Int)), .int (iI ((c : Nat) : Int))] (nB G N ad w sz)) (nPi G N ad sz (fun r u => (∀ j, j ≠ ((b + 14 + 9 * t) + 4) → j ≠ (((b + 14 + 9 * t) + 4) + 1) → j ≠ (((b + 14 + 9 * t) + 4) + 2) → j ≠ (((b + 14 + 9 * t) + 4) + 3) → j ≠ (((b + 14 + 9 * t) + 4) + 4) → u j = w j) ∧ (r = en + 1) ∧ (u ((b + 14 + 9 * t) + 4) = .inr (2, [.int (iI ((en + 1 : Nat) : Int)), .ref (ad (((b + 14 + 9 * t) + 4) + 1)), .ref (ad (((b + 14 + 9 * t) + 4) + 2)), .ref (ad (((b + 14 + 9 * t) + 4) + 3)), .ref (ad (((b + 14 + 9 * t) + 4) + 4))])) ∧ (u (((b + 14 + 9 * t) + 4) + 1) = aI G 20 (fun q => ((va_up pr en a q : Nat) : Int))) ∧ (u (((b + 14 + 9 * t) + 4) + 2) = aI G 20 (fun q => ((va_up sq en sy q : Nat) : Int))) ∧ (u (((b + 14 + 9 * t) + 4) + 3) = aI G 20 (fun q => ((va_up co en kk q : Nat) : Int))) ∧ (u (((b + 14 + 9 * t) + 4) + 4) = aI G 20 (fun q => ((va_up nu en c q : Nat) : Int))))) 0 0 (nA N ad sz) := by
  refine n_ent (cc := cX6_expect) (maxL := 7) (ret := (some .int)) (by decide) rfl (Nat.le_of_ble_eq_true rfl) ?_
  intro p e s m below meth cd hx hb hr hml hlocks hts hown hnm hsz hP hK hI Q hQ ls hl
  have hown : s.vm.findClass RX6 = some m.cls := hown
  subst hsz
  have hJ := hI.J s.heap.size
  have hS : va_S (nA N ad s.heap.size) s.heap s.heap [] := va_S.rf
  have hfr : ∀ j, j ≠ ((b + 14 + 9 * t) + 4) → j ≠ (((b + 14 + 9 * t) + 4) + 1) → j ≠ (((b + 14 + 9 * t) + 4) + 2) → j ≠ (((b + 14 + 9 * t) + 4) + 3) → j ≠ (((b + 14 + 9 * t) + 4) + 4) → w j = w j := fun _ _ _ _ _ _ => rfl
  have hl : lv_has ls 7 [(0, .ref (ad x)), (1, .int (iI ((t : Nat) : Int))), (2, .int (iI ((a : Nat) : Int))), (3, .int (iI ((sy : Nat) : Int))), (4, .int (iI ((kk : Nat) : Int))), (5, .int (iI ((c : Nat) : Int)))] := hl
  have hc8 := hcn sy (by omega)
  refine lv_aload_n hx hb dX6_expect_0 rfl (lv_at hl 0 rfl) ?_
  refine n_get hx hb hts u_X6 hown hK hP (by omega) f_x rfl 0 (by decide) (nT_m wf_X6_10) rfl dX6_expect_1 ?_
  refine lv_iload_n hx hb dX6_expect_4 rfl (lv_at hl 1 rfl) ?_
  refine n_rdF (va_runV (As := [.int (iI ((t : Nat) : Int))]) (rest := []) ⟨hx, hb, hml, hown, hts⟩ (c_X4_tillAt_y _ _ _ _ _ t (by omega) (by omega) (by omega) f_L f_ts) (cwV 1 hts (nT_V wl_X6_137 wi_X4_tillAt ws_X4_tillAt wn_X4 wc_X4_tillAt) rfl rfl rfl (by decide +kernel) ⟨Nat.le_of_ble_eq_true rfl, Nat.le_of_ble_eq_true rfl⟩) (nB.preV hK hI hP (by omega) f_L rfl rfl) rfl rfl hl.1 rfl (lv_room (Nat.le_of_ble_eq_true rfl)) dX6_expect_5 ⟨Nat.zero_le _, Nat.zero_le _⟩) ?_
  refine lv_astore (lv' := [(6, .ref (ad (b + 14 + 9 * t))), (0, .ref (ad x)), (1, .int (iI ((t : Nat) : Int))), (2, .int (iI ((a : Nat) : Int))), (3, .int (iI ((sy : Nat) : Int))), (4, .int (iI ((kk : Nat) : Int))), (5, .int (iI ((c : Nat) : Int)))]) hx hb dX6_expect_8 hl (by decide) rfl (fun ls hl => ?_)
  refine lv_aload hx hb dX6_expect_10 (lv_at hl 0 rfl) ?_
  refine lv_ifnull hx hb dX6_expect_12 ?_
  refine lv_aload_n hx hb dX6_expect_15 rfl (lv_at hl 1 rfl) ?_
  refine n_get hx hb hts u_X6 hown hK hP (by omega) f_x rfl 0 (by decide) (nT_m wf_X6_10) rfl dX6_expect_16 ?_
  refine lv_iload_n hx hb dX6_expect_19 rfl (lv_at hl 3 rfl) ?_
  refine lv_iload_n hx hb dX6_expect_20 rfl (lv_at hl 4 rfl) ?_
  refine lv_iload hx hb dX6_expect_21 (lv_at hl 5 rfl) ?_
  refine lv_iload hx hb dX6_expect_23 (lv_at hl 6 rfl) ?_
  refine n_rdF (va_runV (As := [.int (iI ((a : Nat) : Int)), .int (iI ((sy : Nat) : Int)), .int (iI ((kk : Nat) : Int)), .int (iI ((c : Nat) : Int))]) (rest := []) ⟨hx, hb, hml, hown, hts⟩ (c_X4_isSale _ _ _ _ _ cn ((a : Nat) : Int) ((sy : Nat) : Int) ((kk : Nat) : Int) ((c : Nat) : Int) (by omega) hcn (by omega) (by omega) (by omega) (by omega) f_L f_cn) (cwV 4 hts (nT_V wl_X6_152 wi_X4_isSale ws_X4_isSale wn_X4 wc_X4_isSale) rfl rfl rfl (by decide +kernel) ⟨Nat.le_of_ble_eq_true rfl, Nat.le_of_ble_eq_true rfl⟩) (nB.preV hK hI hP (by omega) f_L rfl rfl) rfl rfl hl.1 rfl (lv_room (Nat.le_of_ble_eq_true rfl)) dX6_expect_25 ⟨Nat.zero_le _, Nat.zero_le _⟩) ?_
  refine n_if_neB (tgt := 35) hx hb dX6_expect_28 (by decide) (fun hc28 => ?_) (fun hc28 => ?_)
  · skip
    refine lv_aload hx hb dX6_expect_35 (lv_at hl 0 rfl) ?_
    refine n_get hx hb hts u_X5 hown hK hP (by omega) f_t rfl 3 (by decide) (nT_m wf_X6_202) rfl dX6_expect_37 ?_
    refine lv_iload_n hx hb dX6_expect_40 rfl (lv_at hl 3 rfl) ?_
    refine lv_iload_n hx hb dX6_expect_41 rfl (lv_at hl 4 rfl) ?_
    refine lv_iload hx hb dX6_expect_42 (lv_at hl 5 rfl) ?_
    refine lv_iload hx hb dX6_expect_44 (lv_at hl 6 rfl) ?_
    refine n_cI (va_runV (As := [.int (iI ((a : Nat) : Int)), .int (iI ((sy : Nat) : Int)), .int (iI ((kk : Nat) : Int)), .int (iI ((c : Nat) : Int))]) (rest := []) ⟨hx, hb, hml, hown, hts⟩ (c_X2_add_yes _ en a sy kk c pr sq co nu (by omega) hen f_e f_ep f_es f_ec f_en_) (cwV 4 hts (nT_V wl_X6_212 wi_X2_add ws_X2_add wn_X2 wc_X2_add) rfl rfl rfl (by decide +kernel) ⟨Nat.le_of_ble_eq_true rfl, Nat.le_of_ble_eq_true rfl⟩) (nB.preV hK hI hP (by omega) f_e rfl rfl) rfl rfl hl.1 rfl (lv_room (Nat.le_of_ble_eq_true rfl)) dX6_expect_46 ⟨Nat.zero_le _, Nat.zero_le _⟩) hS (fun r2 w1 H locs hq3 hP hS => ?_)
    obtain ⟨hne4, hr9, h0, h1, h2, h3, h4⟩ := hq3
    have f_x := (hne4 x (by omega) (by omega) (by omega) (by omega) (by omega)).trans f_x
    have f_L := (hne4 b (by omega) (by omega) (by omega) (by omega) (by omega)).trans f_L
    have f_ts := (hne4 (b + 12) (by omega) (by omega) (by omega) (by omega) (by omega)).trans f_ts
    have f_cn : ∀ k, k < 2 → w1 (b + 1 + 4 * k) = .inr (1, [.int (iI ((cn k : Nat) : Int)), .ref (ad (b + 1 + 4 * k + 1)), .ref (ad (b + 1 + 4 * k + 2)), .ref (ad (b + 1 + 4 * k + 3))]) := fun k hk9 => (hne4 _ (by omega) (by omega) (by omega) (by omega) (by omega)).trans (f_cn _ hk9)
    have f_t := (hne4 (b + 14 + 9 * t) (by omega) (by omega) (by omega) (by omega) (by omega)).trans f_t
    have f_e : w1 ((b + 14 + 9 * t) + 4) = .inr (2, [.int (iI ((en + 1 : Nat) : Int)), .ref (ad (((b + 14 + 9 * t) + 4) + 1)), .ref (ad (((b + 14 + 9 * t) + 4) + 2)), .ref (ad (((b + 14 + 9 * t) + 4) + 3)), .ref (ad (((b + 14 + 9 * t) + 4) + 4))]) := h0
    have f_ep : w1 (((b + 14 + 9 * t) + 4) + 1) = aI G 20 (fun q => ((va_up pr en a q : Nat) : Int)) := h1
    have f_es : w1 (((b + 14 + 9 * t) + 4) + 2) = aI G 20 (fun q => ((va_up sq en sy q : Nat) : Int)) := h2
    have f_ec : w1 (((b + 14 + 9 * t) + 4) + 3) = aI G 20 (fun q => ((va_up co en kk q : Nat) : Int)) := h3
    have f_en_ : w1 (((b + 14 + 9 * t) + 4) + 4) = aI G 20 (fun q => ((va_up nu en c q : Nat) : Int)) := h4
    have hfr : ∀ j, j ≠ ((b + 14 + 9 * t) + 4) → j ≠ (((b + 14 + 9 * t) + 4) + 1) → j ≠ (((b + 14 + 9 * t) + 4) + 2) → j ≠ (((b + 14 + 9 * t) + 4) + 3) → j ≠ (((b + 14 + 9 * t) + 4) + 4) → w1 j = w j := fun j a0 a1 a2 a3 a4 => (hne4 j (by omega) (by omega) (by omega) (by omega) (by omega)).trans (hfr j a0 a1 a2 a3 a4)
    refine n_iretP hQ hx hb hr hlocks hP hS dX6_expect_49 ?_
    exact ⟨hfr, hr9, f_e, f_ep, f_es, f_ec, f_en_⟩
  · skip
    exact absurd ⟨by omega, by omega, by omega, by rw [Int.toNat_natCast]; omega⟩ hc28
set_option maxHeartbeats 4000000 in
set_option maxRecDepth 100000 in
theorem c_X6_forget_no {l : Launch} {G : nG} {N : Nat} {ad : Nat → Nat} {w : Nat → va_E} {sz : Nat} (x b tn ra rb stp : Nat) (tz : Int) (hN : x + 218 < N) (hxb : b = x + 1) (htn : tn ≤ 4) (htz : -2147483648 ≤ tz ∧ tz < 2147483648) (hno : ¬ (0 ≤ tz ∧ tz < tn)) (f_x : w x = .inr (6, [.ref (ad b), .ref (ad (x + 51)), .ref (ad (x + 52)), .ref (ad (x + 53)), .ref (ad (x + 67)), .ref (ad (x + 68))])) (f_L : w b = .inr (4, [.ref (ad (b + 1)), .ref (ad (b + 5)), .ref (ad (b + 9)), .ref (ad (b + 12)), .ref (ad (b + 13)), .int (iI ((tn : Nat) : Int)), .int (iI ((ra : Nat) : Int)), .int (iI ((rb : Nat) : Int)), .int (iI ((stp : Nat) : Int))])) : Met l yX6_forget wsX6_forget ({ frames := 2, cells := 0, slots := 0, locals := 43 }) (va_Pc [.ref (ad x), .int (iI tz)] (nB G N ad w sz)) (nRd (.int (iI (bI False)))) 0 0 (fun _ => False) := by
  refine n_ent (cc := cX6_forget) (maxL := 3) (ret := (some .boolean)) (by decide) rfl (Nat.le_of_ble_eq_true rfl) ?_
  intro p e s m below meth cd hx hb hr hml hlocks hts hown hnm hsz hP hK hI Q hQ ls hl
  have hown : s.vm.findClass RX6 = some m.cls := hown
  have hl : lv_has ls 3 [(0, .ref (ad x)), (1, .int (iI tz))] := hl
  refine lv_aload_n hx hb dX6_forget_0 rfl (lv_at hl 0 rfl) ?_
  refine n_get hx hb hts u_X6 hown hK hP (by omega) f_x rfl 0 (by decide) (nT_m wf_X6_10) rfl dX6_forget_1 ?_
  refine lv_iload_n hx hb dX6_forget_4 rfl (lv_at hl 1 rfl) ?_
  refine n_rdF (va_runV (As := [.int (iI tz)]) (rest := []) ⟨hx, hb, hml, hown, hts⟩ (c_X4_tillAt_n _ _ _ _ _ tz (by omega) (by omega) (by omega) (by omega) f_L) (cwV 1 hts (nT_V wl_X6_137 wi_X4_tillAt ws_X4_tillAt wn_X4 wc_X4_tillAt) rfl rfl rfl (by decide +kernel) ⟨Nat.le_of_ble_eq_true rfl, Nat.le_of_ble_eq_true rfl⟩) (nB.preV hK hI hP (by omega) f_L rfl rfl) rfl rfl hl.1 rfl (lv_room (Nat.le_of_ble_eq_true rfl)) dX6_forget_5 ⟨Nat.zero_le _, Nat.zero_le _⟩) ?_
  refine lv_astore_nN (lv' := [(2, .null), (0, .ref (ad x)), (1, .int (iI tz))]) hx hb dX6_forget_8 rfl hl (by decide) rfl (fun ls hl => ?_)
  refine lv_aload_nN hx hb dX6_forget_9 rfl (lv_at hl 0 rfl) ?_
  refine lv_ifnonnullN hx hb dX6_forget_10 ?_
  refine n_iconst hx hb dX6_forget_13 ?_
  exact n_zretR hQ hx hb hr hlocks rfl dX6_forget_14
set_option maxHeartbeats 4000000 in
set_option maxRecDepth 100000 in
theorem c_X6_forget_yes {l : Launch} {G : nG} {N : Nat} {ad : Nat → Nat} {w : Nat → va_E} {sz : Nat} (x b tn ra rb stp : Nat) (sa sc tk en t : Nat) (hN : x + 218 < N) (hxb : b = x + 1) (htn : tn ≤ 4) (ht : t < tn) (f_x : w x = .inr (6, [.ref (ad b), .ref (ad (x + 51)), .ref (ad (x + 52)), .ref (ad (x + 53)), .ref (ad (x + 67)), .ref (ad (x + 68))])) (f_L : w b = .inr (4, [.ref (ad (b + 1)), .ref (ad (b + 5)), .ref (ad (b + 9)), .ref (ad (b + 12)), .ref (ad (b + 13)), .int (iI ((tn : Nat) : Int)), .int (iI ((ra : Nat) : Int)), .int (iI ((rb : Nat) : Int)), .int (iI ((stp : Nat) : Int))])) (f_ts : w (b + 12) = aR G 3 4 (fun k => some (ad (b + 14 + 9 * k)))) (f_t : w (b + 14 + 9 * t) = .inr (5, [.ref (ad ((b + 14 + 9 * t) + 1)), .ref (ad ((b + 14 + 9 * t) + 2)), .ref (ad ((b + 14 + 9 * t) + 3)), .ref (ad ((b + 14 + 9 * t) + 4)), .int (iI ((sa : Nat) : Int)), .long (jI ((sc : Nat) : Int)), .long (jI ((tk : Nat) : Int))])) (f_e : w ((b + 14 + 9 * t) + 4) = .inr (2, [.int (iI ((en : Nat) : Int)), .ref (ad (((b + 14 + 9 * t) + 4) + 1)), .ref (ad (((b + 14 + 9 * t) + 4) + 2)), .ref (ad (((b + 14 + 9 * t) + 4) + 3)), .ref (ad (((b + 14 + 9 * t) + 4) + 4))])) : Met l yX6_forget wsX6_forget ({ frames := 2, cells := 0, slots := 0, locals := 43 }) (va_Pc [.ref (ad x), .int (iI ((t : Nat) : Int))] (nB G N ad w sz)) (nPi G N ad sz (fun r u => (∀ j, j ≠ ((b + 14 + 9 * t) + 4) → u j = w j) ∧ (r = 1) ∧ (u ((b + 14 + 9 * t) + 4) = .inr (2, [.int (iI ((0 : Nat) : Int)), .ref (ad (((b + 14 + 9 * t) + 4) + 1)), .ref (ad (((b + 14 + 9 * t) + 4) + 2)), .ref (ad (((b + 14 + 9 * t) + 4) + 3)), .ref (ad (((b + 14 + 9 * t) + 4) + 4))])))) 0 0 (nA N ad sz) := by
  refine n_ent (cc := cX6_forget) (maxL := 3) (ret := (some .boolean)) (by decide) rfl (Nat.le_of_ble_eq_true rfl) ?_
  intro p e s m below meth cd hx hb hr hml hlocks hts hown hnm hsz hP hK hI Q hQ ls hl
  have hown : s.vm.findClass RX6 = some m.cls := hown
  subst hsz
  have hJ := hI.J s.heap.size
  have hS : va_S (nA N ad s.heap.size) s.heap s.heap [] := va_S.rf
  have hfr : ∀ j, j ≠ ((b + 14 + 9 * t) + 4) → w j = w j := fun _ _ => rfl
  have hl : lv_has ls 3 [(0, .ref (ad x)), (1, .int (iI ((t : Nat) : Int)))] := hl
  refine lv_aload_n hx hb dX6_forget_0 rfl (lv_at hl 0 rfl) ?_
  refine n_get hx hb hts u_X6 hown hK hP (by omega) f_x rfl 0 (by decide) (nT_m wf_X6_10) rfl dX6_forget_1 ?_
  refine lv_iload_n hx hb dX6_forget_4 rfl (lv_at hl 1 rfl) ?_
  refine n_rdF (va_runV (As := [.int (iI ((t : Nat) : Int))]) (rest := []) ⟨hx, hb, hml, hown, hts⟩ (c_X4_tillAt_y _ _ _ _ _ t (by omega) (by omega) (by omega) f_L f_ts) (cwV 1 hts (nT_V wl_X6_137 wi_X4_tillAt ws_X4_tillAt wn_X4 wc_X4_tillAt) rfl rfl rfl (by decide +kernel) ⟨Nat.le_of_ble_eq_true rfl, Nat.le_of_ble_eq_true rfl⟩) (nB.preV hK hI hP (by omega) f_L rfl rfl) rfl rfl hl.1 rfl (lv_room (Nat.le_of_ble_eq_true rfl)) dX6_forget_5 ⟨Nat.zero_le _, Nat.zero_le _⟩) ?_
  refine lv_astore_n (lv' := [(2, .ref (ad (b + 14 + 9 * t))), (0, .ref (ad x)), (1, .int (iI ((t : Nat) : Int)))]) hx hb dX6_forget_8 rfl hl (by decide) rfl (fun ls hl => ?_)
  refine lv_aload_n hx hb dX6_forget_9 rfl (lv_at hl 0 rfl) ?_
  refine lv_ifnonnull (tgt := 15) hx hb dX6_forget_10 (by decide) ?_
  refine lv_aload_n hx hb dX6_forget_15 rfl (lv_at hl 0 rfl) ?_
  refine n_get hx hb hts u_X5 hown hK hP (by omega) f_t rfl 3 (by decide) (nT_m wf_X6_202) rfl dX6_forget_16 ?_
  refine n_iconst hx hb dX6_forget_19 ?_
  refine n_put hx hb hts u_X2 tyX2 tyX2_ok nmX2 hown hK hJ hP hS (by omega) f_e rfl 0 (by decide) (nT_m wf_X6_206) rfl rfl rfl (Nat.le_of_ble_eq_true rfl) dX6_forget_20 (fun w1 H locs f_e hne2 hP hS => ?_)
  have f_e : w1 ((b + 14 + 9 * t) + 4) = .inr (2, [.int (iI 0), .ref (ad (((b + 14 + 9 * t) + 4) + 1)), .ref (ad (((b + 14 + 9 * t) + 4) + 2)), .ref (ad (((b + 14 + 9 * t) + 4) + 3)), .ref (ad (((b + 14 + 9 * t) + 4) + 4))]) := f_e
  have f_x := (hne2 x (by omega)).trans f_x
  have f_L := (hne2 b (by omega)).trans f_L
  have f_ts := (hne2 (b + 12) (by omega)).trans f_ts
  have f_t := (hne2 (b + 14 + 9 * t) (by omega)).trans f_t
  have hfr : ∀ j, j ≠ ((b + 14 + 9 * t) + 4) → w1 j = w j := fun j a0 => (hne2 j (by omega)).trans (hfr j a0)
  refine n_iconst hx hb dX6_forget_23 ?_
  refine n_zretP (t := True) hQ hx hb hr hlocks rfl hP hS dX6_forget_24 ?_
  exact ⟨hfr, rfl, f_e⟩
set_option maxHeartbeats 4000000 in
set_option maxRecDepth 100000 in
theorem c_X6_about_2 {l : Launch} {G : nG} {N : Nat} {ad : Nat → Nat} {w : Nat → va_E} {sz : Nat} (x b tn ra rb stp : Nat) (gn : Nat) (gp gt : Nat → Nat) (z : Int) (hN : x + 218 < N) (hxb : b = x + 1) (hgp : ∀ k, gp k ≤ 10000) (hgt : ∀ k, gt k ≤ 100) (hg : gn ≤ 14) (hz : -2147483648 ≤ z ∧ z < 2147483648) (f_x : w x = .inr (6, [.ref (ad b), .ref (ad (x + 51)), .ref (ad (x + 52)), .ref (ad (x + 53)), .ref (ad (x + 67)), .ref (ad (x + 68))])) (f_L : w b = .inr (4, [.ref (ad (b + 1)), .ref (ad (b + 5)), .ref (ad (b + 9)), .ref (ad (b + 12)), .ref (ad (b + 13)), .int (iI ((tn : Nat) : Int)), .int (iI ((ra : Nat) : Int)), .int (iI ((rb : Nat) : Int)), .int (iI ((stp : Nat) : Int))])) (f_g : w (b + 9) = .inr (3, [.int (iI ((gn : Nat) : Int)), .ref (ad ((b + 9) + 1)), .ref (ad ((b + 9) + 2))])) (f_gp : w ((b + 9) + 1) = aI G 14 (fun q => (gp q : Int))) (f_gt : w ((b + 9) + 2) = aI G 14 (fun q => (gt q : Int))) : Met l yX6_about wsX6_about ({ frames := 4, cells := 0, slots := 0, locals := 85 }) (va_Pc [.ref (ad x), .int (iI 2), .int (iI z)] (nB G N ad w sz)) (nRd (.int (iI (ldD gn tn ra rb stp gp gt z)))) 0 0 (fun _ => False) := by
  refine n_ent (cc := cX6_about) (maxL := 4) (ret := (some .int)) (by decide) rfl (Nat.le_of_ble_eq_true rfl) ?_
  intro p e s m below meth cd hx hb hr hml hlocks hts hown hnm hsz hP hK hI Q hQ ls hl
  have hown : s.vm.findClass RX6 = some m.cls := hown
  have hl : lv_has ls 4 [(0, .ref (ad x)), (1, .int (iI 2)), (2, .int (iI z))] := hl
  refine lv_iload_n hx hb dX6_about_0 rfl (lv_at hl 1 rfl) ?_
  refine n_iconst hx hb dX6_about_1 ?_
  refine n_icmp_ne (tgt := 14) hx hb dX6_about_2 (by decide) (by omega) (by omega) (fun hc2 => ?_) (fun hc2 => ?_)
  · skip
    exact absurd hc2 (by omega)
  · skip
    refine lv_aload_n hx hb dX6_about_5 rfl (lv_at hl 0 rfl) ?_
    refine n_get hx hb hts u_X6 hown hK hP (by omega) f_x rfl 0 (by decide) (nT_m wf_X6_10) rfl dX6_about_6 ?_
    refine lv_iload_n hx hb dX6_about_9 rfl (lv_at hl 2 rfl) ?_
    refine n_rdF (va_runV (As := [.int (iI z)]) (rest := []) ⟨hx, hb, hml, hown, hts⟩ (c_X4_detail _ _ _ _ _ _ gp gt z (by omega) hgp hgt hg hz f_L f_g f_gp f_gt) (cwV 1 hts (nT_V wl_X6_218 wi_X4_detail ws_X4_detail wn_X4 wc_X4_detail) rfl rfl rfl (by decide +kernel) ⟨Nat.le_of_ble_eq_true rfl, Nat.le_of_ble_eq_true rfl⟩) (nB.preV hK hI hP (by omega) f_L rfl rfl) rfl rfl hl.1 rfl (lv_room (Nat.le_of_ble_eq_true rfl)) dX6_about_10 ⟨Nat.zero_le _, Nat.zero_le _⟩) ?_
    exact n_iretR hQ hx hb hr hlocks rfl dX6_about_13
set_option maxHeartbeats 4000000 in
set_option maxRecDepth 100000 in
theorem c_X6_about_s {l : Launch} {G : nG} {N : Nat} {ad : Nat → Nat} {w : Nat → va_E} {sz : Nat} (x b tn ra rb stp : Nat) (sy cnt : Nat) (val : Nat → Nat) (z : Int) (hN : x + 218 < N) (hxb : b = x + 1) (hs : sy < 2) (hc : cnt ≤ 8) (hval : ∀ k, val k ≤ 1000) (hz : -2147483648 ≤ z ∧ z < 2147483648) (f_x : w x = .inr (6, [.ref (ad b), .ref (ad (x + 51)), .ref (ad (x + 52)), .ref (ad (x + 53)), .ref (ad (x + 67)), .ref (ad (x + 68))])) (f_L : w b = .inr (4, [.ref (ad (b + 1)), .ref (ad (b + 5)), .ref (ad (b + 9)), .ref (ad (b + 12)), .ref (ad (b + 13)), .int (iI ((tn : Nat) : Int)), .int (iI ((ra : Nat) : Int)), .int (iI ((rb : Nat) : Int)), .int (iI ((stp : Nat) : Int))])) (f_o : w (b + 1 + 4 * sy) = .inr (1, [.int (iI ((cnt : Nat) : Int)), .ref (ad ((b + 1 + 4 * sy) + 1)), .ref (ad ((b + 1 + 4 * sy) + 2)), .ref (ad ((b + 1 + 4 * sy) + 3))])) (f_v : w ((b + 1 + 4 * sy) + 1) = aI G 8 (fun q => (val q : Int))) : Met l yX6_about wsX6_about ({ frames := 4, cells := 0, slots := 0, locals := 85 }) (va_Pc [.ref (ad x), .int (iI ((sy : Nat) : Int)), .int (iI z)] (nB G N ad w sz)) (nRd (.int (iI (if z = 0 then (cnt : Int) else if 10 ≤ z ∧ z < 10 + (cnt : Int) then (val (z - 10).toNat : Int) else -1)))) 0 0 (fun _ => False) := by
  refine n_ent (cc := cX6_about) (maxL := 4) (ret := (some .int)) (by decide) rfl (Nat.le_of_ble_eq_true rfl) ?_
  intro p e s m below meth cd hx hb hr hml hlocks hts hown hnm hsz hP hK hI Q hQ ls hl
  have hown : s.vm.findClass RX6 = some m.cls := hown
  have hl : lv_has ls 4 [(0, .ref (ad x)), (1, .int (iI ((sy : Nat) : Int))), (2, .int (iI z))] := hl
  refine lv_iload_n hx hb dX6_about_0 rfl (lv_at hl 1 rfl) ?_
  refine n_iconst hx hb dX6_about_1 ?_
  refine n_icmp_ne (tgt := 14) hx hb dX6_about_2 (by decide) (by omega) (by omega) (fun hc2 => ?_) (fun hc2 => ?_)
  · skip
    refine lv_aload_n hx hb dX6_about_14 rfl (lv_at hl 0 rfl) ?_
    refine n_get hx hb hts u_X6 hown hK hP (by omega) f_x rfl 0 (by decide) (nT_m wf_X6_10) rfl dX6_about_15 ?_
    refine lv_iload_n hx hb dX6_about_18 rfl (lv_at hl 1 rfl) ?_
    refine n_rdF (va_runV (As := [.int (iI ((sy : Nat) : Int))]) (rest := []) ⟨hx, hb, hml, hown, hts⟩ (c_X4_coinageOf_y _ _ _ _ _ sy (by omega) (by omega) f_L) (cwV 1 hts (nT_V wl_X6_39 wi_X4_coinageOf ws_X4_coinageOf wn_X4 wc_X4_coinageOf) rfl rfl rfl (by decide +kernel) ⟨Nat.le_of_ble_eq_true rfl, Nat.le_of_ble_eq_true rfl⟩) (nB.preV hK hI hP (by omega) f_L rfl rfl) rfl rfl hl.1 rfl (lv_room (Nat.le_of_ble_eq_true rfl)) dX6_about_19 ⟨Nat.zero_le _, Nat.zero_le _⟩) ?_
    refine lv_astore_n (lv' := [(3, .ref (ad (b + 1 + 4 * sy))), (0, .ref (ad x)), (1, .int (iI ((sy : Nat) : Int))), (2, .int (iI z))]) hx hb dX6_about_22 rfl hl (by decide) rfl (fun ls hl => ?_)
    refine lv_aload_n hx hb dX6_about_23 rfl (lv_at hl 0 rfl) ?_
    refine lv_ifnonnull (tgt := 31) hx hb dX6_about_24 (by decide) ?_
    refine lv_aload_n hx hb dX6_about_31 rfl (lv_at hl 0 rfl) ?_
    refine lv_iload_n hx hb dX6_about_32 rfl (lv_at hl 3 rfl) ?_
    refine n_rdF (va_runV (As := [.int (iI z)]) (rest := []) ⟨hx, hb, hml, hown, hts⟩ (c_X1_detail _ cnt val z (by omega) hc hz hval f_o f_v) (cwV 1 hts (nT_V wl_X6_221 wi_X1_detail ws_X1_detail wn_X1 wc_X1_detail) rfl rfl rfl (by decide +kernel) ⟨Nat.le_of_ble_eq_true rfl, Nat.le_of_ble_eq_true rfl⟩) (nB.preV hK hI hP (by omega) f_o rfl rfl) rfl rfl hl.1 rfl (lv_room (Nat.le_of_ble_eq_true rfl)) dX6_about_33 ⟨Nat.zero_le _, Nat.zero_le _⟩) ?_
    exact n_iretR hQ hx hb hr hlocks rfl dX6_about_36
  · skip
    exact absurd hc2 (by omega)
set_option maxHeartbeats 4000000 in
set_option maxRecDepth 100000 in
theorem c_X6_about_no {l : Launch} {G : nG} {N : Nat} {ad : Nat → Nat} {w : Nat → va_E} {sz : Nat} (x b tn ra rb stp : Nat) (y z : Int) (hN : x + 218 < N) (hxb : b = x + 1) (hy : -2147483648 ≤ y ∧ y < 2147483648) (hno : ¬ y = 0 ∧ ¬ y = 1 ∧ ¬ y = 2) (f_x : w x = .inr (6, [.ref (ad b), .ref (ad (x + 51)), .ref (ad (x + 52)), .ref (ad (x + 53)), .ref (ad (x + 67)), .ref (ad (x + 68))])) (f_L : w b = .inr (4, [.ref (ad (b + 1)), .ref (ad (b + 5)), .ref (ad (b + 9)), .ref (ad (b + 12)), .ref (ad (b + 13)), .int (iI ((tn : Nat) : Int)), .int (iI ((ra : Nat) : Int)), .int (iI ((rb : Nat) : Int)), .int (iI ((stp : Nat) : Int))])) : Met l yX6_about wsX6_about ({ frames := 4, cells := 0, slots := 0, locals := 85 }) (va_Pc [.ref (ad x), .int (iI y), .int (iI z)] (nB G N ad w sz)) (nRd (.int (iI (-1)))) 0 0 (fun _ => False) := by
  refine n_ent (cc := cX6_about) (maxL := 4) (ret := (some .int)) (by decide) rfl (Nat.le_of_ble_eq_true rfl) ?_
  intro p e s m below meth cd hx hb hr hml hlocks hts hown hnm hsz hP hK hI Q hQ ls hl
  have hown : s.vm.findClass RX6 = some m.cls := hown
  have hl : lv_has ls 4 [(0, .ref (ad x)), (1, .int (iI y)), (2, .int (iI z))] := hl
  refine lv_iload_n hx hb dX6_about_0 rfl (lv_at hl 1 rfl) ?_
  refine n_iconst hx hb dX6_about_1 ?_
  refine n_icmp_ne (tgt := 14) hx hb dX6_about_2 (by decide) (by omega) (by omega) (fun hc2 => ?_) (fun hc2 => ?_)
  · skip
    refine lv_aload_n hx hb dX6_about_14 rfl (lv_at hl 0 rfl) ?_
    refine n_get hx hb hts u_X6 hown hK hP (by omega) f_x rfl 0 (by decide) (nT_m wf_X6_10) rfl dX6_about_15 ?_
    refine lv_iload_n hx hb dX6_about_18 rfl (lv_at hl 1 rfl) ?_
    refine n_rdF (va_runV (As := [.int (iI y)]) (rest := []) ⟨hx, hb, hml, hown, hts⟩ (c_X4_coinageOf_n _ _ _ _ _ y (by omega) (by omega) (by omega) f_L) (cwV 1 hts (nT_V wl_X6_39 wi_X4_coinageOf ws_X4_coinageOf wn_X4 wc_X4_coinageOf) rfl rfl rfl (by decide +kernel) ⟨Nat.le_of_ble_eq_true rfl, Nat.le_of_ble_eq_true rfl⟩) (nB.preV hK hI hP (by omega) f_L rfl rfl) rfl rfl hl.1 rfl (lv_room (Nat.le_of_ble_eq_true rfl)) dX6_about_19 ⟨Nat.zero_le _, Nat.zero_le _⟩) ?_
    refine lv_astore_nN (lv' := [(3, .null), (0, .ref (ad x)), (1, .int (iI y)), (2, .int (iI z))]) hx hb dX6_about_22 rfl hl (by decide) rfl (fun ls hl => ?_)
    refine lv_aload_nN hx hb dX6_about_23 rfl (lv_at hl 0 rfl) ?_
    refine lv_ifnonnullN hx hb dX6_about_24 ?_
    refine n_iconst hx hb dX6_about_27 ?_
    refine lv_goto (tgt := 36) hx hb dX6_about_28 (by decide) ?_
    exact n_iretR hQ hx hb hr hlocks rfl dX6_about_36
  · skip
    exact absurd hc2 (by omega)
set_option maxHeartbeats 4000000 in
set_option maxRecDepth 100000 in
theorem c_X6_sale_no {l : Launch} {G : nG} {N : Nat} {ad : Nat → Nat} {w : Nat → va_E} {sz : Nat} (x b tn ra rb stp : Nat) (cn sa sc tk : Nat → Nat) (tz pz y z nz : Int) (hN : x + 218 < N) (hxb : b = x + 1) (hcn : ∀ k, k < 2 → cn k ≤ 8) (htn : tn ≤ 4) (hT : ∀ t, t < 4 → w (b + 14 + 9 * t) = .inr (5, [.ref (ad (b + 14 + 9 * t + 1)), .ref (ad (b + 14 + 9 * t + 2)), .ref (ad (b + 14 + 9 * t + 3)), .ref (ad (b + 14 + 9 * t + 4)), .int (iI ((sa t : Nat) : Int)), .long (jI ((sc t : Nat) : Int)), .long (jI ((tk t : Nat) : Int))])) (htz : -2147483648 ≤ tz ∧ tz < 2147483648) (hpz : -2147483648 ≤ pz ∧ pz < 2147483648) (hy : -2147483648 ≤ y ∧ y < 2147483648) (hz : -2147483648 ≤ z ∧ z < 2147483648) (hnz : -2147483648 ≤ nz ∧ nz < 2147483648) (hno : ¬ ((0 ≤ tz ∧ tz < (tn : Int)) ∧ ((1 ≤ pz ∧ pz ≤ 2000) ∧ (1 ≤ nz ∧ nz ≤ 50) ∧ (y = 0 ∨ y = 1) ∧ (0 ≤ z ∧ z < (cn y.toNat : Int))))) (f_x : w x = .inr (6, [.ref (ad b), .ref (ad (x + 51)), .ref (ad (x + 52)), .ref (ad (x + 53)), .ref (ad (x + 67)), .ref (ad (x + 68))])) (f_L : w b = .inr (4, [.ref (ad (b + 1)), .ref (ad (b + 5)), .ref (ad (b + 9)), .ref (ad (b + 12)), .ref (ad (b + 13)), .int (iI ((tn : Nat) : Int)), .int (iI ((ra : Nat) : Int)), .int (iI ((rb : Nat) : Int)), .int (iI ((stp : Nat) : Int))])) (f_ts : w (b + 12) = aR G 3 4 (fun k => some (ad (b + 14 + 9 * k)))) (f_cn : ∀ k, k < 2 → w (b + 1 + 4 * k) = .inr (1, [.int (iI ((cn k : Nat) : Int)), .ref (ad (b + 1 + 4 * k + 1)), .ref (ad (b + 1 + 4 * k + 2)), .ref (ad (b + 1 + 4 * k + 3))])) : Met l yX6_sale wsX6_sale ({ frames := 4, cells := 0, slots := 0, locals := 104 }) (va_Pc [.ref (ad x), .int (iI tz), .int (iI pz), .int (iI y), .int (iI z), .int (iI nz)] (nB G N ad w sz)) (nRd (.int (iI (-1)))) 0 0 (fun _ => False) := by
  refine n_ent (cc := cX6_sale) (maxL := 10) (ret := (some .int)) (by decide) rfl (Nat.le_of_ble_eq_true rfl) ?_
  intro p e s m below meth cd hx hb hr hml hlocks hts hown hnm hsz hP hK hI Q hQ ls hl
  have hown : s.vm.findClass RX6 = some m.cls := hown
  have hl : lv_has ls 10 [(0, .ref (ad x)), (1, .int (iI tz)), (2, .int (iI pz)), (3, .int (iI y)), (4, .int (iI z)), (5, .int (iI nz))] := hl
  refine lv_aload_n hx hb dX6_sale_0 rfl (lv_at hl 0 rfl) ?_
  refine n_get hx hb hts u_X6 hown hK hP (by omega) f_x rfl 0 (by decide) (nT_m wf_X6_10) rfl dX6_sale_1 ?_
  refine lv_iload_n hx hb dX6_sale_4 rfl (lv_at hl 1 rfl) ?_
  by_cases ht9 : 0 ≤ tz ∧ tz < (tn : Int)
  · skip
    obtain ⟨t, rfl⟩ : ∃ t : Nat, tz = (t : Int) := ⟨(tz).toNat, by omega⟩
    have f_t := hT t (by omega)
    refine n_rdF (va_runV (As := [.int (iI ((t : Nat) : Int))]) (rest := []) ⟨hx, hb, hml, hown, hts⟩ (c_X4_tillAt_y _ _ _ _ _ t (by omega) (by omega) (by omega) f_L f_ts) (cwV 1 hts (nT_V wl_X6_137 wi_X4_tillAt ws_X4_tillAt wn_X4 wc_X4_tillAt) rfl rfl rfl (by decide +kernel) ⟨Nat.le_of_ble_eq_true rfl, Nat.le_of_ble_eq_true rfl⟩) (nB.preV hK hI hP (by omega) f_L rfl rfl) rfl rfl hl.1 rfl (lv_room (Nat.le_of_ble_eq_true rfl)) dX6_sale_5 ⟨Nat.zero_le _, Nat.zero_le _⟩) ?_
    refine lv_astore (lv' := [(6, .ref (ad (b + 14 + 9 * t))), (0, .ref (ad x)), (1, .int (iI ((t : Nat) : Int))), (2, .int (iI pz)), (3, .int (iI y)), (4, .int (iI z)), (5, .int (iI nz))]) hx hb dX6_sale_8 hl (by decide) rfl (fun ls hl => ?_)
    refine lv_aload hx hb dX6_sale_10 (lv_at hl 0 rfl) ?_
    refine lv_ifnull hx hb dX6_sale_12 ?_
    refine lv_aload_n hx hb dX6_sale_15 rfl (lv_at hl 1 rfl) ?_
    refine n_get hx hb hts u_X6 hown hK hP (by omega) f_x rfl 0 (by decide) (nT_m wf_X6_10) rfl dX6_sale_16 ?_
    refine lv_iload_n hx hb dX6_sale_19 rfl (lv_at hl 3 rfl) ?_
    refine lv_iload_n hx hb dX6_sale_20 rfl (lv_at hl 4 rfl) ?_
    refine lv_iload hx hb dX6_sale_21 (lv_at hl 5 rfl) ?_
    refine lv_iload hx hb dX6_sale_23 (lv_at hl 6 rfl) ?_
    refine n_rdF (va_runV (As := [.int (iI pz), .int (iI y), .int (iI z), .int (iI nz)]) (rest := []) ⟨hx, hb, hml, hown, hts⟩ (c_X4_isSale _ _ _ _ _ cn pz y z nz (by omega) hcn (by omega) (by omega) (by omega) (by omega) f_L f_cn) (cwV 4 hts (nT_V wl_X6_152 wi_X4_isSale ws_X4_isSale wn_X4 wc_X4_isSale) rfl rfl rfl (by decide +kernel) ⟨Nat.le_of_ble_eq_true rfl, Nat.le_of_ble_eq_true rfl⟩) (nB.preV hK hI hP (by omega) f_L rfl rfl) rfl rfl hl.1 rfl (lv_room (Nat.le_of_ble_eq_true rfl)) dX6_sale_25 ⟨Nat.zero_le _, Nat.zero_le _⟩) ?_
    refine n_if_neB (tgt := 33) hx hb dX6_sale_28 (by decide) (fun hc28 => ?_) (fun hc28 => ?_)
    · skip
      exact absurd ⟨ht9, hc28⟩ hno
    · skip
      refine n_iconst hx hb dX6_sale_31 ?_
      exact n_iretR hQ hx hb hr hlocks rfl dX6_sale_32
  · skip
    refine n_rdF (va_runV (As := [.int (iI tz)]) (rest := []) ⟨hx, hb, hml, hown, hts⟩ (c_X4_tillAt_n _ _ _ _ _ tz (by omega) (by omega) (by omega) (by omega) f_L) (cwV 1 hts (nT_V wl_X6_137 wi_X4_tillAt ws_X4_tillAt wn_X4 wc_X4_tillAt) rfl rfl rfl (by decide +kernel) ⟨Nat.le_of_ble_eq_true rfl, Nat.le_of_ble_eq_true rfl⟩) (nB.preV hK hI hP (by omega) f_L rfl rfl) rfl rfl hl.1 rfl (lv_room (Nat.le_of_ble_eq_true rfl)) dX6_sale_5 ⟨Nat.zero_le _, Nat.zero_le _⟩) ?_
    refine lv_astoreN (lv' := [(6, .null), (0, .ref (ad x)), (1, .int (iI tz)), (2, .int (iI pz)), (3, .int (iI y)), (4, .int (iI z)), (5, .int (iI nz))]) hx hb dX6_sale_8 hl (by decide) rfl (fun ls hl => ?_)
    refine lv_aloadN hx hb dX6_sale_10 (lv_at hl 0 rfl) ?_
    refine lv_ifnullN (tgt := 31) hx hb dX6_sale_12 (by decide) ?_
    refine n_iconst hx hb dX6_sale_31 ?_
    exact n_iretR hQ hx hb hr hlocks rfl dX6_sale_32

theorem spare_rng {sy ra rb c v a : Nat} (hc : c ≤ 50) (hv : v ≤ 1000) (hra : ra ≤ 100) (hrb : rb ≤ 100) (ha : a ≤ 2000) : -200000 ≤ ((c : Nat) : Int) * (v : Int) * ((if sy = 0 then ra else rb : Nat) : Int) - ((a : Nat) : Int) * ((rb : Nat) : Int) ∧ ((c : Nat) : Int) * (v : Int) * ((if sy = 0 then ra else rb : Nat) : Int) - ((a : Nat) : Int) * ((rb : Nat) : Int) ≤ 5000000 := by
  have h1 : c * v * (if sy = 0 then ra else rb) ≤ 50 * 1000 * 100 := Nat.mul_le_mul (Nat.mul_le_mul hc hv) (by split <;> omega)
  have h2 : a * rb ≤ 2000 * 100 := Nat.mul_le_mul ha hrb
  have e1 : ((c : Nat) : Int) * (v : Int) * ((if sy = 0 then ra else rb : Nat) : Int) = ((c * v * (if sy = 0 then ra else rb) : Nat) : Int) := by
    rw [Int.natCast_mul, Int.natCast_mul]
  have e2 : ((a : Nat) : Int) * ((rb : Nat) : Int) = ((a * rb : Nat) : Int) := by rw [Int.natCast_mul]
  rw [e1, e2]
  omega
theorem up_back (F : Nat → Int) (k : Nat) (z n : Int) (h : z - n = F k) : va_up (va_up F k z) k (z - n) = F := by
  funext q
  unfold va_up
  by_cases e : q = k
  · subst e
    rw [if_pos rfl, h]
  · rw [if_neg e, if_neg e]
set_option maxHeartbeats 4000000 in
set_option maxRecDepth 100000 in
theorem c_X6_sale_ref {l : Launch} {G : nG} {N : Nat} {ad : Nat → Nat} {w : Nat → va_E} {sz : Nat} (x b tn ra rb stp : Nat) (cn : Nat → Nat) (sa sc tk t sy kk a c : Nat) (hs vl : Nat → Nat → Nat) (hN : x + 218 < N) (hxb : b = x + 1) (hcn : ∀ k, k < 2 → cn k ≤ 8) (htn : tn ≤ 4) (hra : 1 ≤ ra ∧ ra ≤ 100) (hrb : 1 ≤ rb ∧ rb ≤ 100) (hhb : ∀ s1 q, hs s1 q ≤ 1000) (hvl : ∀ s1 q, vl s1 q ≤ 1000) (ht : t < tn) (hs_ : sy < 2) (hk : kk < cn sy) (ha : 1 ≤ a ∧ a ≤ 2000) (hc : 1 ≤ c ∧ c ≤ 50) (hno : ((c : Nat) : Int) * (vl sy kk : Int) * ((if sy = 0 then ra else rb : Nat) : Int) - ((a : Nat) : Int) * ((rb : Nat) : Int) < 0 ∨ 1000 < hs sy kk + c) (f_x : w x = .inr (6, [.ref (ad b), .ref (ad (x + 51)), .ref (ad (x + 52)), .ref (ad (x + 53)), .ref (ad (x + 67)), .ref (ad (x + 68))])) (f_L : w b = .inr (4, [.ref (ad (b + 1)), .ref (ad (b + 5)), .ref (ad (b + 9)), .ref (ad (b + 12)), .ref (ad (b + 13)), .int (iI ((tn : Nat) : Int)), .int (iI ((ra : Nat) : Int)), .int (iI ((rb : Nat) : Int)), .int (iI ((stp : Nat) : Int))])) (f_ts : w (b + 12) = aR G 3 4 (fun k => some (ad (b + 14 + 9 * k)))) (f_cn : ∀ k, k < 2 → w (b + 1 + 4 * k) = .inr (1, [.int (iI ((cn k : Nat) : Int)), .ref (ad (b + 1 + 4 * k + 1)), .ref (ad (b + 1 + 4 * k + 2)), .ref (ad (b + 1 + 4 * k + 3))])) (f_vs : ∀ k, k < 2 → w (b + 1 + 4 * k + 1) = aI G 8 (fun q => (vl k q : Int))) (f_t : w (b + 14 + 9 * t) = .inr (5, [.ref (ad ((b + 14 + 9 * t) + 1)), .ref (ad ((b + 14 + 9 * t) + 2)), .ref (ad ((b + 14 + 9 * t) + 3)), .ref (ad ((b + 14 + 9 * t) + 4)), .int (iI ((sa : Nat) : Int)), .long (jI ((sc : Nat) : Int)), .long (jI ((tk : Nat) : Int))])) (f_hs : ∀ s1, s1 < 2 → w ((b + 14 + 9 * t) + 1 + s1) = aI G 8 (fun q => (hs s1 q : Int))) : Met l yX6_sale wsX6_sale ({ frames := 4, cells := 0, slots := 0, locals := 104 }) (va_Pc [.ref (ad x), .int (iI ((t : Nat) : Int)), .int (iI ((a : Nat) : Int)), .int (iI ((sy : Nat) : Int)), .int (iI ((kk : Nat) : Int)), .int (iI ((c : Nat) : Int))] (nB G N ad w sz)) (nRd (.int (iI (-1)))) 0 0 (fun _ => False) := by
  refine n_ent (cc := cX6_sale) (maxL := 10) (ret := (some .int)) (by decide) rfl (Nat.le_of_ble_eq_true rfl) ?_
  intro p e s m below meth cd hx hb hr hml hlocks hts hown hnm hsz hP hK hI Q hQ ls hl
  have hown : s.vm.findClass RX6 = some m.cls := hown
  have hl : lv_has ls 10 [(0, .ref (ad x)), (1, .int (iI ((t : Nat) : Int))), (2, .int (iI ((a : Nat) : Int))), (3, .int (iI ((sy : Nat) : Int))), (4, .int (iI ((kk : Nat) : Int))), (5, .int (iI ((c : Nat) : Int)))] := hl
  have hc8 := hcn sy (by omega)
  have hsp := spare_rng (sy := sy) (ra := ra) (rb := rb) (a := a) hc.2 (hvl sy kk) hra.2 hrb.2 ha.2
  refine lv_aload_n hx hb dX6_sale_0 rfl (lv_at hl 0 rfl) ?_
  refine n_get hx hb hts u_X6 hown hK hP (by omega) f_x rfl 0 (by decide) (nT_m wf_X6_10) rfl dX6_sale_1 ?_
  refine lv_iload_n hx hb dX6_sale_4 rfl (lv_at hl 1 rfl) ?_
  refine n_rdF (va_runV (As := [.int (iI ((t : Nat) : Int))]) (rest := []) ⟨hx, hb, hml, hown, hts⟩ (c_X4_tillAt_y _ _ _ _ _ t (by omega) (by omega) (by omega) f_L f_ts) (cwV 1 hts (nT_V wl_X6_137 wi_X4_tillAt ws_X4_tillAt wn_X4 wc_X4_tillAt) rfl rfl rfl (by decide +kernel) ⟨Nat.le_of_ble_eq_true rfl, Nat.le_of_ble_eq_true rfl⟩) (nB.preV hK hI hP (by omega) f_L rfl rfl) rfl rfl hl.1 rfl (lv_room (Nat.le_of_ble_eq_true rfl)) dX6_sale_5 ⟨Nat.zero_le _, Nat.zero_le _⟩) ?_
  refine lv_astore (lv' := [(6, .ref (ad (b + 14 + 9 * t))), (0, .ref (ad x)), (1, .int (iI ((t : Nat) : Int))), (2, .int (iI ((a : Nat) : Int))), (3, .int (iI ((sy : Nat) : Int))), (4, .int (iI ((kk : Nat) : Int))), (5, .int (iI ((c : Nat) : Int)))]) hx hb dX6_sale_8 hl (by decide) rfl (fun ls hl => ?_)
  refine lv_aload hx hb dX6_sale_10 (lv_at hl 0 rfl) ?_
  refine lv_ifnull hx hb dX6_sale_12 ?_
  refine lv_aload_n hx hb dX6_sale_15 rfl (lv_at hl 1 rfl) ?_
  refine n_get hx hb hts u_X6 hown hK hP (by omega) f_x rfl 0 (by decide) (nT_m wf_X6_10) rfl dX6_sale_16 ?_
  refine lv_iload_n hx hb dX6_sale_19 rfl (lv_at hl 3 rfl) ?_
  refine lv_iload_n hx hb dX6_sale_20 rfl (lv_at hl 4 rfl) ?_
  refine lv_iload hx hb dX6_sale_21 (lv_at hl 5 rfl) ?_
  refine lv_iload hx hb dX6_sale_23 (lv_at hl 6 rfl) ?_
  refine n_rdF (va_runV (As := [.int (iI ((a : Nat) : Int)), .int (iI ((sy : Nat) : Int)), .int (iI ((kk : Nat) : Int)), .int (iI ((c : Nat) : Int))]) (rest := []) ⟨hx, hb, hml, hown, hts⟩ (c_X4_isSale _ _ _ _ _ cn ((a : Nat) : Int) ((sy : Nat) : Int) ((kk : Nat) : Int) ((c : Nat) : Int) (by omega) hcn (by omega) (by omega) (by omega) (by omega) f_L f_cn) (cwV 4 hts (nT_V wl_X6_152 wi_X4_isSale ws_X4_isSale wn_X4 wc_X4_isSale) rfl rfl rfl (by decide +kernel) ⟨Nat.le_of_ble_eq_true rfl, Nat.le_of_ble_eq_true rfl⟩) (nB.preV hK hI hP (by omega) f_L rfl rfl) rfl rfl hl.1 rfl (lv_room (Nat.le_of_ble_eq_true rfl)) dX6_sale_25 ⟨Nat.zero_le _, Nat.zero_le _⟩) ?_
  refine n_if_neB (tgt := 33) hx hb dX6_sale_28 (by decide) (fun hc28 => ?_) (fun hc28 => ?_)
  · skip
    refine lv_aload_n hx hb dX6_sale_33 rfl (lv_at hl 1 rfl) ?_
    refine n_get hx hb hts u_X6 hown hK hP (by omega) f_x rfl 0 (by decide) (nT_m wf_X6_10) rfl dX6_sale_34 ?_
    refine lv_iload_n hx hb dX6_sale_37 rfl (lv_at hl 3 rfl) ?_
    refine lv_iload_n hx hb dX6_sale_38 rfl (lv_at hl 4 rfl) ?_
    refine lv_iload hx hb dX6_sale_39 (lv_at hl 5 rfl) ?_
    refine lv_iload hx hb dX6_sale_41 (lv_at hl 6 rfl) ?_
    refine n_rdF (va_runV (As := [.int (iI ((a : Nat) : Int)), .int (iI ((sy : Nat) : Int)), .int (iI ((kk : Nat) : Int)), .int (iI ((c : Nat) : Int))]) (rest := []) ⟨hx, hb, hml, hown, hts⟩ (c_X4_spareParts _ _ _ _ _ sy (cn sy) (vl sy) a kk c (by omega) (by omega) (by omega) (hvl sy) hk f_L (f_cn sy (by omega)) (f_vs sy (by omega))) (cwV 4 hts (nT_V wl_X6_156 wi_X4_spareParts ws_X4_spareParts wn_X4 wc_X4_spareParts) rfl rfl rfl (by decide +kernel) ⟨Nat.le_of_ble_eq_true rfl, Nat.le_of_ble_eq_true rfl⟩) (nB.preV hK hI hP (by omega) f_L rfl rfl) rfl rfl hl.1 rfl (lv_room (Nat.le_of_ble_eq_true rfl)) dX6_sale_43 ⟨Nat.zero_le _, Nat.zero_le _⟩) ?_
    refine lv_istore (lv' := [(7, .int (iI (((c : Nat) : Int) * (vl sy kk : Int) * ((if sy = 0 then ra else rb : Nat) : Int) - ((a : Nat) : Int) * ((rb : Nat) : Int)))), (6, .ref (ad (b + 14 + 9 * t))), (0, .ref (ad x)), (1, .int (iI ((t : Nat) : Int))), (2, .int (iI ((a : Nat) : Int))), (3, .int (iI ((sy : Nat) : Int))), (4, .int (iI ((kk : Nat) : Int))), (5, .int (iI ((c : Nat) : Int)))]) hx hb dX6_sale_46 hl (by decide) rfl (fun ls hl => ?_)
    refine lv_aload hx hb dX6_sale_48 (lv_at hl 1 rfl) ?_
    refine lv_iload_n hx hb dX6_sale_50 rfl (lv_at hl 5 rfl) ?_
    refine n_rdF (va_runV (As := [.int (iI ((sy : Nat) : Int))]) (rest := []) ⟨hx, hb, hml, hown, hts⟩ (c_X5_countsOf _ _ _ _ sy (by omega) (by omega) f_t) (cwV 1 hts (nT_V wl_X6_144 wi_X5_countsOf ws_X5_countsOf wn_X5 wc_X5_countsOf) rfl rfl rfl (by decide +kernel) ⟨Nat.le_of_ble_eq_true rfl, Nat.le_of_ble_eq_true rfl⟩) (nB.preV hK hI hP (by omega) f_t rfl rfl) rfl rfl hl.1 rfl (lv_room (Nat.le_of_ble_eq_true rfl)) dX6_sale_51 ⟨Nat.zero_le _, Nat.zero_le _⟩) ?_
    refine lv_astore (lv' := [(8, .ref (ad ((b + 14 + 9 * t) + 1 + sy))), (7, .int (iI (((c : Nat) : Int) * (vl sy kk : Int) * ((if sy = 0 then ra else rb : Nat) : Int) - ((a : Nat) : Int) * ((rb : Nat) : Int)))), (6, .ref (ad (b + 14 + 9 * t))), (0, .ref (ad x)), (1, .int (iI ((t : Nat) : Int))), (2, .int (iI ((a : Nat) : Int))), (3, .int (iI ((sy : Nat) : Int))), (4, .int (iI ((kk : Nat) : Int))), (5, .int (iI ((c : Nat) : Int)))]) hx hb dX6_sale_54 hl (by decide) rfl (fun ls hl => ?_)
    have f_cs := f_hs sy (by omega)
    refine lv_iload hx hb dX6_sale_56 (lv_at hl 1 rfl) ?_
    refine n_if_lt (tgt := 75) hx hb dX6_sale_58 (by decide) (by omega) (fun hc58 => ?_) (fun hc58 => ?_)
    · skip
      refine n_iconst hx hb dX6_sale_75 ?_
      exact n_iretR hQ hx hb hr hlocks rfl dX6_sale_76
    · skip
      refine lv_aload hx hb dX6_sale_61 (lv_at hl 0 rfl) ?_
      refine lv_iload hx hb dX6_sale_63 (lv_at hl 7 rfl) ?_
      refine n_iald hx hb hK hP kk (by omega) f_cs (by omega) (by omega) (by decide) dX6_sale_65 ?_
      have ho1 := hhb sy kk
      refine lv_iload hx hb dX6_sale_66 (lv_at hl 8 rfl) ?_
      refine n_iadd hx hb dX6_sale_68 ?_
      refine n_sipush hx hb dX6_sale_69 (by decide) ?_
      refine n_icmp_le (tgt := 77) hx hb dX6_sale_72 (by decide) (by omega) (by omega) (fun hc72 => ?_) (fun hc72 => ?_)
      · skip
        omega
      · skip
        refine n_iconst hx hb dX6_sale_75 ?_
        exact n_iretR hQ hx hb hr hlocks rfl dX6_sale_76
  · skip
    exact absurd ⟨by omega, by omega, by omega, by rw [Int.toNat_natCast]; omega⟩ hc28
