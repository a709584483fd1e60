
theorem upS {F : Nat → Nat} {k : Nat} (h : F k = 0) : va_up (fun q => (F q : Int)) k 0 = fun q => (F q : Int) := by
  funext q
  unfold va_up
  by_cases e : q = k
  · rw [if_pos e, e, h]
    rfl
  · rw [if_neg e]
def zrS (F : Nat → Nat) (a q : Nat) : Nat → Nat := fun k => if a ≤ k ∧ k < a + q then 0 else F k
theorem zrS_0 (F : Nat → Nat) (a : Nat) : zrS F a 0 = F := by
  funext k
  unfold zrS
  rw [if_neg (by omega)]
theorem zrS_s (F : Nat → Nat) (a q : Nat) : va_up (fun k => ((zrS F a q k : Nat) : Int)) (a + q) 0 = fun k => ((zrS F a (q + 1) k : Nat) : Int) := by
  funext k
  unfold va_up zrS
  by_cases e : k = a + q
  · rw [if_pos e, if_pos (by omega)]
    rfl
  · rw [if_neg e]
    dsimp only
    by_cases h : a ≤ k ∧ k < a + q
    · rw [if_pos h, if_pos (by omega)]
    · rw [if_neg h, if_neg (by omega)]
theorem zrS_at {F : Nat → Nat} {a q k : Nat} (h : a + q ≤ k) : zrS F a q k = F k := by
  unfold zrS
  rw [if_neg (by omega)]
theorem addF_s7 (dr ol F : Nat → Nat) (a q : Nat) (h : ol q = F (a + q)) : va_up (fun k => ((addF dr ol q k : Nat) : Int)) q (((addF dr ol q q : Nat) : Int) + ((zrS F a q (a + q) : Nat) : Int)) = fun k => ((addF dr ol (q + 1) k : Nat) : Int) := by
  funext k
  rw [zrS_at (Nat.le_refl _), ← h]
  unfold va_up addF
  by_cases e1 : k = q
  · subst e1
    rw [if_pos rfl, if_neg (by omega), if_pos (by omega)]
    rfl
  · rw [if_neg e1]
    dsimp only
    by_cases h2 : k < q
    · rw [if_pos h2, if_pos (by omega)]
    · rw [if_neg h2, if_neg (by omega)]
theorem parts_s (ct val : Nat → Nat) (q r : Nat) : ((sumP ct val q : Nat) : Int) * ((r : Nat) : Int) + (ct q : Int) * (val q : Int) * ((r : Nat) : Int) = ((sumP ct val (q + 1) : Nat) : Int) * ((r : Nat) : Int) := by
  rw [← Int.add_mul]
  rfl
def nbF (bd : Nat → Nat) (q : Nat) : Nat → Nat := fun k => if k < q then 2000 else bd k
theorem nbF_0 (bd : Nat → Nat) : nbF bd 0 = bd := by
  funext k
  unfold nbF
  rw [if_neg (Nat.not_lt_zero k)]
theorem nbF_s (bd : Nat → Nat) (q : Nat) : va_up (fun k => ((nbF bd q k : Nat) : Int)) q 2000 = fun k => ((nbF bd (q + 1) k : Nat) : Int) := by
  funext k
  unfold va_up nbF
  by_cases e : k = q
  · rw [if_pos e, if_pos (by omega)]
    rfl
  · rw [if_neg e]
    dsimp only
    by_cases h : k < q
    · rw [if_pos h, if_pos (by omega)]
    · rw [if_neg h, if_neg (by omega)]
def mvF (F : Nat → Nat) (n f t q : Nat) : Nat → Nat := fun k => if n * t ≤ k ∧ k < n * t + q then F (k - n * t + n * f) else F k
theorem mvF_0 (F : Nat → Nat) (n f t : Nat) : mvF F n f t 0 = F := by
  funext k
  unfold mvF
  rw [if_neg (by omega)]
theorem mvF_at {F : Nat → Nat} {n f t q : Nat} (hq : q < n) (h : n * f + n ≤ n * t ∨ n * t + n ≤ n * f) : mvF F n f t q (n * f + q) = F (n * f + q) := by
  unfold mvF
  rw [if_neg (by omega)]
theorem mvF_s (F : Nat → Nat) (n f t q : Nat) : va_up (fun k => ((mvF F n f t q k : Nat) : Int)) (n * t + q) ((F (n * f + q) : Nat) : Int) = fun k => ((mvF F n f t (q + 1) k : Nat) : Int) := by
  funext k
  unfold va_up mvF
  by_cases e : k = n * t + q
  · rw [if_pos e, if_pos (by omega), show k - n * t + n * f = n * f + q by omega]
  · rw [if_neg e]
    dsimp only
    by_cases h : n * t ≤ k ∧ k < n * t + q
    · rw [if_pos h, if_pos (by omega)]
    · rw [if_neg h, if_neg (by omega)]
set_option maxHeartbeats 4000000 in
set_option maxRecDepth 100000 in
theorem c_X7_about_s {l : Launch} {G : nG} {N : Nat} {ad : Nat → Nat} {w : Nat → va_E} {sz : Nat} (y : Nat) (Co Va : Nat → Nat) (sy : Nat) (z : Int) (hN : y + 26 < N) (hCo : ∀ k, k < 2 → Co k ≤ 8) (hVa : ∀ k, k < 16 → Va k ≤ 1000) (hs : sy < 2) (hz : -2147483648 ≤ z ∧ z < 2147483648) (f_y : w y = .inr (7, [.int (iI 0), .ref (ad (y + 1)), .ref (ad (y + 2)), .ref (ad (y + 3)), .ref (ad (y + 4)), .ref (ad (y + 5)), .ref (ad (y + 6)), .ref (ad (y + 7)), .ref (ad (y + 8)), .ref (ad (y + 9)), .ref (ad (y + 10)), .ref (ad (y + 11)), .ref (ad (y + 12)), .ref (ad (y + 13)), .ref (ad (y + 14)), .ref (ad (y + 15)), .ref (ad (y + 16)), .ref (ad (y + 17)), .ref (ad (y + 18)), .ref (ad (y + 19)), .ref (ad (y + 20)), .ref (ad (y + 21)), .ref (ad (y + 22)), .ref (ad (y + 23)), .ref (ad (y + 24)), .ref (ad (y + 25)), .ref (ad (y + 26))])) (f_Co : w (y + 1) = aI G 8 (fun q => (Co q : Int))) (f_Va : w (y + 2) = aI G 64 (fun q => (Va q : Int))) : Met l yX7_about wsX7_about ({ frames := 1, cells := 0, slots := 0, locals := 22 }) (va_Pc [.ref (ad y), .int (iI ((sy : Nat) : Int)), .int (iI z)] (nB G N ad w sz)) (nPi G N ad sz (fun r u => (∀ j, u j = w j) ∧ (r = if z = 0 then (Co sy : Int) else if 10 ≤ z ∧ z < 10 + (Co sy : Int) then (Va (8 * sy + (z - 10).toNat) : Int) else -1))) 0 0 (nA N ad sz) := by
  refine n_ent (cc := cX7_about) (maxL := 3) (ret := (some .int)) (by decide) rfl (Nat.le_of_ble_eq_true rfl) ?_
  intro p e s m below meth cd hx hb hr hml hlocks hts hown hnm hsz hP hK hI Q hQ ls hl
  have hown : s.vm.findClass RX7 = some m.cls := hown
  subst hsz
  have hJ := hI.J s.heap.size
  have hS : va_S (nA N ad s.heap.size) s.heap s.heap [] := va_S.rf
  have hfr : ∀ j, w j = w j := fun _  => rfl
  have hl : lv_has ls 3 [(0, .ref (ad y)), (1, .int (iI ((sy : Nat) : Int))), (2, .int (iI z))] := hl
  refine lv_aload_n hx hb dX7_about_0 rfl (lv_at hl 0 rfl) ?_
  refine n_iconst hx hb dX7_about_1 ?_
  refine n_put hx hb hts u_X7 tyX7 tyX7_ok nmX7 hown hK hJ hP hS (by omega) f_y rfl 0 (by decide) (nT_m wf_X7_90) rfl rfl rfl (Nat.le_of_ble_eq_true rfl) dX7_about_2 (fun w1 H locs f9 hne9 hP hS => ?_)
  have ew9 : w = w1 := funext fun j9 => (Decidable.em (j9 = y)).elim (fun h9 => by rw [h9, f9]; exact f_y) (fun h9 => (hne9 j9 h9).symm)
  subst ew9
  have hcs := hCo sy hs
  refine lv_iload_n hx hb dX7_about_5 rfl (lv_at hl 1 rfl) ?_
  refine n_iconst hx hb dX7_about_6 ?_
  refine n_iconst hx hb dX7_about_7 ?_
  refine n_rdF (va_runS (As := [.int (iI ((sy : Nat) : Int)), .int (iI 0), .int (iI 1)]) (rest := []) ⟨hx, hb, hml, hown, hts⟩ (c_X7_in ((sy : Nat) : Int) 0 1 (by omega) (by omega) (by omega)) (va_cwS 3 hts (nT_S wl_X7_98 wt_X7_in wn_X7 wc_X7_in) rfl rfl rfl (by decide +kernel) ⟨Nat.le_of_ble_eq_true rfl, Nat.le_of_ble_eq_true rfl⟩) preEq rfl rfl hl.1 rfl (lv_room (Nat.le_of_ble_eq_true rfl)) dX7_about_8 ⟨Nat.zero_le _, Nat.zero_le _⟩) ?_
  refine n_if_eqB (tgt := 64) hx hb dX7_about_11 (by decide) (fun hc11 => ?_) (fun hc11 => ?_)
  · skip
    exact absurd hc11 (by omega)
  · skip
    refine lv_iload_n hx hb dX7_about_14 rfl (lv_at hl 2 rfl) ?_
    refine n_if_ne (tgt := 27) hx hb dX7_about_15 (by decide) (by omega) (fun hc15 => ?_) (fun hc15 => ?_)
    · skip
      refine lv_iload_n hx hb dX7_about_27 rfl (lv_at hl 2 rfl) ?_
      refine n_bipush hx hb dX7_about_28 (by decide) ?_
      refine n_bipush hx hb dX7_about_30 (by decide) ?_
      refine lv_aload_n hx hb dX7_about_32 rfl (lv_at hl 0 rfl) ?_
      refine n_get hx hb hts u_X7 hown hK hP (by omega) f_y rfl 1 (by decide) (nT_m wf_X7_7) rfl dX7_about_33 ?_
      refine lv_iload_n hx hb dX7_about_36 rfl (lv_at hl 1 rfl) ?_
      refine n_iald hx hb hK hP sy (by omega) f_Co (by omega) (by omega) (by decide) dX7_about_37 ?_
      have ho3 := hCo sy (by omega)
      refine n_iadd hx hb dX7_about_38 ?_
      refine n_rdF (va_runS (As := [.int (iI z), .int (iI 10), .int (iI (9 + (Co sy : Int)))]) (rest := []) ⟨hx, hb, hml, hown, hts⟩ (c_X7_in z 10 (9 + (Co sy : Int)) (by omega) (by omega) (by omega)) (va_cwS 3 hts (nT_S wl_X7_98 wt_X7_in wn_X7 wc_X7_in) rfl rfl rfl (by decide +kernel) ⟨Nat.le_of_ble_eq_true rfl, Nat.le_of_ble_eq_true rfl⟩) preEq rfl rfl hl.1 rfl (lv_room (Nat.le_of_ble_eq_true rfl)) dX7_about_39 ⟨Nat.zero_le _, Nat.zero_le _⟩) ?_
      refine n_if_eqB (tgt := 62) hx hb dX7_about_42 (by decide) (fun hc42 => ?_) (fun hc42 => ?_)
      · skip
        refine n_iconst hx hb dX7_about_62 ?_
        refine n_iretP hQ hx hb hr hlocks hP hS dX7_about_63 ?_
        exact ⟨hfr, by repeat (first | rw [if_pos (by omega)] | rw [if_neg (by omega)])⟩
      · skip
        refine lv_aload_n hx hb dX7_about_45 rfl (lv_at hl 0 rfl) ?_
        refine n_get hx hb hts u_X7 hown hK hP (by omega) f_y rfl 2 (by decide) (nT_m wf_X7_13) rfl dX7_about_46 ?_
        refine n_bipush hx hb dX7_about_49 (by decide) ?_
        refine lv_iload_n hx hb dX7_about_51 rfl (lv_at hl 1 rfl) ?_
        refine n_imul hx hb dX7_about_52 ?_
        refine lv_iload_n hx hb dX7_about_53 rfl (lv_at hl 2 rfl) ?_
        refine n_iadd hx hb dX7_about_54 ?_
        refine n_bipush hx hb dX7_about_55 (by decide) ?_
        refine n_isub hx hb dX7_about_57 ?_
        refine n_iald hx hb hK hP (8 * sy + (z - 10).toNat) (by omega) f_Va (by omega) (by omega) (by decide) dX7_about_58 ?_
        have ho4 := hVa (8 * sy + (z - 10).toNat) (by omega)
        refine lv_goto (tgt := 63) hx hb dX7_about_59 (by decide) ?_
        refine n_iretP hQ hx hb hr hlocks hP hS dX7_about_63 ?_
        exact ⟨hfr, by repeat (first | rw [if_pos (by omega)] | rw [if_neg (by omega)])⟩
    · skip
      refine lv_aload_n hx hb dX7_about_18 rfl (lv_at hl 0 rfl) ?_
      refine n_get hx hb hts u_X7 hown hK hP (by omega) f_y rfl 1 (by decide) (nT_m wf_X7_7) rfl dX7_about_19 ?_
      refine lv_iload_n hx hb dX7_about_22 rfl (lv_at hl 1 rfl) ?_
      refine n_iald hx hb hK hP sy (by omega) f_Co (by omega) (by omega) (by decide) dX7_about_23 ?_
      have ho5 := hCo sy (by omega)
      refine lv_goto (tgt := 63) hx hb dX7_about_24 (by decide) ?_
      refine n_iretP hQ hx hb hr hlocks hP hS dX7_about_63 ?_
      exact ⟨hfr, by repeat (first | rw [if_pos (by omega)] | rw [if_neg (by omega)])⟩
set_option maxHeartbeats 4000000 in
set_option maxRecDepth 100000 in
theorem c_X7_about_2 {l : Launch} {G : nG} {N : Nat} {ad : Nat → Nat} {w : Nat → va_E} {sz : Nat} (y : Nat) (Ra Go Pr Ti St Tl : Nat → Nat) (z : Int) (hN : y + 26 < N) (hRa : ∀ k, k < 2 → 1 ≤ Ra k ∧ Ra k ≤ 100) (hGo : ∀ k, k < 1 → Go k ≤ 14) (hPr : ∀ k, k < 14 → Pr k ≤ 10000) (hTi : ∀ k, k < 14 → Ti k ≤ 100) (hSt : ∀ k, k < 1 → 1 ≤ St k ∧ St k ≤ 100) (hTl : ∀ k, k < 1 → Tl k ≤ 4) (hz : -2147483648 ≤ z ∧ z < 2147483648) (f_y : w y = .inr (7, [.int (iI 0), .ref (ad (y + 1)), .ref (ad (y + 2)), .ref (ad (y + 3)), .ref (ad (y + 4)), .ref (ad (y + 5)), .ref (ad (y + 6)), .ref (ad (y + 7)), .ref (ad (y + 8)), .ref (ad (y + 9)), .ref (ad (y + 10)), .ref (ad (y + 11)), .ref (ad (y + 12)), .ref (ad (y + 13)), .ref (ad (y + 14)), .ref (ad (y + 15)), .ref (ad (y + 16)), .ref (ad (y + 17)), .ref (ad (y + 18)), .ref (ad (y + 19)), .ref (ad (y + 20)), .ref (ad (y + 21)), .ref (ad (y + 22)), .ref (ad (y + 23)), .ref (ad (y + 24)), .ref (ad (y + 25)), .ref (ad (y + 26))])) (f_Ra : w (y + 3) = aI G 8 (fun q => (Ra q : Int))) (f_Go : w (y + 5) = aI G 4 (fun q => (Go q : Int))) (f_Pr : w (y + 6) = aI G 56 (fun q => (Pr q : Int))) (f_Ti : w (y + 7) = aI G 56 (fun q => (Ti q : Int))) (f_St : w (y + 8) = aI G 4 (fun q => (St q : Int))) (f_Tl : w (y + 9) = aI G 4 (fun q => (Tl q : Int))) : Met l yX7_about wsX7_about ({ frames := 1, cells := 0, slots := 0, locals := 22 }) (va_Pc [.ref (ad y), .int (iI 2), .int (iI z)] (nB G N ad w sz)) (nPi G N ad sz (fun r u => (∀ j, u j = w j) ∧ (r = ldD (Go 0) (Tl 0) (Ra 0) (Ra 1) (St 0) Pr Ti z))) 0 0 (nA N ad sz) := by
  refine n_ent (cc := cX7_about) (maxL := 3) (ret := (some .int)) (by decide) rfl (Nat.le_of_ble_eq_true rfl) ?_
  intro p e s m below meth cd hx hb hr hml hlocks hts hown hnm hsz hP hK hI Q hQ ls hl
  have hown : s.vm.findClass RX7 = some m.cls := hown
  subst hsz
  have hJ := hI.J s.heap.size
  have hS : va_S (nA N ad s.heap.size) s.heap s.heap [] := va_S.rf
  have hfr : ∀ j, w j = w j := fun _  => rfl
  have hl : lv_has ls 3 [(0, .ref (ad y)), (1, .int (iI 2)), (2, .int (iI z))] := hl
  have hg0 := hGo 0 (by omega)
  refine lv_aload_n hx hb dX7_about_0 rfl (lv_at hl 0 rfl) ?_
  refine n_iconst hx hb dX7_about_1 ?_
  refine n_put hx hb hts u_X7 tyX7 tyX7_ok nmX7 hown hK hJ hP hS (by omega) f_y rfl 0 (by decide) (nT_m wf_X7_90) rfl rfl rfl (Nat.le_of_ble_eq_true rfl) dX7_about_2 (fun w1 H locs f9 hne9 hP hS => ?_)
  have ew9 : w = w1 := funext fun j9 => (Decidable.em (j9 = y)).elim (fun h9 => by rw [h9, f9]; exact f_y) (fun h9 => (hne9 j9 h9).symm)
  subst ew9
  refine lv_iload_n hx hb dX7_about_5 rfl (lv_at hl 1 rfl) ?_
  refine n_iconst hx hb dX7_about_6 ?_
  refine n_iconst hx hb dX7_about_7 ?_
  refine n_rdF (va_runS (As := [.int (iI 2), .int (iI 0), .int (iI 1)]) (rest := []) ⟨hx, hb, hml, hown, hts⟩ (c_X7_in 2 0 1 (by omega) (by omega) (by omega)) (va_cwS 3 hts (nT_S wl_X7_98 wt_X7_in wn_X7 wc_X7_in) rfl rfl rfl (by decide +kernel) ⟨Nat.le_of_ble_eq_true rfl, Nat.le_of_ble_eq_true rfl⟩) preEq rfl rfl hl.1 rfl (lv_room (Nat.le_of_ble_eq_true rfl)) dX7_about_8 ⟨Nat.zero_le _, Nat.zero_le _⟩) ?_
  refine n_if_eqB (tgt := 64) hx hb dX7_about_11 (by decide) (fun hc11 => ?_) (fun hc11 => ?_)
  · skip
    refine lv_iload_n hx hb dX7_about_64 rfl (lv_at hl 1 rfl) ?_
    refine n_iconst hx hb dX7_about_65 ?_
    refine n_icmp_eq (tgt := 71) hx hb dX7_about_66 (by decide) (by omega) (by omega) (fun hc66 => ?_) (fun hc66 => ?_)
    · skip
      refine lv_iload_n hx hb dX7_about_71 rfl (lv_at hl 2 rfl) ?_
      by_cases hsw0 : z = 0
      · skip
        refine lv_tableIn (tgt := 108) (off := 36) hx hb dX7_about_72 (by rw [iI_T (by omega)]; omega) (by rw [iI_T (by omega)]; omega) (by rw [iI_T (by omega), hsw0]; rfl) (by decide) ?_
        refine lv_aload_n hx hb dX7_about_108 rfl (lv_at hl 0 rfl) ?_
        refine n_get hx hb hts u_X7 hown hK hP (by omega) f_y rfl 5 (by decide) (nT_m wf_X7_22) rfl dX7_about_109 ?_
        refine n_iconst hx hb dX7_about_112 ?_
        refine n_iald hx hb hK hP 0 (by omega) f_Go (by omega) (by omega) (by decide) dX7_about_113 ?_
        have ho3 := hGo 0 (by omega)
        refine n_iretP hQ hx hb hr hlocks hP hS dX7_about_114 ?_
        exact ⟨hfr, by unfold ldD; repeat (first | rw [if_pos (by omega)] | rw [if_neg (by omega)] | unfold ldG)⟩
      by_cases hsw1 : z = 1
      · skip
        refine lv_tableIn (tgt := 115) (off := 43) hx hb dX7_about_72 (by rw [iI_T (by omega)]; omega) (by rw [iI_T (by omega)]; omega) (by rw [iI_T (by omega), hsw1]; rfl) (by decide) ?_
        refine lv_aload_n hx hb dX7_about_115 rfl (lv_at hl 0 rfl) ?_
        refine n_get hx hb hts u_X7 hown hK hP (by omega) f_y rfl 9 (by decide) (nT_m wf_X7_34) rfl dX7_about_116 ?_
        refine n_iconst hx hb dX7_about_119 ?_
        refine n_iald hx hb hK hP 0 (by omega) f_Tl (by omega) (by omega) (by decide) dX7_about_120 ?_
        have ho4 := hTl 0 (by omega)
        refine n_iretP hQ hx hb hr hlocks hP hS dX7_about_121 ?_
        exact ⟨hfr, by unfold ldD; repeat (first | rw [if_pos (by omega)] | rw [if_neg (by omega)] | unfold ldG)⟩
      by_cases hsw2 : z = 2
      · skip
        refine lv_tableIn (tgt := 122) (off := 50) hx hb dX7_about_72 (by rw [iI_T (by omega)]; omega) (by rw [iI_T (by omega)]; omega) (by rw [iI_T (by omega), hsw2]; rfl) (by decide) ?_
        refine lv_aload_n hx hb dX7_about_122 rfl (lv_at hl 0 rfl) ?_
        refine n_get hx hb hts u_X7 hown hK hP (by omega) f_y rfl 3 (by decide) (nT_m wf_X7_16) rfl dX7_about_123 ?_
        refine n_iconst hx hb dX7_about_126 ?_
        refine n_iald hx hb hK hP 0 (by omega) f_Ra (by omega) (by omega) (by decide) dX7_about_127 ?_
        have ho5 := hRa 0 (by omega)
        refine n_iretP hQ hx hb hr hlocks hP hS dX7_about_128 ?_
        exact ⟨hfr, by unfold ldD; repeat (first | rw [if_pos (by omega)] | rw [if_neg (by omega)] | unfold ldG)⟩
      by_cases hsw3 : z = 3
      · skip
        refine lv_tableIn (tgt := 129) (off := 57) hx hb dX7_about_72 (by rw [iI_T (by omega)]; omega) (by rw [iI_T (by omega)]; omega) (by rw [iI_T (by omega), hsw3]; rfl) (by decide) ?_
        refine lv_aload_n hx hb dX7_about_129 rfl (lv_at hl 0 rfl) ?_
        refine n_get hx hb hts u_X7 hown hK hP (by omega) f_y rfl 3 (by decide) (nT_m wf_X7_16) rfl dX7_about_130 ?_
        refine n_iconst hx hb dX7_about_133 ?_
        refine n_iald hx hb hK hP 1 (by omega) f_Ra (by omega) (by omega) (by decide) dX7_about_134 ?_
        have ho6 := hRa 1 (by omega)
        refine n_iretP hQ hx hb hr hlocks hP hS dX7_about_135 ?_
        exact ⟨hfr, by unfold ldD; repeat (first | rw [if_pos (by omega)] | rw [if_neg (by omega)] | unfold ldG)⟩
      by_cases hsw4 : z = 4
      · skip
        refine lv_tableIn (tgt := 136) (off := 64) hx hb dX7_about_72 (by rw [iI_T (by omega)]; omega) (by rw [iI_T (by omega)]; omega) (by rw [iI_T (by omega), hsw4]; rfl) (by decide) ?_
        refine lv_aload_n hx hb dX7_about_136 rfl (lv_at hl 0 rfl) ?_
        refine n_get hx hb hts u_X7 hown hK hP (by omega) f_y rfl 8 (by decide) (nT_m wf_X7_31) rfl dX7_about_137 ?_
        refine n_iconst hx hb dX7_about_140 ?_
        refine n_iald hx hb hK hP 0 (by omega) f_St (by omega) (by omega) (by decide) dX7_about_141 ?_
        have ho7 := hSt 0 (by omega)
        refine n_iretP hQ hx hb hr hlocks hP hS dX7_about_142 ?_
        exact ⟨hfr, by unfold ldD; repeat (first | rw [if_pos (by omega)] | rw [if_neg (by omega)] | unfold ldG)⟩
      refine lv_tableOut (tgt := 143) hx hb dX7_about_72 (by rw [iI_T (by omega)]; omega) (by decide) ?_
      refine lv_iload_n hx hb dX7_about_143 rfl (lv_at hl 2 rfl) ?_
      refine n_bipush hx hb dX7_about_144 (by decide) ?_
      refine n_bipush hx hb dX7_about_146 (by decide) ?_
      refine lv_aload_n hx hb dX7_about_148 rfl (lv_at hl 0 rfl) ?_
      refine n_get hx hb hts u_X7 hown hK hP (by omega) f_y rfl 5 (by decide) (nT_m wf_X7_22) rfl dX7_about_149 ?_
      refine n_iconst hx hb dX7_about_152 ?_
      refine n_iald hx hb hK hP 0 (by omega) f_Go (by omega) (by omega) (by decide) dX7_about_153 ?_
      have ho8 := hGo 0 (by omega)
      refine n_iadd hx hb dX7_about_154 ?_
      refine n_rdF (va_runS (As := [.int (iI z), .int (iI 10), .int (iI (9 + (Go 0 : Int)))]) (rest := []) ⟨hx, hb, hml, hown, hts⟩ (c_X7_in z 10 (9 + (Go 0 : Int)) (by omega) (by omega) (by omega)) (va_cwS 3 hts (nT_S wl_X7_98 wt_X7_in wn_X7 wc_X7_in) rfl rfl rfl (by decide +kernel) ⟨Nat.le_of_ble_eq_true rfl, Nat.le_of_ble_eq_true rfl⟩) preEq rfl rfl hl.1 rfl (lv_room (Nat.le_of_ble_eq_true rfl)) dX7_about_155 ⟨Nat.zero_le _, Nat.zero_le _⟩) ?_
      refine n_if_eqB (tgt := 173) hx hb dX7_about_158 (by decide) (fun hc158 => ?_) (fun hc158 => ?_)
      · skip
        refine lv_iload_n hx hb dX7_about_173 rfl (lv_at hl 2 rfl) ?_
        refine n_bipush hx hb dX7_about_174 (by decide) ?_
        refine n_bipush hx hb dX7_about_176 (by decide) ?_
        refine lv_aload_n hx hb dX7_about_178 rfl (lv_at hl 0 rfl) ?_
        refine n_get hx hb hts u_X7 hown hK hP (by omega) f_y rfl 5 (by decide) (nT_m wf_X7_22) rfl dX7_about_179 ?_
        refine n_iconst hx hb dX7_about_182 ?_
        refine n_iald hx hb hK hP 0 (by omega) f_Go (by omega) (by omega) (by decide) dX7_about_183 ?_
        have ho9 := hGo 0 (by omega)
        refine n_iadd hx hb dX7_about_184 ?_
        refine n_rdF (va_runS (As := [.int (iI z), .int (iI 30), .int (iI (29 + (Go 0 : Int)))]) (rest := []) ⟨hx, hb, hml, hown, hts⟩ (c_X7_in z 30 (29 + (Go 0 : Int)) (by omega) (by omega) (by omega)) (va_cwS 3 hts (nT_S wl_X7_98 wt_X7_in wn_X7 wc_X7_in) rfl rfl rfl (by decide +kernel) ⟨Nat.le_of_ble_eq_true rfl, Nat.le_of_ble_eq_true rfl⟩) preEq rfl rfl hl.1 rfl (lv_room (Nat.le_of_ble_eq_true rfl)) dX7_about_185 ⟨Nat.zero_le _, Nat.zero_le _⟩) ?_
        refine n_if_eqB (tgt := 203) hx hb dX7_about_188 (by decide) (fun hc188 => ?_) (fun hc188 => ?_)
        · skip
          refine n_iconst hx hb dX7_about_203 ?_
          refine n_iretP hQ hx hb hr hlocks hP hS dX7_about_204 ?_
          exact ⟨hfr, by unfold ldD; repeat (first | rw [if_pos (by omega)] | rw [if_neg (by omega)] | unfold ldG)⟩
        · skip
          refine lv_aload_n hx hb dX7_about_191 rfl (lv_at hl 0 rfl) ?_
          refine n_get hx hb hts u_X7 hown hK hP (by omega) f_y rfl 7 (by decide) (nT_m wf_X7_28) rfl dX7_about_192 ?_
          refine lv_iload_n hx hb dX7_about_195 rfl (lv_at hl 2 rfl) ?_
          refine n_bipush hx hb dX7_about_196 (by decide) ?_
          refine n_isub hx hb dX7_about_198 ?_
          refine n_iald hx hb hK hP ((z - 30).toNat) (by omega) f_Ti (by omega) (by omega) (by decide) dX7_about_199 ?_
          have ho10 := hTi ((z - 30).toNat) (by omega)
          refine lv_goto (tgt := 204) hx hb dX7_about_200 (by decide) ?_
          refine n_iretP hQ hx hb hr hlocks hP hS dX7_about_204 ?_
          exact ⟨hfr, by unfold ldD; repeat (first | rw [if_pos (by omega)] | rw [if_neg (by omega)] | unfold ldG)⟩
      · skip
        refine lv_aload_n hx hb dX7_about_161 rfl (lv_at hl 0 rfl) ?_
        refine n_get hx hb hts u_X7 hown hK hP (by omega) f_y rfl 6 (by decide) (nT_m wf_X7_25) rfl dX7_about_162 ?_
        refine lv_iload_n hx hb dX7_about_165 rfl (lv_at hl 2 rfl) ?_
        refine n_bipush hx hb dX7_about_166 (by decide) ?_
        refine n_isub hx hb dX7_about_168 ?_
        refine n_iald hx hb hK hP ((z - 10).toNat) (by omega) f_Pr (by omega) (by omega) (by decide) dX7_about_169 ?_
        have ho11 := hPr ((z - 10).toNat) (by omega)
        refine lv_goto (tgt := 204) hx hb dX7_about_170 (by decide) ?_
        refine n_iretP hQ hx hb hr hlocks hP hS dX7_about_204 ?_
        exact ⟨hfr, by unfold ldD; repeat (first | rw [if_pos (by omega)] | rw [if_neg (by omega)] | unfold ldG)⟩
    · skip
      exact absurd hc66 (by omega)
  · skip
    exact absurd hc11 (by omega)
set_option maxHeartbeats 4000000 in
set_option maxRecDepth 100000 in
theorem c_X7_about_no {l : Launch} {G : nG} {N : Nat} {ad : Nat → Nat} {w : Nat → va_E} {sz : Nat} (y : Nat) (yz z : Int) (hN : y + 26 < N) (hy : -2147483648 ≤ yz ∧ yz < 2147483648) (hno : ¬ yz = 0 ∧ ¬ yz = 1 ∧ ¬ yz = 2) (f_y : w y = .inr (7, [.int (iI 0), .ref (ad (y + 1)), .ref (ad (y + 2)), .ref (ad (y + 3)), .ref (ad (y + 4)), .ref (ad (y + 5)), .ref (ad (y + 6)), .ref (ad (y + 7)), .ref (ad (y + 8)), .ref (ad (y + 9)), .ref (ad (y + 10)), .ref (ad (y + 11)), .ref (ad (y + 12)), .ref (ad (y + 13)), .ref (ad (y + 14)), .ref (ad (y + 15)), .ref (ad (y + 16)), .ref (ad (y + 17)), .ref (ad (y + 18)), .ref (ad (y + 19)), .ref (ad (y + 20)), .ref (ad (y + 21)), .ref (ad (y + 22)), .ref (ad (y + 23)), .ref (ad (y + 24)), .ref (ad (y + 25)), .ref (ad (y + 26))])) : Met l yX7_about wsX7_about ({ frames := 1, cells := 0, slots := 0, locals := 22 }) (va_Pc [.ref (ad y), .int (iI yz), .int (iI z)] (nB G N ad w sz)) (nPi G N ad sz (fun r u => (∀ j, u j = w j) ∧ (r = -1))) 0 0 (nA N ad sz) := by
  refine n_ent (cc := cX7_about) (maxL := 3) (ret := (some .int)) (by decide) rfl (Nat.le_of_ble_eq_true rfl) ?_
  intro p e s m below meth cd hx hb hr hml hlocks hts hown hnm hsz hP hK hI Q hQ ls hl
  have hown : s.vm.findClass RX7 = some m.cls := hown
  subst hsz
  have hJ := hI.J s.heap.size
  have hS : va_S (nA N ad s.heap.size) s.heap s.heap [] := va_S.rf
  have hfr : ∀ j, w j = w j := fun _  => rfl
  have hl : lv_has ls 3 [(0, .ref (ad y)), (1, .int (iI yz)), (2, .int (iI z))] := hl
  refine lv_aload_n hx hb dX7_about_0 rfl (lv_at hl 0 rfl) ?_
  refine n_iconst hx hb dX7_about_1 ?_
  refine n_put hx hb hts u_X7 tyX7 tyX7_ok nmX7 hown hK hJ hP hS (by omega) f_y rfl 0 (by decide) (nT_m wf_X7_90) rfl rfl rfl (Nat.le_of_ble_eq_true rfl) dX7_about_2 (fun w1 H locs f9 hne9 hP hS => ?_)
  have ew9 : w = w1 := funext fun j9 => (Decidable.em (j9 = y)).elim (fun h9 => by rw [h9, f9]; exact f_y) (fun h9 => (hne9 j9 h9).symm)
  subst ew9
  refine lv_iload_n hx hb dX7_about_5 rfl (lv_at hl 1 rfl) ?_
  refine n_iconst hx hb dX7_about_6 ?_
  refine n_iconst hx hb dX7_about_7 ?_
  refine n_rdF (va_runS (As := [.int (iI yz), .int (iI 0), .int (iI 1)]) (rest := []) ⟨hx, hb, hml, hown, hts⟩ (c_X7_in yz 0 1 (by omega) (by omega) (by omega)) (va_cwS 3 hts (nT_S wl_X7_98 wt_X7_in wn_X7 wc_X7_in) rfl rfl rfl (by decide +kernel) ⟨Nat.le_of_ble_eq_true rfl, Nat.le_of_ble_eq_true rfl⟩) preEq rfl rfl hl.1 rfl (lv_room (Nat.le_of_ble_eq_true rfl)) dX7_about_8 ⟨Nat.zero_le _, Nat.zero_le _⟩) ?_
  refine n_if_eqB (tgt := 64) hx hb dX7_about_11 (by decide) (fun hc11 => ?_) (fun hc11 => ?_)
  · skip
    refine lv_iload_n hx hb dX7_about_64 rfl (lv_at hl 1 rfl) ?_
    refine n_iconst hx hb dX7_about_65 ?_
    refine n_icmp_eq (tgt := 71) hx hb dX7_about_66 (by decide) (by omega) (by omega) (fun hc66 => ?_) (fun hc66 => ?_)
    · skip
      exact absurd hc66 (by omega)
    · skip
      refine n_iconst hx hb dX7_about_69 ?_
      refine n_iretP hQ hx hb hr hlocks hP hS dX7_about_70 ?_
      exact ⟨hfr, rfl⟩
  · skip
    exact absurd hc11 (by omega)
set_option maxHeartbeats 4000000 in
set_option maxRecDepth 100000 in
theorem c_X7_till_no {l : Launch} {G : nG} {N : Nat} {ad : Nat → Nat} {w : Nat → va_E} {sz : Nat} (y : Nat) (Tl : Nat → Nat) (hN : y + 26 < N) (hTl : ∀ k, k < 1 → Tl k ≤ 4) (hno : Tl 0 = 4) (f_y : w y = .inr (7, [.int (iI 0), .ref (ad (y + 1)), .ref (ad (y + 2)), .ref (ad (y + 3)), .ref (ad (y + 4)), .ref (ad (y + 5)), .ref (ad (y + 6)), .ref (ad (y + 7)), .ref (ad (y + 8)), .ref (ad (y + 9)), .ref (ad (y + 10)), .ref (ad (y + 11)), .ref (ad (y + 12)), .ref (ad (y + 13)), .ref (ad (y + 14)), .ref (ad (y + 15)), .ref (ad (y + 16)), .ref (ad (y + 17)), .ref (ad (y + 18)), .ref (ad (y + 19)), .ref (ad (y + 20)), .ref (ad (y + 21)), .ref (ad (y + 22)), .ref (ad (y + 23)), .ref (ad (y + 24)), .ref (ad (y + 25)), .ref (ad (y + 26))])) (f_Tl : w (y + 9) = aI G 4 (fun q => (Tl q : Int))) : Met l yX7_till wsX7_till ({ frames := 1, cells := 0, slots := 0, locals := 22 }) (va_Pc [.ref (ad y)] (nB G N ad w sz)) (nPi G N ad sz (fun r u => (∀ j, u j = w j) ∧ (r = -1))) 0 0 (nA N ad sz) := by
  refine n_ent (cc := cX7_till) (maxL := 3) (ret := (some .int)) (by decide) rfl (Nat.le_of_ble_eq_true rfl) ?_
  intro p e s m below meth cd hx hb hr hml hlocks hts hown hnm hsz hP hK hI Q hQ ls hl
  have hown : s.vm.findClass RX7 = some m.cls := hown
  subst hsz
  have hJ := hI.J s.heap.size
  have hS : va_S (nA N ad s.heap.size) s.heap s.heap [] := va_S.rf
  have hfr : ∀ j, w j = w j := fun _  => rfl
  have hl : lv_has ls 3 [(0, .ref (ad y))] := hl
  refine lv_aload_n hx hb dX7_till_0 rfl (lv_at hl 0 rfl) ?_
  refine n_iconst hx hb dX7_till_1 ?_
  refine n_put hx hb hts u_X7 tyX7 tyX7_ok nmX7 hown hK hJ hP hS (by omega) f_y rfl 0 (by decide) (nT_m wf_X7_90) rfl rfl rfl (Nat.le_of_ble_eq_true rfl) dX7_till_2 (fun w1 H locs f9 hne9 hP hS => ?_)
  have ew9 : w = w1 := funext fun j9 => (Decidable.em (j9 = y)).elim (fun h9 => by rw [h9, f9]; exact f_y) (fun h9 => (hne9 j9 h9).symm)
  subst ew9
  refine lv_aload_n hx hb dX7_till_5 rfl (lv_at hl 0 rfl) ?_
  refine n_get hx hb hts u_X7 hown hK hP (by omega) f_y rfl 9 (by decide) (nT_m wf_X7_34) rfl dX7_till_6 ?_
  refine n_iconst hx hb dX7_till_9 ?_
  refine n_iald hx hb hK hP 0 (by omega) f_Tl (by omega) (by omega) (by decide) dX7_till_10 ?_
  have ho3 := hTl 0 (by omega)
  refine n_iconst hx hb dX7_till_11 ?_
  refine n_icmp_ne (tgt := 17) hx hb dX7_till_12 (by decide) (by omega) (by omega) (fun hc12 => ?_) (fun hc12 => ?_)
  · skip
    exact absurd hc12 (by omega)
  · skip
    refine n_iconst hx hb dX7_till_15 ?_
    refine n_iretP hQ hx hb hr hlocks hP hS dX7_till_16 ?_
    exact ⟨hfr, rfl⟩
set_option maxHeartbeats 4000000 in
set_option maxRecDepth 100000 in
theorem c_X7_till_yes {l : Launch} {G : nG} {N : Nat} {ad : Nat → Nat} {w : Nat → va_E} {sz : Nat} (y : Nat) (Tl Ts Sc Pd Ex Ha Ga : Nat → Nat) (hN : y + 26 < N) (hTl : ∀ k, k < 1 → Tl k ≤ 4) (hTs : ∀ k, k < 4 → Ts k < 2147483647) (hEx : ∀ k, k < 4 → Ex k ≤ 20) (hHa : ∀ k, k < 64 → Ha k ≤ 1000) (hno : Tl 0 < 4) (h0 : Ts (Tl 0) = 0 ∧ Sc (Tl 0) = 0 ∧ Pd (Tl 0) = 0 ∧ Ex (Tl 0) = 0) (h1 : ∀ q, q < 16 → Ha (16 * Tl 0 + q) = 0) (h2 : ∀ q, q < 8 → Ga (8 * Tl 0 + q) = 0) (f_y : w y = .inr (7, [.int (iI 0), .ref (ad (y + 1)), .ref (ad (y + 2)), .ref (ad (y + 3)), .ref (ad (y + 4)), .ref (ad (y + 5)), .ref (ad (y + 6)), .ref (ad (y + 7)), .ref (ad (y + 8)), .ref (ad (y + 9)), .ref (ad (y + 10)), .ref (ad (y + 11)), .ref (ad (y + 12)), .ref (ad (y + 13)), .ref (ad (y + 14)), .ref (ad (y + 15)), .ref (ad (y + 16)), .ref (ad (y + 17)), .ref (ad (y + 18)), .ref (ad (y + 19)), .ref (ad (y + 20)), .ref (ad (y + 21)), .ref (ad (y + 22)), .ref (ad (y + 23)), .ref (ad (y + 24)), .ref (ad (y + 25)), .ref (ad (y + 26))])) (f_Tl : w (y + 9) = aI G 4 (fun q => (Tl q : Int))) (f_Ts : w (y + 10) = aI G 16 (fun q => (Ts q : Int))) (f_Sc : w (y + 11) = aJ G 16 (fun q => (Sc q : Int))) (f_Pd : w (y + 12) = aJ G 16 (fun q => (Pd q : Int))) (f_Ex : w (y + 13) = aI G 16 (fun q => (Ex q : Int))) (f_Ha : w (y + 14) = aI G 256 (fun q => (Ha q : Int))) (f_Ga : w (y + 15) = aI G 128 (fun q => (Ga q : Int))) : Met l yX7_till wsX7_till ({ frames := 1, cells := 0, slots := 0, locals := 22 }) (va_Pc [.ref (ad y)] (nB G N ad w sz)) (nPi G N ad sz (fun r u => (∀ j, j ≠ (y + 9) → j ≠ (y + 10) → j ≠ (y + 11) → j ≠ (y + 12) → j ≠ (y + 13) → j ≠ (y + 14) → j ≠ (y + 15) → u j = w j) ∧ (r = Tl 0) ∧ (u (y + 9) = aI G 4 (fun q => ((va_up Tl 0 (Tl 0 + 1) q : Nat) : Int))) ∧ (u (y + 10) = aI G 16 (fun q => (Ts q : Int))) ∧ (u (y + 11) = aJ G 16 (fun q => (Sc q : Int))) ∧ (u (y + 12) = aJ G 16 (fun q => (Pd q : Int))) ∧ (u (y + 13) = aI G 16 (fun q => (Ex q : Int))) ∧ (u (y + 14) = aI G 256 (fun q => (Ha q : Int))) ∧ (u (y + 15) = aI G 128 (fun q => (Ga q : Int))))) 0 0 (nA N ad sz) := by
  refine n_ent (cc := cX7_till) (maxL := 3) (ret := (some .int)) (by decide) rfl (Nat.le_of_ble_eq_true rfl) ?_
  intro p e s m below meth cd hx hb hr hml hlocks hts hown hnm hsz hP hK hI Q hQ ls hl
  have hown : s.vm.findClass RX7 = some m.cls := hown
  subst hsz
  have hJ := hI.J s.heap.size
  have hS : va_S (nA N ad s.heap.size) s.heap s.heap [] := va_S.rf
  have hfr : ∀ j, j ≠ (y + 9) → j ≠ (y + 10) → j ≠ (y + 11) → j ≠ (y + 12) → j ≠ (y + 13) → j ≠ (y + 14) → j ≠ (y + 15) → w j = w j := fun _ _ _ _ _ _ _ _ => rfl
  have hl : lv_has ls 3 [(0, .ref (ad y))] := hl
  refine lv_aload_n hx hb dX7_till_0 rfl (lv_at hl 0 rfl) ?_
  refine n_iconst hx hb dX7_till_1 ?_
  refine n_put hx hb hts u_X7 tyX7 tyX7_ok nmX7 hown hK hJ hP hS (by omega) f_y rfl 0 (by decide) (nT_m wf_X7_90) rfl rfl rfl (Nat.le_of_ble_eq_true rfl) dX7_till_2 (fun w1 H locs f9 hne9 hP hS => ?_)
  have ew9 : w = w1 := funext fun j9 => (Decidable.em (j9 = y)).elim (fun h9 => by rw [h9, f9]; exact f_y) (fun h9 => (hne9 j9 h9).symm)
  subst ew9
  refine lv_aload_n hx hb dX7_till_5 rfl (lv_at hl 0 rfl) ?_
  refine n_get hx hb hts u_X7 hown hK hP (by omega) f_y rfl 9 (by decide) (nT_m wf_X7_34) rfl dX7_till_6 ?_
  refine n_iconst hx hb dX7_till_9 ?_
  refine n_iald hx hb hK hP 0 (by omega) f_Tl (by omega) (by omega) (by decide) dX7_till_10 ?_
  have ho3 := hTl 0 (by omega)
  refine n_iconst hx hb dX7_till_11 ?_
  refine n_icmp_ne (tgt := 17) hx hb dX7_till_12 (by decide) (by omega) (by omega) (fun hc12 => ?_) (fun hc12 => ?_)
  · skip
    refine lv_aload_n hx hb dX7_till_17 rfl (lv_at hl 0 rfl) ?_
    refine n_get hx hb hts u_X7 hown hK hP (by omega) f_y rfl 9 (by decide) (nT_m wf_X7_34) rfl dX7_till_18 ?_
    refine n_iconst hx hb dX7_till_21 ?_
    refine n_iald hx hb hK hP 0 (by omega) f_Tl (by omega) (by omega) (by decide) dX7_till_22 ?_
    have ho4 := hTl 0 (by omega)
    refine lv_istore_n (lv' := [(1, .int (iI (Tl 0 : Int))), (0, .ref (ad y))]) hx hb dX7_till_23 rfl hl (by decide) rfl (fun ls hl => ?_)
    refine lv_aload_n hx hb dX7_till_24 rfl (lv_at hl 1 rfl) ?_
    refine n_get hx hb hts u_X7 hown hK hP (by omega) f_y rfl 9 (by decide) (nT_m wf_X7_34) rfl dX7_till_25 ?_
    refine n_iconst hx hb dX7_till_28 ?_
    refine lv_dup2_11 hx hb dX7_till_29 rfl rfl ?_
    refine n_iald hx hb hK hP 0 (by omega) f_Tl (by omega) (by omega) (by decide) dX7_till_30 ?_
    have ho5 := hTl 0 (by omega)
    refine n_iconst hx hb dX7_till_31 ?_
    refine n_iadd hx hb dX7_till_32 ?_
    refine n_iast hx hb hK hJ hP hS 0 (by omega) f_Tl (by omega) (by omega) (by decide) dX7_till_33 (fun w6 H locs f_Tl hne7 hP hS => ?_)
    have f_y := (hne7 y (by omega)).trans f_y
    have f_Ts := (hne7 (y + 10) (by omega)).trans f_Ts
    have f_Sc := (hne7 (y + 11) (by omega)).trans f_Sc
    have f_Pd := (hne7 (y + 12) (by omega)).trans f_Pd
    have f_Ex := (hne7 (y + 13) (by omega)).trans f_Ex
    have f_Ha := (hne7 (y + 14) (by omega)).trans f_Ha
    have f_Ga := (hne7 (y + 15) (by omega)).trans f_Ga
    have hfr : ∀ j, j ≠ (y + 9) → j ≠ (y + 10) → j ≠ (y + 11) → j ≠ (y + 12) → j ≠ (y + 13) → j ≠ (y + 14) → j ≠ (y + 15) → w6 j = w j := fun j a0 a1 a2 a3 a4 a5 a6 => (hne7 j (by omega)).trans (hfr j a0 a1 a2 a3 a4 a5 a6)
    have f_Tl := f_Tl.trans (congrArg (aI G 4) (upZ Tl 0 (Tl 0 + 1) _ (by omega)))
    refine lv_aload_n hx hb dX7_till_34 rfl (lv_at hl 1 rfl) ?_
    refine n_get hx hb hts u_X7 hown hK hP (by omega) f_y rfl 10 (by decide) (nT_m wf_X7_37) rfl dX7_till_35 ?_
    refine lv_iload_n hx hb dX7_till_38 rfl (lv_at hl 0 rfl) ?_
    refine n_iconst hx hb dX7_till_39 ?_
    refine n_iast hx hb hK hJ hP hS (Tl 0) (by omega) f_Ts (by omega) (by omega) (by decide) dX7_till_40 (fun w8 H locs f_Ts hne9 hP hS => ?_)
    have f_y := (hne9 y (by omega)).trans f_y
    have f_Tl := (hne9 (y + 9) (by omega)).trans f_Tl
    have f_Sc := (hne9 (y + 11) (by omega)).trans f_Sc
    have f_Pd := (hne9 (y + 12) (by omega)).trans f_Pd
    have f_Ex := (hne9 (y + 13) (by omega)).trans f_Ex
    have f_Ha := (hne9 (y + 14) (by omega)).trans f_Ha
    have f_Ga := (hne9 (y + 15) (by omega)).trans f_Ga
    have hfr : ∀ j, j ≠ (y + 9) → j ≠ (y + 10) → j ≠ (y + 11) → j ≠ (y + 12) → j ≠ (y + 13) → j ≠ (y + 14) → j ≠ (y + 15) → w8 j = w j := fun j a0 a1 a2 a3 a4 a5 a6 => (hne9 j (by omega)).trans (hfr j a0 a1 a2 a3 a4 a5 a6)
    have f_Ts := f_Ts.trans (congrArg (aI G 16) (upS (F := Ts) (k := (Tl 0)) h0.1))
    refine lv_aload_n hx hb dX7_till_41 rfl (lv_at hl 1 rfl) ?_
    refine n_get hx hb hts u_X7 hown hK hP (by omega) f_y rfl 11 (by decide) (nT_m wf_X7_40) rfl dX7_till_42 ?_
    refine lv_iload_n hx hb dX7_till_45 rfl (lv_at hl 0 rfl) ?_
    refine n_lconst (z := 0) hx hb dX7_till_46 (by decide) ?_
    refine n_last hx hb hK hJ hP hS (Tl 0) (by omega) f_Sc (by omega) (by omega) (by decide) dX7_till_47 (fun w10 H locs f_Sc hne11 hP hS => ?_)
    have f_y := (hne11 y (by omega)).trans f_y
    have f_Tl := (hne11 (y + 9) (by omega)).trans f_Tl
    have f_Ts := (hne11 (y + 10) (by omega)).trans f_Ts
    have f_Pd := (hne11 (y + 12) (by omega)).trans f_Pd
    have f_Ex := (hne11 (y + 13) (by omega)).trans f_Ex
    have f_Ha := (hne11 (y + 14) (by omega)).trans f_Ha
    have f_Ga := (hne11 (y + 15) (by omega)).trans f_Ga
    have hfr : ∀ j, j ≠ (y + 9) → j ≠ (y + 10) → j ≠ (y + 11) → j ≠ (y + 12) → j ≠ (y + 13) → j ≠ (y + 14) → j ≠ (y + 15) → w10 j = w j := fun j a0 a1 a2 a3 a4 a5 a6 => (hne11 j (by omega)).trans (hfr j a0 a1 a2 a3 a4 a5 a6)
    have f_Sc := f_Sc.trans (congrArg (aJ G 16) (upS (F := Sc) (k := (Tl 0)) h0.2.1))
    refine lv_aload_n hx hb dX7_till_48 rfl (lv_at hl 1 rfl) ?_
    refine n_get hx hb hts u_X7 hown hK hP (by omega) f_y rfl 12 (by decide) (nT_m wf_X7_44) rfl dX7_till_49 ?_
    refine lv_iload_n hx hb dX7_till_52 rfl (lv_at hl 0 rfl) ?_
    refine n_lconst (z := 0) hx hb dX7_till_53 (by decide) ?_
    refine n_last hx hb hK hJ hP hS (Tl 0) (by omega) f_Pd (by omega) (by omega) (by decide) dX7_till_54 (fun w12 H locs f_Pd hne13 hP hS => ?_)
    have f_y := (hne13 y (by omega)).trans f_y
    have f_Tl := (hne13 (y + 9) (by omega)).trans f_Tl
    have f_Ts := (hne13 (y + 10) (by omega)).trans f_Ts
    have f_Sc := (hne13 (y + 11) (by omega)).trans f_Sc
    have f_Ex := (hne13 (y + 13) (by omega)).trans f_Ex
    have f_Ha := (hne13 (y + 14) (by omega)).trans f_Ha
    have f_Ga := (hne13 (y + 15) (by omega)).trans f_Ga
    have hfr : ∀ j, j ≠ (y + 9) → j ≠ (y + 10) → j ≠ (y + 11) → j ≠ (y + 12) → j ≠ (y + 13) → j ≠ (y + 14) → j ≠ (y + 15) → w12 j = w j := fun j a0 a1 a2 a3 a4 a5 a6 => (hne13 j (by omega)).trans (hfr j a0 a1 a2 a3 a4 a5 a6)
    have f_Pd := f_Pd.trans (congrArg (aJ G 16) (upS (F := Pd) (k := (Tl 0)) h0.2.2.1))
    refine lv_aload_n hx hb dX7_till_55 rfl (lv_at hl 1 rfl) ?_
    refine n_get hx hb hts u_X7 hown hK hP (by omega) f_y rfl 13 (by decide) (nT_m wf_X7_47) rfl dX7_till_56 ?_
    refine lv_iload_n hx hb dX7_till_59 rfl (lv_at hl 0 rfl) ?_
    refine n_iconst hx hb dX7_till_60 ?_
    refine n_iast hx hb hK hJ hP hS (Tl 0) (by omega) f_Ex (by omega) (by omega) (by decide) dX7_till_61 (fun w14 H locs f_Ex hne15 hP hS => ?_)
    have f_y := (hne15 y (by omega)).trans f_y
    have f_Tl := (hne15 (y + 9) (by omega)).trans f_Tl
    have f_Ts := (hne15 (y + 10) (by omega)).trans f_Ts
    have f_Sc := (hne15 (y + 11) (by omega)).trans f_Sc
    have f_Pd := (hne15 (y + 12) (by omega)).trans f_Pd
    have f_Ha := (hne15 (y + 14) (by omega)).trans f_Ha
    have f_Ga := (hne15 (y + 15) (by omega)).trans f_Ga
    have hfr : ∀ j, j ≠ (y + 9) → j ≠ (y + 10) → j ≠ (y + 11) → j ≠ (y + 12) → j ≠ (y + 13) → j ≠ (y + 14) → j ≠ (y + 15) → w14 j = w j := fun j a0 a1 a2 a3 a4 a5 a6 => (hne15 j (by omega)).trans (hfr j a0 a1 a2 a3 a4 a5 a6)
    have f_Ex := f_Ex.trans (congrArg (aI G 16) (upS (F := Ex) (k := (Tl 0)) h0.2.2.2))
    refine n_iconst hx hb dX7_till_62 ?_
    refine lv_istore_n (lv' := [(2, .int (iI 0)), (1, .int (iI (Tl 0 : Int))), (0, .ref (ad y))]) hx hb dX7_till_63 rfl hl (by decide) rfl (fun ls hl => ?_)
    have lp16 : ∀ (fu : Nat), ∀ (k : Nat), ∀ (w17 : Nat → va_E) (H : Heap) (locs : List Loc), ∀ (ls : Array Slot), 8 - k < fu → k ≤ 8 → (∀ j, j ≠ (y + 9) → j ≠ (y + 10) → j ≠ (y + 11) → j ≠ (y + 12) → j ≠ (y + 13) → j ≠ (y + 14) → j ≠ (y + 15) → w17 j = w j) → w17 y = .inr (7, [.int (iI 0), .ref (ad (y + 1)), .ref (ad (y + 2)), .ref (ad (y + 3)), .ref (ad (y + 4)), .ref (ad (y + 5)), .ref (ad (y + 6)), .ref (ad (y + 7)), .ref (ad (y + 8)), .ref (ad (y + 9)), .ref (ad (y + 10)), .ref (ad (y + 11)), .ref (ad (y + 12)), .ref (ad (y + 13)), .ref (ad (y + 14)), .ref (ad (y + 15)), .ref (ad (y + 16)), .ref (ad (y + 17)), .ref (ad (y + 18)), .ref (ad (y + 19)), .ref (ad (y + 20)), .ref (ad (y + 21)), .ref (ad (y + 22)), .ref (ad (y + 23)), .ref (ad (y + 24)), .ref (ad (y + 25)), .ref (ad (y + 26))]) → w17 (y + 9) = aI G 4 (fun q => ((va_up Tl 0 (Tl 0 + 1) q : Nat) : Int)) → w17 (y + 10) = aI G 16 (fun q => (Ts q : Int)) → w17 (y + 11) = aJ G 16 (fun q => (Sc q : Int)) → w17 (y + 12) = aJ G 16 (fun q => (Pd q : Int)) → w17 (y + 13) = aI G 16 (fun q => (Ex q : Int)) → w17 (y + 14) = aI G 256 (fun q => (Ha q : Int)) → w17 (y + 15) = aI G 128 (fun q => (Ga q : Int)) → va_P G.1 vwCl (nL N ad w17) H → va_S (nA N ad s.heap.size) s.heap H locs → lv_has ls 3 [(0, .ref (ad y)), (1, .int (iI ((Tl 0 : Nat) : Int))), (2, .int (iI ((k : Nat) : Int)))] → W p l e ({ frames := 1, cells := 0, slots := 0, locals := 22 } : Room) s m ([.ref (ad y)] : List Value).toArray below meth cd H locs 0 0 Q (F0 m 64 ls []) := by
      intro fu
      induction fu with
      | zero =>
        intro k w17 H locs ls hfu hk hfr f_y f_Tl f_Ts f_Sc f_Pd f_Ex f_Ha f_Ga hP hS hl
        exact absurd hfu (Nat.not_lt_zero _)
      | succ fu ih18 =>
        intro k w17 H locs ls hfu hk hfr f_y f_Tl f_Ts f_Sc f_Pd f_Ex f_Ha f_Ga hP hS hl
        refine lv_iload_n hx hb dX7_till_64 rfl (lv_at hl 2 rfl) ?_
        refine n_bipush hx hb dX7_till_65 (by decide) ?_
        refine n_icmp_ge (tgt := 112) hx hb dX7_till_67 (by decide) (by omega) (by omega) (fun hc67 => ?_) (fun hc67 => ?_)
        · skip
          refine lv_iload_n hx hb dX7_till_112 rfl (lv_at hl 1 rfl) ?_
          refine n_iretP hQ hx hb hr hlocks hP hS dX7_till_113 ?_
          exact ⟨hfr, rfl, f_Tl, f_Ts, f_Sc, f_Pd, f_Ex, f_Ha, f_Ga⟩
        · skip
          refine lv_aload_n hx hb dX7_till_70 rfl (lv_at hl 0 rfl) ?_
          refine n_get hx hb hts u_X7 hown hK hP (by omega) f_y rfl 14 (by decide) (nT_m wf_X7_50) rfl dX7_till_71 ?_
          refine lv_iload_n hx hb dX7_till_74 rfl (lv_at hl 1 rfl) ?_
          refine n_iconst hx hb dX7_till_75 ?_
          refine lv_iload_n hx hb dX7_till_76 rfl (lv_at hl 2 rfl) ?_
          refine n_rdF (va_runS (As := [.int (iI ((Tl 0 : Nat) : Int)), .int (iI 0), .int (iI ((k : Nat) : Int))]) (rest := [.ref (ad (y + 14))]) ⟨hx, hb, hml, hown, hts⟩ (c_X7_cell (Tl 0) 0 k (by omega) (by omega) (by omega)) (va_cwS 3 hts (nT_S wl_X7_134 wt_X7_cell wn_X7 wc_X7_cell) rfl rfl rfl (by decide +kernel) ⟨Nat.le_of_ble_eq_true rfl, Nat.le_of_ble_eq_true rfl⟩) preEq rfl rfl hl.1 rfl (lv_room (Nat.le_of_ble_eq_true rfl)) dX7_till_77 ⟨Nat.zero_le _, Nat.zero_le _⟩) ?_
          refine n_iconst hx hb dX7_till_80 ?_
          refine n_iast hx hb hK hJ hP hS (16 * (Tl 0) + 8 * 0 + k) (by omega) f_Ha (by omega) (by omega) (by decide) dX7_till_81 (fun w19 H locs f_Ha hne20 hP hS => ?_)
          have f_y := (hne20 y (by omega)).trans f_y
          have f_Tl := (hne20 (y + 9) (by omega)).trans f_Tl
          have f_Ts := (hne20 (y + 10) (by omega)).trans f_Ts
          have f_Sc := (hne20 (y + 11) (by omega)).trans f_Sc
          have f_Pd := (hne20 (y + 12) (by omega)).trans f_Pd
          have f_Ex := (hne20 (y + 13) (by omega)).trans f_Ex
          have f_Ga := (hne20 (y + 15) (by omega)).trans f_Ga
          have hfr : ∀ j, j ≠ (y + 9) → j ≠ (y + 10) → j ≠ (y + 11) → j ≠ (y + 12) → j ≠ (y + 13) → j ≠ (y + 14) → j ≠ (y + 15) → w19 j = w j := fun j a0 a1 a2 a3 a4 a5 a6 => (hne20 j (by omega)).trans (hfr j a0 a1 a2 a3 a4 a5 a6)
          have f_Ha := f_Ha.trans (congrArg (aI G 256) (upS (F := Ha) (k := (16 * Tl 0 + 8 * 0 + k)) (h1 k (by omega))))
          refine lv_aload_n hx hb dX7_till_82 rfl (lv_at hl 0 rfl) ?_
          refine n_get hx hb hts u_X7 hown hK hP (by omega) f_y rfl 14 (by decide) (nT_m wf_X7_50) rfl dX7_till_83 ?_
          refine lv_iload_n hx hb dX7_till_86 rfl (lv_at hl 1 rfl) ?_
          refine n_iconst hx hb dX7_till_87 ?_
          refine lv_iload_n hx hb dX7_till_88 rfl (lv_at hl 2 rfl) ?_
          refine n_rdF (va_runS (As := [.int (iI ((Tl 0 : Nat) : Int)), .int (iI 1), .int (iI ((k : Nat) : Int))]) (rest := [.ref (ad (y + 14))]) ⟨hx, hb, hml, hown, hts⟩ (c_X7_cell (Tl 0) 1 k (by omega) (by omega) (by omega)) (va_cwS 3 hts (nT_S wl_X7_134 wt_X7_cell wn_X7 wc_X7_cell) rfl rfl rfl (by decide +kernel) ⟨Nat.le_of_ble_eq_true rfl, Nat.le_of_ble_eq_true rfl⟩) preEq rfl rfl hl.1 rfl (lv_room (Nat.le_of_ble_eq_true rfl)) dX7_till_89 ⟨Nat.zero_le _, Nat.zero_le _⟩) ?_
          refine n_iconst hx hb dX7_till_92 ?_
          refine n_iast hx hb hK hJ hP hS (16 * (Tl 0) + 8 * 1 + k) (by omega) f_Ha (by omega) (by omega) (by decide) dX7_till_93 (fun w21 H locs f_Ha hne22 hP hS => ?_)
          have f_y := (hne22 y (by omega)).trans f_y
          have f_Tl := (hne22 (y + 9) (by omega)).trans f_Tl
          have f_Ts := (hne22 (y + 10) (by omega)).trans f_Ts
          have f_Sc := (hne22 (y + 11) (by omega)).trans f_Sc
          have f_Pd := (hne22 (y + 12) (by omega)).trans f_Pd
          have f_Ex := (hne22 (y + 13) (by omega)).trans f_Ex
          have f_Ga := (hne22 (y + 15) (by omega)).trans f_Ga
          have hfr : ∀ j, j ≠ (y + 9) → j ≠ (y + 10) → j ≠ (y + 11) → j ≠ (y + 12) → j ≠ (y + 13) → j ≠ (y + 14) → j ≠ (y + 15) → w21 j = w j := fun j a0 a1 a2 a3 a4 a5 a6 => (hne22 j (by omega)).trans (hfr j a0 a1 a2 a3 a4 a5 a6)
          have f_Ha := f_Ha.trans (congrArg (aI G 256) (upS (F := Ha) (k := (16 * Tl 0 + 8 * 1 + k)) (by rw [show 16 * Tl 0 + 8 * 1 + k = 16 * Tl 0 + (8 + k) by omega]; exact h1 (8 + k) (by omega))))
          refine lv_aload_n hx hb dX7_till_94 rfl (lv_at hl 0 rfl) ?_
          refine n_get hx hb hts u_X7 hown hK hP (by omega) f_y rfl 15 (by decide) (nT_m wf_X7_53) rfl dX7_till_95 ?_
          refine n_bipush hx hb dX7_till_98 (by decide) ?_
          refine lv_iload_n hx hb dX7_till_100 rfl (lv_at hl 1 rfl) ?_
          refine n_imul hx hb dX7_till_101 ?_
          refine lv_iload_n hx hb dX7_till_102 rfl (lv_at hl 2 rfl) ?_
          refine n_iadd hx hb dX7_till_103 ?_
          refine n_iconst hx hb dX7_till_104 ?_
          refine n_iast hx hb hK hJ hP hS ((8 * Tl 0) + k) (by omega) f_Ga (by omega) (by omega) (by decide) dX7_till_105 (fun w23 H locs f_Ga hne24 hP hS => ?_)
          have f_y := (hne24 y (by omega)).trans f_y
          have f_Tl := (hne24 (y + 9) (by omega)).trans f_Tl
          have f_Ts := (hne24 (y + 10) (by omega)).trans f_Ts
          have f_Sc := (hne24 (y + 11) (by omega)).trans f_Sc
          have f_Pd := (hne24 (y + 12) (by omega)).trans f_Pd
          have f_Ex := (hne24 (y + 13) (by omega)).trans f_Ex
          have f_Ha := (hne24 (y + 14) (by omega)).trans f_Ha
          have hfr : ∀ j, j ≠ (y + 9) → j ≠ (y + 10) → j ≠ (y + 11) → j ≠ (y + 12) → j ≠ (y + 13) → j ≠ (y + 14) → j ≠ (y + 15) → w23 j = w j := fun j a0 a1 a2 a3 a4 a5 a6 => (hne24 j (by omega)).trans (hfr j a0 a1 a2 a3 a4 a5 a6)
          have f_Ga := f_Ga.trans (congrArg (aI G 128) (upS (F := Ga) (k := (8 * Tl 0 + k)) (h2 k (by omega))))
          refine lv_iinc (v := iI (((k : Nat) : Int) + 1)) (lv' := [(2, .int (iI (((k : Nat) : Int) + 1))), (0, .ref (ad y)), (1, .int (iI ((Tl 0 : Nat) : Int)))]) hx hb dX7_till_106 hl (k := 2) rfl (by first | exact iI_add _ _ | exact (iI_add _ _).trans (congrArg iI (by omega))) (by decide) rfl (fun ls hl => ?_)
          refine lv_goto (tgt := 64) hx hb dX7_till_109 (by decide) ?_
          exact ih18 (k + 1) _ _ _ _ (by omega) (by omega) hfr f_y f_Tl f_Ts f_Sc f_Pd f_Ex f_Ha f_Ga hP hS (by first | exact lv_sub hl [1, 2, 0] rfl | exact lv_cast (lv_sub (l' := [(0, .ref (ad y)), (1, .int (iI ((Tl 0 : Nat) : Int))), (2, .int (iI (((k : Nat) : Int) + 1)))]) hl [1, 2, 0] rfl) (lc_s (lc_s (lc_i (show ((((k : Nat) : Int) + 1) : Int) = (((k + 1) : Nat) : Int) by omega) rfl))))
    exact lp16 (8 - 0 + 1) 0 _ _ _ _ (Nat.lt_succ_self _) (by omega) hfr f_y f_Tl f_Ts f_Sc f_Pd f_Ex f_Ha f_Ga hP hS (by first | exact lv_sub hl [2, 1, 0] rfl | exact lv_cast (lv_sub (l' := [(0, .ref (ad y)), (1, .int (iI (Tl 0 : Int))), (2, .int (iI 0))]) hl [2, 1, 0] rfl) (lc_s (lc_i (show ((Tl 0 : Int) : Int) = ((Tl 0 : Nat) : Int) by omega) (lc_i (show (0 : Int) = ((0 : Nat) : Int) by omega) rfl))))
  · skip
    exact absurd hc12 (by omega)
set_option maxHeartbeats 4000000 in
set_option maxRecDepth 100000 in
theorem c_X7_put_no {l : Launch} {G : nG} {N : Nat} {ad : Nat → Nat} {w : Nat → va_E} {sz : Nat} (y : Nat) (Co Tl : Nat → Nat) (tz yz z nz : Int) (hN : y + 26 < N) (hCo : ∀ k, k < 2 → Co k ≤ 8) (hTl : ∀ k, k < 1 → Tl k ≤ 4) (htz : -2147483648 ≤ tz ∧ tz < 2147483648) (hy : -2147483648 ≤ yz ∧ yz < 2147483648) (hz : -2147483648 ≤ z ∧ z < 2147483648) (hno : ¬ ((0 ≤ tz ∧ tz < (Tl 0 : Int)) ∧ (yz = 0 ∨ yz = 1) ∧ (0 ≤ z ∧ z < (Co yz.toNat : Int)))) (f_y : w y = .inr (7, [.int (iI 0), .ref (ad (y + 1)), .ref (ad (y + 2)), .ref (ad (y + 3)), .ref (ad (y + 4)), .ref (ad (y + 5)), .ref (ad (y + 6)), .ref (ad (y + 7)), .ref (ad (y + 8)), .ref (ad (y + 9)), .ref (ad (y + 10)), .ref (ad (y + 11)), .ref (ad (y + 12)), .ref (ad (y + 13)), .ref (ad (y + 14)), .ref (ad (y + 15)), .ref (ad (y + 16)), .ref (ad (y + 17)), .ref (ad (y + 18)), .ref (ad (y + 19)), .ref (ad (y + 20)), .ref (ad (y + 21)), .ref (ad (y + 22)), .ref (ad (y + 23)), .ref (ad (y + 24)), .ref (ad (y + 25)), .ref (ad (y + 26))])) (f_Co : w (y + 1) = aI G 8 (fun q => (Co q : Int))) (f_Tl : w (y + 9) = aI G 4 (fun q => (Tl q : Int))) : Met l yX7_put wsX7_put ({ frames := 2, cells := 0, slots := 0, locals := 44 }) (va_Pc [.ref (ad y), .int (iI tz), .int (iI yz), .int (iI z), .int (iI nz)] (nB G N ad w sz)) (nPi G N ad sz (fun r u => (∀ j, u j = w j) ∧ (r = -1))) 0 0 (nA N ad sz) := by
  refine n_ent (cc := cX7_put) (maxL := 6) (ret := (some .int)) (by decide) rfl (Nat.le_of_ble_eq_true rfl) ?_
  intro p e s m below meth cd hx hb hr hml hlocks hts hown hnm hsz hP hK hI Q hQ ls hl
  have hown : s.vm.findClass RX7 = some m.cls := hown
  subst hsz
  have hJ := hI.J s.heap.size
  have hS : va_S (nA N ad s.heap.size) s.heap s.heap [] := va_S.rf
  have hfr : ∀ j, w j = w j := fun _  => rfl
  have hl : lv_has ls 6 [(0, .ref (ad y)), (1, .int (iI tz)), (2, .int (iI yz)), (3, .int (iI z)), (4, .int (iI nz))] := hl
  refine lv_aload_n hx hb dX7_put_0 rfl (lv_at hl 0 rfl) ?_
  refine n_iconst hx hb dX7_put_1 ?_
  refine n_put hx hb hts u_X7 tyX7 tyX7_ok nmX7 hown hK hJ hP hS (by omega) f_y rfl 0 (by decide) (nT_m wf_X7_90) rfl rfl rfl (Nat.le_of_ble_eq_true rfl) dX7_put_2 (fun w1 H locs f9 hne9 hP hS => ?_)
  have ew9 : w = w1 := funext fun j9 => (Decidable.em (j9 = y)).elim (fun h9 => by rw [h9, f9]; exact f_y) (fun h9 => (hne9 j9 h9).symm)
  subst ew9
  refine lv_aload_n hx hb dX7_put_5 rfl (lv_at hl 0 rfl) ?_
  refine lv_iload_n hx hb dX7_put_6 rfl (lv_at hl 1 rfl) ?_
  refine n_rdF (va_runV (As := [.int (iI tz)]) (rest := []) ⟨hx, hb, hml, hown, hts⟩ (c_X7_isTill _ Tl tz (by omega) hTl (by omega) f_y f_Tl) (cwV 1 hts (nT_V wl_X7_138 wi_X7_isTill ws_X7_isTill wn_X7 wc_X7_isTill) rfl rfl rfl (by decide +kernel) ⟨Nat.le_of_ble_eq_true rfl, Nat.le_of_ble_eq_true rfl⟩) (nB.preV hK hI hP (by omega) f_y rfl rfl) rfl rfl hl.1 rfl (lv_room (Nat.le_of_ble_eq_true rfl)) dX7_put_7 ⟨Nat.zero_le _, Nat.zero_le _⟩) ?_
  refine n_if_eqB (tgt := 22) hx hb dX7_put_10 (by decide) (fun hc10 => ?_) (fun hc10 => ?_)
  · skip
    refine n_iconst hx hb dX7_put_22 ?_
    refine n_iretP hQ hx hb hr hlocks hP hS dX7_put_23 ?_
    exact ⟨hfr, rfl⟩
  · skip
    refine lv_aload_n hx hb dX7_put_13 rfl (lv_at hl 0 rfl) ?_
    refine lv_iload_n hx hb dX7_put_14 rfl (lv_at hl 2 rfl) ?_
    refine lv_iload_n hx hb dX7_put_15 rfl (lv_at hl 3 rfl) ?_
    refine n_rdF (va_runV (As := [.int (iI yz), .int (iI z)]) (rest := []) ⟨hx, hb, hml, hown, hts⟩ (c_X7_isCoin _ Co yz z (by omega) hCo (by omega) (by omega) f_y f_Co) (cwV 2 hts (nT_V wl_X7_121 wi_X7_isCoin ws_X7_isCoin wn_X7 wc_X7_isCoin) rfl rfl rfl (by decide +kernel) ⟨Nat.le_of_ble_eq_true rfl, Nat.le_of_ble_eq_true rfl⟩) (nB.preV hK hI hP (by omega) f_y rfl rfl) rfl rfl hl.1 rfl (lv_room (Nat.le_of_ble_eq_true rfl)) dX7_put_16 ⟨Nat.zero_le _, Nat.zero_le _⟩) ?_
    refine n_if_neB (tgt := 24) hx hb dX7_put_19 (by decide) (fun hc19 => ?_) (fun hc19 => ?_)
    · skip
      exact absurd ⟨hc10, hc19⟩ hno
    · skip
      refine n_iconst hx hb dX7_put_22 ?_
      refine n_iretP hQ hx hb hr hlocks hP hS dX7_put_23 ?_
      exact ⟨hfr, rfl⟩
set_option maxHeartbeats 4000000 in
set_option maxRecDepth 100000 in
theorem c_X7_put_out {l : Launch} {G : nG} {N : Nat} {ad : Nat → Nat} {w : Nat → va_E} {sz : Nat} (y : Nat) (Co Tl Ha : Nat → Nat) (t sy kk : Nat) (nz : Int) (hN : y + 26 < N) (hCo : ∀ k, k < 2 → Co k ≤ 8) (hTl : ∀ k, k < 1 → Tl k ≤ 4) (hHa : ∀ k, k < 64 → Ha k ≤ 1000) (ht : t < Tl 0) (hs : sy < 2) (hk : kk < Co sy) (hnz : -2147483648 ≤ nz ∧ nz < 2147483648) (hno : ¬ (0 ≤ (Ha (16 * t + 8 * sy + kk) : Int) + nz ∧ (Ha (16 * t + 8 * sy + kk) : Int) + nz ≤ 1000)) (f_y : w y = .inr (7, [.int (iI 0), .ref (ad (y + 1)), .ref (ad (y + 2)), .ref (ad (y + 3)), .ref (ad (y + 4)), .ref (ad (y + 5)), .ref (ad (y + 6)), .ref (ad (y + 7)), .ref (ad (y + 8)), .ref (ad (y + 9)), .ref (ad (y + 10)), .ref (ad (y + 11)), .ref (ad (y + 12)), .ref (ad (y + 13)), .ref (ad (y + 14)), .ref (ad (y + 15)), .ref (ad (y + 16)), .ref (ad (y + 17)), .ref (ad (y + 18)), .ref (ad (y + 19)), .ref (ad (y + 20)), .ref (ad (y + 21)), .ref (ad (y + 22)), .ref (ad (y + 23)), .ref (ad (y + 24)), .ref (ad (y + 25)), .ref (ad (y + 26))])) (f_Co : w (y + 1) = aI G 8 (fun q => (Co q : Int))) (f_Tl : w (y + 9) = aI G 4 (fun q => (Tl q : Int))) (f_Ha : w (y + 14) = aI G 256 (fun q => (Ha q : Int))) : Met l yX7_put wsX7_put ({ frames := 2, cells := 0, slots := 0, locals := 44 }) (va_Pc [.ref (ad y), .int (iI ((t : Nat) : Int)), .int (iI ((sy : Nat) : Int)), .int (iI ((kk : Nat) : Int)), .int (iI nz)] (nB G N ad w sz)) (nPi G N ad sz (fun r u => (∀ j, u j = w j) ∧ (r = -1))) 0 0 (nA N ad sz) := by
  refine n_ent (cc := cX7_put) (maxL := 6) (ret := (some .int)) (by decide) rfl (Nat.le_of_ble_eq_true rfl) ?_
  intro p e s m below meth cd hx hb hr hml hlocks hts hown hnm hsz hP hK hI Q hQ ls hl
  have hown : s.vm.findClass RX7 = some m.cls := hown
  subst hsz
  have hJ := hI.J s.heap.size
  have hS : va_S (nA N ad s.heap.size) s.heap s.heap [] := va_S.rf
  have hfr : ∀ j, w j = w j := fun _  => rfl
  have hl : lv_has ls 6 [(0, .ref (ad y)), (1, .int (iI ((t : Nat) : Int))), (2, .int (iI ((sy : Nat) : Int))), (3, .int (iI ((kk : Nat) : Int))), (4, .int (iI nz))] := hl
  have ht0 := hTl 0 (by omega)
  have hcs := hCo sy hs
  refine lv_aload_n hx hb dX7_put_0 rfl (lv_at hl 0 rfl) ?_
  refine n_iconst hx hb dX7_put_1 ?_
  refine n_put hx hb hts u_X7 tyX7 tyX7_ok nmX7 hown hK hJ hP hS (by omega) f_y rfl 0 (by decide) (nT_m wf_X7_90) rfl rfl rfl (Nat.le_of_ble_eq_true rfl) dX7_put_2 (fun w1 H locs f9 hne9 hP hS => ?_)
  have ew9 : w = w1 := funext fun j9 => (Decidable.em (j9 = y)).elim (fun h9 => by rw [h9, f9]; exact f_y) (fun h9 => (hne9 j9 h9).symm)
  subst ew9
  refine lv_aload_n hx hb dX7_put_5 rfl (lv_at hl 0 rfl) ?_
  refine lv_iload_n hx hb dX7_put_6 rfl (lv_at hl 1 rfl) ?_
  refine n_rdF (va_runV (As := [.int (iI ((t : Nat) : Int))]) (rest := []) ⟨hx, hb, hml, hown, hts⟩ (c_X7_isTill _ Tl ((t : Nat) : Int) (by omega) hTl (by omega) f_y f_Tl) (cwV 1 hts (nT_V wl_X7_138 wi_X7_isTill ws_X7_isTill wn_X7 wc_X7_isTill) rfl rfl rfl (by decide +kernel) ⟨Nat.le_of_ble_eq_true rfl, Nat.le_of_ble_eq_true rfl⟩) (nB.preV hK hI hP (by omega) f_y rfl rfl) rfl rfl hl.1 rfl (lv_room (Nat.le_of_ble_eq_true rfl)) dX7_put_7 ⟨Nat.zero_le _, Nat.zero_le _⟩) ?_
  refine n_if_eqB (tgt := 22) hx hb dX7_put_10 (by decide) (fun hc10 => ?_) (fun hc10 => ?_)
  · skip
    exact absurd hc10 (by omega)
  · skip
    refine lv_aload_n hx hb dX7_put_13 rfl (lv_at hl 0 rfl) ?_
    refine lv_iload_n hx hb dX7_put_14 rfl (lv_at hl 2 rfl) ?_
    refine lv_iload_n hx hb dX7_put_15 rfl (lv_at hl 3 rfl) ?_
    refine n_rdF (va_runV (As := [.int (iI ((sy : Nat) : Int)), .int (iI ((kk : Nat) : Int))]) (rest := []) ⟨hx, hb, hml, hown, hts⟩ (c_X7_isCoin _ Co ((sy : Nat) : Int) ((kk : Nat) : Int) (by omega) hCo (by omega) (by omega) f_y f_Co) (cwV 2 hts (nT_V wl_X7_121 wi_X7_isCoin ws_X7_isCoin wn_X7 wc_X7_isCoin) rfl rfl rfl (by decide +kernel) ⟨Nat.le_of_ble_eq_true rfl, Nat.le_of_ble_eq_true rfl⟩) (nB.preV hK hI hP (by omega) f_y rfl rfl) rfl rfl hl.1 rfl (lv_room (Nat.le_of_ble_eq_true rfl)) dX7_put_16 ⟨Nat.zero_le _, Nat.zero_le _⟩) ?_
    refine n_if_neB (tgt := 24) hx hb dX7_put_19 (by decide) (fun hc19 => ?_) (fun hc19 => ?_)
    · skip
      refine lv_iload_n hx hb dX7_put_24 rfl (lv_at hl 1 rfl) ?_
      refine lv_iload_n hx hb dX7_put_25 rfl (lv_at hl 2 rfl) ?_
      refine lv_iload_n hx hb dX7_put_26 rfl (lv_at hl 3 rfl) ?_
      refine n_rdF (va_runS (As := [.int (iI ((t : Nat) : Int)), .int (iI ((sy : Nat) : Int)), .int (iI ((kk : Nat) : Int))]) (rest := []) ⟨hx, hb, hml, hown, hts⟩ (c_X7_cell t sy kk (by omega) (by omega) (by omega)) (va_cwS 3 hts (nT_S wl_X7_134 wt_X7_cell wn_X7 wc_X7_cell) rfl rfl rfl (by decide +kernel) ⟨Nat.le_of_ble_eq_true rfl, Nat.le_of_ble_eq_true rfl⟩) preEq rfl rfl hl.1 rfl (lv_room (Nat.le_of_ble_eq_true rfl)) dX7_put_27 ⟨Nat.zero_le _, Nat.zero_le _⟩) ?_
      refine lv_istore (lv' := [(5, .int (iI ((16 * t + 8 * sy + kk : Nat) : Int))), (0, .ref (ad y)), (1, .int (iI ((t : Nat) : Int))), (2, .int (iI ((sy : Nat) : Int))), (3, .int (iI ((kk : Nat) : Int))), (4, .int (iI nz))]) hx hb dX7_put_30 hl (by decide) rfl (fun ls hl => ?_)
      refine lv_iload hx hb dX7_put_32 (lv_at hl 5 rfl) ?_
      refine lv_aload_n hx hb dX7_put_34 rfl (lv_at hl 1 rfl) ?_
      refine n_get hx hb hts u_X7 hown hK hP (by omega) f_y rfl 14 (by decide) (nT_m wf_X7_50) rfl dX7_put_35 ?_
      refine lv_iload hx hb dX7_put_38 (lv_at hl 0 rfl) ?_
      refine n_iald hx hb hK hP (16 * t + 8 * sy + kk) (by omega) f_Ha (by omega) (by omega) (by decide) dX7_put_40 ?_
      have ho3 := hHa (16 * t + 8 * sy + kk) (by omega)
      refine n_ineg hx hb dX7_put_41 ?_
      refine n_sipush hx hb dX7_put_42 (by decide) ?_
      refine lv_aload_n hx hb dX7_put_45 rfl (lv_at hl 1 rfl) ?_
      refine n_get hx hb hts u_X7 hown hK hP (by omega) f_y rfl 14 (by decide) (nT_m wf_X7_50) rfl dX7_put_46 ?_
      refine lv_iload hx hb dX7_put_49 (lv_at hl 0 rfl) ?_
      refine n_iald hx hb hK hP (16 * t + 8 * sy + kk) (by omega) f_Ha (by omega) (by omega) (by decide) dX7_put_51 ?_
      have ho4 := hHa (16 * t + 8 * sy + kk) (by omega)
      refine n_isub hx hb dX7_put_52 ?_
      refine n_rdF (va_runS (As := [.int (iI nz), .int (iI (-(Ha (16 * t + 8 * sy + kk) : Int))), .int (iI (1000 - (Ha (16 * t + 8 * sy + kk) : Int)))]) (rest := []) ⟨hx, hb, hml, hown, hts⟩ (c_X7_in nz (-(Ha (16 * t + 8 * sy + kk) : Int)) (1000 - (Ha (16 * t + 8 * sy + kk) : Int)) (by omega) (by omega) (by omega)) (va_cwS 3 hts (nT_S wl_X7_98 wt_X7_in wn_X7 wc_X7_in) rfl rfl rfl (by decide +kernel) ⟨Nat.le_of_ble_eq_true rfl, Nat.le_of_ble_eq_true rfl⟩) preEq rfl rfl hl.1 rfl (lv_room (Nat.le_of_ble_eq_true rfl)) dX7_put_53 ⟨Nat.zero_le _, Nat.zero_le _⟩) ?_
      refine n_if_neB (tgt := 61) hx hb dX7_put_56 (by decide) (fun hc56 => ?_) (fun hc56 => ?_)
      · skip
        omega
      · skip
        refine n_iconst hx hb dX7_put_59 ?_
        refine n_iretP hQ hx hb hr hlocks hP hS dX7_put_60 ?_
        exact ⟨hfr, rfl⟩
    · skip
      exact absurd ⟨by omega, by omega, by rw [Int.toNat_natCast]; omega⟩ hc19
set_option maxHeartbeats 4000000 in
set_option maxRecDepth 100000 in
theorem c_X7_put_yes {l : Launch} {G : nG} {N : Nat} {ad : Nat → Nat} {w : Nat → va_E} {sz : Nat} (y : Nat) (Co Tl Ha : Nat → Nat) (t sy kk : Nat) (nz : Int) (nv : Nat) (hN : y + 26 < N) (hCo : ∀ k, k < 2 → Co k ≤ 8) (hTl : ∀ k, k < 1 → Tl k ≤ 4) (hHa : ∀ k, k < 64 → Ha k ≤ 1000) (ht : t < Tl 0) (hs : sy < 2) (hk : kk < Co sy) (hnz : -2147483648 ≤ nz ∧ nz < 2147483648) (hnv : (nv : Int) = (Ha (16 * t + 8 * sy + kk) : Int) + nz) (hnv2 : nv ≤ 1000) (f_y : w y = .inr (7, [.int (iI 0), .ref (ad (y + 1)), .ref (ad (y + 2)), .ref (ad (y + 3)), .ref (ad (y + 4)), .ref (ad (y + 5)), .ref (ad (y + 6)), .ref (ad (y + 7)), .ref (ad (y + 8)), .ref (ad (y + 9)), .ref (ad (y + 10)), .ref (ad (y + 11)), .ref (ad (y + 12)), .ref (ad (y + 13)), .ref (ad (y + 14)), .ref (ad (y + 15)), .ref (ad (y + 16)), .ref (ad (y + 17)), .ref (ad (y + 18)), .ref (ad (y + 19)), .ref (ad (y + 20)), .ref (ad (y + 21)), .ref (ad (y + 22)), .ref (ad (y + 23)), .ref (ad (y + 24)), .ref (ad (y + 25)), .ref (ad (y + 26))])) (f_Co : w (y + 1) = aI G 8 (fun q => (Co q : Int))) (f_Tl : w (y + 9) = aI G 4 (fun q => (Tl q : Int))) (f_Ha : w (y + 14) = aI G 256 (fun q => (Ha q : Int))) : Met l yX7_put wsX7_put ({ frames := 2, cells := 0, slots := 0, locals := 44 }) (va_Pc [.ref (ad y), .int (iI ((t : Nat) : Int)), .int (iI ((sy : Nat) : Int)), .int (iI ((kk : Nat) : Int)), .int (iI nz)] (nB G N ad w sz)) (nPi G N ad sz (fun r u => (∀ j, j ≠ (y + 14) → u j = w j) ∧ (r = nv) ∧ (u (y + 14) = aI G 256 (fun q => ((va_up Ha (16 * t + 8 * sy + kk) nv q : Nat) : Int))))) 0 0 (nA N ad sz) := by
  refine n_ent (cc := cX7_put) (maxL := 6) (ret := (some .int)) (by decide) rfl (Nat.le_of_ble_eq_true rfl) ?_
  intro p e s m below meth cd hx hb hr hml hlocks hts hown hnm hsz hP hK hI Q hQ ls hl
  have hown : s.vm.findClass RX7 = some m.cls := hown
  subst hsz
  have hJ := hI.J s.heap.size
  have hS : va_S (nA N ad s.heap.size) s.heap s.heap [] := va_S.rf
  have hfr : ∀ j, j ≠ (y + 14) → w j = w j := fun _ _ => rfl
  have hl : lv_has ls 6 [(0, .ref (ad y)), (1, .int (iI ((t : Nat) : Int))), (2, .int (iI ((sy : Nat) : Int))), (3, .int (iI ((kk : Nat) : Int))), (4, .int (iI nz))] := hl
  have ht0 := hTl 0 (by omega)
  have hcs := hCo sy hs
  refine lv_aload_n hx hb dX7_put_0 rfl (lv_at hl 0 rfl) ?_
  refine n_iconst hx hb dX7_put_1 ?_
  refine n_put hx hb hts u_X7 tyX7 tyX7_ok nmX7 hown hK hJ hP hS (by omega) f_y rfl 0 (by decide) (nT_m wf_X7_90) rfl rfl rfl (Nat.le_of_ble_eq_true rfl) dX7_put_2 (fun w1 H locs f9 hne9 hP hS => ?_)
  have ew9 : w = w1 := funext fun j9 => (Decidable.em (j9 = y)).elim (fun h9 => by rw [h9, f9]; exact f_y) (fun h9 => (hne9 j9 h9).symm)
  subst ew9
  refine lv_aload_n hx hb dX7_put_5 rfl (lv_at hl 0 rfl) ?_
  refine lv_iload_n hx hb dX7_put_6 rfl (lv_at hl 1 rfl) ?_
  refine n_rdF (va_runV (As := [.int (iI ((t : Nat) : Int))]) (rest := []) ⟨hx, hb, hml, hown, hts⟩ (c_X7_isTill _ Tl ((t : Nat) : Int) (by omega) hTl (by omega) f_y f_Tl) (cwV 1 hts (nT_V wl_X7_138 wi_X7_isTill ws_X7_isTill wn_X7 wc_X7_isTill) rfl rfl rfl (by decide +kernel) ⟨Nat.le_of_ble_eq_true rfl, Nat.le_of_ble_eq_true rfl⟩) (nB.preV hK hI hP (by omega) f_y rfl rfl) rfl rfl hl.1 rfl (lv_room (Nat.le_of_ble_eq_true rfl)) dX7_put_7 ⟨Nat.zero_le _, Nat.zero_le _⟩) ?_
  refine n_if_eqB (tgt := 22) hx hb dX7_put_10 (by decide) (fun hc10 => ?_) (fun hc10 => ?_)
  · skip
    exact absurd hc10 (by omega)
  · skip
    refine lv_aload_n hx hb dX7_put_13 rfl (lv_at hl 0 rfl) ?_
    refine lv_iload_n hx hb dX7_put_14 rfl (lv_at hl 2 rfl) ?_
    refine lv_iload_n hx hb dX7_put_15 rfl (lv_at hl 3 rfl) ?_
    refine n_rdF (va_runV (As := [.int (iI ((sy : Nat) : Int)), .int (iI ((kk : Nat) : Int))]) (rest := []) ⟨hx, hb, hml, hown, hts⟩ (c_X7_isCoin _ Co ((sy : Nat) : Int) ((kk : Nat) : Int) (by omega) hCo (by omega) (by omega) f_y f_Co) (cwV 2 hts (nT_V wl_X7_121 wi_X7_isCoin ws_X7_isCoin wn_X7 wc_X7_isCoin) rfl rfl rfl (by decide +kernel) ⟨Nat.le_of_ble_eq_true rfl, Nat.le_of_ble_eq_true rfl⟩) (nB.preV hK hI hP (by omega) f_y rfl rfl) rfl rfl hl.1 rfl (lv_room (Nat.le_of_ble_eq_true rfl)) dX7_put_16 ⟨Nat.zero_le _, Nat.zero_le _⟩) ?_
    refine n_if_neB (tgt := 24) hx hb dX7_put_19 (by decide) (fun hc19 => ?_) (fun hc19 => ?_)
    · skip
      refine lv_iload_n hx hb dX7_put_24 rfl (lv_at hl 1 rfl) ?_
      refine lv_iload_n hx hb dX7_put_25 rfl (lv_at hl 2 rfl) ?_
      refine lv_iload_n hx hb dX7_put_26 rfl (lv_at hl 3 rfl) ?_
      refine n_rdF (va_runS (As := [.int (iI ((t : Nat) : Int)), .int (iI ((sy : Nat) : Int)), .int (iI ((kk : Nat) : Int))]) (rest := []) ⟨hx, hb, hml, hown, hts⟩ (c_X7_cell t sy kk (by omega) (by omega) (by omega)) (va_cwS 3 hts (nT_S wl_X7_134 wt_X7_cell wn_X7 wc_X7_cell) rfl rfl rfl (by decide +kernel) ⟨Nat.le_of_ble_eq_true rfl, Nat.le_of_ble_eq_true rfl⟩) preEq rfl rfl hl.1 rfl (lv_room (Nat.le_of_ble_eq_true rfl)) dX7_put_27 ⟨Nat.zero_le _, Nat.zero_le _⟩) ?_
      refine lv_istore (lv' := [(5, .int (iI ((16 * t + 8 * sy + kk : Nat) : Int))), (0, .ref (ad y)), (1, .int (iI ((t : Nat) : Int))), (2, .int (iI ((sy : Nat) : Int))), (3, .int (iI ((kk : Nat) : Int))), (4, .int (iI nz))]) hx hb dX7_put_30 hl (by decide) rfl (fun ls hl => ?_)
      refine lv_iload hx hb dX7_put_32 (lv_at hl 5 rfl) ?_
      refine lv_aload_n hx hb dX7_put_34 rfl (lv_at hl 1 rfl) ?_
      refine n_get hx hb hts u_X7 hown hK hP (by omega) f_y rfl 14 (by decide) (nT_m wf_X7_50) rfl dX7_put_35 ?_
      refine lv_iload hx hb dX7_put_38 (lv_at hl 0 rfl) ?_
      refine n_iald hx hb hK hP (16 * t + 8 * sy + kk) (by omega) f_Ha (by omega) (by omega) (by decide) dX7_put_40 ?_
      have ho3 := hHa (16 * t + 8 * sy + kk) (by omega)
      refine n_ineg hx hb dX7_put_41 ?_
      refine n_sipush hx hb dX7_put_42 (by decide) ?_
      refine lv_aload_n hx hb dX7_put_45 rfl (lv_at hl 1 rfl) ?_
      refine n_get hx hb hts u_X7 hown hK hP (by omega) f_y rfl 14 (by decide) (nT_m wf_X7_50) rfl dX7_put_46 ?_
      refine lv_iload hx hb dX7_put_49 (lv_at hl 0 rfl) ?_
      refine n_iald hx hb hK hP (16 * t + 8 * sy + kk) (by omega) f_Ha (by omega) (by omega) (by decide) dX7_put_51 ?_
      have ho4 := hHa (16 * t + 8 * sy + kk) (by omega)
      refine n_isub hx hb dX7_put_52 ?_
      refine n_rdF (va_runS (As := [.int (iI nz), .int (iI (-(Ha (16 * t + 8 * sy + kk) : Int))), .int (iI (1000 - (Ha (16 * t + 8 * sy + kk) : Int)))]) (rest := []) ⟨hx, hb, hml, hown, hts⟩ (c_X7_in nz (-(Ha (16 * t + 8 * sy + kk) : Int)) (1000 - (Ha (16 * t + 8 * sy + kk) : Int)) (by omega) (by omega) (by omega)) (va_cwS 3 hts (nT_S wl_X7_98 wt_X7_in wn_X7 wc_X7_in) rfl rfl rfl (by decide +kernel) ⟨Nat.le_of_ble_eq_true rfl, Nat.le_of_ble_eq_true rfl⟩) preEq rfl rfl hl.1 rfl (lv_room (Nat.le_of_ble_eq_true rfl)) dX7_put_53 ⟨Nat.zero_le _, Nat.zero_le _⟩) ?_
      refine n_if_neB (tgt := 61) hx hb dX7_put_56 (by decide) (fun hc56 => ?_) (fun hc56 => ?_)
      · skip
        refine lv_aload_n hx hb dX7_put_61 rfl (lv_at hl 1 rfl) ?_
        refine n_get hx hb hts u_X7 hown hK hP (by omega) f_y rfl 14 (by decide) (nT_m wf_X7_50) rfl dX7_put_62 ?_
        refine lv_iload hx hb dX7_put_65 (lv_at hl 0 rfl) ?_
        refine lv_dup2_11 hx hb dX7_put_67 rfl rfl ?_
        refine n_iald hx hb hK hP (16 * t + 8 * sy + kk) (by omega) f_Ha (by omega) (by omega) (by decide) dX7_put_68 ?_
        have ho5 := hHa (16 * t + 8 * sy + kk) (by omega)
        refine lv_iload hx hb dX7_put_69 (lv_at hl 5 rfl) ?_
        refine n_iadd hx hb dX7_put_71 ?_
        refine n_iast hx hb hK hJ hP hS (16 * t + 8 * sy + kk) (by omega) f_Ha (by omega) (by omega) (by decide) dX7_put_72 (fun w6 H locs f_Ha hne7 hP hS => ?_)
        have f_y := (hne7 y (by omega)).trans f_y
        have f_Co := (hne7 (y + 1) (by omega)).trans f_Co
        have f_Tl := (hne7 (y + 9) (by omega)).trans f_Tl
        have hfr : ∀ j, j ≠ (y + 14) → w6 j = w j := fun j a0 => (hne7 j (by omega)).trans (hfr j a0)
        refine lv_aload_n hx hb dX7_put_73 rfl (lv_at hl 1 rfl) ?_
        refine n_get hx hb hts u_X7 hown hK hP (by omega) f_y rfl 14 (by decide) (nT_m wf_X7_50) rfl dX7_put_74 ?_
        refine lv_iload hx hb dX7_put_77 (lv_at hl 0 rfl) ?_
        refine n_iald hx hb hK hP (16 * t + 8 * sy + kk) (by omega) f_Ha (by omega) (by omega) (by decide) dX7_put_79 ?_
        have ho8 := hHa (16 * t + 8 * sy + kk) (by omega)
        refine n_iretP hQ hx hb hr hlocks hP hS dX7_put_80 ?_
        exact ⟨hfr, by rw [va_up_self]; omega, f_Ha.trans (congrArg (aI G 256) (upZ Ha (16 * t + 8 * sy + kk) nv _ (by omega)))⟩
      · skip
        omega
    · skip
      exact absurd ⟨by omega, by omega, by rw [Int.toNat_natCast]; omega⟩ hc19
set_option maxHeartbeats 4000000 in
set_option maxRecDepth 100000 in
theorem c_X7_has_no {l : Launch} {G : nG} {N : Nat} {ad : Nat → Nat} {w : Nat → va_E} {sz : Nat} (y : Nat) (Co Tl : Nat → Nat) (tz yz z : Int) (hN : y + 26 < N) (hCo : ∀ k, k < 2 → Co k ≤ 8) (hTl : ∀ k, k < 1 → Tl k ≤ 4) (htz : -2147483648 ≤ tz ∧ tz < 2147483648) (hy : -2147483648 ≤ yz ∧ yz < 2147483648) (hz : -2147483648 ≤ z ∧ z < 2147483648) (hno : ¬ ((0 ≤ tz ∧ tz < (Tl 0 : Int)) ∧ (yz = 0 ∨ yz = 1) ∧ (0 ≤ z ∧ z < (Co yz.toNat : Int)))) (f_y : w y = .inr (7, [.int (iI 0), .ref (ad (y + 1)), .ref (ad (y + 2)), .ref (ad (y + 3)), .ref (ad (y + 4)), .ref (ad (y + 5)), .ref (ad (y + 6)), .ref (ad (y + 7)), .ref (ad (y + 8)), .ref (ad (y + 9)), .ref (ad (y + 10)), .ref (ad (y + 11)), .ref (ad (y + 12)), .ref (ad (y + 13)), .ref (ad (y + 14)), .ref (ad (y + 15)), .ref (ad (y + 16)), .ref (ad (y + 17)), .ref (ad (y + 18)), .ref (ad (y + 19)), .ref (ad (y + 20)), .ref (ad (y + 21)), .ref (ad (y + 22)), .ref (ad (y + 23)), .ref (ad (y + 24)), .ref (ad (y + 25)), .ref (ad (y + 26))])) (f_Co : w (y + 1) = aI G 8 (fun q => (Co q : Int))) (f_Tl : w (y + 9) = aI G 4 (fun q => (Tl q : Int))) : Met l yX7_has wsX7_has ({ frames := 2, cells := 0, slots := 0, locals := 44 }) (va_Pc [.ref (ad y), .int (iI tz), .int (iI yz), .int (iI z)] (nB G N ad w sz)) (nPi G N ad sz (fun r u => (∀ j, u j = w j) ∧ (r = -1))) 0 0 (nA N ad sz) := by
  refine n_ent (cc := cX7_has) (maxL := 4) (ret := (some .int)) (by decide) rfl (Nat.le_of_ble_eq_true rfl) ?_
  intro p e s m below meth cd hx hb hr hml hlocks hts hown hnm hsz hP hK hI Q hQ ls hl
  have hown : s.vm.findClass RX7 = some m.cls := hown
  subst hsz
  have hJ := hI.J s.heap.size
  have hS : va_S (nA N ad s.heap.size) s.heap s.heap [] := va_S.rf
  have hfr : ∀ j, w j = w j := fun _  => rfl
  have hl : lv_has ls 4 [(0, .ref (ad y)), (1, .int (iI tz)), (2, .int (iI yz)), (3, .int (iI z))] := hl
  refine lv_aload_n hx hb dX7_has_0 rfl (lv_at hl 0 rfl) ?_
  refine n_iconst hx hb dX7_has_1 ?_
  refine n_put hx hb hts u_X7 tyX7 tyX7_ok nmX7 hown hK hJ hP hS (by omega) f_y rfl 0 (by decide) (nT_m wf_X7_90) rfl rfl rfl (Nat.le_of_ble_eq_true rfl) dX7_has_2 (fun w1 H locs f9 hne9 hP hS => ?_)
  have ew9 : w = w1 := funext fun j9 => (Decidable.em (j9 = y)).elim (fun h9 => by rw [h9, f9]; exact f_y) (fun h9 => (hne9 j9 h9).symm)
  subst ew9
  refine lv_aload_n hx hb dX7_has_5 rfl (lv_at hl 0 rfl) ?_
  refine lv_iload_n hx hb dX7_has_6 rfl (lv_at hl 1 rfl) ?_
  refine n_rdF (va_runV (As := [.int (iI tz)]) (rest := []) ⟨hx, hb, hml, hown, hts⟩ (c_X7_isTill _ Tl tz (by omega) hTl (by omega) f_y f_Tl) (cwV 1 hts (nT_V wl_X7_138 wi_X7_isTill ws_X7_isTill wn_X7 wc_X7_isTill) rfl rfl rfl (by decide +kernel) ⟨Nat.le_of_ble_eq_true rfl, Nat.le_of_ble_eq_true rfl⟩) (nB.preV hK hI hP (by omega) f_y rfl rfl) rfl rfl hl.1 rfl (lv_room (Nat.le_of_ble_eq_true rfl)) dX7_has_7 ⟨Nat.zero_le _, Nat.zero_le _⟩) ?_
  refine n_if_eqB (tgt := 36) hx hb dX7_has_10 (by decide) (fun hc10 => ?_) (fun hc10 => ?_)
  · skip
    refine n_iconst hx hb dX7_has_36 ?_
    refine n_iretP hQ hx hb hr hlocks hP hS dX7_has_37 ?_
    exact ⟨hfr, rfl⟩
  · skip
    refine lv_aload_n hx hb dX7_has_13 rfl (lv_at hl 0 rfl) ?_
    refine lv_iload_n hx hb dX7_has_14 rfl (lv_at hl 2 rfl) ?_
    refine lv_iload_n hx hb dX7_has_15 rfl (lv_at hl 3 rfl) ?_
    refine n_rdF (va_runV (As := [.int (iI yz), .int (iI z)]) (rest := []) ⟨hx, hb, hml, hown, hts⟩ (c_X7_isCoin _ Co yz z (by omega) hCo (by omega) (by omega) f_y f_Co) (cwV 2 hts (nT_V wl_X7_121 wi_X7_isCoin ws_X7_isCoin wn_X7 wc_X7_isCoin) rfl rfl rfl (by decide +kernel) ⟨Nat.le_of_ble_eq_true rfl, Nat.le_of_ble_eq_true rfl⟩) (nB.preV hK hI hP (by omega) f_y rfl rfl) rfl rfl hl.1 rfl (lv_room (Nat.le_of_ble_eq_true rfl)) dX7_has_16 ⟨Nat.zero_le _, Nat.zero_le _⟩) ?_
    refine n_if_eqB (tgt := 36) hx hb dX7_has_19 (by decide) (fun hc19 => ?_) (fun hc19 => ?_)
    · skip
      refine n_iconst hx hb dX7_has_36 ?_
      refine n_iretP hQ hx hb hr hlocks hP hS dX7_has_37 ?_
      exact ⟨hfr, rfl⟩
    · skip
      exact absurd ⟨hc10, hc19⟩ hno
set_option maxHeartbeats 4000000 in
set_option maxRecDepth 100000 in
theorem c_X7_has_yes {l : Launch} {G : nG} {N : Nat} {ad : Nat → Nat} {w : Nat → va_E} {sz : Nat} (y : Nat) (Co Tl Ha : Nat → Nat) (t sy kk : Nat) (hN : y + 26 < N) (hCo : ∀ k, k < 2 → Co k ≤ 8) (hTl : ∀ k, k < 1 → Tl k ≤ 4) (hHa : ∀ k, k < 64 → Ha k ≤ 1000) (ht : t < Tl 0) (hs : sy < 2) (hk : kk < Co sy) (f_y : w y = .inr (7, [.int (iI 0), .ref (ad (y + 1)), .ref (ad (y + 2)), .ref (ad (y + 3)), .ref (ad (y + 4)), .ref (ad (y + 5)), .ref (ad (y + 6)), .ref (ad (y + 7)), .ref (ad (y + 8)), .ref (ad (y + 9)), .ref (ad (y + 10)), .ref (ad (y + 11)), .ref (ad (y + 12)), .ref (ad (y + 13)), .ref (ad (y + 14)), .ref (ad (y + 15)), .ref (ad (y + 16)), .ref (ad (y + 17)), .ref (ad (y + 18)), .ref (ad (y + 19)), .ref (ad (y + 20)), .ref (ad (y + 21)), .ref (ad (y + 22)), .ref (ad (y + 23)), .ref (ad (y + 24)), .ref (ad (y + 25)), .ref (ad (y + 26))])) (f_Co : w (y + 1) = aI G 8 (fun q => (Co q : Int))) (f_Tl : w (y + 9) = aI G 4 (fun q => (Tl q : Int))) (f_Ha : w (y + 14) = aI G 256 (fun q => (Ha q : Int))) : Met l yX7_has wsX7_has ({ frames := 2, cells := 0, slots := 0, locals := 44 }) (va_Pc [.ref (ad y), .int (iI ((t : Nat) : Int)), .int (iI ((sy : Nat) : Int)), .int (iI ((kk : Nat) : Int))] (nB G N ad w sz)) (nPi G N ad sz (fun r u => (∀ j, u j = w j) ∧ (r = ((Ha (16 * t + 8 * sy + kk) : Nat) : Int)))) 0 0 (nA N ad sz) := by
  refine n_ent (cc := cX7_has) (maxL := 4) (ret := (some .int)) (by decide) rfl (Nat.le_of_ble_eq_true rfl) ?_
  intro p e s m below meth cd hx hb hr hml hlocks hts hown hnm hsz hP hK hI Q hQ ls hl
  have hown : s.vm.findClass RX7 = some m.cls := hown
  subst hsz
  have hJ := hI.J s.heap.size
  have hS : va_S (nA N ad s.heap.size) s.heap s.heap [] := va_S.rf
  have hfr : ∀ j, w j = w j := fun _  => rfl
  have hl : lv_has ls 4 [(0, .ref (ad y)), (1, .int (iI ((t : Nat) : Int))), (2, .int (iI ((sy : Nat) : Int))), (3, .int (iI ((kk : Nat) : Int)))] := hl
  have ht0 := hTl 0 (by omega)
  have hcs := hCo sy hs
  refine lv_aload_n hx hb dX7_has_0 rfl (lv_at hl 0 rfl) ?_
  refine n_iconst hx hb dX7_has_1 ?_
  refine n_put hx hb hts u_X7 tyX7 tyX7_ok nmX7 hown hK hJ hP hS (by omega) f_y rfl 0 (by decide) (nT_m wf_X7_90) rfl rfl rfl (Nat.le_of_ble_eq_true rfl) dX7_has_2 (fun w1 H locs f9 hne9 hP hS => ?_)
  have ew9 : w = w1 := funext fun j9 => (Decidable.em (j9 = y)).elim (fun h9 => by rw [h9, f9]; exact f_y) (fun h9 => (hne9 j9 h9).symm)
  subst ew9
  refine lv_aload_n hx hb dX7_has_5 rfl (lv_at hl 0 rfl) ?_
  refine lv_iload_n hx hb dX7_has_6 rfl (lv_at hl 1 rfl) ?_
  refine n_rdF (va_runV (As := [.int (iI ((t : Nat) : Int))]) (rest := []) ⟨hx, hb, hml, hown, hts⟩ (c_X7_isTill _ Tl ((t : Nat) : Int) (by omega) hTl (by omega) f_y f_Tl) (cwV 1 hts (nT_V wl_X7_138 wi_X7_isTill ws_X7_isTill wn_X7 wc_X7_isTill) rfl rfl rfl (by decide +kernel) ⟨Nat.le_of_ble_eq_true rfl, Nat.le_of_ble_eq_true rfl⟩) (nB.preV hK hI hP (by omega) f_y rfl rfl) rfl rfl hl.1 rfl (lv_room (Nat.le_of_ble_eq_true rfl)) dX7_has_7 ⟨Nat.zero_le _, Nat.zero_le _⟩) ?_
  refine n_if_eqB (tgt := 36) hx hb dX7_has_10 (by decide) (fun hc10 => ?_) (fun hc10 => ?_)
  · skip
    exact absurd hc10 (by omega)
  · skip
    refine lv_aload_n hx hb dX7_has_13 rfl (lv_at hl 0 rfl) ?_
    refine lv_iload_n hx hb dX7_has_14 rfl (lv_at hl 2 rfl) ?_
    refine lv_iload_n hx hb dX7_has_15 rfl (lv_at hl 3 rfl) ?_
    refine n_rdF (va_runV (As := [.int (iI ((sy : Nat) : Int)), .int (iI ((kk : Nat) : Int))]) (rest := []) ⟨hx, hb, hml, hown, hts⟩ (c_X7_isCoin _ Co ((sy : Nat) : Int) ((kk : Nat) : Int) (by omega) hCo (by omega) (by omega) f_y f_Co) (cwV 2 hts (nT_V wl_X7_121 wi_X7_isCoin ws_X7_isCoin wn_X7 wc_X7_isCoin) rfl rfl rfl (by decide +kernel) ⟨Nat.le_of_ble_eq_true rfl, Nat.le_of_ble_eq_true rfl⟩) (nB.preV hK hI hP (by omega) f_y rfl rfl) rfl rfl hl.1 rfl (lv_room (Nat.le_of_ble_eq_true rfl)) dX7_has_16 ⟨Nat.zero_le _, Nat.zero_le _⟩) ?_
    refine n_if_eqB (tgt := 36) hx hb dX7_has_19 (by decide) (fun hc19 => ?_) (fun hc19 => ?_)
    · skip
      exact absurd ⟨by omega, by omega, by rw [Int.toNat_natCast]; omega⟩ hc19
    · skip
      refine lv_aload_n hx hb dX7_has_22 rfl (lv_at hl 0 rfl) ?_
      refine n_get hx hb hts u_X7 hown hK hP (by omega) f_y rfl 14 (by decide) (nT_m wf_X7_50) rfl dX7_has_23 ?_
      refine lv_iload_n hx hb dX7_has_26 rfl (lv_at hl 1 rfl) ?_
      refine lv_iload_n hx hb dX7_has_27 rfl (lv_at hl 2 rfl) ?_
      refine lv_iload_n hx hb dX7_has_28 rfl (lv_at hl 3 rfl) ?_
      refine n_rdF (va_runS (As := [.int (iI ((t : Nat) : Int)), .int (iI ((sy : Nat) : Int)), .int (iI ((kk : Nat) : Int))]) (rest := [.ref (ad (y + 14))]) ⟨hx, hb, hml, hown, hts⟩ (c_X7_cell t sy kk (by omega) (by omega) (by omega)) (va_cwS 3 hts (nT_S wl_X7_134 wt_X7_cell wn_X7 wc_X7_cell) rfl rfl rfl (by decide +kernel) ⟨Nat.le_of_ble_eq_true rfl, Nat.le_of_ble_eq_true rfl⟩) preEq rfl rfl hl.1 rfl (lv_room (Nat.le_of_ble_eq_true rfl)) dX7_has_29 ⟨Nat.zero_le _, Nat.zero_le _⟩) ?_
      refine n_iald hx hb hK hP (16 * t + 8 * sy + kk) (by omega) f_Ha (by omega) (by omega) (by decide) dX7_has_32 ?_
      have ho3 := hHa (16 * t + 8 * sy + kk) (by omega)
      refine lv_goto (tgt := 37) hx hb dX7_has_33 (by decide) ?_
      refine n_iretP hQ hx hb hr hlocks hP hS dX7_has_37 ?_
      exact ⟨hfr, rfl⟩
set_option maxHeartbeats 4000000 in
set_option maxRecDepth 100000 in
theorem c_X7_given_no {l : Launch} {G : nG} {N : Nat} {ad : Nat → Nat} {w : Nat → va_E} {sz : Nat} (y : Nat) (Co Tl Ts : Nat → Nat) (tz z : Int) (hN : y + 26 < N) (hCo : ∀ k, k < 2 → Co k ≤ 8) (hTl : ∀ k, k < 1 → Tl k ≤ 4) (hTs : ∀ k, k < 4 → Ts k < 2147483647) (htz : -2147483648 ≤ tz ∧ tz < 2147483648) (hz : -2147483648 ≤ z ∧ z < 2147483648) (hno : ¬ ((0 ≤ tz ∧ tz < (Tl 0 : Int)) ∧ ¬ Ts tz.toNat = 0 ∧ (0 ≤ z ∧ z < (Co 1 : Int)))) (f_y : w y = .inr (7, [.int (iI 0), .ref (ad (y + 1)), .ref (ad (y + 2)), .ref (ad (y + 3)), .ref (ad (y + 4)), .ref (ad (y + 5)), .ref (ad (y + 6)), .ref (ad (y + 7)), .ref (ad (y + 8)), .ref (ad (y + 9)), .ref (ad (y + 10)), .ref (ad (y + 11)), .ref (ad (y + 12)), .ref (ad (y + 13)), .ref (ad (y + 14)), .ref (ad (y + 15)), .ref (ad (y + 16)), .ref (ad (y + 17)), .ref (ad (y + 18)), .ref (ad (y + 19)), .ref (ad (y + 20)), .ref (ad (y + 21)), .ref (ad (y + 22)), .ref (ad (y + 23)), .ref (ad (y + 24)), .ref (ad (y + 25)), .ref (ad (y + 26))])) (f_Co : w (y + 1) = aI G 8 (fun q => (Co q : Int))) (f_Tl : w (y + 9) = aI G 4 (fun q => (Tl q : Int))) (f_Ts : w (y + 10) = aI G 16 (fun q => (Ts q : Int))) : Met l yX7_given wsX7_given ({ frames := 2, cells := 0, slots := 0, locals := 44 }) (va_Pc [.ref (ad y), .int (iI tz), .int (iI z)] (nB G N ad w sz)) (nPi G N ad sz (fun r u => (∀ j, u j = w j) ∧ (r = -1))) 0 0 (nA N ad sz) := by
  refine n_ent (cc := cX7_given) (maxL := 3) (ret := (some .int)) (by decide) rfl (Nat.le_of_ble_eq_true rfl) ?_
  intro p e s m below meth cd hx hb hr hml hlocks hts hown hnm hsz hP hK hI Q hQ ls hl
  have hown : s.vm.findClass RX7 = some m.cls := hown
  subst hsz
  have hJ := hI.J s.heap.size
  have hS : va_S (nA N ad s.heap.size) s.heap s.heap [] := va_S.rf
  have hfr : ∀ j, w j = w j := fun _  => rfl
  have hl : lv_has ls 3 [(0, .ref (ad y)), (1, .int (iI tz)), (2, .int (iI z))] := hl
  have ht0 := hTl 0 (by omega)
  refine lv_aload_n hx hb dX7_given_0 rfl (lv_at hl 0 rfl) ?_
  refine n_iconst hx hb dX7_given_1 ?_
  refine n_put hx hb hts u_X7 tyX7 tyX7_ok nmX7 hown hK hJ hP hS (by omega) f_y rfl 0 (by decide) (nT_m wf_X7_90) rfl rfl rfl (Nat.le_of_ble_eq_true rfl) dX7_given_2 (fun w1 H locs f9 hne9 hP hS => ?_)
  have ew9 : w = w1 := funext fun j9 => (Decidable.em (j9 = y)).elim (fun h9 => by rw [h9, f9]; exact f_y) (fun h9 => (hne9 j9 h9).symm)
  subst ew9
  refine lv_aload_n hx hb dX7_given_5 rfl (lv_at hl 0 rfl) ?_
  refine lv_iload_n hx hb dX7_given_6 rfl (lv_at hl 1 rfl) ?_
  refine n_rdF (va_runV (As := [.int (iI tz)]) (rest := []) ⟨hx, hb, hml, hown, hts⟩ (c_X7_isTill _ Tl tz (by omega) hTl (by omega) f_y f_Tl) (cwV 1 hts (nT_V wl_X7_138 wi_X7_isTill ws_X7_isTill wn_X7 wc_X7_isTill) rfl rfl rfl (by decide +kernel) ⟨Nat.le_of_ble_eq_true rfl, Nat.le_of_ble_eq_true rfl⟩) (nB.preV hK hI hP (by omega) f_y rfl rfl) rfl rfl hl.1 rfl (lv_room (Nat.le_of_ble_eq_true rfl)) dX7_given_7 ⟨Nat.zero_le _, Nat.zero_le _⟩) ?_
  refine n_if_eqB (tgt := 45) hx hb dX7_given_10 (by decide) (fun hc10 => ?_) (fun hc10 => ?_)
  · skip
    refine n_iconst hx hb dX7_given_45 ?_
    refine n_iretP hQ hx hb hr hlocks hP hS dX7_given_46 ?_
    exact ⟨hfr, rfl⟩
  · skip
    refine lv_aload_n hx hb dX7_given_13 rfl (lv_at hl 0 rfl) ?_
    refine n_iconst hx hb dX7_given_14 ?_
    refine lv_iload_n hx hb dX7_given_15 rfl (lv_at hl 2 rfl) ?_
    refine n_rdF (va_runV (As := [.int (iI 1), .int (iI z)]) (rest := []) ⟨hx, hb, hml, hown, hts⟩ (c_X7_isCoin _ Co 1 z (by omega) hCo (by omega) (by omega) f_y f_Co) (cwV 2 hts (nT_V wl_X7_121 wi_X7_isCoin ws_X7_isCoin wn_X7 wc_X7_isCoin) rfl rfl rfl (by decide +kernel) ⟨Nat.le_of_ble_eq_true rfl, Nat.le_of_ble_eq_true rfl⟩) (nB.preV hK hI hP (by omega) f_y rfl rfl) rfl rfl hl.1 rfl (lv_room (Nat.le_of_ble_eq_true rfl)) dX7_given_16 ⟨Nat.zero_le _, Nat.zero_le _⟩) ?_
    refine n_if_eqB (tgt := 45) hx hb dX7_given_19 (by decide) (fun hc19 => ?_) (fun hc19 => ?_)
    · skip
      refine n_iconst hx hb dX7_given_45 ?_
      refine n_iretP hQ hx hb hr hlocks hP hS dX7_given_46 ?_
      exact ⟨hfr, rfl⟩
    · skip
      refine lv_aload_n hx hb dX7_given_22 rfl (lv_at hl 0 rfl) ?_
      refine n_get hx hb hts u_X7 hown hK hP (by omega) f_y rfl 10 (by decide) (nT_m wf_X7_37) rfl dX7_given_23 ?_
      refine lv_iload_n hx hb dX7_given_26 rfl (lv_at hl 1 rfl) ?_
      refine n_iald hx hb hK hP tz.toNat (by omega) f_Ts (by omega) (by omega) (by decide) dX7_given_27 ?_
      have ho3 := hTs tz.toNat (by omega)
      refine n_if_le (tgt := 45) hx hb dX7_given_28 (by decide) (by omega) (fun hc28 => ?_) (fun hc28 => ?_)
      · skip
        refine n_iconst hx hb dX7_given_45 ?_
        refine n_iretP hQ hx hb hr hlocks hP hS dX7_given_46 ?_
        exact ⟨hfr, rfl⟩
      · skip
        exact absurd ⟨hc10, by omega, hc19.2⟩ hno
set_option maxHeartbeats 4000000 in
set_option maxRecDepth 100000 in
theorem c_X7_given_yes {l : Launch} {G : nG} {N : Nat} {ad : Nat → Nat} {w : Nat → va_E} {sz : Nat} (y : Nat) (Co Tl Ts Ga : Nat → Nat) (t kk : Nat) (hN : y + 26 < N) (hCo : ∀ k, k < 2 → Co k ≤ 8) (hTl : ∀ k, k < 1 → Tl k ≤ 4) (hTs : ∀ k, k < 4 → Ts k < 2147483647) (ht : t < Tl 0) (hsa : ¬ Ts t = 0) (hk : kk < Co 1) (f_y : w y = .inr (7, [.int (iI 0), .ref (ad (y + 1)), .ref (ad (y + 2)), .ref (ad (y + 3)), .ref (ad (y + 4)), .ref (ad (y + 5)), .ref (ad (y + 6)), .ref (ad (y + 7)), .ref (ad (y + 8)), .ref (ad (y + 9)), .ref (ad (y + 10)), .ref (ad (y + 11)), .ref (ad (y + 12)), .ref (ad (y + 13)), .ref (ad (y + 14)), .ref (ad (y + 15)), .ref (ad (y + 16)), .ref (ad (y + 17)), .ref (ad (y + 18)), .ref (ad (y + 19)), .ref (ad (y + 20)), .ref (ad (y + 21)), .ref (ad (y + 22)), .ref (ad (y + 23)), .ref (ad (y + 24)), .ref (ad (y + 25)), .ref (ad (y + 26))])) (f_Co : w (y + 1) = aI G 8 (fun q => (Co q : Int))) (f_Tl : w (y + 9) = aI G 4 (fun q => (Tl q : Int))) (f_Ts : w (y + 10) = aI G 16 (fun q => (Ts q : Int))) (f_Ga : w (y + 15) = aI G 128 (fun q => (Ga q : Int))) : Met l yX7_given wsX7_given ({ frames := 2, cells := 0, slots := 0, locals := 44 }) (va_Pc [.ref (ad y), .int (iI ((t : Nat) : Int)), .int (iI ((kk : Nat) : Int))] (nB G N ad w sz)) (nPi G N ad sz (fun r u => (∀ j, u j = w j) ∧ (r = ((Ga (8 * t + kk) : Nat) : Int)))) 0 0 (nA N ad sz) := by
  refine n_ent (cc := cX7_given) (maxL := 3) (ret := (some .int)) (by decide) rfl (Nat.le_of_ble_eq_true rfl) ?_
  intro p e s m below meth cd hx hb hr hml hlocks hts hown hnm hsz hP hK hI Q hQ ls hl
  have hown : s.vm.findClass RX7 = some m.cls := hown
  subst hsz
  have hJ := hI.J s.heap.size
  have hS : va_S (nA N ad s.heap.size) s.heap s.heap [] := va_S.rf
  have hfr : ∀ j, w j = w j := fun _  => rfl
  have hl : lv_has ls 3 [(0, .ref (ad y)), (1, .int (iI ((t : Nat) : Int))), (2, .int (iI ((kk : Nat) : Int)))] := hl
  have ht0 := hTl 0 (by omega)
  have hcs := hCo 1 (by omega)
  have hk2 : ((kk : Nat) : Int) < (Co (1 : Int).toNat : Int) := by show ((kk : Nat) : Int) < (Co 1 : Int); omega
  refine lv_aload_n hx hb dX7_given_0 rfl (lv_at hl 0 rfl) ?_
  refine n_iconst hx hb dX7_given_1 ?_
  refine n_put hx hb hts u_X7 tyX7 tyX7_ok nmX7 hown hK hJ hP hS (by omega) f_y rfl 0 (by decide) (nT_m wf_X7_90) rfl rfl rfl (Nat.le_of_ble_eq_true rfl) dX7_given_2 (fun w1 H locs f9 hne9 hP hS => ?_)
  have ew9 : w = w1 := funext fun j9 => (Decidable.em (j9 = y)).elim (fun h9 => by rw [h9, f9]; exact f_y) (fun h9 => (hne9 j9 h9).symm)
  subst ew9
  refine lv_aload_n hx hb dX7_given_5 rfl (lv_at hl 0 rfl) ?_
  refine lv_iload_n hx hb dX7_given_6 rfl (lv_at hl 1 rfl) ?_
  refine n_rdF (va_runV (As := [.int (iI ((t : Nat) : Int))]) (rest := []) ⟨hx, hb, hml, hown, hts⟩ (c_X7_isTill _ Tl ((t : Nat) : Int) (by omega) hTl (by omega) f_y f_Tl) (cwV 1 hts (nT_V wl_X7_138 wi_X7_isTill ws_X7_isTill wn_X7 wc_X7_isTill) rfl rfl rfl (by decide +kernel) ⟨Nat.le_of_ble_eq_true rfl, Nat.le_of_ble_eq_true rfl⟩) (nB.preV hK hI hP (by omega) f_y rfl rfl) rfl rfl hl.1 rfl (lv_room (Nat.le_of_ble_eq_true rfl)) dX7_given_7 ⟨Nat.zero_le _, Nat.zero_le _⟩) ?_
  refine n_if_eqB (tgt := 45) hx hb dX7_given_10 (by decide) (fun hc10 => ?_) (fun hc10 => ?_)
  · skip
    exact absurd hc10 (by omega)
  · skip
    refine lv_aload_n hx hb dX7_given_13 rfl (lv_at hl 0 rfl) ?_
    refine n_iconst hx hb dX7_given_14 ?_
    refine lv_iload_n hx hb dX7_given_15 rfl (lv_at hl 2 rfl) ?_
    refine n_rdF (va_runV (As := [.int (iI 1), .int (iI ((kk : Nat) : Int))]) (rest := []) ⟨hx, hb, hml, hown, hts⟩ (c_X7_isCoin _ Co 1 ((kk : Nat) : Int) (by omega) hCo (by omega) (by omega) f_y f_Co) (cwV 2 hts (nT_V wl_X7_121 wi_X7_isCoin ws_X7_isCoin wn_X7 wc_X7_isCoin) rfl rfl rfl (by decide +kernel) ⟨Nat.le_of_ble_eq_true rfl, Nat.le_of_ble_eq_true rfl⟩) (nB.preV hK hI hP (by omega) f_y rfl rfl) rfl rfl hl.1 rfl (lv_room (Nat.le_of_ble_eq_true rfl)) dX7_given_16 ⟨Nat.zero_le _, Nat.zero_le _⟩) ?_
    refine n_if_eqB (tgt := 45) hx hb dX7_given_19 (by decide) (fun hc19 => ?_) (fun hc19 => ?_)
    · skip
      exact absurd ⟨by omega, by omega, hk2⟩ hc19
    · skip
      refine lv_aload_n hx hb dX7_given_22 rfl (lv_at hl 0 rfl) ?_
      refine n_get hx hb hts u_X7 hown hK hP (by omega) f_y rfl 10 (by decide) (nT_m wf_X7_37) rfl dX7_given_23 ?_
      refine lv_iload_n hx hb dX7_given_26 rfl (lv_at hl 1 rfl) ?_
      refine n_iald hx hb hK hP t (by omega) f_Ts (by omega) (by omega) (by decide) dX7_given_27 ?_
      have ho3 := hTs t (by omega)
      refine n_if_le (tgt := 45) hx hb dX7_given_28 (by decide) (by omega) (fun hc28 => ?_) (fun hc28 => ?_)
      · skip
        omega
      · skip
        refine lv_aload_n hx hb dX7_given_31 rfl (lv_at hl 0 rfl) ?_
        refine n_get hx hb hts u_X7 hown hK hP (by omega) f_y rfl 15 (by decide) (nT_m wf_X7_53) rfl dX7_given_32 ?_
        refine n_bipush hx hb dX7_given_35 (by decide) ?_
        refine lv_iload_n hx hb dX7_given_37 rfl (lv_at hl 1 rfl) ?_
        refine n_imul hx hb dX7_given_38 ?_
        refine lv_iload_n hx hb dX7_given_39 rfl (lv_at hl 2 rfl) ?_
        refine n_iadd hx hb dX7_given_40 ?_
        refine n_iald hx hb hK hP ((8 * t) + kk) (by omega) f_Ga (by omega) (by omega) (by decide) dX7_given_41 ?_
        refine lv_goto (tgt := 46) hx hb dX7_given_42 (by decide) ?_
        refine n_iretP hQ hx hb hr hlocks hP hS dX7_given_46 ?_
        exact ⟨hfr, rfl⟩
set_option maxHeartbeats 4000000 in
set_option maxRecDepth 100000 in
theorem c_X7_parts {l : Launch} {G : nG} {N : Nat} {ad : Nat → Nat} {w : Nat → va_E} {sz : Nat} (y : Nat) (Co Va Ra Ha : Nat → Nat) (t sy : Nat) (hN : y + 26 < N) (hCo : ∀ k, k < 2 → Co k ≤ 8) (hVa : ∀ k, k < 16 → Va k ≤ 1000) (hRa : ∀ k, k < 2 → 1 ≤ Ra k ∧ Ra k ≤ 100) (hHa : ∀ k, k < 64 → Ha k ≤ 1000) (ht : t < 4) (hs : sy < 2) (f_y : w y = .inr (7, [.int (iI 0), .ref (ad (y + 1)), .ref (ad (y + 2)), .ref (ad (y + 3)), .ref (ad (y + 4)), .ref (ad (y + 5)), .ref (ad (y + 6)), .ref (ad (y + 7)), .ref (ad (y + 8)), .ref (ad (y + 9)), .ref (ad (y + 10)), .ref (ad (y + 11)), .ref (ad (y + 12)), .ref (ad (y + 13)), .ref (ad (y + 14)), .ref (ad (y + 15)), .ref (ad (y + 16)), .ref (ad (y + 17)), .ref (ad (y + 18)), .ref (ad (y + 19)), .ref (ad (y + 20)), .ref (ad (y + 21)), .ref (ad (y + 22)), .ref (ad (y + 23)), .ref (ad (y + 24)), .ref (ad (y + 25)), .ref (ad (y + 26))])) (f_Co : w (y + 1) = aI G 8 (fun q => (Co q : Int))) (f_Va : w (y + 2) = aI G 64 (fun q => (Va q : Int))) (f_Ra : w (y + 3) = aI G 8 (fun q => (Ra q : Int))) (f_Ha : w (y + 14) = aI G 256 (fun q => (Ha q : Int))) : Met l yX7_parts wsX7_parts ({ frames := 1, cells := 0, slots := 0, locals := 22 }) (va_Pc [.ref (ad y), .int (iI ((t : Nat) : Int)), .int (iI ((sy : Nat) : Int))] (nB G N ad w sz)) (nRd (.long (jI (((sumP (fun q9 => Ha (16 * t + 8 * sy + q9)) (fun q9 => Va (8 * sy + q9)) (Co sy) : Nat) : Int) * ((Ra sy : Nat) : Int))))) 0 0 (fun _ => False) := by
  refine n_ent (cc := cX7_parts) (maxL := 6) (ret := (some .long)) (by decide) rfl (Nat.le_of_ble_eq_true rfl) ?_
  intro p e s m below meth cd hx hb hr hml hlocks hts hown hnm hsz hP hK hI Q hQ ls hl
  have hown : s.vm.findClass RX7 = some m.cls := hown
  have hl : lv_has ls 6 [(0, .ref (ad y)), (1, .int (iI ((t : Nat) : Int))), (2, .int (iI ((sy : Nat) : Int)))] := hl
  have hcs := hCo sy hs
  refine n_lconst (z := 0) hx hb dX7_parts_0 (by decide) ?_
  refine lv_lstore_n (lv' := [(3, .long (jI 0)), (0, .ref (ad y)), (1, .int (iI ((t : Nat) : Int))), (2, .int (iI ((sy : Nat) : Int)))]) hx hb dX7_parts_1 rfl hl (by decide) rfl (fun ls hl => ?_)
  refine n_iconst hx hb dX7_parts_2 ?_
  refine lv_istore (lv' := [(5, .int (iI 0)), (3, .long (jI 0)), (0, .ref (ad y)), (1, .int (iI ((t : Nat) : Int))), (2, .int (iI ((sy : Nat) : Int)))]) hx hb dX7_parts_3 hl (by decide) rfl (fun ls hl => ?_)
  have lp1 : ∀ (fu : Nat), ∀ (q : Nat), ∀ (ls : Array Slot), Co sy - q < fu → q ≤ Co sy → lv_has ls 6 [(0, .ref (ad y)), (1, .int (iI ((t : Nat) : Int))), (2, .int (iI ((sy : Nat) : Int))), (3, .long (jI (((sumP (fun q9 => Ha (16 * t + 8 * sy + q9)) (fun q9 => Va (8 * sy + q9)) q : Nat) : Int) * ((Ra sy : Nat) : Int)))), (5, .int (iI ((q : Nat) : Int)))] → W p l e ({ frames := 1, cells := 0, slots := 0, locals := 22 } : Room) s m ([.ref (ad y), .int (iI ((t : Nat) : Int)), .int (iI ((sy : Nat) : Int))] : List Value).toArray below meth cd s.heap [] 0 0 Q (F0 m 5 ls []) := by
    intro fu
    induction fu with
    | zero =>
      intro q ls hfu hq hl
      exact absurd hfu (Nat.not_lt_zero _)
    | succ fu ih2 =>
      intro q ls hfu hq hl
      refine lv_iload hx hb dX7_parts_5 (lv_at hl 4 rfl) ?_
      refine lv_aload_n hx hb dX7_parts_7 rfl (lv_at hl 0 rfl) ?_
      refine n_get hx hb hts u_X7 hown hK hP (by omega) f_y rfl 1 (by decide) (nT_m wf_X7_7) rfl dX7_parts_8 ?_
      refine lv_iload_n hx hb dX7_parts_11 rfl (lv_at hl 2 rfl) ?_
      refine n_iald hx hb hK hP sy (by omega) f_Co (by omega) (by omega) (by decide) dX7_parts_12 ?_
      have ho3 := hCo sy (by omega)
      refine n_icmp_ge (tgt := 60) hx hb dX7_parts_13 (by decide) (by omega) (by omega) (fun hc13 => ?_) (fun hc13 => ?_)
      · skip
        refine lv_lload_n hx hb dX7_parts_60 rfl (lv_at hl 3 rfl) ?_
        exact n_lretR hQ hx hb hr hlocks (by rw [show Co sy = q by omega]) dX7_parts_61
      · skip
        refine lv_lload_n hx hb dX7_parts_16 rfl (lv_at hl 3 rfl) ?_
        refine lv_aload_n hx hb dX7_parts_17 rfl (lv_at hl 0 rfl) ?_
        refine n_get hx hb hts u_X7 hown hK hP (by omega) f_y rfl 14 (by decide) (nT_m wf_X7_50) rfl dX7_parts_18 ?_
        refine lv_iload_n hx hb dX7_parts_21 rfl (lv_at hl 1 rfl) ?_
        refine lv_iload_n hx hb dX7_parts_22 rfl (lv_at hl 2 rfl) ?_
        refine lv_iload hx hb dX7_parts_23 (lv_at hl 4 rfl) ?_
        refine n_rdF (va_runS (As := [.int (iI ((t : Nat) : Int)), .int (iI ((sy : Nat) : Int)), .int (iI ((q : Nat) : Int))]) (rest := [.ref (ad (y + 14)), .long (jI (((sumP (fun q9 => Ha (16 * t + 8 * sy + q9)) (fun q9 => Va (8 * sy + q9)) q : Nat) : Int) * ((Ra sy : Nat) : Int)))]) ⟨hx, hb, hml, hown, hts⟩ (c_X7_cell t sy q (by omega) (by omega) (by omega)) (va_cwS 3 hts (nT_S wl_X7_134 wt_X7_cell wn_X7 wc_X7_cell) rfl rfl rfl (by decide +kernel) ⟨Nat.le_of_ble_eq_true rfl, Nat.le_of_ble_eq_true rfl⟩) preEq rfl rfl hl.1 rfl (lv_room (Nat.le_of_ble_eq_true rfl)) dX7_parts_25 ⟨Nat.zero_le _, Nat.zero_le _⟩) ?_
        refine n_iald hx hb hK hP (16 * t + 8 * sy + q) (by omega) f_Ha (by omega) (by omega) (by decide) dX7_parts_28 ?_
        have ho4 := hHa (16 * t + 8 * sy + q) (by omega)
        refine n_i2l hx hb dX7_parts_29 (by omega) ?_
        refine lv_aload_n hx hb dX7_parts_30 rfl (lv_at hl 0 rfl) ?_
        refine n_get hx hb hts u_X7 hown hK hP (by omega) f_y rfl 2 (by decide) (nT_m wf_X7_13) rfl dX7_parts_31 ?_
        refine n_bipush hx hb dX7_parts_34 (by decide) ?_
        refine lv_iload_n hx hb dX7_parts_36 rfl (lv_at hl 2 rfl) ?_
        refine n_imul hx hb dX7_parts_37 ?_
        refine lv_iload hx hb dX7_parts_38 (lv_at hl 4 rfl) ?_
        refine n_iadd hx hb dX7_parts_40 ?_
        refine n_iald hx hb hK hP ((8 * sy) + q) (by omega) f_Va (by omega) (by omega) (by decide) dX7_parts_41 ?_
        have ho5 := hVa ((8 * sy) + q) (by omega)
        refine n_i2l hx hb dX7_parts_42 (by omega) ?_
        refine n_lmul hx hb dX7_parts_43 ?_
        refine lv_aload_n hx hb dX7_parts_44 rfl (lv_at hl 0 rfl) ?_
        refine n_get hx hb hts u_X7 hown hK hP (by omega) f_y rfl 3 (by decide) (nT_m wf_X7_16) rfl dX7_parts_45 ?_
        refine lv_iload_n hx hb dX7_parts_48 rfl (lv_at hl 2 rfl) ?_
        refine n_iald hx hb hK hP sy (by omega) f_Ra (by omega) (by omega) (by decide) dX7_parts_49 ?_
        have ho6 := hRa sy (by omega)
        refine n_i2l hx hb dX7_parts_50 (by omega) ?_
        refine n_lmul hx hb dX7_parts_51 ?_
        refine n_ladd hx hb dX7_parts_52 ?_
        refine lv_lstore_n (lv' := [(3, .long (jI (((sumP (fun q9 => Ha (16 * t + 8 * sy + q9)) (fun q9 => Va (8 * sy + q9)) q : Nat) : Int) * ((Ra sy : Nat) : Int) + (((Ha (16 * t + 8 * sy + q) : Int) * (Va ((8 * sy) + q) : Int)) * (Ra sy : Int))))), (0, .ref (ad y)), (1, .int (iI ((t : Nat) : Int))), (2, .int (iI ((sy : Nat) : Int))), (5, .int (iI ((q : Nat) : Int)))]) hx hb dX7_parts_53 rfl hl (by decide) rfl (fun ls hl => ?_)
        refine lv_iinc (v := iI (((q : Nat) : Int) + 1)) (lv' := [(5, .int (iI (((q : Nat) : Int) + 1))), (3, .long (jI (((sumP (fun q9 => Ha (16 * t + 8 * sy + q9)) (fun q9 => Va (8 * sy + q9)) q : Nat) : Int) * ((Ra sy : Nat) : Int) + (((Ha (16 * t + 8 * sy + q) : Int) * (Va ((8 * sy) + q) : Int)) * (Ra sy : Int))))), (0, .ref (ad y)), (1, .int (iI ((t : Nat) : Int))), (2, .int (iI ((sy : Nat) : Int)))]) hx hb dX7_parts_54 hl (k := 4) rfl (by first | exact iI_add _ _ | exact (iI_add _ _).trans (congrArg iI (by omega))) (by decide) rfl (fun ls hl => ?_)
        refine lv_goto (tgt := 5) hx hb dX7_parts_57 (by decide) ?_
        exact ih2 (q + 1) _ (by omega) (by omega) (by first | exact lv_sub hl [2, 3, 4, 1, 0] rfl | exact lv_cast (lv_sub (l' := [(0, .ref (ad y)), (1, .int (iI ((t : Nat) : Int))), (2, .int (iI ((sy : Nat) : Int))), (3, .long (jI (((sumP (fun q9 => Ha (16 * t + 8 * sy + q9)) (fun q9 => Va (8 * sy + q9)) q : Nat) : Int) * ((Ra sy : Nat) : Int) + (((Ha (16 * t + 8 * sy + q) : Int) * (Va ((8 * sy) + q) : Int)) * (Ra sy : Int))))), (5, .int (iI (((q : Nat) : Int) + 1)))]) hl [2, 3, 4, 1, 0] rfl) (lc_s (lc_s (lc_s (lc_j (show ((((sumP (fun q9 => Ha (16 * t + 8 * sy + q9)) (fun q9 => Va (8 * sy + q9)) q : Nat) : Int) * ((Ra sy : Nat) : Int) + (((Ha (16 * t + 8 * sy + q) : Int) * (Va ((8 * sy) + q) : Int)) * (Ra sy : Int))) : Int) = ((sumP (fun q9 => Ha (16 * t + 8 * sy + q9)) (fun q9 => Va (8 * sy + q9)) (q + 1) : Nat) : Int) * ((Ra sy : Nat) : Int) by exact parts_s (fun q9 => Ha (16 * t + 8 * sy + q9)) (fun q9 => Va (8 * sy + q9)) q (Ra sy)) (lc_i (show ((((q : Nat) : Int) + 1) : Int) = (((q + 1) : Nat) : Int) by omega) rfl))))))
  exact lp1 (Co sy - 0 + 1) 0 _ (Nat.lt_succ_self _) (by omega) (by first | exact lv_sub hl [2, 3, 4, 1, 0] rfl | exact lv_cast (lv_sub (l' := [(0, .ref (ad y)), (1, .int (iI ((t : Nat) : Int))), (2, .int (iI ((sy : Nat) : Int))), (3, .long (jI 0)), (5, .int (iI 0))]) hl [2, 3, 4, 1, 0] rfl) (lc_s (lc_s (lc_s (lc_j (show (0 : Int) = ((sumP (fun q9 => Ha (16 * t + 8 * sy + q9)) (fun q9 => Va (8 * sy + q9)) 0 : Nat) : Int) * ((Ra sy : Nat) : Int) by (show (0 : Int) = ((0 : Nat) : Int) * ((Ra sy : Nat) : Int); omega)) (lc_i (show (0 : Int) = ((0 : Nat) : Int) by omega) rfl))))))
set_option maxHeartbeats 4000000 in
set_option maxRecDepth 100000 in
theorem c_X7_tell_no {l : Launch} {G : nG} {N : Nat} {ad : Nat → Nat} {w : Nat → va_E} {sz : Nat} (y : Nat) (Tl : Nat → Nat) (tz z : Int) (hN : y + 26 < N) (hTl : ∀ k, k < 1 → Tl k ≤ 4) (htz : -2147483648 ≤ tz ∧ tz < 2147483648) (hno : ¬ (0 ≤ tz ∧ tz < (Tl 0 : Int))) (f_y : w y = .inr (7, [.int (iI 0), .ref (ad (y + 1)), .ref (ad (y + 2)), .ref (ad (y + 3)), .ref (ad (y + 4)), .ref (ad (y + 5)), .ref (ad (y + 6)), .ref (ad (y + 7)), .ref (ad (y + 8)), .ref (ad (y + 9)), .ref (ad (y + 10)), .ref (ad (y + 11)), .ref (ad (y + 12)), .ref (ad (y + 13)), .ref (ad (y + 14)), .ref (ad (y + 15)), .ref (ad (y + 16)), .ref (ad (y + 17)), .ref (ad (y + 18)), .ref (ad (y + 19)), .ref (ad (y + 20)), .ref (ad (y + 21)), .ref (ad (y + 22)), .ref (ad (y + 23)), .ref (ad (y + 24)), .ref (ad (y + 25)), .ref (ad (y + 26))])) (f_Tl : w (y + 9) = aI G 4 (fun q => (Tl q : Int))) : Met l yX7_tell wsX7_tell ({ frames := 2, cells := 0, slots := 0, locals := 47 }) (va_Pc [.ref (ad y), .int (iI tz), .int (iI z)] (nB G N ad w sz)) (nPl G N ad sz (fun r u => (∀ j, u j = w j) ∧ (r = -1))) 0 0 (nA N ad sz) := by
  refine n_ent (cc := cX7_tell) (maxL := 3) (ret := (some .long)) (by decide) rfl (Nat.le_of_ble_eq_true rfl) ?_
  intro p e s m below meth cd hx hb hr hml hlocks hts hown hnm hsz hP hK hI Q hQ ls hl
  have hown : s.vm.findClass RX7 = some m.cls := hown
  subst hsz
  have hJ := hI.J s.heap.size
  have hS : va_S (nA N ad s.heap.size) s.heap s.heap [] := va_S.rf
  have hfr : ∀ j, w j = w j := fun _  => rfl
  have hl : lv_has ls 3 [(0, .ref (ad y)), (1, .int (iI tz)), (2, .int (iI z))] := hl
  refine lv_aload_n hx hb dX7_tell_0 rfl (lv_at hl 0 rfl) ?_
  refine n_iconst hx hb dX7_tell_1 ?_
  refine n_put hx hb hts u_X7 tyX7 tyX7_ok nmX7 hown hK hJ hP hS (by omega) f_y rfl 0 (by decide) (nT_m wf_X7_90) rfl rfl rfl (Nat.le_of_ble_eq_true rfl) dX7_tell_2 (fun w1 H locs f9 hne9 hP hS => ?_)
  have ew9 : w = w1 := funext fun j9 => (Decidable.em (j9 = y)).elim (fun h9 => by rw [h9, f9]; exact f_y) (fun h9 => (hne9 j9 h9).symm)
  subst ew9
  refine lv_aload_n hx hb dX7_tell_5 rfl (lv_at hl 0 rfl) ?_
  refine lv_iload_n hx hb dX7_tell_6 rfl (lv_at hl 1 rfl) ?_
  refine n_rdF (va_runV (As := [.int (iI tz)]) (rest := []) ⟨hx, hb, hml, hown, hts⟩ (c_X7_isTill _ Tl tz (by omega) hTl (by omega) f_y f_Tl) (cwV 1 hts (nT_V wl_X7_138 wi_X7_isTill ws_X7_isTill wn_X7 wc_X7_isTill) rfl rfl rfl (by decide +kernel) ⟨Nat.le_of_ble_eq_true rfl, Nat.le_of_ble_eq_true rfl⟩) (nB.preV hK hI hP (by omega) f_y rfl rfl) rfl rfl hl.1 rfl (lv_room (Nat.le_of_ble_eq_true rfl)) dX7_tell_7 ⟨Nat.zero_le _, Nat.zero_le _⟩) ?_
  refine n_if_neB (tgt := 17) hx hb dX7_tell_10 (by decide) (fun hc10 => ?_) (fun hc10 => ?_)
  · skip
    exact absurd hc10 (by omega)
  · skip
    refine lv_ldc2 (v := jI (-1)) hx hb hown (hts _ (nT_m wk_X7_114)) dX7_tell_13 ?_
    refine n_lretP hQ hx hb hr hlocks hP hS dX7_tell_16 ?_
    exact ⟨hfr, rfl⟩
set_option maxHeartbeats 4000000 in
set_option maxRecDepth 100000 in
theorem c_X7_tell_yes {l : Launch} {G : nG} {N : Nat} {ad : Nat → Nat} {w : Nat → va_E} {sz : Nat} (y : Nat) (Co Va Ra Tl Ts Sc Pd Ex Ha : Nat → Nat) (t tk : Nat) (z : Int) (hN : y + 26 < N) (hCo : ∀ k, k < 2 → Co k ≤ 8) (hVa : ∀ k, k < 16 → Va k ≤ 1000) (hRa : ∀ k, k < 2 → 1 ≤ Ra k ∧ Ra k ≤ 100) (hTl : ∀ k, k < 1 → Tl k ≤ 4) (hTs : ∀ k, k < 4 → Ts k < 2147483647) (hEx : ∀ k, k < 4 → Ex k ≤ 20) (hHa : ∀ k, k < 64 → Ha k ≤ 1000) (ht : t < Tl 0) (hz : -2147483648 ≤ z ∧ z < 2147483648) (hpd : Pd t = tk * Ra 1) (f_y : w y = .inr (7, [.int (iI 0), .ref (ad (y + 1)), .ref (ad (y + 2)), .ref (ad (y + 3)), .ref (ad (y + 4)), .ref (ad (y + 5)), .ref (ad (y + 6)), .ref (ad (y + 7)), .ref (ad (y + 8)), .ref (ad (y + 9)), .ref (ad (y + 10)), .ref (ad (y + 11)), .ref (ad (y + 12)), .ref (ad (y + 13)), .ref (ad (y + 14)), .ref (ad (y + 15)), .ref (ad (y + 16)), .ref (ad (y + 17)), .ref (ad (y + 18)), .ref (ad (y + 19)), .ref (ad (y + 20)), .ref (ad (y + 21)), .ref (ad (y + 22)), .ref (ad (y + 23)), .ref (ad (y + 24)), .ref (ad (y + 25)), .ref (ad (y + 26))])) (f_Co : w (y + 1) = aI G 8 (fun q => (Co q : Int))) (f_Va : w (y + 2) = aI G 64 (fun q => (Va q : Int))) (f_Ra : w (y + 3) = aI G 8 (fun q => (Ra q : Int))) (f_Tl : w (y + 9) = aI G 4 (fun q => (Tl q : Int))) (f_Ts : w (y + 10) = aI G 16 (fun q => (Ts q : Int))) (f_Sc : w (y + 11) = aJ G 16 (fun q => (Sc q : Int))) (f_Pd : w (y + 12) = aJ G 16 (fun q => (Pd q : Int))) (f_Ex : w (y + 13) = aI G 16 (fun q => (Ex q : Int))) (f_Ha : w (y + 14) = aI G 256 (fun q => (Ha q : Int))) : Met l yX7_tell wsX7_tell ({ frames := 2, cells := 0, slots := 0, locals := 47 }) (va_Pc [.ref (ad y), .int (iI ((t : Nat) : Int)), .int (iI z)] (nB G N ad w sz)) (nPl G N ad sz (fun r u => (∀ j, u j = w j) ∧ (r = tlV (Ts t) (Sc t) tk (Ex t) (Ra 0) (Ra 1) (sumP (fun q9 => Ha (16 * t + 8 * 0 + q9)) (fun q9 => Va (8 * 0 + q9)) (Co 0)) (sumP (fun q9 => Ha (16 * t + 8 * 1 + q9)) (fun q9 => Va (8 * 1 + q9)) (Co 1)) z))) 0 0 (nA N ad sz) := by
  refine n_ent (cc := cX7_tell) (maxL := 3) (ret := (some .long)) (by decide) rfl (Nat.le_of_ble_eq_true rfl) ?_
  intro p e s m below meth cd hx hb hr hml hlocks hts hown hnm hsz hP hK hI Q hQ ls hl
  have hown : s.vm.findClass RX7 = some m.cls := hown
  subst hsz
  have hJ := hI.J s.heap.size
  have hS : va_S (nA N ad s.heap.size) s.heap s.heap [] := va_S.rf
  have hfr : ∀ j, w j = w j := fun _  => rfl
  have hl : lv_has ls 3 [(0, .ref (ad y)), (1, .int (iI ((t : Nat) : Int))), (2, .int (iI z))] := hl
  have ht0 := hTl 0 (by omega)
  refine lv_aload_n hx hb dX7_tell_0 rfl (lv_at hl 0 rfl) ?_
  refine n_iconst hx hb dX7_tell_1 ?_
  refine n_put hx hb hts u_X7 tyX7 tyX7_ok nmX7 hown hK hJ hP hS (by omega) f_y rfl 0 (by decide) (nT_m wf_X7_90) rfl rfl rfl (Nat.le_of_ble_eq_true rfl) dX7_tell_2 (fun w1 H locs f9 hne9 hP hS => ?_)
  have ew9 : w = w1 := funext fun j9 => (Decidable.em (j9 = y)).elim (fun h9 => by rw [h9, f9]; exact f_y) (fun h9 => (hne9 j9 h9).symm)
  subst ew9
  refine lv_aload_n hx hb dX7_tell_5 rfl (lv_at hl 0 rfl) ?_
  refine lv_iload_n hx hb dX7_tell_6 rfl (lv_at hl 1 rfl) ?_
  refine n_rdF (va_runV (As := [.int (iI ((t : Nat) : Int))]) (rest := []) ⟨hx, hb, hml, hown, hts⟩ (c_X7_isTill _ Tl ((t : Nat) : Int) (by omega) hTl (by omega) f_y f_Tl) (cwV 1 hts (nT_V wl_X7_138 wi_X7_isTill ws_X7_isTill wn_X7 wc_X7_isTill) rfl rfl rfl (by decide +kernel) ⟨Nat.le_of_ble_eq_true rfl, Nat.le_of_ble_eq_true rfl⟩) (nB.preV hK hI hP (by omega) f_y rfl rfl) rfl rfl hl.1 rfl (lv_room (Nat.le_of_ble_eq_true rfl)) dX7_tell_7 ⟨Nat.zero_le _, Nat.zero_le _⟩) ?_
  refine n_if_neB (tgt := 17) hx hb dX7_tell_10 (by decide) (fun hc10 => ?_) (fun hc10 => ?_)
  · skip
    refine lv_iload_n hx hb dX7_tell_17 rfl (lv_at hl 2 rfl) ?_
    by_cases hsw0 : z = 0
    · skip
      refine lv_tableIn (tgt := 56) (off := 38) hx hb dX7_tell_18 (by rw [iI_T (by omega)]; omega) (by rw [iI_T (by omega)]; omega) (by rw [iI_T (by omega), hsw0]; rfl) (by decide) ?_
      refine lv_aload_n hx hb dX7_tell_56 rfl (lv_at hl 0 rfl) ?_
      refine n_get hx hb hts u_X7 hown hK hP (by omega) f_y rfl 10 (by decide) (nT_m wf_X7_37) rfl dX7_tell_57 ?_
      refine lv_iload_n hx hb dX7_tell_60 rfl (lv_at hl 1 rfl) ?_
      refine n_iald hx hb hK hP t (by omega) f_Ts (by omega) (by omega) (by decide) dX7_tell_61 ?_
      have ho3 := hTs t (by omega)
      refine n_i2l hx hb dX7_tell_62 (by omega) ?_
      refine n_lretP hQ hx hb hr hlocks hP hS dX7_tell_63 ?_
      exact ⟨hfr, by unfold tlV; repeat (first | rw [if_pos (by omega)] | rw [if_neg (by omega)])⟩
    by_cases hsw1 : z = 1
    · skip
      refine lv_tableIn (tgt := 64) (off := 46) hx hb dX7_tell_18 (by rw [iI_T (by omega)]; omega) (by rw [iI_T (by omega)]; omega) (by rw [iI_T (by omega), hsw1]; rfl) (by decide) ?_
      refine lv_aload_n hx hb dX7_tell_64 rfl (lv_at hl 0 rfl) ?_
      refine n_get hx hb hts u_X7 hown hK hP (by omega) f_y rfl 11 (by decide) (nT_m wf_X7_40) rfl dX7_tell_65 ?_
      refine lv_iload_n hx hb dX7_tell_68 rfl (lv_at hl 1 rfl) ?_
      refine n_lald hx hb hK hP t (by omega) f_Sc (by omega) (by omega) (by decide) dX7_tell_69 ?_
      refine n_lretP hQ hx hb hr hlocks hP hS dX7_tell_70 ?_
      exact ⟨hfr, by unfold tlV; repeat (first | rw [if_pos (by omega)] | rw [if_neg (by omega)])⟩
    by_cases hsw2 : z = 2
    · skip
      refine lv_tableIn (tgt := 71) (off := 53) hx hb dX7_tell_18 (by rw [iI_T (by omega)]; omega) (by rw [iI_T (by omega)]; omega) (by rw [iI_T (by omega), hsw2]; rfl) (by decide) ?_
      refine lv_aload_n hx hb dX7_tell_71 rfl (lv_at hl 0 rfl) ?_
      refine lv_iload_n hx hb dX7_tell_72 rfl (lv_at hl 1 rfl) ?_
      refine n_iconst hx hb dX7_tell_73 ?_
      refine n_rdF (va_runV (As := [.int (iI ((t : Nat) : Int)), .int (iI 0)]) (rest := []) ⟨hx, hb, hml, hown, hts⟩ (c_X7_parts _ Co Va Ra Ha t 0 (by omega) hCo hVa hRa hHa (by omega) (by omega) f_y f_Co f_Va f_Ra f_Ha) (cwV 2 hts (nT_V wl_X7_149 wi_X7_parts ws_X7_parts wn_X7 wc_X7_parts) rfl rfl rfl (by decide +kernel) ⟨Nat.le_of_ble_eq_true rfl, Nat.le_of_ble_eq_true rfl⟩) (nB.preV hK hI hP (by omega) f_y rfl rfl) rfl rfl hl.1 rfl (lv_room (Nat.le_of_ble_eq_true rfl)) dX7_tell_74 ⟨Nat.zero_le _, Nat.zero_le _⟩) ?_
      refine lv_aload_n hx hb dX7_tell_77 rfl (lv_at hl 0 rfl) ?_
      refine lv_iload_n hx hb dX7_tell_78 rfl (lv_at hl 1 rfl) ?_
      refine n_iconst hx hb dX7_tell_79 ?_
      refine n_rdF (va_runV (As := [.int (iI ((t : Nat) : Int)), .int (iI 1)]) (rest := [.long (jI (((sumP (fun q9 => Ha (16 * t + 8 * 0 + q9)) (fun q9 => Va (8 * 0 + q9)) (Co 0) : Nat) : Int) * ((Ra 0 : Nat) : Int)))]) ⟨hx, hb, hml, hown, hts⟩ (c_X7_parts _ Co Va Ra Ha t 1 (by omega) hCo hVa hRa hHa (by omega) (by omega) f_y f_Co f_Va f_Ra f_Ha) (cwV 2 hts (nT_V wl_X7_149 wi_X7_parts ws_X7_parts wn_X7 wc_X7_parts) rfl rfl rfl (by decide +kernel) ⟨Nat.le_of_ble_eq_true rfl, Nat.le_of_ble_eq_true rfl⟩) (nB.preV hK hI hP (by omega) f_y rfl rfl) rfl rfl hl.1 rfl (lv_room (Nat.le_of_ble_eq_true rfl)) dX7_tell_80 ⟨Nat.zero_le _, Nat.zero_le _⟩) ?_
      refine n_ladd hx hb dX7_tell_83 ?_
      refine n_lretP hQ hx hb hr hlocks hP hS dX7_tell_84 ?_
      exact ⟨hfr, by unfold tlV; repeat (first | rw [if_pos (by omega)] | rw [if_neg (by omega)])⟩
    by_cases hsw3 : z = 3
    · skip
      refine lv_tableIn (tgt := 85) (off := 67) hx hb dX7_tell_18 (by rw [iI_T (by omega)]; omega) (by rw [iI_T (by omega)]; omega) (by rw [iI_T (by omega), hsw3]; rfl) (by decide) ?_
      refine lv_aload_n hx hb dX7_tell_85 rfl (lv_at hl 0 rfl) ?_
      refine lv_iload_n hx hb dX7_tell_86 rfl (lv_at hl 1 rfl) ?_
      refine n_iconst hx hb dX7_tell_87 ?_
      refine n_rdF (va_runV (As := [.int (iI ((t : Nat) : Int)), .int (iI 0)]) (rest := []) ⟨hx, hb, hml, hown, hts⟩ (c_X7_parts _ Co Va Ra Ha t 0 (by omega) hCo hVa hRa hHa (by omega) (by omega) f_y f_Co f_Va f_Ra f_Ha) (cwV 2 hts (nT_V wl_X7_149 wi_X7_parts ws_X7_parts wn_X7 wc_X7_parts) rfl rfl rfl (by decide +kernel) ⟨Nat.le_of_ble_eq_true rfl, Nat.le_of_ble_eq_true rfl⟩) (nB.preV hK hI hP (by omega) f_y rfl rfl) rfl rfl hl.1 rfl (lv_room (Nat.le_of_ble_eq_true rfl)) dX7_tell_88 ⟨Nat.zero_le _, Nat.zero_le _⟩) ?_
      refine n_lretP hQ hx hb hr hlocks hP hS dX7_tell_91 ?_
      exact ⟨hfr, by unfold tlV; repeat (first | rw [if_pos (by omega)] | rw [if_neg (by omega)])⟩
    by_cases hsw4 : z = 4
    · skip
      refine lv_tableIn (tgt := 92) (off := 74) hx hb dX7_tell_18 (by rw [iI_T (by omega)]; omega) (by rw [iI_T (by omega)]; omega) (by rw [iI_T (by omega), hsw4]; rfl) (by decide) ?_
      refine lv_aload_n hx hb dX7_tell_92 rfl (lv_at hl 0 rfl) ?_
      refine n_get hx hb hts u_X7 hown hK hP (by omega) f_y rfl 12 (by decide) (nT_m wf_X7_44) rfl dX7_tell_93 ?_
      refine lv_iload_n hx hb dX7_tell_96 rfl (lv_at hl 1 rfl) ?_
      refine n_lald hx hb hK hP t (by omega) f_Pd (by omega) (by omega) (by decide) dX7_tell_97 ?_
      refine n_lretP hQ hx hb hr hlocks hP hS dX7_tell_98 ?_
      exact ⟨hfr, by rw [hpd, Int.natCast_mul]; unfold tlV; repeat (first | rw [if_pos (by omega)] | rw [if_neg (by omega)])⟩
    by_cases hsw5 : z = 5
    · skip
      refine lv_tableIn (tgt := 99) (off := 81) hx hb dX7_tell_18 (by rw [iI_T (by omega)]; omega) (by rw [iI_T (by omega)]; omega) (by rw [iI_T (by omega), hsw5]; rfl) (by decide) ?_
      refine lv_aload_n hx hb dX7_tell_99 rfl (lv_at hl 0 rfl) ?_
      refine n_get hx hb hts u_X7 hown hK hP (by omega) f_y rfl 13 (by decide) (nT_m wf_X7_47) rfl dX7_tell_100 ?_
      refine lv_iload_n hx hb dX7_tell_103 rfl (lv_at hl 1 rfl) ?_
      refine n_iald hx hb hK hP t (by omega) f_Ex (by omega) (by omega) (by decide) dX7_tell_104 ?_
      have ho4 := hEx t (by omega)
      refine n_i2l hx hb dX7_tell_105 (by omega) ?_
      refine n_lretP hQ hx hb hr hlocks hP hS dX7_tell_106 ?_
      exact ⟨hfr, by unfold tlV; repeat (first | rw [if_pos (by omega)] | rw [if_neg (by omega)])⟩
    refine lv_tableOut (tgt := 107) hx hb dX7_tell_18 (by rw [iI_T (by omega)]; omega) (by decide) ?_
    refine lv_ldc2 (v := jI (-1)) hx hb hown (hts _ (nT_m wk_X7_114)) dX7_tell_107 ?_
    refine n_lretP hQ hx hb hr hlocks hP hS dX7_tell_110 ?_
    exact ⟨hfr, by unfold tlV; repeat (first | rw [if_pos (by omega)] | rw [if_neg (by omega)])⟩
  · skip
    exact absurd hc10 (by omega)
set_option maxHeartbeats 4000000 in
set_option maxRecDepth 100000 in
theorem c_X7_draw_no {l : Launch} {G : nG} {N : Nat} {ad : Nat → Nat} {w : Nat → va_E} {sz : Nat} (y : Nat) (Tl : Nat → Nat) (tz : Int) (hN : y + 26 < N) (hTl : ∀ k, k < 1 → Tl k ≤ 4) (htz : -2147483648 ≤ tz ∧ tz < 2147483648) (hno : ¬ (0 ≤ tz ∧ tz < (Tl 0 : Int))) (f_y : w y = .inr (7, [.int (iI 0), .ref (ad (y + 1)), .ref (ad (y + 2)), .ref (ad (y + 3)), .ref (ad (y + 4)), .ref (ad (y + 5)), .ref (ad (y + 6)), .ref (ad (y + 7)), .ref (ad (y + 8)), .ref (ad (y + 9)), .ref (ad (y + 10)), .ref (ad (y + 11)), .ref (ad (y + 12)), .ref (ad (y + 13)), .ref (ad (y + 14)), .ref (ad (y + 15)), .ref (ad (y + 16)), .ref (ad (y + 17)), .ref (ad (y + 18)), .ref (ad (y + 19)), .ref (ad (y + 20)), .ref (ad (y + 21)), .ref (ad (y + 22)), .ref (ad (y + 23)), .ref (ad (y + 24)), .ref (ad (y + 25)), .ref (ad (y + 26))])) (f_Tl : w (y + 9) = aI G 4 (fun q => (Tl q : Int))) : Met l yX7_draw wsX7_draw ({ frames := 2, cells := 0, slots := 0, locals := 47 }) (va_Pc [.ref (ad y), .int (iI tz)] (nB G N ad w sz)) (nPl G N ad sz (fun r u => (∀ j, u j = w j) ∧ (r = -1))) 0 0 (nA N ad sz) := by
  refine n_ent (cc := cX7_draw) (maxL := 5) (ret := (some .long)) (by decide) rfl (Nat.le_of_ble_eq_true rfl) ?_
  intro p e s m below meth cd hx hb hr hml hlocks hts hown hnm hsz hP hK hI Q hQ ls hl
  have hown : s.vm.findClass RX7 = some m.cls := hown
  subst hsz
  have hJ := hI.J s.heap.size
  have hS : va_S (nA N ad s.heap.size) s.heap s.heap [] := va_S.rf
  have hfr : ∀ j, w j = w j := fun _  => rfl
  have hl : lv_has ls 5 [(0, .ref (ad y)), (1, .int (iI tz))] := hl
  refine lv_aload_n hx hb dX7_draw_0 rfl (lv_at hl 0 rfl) ?_
  refine n_iconst hx hb dX7_draw_1 ?_
  refine n_put hx hb hts u_X7 tyX7 tyX7_ok nmX7 hown hK hJ hP hS (by omega) f_y rfl 0 (by decide) (nT_m wf_X7_90) rfl rfl rfl (Nat.le_of_ble_eq_true rfl) dX7_draw_2 (fun w1 H locs f9 hne9 hP hS => ?_)
  have ew9 : w = w1 := funext fun j9 => (Decidable.em (j9 = y)).elim (fun h9 => by rw [h9, f9]; exact f_y) (fun h9 => (hne9 j9 h9).symm)
  subst ew9
  refine lv_aload_n hx hb dX7_draw_5 rfl (lv_at hl 0 rfl) ?_
  refine lv_iload_n hx hb dX7_draw_6 rfl (lv_at hl 1 rfl) ?_
  refine n_rdF (va_runV (As := [.int (iI tz)]) (rest := []) ⟨hx, hb, hml, hown, hts⟩ (c_X7_isTill _ Tl tz (by omega) hTl (by omega) f_y f_Tl) (cwV 1 hts (nT_V wl_X7_138 wi_X7_isTill ws_X7_isTill wn_X7 wc_X7_isTill) rfl rfl rfl (by decide +kernel) ⟨Nat.le_of_ble_eq_true rfl, Nat.le_of_ble_eq_true rfl⟩) (nB.preV hK hI hP (by omega) f_y rfl rfl) rfl rfl hl.1 rfl (lv_room (Nat.le_of_ble_eq_true rfl)) dX7_draw_7 ⟨Nat.zero_le _, Nat.zero_le _⟩) ?_
  refine n_if_neB (tgt := 17) hx hb dX7_draw_10 (by decide) (fun hc10 => ?_) (fun hc10 => ?_)
  · skip
    exact absurd hc10 (by omega)
  · skip
    refine lv_ldc2 (v := jI (-1)) hx hb hown (hts _ (nT_m wk_X7_114)) dX7_draw_13 ?_
    refine n_lretP hQ hx hb hr hlocks hP hS dX7_draw_16 ?_
    exact ⟨hfr, rfl⟩
set_option maxHeartbeats 4000000 in
set_option maxRecDepth 100000 in
theorem c_X7_draw_yes {l : Launch} {G : nG} {N : Nat} {ad : Nat → Nat} {w : Nat → va_E} {sz : Nat} (y : Nat) (Co Va Ra Tl Ha Dr : Nat → Nat) (t : Nat) (hN : y + 26 < N) (hCo : ∀ k, k < 2 → Co k ≤ 8) (hVa : ∀ k, k < 16 → Va k ≤ 1000) (hRa : ∀ k, k < 2 → 1 ≤ Ra k ∧ Ra k ≤ 100) (hTl : ∀ k, k < 1 → Tl k ≤ 4) (hHa : ∀ k, k < 64 → Ha k ≤ 1000) (ht : t < Tl 0) (f_y : w y = .inr (7, [.int (iI 0), .ref (ad (y + 1)), .ref (ad (y + 2)), .ref (ad (y + 3)), .ref (ad (y + 4)), .ref (ad (y + 5)), .ref (ad (y + 6)), .ref (ad (y + 7)), .ref (ad (y + 8)), .ref (ad (y + 9)), .ref (ad (y + 10)), .ref (ad (y + 11)), .ref (ad (y + 12)), .ref (ad (y + 13)), .ref (ad (y + 14)), .ref (ad (y + 15)), .ref (ad (y + 16)), .ref (ad (y + 17)), .ref (ad (y + 18)), .ref (ad (y + 19)), .ref (ad (y + 20)), .ref (ad (y + 21)), .ref (ad (y + 22)), .ref (ad (y + 23)), .ref (ad (y + 24)), .ref (ad (y + 25)), .ref (ad (y + 26))])) (f_Co : w (y + 1) = aI G 8 (fun q => (Co q : Int))) (f_Va : w (y + 2) = aI G 64 (fun q => (Va q : Int))) (f_Ra : w (y + 3) = aI G 8 (fun q => (Ra q : Int))) (f_Tl : w (y + 9) = aI G 4 (fun q => (Tl q : Int))) (f_Ha : w (y + 14) = aI G 256 (fun q => (Ha q : Int))) (f_Dr : w (y + 16) = aI G 32 (fun q => (Dr q : Int))) : Met l yX7_draw wsX7_draw ({ frames := 2, cells := 0, slots := 0, locals := 47 }) (va_Pc [.ref (ad y), .int (iI ((t : Nat) : Int))] (nB G N ad w sz)) (nPl G N ad sz (fun r u => (∀ j, j ≠ (y + 14) → j ≠ (y + 16) → u j = w j) ∧ (r = ((sumP (fun q9 => Ha (16 * t + q9)) (fun q9 => Va (8 * 0 + q9)) (Co 0) : Nat) : Int) * ((Ra 0 : Nat) : Int)) ∧ (u (y + 14) = aI G 256 (fun q => ((zrS Ha (16 * t) 8 q : Nat) : Int))) ∧ (u (y + 16) = aI G 32 (fun q => ((addF Dr (fun q9 => Ha (16 * t + q9)) 8 q : Nat) : Int))))) 0 0 (nA N ad sz) := by
  refine n_ent (cc := cX7_draw) (maxL := 5) (ret := (some .long)) (by decide) rfl (Nat.le_of_ble_eq_true rfl) ?_
  intro p e s m below meth cd hx hb hr hml hlocks hts hown hnm hsz hP hK hI Q hQ ls hl
  have hown : s.vm.findClass RX7 = some m.cls := hown
  subst hsz
  have hJ := hI.J s.heap.size
  have hS : va_S (nA N ad s.heap.size) s.heap s.heap [] := va_S.rf
  have hfr : ∀ j, j ≠ (y + 14) → j ≠ (y + 16) → w j = w j := fun _ _ _ => rfl
  have hl : lv_has ls 5 [(0, .ref (ad y)), (1, .int (iI ((t : Nat) : Int)))] := hl
  have ht0 := hTl 0 (by omega)
  refine lv_aload_n hx hb dX7_draw_0 rfl (lv_at hl 0 rfl) ?_
  refine n_iconst hx hb dX7_draw_1 ?_
  refine n_put hx hb hts u_X7 tyX7 tyX7_ok nmX7 hown hK hJ hP hS (by omega) f_y rfl 0 (by decide) (nT_m wf_X7_90) rfl rfl rfl (Nat.le_of_ble_eq_true rfl) dX7_draw_2 (fun w1 H locs f9 hne9 hP hS => ?_)
  have ew9 : w = w1 := funext fun j9 => (Decidable.em (j9 = y)).elim (fun h9 => by rw [h9, f9]; exact f_y) (fun h9 => (hne9 j9 h9).symm)
  subst ew9
  refine lv_aload_n hx hb dX7_draw_5 rfl (lv_at hl 0 rfl) ?_
  refine lv_iload_n hx hb dX7_draw_6 rfl (lv_at hl 1 rfl) ?_
  refine n_rdF (va_runV (As := [.int (iI ((t : Nat) : Int))]) (rest := []) ⟨hx, hb, hml, hown, hts⟩ (c_X7_isTill _ Tl ((t : Nat) : Int) (by omega) hTl (by omega) f_y f_Tl) (cwV 1 hts (nT_V wl_X7_138 wi_X7_isTill ws_X7_isTill wn_X7 wc_X7_isTill) rfl rfl rfl (by decide +kernel) ⟨Nat.le_of_ble_eq_true rfl, Nat.le_of_ble_eq_true rfl⟩) (nB.preV hK hI hP (by omega) f_y rfl rfl) rfl rfl hl.1 rfl (lv_room (Nat.le_of_ble_eq_true rfl)) dX7_draw_7 ⟨Nat.zero_le _, Nat.zero_le _⟩) ?_
  refine n_if_neB (tgt := 17) hx hb dX7_draw_10 (by decide) (fun hc10 => ?_) (fun hc10 => ?_)
  · skip
    refine lv_aload_n hx hb dX7_draw_17 rfl (lv_at hl 0 rfl) ?_
    refine lv_iload_n hx hb dX7_draw_18 rfl (lv_at hl 1 rfl) ?_
    refine n_iconst hx hb dX7_draw_19 ?_
    refine n_rdF (va_runV (As := [.int (iI ((t : Nat) : Int)), .int (iI 0)]) (rest := []) ⟨hx, hb, hml, hown, hts⟩ (c_X7_parts _ Co Va Ra Ha t 0 (by omega) hCo hVa hRa hHa (by omega) (by omega) f_y f_Co f_Va f_Ra f_Ha) (cwV 2 hts (nT_V wl_X7_149 wi_X7_parts ws_X7_parts wn_X7 wc_X7_parts) rfl rfl rfl (by decide +kernel) ⟨Nat.le_of_ble_eq_true rfl, Nat.le_of_ble_eq_true rfl⟩) (nB.preV hK hI hP (by omega) f_y rfl rfl) rfl rfl hl.1 rfl (lv_room (Nat.le_of_ble_eq_true rfl)) dX7_draw_20 ⟨Nat.zero_le _, Nat.zero_le _⟩) ?_
    refine lv_lstore_n (lv' := [(2, .long (jI (((sumP (fun q9 => Ha (16 * t + 8 * 0 + q9)) (fun q9 => Va (8 * 0 + q9)) (Co 0) : Nat) : Int) * ((Ra 0 : Nat) : Int)))), (0, .ref (ad y)), (1, .int (iI ((t : Nat) : Int)))]) hx hb dX7_draw_23 rfl hl (by decide) rfl (fun ls hl => ?_)
    refine n_iconst hx hb dX7_draw_24 ?_
    refine lv_istore (lv' := [(4, .int (iI 0)), (2, .long (jI (((sumP (fun q9 => Ha (16 * t + 8 * 0 + q9)) (fun q9 => Va (8 * 0 + q9)) (Co 0) : Nat) : Int) * ((Ra 0 : Nat) : Int)))), (0, .ref (ad y)), (1, .int (iI ((t : Nat) : Int)))]) hx hb dX7_draw_25 hl (by decide) rfl (fun ls hl => ?_)
    have lp3 : ∀ (fu : Nat), ∀ (q : Nat), ∀ (w4 : Nat → va_E) (H : Heap) (locs : List Loc), ∀ (ls : Array Slot), 8 - q < fu → q ≤ 8 → (∀ j, j ≠ (y + 14) → j ≠ (y + 16) → w4 j = w j) → w4 y = .inr (7, [.int (iI 0), .ref (ad (y + 1)), .ref (ad (y + 2)), .ref (ad (y + 3)), .ref (ad (y + 4)), .ref (ad (y + 5)), .ref (ad (y + 6)), .ref (ad (y + 7)), .ref (ad (y + 8)), .ref (ad (y + 9)), .ref (ad (y + 10)), .ref (ad (y + 11)), .ref (ad (y + 12)), .ref (ad (y + 13)), .ref (ad (y + 14)), .ref (ad (y + 15)), .ref (ad (y + 16)), .ref (ad (y + 17)), .ref (ad (y + 18)), .ref (ad (y + 19)), .ref (ad (y + 20)), .ref (ad (y + 21)), .ref (ad (y + 22)), .ref (ad (y + 23)), .ref (ad (y + 24)), .ref (ad (y + 25)), .ref (ad (y + 26))]) → w4 (y + 1) = aI G 8 (fun q => (Co q : Int)) → w4 (y + 2) = aI G 64 (fun q => (Va q : Int)) → w4 (y + 3) = aI G 8 (fun q => (Ra q : Int)) → w4 (y + 9) = aI G 4 (fun q => (Tl q : Int)) → w4 (y + 14) = aI G 256 (fun k => ((zrS Ha (16 * t) q k : Nat) : Int)) → w4 (y + 16) = aI G 32 (fun k => ((addF Dr (fun q9 => Ha (16 * t + q9)) q k : Nat) : Int)) → va_P G.1 vwCl (nL N ad w4) H → va_S (nA N ad s.heap.size) s.heap H locs → lv_has ls 5 [(0, .ref (ad y)), (1, .int (iI ((t : Nat) : Int))), (2, .long (jI (((sumP (fun q9 => Ha (16 * t + 8 * 0 + q9)) (fun q9 => Va (8 * 0 + q9)) (Co 0) : Nat) : Int) * ((Ra 0 : Nat) : Int)))), (4, .int (iI ((q : Nat) : Int)))] → W p l e ({ frames := 2, cells := 0, slots := 0, locals := 47 } : Room) s m ([.ref (ad y), .int (iI ((t : Nat) : Int))] : List Value).toArray below meth cd H locs 0 0 Q (F0 m 27 ls []) := by
      intro fu
      induction fu with
      | zero =>
        intro q w4 H locs ls hfu hq hfr f_y f_Co f_Va f_Ra f_Tl f_Ha f_Dr hP hS hl
        exact absurd hfu (Nat.not_lt_zero _)
      | succ fu ih5 =>
        intro q w4 H locs ls hfu hq hfr f_y f_Co f_Va f_Ra f_Tl f_Ha f_Dr hP hS hl
        refine lv_iload hx hb dX7_draw_27 (lv_at hl 3 rfl) ?_
        refine n_bipush hx hb dX7_draw_29 (by decide) ?_
        refine n_icmp_ge (tgt := 75) hx hb dX7_draw_31 (by decide) (by omega) (by omega) (fun hc31 => ?_) (fun hc31 => ?_)
        · skip
          obtain rfl : q = 8 := by omega
          refine lv_lload_n hx hb dX7_draw_75 rfl (lv_at hl 2 rfl) ?_
          refine n_lretP hQ hx hb hr hlocks hP hS dX7_draw_76 ?_
          exact ⟨hfr, rfl, f_Ha, f_Dr⟩
        · skip
          refine lv_aload_n hx hb dX7_draw_34 rfl (lv_at hl 0 rfl) ?_
          refine n_get hx hb hts u_X7 hown hK hP (by omega) f_y rfl 16 (by decide) (nT_m wf_X7_56) rfl dX7_draw_35 ?_
          refine lv_iload hx hb dX7_draw_38 (lv_at hl 3 rfl) ?_
          refine lv_dup2_11 hx hb dX7_draw_40 rfl rfl ?_
          refine n_iald hx hb hK hP q (by omega) f_Dr (by omega) (by omega) (by decide) dX7_draw_41 ?_
          refine lv_aload_n hx hb dX7_draw_42 rfl (lv_at hl 0 rfl) ?_
          refine n_get hx hb hts u_X7 hown hK hP (by omega) f_y rfl 14 (by decide) (nT_m wf_X7_50) rfl dX7_draw_43 ?_
          refine lv_iload_n hx hb dX7_draw_46 rfl (lv_at hl 1 rfl) ?_
          refine n_iconst hx hb dX7_draw_47 ?_
          refine lv_iload hx hb dX7_draw_48 (lv_at hl 3 rfl) ?_
          refine n_rdF (va_runS (As := [.int (iI ((t : Nat) : Int)), .int (iI 0), .int (iI ((q : Nat) : Int))]) (rest := [.ref (ad (y + 14)), .int (iI ((addF Dr (fun q9 => Ha (16 * t + q9)) q q : Nat) : Int)), .int (iI ((q : Nat) : Int)), .ref (ad (y + 16))]) ⟨hx, hb, hml, hown, hts⟩ (c_X7_cell t 0 q (by omega) (by omega) (by omega)) (va_cwS 3 hts (nT_S wl_X7_134 wt_X7_cell wn_X7 wc_X7_cell) rfl rfl rfl (by decide +kernel) ⟨Nat.le_of_ble_eq_true rfl, Nat.le_of_ble_eq_true rfl⟩) preEq rfl rfl hl.1 rfl (lv_room (Nat.le_of_ble_eq_true rfl)) dX7_draw_50 ⟨Nat.zero_le _, Nat.zero_le _⟩) ?_
          refine n_iald hx hb hK hP (16 * t + 8 * 0 + q) (by omega) f_Ha (by omega) (by omega) (by decide) dX7_draw_53 ?_
          have ho6 := trivial
          refine n_iadd hx hb dX7_draw_54 ?_
          refine n_iast hx hb hK hJ hP hS q (by omega) f_Dr (by omega) (by omega) (by decide) dX7_draw_55 (fun w7 H locs f_Dr hne8 hP hS => ?_)
          have f_y := (hne8 y (by omega)).trans f_y
          have f_Co := (hne8 (y + 1) (by omega)).trans f_Co
          have f_Va := (hne8 (y + 2) (by omega)).trans f_Va
          have f_Ra := (hne8 (y + 3) (by omega)).trans f_Ra
          have f_Tl := (hne8 (y + 9) (by omega)).trans f_Tl
          have f_Ha := (hne8 (y + 14) (by omega)).trans f_Ha
          have hfr : ∀ j, j ≠ (y + 14) → j ≠ (y + 16) → w7 j = w j := fun j a0 a1 => (hne8 j (by omega)).trans (hfr j a0 a1)
          refine lv_aload_n hx hb dX7_draw_56 rfl (lv_at hl 0 rfl) ?_
          refine n_get hx hb hts u_X7 hown hK hP (by omega) f_y rfl 14 (by decide) (nT_m wf_X7_50) rfl dX7_draw_57 ?_
          refine lv_iload_n hx hb dX7_draw_60 rfl (lv_at hl 1 rfl) ?_
          refine n_iconst hx hb dX7_draw_61 ?_
          refine lv_iload hx hb dX7_draw_62 (lv_at hl 3 rfl) ?_
          refine n_rdF (va_runS (As := [.int (iI ((t : Nat) : Int)), .int (iI 0), .int (iI ((q : Nat) : Int))]) (rest := [.ref (ad (y + 14))]) ⟨hx, hb, hml, hown, hts⟩ (c_X7_cell t 0 q (by omega) (by omega) (by omega)) (va_cwS 3 hts (nT_S wl_X7_134 wt_X7_cell wn_X7 wc_X7_cell) rfl rfl rfl (by decide +kernel) ⟨Nat.le_of_ble_eq_true rfl, Nat.le_of_ble_eq_true rfl⟩) preEq rfl rfl hl.1 rfl (lv_room (Nat.le_of_ble_eq_true rfl)) dX7_draw_64 ⟨Nat.zero_le _, Nat.zero_le _⟩) ?_
          refine n_iconst hx hb dX7_draw_67 ?_
          refine n_iast hx hb hK hJ hP hS (16 * t + 8 * 0 + q) (by omega) f_Ha (by omega) (by omega) (by decide) dX7_draw_68 (fun w9 H locs f_Ha hne10 hP hS => ?_)
          have f_y := (hne10 y (by omega)).trans f_y
          have f_Co := (hne10 (y + 1) (by omega)).trans f_Co
          have f_Va := (hne10 (y + 2) (by omega)).trans f_Va
          have f_Ra := (hne10 (y + 3) (by omega)).trans f_Ra
          have f_Tl := (hne10 (y + 9) (by omega)).trans f_Tl
          have f_Dr := (hne10 (y + 16) (by omega)).trans f_Dr
          have hfr : ∀ j, j ≠ (y + 14) → j ≠ (y + 16) → w9 j = w j := fun j a0 a1 => (hne10 j (by omega)).trans (hfr j a0 a1)
          refine lv_iinc (v := iI (((q : Nat) : Int) + 1)) (lv' := [(4, .int (iI (((q : Nat) : Int) + 1))), (0, .ref (ad y)), (1, .int (iI ((t : Nat) : Int))), (2, .long (jI (((sumP (fun q9 => Ha (16 * t + 8 * 0 + q9)) (fun q9 => Va (8 * 0 + q9)) (Co 0) : Nat) : Int) * ((Ra 0 : Nat) : Int))))]) hx hb dX7_draw_69 hl (k := 3) rfl (by first | exact iI_add _ _ | exact (iI_add _ _).trans (congrArg iI (by omega))) (by decide) rfl (fun ls hl => ?_)
          refine lv_goto (tgt := 27) hx hb dX7_draw_72 (by decide) ?_
          exact ih5 (q + 1) _ _ _ _ (by omega) (by omega) hfr f_y f_Co f_Va f_Ra f_Tl (f_Ha.trans (congrArg (aI G 256) (zrS_s Ha (16 * t) q))) (f_Dr.trans (congrArg (aI G 32) (addF_s7 Dr (fun q9 => Ha (16 * t + q9)) Ha (16 * t) q rfl))) hP hS (by first | exact lv_sub hl [1, 2, 3, 0] rfl | exact lv_cast (lv_sub (l' := [(0, .ref (ad y)), (1, .int (iI ((t : Nat) : Int))), (2, .long (jI (((sumP (fun q9 => Ha (16 * t + 8 * 0 + q9)) (fun q9 => Va (8 * 0 + q9)) (Co 0) : Nat) : Int) * ((Ra 0 : Nat) : Int)))), (4, .int (iI (((q : Nat) : Int) + 1)))]) hl [1, 2, 3, 0] rfl) (lc_s (lc_s (lc_s (lc_i (show ((((q : Nat) : Int) + 1) : Int) = (((q + 1) : Nat) : Int) by omega) rfl)))))
    exact lp3 (8 - 0 + 1) 0 _ _ _ _ (Nat.lt_succ_self _) (by omega) hfr f_y f_Co f_Va f_Ra f_Tl (f_Ha.trans (by rw [zrS_0])) (f_Dr.trans (by rw [addF_0])) hP hS (by first | exact lv_sub hl [2, 3, 1, 0] rfl | exact lv_cast (lv_sub (l' := [(0, .ref (ad y)), (1, .int (iI ((t : Nat) : Int))), (2, .long (jI (((sumP (fun q9 => Ha (16 * t + 8 * 0 + q9)) (fun q9 => Va (8 * 0 + q9)) (Co 0) : Nat) : Int) * ((Ra 0 : Nat) : Int)))), (4, .int (iI 0))]) hl [2, 3, 1, 0] rfl) (lc_s (lc_s (lc_s (lc_i (show (0 : Int) = ((0 : Nat) : Int) by omega) rfl)))))
  · skip
    exact absurd hc10 (by omega)
set_option maxHeartbeats 4000000 in
set_option maxRecDepth 100000 in
theorem c_X7_drawn_no {l : Launch} {G : nG} {N : Nat} {ad : Nat → Nat} {w : Nat → va_E} {sz : Nat} (y : Nat) (Co : Nat → Nat) (z : Int) (hN : y + 26 < N) (hCo : ∀ k, k < 2 → Co k ≤ 8) (hz : -2147483648 ≤ z ∧ z < 2147483648) (hno : ¬ (0 ≤ z ∧ z < (Co 0 : Int))) (f_y : w y = .inr (7, [.int (iI 0), .ref (ad (y + 1)), .ref (ad (y + 2)), .ref (ad (y + 3)), .ref (ad (y + 4)), .ref (ad (y + 5)), .ref (ad (y + 6)), .ref (ad (y + 7)), .ref (ad (y + 8)), .ref (ad (y + 9)), .ref (ad (y + 10)), .ref (ad (y + 11)), .ref (ad (y + 12)), .ref (ad (y + 13)), .ref (ad (y + 14)), .ref (ad (y + 15)), .ref (ad (y + 16)), .ref (ad (y + 17)), .ref (ad (y + 18)), .ref (ad (y + 19)), .ref (ad (y + 20)), .ref (ad (y + 21)), .ref (ad (y + 22)), .ref (ad (y + 23)), .ref (ad (y + 24)), .ref (ad (y + 25)), .ref (ad (y + 26))])) (f_Co : w (y + 1) = aI G 8 (fun q => (Co q : Int))) : Met l yX7_drawn wsX7_drawn ({ frames := 2, cells := 0, slots := 0, locals := 44 }) (va_Pc [.ref (ad y), .int (iI z)] (nB G N ad w sz)) (nPi G N ad sz (fun r u => (∀ j, u j = w j) ∧ (r = -1))) 0 0 (nA N ad sz) := by
  refine n_ent (cc := cX7_drawn) (maxL := 2) (ret := (some .int)) (by decide) rfl (Nat.le_of_ble_eq_true rfl) ?_
  intro p e s m below meth cd hx hb hr hml hlocks hts hown hnm hsz hP hK hI Q hQ ls hl
  have hown : s.vm.findClass RX7 = some m.cls := hown
  subst hsz
  have hJ := hI.J s.heap.size
  have hS : va_S (nA N ad s.heap.size) s.heap s.heap [] := va_S.rf
  have hfr : ∀ j, w j = w j := fun _  => rfl
  have hl : lv_has ls 2 [(0, .ref (ad y)), (1, .int (iI z))] := hl
  refine lv_aload_n hx hb dX7_drawn_0 rfl (lv_at hl 0 rfl) ?_
  refine n_iconst hx hb dX7_drawn_1 ?_
  refine n_put hx hb hts u_X7 tyX7 tyX7_ok nmX7 hown hK hJ hP hS (by omega) f_y rfl 0 (by decide) (nT_m wf_X7_90) rfl rfl rfl (Nat.le_of_ble_eq_true rfl) dX7_drawn_2 (fun w1 H locs f9 hne9 hP hS => ?_)
  have ew9 : w = w1 := funext fun j9 => (Decidable.em (j9 = y)).elim (fun h9 => by rw [h9, f9]; exact f_y) (fun h9 => (hne9 j9 h9).symm)
  subst ew9
  refine lv_aload_n hx hb dX7_drawn_5 rfl (lv_at hl 0 rfl) ?_
  refine n_iconst hx hb dX7_drawn_6 ?_
  refine lv_iload_n hx hb dX7_drawn_7 rfl (lv_at hl 1 rfl) ?_
  refine n_rdF (va_runV (As := [.int (iI 0), .int (iI z)]) (rest := []) ⟨hx, hb, hml, hown, hts⟩ (c_X7_isCoin _ Co 0 z (by omega) hCo (by omega) (by omega) f_y f_Co) (cwV 2 hts (nT_V wl_X7_121 wi_X7_isCoin ws_X7_isCoin wn_X7 wc_X7_isCoin) rfl rfl rfl (by decide +kernel) ⟨Nat.le_of_ble_eq_true rfl, Nat.le_of_ble_eq_true rfl⟩) (nB.preV hK hI hP (by omega) f_y rfl rfl) rfl rfl hl.1 rfl (lv_room (Nat.le_of_ble_eq_true rfl)) dX7_drawn_8 ⟨Nat.zero_le _, Nat.zero_le _⟩) ?_
  refine n_if_eqB (tgt := 23) hx hb dX7_drawn_11 (by decide) (fun hc11 => ?_) (fun hc11 => ?_)
  · skip
    refine n_iconst hx hb dX7_drawn_23 ?_
    refine n_iretP hQ hx hb hr hlocks hP hS dX7_drawn_24 ?_
    exact ⟨hfr, rfl⟩
  · skip
    exact absurd hc11.2 hno
set_option maxHeartbeats 4000000 in
set_option maxRecDepth 100000 in
theorem c_X7_drawn_yes {l : Launch} {G : nG} {N : Nat} {ad : Nat → Nat} {w : Nat → va_E} {sz : Nat} (y : Nat) (Co Dr : Nat → Nat) (kk : Nat) (hN : y + 26 < N) (hCo : ∀ k, k < 2 → Co k ≤ 8) (hk : kk < Co 0) (f_y : w y = .inr (7, [.int (iI 0), .ref (ad (y + 1)), .ref (ad (y + 2)), .ref (ad (y + 3)), .ref (ad (y + 4)), .ref (ad (y + 5)), .ref (ad (y + 6)), .ref (ad (y + 7)), .ref (ad (y + 8)), .ref (ad (y + 9)), .ref (ad (y + 10)), .ref (ad (y + 11)), .ref (ad (y + 12)), .ref (ad (y + 13)), .ref (ad (y + 14)), .ref (ad (y + 15)), .ref (ad (y + 16)), .ref (ad (y + 17)), .ref (ad (y + 18)), .ref (ad (y + 19)), .ref (ad (y + 20)), .ref (ad (y + 21)), .ref (ad (y + 22)), .ref (ad (y + 23)), .ref (ad (y + 24)), .ref (ad (y + 25)), .ref (ad (y + 26))])) (f_Co : w (y + 1) = aI G 8 (fun q => (Co q : Int))) (f_Dr : w (y + 16) = aI G 32 (fun q => (Dr q : Int))) : Met l yX7_drawn wsX7_drawn ({ frames := 2, cells := 0, slots := 0, locals := 44 }) (va_Pc [.ref (ad y), .int (iI ((kk : Nat) : Int))] (nB G N ad w sz)) (nPi G N ad sz (fun r u => (∀ j, u j = w j) ∧ (r = ((Dr kk : Nat) : Int)))) 0 0 (nA N ad sz) := by
  refine n_ent (cc := cX7_drawn) (maxL := 2) (ret := (some .int)) (by decide) rfl (Nat.le_of_ble_eq_true rfl) ?_
  intro p e s m below meth cd hx hb hr hml hlocks hts hown hnm hsz hP hK hI Q hQ ls hl
  have hown : s.vm.findClass RX7 = some m.cls := hown
  subst hsz
  have hJ := hI.J s.heap.size
  have hS : va_S (nA N ad s.heap.size) s.heap s.heap [] := va_S.rf
  have hfr : ∀ j, w j = w j := fun _  => rfl
  have hl : lv_has ls 2 [(0, .ref (ad y)), (1, .int (iI ((kk : Nat) : Int)))] := hl
  have hcs := hCo 0 (by omega)
  have hk2 : ((kk : Nat) : Int) < (Co (0 : Int).toNat : Int) := by show ((kk : Nat) : Int) < (Co 0 : Int); omega
  refine lv_aload_n hx hb dX7_drawn_0 rfl (lv_at hl 0 rfl) ?_
  refine n_iconst hx hb dX7_drawn_1 ?_
  refine n_put hx hb hts u_X7 tyX7 tyX7_ok nmX7 hown hK hJ hP hS (by omega) f_y rfl 0 (by decide) (nT_m wf_X7_90) rfl rfl rfl (Nat.le_of_ble_eq_true rfl) dX7_drawn_2 (fun w1 H locs f9 hne9 hP hS => ?_)
  have ew9 : w = w1 := funext fun j9 => (Decidable.em (j9 = y)).elim (fun h9 => by rw [h9, f9]; exact f_y) (fun h9 => (hne9 j9 h9).symm)
  subst ew9
  refine lv_aload_n hx hb dX7_drawn_5 rfl (lv_at hl 0 rfl) ?_
  refine n_iconst hx hb dX7_drawn_6 ?_
  refine lv_iload_n hx hb dX7_drawn_7 rfl (lv_at hl 1 rfl) ?_
  refine n_rdF (va_runV (As := [.int (iI 0), .int (iI ((kk : Nat) : Int))]) (rest := []) ⟨hx, hb, hml, hown, hts⟩ (c_X7_isCoin _ Co 0 ((kk : Nat) : Int) (by omega) hCo (by omega) (by omega) f_y f_Co) (cwV 2 hts (nT_V wl_X7_121 wi_X7_isCoin ws_X7_isCoin wn_X7 wc_X7_isCoin) rfl rfl rfl (by decide +kernel) ⟨Nat.le_of_ble_eq_true rfl, Nat.le_of_ble_eq_true rfl⟩) (nB.preV hK hI hP (by omega) f_y rfl rfl) rfl rfl hl.1 rfl (lv_room (Nat.le_of_ble_eq_true rfl)) dX7_drawn_8 ⟨Nat.zero_le _, Nat.zero_le _⟩) ?_
  refine n_if_eqB (tgt := 23) hx hb dX7_drawn_11 (by decide) (fun hc11 => ?_) (fun hc11 => ?_)
  · skip
    exact absurd ⟨by omega, by omega, hk2⟩ hc11
  · skip
    refine lv_aload_n hx hb dX7_drawn_14 rfl (lv_at hl 0 rfl) ?_
    refine n_get hx hb hts u_X7 hown hK hP (by omega) f_y rfl 16 (by decide) (nT_m wf_X7_56) rfl dX7_drawn_15 ?_
    refine lv_iload_n hx hb dX7_drawn_18 rfl (lv_at hl 1 rfl) ?_
    refine n_iald hx hb hK hP kk (by omega) f_Dr (by omega) (by omega) (by decide) dX7_drawn_19 ?_
    refine lv_goto (tgt := 24) hx hb dX7_drawn_20 (by decide) ?_
    refine n_iretP hQ hx hb hr hlocks hP hS dX7_drawn_24 ?_
    exact ⟨hfr, rfl⟩
set_option maxHeartbeats 4000000 in
set_option maxRecDepth 100000 in
theorem c_X7_expect_no {l : Launch} {G : nG} {N : Nat} {ad : Nat → Nat} {w : Nat → va_E} {sz : Nat} (y : Nat) (Co Tl Ex : Nat → Nat) (tz pz yz z nz : Int) (hN : y + 26 < N) (hCo : ∀ k, k < 2 → Co k ≤ 8) (hTl : ∀ k, k < 1 → Tl k ≤ 4) (hEx : ∀ k, k < 4 → Ex k ≤ 20) (htz : -2147483648 ≤ tz ∧ tz < 2147483648) (hpz : -2147483648 ≤ pz ∧ pz < 2147483648) (hy : -2147483648 ≤ yz ∧ yz < 2147483648) (hz : -2147483648 ≤ z ∧ z < 2147483648) (hnz : -2147483648 ≤ nz ∧ nz < 2147483648) (hno : ¬ (((0 ≤ tz ∧ tz < (Tl 0 : Int)) ∧ ((1 ≤ pz ∧ pz ≤ 2000) ∧ (1 ≤ nz ∧ nz ≤ 50) ∧ (yz = 0 ∨ yz = 1) ∧ (0 ≤ z ∧ z < (Co (yz).toNat : Int)))) ∧ ¬ Ex tz.toNat = 20)) (f_y : w y = .inr (7, [.int (iI 0), .ref (ad (y + 1)), .ref (ad (y + 2)), .ref (ad (y + 3)), .ref (ad (y + 4)), .ref (ad (y + 5)), .ref (ad (y + 6)), .ref (ad (y + 7)), .ref (ad (y + 8)), .ref (ad (y + 9)), .ref (ad (y + 10)), .ref (ad (y + 11)), .ref (ad (y + 12)), .ref (ad (y + 13)), .ref (ad (y + 14)), .ref (ad (y + 15)), .ref (ad (y + 16)), .ref (ad (y + 17)), .ref (ad (y + 18)), .ref (ad (y + 19)), .ref (ad (y + 20)), .ref (ad (y + 21)), .ref (ad (y + 22)), .ref (ad (y + 23)), .ref (ad (y + 24)), .ref (ad (y + 25)), .ref (ad (y + 26))])) (f_Co : w (y + 1) = aI G 8 (fun q => (Co q : Int))) (f_Tl : w (y + 9) = aI G 4 (fun q => (Tl q : Int))) (f_Ex : w (y + 13) = aI G 16 (fun q => (Ex q : Int))) : Met l yX7_expect wsX7_expect ({ frames := 3, cells := 0, slots := 0, locals := 69 }) (va_Pc [.ref (ad y), .int (iI tz), .int (iI pz), .int (iI yz), .int (iI z), .int (iI nz)] (nB G N ad w sz)) (nPi G N ad sz (fun r u => (∀ j, u j = w j) ∧ (r = -1))) 0 0 (nA N ad sz) := by
  refine n_ent (cc := cX7_expect) (maxL := 7) (ret := (some .int)) (by decide) rfl (Nat.le_of_ble_eq_true rfl) ?_
  intro p e s m below meth cd hx hb hr hml hlocks hts hown hnm hsz hP hK hI Q hQ ls hl
  have hown : s.vm.findClass RX7 = some m.cls := hown
  subst hsz
  have hJ := hI.J s.heap.size
  have hS : va_S (nA N ad s.heap.size) s.heap s.heap [] := va_S.rf
  have hfr : ∀ j, w j = w j := fun _  => rfl
  have hl : lv_has ls 7 [(0, .ref (ad y)), (1, .int (iI tz)), (2, .int (iI pz)), (3, .int (iI yz)), (4, .int (iI z)), (5, .int (iI nz))] := hl
  have ht0 := hTl 0 (by omega)
  refine lv_aload_n hx hb dX7_expect_0 rfl (lv_at hl 0 rfl) ?_
  refine n_iconst hx hb dX7_expect_1 ?_
  refine n_put hx hb hts u_X7 tyX7 tyX7_ok nmX7 hown hK hJ hP hS (by omega) f_y rfl 0 (by decide) (nT_m wf_X7_90) rfl rfl rfl (Nat.le_of_ble_eq_true rfl) dX7_expect_2 (fun w1 H locs f9 hne9 hP hS => ?_)
  have ew9 : w = w1 := funext fun j9 => (Decidable.em (j9 = y)).elim (fun h9 => by rw [h9, f9]; exact f_y) (fun h9 => (hne9 j9 h9).symm)
  subst ew9
  refine lv_aload_n hx hb dX7_expect_5 rfl (lv_at hl 0 rfl) ?_
  refine lv_iload_n hx hb dX7_expect_6 rfl (lv_at hl 1 rfl) ?_
  refine lv_iload_n hx hb dX7_expect_7 rfl (lv_at hl 2 rfl) ?_
  refine lv_iload_n hx hb dX7_expect_8 rfl (lv_at hl 3 rfl) ?_
  refine lv_iload hx hb dX7_expect_9 (lv_at hl 4 rfl) ?_
  refine lv_iload hx hb dX7_expect_11 (lv_at hl 5 rfl) ?_
  refine n_rdF (va_runV (As := [.int (iI tz), .int (iI pz), .int (iI yz), .int (iI z), .int (iI nz)]) (rest := []) ⟨hx, hb, hml, hown, hts⟩ (c_X7_isSale _ Co Tl tz pz yz z nz (by omega) hCo hTl (by omega) (by omega) (by omega) (by omega) (by omega) f_y f_Co f_Tl) (cwV 5 hts (nT_V wl_X7_141 wi_X7_isSale ws_X7_isSale wn_X7 wc_X7_isSale) rfl rfl rfl (by decide +kernel) ⟨Nat.le_of_ble_eq_true rfl, Nat.le_of_ble_eq_true rfl⟩) (nB.preV hK hI hP (by omega) f_y rfl rfl) rfl rfl hl.1 rfl (lv_room (Nat.le_of_ble_eq_true rfl)) dX7_expect_13 ⟨Nat.zero_le _, Nat.zero_le _⟩) ?_
  refine n_if_eqB (tgt := 30) hx hb dX7_expect_16 (by decide) (fun hc16 => ?_) (fun hc16 => ?_)
  · skip
    refine n_iconst hx hb dX7_expect_30 ?_
    refine n_iretP hQ hx hb hr hlocks hP hS dX7_expect_31 ?_
    exact ⟨hfr, rfl⟩
  · skip
    refine lv_aload_n hx hb dX7_expect_19 rfl (lv_at hl 0 rfl) ?_
    refine n_get hx hb hts u_X7 hown hK hP (by omega) f_y rfl 13 (by decide) (nT_m wf_X7_47) rfl dX7_expect_20 ?_
    refine lv_iload_n hx hb dX7_expect_23 rfl (lv_at hl 1 rfl) ?_
    refine n_iald hx hb hK hP tz.toNat (by omega) f_Ex (by omega) (by omega) (by decide) dX7_expect_24 ?_
    have ho3 := hEx tz.toNat (by omega)
    refine n_bipush hx hb dX7_expect_25 (by decide) ?_
    refine n_icmp_ne (tgt := 32) hx hb dX7_expect_27 (by decide) (by omega) (by omega) (fun hc27 => ?_) (fun hc27 => ?_)
    · skip
      exact absurd ⟨hc16, by omega⟩ hno
    · skip
      refine n_iconst hx hb dX7_expect_30 ?_
      refine n_iretP hQ hx hb hr hlocks hP hS dX7_expect_31 ?_
      exact ⟨hfr, rfl⟩
set_option maxHeartbeats 4000000 in
set_option maxRecDepth 100000 in
theorem c_X7_expect_yes {l : Launch} {G : nG} {N : Nat} {ad : Nat → Nat} {w : Nat → va_E} {sz : Nat} (y : Nat) (Co Tl Ex Xs : Nat → Nat) (t sy kk a c : Nat) (hN : y + 26 < N) (hCo : ∀ k, k < 2 → Co k ≤ 8) (hTl : ∀ k, k < 1 → Tl k ≤ 4) (hEx : ∀ k, k < 4 → Ex k ≤ 20) (ht : t < Tl 0) (hs : sy < 2) (hk : kk < Co sy) (ha : 1 ≤ a ∧ a ≤ 2000) (hc : 1 ≤ c ∧ c ≤ 50) (hen : Ex t < 20) (f_y : w y = .inr (7, [.int (iI 0), .ref (ad (y + 1)), .ref (ad (y + 2)), .ref (ad (y + 3)), .ref (ad (y + 4)), .ref (ad (y + 5)), .ref (ad (y + 6)), .ref (ad (y + 7)), .ref (ad (y + 8)), .ref (ad (y + 9)), .ref (ad (y + 10)), .ref (ad (y + 11)), .ref (ad (y + 12)), .ref (ad (y + 13)), .ref (ad (y + 14)), .ref (ad (y + 15)), .ref (ad (y + 16)), .ref (ad (y + 17)), .ref (ad (y + 18)), .ref (ad (y + 19)), .ref (ad (y + 20)), .ref (ad (y + 21)), .ref (ad (y + 22)), .ref (ad (y + 23)), .ref (ad (y + 24)), .ref (ad (y + 25)), .ref (ad (y + 26))])) (f_Co : w (y + 1) = aI G 8 (fun q => (Co q : Int))) (f_Tl : w (y + 9) = aI G 4 (fun q => (Tl q : Int))) (f_Ex : w (y + 13) = aI G 16 (fun q => (Ex q : Int))) (f_Xs : w (y + 17) = aI G 1280 (fun q => (Xs q : Int))) : Met l yX7_expect wsX7_expect ({ frames := 3, cells := 0, slots := 0, locals := 69 }) (va_Pc [.ref (ad y), .int (iI ((t : Nat) : Int)), .int (iI ((a : Nat) : Int)), .int (iI ((sy : Nat) : Int)), .int (iI ((kk : Nat) : Int)), .int (iI ((c : Nat) : Int))] (nB G N ad w sz)) (nPi G N ad sz (fun r u => (∀ j, j ≠ (y + 13) → j ≠ (y + 17) → u j = w j) ∧ (r = ((Ex t + 1 : Nat) : Int)) ∧ (u (y + 13) = aI G 16 (fun q => ((va_up Ex t (Ex t + 1) q : Nat) : Int))) ∧ (u (y + 17) = aI G 1280 (fun q => (((va_up (va_up (va_up (va_up Xs (80 * t + 4 * Ex t) a) ((80 * t + 4 * Ex t) + 1) sy) ((80 * t + 4 * Ex t) + 2) kk) ((80 * t + 4 * Ex t) + 3) c) q : Nat) : Int))))) 0 0 (nA N ad sz) := by
  refine n_ent (cc := cX7_expect) (maxL := 7) (ret := (some .int)) (by decide) rfl (Nat.le_of_ble_eq_true rfl) ?_
  intro p e s m below meth cd hx hb hr hml hlocks hts hown hnm hsz hP hK hI Q hQ ls hl
  have hown : s.vm.findClass RX7 = some m.cls := hown
  subst hsz
  have hJ := hI.J s.heap.size
  have hS : va_S (nA N ad s.heap.size) s.heap s.heap [] := va_S.rf
  have hfr : ∀ j, j ≠ (y + 13) → j ≠ (y + 17) → w j = w j := fun _ _ _ => rfl
  have hl : lv_has ls 7 [(0, .ref (ad y)), (1, .int (iI ((t : Nat) : Int))), (2, .int (iI ((a : Nat) : Int))), (3, .int (iI ((sy : Nat) : Int))), (4, .int (iI ((kk : Nat) : Int))), (5, .int (iI ((c : Nat) : Int)))] := hl
  have ht0 := hTl 0 (by omega)
  have hcs := hCo sy hs
  refine lv_aload_n hx hb dX7_expect_0 rfl (lv_at hl 0 rfl) ?_
  refine n_iconst hx hb dX7_expect_1 ?_
  refine n_put hx hb hts u_X7 tyX7 tyX7_ok nmX7 hown hK hJ hP hS (by omega) f_y rfl 0 (by decide) (nT_m wf_X7_90) rfl rfl rfl (Nat.le_of_ble_eq_true rfl) dX7_expect_2 (fun w1 H locs f9 hne9 hP hS => ?_)
  have ew9 : w = w1 := funext fun j9 => (Decidable.em (j9 = y)).elim (fun h9 => by rw [h9, f9]; exact f_y) (fun h9 => (hne9 j9 h9).symm)
  subst ew9
  refine lv_aload_n hx hb dX7_expect_5 rfl (lv_at hl 0 rfl) ?_
  refine lv_iload_n hx hb dX7_expect_6 rfl (lv_at hl 1 rfl) ?_
  refine lv_iload_n hx hb dX7_expect_7 rfl (lv_at hl 2 rfl) ?_
  refine lv_iload_n hx hb dX7_expect_8 rfl (lv_at hl 3 rfl) ?_
  refine lv_iload hx hb dX7_expect_9 (lv_at hl 4 rfl) ?_
  refine lv_iload hx hb dX7_expect_11 (lv_at hl 5 rfl) ?_
  refine n_rdF (va_runV (As := [.int (iI ((t : Nat) : Int)), .int (iI ((a : Nat) : Int)), .int (iI ((sy : Nat) : Int)), .int (iI ((kk : Nat) : Int)), .int (iI ((c : Nat) : Int))]) (rest := []) ⟨hx, hb, hml, hown, hts⟩ (c_X7_isSale _ Co Tl ((t : Nat) : Int) ((a : Nat) : Int) ((sy : Nat) : Int) ((kk : Nat) : Int) ((c : Nat) : Int) (by omega) hCo hTl (by omega) (by omega) (by omega) (by omega) (by omega) f_y f_Co f_Tl) (cwV 5 hts (nT_V wl_X7_141 wi_X7_isSale ws_X7_isSale wn_X7 wc_X7_isSale) rfl rfl rfl (by decide +kernel) ⟨Nat.le_of_ble_eq_true rfl, Nat.le_of_ble_eq_true rfl⟩) (nB.preV hK hI hP (by omega) f_y rfl rfl) rfl rfl hl.1 rfl (lv_room (Nat.le_of_ble_eq_true rfl)) dX7_expect_13 ⟨Nat.zero_le _, Nat.zero_le _⟩) ?_
  refine n_if_eqB (tgt := 30) hx hb dX7_expect_16 (by decide) (fun hc16 => ?_) (fun hc16 => ?_)
  · skip
    exact absurd ⟨by omega, by omega, by omega, by omega, by rw [Int.toNat_natCast]; omega⟩ hc16
  · skip
    refine lv_aload_n hx hb dX7_expect_19 rfl (lv_at hl 0 rfl) ?_
    refine n_get hx hb hts u_X7 hown hK hP (by omega) f_y rfl 13 (by decide) (nT_m wf_X7_47) rfl dX7_expect_20 ?_
    refine lv_iload_n hx hb dX7_expect_23 rfl (lv_at hl 1 rfl) ?_
    refine n_iald hx hb hK hP t (by omega) f_Ex (by omega) (by omega) (by decide) dX7_expect_24 ?_
    have ho3 := hEx t (by omega)
    refine n_bipush hx hb dX7_expect_25 (by decide) ?_
    refine n_icmp_ne (tgt := 32) hx hb dX7_expect_27 (by decide) (by omega) (by omega) (fun hc27 => ?_) (fun hc27 => ?_)
    · skip
      refine n_iconst hx hb dX7_expect_32 ?_
      refine n_bipush hx hb dX7_expect_33 (by decide) ?_
      refine lv_iload_n hx hb dX7_expect_35 rfl (lv_at hl 1 rfl) ?_
      refine n_imul hx hb dX7_expect_36 ?_
      refine lv_aload_n hx hb dX7_expect_37 rfl (lv_at hl 0 rfl) ?_
      refine n_get hx hb hts u_X7 hown hK hP (by omega) f_y rfl 13 (by decide) (nT_m wf_X7_47) rfl dX7_expect_38 ?_
      refine lv_iload_n hx hb dX7_expect_41 rfl (lv_at hl 1 rfl) ?_
      refine n_iald hx hb hK hP t (by omega) f_Ex (by omega) (by omega) (by decide) dX7_expect_42 ?_
      have ho4 := hEx t (by omega)
      refine n_iadd hx hb dX7_expect_43 ?_
      refine n_imul hx hb dX7_expect_44 ?_
      refine lv_istore (lv' := [(6, .int (iI ((80 * t + 4 * Ex t : Nat) : Int))), (0, .ref (ad y)), (1, .int (iI ((t : Nat) : Int))), (2, .int (iI ((a : Nat) : Int))), (3, .int (iI ((sy : Nat) : Int))), (4, .int (iI ((kk : Nat) : Int))), (5, .int (iI ((c : Nat) : Int)))]) hx hb dX7_expect_45 hl (by decide) (lc_i (by omega) rfl) (fun ls hl => ?_)
      refine lv_aload_n hx hb dX7_expect_47 rfl (lv_at hl 1 rfl) ?_
      refine n_get hx hb hts u_X7 hown hK hP (by omega) f_y rfl 17 (by decide) (nT_m wf_X7_59) rfl dX7_expect_48 ?_
      refine lv_iload hx hb dX7_expect_51 (lv_at hl 0 rfl) ?_
      refine lv_iload_n hx hb dX7_expect_53 rfl (lv_at hl 3 rfl) ?_
      refine n_iast hx hb hK hJ hP hS (80 * t + 4 * Ex t) (by omega) f_Xs (by omega) (by omega) (by decide) dX7_expect_54 (fun w5 H locs f_Xs hne6 hP hS => ?_)
      have f_y := (hne6 y (by omega)).trans f_y
      have f_Co := (hne6 (y + 1) (by omega)).trans f_Co
      have f_Tl := (hne6 (y + 9) (by omega)).trans f_Tl
      have f_Ex := (hne6 (y + 13) (by omega)).trans f_Ex
      have hfr : ∀ j, j ≠ (y + 13) → j ≠ (y + 17) → w5 j = w j := fun j a0 a1 => (hne6 j (by omega)).trans (hfr j a0 a1)
      refine lv_aload_n hx hb dX7_expect_55 rfl (lv_at hl 1 rfl) ?_
      refine n_get hx hb hts u_X7 hown hK hP (by omega) f_y rfl 17 (by decide) (nT_m wf_X7_59) rfl dX7_expect_56 ?_
      refine lv_iload hx hb dX7_expect_59 (lv_at hl 0 rfl) ?_
      refine n_iconst hx hb dX7_expect_61 ?_
      refine n_iadd hx hb dX7_expect_62 ?_
      refine lv_iload_n hx hb dX7_expect_63 rfl (lv_at hl 4 rfl) ?_
      refine n_iast hx hb hK hJ hP hS (80 * t + 4 * Ex t + 1) (by omega) f_Xs (by omega) (by omega) (by decide) dX7_expect_64 (fun w7 H locs f_Xs hne8 hP hS => ?_)
      have f_y := (hne8 y (by omega)).trans f_y
      have f_Co := (hne8 (y + 1) (by omega)).trans f_Co
      have f_Tl := (hne8 (y + 9) (by omega)).trans f_Tl
      have f_Ex := (hne8 (y + 13) (by omega)).trans f_Ex
      have hfr : ∀ j, j ≠ (y + 13) → j ≠ (y + 17) → w7 j = w j := fun j a0 a1 => (hne8 j (by omega)).trans (hfr j a0 a1)
      refine lv_aload_n hx hb dX7_expect_65 rfl (lv_at hl 1 rfl) ?_
      refine n_get hx hb hts u_X7 hown hK hP (by omega) f_y rfl 17 (by decide) (nT_m wf_X7_59) rfl dX7_expect_66 ?_
      refine lv_iload hx hb dX7_expect_69 (lv_at hl 0 rfl) ?_
      refine n_iconst hx hb dX7_expect_71 ?_
      refine n_iadd hx hb dX7_expect_72 ?_
      refine lv_iload hx hb dX7_expect_73 (lv_at hl 5 rfl) ?_
      refine n_iast hx hb hK hJ hP hS (80 * t + 4 * Ex t + 2) (by omega) f_Xs (by omega) (by omega) (by decide) dX7_expect_75 (fun w9 H locs f_Xs hne10 hP hS => ?_)
      have f_y := (hne10 y (by omega)).trans f_y
      have f_Co := (hne10 (y + 1) (by omega)).trans f_Co
      have f_Tl := (hne10 (y + 9) (by omega)).trans f_Tl
      have f_Ex := (hne10 (y + 13) (by omega)).trans f_Ex
      have hfr : ∀ j, j ≠ (y + 13) → j ≠ (y + 17) → w9 j = w j := fun j a0 a1 => (hne10 j (by omega)).trans (hfr j a0 a1)
      refine lv_aload_n hx hb dX7_expect_76 rfl (lv_at hl 1 rfl) ?_
      refine n_get hx hb hts u_X7 hown hK hP (by omega) f_y rfl 17 (by decide) (nT_m wf_X7_59) rfl dX7_expect_77 ?_
      refine lv_iload hx hb dX7_expect_80 (lv_at hl 0 rfl) ?_
      refine n_iconst hx hb dX7_expect_82 ?_
      refine n_iadd hx hb dX7_expect_83 ?_
      refine lv_iload hx hb dX7_expect_84 (lv_at hl 6 rfl) ?_
      refine n_iast hx hb hK hJ hP hS (80 * t + 4 * Ex t + 3) (by omega) f_Xs (by omega) (by omega) (by decide) dX7_expect_86 (fun w11 H locs f_Xs hne12 hP hS => ?_)
      have f_y := (hne12 y (by omega)).trans f_y
      have f_Co := (hne12 (y + 1) (by omega)).trans f_Co
      have f_Tl := (hne12 (y + 9) (by omega)).trans f_Tl
      have f_Ex := (hne12 (y + 13) (by omega)).trans f_Ex
      have hfr : ∀ j, j ≠ (y + 13) → j ≠ (y + 17) → w11 j = w j := fun j a0 a1 => (hne12 j (by omega)).trans (hfr j a0 a1)
      refine lv_aload_n hx hb dX7_expect_87 rfl (lv_at hl 1 rfl) ?_
      refine n_get hx hb hts u_X7 hown hK hP (by omega) f_y rfl 13 (by decide) (nT_m wf_X7_47) rfl dX7_expect_88 ?_
      refine lv_iload_n hx hb dX7_expect_91 rfl (lv_at hl 2 rfl) ?_
      refine lv_dup2_11 hx hb dX7_expect_92 rfl rfl ?_
      refine n_iald hx hb hK hP t (by omega) f_Ex (by omega) (by omega) (by decide) dX7_expect_93 ?_
      have ho13 := hEx t (by omega)
      refine n_iconst hx hb dX7_expect_94 ?_
      refine n_iadd hx hb dX7_expect_95 ?_
      refine n_iast hx hb hK hJ hP hS t (by omega) f_Ex (by omega) (by omega) (by decide) dX7_expect_96 (fun w14 H locs f_Ex hne15 hP hS => ?_)
      have f_y := (hne15 y (by omega)).trans f_y
      have f_Co := (hne15 (y + 1) (by omega)).trans f_Co
      have f_Tl := (hne15 (y + 9) (by omega)).trans f_Tl
      have f_Xs := (hne15 (y + 17) (by omega)).trans f_Xs
      have hfr : ∀ j, j ≠ (y + 13) → j ≠ (y + 17) → w14 j = w j := fun j a0 a1 => (hne15 j (by omega)).trans (hfr j a0 a1)
      refine lv_aload_n hx hb dX7_expect_97 rfl (lv_at hl 1 rfl) ?_
      refine n_get hx hb hts u_X7 hown hK hP (by omega) f_y rfl 13 (by decide) (nT_m wf_X7_47) rfl dX7_expect_98 ?_
      refine lv_iload_n hx hb dX7_expect_101 rfl (lv_at hl 2 rfl) ?_
      refine n_iald hx hb hK hP t (by omega) f_Ex (by omega) (by omega) (by decide) dX7_expect_102 ?_
      have ho16 := hEx t (by omega)
      refine n_iretP hQ hx hb hr hlocks hP hS dX7_expect_103 ?_
      exact ⟨hfr, by rw [va_up_self]; omega, f_Ex.trans (congrArg (aI G 16) (upZ Ex t (Ex t + 1) _ (by omega))), f_Xs.trans (congrArg (aI G 1280) (by rw [upN Xs, upN, upN, upN]))⟩
    · skip
      omega
set_option maxHeartbeats 4000000 in
set_option maxRecDepth 100000 in
theorem c_X7_forget_no {l : Launch} {G : nG} {N : Nat} {ad : Nat → Nat} {w : Nat → va_E} {sz : Nat} (y : Nat) (Tl : Nat → Nat) (tz : Int) (hN : y + 26 < N) (hTl : ∀ k, k < 1 → Tl k ≤ 4) (htz : -2147483648 ≤ tz ∧ tz < 2147483648) (hno : ¬ (0 ≤ tz ∧ tz < (Tl 0 : Int))) (f_y : w y = .inr (7, [.int (iI 0), .ref (ad (y + 1)), .ref (ad (y + 2)), .ref (ad (y + 3)), .ref (ad (y + 4)), .ref (ad (y + 5)), .ref (ad (y + 6)), .ref (ad (y + 7)), .ref (ad (y + 8)), .ref (ad (y + 9)), .ref (ad (y + 10)), .ref (ad (y + 11)), .ref (ad (y + 12)), .ref (ad (y + 13)), .ref (ad (y + 14)), .ref (ad (y + 15)), .ref (ad (y + 16)), .ref (ad (y + 17)), .ref (ad (y + 18)), .ref (ad (y + 19)), .ref (ad (y + 20)), .ref (ad (y + 21)), .ref (ad (y + 22)), .ref (ad (y + 23)), .ref (ad (y + 24)), .ref (ad (y + 25)), .ref (ad (y + 26))])) (f_Tl : w (y + 9) = aI G 4 (fun q => (Tl q : Int))) : Met l yX7_forget wsX7_forget ({ frames := 2, cells := 0, slots := 0, locals := 43 }) (va_Pc [.ref (ad y), .int (iI tz)] (nB G N ad w sz)) (nPi G N ad sz (fun r u => (∀ j, u j = w j) ∧ (r = 0))) 0 0 (nA N ad sz) := by
  refine n_ent (cc := cX7_forget) (maxL := 2) (ret := (some .boolean)) (by decide) rfl (Nat.le_of_ble_eq_true rfl) ?_
  intro p e s m below meth cd hx hb hr hml hlocks hts hown hnm hsz hP hK hI Q hQ ls hl
  have hown : s.vm.findClass RX7 = some m.cls := hown
  subst hsz
  have hJ := hI.J s.heap.size
  have hS : va_S (nA N ad s.heap.size) s.heap s.heap [] := va_S.rf
  have hfr : ∀ j, w j = w j := fun _  => rfl
  have hl : lv_has ls 2 [(0, .ref (ad y)), (1, .int (iI tz))] := hl
  refine lv_aload_n hx hb dX7_forget_0 rfl (lv_at hl 0 rfl) ?_
  refine n_iconst hx hb dX7_forget_1 ?_
  refine n_put hx hb hts u_X7 tyX7 tyX7_ok nmX7 hown hK hJ hP hS (by omega) f_y rfl 0 (by decide) (nT_m wf_X7_90) rfl rfl rfl (Nat.le_of_ble_eq_true rfl) dX7_forget_2 (fun w1 H locs f9 hne9 hP hS => ?_)
  have ew9 : w = w1 := funext fun j9 => (Decidable.em (j9 = y)).elim (fun h9 => by rw [h9, f9]; exact f_y) (fun h9 => (hne9 j9 h9).symm)
  subst ew9
  refine lv_aload_n hx hb dX7_forget_5 rfl (lv_at hl 0 rfl) ?_
  refine lv_iload_n hx hb dX7_forget_6 rfl (lv_at hl 1 rfl) ?_
  refine n_rdF (va_runV (As := [.int (iI tz)]) (rest := []) ⟨hx, hb, hml, hown, hts⟩ (c_X7_isTill _ Tl tz (by omega) hTl (by omega) f_y f_Tl) (cwV 1 hts (nT_V wl_X7_138 wi_X7_isTill ws_X7_isTill wn_X7 wc_X7_isTill) rfl rfl rfl (by decide +kernel) ⟨Nat.le_of_ble_eq_true rfl, Nat.le_of_ble_eq_true rfl⟩) (nB.preV hK hI hP (by omega) f_y rfl rfl) rfl rfl hl.1 rfl (lv_room (Nat.le_of_ble_eq_true rfl)) dX7_forget_7 ⟨Nat.zero_le _, Nat.zero_le _⟩) ?_
  refine n_if_neB (tgt := 15) hx hb dX7_forget_10 (by decide) (fun hc10 => ?_) (fun hc10 => ?_)
  · skip
    exact absurd hc10 (by omega)
  · skip
    refine n_iconst hx hb dX7_forget_13 ?_
    refine n_zretP (t := False) hQ hx hb hr hlocks rfl hP hS dX7_forget_14 ?_
    exact ⟨hfr, rfl⟩
set_option maxHeartbeats 4000000 in
set_option maxRecDepth 100000 in
theorem c_X7_forget_yes {l : Launch} {G : nG} {N : Nat} {ad : Nat → Nat} {w : Nat → va_E} {sz : Nat} (y : Nat) (Tl Ex : Nat → Nat) (t : Nat) (hN : y + 26 < N) (hTl : ∀ k, k < 1 → Tl k ≤ 4) (hEx : ∀ k, k < 4 → Ex k ≤ 20) (ht : t < Tl 0) (f_y : w y = .inr (7, [.int (iI 0), .ref (ad (y + 1)), .ref (ad (y + 2)), .ref (ad (y + 3)), .ref (ad (y + 4)), .ref (ad (y + 5)), .ref (ad (y + 6)), .ref (ad (y + 7)), .ref (ad (y + 8)), .ref (ad (y + 9)), .ref (ad (y + 10)), .ref (ad (y + 11)), .ref (ad (y + 12)), .ref (ad (y + 13)), .ref (ad (y + 14)), .ref (ad (y + 15)), .ref (ad (y + 16)), .ref (ad (y + 17)), .ref (ad (y + 18)), .ref (ad (y + 19)), .ref (ad (y + 20)), .ref (ad (y + 21)), .ref (ad (y + 22)), .ref (ad (y + 23)), .ref (ad (y + 24)), .ref (ad (y + 25)), .ref (ad (y + 26))])) (f_Tl : w (y + 9) = aI G 4 (fun q => (Tl q : Int))) (f_Ex : w (y + 13) = aI G 16 (fun q => (Ex q : Int))) : Met l yX7_forget wsX7_forget ({ frames := 2, cells := 0, slots := 0, locals := 43 }) (va_Pc [.ref (ad y), .int (iI ((t : Nat) : Int))] (nB G N ad w sz)) (nPi G N ad sz (fun r u => (∀ j, j ≠ (y + 13) → u j = w j) ∧ (r = 1) ∧ (u (y + 13) = aI G 16 (fun q => ((va_up Ex t 0 q : Nat) : Int))))) 0 0 (nA N ad sz) := by
  refine n_ent (cc := cX7_forget) (maxL := 2) (ret := (some .boolean)) (by decide) rfl (Nat.le_of_ble_eq_true rfl) ?_
  intro p e s m below meth cd hx hb hr hml hlocks hts hown hnm hsz hP hK hI Q hQ ls hl
  have hown : s.vm.findClass RX7 = some m.cls := hown
  subst hsz
  have hJ := hI.J s.heap.size
  have hS : va_S (nA N ad s.heap.size) s.heap s.heap [] := va_S.rf
  have hfr : ∀ j, j ≠ (y + 13) → w j = w j := fun _ _ => rfl
  have hl : lv_has ls 2 [(0, .ref (ad y)), (1, .int (iI ((t : Nat) : Int)))] := hl
  have ht0 := hTl 0 (by omega)
  refine lv_aload_n hx hb dX7_forget_0 rfl (lv_at hl 0 rfl) ?_
  refine n_iconst hx hb dX7_forget_1 ?_
  refine n_put hx hb hts u_X7 tyX7 tyX7_ok nmX7 hown hK hJ hP hS (by omega) f_y rfl 0 (by decide) (nT_m wf_X7_90) rfl rfl rfl (Nat.le_of_ble_eq_true rfl) dX7_forget_2 (fun w1 H locs f9 hne9 hP hS => ?_)
  have ew9 : w = w1 := funext fun j9 => (Decidable.em (j9 = y)).elim (fun h9 => by rw [h9, f9]; exact f_y) (fun h9 => (hne9 j9 h9).symm)
  subst ew9
  refine lv_aload_n hx hb dX7_forget_5 rfl (lv_at hl 0 rfl) ?_
  refine lv_iload_n hx hb dX7_forget_6 rfl (lv_at hl 1 rfl) ?_
  refine n_rdF (va_runV (As := [.int (iI ((t : Nat) : Int))]) (rest := []) ⟨hx, hb, hml, hown, hts⟩ (c_X7_isTill _ Tl ((t : Nat) : Int) (by omega) hTl (by omega) f_y f_Tl) (cwV 1 hts (nT_V wl_X7_138 wi_X7_isTill ws_X7_isTill wn_X7 wc_X7_isTill) rfl rfl rfl (by decide +kernel) ⟨Nat.le_of_ble_eq_true rfl, Nat.le_of_ble_eq_true rfl⟩) (nB.preV hK hI hP (by omega) f_y rfl rfl) rfl rfl hl.1 rfl (lv_room (Nat.le_of_ble_eq_true rfl)) dX7_forget_7 ⟨Nat.zero_le _, Nat.zero_le _⟩) ?_
  refine n_if_neB (tgt := 15) hx hb dX7_forget_10 (by decide) (fun hc10 => ?_) (fun hc10 => ?_)
  · skip
    refine lv_aload_n hx hb dX7_forget_15 rfl (lv_at hl 0 rfl) ?_
    refine n_get hx hb hts u_X7 hown hK hP (by omega) f_y rfl 13 (by decide) (nT_m wf_X7_47) rfl dX7_forget_16 ?_
    refine lv_iload_n hx hb dX7_forget_19 rfl (lv_at hl 1 rfl) ?_
    refine n_iconst hx hb dX7_forget_20 ?_
    refine n_iast hx hb hK hJ hP hS t (by omega) f_Ex (by omega) (by omega) (by decide) dX7_forget_21 (fun w3 H locs f_Ex hne4 hP hS => ?_)
    have f_y := (hne4 y (by omega)).trans f_y
    have f_Tl := (hne4 (y + 9) (by omega)).trans f_Tl
    have hfr : ∀ j, j ≠ (y + 13) → w3 j = w j := fun j a0 => (hne4 j (by omega)).trans (hfr j a0)
    refine n_iconst hx hb dX7_forget_22 ?_
    refine n_zretP (t := True) hQ hx hb hr hlocks rfl hP hS dX7_forget_23 ?_
    exact ⟨hfr, rfl, f_Ex.trans (congrArg (aI G 16) (upZ Ex t 0 _ (by omega)))⟩
  · skip
    exact absurd hc10 (by omega)
set_option maxHeartbeats 4000000 in
set_option maxRecDepth 100000 in
theorem c_X7_over {l : Launch} {G : nG} {N : Nat} {ad : Nat → Nat} {w : Nat → va_E} {sz : Nat} (y : Nat) (Va Ra : Nat → Nat) (a sy kk c : Nat) (hN : y + 26 < N) (hVa : ∀ k, k < 16 → Va k ≤ 1000) (hRa : ∀ k, k < 2 → 1 ≤ Ra k ∧ Ra k ≤ 100) (hs : sy < 2) (hk : kk < 8) (f_y : w y = .inr (7, [.int (iI 0), .ref (ad (y + 1)), .ref (ad (y + 2)), .ref (ad (y + 3)), .ref (ad (y + 4)), .ref (ad (y + 5)), .ref (ad (y + 6)), .ref (ad (y + 7)), .ref (ad (y + 8)), .ref (ad (y + 9)), .ref (ad (y + 10)), .ref (ad (y + 11)), .ref (ad (y + 12)), .ref (ad (y + 13)), .ref (ad (y + 14)), .ref (ad (y + 15)), .ref (ad (y + 16)), .ref (ad (y + 17)), .ref (ad (y + 18)), .ref (ad (y + 19)), .ref (ad (y + 20)), .ref (ad (y + 21)), .ref (ad (y + 22)), .ref (ad (y + 23)), .ref (ad (y + 24)), .ref (ad (y + 25)), .ref (ad (y + 26))])) (f_Va : w (y + 2) = aI G 64 (fun q => (Va q : Int))) (f_Ra : w (y + 3) = aI G 8 (fun q => (Ra q : Int))) : Met l yX7_over wsX7_over ({ frames := 0, cells := 0, slots := 0, locals := 0 }) (va_Pc [.ref (ad y), .int (iI ((a : Nat) : Int)), .int (iI ((sy : Nat) : Int)), .int (iI ((kk : Nat) : Int)), .int (iI ((c : Nat) : Int))] (nB G N ad w sz)) (nRd (.int (iI (((c : Nat) : Int) * (Va (8 * sy + kk) : Int) * ((if sy = 0 then Ra 0 else Ra 1 : Nat) : Int) - ((a : Nat) : Int) * ((Ra 1 : Nat) : Int))))) 0 0 (fun _ => False) := by
  refine n_ent (cc := cX7_over) (maxL := 5) (ret := (some .int)) (by decide) rfl (Nat.le_of_ble_eq_true rfl) ?_
  intro p e s m below meth cd hx hb hr hml hlocks hts hown hnm hsz hP hK hI Q hQ ls hl
  have hown : s.vm.findClass RX7 = some m.cls := hown
  have hl : lv_has ls 5 [(0, .ref (ad y)), (1, .int (iI ((a : Nat) : Int))), (2, .int (iI ((sy : Nat) : Int))), (3, .int (iI ((kk : Nat) : Int))), (4, .int (iI ((c : Nat) : Int)))] := hl
  refine lv_iload hx hb dX7_over_0 (lv_at hl 4 rfl) ?_
  refine lv_aload_n hx hb dX7_over_2 rfl (lv_at hl 0 rfl) ?_
  refine n_get hx hb hts u_X7 hown hK hP (by omega) f_y rfl 2 (by decide) (nT_m wf_X7_13) rfl dX7_over_3 ?_
  refine n_bipush hx hb dX7_over_6 (by decide) ?_
  refine lv_iload_n hx hb dX7_over_8 rfl (lv_at hl 2 rfl) ?_
  refine n_imul hx hb dX7_over_9 ?_
  refine lv_iload_n hx hb dX7_over_10 rfl (lv_at hl 3 rfl) ?_
  refine n_iadd hx hb dX7_over_11 ?_
  refine n_iald hx hb hK hP ((8 * sy) + kk) (by omega) f_Va (by omega) (by omega) (by decide) dX7_over_12 ?_
  have ho1 := hVa ((8 * sy) + kk) (by omega)
  refine n_imul hx hb dX7_over_13 ?_
  refine lv_aload_n hx hb dX7_over_14 rfl (lv_at hl 0 rfl) ?_
  refine n_get hx hb hts u_X7 hown hK hP (by omega) f_y rfl 3 (by decide) (nT_m wf_X7_16) rfl dX7_over_15 ?_
  refine lv_iload_n hx hb dX7_over_18 rfl (lv_at hl 2 rfl) ?_
  refine n_iald hx hb hK hP sy (by omega) f_Ra (by omega) (by omega) (by decide) dX7_over_19 ?_
  have ho2 := hRa sy (by omega)
  refine n_imul hx hb dX7_over_20 ?_
  refine lv_iload_n hx hb dX7_over_21 rfl (lv_at hl 1 rfl) ?_
  refine lv_aload_n hx hb dX7_over_22 rfl (lv_at hl 0 rfl) ?_
  refine n_get hx hb hts u_X7 hown hK hP (by omega) f_y rfl 3 (by decide) (nT_m wf_X7_16) rfl dX7_over_23 ?_
  refine n_iconst hx hb dX7_over_26 ?_
  refine n_iald hx hb hK hP 1 (by omega) f_Ra (by omega) (by omega) (by decide) dX7_over_27 ?_
  have ho3 := hRa 1 (by omega)
  refine n_imul hx hb dX7_over_28 ?_
  refine n_isub hx hb dX7_over_29 ?_
  exact n_iretR hQ hx hb hr hlocks (by rw [show Ra sy = if sy = 0 then Ra 0 else Ra 1 from by rcases (show sy = 0 ∨ sy = 1 by omega) with rfl | rfl <;> rfl]) dX7_over_30
set_option maxHeartbeats 4000000 in
set_option maxRecDepth 100000 in
theorem c_X7_noBounds {l : Launch} {G : nG} {N : Nat} {ad : Nat → Nat} {w : Nat → va_E} {sz : Nat} (y : Nat) (bd : Nat → Nat) (hN : y + 26 < N) (f_y : w y = .inr (7, [.int (iI 0), .ref (ad (y + 1)), .ref (ad (y + 2)), .ref (ad (y + 3)), .ref (ad (y + 4)), .ref (ad (y + 5)), .ref (ad (y + 6)), .ref (ad (y + 7)), .ref (ad (y + 8)), .ref (ad (y + 9)), .ref (ad (y + 10)), .ref (ad (y + 11)), .ref (ad (y + 12)), .ref (ad (y + 13)), .ref (ad (y + 14)), .ref (ad (y + 15)), .ref (ad (y + 16)), .ref (ad (y + 17)), .ref (ad (y + 18)), .ref (ad (y + 19)), .ref (ad (y + 20)), .ref (ad (y + 21)), .ref (ad (y + 22)), .ref (ad (y + 23)), .ref (ad (y + 24)), .ref (ad (y + 25)), .ref (ad (y + 26))])) (f_bd : w (y + 22) = aI G 8 (fun q => (bd q : Int))) : Met l yX7_noBounds wsX7_noBounds ({ frames := 0, cells := 0, slots := 0, locals := 0 }) (va_Pc [.ref (ad y)] (nB G N ad w sz)) (nPv G N ad sz (fun u => (∀ j, j ≠ (y + 22) → u j = w j) ∧ (u (y + 22) = aI G 8 (fun q => ((nbF bd 8 q : Nat) : Int))))) 0 0 (nA N ad sz) := by
  refine n_ent (cc := cX7_noBounds) (maxL := 2) (ret := (none : Option Jvm.ClassFile.FieldType)) (by decide) rfl (Nat.le_of_ble_eq_true rfl) ?_
  intro p e s m below meth cd hx hb hr hml hlocks hts hown hnm hsz hP hK hI Q hQ ls hl
  have hown : s.vm.findClass RX7 = some m.cls := hown
  subst hsz
  have hJ := hI.J s.heap.size
  have hS : va_S (nA N ad s.heap.size) s.heap s.heap [] := va_S.rf
  have hfr : ∀ j, j ≠ (y + 22) → w j = w j := fun _ _ => rfl
  have hl : lv_has ls 2 [(0, .ref (ad y))] := hl
  refine n_iconst hx hb dX7_noBounds_0 ?_
  refine lv_istore_n (lv' := [(1, .int (iI 0)), (0, .ref (ad y))]) hx hb dX7_noBounds_1 rfl hl (by decide) rfl (fun ls hl => ?_)
  have lp1 : ∀ (fu : Nat), ∀ (q : Nat), ∀ (w2 : Nat → va_E) (H : Heap) (locs : List Loc), ∀ (ls : Array Slot), 8 - q < fu → q ≤ 8 → (∀ j, j ≠ (y + 22) → w2 j = w j) → w2 y = .inr (7, [.int (iI 0), .ref (ad (y + 1)), .ref (ad (y + 2)), .ref (ad (y + 3)), .ref (ad (y + 4)), .ref (ad (y + 5)), .ref (ad (y + 6)), .ref (ad (y + 7)), .ref (ad (y + 8)), .ref (ad (y + 9)), .ref (ad (y + 10)), .ref (ad (y + 11)), .ref (ad (y + 12)), .ref (ad (y + 13)), .ref (ad (y + 14)), .ref (ad (y + 15)), .ref (ad (y + 16)), .ref (ad (y + 17)), .ref (ad (y + 18)), .ref (ad (y + 19)), .ref (ad (y + 20)), .ref (ad (y + 21)), .ref (ad (y + 22)), .ref (ad (y + 23)), .ref (ad (y + 24)), .ref (ad (y + 25)), .ref (ad (y + 26))]) → w2 (y + 22) = aI G 8 (fun k => ((nbF bd q k : Nat) : Int)) → va_P G.1 vwCl (nL N ad w2) H → va_S (nA N ad s.heap.size) s.heap H locs → lv_has ls 2 [(0, .ref (ad y)), (1, .int (iI ((q : Nat) : Int)))] → W p l e ({ frames := 0, cells := 0, slots := 0, locals := 0 } : Room) s m ([.ref (ad y)] : List Value).toArray below meth cd H locs 0 0 Q (F0 m 2 ls []) := by
    intro fu
    induction fu with
    | zero =>
      intro q w2 H locs ls hfu hq hfr f_y f_bd hP hS hl
      exact absurd hfu (Nat.not_lt_zero _)
    | succ fu ih3 =>
      intro q w2 H locs ls hfu hq hfr f_y f_bd hP hS hl
      refine lv_iload_n hx hb dX7_noBounds_2 rfl (lv_at hl 1 rfl) ?_
      refine n_bipush hx hb dX7_noBounds_3 (by decide) ?_
      refine n_icmp_ge (tgt := 23) hx hb dX7_noBounds_5 (by decide) (by omega) (by omega) (fun hc5 => ?_) (fun hc5 => ?_)
      · skip
        refine n_vretP hQ hx hb hr hlocks hP hS dX7_noBounds_23 ?_
        obtain rfl : q = 8 := by omega
        exact ⟨hfr, f_bd⟩
      · skip
        refine lv_aload_n hx hb dX7_noBounds_8 rfl (lv_at hl 0 rfl) ?_
        refine n_get hx hb hts u_X7 hown hK hP (by omega) f_y rfl 22 (by decide) (nT_m wf_X7_74) rfl dX7_noBounds_9 ?_
        refine lv_iload_n hx hb dX7_noBounds_12 rfl (lv_at hl 1 rfl) ?_
        refine n_sipush hx hb dX7_noBounds_13 (by decide) ?_
        refine n_iast hx hb hK hJ hP hS q (by omega) f_bd (by omega) (by omega) (by decide) dX7_noBounds_16 (fun w4 H locs f_bd hne5 hP hS => ?_)
        have f_y := (hne5 y (by omega)).trans f_y
        have hfr : ∀ j, j ≠ (y + 22) → w4 j = w j := fun j a0 => (hne5 j (by omega)).trans (hfr j a0)
        refine lv_iinc (v := iI (((q : Nat) : Int) + 1)) (lv' := [(1, .int (iI (((q : Nat) : Int) + 1))), (0, .ref (ad y))]) hx hb dX7_noBounds_17 hl (k := 1) rfl (by first | exact iI_add _ _ | exact (iI_add _ _).trans (congrArg iI (by omega))) (by decide) rfl (fun ls hl => ?_)
        refine lv_goto (tgt := 2) hx hb dX7_noBounds_20 (by decide) ?_
        exact ih3 (q + 1) _ _ _ _ (by omega) (by omega) hfr f_y (f_bd.trans (congrArg (aI G 8) (nbF_s bd q))) hP hS (by first | exact lv_sub hl [1, 0] rfl | exact lv_cast (lv_sub (l' := [(0, .ref (ad y)), (1, .int (iI (((q : Nat) : Int) + 1)))]) hl [1, 0] rfl) (lc_s (lc_i (show ((((q : Nat) : Int) + 1) : Int) = (((q + 1) : Nat) : Int) by omega) rfl)))
  exact lp1 (8 - 0 + 1) 0 _ _ _ _ (Nat.lt_succ_self _) (by omega) hfr f_y (f_bd.trans (by rw [nbF_0])) hP hS (by first | exact lv_sub hl [1, 0] rfl | exact lv_cast (lv_sub (l' := [(0, .ref (ad y)), (1, .int (iI 0))]) hl [1, 0] rfl) (lc_s (lc_i (show (0 : Int) = ((0 : Nat) : Int) by omega) rfl)))
set_option maxHeartbeats 4000000 in
set_option maxRecDepth 100000 in
theorem c_X7_move {l : Launch} {G : nG} {N : Nat} {ad : Nat → Nat} {w : Nat → va_E} {sz : Nat} (ia sz0 n f0 t0 : Nat) (F : Nat → Nat) (hN : ia < N) (hn : n * f0 + n ≤ sz0 ∧ n * t0 + n ≤ sz0) (hft : n * f0 + n ≤ n * t0 ∨ n * t0 + n ≤ n * f0) (hsz : sz0 < 2000000) (f_a : w ia = aI G sz0 (fun q => (F q : Int))) : Met l yX7_move wsX7_move ({ frames := 0, cells := 0, slots := 0, locals := 0 }) (va_Pc [.ref (ad ia), .int (iI ((n : Nat) : Int)), .int (iI ((f0 : Nat) : Int)), .int (iI ((t0 : Nat) : Int))] (nB G N ad w sz)) (nPv G N ad sz (fun u => (∀ j, j ≠ ia → u j = w j) ∧ (u ia = aI G sz0 (fun q => ((mvF F n f0 t0 n q : Nat) : Int))))) 0 0 (nA N ad sz) := by
  refine n_ent (cc := cX7_move) (maxL := 5) (ret := (none : Option Jvm.ClassFile.FieldType)) (by decide) rfl (Nat.le_of_ble_eq_true rfl) ?_
  intro p e s m below meth cd hx hb hr hml hlocks hts hown hnm hsz hP hK hI Q hQ ls hl
  have hown : s.vm.findClass RX7 = some m.cls := hown
  subst hsz
  have hJ := hI.J s.heap.size
  have hS : va_S (nA N ad s.heap.size) s.heap s.heap [] := va_S.rf
  have hfr : ∀ j, j ≠ ia → w j = w j := fun _ _ => rfl
  have hl : lv_has ls 5 [(0, .ref (ad ia)), (1, .int (iI ((n : Nat) : Int))), (2, .int (iI ((f0 : Nat) : Int))), (3, .int (iI ((t0 : Nat) : Int)))] := hl
  refine n_iconst hx hb dX7_move_0 ?_
  refine lv_istore (lv' := [(4, .int (iI 0)), (0, .ref (ad ia)), (1, .int (iI ((n : Nat) : Int))), (2, .int (iI ((f0 : Nat) : Int))), (3, .int (iI ((t0 : Nat) : Int)))]) hx hb dX7_move_1 hl (by decide) rfl (fun ls hl => ?_)
  have lp1 : ∀ (fu : Nat), ∀ (q : Nat), ∀ (w2 : Nat → va_E) (H : Heap) (locs : List Loc), ∀ (ls : Array Slot), n - q < fu → q ≤ n → (∀ j, j ≠ ia → w2 j = w j) → w2 ia = aI G sz0 (fun k => ((mvF F n f0 t0 q k : Nat) : Int)) → va_P G.1 vwCl (nL N ad w2) H → va_S (nA N ad s.heap.size) s.heap H locs → lv_has ls 5 [(0, .ref (ad ia)), (1, .int (iI ((n : Nat) : Int))), (2, .int (iI ((f0 : Nat) : Int))), (3, .int (iI ((t0 : Nat) : Int))), (4, .int (iI ((q : Nat) : Int)))] → W p l e ({ frames := 0, cells := 0, slots := 0, locals := 0 } : Room) s m ([.ref (ad ia), .int (iI ((n : Nat) : Int)), .int (iI ((f0 : Nat) : Int)), .int (iI ((t0 : Nat) : Int))] : List Value).toArray below meth cd H locs 0 0 Q (F0 m 3 ls []) := by
    intro fu
    induction fu with
    | zero =>
      intro q w2 H locs ls hfu hq hfr f_a hP hS hl
      exact absurd hfu (Nat.not_lt_zero _)
    | succ fu ih3 =>
      intro q w2 H locs ls hfu hq hfr f_a hP hS hl
      refine lv_iload hx hb dX7_move_3 (lv_at hl 4 rfl) ?_
      refine lv_iload_n hx hb dX7_move_5 rfl (lv_at hl 1 rfl) ?_
      refine n_icmp_ge (tgt := 31) hx hb dX7_move_6 (by decide) (by omega) (by omega) (fun hc6 => ?_) (fun hc6 => ?_)
      · skip
        refine n_vretP hQ hx hb hr hlocks hP hS dX7_move_31 ?_
        obtain rfl : q = n := by omega
        exact ⟨hfr, f_a⟩
      · skip
        refine lv_aload_n hx hb dX7_move_9 rfl (lv_at hl 0 rfl) ?_
        refine lv_iload_n hx hb dX7_move_10 rfl (lv_at hl 1 rfl) ?_
        refine lv_iload_n hx hb dX7_move_11 rfl (lv_at hl 3 rfl) ?_
        refine n_imul hx hb dX7_move_12 ?_
        refine lv_iload hx hb dX7_move_13 (lv_at hl 4 rfl) ?_
        refine n_iadd hx hb dX7_move_15 ?_
        refine lv_aload_n hx hb dX7_move_16 rfl (lv_at hl 0 rfl) ?_
        refine lv_iload_n hx hb dX7_move_17 rfl (lv_at hl 1 rfl) ?_
        refine lv_iload_n hx hb dX7_move_18 rfl (lv_at hl 2 rfl) ?_
        refine n_imul hx hb dX7_move_19 ?_
        refine lv_iload hx hb dX7_move_20 (lv_at hl 4 rfl) ?_
        refine n_iadd hx hb dX7_move_22 ?_
        refine n_iald hx hb hK hP ((n * f0) + q) (by omega) f_a (by omega) (by omega) (by omega) dX7_move_23 ?_
        refine n_iast hx hb hK hJ hP hS ((n * t0) + q) (by omega) f_a (by omega) (by omega) (by omega) dX7_move_24 (fun w4 H locs f_a hne5 hP hS => ?_)
        have hfr : ∀ j, j ≠ ia → w4 j = w j := fun j a0 => (hne5 j (by omega)).trans (hfr j a0)
        refine lv_iinc (v := iI (((q : Nat) : Int) + 1)) (lv' := [(4, .int (iI (((q : Nat) : Int) + 1))), (0, .ref (ad ia)), (1, .int (iI ((n : Nat) : Int))), (2, .int (iI ((f0 : Nat) : Int))), (3, .int (iI ((t0 : Nat) : Int)))]) hx hb dX7_move_25 hl (k := 4) rfl (by first | exact iI_add _ _ | exact (iI_add _ _).trans (congrArg iI (by omega))) (by decide) rfl (fun ls hl => ?_)
        refine lv_goto (tgt := 3) hx hb dX7_move_28 (by decide) ?_
        exact ih3 (q + 1) _ _ _ _ (by omega) (by omega) hfr (f_a.trans (congrArg (aI G sz0) (by rw [mvF_at (by omega) hft]; exact mvF_s F n f0 t0 q))) hP hS (by first | exact lv_sub hl [1, 2, 3, 4, 0] rfl | exact lv_cast (lv_sub (l' := [(0, .ref (ad ia)), (1, .int (iI ((n : Nat) : Int))), (2, .int (iI ((f0 : Nat) : Int))), (3, .int (iI ((t0 : Nat) : Int))), (4, .int (iI (((q : Nat) : Int) + 1)))]) hl [1, 2, 3, 4, 0] rfl) (lc_s (lc_s (lc_s (lc_s (lc_i (show ((((q : Nat) : Int) + 1) : Int) = (((q + 1) : Nat) : Int) by omega) rfl))))))
  exact lp1 (n - 0 + 1) 0 _ _ _ _ (Nat.lt_succ_self _) (by omega) hfr (f_a.trans (by rw [mvF_0])) hP hS (by first | exact lv_sub hl [1, 2, 3, 4, 0] rfl | exact lv_cast (lv_sub (l' := [(0, .ref (ad ia)), (1, .int (iI ((n : Nat) : Int))), (2, .int (iI ((f0 : Nat) : Int))), (3, .int (iI ((t0 : Nat) : Int))), (4, .int (iI 0))]) hl [1, 2, 3, 4, 0] rfl) (lc_s (lc_s (lc_s (lc_s (lc_i (show (0 : Int) = ((0 : Nat) : Int) by omega) rfl))))))
set_option maxHeartbeats 4000000 in
set_option maxRecDepth 100000 in
theorem c_X7_copy {l : Launch} {G : nG} {N : Nat} {ad : Nat → Nat} {w : Nat → va_E} {sz : Nat} (y : Nat) (Co Va Ra Sl Go Pr Ti St Tl Ts Sc Pd Ex Ha Ga Dr Xs : Nat → Nat) (f0 t0 : Nat) (hN : y + 26 < N) (hft : f0 < 4 ∧ t0 < 4 ∧ f0 ≠ t0) (f_y : w y = .inr (7, [.int (iI 0), .ref (ad (y + 1)), .ref (ad (y + 2)), .ref (ad (y + 3)), .ref (ad (y + 4)), .ref (ad (y + 5)), .ref (ad (y + 6)), .ref (ad (y + 7)), .ref (ad (y + 8)), .ref (ad (y + 9)), .ref (ad (y + 10)), .ref (ad (y + 11)), .ref (ad (y + 12)), .ref (ad (y + 13)), .ref (ad (y + 14)), .ref (ad (y + 15)), .ref (ad (y + 16)), .ref (ad (y + 17)), .ref (ad (y + 18)), .ref (ad (y + 19)), .ref (ad (y + 20)), .ref (ad (y + 21)), .ref (ad (y + 22)), .ref (ad (y + 23)), .ref (ad (y + 24)), .ref (ad (y + 25)), .ref (ad (y + 26))])) (f_Co : w (y + 1) = aI G 8 (fun q => (Co q : Int))) (f_Va : w (y + 2) = aI G 64 (fun q => (Va q : Int))) (f_Ra : w (y + 3) = aI G 8 (fun q => (Ra q : Int))) (f_Sl : w (y + 4) = aI G 4 (fun q => (Sl q : Int))) (f_Go : w (y + 5) = aI G 4 (fun q => (Go q : Int))) (f_Pr : w (y + 6) = aI G 56 (fun q => (Pr q : Int))) (f_Ti : w (y + 7) = aI G 56 (fun q => (Ti q : Int))) (f_St : w (y + 8) = aI G 4 (fun q => (St q : Int))) (f_Tl : w (y + 9) = aI G 4 (fun q => (Tl q : Int))) (f_Ts : w (y + 10) = aI G 16 (fun q => (Ts q : Int))) (f_Sc : w (y + 11) = aJ G 16 (fun q => (Sc q : Int))) (f_Pd : w (y + 12) = aJ G 16 (fun q => (Pd q : Int))) (f_Ex : w (y + 13) = aI G 16 (fun q => (Ex q : Int))) (f_Ha : w (y + 14) = aI G 256 (fun q => (Ha q : Int))) (f_Ga : w (y + 15) = aI G 128 (fun q => (Ga q : Int))) (f_Dr : w (y + 16) = aI G 32 (fun q => (Dr q : Int))) (f_Xs : w (y + 17) = aI G 1280 (fun q => (Xs q : Int))) : Met l yX7_copy wsX7_copy ({ frames := 1, cells := 0, slots := 0, locals := 24 }) (va_Pc [.ref (ad y), .int (iI ((f0 : Nat) : Int)), .int (iI ((t0 : Nat) : Int))] (nB G N ad w sz)) (nPv G N ad sz (fun u => (∀ j, j ≠ (y + 1) → j ≠ (y + 2) → j ≠ (y + 3) → j ≠ (y + 4) → j ≠ (y + 5) → j ≠ (y + 6) → j ≠ (y + 7) → j ≠ (y + 8) → j ≠ (y + 9) → j ≠ (y + 10) → j ≠ (y + 11) → j ≠ (y + 12) → j ≠ (y + 13) → j ≠ (y + 14) → j ≠ (y + 15) → j ≠ (y + 16) → j ≠ (y + 17) → u j = w j) ∧ (u (y + 1) = aI G 8 (fun q => ((mvF Co 2 f0 t0 2 q : Nat) : Int))) ∧ (u (y + 2) = aI G 64 (fun q => ((mvF Va 16 f0 t0 16 q : Nat) : Int))) ∧ (u (y + 3) = aI G 8 (fun q => ((mvF Ra 2 f0 t0 2 q : Nat) : Int))) ∧ (u (y + 4) = aI G 4 (fun q => ((mvF Sl 1 f0 t0 1 q : Nat) : Int))) ∧ (u (y + 5) = aI G 4 (fun q => ((mvF Go 1 f0 t0 1 q : Nat) : Int))) ∧ (u (y + 6) = aI G 56 (fun q => ((mvF Pr 14 f0 t0 14 q : Nat) : Int))) ∧ (u (y + 7) = aI G 56 (fun q => ((mvF Ti 14 f0 t0 14 q : Nat) : Int))) ∧ (u (y + 8) = aI G 4 (fun q => ((mvF St 1 f0 t0 1 q : Nat) : Int))) ∧ (u (y + 9) = aI G 4 (fun q => ((mvF Tl 1 f0 t0 1 q : Nat) : Int))) ∧ (u (y + 10) = aI G 16 (fun q => ((mvF Ts 4 f0 t0 4 q : Nat) : Int))) ∧ (u (y + 11) = aJ G 16 (fun q => ((mvF Sc 4 f0 t0 4 q : Nat) : Int))) ∧ (u (y + 12) = aJ G 16 (fun q => ((mvF Pd 4 f0 t0 4 q : Nat) : Int))) ∧ (u (y + 13) = aI G 16 (fun q => ((mvF Ex 4 f0 t0 4 q : Nat) : Int))) ∧ (u (y + 14) = aI G 256 (fun q => ((mvF Ha 64 f0 t0 64 q : Nat) : Int))) ∧ (u (y + 15) = aI G 128 (fun q => ((mvF Ga 32 f0 t0 32 q : Nat) : Int))) ∧ (u (y + 16) = aI G 32 (fun q => ((mvF Dr 8 f0 t0 8 q : Nat) : Int))) ∧ (u (y + 17) = aI G 1280 (fun q => ((mvF Xs 320 f0 t0 320 q : Nat) : Int))))) 0 0 (nA N ad sz) := by
  refine n_ent (cc := cX7_copy) (maxL := 4) (ret := (none : Option Jvm.ClassFile.FieldType)) (by decide) rfl (Nat.le_of_ble_eq_true rfl) ?_
  intro p e s m below meth cd hx hb hr hml hlocks hts hown hnm hsz hP hK hI Q hQ ls hl
  have hown : s.vm.findClass RX7 = some m.cls := hown
  subst hsz
  have hJ := hI.J s.heap.size
  have hS : va_S (nA N ad s.heap.size) s.heap s.heap [] := va_S.rf
  have hfr : ∀ j, j ≠ (y + 1) → j ≠ (y + 2) → j ≠ (y + 3) → j ≠ (y + 4) → j ≠ (y + 5) → j ≠ (y + 6) → j ≠ (y + 7) → j ≠ (y + 8) → j ≠ (y + 9) → j ≠ (y + 10) → j ≠ (y + 11) → j ≠ (y + 12) → j ≠ (y + 13) → j ≠ (y + 14) → j ≠ (y + 15) → j ≠ (y + 16) → j ≠ (y + 17) → w j = w j := fun _ _ _ _ _ _ _ _ _ _ _ _ _ _ _ _ _ _ => rfl
  have hl : lv_has ls 4 [(0, .ref (ad y)), (1, .int (iI ((f0 : Nat) : Int))), (2, .int (iI ((t0 : Nat) : Int)))] := hl
  refine lv_aload_n hx hb dX7_copy_0 rfl (lv_at hl 0 rfl) ?_
  refine n_get hx hb hts u_X7 hown hK hP (by omega) f_y rfl 1 (by decide) (nT_m wf_X7_7) rfl dX7_copy_1 ?_
  refine n_iconst hx hb dX7_copy_4 ?_
  refine lv_iload_n hx hb dX7_copy_5 rfl (lv_at hl 1 rfl) ?_
  refine lv_iload_n hx hb dX7_copy_6 rfl (lv_at hl 2 rfl) ?_
  refine n_cV (va_runS (As := [.ref (ad (y + 1)), .int (iI 2), .int (iI ((f0 : Nat) : Int)), .int (iI ((t0 : Nat) : Int))]) (rest := []) ⟨hx, hb, hml, hown, hts⟩ (c_X7_move (y + 1) 8 2 f0 t0 Co (by omega) (by omega) (by omega) (by decide) f_Co) (va_cwS 4 hts (nT_S wl_X7_94 wt_X7_move wn_X7 wc_X7_move) rfl rfl rfl (by decide +kernel) ⟨Nat.le_of_ble_eq_true rfl, Nat.le_of_ble_eq_true rfl⟩) (nB.pre hK hI hP) rfl rfl hl.1 rfl (lv_room (Nat.le_of_ble_eq_true rfl)) dX7_copy_7 ⟨Nat.zero_le _, Nat.zero_le _⟩) hS (fun w1 H locs hq3 hP hS => ?_)
  obtain ⟨hne4, hp_Co⟩ := hq3
  have f_y := (hne4 y (by omega)).trans f_y
  have f_Va := (hne4 (y + 2) (by omega)).trans f_Va
  have f_Ra := (hne4 (y + 3) (by omega)).trans f_Ra
  have f_Sl := (hne4 (y + 4) (by omega)).trans f_Sl
  have f_Go := (hne4 (y + 5) (by omega)).trans f_Go
  have f_Pr := (hne4 (y + 6) (by omega)).trans f_Pr
  have f_Ti := (hne4 (y + 7) (by omega)).trans f_Ti
  have f_St := (hne4 (y + 8) (by omega)).trans f_St
  have f_Tl := (hne4 (y + 9) (by omega)).trans f_Tl
  have f_Ts := (hne4 (y + 10) (by omega)).trans f_Ts
  have f_Sc := (hne4 (y + 11) (by omega)).trans f_Sc
  have f_Pd := (hne4 (y + 12) (by omega)).trans f_Pd
  have f_Ex := (hne4 (y + 13) (by omega)).trans f_Ex
  have f_Ha := (hne4 (y + 14) (by omega)).trans f_Ha
  have f_Ga := (hne4 (y + 15) (by omega)).trans f_Ga
  have f_Dr := (hne4 (y + 16) (by omega)).trans f_Dr
  have f_Xs := (hne4 (y + 17) (by omega)).trans f_Xs
  have f_Co : w1 (y + 1) = aI G 8 (fun q => ((mvF Co 2 f0 t0 2 q : Nat) : Int)) := hp_Co
  have hfr : ∀ j, j ≠ (y + 1) → j ≠ (y + 2) → j ≠ (y + 3) → j ≠ (y + 4) → j ≠ (y + 5) → j ≠ (y + 6) → j ≠ (y + 7) → j ≠ (y + 8) → j ≠ (y + 9) → j ≠ (y + 10) → j ≠ (y + 11) → j ≠ (y + 12) → j ≠ (y + 13) → j ≠ (y + 14) → j ≠ (y + 15) → j ≠ (y + 16) → j ≠ (y + 17) → w1 j = w j := fun j a0 a1 a2 a3 a4 a5 a6 a7 a8 a9 a10 a11 a12 a13 a14 a15 a16 => (hne4 j (by omega)).trans (hfr j a0 a1 a2 a3 a4 a5 a6 a7 a8 a9 a10 a11 a12 a13 a14 a15 a16)
  refine lv_aload_n hx hb dX7_copy_10 rfl (lv_at hl 0 rfl) ?_
  refine n_get hx hb hts u_X7 hown hK hP (by omega) f_y rfl 2 (by decide) (nT_m wf_X7_13) rfl dX7_copy_11 ?_
  refine n_bipush hx hb dX7_copy_14 (by decide) ?_
  refine lv_iload_n hx hb dX7_copy_16 rfl (lv_at hl 1 rfl) ?_
  refine lv_iload_n hx hb dX7_copy_17 rfl (lv_at hl 2 rfl) ?_
  refine n_cV (va_runS (As := [.ref (ad (y + 2)), .int (iI 16), .int (iI ((f0 : Nat) : Int)), .int (iI ((t0 : Nat) : Int))]) (rest := []) ⟨hx, hb, hml, hown, hts⟩ (c_X7_move (y + 2) 64 16 f0 t0 Va (by omega) (by omega) (by omega) (by decide) f_Va) (va_cwS 4 hts (nT_S wl_X7_94 wt_X7_move wn_X7 wc_X7_move) rfl rfl rfl (by decide +kernel) ⟨Nat.le_of_ble_eq_true rfl, Nat.le_of_ble_eq_true rfl⟩) (nB.pre hK hI hP) rfl rfl hl.1 rfl (lv_room (Nat.le_of_ble_eq_true rfl)) dX7_copy_18 ⟨Nat.zero_le _, Nat.zero_le _⟩) hS (fun w5 H locs hq7 hP hS => ?_)
  obtain ⟨hne8, hp_Va⟩ := hq7
  have f_y := (hne8 y (by omega)).trans f_y
  have f_Co := (hne8 (y + 1) (by omega)).trans f_Co
  have f_Ra := (hne8 (y + 3) (by omega)).trans f_Ra
  have f_Sl := (hne8 (y + 4) (by omega)).trans f_Sl
  have f_Go := (hne8 (y + 5) (by omega)).trans f_Go
  have f_Pr := (hne8 (y + 6) (by omega)).trans f_Pr
  have f_Ti := (hne8 (y + 7) (by omega)).trans f_Ti
  have f_St := (hne8 (y + 8) (by omega)).trans f_St
  have f_Tl := (hne8 (y + 9) (by omega)).trans f_Tl
  have f_Ts := (hne8 (y + 10) (by omega)).trans f_Ts
  have f_Sc := (hne8 (y + 11) (by omega)).trans f_Sc
  have f_Pd := (hne8 (y + 12) (by omega)).trans f_Pd
  have f_Ex := (hne8 (y + 13) (by omega)).trans f_Ex
  have f_Ha := (hne8 (y + 14) (by omega)).trans f_Ha
  have f_Ga := (hne8 (y + 15) (by omega)).trans f_Ga
  have f_Dr := (hne8 (y + 16) (by omega)).trans f_Dr
  have f_Xs := (hne8 (y + 17) (by omega)).trans f_Xs
  have f_Va : w5 (y + 2) = aI G 64 (fun q => ((mvF Va 16 f0 t0 16 q : Nat) : Int)) := hp_Va
  have hfr : ∀ j, j ≠ (y + 1) → j ≠ (y + 2) → j ≠ (y + 3) → j ≠ (y + 4) → j ≠ (y + 5) → j ≠ (y + 6) → j ≠ (y + 7) → j ≠ (y + 8) → j ≠ (y + 9) → j ≠ (y + 10) → j ≠ (y + 11) → j ≠ (y + 12) → j ≠ (y + 13) → j ≠ (y + 14) → j ≠ (y + 15) → j ≠ (y + 16) → j ≠ (y + 17) → w5 j = w j := fun j a0 a1 a2 a3 a4 a5 a6 a7 a8 a9 a10 a11 a12 a13 a14 a15 a16 => (hne8 j (by omega)).trans (hfr j a0 a1 a2 a3 a4 a5 a6 a7 a8 a9 a10 a11 a12 a13 a14 a15 a16)
  refine lv_aload_n hx hb dX7_copy_21 rfl (lv_at hl 0 rfl) ?_
  refine n_get hx hb hts u_X7 hown hK hP (by omega) f_y rfl 3 (by decide) (nT_m wf_X7_16) rfl dX7_copy_22 ?_
  refine n_iconst hx hb dX7_copy_25 ?_
  refine lv_iload_n hx hb dX7_copy_26 rfl (lv_at hl 1 rfl) ?_
  refine lv_iload_n hx hb dX7_copy_27 rfl (lv_at hl 2 rfl) ?_
  refine n_cV (va_runS (As := [.ref (ad (y + 3)), .int (iI 2), .int (iI ((f0 : Nat) : Int)), .int (iI ((t0 : Nat) : Int))]) (rest := []) ⟨hx, hb, hml, hown, hts⟩ (c_X7_move (y + 3) 8 2 f0 t0 Ra (by omega) (by omega) (by omega) (by decide) f_Ra) (va_cwS 4 hts (nT_S wl_X7_94 wt_X7_move wn_X7 wc_X7_move) rfl rfl rfl (by decide +kernel) ⟨Nat.le_of_ble_eq_true rfl, Nat.le_of_ble_eq_true rfl⟩) (nB.pre hK hI hP) rfl rfl hl.1 rfl (lv_room (Nat.le_of_ble_eq_true rfl)) dX7_copy_28 ⟨Nat.zero_le _, Nat.zero_le _⟩) hS (fun w9 H locs hq11 hP hS => ?_)
  obtain ⟨hne12, hp_Ra⟩ := hq11
  have f_y := (hne12 y (by omega)).trans f_y
  have f_Co := (hne12 (y + 1) (by omega)).trans f_Co
  have f_Va := (hne12 (y + 2) (by omega)).trans f_Va
  have f_Sl := (hne12 (y + 4) (by omega)).trans f_Sl
  have f_Go := (hne12 (y + 5) (by omega)).trans f_Go
  have f_Pr := (hne12 (y + 6) (by omega)).trans f_Pr
  have f_Ti := (hne12 (y + 7) (by omega)).trans f_Ti
  have f_St := (hne12 (y + 8) (by omega)).trans f_St
  have f_Tl := (hne12 (y + 9) (by omega)).trans f_Tl
  have f_Ts := (hne12 (y + 10) (by omega)).trans f_Ts
  have f_Sc := (hne12 (y + 11) (by omega)).trans f_Sc
  have f_Pd := (hne12 (y + 12) (by omega)).trans f_Pd
  have f_Ex := (hne12 (y + 13) (by omega)).trans f_Ex
  have f_Ha := (hne12 (y + 14) (by omega)).trans f_Ha
  have f_Ga := (hne12 (y + 15) (by omega)).trans f_Ga
  have f_Dr := (hne12 (y + 16) (by omega)).trans f_Dr
  have f_Xs := (hne12 (y + 17) (by omega)).trans f_Xs
  have f_Ra : w9 (y + 3) = aI G 8 (fun q => ((mvF Ra 2 f0 t0 2 q : Nat) : Int)) := hp_Ra
  have hfr : ∀ j, j ≠ (y + 1) → j ≠ (y + 2) → j ≠ (y + 3) → j ≠ (y + 4) → j ≠ (y + 5) → j ≠ (y + 6) → j ≠ (y + 7) → j ≠ (y + 8) → j ≠ (y + 9) → j ≠ (y + 10) → j ≠ (y + 11) → j ≠ (y + 12) → j ≠ (y + 13) → j ≠ (y + 14) → j ≠ (y + 15) → j ≠ (y + 16) → j ≠ (y + 17) → w9 j = w j := fun j a0 a1 a2 a3 a4 a5 a6 a7 a8 a9 a10 a11 a12 a13 a14 a15 a16 => (hne12 j (by omega)).trans (hfr j a0 a1 a2 a3 a4 a5 a6 a7 a8 a9 a10 a11 a12 a13 a14 a15 a16)
  refine lv_aload_n hx hb dX7_copy_31 rfl (lv_at hl 0 rfl) ?_
  refine n_get hx hb hts u_X7 hown hK hP (by omega) f_y rfl 4 (by decide) (nT_m wf_X7_19) rfl dX7_copy_32 ?_
  refine n_iconst hx hb dX7_copy_35 ?_
  refine lv_iload_n hx hb dX7_copy_36 rfl (lv_at hl 1 rfl) ?_
  refine lv_iload_n hx hb dX7_copy_37 rfl (lv_at hl 2 rfl) ?_
  refine n_cV (va_runS (As := [.ref (ad (y + 4)), .int (iI 1), .int (iI ((f0 : Nat) : Int)), .int (iI ((t0 : Nat) : Int))]) (rest := []) ⟨hx, hb, hml, hown, hts⟩ (c_X7_move (y + 4) 4 1 f0 t0 Sl (by omega) (by omega) (by omega) (by decide) f_Sl) (va_cwS 4 hts (nT_S wl_X7_94 wt_X7_move wn_X7 wc_X7_move) rfl rfl rfl (by decide +kernel) ⟨Nat.le_of_ble_eq_true rfl, Nat.le_of_ble_eq_true rfl⟩) (nB.pre hK hI hP) rfl rfl hl.1 rfl (lv_room (Nat.le_of_ble_eq_true rfl)) dX7_copy_38 ⟨Nat.zero_le _, Nat.zero_le _⟩) hS (fun w13 H locs hq15 hP hS => ?_)
  obtain ⟨hne16, hp_Sl⟩ := hq15
  have f_y := (hne16 y (by omega)).trans f_y
  have f_Co := (hne16 (y + 1) (by omega)).trans f_Co
  have f_Va := (hne16 (y + 2) (by omega)).trans f_Va
  have f_Ra := (hne16 (y + 3) (by omega)).trans f_Ra
  have f_Go := (hne16 (y + 5) (by omega)).trans f_Go
  have f_Pr := (hne16 (y + 6) (by omega)).trans f_Pr
  have f_Ti := (hne16 (y + 7) (by omega)).trans f_Ti
  have f_St := (hne16 (y + 8) (by omega)).trans f_St
  have f_Tl := (hne16 (y + 9) (by omega)).trans f_Tl
  have f_Ts := (hne16 (y + 10) (by omega)).trans f_Ts
  have f_Sc := (hne16 (y + 11) (by omega)).trans f_Sc
  have f_Pd := (hne16 (y + 12) (by omega)).trans f_Pd
  have f_Ex := (hne16 (y + 13) (by omega)).trans f_Ex
  have f_Ha := (hne16 (y + 14) (by omega)).trans f_Ha
  have f_Ga := (hne16 (y + 15) (by omega)).trans f_Ga
  have f_Dr := (hne16 (y + 16) (by omega)).trans f_Dr
  have f_Xs := (hne16 (y + 17) (by omega)).trans f_Xs
  have f_Sl : w13 (y + 4) = aI G 4 (fun q => ((mvF Sl 1 f0 t0 1 q : Nat) : Int)) := hp_Sl
  have hfr : ∀ j, j ≠ (y + 1) → j ≠ (y + 2) → j ≠ (y + 3) → j ≠ (y + 4) → j ≠ (y + 5) → j ≠ (y + 6) → j ≠ (y + 7) → j ≠ (y + 8) → j ≠ (y + 9) → j ≠ (y + 10) → j ≠ (y + 11) → j ≠ (y + 12) → j ≠ (y + 13) → j ≠ (y + 14) → j ≠ (y + 15) → j ≠ (y + 16) → j ≠ (y + 17) → w13 j = w j := fun j a0 a1 a2 a3 a4 a5 a6 a7 a8 a9 a10 a11 a12 a13 a14 a15 a16 => (hne16 j (by omega)).trans (hfr j a0 a1 a2 a3 a4 a5 a6 a7 a8 a9 a10 a11 a12 a13 a14 a15 a16)
  refine lv_aload_n hx hb dX7_copy_41 rfl (lv_at hl 0 rfl) ?_
  refine n_get hx hb hts u_X7 hown hK hP (by omega) f_y rfl 5 (by decide) (nT_m wf_X7_22) rfl dX7_copy_42 ?_
  refine n_iconst hx hb dX7_copy_45 ?_
  refine lv_iload_n hx hb dX7_copy_46 rfl (lv_at hl 1 rfl) ?_
  refine lv_iload_n hx hb dX7_copy_47 rfl (lv_at hl 2 rfl) ?_
  refine n_cV (va_runS (As := [.ref (ad (y + 5)), .int (iI 1), .int (iI ((f0 : Nat) : Int)), .int (iI ((t0 : Nat) : Int))]) (rest := []) ⟨hx, hb, hml, hown, hts⟩ (c_X7_move (y + 5) 4 1 f0 t0 Go (by omega) (by omega) (by omega) (by decide) f_Go) (va_cwS 4 hts (nT_S wl_X7_94 wt_X7_move wn_X7 wc_X7_move) rfl rfl rfl (by decide +kernel) ⟨Nat.le_of_ble_eq_true rfl, Nat.le_of_ble_eq_true rfl⟩) (nB.pre hK hI hP) rfl rfl hl.1 rfl (lv_room (Nat.le_of_ble_eq_true rfl)) dX7_copy_48 ⟨Nat.zero_le _, Nat.zero_le _⟩) hS (fun w17 H locs hq19 hP hS => ?_)
  obtain ⟨hne20, hp_Go⟩ := hq19
  have f_y := (hne20 y (by omega)).trans f_y
  have f_Co := (hne20 (y + 1) (by omega)).trans f_Co
  have f_Va := (hne20 (y + 2) (by omega)).trans f_Va
  have f_Ra := (hne20 (y + 3) (by omega)).trans f_Ra
  have f_Sl := (hne20 (y + 4) (by omega)).trans f_Sl
  have f_Pr := (hne20 (y + 6) (by omega)).trans f_Pr
  have f_Ti := (hne20 (y + 7) (by omega)).trans f_Ti
  have f_St := (hne20 (y + 8) (by omega)).trans f_St
  have f_Tl := (hne20 (y + 9) (by omega)).trans f_Tl
  have f_Ts := (hne20 (y + 10) (by omega)).trans f_Ts
  have f_Sc := (hne20 (y + 11) (by omega)).trans f_Sc
  have f_Pd := (hne20 (y + 12) (by omega)).trans f_Pd
  have f_Ex := (hne20 (y + 13) (by omega)).trans f_Ex
  have f_Ha := (hne20 (y + 14) (by omega)).trans f_Ha
  have f_Ga := (hne20 (y + 15) (by omega)).trans f_Ga
  have f_Dr := (hne20 (y + 16) (by omega)).trans f_Dr
  have f_Xs := (hne20 (y + 17) (by omega)).trans f_Xs
  have f_Go : w17 (y + 5) = aI G 4 (fun q => ((mvF Go 1 f0 t0 1 q : Nat) : Int)) := hp_Go
  have hfr : ∀ j, j ≠ (y + 1) → j ≠ (y + 2) → j ≠ (y + 3) → j ≠ (y + 4) → j ≠ (y + 5) → j ≠ (y + 6) → j ≠ (y + 7) → j ≠ (y + 8) → j ≠ (y + 9) → j ≠ (y + 10) → j ≠ (y + 11) → j ≠ (y + 12) → j ≠ (y + 13) → j ≠ (y + 14) → j ≠ (y + 15) → j ≠ (y + 16) → j ≠ (y + 17) → w17 j = w j := fun j a0 a1 a2 a3 a4 a5 a6 a7 a8 a9 a10 a11 a12 a13 a14 a15 a16 => (hne20 j (by omega)).trans (hfr j a0 a1 a2 a3 a4 a5 a6 a7 a8 a9 a10 a11 a12 a13 a14 a15 a16)
  refine lv_aload_n hx hb dX7_copy_51 rfl (lv_at hl 0 rfl) ?_
  refine n_get hx hb hts u_X7 hown hK hP (by omega) f_y rfl 6 (by decide) (nT_m wf_X7_25) rfl dX7_copy_52 ?_
  refine n_bipush hx hb dX7_copy_55 (by decide) ?_
  refine lv_iload_n hx hb dX7_copy_57 rfl (lv_at hl 1 rfl) ?_
  refine lv_iload_n hx hb dX7_copy_58 rfl (lv_at hl 2 rfl) ?_
  refine n_cV (va_runS (As := [.ref (ad (y + 6)), .int (iI 14), .int (iI ((f0 : Nat) : Int)), .int (iI ((t0 : Nat) : Int))]) (rest := []) ⟨hx, hb, hml, hown, hts⟩ (c_X7_move (y + 6) 56 14 f0 t0 Pr (by omega) (by omega) (by omega) (by decide) f_Pr) (va_cwS 4 hts (nT_S wl_X7_94 wt_X7_move wn_X7 wc_X7_move) rfl rfl rfl (by decide +kernel) ⟨Nat.le_of_ble_eq_true rfl, Nat.le_of_ble_eq_true rfl⟩) (nB.pre hK hI hP) rfl rfl hl.1 rfl (lv_room (Nat.le_of_ble_eq_true rfl)) dX7_copy_59 ⟨Nat.zero_le _, Nat.zero_le _⟩) hS (fun w21 H locs hq23 hP hS => ?_)
  obtain ⟨hne24, hp_Pr⟩ := hq23
  have f_y := (hne24 y (by omega)).trans f_y
  have f_Co := (hne24 (y + 1) (by omega)).trans f_Co
  have f_Va := (hne24 (y + 2) (by omega)).trans f_Va
  have f_Ra := (hne24 (y + 3) (by omega)).trans f_Ra
  have f_Sl := (hne24 (y + 4) (by omega)).trans f_Sl
  have f_Go := (hne24 (y + 5) (by omega)).trans f_Go
  have f_Ti := (hne24 (y + 7) (by omega)).trans f_Ti
  have f_St := (hne24 (y + 8) (by omega)).trans f_St
  have f_Tl := (hne24 (y + 9) (by omega)).trans f_Tl
  have f_Ts := (hne24 (y + 10) (by omega)).trans f_Ts
  have f_Sc := (hne24 (y + 11) (by omega)).trans f_Sc
  have f_Pd := (hne24 (y + 12) (by omega)).trans f_Pd
  have f_Ex := (hne24 (y + 13) (by omega)).trans f_Ex
  have f_Ha := (hne24 (y + 14) (by omega)).trans f_Ha
  have f_Ga := (hne24 (y + 15) (by omega)).trans f_Ga
  have f_Dr := (hne24 (y + 16) (by omega)).trans f_Dr
  have f_Xs := (hne24 (y + 17) (by omega)).trans f_Xs
  have f_Pr : w21 (y + 6) = aI G 56 (fun q => ((mvF Pr 14 f0 t0 14 q : Nat) : Int)) := hp_Pr
  have hfr : ∀ j, j ≠ (y + 1) → j ≠ (y + 2) → j ≠ (y + 3) → j ≠ (y + 4) → j ≠ (y + 5) → j ≠ (y + 6) → j ≠ (y + 7) → j ≠ (y + 8) → j ≠ (y + 9) → j ≠ (y + 10) → j ≠ (y + 11) → j ≠ (y + 12) → j ≠ (y + 13) → j ≠ (y + 14) → j ≠ (y + 15) → j ≠ (y + 16) → j ≠ (y + 17) → w21 j = w j := fun j a0 a1 a2 a3 a4 a5 a6 a7 a8 a9 a10 a11 a12 a13 a14 a15 a16 => (hne24 j (by omega)).trans (hfr j a0 a1 a2 a3 a4 a5 a6 a7 a8 a9 a10 a11 a12 a13 a14 a15 a16)
  refine lv_aload_n hx hb dX7_copy_62 rfl (lv_at hl 0 rfl) ?_
  refine n_get hx hb hts u_X7 hown hK hP (by omega) f_y rfl 7 (by decide) (nT_m wf_X7_28) rfl dX7_copy_63 ?_
  refine n_bipush hx hb dX7_copy_66 (by decide) ?_
  refine lv_iload_n hx hb dX7_copy_68 rfl (lv_at hl 1 rfl) ?_
  refine lv_iload_n hx hb dX7_copy_69 rfl (lv_at hl 2 rfl) ?_
  refine n_cV (va_runS (As := [.ref (ad (y + 7)), .int (iI 14), .int (iI ((f0 : Nat) : Int)), .int (iI ((t0 : Nat) : Int))]) (rest := []) ⟨hx, hb, hml, hown, hts⟩ (c_X7_move (y + 7) 56 14 f0 t0 Ti (by omega) (by omega) (by omega) (by decide) f_Ti) (va_cwS 4 hts (nT_S wl_X7_94 wt_X7_move wn_X7 wc_X7_move) rfl rfl rfl (by decide +kernel) ⟨Nat.le_of_ble_eq_true rfl, Nat.le_of_ble_eq_true rfl⟩) (nB.pre hK hI hP) rfl rfl hl.1 rfl (lv_room (Nat.le_of_ble_eq_true rfl)) dX7_copy_70 ⟨Nat.zero_le _, Nat.zero_le _⟩) hS (fun w25 H locs hq27 hP hS => ?_)
  obtain ⟨hne28, hp_Ti⟩ := hq27
  have f_y := (hne28 y (by omega)).trans f_y
  have f_Co := (hne28 (y + 1) (by omega)).trans f_Co
  have f_Va := (hne28 (y + 2) (by omega)).trans f_Va
  have f_Ra := (hne28 (y + 3) (by omega)).trans f_Ra
  have f_Sl := (hne28 (y + 4) (by omega)).trans f_Sl
  have f_Go := (hne28 (y + 5) (by omega)).trans f_Go
  have f_Pr := (hne28 (y + 6) (by omega)).trans f_Pr
  have f_St := (hne28 (y + 8) (by omega)).trans f_St
  have f_Tl := (hne28 (y + 9) (by omega)).trans f_Tl
  have f_Ts := (hne28 (y + 10) (by omega)).trans f_Ts
  have f_Sc := (hne28 (y + 11) (by omega)).trans f_Sc
  have f_Pd := (hne28 (y + 12) (by omega)).trans f_Pd
  have f_Ex := (hne28 (y + 13) (by omega)).trans f_Ex
  have f_Ha := (hne28 (y + 14) (by omega)).trans f_Ha
  have f_Ga := (hne28 (y + 15) (by omega)).trans f_Ga
  have f_Dr := (hne28 (y + 16) (by omega)).trans f_Dr
  have f_Xs := (hne28 (y + 17) (by omega)).trans f_Xs
  have f_Ti : w25 (y + 7) = aI G 56 (fun q => ((mvF Ti 14 f0 t0 14 q : Nat) : Int)) := hp_Ti
  have hfr : ∀ j, j ≠ (y + 1) → j ≠ (y + 2) → j ≠ (y + 3) → j ≠ (y + 4) → j ≠ (y + 5) → j ≠ (y + 6) → j ≠ (y + 7) → j ≠ (y + 8) → j ≠ (y + 9) → j ≠ (y + 10) → j ≠ (y + 11) → j ≠ (y + 12) → j ≠ (y + 13) → j ≠ (y + 14) → j ≠ (y + 15) → j ≠ (y + 16) → j ≠ (y + 17) → w25 j = w j := fun j a0 a1 a2 a3 a4 a5 a6 a7 a8 a9 a10 a11 a12 a13 a14 a15 a16 => (hne28 j (by omega)).trans (hfr j a0 a1 a2 a3 a4 a5 a6 a7 a8 a9 a10 a11 a12 a13 a14 a15 a16)
  refine lv_aload_n hx hb dX7_copy_73 rfl (lv_at hl 0 rfl) ?_
  refine n_get hx hb hts u_X7 hown hK hP (by omega) f_y rfl 8 (by decide) (nT_m wf_X7_31) rfl dX7_copy_74 ?_
  refine n_iconst hx hb dX7_copy_77 ?_
  refine lv_iload_n hx hb dX7_copy_78 rfl (lv_at hl 1 rfl) ?_
  refine lv_iload_n hx hb dX7_copy_79 rfl (lv_at hl 2 rfl) ?_
  refine n_cV (va_runS (As := [.ref (ad (y + 8)), .int (iI 1), .int (iI ((f0 : Nat) : Int)), .int (iI ((t0 : Nat) : Int))]) (rest := []) ⟨hx, hb, hml, hown, hts⟩ (c_X7_move (y + 8) 4 1 f0 t0 St (by omega) (by omega) (by omega) (by decide) f_St) (va_cwS 4 hts (nT_S wl_X7_94 wt_X7_move wn_X7 wc_X7_move) rfl rfl rfl (by decide +kernel) ⟨Nat.le_of_ble_eq_true rfl, Nat.le_of_ble_eq_true rfl⟩) (nB.pre hK hI hP) rfl rfl hl.1 rfl (lv_room (Nat.le_of_ble_eq_true rfl)) dX7_copy_80 ⟨Nat.zero_le _, Nat.zero_le _⟩) hS (fun w29 H locs hq31 hP hS => ?_)
  obtain ⟨hne32, hp_St⟩ := hq31
  have f_y := (hne32 y (by omega)).trans f_y
  have f_Co := (hne32 (y + 1) (by omega)).trans f_Co
  have f_Va := (hne32 (y + 2) (by omega)).trans f_Va
  have f_Ra := (hne32 (y + 3) (by omega)).trans f_Ra
  have f_Sl := (hne32 (y + 4) (by omega)).trans f_Sl
  have f_Go := (hne32 (y + 5) (by omega)).trans f_Go
  have f_Pr := (hne32 (y + 6) (by omega)).trans f_Pr
  have f_Ti := (hne32 (y + 7) (by omega)).trans f_Ti
  have f_Tl := (hne32 (y + 9) (by omega)).trans f_Tl
  have f_Ts := (hne32 (y + 10) (by omega)).trans f_Ts
  have f_Sc := (hne32 (y + 11) (by omega)).trans f_Sc
  have f_Pd := (hne32 (y + 12) (by omega)).trans f_Pd
  have f_Ex := (hne32 (y + 13) (by omega)).trans f_Ex
  have f_Ha := (hne32 (y + 14) (by omega)).trans f_Ha
  have f_Ga := (hne32 (y + 15) (by omega)).trans f_Ga
  have f_Dr := (hne32 (y + 16) (by omega)).trans f_Dr
  have f_Xs := (hne32 (y + 17) (by omega)).trans f_Xs
  have f_St : w29 (y + 8) = aI G 4 (fun q => ((mvF St 1 f0 t0 1 q : Nat) : Int)) := hp_St
  have hfr : ∀ j, j ≠ (y + 1) → j ≠ (y + 2) → j ≠ (y + 3) → j ≠ (y + 4) → j ≠ (y + 5) → j ≠ (y + 6) → j ≠ (y + 7) → j ≠ (y + 8) → j ≠ (y + 9) → j ≠ (y + 10) → j ≠ (y + 11) → j ≠ (y + 12) → j ≠ (y + 13) → j ≠ (y + 14) → j ≠ (y + 15) → j ≠ (y + 16) → j ≠ (y + 17) → w29 j = w j := fun j a0 a1 a2 a3 a4 a5 a6 a7 a8 a9 a10 a11 a12 a13 a14 a15 a16 => (hne32 j (by omega)).trans (hfr j a0 a1 a2 a3 a4 a5 a6 a7 a8 a9 a10 a11 a12 a13 a14 a15 a16)
  refine lv_aload_n hx hb dX7_copy_83 rfl (lv_at hl 0 rfl) ?_
  refine n_get hx hb hts u_X7 hown hK hP (by omega) f_y rfl 9 (by decide) (nT_m wf_X7_34) rfl dX7_copy_84 ?_
  refine n_iconst hx hb dX7_copy_87 ?_
  refine lv_iload_n hx hb dX7_copy_88 rfl (lv_at hl 1 rfl) ?_
  refine lv_iload_n hx hb dX7_copy_89 rfl (lv_at hl 2 rfl) ?_
  refine n_cV (va_runS (As := [.ref (ad (y + 9)), .int (iI 1), .int (iI ((f0 : Nat) : Int)), .int (iI ((t0 : Nat) : Int))]) (rest := []) ⟨hx, hb, hml, hown, hts⟩ (c_X7_move (y + 9) 4 1 f0 t0 Tl (by omega) (by omega) (by omega) (by decide) f_Tl) (va_cwS 4 hts (nT_S wl_X7_94 wt_X7_move wn_X7 wc_X7_move) rfl rfl rfl (by decide +kernel) ⟨Nat.le_of_ble_eq_true rfl, Nat.le_of_ble_eq_true rfl⟩) (nB.pre hK hI hP) rfl rfl hl.1 rfl (lv_room (Nat.le_of_ble_eq_true rfl)) dX7_copy_90 ⟨Nat.zero_le _, Nat.zero_le _⟩) hS (fun w33 H locs hq35 hP hS => ?_)
  obtain ⟨hne36, hp_Tl⟩ := hq35
  have f_y := (hne36 y (by omega)).trans f_y
  have f_Co := (hne36 (y + 1) (by omega)).trans f_Co
  have f_Va := (hne36 (y + 2) (by omega)).trans f_Va
  have f_Ra := (hne36 (y + 3) (by omega)).trans f_Ra
  have f_Sl := (hne36 (y + 4) (by omega)).trans f_Sl
  have f_Go := (hne36 (y + 5) (by omega)).trans f_Go
  have f_Pr := (hne36 (y + 6) (by omega)).trans f_Pr
  have f_Ti := (hne36 (y + 7) (by omega)).trans f_Ti
  have f_St := (hne36 (y + 8) (by omega)).trans f_St
  have f_Ts := (hne36 (y + 10) (by omega)).trans f_Ts
  have f_Sc := (hne36 (y + 11) (by omega)).trans f_Sc
  have f_Pd := (hne36 (y + 12) (by omega)).trans f_Pd
  have f_Ex := (hne36 (y + 13) (by omega)).trans f_Ex
  have f_Ha := (hne36 (y + 14) (by omega)).trans f_Ha
  have f_Ga := (hne36 (y + 15) (by omega)).trans f_Ga
  have f_Dr := (hne36 (y + 16) (by omega)).trans f_Dr
  have f_Xs := (hne36 (y + 17) (by omega)).trans f_Xs
  have f_Tl : w33 (y + 9) = aI G 4 (fun q => ((mvF Tl 1 f0 t0 1 q : Nat) : Int)) := hp_Tl
  have hfr : ∀ j, j ≠ (y + 1) → j ≠ (y + 2) → j ≠ (y + 3) → j ≠ (y + 4) → j ≠ (y + 5) → j ≠ (y + 6) → j ≠ (y + 7) → j ≠ (y + 8) → j ≠ (y + 9) → j ≠ (y + 10) → j ≠ (y + 11) → j ≠ (y + 12) → j ≠ (y + 13) → j ≠ (y + 14) → j ≠ (y + 15) → j ≠ (y + 16) → j ≠ (y + 17) → w33 j = w j := fun j a0 a1 a2 a3 a4 a5 a6 a7 a8 a9 a10 a11 a12 a13 a14 a15 a16 => (hne36 j (by omega)).trans (hfr j a0 a1 a2 a3 a4 a5 a6 a7 a8 a9 a10 a11 a12 a13 a14 a15 a16)
  refine lv_aload_n hx hb dX7_copy_93 rfl (lv_at hl 0 rfl) ?_
  refine n_get hx hb hts u_X7 hown hK hP (by omega) f_y rfl 10 (by decide) (nT_m wf_X7_37) rfl dX7_copy_94 ?_
  refine n_iconst hx hb dX7_copy_97 ?_
  refine lv_iload_n hx hb dX7_copy_98 rfl (lv_at hl 1 rfl) ?_
  refine lv_iload_n hx hb dX7_copy_99 rfl (lv_at hl 2 rfl) ?_
  refine n_cV (va_runS (As := [.ref (ad (y + 10)), .int (iI 4), .int (iI ((f0 : Nat) : Int)), .int (iI ((t0 : Nat) : Int))]) (rest := []) ⟨hx, hb, hml, hown, hts⟩ (c_X7_move (y + 10) 16 4 f0 t0 Ts (by omega) (by omega) (by omega) (by decide) f_Ts) (va_cwS 4 hts (nT_S wl_X7_94 wt_X7_move wn_X7 wc_X7_move) rfl rfl rfl (by decide +kernel) ⟨Nat.le_of_ble_eq_true rfl, Nat.le_of_ble_eq_true rfl⟩) (nB.pre hK hI hP) rfl rfl hl.1 rfl (lv_room (Nat.le_of_ble_eq_true rfl)) dX7_copy_100 ⟨Nat.zero_le _, Nat.zero_le _⟩) hS (fun w37 H locs hq39 hP hS => ?_)
  obtain ⟨hne40, hp_Ts⟩ := hq39
  have f_y := (hne40 y (by omega)).trans f_y
  have f_Co := (hne40 (y + 1) (by omega)).trans f_Co
  have f_Va := (hne40 (y + 2) (by omega)).trans f_Va
  have f_Ra := (hne40 (y + 3) (by omega)).trans f_Ra
  have f_Sl := (hne40 (y + 4) (by omega)).trans f_Sl
  have f_Go := (hne40 (y + 5) (by omega)).trans f_Go
  have f_Pr := (hne40 (y + 6) (by omega)).trans f_Pr
  have f_Ti := (hne40 (y + 7) (by omega)).trans f_Ti
  have f_St := (hne40 (y + 8) (by omega)).trans f_St
  have f_Tl := (hne40 (y + 9) (by omega)).trans f_Tl
  have f_Sc := (hne40 (y + 11) (by omega)).trans f_Sc
  have f_Pd := (hne40 (y + 12) (by omega)).trans f_Pd
  have f_Ex := (hne40 (y + 13) (by omega)).trans f_Ex
  have f_Ha := (hne40 (y + 14) (by omega)).trans f_Ha
  have f_Ga := (hne40 (y + 15) (by omega)).trans f_Ga
  have f_Dr := (hne40 (y + 16) (by omega)).trans f_Dr
  have f_Xs := (hne40 (y + 17) (by omega)).trans f_Xs
  have f_Ts : w37 (y + 10) = aI G 16 (fun q => ((mvF Ts 4 f0 t0 4 q : Nat) : Int)) := hp_Ts
  have hfr : ∀ j, j ≠ (y + 1) → j ≠ (y + 2) → j ≠ (y + 3) → j ≠ (y + 4) → j ≠ (y + 5) → j ≠ (y + 6) → j ≠ (y + 7) → j ≠ (y + 8) → j ≠ (y + 9) → j ≠ (y + 10) → j ≠ (y + 11) → j ≠ (y + 12) → j ≠ (y + 13) → j ≠ (y + 14) → j ≠ (y + 15) → j ≠ (y + 16) → j ≠ (y + 17) → w37 j = w j := fun j a0 a1 a2 a3 a4 a5 a6 a7 a8 a9 a10 a11 a12 a13 a14 a15 a16 => (hne40 j (by omega)).trans (hfr j a0 a1 a2 a3 a4 a5 a6 a7 a8 a9 a10 a11 a12 a13 a14 a15 a16)
  refine lv_aload_n hx hb dX7_copy_103 rfl (lv_at hl 0 rfl) ?_
  refine n_get hx hb hts u_X7 hown hK hP (by omega) f_y rfl 13 (by decide) (nT_m wf_X7_47) rfl dX7_copy_104 ?_
  refine n_iconst hx hb dX7_copy_107 ?_
  refine lv_iload_n hx hb dX7_copy_108 rfl (lv_at hl 1 rfl) ?_
  refine lv_iload_n hx hb dX7_copy_109 rfl (lv_at hl 2 rfl) ?_
  refine n_cV (va_runS (As := [.ref (ad (y + 13)), .int (iI 4), .int (iI ((f0 : Nat) : Int)), .int (iI ((t0 : Nat) : Int))]) (rest := []) ⟨hx, hb, hml, hown, hts⟩ (c_X7_move (y + 13) 16 4 f0 t0 Ex (by omega) (by omega) (by omega) (by decide) f_Ex) (va_cwS 4 hts (nT_S wl_X7_94 wt_X7_move wn_X7 wc_X7_move) rfl rfl rfl (by decide +kernel) ⟨Nat.le_of_ble_eq_true rfl, Nat.le_of_ble_eq_true rfl⟩) (nB.pre hK hI hP) rfl rfl hl.1 rfl (lv_room (Nat.le_of_ble_eq_true rfl)) dX7_copy_110 ⟨Nat.zero_le _, Nat.zero_le _⟩) hS (fun w41 H locs hq43 hP hS => ?_)
  obtain ⟨hne44, hp_Ex⟩ := hq43
  have f_y := (hne44 y (by omega)).trans f_y
  have f_Co := (hne44 (y + 1) (by omega)).trans f_Co
  have f_Va := (hne44 (y + 2) (by omega)).trans f_Va
  have f_Ra := (hne44 (y + 3) (by omega)).trans f_Ra
  have f_Sl := (hne44 (y + 4) (by omega)).trans f_Sl
  have f_Go := (hne44 (y + 5) (by omega)).trans f_Go
  have f_Pr := (hne44 (y + 6) (by omega)).trans f_Pr
  have f_Ti := (hne44 (y + 7) (by omega)).trans f_Ti
  have f_St := (hne44 (y + 8) (by omega)).trans f_St
  have f_Tl := (hne44 (y + 9) (by omega)).trans f_Tl
  have f_Ts := (hne44 (y + 10) (by omega)).trans f_Ts
  have f_Sc := (hne44 (y + 11) (by omega)).trans f_Sc
  have f_Pd := (hne44 (y + 12) (by omega)).trans f_Pd
  have f_Ha := (hne44 (y + 14) (by omega)).trans f_Ha
  have f_Ga := (hne44 (y + 15) (by omega)).trans f_Ga
  have f_Dr := (hne44 (y + 16) (by omega)).trans f_Dr
  have f_Xs := (hne44 (y + 17) (by omega)).trans f_Xs
  have f_Ex : w41 (y + 13) = aI G 16 (fun q => ((mvF Ex 4 f0 t0 4 q : Nat) : Int)) := hp_Ex
  have hfr : ∀ j, j ≠ (y + 1) → j ≠ (y + 2) → j ≠ (y + 3) → j ≠ (y + 4) → j ≠ (y + 5) → j ≠ (y + 6) → j ≠ (y + 7) → j ≠ (y + 8) → j ≠ (y + 9) → j ≠ (y + 10) → j ≠ (y + 11) → j ≠ (y + 12) → j ≠ (y + 13) → j ≠ (y + 14) → j ≠ (y + 15) → j ≠ (y + 16) → j ≠ (y + 17) → w41 j = w j := fun j a0 a1 a2 a3 a4 a5 a6 a7 a8 a9 a10 a11 a12 a13 a14 a15 a16 => (hne44 j (by omega)).trans (hfr j a0 a1 a2 a3 a4 a5 a6 a7 a8 a9 a10 a11 a12 a13 a14 a15 a16)
  refine lv_aload_n hx hb dX7_copy_113 rfl (lv_at hl 0 rfl) ?_
  refine n_get hx hb hts u_X7 hown hK hP (by omega) f_y rfl 14 (by decide) (nT_m wf_X7_50) rfl dX7_copy_114 ?_
  refine n_bipush hx hb dX7_copy_117 (by decide) ?_
  refine lv_iload_n hx hb dX7_copy_119 rfl (lv_at hl 1 rfl) ?_
  refine lv_iload_n hx hb dX7_copy_120 rfl (lv_at hl 2 rfl) ?_
  refine n_cV (va_runS (As := [.ref (ad (y + 14)), .int (iI 64), .int (iI ((f0 : Nat) : Int)), .int (iI ((t0 : Nat) : Int))]) (rest := []) ⟨hx, hb, hml, hown, hts⟩ (c_X7_move (y + 14) 256 64 f0 t0 Ha (by omega) (by omega) (by omega) (by decide) f_Ha) (va_cwS 4 hts (nT_S wl_X7_94 wt_X7_move wn_X7 wc_X7_move) rfl rfl rfl (by decide +kernel) ⟨Nat.le_of_ble_eq_true rfl, Nat.le_of_ble_eq_true rfl⟩) (nB.pre hK hI hP) rfl rfl hl.1 rfl (lv_room (Nat.le_of_ble_eq_true rfl)) dX7_copy_121 ⟨Nat.zero_le _, Nat.zero_le _⟩) hS (fun w45 H locs hq47 hP hS => ?_)
  obtain ⟨hne48, hp_Ha⟩ := hq47
  have f_y := (hne48 y (by omega)).trans f_y
  have f_Co := (hne48 (y + 1) (by omega)).trans f_Co
  have f_Va := (hne48 (y + 2) (by omega)).trans f_Va
  have f_Ra := (hne48 (y + 3) (by omega)).trans f_Ra
  have f_Sl := (hne48 (y + 4) (by omega)).trans f_Sl
  have f_Go := (hne48 (y + 5) (by omega)).trans f_Go
  have f_Pr := (hne48 (y + 6) (by omega)).trans f_Pr
  have f_Ti := (hne48 (y + 7) (by omega)).trans f_Ti
  have f_St := (hne48 (y + 8) (by omega)).trans f_St
  have f_Tl := (hne48 (y + 9) (by omega)).trans f_Tl
  have f_Ts := (hne48 (y + 10) (by omega)).trans f_Ts
  have f_Sc := (hne48 (y + 11) (by omega)).trans f_Sc
  have f_Pd := (hne48 (y + 12) (by omega)).trans f_Pd
  have f_Ex := (hne48 (y + 13) (by omega)).trans f_Ex
  have f_Ga := (hne48 (y + 15) (by omega)).trans f_Ga
  have f_Dr := (hne48 (y + 16) (by omega)).trans f_Dr
  have f_Xs := (hne48 (y + 17) (by omega)).trans f_Xs
  have f_Ha : w45 (y + 14) = aI G 256 (fun q => ((mvF Ha 64 f0 t0 64 q : Nat) : Int)) := hp_Ha
  have hfr : ∀ j, j ≠ (y + 1) → j ≠ (y + 2) → j ≠ (y + 3) → j ≠ (y + 4) → j ≠ (y + 5) → j ≠ (y + 6) → j ≠ (y + 7) → j ≠ (y + 8) → j ≠ (y + 9) → j ≠ (y + 10) → j ≠ (y + 11) → j ≠ (y + 12) → j ≠ (y + 13) → j ≠ (y + 14) → j ≠ (y + 15) → j ≠ (y + 16) → j ≠ (y + 17) → w45 j = w j := fun j a0 a1 a2 a3 a4 a5 a6 a7 a8 a9 a10 a11 a12 a13 a14 a15 a16 => (hne48 j (by omega)).trans (hfr j a0 a1 a2 a3 a4 a5 a6 a7 a8 a9 a10 a11 a12 a13 a14 a15 a16)
  refine lv_aload_n hx hb dX7_copy_124 rfl (lv_at hl 0 rfl) ?_
  refine n_get hx hb hts u_X7 hown hK hP (by omega) f_y rfl 15 (by decide) (nT_m wf_X7_53) rfl dX7_copy_125 ?_
  refine n_bipush hx hb dX7_copy_128 (by decide) ?_
  refine lv_iload_n hx hb dX7_copy_130 rfl (lv_at hl 1 rfl) ?_
  refine lv_iload_n hx hb dX7_copy_131 rfl (lv_at hl 2 rfl) ?_
  refine n_cV (va_runS (As := [.ref (ad (y + 15)), .int (iI 32), .int (iI ((f0 : Nat) : Int)), .int (iI ((t0 : Nat) : Int))]) (rest := []) ⟨hx, hb, hml, hown, hts⟩ (c_X7_move (y + 15) 128 32 f0 t0 Ga (by omega) (by omega) (by omega) (by decide) f_Ga) (va_cwS 4 hts (nT_S wl_X7_94 wt_X7_move wn_X7 wc_X7_move) rfl rfl rfl (by decide +kernel) ⟨Nat.le_of_ble_eq_true rfl, Nat.le_of_ble_eq_true rfl⟩) (nB.pre hK hI hP) rfl rfl hl.1 rfl (lv_room (Nat.le_of_ble_eq_true rfl)) dX7_copy_132 ⟨Nat.zero_le _, Nat.zero_le _⟩) hS (fun w49 H locs hq51 hP hS => ?_)
  obtain ⟨hne52, hp_Ga⟩ := hq51
  have f_y := (hne52 y (by omega)).trans f_y
  have f_Co := (hne52 (y + 1) (by omega)).trans f_Co
  have f_Va := (hne52 (y + 2) (by omega)).trans f_Va
  have f_Ra := (hne52 (y + 3) (by omega)).trans f_Ra
  have f_Sl := (hne52 (y + 4) (by omega)).trans f_Sl
  have f_Go := (hne52 (y + 5) (by omega)).trans f_Go
  have f_Pr := (hne52 (y + 6) (by omega)).trans f_Pr
  have f_Ti := (hne52 (y + 7) (by omega)).trans f_Ti
  have f_St := (hne52 (y + 8) (by omega)).trans f_St
  have f_Tl := (hne52 (y + 9) (by omega)).trans f_Tl
  have f_Ts := (hne52 (y + 10) (by omega)).trans f_Ts
  have f_Sc := (hne52 (y + 11) (by omega)).trans f_Sc
  have f_Pd := (hne52 (y + 12) (by omega)).trans f_Pd
  have f_Ex := (hne52 (y + 13) (by omega)).trans f_Ex
  have f_Ha := (hne52 (y + 14) (by omega)).trans f_Ha
  have f_Dr := (hne52 (y + 16) (by omega)).trans f_Dr
  have f_Xs := (hne52 (y + 17) (by omega)).trans f_Xs
  have f_Ga : w49 (y + 15) = aI G 128 (fun q => ((mvF Ga 32 f0 t0 32 q : Nat) : Int)) := hp_Ga
  have hfr : ∀ j, j ≠ (y + 1) → j ≠ (y + 2) → j ≠ (y + 3) → j ≠ (y + 4) → j ≠ (y + 5) → j ≠ (y + 6) → j ≠ (y + 7) → j ≠ (y + 8) → j ≠ (y + 9) → j ≠ (y + 10) → j ≠ (y + 11) → j ≠ (y + 12) → j ≠ (y + 13) → j ≠ (y + 14) → j ≠ (y + 15) → j ≠ (y + 16) → j ≠ (y + 17) → w49 j = w j := fun j a0 a1 a2 a3 a4 a5 a6 a7 a8 a9 a10 a11 a12 a13 a14 a15 a16 => (hne52 j (by omega)).trans (hfr j a0 a1 a2 a3 a4 a5 a6 a7 a8 a9 a10 a11 a12 a13 a14 a15 a16)
  refine lv_aload_n hx hb dX7_copy_135 rfl (lv_at hl 0 rfl) ?_
  refine n_get hx hb hts u_X7 hown hK hP (by omega) f_y rfl 16 (by decide) (nT_m wf_X7_56) rfl dX7_copy_136 ?_
  refine n_bipush hx hb dX7_copy_139 (by decide) ?_
  refine lv_iload_n hx hb dX7_copy_141 rfl (lv_at hl 1 rfl) ?_
  refine lv_iload_n hx hb dX7_copy_142 rfl (lv_at hl 2 rfl) ?_
  refine n_cV (va_runS (As := [.ref (ad (y + 16)), .int (iI 8), .int (iI ((f0 : Nat) : Int)), .int (iI ((t0 : Nat) : Int))]) (rest := []) ⟨hx, hb, hml, hown, hts⟩ (c_X7_move (y + 16) 32 8 f0 t0 Dr (by omega) (by omega) (by omega) (by decide) f_Dr) (va_cwS 4 hts (nT_S wl_X7_94 wt_X7_move wn_X7 wc_X7_move) rfl rfl rfl (by decide +kernel) ⟨Nat.le_of_ble_eq_true rfl, Nat.le_of_ble_eq_true rfl⟩) (nB.pre hK hI hP) rfl rfl hl.1 rfl (lv_room (Nat.le_of_ble_eq_true rfl)) dX7_copy_143 ⟨Nat.zero_le _, Nat.zero_le _⟩) hS (fun w53 H locs hq55 hP hS => ?_)
  obtain ⟨hne56, hp_Dr⟩ := hq55
  have f_y := (hne56 y (by omega)).trans f_y
  have f_Co := (hne56 (y + 1) (by omega)).trans f_Co
  have f_Va := (hne56 (y + 2) (by omega)).trans f_Va
  have f_Ra := (hne56 (y + 3) (by omega)).trans f_Ra
  have f_Sl := (hne56 (y + 4) (by omega)).trans f_Sl
  have f_Go := (hne56 (y + 5) (by omega)).trans f_Go
  have f_Pr := (hne56 (y + 6) (by omega)).trans f_Pr
  have f_Ti := (hne56 (y + 7) (by omega)).trans f_Ti
  have f_St := (hne56 (y + 8) (by omega)).trans f_St
  have f_Tl := (hne56 (y + 9) (by omega)).trans f_Tl
  have f_Ts := (hne56 (y + 10) (by omega)).trans f_Ts
  have f_Sc := (hne56 (y + 11) (by omega)).trans f_Sc
  have f_Pd := (hne56 (y + 12) (by omega)).trans f_Pd
  have f_Ex := (hne56 (y + 13) (by omega)).trans f_Ex
  have f_Ha := (hne56 (y + 14) (by omega)).trans f_Ha
  have f_Ga := (hne56 (y + 15) (by omega)).trans f_Ga
  have f_Xs := (hne56 (y + 17) (by omega)).trans f_Xs
  have f_Dr : w53 (y + 16) = aI G 32 (fun q => ((mvF Dr 8 f0 t0 8 q : Nat) : Int)) := hp_Dr
  have hfr : ∀ j, j ≠ (y + 1) → j ≠ (y + 2) → j ≠ (y + 3) → j ≠ (y + 4) → j ≠ (y + 5) → j ≠ (y + 6) → j ≠ (y + 7) → j ≠ (y + 8) → j ≠ (y + 9) → j ≠ (y + 10) → j ≠ (y + 11) → j ≠ (y + 12) → j ≠ (y + 13) → j ≠ (y + 14) → j ≠ (y + 15) → j ≠ (y + 16) → j ≠ (y + 17) → w53 j = w j := fun j a0 a1 a2 a3 a4 a5 a6 a7 a8 a9 a10 a11 a12 a13 a14 a15 a16 => (hne56 j (by omega)).trans (hfr j a0 a1 a2 a3 a4 a5 a6 a7 a8 a9 a10 a11 a12 a13 a14 a15 a16)
  refine lv_aload_n hx hb dX7_copy_146 rfl (lv_at hl 0 rfl) ?_
  refine n_get hx hb hts u_X7 hown hK hP (by omega) f_y rfl 17 (by decide) (nT_m wf_X7_59) rfl dX7_copy_147 ?_
  refine n_sipush hx hb dX7_copy_150 (by decide) ?_
  refine lv_iload_n hx hb dX7_copy_153 rfl (lv_at hl 1 rfl) ?_
  refine lv_iload_n hx hb dX7_copy_154 rfl (lv_at hl 2 rfl) ?_
  refine n_cV (va_runS (As := [.ref (ad (y + 17)), .int (iI 320), .int (iI ((f0 : Nat) : Int)), .int (iI ((t0 : Nat) : Int))]) (rest := []) ⟨hx, hb, hml, hown, hts⟩ (c_X7_move (y + 17) 1280 320 f0 t0 Xs (by omega) (by omega) (by omega) (by decide) f_Xs) (va_cwS 4 hts (nT_S wl_X7_94 wt_X7_move wn_X7 wc_X7_move) rfl rfl rfl (by decide +kernel) ⟨Nat.le_of_ble_eq_true rfl, Nat.le_of_ble_eq_true rfl⟩) (nB.pre hK hI hP) rfl rfl hl.1 rfl (lv_room (Nat.le_of_ble_eq_true rfl)) dX7_copy_155 ⟨Nat.zero_le _, Nat.zero_le _⟩) hS (fun w57 H locs hq59 hP hS => ?_)
  obtain ⟨hne60, hp_Xs⟩ := hq59
  have f_y := (hne60 y (by omega)).trans f_y
  have f_Co := (hne60 (y + 1) (by omega)).trans f_Co
  have f_Va := (hne60 (y + 2) (by omega)).trans f_Va
  have f_Ra := (hne60 (y + 3) (by omega)).trans f_Ra
  have f_Sl := (hne60 (y + 4) (by omega)).trans f_Sl
  have f_Go := (hne60 (y + 5) (by omega)).trans f_Go
  have f_Pr := (hne60 (y + 6) (by omega)).trans f_Pr
  have f_Ti := (hne60 (y + 7) (by omega)).trans f_Ti
  have f_St := (hne60 (y + 8) (by omega)).trans f_St
  have f_Tl := (hne60 (y + 9) (by omega)).trans f_Tl
  have f_Ts := (hne60 (y + 10) (by omega)).trans f_Ts
  have f_Sc := (hne60 (y + 11) (by omega)).trans f_Sc
  have f_Pd := (hne60 (y + 12) (by omega)).trans f_Pd
  have f_Ex := (hne60 (y + 13) (by omega)).trans f_Ex
  have f_Ha := (hne60 (y + 14) (by omega)).trans f_Ha
  have f_Ga := (hne60 (y + 15) (by omega)).trans f_Ga
  have f_Dr := (hne60 (y + 16) (by omega)).trans f_Dr
  have f_Xs : w57 (y + 17) = aI G 1280 (fun q => ((mvF Xs 320 f0 t0 320 q : Nat) : Int)) := hp_Xs
  have hfr : ∀ j, j ≠ (y + 1) → j ≠ (y + 2) → j ≠ (y + 3) → j ≠ (y + 4) → j ≠ (y + 5) → j ≠ (y + 6) → j ≠ (y + 7) → j ≠ (y + 8) → j ≠ (y + 9) → j ≠ (y + 10) → j ≠ (y + 11) → j ≠ (y + 12) → j ≠ (y + 13) → j ≠ (y + 14) → j ≠ (y + 15) → j ≠ (y + 16) → j ≠ (y + 17) → w57 j = w j := fun j a0 a1 a2 a3 a4 a5 a6 a7 a8 a9 a10 a11 a12 a13 a14 a15 a16 => (hne60 j (by omega)).trans (hfr j a0 a1 a2 a3 a4 a5 a6 a7 a8 a9 a10 a11 a12 a13 a14 a15 a16)
  refine n_iconst hx hb dX7_copy_158 ?_
  refine lv_istore_n (lv' := [(3, .int (iI 0)), (0, .ref (ad y)), (1, .int (iI ((f0 : Nat) : Int))), (2, .int (iI ((t0 : Nat) : Int)))]) hx hb dX7_copy_159 rfl hl (by decide) rfl (fun ls hl => ?_)
  have lp61 : ∀ (fu : Nat), ∀ (q : Nat), ∀ (w62 : Nat → va_E) (H : Heap) (locs : List Loc), ∀ (ls : Array Slot), 4 - q < fu → q ≤ 4 → (∀ j, j ≠ (y + 1) → j ≠ (y + 2) → j ≠ (y + 3) → j ≠ (y + 4) → j ≠ (y + 5) → j ≠ (y + 6) → j ≠ (y + 7) → j ≠ (y + 8) → j ≠ (y + 9) → j ≠ (y + 10) → j ≠ (y + 11) → j ≠ (y + 12) → j ≠ (y + 13) → j ≠ (y + 14) → j ≠ (y + 15) → j ≠ (y + 16) → j ≠ (y + 17) → w62 j = w j) → w62 y = .inr (7, [.int (iI 0), .ref (ad (y + 1)), .ref (ad (y + 2)), .ref (ad (y + 3)), .ref (ad (y + 4)), .ref (ad (y + 5)), .ref (ad (y + 6)), .ref (ad (y + 7)), .ref (ad (y + 8)), .ref (ad (y + 9)), .ref (ad (y + 10)), .ref (ad (y + 11)), .ref (ad (y + 12)), .ref (ad (y + 13)), .ref (ad (y + 14)), .ref (ad (y + 15)), .ref (ad (y + 16)), .ref (ad (y + 17)), .ref (ad (y + 18)), .ref (ad (y + 19)), .ref (ad (y + 20)), .ref (ad (y + 21)), .ref (ad (y + 22)), .ref (ad (y + 23)), .ref (ad (y + 24)), .ref (ad (y + 25)), .ref (ad (y + 26))]) → w62 (y + 1) = aI G 8 (fun q => ((mvF Co 2 f0 t0 2 q : Nat) : Int)) → w62 (y + 2) = aI G 64 (fun q => ((mvF Va 16 f0 t0 16 q : Nat) : Int)) → w62 (y + 3) = aI G 8 (fun q => ((mvF Ra 2 f0 t0 2 q : Nat) : Int)) → w62 (y + 4) = aI G 4 (fun q => ((mvF Sl 1 f0 t0 1 q : Nat) : Int)) → w62 (y + 5) = aI G 4 (fun q => ((mvF Go 1 f0 t0 1 q : Nat) : Int)) → w62 (y + 6) = aI G 56 (fun q => ((mvF Pr 14 f0 t0 14 q : Nat) : Int)) → w62 (y + 7) = aI G 56 (fun q => ((mvF Ti 14 f0 t0 14 q : Nat) : Int)) → w62 (y + 8) = aI G 4 (fun q => ((mvF St 1 f0 t0 1 q : Nat) : Int)) → w62 (y + 9) = aI G 4 (fun q => ((mvF Tl 1 f0 t0 1 q : Nat) : Int)) → w62 (y + 10) = aI G 16 (fun q => ((mvF Ts 4 f0 t0 4 q : Nat) : Int)) → w62 (y + 11) = aJ G 16 (fun k => ((mvF Sc 4 f0 t0 q k : Nat) : Int)) → w62 (y + 12) = aJ G 16 (fun k => ((mvF Pd 4 f0 t0 q k : Nat) : Int)) → w62 (y + 13) = aI G 16 (fun q => ((mvF Ex 4 f0 t0 4 q : Nat) : Int)) → w62 (y + 14) = aI G 256 (fun q => ((mvF Ha 64 f0 t0 64 q : Nat) : Int)) → w62 (y + 15) = aI G 128 (fun q => ((mvF Ga 32 f0 t0 32 q : Nat) : Int)) → w62 (y + 16) = aI G 32 (fun q => ((mvF Dr 8 f0 t0 8 q : Nat) : Int)) → w62 (y + 17) = aI G 1280 (fun q => ((mvF Xs 320 f0 t0 320 q : Nat) : Int)) → va_P G.1 vwCl (nL N ad w62) H → va_S (nA N ad s.heap.size) s.heap H locs → lv_has ls 4 [(0, .ref (ad y)), (1, .int (iI ((f0 : Nat) : Int))), (2, .int (iI ((t0 : Nat) : Int))), (3, .int (iI ((q : Nat) : Int)))] → W p l e ({ frames := 1, cells := 0, slots := 0, locals := 24 } : Room) s m ([.ref (ad y), .int (iI ((f0 : Nat) : Int)), .int (iI ((t0 : Nat) : Int))] : List Value).toArray below meth cd H locs 0 0 Q (F0 m 160 ls []) := by
    intro fu
    induction fu with
    | zero =>
      intro q w62 H locs ls hfu hq hfr f_y f_Co f_Va f_Ra f_Sl f_Go f_Pr f_Ti f_St f_Tl f_Ts f_Sc f_Pd f_Ex f_Ha f_Ga f_Dr f_Xs hP hS hl
      exact absurd hfu (Nat.not_lt_zero _)
    | succ fu ih63 =>
      intro q w62 H locs ls hfu hq hfr f_y f_Co f_Va f_Ra f_Sl f_Go f_Pr f_Ti f_St f_Tl f_Ts f_Sc f_Pd f_Ex f_Ha f_Ga f_Dr f_Xs hP hS hl
      refine lv_iload_n hx hb dX7_copy_160 rfl (lv_at hl 3 rfl) ?_
      refine n_iconst hx hb dX7_copy_161 ?_
      refine n_icmp_ge (tgt := 211) hx hb dX7_copy_162 (by decide) (by omega) (by omega) (fun hc162 => ?_) (fun hc162 => ?_)
      · skip
        refine n_vretP hQ hx hb hr hlocks hP hS dX7_copy_211 ?_
        obtain rfl : q = 4 := by omega
        exact ⟨hfr, f_Co, f_Va, f_Ra, f_Sl, f_Go, f_Pr, f_Ti, f_St, f_Tl, f_Ts, f_Sc, f_Pd, f_Ex, f_Ha, f_Ga, f_Dr, f_Xs⟩
      · skip
        refine lv_aload_n hx hb dX7_copy_165 rfl (lv_at hl 0 rfl) ?_
        refine n_get hx hb hts u_X7 hown hK hP (by omega) f_y rfl 11 (by decide) (nT_m wf_X7_40) rfl dX7_copy_166 ?_
        refine n_iconst hx hb dX7_copy_169 ?_
        refine lv_iload_n hx hb dX7_copy_170 rfl (lv_at hl 2 rfl) ?_
        refine n_imul hx hb dX7_copy_171 ?_
        refine lv_iload_n hx hb dX7_copy_172 rfl (lv_at hl 3 rfl) ?_
        refine n_iadd hx hb dX7_copy_173 ?_
        refine lv_aload_n hx hb dX7_copy_174 rfl (lv_at hl 0 rfl) ?_
        refine n_get hx hb hts u_X7 hown hK hP (by omega) f_y rfl 11 (by decide) (nT_m wf_X7_40) rfl dX7_copy_175 ?_
        refine n_iconst hx hb dX7_copy_178 ?_
        refine lv_iload_n hx hb dX7_copy_179 rfl (lv_at hl 1 rfl) ?_
        refine n_imul hx hb dX7_copy_180 ?_
        refine lv_iload_n hx hb dX7_copy_181 rfl (lv_at hl 3 rfl) ?_
        refine n_iadd hx hb dX7_copy_182 ?_
        refine n_lald hx hb hK hP ((4 * f0) + q) (by omega) f_Sc (by omega) (by omega) (by decide) dX7_copy_183 ?_
        refine n_last hx hb hK hJ hP hS ((4 * t0) + q) (by omega) f_Sc (by omega) (by omega) (by decide) dX7_copy_184 (fun w64 H locs f_Sc hne65 hP hS => ?_)
        have f_y := (hne65 y (by omega)).trans f_y
        have f_Co := (hne65 (y + 1) (by omega)).trans f_Co
        have f_Va := (hne65 (y + 2) (by omega)).trans f_Va
        have f_Ra := (hne65 (y + 3) (by omega)).trans f_Ra
        have f_Sl := (hne65 (y + 4) (by omega)).trans f_Sl
        have f_Go := (hne65 (y + 5) (by omega)).trans f_Go
        have f_Pr := (hne65 (y + 6) (by omega)).trans f_Pr
        have f_Ti := (hne65 (y + 7) (by omega)).trans f_Ti
        have f_St := (hne65 (y + 8) (by omega)).trans f_St
        have f_Tl := (hne65 (y + 9) (by omega)).trans f_Tl
        have f_Ts := (hne65 (y + 10) (by omega)).trans f_Ts
        have f_Pd := (hne65 (y + 12) (by omega)).trans f_Pd
        have f_Ex := (hne65 (y + 13) (by omega)).trans f_Ex
        have f_Ha := (hne65 (y + 14) (by omega)).trans f_Ha
        have f_Ga := (hne65 (y + 15) (by omega)).trans f_Ga
        have f_Dr := (hne65 (y + 16) (by omega)).trans f_Dr
        have f_Xs := (hne65 (y + 17) (by omega)).trans f_Xs
        have hfr : ∀ j, j ≠ (y + 1) → j ≠ (y + 2) → j ≠ (y + 3) → j ≠ (y + 4) → j ≠ (y + 5) → j ≠ (y + 6) → j ≠ (y + 7) → j ≠ (y + 8) → j ≠ (y + 9) → j ≠ (y + 10) → j ≠ (y + 11) → j ≠ (y + 12) → j ≠ (y + 13) → j ≠ (y + 14) → j ≠ (y + 15) → j ≠ (y + 16) → j ≠ (y + 17) → w64 j = w j := fun j a0 a1 a2 a3 a4 a5 a6 a7 a8 a9 a10 a11 a12 a13 a14 a15 a16 => (hne65 j (by omega)).trans (hfr j a0 a1 a2 a3 a4 a5 a6 a7 a8 a9 a10 a11 a12 a13 a14 a15 a16)
        refine lv_aload_n hx hb dX7_copy_185 rfl (lv_at hl 0 rfl) ?_
        refine n_get hx hb hts u_X7 hown hK hP (by omega) f_y rfl 12 (by decide) (nT_m wf_X7_44) rfl dX7_copy_186 ?_
        refine n_iconst hx hb dX7_copy_189 ?_
        refine lv_iload_n hx hb dX7_copy_190 rfl (lv_at hl 2 rfl) ?_
        refine n_imul hx hb dX7_copy_191 ?_
        refine lv_iload_n hx hb dX7_copy_192 rfl (lv_at hl 3 rfl) ?_
        refine n_iadd hx hb dX7_copy_193 ?_
        refine lv_aload_n hx hb dX7_copy_194 rfl (lv_at hl 0 rfl) ?_
        refine n_get hx hb hts u_X7 hown hK hP (by omega) f_y rfl 12 (by decide) (nT_m wf_X7_44) rfl dX7_copy_195 ?_
        refine n_iconst hx hb dX7_copy_198 ?_
        refine lv_iload_n hx hb dX7_copy_199 rfl (lv_at hl 1 rfl) ?_
        refine n_imul hx hb dX7_copy_200 ?_
        refine lv_iload_n hx hb dX7_copy_201 rfl (lv_at hl 3 rfl) ?_
        refine n_iadd hx hb dX7_copy_202 ?_
        refine n_lald hx hb hK hP ((4 * f0) + q) (by omega) f_Pd (by omega) (by omega) (by decide) dX7_copy_203 ?_
        refine n_last hx hb hK hJ hP hS ((4 * t0) + q) (by omega) f_Pd (by omega) (by omega) (by decide) dX7_copy_204 (fun w66 H locs f_Pd hne67 hP hS => ?_)
        have f_y := (hne67 y (by omega)).trans f_y
        have f_Co := (hne67 (y + 1) (by omega)).trans f_Co
        have f_Va := (hne67 (y + 2) (by omega)).trans f_Va
        have f_Ra := (hne67 (y + 3) (by omega)).trans f_Ra
        have f_Sl := (hne67 (y + 4) (by omega)).trans f_Sl
        have f_Go := (hne67 (y + 5) (by omega)).trans f_Go
        have f_Pr := (hne67 (y + 6) (by omega)).trans f_Pr
        have f_Ti := (hne67 (y + 7) (by omega)).trans f_Ti
        have f_St := (hne67 (y + 8) (by omega)).trans f_St
        have f_Tl := (hne67 (y + 9) (by omega)).trans f_Tl
        have f_Ts := (hne67 (y + 10) (by omega)).trans f_Ts
        have f_Sc := (hne67 (y + 11) (by omega)).trans f_Sc
        have f_Ex := (hne67 (y + 13) (by omega)).trans f_Ex
        have f_Ha := (hne67 (y + 14) (by omega)).trans f_Ha
        have f_Ga := (hne67 (y + 15) (by omega)).trans f_Ga
        have f_Dr := (hne67 (y + 16) (by omega)).trans f_Dr
        have f_Xs := (hne67 (y + 17) (by omega)).trans f_Xs
        have hfr : ∀ j, j ≠ (y + 1) → j ≠ (y + 2) → j ≠ (y + 3) → j ≠ (y + 4) → j ≠ (y + 5) → j ≠ (y + 6) → j ≠ (y + 7) → j ≠ (y + 8) → j ≠ (y + 9) → j ≠ (y + 10) → j ≠ (y + 11) → j ≠ (y + 12) → j ≠ (y + 13) → j ≠ (y + 14) → j ≠ (y + 15) → j ≠ (y + 16) → j ≠ (y + 17) → w66 j = w j := fun j a0 a1 a2 a3 a4 a5 a6 a7 a8 a9 a10 a11 a12 a13 a14 a15 a16 => (hne67 j (by omega)).trans (hfr j a0 a1 a2 a3 a4 a5 a6 a7 a8 a9 a10 a11 a12 a13 a14 a15 a16)
        refine lv_iinc (v := iI (((q : Nat) : Int) + 1)) (lv' := [(3, .int (iI (((q : Nat) : Int) + 1))), (0, .ref (ad y)), (1, .int (iI ((f0 : Nat) : Int))), (2, .int (iI ((t0 : Nat) : Int)))]) hx hb dX7_copy_205 hl (k := 3) rfl (by first | exact iI_add _ _ | exact (iI_add _ _).trans (congrArg iI (by omega))) (by decide) rfl (fun ls hl => ?_)
        refine lv_goto (tgt := 160) hx hb dX7_copy_208 (by decide) ?_
        exact ih63 (q + 1) _ _ _ _ (by omega) (by omega) hfr f_y f_Co f_Va f_Ra f_Sl f_Go f_Pr f_Ti f_St f_Tl f_Ts (f_Sc.trans (congrArg (aJ G 16) (by rw [mvF_at (F := Sc) (by omega) (by omega)]; exact mvF_s Sc 4 f0 t0 q))) (f_Pd.trans (congrArg (aJ G 16) (by rw [mvF_at (F := Pd) (by omega) (by omega)]; exact mvF_s Pd 4 f0 t0 q))) f_Ex f_Ha f_Ga f_Dr f_Xs hP hS (by first | exact lv_sub hl [1, 2, 3, 0] rfl | exact lv_cast (lv_sub (l' := [(0, .ref (ad y)), (1, .int (iI ((f0 : Nat) : Int))), (2, .int (iI ((t0 : Nat) : Int))), (3, .int (iI (((q : Nat) : Int) + 1)))]) hl [1, 2, 3, 0] rfl) (lc_s (lc_s (lc_s (lc_i (show ((((q : Nat) : Int) + 1) : Int) = (((q + 1) : Nat) : Int) by omega) rfl)))))
  exact lp61 (4 - 0 + 1) 0 _ _ _ _ (Nat.lt_succ_self _) (by omega) hfr f_y f_Co f_Va f_Ra f_Sl f_Go f_Pr f_Ti f_St f_Tl f_Ts (f_Sc.trans (by rw [mvF_0])) (f_Pd.trans (by rw [mvF_0])) f_Ex f_Ha f_Ga f_Dr f_Xs hP hS (by first | exact lv_sub hl [1, 2, 3, 0] rfl | exact lv_cast (lv_sub (l' := [(0, .ref (ad y)), (1, .int (iI ((f0 : Nat) : Int))), (2, .int (iI ((t0 : Nat) : Int))), (3, .int (iI 0))]) hl [1, 2, 3, 0] rfl) (lc_s (lc_s (lc_s (lc_i (show (0 : Int) = ((0 : Nat) : Int) by omega) rfl)))))
set_option maxHeartbeats 4000000 in
set_option maxRecDepth 100000 in
theorem c_X7_image_no {l : Launch} {G : nG} {N : Nat} {ad : Nat → Nat} {w : Nat → va_E} {sz : Nat} (y : Nat) (z : Int) (hN : y + 26 < N) (hz : -2147483648 ≤ z ∧ z < 2147483648) (hno : ¬ (0 ≤ z ∧ z ≤ 2)) (f_y : w y = .inr (7, [.int (iI 0), .ref (ad (y + 1)), .ref (ad (y + 2)), .ref (ad (y + 3)), .ref (ad (y + 4)), .ref (ad (y + 5)), .ref (ad (y + 6)), .ref (ad (y + 7)), .ref (ad (y + 8)), .ref (ad (y + 9)), .ref (ad (y + 10)), .ref (ad (y + 11)), .ref (ad (y + 12)), .ref (ad (y + 13)), .ref (ad (y + 14)), .ref (ad (y + 15)), .ref (ad (y + 16)), .ref (ad (y + 17)), .ref (ad (y + 18)), .ref (ad (y + 19)), .ref (ad (y + 20)), .ref (ad (y + 21)), .ref (ad (y + 22)), .ref (ad (y + 23)), .ref (ad (y + 24)), .ref (ad (y + 25)), .ref (ad (y + 26))])) : Met l yX7_image wsX7_image ({ frames := 2, cells := 0, slots := 0, locals := 47 }) (va_Pc [.ref (ad y), .int (iI z)] (nB G N ad w sz)) (nPi G N ad sz (fun r u => (∀ j, u j = w j) ∧ (r = 0))) 0 0 (nA N ad sz) := by
  refine n_ent (cc := cX7_image) (maxL := 2) (ret := (some .boolean)) (by decide) rfl (Nat.le_of_ble_eq_true rfl) ?_
  intro p e s m below meth cd hx hb hr hml hlocks hts hown hnm hsz hP hK hI Q hQ ls hl
  have hown : s.vm.findClass RX7 = some m.cls := hown
  subst hsz
  have hJ := hI.J s.heap.size
  have hS : va_S (nA N ad s.heap.size) s.heap s.heap [] := va_S.rf
  have hfr : ∀ j, w j = w j := fun _  => rfl
  have hl : lv_has ls 2 [(0, .ref (ad y)), (1, .int (iI z))] := hl
  refine lv_aload_n hx hb dX7_image_0 rfl (lv_at hl 0 rfl) ?_
  refine n_iconst hx hb dX7_image_1 ?_
  refine n_put hx hb hts u_X7 tyX7 tyX7_ok nmX7 hown hK hJ hP hS (by omega) f_y rfl 0 (by decide) (nT_m wf_X7_90) rfl rfl rfl (Nat.le_of_ble_eq_true rfl) dX7_image_2 (fun w1 H locs f9 hne9 hP hS => ?_)
  have ew9 : w = w1 := funext fun j9 => (Decidable.em (j9 = y)).elim (fun h9 => by rw [h9, f9]; exact f_y) (fun h9 => (hne9 j9 h9).symm)
  subst ew9
  refine lv_iload_n hx hb dX7_image_5 rfl (lv_at hl 1 rfl) ?_
  refine n_iconst hx hb dX7_image_6 ?_
  refine n_iconst hx hb dX7_image_7 ?_
  refine n_rdF (va_runS (As := [.int (iI z), .int (iI 0), .int (iI 2)]) (rest := []) ⟨hx, hb, hml, hown, hts⟩ (c_X7_in z 0 2 (by omega) (by omega) (by omega)) (va_cwS 3 hts (nT_S wl_X7_98 wt_X7_in wn_X7 wc_X7_in) rfl rfl rfl (by decide +kernel) ⟨Nat.le_of_ble_eq_true rfl, Nat.le_of_ble_eq_true rfl⟩) preEq rfl rfl hl.1 rfl (lv_room (Nat.le_of_ble_eq_true rfl)) dX7_image_8 ⟨Nat.zero_le _, Nat.zero_le _⟩) ?_
  refine n_if_neB (tgt := 16) hx hb dX7_image_11 (by decide) (fun hc11 => ?_) (fun hc11 => ?_)
  · skip
    exact absurd hc11 (by omega)
  · skip
    refine n_iconst hx hb dX7_image_14 ?_
    refine n_zretP (t := False) hQ hx hb hr hlocks rfl hP hS dX7_image_15 ?_
    exact ⟨hfr, rfl⟩
set_option maxHeartbeats 4000000 in
set_option maxRecDepth 100000 in
theorem c_X7_image_yes {l : Launch} {G : nG} {N : Nat} {ad : Nat → Nat} {w : Nat → va_E} {sz : Nat} (y : Nat) (Co Va Ra Sl Go Pr Ti St Tl Ts Sc Pd Ex Ha Ga Dr Xs : Nat → Nat) (kp : Nat → Nat) (k0 : Nat) (hN : y + 26 < N) (hk : k0 < 3) (f_y : w y = .inr (7, [.int (iI 0), .ref (ad (y + 1)), .ref (ad (y + 2)), .ref (ad (y + 3)), .ref (ad (y + 4)), .ref (ad (y + 5)), .ref (ad (y + 6)), .ref (ad (y + 7)), .ref (ad (y + 8)), .ref (ad (y + 9)), .ref (ad (y + 10)), .ref (ad (y + 11)), .ref (ad (y + 12)), .ref (ad (y + 13)), .ref (ad (y + 14)), .ref (ad (y + 15)), .ref (ad (y + 16)), .ref (ad (y + 17)), .ref (ad (y + 18)), .ref (ad (y + 19)), .ref (ad (y + 20)), .ref (ad (y + 21)), .ref (ad (y + 22)), .ref (ad (y + 23)), .ref (ad (y + 24)), .ref (ad (y + 25)), .ref (ad (y + 26))])) (f_Co : w (y + 1) = aI G 8 (fun q => (Co q : Int))) (f_Va : w (y + 2) = aI G 64 (fun q => (Va q : Int))) (f_Ra : w (y + 3) = aI G 8 (fun q => (Ra q : Int))) (f_Sl : w (y + 4) = aI G 4 (fun q => (Sl q : Int))) (f_Go : w (y + 5) = aI G 4 (fun q => (Go q : Int))) (f_Pr : w (y + 6) = aI G 56 (fun q => (Pr q : Int))) (f_Ti : w (y + 7) = aI G 56 (fun q => (Ti q : Int))) (f_St : w (y + 8) = aI G 4 (fun q => (St q : Int))) (f_Tl : w (y + 9) = aI G 4 (fun q => (Tl q : Int))) (f_Ts : w (y + 10) = aI G 16 (fun q => (Ts q : Int))) (f_Sc : w (y + 11) = aJ G 16 (fun q => (Sc q : Int))) (f_Pd : w (y + 12) = aJ G 16 (fun q => (Pd q : Int))) (f_Ex : w (y + 13) = aI G 16 (fun q => (Ex q : Int))) (f_Ha : w (y + 14) = aI G 256 (fun q => (Ha q : Int))) (f_Ga : w (y + 15) = aI G 128 (fun q => (Ga q : Int))) (f_Dr : w (y + 16) = aI G 32 (fun q => (Dr q : Int))) (f_Xs : w (y + 17) = aI G 1280 (fun q => (Xs q : Int))) (f_kp : w (y + 26) = aZ G 3 (fun q => (kp q : Int))) : Met l yX7_image wsX7_image ({ frames := 2, cells := 0, slots := 0, locals := 47 }) (va_Pc [.ref (ad y), .int (iI ((k0 : Nat) : Int))] (nB G N ad w sz)) (nPi G N ad sz (fun r u => (∀ j, j ≠ (y + 1) → j ≠ (y + 2) → j ≠ (y + 3) → j ≠ (y + 4) → j ≠ (y + 5) → j ≠ (y + 6) → j ≠ (y + 7) → j ≠ (y + 8) → j ≠ (y + 9) → j ≠ (y + 10) → j ≠ (y + 11) → j ≠ (y + 12) → j ≠ (y + 13) → j ≠ (y + 14) → j ≠ (y + 15) → j ≠ (y + 16) → j ≠ (y + 17) → j ≠ (y + 26) → u j = w j) ∧ (r = 1) ∧ (u (y + 1) = aI G 8 (fun q => ((mvF Co 2 0 (k0 + 1) 2 q : Nat) : Int))) ∧ (u (y + 2) = aI G 64 (fun q => ((mvF Va 16 0 (k0 + 1) 16 q : Nat) : Int))) ∧ (u (y + 3) = aI G 8 (fun q => ((mvF Ra 2 0 (k0 + 1) 2 q : Nat) : Int))) ∧ (u (y + 4) = aI G 4 (fun q => ((mvF Sl 1 0 (k0 + 1) 1 q : Nat) : Int))) ∧ (u (y + 5) = aI G 4 (fun q => ((mvF Go 1 0 (k0 + 1) 1 q : Nat) : Int))) ∧ (u (y + 6) = aI G 56 (fun q => ((mvF Pr 14 0 (k0 + 1) 14 q : Nat) : Int))) ∧ (u (y + 7) = aI G 56 (fun q => ((mvF Ti 14 0 (k0 + 1) 14 q : Nat) : Int))) ∧ (u (y + 8) = aI G 4 (fun q => ((mvF St 1 0 (k0 + 1) 1 q : Nat) : Int))) ∧ (u (y + 9) = aI G 4 (fun q => ((mvF Tl 1 0 (k0 + 1) 1 q : Nat) : Int))) ∧ (u (y + 10) = aI G 16 (fun q => ((mvF Ts 4 0 (k0 + 1) 4 q : Nat) : Int))) ∧ (u (y + 11) = aJ G 16 (fun q => ((mvF Sc 4 0 (k0 + 1) 4 q : Nat) : Int))) ∧ (u (y + 12) = aJ G 16 (fun q => ((mvF Pd 4 0 (k0 + 1) 4 q : Nat) : Int))) ∧ (u (y + 13) = aI G 16 (fun q => ((mvF Ex 4 0 (k0 + 1) 4 q : Nat) : Int))) ∧ (u (y + 14) = aI G 256 (fun q => ((mvF Ha 64 0 (k0 + 1) 64 q : Nat) : Int))) ∧ (u (y + 15) = aI G 128 (fun q => ((mvF Ga 32 0 (k0 + 1) 32 q : Nat) : Int))) ∧ (u (y + 16) = aI G 32 (fun q => ((mvF Dr 8 0 (k0 + 1) 8 q : Nat) : Int))) ∧ (u (y + 17) = aI G 1280 (fun q => ((mvF Xs 320 0 (k0 + 1) 320 q : Nat) : Int))) ∧ (u (y + 26) = aZ G 3 (fun q => ((va_up kp k0 1 q : Nat) : Int))))) 0 0 (nA N ad sz) := by
  refine n_ent (cc := cX7_image) (maxL := 2) (ret := (some .boolean)) (by decide) rfl (Nat.le_of_ble_eq_true rfl) ?_
  intro p e s m below meth cd hx hb hr hml hlocks hts hown hnm hsz hP hK hI Q hQ ls hl
  have hown : s.vm.findClass RX7 = some m.cls := hown
  subst hsz
  have hJ := hI.J s.heap.size
  have hS : va_S (nA N ad s.heap.size) s.heap s.heap [] := va_S.rf
  have hfr : ∀ j, j ≠ (y + 1) → j ≠ (y + 2) → j ≠ (y + 3) → j ≠ (y + 4) → j ≠ (y + 5) → j ≠ (y + 6) → j ≠ (y + 7) → j ≠ (y + 8) → j ≠ (y + 9) → j ≠ (y + 10) → j ≠ (y + 11) → j ≠ (y + 12) → j ≠ (y + 13) → j ≠ (y + 14) → j ≠ (y + 15) → j ≠ (y + 16) → j ≠ (y + 17) → j ≠ (y + 26) → w j = w j := fun _ _ _ _ _ _ _ _ _ _ _ _ _ _ _ _ _ _ _ => rfl
  have hl : lv_has ls 2 [(0, .ref (ad y)), (1, .int (iI ((k0 : Nat) : Int)))] := hl
  refine lv_aload_n hx hb dX7_image_0 rfl (lv_at hl 0 rfl) ?_
  refine n_iconst hx hb dX7_image_1 ?_
  refine n_put hx hb hts u_X7 tyX7 tyX7_ok nmX7 hown hK hJ hP hS (by omega) f_y rfl 0 (by decide) (nT_m wf_X7_90) rfl rfl rfl (Nat.le_of_ble_eq_true rfl) dX7_image_2 (fun w1 H locs f9 hne9 hP hS => ?_)
  have ew9 : w = w1 := funext fun j9 => (Decidable.em (j9 = y)).elim (fun h9 => by rw [h9, f9]; exact f_y) (fun h9 => (hne9 j9 h9).symm)
  subst ew9
  refine lv_iload_n hx hb dX7_image_5 rfl (lv_at hl 1 rfl) ?_
  refine n_iconst hx hb dX7_image_6 ?_
  refine n_iconst hx hb dX7_image_7 ?_
  refine n_rdF (va_runS (As := [.int (iI ((k0 : Nat) : Int)), .int (iI 0), .int (iI 2)]) (rest := []) ⟨hx, hb, hml, hown, hts⟩ (c_X7_in ((k0 : Nat) : Int) 0 2 (by omega) (by omega) (by omega)) (va_cwS 3 hts (nT_S wl_X7_98 wt_X7_in wn_X7 wc_X7_in) rfl rfl rfl (by decide +kernel) ⟨Nat.le_of_ble_eq_true rfl, Nat.le_of_ble_eq_true rfl⟩) preEq rfl rfl hl.1 rfl (lv_room (Nat.le_of_ble_eq_true rfl)) dX7_image_8 ⟨Nat.zero_le _, Nat.zero_le _⟩) ?_
  refine n_if_neB (tgt := 16) hx hb dX7_image_11 (by decide) (fun hc11 => ?_) (fun hc11 => ?_)
  · skip
    refine lv_aload_n hx hb dX7_image_16 rfl (lv_at hl 0 rfl) ?_
    refine n_iconst hx hb dX7_image_17 ?_
    refine lv_iload_n hx hb dX7_image_18 rfl (lv_at hl 1 rfl) ?_
    refine n_iconst hx hb dX7_image_19 ?_
    refine n_iadd hx hb dX7_image_20 ?_
    refine n_cV (va_runV (As := [.int (iI 0), .int (iI (((k0 : Nat) : Int) + 1))]) (rest := []) ⟨hx, hb, hml, hown, hts⟩ (c_X7_copy y Co Va Ra Sl Go Pr Ti St Tl Ts Sc Pd Ex Ha Ga Dr Xs 0 (k0 + 1) (by omega) (by omega) f_y f_Co f_Va f_Ra f_Sl f_Go f_Pr f_Ti f_St f_Tl f_Ts f_Sc f_Pd f_Ex f_Ha f_Ga f_Dr f_Xs) (cwV 2 hts (nT_V wl_X7_155 wi_X7_copy ws_X7_copy wn_X7 wc_X7_copy) rfl rfl rfl (by decide +kernel) ⟨Nat.le_of_ble_eq_true rfl, Nat.le_of_ble_eq_true rfl⟩) (nB.preV hK hI hP (by omega) f_y rfl rfl) rfl rfl hl.1 rfl (lv_room (Nat.le_of_ble_eq_true rfl)) dX7_image_21 ⟨Nat.zero_le _, Nat.zero_le _⟩) hS (fun w3 H locs hq5 hP hS => ?_)
    obtain ⟨hne6, hp_Co, hp_Va, hp_Ra, hp_Sl, hp_Go, hp_Pr, hp_Ti, hp_St, hp_Tl, hp_Ts, hp_Sc, hp_Pd, hp_Ex, hp_Ha, hp_Ga, hp_Dr, hp_Xs⟩ := hq5
    have f_y := (hne6 y (by omega) (by omega) (by omega) (by omega) (by omega) (by omega) (by omega) (by omega) (by omega) (by omega) (by omega) (by omega) (by omega) (by omega) (by omega) (by omega) (by omega)).trans f_y
    have f_kp := (hne6 (y + 26) (by omega) (by omega) (by omega) (by omega) (by omega) (by omega) (by omega) (by omega) (by omega) (by omega) (by omega) (by omega) (by omega) (by omega) (by omega) (by omega) (by omega)).trans f_kp
    have f_Co : w3 (y + 1) = aI G 8 (fun q => ((mvF Co 2 0 (k0 + 1) 2 q : Nat) : Int)) := hp_Co
    have f_Va : w3 (y + 2) = aI G 64 (fun q => ((mvF Va 16 0 (k0 + 1) 16 q : Nat) : Int)) := hp_Va
    have f_Ra : w3 (y + 3) = aI G 8 (fun q => ((mvF Ra 2 0 (k0 + 1) 2 q : Nat) : Int)) := hp_Ra
    have f_Sl : w3 (y + 4) = aI G 4 (fun q => ((mvF Sl 1 0 (k0 + 1) 1 q : Nat) : Int)) := hp_Sl
    have f_Go : w3 (y + 5) = aI G 4 (fun q => ((mvF Go 1 0 (k0 + 1) 1 q : Nat) : Int)) := hp_Go
    have f_Pr : w3 (y + 6) = aI G 56 (fun q => ((mvF Pr 14 0 (k0 + 1) 14 q : Nat) : Int)) := hp_Pr
    have f_Ti : w3 (y + 7) = aI G 56 (fun q => ((mvF Ti 14 0 (k0 + 1) 14 q : Nat) : Int)) := hp_Ti
    have f_St : w3 (y + 8) = aI G 4 (fun q => ((mvF St 1 0 (k0 + 1) 1 q : Nat) : Int)) := hp_St
    have f_Tl : w3 (y + 9) = aI G 4 (fun q => ((mvF Tl 1 0 (k0 + 1) 1 q : Nat) : Int)) := hp_Tl
    have f_Ts : w3 (y + 10) = aI G 16 (fun q => ((mvF Ts 4 0 (k0 + 1) 4 q : Nat) : Int)) := hp_Ts
    have f_Sc : w3 (y + 11) = aJ G 16 (fun q => ((mvF Sc 4 0 (k0 + 1) 4 q : Nat) : Int)) := hp_Sc
    have f_Pd : w3 (y + 12) = aJ G 16 (fun q => ((mvF Pd 4 0 (k0 + 1) 4 q : Nat) : Int)) := hp_Pd
    have f_Ex : w3 (y + 13) = aI G 16 (fun q => ((mvF Ex 4 0 (k0 + 1) 4 q : Nat) : Int)) := hp_Ex
    have f_Ha : w3 (y + 14) = aI G 256 (fun q => ((mvF Ha 64 0 (k0 + 1) 64 q : Nat) : Int)) := hp_Ha
    have f_Ga : w3 (y + 15) = aI G 128 (fun q => ((mvF Ga 32 0 (k0 + 1) 32 q : Nat) : Int)) := hp_Ga
    have f_Dr : w3 (y + 16) = aI G 32 (fun q => ((mvF Dr 8 0 (k0 + 1) 8 q : Nat) : Int)) := hp_Dr
    have f_Xs : w3 (y + 17) = aI G 1280 (fun q => ((mvF Xs 320 0 (k0 + 1) 320 q : Nat) : Int)) := hp_Xs
    have hfr : ∀ j, j ≠ (y + 1) → j ≠ (y + 2) → j ≠ (y + 3) → j ≠ (y + 4) → j ≠ (y + 5) → j ≠ (y + 6) → j ≠ (y + 7) → j ≠ (y + 8) → j ≠ (y + 9) → j ≠ (y + 10) → j ≠ (y + 11) → j ≠ (y + 12) → j ≠ (y + 13) → j ≠ (y + 14) → j ≠ (y + 15) → j ≠ (y + 16) → j ≠ (y + 17) → j ≠ (y + 26) → w3 j = w j := fun j a0 a1 a2 a3 a4 a5 a6 a7 a8 a9 a10 a11 a12 a13 a14 a15 a16 a17 => (hne6 j (by omega) (by omega) (by omega) (by omega) (by omega) (by omega) (by omega) (by omega) (by omega) (by omega) (by omega) (by omega) (by omega) (by omega) (by omega) (by omega) (by omega)).trans (hfr j a0 a1 a2 a3 a4 a5 a6 a7 a8 a9 a10 a11 a12 a13 a14 a15 a16 a17)
    refine lv_aload_n hx hb dX7_image_24 rfl (lv_at hl 0 rfl) ?_
    refine n_get hx hb hts u_X7 hown hK hP (by omega) f_y rfl 26 (by decide) (nT_m wf_X7_86) rfl dX7_image_25 ?_
    refine lv_iload_n hx hb dX7_image_28 rfl (lv_at hl 1 rfl) ?_
    refine n_iconst hx hb dX7_image_29 ?_
    refine n_zast hx hb hK hJ hP hS k0 (by omega) f_kp (by omega) (by omega) (by decide) (by decide) dX7_image_30 (fun w7 H locs f_kp hne8 hP hS => ?_)
    have f_y := (hne8 y (by omega)).trans f_y
    have f_Co := (hne8 (y + 1) (by omega)).trans f_Co
    have f_Va := (hne8 (y + 2) (by omega)).trans f_Va
    have f_Ra := (hne8 (y + 3) (by omega)).trans f_Ra
    have f_Sl := (hne8 (y + 4) (by omega)).trans f_Sl
    have f_Go := (hne8 (y + 5) (by omega)).trans f_Go
    have f_Pr := (hne8 (y + 6) (by omega)).trans f_Pr
    have f_Ti := (hne8 (y + 7) (by omega)).trans f_Ti
    have f_St := (hne8 (y + 8) (by omega)).trans f_St
    have f_Tl := (hne8 (y + 9) (by omega)).trans f_Tl
    have f_Ts := (hne8 (y + 10) (by omega)).trans f_Ts
    have f_Sc := (hne8 (y + 11) (by omega)).trans f_Sc
    have f_Pd := (hne8 (y + 12) (by omega)).trans f_Pd
    have f_Ex := (hne8 (y + 13) (by omega)).trans f_Ex
    have f_Ha := (hne8 (y + 14) (by omega)).trans f_Ha
    have f_Ga := (hne8 (y + 15) (by omega)).trans f_Ga
    have f_Dr := (hne8 (y + 16) (by omega)).trans f_Dr
    have f_Xs := (hne8 (y + 17) (by omega)).trans f_Xs
    have hfr : ∀ j, j ≠ (y + 1) → j ≠ (y + 2) → j ≠ (y + 3) → j ≠ (y + 4) → j ≠ (y + 5) → j ≠ (y + 6) → j ≠ (y + 7) → j ≠ (y + 8) → j ≠ (y + 9) → j ≠ (y + 10) → j ≠ (y + 11) → j ≠ (y + 12) → j ≠ (y + 13) → j ≠ (y + 14) → j ≠ (y + 15) → j ≠ (y + 16) → j ≠ (y + 17) → j ≠ (y + 26) → w7 j = w j := fun j a0 a1 a2 a3 a4 a5 a6 a7 a8 a9 a10 a11 a12 a13 a14 a15 a16 a17 => (hne8 j (by omega)).trans (hfr j a0 a1 a2 a3 a4 a5 a6 a7 a8 a9 a10 a11 a12 a13 a14 a15 a16 a17)
    refine n_iconst hx hb dX7_image_31 ?_
    refine n_zretP (t := True) hQ hx hb hr hlocks rfl hP hS dX7_image_32 ?_
    exact ⟨hfr, rfl, f_Co, f_Va, f_Ra, f_Sl, f_Go, f_Pr, f_Ti, f_St, f_Tl, f_Ts, f_Sc, f_Pd, f_Ex, f_Ha, f_Ga, f_Dr, f_Xs, f_kp.trans (congrArg (aZ G 3) (upN kp k0 1))⟩
  · skip
    exact absurd hc11 (by omega)
set_option maxHeartbeats 4000000 in
set_option maxRecDepth 100000 in
theorem c_X7_again_no {l : Launch} {G : nG} {N : Nat} {ad : Nat → Nat} {w : Nat → va_E} {sz : Nat} (y : Nat) (kp : Nat → Nat) (z : Int) (hN : y + 26 < N) (hz : -2147483648 ≤ z ∧ z < 2147483648) (hkp : ∀ k, kp k ≤ 1) (hno : ¬ ((0 ≤ z ∧ z ≤ 2) ∧ kp z.toNat = 1)) (f_y : w y = .inr (7, [.int (iI 0), .ref (ad (y + 1)), .ref (ad (y + 2)), .ref (ad (y + 3)), .ref (ad (y + 4)), .ref (ad (y + 5)), .ref (ad (y + 6)), .ref (ad (y + 7)), .ref (ad (y + 8)), .ref (ad (y + 9)), .ref (ad (y + 10)), .ref (ad (y + 11)), .ref (ad (y + 12)), .ref (ad (y + 13)), .ref (ad (y + 14)), .ref (ad (y + 15)), .ref (ad (y + 16)), .ref (ad (y + 17)), .ref (ad (y + 18)), .ref (ad (y + 19)), .ref (ad (y + 20)), .ref (ad (y + 21)), .ref (ad (y + 22)), .ref (ad (y + 23)), .ref (ad (y + 24)), .ref (ad (y + 25)), .ref (ad (y + 26))])) (f_kp : w (y + 26) = aZ G 3 (fun q => (kp q : Int))) : Met l yX7_again wsX7_again ({ frames := 2, cells := 0, slots := 0, locals := 47 }) (va_Pc [.ref (ad y), .int (iI z)] (nB G N ad w sz)) (nPi G N ad sz (fun r u => (∀ j, u j = w j) ∧ (r = 0))) 0 0 (nA N ad sz) := by
  refine n_ent (cc := cX7_again) (maxL := 2) (ret := (some .boolean)) (by decide) rfl (Nat.le_of_ble_eq_true rfl) ?_
  intro p e s m below meth cd hx hb hr hml hlocks hts hown hnm hsz hP hK hI Q hQ ls hl
  have hown : s.vm.findClass RX7 = some m.cls := hown
  subst hsz
  have hJ := hI.J s.heap.size
  have hS : va_S (nA N ad s.heap.size) s.heap s.heap [] := va_S.rf
  have hfr : ∀ j, w j = w j := fun _  => rfl
  have hl : lv_has ls 2 [(0, .ref (ad y)), (1, .int (iI z))] := hl
  refine lv_aload_n hx hb dX7_again_0 rfl (lv_at hl 0 rfl) ?_
  refine n_iconst hx hb dX7_again_1 ?_
  refine n_put hx hb hts u_X7 tyX7 tyX7_ok nmX7 hown hK hJ hP hS (by omega) f_y rfl 0 (by decide) (nT_m wf_X7_90) rfl rfl rfl (Nat.le_of_ble_eq_true rfl) dX7_again_2 (fun w1 H locs f9 hne9 hP hS => ?_)
  have ew9 : w = w1 := funext fun j9 => (Decidable.em (j9 = y)).elim (fun h9 => by rw [h9, f9]; exact f_y) (fun h9 => (hne9 j9 h9).symm)
  subst ew9
  refine lv_iload_n hx hb dX7_again_5 rfl (lv_at hl 1 rfl) ?_
  refine n_iconst hx hb dX7_again_6 ?_
  refine n_iconst hx hb dX7_again_7 ?_
  refine n_rdF (va_runS (As := [.int (iI z), .int (iI 0), .int (iI 2)]) (rest := []) ⟨hx, hb, hml, hown, hts⟩ (c_X7_in z 0 2 (by omega) (by omega) (by omega)) (va_cwS 3 hts (nT_S wl_X7_98 wt_X7_in wn_X7 wc_X7_in) rfl rfl rfl (by decide +kernel) ⟨Nat.le_of_ble_eq_true rfl, Nat.le_of_ble_eq_true rfl⟩) preEq rfl rfl hl.1 rfl (lv_room (Nat.le_of_ble_eq_true rfl)) dX7_again_8 ⟨Nat.zero_le _, Nat.zero_le _⟩) ?_
  refine n_if_eqB (tgt := 23) hx hb dX7_again_11 (by decide) (fun hc11 => ?_) (fun hc11 => ?_)
  · skip
    refine n_iconst hx hb dX7_again_23 ?_
    refine n_zretP (t := False) hQ hx hb hr hlocks rfl hP hS dX7_again_24 ?_
    exact ⟨hfr, rfl⟩
  · skip
    refine lv_aload_n hx hb dX7_again_14 rfl (lv_at hl 0 rfl) ?_
    refine n_get hx hb hts u_X7 hown hK hP (by omega) f_y rfl 26 (by decide) (nT_m wf_X7_86) rfl dX7_again_15 ?_
    refine lv_iload_n hx hb dX7_again_18 rfl (lv_at hl 1 rfl) ?_
    refine n_zald hx hb hK hP z.toNat (by omega) f_kp (by omega) (by omega) (by decide) dX7_again_19 ?_
    have ho3 := hkp z.toNat
    refine n_if_ne (tgt := 25) hx hb dX7_again_20 (by decide) (by omega) (fun hc20 => ?_) (fun hc20 => ?_)
    · skip
      omega
    · skip
      refine n_iconst hx hb dX7_again_23 ?_
      refine n_zretP (t := False) hQ hx hb hr hlocks rfl hP hS dX7_again_24 ?_
      exact ⟨hfr, rfl⟩
set_option maxHeartbeats 4000000 in
set_option maxRecDepth 100000 in
theorem c_X7_again_yes {l : Launch} {G : nG} {N : Nat} {ad : Nat → Nat} {w : Nat → va_E} {sz : Nat} (y : Nat) (Co Va Ra Sl Go Pr Ti St Tl Ts Sc Pd Ex Ha Ga Dr Xs : Nat → Nat) (kp : Nat → Nat) (k0 : Nat) (hN : y + 26 < N) (hk : k0 < 3) (hkp : ∀ k, kp k ≤ 1) (hkk : kp k0 = 1) (f_y : w y = .inr (7, [.int (iI 0), .ref (ad (y + 1)), .ref (ad (y + 2)), .ref (ad (y + 3)), .ref (ad (y + 4)), .ref (ad (y + 5)), .ref (ad (y + 6)), .ref (ad (y + 7)), .ref (ad (y + 8)), .ref (ad (y + 9)), .ref (ad (y + 10)), .ref (ad (y + 11)), .ref (ad (y + 12)), .ref (ad (y + 13)), .ref (ad (y + 14)), .ref (ad (y + 15)), .ref (ad (y + 16)), .ref (ad (y + 17)), .ref (ad (y + 18)), .ref (ad (y + 19)), .ref (ad (y + 20)), .ref (ad (y + 21)), .ref (ad (y + 22)), .ref (ad (y + 23)), .ref (ad (y + 24)), .ref (ad (y + 25)), .ref (ad (y + 26))])) (f_Co : w (y + 1) = aI G 8 (fun q => (Co q : Int))) (f_Va : w (y + 2) = aI G 64 (fun q => (Va q : Int))) (f_Ra : w (y + 3) = aI G 8 (fun q => (Ra q : Int))) (f_Sl : w (y + 4) = aI G 4 (fun q => (Sl q : Int))) (f_Go : w (y + 5) = aI G 4 (fun q => (Go q : Int))) (f_Pr : w (y + 6) = aI G 56 (fun q => (Pr q : Int))) (f_Ti : w (y + 7) = aI G 56 (fun q => (Ti q : Int))) (f_St : w (y + 8) = aI G 4 (fun q => (St q : Int))) (f_Tl : w (y + 9) = aI G 4 (fun q => (Tl q : Int))) (f_Ts : w (y + 10) = aI G 16 (fun q => (Ts q : Int))) (f_Sc : w (y + 11) = aJ G 16 (fun q => (Sc q : Int))) (f_Pd : w (y + 12) = aJ G 16 (fun q => (Pd q : Int))) (f_Ex : w (y + 13) = aI G 16 (fun q => (Ex q : Int))) (f_Ha : w (y + 14) = aI G 256 (fun q => (Ha q : Int))) (f_Ga : w (y + 15) = aI G 128 (fun q => (Ga q : Int))) (f_Dr : w (y + 16) = aI G 32 (fun q => (Dr q : Int))) (f_Xs : w (y + 17) = aI G 1280 (fun q => (Xs q : Int))) (f_kp : w (y + 26) = aZ G 3 (fun q => (kp q : Int))) : Met l yX7_again wsX7_again ({ frames := 2, cells := 0, slots := 0, locals := 47 }) (va_Pc [.ref (ad y), .int (iI ((k0 : Nat) : Int))] (nB G N ad w sz)) (nPi G N ad sz (fun r u => (∀ j, j ≠ (y + 1) → j ≠ (y + 2) → j ≠ (y + 3) → j ≠ (y + 4) → j ≠ (y + 5) → j ≠ (y + 6) → j ≠ (y + 7) → j ≠ (y + 8) → j ≠ (y + 9) → j ≠ (y + 10) → j ≠ (y + 11) → j ≠ (y + 12) → j ≠ (y + 13) → j ≠ (y + 14) → j ≠ (y + 15) → j ≠ (y + 16) → j ≠ (y + 17) → u j = w j) ∧ (r = 1) ∧ (u (y + 1) = aI G 8 (fun q => ((mvF Co 2 (k0 + 1) 0 2 q : Nat) : Int))) ∧ (u (y + 2) = aI G 64 (fun q => ((mvF Va 16 (k0 + 1) 0 16 q : Nat) : Int))) ∧ (u (y + 3) = aI G 8 (fun q => ((mvF Ra 2 (k0 + 1) 0 2 q : Nat) : Int))) ∧ (u (y + 4) = aI G 4 (fun q => ((mvF Sl 1 (k0 + 1) 0 1 q : Nat) : Int))) ∧ (u (y + 5) = aI G 4 (fun q => ((mvF Go 1 (k0 + 1) 0 1 q : Nat) : Int))) ∧ (u (y + 6) = aI G 56 (fun q => ((mvF Pr 14 (k0 + 1) 0 14 q : Nat) : Int))) ∧ (u (y + 7) = aI G 56 (fun q => ((mvF Ti 14 (k0 + 1) 0 14 q : Nat) : Int))) ∧ (u (y + 8) = aI G 4 (fun q => ((mvF St 1 (k0 + 1) 0 1 q : Nat) : Int))) ∧ (u (y + 9) = aI G 4 (fun q => ((mvF Tl 1 (k0 + 1) 0 1 q : Nat) : Int))) ∧ (u (y + 10) = aI G 16 (fun q => ((mvF Ts 4 (k0 + 1) 0 4 q : Nat) : Int))) ∧ (u (y + 11) = aJ G 16 (fun q => ((mvF Sc 4 (k0 + 1) 0 4 q : Nat) : Int))) ∧ (u (y + 12) = aJ G 16 (fun q => ((mvF Pd 4 (k0 + 1) 0 4 q : Nat) : Int))) ∧ (u (y + 13) = aI G 16 (fun q => ((mvF Ex 4 (k0 + 1) 0 4 q : Nat) : Int))) ∧ (u (y + 14) = aI G 256 (fun q => ((mvF Ha 64 (k0 + 1) 0 64 q : Nat) : Int))) ∧ (u (y + 15) = aI G 128 (fun q => ((mvF Ga 32 (k0 + 1) 0 32 q : Nat) : Int))) ∧ (u (y + 16) = aI G 32 (fun q => ((mvF Dr 8 (k0 + 1) 0 8 q : Nat) : Int))) ∧ (u (y + 17) = aI G 1280 (fun q => ((mvF Xs 320 (k0 + 1) 0 320 q : Nat) : Int))))) 0 0 (nA N ad sz) := by
  refine n_ent (cc := cX7_again) (maxL := 2) (ret := (some .boolean)) (by decide) rfl (Nat.le_of_ble_eq_true rfl) ?_
  intro p e s m below meth cd hx hb hr hml hlocks hts hown hnm hsz hP hK hI Q hQ ls hl
  have hown : s.vm.findClass RX7 = some m.cls := hown
  subst hsz
  have hJ := hI.J s.heap.size
  have hS : va_S (nA N ad s.heap.size) s.heap s.heap [] := va_S.rf
  have hfr : ∀ j, j ≠ (y + 1) → j ≠ (y + 2) → j ≠ (y + 3) → j ≠ (y + 4) → j ≠ (y + 5) → j ≠ (y + 6) → j ≠ (y + 7) → j ≠ (y + 8) → j ≠ (y + 9) → j ≠ (y + 10) → j ≠ (y + 11) → j ≠ (y + 12) → j ≠ (y + 13) → j ≠ (y + 14) → j ≠ (y + 15) → j ≠ (y + 16) → j ≠ (y + 17) → w j = w j := fun _ _ _ _ _ _ _ _ _ _ _ _ _ _ _ _ _ _ => rfl
  have hl : lv_has ls 2 [(0, .ref (ad y)), (1, .int (iI ((k0 : Nat) : Int)))] := hl
  refine lv_aload_n hx hb dX7_again_0 rfl (lv_at hl 0 rfl) ?_
  refine n_iconst hx hb dX7_again_1 ?_
  refine n_put hx hb hts u_X7 tyX7 tyX7_ok nmX7 hown hK hJ hP hS (by omega) f_y rfl 0 (by decide) (nT_m wf_X7_90) rfl rfl rfl (Nat.le_of_ble_eq_true rfl) dX7_again_2 (fun w1 H locs f9 hne9 hP hS => ?_)
  have ew9 : w = w1 := funext fun j9 => (Decidable.em (j9 = y)).elim (fun h9 => by rw [h9, f9]; exact f_y) (fun h9 => (hne9 j9 h9).symm)
  subst ew9
  refine lv_iload_n hx hb dX7_again_5 rfl (lv_at hl 1 rfl) ?_
  refine n_iconst hx hb dX7_again_6 ?_
  refine n_iconst hx hb dX7_again_7 ?_
  refine n_rdF (va_runS (As := [.int (iI ((k0 : Nat) : Int)), .int (iI 0), .int (iI 2)]) (rest := []) ⟨hx, hb, hml, hown, hts⟩ (c_X7_in ((k0 : Nat) : Int) 0 2 (by omega) (by omega) (by omega)) (va_cwS 3 hts (nT_S wl_X7_98 wt_X7_in wn_X7 wc_X7_in) rfl rfl rfl (by decide +kernel) ⟨Nat.le_of_ble_eq_true rfl, Nat.le_of_ble_eq_true rfl⟩) preEq rfl rfl hl.1 rfl (lv_room (Nat.le_of_ble_eq_true rfl)) dX7_again_8 ⟨Nat.zero_le _, Nat.zero_le _⟩) ?_
  refine n_if_eqB (tgt := 23) hx hb dX7_again_11 (by decide) (fun hc11 => ?_) (fun hc11 => ?_)
  · skip
    exact absurd hc11 (by omega)
  · skip
    refine lv_aload_n hx hb dX7_again_14 rfl (lv_at hl 0 rfl) ?_
    refine n_get hx hb hts u_X7 hown hK hP (by omega) f_y rfl 26 (by decide) (nT_m wf_X7_86) rfl dX7_again_15 ?_
    refine lv_iload_n hx hb dX7_again_18 rfl (lv_at hl 1 rfl) ?_
    refine n_zald hx hb hK hP k0 (by omega) f_kp (by omega) (by omega) (by decide) dX7_again_19 ?_
    have ho3 := hkp k0
    refine n_if_ne (tgt := 25) hx hb dX7_again_20 (by decide) (by omega) (fun hc20 => ?_) (fun hc20 => ?_)
    · skip
      refine lv_aload_n hx hb dX7_again_25 rfl (lv_at hl 0 rfl) ?_
      refine lv_iload_n hx hb dX7_again_26 rfl (lv_at hl 1 rfl) ?_
      refine n_iconst hx hb dX7_again_27 ?_
      refine n_iadd hx hb dX7_again_28 ?_
      refine n_iconst hx hb dX7_again_29 ?_
      refine n_cV (va_runV (As := [.int (iI (((k0 : Nat) : Int) + 1)), .int (iI 0)]) (rest := []) ⟨hx, hb, hml, hown, hts⟩ (c_X7_copy y Co Va Ra Sl Go Pr Ti St Tl Ts Sc Pd Ex Ha Ga Dr Xs (k0 + 1) 0 (by omega) (by omega) f_y f_Co f_Va f_Ra f_Sl f_Go f_Pr f_Ti f_St f_Tl f_Ts f_Sc f_Pd f_Ex f_Ha f_Ga f_Dr f_Xs) (cwV 2 hts (nT_V wl_X7_155 wi_X7_copy ws_X7_copy wn_X7 wc_X7_copy) rfl rfl rfl (by decide +kernel) ⟨Nat.le_of_ble_eq_true rfl, Nat.le_of_ble_eq_true rfl⟩) (nB.preV hK hI hP (by omega) f_y rfl rfl) rfl rfl hl.1 rfl (lv_room (Nat.le_of_ble_eq_true rfl)) dX7_again_30 ⟨Nat.zero_le _, Nat.zero_le _⟩) hS (fun w4 H locs hq6 hP hS => ?_)
      obtain ⟨hne7, hp_Co, hp_Va, hp_Ra, hp_Sl, hp_Go, hp_Pr, hp_Ti, hp_St, hp_Tl, hp_Ts, hp_Sc, hp_Pd, hp_Ex, hp_Ha, hp_Ga, hp_Dr, hp_Xs⟩ := hq6
      have f_y := (hne7 y (by omega) (by omega) (by omega) (by omega) (by omega) (by omega) (by omega) (by omega) (by omega) (by omega) (by omega) (by omega) (by omega) (by omega) (by omega) (by omega) (by omega)).trans f_y
      have f_kp := (hne7 (y + 26) (by omega) (by omega) (by omega) (by omega) (by omega) (by omega) (by omega) (by omega) (by omega) (by omega) (by omega) (by omega) (by omega) (by omega) (by omega) (by omega) (by omega)).trans f_kp
      have f_Co : w4 (y + 1) = aI G 8 (fun q => ((mvF Co 2 (k0 + 1) 0 2 q : Nat) : Int)) := hp_Co
      have f_Va : w4 (y + 2) = aI G 64 (fun q => ((mvF Va 16 (k0 + 1) 0 16 q : Nat) : Int)) := hp_Va
      have f_Ra : w4 (y + 3) = aI G 8 (fun q => ((mvF Ra 2 (k0 + 1) 0 2 q : Nat) : Int)) := hp_Ra
      have f_Sl : w4 (y + 4) = aI G 4 (fun q => ((mvF Sl 1 (k0 + 1) 0 1 q : Nat) : Int)) := hp_Sl
      have f_Go : w4 (y + 5) = aI G 4 (fun q => ((mvF Go 1 (k0 + 1) 0 1 q : Nat) : Int)) := hp_Go
      have f_Pr : w4 (y + 6) = aI G 56 (fun q => ((mvF Pr 14 (k0 + 1) 0 14 q : Nat) : Int)) := hp_Pr
      have f_Ti : w4 (y + 7) = aI G 56 (fun q => ((mvF Ti 14 (k0 + 1) 0 14 q : Nat) : Int)) := hp_Ti
      have f_St : w4 (y + 8) = aI G 4 (fun q => ((mvF St 1 (k0 + 1) 0 1 q : Nat) : Int)) := hp_St
      have f_Tl : w4 (y + 9) = aI G 4 (fun q => ((mvF Tl 1 (k0 + 1) 0 1 q : Nat) : Int)) := hp_Tl
      have f_Ts : w4 (y + 10) = aI G 16 (fun q => ((mvF Ts 4 (k0 + 1) 0 4 q : Nat) : Int)) := hp_Ts
      have f_Sc : w4 (y + 11) = aJ G 16 (fun q => ((mvF Sc 4 (k0 + 1) 0 4 q : Nat) : Int)) := hp_Sc
      have f_Pd : w4 (y + 12) = aJ G 16 (fun q => ((mvF Pd 4 (k0 + 1) 0 4 q : Nat) : Int)) := hp_Pd
      have f_Ex : w4 (y + 13) = aI G 16 (fun q => ((mvF Ex 4 (k0 + 1) 0 4 q : Nat) : Int)) := hp_Ex
      have f_Ha : w4 (y + 14) = aI G 256 (fun q => ((mvF Ha 64 (k0 + 1) 0 64 q : Nat) : Int)) := hp_Ha
      have f_Ga : w4 (y + 15) = aI G 128 (fun q => ((mvF Ga 32 (k0 + 1) 0 32 q : Nat) : Int)) := hp_Ga
      have f_Dr : w4 (y + 16) = aI G 32 (fun q => ((mvF Dr 8 (k0 + 1) 0 8 q : Nat) : Int)) := hp_Dr
      have f_Xs : w4 (y + 17) = aI G 1280 (fun q => ((mvF Xs 320 (k0 + 1) 0 320 q : Nat) : Int)) := hp_Xs
      have hfr : ∀ j, j ≠ (y + 1) → j ≠ (y + 2) → j ≠ (y + 3) → j ≠ (y + 4) → j ≠ (y + 5) → j ≠ (y + 6) → j ≠ (y + 7) → j ≠ (y + 8) → j ≠ (y + 9) → j ≠ (y + 10) → j ≠ (y + 11) → j ≠ (y + 12) → j ≠ (y + 13) → j ≠ (y + 14) → j ≠ (y + 15) → j ≠ (y + 16) → j ≠ (y + 17) → w4 j = w j := fun j a0 a1 a2 a3 a4 a5 a6 a7 a8 a9 a10 a11 a12 a13 a14 a15 a16 => (hne7 j (by omega) (by omega) (by omega) (by omega) (by omega) (by omega) (by omega) (by omega) (by omega) (by omega) (by omega) (by omega) (by omega) (by omega) (by omega) (by omega) (by omega)).trans (hfr j a0 a1 a2 a3 a4 a5 a6 a7 a8 a9 a10 a11 a12 a13 a14 a15 a16)
      refine n_iconst hx hb dX7_again_33 ?_
      refine n_zretP (t := True) hQ hx hb hr hlocks rfl hP hS dX7_again_34 ?_
      exact ⟨hfr, rfl, f_Co, f_Va, f_Ra, f_Sl, f_Go, f_Pr, f_Ti, f_St, f_Tl, f_Ts, f_Sc, f_Pd, f_Ex, f_Ha, f_Ga, f_Dr, f_Xs⟩
    · skip
      omega
