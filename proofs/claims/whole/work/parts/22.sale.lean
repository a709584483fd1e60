
def wrM (tb : Nat → Nat → Int) (val fal lim : Nat → Nat) (cnt sm : Nat) (rz : Nat → Nat) : Nat → (Nat → Nat)
  | 0 => rz
  | j + 1 => va_up (wrM tb val fal lim cnt sm rz j) (fal j) (wrN tb val fal lim cnt (wrL tb val fal lim cnt sm j) j)
theorem wrM_R (tb : Nat → Nat → Int) (val fal lim : Nat → Nat) (cnt sm : Nat) (rz : Nat → Nat) : ∀ j, wrR tb val fal lim cnt sm (fun q => (rz q : Int)) j = fun q => ((wrM tb val fal lim cnt sm rz j q : Nat) : Int)
  | 0 => rfl
  | j + 1 => by
    show va_up (wrR tb val fal lim cnt sm (fun q => (rz q : Int)) j) _ _ = _
    rw [wrM_R tb val fal lim cnt sm rz j, upN]
    rfl
theorem fill_zr (rz : Nat → Nat) : fillF (fun q => (rz q : Int)) 0 8 = fun q => ((zrF rz 8 q : Nat) : Int) := by
  funext q
  unfold fillF zrF
  split <;> rfl
theorem wrM_le {tb : Nat → Nat → Int} {val fal lim : Nat → Nat} {cnt sm : Nat} {rz : Nat → Nat} (h : ∀ k, k < 8 → rz k ≤ lim k) : ∀ j k, k < 8 → wrM tb val fal lim cnt sm rz j k ≤ lim k
  | 0, k, hk => h k hk
  | j + 1, k, hk => by
    show va_up (wrM tb val fal lim cnt sm rz j) (fal j) _ k ≤ lim k
    by_cases e : k = fal j
    · rw [e, va_up_self]
      exact Nat.le_trans (dn_le _ _) (Nat.min_le_left _ _)
    · rw [va_up_ne _ _ e]
      exact wrM_le h j k hk
theorem zr_le (rz lim : Nat → Nat) : ∀ k, k < 8 → zrF rz 8 k ≤ lim k := fun k hk => by
  unfold zrF
  rw [if_pos hk]
  exact Nat.zero_le _
theorem hs_up {G : nG} {T0 : Nat} {hs : Nat → Nat → Nat} {w w1 : Nat → va_E} {F : Nat → Nat} (sy : Nat) (hne : ∀ k, k < 2 → k ≠ sy → w1 (T0 + 1 + k) = w (T0 + 1 + k)) (hw : ∀ k, k < 2 → w (T0 + 1 + k) = aI G 8 (fun q => (hs k q : Int))) (hT : w1 (T0 + 1 + sy) = aI G 8 (fun q => (F q : Int))) : ∀ k, k < 2 → w1 (T0 + 1 + k) = aI G 8 (fun q => ((va_up hs sy F k q : Nat) : Int)) := by
  intro k hk
  by_cases h : k = sy
  · subst h
    rw [hT, va_up_self]
  · rw [hne k hk h, hw k hk, va_up_ne _ _ h]
theorem hs_back (F : Nat → Nat) (k c : Nat) : va_up (fun q => ((va_up F k (F k + c) q : Nat) : Int)) k (((va_up F k (F k + c) k : Nat) : Int) - ((c : Nat) : Int)) = fun q => (F q : Int) := by
  funext q
  rw [va_up_self]
  unfold va_up
  by_cases e : q = k
  · subst e
    rw [if_pos rfl]
    omega
  · rw [if_neg e]
    dsimp only
    rw [if_neg e]
theorem hs_same {hs : Nat → Nat → Nat} {sy : Nat} {F : Nat → Nat} {k q : Nat} (h : ∀ q, F q = hs sy q) : va_up (va_up hs sy F) sy (hs sy) k q = hs k q := by
  unfold va_up
  split
  · rename_i e
    rw [e]
  · rfl

theorem hs1_le {hs : Nat → Nat → Nat} {sy kk c : Nat} (h : ∀ s1 q, hs s1 q ≤ 1000) (hok : hs sy kk + c ≤ 1000) : ∀ s1 q, va_up hs sy (va_up (hs sy) kk (hs sy kk + c)) s1 q ≤ 2000 := by
  intro s1 q
  unfold va_up
  split
  · dsimp only
    split
    · omega
    · have := h sy q
      omega
  · have := h s1 q
    omega

theorem hs_bk {hs : Nat → Nat → Nat} {sy : Nat} {F : Nat → Nat} (k q : Nat) : va_up (va_up hs sy F) sy (hs sy) k q = hs k q := by
  unfold va_up
  split
  · rename_i e
    rw [e]
  · rfl
set_option maxHeartbeats 4000000 in
set_option maxRecDepth 100000 in
theorem c_X6_sale_main {l : Launch} {G : nG} {N : Nat} {ad : Nat → Nat} {w : Nat → va_E} {sz : Nat} (x b tn ra rb stp : Nat) (cn : Nat → Nat) (sa sc tk t sy kk a c : Nat) (hs vl : Nat → Nat → Nat) (sp : Nat) (fal la rz : Nat → Nat) (tb : Nat → Nat → Int) (P0 C0 : Nat → Int) (hN : x + 218 < N) (hxb : b = x + 1) (hcn : ∀ k, k < 2 → cn k ≤ 8) (htn : tn ≤ 4) (hra : 1 ≤ ra ∧ ra ≤ 100) (hrb : 1 ≤ rb ∧ rb ≤ 100) (hhb : ∀ s1 q, hs s1 q ≤ 1000) (hvl : ∀ s1 q, vl s1 q ≤ 1000) (ht : t < tn) (hs_ : sy < 2) (hk : kk < cn sy) (ha : 1 ≤ a ∧ a ≤ 2000) (hc : 1 ≤ c ∧ c ≤ 50) (hspe : ((c : Nat) : Int) * (vl sy kk : Int) * ((if sy = 0 then ra else rb : Nat) : Int) - ((a : Nat) : Int) * ((rb : Nat) : Int) = (sp : Int)) (hok : hs sy kk + c ≤ 1000) (hval1 : ∀ k, k < cn 1 → 1 ≤ vl 1 k) (hfal : ∀ k, k < cn 1 → fal k < cn 1) (hsa : sa < 2147483647) (hch : sp / rb ≤ 2000) (f_x : w x = .inr (6, [.ref (ad b), .ref (ad (x + 51)), .ref (ad (x + 52)), .ref (ad (x + 53)), .ref (ad (x + 67)), .ref (ad (x + 68))])) (f_L : w b = .inr (4, [.ref (ad (b + 1)), .ref (ad (b + 5)), .ref (ad (b + 9)), .ref (ad (b + 12)), .ref (ad (b + 13)), .int (iI ((tn : Nat) : Int)), .int (iI ((ra : Nat) : Int)), .int (iI ((rb : Nat) : Int)), .int (iI ((stp : Nat) : Int))])) (f_ts : w (b + 12) = aR G 3 4 (fun k => some (ad (b + 14 + 9 * k)))) (f_cn : ∀ k, k < 2 → w (b + 1 + 4 * k) = .inr (1, [.int (iI ((cn k : Nat) : Int)), .ref (ad (b + 1 + 4 * k + 1)), .ref (ad (b + 1 + 4 * k + 2)), .ref (ad (b + 1 + 4 * k + 3))])) (f_vs : ∀ k, k < 2 → w (b + 1 + 4 * k + 1) = aI G 8 (fun q => (vl k q : Int))) (f_t : w (b + 14 + 9 * t) = .inr (5, [.ref (ad ((b + 14 + 9 * t) + 1)), .ref (ad ((b + 14 + 9 * t) + 2)), .ref (ad ((b + 14 + 9 * t) + 3)), .ref (ad ((b + 14 + 9 * t) + 4)), .int (iI ((sa : Nat) : Int)), .long (jI ((sc : Nat) : Int)), .long (jI ((tk : Nat) : Int))])) (f_hs : ∀ s1, s1 < 2 → w ((b + 14 + 9 * t) + 1 + s1) = aI G 8 (fun q => (hs s1 q : Int))) (f_la : w ((b + 14 + 9 * t) + 3) = aI G 8 (fun q => (la q : Int))) (f_o2 : w (b + 5) = .inr (1, [.int (iI ((cn 1 : Nat) : Int)), .ref (ad ((b + 5) + 1)), .ref (ad ((b + 5) + 2)), .ref (ad ((b + 5) + 3))])) (f_v2 : w ((b + 5) + 1) = aI G 8 (fun q => (vl 1 q : Int))) (f_f2 : w ((b + 5) + 2) = aI G 8 (fun q => (fal q : Int))) (f_m : w (x + 53) = .inr (0, [.ref (ad ((x + 53) + 1)), .ref (ad ((x + 53) + 2)), .ref (ad ((x + 53) + 12)), .ref (ad ((x + 53) + 13))])) (f_g : w ((x + 53) + 2) = aR G 5 9 (fun k => some (ad ((x + 53) + 3 + k)))) (f_row : w ((x + 53) + 1) = aI G 8 (fun q => (rz q : Int))) (f_rows : ∀ k, k < 9 → w ((x + 53) + 3 + k) = aI G 2001 (tb k)) (f_pl : w ((x + 53) + 12) = aI G 2001 P0) (f_co : w ((x + 53) + 13) = aI G 2001 C0) : Met l yX6_sale wsX6_sale ({ frames := 4, cells := 0, slots := 0, locals := 104 }) (va_Pc [.ref (ad x), .int (iI ((t : Nat) : Int)), .int (iI ((a : Nat) : Int)), .int (iI ((sy : Nat) : Int)), .int (iI ((kk : Nat) : Int)), .int (iI ((c : Nat) : Int))] (nB G N ad w sz)) (nPi G N ad sz (fun r u => (∀ j, ¬ ((x + 54 ≤ j ∧ j ≤ x + 66) ∧ j ≠ x + 55) → j ≠ (b + 14 + 9 * t) → j ≠ ((b + 14 + 9 * t) + 1) → j ≠ ((b + 14 + 9 * t) + 2) → j ≠ ((b + 14 + 9 * t) + 3) → u j = w j) ∧ (∃ (tc : Nat → Nat → Int) (rz1 : Nat → Nat), tbOK (vl 1) fal ((va_up hs sy (va_up (hs sy) kk (hs sy kk + c))) 1) (cn 1) (sp / rb) tc ∧ u (x + 54) = aI G 8 (fun q => (rz1 q : Int)) ∧ (∀ k, k < 9 → u (x + 56 + k) = aI G 2001 (tc k)) ∧ (∃ P1, u (x + 65) = aI G 2001 P1) ∧ (∃ C1, u (x + 66) = aI G 2001 C1) ∧ (tc (cn 1) (sp / rb) = -1 → r = -1 ∧ u (b + 14 + 9 * t) = .inr (5, [.ref (ad ((b + 14 + 9 * t) + 1)), .ref (ad ((b + 14 + 9 * t) + 2)), .ref (ad ((b + 14 + 9 * t) + 3)), .ref (ad ((b + 14 + 9 * t) + 4)), .int (iI ((sa : Nat) : Int)), .long (jI ((sc : Nat) : Int)), .long (jI ((tk : Nat) : Int))]) ∧ (∀ s1, s1 < 2 → u ((b + 14 + 9 * t) + 1 + s1) = aI G 8 (fun q => (hs s1 q : Int))) ∧ u ((b + 14 + 9 * t) + 3) = aI G 8 (fun q => (la q : Int))) ∧ (¬ tc (cn 1) (sp / rb) = -1 → r = ((sp / rb : Nat) : Int) ∧ u (b + 14 + 9 * t) = .inr (5, [.ref (ad ((b + 14 + 9 * t) + 1)), .ref (ad ((b + 14 + 9 * t) + 2)), .ref (ad ((b + 14 + 9 * t) + 3)), .ref (ad ((b + 14 + 9 * t) + 4)), .int (iI ((sa + 1 : Nat) : Int)), .long (jI ((sc + sp % rb : Nat) : Int)), .long (jI ((tk + a : Nat) : Int))]) ∧ (∀ s1, s1 < 2 → u ((b + 14 + 9 * t) + 1 + s1) = aI G 8 (fun q => ((va_up (va_up hs sy (va_up (hs sy) kk (hs sy kk + c))) 1 (subF ((va_up hs sy (va_up (hs sy) kk (hs sy kk + c))) 1) (wrM tc (vl 1) fal ((va_up hs sy (va_up (hs sy) kk (hs sy kk + c))) 1) (cn 1) (sp / rb) (zrF rz 8) (cn 1)) 8) s1 q : Nat) : Int))) ∧ u ((b + 14 + 9 * t) + 3) = aI G 8 (fun q => ((cpF la (wrM tc (vl 1) fal ((va_up hs sy (va_up (hs sy) kk (hs sy kk + c))) 1) (cn 1) (sp / rb) (zrF rz 8) (cn 1)) 8 q : Nat) : Int)))))) 0 0 (nA N ad sz) := by
  refine n_ent (cc := cX6_sale) (maxL := 10) (ret := (some .int)) (by decide) rfl (Nat.le_of_ble_eq_true rfl) ?_
  intro p e s m below meth cd hx hb hr hml hlocks hts hown hnm hsz hP hK hI Q hQ ls hl
  have hown : s.vm.findClass RX6 = some m.cls := hown
  subst hsz
  have hJ := hI.J s.heap.size
  have hS : va_S (nA N ad s.heap.size) s.heap s.heap [] := va_S.rf
  have hfr : ∀ j, ¬ ((x + 54 ≤ j ∧ j ≤ x + 66) ∧ j ≠ x + 55) → j ≠ (b + 14 + 9 * t) → j ≠ ((b + 14 + 9 * t) + 1) → j ≠ ((b + 14 + 9 * t) + 2) → j ≠ ((b + 14 + 9 * t) + 3) → w j = w j := fun _ _ _ _ _ _ => rfl
  have hl : lv_has ls 10 [(0, .ref (ad x)), (1, .int (iI ((t : Nat) : Int))), (2, .int (iI ((a : Nat) : Int))), (3, .int (iI ((sy : Nat) : Int))), (4, .int (iI ((kk : Nat) : Int))), (5, .int (iI ((c : Nat) : Int)))] := hl
  have hc8 := hcn sy (by omega)
  have hsp := spare_rng (sy := sy) (ra := ra) (rb := rb) (a := a) hc.2 (hvl sy kk) hra.2 hrb.2 ha.2
  have hmr : sp % rb < rb := Nat.mod_lt _ (by omega)
  have hdl : sp / rb ≤ sp := Nat.div_le_self _ _
  have hdz : (0 : Int) ≤ ((sp / rb : Nat) : Int) := Int.natCast_nonneg _
  rw [hspe] at hsp
  refine lv_aload_n hx hb dX6_sale_0 rfl (lv_at hl 0 rfl) ?_
  refine n_get hx hb hts u_X6 hown hK hP (by omega) f_x rfl 0 (by decide) (nT_m wf_X6_10) rfl dX6_sale_1 ?_
  refine lv_iload_n hx hb dX6_sale_4 rfl (lv_at hl 1 rfl) ?_
  refine n_rdF (va_runV (As := [.int (iI ((t : Nat) : Int))]) (rest := []) ⟨hx, hb, hml, hown, hts⟩ (c_X4_tillAt_y _ _ _ _ _ t (by omega) (by omega) (by omega) f_L f_ts) (cwV 1 hts (nT_V wl_X6_137 wi_X4_tillAt ws_X4_tillAt wn_X4 wc_X4_tillAt) rfl rfl rfl (by decide +kernel) ⟨Nat.le_of_ble_eq_true rfl, Nat.le_of_ble_eq_true rfl⟩) (nB.preV hK hI hP (by omega) f_L rfl rfl) rfl rfl hl.1 rfl (lv_room (Nat.le_of_ble_eq_true rfl)) dX6_sale_5 ⟨Nat.zero_le _, Nat.zero_le _⟩) ?_
  refine lv_astore (lv' := [(6, .ref (ad (b + 14 + 9 * t))), (0, .ref (ad x)), (1, .int (iI ((t : Nat) : Int))), (2, .int (iI ((a : Nat) : Int))), (3, .int (iI ((sy : Nat) : Int))), (4, .int (iI ((kk : Nat) : Int))), (5, .int (iI ((c : Nat) : Int)))]) hx hb dX6_sale_8 hl (by decide) rfl (fun ls hl => ?_)
  refine lv_aload hx hb dX6_sale_10 (lv_at hl 0 rfl) ?_
  refine lv_ifnull hx hb dX6_sale_12 ?_
  refine lv_aload_n hx hb dX6_sale_15 rfl (lv_at hl 1 rfl) ?_
  refine n_get hx hb hts u_X6 hown hK hP (by omega) f_x rfl 0 (by decide) (nT_m wf_X6_10) rfl dX6_sale_16 ?_
  refine lv_iload_n hx hb dX6_sale_19 rfl (lv_at hl 3 rfl) ?_
  refine lv_iload_n hx hb dX6_sale_20 rfl (lv_at hl 4 rfl) ?_
  refine lv_iload hx hb dX6_sale_21 (lv_at hl 5 rfl) ?_
  refine lv_iload hx hb dX6_sale_23 (lv_at hl 6 rfl) ?_
  refine n_rdF (va_runV (As := [.int (iI ((a : Nat) : Int)), .int (iI ((sy : Nat) : Int)), .int (iI ((kk : Nat) : Int)), .int (iI ((c : Nat) : Int))]) (rest := []) ⟨hx, hb, hml, hown, hts⟩ (c_X4_isSale _ _ _ _ _ cn ((a : Nat) : Int) ((sy : Nat) : Int) ((kk : Nat) : Int) ((c : Nat) : Int) (by omega) hcn (by omega) (by omega) (by omega) (by omega) f_L f_cn) (cwV 4 hts (nT_V wl_X6_152 wi_X4_isSale ws_X4_isSale wn_X4 wc_X4_isSale) rfl rfl rfl (by decide +kernel) ⟨Nat.le_of_ble_eq_true rfl, Nat.le_of_ble_eq_true rfl⟩) (nB.preV hK hI hP (by omega) f_L rfl rfl) rfl rfl hl.1 rfl (lv_room (Nat.le_of_ble_eq_true rfl)) dX6_sale_25 ⟨Nat.zero_le _, Nat.zero_le _⟩) ?_
  refine n_if_neB (tgt := 33) hx hb dX6_sale_28 (by decide) (fun hc28 => ?_) (fun hc28 => ?_)
  · skip
    refine lv_aload_n hx hb dX6_sale_33 rfl (lv_at hl 1 rfl) ?_
    refine n_get hx hb hts u_X6 hown hK hP (by omega) f_x rfl 0 (by decide) (nT_m wf_X6_10) rfl dX6_sale_34 ?_
    refine lv_iload_n hx hb dX6_sale_37 rfl (lv_at hl 3 rfl) ?_
    refine lv_iload_n hx hb dX6_sale_38 rfl (lv_at hl 4 rfl) ?_
    refine lv_iload hx hb dX6_sale_39 (lv_at hl 5 rfl) ?_
    refine lv_iload hx hb dX6_sale_41 (lv_at hl 6 rfl) ?_
    refine n_rdF (v := .int (iI ((sp : Nat) : Int))) (va_runV (As := [.int (iI ((a : Nat) : Int)), .int (iI ((sy : Nat) : Int)), .int (iI ((kk : Nat) : Int)), .int (iI ((c : Nat) : Int))]) (rest := []) ⟨hx, hb, hml, hown, hts⟩ (by rw [← hspe]; exact c_X4_spareParts _ _ _ _ _ sy (cn sy) (vl sy) a kk c (by omega) (by omega) (by omega) (hvl sy) hk f_L (f_cn sy (by omega)) (f_vs sy (by omega))) (cwV 4 hts (nT_V wl_X6_156 wi_X4_spareParts ws_X4_spareParts wn_X4 wc_X4_spareParts) rfl rfl rfl (by decide +kernel) ⟨Nat.le_of_ble_eq_true rfl, Nat.le_of_ble_eq_true rfl⟩) (nB.preV hK hI hP (by omega) f_L rfl rfl) rfl rfl hl.1 rfl (lv_room (Nat.le_of_ble_eq_true rfl)) dX6_sale_43 ⟨Nat.zero_le _, Nat.zero_le _⟩) ?_
    refine lv_istore (lv' := [(7, .int (iI ((sp : Nat) : Int))), (6, .ref (ad (b + 14 + 9 * t))), (0, .ref (ad x)), (1, .int (iI ((t : Nat) : Int))), (2, .int (iI ((a : Nat) : Int))), (3, .int (iI ((sy : Nat) : Int))), (4, .int (iI ((kk : Nat) : Int))), (5, .int (iI ((c : Nat) : Int)))]) hx hb dX6_sale_46 hl (by decide) rfl (fun ls hl => ?_)
    refine lv_aload hx hb dX6_sale_48 (lv_at hl 1 rfl) ?_
    refine lv_iload_n hx hb dX6_sale_50 rfl (lv_at hl 5 rfl) ?_
    refine n_rdF (va_runV (As := [.int (iI ((sy : Nat) : Int))]) (rest := []) ⟨hx, hb, hml, hown, hts⟩ (c_X5_countsOf _ _ _ _ sy (by omega) (by omega) f_t) (cwV 1 hts (nT_V wl_X6_144 wi_X5_countsOf ws_X5_countsOf wn_X5 wc_X5_countsOf) rfl rfl rfl (by decide +kernel) ⟨Nat.le_of_ble_eq_true rfl, Nat.le_of_ble_eq_true rfl⟩) (nB.preV hK hI hP (by omega) f_t rfl rfl) rfl rfl hl.1 rfl (lv_room (Nat.le_of_ble_eq_true rfl)) dX6_sale_51 ⟨Nat.zero_le _, Nat.zero_le _⟩) ?_
    refine lv_astore (lv' := [(8, .ref (ad ((b + 14 + 9 * t) + 1 + sy))), (7, .int (iI ((sp : Nat) : Int))), (6, .ref (ad (b + 14 + 9 * t))), (0, .ref (ad x)), (1, .int (iI ((t : Nat) : Int))), (2, .int (iI ((a : Nat) : Int))), (3, .int (iI ((sy : Nat) : Int))), (4, .int (iI ((kk : Nat) : Int))), (5, .int (iI ((c : Nat) : Int)))]) hx hb dX6_sale_54 hl (by decide) rfl (fun ls hl => ?_)
    have f_cs := f_hs sy (by omega)
    refine lv_iload hx hb dX6_sale_56 (lv_at hl 1 rfl) ?_
    refine n_if_lt (tgt := 75) hx hb dX6_sale_58 (by decide) (by omega) (fun hc58 => ?_) (fun hc58 => ?_)
    · skip
      exact absurd hc58 (by omega)
    · skip
      refine lv_aload hx hb dX6_sale_61 (lv_at hl 0 rfl) ?_
      refine lv_iload hx hb dX6_sale_63 (lv_at hl 7 rfl) ?_
      refine n_iald hx hb hK hP kk (by omega) f_cs (by omega) (by omega) (by decide) dX6_sale_65 ?_
      have ho1 := hhb sy kk
      refine lv_iload hx hb dX6_sale_66 (lv_at hl 8 rfl) ?_
      refine n_iadd hx hb dX6_sale_68 ?_
      refine n_sipush hx hb dX6_sale_69 (by decide) ?_
      refine n_icmp_le (tgt := 77) hx hb dX6_sale_72 (by decide) (by omega) (by omega) (fun hc72 => ?_) (fun hc72 => ?_)
      · skip
        refine lv_iload hx hb dX6_sale_77 (lv_at hl 1 rfl) ?_
        refine lv_aload_n hx hb dX6_sale_79 rfl (lv_at hl 3 rfl) ?_
        refine n_get hx hb hts u_X6 hown hK hP (by omega) f_x rfl 0 (by decide) (nT_m wf_X6_10) rfl dX6_sale_80 ?_
        refine n_get hx hb hts u_X4 hown hK hP (by omega) f_L rfl 7 (by decide) (nT_m wf_X6_61) rfl dX6_sale_83 ?_
        refine n_rdF (v := .int (iI ((sp / rb : Nat) : Int))) (va_runS (As := [.int (iI ((sp : Nat) : Int)), .int (iI ((rb : Nat) : Int))]) (rest := []) ⟨hx, hb, hml, hown, hts⟩ (c_X6_wholeTimes ((sp : Nat) : Int) ((rb : Nat) : Int) (by omega) (by omega)) (va_cwS 2 hts (nT_S wl_X6_160 wt_X6_wholeTimes wn_X6 wc_X6_wholeTimes) rfl rfl rfl (by decide +kernel) ⟨Nat.le_of_ble_eq_true rfl, Nat.le_of_ble_eq_true rfl⟩) preEq rfl rfl hl.1 rfl (lv_room (Nat.le_of_ble_eq_true rfl)) dX6_sale_86 ⟨Nat.zero_le _, Nat.zero_le _⟩) ?_
        refine lv_istore (lv' := [(9, .int (iI ((sp / rb : Nat) : Int))), (8, .ref (ad ((b + 14 + 9 * t) + 1 + sy))), (7, .int (iI ((sp : Nat) : Int))), (6, .ref (ad (b + 14 + 9 * t))), (0, .ref (ad x)), (1, .int (iI ((t : Nat) : Int))), (2, .int (iI ((a : Nat) : Int))), (3, .int (iI ((sy : Nat) : Int))), (4, .int (iI ((kk : Nat) : Int))), (5, .int (iI ((c : Nat) : Int)))]) hx hb dX6_sale_89 hl (by decide) rfl (fun ls hl => ?_)
        refine lv_aload hx hb dX6_sale_91 (lv_at hl 1 rfl) ?_
        refine lv_iload hx hb dX6_sale_93 (lv_at hl 8 rfl) ?_
        refine lv_dup2_11 hx hb dX6_sale_95 rfl rfl ?_
        refine n_iald hx hb hK hP kk (by omega) f_cs (by omega) (by omega) (by decide) dX6_sale_96 ?_
        have ho2 := hhb sy kk
        refine lv_iload hx hb dX6_sale_97 (lv_at hl 9 rfl) ?_
        refine n_iadd hx hb dX6_sale_99 ?_
        refine n_iast hx hb hK hJ hP hS kk (by omega) f_cs (by omega) (by omega) (by decide) dX6_sale_100 (fun w3 H locs f_cs hne4 hP hS => ?_)
        have f_x := (hne4 x (by omega)).trans f_x
        have f_L := (hne4 b (by omega)).trans f_L
        have f_ts := (hne4 (b + 12) (by omega)).trans f_ts
        have f_cn : ∀ k, k < 2 → w3 (b + 1 + 4 * k) = .inr (1, [.int (iI ((cn k : Nat) : Int)), .ref (ad (b + 1 + 4 * k + 1)), .ref (ad (b + 1 + 4 * k + 2)), .ref (ad (b + 1 + 4 * k + 3))]) := fun k hk9 => (hne4 _ (by omega)).trans (f_cn _ hk9)
        have f_vs : ∀ k, k < 2 → w3 (b + 1 + 4 * k + 1) = aI G 8 (fun q => (vl k q : Int)) := fun k hk9 => (hne4 _ (by omega)).trans (f_vs _ hk9)
        have f_t := (hne4 (b + 14 + 9 * t) (by omega)).trans f_t
        have f_hs : ∀ s1, s1 < 2 → w3 ((b + 14 + 9 * t) + 1 + s1) = aI G 8 (fun q => (((va_up hs sy (va_up (hs sy) kk (hs sy kk + c))) s1 q : Nat) : Int)) := (hs_up sy (fun s1 h1 h2 => hne4 _ (by omega)) f_hs (f_cs.trans (congrArg (aI G 8) (upZ (hs sy) kk (hs sy kk + c) _ (by omega)))))
        have f_la := (hne4 ((b + 14 + 9 * t) + 3) (by omega)).trans f_la
        have f_o2 := (hne4 (b + 5) (by omega)).trans f_o2
        have f_v2 := (hne4 ((b + 5) + 1) (by omega)).trans f_v2
        have f_f2 := (hne4 ((b + 5) + 2) (by omega)).trans f_f2
        have f_m := (hne4 (x + 53) (by omega)).trans f_m
        have f_g := (hne4 ((x + 53) + 2) (by omega)).trans f_g
        have f_row := (hne4 ((x + 53) + 1) (by omega)).trans f_row
        have f_rows : ∀ k, k < 9 → w3 ((x + 53) + 3 + k) = aI G 2001 (tb k) := fun k hk9 => (hne4 _ (by omega)).trans (f_rows _ hk9)
        have f_pl := (hne4 ((x + 53) + 12) (by omega)).trans f_pl
        have f_co := (hne4 ((x + 53) + 13) (by omega)).trans f_co
        have hfr : ∀ j, ¬ ((x + 54 ≤ j ∧ j ≤ x + 66) ∧ j ≠ x + 55) → j ≠ (b + 14 + 9 * t) → j ≠ ((b + 14 + 9 * t) + 1) → j ≠ ((b + 14 + 9 * t) + 2) → j ≠ ((b + 14 + 9 * t) + 3) → w3 j = w j := fun j a0 a1 a2 a3 a4 => (hne4 j (by omega)).trans (hfr j a0 a1 a2 a3 a4)
        have f_cs := f_cs.trans (congrArg (aI G 8) (upZ (hs sy) kk (hs sy kk + c) _ (by omega)))
        have hlm : ∀ q, (va_up hs sy (va_up (hs sy) kk (hs sy kk + c))) 1 q ≤ 2000 := fun q => hs1_le hhb hok 1 q
        refine lv_aload_n hx hb dX6_sale_101 rfl (lv_at hl 4 rfl) ?_
        refine n_get hx hb hts u_X6 hown hK hP (by omega) f_x rfl 3 (by decide) (nT_m wf_X6_27) rfl dX6_sale_102 ?_
        refine lv_aload_n hx hb dX6_sale_105 rfl (lv_at hl 4 rfl) ?_
        refine n_get hx hb hts u_X6 hown hK hP (by omega) f_x rfl 0 (by decide) (nT_m wf_X6_10) rfl dX6_sale_106 ?_
        refine n_get hx hb hts u_X4 hown hK hP (by omega) f_L rfl 1 (by decide) (nT_m wf_X6_163) rfl dX6_sale_109 ?_
        refine lv_aload hx hb dX6_sale_112 (lv_at hl 3 rfl) ?_
        refine n_get hx hb hts u_X5 hown hK hP (by omega) f_t rfl 1 (by decide) (nT_m wf_X6_167) rfl dX6_sale_114 ?_
        refine lv_iload hx hb dX6_sale_117 (lv_at hl 0 rfl) ?_
        have f_li : w3 ((b + 14 + 9 * t) + 2) = aI G 8 (fun q => (((va_up hs sy (va_up (hs sy) kk (hs sy kk + c))) 1 q : Nat) : Int)) := f_hs 1 (by omega)
        refine n_cI (va_runV (As := [.ref (ad (b + 5)), .ref (ad ((b + 14 + 9 * t) + 2)), .int (iI ((sp / rb : Nat) : Int))]) (rest := []) ⟨hx, hb, hml, hown, hts⟩ (c_X0_make (x + 53) (b + 5) ((b + 14 + 9 * t) + 2) (cn 1) (sp / rb) (vl 1) fal ((va_up hs sy (va_up (hs sy) kk (hs sy kk + c))) 1) tb (fun q => (rz q : Int)) P0 C0 (by omega) (by omega) (by omega) (hcn 1 (by omega)) (hvl 1) hval1 hfal hlm hch f_m f_g f_row f_rows f_pl f_co f_o2 f_v2 f_f2 f_li) (cwV 3 hts (nT_V wl_X6_169 wi_X0_make ws_X0_make wn_X0 wc_X0_make) rfl rfl rfl (by decide +kernel) ⟨Nat.le_of_ble_eq_true rfl, Nat.le_of_ble_eq_true rfl⟩) (nB.preV hK hI hP (by omega) f_m rfl rfl) rfl rfl hl.1 rfl (lv_room (Nat.le_of_ble_eq_true rfl)) dX6_sale_119 ⟨Nat.zero_le _, Nat.zero_le _⟩) hS (fun r6 w5 H locs hq7 hP hS => ?_)
        obtain ⟨hne8, tc, R1, htc, hr9, hm1, hm2, hm6, hm3, ⟨P1, hm4⟩, ⟨C1, hm5⟩⟩ := hq7
        have f_x := (hne8 x (by omega)).trans f_x
        have f_L := (hne8 b (by omega)).trans f_L
        have f_ts := (hne8 (b + 12) (by omega)).trans f_ts
        have f_cn : ∀ k, k < 2 → w5 (b + 1 + 4 * k) = .inr (1, [.int (iI ((cn k : Nat) : Int)), .ref (ad (b + 1 + 4 * k + 1)), .ref (ad (b + 1 + 4 * k + 2)), .ref (ad (b + 1 + 4 * k + 3))]) := fun k hk9 => (hne8 _ (by omega)).trans (f_cn _ hk9)
        have f_vs : ∀ k, k < 2 → w5 (b + 1 + 4 * k + 1) = aI G 8 (fun q => (vl k q : Int)) := fun k hk9 => (hne8 _ (by omega)).trans (f_vs _ hk9)
        have f_t := (hne8 (b + 14 + 9 * t) (by omega)).trans f_t
        have f_hs : ∀ s1, s1 < 2 → w5 ((b + 14 + 9 * t) + 1 + s1) = aI G 8 (fun q => (((va_up hs sy (va_up (hs sy) kk (hs sy kk + c))) s1 q : Nat) : Int)) := fun s1 hk9 => (hne8 _ (by omega)).trans (f_hs _ hk9)
        have f_la := (hne8 ((b + 14 + 9 * t) + 3) (by omega)).trans f_la
        have f_o2 := (hne8 (b + 5) (by omega)).trans f_o2
        have f_v2 := (hne8 ((b + 5) + 1) (by omega)).trans f_v2
        have f_f2 := (hne8 ((b + 5) + 2) (by omega)).trans f_f2
        have f_m := (hne8 (x + 53) (by omega)).trans f_m
        have f_g := (hne8 ((x + 53) + 2) (by omega)).trans f_g
        have f_cs := (hne8 ((b + 14 + 9 * t) + 1 + sy) (by omega)).trans f_cs
        have f_row : w5 ((x + 53) + 1) = aI G 8 R1 := hm1
        have f_rows : ∀ k, k < 9 → w5 ((x + 53) + 3 + k) = aI G 2001 (tc k) := hm3
        have f_pl : w5 ((x + 53) + 12) = aI G 2001 P1 := hm4
        have f_co : w5 ((x + 53) + 13) = aI G 2001 C1 := hm5
        have hfr : ∀ j, ¬ ((x + 54 ≤ j ∧ j ≤ x + 66) ∧ j ≠ x + 55) → j ≠ (b + 14 + 9 * t) → j ≠ ((b + 14 + 9 * t) + 1) → j ≠ ((b + 14 + 9 * t) + 2) → j ≠ ((b + 14 + 9 * t) + 3) → w5 j = w j := fun j a0 a1 a2 a3 a4 => (hne8 j (by omega)).trans (hfr j a0 a1 a2 a3 a4)
        subst hr9
        refine n_if_neB (tgt := 137) hx hb dX6_sale_122 (by decide) (fun hc122 => ?_) (fun hc122 => ?_)
        · skip
          have eR : R1 = fun q => (((wrM tc (vl 1) fal ((va_up hs sy (va_up (hs sy) kk (hs sy kk + c))) 1) (cn 1) (sp / rb) (zrF rz 8) (cn 1)) q : Nat) : Int) := by rw [hm2 hc122, fill_zr, wrM_R]
          have f_row := f_row.trans (congrArg (aI G 8) eR)
          refine lv_aload hx hb dX6_sale_137 (lv_at hl 3 rfl) ?_
          refine lv_iload_n hx hb dX6_sale_139 rfl (lv_at hl 6 rfl) ?_
          refine lv_iload hx hb dX6_sale_140 (lv_at hl 2 rfl) ?_
          refine lv_iload hx hb dX6_sale_142 (lv_at hl 0 rfl) ?_
          refine lv_aload_n hx hb dX6_sale_144 rfl (lv_at hl 4 rfl) ?_
          refine n_get hx hb hts u_X6 hown hK hP (by omega) f_x rfl 0 (by decide) (nT_m wf_X6_10) rfl dX6_sale_145 ?_
          refine n_get hx hb hts u_X4 hown hK hP (by omega) f_L rfl 7 (by decide) (nT_m wf_X6_61) rfl dX6_sale_148 ?_
          refine n_imul hx hb dX6_sale_151 ?_
          refine n_isub hx hb dX6_sale_152 ?_
          refine lv_aload_n hx hb dX6_sale_153 rfl (lv_at hl 4 rfl) ?_
          refine n_get hx hb hts u_X6 hown hK hP (by omega) f_x rfl 3 (by decide) (nT_m wf_X6_27) rfl dX6_sale_154 ?_
          refine n_get hx hb hts u_X0 hown hK hP (by omega) f_m rfl 0 (by decide) (nT_m wf_X6_173) rfl dX6_sale_157 ?_
          rw [nmodN]
          refine n_cV (va_runV (As := [.int (iI ((a : Nat) : Int)), .int (iI ((sp % rb : Nat) : Int)), .ref (ad ((x + 53) + 1))]) (rest := []) ⟨hx, hb, hml, hown, hts⟩ (c_X5_close (b + 14 + 9 * t) sa sc tk a (sp % rb) (x + 53 + 1) ((va_up hs sy (va_up (hs sy) kk (hs sy kk + c))) 1) la (wrM tc (vl 1) fal ((va_up hs sy (va_up (hs sy) kk (hs sy kk + c))) 1) (cn 1) (sp / rb) (zrF rz 8) (cn 1)) (by omega) (by omega) (by omega) (by omega) (wrM_le (zr_le _ _) _) f_t (f_hs 1 (by omega)) f_la f_row) (cwV 3 hts (nT_V wl_X6_176 wi_X5_close ws_X5_close wn_X5 wc_X5_close) rfl rfl rfl (by decide +kernel) ⟨Nat.le_of_ble_eq_true rfl, Nat.le_of_ble_eq_true rfl⟩) (nB.preV hK hI hP (by omega) f_t rfl rfl) rfl rfl hl.1 rfl (lv_room (Nat.le_of_ble_eq_true rfl)) dX6_sale_160 ⟨Nat.zero_le _, Nat.zero_le _⟩) hS (fun w9 H locs hq11 hP hS => ?_)
          obtain ⟨hne12, hq1, hq2, hq3⟩ := hq11
          have f_x := (hne12 x (by omega) (by omega) (by omega)).trans f_x
          have f_L := (hne12 b (by omega) (by omega) (by omega)).trans f_L
          have f_ts := (hne12 (b + 12) (by omega) (by omega) (by omega)).trans f_ts
          have f_cn : ∀ k, k < 2 → w9 (b + 1 + 4 * k) = .inr (1, [.int (iI ((cn k : Nat) : Int)), .ref (ad (b + 1 + 4 * k + 1)), .ref (ad (b + 1 + 4 * k + 2)), .ref (ad (b + 1 + 4 * k + 3))]) := fun k hk9 => (hne12 _ (by omega) (by omega) (by omega)).trans (f_cn _ hk9)
          have f_vs : ∀ k, k < 2 → w9 (b + 1 + 4 * k + 1) = aI G 8 (fun q => (vl k q : Int)) := fun k hk9 => (hne12 _ (by omega) (by omega) (by omega)).trans (f_vs _ hk9)
          have f_o2 := (hne12 (b + 5) (by omega) (by omega) (by omega)).trans f_o2
          have f_v2 := (hne12 ((b + 5) + 1) (by omega) (by omega) (by omega)).trans f_v2
          have f_f2 := (hne12 ((b + 5) + 2) (by omega) (by omega) (by omega)).trans f_f2
          have f_m := (hne12 (x + 53) (by omega) (by omega) (by omega)).trans f_m
          have f_g := (hne12 ((x + 53) + 2) (by omega) (by omega) (by omega)).trans f_g
          have f_row := (hne12 ((x + 53) + 1) (by omega) (by omega) (by omega)).trans f_row
          have f_rows : ∀ k, k < 9 → w9 ((x + 53) + 3 + k) = aI G 2001 (tc k) := fun k hk9 => (hne12 _ (by omega) (by omega) (by omega)).trans (f_rows _ hk9)
          have f_pl := (hne12 ((x + 53) + 12) (by omega) (by omega) (by omega)).trans f_pl
          have f_co := (hne12 ((x + 53) + 13) (by omega) (by omega) (by omega)).trans f_co
          have f_t : w9 (b + 14 + 9 * t) = .inr (5, [.ref (ad ((b + 14 + 9 * t) + 1)), .ref (ad ((b + 14 + 9 * t) + 2)), .ref (ad ((b + 14 + 9 * t) + 3)), .ref (ad ((b + 14 + 9 * t) + 4)), .int (iI ((sa + 1 : Nat) : Int)), .long (jI ((sc + sp % rb : Nat) : Int)), .long (jI ((tk + a : Nat) : Int))]) := hq1
          have f_la : w9 ((b + 14 + 9 * t) + 3) = aI G 8 (fun q => ((cpF la (wrM tc (vl 1) fal ((va_up hs sy (va_up (hs sy) kk (hs sy kk + c))) 1) (cn 1) (sp / rb) (zrF rz 8) (cn 1)) 8 q : Nat) : Int)) := hq3
          have f_hs : ∀ s1, s1 < 2 → w9 ((b + 14 + 9 * t) + 1 + s1) = aI G 8 (fun q => ((va_up (va_up hs sy (va_up (hs sy) kk (hs sy kk + c))) 1 (subF ((va_up hs sy (va_up (hs sy) kk (hs sy kk + c))) 1) (wrM tc (vl 1) fal ((va_up hs sy (va_up (hs sy) kk (hs sy kk + c))) 1) (cn 1) (sp / rb) (zrF rz 8) (cn 1)) 8) s1 q : Nat) : Int)) := (hs_up 1 (fun s1 h1 h2 => hne12 _ (by omega) (by omega) (by omega)) f_hs hq2)
          have hfr : ∀ j, ¬ ((x + 54 ≤ j ∧ j ≤ x + 66) ∧ j ≠ x + 55) → j ≠ (b + 14 + 9 * t) → j ≠ ((b + 14 + 9 * t) + 1) → j ≠ ((b + 14 + 9 * t) + 2) → j ≠ ((b + 14 + 9 * t) + 3) → w9 j = w j := fun j a0 a1 a2 a3 a4 => (hne12 j (by omega) (by omega) (by omega)).trans (hfr j a0 a1 a2 a3 a4)
          refine lv_iload hx hb dX6_sale_163 (lv_at hl 0 rfl) ?_
          refine n_iretP hQ hx hb hr hlocks hP hS dX6_sale_165 ?_
          exact ⟨hfr, tc, (wrM tc (vl 1) fal ((va_up hs sy (va_up (hs sy) kk (hs sy kk + c))) 1) (cn 1) (sp / rb) (zrF rz 8) (cn 1)), htc, f_row, f_rows, ⟨_, f_pl⟩, ⟨_, f_co⟩, fun h9 => absurd h9 hc122, fun _ => ⟨rfl, f_t, f_hs, f_la⟩⟩
        · skip
          refine lv_aload hx hb dX6_sale_125 (lv_at hl 1 rfl) ?_
          refine lv_iload hx hb dX6_sale_127 (lv_at hl 8 rfl) ?_
          refine lv_dup2_11 hx hb dX6_sale_129 rfl rfl ?_
          refine n_iald hx hb hK hP kk (by omega) f_cs (by omega) (by omega) (by decide) dX6_sale_130 ?_
          refine lv_iload hx hb dX6_sale_131 (lv_at hl 9 rfl) ?_
          refine n_isub hx hb dX6_sale_133 ?_
          refine n_iast hx hb hK hJ hP hS kk (by omega) f_cs (by omega) (by omega) (by decide) dX6_sale_134 (fun w13 H locs f_cs hne14 hP hS => ?_)
          have f_x := (hne14 x (by omega)).trans f_x
          have f_L := (hne14 b (by omega)).trans f_L
          have f_ts := (hne14 (b + 12) (by omega)).trans f_ts
          have f_cn : ∀ k, k < 2 → w13 (b + 1 + 4 * k) = .inr (1, [.int (iI ((cn k : Nat) : Int)), .ref (ad (b + 1 + 4 * k + 1)), .ref (ad (b + 1 + 4 * k + 2)), .ref (ad (b + 1 + 4 * k + 3))]) := fun k hk9 => (hne14 _ (by omega)).trans (f_cn _ hk9)
          have f_vs : ∀ k, k < 2 → w13 (b + 1 + 4 * k + 1) = aI G 8 (fun q => (vl k q : Int)) := fun k hk9 => (hne14 _ (by omega)).trans (f_vs _ hk9)
          have f_t := (hne14 (b + 14 + 9 * t) (by omega)).trans f_t
          have f_hs : ∀ s1, s1 < 2 → w13 ((b + 14 + 9 * t) + 1 + s1) = aI G 8 (fun q => ((va_up (va_up hs sy (va_up (hs sy) kk (hs sy kk + c))) sy (hs sy) s1 q : Nat) : Int)) := (hs_up sy (fun s1 h1 h2 => hne14 _ (by omega)) f_hs (f_cs.trans (congrArg (aI G 8) (hs_back (hs sy) kk c))))
          have f_la := (hne14 ((b + 14 + 9 * t) + 3) (by omega)).trans f_la
          have f_o2 := (hne14 (b + 5) (by omega)).trans f_o2
          have f_v2 := (hne14 ((b + 5) + 1) (by omega)).trans f_v2
          have f_f2 := (hne14 ((b + 5) + 2) (by omega)).trans f_f2
          have f_m := (hne14 (x + 53) (by omega)).trans f_m
          have f_g := (hne14 ((x + 53) + 2) (by omega)).trans f_g
          have f_row := (hne14 ((x + 53) + 1) (by omega)).trans f_row
          have f_rows : ∀ k, k < 9 → w13 ((x + 53) + 3 + k) = aI G 2001 (tc k) := fun k hk9 => (hne14 _ (by omega)).trans (f_rows _ hk9)
          have f_pl := (hne14 ((x + 53) + 12) (by omega)).trans f_pl
          have f_co := (hne14 ((x + 53) + 13) (by omega)).trans f_co
          have hfr : ∀ j, ¬ ((x + 54 ≤ j ∧ j ≤ x + 66) ∧ j ≠ x + 55) → j ≠ (b + 14 + 9 * t) → j ≠ ((b + 14 + 9 * t) + 1) → j ≠ ((b + 14 + 9 * t) + 2) → j ≠ ((b + 14 + 9 * t) + 3) → w13 j = w j := fun j a0 a1 a2 a3 a4 => (hne14 j (by omega)).trans (hfr j a0 a1 a2 a3 a4)
          refine n_iconst hx hb dX6_sale_135 ?_
          refine n_iretP hQ hx hb hr hlocks hP hS dX6_sale_136 ?_
          exact ⟨hfr, tc, rz, htc, f_row.trans (congrArg (aI G 8) (hm6 (Decidable.byContradiction hc122))), f_rows, ⟨_, f_pl⟩, ⟨_, f_co⟩, fun _ => ⟨rfl, f_t, (fun s1 h9 => (f_hs s1 h9).trans (congrArg (aI G 8) (funext fun q => congrArg Int.ofNat (hs_bk s1 q)))), f_la⟩, fun h9 => absurd h9 hc122⟩
      · skip
        exact absurd hc72 (by omega)
  · skip
    exact absurd ⟨by omega, by omega, by omega, by rw [Int.toNat_natCast]; omega⟩ hc28
set_option maxHeartbeats 4000000 in
set_option maxRecDepth 100000 in
theorem c_X6_sale_big {l : Launch} {G : nG} {N : Nat} {ad : Nat → Nat} {w : Nat → va_E} {sz : Nat} (x b tn ra rb stp : Nat) (cn : Nat → Nat) (sa sc tk t sy kk a c : Nat) (hs vl : Nat → Nat → Nat) (sp : Nat) (fal la rz : Nat → Nat) (tb : Nat → Nat → Int) (P0 C0 : Nat → Int) (hN : x + 218 < N) (hxb : b = x + 1) (hcn : ∀ k, k < 2 → cn k ≤ 8) (htn : tn ≤ 4) (hra : 1 ≤ ra ∧ ra ≤ 100) (hrb : 1 ≤ rb ∧ rb ≤ 100) (hhb : ∀ s1 q, hs s1 q ≤ 1000) (hvl : ∀ s1 q, vl s1 q ≤ 1000) (ht : t < tn) (hs_ : sy < 2) (hk : kk < cn sy) (ha : 1 ≤ a ∧ a ≤ 2000) (hc : 1 ≤ c ∧ c ≤ 50) (hspe : ((c : Nat) : Int) * (vl sy kk : Int) * ((if sy = 0 then ra else rb : Nat) : Int) - ((a : Nat) : Int) * ((rb : Nat) : Int) = (sp : Int)) (hok : hs sy kk + c ≤ 1000) (hval1 : ∀ k, k < cn 1 → 1 ≤ vl 1 k) (hfal : ∀ k, k < cn 1 → fal k < cn 1) (hsa : sa < 2147483647) (hch : 2000 < sp / rb) (f_x : w x = .inr (6, [.ref (ad b), .ref (ad (x + 51)), .ref (ad (x + 52)), .ref (ad (x + 53)), .ref (ad (x + 67)), .ref (ad (x + 68))])) (f_L : w b = .inr (4, [.ref (ad (b + 1)), .ref (ad (b + 5)), .ref (ad (b + 9)), .ref (ad (b + 12)), .ref (ad (b + 13)), .int (iI ((tn : Nat) : Int)), .int (iI ((ra : Nat) : Int)), .int (iI ((rb : Nat) : Int)), .int (iI ((stp : Nat) : Int))])) (f_ts : w (b + 12) = aR G 3 4 (fun k => some (ad (b + 14 + 9 * k)))) (f_cn : ∀ k, k < 2 → w (b + 1 + 4 * k) = .inr (1, [.int (iI ((cn k : Nat) : Int)), .ref (ad (b + 1 + 4 * k + 1)), .ref (ad (b + 1 + 4 * k + 2)), .ref (ad (b + 1 + 4 * k + 3))])) (f_vs : ∀ k, k < 2 → w (b + 1 + 4 * k + 1) = aI G 8 (fun q => (vl k q : Int))) (f_t : w (b + 14 + 9 * t) = .inr (5, [.ref (ad ((b + 14 + 9 * t) + 1)), .ref (ad ((b + 14 + 9 * t) + 2)), .ref (ad ((b + 14 + 9 * t) + 3)), .ref (ad ((b + 14 + 9 * t) + 4)), .int (iI ((sa : Nat) : Int)), .long (jI ((sc : Nat) : Int)), .long (jI ((tk : Nat) : Int))])) (f_hs : ∀ s1, s1 < 2 → w ((b + 14 + 9 * t) + 1 + s1) = aI G 8 (fun q => (hs s1 q : Int))) (f_la : w ((b + 14 + 9 * t) + 3) = aI G 8 (fun q => (la q : Int))) (f_o2 : w (b + 5) = .inr (1, [.int (iI ((cn 1 : Nat) : Int)), .ref (ad ((b + 5) + 1)), .ref (ad ((b + 5) + 2)), .ref (ad ((b + 5) + 3))])) (f_v2 : w ((b + 5) + 1) = aI G 8 (fun q => (vl 1 q : Int))) (f_f2 : w ((b + 5) + 2) = aI G 8 (fun q => (fal q : Int))) (f_m : w (x + 53) = .inr (0, [.ref (ad ((x + 53) + 1)), .ref (ad ((x + 53) + 2)), .ref (ad ((x + 53) + 12)), .ref (ad ((x + 53) + 13))])) (f_g : w ((x + 53) + 2) = aR G 5 9 (fun k => some (ad ((x + 53) + 3 + k)))) (f_row : w ((x + 53) + 1) = aI G 8 (fun q => (rz q : Int))) (f_rows : ∀ k, k < 9 → w ((x + 53) + 3 + k) = aI G 2001 (tb k)) (f_pl : w ((x + 53) + 12) = aI G 2001 P0) (f_co : w ((x + 53) + 13) = aI G 2001 C0) : Met l yX6_sale wsX6_sale ({ frames := 4, cells := 0, slots := 0, locals := 104 }) (va_Pc [.ref (ad x), .int (iI ((t : Nat) : Int)), .int (iI ((a : Nat) : Int)), .int (iI ((sy : Nat) : Int)), .int (iI ((kk : Nat) : Int)), .int (iI ((c : Nat) : Int))] (nB G N ad w sz)) (nPi G N ad sz (fun r u => (∀ j, j ≠ ((b + 14 + 9 * t) + 1) → j ≠ ((b + 14 + 9 * t) + 2) → u j = w j) ∧ (r = -1) ∧ (∀ s1, s1 < 2 → u ((b + 14 + 9 * t) + 1 + s1) = aI G 8 (fun q => (hs s1 q : Int))))) 0 0 (nA N ad sz) := by
  refine n_ent (cc := cX6_sale) (maxL := 10) (ret := (some .int)) (by decide) rfl (Nat.le_of_ble_eq_true rfl) ?_
  intro p e s m below meth cd hx hb hr hml hlocks hts hown hnm hsz hP hK hI Q hQ ls hl
  have hown : s.vm.findClass RX6 = some m.cls := hown
  subst hsz
  have hJ := hI.J s.heap.size
  have hS : va_S (nA N ad s.heap.size) s.heap s.heap [] := va_S.rf
  have hfr : ∀ j, j ≠ ((b + 14 + 9 * t) + 1) → j ≠ ((b + 14 + 9 * t) + 2) → w j = w j := fun _ _ _ => rfl
  have hl : lv_has ls 10 [(0, .ref (ad x)), (1, .int (iI ((t : Nat) : Int))), (2, .int (iI ((a : Nat) : Int))), (3, .int (iI ((sy : Nat) : Int))), (4, .int (iI ((kk : Nat) : Int))), (5, .int (iI ((c : Nat) : Int)))] := hl
  have hc8 := hcn sy (by omega)
  have hsp := spare_rng (sy := sy) (ra := ra) (rb := rb) (a := a) hc.2 (hvl sy kk) hra.2 hrb.2 ha.2
  have hmr : sp % rb < rb := Nat.mod_lt _ (by omega)
  have hdl : sp / rb ≤ sp := Nat.div_le_self _ _
  have hdz : (0 : Int) ≤ ((sp / rb : Nat) : Int) := Int.natCast_nonneg _
  rw [hspe] at hsp
  refine lv_aload_n hx hb dX6_sale_0 rfl (lv_at hl 0 rfl) ?_
  refine n_get hx hb hts u_X6 hown hK hP (by omega) f_x rfl 0 (by decide) (nT_m wf_X6_10) rfl dX6_sale_1 ?_
  refine lv_iload_n hx hb dX6_sale_4 rfl (lv_at hl 1 rfl) ?_
  refine n_rdF (va_runV (As := [.int (iI ((t : Nat) : Int))]) (rest := []) ⟨hx, hb, hml, hown, hts⟩ (c_X4_tillAt_y _ _ _ _ _ t (by omega) (by omega) (by omega) f_L f_ts) (cwV 1 hts (nT_V wl_X6_137 wi_X4_tillAt ws_X4_tillAt wn_X4 wc_X4_tillAt) rfl rfl rfl (by decide +kernel) ⟨Nat.le_of_ble_eq_true rfl, Nat.le_of_ble_eq_true rfl⟩) (nB.preV hK hI hP (by omega) f_L rfl rfl) rfl rfl hl.1 rfl (lv_room (Nat.le_of_ble_eq_true rfl)) dX6_sale_5 ⟨Nat.zero_le _, Nat.zero_le _⟩) ?_
  refine lv_astore (lv' := [(6, .ref (ad (b + 14 + 9 * t))), (0, .ref (ad x)), (1, .int (iI ((t : Nat) : Int))), (2, .int (iI ((a : Nat) : Int))), (3, .int (iI ((sy : Nat) : Int))), (4, .int (iI ((kk : Nat) : Int))), (5, .int (iI ((c : Nat) : Int)))]) hx hb dX6_sale_8 hl (by decide) rfl (fun ls hl => ?_)
  refine lv_aload hx hb dX6_sale_10 (lv_at hl 0 rfl) ?_
  refine lv_ifnull hx hb dX6_sale_12 ?_
  refine lv_aload_n hx hb dX6_sale_15 rfl (lv_at hl 1 rfl) ?_
  refine n_get hx hb hts u_X6 hown hK hP (by omega) f_x rfl 0 (by decide) (nT_m wf_X6_10) rfl dX6_sale_16 ?_
  refine lv_iload_n hx hb dX6_sale_19 rfl (lv_at hl 3 rfl) ?_
  refine lv_iload_n hx hb dX6_sale_20 rfl (lv_at hl 4 rfl) ?_
  refine lv_iload hx hb dX6_sale_21 (lv_at hl 5 rfl) ?_
  refine lv_iload hx hb dX6_sale_23 (lv_at hl 6 rfl) ?_
  refine n_rdF (va_runV (As := [.int (iI ((a : Nat) : Int)), .int (iI ((sy : Nat) : Int)), .int (iI ((kk : Nat) : Int)), .int (iI ((c : Nat) : Int))]) (rest := []) ⟨hx, hb, hml, hown, hts⟩ (c_X4_isSale _ _ _ _ _ cn ((a : Nat) : Int) ((sy : Nat) : Int) ((kk : Nat) : Int) ((c : Nat) : Int) (by omega) hcn (by omega) (by omega) (by omega) (by omega) f_L f_cn) (cwV 4 hts (nT_V wl_X6_152 wi_X4_isSale ws_X4_isSale wn_X4 wc_X4_isSale) rfl rfl rfl (by decide +kernel) ⟨Nat.le_of_ble_eq_true rfl, Nat.le_of_ble_eq_true rfl⟩) (nB.preV hK hI hP (by omega) f_L rfl rfl) rfl rfl hl.1 rfl (lv_room (Nat.le_of_ble_eq_true rfl)) dX6_sale_25 ⟨Nat.zero_le _, Nat.zero_le _⟩) ?_
  refine n_if_neB (tgt := 33) hx hb dX6_sale_28 (by decide) (fun hc28 => ?_) (fun hc28 => ?_)
  · skip
    refine lv_aload_n hx hb dX6_sale_33 rfl (lv_at hl 1 rfl) ?_
    refine n_get hx hb hts u_X6 hown hK hP (by omega) f_x rfl 0 (by decide) (nT_m wf_X6_10) rfl dX6_sale_34 ?_
    refine lv_iload_n hx hb dX6_sale_37 rfl (lv_at hl 3 rfl) ?_
    refine lv_iload_n hx hb dX6_sale_38 rfl (lv_at hl 4 rfl) ?_
    refine lv_iload hx hb dX6_sale_39 (lv_at hl 5 rfl) ?_
    refine lv_iload hx hb dX6_sale_41 (lv_at hl 6 rfl) ?_
    refine n_rdF (v := .int (iI ((sp : Nat) : Int))) (va_runV (As := [.int (iI ((a : Nat) : Int)), .int (iI ((sy : Nat) : Int)), .int (iI ((kk : Nat) : Int)), .int (iI ((c : Nat) : Int))]) (rest := []) ⟨hx, hb, hml, hown, hts⟩ (by rw [← hspe]; exact c_X4_spareParts _ _ _ _ _ sy (cn sy) (vl sy) a kk c (by omega) (by omega) (by omega) (hvl sy) hk f_L (f_cn sy (by omega)) (f_vs sy (by omega))) (cwV 4 hts (nT_V wl_X6_156 wi_X4_spareParts ws_X4_spareParts wn_X4 wc_X4_spareParts) rfl rfl rfl (by decide +kernel) ⟨Nat.le_of_ble_eq_true rfl, Nat.le_of_ble_eq_true rfl⟩) (nB.preV hK hI hP (by omega) f_L rfl rfl) rfl rfl hl.1 rfl (lv_room (Nat.le_of_ble_eq_true rfl)) dX6_sale_43 ⟨Nat.zero_le _, Nat.zero_le _⟩) ?_
    refine lv_istore (lv' := [(7, .int (iI ((sp : Nat) : Int))), (6, .ref (ad (b + 14 + 9 * t))), (0, .ref (ad x)), (1, .int (iI ((t : Nat) : Int))), (2, .int (iI ((a : Nat) : Int))), (3, .int (iI ((sy : Nat) : Int))), (4, .int (iI ((kk : Nat) : Int))), (5, .int (iI ((c : Nat) : Int)))]) hx hb dX6_sale_46 hl (by decide) rfl (fun ls hl => ?_)
    refine lv_aload hx hb dX6_sale_48 (lv_at hl 1 rfl) ?_
    refine lv_iload_n hx hb dX6_sale_50 rfl (lv_at hl 5 rfl) ?_
    refine n_rdF (va_runV (As := [.int (iI ((sy : Nat) : Int))]) (rest := []) ⟨hx, hb, hml, hown, hts⟩ (c_X5_countsOf _ _ _ _ sy (by omega) (by omega) f_t) (cwV 1 hts (nT_V wl_X6_144 wi_X5_countsOf ws_X5_countsOf wn_X5 wc_X5_countsOf) rfl rfl rfl (by decide +kernel) ⟨Nat.le_of_ble_eq_true rfl, Nat.le_of_ble_eq_true rfl⟩) (nB.preV hK hI hP (by omega) f_t rfl rfl) rfl rfl hl.1 rfl (lv_room (Nat.le_of_ble_eq_true rfl)) dX6_sale_51 ⟨Nat.zero_le _, Nat.zero_le _⟩) ?_
    refine lv_astore (lv' := [(8, .ref (ad ((b + 14 + 9 * t) + 1 + sy))), (7, .int (iI ((sp : Nat) : Int))), (6, .ref (ad (b + 14 + 9 * t))), (0, .ref (ad x)), (1, .int (iI ((t : Nat) : Int))), (2, .int (iI ((a : Nat) : Int))), (3, .int (iI ((sy : Nat) : Int))), (4, .int (iI ((kk : Nat) : Int))), (5, .int (iI ((c : Nat) : Int)))]) hx hb dX6_sale_54 hl (by decide) rfl (fun ls hl => ?_)
    have f_cs := f_hs sy (by omega)
    refine lv_iload hx hb dX6_sale_56 (lv_at hl 1 rfl) ?_
    refine n_if_lt (tgt := 75) hx hb dX6_sale_58 (by decide) (by omega) (fun hc58 => ?_) (fun hc58 => ?_)
    · skip
      exact absurd hc58 (by omega)
    · skip
      refine lv_aload hx hb dX6_sale_61 (lv_at hl 0 rfl) ?_
      refine lv_iload hx hb dX6_sale_63 (lv_at hl 7 rfl) ?_
      refine n_iald hx hb hK hP kk (by omega) f_cs (by omega) (by omega) (by decide) dX6_sale_65 ?_
      have ho1 := hhb sy kk
      refine lv_iload hx hb dX6_sale_66 (lv_at hl 8 rfl) ?_
      refine n_iadd hx hb dX6_sale_68 ?_
      refine n_sipush hx hb dX6_sale_69 (by decide) ?_
      refine n_icmp_le (tgt := 77) hx hb dX6_sale_72 (by decide) (by omega) (by omega) (fun hc72 => ?_) (fun hc72 => ?_)
      · skip
        refine lv_iload hx hb dX6_sale_77 (lv_at hl 1 rfl) ?_
        refine lv_aload_n hx hb dX6_sale_79 rfl (lv_at hl 3 rfl) ?_
        refine n_get hx hb hts u_X6 hown hK hP (by omega) f_x rfl 0 (by decide) (nT_m wf_X6_10) rfl dX6_sale_80 ?_
        refine n_get hx hb hts u_X4 hown hK hP (by omega) f_L rfl 7 (by decide) (nT_m wf_X6_61) rfl dX6_sale_83 ?_
        refine n_rdF (v := .int (iI ((sp / rb : Nat) : Int))) (va_runS (As := [.int (iI ((sp : Nat) : Int)), .int (iI ((rb : Nat) : Int))]) (rest := []) ⟨hx, hb, hml, hown, hts⟩ (c_X6_wholeTimes ((sp : Nat) : Int) ((rb : Nat) : Int) (by omega) (by omega)) (va_cwS 2 hts (nT_S wl_X6_160 wt_X6_wholeTimes wn_X6 wc_X6_wholeTimes) rfl rfl rfl (by decide +kernel) ⟨Nat.le_of_ble_eq_true rfl, Nat.le_of_ble_eq_true rfl⟩) preEq rfl rfl hl.1 rfl (lv_room (Nat.le_of_ble_eq_true rfl)) dX6_sale_86 ⟨Nat.zero_le _, Nat.zero_le _⟩) ?_
        refine lv_istore (lv' := [(9, .int (iI ((sp / rb : Nat) : Int))), (8, .ref (ad ((b + 14 + 9 * t) + 1 + sy))), (7, .int (iI ((sp : Nat) : Int))), (6, .ref (ad (b + 14 + 9 * t))), (0, .ref (ad x)), (1, .int (iI ((t : Nat) : Int))), (2, .int (iI ((a : Nat) : Int))), (3, .int (iI ((sy : Nat) : Int))), (4, .int (iI ((kk : Nat) : Int))), (5, .int (iI ((c : Nat) : Int)))]) hx hb dX6_sale_89 hl (by decide) rfl (fun ls hl => ?_)
        refine lv_aload hx hb dX6_sale_91 (lv_at hl 1 rfl) ?_
        refine lv_iload hx hb dX6_sale_93 (lv_at hl 8 rfl) ?_
        refine lv_dup2_11 hx hb dX6_sale_95 rfl rfl ?_
        refine n_iald hx hb hK hP kk (by omega) f_cs (by omega) (by omega) (by decide) dX6_sale_96 ?_
        have ho2 := hhb sy kk
        refine lv_iload hx hb dX6_sale_97 (lv_at hl 9 rfl) ?_
        refine n_iadd hx hb dX6_sale_99 ?_
        refine n_iast hx hb hK hJ hP hS kk (by omega) f_cs (by omega) (by omega) (by decide) dX6_sale_100 (fun w3 H locs f_cs hne4 hP hS => ?_)
        have f_x := (hne4 x (by omega)).trans f_x
        have f_L := (hne4 b (by omega)).trans f_L
        have f_ts := (hne4 (b + 12) (by omega)).trans f_ts
        have f_cn : ∀ k, k < 2 → w3 (b + 1 + 4 * k) = .inr (1, [.int (iI ((cn k : Nat) : Int)), .ref (ad (b + 1 + 4 * k + 1)), .ref (ad (b + 1 + 4 * k + 2)), .ref (ad (b + 1 + 4 * k + 3))]) := fun k hk9 => (hne4 _ (by omega)).trans (f_cn _ hk9)
        have f_vs : ∀ k, k < 2 → w3 (b + 1 + 4 * k + 1) = aI G 8 (fun q => (vl k q : Int)) := fun k hk9 => (hne4 _ (by omega)).trans (f_vs _ hk9)
        have f_t := (hne4 (b + 14 + 9 * t) (by omega)).trans f_t
        have f_hs : ∀ s1, s1 < 2 → w3 ((b + 14 + 9 * t) + 1 + s1) = aI G 8 (fun q => (((va_up hs sy (va_up (hs sy) kk (hs sy kk + c))) s1 q : Nat) : Int)) := (hs_up sy (fun s1 h1 h2 => hne4 _ (by omega)) f_hs (f_cs.trans (congrArg (aI G 8) (upZ (hs sy) kk (hs sy kk + c) _ (by omega)))))
        have f_la := (hne4 ((b + 14 + 9 * t) + 3) (by omega)).trans f_la
        have f_o2 := (hne4 (b + 5) (by omega)).trans f_o2
        have f_v2 := (hne4 ((b + 5) + 1) (by omega)).trans f_v2
        have f_f2 := (hne4 ((b + 5) + 2) (by omega)).trans f_f2
        have f_m := (hne4 (x + 53) (by omega)).trans f_m
        have f_g := (hne4 ((x + 53) + 2) (by omega)).trans f_g
        have f_row := (hne4 ((x + 53) + 1) (by omega)).trans f_row
        have f_rows : ∀ k, k < 9 → w3 ((x + 53) + 3 + k) = aI G 2001 (tb k) := fun k hk9 => (hne4 _ (by omega)).trans (f_rows _ hk9)
        have f_pl := (hne4 ((x + 53) + 12) (by omega)).trans f_pl
        have f_co := (hne4 ((x + 53) + 13) (by omega)).trans f_co
        have hfr : ∀ j, j ≠ ((b + 14 + 9 * t) + 1) → j ≠ ((b + 14 + 9 * t) + 2) → w3 j = w j := fun j a0 a1 => (hne4 j (by omega)).trans (hfr j a0 a1)
        have f_cs := f_cs.trans (congrArg (aI G 8) (upZ (hs sy) kk (hs sy kk + c) _ (by omega)))
        have hlm : ∀ q, (va_up hs sy (va_up (hs sy) kk (hs sy kk + c))) 1 q ≤ 2000 := fun q => hs1_le hhb hok 1 q
        refine lv_aload_n hx hb dX6_sale_101 rfl (lv_at hl 4 rfl) ?_
        refine n_get hx hb hts u_X6 hown hK hP (by omega) f_x rfl 3 (by decide) (nT_m wf_X6_27) rfl dX6_sale_102 ?_
        refine lv_aload_n hx hb dX6_sale_105 rfl (lv_at hl 4 rfl) ?_
        refine n_get hx hb hts u_X6 hown hK hP (by omega) f_x rfl 0 (by decide) (nT_m wf_X6_10) rfl dX6_sale_106 ?_
        refine n_get hx hb hts u_X4 hown hK hP (by omega) f_L rfl 1 (by decide) (nT_m wf_X6_163) rfl dX6_sale_109 ?_
        refine lv_aload hx hb dX6_sale_112 (lv_at hl 3 rfl) ?_
        refine n_get hx hb hts u_X5 hown hK hP (by omega) f_t rfl 1 (by decide) (nT_m wf_X6_167) rfl dX6_sale_114 ?_
        refine lv_iload hx hb dX6_sale_117 (lv_at hl 0 rfl) ?_
        refine n_rdF (va_runV (As := [.ref (ad (b + 5)), .ref (ad ((b + 14 + 9 * t) + 2)), .int (iI ((sp / rb : Nat) : Int))]) (rest := []) ⟨hx, hb, hml, hown, hts⟩ (c_X0_make_no (x + 53) (b + 5) ((b + 14 + 9 * t) + 2) _ (by omega) (by omega) (by omega) f_m) (cwV 3 hts (nT_V wl_X6_169 wi_X0_make ws_X0_make wn_X0 wc_X0_make) rfl rfl rfl (by decide +kernel) ⟨Nat.le_of_ble_eq_true rfl, Nat.le_of_ble_eq_true rfl⟩) (nB.preV hK hI hP (by omega) f_m rfl rfl) rfl rfl hl.1 rfl (lv_room (Nat.le_of_ble_eq_true rfl)) dX6_sale_119 ⟨Nat.zero_le _, Nat.zero_le _⟩) ?_
        refine n_if_neB (tgt := 137) hx hb dX6_sale_122 (by decide) (fun hc122 => ?_) (fun hc122 => ?_)
        · skip
          exact hc122.elim
        · skip
          refine lv_aload hx hb dX6_sale_125 (lv_at hl 1 rfl) ?_
          refine lv_iload hx hb dX6_sale_127 (lv_at hl 8 rfl) ?_
          refine lv_dup2_11 hx hb dX6_sale_129 rfl rfl ?_
          refine n_iald hx hb hK hP kk (by omega) f_cs (by omega) (by omega) (by decide) dX6_sale_130 ?_
          refine lv_iload hx hb dX6_sale_131 (lv_at hl 9 rfl) ?_
          refine n_isub hx hb dX6_sale_133 ?_
          refine n_iast hx hb hK hJ hP hS kk (by omega) f_cs (by omega) (by omega) (by decide) dX6_sale_134 (fun w5 H locs f_cs hne6 hP hS => ?_)
          have f_x := (hne6 x (by omega)).trans f_x
          have f_L := (hne6 b (by omega)).trans f_L
          have f_ts := (hne6 (b + 12) (by omega)).trans f_ts
          have f_cn : ∀ k, k < 2 → w5 (b + 1 + 4 * k) = .inr (1, [.int (iI ((cn k : Nat) : Int)), .ref (ad (b + 1 + 4 * k + 1)), .ref (ad (b + 1 + 4 * k + 2)), .ref (ad (b + 1 + 4 * k + 3))]) := fun k hk9 => (hne6 _ (by omega)).trans (f_cn _ hk9)
          have f_vs : ∀ k, k < 2 → w5 (b + 1 + 4 * k + 1) = aI G 8 (fun q => (vl k q : Int)) := fun k hk9 => (hne6 _ (by omega)).trans (f_vs _ hk9)
          have f_t := (hne6 (b + 14 + 9 * t) (by omega)).trans f_t
          have f_hs : ∀ s1, s1 < 2 → w5 ((b + 14 + 9 * t) + 1 + s1) = aI G 8 (fun q => ((va_up (va_up hs sy (va_up (hs sy) kk (hs sy kk + c))) sy (hs sy) s1 q : Nat) : Int)) := (hs_up sy (fun s1 h1 h2 => hne6 _ (by omega)) f_hs (f_cs.trans (congrArg (aI G 8) (hs_back (hs sy) kk c))))
          have f_la := (hne6 ((b + 14 + 9 * t) + 3) (by omega)).trans f_la
          have f_o2 := (hne6 (b + 5) (by omega)).trans f_o2
          have f_v2 := (hne6 ((b + 5) + 1) (by omega)).trans f_v2
          have f_f2 := (hne6 ((b + 5) + 2) (by omega)).trans f_f2
          have f_m := (hne6 (x + 53) (by omega)).trans f_m
          have f_g := (hne6 ((x + 53) + 2) (by omega)).trans f_g
          have f_row := (hne6 ((x + 53) + 1) (by omega)).trans f_row
          have f_rows : ∀ k, k < 9 → w5 ((x + 53) + 3 + k) = aI G 2001 (tb k) := fun k hk9 => (hne6 _ (by omega)).trans (f_rows _ hk9)
          have f_pl := (hne6 ((x + 53) + 12) (by omega)).trans f_pl
          have f_co := (hne6 ((x + 53) + 13) (by omega)).trans f_co
          have hfr : ∀ j, j ≠ ((b + 14 + 9 * t) + 1) → j ≠ ((b + 14 + 9 * t) + 2) → w5 j = w j := fun j a0 a1 => (hne6 j (by omega)).trans (hfr j a0 a1)
          refine n_iconst hx hb dX6_sale_135 ?_
          refine n_iretP hQ hx hb hr hlocks hP hS dX6_sale_136 ?_
          exact ⟨hfr, rfl, (fun s1 h9 => (f_hs s1 h9).trans (congrArg (aI G 8) (funext fun q => congrArg Int.ofNat (hs_bk s1 q))))⟩
      · skip
        exact absurd hc72 (by omega)
  · skip
    exact absurd ⟨by omega, by omega, by omega, by rw [Int.toNat_natCast]; omega⟩ hc28
