
theorem tbF_top (Fw : Nat → Int) (n sm : Nat) : tbF Fw n n sm = dE (Fw sm) := by
  show dE (Fw (2001 * (n - n) + sm)) = _
  rw [Nat.sub_self, Nat.mul_zero, Nat.zero_add]
theorem c_one {c s v : Nat} (h1 : c ≤ 0 + 1) (h3 : 0 < c ∨ s < c * v) : c = 1 := by
  rcases Nat.eq_zero_or_pos c with e | e
  · subst e
    rcases h3 with h3 | h3
    · omega
    · rw [Nat.zero_mul] at h3
      omega
  · omega
theorem fOK_0 {Fw : Nat → Int} {val B bd : Nat → Nat} {n sm : Nat} (h : ∀ s1, s1 < sm + 1 → Fw (2001 * n + s1) = if s1 = 0 then 0 else 1000000) : fOK Fw val B bd n sm n := by
  refine ⟨fun s1 h1 => h s1 (by omega), fun k h1 h2 => absurd h1 (by omega), fun k h1 h2 s1 h3 => ?_⟩
  obtain rfl : k = n := by omega
  rw [h s1 (by omega)]
  split <;> omega
theorem wr_ex {Fw : Nat → Int} {val B bd : Nat → Nat} {n sm q lf : Nat} (hsm : sm ≤ 2000) (hv : ∀ k, k < n → 1 ≤ val (B k)) (h : fOK Fw val B bd n sm 0) (hq : q < n) (hlf : lf ≤ sm) (hne : ¬ tbF Fw n (n - q) lf = -1) : ∃ j, j ≤ min (bd (B q)) (lf / val (B q)) ∧ wrP (tbF Fw n) (n - q) (val (B q)) lf j = true := by
  have h1 := (tbF_ok hsm hv h).2 (n - q - 1) (by omega) lf hlf
  rw [show n - 1 - (n - q - 1) = q by omega, show n - q - 1 + 1 = n - q by omega] at h1
  obtain ⟨j, h2, h3, h4⟩ := mn_ex (hv q hq) h1 hne
  exact ⟨j, h2, decide_eq_true ⟨h3, h4⟩⟩
set_option maxHeartbeats 4000000 in
set_option maxRecDepth 100000 in
theorem c_X7_find {l : Launch} {G : nG} {N : Nat} {ad : Nat → Nat} {w : Nat → va_E} {sz : Nat} (y : Nat) (Co Va : Nat → Nat) (sy sm : Nat) (b9 bd tk0 : Nat → Nat) (Fw0 : Nat → Int) (hN : y + 26 < N) (hCo : ∀ k, k < 2 → Co k ≤ 8) (hVa : ∀ k, k < 16 → Va k ≤ 1000) (hs : sy < 2) (hsm : sm ≤ 2000) (hV1 : ∀ k, k < Co sy → 1 ≤ Va (8 * sy + k)) (hbd : ∀ k, k < 8 → bd k ≤ 2000) (f_y : w y = .inr (7, [.int (iI 0), .ref (ad (y + 1)), .ref (ad (y + 2)), .ref (ad (y + 3)), .ref (ad (y + 4)), .ref (ad (y + 5)), .ref (ad (y + 6)), .ref (ad (y + 7)), .ref (ad (y + 8)), .ref (ad (y + 9)), .ref (ad (y + 10)), .ref (ad (y + 11)), .ref (ad (y + 12)), .ref (ad (y + 13)), .ref (ad (y + 14)), .ref (ad (y + 15)), .ref (ad (y + 16)), .ref (ad (y + 17)), .ref (ad (y + 18)), .ref (ad (y + 19)), .ref (ad (y + 20)), .ref (ad (y + 21)), .ref (ad (y + 22)), .ref (ad (y + 23)), .ref (ad (y + 24)), .ref (ad (y + 25)), .ref (ad (y + 26))])) (f_Co : w (y + 1) = aI G 8 (fun q => (Co q : Int))) (f_Va : w (y + 2) = aI G 64 (fun q => (Va q : Int))) (f_by : w (y + 19) = aI G 8 (fun q => (b9 q : Int))) (f_fw : w (y + 20) = aI G 18009 Fw0) (f_tk : w (y + 21) = aI G 8 (fun q => (tk0 q : Int))) (f_bd : w (y + 22) = aI G 8 (fun q => (bd q : Int))) : Met l yX7_find wsX7_find ({ frames := 1, cells := 0, slots := 0, locals := 23 }) (va_Pc [.ref (ad y), .int (iI ((sy : Nat) : Int)), .int (iI ((sm : Nat) : Int))] (nB G N ad w sz)) (nPi G N ad sz (fun r u => (∀ j, j ≠ (y + 19) → j ≠ (y + 20) → j ≠ (y + 21) → u j = w j) ∧ (∃ (B : Nat → Nat) (Fw : Nat → Int) (tk1 : Nat → Nat), B = srt (fun q9 => Va (8 * sy + q9)) b9 (Co sy) ∧ fOK Fw (fun q9 => Va (8 * sy + q9)) B bd (Co sy) sm 0 ∧ r = tbF Fw (Co sy) (Co sy) sm ∧ (¬ r = -1 → tk1 = wrM (tbF Fw (Co sy)) (fun q9 => Va (8 * sy + q9)) B bd (Co sy) sm tk0 (Co sy)) ∧ u (y + 19) = aI G 8 (fun q => (B q : Int)) ∧ u (y + 20) = aI G 18009 Fw ∧ u (y + 21) = aI G 8 (fun q => (tk1 q : Int))))) 0 0 (nA N ad sz) := by
  refine n_ent (cc := cX7_find) (maxL := 11) (ret := (some .int)) (by decide) rfl (Nat.le_of_ble_eq_true rfl) ?_
  intro p e s m below meth cd hx hb hr hml hlocks hts hown hnm hsz hP hK hI Q hQ ls hl
  have hown : s.vm.findClass RX7 = some m.cls := hown
  subst hsz
  have hJ := hI.J s.heap.size
  have hS : va_S (nA N ad s.heap.size) s.heap s.heap [] := va_S.rf
  have hfr : ∀ j, j ≠ (y + 19) → j ≠ (y + 20) → j ≠ (y + 21) → w j = w j := fun _ _ _ _ => rfl
  have hl : lv_has ls 11 [(0, .ref (ad y)), (1, .int (iI ((sy : Nat) : Int))), (2, .int (iI ((sm : Nat) : Int)))] := hl
  have hcs := hCo sy hs
  refine lv_aload_n hx hb dX7_find_0 rfl (lv_at hl 0 rfl) ?_
  refine lv_iload_n hx hb dX7_find_1 rfl (lv_at hl 1 rfl) ?_
  obtain ⟨B, hBe⟩ : ∃ B : Nat → Nat, B = srt (fun q9 => Va (8 * sy + q9)) b9 (Co sy) := ⟨_, rfl⟩
  have hB : ∀ j, j < Co sy → B j < Co sy := by rw [hBe]; exact srt_lt _ _ _
  refine n_cV (va_runV (As := [.int (iI ((sy : Nat) : Int))]) (rest := []) ⟨hx, hb, hml, hown, hts⟩ (c_X7_sortCoins y Co Va sy b9 (by omega) hCo hVa (by omega) f_y f_Co f_Va f_by) (cwV 1 hts (nT_V wl_X7_116 wi_X7_sortCoins ws_X7_sortCoins wn_X7 wc_X7_sortCoins) rfl rfl rfl (by decide +kernel) ⟨Nat.le_of_ble_eq_true rfl, Nat.le_of_ble_eq_true rfl⟩) (nB.preV hK hI hP (by omega) f_y rfl rfl) rfl rfl hl.1 rfl (lv_room (Nat.le_of_ble_eq_true rfl)) dX7_find_2 ⟨Nat.zero_le _, Nat.zero_le _⟩) hS (fun w1 H locs hq3 hP hS => ?_)
  obtain ⟨hne4, hp_by⟩ := hq3
  have f_y := (hne4 y (by omega)).trans f_y
  have f_Co := (hne4 (y + 1) (by omega)).trans f_Co
  have f_Va := (hne4 (y + 2) (by omega)).trans f_Va
  have f_fw := (hne4 (y + 20) (by omega)).trans f_fw
  have f_tk := (hne4 (y + 21) (by omega)).trans f_tk
  have f_bd := (hne4 (y + 22) (by omega)).trans f_bd
  have f_by : w1 (y + 19) = aI G 8 (fun q => (B q : Int)) := (by rw [hBe]; exact hp_by)
  have hfr : ∀ j, j ≠ (y + 19) → j ≠ (y + 20) → j ≠ (y + 21) → w1 j = w j := fun j a0 a1 a2 => (hne4 j (by omega)).trans (hfr j a0 a1 a2)
  refine lv_aload_n hx hb dX7_find_5 rfl (lv_at hl 0 rfl) ?_
  refine n_get hx hb hts u_X7 hown hK hP (by omega) f_y rfl 1 (by decide) (nT_m wf_X7_7) rfl dX7_find_6 ?_
  refine lv_iload_n hx hb dX7_find_9 rfl (lv_at hl 1 rfl) ?_
  refine n_iald hx hb hK hP sy (by omega) f_Co (by omega) (by omega) (by decide) dX7_find_10 ?_
  have ho5 := hCo sy (by omega)
  refine lv_istore_n (lv' := [(3, .int (iI (Co sy : Int))), (0, .ref (ad y)), (1, .int (iI ((sy : Nat) : Int))), (2, .int (iI ((sm : Nat) : Int)))]) hx hb dX7_find_11 rfl hl (by decide) rfl (fun ls hl => ?_)
  refine n_iconst hx hb dX7_find_12 ?_
  refine lv_istore (lv' := [(4, .int (iI 0)), (3, .int (iI (Co sy : Int))), (0, .ref (ad y)), (1, .int (iI ((sy : Nat) : Int))), (2, .int (iI ((sm : Nat) : Int)))]) hx hb dX7_find_13 hl (by decide) rfl (fun ls hl => ?_)
  have lp6 : ∀ (fu : Nat), ∀ (sx : Nat) (Fw : Nat → Int), ∀ (w7 : Nat → va_E) (H : Heap) (locs : List Loc), ∀ (ls : Array Slot), sm + 1 - sx < fu → sx ≤ sm + 1 → (∀ j, j < sx → Fw (2001 * Co sy + j) = if j = 0 then 0 else 1000000) → (∀ j, j ≠ (y + 19) → j ≠ (y + 20) → j ≠ (y + 21) → w7 j = w j) → w7 y = .inr (7, [.int (iI 0), .ref (ad (y + 1)), .ref (ad (y + 2)), .ref (ad (y + 3)), .ref (ad (y + 4)), .ref (ad (y + 5)), .ref (ad (y + 6)), .ref (ad (y + 7)), .ref (ad (y + 8)), .ref (ad (y + 9)), .ref (ad (y + 10)), .ref (ad (y + 11)), .ref (ad (y + 12)), .ref (ad (y + 13)), .ref (ad (y + 14)), .ref (ad (y + 15)), .ref (ad (y + 16)), .ref (ad (y + 17)), .ref (ad (y + 18)), .ref (ad (y + 19)), .ref (ad (y + 20)), .ref (ad (y + 21)), .ref (ad (y + 22)), .ref (ad (y + 23)), .ref (ad (y + 24)), .ref (ad (y + 25)), .ref (ad (y + 26))]) → w7 (y + 1) = aI G 8 (fun q => (Co q : Int)) → w7 (y + 2) = aI G 64 (fun q => (Va q : Int)) → w7 (y + 19) = aI G 8 (fun q => (B q : Int)) → w7 (y + 20) = aI G 18009 Fw → w7 (y + 21) = aI G 8 (fun q => (tk0 q : Int)) → w7 (y + 22) = aI G 8 (fun q => (bd q : Int)) → va_P G.1 vwCl (nL N ad w7) H → va_S (nA N ad s.heap.size) s.heap H locs → lv_has ls 11 [(0, .ref (ad y)), (1, .int (iI ((sy : Nat) : Int))), (2, .int (iI ((sm : Nat) : Int))), (3, .int (iI ((Co sy : Nat) : Int))), (4, .int (iI ((sx : Nat) : Int)))] → W p l e ({ frames := 1, cells := 0, slots := 0, locals := 23 } : Room) s m ([.ref (ad y), .int (iI ((sy : Nat) : Int)), .int (iI ((sm : Nat) : Int))] : List Value).toArray below meth cd H locs 0 0 Q (F0 m 15 ls []) := by
    intro fu
    induction fu with
    | zero =>
      intro sx Fw w7 H locs ls hfu hs1 hrw hfr f_y f_Co f_Va f_by f_fw f_tk f_bd hP hS hl
      exact absurd hfu (Nat.not_lt_zero _)
    | succ fu ih8 =>
      intro sx Fw w7 H locs ls hfu hs1 hrw hfr f_y f_Co f_Va f_by f_fw f_tk f_bd hP hS hl
      refine lv_iload hx hb dX7_find_15 (lv_at hl 4 rfl) ?_
      refine lv_iload_n hx hb dX7_find_17 rfl (lv_at hl 2 rfl) ?_
      refine n_icmp_gt (tgt := 51) hx hb dX7_find_18 (by decide) (by omega) (by omega) (fun hc18 => ?_) (fun hc18 => ?_)
      · skip
        refine lv_iload_n hx hb dX7_find_51 rfl (lv_at hl 3 rfl) ?_
        refine n_iconst hx hb dX7_find_52 ?_
        refine n_isub hx hb dX7_find_53 ?_
        refine lv_istore (lv' := [(4, .int (iI (((Co sy : Nat) : Int) - 1))), (0, .ref (ad y)), (1, .int (iI ((sy : Nat) : Int))), (2, .int (iI ((sm : Nat) : Int))), (3, .int (iI ((Co sy : Nat) : Int)))]) hx hb dX7_find_54 hl (by decide) rfl (fun ls hl => ?_)
        have lp9 : ∀ (fu : Nat), ∀ (kq : Nat) (Fw : Nat → Int), ∀ (w10 : Nat → va_E) (H : Heap) (locs : List Loc), ∀ (ls : Array Slot), kq < fu → kq ≤ Co sy → fOK Fw (fun q9 => Va (8 * sy + q9)) B bd (Co sy) sm kq → (∀ j, j ≠ (y + 19) → j ≠ (y + 20) → j ≠ (y + 21) → w10 j = w j) → w10 y = .inr (7, [.int (iI 0), .ref (ad (y + 1)), .ref (ad (y + 2)), .ref (ad (y + 3)), .ref (ad (y + 4)), .ref (ad (y + 5)), .ref (ad (y + 6)), .ref (ad (y + 7)), .ref (ad (y + 8)), .ref (ad (y + 9)), .ref (ad (y + 10)), .ref (ad (y + 11)), .ref (ad (y + 12)), .ref (ad (y + 13)), .ref (ad (y + 14)), .ref (ad (y + 15)), .ref (ad (y + 16)), .ref (ad (y + 17)), .ref (ad (y + 18)), .ref (ad (y + 19)), .ref (ad (y + 20)), .ref (ad (y + 21)), .ref (ad (y + 22)), .ref (ad (y + 23)), .ref (ad (y + 24)), .ref (ad (y + 25)), .ref (ad (y + 26))]) → w10 (y + 1) = aI G 8 (fun q => (Co q : Int)) → w10 (y + 2) = aI G 64 (fun q => (Va q : Int)) → w10 (y + 19) = aI G 8 (fun q => (B q : Int)) → w10 (y + 20) = aI G 18009 Fw → w10 (y + 21) = aI G 8 (fun q => (tk0 q : Int)) → w10 (y + 22) = aI G 8 (fun q => (bd q : Int)) → va_P G.1 vwCl (nL N ad w10) H → va_S (nA N ad s.heap.size) s.heap H locs → lv_has ls 11 [(0, .ref (ad y)), (1, .int (iI ((sy : Nat) : Int))), (2, .int (iI ((sm : Nat) : Int))), (3, .int (iI ((Co sy : Nat) : Int))), (4, .int (iI (((kq : Nat) : Int) - 1)))] → W p l e ({ frames := 1, cells := 0, slots := 0, locals := 23 } : Room) s m ([.ref (ad y), .int (iI ((sy : Nat) : Int)), .int (iI ((sm : Nat) : Int))] : List Value).toArray below meth cd H locs 0 0 Q (F0 m 56 ls []) := by
          intro fu
          induction fu with
          | zero =>
            intro kq Fw w10 H locs ls hfu hkq hF hfr f_y f_Co f_Va f_by f_fw f_tk f_bd hP hS hl
            exact absurd hfu (Nat.not_lt_zero _)
          | succ fu ih11 =>
            intro kq Fw w10 H locs ls hfu hkq hF hfr f_y f_Co f_Va f_by f_fw f_tk f_bd hP hS hl
            refine lv_iload hx hb dX7_find_56 (lv_at hl 4 rfl) ?_
            refine n_if_lt (tgt := 273) hx hb dX7_find_58 (by decide) (by omega) (fun hc58 => ?_) (fun hc58 => ?_)
            · skip
              obtain rfl : kq = 0 := by omega
              have hr0 := hF.2.2 0 (Nat.zero_le _) (Nat.zero_le _) sm (by omega)
              rw [Nat.mul_zero, Nat.zero_add] at hr0
              refine lv_aload_n hx hb dX7_find_273 rfl (lv_at hl 0 rfl) ?_
              refine n_get hx hb hts u_X7 hown hK hP (by omega) f_y rfl 20 (by decide) (nT_m wf_X7_68) rfl dX7_find_274 ?_
              refine lv_iload_n hx hb dX7_find_277 rfl (lv_at hl 2 rfl) ?_
              refine n_iald hx hb hK hP sm (by omega) f_fw (by omega) (by omega) (by decide) dX7_find_278 ?_
              refine lv_ldc (v := iI (1000000)) hx hb hown (hts _ (nT_m wk_X7_120)) dX7_find_279 ?_
              refine n_icmp_lt (tgt := 286) hx hb dX7_find_281 (by decide) (by omega) (by omega) (fun hc281 => ?_) (fun hc281 => ?_)
              · skip
                refine lv_iload_n hx hb dX7_find_286 rfl (lv_at hl 2 rfl) ?_
                refine lv_istore (lv' := [(4, .int (iI ((sm : Nat) : Int))), (0, .ref (ad y)), (1, .int (iI ((sy : Nat) : Int))), (2, .int (iI ((sm : Nat) : Int))), (3, .int (iI ((Co sy : Nat) : Int)))]) hx hb dX7_find_287 hl (by decide) rfl (fun ls hl => ?_)
                refine n_iconst hx hb dX7_find_289 ?_
                refine lv_istore (lv' := [(5, .int (iI 0)), (4, .int (iI ((sm : Nat) : Int))), (0, .ref (ad y)), (1, .int (iI ((sy : Nat) : Int))), (2, .int (iI ((sm : Nat) : Int))), (3, .int (iI ((Co sy : Nat) : Int)))]) hx hb dX7_find_290 hl (by decide) rfl (fun ls hl => ?_)
                have lp12 : ∀ (fu : Nat), ∀ (q : Nat), ∀ (w13 : Nat → va_E) (H : Heap) (locs : List Loc), ∀ (ls : Array Slot), Co sy - q < fu → q ≤ Co sy → ¬ tbF Fw (Co sy) (Co sy - q) (wrL (tbF Fw (Co sy)) (fun q9 => Va (8 * sy + q9)) B bd (Co sy) sm q) = -1 → (∀ j, j ≠ (y + 19) → j ≠ (y + 20) → j ≠ (y + 21) → w13 j = w j) → w13 y = .inr (7, [.int (iI 0), .ref (ad (y + 1)), .ref (ad (y + 2)), .ref (ad (y + 3)), .ref (ad (y + 4)), .ref (ad (y + 5)), .ref (ad (y + 6)), .ref (ad (y + 7)), .ref (ad (y + 8)), .ref (ad (y + 9)), .ref (ad (y + 10)), .ref (ad (y + 11)), .ref (ad (y + 12)), .ref (ad (y + 13)), .ref (ad (y + 14)), .ref (ad (y + 15)), .ref (ad (y + 16)), .ref (ad (y + 17)), .ref (ad (y + 18)), .ref (ad (y + 19)), .ref (ad (y + 20)), .ref (ad (y + 21)), .ref (ad (y + 22)), .ref (ad (y + 23)), .ref (ad (y + 24)), .ref (ad (y + 25)), .ref (ad (y + 26))]) → w13 (y + 1) = aI G 8 (fun q => (Co q : Int)) → w13 (y + 2) = aI G 64 (fun q => (Va q : Int)) → w13 (y + 19) = aI G 8 (fun q => (B q : Int)) → w13 (y + 20) = aI G 18009 Fw → w13 (y + 21) = aI G 8 (fun k => ((wrM (tbF Fw (Co sy)) (fun q9 => Va (8 * sy + q9)) B bd (Co sy) sm tk0 q k : Nat) : Int)) → w13 (y + 22) = aI G 8 (fun q => (bd q : Int)) → va_P G.1 vwCl (nL N ad w13) H → va_S (nA N ad s.heap.size) s.heap H locs → lv_has ls 11 [(0, .ref (ad y)), (1, .int (iI ((sy : Nat) : Int))), (2, .int (iI ((sm : Nat) : Int))), (3, .int (iI ((Co sy : Nat) : Int))), (4, .int (iI ((wrL (tbF Fw (Co sy)) (fun q9 => Va (8 * sy + q9)) B bd (Co sy) sm q : Nat) : Int))), (5, .int (iI ((q : Nat) : Int)))] → W p l e ({ frames := 1, cells := 0, slots := 0, locals := 23 } : Room) s m ([.ref (ad y), .int (iI ((sy : Nat) : Int)), .int (iI ((sm : Nat) : Int))] : List Value).toArray below meth cd H locs 0 0 Q (F0 m 292 ls []) := by
                  intro fu
                  induction fu with
                  | zero =>
                    intro q w13 H locs ls hfu hq hne hfr f_y f_Co f_Va f_by f_fw f_tk f_bd hP hS hl
                    exact absurd hfu (Nat.not_lt_zero _)
                  | succ fu ih14 =>
                    intro q w13 H locs ls hfu hq hne hfr f_y f_Co f_Va f_by f_fw f_tk f_bd hP hS hl
                    have hwl : wrL (tbF Fw (Co sy)) (fun q9 => Va (8 * sy + q9)) B bd (Co sy) sm q ≤ sm := wrL_le _ _ _ _ _ _ _
                    refine lv_iload hx hb dX7_find_292 (lv_at hl 5 rfl) ?_
                    refine lv_iload_n hx hb dX7_find_294 rfl (lv_at hl 3 rfl) ?_
                    refine n_icmp_ge (tgt := 437) hx hb dX7_find_295 (by decide) (by omega) (by omega) (fun hc295 => ?_) (fun hc295 => ?_)
                    · skip
                      obtain rfl : q = Co sy := by omega
                      refine lv_aload_n hx hb dX7_find_437 rfl (lv_at hl 0 rfl) ?_
                      refine n_get hx hb hts u_X7 hown hK hP (by omega) f_y rfl 20 (by decide) (nT_m wf_X7_68) rfl dX7_find_438 ?_
                      refine lv_iload_n hx hb dX7_find_441 rfl (lv_at hl 2 rfl) ?_
                      refine n_iald hx hb hK hP sm (by omega) f_fw (by omega) (by omega) (by decide) dX7_find_442 ?_
                      refine n_iretP hQ hx hb hr hlocks hP hS dX7_find_443 ?_
                      refine ⟨hfr, B, Fw, _, hBe, hF, ?_, fun _ => rfl, f_by, f_fw, f_tk⟩
                      rw [tbF_top]
                      exact (if_neg (by omega)).symm
                    · skip
                      have hBq := hB q (by omega)
                      have hv1 := hV1 (B q) hBq
                      have hvm := hVa (8 * sy + B q) (by omega)
                      have hdl : (wrL (tbF Fw (Co sy)) (fun q9 => Va (8 * sy + q9)) B bd (Co sy) sm q) / Va (8 * sy + B q) ≤ wrL (tbF Fw (Co sy)) (fun q9 => Va (8 * sy + q9)) B bd (Co sy) sm q := Nat.div_le_self _ _
                      have hd0 : (0 : Int) ≤ ((wrL (tbF Fw (Co sy)) (fun q9 => Va (8 * sy + q9)) B bd (Co sy) sm q : Nat) : Int) / ((Va (8 * sy + B q) : Nat) : Int) := Int.ediv_nonneg (by omega) (by omega)
                      refine lv_aload_n hx hb dX7_find_298 rfl (lv_at hl 0 rfl) ?_
                      refine n_get hx hb hts u_X7 hown hK hP (by omega) f_y rfl 2 (by decide) (nT_m wf_X7_13) rfl dX7_find_299 ?_
                      refine n_bipush hx hb dX7_find_302 (by decide) ?_
                      refine lv_iload_n hx hb dX7_find_304 rfl (lv_at hl 1 rfl) ?_
                      refine n_imul hx hb dX7_find_305 ?_
                      refine lv_aload_n hx hb dX7_find_306 rfl (lv_at hl 0 rfl) ?_
                      refine n_get hx hb hts u_X7 hown hK hP (by omega) f_y rfl 19 (by decide) (nT_m wf_X7_65) rfl dX7_find_307 ?_
                      refine lv_iload hx hb dX7_find_310 (lv_at hl 5 rfl) ?_
                      refine n_iald hx hb hK hP q (by omega) f_by (by omega) (by omega) (by decide) dX7_find_312 ?_
                      refine n_iadd hx hb dX7_find_313 ?_
                      refine n_iald hx hb hK hP ((8 * sy) + (B q)) (by omega) f_Va (by omega) (by omega) (by decide) dX7_find_314 ?_
                      have ho15 := hVa ((8 * sy) + (B q)) (by omega)
                      refine lv_istore (lv' := [(6, .int (iI (Va ((8 * sy) + (B q)) : Int))), (0, .ref (ad y)), (1, .int (iI ((sy : Nat) : Int))), (2, .int (iI ((sm : Nat) : Int))), (3, .int (iI ((Co sy : Nat) : Int))), (4, .int (iI ((wrL (tbF Fw (Co sy)) (fun q9 => Va (8 * sy + q9)) B bd (Co sy) sm q : Nat) : Int))), (5, .int (iI ((q : Nat) : Int)))]) hx hb dX7_find_315 hl (by decide) rfl (fun ls hl => ?_)
                      refine lv_iload hx hb dX7_find_317 (lv_at hl 5 rfl) ?_
                      refine lv_iload hx hb dX7_find_319 (lv_at hl 0 rfl) ?_
                      refine n_idivN hx hb dX7_find_321 (by omega) (by omega) ?_
                      refine lv_aload_n hx hb dX7_find_322 rfl (lv_at hl 1 rfl) ?_
                      refine n_get hx hb hts u_X7 hown hK hP (by omega) f_y rfl 22 (by decide) (nT_m wf_X7_74) rfl dX7_find_323 ?_
                      refine lv_aload_n hx hb dX7_find_326 rfl (lv_at hl 1 rfl) ?_
                      refine n_get hx hb hts u_X7 hown hK hP (by omega) f_y rfl 19 (by decide) (nT_m wf_X7_65) rfl dX7_find_327 ?_
                      refine lv_iload hx hb dX7_find_330 (lv_at hl 6 rfl) ?_
                      refine n_iald hx hb hK hP q (by omega) f_by (by omega) (by omega) (by decide) dX7_find_332 ?_
                      refine n_iald hx hb hK hP (B q) (by omega) f_bd (by omega) (by omega) (by decide) dX7_find_333 ?_
                      have ho16 := hbd (B q) (by omega)
                      refine n_icmp_ge (tgt := 345) hx hb dX7_find_334 (by decide) (by omega) (by omega) (fun hc334 => ?_) (fun hc334 => ?_)
                      · skip
                        refine lv_aload_n hx hb dX7_find_345 rfl (lv_at hl 1 rfl) ?_
                        refine n_get hx hb hts u_X7 hown hK hP (by omega) f_y rfl 22 (by decide) (nT_m wf_X7_74) rfl dX7_find_346 ?_
                        refine lv_aload_n hx hb dX7_find_349 rfl (lv_at hl 1 rfl) ?_
                        refine n_get hx hb hts u_X7 hown hK hP (by omega) f_y rfl 19 (by decide) (nT_m wf_X7_65) rfl dX7_find_350 ?_
                        refine lv_iload hx hb dX7_find_353 (lv_at hl 6 rfl) ?_
                        refine n_iald hx hb hK hP q (by omega) f_by (by omega) (by omega) (by decide) dX7_find_355 ?_
                        refine n_iald hx hb hK hP (B q) (by omega) f_bd (by omega) (by omega) (by decide) dX7_find_356 ?_
                        have ho17 := hbd (B q) (by omega)
                        refine lv_istore (lv' := [(7, .int (iI (bd (B q) : Int))), (6, .int (iI (Va ((8 * sy) + (B q)) : Int))), (0, .ref (ad y)), (1, .int (iI ((sy : Nat) : Int))), (2, .int (iI ((sm : Nat) : Int))), (3, .int (iI ((Co sy : Nat) : Int))), (4, .int (iI ((wrL (tbF Fw (Co sy)) (fun q9 => Va (8 * sy + q9)) B bd (Co sy) sm q : Nat) : Int))), (5, .int (iI ((q : Nat) : Int)))]) hx hb dX7_find_357 hl (by decide) rfl (fun ls hl => ?_)
                        have lp18 : ∀ (fu : Nat), ∀ (ii : Nat), ∀ (w19 : Nat → va_E) (H : Heap) (locs : List Loc), ∀ (ls : Array Slot), ii < fu → ii ≤ bd (B q) ∧ ii ≤ (wrL (tbF Fw (Co sy)) (fun q9 => Va (8 * sy + q9)) B bd (Co sy) sm q) / Va (8 * sy + B q) → dn (wrP (tbF Fw (Co sy)) (Co sy - q) (Va (8 * sy + B q)) (wrL (tbF Fw (Co sy)) (fun q9 => Va (8 * sy + q9)) B bd (Co sy) sm q)) ii = wrN (tbF Fw (Co sy)) (fun q9 => Va (8 * sy + q9)) B bd (Co sy) (wrL (tbF Fw (Co sy)) (fun q9 => Va (8 * sy + q9)) B bd (Co sy) sm q) q → (∃ j, j ≤ ii ∧ (wrP (tbF Fw (Co sy)) (Co sy - q) (Va (8 * sy + B q)) (wrL (tbF Fw (Co sy)) (fun q9 => Va (8 * sy + q9)) B bd (Co sy) sm q)) j = true) → (∀ j, j ≠ (y + 19) → j ≠ (y + 20) → j ≠ (y + 21) → w19 j = w j) → w19 y = .inr (7, [.int (iI 0), .ref (ad (y + 1)), .ref (ad (y + 2)), .ref (ad (y + 3)), .ref (ad (y + 4)), .ref (ad (y + 5)), .ref (ad (y + 6)), .ref (ad (y + 7)), .ref (ad (y + 8)), .ref (ad (y + 9)), .ref (ad (y + 10)), .ref (ad (y + 11)), .ref (ad (y + 12)), .ref (ad (y + 13)), .ref (ad (y + 14)), .ref (ad (y + 15)), .ref (ad (y + 16)), .ref (ad (y + 17)), .ref (ad (y + 18)), .ref (ad (y + 19)), .ref (ad (y + 20)), .ref (ad (y + 21)), .ref (ad (y + 22)), .ref (ad (y + 23)), .ref (ad (y + 24)), .ref (ad (y + 25)), .ref (ad (y + 26))]) → w19 (y + 1) = aI G 8 (fun q => (Co q : Int)) → w19 (y + 2) = aI G 64 (fun q => (Va q : Int)) → w19 (y + 19) = aI G 8 (fun q => (B q : Int)) → w19 (y + 20) = aI G 18009 Fw → w19 (y + 21) = aI G 8 (fun k => ((wrM (tbF Fw (Co sy)) (fun q9 => Va (8 * sy + q9)) B bd (Co sy) sm tk0 q k : Nat) : Int)) → w19 (y + 22) = aI G 8 (fun q => (bd q : Int)) → va_P G.1 vwCl (nL N ad w19) H → va_S (nA N ad s.heap.size) s.heap H locs → lv_has ls 11 [(0, .ref (ad y)), (1, .int (iI ((sy : Nat) : Int))), (2, .int (iI ((sm : Nat) : Int))), (3, .int (iI ((Co sy : Nat) : Int))), (4, .int (iI ((wrL (tbF Fw (Co sy)) (fun q9 => Va (8 * sy + q9)) B bd (Co sy) sm q : Nat) : Int))), (5, .int (iI ((q : Nat) : Int))), (6, .int (iI ((Va (8 * sy + B q) : Nat) : Int))), (7, .int (iI ((ii : Nat) : Int)))] → W p l e ({ frames := 1, cells := 0, slots := 0, locals := 23 } : Room) s m ([.ref (ad y), .int (iI ((sy : Nat) : Int)), .int (iI ((sm : Nat) : Int))] : List Value).toArray below meth cd H locs 0 0 Q (F0 m 359 ls []) := by
                          intro fu
                          induction fu with
                          | zero =>
                            intro ii w19 H locs ls hfu hii hdn hex hfr f_y f_Co f_Va f_by f_fw f_tk f_bd hP hS hl
                            exact absurd hfu (Nat.not_lt_zero _)
                          | succ fu ih20 =>
                            intro ii w19 H locs ls hfu hii hdn hex hfr f_y f_Co f_Va f_by f_fw f_tk f_bd hP hS hl
                            have hmv : ii * Va (8 * sy + B q) ≤ wrL (tbF Fw (Co sy)) (fun q9 => Va (8 * sy + q9)) B bd (Co sy) sm q := Nat.le_trans (Nat.mul_le_mul_right _ hii.2) (Nat.div_mul_le_self _ _)
                            have hwq := fOK_wr (q := q) (ii := ii) (v := Va (8 * sy + B q)) (by omega) hF hwl hsm hne
                            have hr1 := hF.2.2 (q + 1) (Nat.zero_le _) (by omega) (wrL (tbF Fw (Co sy)) (fun q9 => Va (8 * sy + q9)) B bd (Co sy) sm q - ii * Va (8 * sy + B q)) (by omega)
                            have hr2 := hF.2.2 q (Nat.zero_le _) (by omega) (wrL (tbF Fw (Co sy)) (fun q9 => Va (8 * sy + q9)) B bd (Co sy) sm q) (by omega)
                            refine lv_iload hx hb dX7_find_359 (lv_at hl 7 rfl) ?_
                            refine lv_aload_n hx hb dX7_find_361 rfl (lv_at hl 0 rfl) ?_
                            refine n_get hx hb hts u_X7 hown hK hP (by omega) f_y rfl 20 (by decide) (nT_m wf_X7_68) rfl dX7_find_362 ?_
                            refine n_sipush hx hb dX7_find_365 (by decide) ?_
                            refine lv_iload hx hb dX7_find_368 (lv_at hl 5 rfl) ?_
                            refine n_iconst hx hb dX7_find_370 ?_
                            refine n_iadd hx hb dX7_find_371 ?_
                            refine n_imul hx hb dX7_find_372 ?_
                            refine lv_iload hx hb dX7_find_373 (lv_at hl 4 rfl) ?_
                            refine n_iadd hx hb dX7_find_375 ?_
                            refine lv_iload hx hb dX7_find_376 (lv_at hl 7 rfl) ?_
                            refine lv_iload hx hb dX7_find_378 (lv_at hl 6 rfl) ?_
                            refine n_imul hx hb dX7_find_380 ?_
                            refine n_isub hx hb dX7_find_381 ?_
                            refine n_iald hx hb hK hP (2001 * (q + 1) + (wrL (tbF Fw (Co sy)) (fun q9 => Va (8 * sy + q9)) B bd (Co sy) sm q - ii * Va (8 * sy + B q))) (by omega) f_fw (by omega) (by omega) (by decide) dX7_find_382 ?_
                            refine n_iadd hx hb dX7_find_383 ?_
                            refine lv_aload_n hx hb dX7_find_384 rfl (lv_at hl 0 rfl) ?_
                            refine n_get hx hb hts u_X7 hown hK hP (by omega) f_y rfl 20 (by decide) (nT_m wf_X7_68) rfl dX7_find_385 ?_
                            refine n_sipush hx hb dX7_find_388 (by decide) ?_
                            refine lv_iload hx hb dX7_find_391 (lv_at hl 5 rfl) ?_
                            refine n_imul hx hb dX7_find_393 ?_
                            refine lv_iload hx hb dX7_find_394 (lv_at hl 4 rfl) ?_
                            refine n_iadd hx hb dX7_find_396 ?_
                            refine n_iald hx hb hK hP ((2001 * q) + wrL (tbF Fw (Co sy)) (fun q9 => Va (8 * sy + q9)) B bd (Co sy) sm q) (by omega) f_fw (by omega) (by omega) (by decide) dX7_find_397 ?_
                            refine n_icmp_eq (tgt := 407) hx hb dX7_find_398 (by decide) (by omega) (by omega) (fun hc398 => ?_) (fun hc398 => ?_)
                            · skip
                              have hwp : (wrP (tbF Fw (Co sy)) (Co sy - q) (Va (8 * sy + B q)) (wrL (tbF Fw (Co sy)) (fun q9 => Va (8 * sy + q9)) B bd (Co sy) sm q)) ii = true := hwq.trans (decide_eq_true hc398)
                              refine lv_aload_n hx hb dX7_find_407 rfl (lv_at hl 0 rfl) ?_
                              refine n_get hx hb hts u_X7 hown hK hP (by omega) f_y rfl 21 (by decide) (nT_m wf_X7_71) rfl dX7_find_408 ?_
                              refine lv_aload_n hx hb dX7_find_411 rfl (lv_at hl 0 rfl) ?_
                              refine n_get hx hb hts u_X7 hown hK hP (by omega) f_y rfl 19 (by decide) (nT_m wf_X7_65) rfl dX7_find_412 ?_
                              refine lv_iload hx hb dX7_find_415 (lv_at hl 5 rfl) ?_
                              refine n_iald hx hb hK hP q (by omega) f_by (by omega) (by omega) (by decide) dX7_find_417 ?_
                              refine lv_iload hx hb dX7_find_418 (lv_at hl 7 rfl) ?_
                              refine n_iast hx hb hK hJ hP hS (B q) (by omega) f_tk (by omega) (by omega) (by decide) dX7_find_420 (fun w21 H locs f_tk hne22 hP hS => ?_)
                              have f_y := (hne22 y (by omega)).trans f_y
                              have f_Co := (hne22 (y + 1) (by omega)).trans f_Co
                              have f_Va := (hne22 (y + 2) (by omega)).trans f_Va
                              have f_by := (hne22 (y + 19) (by omega)).trans f_by
                              have f_fw := (hne22 (y + 20) (by omega)).trans f_fw
                              have f_bd := (hne22 (y + 22) (by omega)).trans f_bd
                              have hfr : ∀ j, j ≠ (y + 19) → j ≠ (y + 20) → j ≠ (y + 21) → w21 j = w j := fun j a0 a1 a2 => (hne22 j (by omega)).trans (hfr j a0 a1 a2)
                              refine lv_iload hx hb dX7_find_421 (lv_at hl 4 rfl) ?_
                              refine lv_iload hx hb dX7_find_423 (lv_at hl 7 rfl) ?_
                              refine lv_iload hx hb dX7_find_425 (lv_at hl 6 rfl) ?_
                              refine n_imul hx hb dX7_find_427 ?_
                              refine n_isub hx hb dX7_find_428 ?_
                              refine lv_istore (lv' := [(4, .int (iI (((wrL (tbF Fw (Co sy)) (fun q9 => Va (8 * sy + q9)) B bd (Co sy) sm q : Nat) : Int) - (((ii : Nat) : Int) * ((Va (8 * sy + B q) : Nat) : Int))))), (0, .ref (ad y)), (1, .int (iI ((sy : Nat) : Int))), (2, .int (iI ((sm : Nat) : Int))), (3, .int (iI ((Co sy : Nat) : Int))), (5, .int (iI ((q : Nat) : Int))), (6, .int (iI ((Va (8 * sy + B q) : Nat) : Int))), (7, .int (iI ((ii : Nat) : Int)))]) hx hb dX7_find_429 hl (by decide) rfl (fun ls hl => ?_)
                              refine lv_iinc (v := iI (((q : Nat) : Int) + 1)) (lv' := [(5, .int (iI (((q : Nat) : Int) + 1))), (4, .int (iI (((wrL (tbF Fw (Co sy)) (fun q9 => Va (8 * sy + q9)) B bd (Co sy) sm q : Nat) : Int) - (((ii : Nat) : Int) * ((Va (8 * sy + B q) : Nat) : Int))))), (0, .ref (ad y)), (1, .int (iI ((sy : Nat) : Int))), (2, .int (iI ((sm : Nat) : Int))), (3, .int (iI ((Co sy : Nat) : Int))), (6, .int (iI ((Va (8 * sy + B q) : Nat) : Int))), (7, .int (iI ((ii : Nat) : Int)))]) hx hb dX7_find_431 hl (k := 5) rfl (by first | exact iI_add _ _ | exact (iI_add _ _).trans (congrArg iI (by omega))) (by decide) rfl (fun ls hl => ?_)
                              refine lv_goto (tgt := 292) hx hb dX7_find_434 (by decide) ?_
                              have hwn : wrN (tbF Fw (Co sy)) (fun q9 => Va (8 * sy + q9)) B bd (Co sy) (wrL (tbF Fw (Co sy)) (fun q9 => Va (8 * sy + q9)) B bd (Co sy) sm q) q = ii := hdn.symm.trans (dn_at ii hwp)
                              have hmv : ii * Va (8 * sy + B q) ≤ wrL (tbF Fw (Co sy)) (fun q9 => Va (8 * sy + q9)) B bd (Co sy) sm q := Nat.le_trans (Nat.mul_le_mul_right _ hii.2) (Nat.div_mul_le_self _ _)
                              exact ih14 (q + 1) _ _ _ _ (by omega) (by omega) (wrL_ok hwn hwp) hfr f_y f_Co f_Va f_by f_fw (f_tk.trans (congrArg (aI G 8) (by rw [upN]; funext k9; show _ = ((va_up (wrM (tbF Fw (Co sy)) (fun q9 => Va (8 * sy + q9)) B bd (Co sy) sm tk0 q) (B q) (wrN (tbF Fw (Co sy)) (fun q9 => Va (8 * sy + q9)) B bd (Co sy) (wrL (tbF Fw (Co sy)) (fun q9 => Va (8 * sy + q9)) B bd (Co sy) sm q) q) k9 : Nat) : Int); rw [hwn]))) f_bd hP hS (by first | exact lv_sub hl [2, 3, 4, 5, 1, 0] rfl | exact lv_cast (lv_sub (l' := [(0, .ref (ad y)), (1, .int (iI ((sy : Nat) : Int))), (2, .int (iI ((sm : Nat) : Int))), (3, .int (iI ((Co sy : Nat) : Int))), (4, .int (iI (((wrL (tbF Fw (Co sy)) (fun q9 => Va (8 * sy + q9)) B bd (Co sy) sm q : Nat) : Int) - (((ii : Nat) : Int) * ((Va (8 * sy + B q) : Nat) : Int))))), (5, .int (iI (((q : Nat) : Int) + 1)))]) hl [2, 3, 4, 5, 1, 0] rfl) (lc_s (lc_s (lc_s (lc_s (lc_i (show ((((wrL (tbF Fw (Co sy)) (fun q9 => Va (8 * sy + q9)) B bd (Co sy) sm q : Nat) : Int) - (((ii : Nat) : Int) * ((Va (8 * sy + B q) : Nat) : Int))) : Int) = ((wrL (tbF Fw (Co sy)) (fun q9 => Va (8 * sy + q9)) B bd (Co sy) sm (q + 1) : Nat) : Int) by show _ = ((wrL (tbF Fw (Co sy)) (fun q9 => Va (8 * sy + q9)) B bd (Co sy) sm q - wrN (tbF Fw (Co sy)) (fun q9 => Va (8 * sy + q9)) B bd (Co sy) (wrL (tbF Fw (Co sy)) (fun q9 => Va (8 * sy + q9)) B bd (Co sy) sm q) q * Va (8 * sy + B q) : Nat) : Int); rw [hwn]; omega) (lc_i (show ((((q : Nat) : Int) + 1) : Int) = (((q + 1) : Nat) : Int) by omega) rfl)))))))
                            · skip
                              refine lv_iinc (v := iI (((ii : Nat) : Int) - 1)) (lv' := [(7, .int (iI (((ii : Nat) : Int) - 1))), (0, .ref (ad y)), (1, .int (iI ((sy : Nat) : Int))), (2, .int (iI ((sm : Nat) : Int))), (3, .int (iI ((Co sy : Nat) : Int))), (4, .int (iI ((wrL (tbF Fw (Co sy)) (fun q9 => Va (8 * sy + q9)) B bd (Co sy) sm q : Nat) : Int))), (5, .int (iI ((q : Nat) : Int))), (6, .int (iI ((Va (8 * sy + B q) : Nat) : Int)))]) hx hb dX7_find_401 hl (k := 7) rfl (by first | exact iI_add _ _ | exact (iI_add _ _).trans (congrArg iI (by omega))) (by decide) rfl (fun ls hl => ?_)
                              refine lv_goto (tgt := 359) hx hb dX7_find_404 (by decide) ?_
                              have hwf : (wrP (tbF Fw (Co sy)) (Co sy - q) (Va (8 * sy + B q)) (wrL (tbF Fw (Co sy)) (fun q9 => Va (8 * sy + q9)) B bd (Co sy) sm q)) ii = false := hwq.trans (decide_eq_false hc398)
                              obtain ⟨j9, hj1, hj2⟩ := hex
                              have hj3 : j9 ≠ ii := fun e9 => by rw [e9, hwf] at hj2; cases hj2
                              exact ih20 (ii - 1) _ _ _ _ (by omega) (by omega) (by rw [← hdn]; have e9 : ii = (ii - 1) + 1 := (by omega); rw [e9] at hwf; exact ((congrArg (dn (wrP (tbF Fw (Co sy)) (Co sy - q) (Va (8 * sy + B q)) (wrL (tbF Fw (Co sy)) (fun q9 => Va (8 * sy + q9)) B bd (Co sy) sm q))) e9).trans (dn_n hwf)).symm) ⟨j9, by omega, hj2⟩ hfr f_y f_Co f_Va f_by f_fw f_tk f_bd hP hS (by first | exact lv_sub hl [1, 2, 3, 4, 5, 6, 7, 0] rfl | exact lv_cast (lv_sub (l' := [(0, .ref (ad y)), (1, .int (iI ((sy : Nat) : Int))), (2, .int (iI ((sm : Nat) : Int))), (3, .int (iI ((Co sy : Nat) : Int))), (4, .int (iI ((wrL (tbF Fw (Co sy)) (fun q9 => Va (8 * sy + q9)) B bd (Co sy) sm q : Nat) : Int))), (5, .int (iI ((q : Nat) : Int))), (6, .int (iI ((Va (8 * sy + B q) : Nat) : Int))), (7, .int (iI (((ii : Nat) : Int) - 1)))]) hl [1, 2, 3, 4, 5, 6, 7, 0] rfl) (lc_s (lc_s (lc_s (lc_s (lc_s (lc_s (lc_s (lc_i (show ((((ii : Nat) : Int) - 1) : Int) = (((ii - 1) : Nat) : Int) by omega) rfl)))))))))
                        obtain ⟨j9, hj1, hj2⟩ := wr_ex (val := (fun q9 => Va (8 * sy + q9))) (B := B) hsm (fun k h9 => hV1 (B k) (hB k h9)) hF (q := q) (by omega) hwl hne
                        have hj3 : j9 ≤ min (bd (B q)) ((wrL (tbF Fw (Co sy)) (fun q9 => Va (8 * sy + q9)) B bd (Co sy) sm q) / Va (8 * sy + B q)) := hj1
                        have hmn : min (bd (B q)) ((wrL (tbF Fw (Co sy)) (fun q9 => Va (8 * sy + q9)) B bd (Co sy) sm q) / Va (8 * sy + B q)) = bd (B q) := by omega
                        exact lp18 ((bd (B q)) + 1) (bd (B q)) _ _ _ _ (Nat.lt_succ_self _) (by omega) (by show _ = dn (wrP (tbF Fw (Co sy)) (Co sy - q) (Va (8 * sy + B q)) (wrL (tbF Fw (Co sy)) (fun q9 => Va (8 * sy + q9)) B bd (Co sy) sm q)) (min (bd (B q)) ((wrL (tbF Fw (Co sy)) (fun q9 => Va (8 * sy + q9)) B bd (Co sy) sm q) / Va (8 * sy + B q))); rw [hmn]) ⟨j9, by omega, hj2⟩ hfr f_y f_Co f_Va f_by f_fw f_tk f_bd hP hS (by first | exact lv_sub hl [2, 3, 4, 5, 6, 7, 1, 0] rfl | exact lv_cast (lv_sub (l' := [(0, .ref (ad y)), (1, .int (iI ((sy : Nat) : Int))), (2, .int (iI ((sm : Nat) : Int))), (3, .int (iI ((Co sy : Nat) : Int))), (4, .int (iI ((wrL (tbF Fw (Co sy)) (fun q9 => Va (8 * sy + q9)) B bd (Co sy) sm q : Nat) : Int))), (5, .int (iI ((q : Nat) : Int))), (6, .int (iI (Va ((8 * sy) + (B q)) : Int))), (7, .int (iI (bd (B q) : Int)))]) hl [2, 3, 4, 5, 6, 7, 1, 0] rfl) (lc_s (lc_s (lc_s (lc_s (lc_s (lc_s (lc_i (show ((Va ((8 * sy) + (B q)) : Int) : Int) = ((Va (8 * sy + B q) : Nat) : Int) by omega) (lc_i (show ((bd (B q) : Int) : Int) = (((bd (B q)) : Nat) : Int) by omega) rfl)))))))))
                      · skip
                        refine lv_iload hx hb dX7_find_337 (lv_at hl 5 rfl) ?_
                        refine lv_iload hx hb dX7_find_339 (lv_at hl 0 rfl) ?_
                        refine n_idivN hx hb dX7_find_341 (by omega) (by omega) ?_
                        refine lv_goto (tgt := 357) hx hb dX7_find_342 (by decide) ?_
                        refine lv_istore (lv' := [(7, .int (iI (((wrL (tbF Fw (Co sy)) (fun q9 => Va (8 * sy + q9)) B bd (Co sy) sm q : Nat) : Int) / (Va ((8 * sy) + (B q)) : Int)))), (6, .int (iI (Va ((8 * sy) + (B q)) : Int))), (0, .ref (ad y)), (1, .int (iI ((sy : Nat) : Int))), (2, .int (iI ((sm : Nat) : Int))), (3, .int (iI ((Co sy : Nat) : Int))), (4, .int (iI ((wrL (tbF Fw (Co sy)) (fun q9 => Va (8 * sy + q9)) B bd (Co sy) sm q : Nat) : Int))), (5, .int (iI ((q : Nat) : Int)))]) hx hb dX7_find_357 hl (by decide) rfl (fun ls hl => ?_)
                        have lp23 : ∀ (fu : Nat), ∀ (ii : Nat), ∀ (w24 : Nat → va_E) (H : Heap) (locs : List Loc), ∀ (ls : Array Slot), ii < fu → ii ≤ bd (B q) ∧ ii ≤ (wrL (tbF Fw (Co sy)) (fun q9 => Va (8 * sy + q9)) B bd (Co sy) sm q) / Va (8 * sy + B q) → dn (wrP (tbF Fw (Co sy)) (Co sy - q) (Va (8 * sy + B q)) (wrL (tbF Fw (Co sy)) (fun q9 => Va (8 * sy + q9)) B bd (Co sy) sm q)) ii = wrN (tbF Fw (Co sy)) (fun q9 => Va (8 * sy + q9)) B bd (Co sy) (wrL (tbF Fw (Co sy)) (fun q9 => Va (8 * sy + q9)) B bd (Co sy) sm q) q → (∃ j, j ≤ ii ∧ (wrP (tbF Fw (Co sy)) (Co sy - q) (Va (8 * sy + B q)) (wrL (tbF Fw (Co sy)) (fun q9 => Va (8 * sy + q9)) B bd (Co sy) sm q)) j = true) → (∀ j, j ≠ (y + 19) → j ≠ (y + 20) → j ≠ (y + 21) → w24 j = w j) → w24 y = .inr (7, [.int (iI 0), .ref (ad (y + 1)), .ref (ad (y + 2)), .ref (ad (y + 3)), .ref (ad (y + 4)), .ref (ad (y + 5)), .ref (ad (y + 6)), .ref (ad (y + 7)), .ref (ad (y + 8)), .ref (ad (y + 9)), .ref (ad (y + 10)), .ref (ad (y + 11)), .ref (ad (y + 12)), .ref (ad (y + 13)), .ref (ad (y + 14)), .ref (ad (y + 15)), .ref (ad (y + 16)), .ref (ad (y + 17)), .ref (ad (y + 18)), .ref (ad (y + 19)), .ref (ad (y + 20)), .ref (ad (y + 21)), .ref (ad (y + 22)), .ref (ad (y + 23)), .ref (ad (y + 24)), .ref (ad (y + 25)), .ref (ad (y + 26))]) → w24 (y + 1) = aI G 8 (fun q => (Co q : Int)) → w24 (y + 2) = aI G 64 (fun q => (Va q : Int)) → w24 (y + 19) = aI G 8 (fun q => (B q : Int)) → w24 (y + 20) = aI G 18009 Fw → w24 (y + 21) = aI G 8 (fun k => ((wrM (tbF Fw (Co sy)) (fun q9 => Va (8 * sy + q9)) B bd (Co sy) sm tk0 q k : Nat) : Int)) → w24 (y + 22) = aI G 8 (fun q => (bd q : Int)) → va_P G.1 vwCl (nL N ad w24) H → va_S (nA N ad s.heap.size) s.heap H locs → lv_has ls 11 [(0, .ref (ad y)), (1, .int (iI ((sy : Nat) : Int))), (2, .int (iI ((sm : Nat) : Int))), (3, .int (iI ((Co sy : Nat) : Int))), (4, .int (iI ((wrL (tbF Fw (Co sy)) (fun q9 => Va (8 * sy + q9)) B bd (Co sy) sm q : Nat) : Int))), (5, .int (iI ((q : Nat) : Int))), (6, .int (iI ((Va (8 * sy + B q) : Nat) : Int))), (7, .int (iI ((ii : Nat) : Int)))] → W p l e ({ frames := 1, cells := 0, slots := 0, locals := 23 } : Room) s m ([.ref (ad y), .int (iI ((sy : Nat) : Int)), .int (iI ((sm : Nat) : Int))] : List Value).toArray below meth cd H locs 0 0 Q (F0 m 359 ls []) := by
                          intro fu
                          induction fu with
                          | zero =>
                            intro ii w24 H locs ls hfu hii hdn hex hfr f_y f_Co f_Va f_by f_fw f_tk f_bd hP hS hl
                            exact absurd hfu (Nat.not_lt_zero _)
                          | succ fu ih25 =>
                            intro ii w24 H locs ls hfu hii hdn hex hfr f_y f_Co f_Va f_by f_fw f_tk f_bd hP hS hl
                            have hmv : ii * Va (8 * sy + B q) ≤ wrL (tbF Fw (Co sy)) (fun q9 => Va (8 * sy + q9)) B bd (Co sy) sm q := Nat.le_trans (Nat.mul_le_mul_right _ hii.2) (Nat.div_mul_le_self _ _)
                            have hwq := fOK_wr (q := q) (ii := ii) (v := Va (8 * sy + B q)) (by omega) hF hwl hsm hne
                            have hr1 := hF.2.2 (q + 1) (Nat.zero_le _) (by omega) (wrL (tbF Fw (Co sy)) (fun q9 => Va (8 * sy + q9)) B bd (Co sy) sm q - ii * Va (8 * sy + B q)) (by omega)
                            have hr2 := hF.2.2 q (Nat.zero_le _) (by omega) (wrL (tbF Fw (Co sy)) (fun q9 => Va (8 * sy + q9)) B bd (Co sy) sm q) (by omega)
                            refine lv_iload hx hb dX7_find_359 (lv_at hl 7 rfl) ?_
                            refine lv_aload_n hx hb dX7_find_361 rfl (lv_at hl 0 rfl) ?_
                            refine n_get hx hb hts u_X7 hown hK hP (by omega) f_y rfl 20 (by decide) (nT_m wf_X7_68) rfl dX7_find_362 ?_
                            refine n_sipush hx hb dX7_find_365 (by decide) ?_
                            refine lv_iload hx hb dX7_find_368 (lv_at hl 5 rfl) ?_
                            refine n_iconst hx hb dX7_find_370 ?_
                            refine n_iadd hx hb dX7_find_371 ?_
                            refine n_imul hx hb dX7_find_372 ?_
                            refine lv_iload hx hb dX7_find_373 (lv_at hl 4 rfl) ?_
                            refine n_iadd hx hb dX7_find_375 ?_
                            refine lv_iload hx hb dX7_find_376 (lv_at hl 7 rfl) ?_
                            refine lv_iload hx hb dX7_find_378 (lv_at hl 6 rfl) ?_
                            refine n_imul hx hb dX7_find_380 ?_
                            refine n_isub hx hb dX7_find_381 ?_
                            refine n_iald hx hb hK hP (2001 * (q + 1) + (wrL (tbF Fw (Co sy)) (fun q9 => Va (8 * sy + q9)) B bd (Co sy) sm q - ii * Va (8 * sy + B q))) (by omega) f_fw (by omega) (by omega) (by decide) dX7_find_382 ?_
                            refine n_iadd hx hb dX7_find_383 ?_
                            refine lv_aload_n hx hb dX7_find_384 rfl (lv_at hl 0 rfl) ?_
                            refine n_get hx hb hts u_X7 hown hK hP (by omega) f_y rfl 20 (by decide) (nT_m wf_X7_68) rfl dX7_find_385 ?_
                            refine n_sipush hx hb dX7_find_388 (by decide) ?_
                            refine lv_iload hx hb dX7_find_391 (lv_at hl 5 rfl) ?_
                            refine n_imul hx hb dX7_find_393 ?_
                            refine lv_iload hx hb dX7_find_394 (lv_at hl 4 rfl) ?_
                            refine n_iadd hx hb dX7_find_396 ?_
                            refine n_iald hx hb hK hP ((2001 * q) + wrL (tbF Fw (Co sy)) (fun q9 => Va (8 * sy + q9)) B bd (Co sy) sm q) (by omega) f_fw (by omega) (by omega) (by decide) dX7_find_397 ?_
                            refine n_icmp_eq (tgt := 407) hx hb dX7_find_398 (by decide) (by omega) (by omega) (fun hc398 => ?_) (fun hc398 => ?_)
                            · skip
                              have hwp : (wrP (tbF Fw (Co sy)) (Co sy - q) (Va (8 * sy + B q)) (wrL (tbF Fw (Co sy)) (fun q9 => Va (8 * sy + q9)) B bd (Co sy) sm q)) ii = true := hwq.trans (decide_eq_true hc398)
                              refine lv_aload_n hx hb dX7_find_407 rfl (lv_at hl 0 rfl) ?_
                              refine n_get hx hb hts u_X7 hown hK hP (by omega) f_y rfl 21 (by decide) (nT_m wf_X7_71) rfl dX7_find_408 ?_
                              refine lv_aload_n hx hb dX7_find_411 rfl (lv_at hl 0 rfl) ?_
                              refine n_get hx hb hts u_X7 hown hK hP (by omega) f_y rfl 19 (by decide) (nT_m wf_X7_65) rfl dX7_find_412 ?_
                              refine lv_iload hx hb dX7_find_415 (lv_at hl 5 rfl) ?_
                              refine n_iald hx hb hK hP q (by omega) f_by (by omega) (by omega) (by decide) dX7_find_417 ?_
                              refine lv_iload hx hb dX7_find_418 (lv_at hl 7 rfl) ?_
                              refine n_iast hx hb hK hJ hP hS (B q) (by omega) f_tk (by omega) (by omega) (by decide) dX7_find_420 (fun w26 H locs f_tk hne27 hP hS => ?_)
                              have f_y := (hne27 y (by omega)).trans f_y
                              have f_Co := (hne27 (y + 1) (by omega)).trans f_Co
                              have f_Va := (hne27 (y + 2) (by omega)).trans f_Va
                              have f_by := (hne27 (y + 19) (by omega)).trans f_by
                              have f_fw := (hne27 (y + 20) (by omega)).trans f_fw
                              have f_bd := (hne27 (y + 22) (by omega)).trans f_bd
                              have hfr : ∀ j, j ≠ (y + 19) → j ≠ (y + 20) → j ≠ (y + 21) → w26 j = w j := fun j a0 a1 a2 => (hne27 j (by omega)).trans (hfr j a0 a1 a2)
                              refine lv_iload hx hb dX7_find_421 (lv_at hl 4 rfl) ?_
                              refine lv_iload hx hb dX7_find_423 (lv_at hl 7 rfl) ?_
                              refine lv_iload hx hb dX7_find_425 (lv_at hl 6 rfl) ?_
                              refine n_imul hx hb dX7_find_427 ?_
                              refine n_isub hx hb dX7_find_428 ?_
                              refine lv_istore (lv' := [(4, .int (iI (((wrL (tbF Fw (Co sy)) (fun q9 => Va (8 * sy + q9)) B bd (Co sy) sm q : Nat) : Int) - (((ii : Nat) : Int) * ((Va (8 * sy + B q) : Nat) : Int))))), (0, .ref (ad y)), (1, .int (iI ((sy : Nat) : Int))), (2, .int (iI ((sm : Nat) : Int))), (3, .int (iI ((Co sy : Nat) : Int))), (5, .int (iI ((q : Nat) : Int))), (6, .int (iI ((Va (8 * sy + B q) : Nat) : Int))), (7, .int (iI ((ii : Nat) : Int)))]) hx hb dX7_find_429 hl (by decide) rfl (fun ls hl => ?_)
                              refine lv_iinc (v := iI (((q : Nat) : Int) + 1)) (lv' := [(5, .int (iI (((q : Nat) : Int) + 1))), (4, .int (iI (((wrL (tbF Fw (Co sy)) (fun q9 => Va (8 * sy + q9)) B bd (Co sy) sm q : Nat) : Int) - (((ii : Nat) : Int) * ((Va (8 * sy + B q) : Nat) : Int))))), (0, .ref (ad y)), (1, .int (iI ((sy : Nat) : Int))), (2, .int (iI ((sm : Nat) : Int))), (3, .int (iI ((Co sy : Nat) : Int))), (6, .int (iI ((Va (8 * sy + B q) : Nat) : Int))), (7, .int (iI ((ii : Nat) : Int)))]) hx hb dX7_find_431 hl (k := 5) rfl (by first | exact iI_add _ _ | exact (iI_add _ _).trans (congrArg iI (by omega))) (by decide) rfl (fun ls hl => ?_)
                              refine lv_goto (tgt := 292) hx hb dX7_find_434 (by decide) ?_
                              have hwn : wrN (tbF Fw (Co sy)) (fun q9 => Va (8 * sy + q9)) B bd (Co sy) (wrL (tbF Fw (Co sy)) (fun q9 => Va (8 * sy + q9)) B bd (Co sy) sm q) q = ii := hdn.symm.trans (dn_at ii hwp)
                              have hmv : ii * Va (8 * sy + B q) ≤ wrL (tbF Fw (Co sy)) (fun q9 => Va (8 * sy + q9)) B bd (Co sy) sm q := Nat.le_trans (Nat.mul_le_mul_right _ hii.2) (Nat.div_mul_le_self _ _)
                              exact ih14 (q + 1) _ _ _ _ (by omega) (by omega) (wrL_ok hwn hwp) hfr f_y f_Co f_Va f_by f_fw (f_tk.trans (congrArg (aI G 8) (by rw [upN]; funext k9; show _ = ((va_up (wrM (tbF Fw (Co sy)) (fun q9 => Va (8 * sy + q9)) B bd (Co sy) sm tk0 q) (B q) (wrN (tbF Fw (Co sy)) (fun q9 => Va (8 * sy + q9)) B bd (Co sy) (wrL (tbF Fw (Co sy)) (fun q9 => Va (8 * sy + q9)) B bd (Co sy) sm q) q) k9 : Nat) : Int); rw [hwn]))) f_bd hP hS (by first | exact lv_sub hl [2, 3, 4, 5, 1, 0] rfl | exact lv_cast (lv_sub (l' := [(0, .ref (ad y)), (1, .int (iI ((sy : Nat) : Int))), (2, .int (iI ((sm : Nat) : Int))), (3, .int (iI ((Co sy : Nat) : Int))), (4, .int (iI (((wrL (tbF Fw (Co sy)) (fun q9 => Va (8 * sy + q9)) B bd (Co sy) sm q : Nat) : Int) - (((ii : Nat) : Int) * ((Va (8 * sy + B q) : Nat) : Int))))), (5, .int (iI (((q : Nat) : Int) + 1)))]) hl [2, 3, 4, 5, 1, 0] rfl) (lc_s (lc_s (lc_s (lc_s (lc_i (show ((((wrL (tbF Fw (Co sy)) (fun q9 => Va (8 * sy + q9)) B bd (Co sy) sm q : Nat) : Int) - (((ii : Nat) : Int) * ((Va (8 * sy + B q) : Nat) : Int))) : Int) = ((wrL (tbF Fw (Co sy)) (fun q9 => Va (8 * sy + q9)) B bd (Co sy) sm (q + 1) : Nat) : Int) by show _ = ((wrL (tbF Fw (Co sy)) (fun q9 => Va (8 * sy + q9)) B bd (Co sy) sm q - wrN (tbF Fw (Co sy)) (fun q9 => Va (8 * sy + q9)) B bd (Co sy) (wrL (tbF Fw (Co sy)) (fun q9 => Va (8 * sy + q9)) B bd (Co sy) sm q) q * Va (8 * sy + B q) : Nat) : Int); rw [hwn]; omega) (lc_i (show ((((q : Nat) : Int) + 1) : Int) = (((q + 1) : Nat) : Int) by omega) rfl)))))))
                            · skip
                              refine lv_iinc (v := iI (((ii : Nat) : Int) - 1)) (lv' := [(7, .int (iI (((ii : Nat) : Int) - 1))), (0, .ref (ad y)), (1, .int (iI ((sy : Nat) : Int))), (2, .int (iI ((sm : Nat) : Int))), (3, .int (iI ((Co sy : Nat) : Int))), (4, .int (iI ((wrL (tbF Fw (Co sy)) (fun q9 => Va (8 * sy + q9)) B bd (Co sy) sm q : Nat) : Int))), (5, .int (iI ((q : Nat) : Int))), (6, .int (iI ((Va (8 * sy + B q) : Nat) : Int)))]) hx hb dX7_find_401 hl (k := 7) rfl (by first | exact iI_add _ _ | exact (iI_add _ _).trans (congrArg iI (by omega))) (by decide) rfl (fun ls hl => ?_)
                              refine lv_goto (tgt := 359) hx hb dX7_find_404 (by decide) ?_
                              have hwf : (wrP (tbF Fw (Co sy)) (Co sy - q) (Va (8 * sy + B q)) (wrL (tbF Fw (Co sy)) (fun q9 => Va (8 * sy + q9)) B bd (Co sy) sm q)) ii = false := hwq.trans (decide_eq_false hc398)
                              obtain ⟨j9, hj1, hj2⟩ := hex
                              have hj3 : j9 ≠ ii := fun e9 => by rw [e9, hwf] at hj2; cases hj2
                              exact ih25 (ii - 1) _ _ _ _ (by omega) (by omega) (by rw [← hdn]; have e9 : ii = (ii - 1) + 1 := (by omega); rw [e9] at hwf; exact ((congrArg (dn (wrP (tbF Fw (Co sy)) (Co sy - q) (Va (8 * sy + B q)) (wrL (tbF Fw (Co sy)) (fun q9 => Va (8 * sy + q9)) B bd (Co sy) sm q))) e9).trans (dn_n hwf)).symm) ⟨j9, by omega, hj2⟩ hfr f_y f_Co f_Va f_by f_fw f_tk f_bd hP hS (by first | exact lv_sub hl [1, 2, 3, 4, 5, 6, 7, 0] rfl | exact lv_cast (lv_sub (l' := [(0, .ref (ad y)), (1, .int (iI ((sy : Nat) : Int))), (2, .int (iI ((sm : Nat) : Int))), (3, .int (iI ((Co sy : Nat) : Int))), (4, .int (iI ((wrL (tbF Fw (Co sy)) (fun q9 => Va (8 * sy + q9)) B bd (Co sy) sm q : Nat) : Int))), (5, .int (iI ((q : Nat) : Int))), (6, .int (iI ((Va (8 * sy + B q) : Nat) : Int))), (7, .int (iI (((ii : Nat) : Int) - 1)))]) hl [1, 2, 3, 4, 5, 6, 7, 0] rfl) (lc_s (lc_s (lc_s (lc_s (lc_s (lc_s (lc_s (lc_i (show ((((ii : Nat) : Int) - 1) : Int) = (((ii - 1) : Nat) : Int) by omega) rfl)))))))))
                        obtain ⟨j9, hj1, hj2⟩ := wr_ex (val := (fun q9 => Va (8 * sy + q9))) (B := B) hsm (fun k h9 => hV1 (B k) (hB k h9)) hF (q := q) (by omega) hwl hne
                        have hj3 : j9 ≤ min (bd (B q)) ((wrL (tbF Fw (Co sy)) (fun q9 => Va (8 * sy + q9)) B bd (Co sy) sm q) / Va (8 * sy + B q)) := hj1
                        have hmn : min (bd (B q)) ((wrL (tbF Fw (Co sy)) (fun q9 => Va (8 * sy + q9)) B bd (Co sy) sm q) / Va (8 * sy + B q)) = (wrL (tbF Fw (Co sy)) (fun q9 => Va (8 * sy + q9)) B bd (Co sy) sm q) / Va (8 * sy + B q) := by omega
                        exact lp23 ((wrL (tbF Fw (Co sy)) (fun q9 => Va (8 * sy + q9)) B bd (Co sy) sm q / Va (8 * sy + B q)) + 1) (wrL (tbF Fw (Co sy)) (fun q9 => Va (8 * sy + q9)) B bd (Co sy) sm q / Va (8 * sy + B q)) _ _ _ _ (Nat.lt_succ_self _) (by omega) (by show _ = dn (wrP (tbF Fw (Co sy)) (Co sy - q) (Va (8 * sy + B q)) (wrL (tbF Fw (Co sy)) (fun q9 => Va (8 * sy + q9)) B bd (Co sy) sm q)) (min (bd (B q)) ((wrL (tbF Fw (Co sy)) (fun q9 => Va (8 * sy + q9)) B bd (Co sy) sm q) / Va (8 * sy + B q))); rw [hmn]) ⟨j9, by omega, hj2⟩ hfr f_y f_Co f_Va f_by f_fw f_tk f_bd hP hS (by first | exact lv_sub hl [2, 3, 4, 5, 6, 7, 1, 0] rfl | exact lv_cast (lv_sub (l' := [(0, .ref (ad y)), (1, .int (iI ((sy : Nat) : Int))), (2, .int (iI ((sm : Nat) : Int))), (3, .int (iI ((Co sy : Nat) : Int))), (4, .int (iI ((wrL (tbF Fw (Co sy)) (fun q9 => Va (8 * sy + q9)) B bd (Co sy) sm q : Nat) : Int))), (5, .int (iI ((q : Nat) : Int))), (6, .int (iI (Va ((8 * sy) + (B q)) : Int))), (7, .int (iI (((wrL (tbF Fw (Co sy)) (fun q9 => Va (8 * sy + q9)) B bd (Co sy) sm q : Nat) : Int) / (Va ((8 * sy) + (B q)) : Int))))]) hl [2, 3, 4, 5, 6, 7, 1, 0] rfl) (lc_s (lc_s (lc_s (lc_s (lc_s (lc_s (lc_i (show ((Va ((8 * sy) + (B q)) : Int) : Int) = ((Va (8 * sy + B q) : Nat) : Int) by omega) (lc_i (show ((((wrL (tbF Fw (Co sy)) (fun q9 => Va (8 * sy + q9)) B bd (Co sy) sm q : Nat) : Int) / (Va ((8 * sy) + (B q)) : Int)) : Int) = (((wrL (tbF Fw (Co sy)) (fun q9 => Va (8 * sy + q9)) B bd (Co sy) sm q / Va (8 * sy + B q)) : Nat) : Int) by omega) rfl)))))))))
                exact lp12 (Co sy - 0 + 1) 0 _ _ _ _ (Nat.lt_succ_self _) (by omega) (by show ¬ tbF Fw (Co sy) (Co sy - 0) sm = -1; rw [Nat.sub_zero, tbF_top]; unfold dE; rw [if_neg (by omega)]; omega) hfr f_y f_Co f_Va f_by f_fw f_tk f_bd hP hS (by first | exact lv_sub hl [2, 3, 4, 5, 1, 0] rfl | exact lv_cast (lv_sub (l' := [(0, .ref (ad y)), (1, .int (iI ((sy : Nat) : Int))), (2, .int (iI ((sm : Nat) : Int))), (3, .int (iI ((Co sy : Nat) : Int))), (4, .int (iI ((sm : Nat) : Int))), (5, .int (iI 0))]) hl [2, 3, 4, 5, 1, 0] rfl) (lc_s (lc_s (lc_s (lc_s (lc_i (show (((sm : Nat) : Int) : Int) = ((wrL (tbF Fw (Co sy)) (fun q9 => Va (8 * sy + q9)) B bd (Co sy) sm 0 : Nat) : Int) by omega) (lc_i (show (0 : Int) = ((0 : Nat) : Int) by omega) rfl)))))))
              · skip
                refine n_iconst hx hb dX7_find_284 ?_
                refine n_iretP hQ hx hb hr hlocks hP hS dX7_find_285 ?_
                refine ⟨hfr, B, Fw, tk0, hBe, hF, ?_, fun h9 => absurd rfl h9, f_by, f_fw, f_tk⟩
                rw [tbF_top]
                exact (if_pos (by omega)).symm
            · skip
              have hBk := hB (kq - 1) (by omega)
              refine lv_aload_n hx hb dX7_find_61 rfl (lv_at hl 0 rfl) ?_
              refine n_get hx hb hts u_X7 hown hK hP (by omega) f_y rfl 2 (by decide) (nT_m wf_X7_13) rfl dX7_find_62 ?_
              refine n_bipush hx hb dX7_find_65 (by decide) ?_
              refine lv_iload_n hx hb dX7_find_67 rfl (lv_at hl 1 rfl) ?_
              refine n_imul hx hb dX7_find_68 ?_
              refine lv_aload_n hx hb dX7_find_69 rfl (lv_at hl 0 rfl) ?_
              refine n_get hx hb hts u_X7 hown hK hP (by omega) f_y rfl 19 (by decide) (nT_m wf_X7_65) rfl dX7_find_70 ?_
              refine lv_iload hx hb dX7_find_73 (lv_at hl 4 rfl) ?_
              refine n_iald hx hb hK hP (kq - 1) (by omega) f_by (by omega) (by omega) (by decide) dX7_find_75 ?_
              refine n_iadd hx hb dX7_find_76 ?_
              refine n_iald hx hb hK hP ((8 * sy) + (B (kq - 1))) (by omega) f_Va (by omega) (by omega) (by decide) dX7_find_77 ?_
              have ho28 := hVa ((8 * sy) + (B (kq - 1))) (by omega)
              refine lv_istore (lv' := [(5, .int (iI (Va ((8 * sy) + (B (kq - 1))) : Int))), (0, .ref (ad y)), (1, .int (iI ((sy : Nat) : Int))), (2, .int (iI ((sm : Nat) : Int))), (3, .int (iI ((Co sy : Nat) : Int))), (4, .int (iI (((kq : Nat) : Int) - 1)))]) hx hb dX7_find_78 hl (by decide) rfl (fun ls hl => ?_)
              refine n_iconst hx hb dX7_find_80 ?_
              refine lv_istore (lv' := [(6, .int (iI 0)), (5, .int (iI (Va ((8 * sy) + (B (kq - 1))) : Int))), (0, .ref (ad y)), (1, .int (iI ((sy : Nat) : Int))), (2, .int (iI ((sm : Nat) : Int))), (3, .int (iI ((Co sy : Nat) : Int))), (4, .int (iI (((kq : Nat) : Int) - 1)))]) hx hb dX7_find_81 hl (by decide) rfl (fun ls hl => ?_)
              have lp29 : ∀ (fu : Nat), ∀ (k1 : Nat) (sx : Nat) (Fw : Nat → Int), ∀ (w30 : Nat → va_E) (H : Heap) (locs : List Loc), ∀ (ls : Array Slot), sm + 1 - sx < fu → k1 < kq ∧ k1 < Co sy → sx ≤ sm + 1 → fOK Fw (fun q9 => Va (8 * sy + q9)) B bd (Co sy) sm (k1 + 1) → (∀ j, j < sx → isMm (fun x => Fw (2001 * (k1 + 1) + x)) (Va (8 * sy + B k1)) (bd (B k1)) j (Fw (2001 * k1 + j)) ∧ (Fw (2001 * k1 + j) = 1000000 ∨ (0 ≤ Fw (2001 * k1 + j) ∧ Fw (2001 * k1 + j) ≤ j))) → (∀ j, j ≠ (y + 19) → j ≠ (y + 20) → j ≠ (y + 21) → w30 j = w j) → w30 y = .inr (7, [.int (iI 0), .ref (ad (y + 1)), .ref (ad (y + 2)), .ref (ad (y + 3)), .ref (ad (y + 4)), .ref (ad (y + 5)), .ref (ad (y + 6)), .ref (ad (y + 7)), .ref (ad (y + 8)), .ref (ad (y + 9)), .ref (ad (y + 10)), .ref (ad (y + 11)), .ref (ad (y + 12)), .ref (ad (y + 13)), .ref (ad (y + 14)), .ref (ad (y + 15)), .ref (ad (y + 16)), .ref (ad (y + 17)), .ref (ad (y + 18)), .ref (ad (y + 19)), .ref (ad (y + 20)), .ref (ad (y + 21)), .ref (ad (y + 22)), .ref (ad (y + 23)), .ref (ad (y + 24)), .ref (ad (y + 25)), .ref (ad (y + 26))]) → w30 (y + 1) = aI G 8 (fun q => (Co q : Int)) → w30 (y + 2) = aI G 64 (fun q => (Va q : Int)) → w30 (y + 19) = aI G 8 (fun q => (B q : Int)) → w30 (y + 20) = aI G 18009 Fw → w30 (y + 21) = aI G 8 (fun q => (tk0 q : Int)) → w30 (y + 22) = aI G 8 (fun q => (bd q : Int)) → va_P G.1 vwCl (nL N ad w30) H → va_S (nA N ad s.heap.size) s.heap H locs → lv_has ls 11 [(0, .ref (ad y)), (1, .int (iI ((sy : Nat) : Int))), (2, .int (iI ((sm : Nat) : Int))), (3, .int (iI ((Co sy : Nat) : Int))), (4, .int (iI ((k1 : Nat) : Int))), (5, .int (iI ((Va (8 * sy + B k1) : Nat) : Int))), (6, .int (iI ((sx : Nat) : Int)))] → W p l e ({ frames := 1, cells := 0, slots := 0, locals := 23 } : Room) s m ([.ref (ad y), .int (iI ((sy : Nat) : Int)), .int (iI ((sm : Nat) : Int))] : List Value).toArray below meth cd H locs 0 0 Q (F0 m 83 ls []) := by
                intro fu
                induction fu with
                | zero =>
                  intro k1 sx Fw w30 H locs ls hfu hk1 hs1 hF hrw hfr f_y f_Co f_Va f_by f_fw f_tk f_bd hP hS hl
                  exact absurd hfu (Nat.not_lt_zero _)
                | succ fu ih31 =>
                  intro k1 sx Fw w30 H locs ls hfu hk1 hs1 hF hrw hfr f_y f_Co f_Va f_by f_fw f_tk f_bd hP hS hl
                  have hBk := hB k1 (by omega)
                  have hv1 := hV1 (B k1) hBk
                  have hvm := hVa (8 * sy + B k1) (by omega)
                  refine lv_iload hx hb dX7_find_83 (lv_at hl 6 rfl) ?_
                  refine lv_iload_n hx hb dX7_find_85 rfl (lv_at hl 2 rfl) ?_
                  refine n_icmp_gt (tgt := 267) hx hb dX7_find_86 (by decide) (by omega) (by omega) (fun hc86 => ?_) (fun hc86 => ?_)
                  · skip
                    refine lv_iinc (v := iI (((k1 : Nat) : Int) - 1)) (lv' := [(4, .int (iI (((k1 : Nat) : Int) - 1))), (0, .ref (ad y)), (1, .int (iI ((sy : Nat) : Int))), (2, .int (iI ((sm : Nat) : Int))), (3, .int (iI ((Co sy : Nat) : Int))), (5, .int (iI ((Va (8 * sy + B k1) : Nat) : Int))), (6, .int (iI ((sx : Nat) : Int)))]) hx hb dX7_find_267 hl (k := 4) rfl (by first | exact iI_add _ _ | exact (iI_add _ _).trans (congrArg iI (by omega))) (by decide) rfl (fun ls hl => ?_)
                    refine lv_goto (tgt := 56) hx hb dX7_find_270 (by decide) ?_
                    exact ih11 k1 Fw _ _ _ _ (by omega) (by omega) (fOK_dn (by omega) hF (fun j h9 => hrw j (by omega))) hfr f_y f_Co f_Va f_by f_fw f_tk f_bd hP hS (lv_sub hl [1, 2, 3, 4, 0] rfl)
                  · skip
                    refine lv_aload_n hx hb dX7_find_89 rfl (lv_at hl 0 rfl) ?_
                    refine n_get hx hb hts u_X7 hown hK hP (by omega) f_y rfl 22 (by decide) (nT_m wf_X7_74) rfl dX7_find_90 ?_
                    refine lv_aload_n hx hb dX7_find_93 rfl (lv_at hl 0 rfl) ?_
                    refine n_get hx hb hts u_X7 hown hK hP (by omega) f_y rfl 19 (by decide) (nT_m wf_X7_65) rfl dX7_find_94 ?_
                    refine lv_iload hx hb dX7_find_97 (lv_at hl 4 rfl) ?_
                    refine n_iald hx hb hK hP k1 (by omega) f_by (by omega) (by omega) (by decide) dX7_find_99 ?_
                    refine n_iald hx hb hK hP (B k1) (by omega) f_bd (by omega) (by omega) (by decide) dX7_find_100 ?_
                    have ho32 := hbd (B k1) (by omega)
                    refine n_sipush hx hb dX7_find_101 (by decide) ?_
                    refine n_icmp_ne (tgt := 136) hx hb dX7_find_104 (by decide) (by omega) (by omega) (fun hc104 => ?_) (fun hc104 => ?_)
                    · skip
                      refine lv_ldc (v := iI (1000000)) hx hb hown (hts _ (nT_m wk_X7_120)) dX7_find_136 ?_
                      refine lv_istore (lv' := [(7, .int (iI 1000000)), (0, .ref (ad y)), (1, .int (iI ((sy : Nat) : Int))), (2, .int (iI ((sm : Nat) : Int))), (3, .int (iI ((Co sy : Nat) : Int))), (4, .int (iI ((k1 : Nat) : Int))), (5, .int (iI ((Va (8 * sy + B k1) : Nat) : Int))), (6, .int (iI ((sx : Nat) : Int)))]) hx hb dX7_find_138 hl (by decide) rfl (fun ls hl => ?_)
                      refine lv_aload_n hx hb dX7_find_140 rfl (lv_at hl 1 rfl) ?_
                      refine n_get hx hb hts u_X7 hown hK hP (by omega) f_y rfl 22 (by decide) (nT_m wf_X7_74) rfl dX7_find_141 ?_
                      refine lv_aload_n hx hb dX7_find_144 rfl (lv_at hl 1 rfl) ?_
                      refine n_get hx hb hts u_X7 hown hK hP (by omega) f_y rfl 19 (by decide) (nT_m wf_X7_65) rfl dX7_find_145 ?_
                      refine lv_iload hx hb dX7_find_148 (lv_at hl 5 rfl) ?_
                      refine n_iald hx hb hK hP k1 (by omega) f_by (by omega) (by omega) (by decide) dX7_find_150 ?_
                      refine n_iald hx hb hK hP (B k1) (by omega) f_bd (by omega) (by omega) (by decide) dX7_find_151 ?_
                      have ho33 := hbd (B k1) (by omega)
                      refine n_sipush hx hb dX7_find_152 (by decide) ?_
                      refine n_icmp_ne (tgt := 162) hx hb dX7_find_155 (by decide) (by omega) (by omega) (fun hc155 => ?_) (fun hc155 => ?_)
                      · skip
                        refine lv_aload_n hx hb dX7_find_162 rfl (lv_at hl 1 rfl) ?_
                        refine n_get hx hb hts u_X7 hown hK hP (by omega) f_y rfl 22 (by decide) (nT_m wf_X7_74) rfl dX7_find_163 ?_
                        refine lv_aload_n hx hb dX7_find_166 rfl (lv_at hl 1 rfl) ?_
                        refine n_get hx hb hts u_X7 hown hK hP (by omega) f_y rfl 19 (by decide) (nT_m wf_X7_65) rfl dX7_find_167 ?_
                        refine lv_iload hx hb dX7_find_170 (lv_at hl 5 rfl) ?_
                        refine n_iald hx hb hK hP k1 (by omega) f_by (by omega) (by omega) (by decide) dX7_find_172 ?_
                        refine n_iald hx hb hK hP (B k1) (by omega) f_bd (by omega) (by omega) (by decide) dX7_find_173 ?_
                        have ho34 := hbd (B k1) (by omega)
                        refine lv_istore (lv' := [(8, .int (iI (bd (B k1) : Int))), (7, .int (iI 1000000)), (0, .ref (ad y)), (1, .int (iI ((sy : Nat) : Int))), (2, .int (iI ((sm : Nat) : Int))), (3, .int (iI ((Co sy : Nat) : Int))), (4, .int (iI ((k1 : Nat) : Int))), (5, .int (iI ((Va (8 * sy + B k1) : Nat) : Int))), (6, .int (iI ((sx : Nat) : Int)))]) hx hb dX7_find_174 hl (by decide) rfl (fun ls hl => ?_)
                        refine n_iconst hx hb dX7_find_176 ?_
                        refine lv_istore (lv' := [(9, .int (iI 0)), (8, .int (iI (bd (B k1) : Int))), (7, .int (iI 1000000)), (0, .ref (ad y)), (1, .int (iI ((sy : Nat) : Int))), (2, .int (iI ((sm : Nat) : Int))), (3, .int (iI ((Co sy : Nat) : Int))), (4, .int (iI ((k1 : Nat) : Int))), (5, .int (iI ((Va (8 * sy + B k1) : Nat) : Int))), (6, .int (iI ((sx : Nat) : Int)))]) hx hb dX7_find_177 hl (by decide) rfl (fun ls hl => ?_)
                        have lp35 : ∀ (fu : Nat), ∀ (j : Nat) (b0 : Int) (mo : Nat), ∀ (w36 : Nat → va_E) (H : Heap) (locs : List Loc), ∀ (ls : Array Slot), mo + 1 - j < fu → j ≤ mo + 1 → (∀ i, i < j → i * (Va (8 * sy + B k1)) ≤ sx) → 0 ≤ b0 ∧ b0 ≤ 1000001 → mo ≤ 2000 → (∀ c, c ≤ mo + 1 → (∀ i, i < c → i * (Va (8 * sy + B k1)) ≤ sx) → (mo < c ∨ sx < c * (Va (8 * sy + B k1))) → isMm (fun x => Fw (2001 * (k1 + 1) + x)) (Va (8 * sy + B k1)) (bd (B k1)) sx (bsF (fun x => Fw (2001 * (k1 + 1) + x)) (Va (8 * sy + B k1)) sx b0 c)) → (∀ j, j ≠ (y + 19) → j ≠ (y + 20) → j ≠ (y + 21) → w36 j = w j) → w36 y = .inr (7, [.int (iI 0), .ref (ad (y + 1)), .ref (ad (y + 2)), .ref (ad (y + 3)), .ref (ad (y + 4)), .ref (ad (y + 5)), .ref (ad (y + 6)), .ref (ad (y + 7)), .ref (ad (y + 8)), .ref (ad (y + 9)), .ref (ad (y + 10)), .ref (ad (y + 11)), .ref (ad (y + 12)), .ref (ad (y + 13)), .ref (ad (y + 14)), .ref (ad (y + 15)), .ref (ad (y + 16)), .ref (ad (y + 17)), .ref (ad (y + 18)), .ref (ad (y + 19)), .ref (ad (y + 20)), .ref (ad (y + 21)), .ref (ad (y + 22)), .ref (ad (y + 23)), .ref (ad (y + 24)), .ref (ad (y + 25)), .ref (ad (y + 26))]) → w36 (y + 1) = aI G 8 (fun q => (Co q : Int)) → w36 (y + 2) = aI G 64 (fun q => (Va q : Int)) → w36 (y + 19) = aI G 8 (fun q => (B q : Int)) → w36 (y + 20) = aI G 18009 Fw → w36 (y + 21) = aI G 8 (fun q => (tk0 q : Int)) → w36 (y + 22) = aI G 8 (fun q => (bd q : Int)) → va_P G.1 vwCl (nL N ad w36) H → va_S (nA N ad s.heap.size) s.heap H locs → lv_has ls 11 [(0, .ref (ad y)), (1, .int (iI ((sy : Nat) : Int))), (2, .int (iI ((sm : Nat) : Int))), (3, .int (iI ((Co sy : Nat) : Int))), (4, .int (iI ((k1 : Nat) : Int))), (5, .int (iI ((Va (8 * sy + B k1) : Nat) : Int))), (6, .int (iI ((sx : Nat) : Int))), (7, .int (iI (bsF (fun x => Fw (2001 * (k1 + 1) + x)) (Va (8 * sy + B k1)) sx b0 j))), (8, .int (iI ((mo : Nat) : Int))), (9, .int (iI ((j : Nat) : Int)))] → W p l e ({ frames := 1, cells := 0, slots := 0, locals := 23 } : Room) s m ([.ref (ad y), .int (iI ((sy : Nat) : Int)), .int (iI ((sm : Nat) : Int))] : List Value).toArray below meth cd H locs 0 0 Q (F0 m 179 ls []) := by
                          intro fu
                          induction fu with
                          | zero =>
                            intro j b0 mo w36 H locs ls hfu hj hjv hb0 hmo hgo hfr f_y f_Co f_Va f_by f_fw f_tk f_bd hP hS hl
                            exact absurd hfu (Nat.not_lt_zero _)
                          | succ fu ih37 =>
                            intro j b0 mo w36 H locs ls hfu hj hjv hb0 hmo hgo hfr f_y f_Co f_Va f_by f_fw f_tk f_bd hP hS hl
                            have hbr := bsF_rng (A := (fun x => Fw (2001 * (k1 + 1) + x))) (v := Va (8 * sy + B k1)) (s := sx) (b0 := b0) hb0 (c := j) (fun x hx => by have h9 := hF.2.2 (k1 + 1) (by omega) (by omega) x (by omega); show 0 ≤ Fw (2001 * (k1 + 1) + x); omega)
                            have hjm : j * (Va (8 * sy + B k1)) ≤ 2001 * 1000 := Nat.mul_le_mul (by omega) (by omega)
                            refine lv_iload hx hb dX7_find_179 (lv_at hl 9 rfl) ?_
                            refine lv_iload hx hb dX7_find_181 (lv_at hl 8 rfl) ?_
                            refine n_icmp_gt (tgt := 245) hx hb dX7_find_183 (by decide) (by omega) (by omega) (fun hc183 => ?_) (fun hc183 => ?_)
                            · skip
                              refine lv_aload_n hx hb dX7_find_245 rfl (lv_at hl 0 rfl) ?_
                              refine n_get hx hb hts u_X7 hown hK hP (by omega) f_y rfl 20 (by decide) (nT_m wf_X7_68) rfl dX7_find_246 ?_
                              refine n_sipush hx hb dX7_find_249 (by decide) ?_
                              refine lv_iload hx hb dX7_find_252 (lv_at hl 4 rfl) ?_
                              refine n_imul hx hb dX7_find_254 ?_
                              refine lv_iload hx hb dX7_find_255 (lv_at hl 6 rfl) ?_
                              refine n_iadd hx hb dX7_find_257 ?_
                              refine lv_iload hx hb dX7_find_258 (lv_at hl 7 rfl) ?_
                              refine n_iast hx hb hK hJ hP hS ((2001 * k1) + sx) (by omega) f_fw (by omega) (by omega) (by decide) dX7_find_260 (fun w38 H locs f_fw hne39 hP hS => ?_)
                              have f_y := (hne39 y (by omega)).trans f_y
                              have f_Co := (hne39 (y + 1) (by omega)).trans f_Co
                              have f_Va := (hne39 (y + 2) (by omega)).trans f_Va
                              have f_by := (hne39 (y + 19) (by omega)).trans f_by
                              have f_tk := (hne39 (y + 21) (by omega)).trans f_tk
                              have f_bd := (hne39 (y + 22) (by omega)).trans f_bd
                              have hfr : ∀ j, j ≠ (y + 19) → j ≠ (y + 20) → j ≠ (y + 21) → w38 j = w j := fun j a0 a1 a2 => (hne39 j (by omega)).trans (hfr j a0 a1 a2)
                              refine lv_iinc (v := iI (((sx : Nat) : Int) + 1)) (lv' := [(6, .int (iI (((sx : Nat) : Int) + 1))), (0, .ref (ad y)), (1, .int (iI ((sy : Nat) : Int))), (2, .int (iI ((sm : Nat) : Int))), (3, .int (iI ((Co sy : Nat) : Int))), (4, .int (iI ((k1 : Nat) : Int))), (5, .int (iI ((Va (8 * sy + B k1) : Nat) : Int))), (7, .int (iI (bsF (fun x => Fw (2001 * (k1 + 1) + x)) (Va (8 * sy + B k1)) sx b0 j))), (8, .int (iI ((mo : Nat) : Int))), (9, .int (iI ((j : Nat) : Int)))]) hx hb dX7_find_261 hl (k := 6) rfl (by first | exact iI_add _ _ | exact (iI_add _ _).trans (congrArg iI (by omega))) (by decide) rfl (fun ls hl => ?_)
                              refine lv_goto (tgt := 83) hx hb dX7_find_264 (by decide) ?_
                              have hmm := hgo j hj hjv (by omega)
                              have hmr := mm_rng (by omega) (fun x hx => hF.2.2 (k1 + 1) (by omega) (by omega) x (by omega)) hmm
                              exact ih31 k1 (sx + 1) (va_up Fw (2001 * k1 + sx) (bsF (fun x => Fw (2001 * (k1 + 1) + x)) (Va (8 * sy + B k1)) sx b0 j)) _ _ _ _ (by omega) (by omega) (by omega) (fOK_up (by omega) (by omega) hF) (fOK_row (by omega) hrw ⟨hmm, hmr⟩) hfr f_y f_Co f_Va f_by f_fw f_tk f_bd hP hS (by first | exact lv_sub hl [1, 2, 3, 4, 5, 6, 0] rfl | exact lv_cast (lv_sub (l' := [(0, .ref (ad y)), (1, .int (iI ((sy : Nat) : Int))), (2, .int (iI ((sm : Nat) : Int))), (3, .int (iI ((Co sy : Nat) : Int))), (4, .int (iI ((k1 : Nat) : Int))), (5, .int (iI ((Va (8 * sy + B k1) : Nat) : Int))), (6, .int (iI (((sx : Nat) : Int) + 1)))]) hl [1, 2, 3, 4, 5, 6, 0] rfl) (lc_s (lc_s (lc_s (lc_s (lc_s (lc_s (lc_i (show ((((sx : Nat) : Int) + 1) : Int) = (((sx + 1) : Nat) : Int) by omega) rfl))))))))
                            · skip
                              refine lv_iload hx hb dX7_find_186 (lv_at hl 9 rfl) ?_
                              refine lv_iload hx hb dX7_find_188 (lv_at hl 5 rfl) ?_
                              refine n_imul hx hb dX7_find_190 ?_
                              refine lv_iload hx hb dX7_find_191 (lv_at hl 6 rfl) ?_
                              refine n_icmp_gt (tgt := 245) hx hb dX7_find_193 (by decide) (by omega) (by omega) (fun hc193 => ?_) (fun hc193 => ?_)
                              · skip
                                refine lv_aload_n hx hb dX7_find_245 rfl (lv_at hl 0 rfl) ?_
                                refine n_get hx hb hts u_X7 hown hK hP (by omega) f_y rfl 20 (by decide) (nT_m wf_X7_68) rfl dX7_find_246 ?_
                                refine n_sipush hx hb dX7_find_249 (by decide) ?_
                                refine lv_iload hx hb dX7_find_252 (lv_at hl 4 rfl) ?_
                                refine n_imul hx hb dX7_find_254 ?_
                                refine lv_iload hx hb dX7_find_255 (lv_at hl 6 rfl) ?_
                                refine n_iadd hx hb dX7_find_257 ?_
                                refine lv_iload hx hb dX7_find_258 (lv_at hl 7 rfl) ?_
                                refine n_iast hx hb hK hJ hP hS ((2001 * k1) + sx) (by omega) f_fw (by omega) (by omega) (by decide) dX7_find_260 (fun w40 H locs f_fw hne41 hP hS => ?_)
                                have f_y := (hne41 y (by omega)).trans f_y
                                have f_Co := (hne41 (y + 1) (by omega)).trans f_Co
                                have f_Va := (hne41 (y + 2) (by omega)).trans f_Va
                                have f_by := (hne41 (y + 19) (by omega)).trans f_by
                                have f_tk := (hne41 (y + 21) (by omega)).trans f_tk
                                have f_bd := (hne41 (y + 22) (by omega)).trans f_bd
                                have hfr : ∀ j, j ≠ (y + 19) → j ≠ (y + 20) → j ≠ (y + 21) → w40 j = w j := fun j a0 a1 a2 => (hne41 j (by omega)).trans (hfr j a0 a1 a2)
                                refine lv_iinc (v := iI (((sx : Nat) : Int) + 1)) (lv' := [(6, .int (iI (((sx : Nat) : Int) + 1))), (0, .ref (ad y)), (1, .int (iI ((sy : Nat) : Int))), (2, .int (iI ((sm : Nat) : Int))), (3, .int (iI ((Co sy : Nat) : Int))), (4, .int (iI ((k1 : Nat) : Int))), (5, .int (iI ((Va (8 * sy + B k1) : Nat) : Int))), (7, .int (iI (bsF (fun x => Fw (2001 * (k1 + 1) + x)) (Va (8 * sy + B k1)) sx b0 j))), (8, .int (iI ((mo : Nat) : Int))), (9, .int (iI ((j : Nat) : Int)))]) hx hb dX7_find_261 hl (k := 6) rfl (by first | exact iI_add _ _ | exact (iI_add _ _).trans (congrArg iI (by omega))) (by decide) rfl (fun ls hl => ?_)
                                refine lv_goto (tgt := 83) hx hb dX7_find_264 (by decide) ?_
                                have hmm := hgo j hj hjv (by omega)
                                have hmr := mm_rng (by omega) (fun x hx => hF.2.2 (k1 + 1) (by omega) (by omega) x (by omega)) hmm
                                exact ih31 k1 (sx + 1) (va_up Fw (2001 * k1 + sx) (bsF (fun x => Fw (2001 * (k1 + 1) + x)) (Va (8 * sy + B k1)) sx b0 j)) _ _ _ _ (by omega) (by omega) (by omega) (fOK_up (by omega) (by omega) hF) (fOK_row (by omega) hrw ⟨hmm, hmr⟩) hfr f_y f_Co f_Va f_by f_fw f_tk f_bd hP hS (by first | exact lv_sub hl [1, 2, 3, 4, 5, 6, 0] rfl | exact lv_cast (lv_sub (l' := [(0, .ref (ad y)), (1, .int (iI ((sy : Nat) : Int))), (2, .int (iI ((sm : Nat) : Int))), (3, .int (iI ((Co sy : Nat) : Int))), (4, .int (iI ((k1 : Nat) : Int))), (5, .int (iI ((Va (8 * sy + B k1) : Nat) : Int))), (6, .int (iI (((sx : Nat) : Int) + 1)))]) hl [1, 2, 3, 4, 5, 6, 0] rfl) (lc_s (lc_s (lc_s (lc_s (lc_s (lc_s (lc_i (show ((((sx : Nat) : Int) + 1) : Int) = (((sx + 1) : Nat) : Int) by omega) rfl))))))))
                              · skip
                                refine lv_iload hx hb dX7_find_196 (lv_at hl 9 rfl) ?_
                                refine lv_aload_n hx hb dX7_find_198 rfl (lv_at hl 0 rfl) ?_
                                refine n_get hx hb hts u_X7 hown hK hP (by omega) f_y rfl 20 (by decide) (nT_m wf_X7_68) rfl dX7_find_199 ?_
                                refine n_sipush hx hb dX7_find_202 (by decide) ?_
                                refine lv_iload hx hb dX7_find_205 (lv_at hl 4 rfl) ?_
                                refine n_iconst hx hb dX7_find_207 ?_
                                refine n_iadd hx hb dX7_find_208 ?_
                                refine n_imul hx hb dX7_find_209 ?_
                                refine lv_iload hx hb dX7_find_210 (lv_at hl 6 rfl) ?_
                                refine n_iadd hx hb dX7_find_212 ?_
                                refine lv_iload hx hb dX7_find_213 (lv_at hl 9 rfl) ?_
                                refine lv_iload hx hb dX7_find_215 (lv_at hl 5 rfl) ?_
                                refine n_imul hx hb dX7_find_217 ?_
                                refine n_isub hx hb dX7_find_218 ?_
                                have hA9 := hF.2.2 (k1 + 1) (by omega) (by omega) (sx - j * Va (8 * sy + B k1)) (by omega)
                                refine n_iald hx hb hK hP (2001 * (k1 + 1) + (sx - j * Va (8 * sy + B k1))) (by omega) f_fw (by omega) (by omega) (by decide) dX7_find_219 ?_
                                refine n_iadd hx hb dX7_find_220 ?_
                                refine lv_istore (lv' := [(10, .int (iI (((j : Nat) : Int) + Fw (2001 * (k1 + 1) + (sx - j * Va (8 * sy + B k1)))))), (0, .ref (ad y)), (1, .int (iI ((sy : Nat) : Int))), (2, .int (iI ((sm : Nat) : Int))), (3, .int (iI ((Co sy : Nat) : Int))), (4, .int (iI ((k1 : Nat) : Int))), (5, .int (iI ((Va (8 * sy + B k1) : Nat) : Int))), (6, .int (iI ((sx : Nat) : Int))), (7, .int (iI (bsF (fun x => Fw (2001 * (k1 + 1) + x)) (Va (8 * sy + B k1)) sx b0 j))), (8, .int (iI ((mo : Nat) : Int))), (9, .int (iI ((j : Nat) : Int)))]) hx hb dX7_find_221 hl (by decide) rfl (fun ls hl => ?_)
                                refine lv_iload hx hb dX7_find_223 (lv_at hl 0 rfl) ?_
                                refine lv_iload hx hb dX7_find_225 (lv_at hl 8 rfl) ?_
                                refine n_icmp_ge (tgt := 235) hx hb dX7_find_227 (by decide) (by omega) (by omega) (fun hc227 => ?_) (fun hc227 => ?_)
                                · skip
                                  refine lv_iload hx hb dX7_find_235 (lv_at hl 8 rfl) ?_
                                  refine lv_istore (lv' := [(7, .int (iI (bsF (fun x => Fw (2001 * (k1 + 1) + x)) (Va (8 * sy + B k1)) sx b0 j))), (10, .int (iI (((j : Nat) : Int) + Fw (2001 * (k1 + 1) + (sx - j * Va (8 * sy + B k1)))))), (0, .ref (ad y)), (1, .int (iI ((sy : Nat) : Int))), (2, .int (iI ((sm : Nat) : Int))), (3, .int (iI ((Co sy : Nat) : Int))), (4, .int (iI ((k1 : Nat) : Int))), (5, .int (iI ((Va (8 * sy + B k1) : Nat) : Int))), (6, .int (iI ((sx : Nat) : Int))), (8, .int (iI ((mo : Nat) : Int))), (9, .int (iI ((j : Nat) : Int)))]) hx hb dX7_find_237 hl (by decide) rfl (fun ls hl => ?_)
                                  refine lv_iinc (v := iI (((j : Nat) : Int) + 1)) (lv' := [(9, .int (iI (((j : Nat) : Int) + 1))), (7, .int (iI (bsF (fun x => Fw (2001 * (k1 + 1) + x)) (Va (8 * sy + B k1)) sx b0 j))), (10, .int (iI (((j : Nat) : Int) + Fw (2001 * (k1 + 1) + (sx - j * Va (8 * sy + B k1)))))), (0, .ref (ad y)), (1, .int (iI ((sy : Nat) : Int))), (2, .int (iI ((sm : Nat) : Int))), (3, .int (iI ((Co sy : Nat) : Int))), (4, .int (iI ((k1 : Nat) : Int))), (5, .int (iI ((Va (8 * sy + B k1) : Nat) : Int))), (6, .int (iI ((sx : Nat) : Int))), (8, .int (iI ((mo : Nat) : Int)))]) hx hb dX7_find_239 hl (k := 10) rfl (by first | exact iI_add _ _ | exact (iI_add _ _).trans (congrArg iI (by omega))) (by decide) rfl (fun ls hl => ?_)
                                  refine lv_goto (tgt := 179) hx hb dX7_find_242 (by decide) ?_
                                  exact ih37 (j + 1) b0 mo _ _ _ _ (by omega) (by omega) (fun i h9 => (Decidable.em (i = j)).elim (fun e9 => by rw [e9]; omega) (fun e9 => hjv i (by omega))) (by omega) (by omega) hgo hfr f_y f_Co f_Va f_by f_fw f_tk f_bd hP hS (by first | exact lv_sub hl [3, 4, 5, 6, 7, 8, 9, 1, 10, 0] rfl | exact lv_cast (lv_sub (l' := [(0, .ref (ad y)), (1, .int (iI ((sy : Nat) : Int))), (2, .int (iI ((sm : Nat) : Int))), (3, .int (iI ((Co sy : Nat) : Int))), (4, .int (iI ((k1 : Nat) : Int))), (5, .int (iI ((Va (8 * sy + B k1) : Nat) : Int))), (6, .int (iI ((sx : Nat) : Int))), (7, .int (iI (bsF (fun x => Fw (2001 * (k1 + 1) + x)) (Va (8 * sy + B k1)) sx b0 j))), (8, .int (iI ((mo : Nat) : Int))), (9, .int (iI (((j : Nat) : Int) + 1)))]) hl [3, 4, 5, 6, 7, 8, 9, 1, 10, 0] rfl) (lc_s (lc_s (lc_s (lc_s (lc_s (lc_s (lc_s (lc_i (show (bsF (fun x => Fw (2001 * (k1 + 1) + x)) (Va (8 * sy + B k1)) sx b0 j : Int) = bsF (fun x => Fw (2001 * (k1 + 1) + x)) (Va (8 * sy + B k1)) sx b0 (j + 1) by exact (bsF_n (A := (fun x => Fw (2001 * (k1 + 1) + x))) (v := Va (8 * sy + B k1)) (s := sx) (b0 := b0) (j := j) (by show ¬ Fw (2001 * (k1 + 1) + (sx - j * Va (8 * sy + B k1))) + (j : Int) < _; omega)).symm) (lc_s (lc_i (show ((((j : Nat) : Int) + 1) : Int) = (((j + 1) : Nat) : Int) by omega) rfl)))))))))))
                                · skip
                                  refine lv_iload hx hb dX7_find_230 (lv_at hl 0 rfl) ?_
                                  refine lv_goto (tgt := 237) hx hb dX7_find_232 (by decide) ?_
                                  refine lv_istore (lv' := [(7, .int (iI (((j : Nat) : Int) + Fw (2001 * (k1 + 1) + (sx - j * Va (8 * sy + B k1)))))), (10, .int (iI (((j : Nat) : Int) + Fw (2001 * (k1 + 1) + (sx - j * Va (8 * sy + B k1)))))), (0, .ref (ad y)), (1, .int (iI ((sy : Nat) : Int))), (2, .int (iI ((sm : Nat) : Int))), (3, .int (iI ((Co sy : Nat) : Int))), (4, .int (iI ((k1 : Nat) : Int))), (5, .int (iI ((Va (8 * sy + B k1) : Nat) : Int))), (6, .int (iI ((sx : Nat) : Int))), (8, .int (iI ((mo : Nat) : Int))), (9, .int (iI ((j : Nat) : Int)))]) hx hb dX7_find_237 hl (by decide) rfl (fun ls hl => ?_)
                                  refine lv_iinc (v := iI (((j : Nat) : Int) + 1)) (lv' := [(9, .int (iI (((j : Nat) : Int) + 1))), (7, .int (iI (((j : Nat) : Int) + Fw (2001 * (k1 + 1) + (sx - j * Va (8 * sy + B k1)))))), (10, .int (iI (((j : Nat) : Int) + Fw (2001 * (k1 + 1) + (sx - j * Va (8 * sy + B k1)))))), (0, .ref (ad y)), (1, .int (iI ((sy : Nat) : Int))), (2, .int (iI ((sm : Nat) : Int))), (3, .int (iI ((Co sy : Nat) : Int))), (4, .int (iI ((k1 : Nat) : Int))), (5, .int (iI ((Va (8 * sy + B k1) : Nat) : Int))), (6, .int (iI ((sx : Nat) : Int))), (8, .int (iI ((mo : Nat) : Int)))]) hx hb dX7_find_239 hl (k := 10) rfl (by first | exact iI_add _ _ | exact (iI_add _ _).trans (congrArg iI (by omega))) (by decide) rfl (fun ls hl => ?_)
                                  refine lv_goto (tgt := 179) hx hb dX7_find_242 (by decide) ?_
                                  exact ih37 (j + 1) b0 mo _ _ _ _ (by omega) (by omega) (fun i h9 => (Decidable.em (i = j)).elim (fun e9 => by rw [e9]; omega) (fun e9 => hjv i (by omega))) (by omega) (by omega) hgo hfr f_y f_Co f_Va f_by f_fw f_tk f_bd hP hS (by first | exact lv_sub hl [3, 4, 5, 6, 7, 8, 9, 1, 10, 0] rfl | exact lv_cast (lv_sub (l' := [(0, .ref (ad y)), (1, .int (iI ((sy : Nat) : Int))), (2, .int (iI ((sm : Nat) : Int))), (3, .int (iI ((Co sy : Nat) : Int))), (4, .int (iI ((k1 : Nat) : Int))), (5, .int (iI ((Va (8 * sy + B k1) : Nat) : Int))), (6, .int (iI ((sx : Nat) : Int))), (7, .int (iI (((j : Nat) : Int) + Fw (2001 * (k1 + 1) + (sx - j * Va (8 * sy + B k1)))))), (8, .int (iI ((mo : Nat) : Int))), (9, .int (iI (((j : Nat) : Int) + 1)))]) hl [3, 4, 5, 6, 7, 8, 9, 1, 10, 0] rfl) (lc_s (lc_s (lc_s (lc_s (lc_s (lc_s (lc_s (lc_i (show ((((j : Nat) : Int) + Fw (2001 * (k1 + 1) + (sx - j * Va (8 * sy + B k1)))) : Int) = bsF (fun x => Fw (2001 * (k1 + 1) + x)) (Va (8 * sy + B k1)) sx b0 (j + 1) by exact (Int.add_comm _ _).trans (bsF_y (A := (fun x => Fw (2001 * (k1 + 1) + x))) (v := Va (8 * sy + B k1)) (s := sx) (b0 := b0) (j := j) (by show Fw (2001 * (k1 + 1) + (sx - j * Va (8 * sy + B k1))) + (j : Int) < _; omega)).symm) (lc_s (lc_i (show ((((j : Nat) : Int) + 1) : Int) = (((j + 1) : Nat) : Int) by omega) rfl)))))))))))
                        exact lp35 ((bd (B k1)) + 1 - 0 + 1) 0 1000000 (bd (B k1)) _ _ _ _ (Nat.lt_succ_self _) (by omega) (fun i h9 => absurd h9 (Nat.not_lt_zero _)) (by omega) (by omega) (fun c h1 h2 h3 => mm_b h1 h2 h3) hfr f_y f_Co f_Va f_by f_fw f_tk f_bd hP hS (by first | exact lv_sub hl [3, 4, 5, 6, 7, 8, 9, 2, 1, 0] rfl | exact lv_cast (lv_sub (l' := [(0, .ref (ad y)), (1, .int (iI ((sy : Nat) : Int))), (2, .int (iI ((sm : Nat) : Int))), (3, .int (iI ((Co sy : Nat) : Int))), (4, .int (iI ((k1 : Nat) : Int))), (5, .int (iI ((Va (8 * sy + B k1) : Nat) : Int))), (6, .int (iI ((sx : Nat) : Int))), (7, .int (iI 1000000)), (8, .int (iI (bd (B k1) : Int))), (9, .int (iI 0))]) hl [3, 4, 5, 6, 7, 8, 9, 2, 1, 0] rfl) (lc_s (lc_s (lc_s (lc_s (lc_s (lc_s (lc_s (lc_i (show (1000000 : Int) = bsF (fun x => Fw (2001 * (k1 + 1) + x)) (Va (8 * sy + B k1)) sx 1000000 0 by rfl) (lc_i (show ((bd (B k1) : Int) : Int) = (((bd (B k1)) : Nat) : Int) by omega) (lc_i (show (0 : Int) = ((0 : Nat) : Int) by omega) rfl)))))))))))
                      · skip
                        exact absurd hc155 (by omega)
                    · skip
                      refine lv_iload hx hb dX7_find_107 (lv_at hl 6 rfl) ?_
                      refine lv_iload hx hb dX7_find_109 (lv_at hl 5 rfl) ?_
                      refine n_icmp_lt (tgt := 136) hx hb dX7_find_111 (by decide) (by omega) (by omega) (fun hc111 => ?_) (fun hc111 => ?_)
                      · skip
                        refine lv_ldc (v := iI (1000000)) hx hb hown (hts _ (nT_m wk_X7_120)) dX7_find_136 ?_
                        refine lv_istore (lv' := [(7, .int (iI 1000000)), (0, .ref (ad y)), (1, .int (iI ((sy : Nat) : Int))), (2, .int (iI ((sm : Nat) : Int))), (3, .int (iI ((Co sy : Nat) : Int))), (4, .int (iI ((k1 : Nat) : Int))), (5, .int (iI ((Va (8 * sy + B k1) : Nat) : Int))), (6, .int (iI ((sx : Nat) : Int)))]) hx hb dX7_find_138 hl (by decide) rfl (fun ls hl => ?_)
                        refine lv_aload_n hx hb dX7_find_140 rfl (lv_at hl 1 rfl) ?_
                        refine n_get hx hb hts u_X7 hown hK hP (by omega) f_y rfl 22 (by decide) (nT_m wf_X7_74) rfl dX7_find_141 ?_
                        refine lv_aload_n hx hb dX7_find_144 rfl (lv_at hl 1 rfl) ?_
                        refine n_get hx hb hts u_X7 hown hK hP (by omega) f_y rfl 19 (by decide) (nT_m wf_X7_65) rfl dX7_find_145 ?_
                        refine lv_iload hx hb dX7_find_148 (lv_at hl 5 rfl) ?_
                        refine n_iald hx hb hK hP k1 (by omega) f_by (by omega) (by omega) (by decide) dX7_find_150 ?_
                        refine n_iald hx hb hK hP (B k1) (by omega) f_bd (by omega) (by omega) (by decide) dX7_find_151 ?_
                        have ho42 := hbd (B k1) (by omega)
                        refine n_sipush hx hb dX7_find_152 (by decide) ?_
                        refine n_icmp_ne (tgt := 162) hx hb dX7_find_155 (by decide) (by omega) (by omega) (fun hc155 => ?_) (fun hc155 => ?_)
                        · skip
                          exact absurd hc155 (by omega)
                        · skip
                          refine n_iconst hx hb dX7_find_158 ?_
                          refine lv_goto (tgt := 174) hx hb dX7_find_159 (by decide) ?_
                          refine lv_istore (lv' := [(8, .int (iI 0)), (7, .int (iI 1000000)), (0, .ref (ad y)), (1, .int (iI ((sy : Nat) : Int))), (2, .int (iI ((sm : Nat) : Int))), (3, .int (iI ((Co sy : Nat) : Int))), (4, .int (iI ((k1 : Nat) : Int))), (5, .int (iI ((Va (8 * sy + B k1) : Nat) : Int))), (6, .int (iI ((sx : Nat) : Int)))]) hx hb dX7_find_174 hl (by decide) rfl (fun ls hl => ?_)
                          refine n_iconst hx hb dX7_find_176 ?_
                          refine lv_istore (lv' := [(9, .int (iI 0)), (8, .int (iI 0)), (7, .int (iI 1000000)), (0, .ref (ad y)), (1, .int (iI ((sy : Nat) : Int))), (2, .int (iI ((sm : Nat) : Int))), (3, .int (iI ((Co sy : Nat) : Int))), (4, .int (iI ((k1 : Nat) : Int))), (5, .int (iI ((Va (8 * sy + B k1) : Nat) : Int))), (6, .int (iI ((sx : Nat) : Int)))]) hx hb dX7_find_177 hl (by decide) rfl (fun ls hl => ?_)
                          have lp43 : ∀ (fu : Nat), ∀ (j : Nat) (b0 : Int) (mo : Nat), ∀ (w44 : Nat → va_E) (H : Heap) (locs : List Loc), ∀ (ls : Array Slot), mo + 1 - j < fu → j ≤ mo + 1 → (∀ i, i < j → i * (Va (8 * sy + B k1)) ≤ sx) → 0 ≤ b0 ∧ b0 ≤ 1000001 → mo ≤ 2000 → (∀ c, c ≤ mo + 1 → (∀ i, i < c → i * (Va (8 * sy + B k1)) ≤ sx) → (mo < c ∨ sx < c * (Va (8 * sy + B k1))) → isMm (fun x => Fw (2001 * (k1 + 1) + x)) (Va (8 * sy + B k1)) (bd (B k1)) sx (bsF (fun x => Fw (2001 * (k1 + 1) + x)) (Va (8 * sy + B k1)) sx b0 c)) → (∀ j, j ≠ (y + 19) → j ≠ (y + 20) → j ≠ (y + 21) → w44 j = w j) → w44 y = .inr (7, [.int (iI 0), .ref (ad (y + 1)), .ref (ad (y + 2)), .ref (ad (y + 3)), .ref (ad (y + 4)), .ref (ad (y + 5)), .ref (ad (y + 6)), .ref (ad (y + 7)), .ref (ad (y + 8)), .ref (ad (y + 9)), .ref (ad (y + 10)), .ref (ad (y + 11)), .ref (ad (y + 12)), .ref (ad (y + 13)), .ref (ad (y + 14)), .ref (ad (y + 15)), .ref (ad (y + 16)), .ref (ad (y + 17)), .ref (ad (y + 18)), .ref (ad (y + 19)), .ref (ad (y + 20)), .ref (ad (y + 21)), .ref (ad (y + 22)), .ref (ad (y + 23)), .ref (ad (y + 24)), .ref (ad (y + 25)), .ref (ad (y + 26))]) → w44 (y + 1) = aI G 8 (fun q => (Co q : Int)) → w44 (y + 2) = aI G 64 (fun q => (Va q : Int)) → w44 (y + 19) = aI G 8 (fun q => (B q : Int)) → w44 (y + 20) = aI G 18009 Fw → w44 (y + 21) = aI G 8 (fun q => (tk0 q : Int)) → w44 (y + 22) = aI G 8 (fun q => (bd q : Int)) → va_P G.1 vwCl (nL N ad w44) H → va_S (nA N ad s.heap.size) s.heap H locs → lv_has ls 11 [(0, .ref (ad y)), (1, .int (iI ((sy : Nat) : Int))), (2, .int (iI ((sm : Nat) : Int))), (3, .int (iI ((Co sy : Nat) : Int))), (4, .int (iI ((k1 : Nat) : Int))), (5, .int (iI ((Va (8 * sy + B k1) : Nat) : Int))), (6, .int (iI ((sx : Nat) : Int))), (7, .int (iI (bsF (fun x => Fw (2001 * (k1 + 1) + x)) (Va (8 * sy + B k1)) sx b0 j))), (8, .int (iI ((mo : Nat) : Int))), (9, .int (iI ((j : Nat) : Int)))] → W p l e ({ frames := 1, cells := 0, slots := 0, locals := 23 } : Room) s m ([.ref (ad y), .int (iI ((sy : Nat) : Int)), .int (iI ((sm : Nat) : Int))] : List Value).toArray below meth cd H locs 0 0 Q (F0 m 179 ls []) := by
                            intro fu
                            induction fu with
                            | zero =>
                              intro j b0 mo w44 H locs ls hfu hj hjv hb0 hmo hgo hfr f_y f_Co f_Va f_by f_fw f_tk f_bd hP hS hl
                              exact absurd hfu (Nat.not_lt_zero _)
                            | succ fu ih45 =>
                              intro j b0 mo w44 H locs ls hfu hj hjv hb0 hmo hgo hfr f_y f_Co f_Va f_by f_fw f_tk f_bd hP hS hl
                              have hbr := bsF_rng (A := (fun x => Fw (2001 * (k1 + 1) + x))) (v := Va (8 * sy + B k1)) (s := sx) (b0 := b0) hb0 (c := j) (fun x hx => by have h9 := hF.2.2 (k1 + 1) (by omega) (by omega) x (by omega); show 0 ≤ Fw (2001 * (k1 + 1) + x); omega)
                              have hjm : j * (Va (8 * sy + B k1)) ≤ 2001 * 1000 := Nat.mul_le_mul (by omega) (by omega)
                              refine lv_iload hx hb dX7_find_179 (lv_at hl 9 rfl) ?_
                              refine lv_iload hx hb dX7_find_181 (lv_at hl 8 rfl) ?_
                              refine n_icmp_gt (tgt := 245) hx hb dX7_find_183 (by decide) (by omega) (by omega) (fun hc183 => ?_) (fun hc183 => ?_)
                              · skip
                                refine lv_aload_n hx hb dX7_find_245 rfl (lv_at hl 0 rfl) ?_
                                refine n_get hx hb hts u_X7 hown hK hP (by omega) f_y rfl 20 (by decide) (nT_m wf_X7_68) rfl dX7_find_246 ?_
                                refine n_sipush hx hb dX7_find_249 (by decide) ?_
                                refine lv_iload hx hb dX7_find_252 (lv_at hl 4 rfl) ?_
                                refine n_imul hx hb dX7_find_254 ?_
                                refine lv_iload hx hb dX7_find_255 (lv_at hl 6 rfl) ?_
                                refine n_iadd hx hb dX7_find_257 ?_
                                refine lv_iload hx hb dX7_find_258 (lv_at hl 7 rfl) ?_
                                refine n_iast hx hb hK hJ hP hS ((2001 * k1) + sx) (by omega) f_fw (by omega) (by omega) (by decide) dX7_find_260 (fun w46 H locs f_fw hne47 hP hS => ?_)
                                have f_y := (hne47 y (by omega)).trans f_y
                                have f_Co := (hne47 (y + 1) (by omega)).trans f_Co
                                have f_Va := (hne47 (y + 2) (by omega)).trans f_Va
                                have f_by := (hne47 (y + 19) (by omega)).trans f_by
                                have f_tk := (hne47 (y + 21) (by omega)).trans f_tk
                                have f_bd := (hne47 (y + 22) (by omega)).trans f_bd
                                have hfr : ∀ j, j ≠ (y + 19) → j ≠ (y + 20) → j ≠ (y + 21) → w46 j = w j := fun j a0 a1 a2 => (hne47 j (by omega)).trans (hfr j a0 a1 a2)
                                refine lv_iinc (v := iI (((sx : Nat) : Int) + 1)) (lv' := [(6, .int (iI (((sx : Nat) : Int) + 1))), (0, .ref (ad y)), (1, .int (iI ((sy : Nat) : Int))), (2, .int (iI ((sm : Nat) : Int))), (3, .int (iI ((Co sy : Nat) : Int))), (4, .int (iI ((k1 : Nat) : Int))), (5, .int (iI ((Va (8 * sy + B k1) : Nat) : Int))), (7, .int (iI (bsF (fun x => Fw (2001 * (k1 + 1) + x)) (Va (8 * sy + B k1)) sx b0 j))), (8, .int (iI ((mo : Nat) : Int))), (9, .int (iI ((j : Nat) : Int)))]) hx hb dX7_find_261 hl (k := 6) rfl (by first | exact iI_add _ _ | exact (iI_add _ _).trans (congrArg iI (by omega))) (by decide) rfl (fun ls hl => ?_)
                                refine lv_goto (tgt := 83) hx hb dX7_find_264 (by decide) ?_
                                have hmm := hgo j hj hjv (by omega)
                                have hmr := mm_rng (by omega) (fun x hx => hF.2.2 (k1 + 1) (by omega) (by omega) x (by omega)) hmm
                                exact ih31 k1 (sx + 1) (va_up Fw (2001 * k1 + sx) (bsF (fun x => Fw (2001 * (k1 + 1) + x)) (Va (8 * sy + B k1)) sx b0 j)) _ _ _ _ (by omega) (by omega) (by omega) (fOK_up (by omega) (by omega) hF) (fOK_row (by omega) hrw ⟨hmm, hmr⟩) hfr f_y f_Co f_Va f_by f_fw f_tk f_bd hP hS (by first | exact lv_sub hl [1, 2, 3, 4, 5, 6, 0] rfl | exact lv_cast (lv_sub (l' := [(0, .ref (ad y)), (1, .int (iI ((sy : Nat) : Int))), (2, .int (iI ((sm : Nat) : Int))), (3, .int (iI ((Co sy : Nat) : Int))), (4, .int (iI ((k1 : Nat) : Int))), (5, .int (iI ((Va (8 * sy + B k1) : Nat) : Int))), (6, .int (iI (((sx : Nat) : Int) + 1)))]) hl [1, 2, 3, 4, 5, 6, 0] rfl) (lc_s (lc_s (lc_s (lc_s (lc_s (lc_s (lc_i (show ((((sx : Nat) : Int) + 1) : Int) = (((sx + 1) : Nat) : Int) by omega) rfl))))))))
                              · skip
                                refine lv_iload hx hb dX7_find_186 (lv_at hl 9 rfl) ?_
                                refine lv_iload hx hb dX7_find_188 (lv_at hl 5 rfl) ?_
                                refine n_imul hx hb dX7_find_190 ?_
                                refine lv_iload hx hb dX7_find_191 (lv_at hl 6 rfl) ?_
                                refine n_icmp_gt (tgt := 245) hx hb dX7_find_193 (by decide) (by omega) (by omega) (fun hc193 => ?_) (fun hc193 => ?_)
                                · skip
                                  refine lv_aload_n hx hb dX7_find_245 rfl (lv_at hl 0 rfl) ?_
                                  refine n_get hx hb hts u_X7 hown hK hP (by omega) f_y rfl 20 (by decide) (nT_m wf_X7_68) rfl dX7_find_246 ?_
                                  refine n_sipush hx hb dX7_find_249 (by decide) ?_
                                  refine lv_iload hx hb dX7_find_252 (lv_at hl 4 rfl) ?_
                                  refine n_imul hx hb dX7_find_254 ?_
                                  refine lv_iload hx hb dX7_find_255 (lv_at hl 6 rfl) ?_
                                  refine n_iadd hx hb dX7_find_257 ?_
                                  refine lv_iload hx hb dX7_find_258 (lv_at hl 7 rfl) ?_
                                  refine n_iast hx hb hK hJ hP hS ((2001 * k1) + sx) (by omega) f_fw (by omega) (by omega) (by decide) dX7_find_260 (fun w48 H locs f_fw hne49 hP hS => ?_)
                                  have f_y := (hne49 y (by omega)).trans f_y
                                  have f_Co := (hne49 (y + 1) (by omega)).trans f_Co
                                  have f_Va := (hne49 (y + 2) (by omega)).trans f_Va
                                  have f_by := (hne49 (y + 19) (by omega)).trans f_by
                                  have f_tk := (hne49 (y + 21) (by omega)).trans f_tk
                                  have f_bd := (hne49 (y + 22) (by omega)).trans f_bd
                                  have hfr : ∀ j, j ≠ (y + 19) → j ≠ (y + 20) → j ≠ (y + 21) → w48 j = w j := fun j a0 a1 a2 => (hne49 j (by omega)).trans (hfr j a0 a1 a2)
                                  refine lv_iinc (v := iI (((sx : Nat) : Int) + 1)) (lv' := [(6, .int (iI (((sx : Nat) : Int) + 1))), (0, .ref (ad y)), (1, .int (iI ((sy : Nat) : Int))), (2, .int (iI ((sm : Nat) : Int))), (3, .int (iI ((Co sy : Nat) : Int))), (4, .int (iI ((k1 : Nat) : Int))), (5, .int (iI ((Va (8 * sy + B k1) : Nat) : Int))), (7, .int (iI (bsF (fun x => Fw (2001 * (k1 + 1) + x)) (Va (8 * sy + B k1)) sx b0 j))), (8, .int (iI ((mo : Nat) : Int))), (9, .int (iI ((j : Nat) : Int)))]) hx hb dX7_find_261 hl (k := 6) rfl (by first | exact iI_add _ _ | exact (iI_add _ _).trans (congrArg iI (by omega))) (by decide) rfl (fun ls hl => ?_)
                                  refine lv_goto (tgt := 83) hx hb dX7_find_264 (by decide) ?_
                                  have hmm := hgo j hj hjv (by omega)
                                  have hmr := mm_rng (by omega) (fun x hx => hF.2.2 (k1 + 1) (by omega) (by omega) x (by omega)) hmm
                                  exact ih31 k1 (sx + 1) (va_up Fw (2001 * k1 + sx) (bsF (fun x => Fw (2001 * (k1 + 1) + x)) (Va (8 * sy + B k1)) sx b0 j)) _ _ _ _ (by omega) (by omega) (by omega) (fOK_up (by omega) (by omega) hF) (fOK_row (by omega) hrw ⟨hmm, hmr⟩) hfr f_y f_Co f_Va f_by f_fw f_tk f_bd hP hS (by first | exact lv_sub hl [1, 2, 3, 4, 5, 6, 0] rfl | exact lv_cast (lv_sub (l' := [(0, .ref (ad y)), (1, .int (iI ((sy : Nat) : Int))), (2, .int (iI ((sm : Nat) : Int))), (3, .int (iI ((Co sy : Nat) : Int))), (4, .int (iI ((k1 : Nat) : Int))), (5, .int (iI ((Va (8 * sy + B k1) : Nat) : Int))), (6, .int (iI (((sx : Nat) : Int) + 1)))]) hl [1, 2, 3, 4, 5, 6, 0] rfl) (lc_s (lc_s (lc_s (lc_s (lc_s (lc_s (lc_i (show ((((sx : Nat) : Int) + 1) : Int) = (((sx + 1) : Nat) : Int) by omega) rfl))))))))
                                · skip
                                  refine lv_iload hx hb dX7_find_196 (lv_at hl 9 rfl) ?_
                                  refine lv_aload_n hx hb dX7_find_198 rfl (lv_at hl 0 rfl) ?_
                                  refine n_get hx hb hts u_X7 hown hK hP (by omega) f_y rfl 20 (by decide) (nT_m wf_X7_68) rfl dX7_find_199 ?_
                                  refine n_sipush hx hb dX7_find_202 (by decide) ?_
                                  refine lv_iload hx hb dX7_find_205 (lv_at hl 4 rfl) ?_
                                  refine n_iconst hx hb dX7_find_207 ?_
                                  refine n_iadd hx hb dX7_find_208 ?_
                                  refine n_imul hx hb dX7_find_209 ?_
                                  refine lv_iload hx hb dX7_find_210 (lv_at hl 6 rfl) ?_
                                  refine n_iadd hx hb dX7_find_212 ?_
                                  refine lv_iload hx hb dX7_find_213 (lv_at hl 9 rfl) ?_
                                  refine lv_iload hx hb dX7_find_215 (lv_at hl 5 rfl) ?_
                                  refine n_imul hx hb dX7_find_217 ?_
                                  refine n_isub hx hb dX7_find_218 ?_
                                  have hA9 := hF.2.2 (k1 + 1) (by omega) (by omega) (sx - j * Va (8 * sy + B k1)) (by omega)
                                  refine n_iald hx hb hK hP (2001 * (k1 + 1) + (sx - j * Va (8 * sy + B k1))) (by omega) f_fw (by omega) (by omega) (by decide) dX7_find_219 ?_
                                  refine n_iadd hx hb dX7_find_220 ?_
                                  refine lv_istore (lv' := [(10, .int (iI (((j : Nat) : Int) + Fw (2001 * (k1 + 1) + (sx - j * Va (8 * sy + B k1)))))), (0, .ref (ad y)), (1, .int (iI ((sy : Nat) : Int))), (2, .int (iI ((sm : Nat) : Int))), (3, .int (iI ((Co sy : Nat) : Int))), (4, .int (iI ((k1 : Nat) : Int))), (5, .int (iI ((Va (8 * sy + B k1) : Nat) : Int))), (6, .int (iI ((sx : Nat) : Int))), (7, .int (iI (bsF (fun x => Fw (2001 * (k1 + 1) + x)) (Va (8 * sy + B k1)) sx b0 j))), (8, .int (iI ((mo : Nat) : Int))), (9, .int (iI ((j : Nat) : Int)))]) hx hb dX7_find_221 hl (by decide) rfl (fun ls hl => ?_)
                                  refine lv_iload hx hb dX7_find_223 (lv_at hl 0 rfl) ?_
                                  refine lv_iload hx hb dX7_find_225 (lv_at hl 8 rfl) ?_
                                  refine n_icmp_ge (tgt := 235) hx hb dX7_find_227 (by decide) (by omega) (by omega) (fun hc227 => ?_) (fun hc227 => ?_)
                                  · skip
                                    refine lv_iload hx hb dX7_find_235 (lv_at hl 8 rfl) ?_
                                    refine lv_istore (lv' := [(7, .int (iI (bsF (fun x => Fw (2001 * (k1 + 1) + x)) (Va (8 * sy + B k1)) sx b0 j))), (10, .int (iI (((j : Nat) : Int) + Fw (2001 * (k1 + 1) + (sx - j * Va (8 * sy + B k1)))))), (0, .ref (ad y)), (1, .int (iI ((sy : Nat) : Int))), (2, .int (iI ((sm : Nat) : Int))), (3, .int (iI ((Co sy : Nat) : Int))), (4, .int (iI ((k1 : Nat) : Int))), (5, .int (iI ((Va (8 * sy + B k1) : Nat) : Int))), (6, .int (iI ((sx : Nat) : Int))), (8, .int (iI ((mo : Nat) : Int))), (9, .int (iI ((j : Nat) : Int)))]) hx hb dX7_find_237 hl (by decide) rfl (fun ls hl => ?_)
                                    refine lv_iinc (v := iI (((j : Nat) : Int) + 1)) (lv' := [(9, .int (iI (((j : Nat) : Int) + 1))), (7, .int (iI (bsF (fun x => Fw (2001 * (k1 + 1) + x)) (Va (8 * sy + B k1)) sx b0 j))), (10, .int (iI (((j : Nat) : Int) + Fw (2001 * (k1 + 1) + (sx - j * Va (8 * sy + B k1)))))), (0, .ref (ad y)), (1, .int (iI ((sy : Nat) : Int))), (2, .int (iI ((sm : Nat) : Int))), (3, .int (iI ((Co sy : Nat) : Int))), (4, .int (iI ((k1 : Nat) : Int))), (5, .int (iI ((Va (8 * sy + B k1) : Nat) : Int))), (6, .int (iI ((sx : Nat) : Int))), (8, .int (iI ((mo : Nat) : Int)))]) hx hb dX7_find_239 hl (k := 10) rfl (by first | exact iI_add _ _ | exact (iI_add _ _).trans (congrArg iI (by omega))) (by decide) rfl (fun ls hl => ?_)
                                    refine lv_goto (tgt := 179) hx hb dX7_find_242 (by decide) ?_
                                    exact ih45 (j + 1) b0 mo _ _ _ _ (by omega) (by omega) (fun i h9 => (Decidable.em (i = j)).elim (fun e9 => by rw [e9]; omega) (fun e9 => hjv i (by omega))) (by omega) (by omega) hgo hfr f_y f_Co f_Va f_by f_fw f_tk f_bd hP hS (by first | exact lv_sub hl [3, 4, 5, 6, 7, 8, 9, 1, 10, 0] rfl | exact lv_cast (lv_sub (l' := [(0, .ref (ad y)), (1, .int (iI ((sy : Nat) : Int))), (2, .int (iI ((sm : Nat) : Int))), (3, .int (iI ((Co sy : Nat) : Int))), (4, .int (iI ((k1 : Nat) : Int))), (5, .int (iI ((Va (8 * sy + B k1) : Nat) : Int))), (6, .int (iI ((sx : Nat) : Int))), (7, .int (iI (bsF (fun x => Fw (2001 * (k1 + 1) + x)) (Va (8 * sy + B k1)) sx b0 j))), (8, .int (iI ((mo : Nat) : Int))), (9, .int (iI (((j : Nat) : Int) + 1)))]) hl [3, 4, 5, 6, 7, 8, 9, 1, 10, 0] rfl) (lc_s (lc_s (lc_s (lc_s (lc_s (lc_s (lc_s (lc_i (show (bsF (fun x => Fw (2001 * (k1 + 1) + x)) (Va (8 * sy + B k1)) sx b0 j : Int) = bsF (fun x => Fw (2001 * (k1 + 1) + x)) (Va (8 * sy + B k1)) sx b0 (j + 1) by exact (bsF_n (A := (fun x => Fw (2001 * (k1 + 1) + x))) (v := Va (8 * sy + B k1)) (s := sx) (b0 := b0) (j := j) (by show ¬ Fw (2001 * (k1 + 1) + (sx - j * Va (8 * sy + B k1))) + (j : Int) < _; omega)).symm) (lc_s (lc_i (show ((((j : Nat) : Int) + 1) : Int) = (((j + 1) : Nat) : Int) by omega) rfl)))))))))))
                                  · skip
                                    refine lv_iload hx hb dX7_find_230 (lv_at hl 0 rfl) ?_
                                    refine lv_goto (tgt := 237) hx hb dX7_find_232 (by decide) ?_
                                    refine lv_istore (lv' := [(7, .int (iI (((j : Nat) : Int) + Fw (2001 * (k1 + 1) + (sx - j * Va (8 * sy + B k1)))))), (10, .int (iI (((j : Nat) : Int) + Fw (2001 * (k1 + 1) + (sx - j * Va (8 * sy + B k1)))))), (0, .ref (ad y)), (1, .int (iI ((sy : Nat) : Int))), (2, .int (iI ((sm : Nat) : Int))), (3, .int (iI ((Co sy : Nat) : Int))), (4, .int (iI ((k1 : Nat) : Int))), (5, .int (iI ((Va (8 * sy + B k1) : Nat) : Int))), (6, .int (iI ((sx : Nat) : Int))), (8, .int (iI ((mo : Nat) : Int))), (9, .int (iI ((j : Nat) : Int)))]) hx hb dX7_find_237 hl (by decide) rfl (fun ls hl => ?_)
                                    refine lv_iinc (v := iI (((j : Nat) : Int) + 1)) (lv' := [(9, .int (iI (((j : Nat) : Int) + 1))), (7, .int (iI (((j : Nat) : Int) + Fw (2001 * (k1 + 1) + (sx - j * Va (8 * sy + B k1)))))), (10, .int (iI (((j : Nat) : Int) + Fw (2001 * (k1 + 1) + (sx - j * Va (8 * sy + B k1)))))), (0, .ref (ad y)), (1, .int (iI ((sy : Nat) : Int))), (2, .int (iI ((sm : Nat) : Int))), (3, .int (iI ((Co sy : Nat) : Int))), (4, .int (iI ((k1 : Nat) : Int))), (5, .int (iI ((Va (8 * sy + B k1) : Nat) : Int))), (6, .int (iI ((sx : Nat) : Int))), (8, .int (iI ((mo : Nat) : Int)))]) hx hb dX7_find_239 hl (k := 10) rfl (by first | exact iI_add _ _ | exact (iI_add _ _).trans (congrArg iI (by omega))) (by decide) rfl (fun ls hl => ?_)
                                    refine lv_goto (tgt := 179) hx hb dX7_find_242 (by decide) ?_
                                    exact ih45 (j + 1) b0 mo _ _ _ _ (by omega) (by omega) (fun i h9 => (Decidable.em (i = j)).elim (fun e9 => by rw [e9]; omega) (fun e9 => hjv i (by omega))) (by omega) (by omega) hgo hfr f_y f_Co f_Va f_by f_fw f_tk f_bd hP hS (by first | exact lv_sub hl [3, 4, 5, 6, 7, 8, 9, 1, 10, 0] rfl | exact lv_cast (lv_sub (l' := [(0, .ref (ad y)), (1, .int (iI ((sy : Nat) : Int))), (2, .int (iI ((sm : Nat) : Int))), (3, .int (iI ((Co sy : Nat) : Int))), (4, .int (iI ((k1 : Nat) : Int))), (5, .int (iI ((Va (8 * sy + B k1) : Nat) : Int))), (6, .int (iI ((sx : Nat) : Int))), (7, .int (iI (((j : Nat) : Int) + Fw (2001 * (k1 + 1) + (sx - j * Va (8 * sy + B k1)))))), (8, .int (iI ((mo : Nat) : Int))), (9, .int (iI (((j : Nat) : Int) + 1)))]) hl [3, 4, 5, 6, 7, 8, 9, 1, 10, 0] rfl) (lc_s (lc_s (lc_s (lc_s (lc_s (lc_s (lc_s (lc_i (show ((((j : Nat) : Int) + Fw (2001 * (k1 + 1) + (sx - j * Va (8 * sy + B k1)))) : Int) = bsF (fun x => Fw (2001 * (k1 + 1) + x)) (Va (8 * sy + B k1)) sx b0 (j + 1) by exact (Int.add_comm _ _).trans (bsF_y (A := (fun x => Fw (2001 * (k1 + 1) + x))) (v := Va (8 * sy + B k1)) (s := sx) (b0 := b0) (j := j) (by show Fw (2001 * (k1 + 1) + (sx - j * Va (8 * sy + B k1))) + (j : Int) < _; omega)).symm) (lc_s (lc_i (show ((((j : Nat) : Int) + 1) : Int) = (((j + 1) : Nat) : Int) by omega) rfl)))))))))))
                          have hbq : bd (B k1) = 2000 := by omega
                          have hA0 := hF.2.2 (k1 + 1) (by omega) (by omega) sx (by omega)
                          exact lp43 (0 + 1 - 0 + 1) 0 1000000 0 _ _ _ _ (Nat.lt_succ_self _) (by omega) (fun i h9 => absurd h9 (Nat.not_lt_zero _)) (by omega) (by omega) (fun c h1 h2 h3 => by obtain rfl : c = 1 := c_one h1 h3; rw [hbq]; exact mm_u (R := 0) (by omega) (by omega) (by show Fw (2001 * (k1 + 1) + sx) ≤ 1000000; omega) (Or.inl ⟨by omega, rfl⟩)) hfr f_y f_Co f_Va f_by f_fw f_tk f_bd hP hS (by first | exact lv_sub hl [3, 4, 5, 6, 7, 8, 9, 2, 1, 0] rfl | exact lv_cast (lv_sub (l' := [(0, .ref (ad y)), (1, .int (iI ((sy : Nat) : Int))), (2, .int (iI ((sm : Nat) : Int))), (3, .int (iI ((Co sy : Nat) : Int))), (4, .int (iI ((k1 : Nat) : Int))), (5, .int (iI ((Va (8 * sy + B k1) : Nat) : Int))), (6, .int (iI ((sx : Nat) : Int))), (7, .int (iI 1000000)), (8, .int (iI 0)), (9, .int (iI 0))]) hl [3, 4, 5, 6, 7, 8, 9, 2, 1, 0] rfl) (lc_s (lc_s (lc_s (lc_s (lc_s (lc_s (lc_s (lc_i (show (1000000 : Int) = bsF (fun x => Fw (2001 * (k1 + 1) + x)) (Va (8 * sy + B k1)) sx 1000000 0 by rfl) (lc_i (show (0 : Int) = ((0 : Nat) : Int) by omega) (lc_i (show (0 : Int) = ((0 : Nat) : Int) by omega) rfl)))))))))))
                      · skip
                        refine lv_aload_n hx hb dX7_find_114 rfl (lv_at hl 0 rfl) ?_
                        refine n_get hx hb hts u_X7 hown hK hP (by omega) f_y rfl 20 (by decide) (nT_m wf_X7_68) rfl dX7_find_115 ?_
                        refine n_sipush hx hb dX7_find_118 (by decide) ?_
                        refine lv_iload hx hb dX7_find_121 (lv_at hl 4 rfl) ?_
                        refine n_imul hx hb dX7_find_123 ?_
                        refine lv_iload hx hb dX7_find_124 (lv_at hl 6 rfl) ?_
                        refine n_iadd hx hb dX7_find_126 ?_
                        refine lv_iload hx hb dX7_find_127 (lv_at hl 5 rfl) ?_
                        refine n_isub hx hb dX7_find_129 ?_
                        have hA8 := hrw (sx - Va (8 * sy + B k1)) (by omega)
                        refine n_iald hx hb hK hP (2001 * k1 + (sx - Va (8 * sy + B k1))) (by omega) f_fw (by omega) (by omega) (by decide) dX7_find_130 ?_
                        refine n_iconst hx hb dX7_find_131 ?_
                        refine n_iadd hx hb dX7_find_132 ?_
                        refine lv_goto (tgt := 138) hx hb dX7_find_133 (by decide) ?_
                        refine lv_istore (lv' := [(7, .int (iI (Fw (2001 * k1 + (sx - Va (8 * sy + B k1))) + 1))), (0, .ref (ad y)), (1, .int (iI ((sy : Nat) : Int))), (2, .int (iI ((sm : Nat) : Int))), (3, .int (iI ((Co sy : Nat) : Int))), (4, .int (iI ((k1 : Nat) : Int))), (5, .int (iI ((Va (8 * sy + B k1) : Nat) : Int))), (6, .int (iI ((sx : Nat) : Int)))]) hx hb dX7_find_138 hl (by decide) rfl (fun ls hl => ?_)
                        refine lv_aload_n hx hb dX7_find_140 rfl (lv_at hl 1 rfl) ?_
                        refine n_get hx hb hts u_X7 hown hK hP (by omega) f_y rfl 22 (by decide) (nT_m wf_X7_74) rfl dX7_find_141 ?_
                        refine lv_aload_n hx hb dX7_find_144 rfl (lv_at hl 1 rfl) ?_
                        refine n_get hx hb hts u_X7 hown hK hP (by omega) f_y rfl 19 (by decide) (nT_m wf_X7_65) rfl dX7_find_145 ?_
                        refine lv_iload hx hb dX7_find_148 (lv_at hl 5 rfl) ?_
                        refine n_iald hx hb hK hP k1 (by omega) f_by (by omega) (by omega) (by decide) dX7_find_150 ?_
                        refine n_iald hx hb hK hP (B k1) (by omega) f_bd (by omega) (by omega) (by decide) dX7_find_151 ?_
                        have ho50 := hbd (B k1) (by omega)
                        refine n_sipush hx hb dX7_find_152 (by decide) ?_
                        refine n_icmp_ne (tgt := 162) hx hb dX7_find_155 (by decide) (by omega) (by omega) (fun hc155 => ?_) (fun hc155 => ?_)
                        · skip
                          exact absurd hc155 (by omega)
                        · skip
                          refine n_iconst hx hb dX7_find_158 ?_
                          refine lv_goto (tgt := 174) hx hb dX7_find_159 (by decide) ?_
                          refine lv_istore (lv' := [(8, .int (iI 0)), (7, .int (iI (Fw (2001 * k1 + (sx - Va (8 * sy + B k1))) + 1))), (0, .ref (ad y)), (1, .int (iI ((sy : Nat) : Int))), (2, .int (iI ((sm : Nat) : Int))), (3, .int (iI ((Co sy : Nat) : Int))), (4, .int (iI ((k1 : Nat) : Int))), (5, .int (iI ((Va (8 * sy + B k1) : Nat) : Int))), (6, .int (iI ((sx : Nat) : Int)))]) hx hb dX7_find_174 hl (by decide) rfl (fun ls hl => ?_)
                          refine n_iconst hx hb dX7_find_176 ?_
                          refine lv_istore (lv' := [(9, .int (iI 0)), (8, .int (iI 0)), (7, .int (iI (Fw (2001 * k1 + (sx - Va (8 * sy + B k1))) + 1))), (0, .ref (ad y)), (1, .int (iI ((sy : Nat) : Int))), (2, .int (iI ((sm : Nat) : Int))), (3, .int (iI ((Co sy : Nat) : Int))), (4, .int (iI ((k1 : Nat) : Int))), (5, .int (iI ((Va (8 * sy + B k1) : Nat) : Int))), (6, .int (iI ((sx : Nat) : Int)))]) hx hb dX7_find_177 hl (by decide) rfl (fun ls hl => ?_)
                          have lp51 : ∀ (fu : Nat), ∀ (j : Nat) (b0 : Int) (mo : Nat), ∀ (w52 : Nat → va_E) (H : Heap) (locs : List Loc), ∀ (ls : Array Slot), mo + 1 - j < fu → j ≤ mo + 1 → (∀ i, i < j → i * (Va (8 * sy + B k1)) ≤ sx) → 0 ≤ b0 ∧ b0 ≤ 1000001 → mo ≤ 2000 → (∀ c, c ≤ mo + 1 → (∀ i, i < c → i * (Va (8 * sy + B k1)) ≤ sx) → (mo < c ∨ sx < c * (Va (8 * sy + B k1))) → isMm (fun x => Fw (2001 * (k1 + 1) + x)) (Va (8 * sy + B k1)) (bd (B k1)) sx (bsF (fun x => Fw (2001 * (k1 + 1) + x)) (Va (8 * sy + B k1)) sx b0 c)) → (∀ j, j ≠ (y + 19) → j ≠ (y + 20) → j ≠ (y + 21) → w52 j = w j) → w52 y = .inr (7, [.int (iI 0), .ref (ad (y + 1)), .ref (ad (y + 2)), .ref (ad (y + 3)), .ref (ad (y + 4)), .ref (ad (y + 5)), .ref (ad (y + 6)), .ref (ad (y + 7)), .ref (ad (y + 8)), .ref (ad (y + 9)), .ref (ad (y + 10)), .ref (ad (y + 11)), .ref (ad (y + 12)), .ref (ad (y + 13)), .ref (ad (y + 14)), .ref (ad (y + 15)), .ref (ad (y + 16)), .ref (ad (y + 17)), .ref (ad (y + 18)), .ref (ad (y + 19)), .ref (ad (y + 20)), .ref (ad (y + 21)), .ref (ad (y + 22)), .ref (ad (y + 23)), .ref (ad (y + 24)), .ref (ad (y + 25)), .ref (ad (y + 26))]) → w52 (y + 1) = aI G 8 (fun q => (Co q : Int)) → w52 (y + 2) = aI G 64 (fun q => (Va q : Int)) → w52 (y + 19) = aI G 8 (fun q => (B q : Int)) → w52 (y + 20) = aI G 18009 Fw → w52 (y + 21) = aI G 8 (fun q => (tk0 q : Int)) → w52 (y + 22) = aI G 8 (fun q => (bd q : Int)) → va_P G.1 vwCl (nL N ad w52) H → va_S (nA N ad s.heap.size) s.heap H locs → lv_has ls 11 [(0, .ref (ad y)), (1, .int (iI ((sy : Nat) : Int))), (2, .int (iI ((sm : Nat) : Int))), (3, .int (iI ((Co sy : Nat) : Int))), (4, .int (iI ((k1 : Nat) : Int))), (5, .int (iI ((Va (8 * sy + B k1) : Nat) : Int))), (6, .int (iI ((sx : Nat) : Int))), (7, .int (iI (bsF (fun x => Fw (2001 * (k1 + 1) + x)) (Va (8 * sy + B k1)) sx b0 j))), (8, .int (iI ((mo : Nat) : Int))), (9, .int (iI ((j : Nat) : Int)))] → W p l e ({ frames := 1, cells := 0, slots := 0, locals := 23 } : Room) s m ([.ref (ad y), .int (iI ((sy : Nat) : Int)), .int (iI ((sm : Nat) : Int))] : List Value).toArray below meth cd H locs 0 0 Q (F0 m 179 ls []) := by
                            intro fu
                            induction fu with
                            | zero =>
                              intro j b0 mo w52 H locs ls hfu hj hjv hb0 hmo hgo hfr f_y f_Co f_Va f_by f_fw f_tk f_bd hP hS hl
                              exact absurd hfu (Nat.not_lt_zero _)
                            | succ fu ih53 =>
                              intro j b0 mo w52 H locs ls hfu hj hjv hb0 hmo hgo hfr f_y f_Co f_Va f_by f_fw f_tk f_bd hP hS hl
                              have hbr := bsF_rng (A := (fun x => Fw (2001 * (k1 + 1) + x))) (v := Va (8 * sy + B k1)) (s := sx) (b0 := b0) hb0 (c := j) (fun x hx => by have h9 := hF.2.2 (k1 + 1) (by omega) (by omega) x (by omega); show 0 ≤ Fw (2001 * (k1 + 1) + x); omega)
                              have hjm : j * (Va (8 * sy + B k1)) ≤ 2001 * 1000 := Nat.mul_le_mul (by omega) (by omega)
                              refine lv_iload hx hb dX7_find_179 (lv_at hl 9 rfl) ?_
                              refine lv_iload hx hb dX7_find_181 (lv_at hl 8 rfl) ?_
                              refine n_icmp_gt (tgt := 245) hx hb dX7_find_183 (by decide) (by omega) (by omega) (fun hc183 => ?_) (fun hc183 => ?_)
                              · skip
                                refine lv_aload_n hx hb dX7_find_245 rfl (lv_at hl 0 rfl) ?_
                                refine n_get hx hb hts u_X7 hown hK hP (by omega) f_y rfl 20 (by decide) (nT_m wf_X7_68) rfl dX7_find_246 ?_
                                refine n_sipush hx hb dX7_find_249 (by decide) ?_
                                refine lv_iload hx hb dX7_find_252 (lv_at hl 4 rfl) ?_
                                refine n_imul hx hb dX7_find_254 ?_
                                refine lv_iload hx hb dX7_find_255 (lv_at hl 6 rfl) ?_
                                refine n_iadd hx hb dX7_find_257 ?_
                                refine lv_iload hx hb dX7_find_258 (lv_at hl 7 rfl) ?_
                                refine n_iast hx hb hK hJ hP hS ((2001 * k1) + sx) (by omega) f_fw (by omega) (by omega) (by decide) dX7_find_260 (fun w54 H locs f_fw hne55 hP hS => ?_)
                                have f_y := (hne55 y (by omega)).trans f_y
                                have f_Co := (hne55 (y + 1) (by omega)).trans f_Co
                                have f_Va := (hne55 (y + 2) (by omega)).trans f_Va
                                have f_by := (hne55 (y + 19) (by omega)).trans f_by
                                have f_tk := (hne55 (y + 21) (by omega)).trans f_tk
                                have f_bd := (hne55 (y + 22) (by omega)).trans f_bd
                                have hfr : ∀ j, j ≠ (y + 19) → j ≠ (y + 20) → j ≠ (y + 21) → w54 j = w j := fun j a0 a1 a2 => (hne55 j (by omega)).trans (hfr j a0 a1 a2)
                                refine lv_iinc (v := iI (((sx : Nat) : Int) + 1)) (lv' := [(6, .int (iI (((sx : Nat) : Int) + 1))), (0, .ref (ad y)), (1, .int (iI ((sy : Nat) : Int))), (2, .int (iI ((sm : Nat) : Int))), (3, .int (iI ((Co sy : Nat) : Int))), (4, .int (iI ((k1 : Nat) : Int))), (5, .int (iI ((Va (8 * sy + B k1) : Nat) : Int))), (7, .int (iI (bsF (fun x => Fw (2001 * (k1 + 1) + x)) (Va (8 * sy + B k1)) sx b0 j))), (8, .int (iI ((mo : Nat) : Int))), (9, .int (iI ((j : Nat) : Int)))]) hx hb dX7_find_261 hl (k := 6) rfl (by first | exact iI_add _ _ | exact (iI_add _ _).trans (congrArg iI (by omega))) (by decide) rfl (fun ls hl => ?_)
                                refine lv_goto (tgt := 83) hx hb dX7_find_264 (by decide) ?_
                                have hmm := hgo j hj hjv (by omega)
                                have hmr := mm_rng (by omega) (fun x hx => hF.2.2 (k1 + 1) (by omega) (by omega) x (by omega)) hmm
                                exact ih31 k1 (sx + 1) (va_up Fw (2001 * k1 + sx) (bsF (fun x => Fw (2001 * (k1 + 1) + x)) (Va (8 * sy + B k1)) sx b0 j)) _ _ _ _ (by omega) (by omega) (by omega) (fOK_up (by omega) (by omega) hF) (fOK_row (by omega) hrw ⟨hmm, hmr⟩) hfr f_y f_Co f_Va f_by f_fw f_tk f_bd hP hS (by first | exact lv_sub hl [1, 2, 3, 4, 5, 6, 0] rfl | exact lv_cast (lv_sub (l' := [(0, .ref (ad y)), (1, .int (iI ((sy : Nat) : Int))), (2, .int (iI ((sm : Nat) : Int))), (3, .int (iI ((Co sy : Nat) : Int))), (4, .int (iI ((k1 : Nat) : Int))), (5, .int (iI ((Va (8 * sy + B k1) : Nat) : Int))), (6, .int (iI (((sx : Nat) : Int) + 1)))]) hl [1, 2, 3, 4, 5, 6, 0] rfl) (lc_s (lc_s (lc_s (lc_s (lc_s (lc_s (lc_i (show ((((sx : Nat) : Int) + 1) : Int) = (((sx + 1) : Nat) : Int) by omega) rfl))))))))
                              · skip
                                refine lv_iload hx hb dX7_find_186 (lv_at hl 9 rfl) ?_
                                refine lv_iload hx hb dX7_find_188 (lv_at hl 5 rfl) ?_
                                refine n_imul hx hb dX7_find_190 ?_
                                refine lv_iload hx hb dX7_find_191 (lv_at hl 6 rfl) ?_
                                refine n_icmp_gt (tgt := 245) hx hb dX7_find_193 (by decide) (by omega) (by omega) (fun hc193 => ?_) (fun hc193 => ?_)
                                · skip
                                  refine lv_aload_n hx hb dX7_find_245 rfl (lv_at hl 0 rfl) ?_
                                  refine n_get hx hb hts u_X7 hown hK hP (by omega) f_y rfl 20 (by decide) (nT_m wf_X7_68) rfl dX7_find_246 ?_
                                  refine n_sipush hx hb dX7_find_249 (by decide) ?_
                                  refine lv_iload hx hb dX7_find_252 (lv_at hl 4 rfl) ?_
                                  refine n_imul hx hb dX7_find_254 ?_
                                  refine lv_iload hx hb dX7_find_255 (lv_at hl 6 rfl) ?_
                                  refine n_iadd hx hb dX7_find_257 ?_
                                  refine lv_iload hx hb dX7_find_258 (lv_at hl 7 rfl) ?_
                                  refine n_iast hx hb hK hJ hP hS ((2001 * k1) + sx) (by omega) f_fw (by omega) (by omega) (by decide) dX7_find_260 (fun w56 H locs f_fw hne57 hP hS => ?_)
                                  have f_y := (hne57 y (by omega)).trans f_y
                                  have f_Co := (hne57 (y + 1) (by omega)).trans f_Co
                                  have f_Va := (hne57 (y + 2) (by omega)).trans f_Va
                                  have f_by := (hne57 (y + 19) (by omega)).trans f_by
                                  have f_tk := (hne57 (y + 21) (by omega)).trans f_tk
                                  have f_bd := (hne57 (y + 22) (by omega)).trans f_bd
                                  have hfr : ∀ j, j ≠ (y + 19) → j ≠ (y + 20) → j ≠ (y + 21) → w56 j = w j := fun j a0 a1 a2 => (hne57 j (by omega)).trans (hfr j a0 a1 a2)
                                  refine lv_iinc (v := iI (((sx : Nat) : Int) + 1)) (lv' := [(6, .int (iI (((sx : Nat) : Int) + 1))), (0, .ref (ad y)), (1, .int (iI ((sy : Nat) : Int))), (2, .int (iI ((sm : Nat) : Int))), (3, .int (iI ((Co sy : Nat) : Int))), (4, .int (iI ((k1 : Nat) : Int))), (5, .int (iI ((Va (8 * sy + B k1) : Nat) : Int))), (7, .int (iI (bsF (fun x => Fw (2001 * (k1 + 1) + x)) (Va (8 * sy + B k1)) sx b0 j))), (8, .int (iI ((mo : Nat) : Int))), (9, .int (iI ((j : Nat) : Int)))]) hx hb dX7_find_261 hl (k := 6) rfl (by first | exact iI_add _ _ | exact (iI_add _ _).trans (congrArg iI (by omega))) (by decide) rfl (fun ls hl => ?_)
                                  refine lv_goto (tgt := 83) hx hb dX7_find_264 (by decide) ?_
                                  have hmm := hgo j hj hjv (by omega)
                                  have hmr := mm_rng (by omega) (fun x hx => hF.2.2 (k1 + 1) (by omega) (by omega) x (by omega)) hmm
                                  exact ih31 k1 (sx + 1) (va_up Fw (2001 * k1 + sx) (bsF (fun x => Fw (2001 * (k1 + 1) + x)) (Va (8 * sy + B k1)) sx b0 j)) _ _ _ _ (by omega) (by omega) (by omega) (fOK_up (by omega) (by omega) hF) (fOK_row (by omega) hrw ⟨hmm, hmr⟩) hfr f_y f_Co f_Va f_by f_fw f_tk f_bd hP hS (by first | exact lv_sub hl [1, 2, 3, 4, 5, 6, 0] rfl | exact lv_cast (lv_sub (l' := [(0, .ref (ad y)), (1, .int (iI ((sy : Nat) : Int))), (2, .int (iI ((sm : Nat) : Int))), (3, .int (iI ((Co sy : Nat) : Int))), (4, .int (iI ((k1 : Nat) : Int))), (5, .int (iI ((Va (8 * sy + B k1) : Nat) : Int))), (6, .int (iI (((sx : Nat) : Int) + 1)))]) hl [1, 2, 3, 4, 5, 6, 0] rfl) (lc_s (lc_s (lc_s (lc_s (lc_s (lc_s (lc_i (show ((((sx : Nat) : Int) + 1) : Int) = (((sx + 1) : Nat) : Int) by omega) rfl))))))))
                                · skip
                                  refine lv_iload hx hb dX7_find_196 (lv_at hl 9 rfl) ?_
                                  refine lv_aload_n hx hb dX7_find_198 rfl (lv_at hl 0 rfl) ?_
                                  refine n_get hx hb hts u_X7 hown hK hP (by omega) f_y rfl 20 (by decide) (nT_m wf_X7_68) rfl dX7_find_199 ?_
                                  refine n_sipush hx hb dX7_find_202 (by decide) ?_
                                  refine lv_iload hx hb dX7_find_205 (lv_at hl 4 rfl) ?_
                                  refine n_iconst hx hb dX7_find_207 ?_
                                  refine n_iadd hx hb dX7_find_208 ?_
                                  refine n_imul hx hb dX7_find_209 ?_
                                  refine lv_iload hx hb dX7_find_210 (lv_at hl 6 rfl) ?_
                                  refine n_iadd hx hb dX7_find_212 ?_
                                  refine lv_iload hx hb dX7_find_213 (lv_at hl 9 rfl) ?_
                                  refine lv_iload hx hb dX7_find_215 (lv_at hl 5 rfl) ?_
                                  refine n_imul hx hb dX7_find_217 ?_
                                  refine n_isub hx hb dX7_find_218 ?_
                                  have hA9 := hF.2.2 (k1 + 1) (by omega) (by omega) (sx - j * Va (8 * sy + B k1)) (by omega)
                                  refine n_iald hx hb hK hP (2001 * (k1 + 1) + (sx - j * Va (8 * sy + B k1))) (by omega) f_fw (by omega) (by omega) (by decide) dX7_find_219 ?_
                                  refine n_iadd hx hb dX7_find_220 ?_
                                  refine lv_istore (lv' := [(10, .int (iI (((j : Nat) : Int) + Fw (2001 * (k1 + 1) + (sx - j * Va (8 * sy + B k1)))))), (0, .ref (ad y)), (1, .int (iI ((sy : Nat) : Int))), (2, .int (iI ((sm : Nat) : Int))), (3, .int (iI ((Co sy : Nat) : Int))), (4, .int (iI ((k1 : Nat) : Int))), (5, .int (iI ((Va (8 * sy + B k1) : Nat) : Int))), (6, .int (iI ((sx : Nat) : Int))), (7, .int (iI (bsF (fun x => Fw (2001 * (k1 + 1) + x)) (Va (8 * sy + B k1)) sx b0 j))), (8, .int (iI ((mo : Nat) : Int))), (9, .int (iI ((j : Nat) : Int)))]) hx hb dX7_find_221 hl (by decide) rfl (fun ls hl => ?_)
                                  refine lv_iload hx hb dX7_find_223 (lv_at hl 0 rfl) ?_
                                  refine lv_iload hx hb dX7_find_225 (lv_at hl 8 rfl) ?_
                                  refine n_icmp_ge (tgt := 235) hx hb dX7_find_227 (by decide) (by omega) (by omega) (fun hc227 => ?_) (fun hc227 => ?_)
                                  · skip
                                    refine lv_iload hx hb dX7_find_235 (lv_at hl 8 rfl) ?_
                                    refine lv_istore (lv' := [(7, .int (iI (bsF (fun x => Fw (2001 * (k1 + 1) + x)) (Va (8 * sy + B k1)) sx b0 j))), (10, .int (iI (((j : Nat) : Int) + Fw (2001 * (k1 + 1) + (sx - j * Va (8 * sy + B k1)))))), (0, .ref (ad y)), (1, .int (iI ((sy : Nat) : Int))), (2, .int (iI ((sm : Nat) : Int))), (3, .int (iI ((Co sy : Nat) : Int))), (4, .int (iI ((k1 : Nat) : Int))), (5, .int (iI ((Va (8 * sy + B k1) : Nat) : Int))), (6, .int (iI ((sx : Nat) : Int))), (8, .int (iI ((mo : Nat) : Int))), (9, .int (iI ((j : Nat) : Int)))]) hx hb dX7_find_237 hl (by decide) rfl (fun ls hl => ?_)
                                    refine lv_iinc (v := iI (((j : Nat) : Int) + 1)) (lv' := [(9, .int (iI (((j : Nat) : Int) + 1))), (7, .int (iI (bsF (fun x => Fw (2001 * (k1 + 1) + x)) (Va (8 * sy + B k1)) sx b0 j))), (10, .int (iI (((j : Nat) : Int) + Fw (2001 * (k1 + 1) + (sx - j * Va (8 * sy + B k1)))))), (0, .ref (ad y)), (1, .int (iI ((sy : Nat) : Int))), (2, .int (iI ((sm : Nat) : Int))), (3, .int (iI ((Co sy : Nat) : Int))), (4, .int (iI ((k1 : Nat) : Int))), (5, .int (iI ((Va (8 * sy + B k1) : Nat) : Int))), (6, .int (iI ((sx : Nat) : Int))), (8, .int (iI ((mo : Nat) : Int)))]) hx hb dX7_find_239 hl (k := 10) rfl (by first | exact iI_add _ _ | exact (iI_add _ _).trans (congrArg iI (by omega))) (by decide) rfl (fun ls hl => ?_)
                                    refine lv_goto (tgt := 179) hx hb dX7_find_242 (by decide) ?_
                                    exact ih53 (j + 1) b0 mo _ _ _ _ (by omega) (by omega) (fun i h9 => (Decidable.em (i = j)).elim (fun e9 => by rw [e9]; omega) (fun e9 => hjv i (by omega))) (by omega) (by omega) hgo hfr f_y f_Co f_Va f_by f_fw f_tk f_bd hP hS (by first | exact lv_sub hl [3, 4, 5, 6, 7, 8, 9, 1, 10, 0] rfl | exact lv_cast (lv_sub (l' := [(0, .ref (ad y)), (1, .int (iI ((sy : Nat) : Int))), (2, .int (iI ((sm : Nat) : Int))), (3, .int (iI ((Co sy : Nat) : Int))), (4, .int (iI ((k1 : Nat) : Int))), (5, .int (iI ((Va (8 * sy + B k1) : Nat) : Int))), (6, .int (iI ((sx : Nat) : Int))), (7, .int (iI (bsF (fun x => Fw (2001 * (k1 + 1) + x)) (Va (8 * sy + B k1)) sx b0 j))), (8, .int (iI ((mo : Nat) : Int))), (9, .int (iI (((j : Nat) : Int) + 1)))]) hl [3, 4, 5, 6, 7, 8, 9, 1, 10, 0] rfl) (lc_s (lc_s (lc_s (lc_s (lc_s (lc_s (lc_s (lc_i (show (bsF (fun x => Fw (2001 * (k1 + 1) + x)) (Va (8 * sy + B k1)) sx b0 j : Int) = bsF (fun x => Fw (2001 * (k1 + 1) + x)) (Va (8 * sy + B k1)) sx b0 (j + 1) by exact (bsF_n (A := (fun x => Fw (2001 * (k1 + 1) + x))) (v := Va (8 * sy + B k1)) (s := sx) (b0 := b0) (j := j) (by show ¬ Fw (2001 * (k1 + 1) + (sx - j * Va (8 * sy + B k1))) + (j : Int) < _; omega)).symm) (lc_s (lc_i (show ((((j : Nat) : Int) + 1) : Int) = (((j + 1) : Nat) : Int) by omega) rfl)))))))))))
                                  · skip
                                    refine lv_iload hx hb dX7_find_230 (lv_at hl 0 rfl) ?_
                                    refine lv_goto (tgt := 237) hx hb dX7_find_232 (by decide) ?_
                                    refine lv_istore (lv' := [(7, .int (iI (((j : Nat) : Int) + Fw (2001 * (k1 + 1) + (sx - j * Va (8 * sy + B k1)))))), (10, .int (iI (((j : Nat) : Int) + Fw (2001 * (k1 + 1) + (sx - j * Va (8 * sy + B k1)))))), (0, .ref (ad y)), (1, .int (iI ((sy : Nat) : Int))), (2, .int (iI ((sm : Nat) : Int))), (3, .int (iI ((Co sy : Nat) : Int))), (4, .int (iI ((k1 : Nat) : Int))), (5, .int (iI ((Va (8 * sy + B k1) : Nat) : Int))), (6, .int (iI ((sx : Nat) : Int))), (8, .int (iI ((mo : Nat) : Int))), (9, .int (iI ((j : Nat) : Int)))]) hx hb dX7_find_237 hl (by decide) rfl (fun ls hl => ?_)
                                    refine lv_iinc (v := iI (((j : Nat) : Int) + 1)) (lv' := [(9, .int (iI (((j : Nat) : Int) + 1))), (7, .int (iI (((j : Nat) : Int) + Fw (2001 * (k1 + 1) + (sx - j * Va (8 * sy + B k1)))))), (10, .int (iI (((j : Nat) : Int) + Fw (2001 * (k1 + 1) + (sx - j * Va (8 * sy + B k1)))))), (0, .ref (ad y)), (1, .int (iI ((sy : Nat) : Int))), (2, .int (iI ((sm : Nat) : Int))), (3, .int (iI ((Co sy : Nat) : Int))), (4, .int (iI ((k1 : Nat) : Int))), (5, .int (iI ((Va (8 * sy + B k1) : Nat) : Int))), (6, .int (iI ((sx : Nat) : Int))), (8, .int (iI ((mo : Nat) : Int)))]) hx hb dX7_find_239 hl (k := 10) rfl (by first | exact iI_add _ _ | exact (iI_add _ _).trans (congrArg iI (by omega))) (by decide) rfl (fun ls hl => ?_)
                                    refine lv_goto (tgt := 179) hx hb dX7_find_242 (by decide) ?_
                                    exact ih53 (j + 1) b0 mo _ _ _ _ (by omega) (by omega) (fun i h9 => (Decidable.em (i = j)).elim (fun e9 => by rw [e9]; omega) (fun e9 => hjv i (by omega))) (by omega) (by omega) hgo hfr f_y f_Co f_Va f_by f_fw f_tk f_bd hP hS (by first | exact lv_sub hl [3, 4, 5, 6, 7, 8, 9, 1, 10, 0] rfl | exact lv_cast (lv_sub (l' := [(0, .ref (ad y)), (1, .int (iI ((sy : Nat) : Int))), (2, .int (iI ((sm : Nat) : Int))), (3, .int (iI ((Co sy : Nat) : Int))), (4, .int (iI ((k1 : Nat) : Int))), (5, .int (iI ((Va (8 * sy + B k1) : Nat) : Int))), (6, .int (iI ((sx : Nat) : Int))), (7, .int (iI (((j : Nat) : Int) + Fw (2001 * (k1 + 1) + (sx - j * Va (8 * sy + B k1)))))), (8, .int (iI ((mo : Nat) : Int))), (9, .int (iI (((j : Nat) : Int) + 1)))]) hl [3, 4, 5, 6, 7, 8, 9, 1, 10, 0] rfl) (lc_s (lc_s (lc_s (lc_s (lc_s (lc_s (lc_s (lc_i (show ((((j : Nat) : Int) + Fw (2001 * (k1 + 1) + (sx - j * Va (8 * sy + B k1)))) : Int) = bsF (fun x => Fw (2001 * (k1 + 1) + x)) (Va (8 * sy + B k1)) sx b0 (j + 1) by exact (Int.add_comm _ _).trans (bsF_y (A := (fun x => Fw (2001 * (k1 + 1) + x))) (v := Va (8 * sy + B k1)) (s := sx) (b0 := b0) (j := j) (by show Fw (2001 * (k1 + 1) + (sx - j * Va (8 * sy + B k1))) + (j : Int) < _; omega)).symm) (lc_s (lc_i (show ((((j : Nat) : Int) + 1) : Int) = (((j + 1) : Nat) : Int) by omega) rfl)))))))))))
                          have hbq : bd (B k1) = 2000 := by omega
                          have hr9 := hrw (sx - Va (8 * sy + B k1)) (by omega)
                          have hA0 := hF.2.2 (k1 + 1) (by omega) (by omega) sx (by omega)
                          exact lp51 (0 + 1 - 0 + 1) 0 (Fw (2001 * k1 + (sx - Va (8 * sy + B k1))) + 1) 0 _ _ _ _ (Nat.lt_succ_self _) (by omega) (fun i h9 => absurd h9 (Nat.not_lt_zero _)) (by omega) (by omega) (fun c h1 h2 h3 => by obtain rfl : c = 1 := c_one h1 h3; rw [hbq]; rw [hbq] at hr9; exact mm_u (R := Fw (2001 * k1 + (sx - Va (8 * sy + B k1)))) (by omega) (by omega) (by show Fw (2001 * (k1 + 1) + sx) ≤ 1000000; omega) (Or.inr ⟨by omega, rfl, hr9.1⟩)) hfr f_y f_Co f_Va f_by f_fw f_tk f_bd hP hS (by first | exact lv_sub hl [3, 4, 5, 6, 7, 8, 9, 2, 1, 0] rfl | exact lv_cast (lv_sub (l' := [(0, .ref (ad y)), (1, .int (iI ((sy : Nat) : Int))), (2, .int (iI ((sm : Nat) : Int))), (3, .int (iI ((Co sy : Nat) : Int))), (4, .int (iI ((k1 : Nat) : Int))), (5, .int (iI ((Va (8 * sy + B k1) : Nat) : Int))), (6, .int (iI ((sx : Nat) : Int))), (7, .int (iI (Fw (2001 * k1 + (sx - Va (8 * sy + B k1))) + 1))), (8, .int (iI 0)), (9, .int (iI 0))]) hl [3, 4, 5, 6, 7, 8, 9, 2, 1, 0] rfl) (lc_s (lc_s (lc_s (lc_s (lc_s (lc_s (lc_s (lc_i (show ((Fw (2001 * k1 + (sx - Va (8 * sy + B k1))) + 1) : Int) = bsF (fun x => Fw (2001 * (k1 + 1) + x)) (Va (8 * sy + B k1)) sx (Fw (2001 * k1 + (sx - Va (8 * sy + B k1))) + 1) 0 by rfl) (lc_i (show (0 : Int) = ((0 : Nat) : Int) by omega) (lc_i (show (0 : Int) = ((0 : Nat) : Int) by omega) rfl)))))))))))
              exact lp29 (sm + 1 - 0 + 1) (kq - 1) 0 Fw _ _ _ _ (Nat.lt_succ_self _) (by omega) (by omega) (by rw [show kq - 1 + 1 = kq by omega]; exact hF) (fun j h9 => absurd h9 (Nat.not_lt_zero _)) hfr f_y f_Co f_Va f_by f_fw f_tk f_bd hP hS (by first | exact lv_sub hl [2, 3, 4, 5, 6, 1, 0] rfl | exact lv_cast (lv_sub (l' := [(0, .ref (ad y)), (1, .int (iI ((sy : Nat) : Int))), (2, .int (iI ((sm : Nat) : Int))), (3, .int (iI ((Co sy : Nat) : Int))), (4, .int (iI (((kq : Nat) : Int) - 1))), (5, .int (iI (Va ((8 * sy) + (B (kq - 1))) : Int))), (6, .int (iI 0))]) hl [2, 3, 4, 5, 6, 1, 0] rfl) (lc_s (lc_s (lc_s (lc_s (lc_i (show ((((kq : Nat) : Int) - 1) : Int) = (((kq - 1) : Nat) : Int) by omega) (lc_i (show ((Va ((8 * sy) + (B (kq - 1))) : Int) : Int) = ((Va (8 * sy + B (kq - 1)) : Nat) : Int) by omega) (lc_i (show (0 : Int) = ((0 : Nat) : Int) by omega) rfl))))))))
        exact lp9 ((Co sy) + 1) (Co sy) Fw _ _ _ _ (Nat.lt_succ_self _) (by omega) (fOK_0 (fun s1 h9 => hrw s1 (by omega))) hfr f_y f_Co f_Va f_by f_fw f_tk f_bd hP hS (by first | exact lv_sub hl [1, 2, 3, 4, 0] rfl | exact lv_cast (lv_sub (l' := [(0, .ref (ad y)), (1, .int (iI ((sy : Nat) : Int))), (2, .int (iI ((sm : Nat) : Int))), (3, .int (iI ((Co sy : Nat) : Int))), (4, .int (iI (((Co sy : Nat) : Int) - 1)))]) hl [1, 2, 3, 4, 0] rfl) (lc_s (lc_s (lc_s (lc_s (lc_i (show ((((Co sy : Nat) : Int) - 1) : Int) = ((((Co sy) : Nat) : Int) - 1) by omega) rfl))))))
      · skip
        refine lv_aload_n hx hb dX7_find_21 rfl (lv_at hl 0 rfl) ?_
        refine n_get hx hb hts u_X7 hown hK hP (by omega) f_y rfl 20 (by decide) (nT_m wf_X7_68) rfl dX7_find_22 ?_
        refine n_sipush hx hb dX7_find_25 (by decide) ?_
        refine lv_iload_n hx hb dX7_find_28 rfl (lv_at hl 3 rfl) ?_
        refine n_imul hx hb dX7_find_29 ?_
        refine lv_iload hx hb dX7_find_30 (lv_at hl 4 rfl) ?_
        refine n_iadd hx hb dX7_find_32 ?_
        refine lv_iload hx hb dX7_find_33 (lv_at hl 4 rfl) ?_
        refine n_if_ne (tgt := 42) hx hb dX7_find_35 (by decide) (by omega) (fun hc35 => ?_) (fun hc35 => ?_)
        · skip
          refine lv_ldc (v := iI (1000000)) hx hb hown (hts _ (nT_m wk_X7_120)) dX7_find_42 ?_
          refine n_iast hx hb hK hJ hP hS ((2001 * Co sy) + sx) (by omega) f_fw (by omega) (by omega) (by decide) dX7_find_44 (fun w58 H locs f_fw hne59 hP hS => ?_)
          have f_y := (hne59 y (by omega)).trans f_y
          have f_Co := (hne59 (y + 1) (by omega)).trans f_Co
          have f_Va := (hne59 (y + 2) (by omega)).trans f_Va
          have f_by := (hne59 (y + 19) (by omega)).trans f_by
          have f_tk := (hne59 (y + 21) (by omega)).trans f_tk
          have f_bd := (hne59 (y + 22) (by omega)).trans f_bd
          have hfr : ∀ j, j ≠ (y + 19) → j ≠ (y + 20) → j ≠ (y + 21) → w58 j = w j := fun j a0 a1 a2 => (hne59 j (by omega)).trans (hfr j a0 a1 a2)
          refine lv_iinc (v := iI (((sx : Nat) : Int) + 1)) (lv' := [(4, .int (iI (((sx : Nat) : Int) + 1))), (0, .ref (ad y)), (1, .int (iI ((sy : Nat) : Int))), (2, .int (iI ((sm : Nat) : Int))), (3, .int (iI ((Co sy : Nat) : Int)))]) hx hb dX7_find_45 hl (k := 4) rfl (by first | exact iI_add _ _ | exact (iI_add _ _).trans (congrArg iI (by omega))) (by decide) rfl (fun ls hl => ?_)
          refine lv_goto (tgt := 15) hx hb dX7_find_48 (by decide) ?_
          exact ih8 (sx + 1) (va_up Fw (2001 * Co sy + sx) 1000000) _ _ _ _ (by omega) (by omega) (fun j h9 => (Decidable.em (j = sx)).elim (fun e9 => by rw [e9, va_up_self, if_neg (by omega)]) (fun e9 => by rw [va_up_ne _ _ (by omega)]; exact hrw j (by omega))) hfr f_y f_Co f_Va f_by f_fw f_tk f_bd hP hS (by first | exact lv_sub hl [1, 2, 3, 4, 0] rfl | exact lv_cast (lv_sub (l' := [(0, .ref (ad y)), (1, .int (iI ((sy : Nat) : Int))), (2, .int (iI ((sm : Nat) : Int))), (3, .int (iI ((Co sy : Nat) : Int))), (4, .int (iI (((sx : Nat) : Int) + 1)))]) hl [1, 2, 3, 4, 0] rfl) (lc_s (lc_s (lc_s (lc_s (lc_i (show ((((sx : Nat) : Int) + 1) : Int) = (((sx + 1) : Nat) : Int) by omega) rfl))))))
        · skip
          refine n_iconst hx hb dX7_find_38 ?_
          refine lv_goto (tgt := 44) hx hb dX7_find_39 (by decide) ?_
          refine n_iast hx hb hK hJ hP hS ((2001 * Co sy) + sx) (by omega) f_fw (by omega) (by omega) (by decide) dX7_find_44 (fun w60 H locs f_fw hne61 hP hS => ?_)
          have f_y := (hne61 y (by omega)).trans f_y
          have f_Co := (hne61 (y + 1) (by omega)).trans f_Co
          have f_Va := (hne61 (y + 2) (by omega)).trans f_Va
          have f_by := (hne61 (y + 19) (by omega)).trans f_by
          have f_tk := (hne61 (y + 21) (by omega)).trans f_tk
          have f_bd := (hne61 (y + 22) (by omega)).trans f_bd
          have hfr : ∀ j, j ≠ (y + 19) → j ≠ (y + 20) → j ≠ (y + 21) → w60 j = w j := fun j a0 a1 a2 => (hne61 j (by omega)).trans (hfr j a0 a1 a2)
          refine lv_iinc (v := iI (((sx : Nat) : Int) + 1)) (lv' := [(4, .int (iI (((sx : Nat) : Int) + 1))), (0, .ref (ad y)), (1, .int (iI ((sy : Nat) : Int))), (2, .int (iI ((sm : Nat) : Int))), (3, .int (iI ((Co sy : Nat) : Int)))]) hx hb dX7_find_45 hl (k := 4) rfl (by first | exact iI_add _ _ | exact (iI_add _ _).trans (congrArg iI (by omega))) (by decide) rfl (fun ls hl => ?_)
          refine lv_goto (tgt := 15) hx hb dX7_find_48 (by decide) ?_
          exact ih8 (sx + 1) (va_up Fw (2001 * Co sy + sx) 0) _ _ _ _ (by omega) (by omega) (fun j h9 => (Decidable.em (j = sx)).elim (fun e9 => by rw [e9, va_up_self, if_pos (by omega)]) (fun e9 => by rw [va_up_ne _ _ (by omega)]; exact hrw j (by omega))) hfr f_y f_Co f_Va f_by f_fw f_tk f_bd hP hS (by first | exact lv_sub hl [1, 2, 3, 4, 0] rfl | exact lv_cast (lv_sub (l' := [(0, .ref (ad y)), (1, .int (iI ((sy : Nat) : Int))), (2, .int (iI ((sm : Nat) : Int))), (3, .int (iI ((Co sy : Nat) : Int))), (4, .int (iI (((sx : Nat) : Int) + 1)))]) hl [1, 2, 3, 4, 0] rfl) (lc_s (lc_s (lc_s (lc_s (lc_i (show ((((sx : Nat) : Int) + 1) : Int) = (((sx + 1) : Nat) : Int) by omega) rfl))))))
  exact lp6 (sm + 1 - 0 + 1) 0 Fw0 _ _ _ _ (Nat.lt_succ_self _) (by omega) (fun j h9 => absurd h9 (Nat.not_lt_zero _)) hfr f_y f_Co f_Va f_by f_fw f_tk f_bd hP hS (by first | exact lv_sub hl [2, 3, 4, 1, 0] rfl | exact lv_cast (lv_sub (l' := [(0, .ref (ad y)), (1, .int (iI ((sy : Nat) : Int))), (2, .int (iI ((sm : Nat) : Int))), (3, .int (iI (Co sy : Int))), (4, .int (iI 0))]) hl [2, 3, 4, 1, 0] rfl) (lc_s (lc_s (lc_s (lc_i (show ((Co sy : Int) : Int) = ((Co sy : Nat) : Int) by omega) (lc_i (show (0 : Int) = ((0 : Nat) : Int) by omega) rfl))))))
