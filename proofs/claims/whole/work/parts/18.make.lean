set_option maxHeartbeats 4000000 in
set_option maxRecDepth 100000 in
theorem c_X0_make {l : Launch} {G : nG} {N : Nat} {ad : Nat → Nat} {w : Nat → va_E} {sz : Nat} (i ic rl cnt sm : Nat) (val fal lim : Nat → Nat) (tb : Nat → Nat → Int) (R0 P0 C0 : Nat → Int) (hN : i + 13 < N) (hic : ic + 3 < N ∧ (ic + 3 < i ∨ i + 13 < ic)) (hrl : rl < N ∧ (rl < i ∨ i + 13 < rl)) (hc : cnt ≤ 8) (hval : ∀ k, val k ≤ 1000) (hval1 : ∀ k, k < cnt → 1 ≤ val k) (hfal : ∀ k, k < cnt → fal k < cnt) (hlim : ∀ k, lim k ≤ 2000) (hsm : sm ≤ 2000) (f_m : w i = .inr (0, [.ref (ad (i + 1)), .ref (ad (i + 2)), .ref (ad (i + 12)), .ref (ad (i + 13))])) (f_g : w (i + 2) = aR G 5 9 (fun k => some (ad (i + 3 + k)))) (f_row : w (i + 1) = aI G 8 R0) (f_rows : ∀ k, k < 9 → w (i + 3 + k) = aI G 2001 (tb k)) (f_pl : w (i + 12) = aI G 2001 P0) (f_co : w (i + 13) = aI G 2001 C0) (f_o : w ic = .inr (1, [.int (iI ((cnt : Nat) : Int)), .ref (ad (ic + 1)), .ref (ad (ic + 2)), .ref (ad (ic + 3))])) (f_v : w (ic + 1) = aI G 8 (fun q => (val q : Int))) (f_f : w (ic + 2) = aI G 8 (fun q => (fal q : Int))) (f_li : w rl = aI G 8 (fun q => (lim q : Int))) : Met l yX0_make wsX0_make ({ frames := 3, cells := 0, slots := 0, locals := 78 }) (va_Pc [.ref (ad i), .ref (ad ic), .ref (ad rl), .int (iI ((sm : Nat) : Int))] (nB G N ad w sz)) (nPi G N ad sz (fun r u => (∀ j, ¬ ((i + 1 ≤ j ∧ j ≤ i + 13) ∧ j ≠ i + 2) → u j = w j) ∧ (∃ (tc : Nat → Nat → Int) (R1 : Nat → Int), tbOK val fal lim cnt sm tc ∧ r = bI (¬ tc cnt sm = -1) ∧ u (i + 1) = aI G 8 R1 ∧ (¬ tc cnt sm = -1 → R1 = wrR tc val fal lim cnt sm (fillF R0 0 8) cnt) ∧ (tc cnt sm = -1 → R1 = R0) ∧ (∀ k, k < 9 → u (i + 3 + k) = aI G 2001 (tc k)) ∧ (∃ Pn, u (i + 12) = aI G 2001 Pn) ∧ ∃ Cn, u (i + 13) = aI G 2001 Cn))) 0 0 (nA N ad sz) := by
  refine n_ent (cc := cX0_make) (maxL := 7) (ret := (some .boolean)) (by decide) rfl (Nat.le_of_ble_eq_true rfl) ?_
  intro p e s m below meth cd hx hb hr hml hlocks hts hown hnm hsz hP hK hI Q hQ ls hl
  have hown : s.vm.findClass RX0 = some m.cls := hown
  subst hsz
  have hJ := hI.J s.heap.size
  have hS : va_S (nA N ad s.heap.size) s.heap s.heap [] := va_S.rf
  have hfr : ∀ j, ¬ ((i + 1 ≤ j ∧ j ≤ i + 13) ∧ j ≠ i + 2) → w j = w j := fun _ _ => rfl
  have hl : lv_has ls 7 [(0, .ref (ad i)), (1, .ref (ad ic)), (2, .ref (ad rl)), (3, .int (iI ((sm : Nat) : Int)))] := hl
  refine lv_iload_n hx hb dX0_make_0 rfl (lv_at hl 3 rfl) ?_
  refine n_rdF (va_runSN (As := [.int (iI ((sm : Nat) : Int))]) (rest := []) ⟨hx, hb, hml, hown, hts⟩ (c_X6_isSum ((sm : Nat) : Int) (by omega)) ⟨va_cnB 1 hts (nT_N wc_X6_isSum) rfl rfl rfl (hK.2 _ (List.mem_of_getElem? (i := 10) rfl)) (hts _ (nT_m wn_X6)) (by decide +kernel) ⟨Nat.le_of_ble_eq_true rfl, Nat.le_of_ble_eq_true rfl⟩, hts _ (nT_m wt_X6_isSum), trivial⟩ preEq rfl rfl hl.1 rfl (lv_room (Nat.le_of_ble_eq_true rfl)) dX0_make_1 ⟨Nat.zero_le _, Nat.zero_le _⟩) ?_
  refine n_if_neB (tgt := 9) hx hb dX0_make_4 (by decide) (fun hc4 => ?_) (fun hc4 => ?_)
  · skip
    refine lv_aload_n hx hb dX0_make_9 rfl (lv_at hl 0 rfl) ?_
    refine n_get hx hb hts u_X0 hown hK hP (by omega) f_m rfl 1 (by decide) (nT_m wf_X0_17) rfl dX0_make_10 ?_
    refine n_iconst hx hb dX0_make_13 ?_
    refine n_aald hx hb hK hP (.array .int) 0 (by omega) f_g rfl rfl (by omega) (by omega) (by decide) rfl dX0_make_14 ?_
    have f_r0 := f_rows 0 (by omega)
    refine n_iconst hx hb dX0_make_15 ?_
    refine n_cV (va_runS (As := [.ref (ad (i + 3 + 0)), .int (iI (-1))]) (rest := []) ⟨hx, hb, hml, hown, hts⟩ (c_J7_fill_53178 (i + 3 + 0) 2001 (tb 0) (-1) (by omega) (by decide) f_r0) (va_cwS 2 hts (nT_S wl_X0_30 wt_J7_fill_53178 wn_J7 wc_J7_fill_53178) rfl rfl rfl (by decide +kernel) ⟨Nat.le_of_ble_eq_true rfl, Nat.le_of_ble_eq_true rfl⟩) (nB.pre hK hI hP) rfl rfl hl.1 rfl (lv_room (Nat.le_of_ble_eq_true rfl)) dX0_make_16 ⟨Nat.zero_le _, Nat.zero_le _⟩) hS (fun w1 H locs hq3 hP hS => ?_)
    obtain ⟨hne4, hpf⟩ := hq3
    have f_m := (hne4 i (by omega)).trans f_m
    have f_g := (hne4 (i + 2) (by omega)).trans f_g
    have f_row := (hne4 (i + 1) (by omega)).trans f_row
    have f_pl := (hne4 (i + 12) (by omega)).trans f_pl
    have f_co := (hne4 (i + 13) (by omega)).trans f_co
    have f_o := (hne4 ic (by omega)).trans f_o
    have f_v := (hne4 (ic + 1) (by omega)).trans f_v
    have f_f := (hne4 (ic + 2) (by omega)).trans f_f
    have f_li := (hne4 rl (by omega)).trans f_li
    have f_r0 : w1 (i + 3 + 0) = aI G 2001 (fillF (tb 0) (-1) 2001) := hpf
    have f_rows : ∀ k, k < 9 → w1 (i + 3 + k) = aI G 2001 ((va_up tb 0 (fillF (tb 0) (-1) 2001)) k) := (fam_up 0 (fun k hk hj => hne4 _ (by omega)) f_rows hpf)
    have hfr : ∀ j, ¬ ((i + 1 ≤ j ∧ j ≤ i + 13) ∧ j ≠ i + 2) → w1 j = w j := fun j a0 => (hne4 j (by omega)).trans (hfr j a0)
    refine lv_aload_n hx hb dX0_make_19 rfl (lv_at hl 0 rfl) ?_
    refine n_get hx hb hts u_X0 hown hK hP (by omega) f_m rfl 1 (by decide) (nT_m wf_X0_17) rfl dX0_make_20 ?_
    refine n_iconst hx hb dX0_make_23 ?_
    refine n_aald hx hb hK hP (.array .int) 0 (by omega) f_g rfl rfl (by omega) (by omega) (by decide) rfl dX0_make_24 ?_
    refine n_iconst hx hb dX0_make_25 ?_
    refine n_iconst hx hb dX0_make_26 ?_
    refine n_iast hx hb hK hJ hP hS 0 (by omega) f_r0 (by omega) (by omega) (by decide) dX0_make_27 (fun w5 H locs f_r0 hne6 hP hS => ?_)
    have f_m := (hne6 i (by omega)).trans f_m
    have f_g := (hne6 (i + 2) (by omega)).trans f_g
    have f_row := (hne6 (i + 1) (by omega)).trans f_row
    have f_rows : ∀ k, k < 9 → w5 (i + 3 + k) = aI G 2001 ((va_up (va_up tb 0 (fillF (tb 0) (-1) 2001)) 0 (va_up (fillF (tb 0) (-1) 2001) 0 0)) k) := (fam_up 0 (fun k hk hj => hne6 _ (by omega)) f_rows f_r0)
    have f_pl := (hne6 (i + 12) (by omega)).trans f_pl
    have f_co := (hne6 (i + 13) (by omega)).trans f_co
    have f_o := (hne6 ic (by omega)).trans f_o
    have f_v := (hne6 (ic + 1) (by omega)).trans f_v
    have f_f := (hne6 (ic + 2) (by omega)).trans f_f
    have f_li := (hne6 rl (by omega)).trans f_li
    have hfr : ∀ j, ¬ ((i + 1 ≤ j ∧ j ≤ i + 13) ∧ j ≠ i + 2) → w5 j = w j := fun j a0 => (hne6 j (by omega)).trans (hfr j a0)
    refine lv_aload_n hx hb dX0_make_28 rfl (lv_at hl 1 rfl) ?_
    refine n_get hx hb hts u_X1 hown hK hP (by omega) f_o rfl 0 (by decide) (nT_m wf_X0_36) rfl dX0_make_29 ?_
    refine lv_istore (lv' := [(4, .int (iI ((cnt : Nat) : Int))), (0, .ref (ad i)), (1, .ref (ad ic)), (2, .ref (ad rl)), (3, .int (iI ((sm : Nat) : Int)))]) hx hb dX0_make_32 hl (by decide) rfl (fun ls hl => ?_)
    refine n_iconst hx hb dX0_make_34 ?_
    refine lv_istore (lv' := [(5, .int (iI 0)), (4, .int (iI ((cnt : Nat) : Int))), (0, .ref (ad i)), (1, .ref (ad ic)), (2, .ref (ad rl)), (3, .int (iI ((sm : Nat) : Int)))]) hx hb dX0_make_35 hl (by decide) rfl (fun ls hl => ?_)
    have lp7 : ∀ (fu : Nat), ∀ (ii : Nat) (tc : Nat → Nat → Int) (Pn : Nat → Int) (Cn : Nat → Int), ∀ (w8 : Nat → va_E) (H : Heap) (locs : List Loc), ∀ (ls : Array Slot), cnt - ii < fu → ii ≤ cnt → tbIn val fal lim cnt sm ii tc → (∀ j, ¬ ((i + 1 ≤ j ∧ j ≤ i + 13) ∧ j ≠ i + 2) → w8 j = w j) → w8 i = .inr (0, [.ref (ad (i + 1)), .ref (ad (i + 2)), .ref (ad (i + 12)), .ref (ad (i + 13))]) → w8 (i + 2) = aR G 5 9 (fun k => some (ad (i + 3 + k))) → w8 (i + 1) = aI G 8 R0 → (∀ k, k < 9 → w8 (i + 3 + k) = aI G 2001 (tc k)) → w8 (i + 12) = aI G 2001 Pn → w8 (i + 13) = aI G 2001 Cn → w8 ic = .inr (1, [.int (iI ((cnt : Nat) : Int)), .ref (ad (ic + 1)), .ref (ad (ic + 2)), .ref (ad (ic + 3))]) → w8 (ic + 1) = aI G 8 (fun q => (val q : Int)) → w8 (ic + 2) = aI G 8 (fun q => (fal q : Int)) → w8 rl = aI G 8 (fun q => (lim q : Int)) → va_P G.1 vwCl (nL N ad w8) H → va_S (nA N ad s.heap.size) s.heap H locs → lv_has ls 7 [(0, .ref (ad i)), (1, .ref (ad ic)), (2, .ref (ad rl)), (3, .int (iI ((sm : Nat) : Int))), (4, .int (iI ((cnt : Nat) : Int))), (5, .int (iI ((ii : Nat) : Int)))] → W p l e ({ frames := 3, cells := 0, slots := 0, locals := 78 } : Room) s m ([.ref (ad i), .ref (ad ic), .ref (ad rl), .int (iI ((sm : Nat) : Int))] : List Value).toArray below meth cd H locs 0 0 Q (F0 m 37 ls []) := by
      intro fu
      induction fu with
      | zero =>
        intro ii tc Pn Cn w8 H locs ls hfu hii htb hfr f_m f_g f_row f_rows f_pl f_co f_o f_v f_f f_li hP hS hl
        exact absurd hfu (Nat.not_lt_zero _)
      | succ fu ih9 =>
        intro ii tc Pn Cn w8 H locs ls hfu hii htb hfr f_m f_g f_row f_rows f_pl f_co f_o f_v f_f f_li hP hS hl
        refine lv_iload hx hb dX0_make_37 (lv_at hl 5 rfl) ?_
        refine lv_iload hx hb dX0_make_39 (lv_at hl 4 rfl) ?_
        refine n_icmp_ge (tgt := 82) hx hb dX0_make_41 (by decide) (by omega) (by omega) (fun hc41 => ?_) (fun hc41 => ?_)
        · skip
          refine lv_aload_n hx hb dX0_make_82 rfl (lv_at hl 0 rfl) ?_
          refine n_get hx hb hts u_X0 hown hK hP (by omega) f_m rfl 1 (by decide) (nT_m wf_X0_17) rfl dX0_make_83 ?_
          refine lv_iload hx hb dX0_make_86 (lv_at hl 4 rfl) ?_
          refine n_aald hx hb hK hP (.array .int) cnt (by omega) f_g rfl rfl (by omega) (by omega) (by decide) rfl dX0_make_88 ?_
          have f_rc := f_rows cnt (by omega)
          refine lv_iload_n hx hb dX0_make_89 rfl (lv_at hl 3 rfl) ?_
          refine n_iald hx hb hK hP sm (by omega) f_rc (by omega) (by omega) (by decide) dX0_make_90 ?_
          have ho10 := tbIn_rng hii hval1 hfal htb cnt (by omega) sm (Nat.le_refl _)
          refine n_iconst hx hb dX0_make_91 ?_
          refine n_icmp_ne (tgt := 97) hx hb dX0_make_92 (by decide) (by omega) (by omega) (fun hc92 => ?_) (fun hc92 => ?_)
          · skip
            refine lv_aload_n hx hb dX0_make_97 rfl (lv_at hl 0 rfl) ?_
            refine lv_aload_n hx hb dX0_make_98 rfl (lv_at hl 1 rfl) ?_
            refine lv_aload_n hx hb dX0_make_99 rfl (lv_at hl 2 rfl) ?_
            refine lv_iload_n hx hb dX0_make_100 rfl (lv_at hl 3 rfl) ?_
            refine n_cV (va_runV (As := [.ref (ad ic), .ref (ad rl), .int (iI ((sm : Nat) : Int))]) (rest := []) ⟨hx, hb, hml, hown, hts⟩ (c_X0_writeRow i ic rl cnt sm val fal lim tc R0 hN hic hrl hc hval hval1 hfal hlim hsm (fun k hk => tbIn_rng hii hval1 hfal htb k (by omega)) f_m f_g f_row f_rows f_o f_v f_f f_li) (cwV 3 hts (nT_V wl_X0_52 wi_X0_writeRow ws_X0_writeRow wn_X0 wc_X0_writeRow) rfl rfl rfl (by decide +kernel) ⟨Nat.le_of_ble_eq_true rfl, Nat.le_of_ble_eq_true rfl⟩) (nB.preV hK hI hP (by omega) f_m rfl rfl) rfl rfl hl.1 rfl (lv_room (Nat.le_of_ble_eq_true rfl)) dX0_make_101 ⟨Nat.zero_le _, Nat.zero_le _⟩) hS (fun w11 H locs hq13 hP hS => ?_)
            obtain ⟨hne14, hpr⟩ := hq13
            have f_m := (hne14 i (by omega)).trans f_m
            have f_g := (hne14 (i + 2) (by omega)).trans f_g
            have f_rows : ∀ k, k < 9 → w11 (i + 3 + k) = aI G 2001 (tc k) := fun k hk9 => (hne14 _ (by omega)).trans (f_rows _ hk9)
            have f_pl := (hne14 (i + 12) (by omega)).trans f_pl
            have f_co := (hne14 (i + 13) (by omega)).trans f_co
            have f_o := (hne14 ic (by omega)).trans f_o
            have f_v := (hne14 (ic + 1) (by omega)).trans f_v
            have f_f := (hne14 (ic + 2) (by omega)).trans f_f
            have f_li := (hne14 rl (by omega)).trans f_li
            have f_rc := (hne14 (i + 3 + cnt) (by omega)).trans f_rc
            have f_row : w11 (i + 1) = aI G 8 (wrR tc val fal lim cnt sm (fillF R0 0 8) cnt) := hpr
            have hfr : ∀ j, ¬ ((i + 1 ≤ j ∧ j ≤ i + 13) ∧ j ≠ i + 2) → w11 j = w j := fun j a0 => (hne14 j (by omega)).trans (hfr j a0)
            refine n_iconst hx hb dX0_make_104 ?_
            refine n_zretP (t := True) hQ hx hb hr hlocks rfl hP hS dX0_make_105 ?_
            rw [show ii = cnt by omega] at htb
            exact ⟨hfr, tc, _, htb, (bI_t hc92).symm, f_row, fun _ => rfl, fun h9 => absurd h9 hc92, f_rows, ⟨_, f_pl⟩, ⟨_, f_co⟩⟩
          · skip
            refine n_iconst hx hb dX0_make_95 ?_
            refine n_zretP (t := False) hQ hx hb hr hlocks rfl hP hS dX0_make_96 ?_
            rw [show ii = cnt by omega] at htb
            exact ⟨hfr, tc, _, htb, (bI_f (fun h9 => h9 hc92)).symm, f_row, fun h9 => absurd hc92 h9, fun _ => rfl, f_rows, ⟨_, f_pl⟩, ⟨_, f_co⟩⟩
        · skip
          have hf8 := hfal (cnt - 1 - ii) (by omega)
          have hv1 := hval1 (fal (cnt - 1 - ii)) hf8
          refine lv_aload_n hx hb dX0_make_44 rfl (lv_at hl 1 rfl) ?_
          refine n_get hx hb hts u_X1 hown hK hP (by omega) f_o rfl 2 (by decide) (nT_m wf_X0_42) rfl dX0_make_45 ?_
          refine lv_iload hx hb dX0_make_48 (lv_at hl 4 rfl) ?_
          refine n_iconst hx hb dX0_make_50 ?_
          refine n_isub hx hb dX0_make_51 ?_
          refine lv_iload hx hb dX0_make_52 (lv_at hl 5 rfl) ?_
          refine n_isub hx hb dX0_make_54 ?_
          refine n_iald hx hb hK hP (cnt - 1 - ii) (by omega) f_f (by omega) (by omega) (by decide) dX0_make_55 ?_
          refine lv_istore (lv' := [(6, .int (iI (fal (cnt - 1 - ii) : Int))), (0, .ref (ad i)), (1, .ref (ad ic)), (2, .ref (ad rl)), (3, .int (iI ((sm : Nat) : Int))), (4, .int (iI ((cnt : Nat) : Int))), (5, .int (iI ((ii : Nat) : Int)))]) hx hb dX0_make_56 hl (by decide) rfl (fun ls hl => ?_)
          refine lv_aload_n hx hb dX0_make_58 rfl (lv_at hl 1 rfl) ?_
          refine lv_iload hx hb dX0_make_59 (lv_at hl 6 rfl) ?_
          refine lv_aload_n hx hb dX0_make_61 rfl (lv_at hl 2 rfl) ?_
          refine n_get hx hb hts u_X1 hown hK hP (by omega) f_o rfl 1 (by decide) (nT_m wf_X0_45) rfl dX0_make_62 ?_
          refine lv_iload hx hb dX0_make_65 (lv_at hl 0 rfl) ?_
          refine n_iald hx hb hK hP (fal (cnt - 1 - ii)) (by omega) f_v (by omega) (by omega) (by decide) dX0_make_67 ?_
          have ho15 := hval (fal (cnt - 1 - ii))
          refine lv_aload_n hx hb dX0_make_68 rfl (lv_at hl 3 rfl) ?_
          refine lv_iload hx hb dX0_make_69 (lv_at hl 0 rfl) ?_
          refine n_iald hx hb hK hP (fal (cnt - 1 - ii)) (by omega) f_li (by omega) (by omega) (by decide) dX0_make_71 ?_
          have ho16 := hlim (fal (cnt - 1 - ii))
          refine lv_iload_n hx hb dX0_make_72 rfl (lv_at hl 4 rfl) ?_
          have f_q0 := f_rows ii (by omega)
          have f_q1 := f_rows (ii + 1) (by omega)
          refine n_cV (va_runV (As := [.int (iI ((ii : Nat) : Int)), .int (iI (val (fal (cnt - 1 - ii)) : Int)), .int (iI (lim (fal (cnt - 1 - ii)) : Int)), .int (iI ((sm : Nat) : Int))]) (rest := []) ⟨hx, hb, hml, hown, hts⟩ (c_X0_allow i ii (val (fal (cnt - 1 - ii))) (lim (fal (cnt - 1 - ii))) sm (tc ii) (tc (ii + 1)) Pn Cn hN (by omega) ⟨hv1, hval _⟩ hsm (hlim _) (tbIn_rng hii hval1 hfal htb ii (Nat.le_refl _)) f_m f_g f_q0 f_q1 f_pl f_co) (cwV 4 hts (nT_V wl_X0_48 wi_X0_allow ws_X0_allow wn_X0 wc_X0_allow) rfl rfl rfl (by decide +kernel) ⟨Nat.le_of_ble_eq_true rfl, Nat.le_of_ble_eq_true rfl⟩) (nB.preV hK hI hP (by omega) f_m rfl rfl) rfl rfl hl.1 rfl (lv_room (Nat.le_of_ble_eq_true rfl)) dX0_make_73 ⟨Nat.zero_le _, Nat.zero_le _⟩) hS (fun w17 H locs hq19 hP hS => ?_)
          obtain ⟨hne20, ⟨T1, hT1, hT2⟩, ⟨P1, hP1⟩, ⟨C1, hC1⟩⟩ := hq19
          have f_m := (hne20 i (by omega) (by omega) (by omega)).trans f_m
          have f_g := (hne20 (i + 2) (by omega) (by omega) (by omega)).trans f_g
          have f_row := (hne20 (i + 1) (by omega) (by omega) (by omega)).trans f_row
          have f_o := (hne20 ic (by omega) (by omega) (by omega)).trans f_o
          have f_v := (hne20 (ic + 1) (by omega) (by omega) (by omega)).trans f_v
          have f_f := (hne20 (ic + 2) (by omega) (by omega) (by omega)).trans f_f
          have f_li := (hne20 rl (by omega) (by omega) (by omega)).trans f_li
          have f_rows : ∀ k, k < 9 → w17 (i + 3 + k) = aI G 2001 (va_up tc (ii + 1) T1 k) := (fam_up (ii + 1) (fun k hk hj => hne20 _ (by omega) (by omega) (by omega)) f_rows hT1)
          have f_pl : w17 (i + 12) = aI G 2001 P1 := hP1
          have f_co : w17 (i + 13) = aI G 2001 C1 := hC1
          have hfr : ∀ j, ¬ ((i + 1 ≤ j ∧ j ≤ i + 13) ∧ j ≠ i + 2) → w17 j = w j := fun j a0 => (hne20 j (by omega) (by omega) (by omega)).trans (hfr j a0)
          refine lv_iinc (v := iI (((ii : Nat) : Int) + 1)) (lv' := [(5, .int (iI (((ii : Nat) : Int) + 1))), (6, .int (iI (fal (cnt - 1 - ii) : Int))), (0, .ref (ad i)), (1, .ref (ad ic)), (2, .ref (ad rl)), (3, .int (iI ((sm : Nat) : Int))), (4, .int (iI ((cnt : Nat) : Int)))]) hx hb dX0_make_76 hl (k := 6) rfl (by first | exact iI_add _ _ | exact (iI_add _ _).trans (congrArg iI (by omega))) (by decide) rfl (fun ls hl => ?_)
          refine lv_goto (tgt := 37) hx hb dX0_make_79 (by decide) ?_
          exact ih9 (ii + 1) (va_up tc (ii + 1) T1) P1 C1 _ _ _ _ (by omega) (by omega) (tbIn_s htb hT2) hfr f_m f_g f_row f_rows f_pl f_co f_o f_v f_f f_li hP hS (by first | exact lv_sub hl [2, 3, 4, 5, 6, 0] rfl | exact lv_cast (lv_sub (l' := [(0, .ref (ad i)), (1, .ref (ad ic)), (2, .ref (ad rl)), (3, .int (iI ((sm : Nat) : Int))), (4, .int (iI ((cnt : Nat) : Int))), (5, .int (iI (((ii : Nat) : Int) + 1)))]) hl [2, 3, 4, 5, 6, 0] rfl) (lc_s (lc_s (lc_s (lc_s (lc_s (lc_i (show ((((ii : Nat) : Int) + 1) : Int) = (((ii + 1) : Nat) : Int) by omega) rfl)))))))
    exact lp7 (cnt - 0 + 1) 0 (va_up (va_up tb 0 (fillF (tb 0) (-1) 2001)) 0 (va_up (fillF (tb 0) (-1) 2001) 0 0)) P0 C0 _ _ _ _ (Nat.lt_succ_self _) (by omega) ⟨fun s1 hs => by rw [va_up_self]; exact fill_one (by omega), fun k hk => absurd hk (Nat.not_lt_zero _)⟩ hfr f_m f_g f_row f_rows f_pl f_co f_o f_v f_f f_li hP hS (by first | exact lv_sub hl [2, 3, 4, 5, 1, 0] rfl | exact lv_cast (lv_sub (l' := [(0, .ref (ad i)), (1, .ref (ad ic)), (2, .ref (ad rl)), (3, .int (iI ((sm : Nat) : Int))), (4, .int (iI ((cnt : Nat) : Int))), (5, .int (iI 0))]) hl [2, 3, 4, 5, 1, 0] rfl) (lc_s (lc_s (lc_s (lc_s (lc_s (lc_i (show (0 : Int) = ((0 : Nat) : Int) by omega) rfl)))))))
  · skip
    exact absurd hc4 (by omega)
set_option maxHeartbeats 4000000 in
set_option maxRecDepth 100000 in
theorem c_X0_make_no {l : Launch} {G : nG} {N : Nat} {ad : Nat → Nat} {w : Nat → va_E} {sz : Nat} (i ic rl : Nat) (z : Int) (hN : i + 13 < N) (hz : -2147483648 ≤ z ∧ z < 2147483648) (hbig : ¬ (0 ≤ z ∧ z ≤ 2000)) (f_m : w i = .inr (0, [.ref (ad (i + 1)), .ref (ad (i + 2)), .ref (ad (i + 12)), .ref (ad (i + 13))])) : Met l yX0_make wsX0_make ({ frames := 3, cells := 0, slots := 0, locals := 78 }) (va_Pc [.ref (ad i), .ref (ad ic), .ref (ad rl), .int (iI z)] (nB G N ad w sz)) (nRd (.int (iI (bI False)))) 0 0 (fun _ => False) := by
  refine n_ent (cc := cX0_make) (maxL := 7) (ret := (some .boolean)) (by decide) rfl (Nat.le_of_ble_eq_true rfl) ?_
  intro p e s m below meth cd hx hb hr hml hlocks hts hown hnm hsz hP hK hI Q hQ ls hl
  have hown : s.vm.findClass RX0 = some m.cls := hown
  have hl : lv_has ls 7 [(0, .ref (ad i)), (1, .ref (ad ic)), (2, .ref (ad rl)), (3, .int (iI z))] := hl
  refine lv_iload_n hx hb dX0_make_0 rfl (lv_at hl 3 rfl) ?_
  refine n_rdF (va_runSN (As := [.int (iI z)]) (rest := []) ⟨hx, hb, hml, hown, hts⟩ (c_X6_isSum z (by omega)) ⟨va_cnB 1 hts (nT_N wc_X6_isSum) rfl rfl rfl (hK.2 _ (List.mem_of_getElem? (i := 10) rfl)) (hts _ (nT_m wn_X6)) (by decide +kernel) ⟨Nat.le_of_ble_eq_true rfl, Nat.le_of_ble_eq_true rfl⟩, hts _ (nT_m wt_X6_isSum), trivial⟩ preEq rfl rfl hl.1 rfl (lv_room (Nat.le_of_ble_eq_true rfl)) dX0_make_1 ⟨Nat.zero_le _, Nat.zero_le _⟩) ?_
  refine n_if_neB (tgt := 9) hx hb dX0_make_4 (by decide) (fun hc4 => ?_) (fun hc4 => ?_)
  · skip
    exact absurd hc4 (by omega)
  · skip
    refine n_iconst hx hb dX0_make_7 ?_
    exact n_zretR hQ hx hb hr hlocks rfl dX0_make_8
