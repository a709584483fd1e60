
theorem iI_nat (n : Nat) : Int32.ofNat n = iI (n : Int) := by
  unfold iI
  rw [← Int32.toInt_inj]
  simp
theorem upN (val : Nat → Nat) (k v : Nat) : va_up (fun q => (val q : Int)) k ((v : Nat) : Int) = fun q => ((va_up val k v q : Nat) : Int) := by
  funext q
  unfold va_up
  split <;> rfl
def fillF (F : Nat → Int) (z : Int) (q : Nat) : Nat → Int := fun k => if k < q then z else F k
theorem fillF_0 (F : Nat → Int) (z : Int) : fillF F z 0 = F := by
  funext k
  unfold fillF
  rw [if_neg (Nat.not_lt_zero k)]
theorem fillF_s (F : Nat → Int) (z : Int) (q : Nat) : va_up (fillF F z q) q z = fillF F z (q + 1) := by
  funext k
  unfold fillF va_up
  by_cases h : k = q
  · rw [if_pos h, if_pos (by omega)]
  · rw [if_neg h]
    dsimp only
    by_cases h2 : k < q
    · rw [if_pos h2, if_pos (by omega)]
    · rw [if_neg h2, if_neg (by omega)]
theorem hval_up {val : Nat → Nat} {k v : Nat} (h : ∀ k, val k ≤ 1000) (hv : v ≤ 1000) : ∀ q, va_up val k v q ≤ 1000 := fun q => by
  unfold va_up
  split
  · exact hv
  · exact h q
set_option maxHeartbeats 4000000 in
set_option maxRecDepth 100000 in
theorem c_J7_fill_53178 {l : Launch} {G : nG} {N : Nat} {ad : Nat → Nat} {w : Nat → va_E} {sz : Nat} (ia n : Nat) (F : Nat → Int) (z : Int) (hN : ia < N) (hn : n < 2147483648) (f_a : w ia = aI G n F) : Met l yJ7_fill_53178 wsJ7_fill_53178 ({ frames := 0, cells := 0, slots := 0, locals := 0 }) (va_Pc [.ref (ad ia), .int (iI z)] (nB G N ad w sz)) (nPv G N ad sz (fun u => (∀ j, j ≠ ia → u j = w j) ∧ (u ia = aI G n (fillF F z n)))) 0 0 (nA N ad sz) := by
  refine n_ent (cc := cJ7_fill_53178) (maxL := 4) (ret := (none : Option Jvm.ClassFile.FieldType)) (by decide) rfl (Nat.le_of_ble_eq_true rfl) ?_
  intro p e s m below meth cd hx hb hr hml hlocks hts hown hnm hsz hP hK hI Q hQ ls hl
  have hown : s.vm.findClass RJ7 = some m.cls := hown
  subst hsz
  have hJ := hI.J s.heap.size
  have hS : va_S (nA N ad s.heap.size) s.heap s.heap [] := va_S.rf
  have hfr : ∀ j, j ≠ ia → w j = w j := fun _ _ => rfl
  have hl : lv_has ls 4 [(0, .ref (ad ia)), (1, .int (iI z))] := hl
  refine n_iconst hx hb dJ7_fill_53178_0 ?_
  refine lv_istore_n (lv' := [(2, .int (iI 0)), (0, .ref (ad ia)), (1, .int (iI z))]) hx hb dJ7_fill_53178_1 rfl hl (by decide) rfl (fun ls hl => ?_)
  refine lv_aload_n hx hb dJ7_fill_53178_2 rfl (lv_at hl 1 rfl) ?_
  refine va_alen (v := iI (n : Int)) hx hb hK.1 hP ia 0 (nL_get (by omega) f_a) rfl (by first | exact iI_nat _ | rfl | decide) dJ7_fill_53178_3 ?_
  refine lv_istore_n (lv' := [(3, .int (iI ((n : Nat) : Int))), (2, .int (iI 0)), (0, .ref (ad ia)), (1, .int (iI z))]) hx hb dJ7_fill_53178_4 rfl hl (by decide) rfl (fun ls hl => ?_)
  have lp1 : ∀ (fu : Nat), ∀ (q : Nat), ∀ (w2 : Nat → va_E) (H : Heap) (locs : List Loc), ∀ (ls : Array Slot), n - q < fu → q ≤ n → (∀ j, j ≠ ia → w2 j = w j) → w2 ia = aI G n (fillF F z q) → va_P G.1 vwCl (nL N ad w2) H → va_S (nA N ad s.heap.size) s.heap H locs → lv_has ls 4 [(0, .ref (ad ia)), (1, .int (iI z)), (2, .int (iI ((q : Nat) : Int))), (3, .int (iI ((n : Nat) : Int)))] → W p l e ({ frames := 0, cells := 0, slots := 0, locals := 0 } : Room) s m ([.ref (ad ia), .int (iI z)] : List Value).toArray below meth cd H locs 0 0 Q (F0 m 5 ls []) := by
    intro fu
    induction fu with
    | zero =>
      intro q w2 H locs ls hfu hq hfr f_a hP hS hl
      exact absurd hfu (Nat.not_lt_zero _)
    | succ fu ih3 =>
      intro q w2 H locs ls hfu hq hfr f_a hP hS hl
      refine lv_iload_n hx hb dJ7_fill_53178_5 rfl (lv_at hl 2 rfl) ?_
      refine lv_iload_n hx hb dJ7_fill_53178_6 rfl (lv_at hl 3 rfl) ?_
      refine n_icmp_ge (tgt := 20) hx hb dJ7_fill_53178_7 (by decide) (by omega) (by omega) (fun hc7 => ?_) (fun hc7 => ?_)
      · skip
        refine n_vretP hQ hx hb hr hlocks hP hS dJ7_fill_53178_20 ?_
        refine ⟨hfr, f_a.trans (congrArg (fun x => aI G n (fillF F z x)) (by omega))⟩
      · skip
        refine lv_aload_n hx hb dJ7_fill_53178_10 rfl (lv_at hl 0 rfl) ?_
        refine lv_iload_n hx hb dJ7_fill_53178_11 rfl (lv_at hl 2 rfl) ?_
        refine lv_iload_n hx hb dJ7_fill_53178_12 rfl (lv_at hl 1 rfl) ?_
        refine n_iast hx hb hK hJ hP hS q (by omega) f_a (by omega) (by omega) hn dJ7_fill_53178_13 (fun w4 H locs f_a hne5 hP hS => ?_)
        have hfr : ∀ j, j ≠ ia → w4 j = w j := fun j a0 => (hne5 j (by omega)).trans (hfr j a0)
        refine lv_iinc (v := iI (((q : Nat) : Int) + 1)) (lv' := [(2, .int (iI (((q : Nat) : Int) + 1))), (0, .ref (ad ia)), (1, .int (iI z)), (3, .int (iI ((n : Nat) : Int)))]) hx hb dJ7_fill_53178_14 hl (k := 2) rfl (by first | exact iI_add _ _ | exact (iI_add _ _).trans (congrArg iI (by omega))) (by decide) rfl (fun ls hl => ?_)
        refine lv_goto (tgt := 5) hx hb dJ7_fill_53178_17 (by decide) ?_
        exact ih3 (q + 1) _ _ _ _ (by omega) (by omega) hfr (f_a.trans (congrArg (aI G n) (fillF_s F z q))) hP hS (by first | exact lv_sub hl [1, 2, 0, 3] rfl | exact lv_cast (lv_sub (l' := [(0, .ref (ad ia)), (1, .int (iI z)), (2, .int (iI (((q : Nat) : Int) + 1))), (3, .int (iI ((n : Nat) : Int)))]) hl [1, 2, 0, 3] rfl) (lc_s (lc_s (lc_i (show ((((q : Nat) : Int) + 1) : Int) = (((q + 1) : Nat) : Int) by omega) (lc_s rfl)))))
  exact lp1 (n - 0 + 1) 0 _ _ _ _ (Nat.lt_succ_self _) (by omega) hfr (f_a.trans (by rw [fillF_0])) hP hS (by first | exact lv_sub hl [2, 3, 1, 0] rfl | exact lv_cast (lv_sub (l' := [(0, .ref (ad ia)), (1, .int (iI z)), (2, .int (iI 0)), (3, .int (iI ((n : Nat) : Int)))]) hl [2, 3, 1, 0] rfl) (lc_s (lc_s (lc_i (show (0 : Int) = ((0 : Nat) : Int) by omega) (lc_s rfl)))))

theorem wf_out {val fal : Nat → Nat} {lst : Nat → Int} {sum ii k lf : Nat} (h1 : wfT lst (val (fal ii)) (wfL val fal lst sum ii / val (fal ii)) (wfL val fal lst sum ii) = k) (h2 : lf + k * val (fal ii) = wfL val fal lst sum ii) : lf = wfL val fal lst sum (ii + 1) := by
  show lf = wfL val fal lst sum ii - wfT lst (val (fal ii)) (wfL val fal lst sum ii / val (fal ii)) (wfL val fal lst sum ii) * val (fal ii)
  rw [h1]
  omega
set_option maxHeartbeats 4000000 in
set_option maxRecDepth 100000 in
theorem c_X1_writeFewest {l : Launch} {G : nG} {N : Nat} {ad : Nat → Nat} {w : Nat → va_E} {sz : Nat} (i cnt : Nat) (val fal : Nat → Nat) (lst : Nat → Int) (sum rw : Nat) (row : Nat → Int) (hN : i + 3 < N) (hc : cnt ≤ 8) (hval : ∀ k, val k ≤ 1000) (hval1 : ∀ k, k < cnt → 1 ≤ val k) (hfal : ∀ k, k < cnt → fal k < cnt) (hlst : ∀ k, k < 2001 → -1 ≤ lst k ∧ lst k ≤ k) (hs : sum ≤ 2000) (hrw : rw < N ∧ (rw < i ∨ i + 3 < rw)) (f_o : w i = .inr (1, [.int (iI ((cnt : Nat) : Int)), .ref (ad (i + 1)), .ref (ad (i + 2)), .ref (ad (i + 3))])) (f_v : w (i + 1) = aI G 8 (fun q => (val q : Int))) (f_f : w (i + 2) = aI G 8 (fun q => (fal q : Int))) (f_l : w (i + 3) = aI G 2001 lst) (f_r : w rw = aI G 8 row) : Met l yX1_writeFewest wsX1_writeFewest ({ frames := 1, cells := 0, slots := 0, locals := 21 }) (va_Pc [.ref (ad i), .int (iI ((sum : Nat) : Int)), .ref (ad rw)] (nB G N ad w sz)) (nPv G N ad sz (fun u => (∀ j, j ≠ rw → u j = w j) ∧ (u rw = aI G 8 (wfR val fal lst sum row cnt)))) 0 0 (nA N ad sz) := by
  refine n_ent (cc := cX1_writeFewest) (maxL := 8) (ret := (none : Option Jvm.ClassFile.FieldType)) (by decide) rfl (Nat.le_of_ble_eq_true rfl) ?_
  intro p e s m below meth cd hx hb hr hml hlocks hts hown hnm hsz hP hK hI Q hQ ls hl
  have hown : s.vm.findClass RX1 = some m.cls := hown
  subst hsz
  have hJ := hI.J s.heap.size
  have hS : va_S (nA N ad s.heap.size) s.heap s.heap [] := va_S.rf
  have hfr : ∀ j, j ≠ rw → w j = w j := fun _ _ => rfl
  have hl : lv_has ls 8 [(0, .ref (ad i)), (1, .int (iI ((sum : Nat) : Int))), (2, .ref (ad rw))] := hl
  refine lv_iload_n hx hb dX1_writeFewest_0 rfl (lv_at hl 1 rfl) ?_
  refine lv_istore_n (lv' := [(3, .int (iI ((sum : Nat) : Int))), (0, .ref (ad i)), (1, .int (iI ((sum : Nat) : Int))), (2, .ref (ad rw))]) hx hb dX1_writeFewest_1 rfl hl (by decide) rfl (fun ls hl => ?_)
  refine n_iconst hx hb dX1_writeFewest_2 ?_
  refine lv_istore (lv' := [(4, .int (iI 0)), (3, .int (iI ((sum : Nat) : Int))), (0, .ref (ad i)), (1, .int (iI ((sum : Nat) : Int))), (2, .ref (ad rw))]) hx hb dX1_writeFewest_3 hl (by decide) rfl (fun ls hl => ?_)
  have lp1 : ∀ (fu : Nat), ∀ (ii : Nat), ∀ (w2 : Nat → va_E) (H : Heap) (locs : List Loc), ∀ (ls : Array Slot), cnt - ii < fu → ii ≤ cnt → (∀ j, j ≠ rw → w2 j = w j) → w2 i = .inr (1, [.int (iI ((cnt : Nat) : Int)), .ref (ad (i + 1)), .ref (ad (i + 2)), .ref (ad (i + 3))]) → w2 (i + 1) = aI G 8 (fun q => (val q : Int)) → w2 (i + 2) = aI G 8 (fun q => (fal q : Int)) → w2 (i + 3) = aI G 2001 lst → w2 rw = aI G 8 (wfR val fal lst sum row ii) → va_P G.1 vwCl (nL N ad w2) H → va_S (nA N ad s.heap.size) s.heap H locs → lv_has ls 8 [(0, .ref (ad i)), (1, .int (iI ((sum : Nat) : Int))), (2, .ref (ad rw)), (3, .int (iI ((wfL val fal lst sum ii : Nat) : Int))), (4, .int (iI ((ii : Nat) : Int)))] → W p l e ({ frames := 1, cells := 0, slots := 0, locals := 21 } : Room) s m ([.ref (ad i), .int (iI ((sum : Nat) : Int)), .ref (ad rw)] : List Value).toArray below meth cd H locs 0 0 Q (F0 m 5 ls []) := by
    intro fu
    induction fu with
    | zero =>
      intro ii w2 H locs ls hfu hii hfr f_o f_v f_f f_l f_r hP hS hl
      exact absurd hfu (Nat.not_lt_zero _)
    | succ fu ih3 =>
      intro ii w2 H locs ls hfu hii hfr f_o f_v f_f f_l f_r hP hS hl
      have hwl := wfL_le val fal lst sum ii
      refine lv_iload hx hb dX1_writeFewest_5 (lv_at hl 4 rfl) ?_
      refine lv_aload_n hx hb dX1_writeFewest_7 rfl (lv_at hl 0 rfl) ?_
      refine n_get hx hb hts u_X1 hown hK hP (by omega) f_o rfl 0 (by decide) (nT_m wf_X1_9) rfl dX1_writeFewest_8 ?_
      refine n_icmp_ge (tgt := 94) hx hb dX1_writeFewest_11 (by decide) (by omega) (by omega) (fun hc11 => ?_) (fun hc11 => ?_)
      · skip
        refine n_vretP hQ hx hb hr hlocks hP hS dX1_writeFewest_94 ?_
        refine ⟨hfr, f_r.trans (congrArg (fun x => aI G 8 (wfR val fal lst sum row x)) (by omega))⟩
      · skip
        have hf8 := hfal ii (by omega)
        have hv1 := hval1 (fal ii) hf8
        have hdl : wfL val fal lst sum ii / val (fal ii) ≤ wfL val fal lst sum ii := Nat.div_le_self _ _
        refine lv_aload_n hx hb dX1_writeFewest_14 rfl (lv_at hl 0 rfl) ?_
        refine n_get hx hb hts u_X1 hown hK hP (by omega) f_o rfl 1 (by decide) (nT_m wf_X1_15) rfl dX1_writeFewest_15 ?_
        refine lv_aload_n hx hb dX1_writeFewest_18 rfl (lv_at hl 0 rfl) ?_
        refine n_get hx hb hts u_X1 hown hK hP (by omega) f_o rfl 2 (by decide) (nT_m wf_X1_19) rfl dX1_writeFewest_19 ?_
        refine lv_iload hx hb dX1_writeFewest_22 (lv_at hl 4 rfl) ?_
        refine n_iald hx hb hK hP ii (by omega) f_f (by omega) (by omega) (by decide) dX1_writeFewest_24 ?_
        refine n_iald hx hb hK hP (fal ii) (by omega) f_v (by omega) (by omega) (by decide) dX1_writeFewest_25 ?_
        have ho4 := hval (fal ii)
        refine lv_istore (lv' := [(5, .int (iI (val (fal ii) : Int))), (0, .ref (ad i)), (1, .int (iI ((sum : Nat) : Int))), (2, .ref (ad rw)), (3, .int (iI ((wfL val fal lst sum ii : Nat) : Int))), (4, .int (iI ((ii : Nat) : Int)))]) hx hb dX1_writeFewest_26 hl (by decide) rfl (fun ls hl => ?_)
        refine lv_iload_n hx hb dX1_writeFewest_28 rfl (lv_at hl 4 rfl) ?_
        refine lv_iload hx hb dX1_writeFewest_29 (lv_at hl 0 rfl) ?_
        refine n_rdF (v := .int (iI (((wfL val fal lst sum ii) / (val (fal ii)) : Nat) : Int))) (va_runSN (As := [.int (iI ((wfL val fal lst sum ii : Nat) : Int)), .int (iI (val (fal ii) : Int))]) (rest := []) ⟨hx, hb, hml, hown, hts⟩ (c_X6_wholeTimes ((wfL val fal lst sum ii : Nat) : Int) (val (fal ii) : Int) (by omega) (by omega)) ⟨va_cnB 2 hts (nT_N wc_X6_wholeTimes) rfl rfl rfl (hK.2 _ (List.mem_of_getElem? (i := 8) rfl)) (hts _ (nT_m wn_X6)) (by decide +kernel) ⟨Nat.le_of_ble_eq_true rfl, Nat.le_of_ble_eq_true rfl⟩, hts _ (nT_m wt_X6_wholeTimes), trivial⟩ preEq rfl rfl hl.1 rfl (lv_room (Nat.le_of_ble_eq_true rfl)) dX1_writeFewest_31 ⟨Nat.zero_le _, Nat.zero_le _⟩) ?_
        refine lv_istore (lv' := [(6, .int (iI ((wfL val fal lst sum ii / val (fal ii) : Nat) : Int))), (5, .int (iI (val (fal ii) : Int))), (0, .ref (ad i)), (1, .int (iI ((sum : Nat) : Int))), (2, .ref (ad rw)), (3, .int (iI ((wfL val fal lst sum ii : Nat) : Int))), (4, .int (iI ((ii : Nat) : Int)))]) hx hb dX1_writeFewest_34 hl (by decide) rfl (fun ls hl => ?_)
        have lp5 : ∀ (k : Nat) (lf : Nat), ∀ (w6 : Nat → va_E) (H : Heap) (locs : List Loc), ∀ (ls : Array Slot), lf + k * val (fal ii) = wfL val fal lst sum ii → wfT lst (val (fal ii)) (wfL val fal lst sum ii / val (fal ii)) (wfL val fal lst sum ii) = k → (∀ j, j ≠ rw → w6 j = w j) → w6 i = .inr (1, [.int (iI ((cnt : Nat) : Int)), .ref (ad (i + 1)), .ref (ad (i + 2)), .ref (ad (i + 3))]) → w6 (i + 1) = aI G 8 (fun q => (val q : Int)) → w6 (i + 2) = aI G 8 (fun q => (fal q : Int)) → w6 (i + 3) = aI G 2001 lst → w6 rw = aI G 8 (wfR val fal lst sum row ii) → va_P G.1 vwCl (nL N ad w6) H → va_S (nA N ad s.heap.size) s.heap H locs → lv_has ls 8 [(0, .ref (ad i)), (1, .int (iI ((sum : Nat) : Int))), (2, .ref (ad rw)), (3, .int (iI ((lf : Nat) : Int))), (4, .int (iI ((ii : Nat) : Int))), (7, .int (iI ((k : Nat) : Int)))] → W p l e ({ frames := 1, cells := 0, slots := 0, locals := 21 } : Room) s m ([.ref (ad i), .int (iI ((sum : Nat) : Int)), .ref (ad rw)] : List Value).toArray below meth cd H locs 0 0 Q (F0 m 77 ls []) := by
          intro k lf w6 H locs ls hlf hk hfr f_o f_v f_f f_l f_r hP hS hl
          refine lv_aload_n hx hb dX1_writeFewest_77 rfl (lv_at hl 2 rfl) ?_
          refine lv_aload_n hx hb dX1_writeFewest_78 rfl (lv_at hl 0 rfl) ?_
          refine n_get hx hb hts u_X1 hown hK hP (by omega) f_o rfl 2 (by decide) (nT_m wf_X1_19) rfl dX1_writeFewest_79 ?_
          refine lv_iload hx hb dX1_writeFewest_82 (lv_at hl 4 rfl) ?_
          refine n_iald hx hb hK hP ii (by omega) f_f (by omega) (by omega) (by decide) dX1_writeFewest_84 ?_
          refine lv_iload hx hb dX1_writeFewest_85 (lv_at hl 5 rfl) ?_
          refine n_iast hx hb hK hJ hP hS (fal ii) (by omega) f_r (by omega) (by omega) (by decide) dX1_writeFewest_87 (fun w8 H locs f_r hne9 hP hS => ?_)
          have f_o := (hne9 i (by omega)).trans f_o
          have f_v := (hne9 (i + 1) (by omega)).trans f_v
          have f_f := (hne9 (i + 2) (by omega)).trans f_f
          have f_l := (hne9 (i + 3) (by omega)).trans f_l
          have hfr : ∀ j, j ≠ rw → w8 j = w j := fun j a0 => (hne9 j (by omega)).trans (hfr j a0)
          refine lv_iinc (v := iI (((ii : Nat) : Int) + 1)) (lv' := [(4, .int (iI (((ii : Nat) : Int) + 1))), (0, .ref (ad i)), (1, .int (iI ((sum : Nat) : Int))), (2, .ref (ad rw)), (3, .int (iI ((lf : Nat) : Int))), (7, .int (iI ((k : Nat) : Int)))]) hx hb dX1_writeFewest_88 hl (k := 4) rfl (by first | exact iI_add _ _ | exact (iI_add _ _).trans (congrArg iI (by omega))) (by decide) rfl (fun ls hl => ?_)
          refine lv_goto (tgt := 5) hx hb dX1_writeFewest_91 (by decide) ?_
          exact ih3 (ii + 1) _ _ _ _ (by omega) (by omega) hfr f_o f_v f_f f_l (by rw [← hk] at f_r; exact f_r) hP hS (by first | exact lv_sub hl [1, 2, 3, 4, 0] rfl | exact lv_cast (lv_sub (l' := [(0, .ref (ad i)), (1, .int (iI ((sum : Nat) : Int))), (2, .ref (ad rw)), (3, .int (iI ((lf : Nat) : Int))), (4, .int (iI (((ii : Nat) : Int) + 1)))]) hl [1, 2, 3, 4, 0] rfl) (lc_s (lc_s (lc_s (lc_i (show (((lf : Nat) : Int) : Int) = ((wfL val fal lst sum (ii + 1) : Nat) : Int) by rw [wf_out hk hlf]) (lc_i (show ((((ii : Nat) : Int) + 1) : Int) = (((ii + 1) : Nat) : Int) by omega) rfl))))))
        refine n_iconst hx hb dX1_writeFewest_36 ?_
        refine lv_istore (lv' := [(7, .int (iI 0)), (6, .int (iI ((wfL val fal lst sum ii / val (fal ii) : Nat) : Int))), (5, .int (iI (val (fal ii) : Int))), (0, .ref (ad i)), (1, .int (iI ((sum : Nat) : Int))), (2, .ref (ad rw)), (3, .int (iI ((wfL val fal lst sum ii : Nat) : Int))), (4, .int (iI ((ii : Nat) : Int)))]) hx hb dX1_writeFewest_37 hl (by decide) rfl (fun ls hl => ?_)
        have lp10 : ∀ (fu : Nat), ∀ (k : Nat) (lf : Nat), ∀ (w11 : Nat → va_E) (H : Heap) (locs : List Loc), ∀ (ls : Array Slot), wfL val fal lst sum ii / val (fal ii) - k < fu → k ≤ wfL val fal lst sum ii / val (fal ii) → lf + k * val (fal ii) = wfL val fal lst sum ii → wfT lst (val (fal ii)) (wfL val fal lst sum ii / val (fal ii)) (wfL val fal lst sum ii) = k + wfT lst (val (fal ii)) (wfL val fal lst sum ii / val (fal ii) - k) lf → (∀ j, j ≠ rw → w11 j = w j) → w11 i = .inr (1, [.int (iI ((cnt : Nat) : Int)), .ref (ad (i + 1)), .ref (ad (i + 2)), .ref (ad (i + 3))]) → w11 (i + 1) = aI G 8 (fun q => (val q : Int)) → w11 (i + 2) = aI G 8 (fun q => (fal q : Int)) → w11 (i + 3) = aI G 2001 lst → w11 rw = aI G 8 (wfR val fal lst sum row ii) → va_P G.1 vwCl (nL N ad w11) H → va_S (nA N ad s.heap.size) s.heap H locs → lv_has ls 8 [(0, .ref (ad i)), (1, .int (iI ((sum : Nat) : Int))), (2, .ref (ad rw)), (3, .int (iI ((lf : Nat) : Int))), (4, .int (iI ((ii : Nat) : Int))), (5, .int (iI ((val (fal ii) : Nat) : Int))), (6, .int (iI ((wfL val fal lst sum ii / val (fal ii) : Nat) : Int))), (7, .int (iI ((k : Nat) : Int)))] → W p l e ({ frames := 1, cells := 0, slots := 0, locals := 21 } : Room) s m ([.ref (ad i), .int (iI ((sum : Nat) : Int)), .ref (ad rw)] : List Value).toArray below meth cd H locs 0 0 Q (F0 m 39 ls []) := by
          intro fu
          induction fu with
          | zero =>
            intro k lf w11 H locs ls hfu hk1 hlf hT hfr f_o f_v f_f f_l f_r hP hS hl
            exact absurd hfu (Nat.not_lt_zero _)
          | succ fu ih12 =>
            intro k lf w11 H locs ls hfu hk1 hlf hT hfr f_o f_v f_f f_l f_r hP hS hl
            refine lv_iload hx hb dX1_writeFewest_39 (lv_at hl 7 rfl) ?_
            refine lv_iload hx hb dX1_writeFewest_41 (lv_at hl 6 rfl) ?_
            refine n_icmp_ge (tgt := 77) hx hb dX1_writeFewest_43 (by decide) (by omega) (by omega) (fun hc43 => ?_) (fun hc43 => ?_)
            · skip
              exact lp5 k lf _ _ _ _ (by omega) (by rw [hT, show wfL val fal lst sum ii / val (fal ii) - k = 0 by omega]; rfl) hfr f_o f_v f_f f_l f_r hP hS (lv_sub hl [0, 1, 2, 3, 4, 7] rfl)
            · skip
              have hm9 : (k + 1) * val (fal ii) ≤ wfL val fal lst sum ii := (Nat.le_div_iff_mul_le (by omega)).mp (by omega)
              rw [Nat.succ_mul] at hm9
              refine lv_aload_n hx hb dX1_writeFewest_46 rfl (lv_at hl 0 rfl) ?_
              refine n_get hx hb hts u_X1 hown hK hP (by omega) f_o rfl 3 (by decide) (nT_m wf_X1_22) rfl dX1_writeFewest_47 ?_
              refine lv_iload_n hx hb dX1_writeFewest_50 rfl (lv_at hl 3 rfl) ?_
              refine lv_iload hx hb dX1_writeFewest_51 (lv_at hl 5 rfl) ?_
              refine n_isub hx hb dX1_writeFewest_53 ?_
              refine n_iald hx hb hK hP (lf - val (fal ii)) (by omega) f_l (by omega) (by omega) (by decide) dX1_writeFewest_54 ?_
              have ho13 := hlst (lf - val (fal ii)) (by omega)
              refine lv_aload_n hx hb dX1_writeFewest_55 rfl (lv_at hl 0 rfl) ?_
              refine n_get hx hb hts u_X1 hown hK hP (by omega) f_o rfl 3 (by decide) (nT_m wf_X1_22) rfl dX1_writeFewest_56 ?_
              refine lv_iload_n hx hb dX1_writeFewest_59 rfl (lv_at hl 3 rfl) ?_
              refine n_iald hx hb hK hP lf (by omega) f_l (by omega) (by omega) (by decide) dX1_writeFewest_60 ?_
              have ho14 := hlst lf (by omega)
              refine n_iconst hx hb dX1_writeFewest_61 ?_
              refine n_isub hx hb dX1_writeFewest_62 ?_
              refine n_icmp_ne (tgt := 77) hx hb dX1_writeFewest_63 (by decide) (by omega) (by omega) (fun hc63 => ?_) (fun hc63 => ?_)
              · skip
                exact lp5 k lf _ _ _ _ (by omega) (by rw [hT, show wfL val fal lst sum ii / val (fal ii) - k = (wfL val fal lst sum ii / val (fal ii) - (k + 1)) + 1 by omega, wfT_n hc63]; rfl) hfr f_o f_v f_f f_l f_r hP hS (lv_sub hl [0, 1, 2, 3, 4, 7] rfl)
              · skip
                refine lv_iload_n hx hb dX1_writeFewest_66 rfl (lv_at hl 3 rfl) ?_
                refine lv_iload hx hb dX1_writeFewest_67 (lv_at hl 5 rfl) ?_
                refine n_isub hx hb dX1_writeFewest_69 ?_
                refine lv_istore_n (lv' := [(3, .int (iI (((lf : Nat) : Int) - ((val (fal ii) : Nat) : Int)))), (0, .ref (ad i)), (1, .int (iI ((sum : Nat) : Int))), (2, .ref (ad rw)), (4, .int (iI ((ii : Nat) : Int))), (5, .int (iI ((val (fal ii) : Nat) : Int))), (6, .int (iI ((wfL val fal lst sum ii / val (fal ii) : Nat) : Int))), (7, .int (iI ((k : Nat) : Int)))]) hx hb dX1_writeFewest_70 rfl hl (by decide) rfl (fun ls hl => ?_)
                refine lv_iinc (v := iI (((k : Nat) : Int) + 1)) (lv' := [(7, .int (iI (((k : Nat) : Int) + 1))), (3, .int (iI (((lf : Nat) : Int) - ((val (fal ii) : Nat) : Int)))), (0, .ref (ad i)), (1, .int (iI ((sum : Nat) : Int))), (2, .ref (ad rw)), (4, .int (iI ((ii : Nat) : Int))), (5, .int (iI ((val (fal ii) : Nat) : Int))), (6, .int (iI ((wfL val fal lst sum ii / val (fal ii) : Nat) : Int)))]) hx hb dX1_writeFewest_71 hl (k := 7) rfl (by first | exact iI_add _ _ | exact (iI_add _ _).trans (congrArg iI (by omega))) (by decide) rfl (fun ls hl => ?_)
                refine lv_goto (tgt := 39) hx hb dX1_writeFewest_74 (by decide) ?_
                have hm9 : (k + 1) * val (fal ii) = k * val (fal ii) + val (fal ii) := Nat.succ_mul _ _
                have hT9 := hT
                rw [show wfL val fal lst sum ii / val (fal ii) - k = (wfL val fal lst sum ii / val (fal ii) - (k + 1)) + 1 by omega, wfT_y hc63] at hT9
                exact ih12 (k + 1) (lf - val (fal ii)) _ _ _ _ (by omega) (by omega) (by omega) (by omega) hfr f_o f_v f_f f_l f_r hP hS (by first | exact lv_sub hl [2, 3, 4, 1, 5, 6, 7, 0] rfl | exact lv_cast (lv_sub (l' := [(0, .ref (ad i)), (1, .int (iI ((sum : Nat) : Int))), (2, .ref (ad rw)), (3, .int (iI (((lf : Nat) : Int) - ((val (fal ii) : Nat) : Int)))), (4, .int (iI ((ii : Nat) : Int))), (5, .int (iI ((val (fal ii) : Nat) : Int))), (6, .int (iI ((wfL val fal lst sum ii / val (fal ii) : Nat) : Int))), (7, .int (iI (((k : Nat) : Int) + 1)))]) hl [2, 3, 4, 1, 5, 6, 7, 0] rfl) (lc_s (lc_s (lc_s (lc_i (show ((((lf : Nat) : Int) - ((val (fal ii) : Nat) : Int)) : Int) = (((lf - val (fal ii)) : Nat) : Int) by omega) (lc_s (lc_s (lc_s (lc_i (show ((((k : Nat) : Int) + 1) : Int) = (((k + 1) : Nat) : Int) by omega) rfl)))))))))
        exact lp10 (wfL val fal lst sum ii / val (fal ii) - 0 + 1) 0 (wfL val fal lst sum ii) _ _ _ _ (Nat.lt_succ_self _) (Nat.zero_le _) (by omega) (by rw [Nat.zero_add]; rfl) hfr f_o f_v f_f f_l f_r hP hS (by first | exact lv_sub hl [3, 4, 5, 6, 7, 2, 1, 0] rfl | exact lv_cast (lv_sub (l' := [(0, .ref (ad i)), (1, .int (iI ((sum : Nat) : Int))), (2, .ref (ad rw)), (3, .int (iI ((wfL val fal lst sum ii : Nat) : Int))), (4, .int (iI ((ii : Nat) : Int))), (5, .int (iI (val (fal ii) : Int))), (6, .int (iI ((wfL val fal lst sum ii / val (fal ii) : Nat) : Int))), (7, .int (iI 0))]) hl [3, 4, 5, 6, 7, 2, 1, 0] rfl) (lc_s (lc_s (lc_s (lc_i (show (((wfL val fal lst sum ii : Nat) : Int) : Int) = (((wfL val fal lst sum ii) : Nat) : Int) by omega) (lc_s (lc_i (show ((val (fal ii) : Int) : Int) = ((val (fal ii) : Nat) : Int) by omega) (lc_s (lc_i (show (0 : Int) = ((0 : Nat) : Int) by omega) rfl)))))))))
  exact lp1 (cnt - 0 + 1) 0 _ _ _ _ (Nat.lt_succ_self _) (by omega) hfr f_o f_v f_f f_l f_r hP hS (by first | exact lv_sub hl [2, 3, 4, 1, 0] rfl | exact lv_cast (lv_sub (l' := [(0, .ref (ad i)), (1, .int (iI ((sum : Nat) : Int))), (2, .ref (ad rw)), (3, .int (iI ((sum : Nat) : Int))), (4, .int (iI 0))]) hl [2, 3, 4, 1, 0] rfl) (lc_s (lc_s (lc_s (lc_i (show (((sum : Nat) : Int) : Int) = ((wfL val fal lst sum 0 : Nat) : Int) by omega) (lc_i (show (0 : Int) = ((0 : Nat) : Int) by omega) rfl))))))
set_option maxHeartbeats 4000000 in
set_option maxRecDepth 100000 in
theorem c_X1_add_no {l : Launch} {G : nG} {N : Nat} {ad : Nat → Nat} {w : Nat → va_E} {sz : Nat} (i cnt : Nat) (val : Nat → Nat) (z : Int) (hN : i + 3 < N) (hc : cnt ≤ 8) (hz : -2147483648 ≤ z ∧ z < 2147483648) (hval : ∀ k, val k ≤ 1000) (hno : cnt = 8 ∨ ¬ (1 ≤ z ∧ z ≤ 1000) ∨ anyV val z cnt = true) (f_o : w i = .inr (1, [.int (iI ((cnt : Nat) : Int)), .ref (ad (i + 1)), .ref (ad (i + 2)), .ref (ad (i + 3))])) (f_v : w (i + 1) = aI G 8 (fun q => (val q : Int))) : Met l yX1_add wsX1_add ({ frames := 1, cells := 0, slots := 0, locals := 23 }) (va_Pc [.ref (ad i), .int (iI z)] (nB G N ad w sz)) (nRd (.int (iI (-1)))) 0 0 (fun _ => False) := by
  refine n_ent (cc := cX1_add) (maxL := 2) (ret := (some .int)) (by decide) rfl (Nat.le_of_ble_eq_true rfl) ?_
  intro p e s m below meth cd hx hb hr hml hlocks hts hown hnm hsz hP hK hI Q hQ ls hl
  have hown : s.vm.findClass RX1 = some m.cls := hown
  have hl : lv_has ls 2 [(0, .ref (ad i)), (1, .int (iI z))] := hl
  refine lv_aload_n hx hb dX1_add_0 rfl (lv_at hl 0 rfl) ?_
  refine n_get hx hb hts u_X1 hown hK hP (by omega) f_o rfl 0 (by decide) (nT_m wf_X1_9) rfl dX1_add_1 ?_
  refine n_bipush hx hb dX1_add_4 (by decide) ?_
  refine n_icmp_ge (tgt := 28) hx hb dX1_add_6 (by decide) (by omega) (by omega) (fun hc6 => ?_) (fun hc6 => ?_)
  · skip
    refine n_iconst hx hb dX1_add_28 ?_
    exact n_iretR hQ hx hb hr hlocks rfl dX1_add_29
  · skip
    refine n_iconst hx hb dX1_add_9 ?_
    refine lv_iload_n hx hb dX1_add_10 rfl (lv_at hl 1 rfl) ?_
    refine n_sipush hx hb dX1_add_11 (by decide) ?_
    refine n_rdF (va_runSN (As := [.int (iI 1), .int (iI z), .int (iI 1000)]) (rest := []) ⟨hx, hb, hml, hown, hts⟩ (c_X6_within 1 z 1000 (by omega) (by omega) (by omega)) ⟨va_cnB 3 hts (nT_N wc_X6_within) rfl rfl rfl (hK.2 _ (List.mem_of_getElem? (i := 4) rfl)) (hts _ (nT_m wn_X6)) (by decide +kernel) ⟨Nat.le_of_ble_eq_true rfl, Nat.le_of_ble_eq_true rfl⟩, hts _ (nT_m wt_X6_within), trivial⟩ preEq rfl rfl hl.1 rfl (lv_room (Nat.le_of_ble_eq_true rfl)) dX1_add_14 ⟨Nat.zero_le _, Nat.zero_le _⟩) ?_
    refine n_if_eqB (tgt := 28) hx hb dX1_add_17 (by decide) (fun hc17 => ?_) (fun hc17 => ?_)
    · skip
      refine n_iconst hx hb dX1_add_28 ?_
      exact n_iretR hQ hx hb hr hlocks rfl dX1_add_29
    · skip
      refine lv_aload_n hx hb dX1_add_20 rfl (lv_at hl 0 rfl) ?_
      refine lv_iload_n hx hb dX1_add_21 rfl (lv_at hl 1 rfl) ?_
      refine n_rdF (va_runV (As := [.int (iI z)]) (rest := []) ⟨hx, hb, hml, hown, hts⟩ (c_X1_isValue i cnt val z (by omega) (by omega) (by omega) hval f_o f_v) (cwV 1 hts (nT_V wl_X1_41 wi_X1_isValue ws_X1_isValue wn_X1 wc_X1_isValue) rfl rfl rfl (by decide +kernel) ⟨Nat.le_of_ble_eq_true rfl, Nat.le_of_ble_eq_true rfl⟩) (nB.preV hK hI hP (by omega) f_o rfl rfl) rfl rfl hl.1 rfl (lv_room (Nat.le_of_ble_eq_true rfl)) dX1_add_22 ⟨Nat.zero_le _, Nat.zero_le _⟩) ?_
      refine n_if_eqB (tgt := 30) hx hb dX1_add_25 (by decide) (fun hc25 => ?_) (fun hc25 => ?_)
      · skip
        rcases hno with h | h | h
        · omega
        · omega
        · exact absurd h hc25
      · skip
        refine n_iconst hx hb dX1_add_28 ?_
        exact n_iretR hQ hx hb hr hlocks rfl dX1_add_29
set_option maxHeartbeats 4000000 in
set_option maxRecDepth 100000 in
theorem c_X1_add_yes {l : Launch} {G : nG} {N : Nat} {ad : Nat → Nat} {w : Nat → va_E} {sz : Nat} (i cnt : Nat) (val fal : Nat → Nat) (lst : Nat → Int) (v : Nat) (hN : i + 3 < N) (hc : cnt < 8) (hv : 1 ≤ v ∧ v ≤ 1000) (hval : ∀ k, val k ≤ 1000) (hfal : ∀ k, k < cnt → fal k < 8) (hlst : ∀ k, k < 2001 → -1 ≤ lst k ∧ lst k ≤ k) (hno : anyV val v cnt = false) (f_o : w i = .inr (1, [.int (iI ((cnt : Nat) : Int)), .ref (ad (i + 1)), .ref (ad (i + 2)), .ref (ad (i + 3))])) (f_v : w (i + 1) = aI G 8 (fun q => (val q : Int))) (f_f : w (i + 2) = aI G 8 (fun q => (fal q : Int))) (f_l : w (i + 3) = aI G 2001 lst) : Met l yX1_add wsX1_add ({ frames := 1, cells := 0, slots := 0, locals := 23 }) (va_Pc [.ref (ad i), .int (iI ((v : Nat) : Int))] (nB G N ad w sz)) (nPi G N ad sz (fun r u => (∀ j, j ≠ i → j ≠ (i + 1) → j ≠ (i + 2) → j ≠ (i + 3) → u j = w j) ∧ (r = cnt) ∧ (u i = .inr (1, [.int (iI ((cnt + 1 : Nat) : Int)), .ref (ad (i + 1)), .ref (ad (i + 2)), .ref (ad (i + 3))])) ∧ (u (i + 1) = aI G 8 (fun q => ((va_up val cnt v q : Nat) : Int))) ∧ (u (i + 2) = aI G 8 (fun k => (insF fal cnt (insP (va_up val cnt v) fal v cnt) k : Int))) ∧ (u (i + 3) = aI G 2001 (imp lst v (2001 - v))))) 0 0 (nA N ad sz) := by
  refine n_ent (cc := cX1_add) (maxL := 2) (ret := (some .int)) (by decide) rfl (Nat.le_of_ble_eq_true rfl) ?_
  intro p e s m below meth cd hx hb hr hml hlocks hts hown hnm hsz hP hK hI Q hQ ls hl
  have hown : s.vm.findClass RX1 = some m.cls := hown
  subst hsz
  have hJ := hI.J s.heap.size
  have hS : va_S (nA N ad s.heap.size) s.heap s.heap [] := va_S.rf
  have hfr : ∀ j, j ≠ i → j ≠ (i + 1) → j ≠ (i + 2) → j ≠ (i + 3) → w j = w j := fun _ _ _ _ _ => rfl
  have hl : lv_has ls 2 [(0, .ref (ad i)), (1, .int (iI ((v : Nat) : Int)))] := hl
  refine lv_aload_n hx hb dX1_add_0 rfl (lv_at hl 0 rfl) ?_
  refine n_get hx hb hts u_X1 hown hK hP (by omega) f_o rfl 0 (by decide) (nT_m wf_X1_9) rfl dX1_add_1 ?_
  refine n_bipush hx hb dX1_add_4 (by decide) ?_
  refine n_icmp_ge (tgt := 28) hx hb dX1_add_6 (by decide) (by omega) (by omega) (fun hc6 => ?_) (fun hc6 => ?_)
  · skip
    exact absurd hc6 (by omega)
  · skip
    refine n_iconst hx hb dX1_add_9 ?_
    refine lv_iload_n hx hb dX1_add_10 rfl (lv_at hl 1 rfl) ?_
    refine n_sipush hx hb dX1_add_11 (by decide) ?_
    refine n_rdF (va_runSN (As := [.int (iI 1), .int (iI ((v : Nat) : Int)), .int (iI 1000)]) (rest := []) ⟨hx, hb, hml, hown, hts⟩ (c_X6_within 1 ((v : Nat) : Int) 1000 (by omega) (by omega) (by omega)) ⟨va_cnB 3 hts (nT_N wc_X6_within) rfl rfl rfl (hK.2 _ (List.mem_of_getElem? (i := 4) rfl)) (hts _ (nT_m wn_X6)) (by decide +kernel) ⟨Nat.le_of_ble_eq_true rfl, Nat.le_of_ble_eq_true rfl⟩, hts _ (nT_m wt_X6_within), trivial⟩ preEq rfl rfl hl.1 rfl (lv_room (Nat.le_of_ble_eq_true rfl)) dX1_add_14 ⟨Nat.zero_le _, Nat.zero_le _⟩) ?_
    refine n_if_eqB (tgt := 28) hx hb dX1_add_17 (by decide) (fun hc17 => ?_) (fun hc17 => ?_)
    · skip
      exact absurd hc17 (by omega)
    · skip
      refine lv_aload_n hx hb dX1_add_20 rfl (lv_at hl 0 rfl) ?_
      refine lv_iload_n hx hb dX1_add_21 rfl (lv_at hl 1 rfl) ?_
      refine n_rdF (va_runV (As := [.int (iI ((v : Nat) : Int))]) (rest := []) ⟨hx, hb, hml, hown, hts⟩ (c_X1_isValue i cnt val _ (by omega) (by omega) (by omega) hval f_o f_v) (cwV 1 hts (nT_V wl_X1_41 wi_X1_isValue ws_X1_isValue wn_X1 wc_X1_isValue) rfl rfl rfl (by decide +kernel) ⟨Nat.le_of_ble_eq_true rfl, Nat.le_of_ble_eq_true rfl⟩) (nB.preV hK hI hP (by omega) f_o rfl rfl) rfl rfl hl.1 rfl (lv_room (Nat.le_of_ble_eq_true rfl)) dX1_add_22 ⟨Nat.zero_le _, Nat.zero_le _⟩) ?_
      refine n_if_eqB (tgt := 30) hx hb dX1_add_25 (by decide) (fun hc25 => ?_) (fun hc25 => ?_)
      · skip
        refine lv_aload_n hx hb dX1_add_30 rfl (lv_at hl 0 rfl) ?_
        refine n_get hx hb hts u_X1 hown hK hP (by omega) f_o rfl 1 (by decide) (nT_m wf_X1_15) rfl dX1_add_31 ?_
        refine lv_aload_n hx hb dX1_add_34 rfl (lv_at hl 0 rfl) ?_
        refine n_get hx hb hts u_X1 hown hK hP (by omega) f_o rfl 0 (by decide) (nT_m wf_X1_9) rfl dX1_add_35 ?_
        refine lv_iload_n hx hb dX1_add_38 rfl (lv_at hl 1 rfl) ?_
        refine n_iast hx hb hK hJ hP hS cnt (by omega) f_v (by omega) (by omega) (by decide) dX1_add_39 (fun w1 H locs f_v hne2 hP hS => ?_)
        have f_o := (hne2 i (by omega)).trans f_o
        have f_f := (hne2 (i + 2) (by omega)).trans f_f
        have f_l := (hne2 (i + 3) (by omega)).trans f_l
        have hfr : ∀ j, j ≠ i → j ≠ (i + 1) → j ≠ (i + 2) → j ≠ (i + 3) → w1 j = w j := fun j a0 a1 a2 a3 => (hne2 j (by omega)).trans (hfr j a0 a1 a2 a3)
        have f_v := f_v.trans (congrArg (aI G 8) (upN val cnt v))
        have hvu := hval_up (k := cnt) hval (show v ≤ 1000 by omega)
        have e7 : va_up val cnt v cnt = v := va_up_self _ _ _
        refine lv_aload_n hx hb dX1_add_40 rfl (lv_at hl 0 rfl) ?_
        refine lv_aload_n hx hb dX1_add_41 rfl (lv_at hl 0 rfl) ?_
        refine n_get hx hb hts u_X1 hown hK hP (by omega) f_o rfl 0 (by decide) (nT_m wf_X1_9) rfl dX1_add_42 ?_
        refine n_cV (va_runV (As := [.int (iI ((cnt : Nat) : Int))]) (rest := []) ⟨hx, hb, hml, hown, hts⟩ (c_X1_rank i cnt cnt (va_up val cnt v) fal (by omega) (by omega) hvu hfal f_o f_v f_f) (cwV 1 hts (nT_V wl_X1_45 wi_X1_rank ws_X1_rank wn_X1 wc_X1_rank) rfl rfl rfl (by decide +kernel) ⟨Nat.le_of_ble_eq_true rfl, Nat.le_of_ble_eq_true rfl⟩) (nB.preV hK hI hP (by omega) f_o rfl rfl) rfl rfl hl.1 rfl (lv_room (Nat.le_of_ble_eq_true rfl)) dX1_add_45 ⟨Nat.zero_le _, Nat.zero_le _⟩) hS (fun w3 H locs hq5 hP hS => ?_)
        obtain ⟨hne6, hpf⟩ := hq5
        have f_o := (hne6 i (by omega)).trans f_o
        have f_v := (hne6 (i + 1) (by omega)).trans f_v
        have f_l := (hne6 (i + 3) (by omega)).trans f_l
        have f_f : w3 (i + 2) = aI G 8 (fun k => (insF fal cnt (insP (va_up val cnt v) fal v cnt) k : Int)) := (by rw [e7] at hpf; exact hpf)
        have hfr : ∀ j, j ≠ i → j ≠ (i + 1) → j ≠ (i + 2) → j ≠ (i + 3) → w3 j = w j := fun j a0 a1 a2 a3 => (hne6 j (by omega)).trans (hfr j a0 a1 a2 a3)
        refine lv_aload_n hx hb dX1_add_48 rfl (lv_at hl 0 rfl) ?_
        refine lv_iload_n hx hb dX1_add_49 rfl (lv_at hl 1 rfl) ?_
        refine n_cV (va_runV (As := [.int (iI ((v : Nat) : Int))]) (rest := []) ⟨hx, hb, hml, hown, hts⟩ (c_X1_improve i v cnt lst (by omega) hv hlst f_o f_l) (cwV 1 hts (nT_V wl_X1_49 wi_X1_improve ws_X1_improve wn_X1 wc_X1_improve) rfl rfl rfl (by decide +kernel) ⟨Nat.le_of_ble_eq_true rfl, Nat.le_of_ble_eq_true rfl⟩) (nB.preV hK hI hP (by omega) f_o rfl rfl) rfl rfl hl.1 rfl (lv_room (Nat.le_of_ble_eq_true rfl)) dX1_add_50 ⟨Nat.zero_le _, Nat.zero_le _⟩) hS (fun w7 H locs hq9 hP hS => ?_)
        obtain ⟨hne10, hpl⟩ := hq9
        have f_o := (hne10 i (by omega)).trans f_o
        have f_v := (hne10 (i + 1) (by omega)).trans f_v
        have f_f := (hne10 (i + 2) (by omega)).trans f_f
        have f_l : w7 (i + 3) = aI G 2001 (imp lst v (2001 - v)) := hpl
        have hfr : ∀ j, j ≠ i → j ≠ (i + 1) → j ≠ (i + 2) → j ≠ (i + 3) → w7 j = w j := fun j a0 a1 a2 a3 => (hne10 j (by omega)).trans (hfr j a0 a1 a2 a3)
        refine lv_aload_n hx hb dX1_add_53 rfl (lv_at hl 0 rfl) ?_
        refine lv_dup hx hb dX1_add_54 rfl ?_
        refine n_get hx hb hts u_X1 hown hK hP (by omega) f_o rfl 0 (by decide) (nT_m wf_X1_9) rfl dX1_add_55 ?_
        refine n_iconst hx hb dX1_add_58 ?_
        refine n_iadd hx hb dX1_add_59 ?_
        refine n_put hx hb hts u_X1 tyX1 tyX1_ok nmX1 hown hK hJ hP hS (by omega) f_o rfl 0 (by decide) (nT_m wf_X1_9) rfl rfl rfl (Nat.le_of_ble_eq_true rfl) dX1_add_60 (fun w11 H locs f_o hne12 hP hS => ?_)
        have f_o : w11 i = .inr (1, [.int (iI (((cnt : Nat) : Int) + 1)), .ref (ad (i + 1)), .ref (ad (i + 2)), .ref (ad (i + 3))]) := f_o
        have f_v := (hne12 (i + 1) (by omega)).trans f_v
        have f_f := (hne12 (i + 2) (by omega)).trans f_f
        have f_l := (hne12 (i + 3) (by omega)).trans f_l
        have hfr : ∀ j, j ≠ i → j ≠ (i + 1) → j ≠ (i + 2) → j ≠ (i + 3) → w11 j = w j := fun j a0 a1 a2 a3 => (hne12 j (by omega)).trans (hfr j a0 a1 a2 a3)
        refine lv_aload_n hx hb dX1_add_63 rfl (lv_at hl 0 rfl) ?_
        refine n_get hx hb hts u_X1 hown hK hP (by omega) f_o rfl 0 (by decide) (nT_m wf_X1_9) rfl dX1_add_64 ?_
        refine n_iconst hx hb dX1_add_67 ?_
        refine n_isub hx hb dX1_add_68 ?_
        refine n_iretP hQ hx hb hr hlocks hP hS dX1_add_69 ?_
        exact ⟨hfr, by omega, f_o, f_v, f_f, f_l⟩
      · skip
        exact absurd hc25 (by rw [hno]; decide)
set_option maxHeartbeats 4000000 in
set_option maxRecDepth 100000 in
theorem c_X2_add_no {l : Launch} {G : nG} {N : Nat} {ad : Nat → Nat} {w : Nat → va_E} {sz : Nat} (i n : Nat) (a b c d : Int) (hN : i + 4 < N) (hn : n = 20) (f_e : w i = .inr (2, [.int (iI ((n : Nat) : Int)), .ref (ad (i + 1)), .ref (ad (i + 2)), .ref (ad (i + 3)), .ref (ad (i + 4))])) : Met l yX2_add wsX2_add ({ frames := 0, cells := 0, slots := 0, locals := 0 }) (va_Pc [.ref (ad i), .int (iI a), .int (iI b), .int (iI c), .int (iI d)] (nB G N ad w sz)) (nRd (.int (iI (-1)))) 0 0 (fun _ => False) := by
  refine n_ent (cc := cX2_add) (maxL := 5) (ret := (some .int)) (by decide) rfl (Nat.le_of_ble_eq_true rfl) ?_
  intro p e s m below meth cd hx hb hr hml hlocks hts hown hnm hsz hP hK hI Q hQ ls hl
  have hown : s.vm.findClass RX2 = some m.cls := hown
  have hl : lv_has ls 5 [(0, .ref (ad i)), (1, .int (iI a)), (2, .int (iI b)), (3, .int (iI c)), (4, .int (iI d))] := hl
  refine lv_aload_n hx hb dX2_add_0 rfl (lv_at hl 0 rfl) ?_
  refine n_get hx hb hts u_X2 hown hK hP (by omega) f_e rfl 0 (by decide) (nT_m wf_X2_9) rfl dX2_add_1 ?_
  refine n_bipush hx hb dX2_add_4 (by decide) ?_
  refine n_icmp_lt (tgt := 11) hx hb dX2_add_6 (by decide) (by omega) (by omega) (fun hc6 => ?_) (fun hc6 => ?_)
  · skip
    exact absurd hc6 (by omega)
  · skip
    refine n_iconst hx hb dX2_add_9 ?_
    exact n_iretR hQ hx hb hr hlocks rfl dX2_add_10
set_option maxHeartbeats 4000000 in
set_option maxRecDepth 100000 in
theorem c_X2_add_yes {l : Launch} {G : nG} {N : Nat} {ad : Nat → Nat} {w : Nat → va_E} {sz : Nat} (i n : Nat) (a b c d : Nat) (pr sy co nu : Nat → Nat) (hN : i + 4 < N) (hn : n < 20) (f_e : w i = .inr (2, [.int (iI ((n : Nat) : Int)), .ref (ad (i + 1)), .ref (ad (i + 2)), .ref (ad (i + 3)), .ref (ad (i + 4))])) (f_ep : w (i + 1) = aI G 20 (fun q => (pr q : Int))) (f_es : w (i + 2) = aI G 20 (fun q => (sy q : Int))) (f_ec : w (i + 3) = aI G 20 (fun q => (co q : Int))) (f_en : w (i + 4) = aI G 20 (fun q => (nu q : Int))) : Met l yX2_add wsX2_add ({ frames := 0, cells := 0, slots := 0, locals := 0 }) (va_Pc [.ref (ad i), .int (iI ((a : Nat) : Int)), .int (iI ((b : Nat) : Int)), .int (iI ((c : Nat) : Int)), .int (iI ((d : Nat) : Int))] (nB G N ad w sz)) (nPi G N ad sz (fun r u => (∀ j, j ≠ i → j ≠ (i + 1) → j ≠ (i + 2) → j ≠ (i + 3) → j ≠ (i + 4) → u j = w j) ∧ (r = n + 1) ∧ (u i = .inr (2, [.int (iI ((n + 1 : Nat) : Int)), .ref (ad (i + 1)), .ref (ad (i + 2)), .ref (ad (i + 3)), .ref (ad (i + 4))])) ∧ (u (i + 1) = aI G 20 (fun q => ((va_up pr n a q : Nat) : Int))) ∧ (u (i + 2) = aI G 20 (fun q => ((va_up sy n b q : Nat) : Int))) ∧ (u (i + 3) = aI G 20 (fun q => ((va_up co n c q : Nat) : Int))) ∧ (u (i + 4) = aI G 20 (fun q => ((va_up nu n d q : Nat) : Int))))) 0 0 (nA N ad sz) := by
  refine n_ent (cc := cX2_add) (maxL := 5) (ret := (some .int)) (by decide) rfl (Nat.le_of_ble_eq_true rfl) ?_
  intro p e s m below meth cd hx hb hr hml hlocks hts hown hnm hsz hP hK hI Q hQ ls hl
  have hown : s.vm.findClass RX2 = some m.cls := hown
  subst hsz
  have hJ := hI.J s.heap.size
  have hS : va_S (nA N ad s.heap.size) s.heap s.heap [] := va_S.rf
  have hfr : ∀ j, j ≠ i → j ≠ (i + 1) → j ≠ (i + 2) → j ≠ (i + 3) → j ≠ (i + 4) → w j = w j := fun _ _ _ _ _ _ => rfl
  have hl : lv_has ls 5 [(0, .ref (ad i)), (1, .int (iI ((a : Nat) : Int))), (2, .int (iI ((b : Nat) : Int))), (3, .int (iI ((c : Nat) : Int))), (4, .int (iI ((d : Nat) : Int)))] := hl
  refine lv_aload_n hx hb dX2_add_0 rfl (lv_at hl 0 rfl) ?_
  refine n_get hx hb hts u_X2 hown hK hP (by omega) f_e rfl 0 (by decide) (nT_m wf_X2_9) rfl dX2_add_1 ?_
  refine n_bipush hx hb dX2_add_4 (by decide) ?_
  refine n_icmp_lt (tgt := 11) hx hb dX2_add_6 (by decide) (by omega) (by omega) (fun hc6 => ?_) (fun hc6 => ?_)
  · skip
    refine lv_aload_n hx hb dX2_add_11 rfl (lv_at hl 0 rfl) ?_
    refine n_get hx hb hts u_X2 hown hK hP (by omega) f_e rfl 1 (by decide) (nT_m wf_X2_15) rfl dX2_add_12 ?_
    refine lv_aload_n hx hb dX2_add_15 rfl (lv_at hl 0 rfl) ?_
    refine n_get hx hb hts u_X2 hown hK hP (by omega) f_e rfl 0 (by decide) (nT_m wf_X2_9) rfl dX2_add_16 ?_
    refine lv_iload_n hx hb dX2_add_19 rfl (lv_at hl 1 rfl) ?_
    refine n_iast hx hb hK hJ hP hS n (by omega) f_ep (by omega) (by omega) (by decide) dX2_add_20 (fun w1 H locs f_ep hne2 hP hS => ?_)
    have f_e := (hne2 i (by omega)).trans f_e
    have f_es := (hne2 (i + 2) (by omega)).trans f_es
    have f_ec := (hne2 (i + 3) (by omega)).trans f_ec
    have f_en := (hne2 (i + 4) (by omega)).trans f_en
    have hfr : ∀ j, j ≠ i → j ≠ (i + 1) → j ≠ (i + 2) → j ≠ (i + 3) → j ≠ (i + 4) → w1 j = w j := fun j a0 a1 a2 a3 a4 => (hne2 j (by omega)).trans (hfr j a0 a1 a2 a3 a4)
    have f_ep := f_ep.trans (congrArg (aI G 20) (upN pr n a))
    refine lv_aload_n hx hb dX2_add_21 rfl (lv_at hl 0 rfl) ?_
    refine n_get hx hb hts u_X2 hown hK hP (by omega) f_e rfl 2 (by decide) (nT_m wf_X2_19) rfl dX2_add_22 ?_
    refine lv_aload_n hx hb dX2_add_25 rfl (lv_at hl 0 rfl) ?_
    refine n_get hx hb hts u_X2 hown hK hP (by omega) f_e rfl 0 (by decide) (nT_m wf_X2_9) rfl dX2_add_26 ?_
    refine lv_iload_n hx hb dX2_add_29 rfl (lv_at hl 2 rfl) ?_
    refine n_iast hx hb hK hJ hP hS n (by omega) f_es (by omega) (by omega) (by decide) dX2_add_30 (fun w3 H locs f_es hne4 hP hS => ?_)
    have f_e := (hne4 i (by omega)).trans f_e
    have f_ep := (hne4 (i + 1) (by omega)).trans f_ep
    have f_ec := (hne4 (i + 3) (by omega)).trans f_ec
    have f_en := (hne4 (i + 4) (by omega)).trans f_en
    have hfr : ∀ j, j ≠ i → j ≠ (i + 1) → j ≠ (i + 2) → j ≠ (i + 3) → j ≠ (i + 4) → w3 j = w j := fun j a0 a1 a2 a3 a4 => (hne4 j (by omega)).trans (hfr j a0 a1 a2 a3 a4)
    have f_es := f_es.trans (congrArg (aI G 20) (upN sy n b))
    refine lv_aload_n hx hb dX2_add_31 rfl (lv_at hl 0 rfl) ?_
    refine n_get hx hb hts u_X2 hown hK hP (by omega) f_e rfl 3 (by decide) (nT_m wf_X2_22) rfl dX2_add_32 ?_
    refine lv_aload_n hx hb dX2_add_35 rfl (lv_at hl 0 rfl) ?_
    refine n_get hx hb hts u_X2 hown hK hP (by omega) f_e rfl 0 (by decide) (nT_m wf_X2_9) rfl dX2_add_36 ?_
    refine lv_iload_n hx hb dX2_add_39 rfl (lv_at hl 3 rfl) ?_
    refine n_iast hx hb hK hJ hP hS n (by omega) f_ec (by omega) (by omega) (by decide) dX2_add_40 (fun w5 H locs f_ec hne6 hP hS => ?_)
    have f_e := (hne6 i (by omega)).trans f_e
    have f_ep := (hne6 (i + 1) (by omega)).trans f_ep
    have f_es := (hne6 (i + 2) (by omega)).trans f_es
    have f_en := (hne6 (i + 4) (by omega)).trans f_en
    have hfr : ∀ j, j ≠ i → j ≠ (i + 1) → j ≠ (i + 2) → j ≠ (i + 3) → j ≠ (i + 4) → w5 j = w j := fun j a0 a1 a2 a3 a4 => (hne6 j (by omega)).trans (hfr j a0 a1 a2 a3 a4)
    have f_ec := f_ec.trans (congrArg (aI G 20) (upN co n c))
    refine lv_aload_n hx hb dX2_add_41 rfl (lv_at hl 0 rfl) ?_
    refine n_get hx hb hts u_X2 hown hK hP (by omega) f_e rfl 4 (by decide) (nT_m wf_X2_25) rfl dX2_add_42 ?_
    refine lv_aload_n hx hb dX2_add_45 rfl (lv_at hl 0 rfl) ?_
    refine n_get hx hb hts u_X2 hown hK hP (by omega) f_e rfl 0 (by decide) (nT_m wf_X2_9) rfl dX2_add_46 ?_
    refine lv_iload hx hb dX2_add_49 (lv_at hl 4 rfl) ?_
    refine n_iast hx hb hK hJ hP hS n (by omega) f_en (by omega) (by omega) (by decide) dX2_add_51 (fun w7 H locs f_en hne8 hP hS => ?_)
    have f_e := (hne8 i (by omega)).trans f_e
    have f_ep := (hne8 (i + 1) (by omega)).trans f_ep
    have f_es := (hne8 (i + 2) (by omega)).trans f_es
    have f_ec := (hne8 (i + 3) (by omega)).trans f_ec
    have hfr : ∀ j, j ≠ i → j ≠ (i + 1) → j ≠ (i + 2) → j ≠ (i + 3) → j ≠ (i + 4) → w7 j = w j := fun j a0 a1 a2 a3 a4 => (hne8 j (by omega)).trans (hfr j a0 a1 a2 a3 a4)
    have f_en := f_en.trans (congrArg (aI G 20) (upN nu n d))
    refine lv_aload_n hx hb dX2_add_52 rfl (lv_at hl 0 rfl) ?_
    refine lv_dup hx hb dX2_add_53 rfl ?_
    refine n_get hx hb hts u_X2 hown hK hP (by omega) f_e rfl 0 (by decide) (nT_m wf_X2_9) rfl dX2_add_54 ?_
    refine n_iconst hx hb dX2_add_57 ?_
    refine n_iadd hx hb dX2_add_58 ?_
    refine n_put hx hb hts u_X2 tyX2 tyX2_ok nmX2 hown hK hJ hP hS (by omega) f_e rfl 0 (by decide) (nT_m wf_X2_9) rfl rfl rfl (Nat.le_of_ble_eq_true rfl) dX2_add_59 (fun w9 H locs f_e hne10 hP hS => ?_)
    have f_e : w9 i = .inr (2, [.int (iI (((n : Nat) : Int) + 1)), .ref (ad (i + 1)), .ref (ad (i + 2)), .ref (ad (i + 3)), .ref (ad (i + 4))]) := f_e
    have f_ep := (hne10 (i + 1) (by omega)).trans f_ep
    have f_es := (hne10 (i + 2) (by omega)).trans f_es
    have f_ec := (hne10 (i + 3) (by omega)).trans f_ec
    have f_en := (hne10 (i + 4) (by omega)).trans f_en
    have hfr : ∀ j, j ≠ i → j ≠ (i + 1) → j ≠ (i + 2) → j ≠ (i + 3) → j ≠ (i + 4) → w9 j = w j := fun j a0 a1 a2 a3 a4 => (hne10 j (by omega)).trans (hfr j a0 a1 a2 a3 a4)
    refine lv_aload_n hx hb dX2_add_62 rfl (lv_at hl 0 rfl) ?_
    refine n_get hx hb hts u_X2 hown hK hP (by omega) f_e rfl 0 (by decide) (nT_m wf_X2_9) rfl dX2_add_63 ?_
    refine n_iretP hQ hx hb hr hlocks hP hS dX2_add_66 ?_
    exact ⟨hfr, by omega, f_e, f_ep, f_es, f_ec, f_en⟩
  · skip
    exact absurd hc6 (by omega)
set_option maxHeartbeats 4000000 in
set_option maxRecDepth 100000 in
theorem c_X3_isGood {l : Launch} {G : nG} {N : Nat} {ad : Nat → Nat} {w : Nat → va_E} {sz : Nat} (i gn : Nat) (z : Int) (hN : i + 2 < N) (hc : gn ≤ 14) (hz : -2147483648 ≤ z ∧ z < 2147483648) (f_g : w i = .inr (3, [.int (iI ((gn : Nat) : Int)), .ref (ad (i + 1)), .ref (ad (i + 2))])) : Met l yX3_isGood wsX3_isGood ({ frames := 1, cells := 0, slots := 0, locals := 22 }) (va_Pc [.ref (ad i), .int (iI z)] (nB G N ad w sz)) (nRd (.int (iI (bI (0 ≤ z ∧ z < gn))))) 0 0 (fun _ => False) := by
  refine n_ent (cc := cX3_isGood) (maxL := 2) (ret := (some .boolean)) (by decide) rfl (Nat.le_of_ble_eq_true rfl) ?_
  intro p e s m below meth cd hx hb hr hml hlocks hts hown hnm hsz hP hK hI Q hQ ls hl
  have hown : s.vm.findClass RX3 = some m.cls := hown
  have hl : lv_has ls 2 [(0, .ref (ad i)), (1, .int (iI z))] := hl
  refine n_iconst hx hb dX3_isGood_0 ?_
  refine lv_iload_n hx hb dX3_isGood_1 rfl (lv_at hl 1 rfl) ?_
  refine lv_aload_n hx hb dX3_isGood_2 rfl (lv_at hl 0 rfl) ?_
  refine n_get hx hb hts u_X3 hown hK hP (by omega) f_g rfl 0 (by decide) (nT_m wf_X3_9) rfl dX3_isGood_3 ?_
  refine n_iconst hx hb dX3_isGood_6 ?_
  refine n_isub hx hb dX3_isGood_7 ?_
  refine n_rdF (va_runSN (As := [.int (iI 0), .int (iI z), .int (iI (((gn : Nat) : Int) - 1))]) (rest := []) ⟨hx, hb, hml, hown, hts⟩ (c_X6_within 0 z (((gn : Nat) : Int) - 1) (by omega) (by omega) (by omega)) ⟨va_cnB 3 hts (nT_N wc_X6_within) rfl rfl rfl (hK.2 _ (List.mem_of_getElem? (i := 5) rfl)) (hts _ (nT_m wn_X6)) (by decide +kernel) ⟨Nat.le_of_ble_eq_true rfl, Nat.le_of_ble_eq_true rfl⟩, hts _ (nT_m wt_X6_within), trivial⟩ preEq rfl rfl hl.1 rfl (lv_room (Nat.le_of_ble_eq_true rfl)) dX3_isGood_8 ⟨Nat.zero_le _, Nat.zero_le _⟩) ?_
  exact n_zretR hQ hx hb hr hlocks (bI_c (by omega)) dX3_isGood_11
set_option maxHeartbeats 4000000 in
set_option maxRecDepth 100000 in
theorem c_X3_add_no {l : Launch} {G : nG} {N : Nat} {ad : Nat → Nat} {w : Nat → va_E} {sz : Nat} (i gn : Nat) (a b : Int) (hN : i + 2 < N) (hc : gn ≤ 14) (ha : -2147483648 ≤ a ∧ a < 2147483648) (hb_ : -2147483648 ≤ b ∧ b < 2147483648) (hno : gn = 14 ∨ ¬ (1 ≤ a ∧ a ≤ 10000) ∨ ¬ (0 ≤ b ∧ b ≤ 100)) (f_g : w i = .inr (3, [.int (iI ((gn : Nat) : Int)), .ref (ad (i + 1)), .ref (ad (i + 2))])) : Met l yX3_add wsX3_add ({ frames := 1, cells := 0, slots := 0, locals := 22 }) (va_Pc [.ref (ad i), .int (iI a), .int (iI b)] (nB G N ad w sz)) (nRd (.int (iI (-1)))) 0 0 (fun _ => False) := by
  refine n_ent (cc := cX3_add) (maxL := 3) (ret := (some .int)) (by decide) rfl (Nat.le_of_ble_eq_true rfl) ?_
  intro p e s m below meth cd hx hb hr hml hlocks hts hown hnm hsz hP hK hI Q hQ ls hl
  have hown : s.vm.findClass RX3 = some m.cls := hown
  have hl : lv_has ls 3 [(0, .ref (ad i)), (1, .int (iI a)), (2, .int (iI b))] := hl
  refine lv_aload_n hx hb dX3_add_0 rfl (lv_at hl 0 rfl) ?_
  refine n_get hx hb hts u_X3 hown hK hP (by omega) f_g rfl 0 (by decide) (nT_m wf_X3_9) rfl dX3_add_1 ?_
  refine n_bipush hx hb dX3_add_4 (by decide) ?_
  refine n_icmp_ge (tgt := 30) hx hb dX3_add_6 (by decide) (by omega) (by omega) (fun hc6 => ?_) (fun hc6 => ?_)
  · skip
    refine n_iconst hx hb dX3_add_30 ?_
    exact n_iretR hQ hx hb hr hlocks rfl dX3_add_31
  · skip
    refine n_iconst hx hb dX3_add_9 ?_
    refine lv_iload_n hx hb dX3_add_10 rfl (lv_at hl 1 rfl) ?_
    refine n_sipush hx hb dX3_add_11 (by decide) ?_
    refine n_rdF (va_runSN (As := [.int (iI 1), .int (iI a), .int (iI 10000)]) (rest := []) ⟨hx, hb, hml, hown, hts⟩ (c_X6_within 1 a 10000 (by omega) (by omega) (by omega)) ⟨va_cnB 3 hts (nT_N wc_X6_within) rfl rfl rfl (hK.2 _ (List.mem_of_getElem? (i := 5) rfl)) (hts _ (nT_m wn_X6)) (by decide +kernel) ⟨Nat.le_of_ble_eq_true rfl, Nat.le_of_ble_eq_true rfl⟩, hts _ (nT_m wt_X6_within), trivial⟩ preEq rfl rfl hl.1 rfl (lv_room (Nat.le_of_ble_eq_true rfl)) dX3_add_14 ⟨Nat.zero_le _, Nat.zero_le _⟩) ?_
    refine n_if_eqB (tgt := 30) hx hb dX3_add_17 (by decide) (fun hc17 => ?_) (fun hc17 => ?_)
    · skip
      refine n_iconst hx hb dX3_add_30 ?_
      exact n_iretR hQ hx hb hr hlocks rfl dX3_add_31
    · skip
      refine n_iconst hx hb dX3_add_20 ?_
      refine lv_iload_n hx hb dX3_add_21 rfl (lv_at hl 2 rfl) ?_
      refine n_bipush hx hb dX3_add_22 (by decide) ?_
      refine n_rdF (va_runSN (As := [.int (iI 0), .int (iI b), .int (iI 100)]) (rest := []) ⟨hx, hb, hml, hown, hts⟩ (c_X6_within 0 b 100 (by omega) (by omega) (by omega)) ⟨va_cnB 3 hts (nT_N wc_X6_within) rfl rfl rfl (hK.2 _ (List.mem_of_getElem? (i := 5) rfl)) (hts _ (nT_m wn_X6)) (by decide +kernel) ⟨Nat.le_of_ble_eq_true rfl, Nat.le_of_ble_eq_true rfl⟩, hts _ (nT_m wt_X6_within), trivial⟩ preEq rfl rfl hl.1 rfl (lv_room (Nat.le_of_ble_eq_true rfl)) dX3_add_24 ⟨Nat.zero_le _, Nat.zero_le _⟩) ?_
      refine n_if_neB (tgt := 32) hx hb dX3_add_27 (by decide) (fun hc27 => ?_) (fun hc27 => ?_)
      · skip
        omega
      · skip
        refine n_iconst hx hb dX3_add_30 ?_
        exact n_iretR hQ hx hb hr hlocks rfl dX3_add_31
set_option maxHeartbeats 4000000 in
set_option maxRecDepth 100000 in
theorem c_X3_add_yes {l : Launch} {G : nG} {N : Nat} {ad : Nat → Nat} {w : Nat → va_E} {sz : Nat} (i gn : Nat) (gp gt : Nat → Nat) (a b : Nat) (hN : i + 2 < N) (hc : gn < 14) (ha : 1 ≤ a ∧ a ≤ 10000) (hb_ : b ≤ 100) (hgp : ∀ k, gp k ≤ 10000) (hgt : ∀ k, gt k ≤ 100) (f_g : w i = .inr (3, [.int (iI ((gn : Nat) : Int)), .ref (ad (i + 1)), .ref (ad (i + 2))])) (f_gp : w (i + 1) = aI G 14 (fun q => (gp q : Int))) (f_gt : w (i + 2) = aI G 14 (fun q => (gt q : Int))) : Met l yX3_add wsX3_add ({ frames := 1, cells := 0, slots := 0, locals := 22 }) (va_Pc [.ref (ad i), .int (iI ((a : Nat) : Int)), .int (iI ((b : Nat) : Int))] (nB G N ad w sz)) (nPi G N ad sz (fun r u => (∀ j, j ≠ i → j ≠ (i + 1) → j ≠ (i + 2) → u j = w j) ∧ (r = gn) ∧ (u i = .inr (3, [.int (iI ((gn + 1 : Nat) : Int)), .ref (ad (i + 1)), .ref (ad (i + 2))])) ∧ (u (i + 1) = aI G 14 (fun q => ((va_up gp gn a q : Nat) : Int))) ∧ (u (i + 2) = aI G 14 (fun q => ((va_up gt gn b q : Nat) : Int))))) 0 0 (nA N ad sz) := by
  refine n_ent (cc := cX3_add) (maxL := 3) (ret := (some .int)) (by decide) rfl (Nat.le_of_ble_eq_true rfl) ?_
  intro p e s m below meth cd hx hb hr hml hlocks hts hown hnm hsz hP hK hI Q hQ ls hl
  have hown : s.vm.findClass RX3 = some m.cls := hown
  subst hsz
  have hJ := hI.J s.heap.size
  have hS : va_S (nA N ad s.heap.size) s.heap s.heap [] := va_S.rf
  have hfr : ∀ j, j ≠ i → j ≠ (i + 1) → j ≠ (i + 2) → w j = w j := fun _ _ _ _ => rfl
  have hl : lv_has ls 3 [(0, .ref (ad i)), (1, .int (iI ((a : Nat) : Int))), (2, .int (iI ((b : Nat) : Int)))] := hl
  refine lv_aload_n hx hb dX3_add_0 rfl (lv_at hl 0 rfl) ?_
  refine n_get hx hb hts u_X3 hown hK hP (by omega) f_g rfl 0 (by decide) (nT_m wf_X3_9) rfl dX3_add_1 ?_
  refine n_bipush hx hb dX3_add_4 (by decide) ?_
  refine n_icmp_ge (tgt := 30) hx hb dX3_add_6 (by decide) (by omega) (by omega) (fun hc6 => ?_) (fun hc6 => ?_)
  · skip
    exact absurd hc6 (by omega)
  · skip
    refine n_iconst hx hb dX3_add_9 ?_
    refine lv_iload_n hx hb dX3_add_10 rfl (lv_at hl 1 rfl) ?_
    refine n_sipush hx hb dX3_add_11 (by decide) ?_
    refine n_rdF (va_runSN (As := [.int (iI 1), .int (iI ((a : Nat) : Int)), .int (iI 10000)]) (rest := []) ⟨hx, hb, hml, hown, hts⟩ (c_X6_within 1 ((a : Nat) : Int) 10000 (by omega) (by omega) (by omega)) ⟨va_cnB 3 hts (nT_N wc_X6_within) rfl rfl rfl (hK.2 _ (List.mem_of_getElem? (i := 5) rfl)) (hts _ (nT_m wn_X6)) (by decide +kernel) ⟨Nat.le_of_ble_eq_true rfl, Nat.le_of_ble_eq_true rfl⟩, hts _ (nT_m wt_X6_within), trivial⟩ preEq rfl rfl hl.1 rfl (lv_room (Nat.le_of_ble_eq_true rfl)) dX3_add_14 ⟨Nat.zero_le _, Nat.zero_le _⟩) ?_
    refine n_if_eqB (tgt := 30) hx hb dX3_add_17 (by decide) (fun hc17 => ?_) (fun hc17 => ?_)
    · skip
      exact absurd hc17 (by omega)
    · skip
      refine n_iconst hx hb dX3_add_20 ?_
      refine lv_iload_n hx hb dX3_add_21 rfl (lv_at hl 2 rfl) ?_
      refine n_bipush hx hb dX3_add_22 (by decide) ?_
      refine n_rdF (va_runSN (As := [.int (iI 0), .int (iI ((b : Nat) : Int)), .int (iI 100)]) (rest := []) ⟨hx, hb, hml, hown, hts⟩ (c_X6_within 0 ((b : Nat) : Int) 100 (by omega) (by omega) (by omega)) ⟨va_cnB 3 hts (nT_N wc_X6_within) rfl rfl rfl (hK.2 _ (List.mem_of_getElem? (i := 5) rfl)) (hts _ (nT_m wn_X6)) (by decide +kernel) ⟨Nat.le_of_ble_eq_true rfl, Nat.le_of_ble_eq_true rfl⟩, hts _ (nT_m wt_X6_within), trivial⟩ preEq rfl rfl hl.1 rfl (lv_room (Nat.le_of_ble_eq_true rfl)) dX3_add_24 ⟨Nat.zero_le _, Nat.zero_le _⟩) ?_
      refine n_if_neB (tgt := 32) hx hb dX3_add_27 (by decide) (fun hc27 => ?_) (fun hc27 => ?_)
      · skip
        refine lv_aload_n hx hb dX3_add_32 rfl (lv_at hl 0 rfl) ?_
        refine n_get hx hb hts u_X3 hown hK hP (by omega) f_g rfl 1 (by decide) (nT_m wf_X3_15) rfl dX3_add_33 ?_
        refine lv_aload_n hx hb dX3_add_36 rfl (lv_at hl 0 rfl) ?_
        refine n_get hx hb hts u_X3 hown hK hP (by omega) f_g rfl 0 (by decide) (nT_m wf_X3_9) rfl dX3_add_37 ?_
        refine lv_iload_n hx hb dX3_add_40 rfl (lv_at hl 1 rfl) ?_
        refine n_iast hx hb hK hJ hP hS gn (by omega) f_gp (by omega) (by omega) (by decide) dX3_add_41 (fun w1 H locs f_gp hne2 hP hS => ?_)
        have f_g := (hne2 i (by omega)).trans f_g
        have f_gt := (hne2 (i + 2) (by omega)).trans f_gt
        have hfr : ∀ j, j ≠ i → j ≠ (i + 1) → j ≠ (i + 2) → w1 j = w j := fun j a0 a1 a2 => (hne2 j (by omega)).trans (hfr j a0 a1 a2)
        have f_gp := f_gp.trans (congrArg (aI G 14) (upN gp gn a))
        refine lv_aload_n hx hb dX3_add_42 rfl (lv_at hl 0 rfl) ?_
        refine n_get hx hb hts u_X3 hown hK hP (by omega) f_g rfl 2 (by decide) (nT_m wf_X3_19) rfl dX3_add_43 ?_
        refine lv_aload_n hx hb dX3_add_46 rfl (lv_at hl 0 rfl) ?_
        refine n_get hx hb hts u_X3 hown hK hP (by omega) f_g rfl 0 (by decide) (nT_m wf_X3_9) rfl dX3_add_47 ?_
        refine lv_iload_n hx hb dX3_add_50 rfl (lv_at hl 2 rfl) ?_
        refine n_iast hx hb hK hJ hP hS gn (by omega) f_gt (by omega) (by omega) (by decide) dX3_add_51 (fun w3 H locs f_gt hne4 hP hS => ?_)
        have f_g := (hne4 i (by omega)).trans f_g
        have f_gp := (hne4 (i + 1) (by omega)).trans f_gp
        have hfr : ∀ j, j ≠ i → j ≠ (i + 1) → j ≠ (i + 2) → w3 j = w j := fun j a0 a1 a2 => (hne4 j (by omega)).trans (hfr j a0 a1 a2)
        have f_gt := f_gt.trans (congrArg (aI G 14) (upN gt gn b))
        refine lv_aload_n hx hb dX3_add_52 rfl (lv_at hl 0 rfl) ?_
        refine lv_dup hx hb dX3_add_53 rfl ?_
        refine n_get hx hb hts u_X3 hown hK hP (by omega) f_g rfl 0 (by decide) (nT_m wf_X3_9) rfl dX3_add_54 ?_
        refine n_iconst hx hb dX3_add_57 ?_
        refine n_iadd hx hb dX3_add_58 ?_
        refine n_put hx hb hts u_X3 tyX3 tyX3_ok nmX3 hown hK hJ hP hS (by omega) f_g rfl 0 (by decide) (nT_m wf_X3_9) rfl rfl rfl (Nat.le_of_ble_eq_true rfl) dX3_add_59 (fun w5 H locs f_g hne6 hP hS => ?_)
        have f_g : w5 i = .inr (3, [.int (iI (((gn : Nat) : Int) + 1)), .ref (ad (i + 1)), .ref (ad (i + 2))]) := f_g
        have f_gp := (hne6 (i + 1) (by omega)).trans f_gp
        have f_gt := (hne6 (i + 2) (by omega)).trans f_gt
        have hfr : ∀ j, j ≠ i → j ≠ (i + 1) → j ≠ (i + 2) → w5 j = w j := fun j a0 a1 a2 => (hne6 j (by omega)).trans (hfr j a0 a1 a2)
        refine lv_aload_n hx hb dX3_add_62 rfl (lv_at hl 0 rfl) ?_
        refine n_get hx hb hts u_X3 hown hK hP (by omega) f_g rfl 0 (by decide) (nT_m wf_X3_9) rfl dX3_add_63 ?_
        refine n_iconst hx hb dX3_add_66 ?_
        refine n_isub hx hb dX3_add_67 ?_
        refine n_iretP hQ hx hb hr hlocks hP hS dX3_add_68 ?_
        exact ⟨hfr, by omega, f_g, f_gp, f_gt⟩
      · skip
        exact absurd hc27 (by omega)
set_option maxHeartbeats 4000000 in
set_option maxRecDepth 100000 in
theorem c_X5_countsOf {l : Launch} {G : nG} {N : Nat} {ad : Nat → Nat} {w : Nat → va_E} {sz : Nat} (t sa sc tk sy : Nat) (hN : t + 8 < N) (hs : sy < 2) (f_t : w t = .inr (5, [.ref (ad (t + 1)), .ref (ad (t + 2)), .ref (ad (t + 3)), .ref (ad (t + 4)), .int (iI ((sa : Nat) : Int)), .long (jI ((sc : Nat) : Int)), .long (jI ((tk : Nat) : Int))])) : Met l yX5_countsOf wsX5_countsOf ({ frames := 0, cells := 0, slots := 0, locals := 0 }) (va_Pc [.ref (ad t), .int (iI ((sy : Nat) : Int))] (nB G N ad w sz)) (nRd (.ref (ad (t + 1 + sy)))) 0 0 (fun _ => False) := by
  refine n_ent (cc := cX5_countsOf) (maxL := 2) (ret := (some (.array .int))) (by decide) rfl (Nat.le_of_ble_eq_true rfl) ?_
  intro p e s m below meth cd hx hb hr hml hlocks hts hown hnm hsz hP hK hI Q hQ ls hl
  have hown : s.vm.findClass RX5 = some m.cls := hown
  have hl : lv_has ls 2 [(0, .ref (ad t)), (1, .int (iI ((sy : Nat) : Int)))] := hl
  refine lv_iload_n hx hb dX5_countsOf_0 rfl (lv_at hl 1 rfl) ?_
  refine n_if_ne (tgt := 11) hx hb dX5_countsOf_1 (by decide) (by omega) (fun hc1 => ?_) (fun hc1 => ?_)
  · skip
    refine lv_aload_n hx hb dX5_countsOf_11 rfl (lv_at hl 0 rfl) ?_
    refine n_get hx hb hts u_X5 hown hK hP (by omega) f_t rfl 1 (by decide) (nT_m wf_X5_15) rfl dX5_countsOf_12 ?_
    exact n_aretR hQ hx hb hr (Or.inr ⟨_, rfl⟩) hlocks (Or.inr ⟨_, rfl⟩) (by rw [show t + 1 + sy = (t + 2) by omega]) dX5_countsOf_15
  · skip
    refine lv_aload_n hx hb dX5_countsOf_4 rfl (lv_at hl 0 rfl) ?_
    refine n_get hx hb hts u_X5 hown hK hP (by omega) f_t rfl 0 (by decide) (nT_m wf_X5_9) rfl dX5_countsOf_5 ?_
    refine lv_goto (tgt := 15) hx hb dX5_countsOf_8 (by decide) ?_
    exact n_aretR hQ hx hb hr (Or.inr ⟨_, rfl⟩) hlocks (Or.inr ⟨_, rfl⟩) (by rw [show t + 1 + sy = (t + 1) by omega]) dX5_countsOf_15
