
section LOOP
variable {p : Program} {l : Launch} {e : Env} {s : State} {m : MethodId} {b : Nat} {below : List Frame} {meth : Method} {cd : Code} {cells slots : Nat} {Q : State → Prop} {G : nG} {N : Nat} {ad : Nat → Nat} {x y : Nat} {L : Nat} {xs : Nat → Int32} {Z : Nat → Int}
set_option maxHeartbeats 4000000 in
theorem lw_loop (hx : p.tables.exec = Jvm.exec) (hb : cd.code = cL_law) (hml : cd.maxLocals = 4) (hown : s.vm.findClass RL = some m.cls) (hts : ∀ q ∈ Cond.initialized RX6 :: nT, q.before #[Value.ref b] s = true) (hX : va_X b L xs s s.heap) (hbl : b < s.heap.size) (hbA : ¬ nA N ad s.heap.size b) (hZ : ∀ j, xs j = iI (Z j)) (hZr : ∀ j, -2147483648 ≤ Z j ∧ Z j < 2147483648) (hL : L ≤ 3072) (hK : nK G s) (hI : nInj N ad) (hN : N = x + 246) (hy : y = x + 219) (hcs : cells ≤ room_1.cells ∧ slots ≤ room_1.slots) (hdone : ∀ (w : Nat → va_E) (H : Heap) (locs : List Loc) (ls : Array Slot), va_S (nA N ad s.heap.size) s.heap H locs → W p l e room_1 s m #[Value.ref b] below meth cd H locs cells slots Q (F0 m 990 ls [])) : ∀ (f i0 c : Nat) (w : Nat → va_E) (H : Heap) (locs : List Loc) (ls : Array Slot), L < i0 + f → 6 * c ≤ i0 → i0 ≤ L → Sd G ad x y c w → va_P G.1 vwCl (nL N ad w) H → va_S (nA N ad s.heap.size) s.heap H locs → lv_has ls 4 [(0, .ref b), (1, .ref (ad x)), (2, .ref (ad y)), (3, .int (iI (i0 : Int)))] → W p l e room_1 s m #[Value.ref b] below meth cd H locs cells slots Q (F0 m 18 ls []) := by
  intro f
  induction f with
  | zero => exact fun i0 c w H locs ls h1 h2 h3 => absurd h1 (by omega)
  | succ f ih =>
    intro i0 c w H locs ls h1 h2 h3 hSd hP hS hl
    refine lv_iload_n hx hb dL_law_18 rfl (lv_at hl 3 rfl) ?_
    refine lv_aload_n hx hb dL_law_19 rfl (lv_at hl 0 rfl) ?_
    refine va_slen hx hb hX hbl hbA hS dL_law_20 ?_
    rw [show Int32.ofNat L = iI ((L : Nat) : Int) from rfl]
    refine n_bipush hx hb dL_law_21 rfl ?_
    refine n_isub hx hb dL_law_23 ?_
    refine n_icmp_gt (tgt := 990) hx hb dL_law_24 (by decide) (by omega) (by omega) (fun h9 => hdone w H locs ls hS) (fun h9 => ?_)
    refine lv_aload_n hx hb dL_law_27 rfl (lv_at hl 0 rfl) ?_
    refine lv_iload_n hx hb dL_law_28 rfl (lv_at hl 3 rfl) ?_
    refine n_sld hx hb hX hbl hbA hS hZ i0 rfl (by omega) (by omega) dL_law_29 ?_
    refine n_bipush hx hb dL_law_30 rfl ?_
    refine lv_iand hx hb dL_law_32 ?_
    generalize iI (Z i0) &&& iI 31 = v
    have kk : ∀ (c' : Nat) (w1 : Nat → va_E) (H1 : Heap) (locs1 : List Loc), 6 * c' ≤ i0 + 6 → Sd G ad x y c' w1 → va_P G.1 vwCl (nL N ad w1) H1 → va_S (nA N ad s.heap.size) s.heap H1 locs1 → W p l e room_1 s m #[Value.ref b] below meth cd H1 locs1 cells slots Q (F0 m 984 ls []) := fun c' w1 H1 locs1 g1 g2 g3 g4 => by
      refine lv_iinc (v := iI ((i0 + 6 : Nat) : Int)) (lv' := [(3, .int (iI ((i0 + 6 : Nat) : Int))), (0, .ref b), (1, .ref (ad x)), (2, .ref (ad y))]) hx hb dL_law_984 hl (k := 3) rfl ((iI_add _ 6).trans (congrArg iI (by omega))) (by decide) rfl (fun ls hl => ?_)
      refine lv_goto (tgt := 18) hx hb dL_law_987 (by decide) ?_
      exact ih (i0 + 6) c' w1 H1 locs1 ls (by omega) g1 (by omega) g2 g3 g4 (lv_sub hl [1, 2, 3, 0] rfl)
    by_cases hout : v.toInt < 0 ∨ 25 < v.toInt
    · exact lv_tableOut (tgt := 984) hx hb dL_law_33 hout (by decide) (kk c w H locs (by omega) hSd hP hS)
    · obtain ⟨n, hn, hn26⟩ : ∃ n : Nat, v.toInt = (n : Int) ∧ n < 26 := ⟨v.toInt.toNat, by omega, by omega⟩
      rcases (show n = 0 ∨ n = 1 ∨ n = 2 ∨ n = 3 ∨ n = 4 ∨ n = 5 ∨ n = 6 ∨ n = 7 ∨ n = 8 ∨ n = 9 ∨ n = 10 ∨ n = 11 ∨ n = 12 ∨ n = 13 ∨ n = 14 ∨ n = 15 ∨ n = 16 ∨ n = 17 ∨ n = 18 ∨ n = 19 ∨ n = 20 ∨ n = 21 ∨ n = 22 ∨ n = 23 ∨ n = 24 ∨ n = 25 by omega) with rfl | rfl | rfl | rfl | rfl | rfl | rfl | rfl | rfl | rfl | rfl | rfl | rfl | rfl | rfl | rfl | rfl | rfl | rfl | rfl | rfl | rfl | rfl | rfl | rfl | rfl
      · exact lv_tableIn (off := 119) (tgt := 152) hx hb dL_law_33 (by omega) (by omega) (by rw [hn]; rfl) (by decide) (lw_c0 hx hb hml hown hts hX hbl hbA hZ hZr hL hK hI hN hy hcs (by omega) hSd hP hS i0 (by omega) hl (fun w1 H1 locs1 g2 g3 g4 => kk (c + 1) w1 H1 locs1 (by omega) g2 g3 g4))
      · exact lv_tableIn (off := 152) (tgt := 185) hx hb dL_law_33 (by omega) (by omega) (by rw [hn]; rfl) (by decide) (lw_c1 hx hb hml hown hts hX hbl hbA hZ hZr hL hK hI hN hy hcs (by omega) hSd hP hS i0 (by omega) hl (fun w1 H1 locs1 g2 g3 g4 => kk (c + 1) w1 H1 locs1 (by omega) g2 g3 g4))
      · exact lv_tableIn (off := 185) (tgt := 218) hx hb dL_law_33 (by omega) (by omega) (by rw [hn]; rfl) (by decide) (lw_c2 hx hb hml hown hts hX hbl hbA hZ hZr hL hK hI hN hy hcs (by omega) hSd hP hS i0 (by omega) hl (fun w1 H1 locs1 g2 g3 g4 => kk (c + 1) w1 H1 locs1 (by omega) g2 g3 g4))
      · exact lv_tableIn (off := 218) (tgt := 251) hx hb dL_law_33 (by omega) (by omega) (by rw [hn]; rfl) (by decide) (lw_c3 hx hb hml hown hts hX hbl hbA hZ hZr hL hK hI hN hy hcs (by omega) hSd hP hS i0 (by omega) hl (fun w1 H1 locs1 g2 g3 g4 => kk (c + 1) w1 H1 locs1 (by omega) g2 g3 g4))
      · exact lv_tableIn (off := 251) (tgt := 284) hx hb dL_law_33 (by omega) (by omega) (by rw [hn]; rfl) (by decide) (lw_c4 hx hb hml hown hts hX hbl hbA hZ hZr hL hK hI hN hy hcs (by omega) hSd hP hS i0 (by omega) hl (fun w1 H1 locs1 g2 g3 g4 => kk (c + 1) w1 H1 locs1 (by omega) g2 g3 g4))
      · exact lv_tableIn (off := 274) (tgt := 307) hx hb dL_law_33 (by omega) (by omega) (by rw [hn]; rfl) (by decide) (lw_c5 hx hb hml hown hts hX hbl hbA hZ hZr hL hK hI hN hy hcs (by omega) hSd hP hS i0 (by omega) hl (fun w1 H1 locs1 g2 g3 g4 => kk (c + 1) w1 H1 locs1 (by omega) g2 g3 g4))
      · exact lv_tableIn (off := 307) (tgt := 340) hx hb dL_law_33 (by omega) (by omega) (by rw [hn]; rfl) (by decide) (lw_c6 hx hb hml hown hts hX hbl hbA hZ hZr hL hK hI hN hy hcs (by omega) hSd hP hS i0 (by omega) hl (fun w1 H1 locs1 g2 g3 g4 => kk (c + 1) w1 H1 locs1 (by omega) g2 g3 g4))
      · exact lv_tableIn (off := 331) (tgt := 364) hx hb dL_law_33 (by omega) (by omega) (by rw [hn]; rfl) (by decide) (lw_c7 hx hb hml hown hts hX hbl hbA hZ hZr hL hK hI hN hy hcs (by omega) hSd hP hS i0 (by omega) hl (fun w1 H1 locs1 g2 g3 g4 => kk (c + 1) w1 H1 locs1 (by omega) g2 g3 g4))
      · exact lv_tableIn (off := 344) (tgt := 377) hx hb dL_law_33 (by omega) (by omega) (by rw [hn]; rfl) (by decide) (lw_c8 hx hb hml hown hts hX hbl hbA hZ hZr hL hK hI hN hy hcs (by omega) hSd hP hS i0 (by omega) hl (fun w1 H1 locs1 g2 g3 g4 => kk (c + 1) w1 H1 locs1 (by omega) g2 g3 g4))
      · exact lv_tableIn (off := 368) (tgt := 401) hx hb dL_law_33 (by omega) (by omega) (by rw [hn]; rfl) (by decide) (lw_c9 hx hb hml hown hts hX hbl hbA hZ hZr hL hK hI hN hy hcs (by omega) hSd hP hS i0 (by omega) hl (fun w1 H1 locs1 g2 g3 g4 => kk (c + 1) w1 H1 locs1 (by omega) g2 g3 g4))
      · exact lv_tableIn (off := 411) (tgt := 444) hx hb dL_law_33 (by omega) (by omega) (by rw [hn]; rfl) (by decide) (lw_c10 hx hb hml hown hts hX hbl hbA hZ hZr hL hK hI hN hy hcs (by omega) hSd hP hS i0 (by omega) hl (fun w1 H1 locs1 g2 g3 g4 => kk (c + 1) w1 H1 locs1 (by omega) g2 g3 g4))
      · exact lv_tableIn (off := 444) (tgt := 477) hx hb dL_law_33 (by omega) (by omega) (by rw [hn]; rfl) (by decide) (lw_c11 hx hb hml hown hts hX hbl hbA hZ hZr hL hK hI hN hy hcs (by omega) hSd hP hS i0 (by omega) hl (fun w1 H1 locs1 g2 g3 g4 => kk (c + 1) w1 H1 locs1 (by omega) g2 g3 g4))
      · exact lv_tableIn (off := 467) (tgt := 500) hx hb dL_law_33 (by omega) (by omega) (by rw [hn]; rfl) (by decide) (lw_c12 hx hb hml hown hts hX hbl hbA hZ hZr hL hK hI hN hy hcs (by omega) hSd hP hS i0 (by omega) hl (fun w1 H1 locs1 g2 g3 g4 => kk (c + 1) w1 H1 locs1 (by omega) g2 g3 g4))
      · exact lv_tableIn (off := 480) (tgt := 513) hx hb dL_law_33 (by omega) (by omega) (by rw [hn]; rfl) (by decide) (lw_c13 hx hb hml hown hts hX hbl hbA hZ hZr hL hK hI hN hy hcs (by omega) hSd hP hS i0 (by omega) hl (fun w1 H1 locs1 g2 g3 g4 => kk (c + 1) w1 H1 locs1 (by omega) g2 g3 g4))
      · exact lv_tableIn (off := 533) (tgt := 566) hx hb dL_law_33 (by omega) (by omega) (by rw [hn]; rfl) (by decide) (lw_c14 hx hb hml hown hts hX hbl hbA hZ hZr hL hK hI hN hy hcs (by omega) hSd hP hS i0 (by omega) hl (fun w1 H1 locs1 g2 g3 g4 => kk (c + 1) w1 H1 locs1 (by omega) g2 g3 g4))
      · exact lv_tableIn (off := 596) (tgt := 629) hx hb dL_law_33 (by omega) (by omega) (by rw [hn]; rfl) (by decide) (lw_c15 hx hb hml hown hts hX hbl hbA hZ hZr hL hK hI hN hy hcs (by omega) hSd hP hS i0 (by omega) hl (fun w1 H1 locs1 g2 g3 g4 => kk (c + 1) w1 H1 locs1 (by omega) g2 g3 g4))
      · exact lv_tableIn (off := 629) (tgt := 662) hx hb dL_law_33 (by omega) (by omega) (by rw [hn]; rfl) (by decide) (lw_c16 hx hb hml hown hts hX hbl hbA hZ hZr hL hK hI hN hy hcs (by omega) hSd hP hS i0 (by omega) hl (fun w1 H1 locs1 g2 g3 g4 => kk (c + 1) w1 H1 locs1 (by omega) g2 g3 g4))
      · exact lv_tableIn (off := 663) (tgt := 696) hx hb dL_law_33 (by omega) (by omega) (by rw [hn]; rfl) (by decide) (lw_c17 hx hb hml hown hts hX hbl hbA hZ hZr hL hK hI hN hy hcs (by omega) hSd hP hS i0 (by omega) hl (fun w1 H1 locs1 g2 g3 g4 => kk (c + 1) w1 H1 locs1 (by omega) g2 g3 g4))
      · exact lv_tableIn (off := 706) (tgt := 739) hx hb dL_law_33 (by omega) (by omega) (by rw [hn]; rfl) (by decide) (lw_c18 hx hb hml hown hts hX hbl hbA hZ hZr hL hK hI hN hy hcs (by omega) hSd hP hS i0 (by omega) hl (fun w1 H1 locs1 g2 g3 g4 => kk (c + 1) w1 H1 locs1 (by omega) g2 g3 g4))
      · exact lv_tableIn (off := 730) (tgt := 763) hx hb dL_law_33 (by omega) (by omega) (by rw [hn]; rfl) (by decide) (lw_c19 hx hb hml hown hts hX hbl hbA hZ hZr hL hK hI hN hy hcs (by omega) hSd hP hS i0 (by omega) hl (fun w1 H1 locs1 g2 g3 g4 => kk (c + 1) w1 H1 locs1 (by omega) g2 g3 g4))
      · exact lv_tableIn (off := 753) (tgt := 786) hx hb dL_law_33 (by omega) (by omega) (by rw [hn]; rfl) (by decide) (lw_c20 hx hb hml hown hts hX hbl hbA hZ hZr hL hK hI hN hy hcs (by omega) hSd hP hS i0 (by omega) hl (fun w1 H1 locs1 g2 g3 g4 => kk (c + 1) w1 H1 locs1 (by omega) g2 g3 g4))
      · exact lv_tableIn (off := 816) (tgt := 849) hx hb dL_law_33 (by omega) (by omega) (by rw [hn]; rfl) (by decide) (lw_c21 hx hb hml hown hts hX hbl hbA hZ hZr hL hK hI hN hy hcs (by omega) hSd hP hS i0 (by omega) hl (fun w1 H1 locs1 g2 g3 g4 => kk (c + 1) w1 H1 locs1 (by omega) g2 g3 g4))
      · exact lv_tableIn (off := 839) (tgt := 872) hx hb dL_law_33 (by omega) (by omega) (by rw [hn]; rfl) (by decide) (lw_c22 hx hb hml hown hts hX hbl hbA hZ hZr hL hK hI hN hy hcs (by omega) hSd hP hS i0 (by omega) hl (fun w1 H1 locs1 g2 g3 g4 => kk (c + 1) w1 H1 locs1 (by omega) g2 g3 g4))
      · exact lv_tableIn (off := 872) (tgt := 905) hx hb dL_law_33 (by omega) (by omega) (by rw [hn]; rfl) (by decide) (lw_c23 hx hb hml hown hts hX hbl hbA hZ hZr hL hK hI hN hy hcs (by omega) hSd hP hS i0 (by omega) hl (fun w1 H1 locs1 g2 g3 g4 => kk (c + 1) w1 H1 locs1 (by omega) g2 g3 g4))
      · exact lv_tableIn (off := 905) (tgt := 938) hx hb dL_law_33 (by omega) (by omega) (by rw [hn]; rfl) (by decide) (lw_c24 hx hb hml hown hts hX hbl hbA hZ hZr hL hK hI hN hy hcs (by omega) hSd hP hS i0 (by omega) hl (fun w1 H1 locs1 g2 g3 g4 => kk (c + 1) w1 H1 locs1 (by omega) g2 g3 g4))
      · exact lv_tableIn (off := 928) (tgt := 961) hx hb dL_law_33 (by omega) (by omega) (by rw [hn]; rfl) (by decide) (lw_c25 hx hb hml hown hts hX hbl hbA hZ hZr hL hK hI hN hy hcs (by omega) hSd hP hS i0 (by omega) hl (fun w1 H1 locs1 g2 g3 g4 => kk (c + 1) w1 H1 locs1 (by omega) g2 g3 g4))
end LOOP

def r3 : Nat → Nat := va_up (va_up (fun _ => 0) 0 1) 1 1
def r8 : Nat → Nat := va_up (fun _ => 0) 0 1
/-- the model's arrays at the start -/
def M0 : Nat → Nat → Nat := va_up (va_up (fun _ _ => 0) 3 r3) 8 r8
theorem M0_inv : LInv 0 M0 := ⟨fun _ _ => Nat.zero_le _, fun _ _ _ _ => ⟨Nat.zero_le _, fun h => absurd h (Nat.not_lt_zero _)⟩, by decide, ⟨Nat.le_refl 0, fun _ _ _ => rfl, fun _ => rfl⟩, ⟨Nat.zero_le _, fun _ _ => ⟨Nat.zero_le _, Nat.zero_le _⟩⟩, by decide, Nat.zero_le _, fun _ _ => ⟨Nat.le_refl 0, Nat.zero_le _, Nat.zero_mod _, fun _ => rfl⟩, fun _ _ => Nat.zero_le _, fun _ _ _ => ⟨rfl, rfl, rfl, rfl, fun _ _ => rfl, fun _ _ => rfl⟩, fun _ _ _ h => absurd h (Nat.not_lt_zero _)⟩
theorem M0_agr : Agr D0 M0 := fun tag q hq => by
  unfold D0
  by_cases h3 : tag = 3
  · subst h3
    have hq : q < 2 := hq
    rcases (show q = 0 ∨ q = 1 by omega) with rfl | rfl <;> rfl
  · by_cases h8 : tag = 8
    · subst h8
      have hq : q < 1 := hq
      obtain rfl : q = 0 := by omega
      rfl
    · rw [if_neg (by omega)]
      unfold M0
      rw [va_up_ne _ _ h8, va_up_ne _ _ h3]
theorem Sd_0 {G : nG} {ad : Nat → Nat} {w : Nat → va_E}
    (h0 : w 0 = .inr (6, [.ref (ad (0 + 1)), .ref (ad (0 + 51)), .ref (ad (0 + 52)), .ref (ad (0 + 53)), .ref (ad (0 + 67)), .ref (ad (0 + 68))])) (hL : LandAt G ad w (0 + 1) D0) (h51 : w (0 + 51) = aR G 4 3 (fun k => some (ad (0 + 69 + 50 * k)))) (h52 : w (0 + 52) = aZ G 3 (fun q => (((fun _ => 0 : Nat → Nat) q : Nat) : Int))) (hm : makAt G ad w (0 + 53) (fun _ => 0) (fun _ _ => 0) (fun _ => 0) (fun _ => 0)) (h67 : w (0 + 67) = aI G 8 (fun _ => 0)) (h68 : w (0 + 68) = aJ G 14 (fun _ => 0)) (hi : ∀ k, k < 3 → LandAt G ad w (0 + 69 + 50 * k) D0) (hMo : Mod G ad w 219 M0 (fun _ => 0)) : Sd G ad 0 219 0 w :=
  ⟨M0, fun _ => 0, ⟨h0, LandAt_c M0_agr hL, h51, h52, ⟨_, _, _, _, hm⟩, ⟨_, h67⟩, ⟨_, h68⟩, fun k hk => ⟨D0, hi k hk, fun h => absurd h (show ¬ (0 : Nat) = 1 by decide)⟩⟩, hMo, fun _ => Nat.zero_le _, M0_inv⟩

theorem nK_mk {s : State} {args : Array Value} (hts0 : ∀ q ∈ lw_tbl, q.before args s = true) (hts : ∀ q ∈ Cond.initialized RX6 :: nT, q.before args s = true) : ∃ G : nG, nK G s := by
  obtain ⟨c0, j0, h0⟩ := u_known (C := RX0) (T := TX0) (N := 4) (n := 4) hts u_X0 (hts _ (nT_m wo_X0))
  obtain ⟨c1, j1, h1⟩ := u_known (C := RX1) (T := TX1) (N := 4) (n := 4) hts u_X1 (hts _ (nT_m wo_X1))
  obtain ⟨c2, j2, h2⟩ := u_known (C := RX2) (T := TX2) (N := 5) (n := 5) hts u_X2 (hts _ (nT_m wo_X2))
  obtain ⟨c3, j3, h3⟩ := u_known (C := RX3) (T := TX3) (N := 3) (n := 3) hts u_X3 (hts _ (nT_m wo_X3))
  obtain ⟨c4, j4, h4⟩ := u_known (C := RX4) (T := TX4) (N := 9) (n := 9) hts u_X4 (hts _ (nT_m wo_X4))
  obtain ⟨c5, j5, h5⟩ := u_known (C := RX5) (T := TX5) (N := 7) (n := 7) hts u_X5 (hts _ (nT_m wo_X5))
  obtain ⟨c6, j6, h6⟩ := u_known (C := RX6) (T := TX6) (N := 6) (n := 6) hts u_X6 (hts _ (nT_m wo_X6))
  obtain ⟨c7, j7, h7⟩ := u_known (C := RX7) (T := TX7) (N := 27) (n := 27) hts u_X7 (hts _ (nT_m wo_X7))
  obtain ⟨a0, x0, y0, p0, q0, r0⟩ := Cond.arrayClass_spec (hts _ (nT_m wa_int))
  obtain ⟨a1, x1, y1, p1, q1, r1⟩ := Cond.arrayClass_spec (hts _ (nT_m wa_long))
  obtain ⟨a2, x2, y2, p2, q2, r2⟩ := Cond.arrayClass_spec (hts _ (nT_m wa_boolean))
  obtain ⟨y3, a3, x3, p3, -, q3, r3, s3⟩ := Cond.arrayOver_spec (n := "NewCoins$Till") (hts0 _ (List.mem_of_getElem? (i := 102) (by decide +kernel)))
  obtain ⟨y4, a4, x4, p4, -, q4, r4, s4⟩ := Cond.arrayOver_spec (n := "NewCoins$Land") (hts0 _ (List.mem_of_getElem? (i := 200) (by decide +kernel)))
  obtain ⟨y5, a5, x5, p5, -, q5, r5, s5⟩ := arrayOverA_spec (t := .int) (hts0 _ (List.mem_of_getElem? (i := 208) (by decide +kernel)))
  refine ⟨((fun k => [c0, c1, c2, c3, c4, c5, c6, c7].getD k c0, fun k => [j0, j1, j2, j3, j4, j5, j6, j7].getD k j0), fun k => [a0, a1, a2, a3, a4, a5].getD k a0), ⟨fun k q hq => ?_, fun k q hq => ?_⟩, ?_⟩
  · match k, hq with
    | 0, hq => cases hq; exact h0
    | 1, hq => cases hq; exact h1
    | 2, hq => cases hq; exact h2
    | 3, hq => cases hq; exact h3
    | 4, hq => cases hq; exact h4
    | 5, hq => cases hq; exact h5
    | 6, hq => cases hq; exact h6
    | 7, hq => cases hq; exact h7
    | k + 8, hq => cases hq
  · match k, hq with
    | 0, hq => cases hq; exact ⟨fun _ _ => ⟨fun _ h => (by cases h), x0, q0, y0, r0⟩, p0⟩
    | 1, hq => cases hq; exact ⟨fun _ _ => ⟨fun _ h => (by cases h), x1, q1, y1, r1⟩, p1⟩
    | 2, hq => cases hq; exact ⟨fun _ _ => ⟨fun _ h => (by cases h), x2, q2, y2, r2⟩, p2⟩
    | 3, hq => cases hq; exact ⟨fun _ _ => ⟨fun _ h => (by cases h), x3, q3, y3, r3⟩, ⟨x3, y3, q3, r3, p3, s3⟩⟩
    | 4, hq => cases hq; exact ⟨fun _ _ => ⟨fun _ h => (by cases h), x4, q4, y4, r4⟩, ⟨x4, y4, q4, r4, p4, s4⟩⟩
    | 5, hq => cases hq; exact ⟨fun _ _ => ⟨fun _ h => (by cases h), x5, q5, y5, r5⟩, s5⟩
    | k + 6, hq => cases hq
  · exact (List.forall_mem_cons.mpr ⟨va_Nw.of rfl (hts0 _ (List.mem_of_getElem? (i := 82) (by decide +kernel))), (List.forall_mem_cons.mpr ⟨va_Nw.of rfl (hts0 _ (List.mem_of_getElem? (i := 104) (by decide +kernel))), (List.forall_mem_cons.mpr ⟨va_Nw.of rfl (hts0 _ (List.mem_of_getElem? (i := 110) (by decide +kernel))), (List.forall_mem_cons.mpr ⟨va_Nw.of rfl (hts0 _ (List.mem_of_getElem? (i := 203) (by decide +kernel))), (List.forall_mem_cons.mpr ⟨va_Nw.of rfl (hts0 _ (List.mem_of_getElem? (i := 256) (by decide +kernel))), (List.forall_mem_cons.mpr ⟨va_Nw.of rfl (hts0 _ (List.mem_of_getElem? (i := 288) (by decide +kernel))), (List.forall_mem_cons.mpr ⟨va_Nw.of rfl (hts0 _ (List.mem_of_getElem? (i := 312) (by decide +kernel))), (List.forall_mem_cons.mpr ⟨va_Nw.of rfl (hts0 _ (List.mem_of_getElem? (i := 356) (by decide +kernel))), (List.forall_mem_cons.mpr ⟨va_Nw.of rfl (hts0 _ (List.mem_of_getElem? (i := 367) (by decide +kernel))), (List.forall_mem_cons.mpr ⟨va_Nw.of rfl (hts0 _ (List.mem_of_getElem? (i := 398) (by decide +kernel))), (List.forall_mem_cons.mpr ⟨va_Nw.of rfl (hts0 _ (List.mem_of_getElem? (i := 432) (by decide +kernel))), (List.forall_mem_cons.mpr ⟨va_Nw.of rfl (hts0 _ (List.mem_of_getElem? (i := 442) (by decide +kernel))), (fun _ h => absurd h List.not_mem_nil)⟩)⟩)⟩)⟩)⟩)⟩)⟩)⟩)⟩)⟩)⟩)⟩)

set_option maxHeartbeats 4000000 in
set_option maxRecDepth 100000 in
/-- the law from its entry to its end -/
theorem lw_go {p : Program} {e : Env} {s : State} {m : MethodId} {below : List Frame} {meth : Method} {cd : Code} {Q : State → Prop} (l : Launch) {b L : Nat} {xs : Nat → Int32} (hL : L ≤ 3072) (hx : p.tables.exec = Jvm.exec) (hb : cd.code = cL_law) (hml : cd.maxLocals = 4) (hown : s.vm.findClass RL = some m.cls) (hts0 : ∀ q ∈ lw_tbl, q.before #[Value.ref b] s = true) (hX : va_X b L xs s s.heap) (hbl : b < s.heap.size) (hfin : ∀ (H : Heap) (ls : Array Slot), W p l e room_1 s m #[Value.ref b] below meth cd H [] 600000 7302250 Q (F0 m 991 ls [.int 1])) : W p l e room_1 s m #[Value.ref b] below meth cd s.heap [] 0 0 Q (entryFrame m ([Value.ref b] : List Value).toArray 4) := by
  have hts : ∀ q ∈ Cond.initialized RX6 :: nT, q.before #[Value.ref b] s = true := fun q hq => hts0 q ((List.mem_cons.mp hq).elim (fun h => by rw [h]; exact (List.mem_filter.mp wn_X6).1) (fun h => (List.mem_filter.mp h).1))
  obtain ⟨G, hK⟩ := nK_mk hts0 hts
  have hao : (Cond.arrayOver (.array .int)).before #[Value.ref b] s = true := (hts0 _ (List.mem_of_getElem? (i := 208) (by decide +kernel)))
  have hO : nO s := ⟨va_AO.of (hts0 _ (List.mem_of_getElem? (i := 102) (by decide +kernel))), va_AO.of (hts0 _ (List.mem_of_getElem? (i := 200) (by decide +kernel))), hao⟩
  obtain ⟨ad, hE⟩ : ∃ ad, ad = nad s.heap.size := ⟨_, rfl⟩
  have hP : va_P G.1 vwCl (nL 0 ad (fun _ => .inr (0, []))) s.heap := fun k q h => by cases h
  have hS : va_S (nF s.heap.size) s.heap s.heap [] := va_S.rf
  have hl := lv_entry ([.ref b]) (n := 4) (Nat.le_of_ble_eq_true rfl)
  rw [lg_entry_eq]
  generalize (lg_sl ([.ref b]) ++ List.replicate (4 - (lg_sl ([.ref b])).length) Slot.unset).toArray = ls at hl ⊢
  have hl : lv_has ls 4 [(0, .ref b)] := hl
  refine n_new (N0 := 0) (M := 6) (ci := 6) (fs := [.null, .null, .null, .null, .null, .null]) hE hx hb hts u_X6 tyX6 tyX6_ok hown (nT_m wq_L_7) (nT_m wo_X6) (nT_m wn_X6) hK rfl rfl hP hS rfl (fun j9 hj9 => match j9, hj9 with | 0, _ => rfl | 1, _ => rfl | 2, _ => rfl | 3, _ => rfl | 4, _ => rfl | 5, _ => rfl | k9 + 6, h9 => absurd h9 (by omega)) (Nat.le_of_ble_eq_true rfl) (Nat.le_of_ble_eq_true rfl) dL_law_0 (fun w1 H f_1 hne1 hP hS => ?_)
  have hP : va_P G.1 vwCl (nL (0 + 1) ad w1) H := hP
  refine W.widen (k := 1) (n := 6) (by omega) (by omega) ?_
  refine lv_dup hx hb dL_law_3 rfl ?_
  refine n_sz (N0 := 0) hE rfl rfl (by omega) hP (fun hH => ?_)
  refine n_cN (va_runI (As := []) (rest := [.ref (ad 0)]) ⟨hx, hb, hml, hown, hts⟩ (c_X6_init s.heap.size 0 hE f_1) (cwI 0 hts (nT_N wc_X6_init) rfl rfl rfl (hts _ (nT_m wn_X6)) (hts _ (nT_m wl_L_9)) (hts _ (nT_m wi_X6_init)) rfl (by decide +kernel) ⟨Nat.le_of_ble_eq_true rfl, Nat.le_of_ble_eq_true rfl⟩) (nBo.pre hE hK hO hH hP) rfl rfl hl.1 rfl (lv_room (Nat.le_of_ble_eq_true rfl)) dL_law_4 ⟨Nat.le_of_ble_eq_true rfl, Nat.le_of_ble_eq_true rfl⟩) hS (fun w2 H locs hq hP hS => ?_)
  obtain ⟨-, g0, gL, g51, g52, gm, g67, g68, gi⟩ := hq
  have hP : va_P G.1 vwCl (nL 219 ad w2) H := hP
  refine W.widen (k := 219) (n := 40298) (by omega) (by omega) ?_
  refine lv_astore_n (lv' := [(1, .ref (ad 0)), (0, .ref b)]) hx hb dL_law_7 rfl hl (by decide) rfl (fun ls hl => ?_)
  refine n_new (N0 := 0) (M := 27) (ci := 7) (fs := [.int (iI 0), .null, .null, .null, .null, .null, .null, .null, .null, .null, .null, .null, .null, .null, .null, .null, .null, .null, .null, .null, .null, .null, .null, .null, .null, .null, .null]) hE hx hb hts u_X7 tyX7 tyX7_ok hown (nT_m wq_L_10) (nT_m wo_X7) (nT_m wn_X7) hK rfl rfl hP hS rfl (fun j9 hj9 => match j9, hj9 with | 0, _ => rfl | 1, _ => rfl | 2, _ => rfl | 3, _ => rfl | 4, _ => rfl | 5, _ => rfl | 6, _ => rfl | 7, _ => rfl | 8, _ => rfl | 9, _ => rfl | 10, _ => rfl | 11, _ => rfl | 12, _ => rfl | 13, _ => rfl | 14, _ => rfl | 15, _ => rfl | 16, _ => rfl | 17, _ => rfl | 18, _ => rfl | 19, _ => rfl | 20, _ => rfl | 21, _ => rfl | 22, _ => rfl | 23, _ => rfl | 24, _ => rfl | 25, _ => rfl | 26, _ => rfl | k9 + 27, h9 => absurd h9 (by omega)) (Nat.le_of_ble_eq_true rfl) (Nat.le_of_ble_eq_true rfl) dL_law_8 (fun w3 H f_2 hne3 hP hS => ?_)
  have hP : va_P G.1 vwCl (nL (219 + 1) ad w3) H := hP
  refine W.widen (k := 220) (n := 40325) (by omega) (by omega) ?_
  refine lv_dup hx hb dL_law_11 rfl ?_
  refine n_sz (N0 := 0) hE rfl rfl (by omega) hP (fun hH => ?_)
  refine n_cN (va_runI (As := []) (rest := [.ref (ad 219)]) ⟨hx, hb, hml, hown, hts⟩ (c_X7_init s.heap.size 219 hE f_2) (cwI 0 hts (nT_N wc_X7_init) rfl rfl rfl (hts _ (nT_m wn_X7)) (hts _ (nT_m wl_L_12)) (hts _ (nT_m wi_X7_init)) rfl (by decide +kernel) ⟨Nat.le_of_ble_eq_true rfl, Nat.le_of_ble_eq_true rfl⟩) (nBo.pre hE hK hO hH hP) rfl rfl hl.1 rfl (lv_room (Nat.le_of_ble_eq_true rfl)) dL_law_12 ⟨Nat.le_of_ble_eq_true rfl, Nat.le_of_ble_eq_true rfl⟩) hS (fun w4 H locs hq hP hS => ?_)
  obtain ⟨hne4, q0, q1, q2, q3, q4, q5, q6, q7, q8, q9, q10, q11, q12, q13, q14, q15, q16, q17, q18, q19, q20, q21, q22, q23, q24, q25, q26⟩ := hq
  have hP : va_P G.1 vwCl (nL 246 ad w4) H := hP
  refine W.widen (k := 246) (n := 62374) (by omega) (by omega) ?_
  refine lv_astore_n (lv' := [(2, .ref (ad 219)), (1, .ref (ad 0)), (0, .ref b)]) hx hb dL_law_15 rfl hl (by decide) rfl (fun ls hl => ?_)
  refine n_iconst hx hb dL_law_16 ?_
  refine lv_istore_n (lv' := [(3, .int (iI 0)), (2, .ref (ad 219)), (1, .ref (ad 0)), (0, .ref b)]) hx hb dL_law_17 rfl hl (by decide) rfl (fun ls hl => ?_)
  have hfr : ∀ j, j < 219 → w4 j = w2 j := fun j hj => (hne4 j (by omega)).trans (hne3 j (by omega))
  have e3 : va_up (va_up (fun _ => (0 : Int)) 0 1) 1 1 = fun q => ((M0 3 q : Nat) : Int) := (congrArg (fun F => va_up F 1 1) (upN (fun _ => 0) 0 1)).trans (upN (va_up (fun _ => 0) 0 1) 1 1)
  have e8 : va_up (fun _ => (0 : Int)) 0 1 = fun q => ((M0 8 q : Nat) : Int) := upN (fun _ => 0) 0 1
  have hSd : Sd G ad 0 219 0 w4 := Sd_0 ((hfr _ (by omega)).trans g0) (LandAt_fr (fun j a1 a2 => hfr j (by omega)) gL) ((hfr _ (by omega)).trans g51) ((hfr _ (by omega)).trans g52) (makAt_fr (fun j a1 a2 => hfr j (by omega)) gm) ((hfr _ (by omega)).trans g67) ((hfr _ (by omega)).trans g68) (fun k hk => LandAt_fr (fun j a1 a2 => hfr j (by omega)) (gi k hk)) ⟨q0, q1, q2, q3.trans (congrArg (aI G 8) e3), q4, q5, q6, q7, q8.trans (congrArg (aI G 4) e8), q9, q10, q11, q12, q13, q14, q15, q16, q17, ⟨_, q18⟩, ⟨fun _ => 0, q19⟩, ⟨_, q20⟩, ⟨fun _ => 0, q21⟩, ⟨fun _ => 0, q22⟩, ⟨_, q23⟩, ⟨_, q24⟩, ⟨_, q25⟩, q26⟩
  have hS : va_S (nA 246 ad s.heap.size) s.heap H locs := ⟨hS.1, fun q h1 h2 => hS.2.1 q h1 (fun z => h2 (.inr z)), fun q hq => .inr (hS.2.2 q hq)⟩
  have hnA : ∀ q, nA 246 ad s.heap.size q → s.heap.size ≤ q := fun q h => by
    rcases h with ⟨i, -, h⟩ | h
    · rw [hE] at h
      have h : s.heap.size + i = q := h
      omega
    · exact h
  exact lw_loop (x := 0) (y := 219) (Z := fun j => (xs j).toInt) hx hb hml hown hts hX hbl (fun h => by have := hnA b h; omega) (fun j => (Int32.ofInt_toInt _).symm) (fun j => ⟨by have := Int32.le_toInt (xs j); omega, by have := Int32.toInt_lt (xs j); omega⟩) hL hK (nad_I hE 246) rfl rfl ⟨Nat.le_of_ble_eq_true rfl, Nat.le_of_ble_eq_true rfl⟩ (fun w H locs ls hS => lv_iconst (v := 1) hx hb dL_law_990 (by decide) (va_forget (fun q hq => hnA _ (hS.2.2 q hq)) (W.widen (k := 600000) (n := 7302250) (by omega) (by omega) (hfin H ls)))) (L + 1) 0 0 w4 H locs ls (by omega) (by omega) (by omega) hSd hP hS (lv_sub hl [3, 2, 1, 0] rfl)
