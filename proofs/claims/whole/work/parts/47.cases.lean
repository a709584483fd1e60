
theorem lg_self (z : Int64) : lg_cmp z z = 0 := by
  unfold lg_cmp
  rw [if_neg (fun h => Int64.lt_irrefl h), if_pos rfl]
section LAW
variable {p : Program} {l : Launch} {e : Env} {s : State} {m : MethodId} {b : Nat} {below : List Frame} {meth : Method} {cd : Code} {H : Heap} {locs : List Loc} {cells slots : Nat} {Q : State → Prop} {ls : Array Slot} {G : nG} {N : Nat} {ad : Nat → Nat} {x y c : Nat} {w : Nat → va_E} {L : Nat} {xs : Nat → Int32} {Z : Nat → Int}
theorem n_sld {R : Room} {args : Array Value} {cc : ByteArray} {pc : Nat} {rest : List Value} {A : Nat → Prop} (hx : p.tables.exec = Jvm.exec) (hb : cd.code = cc) (hX : va_X b L xs s s.heap) (hbl : b < s.heap.size) (hbA : ¬ A b) (hS : va_S A s.heap H locs) (hZ : ∀ j, xs j = iI (Z j)) {z : Int} (k : Nat) (hz : z = (k : Int)) (hk : k < L) (hn : L < 2147483648) (hdg : decode cc pc = .ok (.iaload, 1)) (kk : W p l e R s m args below meth cd H locs cells slots Q (F0 m (pc + 1) ls (.int (iI (Z k)) :: rest))) : W p l e R s m args below meth cd H locs cells slots Q (F0 m pc ls (.int (iI z) :: .ref b :: rest)) := va_sld hx hb hX hbl hbA hS (iI_in hz hk hn) hdg (by
  subst hz
  rw [iI_cl (by omega), hZ]
  exact kk)
set_option maxHeartbeats 4000000 in
theorem lw_c0 (hx : p.tables.exec = Jvm.exec) (hb : cd.code = cL_law) (hml : cd.maxLocals = 4) (hown : s.vm.findClass RL = some m.cls) (hts : ∀ q ∈ Cond.initialized RX6 :: nT, q.before #[Value.ref b] s = true) (hX : va_X b L xs s s.heap) (hbl : b < s.heap.size) (hbA : ¬ nA N ad s.heap.size b) (hZ : ∀ j, xs j = iI (Z j)) (hZr : ∀ j, -2147483648 ≤ Z j ∧ Z j < 2147483648) (hL : L ≤ 3072) (hK : nK G s) (hI : nInj N ad) (hN : N = x + 246) (hy : y = x + 219) (hcs : cells ≤ room_1.cells ∧ slots ≤ room_1.slots) (hc : c ≤ 600) (hSd : Sd G ad x y c w) (hP : va_P G.1 vwCl (nL N ad w) H) (hS : va_S (nA N ad s.heap.size) s.heap H locs) (i0 : Nat) (hi : i0 + 6 ≤ L) (hl : lv_has ls 4 [(0, .ref b), (1, .ref (ad x)), (2, .ref (ad y)), (3, .int (iI (i0 : Int)))]) (kk : ∀ w1 H1 locs1, Sd G ad x y (c + 1) w1 → va_P G.1 vwCl (nL N ad w1) H1 → va_S (nA N ad s.heap.size) s.heap H1 locs1 → W p l e room_1 s m #[Value.ref b] below meth cd H1 locs1 cells slots Q (F0 m 984 ls [])) : W p l e room_1 s m #[Value.ref b] below meth cd H locs cells slots Q (F0 m 152 ls []) := by
  refine lv_aload_n hx hb dL_law_152 rfl (lv_at hl 1 rfl) ?_
  refine lv_aload_n hx hb dL_law_153 rfl (lv_at hl 0 rfl) ?_
  refine lv_iload_n hx hb dL_law_154 rfl (lv_at hl 3 rfl) ?_
  refine n_iconst hx hb dL_law_155 ?_
  refine n_iadd hx hb dL_law_156 ?_
  refine n_sld hx hb hX hbl hbA hS hZ (i0 + 1) (by omega) (by omega) (by omega) dL_law_157 ?_
  refine lv_aload_n hx hb dL_law_158 rfl (lv_at hl 0 rfl) ?_
  refine lv_iload_n hx hb dL_law_159 rfl (lv_at hl 3 rfl) ?_
  refine n_iconst hx hb dL_law_160 ?_
  refine n_iadd hx hb dL_law_161 ?_
  refine n_sld hx hb hX hbl hbA hS hZ (i0 + 2) (by omega) (by omega) (by omega) dL_law_162 ?_
  obtain ⟨R, P1, hA, hB⟩ := k_coin (l := l) hN hy hc hSd (Z (i0 + 1)) (Z (i0 + 2)) (hZr _) (hZr _)
  obtain ⟨M, kp, hCl, hMo, -, -⟩ := id hSd
  refine n_cI (va_runV (As := [.int (iI (Z (i0 + 1))), .int (iI (Z (i0 + 2)))]) (rest := []) ⟨hx, hb, hml, hown, hts⟩ (hA H.size) (cwV 2 hts (nT_V wl_L_13 wi_X6_coin ws_X6_coin wn_X6 wc_X6_coin) rfl rfl rfl (by decide +kernel) ⟨Nat.le_of_ble_eq_true rfl, Nat.le_of_ble_eq_true rfl⟩) (nB.preV hK hI hP (by omega) hCl.1 rfl rfl) rfl rfl hl.1 rfl (lv_room (Nat.le_of_ble_eq_true rfl)) dL_law_163 hcs) hS (fun r w1 H locs hq hP hS => ?_)
  obtain ⟨hr, hp⟩ := hq
  obtain ⟨⟨fs, hfy⟩, hB⟩ := hB w1 hp
  refine lv_aload_n hx hb dL_law_166 rfl (lv_at hl 2 rfl) ?_
  refine lv_aload_n hx hb dL_law_167 rfl (lv_at hl 0 rfl) ?_
  refine lv_iload_n hx hb dL_law_168 rfl (lv_at hl 3 rfl) ?_
  refine n_iconst hx hb dL_law_169 ?_
  refine n_iadd hx hb dL_law_170 ?_
  refine n_sld hx hb hX hbl hbA hS hZ (i0 + 1) (by omega) (by omega) (by omega) dL_law_171 ?_
  refine lv_aload_n hx hb dL_law_172 rfl (lv_at hl 0 rfl) ?_
  refine lv_iload_n hx hb dL_law_173 rfl (lv_at hl 3 rfl) ?_
  refine n_iconst hx hb dL_law_174 ?_
  refine n_iadd hx hb dL_law_175 ?_
  refine n_sld hx hb hX hbl hbA hS hZ (i0 + 2) (by omega) (by omega) (by omega) dL_law_176 ?_
  refine n_cI (va_runV (As := [.int (iI (Z (i0 + 1))), .int (iI (Z (i0 + 2)))]) (rest := [.int (iI r)]) ⟨hx, hb, hml, hown, hts⟩ (hB H.size) (cwV 2 hts (nT_V wl_L_17 wi_X7_coin ws_X7_coin wn_X7 wc_X7_coin) rfl rfl rfl (by decide +kernel) ⟨Nat.le_of_ble_eq_true rfl, Nat.le_of_ble_eq_true rfl⟩) (nB.preV hK hI hP (by omega) hfy rfl rfl) rfl rfl hl.1 rfl (lv_room (Nat.le_of_ble_eq_true rfl)) dL_law_177 hcs) hS (fun r2 w2 H locs hq2 hP hS => ?_)
  obtain ⟨hr2, hSd2⟩ := hq2
  rw [hr, hr2]
  exact lv_icmp_eq (tgt := 984) hx hb dL_law_180 (by decide) (fun _ => kk w2 H locs hSd2 hP hS) (fun h => absurd rfl h)
set_option maxHeartbeats 4000000 in
theorem lw_c1 (hx : p.tables.exec = Jvm.exec) (hb : cd.code = cL_law) (hml : cd.maxLocals = 4) (hown : s.vm.findClass RL = some m.cls) (hts : ∀ q ∈ Cond.initialized RX6 :: nT, q.before #[Value.ref b] s = true) (hX : va_X b L xs s s.heap) (hbl : b < s.heap.size) (hbA : ¬ nA N ad s.heap.size b) (hZ : ∀ j, xs j = iI (Z j)) (hZr : ∀ j, -2147483648 ≤ Z j ∧ Z j < 2147483648) (hL : L ≤ 3072) (hK : nK G s) (hI : nInj N ad) (hN : N = x + 246) (hy : y = x + 219) (hcs : cells ≤ room_1.cells ∧ slots ≤ room_1.slots) (hc : c ≤ 600) (hSd : Sd G ad x y c w) (hP : va_P G.1 vwCl (nL N ad w) H) (hS : va_S (nA N ad s.heap.size) s.heap H locs) (i0 : Nat) (hi : i0 + 6 ≤ L) (hl : lv_has ls 4 [(0, .ref b), (1, .ref (ad x)), (2, .ref (ad y)), (3, .int (iI (i0 : Int)))]) (kk : ∀ w1 H1 locs1, Sd G ad x y (c + 1) w1 → va_P G.1 vwCl (nL N ad w1) H1 → va_S (nA N ad s.heap.size) s.heap H1 locs1 → W p l e room_1 s m #[Value.ref b] below meth cd H1 locs1 cells slots Q (F0 m 984 ls [])) : W p l e room_1 s m #[Value.ref b] below meth cd H locs cells slots Q (F0 m 185 ls []) := by
  refine lv_aload_n hx hb dL_law_185 rfl (lv_at hl 1 rfl) ?_
  refine lv_aload_n hx hb dL_law_186 rfl (lv_at hl 0 rfl) ?_
  refine lv_iload_n hx hb dL_law_187 rfl (lv_at hl 3 rfl) ?_
  refine n_iconst hx hb dL_law_188 ?_
  refine n_iadd hx hb dL_law_189 ?_
  refine n_sld hx hb hX hbl hbA hS hZ (i0 + 1) (by omega) (by omega) (by omega) dL_law_190 ?_
  refine lv_aload_n hx hb dL_law_191 rfl (lv_at hl 0 rfl) ?_
  refine lv_iload_n hx hb dL_law_192 rfl (lv_at hl 3 rfl) ?_
  refine n_iconst hx hb dL_law_193 ?_
  refine n_iadd hx hb dL_law_194 ?_
  refine n_sld hx hb hX hbl hbA hS hZ (i0 + 2) (by omega) (by omega) (by omega) dL_law_195 ?_
  obtain ⟨R, P1, hA, hB⟩ := k_rate (l := l) hN hy hc hSd (Z (i0 + 1)) (Z (i0 + 2)) (hZr _) (hZr _)
  obtain ⟨M, kp, hCl, hMo, -, -⟩ := id hSd
  refine n_cI (va_runV (As := [.int (iI (Z (i0 + 1))), .int (iI (Z (i0 + 2)))]) (rest := []) ⟨hx, hb, hml, hown, hts⟩ (hA H.size) (cwV 2 hts (nT_V wl_L_18 wi_X6_rate ws_X6_rate wn_X6 wc_X6_rate) rfl rfl rfl (by decide +kernel) ⟨Nat.le_of_ble_eq_true rfl, Nat.le_of_ble_eq_true rfl⟩) (nB.preV hK hI hP (by omega) hCl.1 rfl rfl) rfl rfl hl.1 rfl (lv_room (Nat.le_of_ble_eq_true rfl)) dL_law_196 hcs) hS (fun r w1 H locs hq hP hS => ?_)
  obtain ⟨hr, hp⟩ := hq
  obtain ⟨⟨fs, hfy⟩, hB⟩ := hB w1 hp
  refine lv_aload_n hx hb dL_law_199 rfl (lv_at hl 2 rfl) ?_
  refine lv_aload_n hx hb dL_law_200 rfl (lv_at hl 0 rfl) ?_
  refine lv_iload_n hx hb dL_law_201 rfl (lv_at hl 3 rfl) ?_
  refine n_iconst hx hb dL_law_202 ?_
  refine n_iadd hx hb dL_law_203 ?_
  refine n_sld hx hb hX hbl hbA hS hZ (i0 + 1) (by omega) (by omega) (by omega) dL_law_204 ?_
  refine lv_aload_n hx hb dL_law_205 rfl (lv_at hl 0 rfl) ?_
  refine lv_iload_n hx hb dL_law_206 rfl (lv_at hl 3 rfl) ?_
  refine n_iconst hx hb dL_law_207 ?_
  refine n_iadd hx hb dL_law_208 ?_
  refine n_sld hx hb hX hbl hbA hS hZ (i0 + 2) (by omega) (by omega) (by omega) dL_law_209 ?_
  refine n_cI (va_runV (As := [.int (iI (Z (i0 + 1))), .int (iI (Z (i0 + 2)))]) (rest := [.int (iI r)]) ⟨hx, hb, hml, hown, hts⟩ (hB H.size) (cwV 2 hts (nT_V wl_L_22 wi_X7_rate ws_X7_rate wn_X7 wc_X7_rate) rfl rfl rfl (by decide +kernel) ⟨Nat.le_of_ble_eq_true rfl, Nat.le_of_ble_eq_true rfl⟩) (nB.preV hK hI hP (by omega) hfy rfl rfl) rfl rfl hl.1 rfl (lv_room (Nat.le_of_ble_eq_true rfl)) dL_law_210 hcs) hS (fun r2 w2 H locs hq2 hP hS => ?_)
  obtain ⟨hr2, hSd2⟩ := hq2
  rw [hr, hr2]
  exact lv_icmp_eq (tgt := 984) hx hb dL_law_213 (by decide) (fun _ => kk w2 H locs hSd2 hP hS) (fun h => absurd rfl h)
set_option maxHeartbeats 4000000 in
theorem lw_c2 (hx : p.tables.exec = Jvm.exec) (hb : cd.code = cL_law) (hml : cd.maxLocals = 4) (hown : s.vm.findClass RL = some m.cls) (hts : ∀ q ∈ Cond.initialized RX6 :: nT, q.before #[Value.ref b] s = true) (hX : va_X b L xs s s.heap) (hbl : b < s.heap.size) (hbA : ¬ nA N ad s.heap.size b) (hZ : ∀ j, xs j = iI (Z j)) (hZr : ∀ j, -2147483648 ≤ Z j ∧ Z j < 2147483648) (hL : L ≤ 3072) (hK : nK G s) (hI : nInj N ad) (hN : N = x + 246) (hy : y = x + 219) (hcs : cells ≤ room_1.cells ∧ slots ≤ room_1.slots) (hc : c ≤ 600) (hSd : Sd G ad x y c w) (hP : va_P G.1 vwCl (nL N ad w) H) (hS : va_S (nA N ad s.heap.size) s.heap H locs) (i0 : Nat) (hi : i0 + 6 ≤ L) (hl : lv_has ls 4 [(0, .ref b), (1, .ref (ad x)), (2, .ref (ad y)), (3, .int (iI (i0 : Int)))]) (kk : ∀ w1 H1 locs1, Sd G ad x y (c + 1) w1 → va_P G.1 vwCl (nL N ad w1) H1 → va_S (nA N ad s.heap.size) s.heap H1 locs1 → W p l e room_1 s m #[Value.ref b] below meth cd H1 locs1 cells slots Q (F0 m 984 ls [])) : W p l e room_1 s m #[Value.ref b] below meth cd H locs cells slots Q (F0 m 218 ls []) := by
  refine lv_aload_n hx hb dL_law_218 rfl (lv_at hl 1 rfl) ?_
  refine lv_aload_n hx hb dL_law_219 rfl (lv_at hl 0 rfl) ?_
  refine lv_iload_n hx hb dL_law_220 rfl (lv_at hl 3 rfl) ?_
  refine n_iconst hx hb dL_law_221 ?_
  refine n_iadd hx hb dL_law_222 ?_
  refine n_sld hx hb hX hbl hbA hS hZ (i0 + 1) (by omega) (by omega) (by omega) dL_law_223 ?_
  refine lv_aload_n hx hb dL_law_224 rfl (lv_at hl 0 rfl) ?_
  refine lv_iload_n hx hb dL_law_225 rfl (lv_at hl 3 rfl) ?_
  refine n_iconst hx hb dL_law_226 ?_
  refine n_iadd hx hb dL_law_227 ?_
  refine n_sld hx hb hX hbl hbA hS hZ (i0 + 2) (by omega) (by omega) (by omega) dL_law_228 ?_
  obtain ⟨R, P1, hA, hB⟩ := k_good (l := l) hN hy hc hSd (Z (i0 + 1)) (Z (i0 + 2)) (hZr _) (hZr _)
  obtain ⟨M, kp, hCl, hMo, -, -⟩ := id hSd
  refine n_cI (va_runV (As := [.int (iI (Z (i0 + 1))), .int (iI (Z (i0 + 2)))]) (rest := []) ⟨hx, hb, hml, hown, hts⟩ (hA H.size) (cwV 2 hts (nT_V wl_L_23 wi_X6_good ws_X6_good wn_X6 wc_X6_good) rfl rfl rfl (by decide +kernel) ⟨Nat.le_of_ble_eq_true rfl, Nat.le_of_ble_eq_true rfl⟩) (nB.preV hK hI hP (by omega) hCl.1 rfl rfl) rfl rfl hl.1 rfl (lv_room (Nat.le_of_ble_eq_true rfl)) dL_law_229 hcs) hS (fun r w1 H locs hq hP hS => ?_)
  obtain ⟨hr, hp⟩ := hq
  obtain ⟨⟨fs, hfy⟩, hB⟩ := hB w1 hp
  refine lv_aload_n hx hb dL_law_232 rfl (lv_at hl 2 rfl) ?_
  refine lv_aload_n hx hb dL_law_233 rfl (lv_at hl 0 rfl) ?_
  refine lv_iload_n hx hb dL_law_234 rfl (lv_at hl 3 rfl) ?_
  refine n_iconst hx hb dL_law_235 ?_
  refine n_iadd hx hb dL_law_236 ?_
  refine n_sld hx hb hX hbl hbA hS hZ (i0 + 1) (by omega) (by omega) (by omega) dL_law_237 ?_
  refine lv_aload_n hx hb dL_law_238 rfl (lv_at hl 0 rfl) ?_
  refine lv_iload_n hx hb dL_law_239 rfl (lv_at hl 3 rfl) ?_
  refine n_iconst hx hb dL_law_240 ?_
  refine n_iadd hx hb dL_law_241 ?_
  refine n_sld hx hb hX hbl hbA hS hZ (i0 + 2) (by omega) (by omega) (by omega) dL_law_242 ?_
  refine n_cI (va_runV (As := [.int (iI (Z (i0 + 1))), .int (iI (Z (i0 + 2)))]) (rest := [.int (iI r)]) ⟨hx, hb, hml, hown, hts⟩ (hB H.size) (cwV 2 hts (nT_V wl_L_26 wi_X7_good ws_X7_good wn_X7 wc_X7_good) rfl rfl rfl (by decide +kernel) ⟨Nat.le_of_ble_eq_true rfl, Nat.le_of_ble_eq_true rfl⟩) (nB.preV hK hI hP (by omega) hfy rfl rfl) rfl rfl hl.1 rfl (lv_room (Nat.le_of_ble_eq_true rfl)) dL_law_243 hcs) hS (fun r2 w2 H locs hq2 hP hS => ?_)
  obtain ⟨hr2, hSd2⟩ := hq2
  rw [hr, hr2]
  exact lv_icmp_eq (tgt := 984) hx hb dL_law_246 (by decide) (fun _ => kk w2 H locs hSd2 hP hS) (fun h => absurd rfl h)
set_option maxHeartbeats 4000000 in
theorem lw_c3 (hx : p.tables.exec = Jvm.exec) (hb : cd.code = cL_law) (hml : cd.maxLocals = 4) (hown : s.vm.findClass RL = some m.cls) (hts : ∀ q ∈ Cond.initialized RX6 :: nT, q.before #[Value.ref b] s = true) (hX : va_X b L xs s s.heap) (hbl : b < s.heap.size) (hbA : ¬ nA N ad s.heap.size b) (hZ : ∀ j, xs j = iI (Z j)) (hZr : ∀ j, -2147483648 ≤ Z j ∧ Z j < 2147483648) (hL : L ≤ 3072) (hK : nK G s) (hI : nInj N ad) (hN : N = x + 246) (hy : y = x + 219) (hcs : cells ≤ room_1.cells ∧ slots ≤ room_1.slots) (hc : c ≤ 600) (hSd : Sd G ad x y c w) (hP : va_P G.1 vwCl (nL N ad w) H) (hS : va_S (nA N ad s.heap.size) s.heap H locs) (i0 : Nat) (hi : i0 + 6 ≤ L) (hl : lv_has ls 4 [(0, .ref b), (1, .ref (ad x)), (2, .ref (ad y)), (3, .int (iI (i0 : Int)))]) (kk : ∀ w1 H1 locs1, Sd G ad x y (c + 1) w1 → va_P G.1 vwCl (nL N ad w1) H1 → va_S (nA N ad s.heap.size) s.heap H1 locs1 → W p l e room_1 s m #[Value.ref b] below meth cd H1 locs1 cells slots Q (F0 m 984 ls [])) : W p l e room_1 s m #[Value.ref b] below meth cd H locs cells slots Q (F0 m 251 ls []) := by
  refine lv_aload_n hx hb dL_law_251 rfl (lv_at hl 1 rfl) ?_
  refine lv_aload_n hx hb dL_law_252 rfl (lv_at hl 0 rfl) ?_
  refine lv_iload_n hx hb dL_law_253 rfl (lv_at hl 3 rfl) ?_
  refine n_iconst hx hb dL_law_254 ?_
  refine n_iadd hx hb dL_law_255 ?_
  refine n_sld hx hb hX hbl hbA hS hZ (i0 + 1) (by omega) (by omega) (by omega) dL_law_256 ?_
  refine lv_aload_n hx hb dL_law_257 rfl (lv_at hl 0 rfl) ?_
  refine lv_iload_n hx hb dL_law_258 rfl (lv_at hl 3 rfl) ?_
  refine n_iconst hx hb dL_law_259 ?_
  refine n_iadd hx hb dL_law_260 ?_
  refine n_sld hx hb hX hbl hbA hS hZ (i0 + 2) (by omega) (by omega) (by omega) dL_law_261 ?_
  obtain ⟨R, P1, hA, hB⟩ := k_sold (l := l) hN hy hc hSd (Z (i0 + 1)) (Z (i0 + 2)) (hZr _) (hZr _)
  obtain ⟨M, kp, hCl, hMo, -, -⟩ := id hSd
  refine n_cI (va_runV (As := [.int (iI (Z (i0 + 1))), .int (iI (Z (i0 + 2)))]) (rest := []) ⟨hx, hb, hml, hown, hts⟩ (hA H.size) (cwV 2 hts (nT_V wl_L_27 wi_X6_sold ws_X6_sold wn_X6 wc_X6_sold) rfl rfl rfl (by decide +kernel) ⟨Nat.le_of_ble_eq_true rfl, Nat.le_of_ble_eq_true rfl⟩) (nB.preV hK hI hP (by omega) hCl.1 rfl rfl) rfl rfl hl.1 rfl (lv_room (Nat.le_of_ble_eq_true rfl)) dL_law_262 hcs) hS (fun r w1 H locs hq hP hS => ?_)
  obtain ⟨hr, hp⟩ := hq
  obtain ⟨⟨fs, hfy⟩, hB⟩ := hB w1 hp
  refine lv_aload_n hx hb dL_law_265 rfl (lv_at hl 2 rfl) ?_
  refine lv_aload_n hx hb dL_law_266 rfl (lv_at hl 0 rfl) ?_
  refine lv_iload_n hx hb dL_law_267 rfl (lv_at hl 3 rfl) ?_
  refine n_iconst hx hb dL_law_268 ?_
  refine n_iadd hx hb dL_law_269 ?_
  refine n_sld hx hb hX hbl hbA hS hZ (i0 + 1) (by omega) (by omega) (by omega) dL_law_270 ?_
  refine lv_aload_n hx hb dL_law_271 rfl (lv_at hl 0 rfl) ?_
  refine lv_iload_n hx hb dL_law_272 rfl (lv_at hl 3 rfl) ?_
  refine n_iconst hx hb dL_law_273 ?_
  refine n_iadd hx hb dL_law_274 ?_
  refine n_sld hx hb hX hbl hbA hS hZ (i0 + 2) (by omega) (by omega) (by omega) dL_law_275 ?_
  refine n_cI (va_runV (As := [.int (iI (Z (i0 + 1))), .int (iI (Z (i0 + 2)))]) (rest := [.int (iI r)]) ⟨hx, hb, hml, hown, hts⟩ (hB H.size) (cwV 2 hts (nT_V wl_L_30 wi_X7_sold ws_X7_sold wn_X7 wc_X7_sold) rfl rfl rfl (by decide +kernel) ⟨Nat.le_of_ble_eq_true rfl, Nat.le_of_ble_eq_true rfl⟩) (nB.preV hK hI hP (by omega) hfy rfl rfl) rfl rfl hl.1 rfl (lv_room (Nat.le_of_ble_eq_true rfl)) dL_law_276 hcs) hS (fun r2 w2 H locs hq2 hP hS => ?_)
  obtain ⟨hr2, hSd2⟩ := hq2
  rw [hr, hr2]
  exact lv_icmp_eq (tgt := 984) hx hb dL_law_279 (by decide) (fun _ => kk w2 H locs hSd2 hP hS) (fun h => absurd rfl h)
set_option maxHeartbeats 4000000 in
theorem lw_c4 (hx : p.tables.exec = Jvm.exec) (hb : cd.code = cL_law) (hml : cd.maxLocals = 4) (hown : s.vm.findClass RL = some m.cls) (hts : ∀ q ∈ Cond.initialized RX6 :: nT, q.before #[Value.ref b] s = true) (hX : va_X b L xs s s.heap) (hbl : b < s.heap.size) (hbA : ¬ nA N ad s.heap.size b) (hZ : ∀ j, xs j = iI (Z j)) (hZr : ∀ j, -2147483648 ≤ Z j ∧ Z j < 2147483648) (hL : L ≤ 3072) (hK : nK G s) (hI : nInj N ad) (hN : N = x + 246) (hy : y = x + 219) (hcs : cells ≤ room_1.cells ∧ slots ≤ room_1.slots) (hc : c ≤ 600) (hSd : Sd G ad x y c w) (hP : va_P G.1 vwCl (nL N ad w) H) (hS : va_S (nA N ad s.heap.size) s.heap H locs) (i0 : Nat) (hi : i0 + 6 ≤ L) (hl : lv_has ls 4 [(0, .ref b), (1, .ref (ad x)), (2, .ref (ad y)), (3, .int (iI (i0 : Int)))]) (kk : ∀ w1 H1 locs1, Sd G ad x y (c + 1) w1 → va_P G.1 vwCl (nL N ad w1) H1 → va_S (nA N ad s.heap.size) s.heap H1 locs1 → W p l e room_1 s m #[Value.ref b] below meth cd H1 locs1 cells slots Q (F0 m 984 ls [])) : W p l e room_1 s m #[Value.ref b] below meth cd H locs cells slots Q (F0 m 284 ls []) := by
  refine lv_aload_n hx hb dL_law_284 rfl (lv_at hl 1 rfl) ?_
  refine lv_aload_n hx hb dL_law_285 rfl (lv_at hl 0 rfl) ?_
  refine lv_iload_n hx hb dL_law_286 rfl (lv_at hl 3 rfl) ?_
  refine n_iconst hx hb dL_law_287 ?_
  refine n_iadd hx hb dL_law_288 ?_
  refine n_sld hx hb hX hbl hbA hS hZ (i0 + 1) (by omega) (by omega) (by omega) dL_law_289 ?_
  obtain ⟨R, P1, hA, hB⟩ := k_step (l := l) hN hy hc hSd (Z (i0 + 1)) (hZr _)
  obtain ⟨M, kp, hCl, hMo, -, -⟩ := id hSd
  refine n_cI (va_runV (As := [.int (iI (Z (i0 + 1)))]) (rest := []) ⟨hx, hb, hml, hown, hts⟩ (hA H.size) (cwV 1 hts (nT_V wl_L_31 wi_X6_step ws_X6_step wn_X6 wc_X6_step) rfl rfl rfl (by decide +kernel) ⟨Nat.le_of_ble_eq_true rfl, Nat.le_of_ble_eq_true rfl⟩) (nB.preV hK hI hP (by omega) hCl.1 rfl rfl) rfl rfl hl.1 rfl (lv_room (Nat.le_of_ble_eq_true rfl)) dL_law_290 hcs) hS (fun r w1 H locs hq hP hS => ?_)
  obtain ⟨hr, hp⟩ := hq
  obtain ⟨⟨fs, hfy⟩, hB⟩ := hB w1 hp
  refine lv_aload_n hx hb dL_law_293 rfl (lv_at hl 2 rfl) ?_
  refine lv_aload_n hx hb dL_law_294 rfl (lv_at hl 0 rfl) ?_
  refine lv_iload_n hx hb dL_law_295 rfl (lv_at hl 3 rfl) ?_
  refine n_iconst hx hb dL_law_296 ?_
  refine n_iadd hx hb dL_law_297 ?_
  refine n_sld hx hb hX hbl hbA hS hZ (i0 + 1) (by omega) (by omega) (by omega) dL_law_298 ?_
  refine n_cI (va_runV (As := [.int (iI (Z (i0 + 1)))]) (rest := [.int (iI r)]) ⟨hx, hb, hml, hown, hts⟩ (hB H.size) (cwV 1 hts (nT_V wl_L_35 wi_X7_step ws_X7_step wn_X7 wc_X7_step) rfl rfl rfl (by decide +kernel) ⟨Nat.le_of_ble_eq_true rfl, Nat.le_of_ble_eq_true rfl⟩) (nB.preV hK hI hP (by omega) hfy rfl rfl) rfl rfl hl.1 rfl (lv_room (Nat.le_of_ble_eq_true rfl)) dL_law_299 hcs) hS (fun r2 w2 H locs hq2 hP hS => ?_)
  obtain ⟨hr2, hSd2⟩ := hq2
  rw [hr, hr2]
  exact lv_icmp_eq (tgt := 984) hx hb dL_law_302 (by decide) (fun _ => kk w2 H locs hSd2 hP hS) (fun h => absurd rfl h)
set_option maxHeartbeats 4000000 in
theorem lw_c5 (hx : p.tables.exec = Jvm.exec) (hb : cd.code = cL_law) (hml : cd.maxLocals = 4) (hown : s.vm.findClass RL = some m.cls) (hts : ∀ q ∈ Cond.initialized RX6 :: nT, q.before #[Value.ref b] s = true) (hX : va_X b L xs s s.heap) (hbl : b < s.heap.size) (hbA : ¬ nA N ad s.heap.size b) (hZ : ∀ j, xs j = iI (Z j)) (hZr : ∀ j, -2147483648 ≤ Z j ∧ Z j < 2147483648) (hL : L ≤ 3072) (hK : nK G s) (hI : nInj N ad) (hN : N = x + 246) (hy : y = x + 219) (hcs : cells ≤ room_1.cells ∧ slots ≤ room_1.slots) (hc : c ≤ 600) (hSd : Sd G ad x y c w) (hP : va_P G.1 vwCl (nL N ad w) H) (hS : va_S (nA N ad s.heap.size) s.heap H locs) (i0 : Nat) (hi : i0 + 6 ≤ L) (hl : lv_has ls 4 [(0, .ref b), (1, .ref (ad x)), (2, .ref (ad y)), (3, .int (iI (i0 : Int)))]) (kk : ∀ w1 H1 locs1, Sd G ad x y (c + 1) w1 → va_P G.1 vwCl (nL N ad w1) H1 → va_S (nA N ad s.heap.size) s.heap H1 locs1 → W p l e room_1 s m #[Value.ref b] below meth cd H1 locs1 cells slots Q (F0 m 984 ls [])) : W p l e room_1 s m #[Value.ref b] below meth cd H locs cells slots Q (F0 m 307 ls []) := by
  refine lv_aload_n hx hb dL_law_307 rfl (lv_at hl 1 rfl) ?_
  refine lv_aload_n hx hb dL_law_308 rfl (lv_at hl 0 rfl) ?_
  refine lv_iload_n hx hb dL_law_309 rfl (lv_at hl 3 rfl) ?_
  refine n_iconst hx hb dL_law_310 ?_
  refine n_iadd hx hb dL_law_311 ?_
  refine n_sld hx hb hX hbl hbA hS hZ (i0 + 1) (by omega) (by omega) (by omega) dL_law_312 ?_
  refine lv_aload_n hx hb dL_law_313 rfl (lv_at hl 0 rfl) ?_
  refine lv_iload_n hx hb dL_law_314 rfl (lv_at hl 3 rfl) ?_
  refine n_iconst hx hb dL_law_315 ?_
  refine n_iadd hx hb dL_law_316 ?_
  refine n_sld hx hb hX hbl hbA hS hZ (i0 + 2) (by omega) (by omega) (by omega) dL_law_317 ?_
  obtain ⟨R, P1, hA, hB⟩ := k_price (l := l) hN hy hc hSd (Z (i0 + 1)) (Z (i0 + 2)) (hZr _) (hZr _)
  obtain ⟨M, kp, hCl, hMo, -, -⟩ := id hSd
  refine n_cI (va_runV (As := [.int (iI (Z (i0 + 1))), .int (iI (Z (i0 + 2)))]) (rest := []) ⟨hx, hb, hml, hown, hts⟩ (hA H.size) (cwV 2 hts (nT_V wl_L_36 wi_X6_price ws_X6_price wn_X6 wc_X6_price) rfl rfl rfl (by decide +kernel) ⟨Nat.le_of_ble_eq_true rfl, Nat.le_of_ble_eq_true rfl⟩) (nB.preV hK hI hP (by omega) hCl.1 rfl rfl) rfl rfl hl.1 rfl (lv_room (Nat.le_of_ble_eq_true rfl)) dL_law_318 hcs) hS (fun r w1 H locs hq hP hS => ?_)
  obtain ⟨hr, hp⟩ := hq
  obtain ⟨⟨fs, hfy⟩, hB⟩ := hB w1 hp
  refine lv_aload_n hx hb dL_law_321 rfl (lv_at hl 2 rfl) ?_
  refine lv_aload_n hx hb dL_law_322 rfl (lv_at hl 0 rfl) ?_
  refine lv_iload_n hx hb dL_law_323 rfl (lv_at hl 3 rfl) ?_
  refine n_iconst hx hb dL_law_324 ?_
  refine n_iadd hx hb dL_law_325 ?_
  refine n_sld hx hb hX hbl hbA hS hZ (i0 + 1) (by omega) (by omega) (by omega) dL_law_326 ?_
  refine lv_aload_n hx hb dL_law_327 rfl (lv_at hl 0 rfl) ?_
  refine lv_iload_n hx hb dL_law_328 rfl (lv_at hl 3 rfl) ?_
  refine n_iconst hx hb dL_law_329 ?_
  refine n_iadd hx hb dL_law_330 ?_
  refine n_sld hx hb hX hbl hbA hS hZ (i0 + 2) (by omega) (by omega) (by omega) dL_law_331 ?_
  refine n_cI (va_runV (As := [.int (iI (Z (i0 + 1))), .int (iI (Z (i0 + 2)))]) (rest := [.int (iI r)]) ⟨hx, hb, hml, hown, hts⟩ (hB H.size) (cwV 2 hts (nT_V wl_L_39 wi_X7_price ws_X7_price wn_X7 wc_X7_price) rfl rfl rfl (by decide +kernel) ⟨Nat.le_of_ble_eq_true rfl, Nat.le_of_ble_eq_true rfl⟩) (nB.preV hK hI hP (by omega) hfy rfl rfl) rfl rfl hl.1 rfl (lv_room (Nat.le_of_ble_eq_true rfl)) dL_law_332 hcs) hS (fun r2 w2 H locs hq2 hP hS => ?_)
  obtain ⟨hr2, hSd2⟩ := hq2
  rw [hr, hr2]
  exact lv_icmp_eq (tgt := 984) hx hb dL_law_335 (by decide) (fun _ => kk w2 H locs hSd2 hP hS) (fun h => absurd rfl h)
set_option maxHeartbeats 4000000 in
theorem lw_c6 (hx : p.tables.exec = Jvm.exec) (hb : cd.code = cL_law) (hml : cd.maxLocals = 4) (hown : s.vm.findClass RL = some m.cls) (hts : ∀ q ∈ Cond.initialized RX6 :: nT, q.before #[Value.ref b] s = true) (hX : va_X b L xs s s.heap) (hbl : b < s.heap.size) (hbA : ¬ nA N ad s.heap.size b) (hZ : ∀ j, xs j = iI (Z j)) (hZr : ∀ j, -2147483648 ≤ Z j ∧ Z j < 2147483648) (hL : L ≤ 3072) (hK : nK G s) (hI : nInj N ad) (hN : N = x + 246) (hy : y = x + 219) (hcs : cells ≤ room_1.cells ∧ slots ≤ room_1.slots) (hc : c ≤ 600) (hSd : Sd G ad x y c w) (hP : va_P G.1 vwCl (nL N ad w) H) (hS : va_S (nA N ad s.heap.size) s.heap H locs) (i0 : Nat) (hi : i0 + 6 ≤ L) (hl : lv_has ls 4 [(0, .ref b), (1, .ref (ad x)), (2, .ref (ad y)), (3, .int (iI (i0 : Int)))]) (kk : ∀ w1 H1 locs1, Sd G ad x y (c + 1) w1 → va_P G.1 vwCl (nL N ad w1) H1 → va_S (nA N ad s.heap.size) s.heap H1 locs1 → W p l e room_1 s m #[Value.ref b] below meth cd H1 locs1 cells slots Q (F0 m 984 ls [])) : W p l e room_1 s m #[Value.ref b] below meth cd H locs cells slots Q (F0 m 340 ls []) := by
  refine lv_aload_n hx hb dL_law_340 rfl (lv_at hl 1 rfl) ?_
  refine lv_aload_n hx hb dL_law_341 rfl (lv_at hl 0 rfl) ?_
  refine lv_iload_n hx hb dL_law_342 rfl (lv_at hl 3 rfl) ?_
  refine n_iconst hx hb dL_law_343 ?_
  refine n_iadd hx hb dL_law_344 ?_
  refine n_sld hx hb hX hbl hbA hS hZ (i0 + 1) (by omega) (by omega) (by omega) dL_law_345 ?_
  obtain ⟨R, P1, hA, hB⟩ := k_gain (l := l) hN hy hc hSd (Z (i0 + 1)) (hZr _)
  obtain ⟨M, kp, hCl, hMo, -, -⟩ := id hSd
  refine n_cL (va_runV (As := [.int (iI (Z (i0 + 1)))]) (rest := []) ⟨hx, hb, hml, hown, hts⟩ (hA H.size) (cwV 1 hts (nT_V wl_L_40 wi_X6_gain ws_X6_gain wn_X6 wc_X6_gain) rfl rfl rfl (by decide +kernel) ⟨Nat.le_of_ble_eq_true rfl, Nat.le_of_ble_eq_true rfl⟩) (nB.preV hK hI hP (by omega) hCl.1 rfl rfl) rfl rfl hl.1 rfl (lv_room (Nat.le_of_ble_eq_true rfl)) dL_law_346 hcs) hS (fun r w1 H locs hq hP hS => ?_)
  obtain ⟨hr, hp⟩ := hq
  obtain ⟨⟨fs, hfy⟩, hB⟩ := hB w1 hp
  refine lv_aload_n hx hb dL_law_349 rfl (lv_at hl 2 rfl) ?_
  refine lv_aload_n hx hb dL_law_350 rfl (lv_at hl 0 rfl) ?_
  refine lv_iload_n hx hb dL_law_351 rfl (lv_at hl 3 rfl) ?_
  refine n_iconst hx hb dL_law_352 ?_
  refine n_iadd hx hb dL_law_353 ?_
  refine n_sld hx hb hX hbl hbA hS hZ (i0 + 1) (by omega) (by omega) (by omega) dL_law_354 ?_
  refine n_cL (va_runV (As := [.int (iI (Z (i0 + 1)))]) (rest := [.long (jI r)]) ⟨hx, hb, hml, hown, hts⟩ (hB H.size) (cwV 1 hts (nT_V wl_L_44 wi_X7_gain ws_X7_gain wn_X7 wc_X7_gain) rfl rfl rfl (by decide +kernel) ⟨Nat.le_of_ble_eq_true rfl, Nat.le_of_ble_eq_true rfl⟩) (nB.preV hK hI hP (by omega) hfy rfl rfl) rfl rfl hl.1 rfl (lv_room (Nat.le_of_ble_eq_true rfl)) dL_law_355 hcs) hS (fun r2 w2 H locs hq2 hP hS => ?_)
  obtain ⟨hr2, hSd2⟩ := hq2
  rw [hr, hr2]
  refine W.lcmp hx hb dL_law_358 ?_
  rw [lg_self]
  exact lv_if_eq (tgt := 984) hx hb dL_law_359 (by decide) (fun _ => kk w2 H locs hSd2 hP hS) (fun h => absurd rfl h)
set_option maxHeartbeats 4000000 in
theorem lw_c7 (hx : p.tables.exec = Jvm.exec) (hb : cd.code = cL_law) (hml : cd.maxLocals = 4) (hown : s.vm.findClass RL = some m.cls) (hts : ∀ q ∈ Cond.initialized RX6 :: nT, q.before #[Value.ref b] s = true) (hX : va_X b L xs s s.heap) (hbl : b < s.heap.size) (hbA : ¬ nA N ad s.heap.size b) (hZ : ∀ j, xs j = iI (Z j)) (hZr : ∀ j, -2147483648 ≤ Z j ∧ Z j < 2147483648) (hL : L ≤ 3072) (hK : nK G s) (hI : nInj N ad) (hN : N = x + 246) (hy : y = x + 219) (hcs : cells ≤ room_1.cells ∧ slots ≤ room_1.slots) (hc : c ≤ 600) (hSd : Sd G ad x y c w) (hP : va_P G.1 vwCl (nL N ad w) H) (hS : va_S (nA N ad s.heap.size) s.heap H locs) (i0 : Nat) (hi : i0 + 6 ≤ L) (hl : lv_has ls 4 [(0, .ref b), (1, .ref (ad x)), (2, .ref (ad y)), (3, .int (iI (i0 : Int)))]) (kk : ∀ w1 H1 locs1, Sd G ad x y (c + 1) w1 → va_P G.1 vwCl (nL N ad w1) H1 → va_S (nA N ad s.heap.size) s.heap H1 locs1 → W p l e room_1 s m #[Value.ref b] below meth cd H1 locs1 cells slots Q (F0 m 984 ls [])) : W p l e room_1 s m #[Value.ref b] below meth cd H locs cells slots Q (F0 m 364 ls []) := by
  refine lv_aload_n hx hb dL_law_364 rfl (lv_at hl 1 rfl) ?_
  obtain ⟨R, P1, hA, hB⟩ := k_fairest (l := l) hN hy hc hSd  
  obtain ⟨M, kp, hCl, hMo, -, -⟩ := id hSd
  refine n_cI (va_runV (As := []) (rest := []) ⟨hx, hb, hml, hown, hts⟩ (hA H.size) (cwV 0 hts (nT_V wl_L_45 wi_X6_fairest ws_X6_fairest wn_X6 wc_X6_fairest) rfl rfl rfl (by decide +kernel) ⟨Nat.le_of_ble_eq_true rfl, Nat.le_of_ble_eq_true rfl⟩) (nB.preV hK hI hP (by omega) hCl.1 rfl rfl) rfl rfl hl.1 rfl (lv_room (Nat.le_of_ble_eq_true rfl)) dL_law_365 hcs) hS (fun r w1 H locs hq hP hS => ?_)
  obtain ⟨hr, hp⟩ := hq
  obtain ⟨⟨fs, hfy⟩, hB⟩ := hB w1 hp
  refine lv_aload_n hx hb dL_law_368 rfl (lv_at hl 2 rfl) ?_
  refine n_cI (va_runV (As := []) (rest := [.int (iI r)]) ⟨hx, hb, hml, hown, hts⟩ (hB H.size) (cwV 0 hts (nT_V wl_L_49 wi_X7_fairest ws_X7_fairest wn_X7 wc_X7_fairest) rfl rfl rfl (by decide +kernel) ⟨Nat.le_of_ble_eq_true rfl, Nat.le_of_ble_eq_true rfl⟩) (nB.preV hK hI hP (by omega) hfy rfl rfl) rfl rfl hl.1 rfl (lv_room (Nat.le_of_ble_eq_true rfl)) dL_law_369 hcs) hS (fun r2 w2 H locs hq2 hP hS => ?_)
  obtain ⟨hr2, hSd2⟩ := hq2
  rw [hr, hr2]
  exact lv_icmp_eq (tgt := 984) hx hb dL_law_372 (by decide) (fun _ => kk w2 H locs hSd2 hP hS) (fun h => absurd rfl h)
set_option maxHeartbeats 4000000 in
theorem lw_c8 (hx : p.tables.exec = Jvm.exec) (hb : cd.code = cL_law) (hml : cd.maxLocals = 4) (hown : s.vm.findClass RL = some m.cls) (hts : ∀ q ∈ Cond.initialized RX6 :: nT, q.before #[Value.ref b] s = true) (hX : va_X b L xs s s.heap) (hbl : b < s.heap.size) (hbA : ¬ nA N ad s.heap.size b) (hZ : ∀ j, xs j = iI (Z j)) (hZr : ∀ j, -2147483648 ≤ Z j ∧ Z j < 2147483648) (hL : L ≤ 3072) (hK : nK G s) (hI : nInj N ad) (hN : N = x + 246) (hy : y = x + 219) (hcs : cells ≤ room_1.cells ∧ slots ≤ room_1.slots) (hc : c ≤ 600) (hSd : Sd G ad x y c w) (hP : va_P G.1 vwCl (nL N ad w) H) (hS : va_S (nA N ad s.heap.size) s.heap H locs) (i0 : Nat) (hi : i0 + 6 ≤ L) (hl : lv_has ls 4 [(0, .ref b), (1, .ref (ad x)), (2, .ref (ad y)), (3, .int (iI (i0 : Int)))]) (kk : ∀ w1 H1 locs1, Sd G ad x y (c + 1) w1 → va_P G.1 vwCl (nL N ad w1) H1 → va_S (nA N ad s.heap.size) s.heap H1 locs1 → W p l e room_1 s m #[Value.ref b] below meth cd H1 locs1 cells slots Q (F0 m 984 ls [])) : W p l e room_1 s m #[Value.ref b] below meth cd H locs cells slots Q (F0 m 377 ls []) := by
  refine lv_aload_n hx hb dL_law_377 rfl (lv_at hl 1 rfl) ?_
  refine lv_aload_n hx hb dL_law_378 rfl (lv_at hl 0 rfl) ?_
  refine lv_iload_n hx hb dL_law_379 rfl (lv_at hl 3 rfl) ?_
  refine n_iconst hx hb dL_law_380 ?_
  refine n_iadd hx hb dL_law_381 ?_
  refine n_sld hx hb hX hbl hbA hS hZ (i0 + 1) (by omega) (by omega) (by omega) dL_law_382 ?_
  obtain ⟨R, P1, hA, hB⟩ := k_gains (l := l) hN hy hc hSd (Z (i0 + 1)) (hZr _)
  obtain ⟨M, kp, hCl, hMo, -, -⟩ := id hSd
  refine n_cL (va_runV (As := [.int (iI (Z (i0 + 1)))]) (rest := []) ⟨hx, hb, hml, hown, hts⟩ (hA H.size) (cwV 1 hts (nT_V wl_L_50 wi_X6_gains ws_X6_gains wn_X6 wc_X6_gains) rfl rfl rfl (by decide +kernel) ⟨Nat.le_of_ble_eq_true rfl, Nat.le_of_ble_eq_true rfl⟩) (nB.preV hK hI hP (by omega) hCl.1 rfl rfl) rfl rfl hl.1 rfl (lv_room (Nat.le_of_ble_eq_true rfl)) dL_law_383 hcs) hS (fun r w1 H locs hq hP hS => ?_)
  obtain ⟨hr, hp⟩ := hq
  obtain ⟨⟨fs, hfy⟩, hB⟩ := hB w1 hp
  refine lv_aload_n hx hb dL_law_386 rfl (lv_at hl 2 rfl) ?_
  refine lv_aload_n hx hb dL_law_387 rfl (lv_at hl 0 rfl) ?_
  refine lv_iload_n hx hb dL_law_388 rfl (lv_at hl 3 rfl) ?_
  refine n_iconst hx hb dL_law_389 ?_
  refine n_iadd hx hb dL_law_390 ?_
  refine n_sld hx hb hX hbl hbA hS hZ (i0 + 1) (by omega) (by omega) (by omega) dL_law_391 ?_
  refine n_cL (va_runV (As := [.int (iI (Z (i0 + 1)))]) (rest := [.long (jI r)]) ⟨hx, hb, hml, hown, hts⟩ (hB H.size) (cwV 1 hts (nT_V wl_L_53 wi_X7_gains ws_X7_gains wn_X7 wc_X7_gains) rfl rfl rfl (by decide +kernel) ⟨Nat.le_of_ble_eq_true rfl, Nat.le_of_ble_eq_true rfl⟩) (nB.preV hK hI hP (by omega) hfy rfl rfl) rfl rfl hl.1 rfl (lv_room (Nat.le_of_ble_eq_true rfl)) dL_law_392 hcs) hS (fun r2 w2 H locs hq2 hP hS => ?_)
  obtain ⟨hr2, hSd2⟩ := hq2
  rw [hr, hr2]
  refine W.lcmp hx hb dL_law_395 ?_
  rw [lg_self]
  exact lv_if_eq (tgt := 984) hx hb dL_law_396 (by decide) (fun _ => kk w2 H locs hSd2 hP hS) (fun h => absurd rfl h)
set_option maxHeartbeats 4000000 in
theorem lw_c9 (hx : p.tables.exec = Jvm.exec) (hb : cd.code = cL_law) (hml : cd.maxLocals = 4) (hown : s.vm.findClass RL = some m.cls) (hts : ∀ q ∈ Cond.initialized RX6 :: nT, q.before #[Value.ref b] s = true) (hX : va_X b L xs s s.heap) (hbl : b < s.heap.size) (hbA : ¬ nA N ad s.heap.size b) (hZ : ∀ j, xs j = iI (Z j)) (hZr : ∀ j, -2147483648 ≤ Z j ∧ Z j < 2147483648) (hL : L ≤ 3072) (hK : nK G s) (hI : nInj N ad) (hN : N = x + 246) (hy : y = x + 219) (hcs : cells ≤ room_1.cells ∧ slots ≤ room_1.slots) (hc : c ≤ 600) (hSd : Sd G ad x y c w) (hP : va_P G.1 vwCl (nL N ad w) H) (hS : va_S (nA N ad s.heap.size) s.heap H locs) (i0 : Nat) (hi : i0 + 6 ≤ L) (hl : lv_has ls 4 [(0, .ref b), (1, .ref (ad x)), (2, .ref (ad y)), (3, .int (iI (i0 : Int)))]) (kk : ∀ w1 H1 locs1, Sd G ad x y (c + 1) w1 → va_P G.1 vwCl (nL N ad w1) H1 → va_S (nA N ad s.heap.size) s.heap H1 locs1 → W p l e room_1 s m #[Value.ref b] below meth cd H1 locs1 cells slots Q (F0 m 984 ls [])) : W p l e room_1 s m #[Value.ref b] below meth cd H locs cells slots Q (F0 m 401 ls []) := by
  refine lv_aload_n hx hb dL_law_401 rfl (lv_at hl 1 rfl) ?_
  refine lv_aload_n hx hb dL_law_402 rfl (lv_at hl 0 rfl) ?_
  refine lv_iload_n hx hb dL_law_403 rfl (lv_at hl 3 rfl) ?_
  refine n_iconst hx hb dL_law_404 ?_
  refine n_iadd hx hb dL_law_405 ?_
  refine n_sld hx hb hX hbl hbA hS hZ (i0 + 1) (by omega) (by omega) (by omega) dL_law_406 ?_
  refine lv_aload_n hx hb dL_law_407 rfl (lv_at hl 0 rfl) ?_
  refine lv_iload_n hx hb dL_law_408 rfl (lv_at hl 3 rfl) ?_
  refine n_iconst hx hb dL_law_409 ?_
  refine n_iadd hx hb dL_law_410 ?_
  refine n_sld hx hb hX hbl hbA hS hZ (i0 + 2) (by omega) (by omega) (by omega) dL_law_411 ?_
  refine lv_aload_n hx hb dL_law_412 rfl (lv_at hl 0 rfl) ?_
  refine lv_iload_n hx hb dL_law_413 rfl (lv_at hl 3 rfl) ?_
  refine n_iconst hx hb dL_law_414 ?_
  refine n_iadd hx hb dL_law_415 ?_
  refine n_sld hx hb hX hbl hbA hS hZ (i0 + 3) (by omega) (by omega) (by omega) dL_law_416 ?_
  obtain ⟨R, P1, hA, hB⟩ := k_fewest (l := l) hN hy hc hSd (Z (i0 + 1)) (Z (i0 + 2)) (Z (i0 + 3)) (hZr _) (hZr _) (hZr _)
  obtain ⟨M, kp, hCl, hMo, -, -⟩ := id hSd
  refine n_cI (va_runV (As := [.int (iI (Z (i0 + 1))), .int (iI (Z (i0 + 2))), .int (iI (Z (i0 + 3)))]) (rest := []) ⟨hx, hb, hml, hown, hts⟩ (hA H.size) (cwV 3 hts (nT_V wl_L_54 wi_X6_fewest ws_X6_fewest wn_X6 wc_X6_fewest) rfl rfl rfl (by decide +kernel) ⟨Nat.le_of_ble_eq_true rfl, Nat.le_of_ble_eq_true rfl⟩) (nB.preV hK hI hP (by omega) hCl.1 rfl rfl) rfl rfl hl.1 rfl (lv_room (Nat.le_of_ble_eq_true rfl)) dL_law_417 hcs) hS (fun r w1 H locs hq hP hS => ?_)
  obtain ⟨hr, hp⟩ := hq
  obtain ⟨⟨fs, hfy⟩, hB⟩ := hB w1 hp
  refine lv_aload_n hx hb dL_law_420 rfl (lv_at hl 2 rfl) ?_
  refine lv_aload_n hx hb dL_law_421 rfl (lv_at hl 0 rfl) ?_
  refine lv_iload_n hx hb dL_law_422 rfl (lv_at hl 3 rfl) ?_
  refine n_iconst hx hb dL_law_423 ?_
  refine n_iadd hx hb dL_law_424 ?_
  refine n_sld hx hb hX hbl hbA hS hZ (i0 + 1) (by omega) (by omega) (by omega) dL_law_425 ?_
  refine lv_aload_n hx hb dL_law_426 rfl (lv_at hl 0 rfl) ?_
  refine lv_iload_n hx hb dL_law_427 rfl (lv_at hl 3 rfl) ?_
  refine n_iconst hx hb dL_law_428 ?_
  refine n_iadd hx hb dL_law_429 ?_
  refine n_sld hx hb hX hbl hbA hS hZ (i0 + 2) (by omega) (by omega) (by omega) dL_law_430 ?_
  refine lv_aload_n hx hb dL_law_431 rfl (lv_at hl 0 rfl) ?_
  refine lv_iload_n hx hb dL_law_432 rfl (lv_at hl 3 rfl) ?_
  refine n_iconst hx hb dL_law_433 ?_
  refine n_iadd hx hb dL_law_434 ?_
  refine n_sld hx hb hX hbl hbA hS hZ (i0 + 3) (by omega) (by omega) (by omega) dL_law_435 ?_
  refine n_cI (va_runV (As := [.int (iI (Z (i0 + 1))), .int (iI (Z (i0 + 2))), .int (iI (Z (i0 + 3)))]) (rest := [.int (iI r)]) ⟨hx, hb, hml, hown, hts⟩ (hB H.size) (cwV 3 hts (nT_V wl_L_58 wi_X7_fewest ws_X7_fewest wn_X7 wc_X7_fewest) rfl rfl rfl (by decide +kernel) ⟨Nat.le_of_ble_eq_true rfl, Nat.le_of_ble_eq_true rfl⟩) (nB.preV hK hI hP (by omega) hfy rfl rfl) rfl rfl hl.1 rfl (lv_room (Nat.le_of_ble_eq_true rfl)) dL_law_436 hcs) hS (fun r2 w2 H locs hq2 hP hS => ?_)
  obtain ⟨hr2, hSd2⟩ := hq2
  rw [hr, hr2]
  exact lv_icmp_eq (tgt := 984) hx hb dL_law_439 (by decide) (fun _ => kk w2 H locs hSd2 hP hS) (fun h => absurd rfl h)
set_option maxHeartbeats 4000000 in
theorem lw_c10 (hx : p.tables.exec = Jvm.exec) (hb : cd.code = cL_law) (hml : cd.maxLocals = 4) (hown : s.vm.findClass RL = some m.cls) (hts : ∀ q ∈ Cond.initialized RX6 :: nT, q.before #[Value.ref b] s = true) (hX : va_X b L xs s s.heap) (hbl : b < s.heap.size) (hbA : ¬ nA N ad s.heap.size b) (hZ : ∀ j, xs j = iI (Z j)) (hZr : ∀ j, -2147483648 ≤ Z j ∧ Z j < 2147483648) (hL : L ≤ 3072) (hK : nK G s) (hI : nInj N ad) (hN : N = x + 246) (hy : y = x + 219) (hcs : cells ≤ room_1.cells ∧ slots ≤ room_1.slots) (hc : c ≤ 600) (hSd : Sd G ad x y c w) (hP : va_P G.1 vwCl (nL N ad w) H) (hS : va_S (nA N ad s.heap.size) s.heap H locs) (i0 : Nat) (hi : i0 + 6 ≤ L) (hl : lv_has ls 4 [(0, .ref b), (1, .ref (ad x)), (2, .ref (ad y)), (3, .int (iI (i0 : Int)))]) (kk : ∀ w1 H1 locs1, Sd G ad x y (c + 1) w1 → va_P G.1 vwCl (nL N ad w1) H1 → va_S (nA N ad s.heap.size) s.heap H1 locs1 → W p l e room_1 s m #[Value.ref b] below meth cd H1 locs1 cells slots Q (F0 m 984 ls [])) : W p l e room_1 s m #[Value.ref b] below meth cd H locs cells slots Q (F0 m 444 ls []) := by
  refine lv_aload_n hx hb dL_law_444 rfl (lv_at hl 1 rfl) ?_
  refine lv_aload_n hx hb dL_law_445 rfl (lv_at hl 0 rfl) ?_
  refine lv_iload_n hx hb dL_law_446 rfl (lv_at hl 3 rfl) ?_
  refine n_iconst hx hb dL_law_447 ?_
  refine n_iadd hx hb dL_law_448 ?_
  refine n_sld hx hb hX hbl hbA hS hZ (i0 + 1) (by omega) (by omega) (by omega) dL_law_449 ?_
  refine lv_aload_n hx hb dL_law_450 rfl (lv_at hl 0 rfl) ?_
  refine lv_iload_n hx hb dL_law_451 rfl (lv_at hl 3 rfl) ?_
  refine n_iconst hx hb dL_law_452 ?_
  refine n_iadd hx hb dL_law_453 ?_
  refine n_sld hx hb hX hbl hbA hS hZ (i0 + 2) (by omega) (by omega) (by omega) dL_law_454 ?_
  obtain ⟨R, P1, hA, hB⟩ := k_greedy (l := l) hN hy hc hSd (Z (i0 + 1)) (Z (i0 + 2)) (hZr _) (hZr _)
  obtain ⟨M, kp, hCl, hMo, -, -⟩ := id hSd
  refine n_cI (va_runV (As := [.int (iI (Z (i0 + 1))), .int (iI (Z (i0 + 2)))]) (rest := []) ⟨hx, hb, hml, hown, hts⟩ (hA H.size) (cwV 2 hts (nT_V wl_L_59 wi_X6_greedy ws_X6_greedy wn_X6 wc_X6_greedy) rfl rfl rfl (by decide +kernel) ⟨Nat.le_of_ble_eq_true rfl, Nat.le_of_ble_eq_true rfl⟩) (nB.preV hK hI hP (by omega) hCl.1 rfl rfl) rfl rfl hl.1 rfl (lv_room (Nat.le_of_ble_eq_true rfl)) dL_law_455 hcs) hS (fun r w1 H locs hq hP hS => ?_)
  obtain ⟨hr, hp⟩ := hq
  obtain ⟨⟨fs, hfy⟩, hB⟩ := hB w1 hp
  refine lv_aload_n hx hb dL_law_458 rfl (lv_at hl 2 rfl) ?_
  refine lv_aload_n hx hb dL_law_459 rfl (lv_at hl 0 rfl) ?_
  refine lv_iload_n hx hb dL_law_460 rfl (lv_at hl 3 rfl) ?_
  refine n_iconst hx hb dL_law_461 ?_
  refine n_iadd hx hb dL_law_462 ?_
  refine n_sld hx hb hX hbl hbA hS hZ (i0 + 1) (by omega) (by omega) (by omega) dL_law_463 ?_
  refine lv_aload_n hx hb dL_law_464 rfl (lv_at hl 0 rfl) ?_
  refine lv_iload_n hx hb dL_law_465 rfl (lv_at hl 3 rfl) ?_
  refine n_iconst hx hb dL_law_466 ?_
  refine n_iadd hx hb dL_law_467 ?_
  refine n_sld hx hb hX hbl hbA hS hZ (i0 + 2) (by omega) (by omega) (by omega) dL_law_468 ?_
  refine n_cI (va_runV (As := [.int (iI (Z (i0 + 1))), .int (iI (Z (i0 + 2)))]) (rest := [.int (iI r)]) ⟨hx, hb, hml, hown, hts⟩ (hB H.size) (cwV 2 hts (nT_V wl_L_62 wi_X7_greedy ws_X7_greedy wn_X7 wc_X7_greedy) rfl rfl rfl (by decide +kernel) ⟨Nat.le_of_ble_eq_true rfl, Nat.le_of_ble_eq_true rfl⟩) (nB.preV hK hI hP (by omega) hfy rfl rfl) rfl rfl hl.1 rfl (lv_room (Nat.le_of_ble_eq_true rfl)) dL_law_469 hcs) hS (fun r2 w2 H locs hq2 hP hS => ?_)
  obtain ⟨hr2, hSd2⟩ := hq2
  rw [hr, hr2]
  exact lv_icmp_eq (tgt := 984) hx hb dL_law_472 (by decide) (fun _ => kk w2 H locs hSd2 hP hS) (fun h => absurd rfl h)
set_option maxHeartbeats 4000000 in
theorem lw_c11 (hx : p.tables.exec = Jvm.exec) (hb : cd.code = cL_law) (hml : cd.maxLocals = 4) (hown : s.vm.findClass RL = some m.cls) (hts : ∀ q ∈ Cond.initialized RX6 :: nT, q.before #[Value.ref b] s = true) (hX : va_X b L xs s s.heap) (hbl : b < s.heap.size) (hbA : ¬ nA N ad s.heap.size b) (hZ : ∀ j, xs j = iI (Z j)) (hZr : ∀ j, -2147483648 ≤ Z j ∧ Z j < 2147483648) (hL : L ≤ 3072) (hK : nK G s) (hI : nInj N ad) (hN : N = x + 246) (hy : y = x + 219) (hcs : cells ≤ room_1.cells ∧ slots ≤ room_1.slots) (hc : c ≤ 600) (hSd : Sd G ad x y c w) (hP : va_P G.1 vwCl (nL N ad w) H) (hS : va_S (nA N ad s.heap.size) s.heap H locs) (i0 : Nat) (hi : i0 + 6 ≤ L) (hl : lv_has ls 4 [(0, .ref b), (1, .ref (ad x)), (2, .ref (ad y)), (3, .int (iI (i0 : Int)))]) (kk : ∀ w1 H1 locs1, Sd G ad x y (c + 1) w1 → va_P G.1 vwCl (nL N ad w1) H1 → va_S (nA N ad s.heap.size) s.heap H1 locs1 → W p l e room_1 s m #[Value.ref b] below meth cd H1 locs1 cells slots Q (F0 m 984 ls [])) : W p l e room_1 s m #[Value.ref b] below meth cd H locs cells slots Q (F0 m 477 ls []) := by
  refine lv_aload_n hx hb dL_law_477 rfl (lv_at hl 1 rfl) ?_
  refine lv_aload_n hx hb dL_law_478 rfl (lv_at hl 0 rfl) ?_
  refine lv_iload_n hx hb dL_law_479 rfl (lv_at hl 3 rfl) ?_
  refine n_iconst hx hb dL_law_480 ?_
  refine n_iadd hx hb dL_law_481 ?_
  refine n_sld hx hb hX hbl hbA hS hZ (i0 + 1) (by omega) (by omega) (by omega) dL_law_482 ?_
  obtain ⟨R, P1, hA, hB⟩ := k_odd (l := l) hN hy hc hSd (Z (i0 + 1)) (hZr _)
  obtain ⟨M, kp, hCl, hMo, -, -⟩ := id hSd
  refine n_cI (va_runV (As := [.int (iI (Z (i0 + 1)))]) (rest := []) ⟨hx, hb, hml, hown, hts⟩ (hA H.size) (cwV 1 hts (nT_V wl_L_63 wi_X6_odd ws_X6_odd wn_X6 wc_X6_odd) rfl rfl rfl (by decide +kernel) ⟨Nat.le_of_ble_eq_true rfl, Nat.le_of_ble_eq_true rfl⟩) (nB.preV hK hI hP (by omega) hCl.1 rfl rfl) rfl rfl hl.1 rfl (lv_room (Nat.le_of_ble_eq_true rfl)) dL_law_483 hcs) hS (fun r w1 H locs hq hP hS => ?_)
  obtain ⟨hr, hp⟩ := hq
  obtain ⟨⟨fs, hfy⟩, hB⟩ := hB w1 hp
  refine lv_aload_n hx hb dL_law_486 rfl (lv_at hl 2 rfl) ?_
  refine lv_aload_n hx hb dL_law_487 rfl (lv_at hl 0 rfl) ?_
  refine lv_iload_n hx hb dL_law_488 rfl (lv_at hl 3 rfl) ?_
  refine n_iconst hx hb dL_law_489 ?_
  refine n_iadd hx hb dL_law_490 ?_
  refine n_sld hx hb hX hbl hbA hS hZ (i0 + 1) (by omega) (by omega) (by omega) dL_law_491 ?_
  refine n_cI (va_runV (As := [.int (iI (Z (i0 + 1)))]) (rest := [.int (iI r)]) ⟨hx, hb, hml, hown, hts⟩ (hB H.size) (cwV 1 hts (nT_V wl_L_67 wi_X7_odd ws_X7_odd wn_X7 wc_X7_odd) rfl rfl rfl (by decide +kernel) ⟨Nat.le_of_ble_eq_true rfl, Nat.le_of_ble_eq_true rfl⟩) (nB.preV hK hI hP (by omega) hfy rfl rfl) rfl rfl hl.1 rfl (lv_room (Nat.le_of_ble_eq_true rfl)) dL_law_492 hcs) hS (fun r2 w2 H locs hq2 hP hS => ?_)
  obtain ⟨hr2, hSd2⟩ := hq2
  rw [hr, hr2]
  exact lv_icmp_eq (tgt := 984) hx hb dL_law_495 (by decide) (fun _ => kk w2 H locs hSd2 hP hS) (fun h => absurd rfl h)
set_option maxHeartbeats 4000000 in
theorem lw_c12 (hx : p.tables.exec = Jvm.exec) (hb : cd.code = cL_law) (hml : cd.maxLocals = 4) (hown : s.vm.findClass RL = some m.cls) (hts : ∀ q ∈ Cond.initialized RX6 :: nT, q.before #[Value.ref b] s = true) (hX : va_X b L xs s s.heap) (hbl : b < s.heap.size) (hbA : ¬ nA N ad s.heap.size b) (hZ : ∀ j, xs j = iI (Z j)) (hZr : ∀ j, -2147483648 ≤ Z j ∧ Z j < 2147483648) (hL : L ≤ 3072) (hK : nK G s) (hI : nInj N ad) (hN : N = x + 246) (hy : y = x + 219) (hcs : cells ≤ room_1.cells ∧ slots ≤ room_1.slots) (hc : c ≤ 600) (hSd : Sd G ad x y c w) (hP : va_P G.1 vwCl (nL N ad w) H) (hS : va_S (nA N ad s.heap.size) s.heap H locs) (i0 : Nat) (hi : i0 + 6 ≤ L) (hl : lv_has ls 4 [(0, .ref b), (1, .ref (ad x)), (2, .ref (ad y)), (3, .int (iI (i0 : Int)))]) (kk : ∀ w1 H1 locs1, Sd G ad x y (c + 1) w1 → va_P G.1 vwCl (nL N ad w1) H1 → va_S (nA N ad s.heap.size) s.heap H1 locs1 → W p l e room_1 s m #[Value.ref b] below meth cd H1 locs1 cells slots Q (F0 m 984 ls [])) : W p l e room_1 s m #[Value.ref b] below meth cd H locs cells slots Q (F0 m 500 ls []) := by
  refine lv_aload_n hx hb dL_law_500 rfl (lv_at hl 1 rfl) ?_
  obtain ⟨R, P1, hA, hB⟩ := k_till (l := l) hN hy hc hSd  
  obtain ⟨M, kp, hCl, hMo, -, -⟩ := id hSd
  refine n_cI (va_runV (As := []) (rest := []) ⟨hx, hb, hml, hown, hts⟩ (hA H.size) (cwV 0 hts (nT_V wl_L_68 wi_X6_till ws_X6_till wn_X6 wc_X6_till) rfl rfl rfl (by decide +kernel) ⟨Nat.le_of_ble_eq_true rfl, Nat.le_of_ble_eq_true rfl⟩) (nB.preV hK hI hP (by omega) hCl.1 rfl rfl) rfl rfl hl.1 rfl (lv_room (Nat.le_of_ble_eq_true rfl)) dL_law_501 hcs) hS (fun r w1 H locs hq hP hS => ?_)
  obtain ⟨hr, hp⟩ := hq
  obtain ⟨⟨fs, hfy⟩, hB⟩ := hB w1 hp
  refine lv_aload_n hx hb dL_law_504 rfl (lv_at hl 2 rfl) ?_
  refine n_cI (va_runV (As := []) (rest := [.int (iI r)]) ⟨hx, hb, hml, hown, hts⟩ (hB H.size) (cwV 0 hts (nT_V wl_L_71 wi_X7_till ws_X7_till wn_X7 wc_X7_till) rfl rfl rfl (by decide +kernel) ⟨Nat.le_of_ble_eq_true rfl, Nat.le_of_ble_eq_true rfl⟩) (nB.preV hK hI hP (by omega) hfy rfl rfl) rfl rfl hl.1 rfl (lv_room (Nat.le_of_ble_eq_true rfl)) dL_law_505 hcs) hS (fun r2 w2 H locs hq2 hP hS => ?_)
  obtain ⟨hr2, hSd2⟩ := hq2
  rw [hr, hr2]
  exact lv_icmp_eq (tgt := 984) hx hb dL_law_508 (by decide) (fun _ => kk w2 H locs hSd2 hP hS) (fun h => absurd rfl h)
set_option maxHeartbeats 4000000 in
theorem lw_c13 (hx : p.tables.exec = Jvm.exec) (hb : cd.code = cL_law) (hml : cd.maxLocals = 4) (hown : s.vm.findClass RL = some m.cls) (hts : ∀ q ∈ Cond.initialized RX6 :: nT, q.before #[Value.ref b] s = true) (hX : va_X b L xs s s.heap) (hbl : b < s.heap.size) (hbA : ¬ nA N ad s.heap.size b) (hZ : ∀ j, xs j = iI (Z j)) (hZr : ∀ j, -2147483648 ≤ Z j ∧ Z j < 2147483648) (hL : L ≤ 3072) (hK : nK G s) (hI : nInj N ad) (hN : N = x + 246) (hy : y = x + 219) (hcs : cells ≤ room_1.cells ∧ slots ≤ room_1.slots) (hc : c ≤ 600) (hSd : Sd G ad x y c w) (hP : va_P G.1 vwCl (nL N ad w) H) (hS : va_S (nA N ad s.heap.size) s.heap H locs) (i0 : Nat) (hi : i0 + 6 ≤ L) (hl : lv_has ls 4 [(0, .ref b), (1, .ref (ad x)), (2, .ref (ad y)), (3, .int (iI (i0 : Int)))]) (kk : ∀ w1 H1 locs1, Sd G ad x y (c + 1) w1 → va_P G.1 vwCl (nL N ad w1) H1 → va_S (nA N ad s.heap.size) s.heap H1 locs1 → W p l e room_1 s m #[Value.ref b] below meth cd H1 locs1 cells slots Q (F0 m 984 ls [])) : W p l e room_1 s m #[Value.ref b] below meth cd H locs cells slots Q (F0 m 513 ls []) := by
  refine lv_aload_n hx hb dL_law_513 rfl (lv_at hl 1 rfl) ?_
  refine lv_aload_n hx hb dL_law_514 rfl (lv_at hl 0 rfl) ?_
  refine lv_iload_n hx hb dL_law_515 rfl (lv_at hl 3 rfl) ?_
  refine n_iconst hx hb dL_law_516 ?_
  refine n_iadd hx hb dL_law_517 ?_
  refine n_sld hx hb hX hbl hbA hS hZ (i0 + 1) (by omega) (by omega) (by omega) dL_law_518 ?_
  refine lv_aload_n hx hb dL_law_519 rfl (lv_at hl 0 rfl) ?_
  refine lv_iload_n hx hb dL_law_520 rfl (lv_at hl 3 rfl) ?_
  refine n_iconst hx hb dL_law_521 ?_
  refine n_iadd hx hb dL_law_522 ?_
  refine n_sld hx hb hX hbl hbA hS hZ (i0 + 2) (by omega) (by omega) (by omega) dL_law_523 ?_
  refine lv_aload_n hx hb dL_law_524 rfl (lv_at hl 0 rfl) ?_
  refine lv_iload_n hx hb dL_law_525 rfl (lv_at hl 3 rfl) ?_
  refine n_iconst hx hb dL_law_526 ?_
  refine n_iadd hx hb dL_law_527 ?_
  refine n_sld hx hb hX hbl hbA hS hZ (i0 + 3) (by omega) (by omega) (by omega) dL_law_528 ?_
  refine lv_aload_n hx hb dL_law_529 rfl (lv_at hl 0 rfl) ?_
  refine lv_iload_n hx hb dL_law_530 rfl (lv_at hl 3 rfl) ?_
  refine n_iconst hx hb dL_law_531 ?_
  refine n_iadd hx hb dL_law_532 ?_
  refine n_sld hx hb hX hbl hbA hS hZ (i0 + 4) (by omega) (by omega) (by omega) dL_law_533 ?_
  obtain ⟨R, P1, hA, hB⟩ := k_put (l := l) hN hy hc hSd (Z (i0 + 1)) (Z (i0 + 2)) (Z (i0 + 3)) (Z (i0 + 4)) (hZr _) (hZr _) (hZr _) (hZr _)
  obtain ⟨M, kp, hCl, hMo, -, -⟩ := id hSd
  refine n_cI (va_runV (As := [.int (iI (Z (i0 + 1))), .int (iI (Z (i0 + 2))), .int (iI (Z (i0 + 3))), .int (iI (Z (i0 + 4)))]) (rest := []) ⟨hx, hb, hml, hown, hts⟩ (hA H.size) (cwV 4 hts (nT_V wl_L_72 wi_X6_put ws_X6_put wn_X6 wc_X6_put) rfl rfl rfl (by decide +kernel) ⟨Nat.le_of_ble_eq_true rfl, Nat.le_of_ble_eq_true rfl⟩) (nB.preV hK hI hP (by omega) hCl.1 rfl rfl) rfl rfl hl.1 rfl (lv_room (Nat.le_of_ble_eq_true rfl)) dL_law_534 hcs) hS (fun r w1 H locs hq hP hS => ?_)
  obtain ⟨hr, hp⟩ := hq
  obtain ⟨⟨fs, hfy⟩, hB⟩ := hB w1 hp
  refine lv_aload_n hx hb dL_law_537 rfl (lv_at hl 2 rfl) ?_
  refine lv_aload_n hx hb dL_law_538 rfl (lv_at hl 0 rfl) ?_
  refine lv_iload_n hx hb dL_law_539 rfl (lv_at hl 3 rfl) ?_
  refine n_iconst hx hb dL_law_540 ?_
  refine n_iadd hx hb dL_law_541 ?_
  refine n_sld hx hb hX hbl hbA hS hZ (i0 + 1) (by omega) (by omega) (by omega) dL_law_542 ?_
  refine lv_aload_n hx hb dL_law_543 rfl (lv_at hl 0 rfl) ?_
  refine lv_iload_n hx hb dL_law_544 rfl (lv_at hl 3 rfl) ?_
  refine n_iconst hx hb dL_law_545 ?_
  refine n_iadd hx hb dL_law_546 ?_
  refine n_sld hx hb hX hbl hbA hS hZ (i0 + 2) (by omega) (by omega) (by omega) dL_law_547 ?_
  refine lv_aload_n hx hb dL_law_548 rfl (lv_at hl 0 rfl) ?_
  refine lv_iload_n hx hb dL_law_549 rfl (lv_at hl 3 rfl) ?_
  refine n_iconst hx hb dL_law_550 ?_
  refine n_iadd hx hb dL_law_551 ?_
  refine n_sld hx hb hX hbl hbA hS hZ (i0 + 3) (by omega) (by omega) (by omega) dL_law_552 ?_
  refine lv_aload_n hx hb dL_law_553 rfl (lv_at hl 0 rfl) ?_
  refine lv_iload_n hx hb dL_law_554 rfl (lv_at hl 3 rfl) ?_
  refine n_iconst hx hb dL_law_555 ?_
  refine n_iadd hx hb dL_law_556 ?_
  refine n_sld hx hb hX hbl hbA hS hZ (i0 + 4) (by omega) (by omega) (by omega) dL_law_557 ?_
  refine n_cI (va_runV (As := [.int (iI (Z (i0 + 1))), .int (iI (Z (i0 + 2))), .int (iI (Z (i0 + 3))), .int (iI (Z (i0 + 4)))]) (rest := [.int (iI r)]) ⟨hx, hb, hml, hown, hts⟩ (hB H.size) (cwV 4 hts (nT_V wl_L_76 wi_X7_put ws_X7_put wn_X7 wc_X7_put) rfl rfl rfl (by decide +kernel) ⟨Nat.le_of_ble_eq_true rfl, Nat.le_of_ble_eq_true rfl⟩) (nB.preV hK hI hP (by omega) hfy rfl rfl) rfl rfl hl.1 rfl (lv_room (Nat.le_of_ble_eq_true rfl)) dL_law_558 hcs) hS (fun r2 w2 H locs hq2 hP hS => ?_)
  obtain ⟨hr2, hSd2⟩ := hq2
  rw [hr, hr2]
  exact lv_icmp_eq (tgt := 984) hx hb dL_law_561 (by decide) (fun _ => kk w2 H locs hSd2 hP hS) (fun h => absurd rfl h)
set_option maxHeartbeats 4000000 in
theorem lw_c14 (hx : p.tables.exec = Jvm.exec) (hb : cd.code = cL_law) (hml : cd.maxLocals = 4) (hown : s.vm.findClass RL = some m.cls) (hts : ∀ q ∈ Cond.initialized RX6 :: nT, q.before #[Value.ref b] s = true) (hX : va_X b L xs s s.heap) (hbl : b < s.heap.size) (hbA : ¬ nA N ad s.heap.size b) (hZ : ∀ j, xs j = iI (Z j)) (hZr : ∀ j, -2147483648 ≤ Z j ∧ Z j < 2147483648) (hL : L ≤ 3072) (hK : nK G s) (hI : nInj N ad) (hN : N = x + 246) (hy : y = x + 219) (hcs : cells ≤ room_1.cells ∧ slots ≤ room_1.slots) (hc : c ≤ 600) (hSd : Sd G ad x y c w) (hP : va_P G.1 vwCl (nL N ad w) H) (hS : va_S (nA N ad s.heap.size) s.heap H locs) (i0 : Nat) (hi : i0 + 6 ≤ L) (hl : lv_has ls 4 [(0, .ref b), (1, .ref (ad x)), (2, .ref (ad y)), (3, .int (iI (i0 : Int)))]) (kk : ∀ w1 H1 locs1, Sd G ad x y (c + 1) w1 → va_P G.1 vwCl (nL N ad w1) H1 → va_S (nA N ad s.heap.size) s.heap H1 locs1 → W p l e room_1 s m #[Value.ref b] below meth cd H1 locs1 cells slots Q (F0 m 984 ls [])) : W p l e room_1 s m #[Value.ref b] below meth cd H locs cells slots Q (F0 m 566 ls []) := by
  refine lv_aload_n hx hb dL_law_566 rfl (lv_at hl 1 rfl) ?_
  refine lv_aload_n hx hb dL_law_567 rfl (lv_at hl 0 rfl) ?_
  refine lv_iload_n hx hb dL_law_568 rfl (lv_at hl 3 rfl) ?_
  refine n_iconst hx hb dL_law_569 ?_
  refine n_iadd hx hb dL_law_570 ?_
  refine n_sld hx hb hX hbl hbA hS hZ (i0 + 1) (by omega) (by omega) (by omega) dL_law_571 ?_
  refine lv_aload_n hx hb dL_law_572 rfl (lv_at hl 0 rfl) ?_
  refine lv_iload_n hx hb dL_law_573 rfl (lv_at hl 3 rfl) ?_
  refine n_iconst hx hb dL_law_574 ?_
  refine n_iadd hx hb dL_law_575 ?_
  refine n_sld hx hb hX hbl hbA hS hZ (i0 + 2) (by omega) (by omega) (by omega) dL_law_576 ?_
  refine lv_aload_n hx hb dL_law_577 rfl (lv_at hl 0 rfl) ?_
  refine lv_iload_n hx hb dL_law_578 rfl (lv_at hl 3 rfl) ?_
  refine n_iconst hx hb dL_law_579 ?_
  refine n_iadd hx hb dL_law_580 ?_
  refine n_sld hx hb hX hbl hbA hS hZ (i0 + 3) (by omega) (by omega) (by omega) dL_law_581 ?_
  refine lv_aload_n hx hb dL_law_582 rfl (lv_at hl 0 rfl) ?_
  refine lv_iload_n hx hb dL_law_583 rfl (lv_at hl 3 rfl) ?_
  refine n_iconst hx hb dL_law_584 ?_
  refine n_iadd hx hb dL_law_585 ?_
  refine n_sld hx hb hX hbl hbA hS hZ (i0 + 4) (by omega) (by omega) (by omega) dL_law_586 ?_
  refine lv_aload_n hx hb dL_law_587 rfl (lv_at hl 0 rfl) ?_
  refine lv_iload_n hx hb dL_law_588 rfl (lv_at hl 3 rfl) ?_
  refine n_iconst hx hb dL_law_589 ?_
  refine n_iadd hx hb dL_law_590 ?_
  refine n_sld hx hb hX hbl hbA hS hZ (i0 + 5) (by omega) (by omega) (by omega) dL_law_591 ?_
  obtain ⟨R, P1, hA, hB⟩ := k_sale (l := l) hN hy hc hSd (Z (i0 + 1)) (Z (i0 + 2)) (Z (i0 + 3)) (Z (i0 + 4)) (Z (i0 + 5)) (hZr _) (hZr _) (hZr _) (hZr _) (hZr _)
  obtain ⟨M, kp, hCl, hMo, -, -⟩ := id hSd
  refine n_cI (va_runV (As := [.int (iI (Z (i0 + 1))), .int (iI (Z (i0 + 2))), .int (iI (Z (i0 + 3))), .int (iI (Z (i0 + 4))), .int (iI (Z (i0 + 5)))]) (rest := []) ⟨hx, hb, hml, hown, hts⟩ (hA H.size) (cwV 5 hts (nT_V wl_L_77 wi_X6_sale ws_X6_sale wn_X6 wc_X6_sale) rfl rfl rfl (by decide +kernel) ⟨Nat.le_of_ble_eq_true rfl, Nat.le_of_ble_eq_true rfl⟩) (nB.preV hK hI hP (by omega) hCl.1 rfl rfl) rfl rfl hl.1 rfl (lv_room (Nat.le_of_ble_eq_true rfl)) dL_law_592 hcs) hS (fun r w1 H locs hq hP hS => ?_)
  obtain ⟨hr, hp⟩ := hq
  obtain ⟨⟨fs, hfy⟩, hB⟩ := hB w1 hp
  refine lv_aload_n hx hb dL_law_595 rfl (lv_at hl 2 rfl) ?_
  refine lv_aload_n hx hb dL_law_596 rfl (lv_at hl 0 rfl) ?_
  refine lv_iload_n hx hb dL_law_597 rfl (lv_at hl 3 rfl) ?_
  refine n_iconst hx hb dL_law_598 ?_
  refine n_iadd hx hb dL_law_599 ?_
  refine n_sld hx hb hX hbl hbA hS hZ (i0 + 1) (by omega) (by omega) (by omega) dL_law_600 ?_
  refine lv_aload_n hx hb dL_law_601 rfl (lv_at hl 0 rfl) ?_
  refine lv_iload_n hx hb dL_law_602 rfl (lv_at hl 3 rfl) ?_
  refine n_iconst hx hb dL_law_603 ?_
  refine n_iadd hx hb dL_law_604 ?_
  refine n_sld hx hb hX hbl hbA hS hZ (i0 + 2) (by omega) (by omega) (by omega) dL_law_605 ?_
  refine lv_aload_n hx hb dL_law_606 rfl (lv_at hl 0 rfl) ?_
  refine lv_iload_n hx hb dL_law_607 rfl (lv_at hl 3 rfl) ?_
  refine n_iconst hx hb dL_law_608 ?_
  refine n_iadd hx hb dL_law_609 ?_
  refine n_sld hx hb hX hbl hbA hS hZ (i0 + 3) (by omega) (by omega) (by omega) dL_law_610 ?_
  refine lv_aload_n hx hb dL_law_611 rfl (lv_at hl 0 rfl) ?_
  refine lv_iload_n hx hb dL_law_612 rfl (lv_at hl 3 rfl) ?_
  refine n_iconst hx hb dL_law_613 ?_
  refine n_iadd hx hb dL_law_614 ?_
  refine n_sld hx hb hX hbl hbA hS hZ (i0 + 4) (by omega) (by omega) (by omega) dL_law_615 ?_
  refine lv_aload_n hx hb dL_law_616 rfl (lv_at hl 0 rfl) ?_
  refine lv_iload_n hx hb dL_law_617 rfl (lv_at hl 3 rfl) ?_
  refine n_iconst hx hb dL_law_618 ?_
  refine n_iadd hx hb dL_law_619 ?_
  refine n_sld hx hb hX hbl hbA hS hZ (i0 + 5) (by omega) (by omega) (by omega) dL_law_620 ?_
  refine n_cI (va_runV (As := [.int (iI (Z (i0 + 1))), .int (iI (Z (i0 + 2))), .int (iI (Z (i0 + 3))), .int (iI (Z (i0 + 4))), .int (iI (Z (i0 + 5)))]) (rest := [.int (iI r)]) ⟨hx, hb, hml, hown, hts⟩ (hB H.size) (cwV 5 hts (nT_V wl_L_81 wi_X7_sale ws_X7_sale wn_X7 wc_X7_sale) rfl rfl rfl (by decide +kernel) ⟨Nat.le_of_ble_eq_true rfl, Nat.le_of_ble_eq_true rfl⟩) (nB.preV hK hI hP (by omega) hfy rfl rfl) rfl rfl hl.1 rfl (lv_room (Nat.le_of_ble_eq_true rfl)) dL_law_621 hcs) hS (fun r2 w2 H locs hq2 hP hS => ?_)
  obtain ⟨hr2, hSd2⟩ := hq2
  rw [hr, hr2]
  exact lv_icmp_eq (tgt := 984) hx hb dL_law_624 (by decide) (fun _ => kk w2 H locs hSd2 hP hS) (fun h => absurd rfl h)
set_option maxHeartbeats 4000000 in
theorem lw_c15 (hx : p.tables.exec = Jvm.exec) (hb : cd.code = cL_law) (hml : cd.maxLocals = 4) (hown : s.vm.findClass RL = some m.cls) (hts : ∀ q ∈ Cond.initialized RX6 :: nT, q.before #[Value.ref b] s = true) (hX : va_X b L xs s s.heap) (hbl : b < s.heap.size) (hbA : ¬ nA N ad s.heap.size b) (hZ : ∀ j, xs j = iI (Z j)) (hZr : ∀ j, -2147483648 ≤ Z j ∧ Z j < 2147483648) (hL : L ≤ 3072) (hK : nK G s) (hI : nInj N ad) (hN : N = x + 246) (hy : y = x + 219) (hcs : cells ≤ room_1.cells ∧ slots ≤ room_1.slots) (hc : c ≤ 600) (hSd : Sd G ad x y c w) (hP : va_P G.1 vwCl (nL N ad w) H) (hS : va_S (nA N ad s.heap.size) s.heap H locs) (i0 : Nat) (hi : i0 + 6 ≤ L) (hl : lv_has ls 4 [(0, .ref b), (1, .ref (ad x)), (2, .ref (ad y)), (3, .int (iI (i0 : Int)))]) (kk : ∀ w1 H1 locs1, Sd G ad x y (c + 1) w1 → va_P G.1 vwCl (nL N ad w1) H1 → va_S (nA N ad s.heap.size) s.heap H1 locs1 → W p l e room_1 s m #[Value.ref b] below meth cd H1 locs1 cells slots Q (F0 m 984 ls [])) : W p l e room_1 s m #[Value.ref b] below meth cd H locs cells slots Q (F0 m 629 ls []) := by
  refine lv_aload_n hx hb dL_law_629 rfl (lv_at hl 1 rfl) ?_
  refine lv_aload_n hx hb dL_law_630 rfl (lv_at hl 0 rfl) ?_
  refine lv_iload_n hx hb dL_law_631 rfl (lv_at hl 3 rfl) ?_
  refine n_iconst hx hb dL_law_632 ?_
  refine n_iadd hx hb dL_law_633 ?_
  refine n_sld hx hb hX hbl hbA hS hZ (i0 + 1) (by omega) (by omega) (by omega) dL_law_634 ?_
  refine lv_aload_n hx hb dL_law_635 rfl (lv_at hl 0 rfl) ?_
  refine lv_iload_n hx hb dL_law_636 rfl (lv_at hl 3 rfl) ?_
  refine n_iconst hx hb dL_law_637 ?_
  refine n_iadd hx hb dL_law_638 ?_
  refine n_sld hx hb hX hbl hbA hS hZ (i0 + 2) (by omega) (by omega) (by omega) dL_law_639 ?_
  obtain ⟨R, P1, hA, hB⟩ := k_given (l := l) hN hy hc hSd (Z (i0 + 1)) (Z (i0 + 2)) (hZr _) (hZr _)
  obtain ⟨M, kp, hCl, hMo, -, -⟩ := id hSd
  refine n_cI (va_runV (As := [.int (iI (Z (i0 + 1))), .int (iI (Z (i0 + 2)))]) (rest := []) ⟨hx, hb, hml, hown, hts⟩ (hA H.size) (cwV 2 hts (nT_V wl_L_82 wi_X6_given ws_X6_given wn_X6 wc_X6_given) rfl rfl rfl (by decide +kernel) ⟨Nat.le_of_ble_eq_true rfl, Nat.le_of_ble_eq_true rfl⟩) (nB.preV hK hI hP (by omega) hCl.1 rfl rfl) rfl rfl hl.1 rfl (lv_room (Nat.le_of_ble_eq_true rfl)) dL_law_640 hcs) hS (fun r w1 H locs hq hP hS => ?_)
  obtain ⟨hr, hp⟩ := hq
  obtain ⟨⟨fs, hfy⟩, hB⟩ := hB w1 hp
  refine lv_aload_n hx hb dL_law_643 rfl (lv_at hl 2 rfl) ?_
  refine lv_aload_n hx hb dL_law_644 rfl (lv_at hl 0 rfl) ?_
  refine lv_iload_n hx hb dL_law_645 rfl (lv_at hl 3 rfl) ?_
  refine n_iconst hx hb dL_law_646 ?_
  refine n_iadd hx hb dL_law_647 ?_
  refine n_sld hx hb hX hbl hbA hS hZ (i0 + 1) (by omega) (by omega) (by omega) dL_law_648 ?_
  refine lv_aload_n hx hb dL_law_649 rfl (lv_at hl 0 rfl) ?_
  refine lv_iload_n hx hb dL_law_650 rfl (lv_at hl 3 rfl) ?_
  refine n_iconst hx hb dL_law_651 ?_
  refine n_iadd hx hb dL_law_652 ?_
  refine n_sld hx hb hX hbl hbA hS hZ (i0 + 2) (by omega) (by omega) (by omega) dL_law_653 ?_
  refine n_cI (va_runV (As := [.int (iI (Z (i0 + 1))), .int (iI (Z (i0 + 2)))]) (rest := [.int (iI r)]) ⟨hx, hb, hml, hown, hts⟩ (hB H.size) (cwV 2 hts (nT_V wl_L_85 wi_X7_given ws_X7_given wn_X7 wc_X7_given) rfl rfl rfl (by decide +kernel) ⟨Nat.le_of_ble_eq_true rfl, Nat.le_of_ble_eq_true rfl⟩) (nB.preV hK hI hP (by omega) hfy rfl rfl) rfl rfl hl.1 rfl (lv_room (Nat.le_of_ble_eq_true rfl)) dL_law_654 hcs) hS (fun r2 w2 H locs hq2 hP hS => ?_)
  obtain ⟨hr2, hSd2⟩ := hq2
  rw [hr, hr2]
  exact lv_icmp_eq (tgt := 984) hx hb dL_law_657 (by decide) (fun _ => kk w2 H locs hSd2 hP hS) (fun h => absurd rfl h)
set_option maxHeartbeats 4000000 in
theorem lw_c16 (hx : p.tables.exec = Jvm.exec) (hb : cd.code = cL_law) (hml : cd.maxLocals = 4) (hown : s.vm.findClass RL = some m.cls) (hts : ∀ q ∈ Cond.initialized RX6 :: nT, q.before #[Value.ref b] s = true) (hX : va_X b L xs s s.heap) (hbl : b < s.heap.size) (hbA : ¬ nA N ad s.heap.size b) (hZ : ∀ j, xs j = iI (Z j)) (hZr : ∀ j, -2147483648 ≤ Z j ∧ Z j < 2147483648) (hL : L ≤ 3072) (hK : nK G s) (hI : nInj N ad) (hN : N = x + 246) (hy : y = x + 219) (hcs : cells ≤ room_1.cells ∧ slots ≤ room_1.slots) (hc : c ≤ 600) (hSd : Sd G ad x y c w) (hP : va_P G.1 vwCl (nL N ad w) H) (hS : va_S (nA N ad s.heap.size) s.heap H locs) (i0 : Nat) (hi : i0 + 6 ≤ L) (hl : lv_has ls 4 [(0, .ref b), (1, .ref (ad x)), (2, .ref (ad y)), (3, .int (iI (i0 : Int)))]) (kk : ∀ w1 H1 locs1, Sd G ad x y (c + 1) w1 → va_P G.1 vwCl (nL N ad w1) H1 → va_S (nA N ad s.heap.size) s.heap H1 locs1 → W p l e room_1 s m #[Value.ref b] below meth cd H1 locs1 cells slots Q (F0 m 984 ls [])) : W p l e room_1 s m #[Value.ref b] below meth cd H locs cells slots Q (F0 m 662 ls []) := by
  refine lv_aload_n hx hb dL_law_662 rfl (lv_at hl 1 rfl) ?_
  refine lv_aload_n hx hb dL_law_663 rfl (lv_at hl 0 rfl) ?_
  refine lv_iload_n hx hb dL_law_664 rfl (lv_at hl 3 rfl) ?_
  refine n_iconst hx hb dL_law_665 ?_
  refine n_iadd hx hb dL_law_666 ?_
  refine n_sld hx hb hX hbl hbA hS hZ (i0 + 1) (by omega) (by omega) (by omega) dL_law_667 ?_
  refine lv_aload_n hx hb dL_law_668 rfl (lv_at hl 0 rfl) ?_
  refine lv_iload_n hx hb dL_law_669 rfl (lv_at hl 3 rfl) ?_
  refine n_iconst hx hb dL_law_670 ?_
  refine n_iadd hx hb dL_law_671 ?_
  refine n_sld hx hb hX hbl hbA hS hZ (i0 + 2) (by omega) (by omega) (by omega) dL_law_672 ?_
  obtain ⟨R, P1, hA, hB⟩ := k_tell (l := l) hN hy hc hSd (Z (i0 + 1)) (Z (i0 + 2)) (hZr _) (hZr _)
  obtain ⟨M, kp, hCl, hMo, -, -⟩ := id hSd
  refine n_cL (va_runV (As := [.int (iI (Z (i0 + 1))), .int (iI (Z (i0 + 2)))]) (rest := []) ⟨hx, hb, hml, hown, hts⟩ (hA H.size) (cwV 2 hts (nT_V wl_L_86 wi_X6_tell ws_X6_tell wn_X6 wc_X6_tell) rfl rfl rfl (by decide +kernel) ⟨Nat.le_of_ble_eq_true rfl, Nat.le_of_ble_eq_true rfl⟩) (nB.preV hK hI hP (by omega) hCl.1 rfl rfl) rfl rfl hl.1 rfl (lv_room (Nat.le_of_ble_eq_true rfl)) dL_law_673 hcs) hS (fun r w1 H locs hq hP hS => ?_)
  obtain ⟨hr, hp⟩ := hq
  obtain ⟨⟨fs, hfy⟩, hB⟩ := hB w1 hp
  refine lv_aload_n hx hb dL_law_676 rfl (lv_at hl 2 rfl) ?_
  refine lv_aload_n hx hb dL_law_677 rfl (lv_at hl 0 rfl) ?_
  refine lv_iload_n hx hb dL_law_678 rfl (lv_at hl 3 rfl) ?_
  refine n_iconst hx hb dL_law_679 ?_
  refine n_iadd hx hb dL_law_680 ?_
  refine n_sld hx hb hX hbl hbA hS hZ (i0 + 1) (by omega) (by omega) (by omega) dL_law_681 ?_
  refine lv_aload_n hx hb dL_law_682 rfl (lv_at hl 0 rfl) ?_
  refine lv_iload_n hx hb dL_law_683 rfl (lv_at hl 3 rfl) ?_
  refine n_iconst hx hb dL_law_684 ?_
  refine n_iadd hx hb dL_law_685 ?_
  refine n_sld hx hb hX hbl hbA hS hZ (i0 + 2) (by omega) (by omega) (by omega) dL_law_686 ?_
  refine n_cL (va_runV (As := [.int (iI (Z (i0 + 1))), .int (iI (Z (i0 + 2)))]) (rest := [.long (jI r)]) ⟨hx, hb, hml, hown, hts⟩ (hB H.size) (cwV 2 hts (nT_V wl_L_90 wi_X7_tell ws_X7_tell wn_X7 wc_X7_tell) rfl rfl rfl (by decide +kernel) ⟨Nat.le_of_ble_eq_true rfl, Nat.le_of_ble_eq_true rfl⟩) (nB.preV hK hI hP (by omega) hfy rfl rfl) rfl rfl hl.1 rfl (lv_room (Nat.le_of_ble_eq_true rfl)) dL_law_687 hcs) hS (fun r2 w2 H locs hq2 hP hS => ?_)
  obtain ⟨hr2, hSd2⟩ := hq2
  rw [hr, hr2]
  refine W.lcmp hx hb dL_law_690 ?_
  rw [lg_self]
  exact lv_if_eq (tgt := 984) hx hb dL_law_691 (by decide) (fun _ => kk w2 H locs hSd2 hP hS) (fun h => absurd rfl h)
set_option maxHeartbeats 4000000 in
theorem lw_c17 (hx : p.tables.exec = Jvm.exec) (hb : cd.code = cL_law) (hml : cd.maxLocals = 4) (hown : s.vm.findClass RL = some m.cls) (hts : ∀ q ∈ Cond.initialized RX6 :: nT, q.before #[Value.ref b] s = true) (hX : va_X b L xs s s.heap) (hbl : b < s.heap.size) (hbA : ¬ nA N ad s.heap.size b) (hZ : ∀ j, xs j = iI (Z j)) (hZr : ∀ j, -2147483648 ≤ Z j ∧ Z j < 2147483648) (hL : L ≤ 3072) (hK : nK G s) (hI : nInj N ad) (hN : N = x + 246) (hy : y = x + 219) (hcs : cells ≤ room_1.cells ∧ slots ≤ room_1.slots) (hc : c ≤ 600) (hSd : Sd G ad x y c w) (hP : va_P G.1 vwCl (nL N ad w) H) (hS : va_S (nA N ad s.heap.size) s.heap H locs) (i0 : Nat) (hi : i0 + 6 ≤ L) (hl : lv_has ls 4 [(0, .ref b), (1, .ref (ad x)), (2, .ref (ad y)), (3, .int (iI (i0 : Int)))]) (kk : ∀ w1 H1 locs1, Sd G ad x y (c + 1) w1 → va_P G.1 vwCl (nL N ad w1) H1 → va_S (nA N ad s.heap.size) s.heap H1 locs1 → W p l e room_1 s m #[Value.ref b] below meth cd H1 locs1 cells slots Q (F0 m 984 ls [])) : W p l e room_1 s m #[Value.ref b] below meth cd H locs cells slots Q (F0 m 696 ls []) := by
  refine lv_aload_n hx hb dL_law_696 rfl (lv_at hl 1 rfl) ?_
  refine lv_aload_n hx hb dL_law_697 rfl (lv_at hl 0 rfl) ?_
  refine lv_iload_n hx hb dL_law_698 rfl (lv_at hl 3 rfl) ?_
  refine n_iconst hx hb dL_law_699 ?_
  refine n_iadd hx hb dL_law_700 ?_
  refine n_sld hx hb hX hbl hbA hS hZ (i0 + 1) (by omega) (by omega) (by omega) dL_law_701 ?_
  refine lv_aload_n hx hb dL_law_702 rfl (lv_at hl 0 rfl) ?_
  refine lv_iload_n hx hb dL_law_703 rfl (lv_at hl 3 rfl) ?_
  refine n_iconst hx hb dL_law_704 ?_
  refine n_iadd hx hb dL_law_705 ?_
  refine n_sld hx hb hX hbl hbA hS hZ (i0 + 2) (by omega) (by omega) (by omega) dL_law_706 ?_
  refine lv_aload_n hx hb dL_law_707 rfl (lv_at hl 0 rfl) ?_
  refine lv_iload_n hx hb dL_law_708 rfl (lv_at hl 3 rfl) ?_
  refine n_iconst hx hb dL_law_709 ?_
  refine n_iadd hx hb dL_law_710 ?_
  refine n_sld hx hb hX hbl hbA hS hZ (i0 + 3) (by omega) (by omega) (by omega) dL_law_711 ?_
  obtain ⟨R, P1, hA, hB⟩ := k_has (l := l) hN hy hc hSd (Z (i0 + 1)) (Z (i0 + 2)) (Z (i0 + 3)) (hZr _) (hZr _) (hZr _)
  obtain ⟨M, kp, hCl, hMo, -, -⟩ := id hSd
  refine n_cI (va_runV (As := [.int (iI (Z (i0 + 1))), .int (iI (Z (i0 + 2))), .int (iI (Z (i0 + 3)))]) (rest := []) ⟨hx, hb, hml, hown, hts⟩ (hA H.size) (cwV 3 hts (nT_V wl_L_91 wi_X6_has ws_X6_has wn_X6 wc_X6_has) rfl rfl rfl (by decide +kernel) ⟨Nat.le_of_ble_eq_true rfl, Nat.le_of_ble_eq_true rfl⟩) (nB.preV hK hI hP (by omega) hCl.1 rfl rfl) rfl rfl hl.1 rfl (lv_room (Nat.le_of_ble_eq_true rfl)) dL_law_712 hcs) hS (fun r w1 H locs hq hP hS => ?_)
  obtain ⟨hr, hp⟩ := hq
  obtain ⟨⟨fs, hfy⟩, hB⟩ := hB w1 hp
  refine lv_aload_n hx hb dL_law_715 rfl (lv_at hl 2 rfl) ?_
  refine lv_aload_n hx hb dL_law_716 rfl (lv_at hl 0 rfl) ?_
  refine lv_iload_n hx hb dL_law_717 rfl (lv_at hl 3 rfl) ?_
  refine n_iconst hx hb dL_law_718 ?_
  refine n_iadd hx hb dL_law_719 ?_
  refine n_sld hx hb hX hbl hbA hS hZ (i0 + 1) (by omega) (by omega) (by omega) dL_law_720 ?_
  refine lv_aload_n hx hb dL_law_721 rfl (lv_at hl 0 rfl) ?_
  refine lv_iload_n hx hb dL_law_722 rfl (lv_at hl 3 rfl) ?_
  refine n_iconst hx hb dL_law_723 ?_
  refine n_iadd hx hb dL_law_724 ?_
  refine n_sld hx hb hX hbl hbA hS hZ (i0 + 2) (by omega) (by omega) (by omega) dL_law_725 ?_
  refine lv_aload_n hx hb dL_law_726 rfl (lv_at hl 0 rfl) ?_
  refine lv_iload_n hx hb dL_law_727 rfl (lv_at hl 3 rfl) ?_
  refine n_iconst hx hb dL_law_728 ?_
  refine n_iadd hx hb dL_law_729 ?_
  refine n_sld hx hb hX hbl hbA hS hZ (i0 + 3) (by omega) (by omega) (by omega) dL_law_730 ?_
  refine n_cI (va_runV (As := [.int (iI (Z (i0 + 1))), .int (iI (Z (i0 + 2))), .int (iI (Z (i0 + 3)))]) (rest := [.int (iI r)]) ⟨hx, hb, hml, hown, hts⟩ (hB H.size) (cwV 3 hts (nT_V wl_L_94 wi_X7_has ws_X7_has wn_X7 wc_X7_has) rfl rfl rfl (by decide +kernel) ⟨Nat.le_of_ble_eq_true rfl, Nat.le_of_ble_eq_true rfl⟩) (nB.preV hK hI hP (by omega) hfy rfl rfl) rfl rfl hl.1 rfl (lv_room (Nat.le_of_ble_eq_true rfl)) dL_law_731 hcs) hS (fun r2 w2 H locs hq2 hP hS => ?_)
  obtain ⟨hr2, hSd2⟩ := hq2
  rw [hr, hr2]
  exact lv_icmp_eq (tgt := 984) hx hb dL_law_734 (by decide) (fun _ => kk w2 H locs hSd2 hP hS) (fun h => absurd rfl h)
set_option maxHeartbeats 4000000 in
theorem lw_c18 (hx : p.tables.exec = Jvm.exec) (hb : cd.code = cL_law) (hml : cd.maxLocals = 4) (hown : s.vm.findClass RL = some m.cls) (hts : ∀ q ∈ Cond.initialized RX6 :: nT, q.before #[Value.ref b] s = true) (hX : va_X b L xs s s.heap) (hbl : b < s.heap.size) (hbA : ¬ nA N ad s.heap.size b) (hZ : ∀ j, xs j = iI (Z j)) (hZr : ∀ j, -2147483648 ≤ Z j ∧ Z j < 2147483648) (hL : L ≤ 3072) (hK : nK G s) (hI : nInj N ad) (hN : N = x + 246) (hy : y = x + 219) (hcs : cells ≤ room_1.cells ∧ slots ≤ room_1.slots) (hc : c ≤ 600) (hSd : Sd G ad x y c w) (hP : va_P G.1 vwCl (nL N ad w) H) (hS : va_S (nA N ad s.heap.size) s.heap H locs) (i0 : Nat) (hi : i0 + 6 ≤ L) (hl : lv_has ls 4 [(0, .ref b), (1, .ref (ad x)), (2, .ref (ad y)), (3, .int (iI (i0 : Int)))]) (kk : ∀ w1 H1 locs1, Sd G ad x y (c + 1) w1 → va_P G.1 vwCl (nL N ad w1) H1 → va_S (nA N ad s.heap.size) s.heap H1 locs1 → W p l e room_1 s m #[Value.ref b] below meth cd H1 locs1 cells slots Q (F0 m 984 ls [])) : W p l e room_1 s m #[Value.ref b] below meth cd H locs cells slots Q (F0 m 739 ls []) := by
  refine lv_aload_n hx hb dL_law_739 rfl (lv_at hl 1 rfl) ?_
  refine lv_aload_n hx hb dL_law_740 rfl (lv_at hl 0 rfl) ?_
  refine lv_iload_n hx hb dL_law_741 rfl (lv_at hl 3 rfl) ?_
  refine n_iconst hx hb dL_law_742 ?_
  refine n_iadd hx hb dL_law_743 ?_
  refine n_sld hx hb hX hbl hbA hS hZ (i0 + 1) (by omega) (by omega) (by omega) dL_law_744 ?_
  obtain ⟨R, P1, hA, hB⟩ := k_draw (l := l) hN hy hc hSd (Z (i0 + 1)) (hZr _)
  obtain ⟨M, kp, hCl, hMo, -, -⟩ := id hSd
  refine n_cL (va_runV (As := [.int (iI (Z (i0 + 1)))]) (rest := []) ⟨hx, hb, hml, hown, hts⟩ (hA H.size) (cwV 1 hts (nT_V wl_L_95 wi_X6_draw ws_X6_draw wn_X6 wc_X6_draw) rfl rfl rfl (by decide +kernel) ⟨Nat.le_of_ble_eq_true rfl, Nat.le_of_ble_eq_true rfl⟩) (nB.preV hK hI hP (by omega) hCl.1 rfl rfl) rfl rfl hl.1 rfl (lv_room (Nat.le_of_ble_eq_true rfl)) dL_law_745 hcs) hS (fun r w1 H locs hq hP hS => ?_)
  obtain ⟨hr, hp⟩ := hq
  obtain ⟨⟨fs, hfy⟩, hB⟩ := hB w1 hp
  refine lv_aload_n hx hb dL_law_748 rfl (lv_at hl 2 rfl) ?_
  refine lv_aload_n hx hb dL_law_749 rfl (lv_at hl 0 rfl) ?_
  refine lv_iload_n hx hb dL_law_750 rfl (lv_at hl 3 rfl) ?_
  refine n_iconst hx hb dL_law_751 ?_
  refine n_iadd hx hb dL_law_752 ?_
  refine n_sld hx hb hX hbl hbA hS hZ (i0 + 1) (by omega) (by omega) (by omega) dL_law_753 ?_
  refine n_cL (va_runV (As := [.int (iI (Z (i0 + 1)))]) (rest := [.long (jI r)]) ⟨hx, hb, hml, hown, hts⟩ (hB H.size) (cwV 1 hts (nT_V wl_L_98 wi_X7_draw ws_X7_draw wn_X7 wc_X7_draw) rfl rfl rfl (by decide +kernel) ⟨Nat.le_of_ble_eq_true rfl, Nat.le_of_ble_eq_true rfl⟩) (nB.preV hK hI hP (by omega) hfy rfl rfl) rfl rfl hl.1 rfl (lv_room (Nat.le_of_ble_eq_true rfl)) dL_law_754 hcs) hS (fun r2 w2 H locs hq2 hP hS => ?_)
  obtain ⟨hr2, hSd2⟩ := hq2
  rw [hr, hr2]
  refine W.lcmp hx hb dL_law_757 ?_
  rw [lg_self]
  exact lv_if_eq (tgt := 984) hx hb dL_law_758 (by decide) (fun _ => kk w2 H locs hSd2 hP hS) (fun h => absurd rfl h)
set_option maxHeartbeats 4000000 in
theorem lw_c19 (hx : p.tables.exec = Jvm.exec) (hb : cd.code = cL_law) (hml : cd.maxLocals = 4) (hown : s.vm.findClass RL = some m.cls) (hts : ∀ q ∈ Cond.initialized RX6 :: nT, q.before #[Value.ref b] s = true) (hX : va_X b L xs s s.heap) (hbl : b < s.heap.size) (hbA : ¬ nA N ad s.heap.size b) (hZ : ∀ j, xs j = iI (Z j)) (hZr : ∀ j, -2147483648 ≤ Z j ∧ Z j < 2147483648) (hL : L ≤ 3072) (hK : nK G s) (hI : nInj N ad) (hN : N = x + 246) (hy : y = x + 219) (hcs : cells ≤ room_1.cells ∧ slots ≤ room_1.slots) (hc : c ≤ 600) (hSd : Sd G ad x y c w) (hP : va_P G.1 vwCl (nL N ad w) H) (hS : va_S (nA N ad s.heap.size) s.heap H locs) (i0 : Nat) (hi : i0 + 6 ≤ L) (hl : lv_has ls 4 [(0, .ref b), (1, .ref (ad x)), (2, .ref (ad y)), (3, .int (iI (i0 : Int)))]) (kk : ∀ w1 H1 locs1, Sd G ad x y (c + 1) w1 → va_P G.1 vwCl (nL N ad w1) H1 → va_S (nA N ad s.heap.size) s.heap H1 locs1 → W p l e room_1 s m #[Value.ref b] below meth cd H1 locs1 cells slots Q (F0 m 984 ls [])) : W p l e room_1 s m #[Value.ref b] below meth cd H locs cells slots Q (F0 m 763 ls []) := by
  refine lv_aload_n hx hb dL_law_763 rfl (lv_at hl 1 rfl) ?_
  refine lv_aload_n hx hb dL_law_764 rfl (lv_at hl 0 rfl) ?_
  refine lv_iload_n hx hb dL_law_765 rfl (lv_at hl 3 rfl) ?_
  refine n_iconst hx hb dL_law_766 ?_
  refine n_iadd hx hb dL_law_767 ?_
  refine n_sld hx hb hX hbl hbA hS hZ (i0 + 1) (by omega) (by omega) (by omega) dL_law_768 ?_
  obtain ⟨R, P1, hA, hB⟩ := k_drawn (l := l) hN hy hc hSd (Z (i0 + 1)) (hZr _)
  obtain ⟨M, kp, hCl, hMo, -, -⟩ := id hSd
  refine n_cI (va_runV (As := [.int (iI (Z (i0 + 1)))]) (rest := []) ⟨hx, hb, hml, hown, hts⟩ (hA H.size) (cwV 1 hts (nT_V wl_L_99 wi_X6_drawn ws_X6_drawn wn_X6 wc_X6_drawn) rfl rfl rfl (by decide +kernel) ⟨Nat.le_of_ble_eq_true rfl, Nat.le_of_ble_eq_true rfl⟩) (nB.preV hK hI hP (by omega) hCl.1 rfl rfl) rfl rfl hl.1 rfl (lv_room (Nat.le_of_ble_eq_true rfl)) dL_law_769 hcs) hS (fun r w1 H locs hq hP hS => ?_)
  obtain ⟨hr, hp⟩ := hq
  obtain ⟨⟨fs, hfy⟩, hB⟩ := hB w1 hp
  refine lv_aload_n hx hb dL_law_772 rfl (lv_at hl 2 rfl) ?_
  refine lv_aload_n hx hb dL_law_773 rfl (lv_at hl 0 rfl) ?_
  refine lv_iload_n hx hb dL_law_774 rfl (lv_at hl 3 rfl) ?_
  refine n_iconst hx hb dL_law_775 ?_
  refine n_iadd hx hb dL_law_776 ?_
  refine n_sld hx hb hX hbl hbA hS hZ (i0 + 1) (by omega) (by omega) (by omega) dL_law_777 ?_
  refine n_cI (va_runV (As := [.int (iI (Z (i0 + 1)))]) (rest := [.int (iI r)]) ⟨hx, hb, hml, hown, hts⟩ (hB H.size) (cwV 1 hts (nT_V wl_L_102 wi_X7_drawn ws_X7_drawn wn_X7 wc_X7_drawn) rfl rfl rfl (by decide +kernel) ⟨Nat.le_of_ble_eq_true rfl, Nat.le_of_ble_eq_true rfl⟩) (nB.preV hK hI hP (by omega) hfy rfl rfl) rfl rfl hl.1 rfl (lv_room (Nat.le_of_ble_eq_true rfl)) dL_law_778 hcs) hS (fun r2 w2 H locs hq2 hP hS => ?_)
  obtain ⟨hr2, hSd2⟩ := hq2
  rw [hr, hr2]
  exact lv_icmp_eq (tgt := 984) hx hb dL_law_781 (by decide) (fun _ => kk w2 H locs hSd2 hP hS) (fun h => absurd rfl h)
set_option maxHeartbeats 4000000 in
theorem lw_c20 (hx : p.tables.exec = Jvm.exec) (hb : cd.code = cL_law) (hml : cd.maxLocals = 4) (hown : s.vm.findClass RL = some m.cls) (hts : ∀ q ∈ Cond.initialized RX6 :: nT, q.before #[Value.ref b] s = true) (hX : va_X b L xs s s.heap) (hbl : b < s.heap.size) (hbA : ¬ nA N ad s.heap.size b) (hZ : ∀ j, xs j = iI (Z j)) (hZr : ∀ j, -2147483648 ≤ Z j ∧ Z j < 2147483648) (hL : L ≤ 3072) (hK : nK G s) (hI : nInj N ad) (hN : N = x + 246) (hy : y = x + 219) (hcs : cells ≤ room_1.cells ∧ slots ≤ room_1.slots) (hc : c ≤ 600) (hSd : Sd G ad x y c w) (hP : va_P G.1 vwCl (nL N ad w) H) (hS : va_S (nA N ad s.heap.size) s.heap H locs) (i0 : Nat) (hi : i0 + 6 ≤ L) (hl : lv_has ls 4 [(0, .ref b), (1, .ref (ad x)), (2, .ref (ad y)), (3, .int (iI (i0 : Int)))]) (kk : ∀ w1 H1 locs1, Sd G ad x y (c + 1) w1 → va_P G.1 vwCl (nL N ad w1) H1 → va_S (nA N ad s.heap.size) s.heap H1 locs1 → W p l e room_1 s m #[Value.ref b] below meth cd H1 locs1 cells slots Q (F0 m 984 ls [])) : W p l e room_1 s m #[Value.ref b] below meth cd H locs cells slots Q (F0 m 786 ls []) := by
  refine lv_aload_n hx hb dL_law_786 rfl (lv_at hl 1 rfl) ?_
  refine lv_aload_n hx hb dL_law_787 rfl (lv_at hl 0 rfl) ?_
  refine lv_iload_n hx hb dL_law_788 rfl (lv_at hl 3 rfl) ?_
  refine n_iconst hx hb dL_law_789 ?_
  refine n_iadd hx hb dL_law_790 ?_
  refine n_sld hx hb hX hbl hbA hS hZ (i0 + 1) (by omega) (by omega) (by omega) dL_law_791 ?_
  refine lv_aload_n hx hb dL_law_792 rfl (lv_at hl 0 rfl) ?_
  refine lv_iload_n hx hb dL_law_793 rfl (lv_at hl 3 rfl) ?_
  refine n_iconst hx hb dL_law_794 ?_
  refine n_iadd hx hb dL_law_795 ?_
  refine n_sld hx hb hX hbl hbA hS hZ (i0 + 2) (by omega) (by omega) (by omega) dL_law_796 ?_
  refine lv_aload_n hx hb dL_law_797 rfl (lv_at hl 0 rfl) ?_
  refine lv_iload_n hx hb dL_law_798 rfl (lv_at hl 3 rfl) ?_
  refine n_iconst hx hb dL_law_799 ?_
  refine n_iadd hx hb dL_law_800 ?_
  refine n_sld hx hb hX hbl hbA hS hZ (i0 + 3) (by omega) (by omega) (by omega) dL_law_801 ?_
  refine lv_aload_n hx hb dL_law_802 rfl (lv_at hl 0 rfl) ?_
  refine lv_iload_n hx hb dL_law_803 rfl (lv_at hl 3 rfl) ?_
  refine n_iconst hx hb dL_law_804 ?_
  refine n_iadd hx hb dL_law_805 ?_
  refine n_sld hx hb hX hbl hbA hS hZ (i0 + 4) (by omega) (by omega) (by omega) dL_law_806 ?_
  refine lv_aload_n hx hb dL_law_807 rfl (lv_at hl 0 rfl) ?_
  refine lv_iload_n hx hb dL_law_808 rfl (lv_at hl 3 rfl) ?_
  refine n_iconst hx hb dL_law_809 ?_
  refine n_iadd hx hb dL_law_810 ?_
  refine n_sld hx hb hX hbl hbA hS hZ (i0 + 5) (by omega) (by omega) (by omega) dL_law_811 ?_
  obtain ⟨R, P1, hA, hB⟩ := k_expect (l := l) hN hy hc hSd (Z (i0 + 1)) (Z (i0 + 2)) (Z (i0 + 3)) (Z (i0 + 4)) (Z (i0 + 5)) (hZr _) (hZr _) (hZr _) (hZr _) (hZr _)
  obtain ⟨M, kp, hCl, hMo, -, -⟩ := id hSd
  refine n_cI (va_runV (As := [.int (iI (Z (i0 + 1))), .int (iI (Z (i0 + 2))), .int (iI (Z (i0 + 3))), .int (iI (Z (i0 + 4))), .int (iI (Z (i0 + 5)))]) (rest := []) ⟨hx, hb, hml, hown, hts⟩ (hA H.size) (cwV 5 hts (nT_V wl_L_103 wi_X6_expect ws_X6_expect wn_X6 wc_X6_expect) rfl rfl rfl (by decide +kernel) ⟨Nat.le_of_ble_eq_true rfl, Nat.le_of_ble_eq_true rfl⟩) (nB.preV hK hI hP (by omega) hCl.1 rfl rfl) rfl rfl hl.1 rfl (lv_room (Nat.le_of_ble_eq_true rfl)) dL_law_812 hcs) hS (fun r w1 H locs hq hP hS => ?_)
  obtain ⟨hr, hp⟩ := hq
  obtain ⟨⟨fs, hfy⟩, hB⟩ := hB w1 hp
  refine lv_aload_n hx hb dL_law_815 rfl (lv_at hl 2 rfl) ?_
  refine lv_aload_n hx hb dL_law_816 rfl (lv_at hl 0 rfl) ?_
  refine lv_iload_n hx hb dL_law_817 rfl (lv_at hl 3 rfl) ?_
  refine n_iconst hx hb dL_law_818 ?_
  refine n_iadd hx hb dL_law_819 ?_
  refine n_sld hx hb hX hbl hbA hS hZ (i0 + 1) (by omega) (by omega) (by omega) dL_law_820 ?_
  refine lv_aload_n hx hb dL_law_821 rfl (lv_at hl 0 rfl) ?_
  refine lv_iload_n hx hb dL_law_822 rfl (lv_at hl 3 rfl) ?_
  refine n_iconst hx hb dL_law_823 ?_
  refine n_iadd hx hb dL_law_824 ?_
  refine n_sld hx hb hX hbl hbA hS hZ (i0 + 2) (by omega) (by omega) (by omega) dL_law_825 ?_
  refine lv_aload_n hx hb dL_law_826 rfl (lv_at hl 0 rfl) ?_
  refine lv_iload_n hx hb dL_law_827 rfl (lv_at hl 3 rfl) ?_
  refine n_iconst hx hb dL_law_828 ?_
  refine n_iadd hx hb dL_law_829 ?_
  refine n_sld hx hb hX hbl hbA hS hZ (i0 + 3) (by omega) (by omega) (by omega) dL_law_830 ?_
  refine lv_aload_n hx hb dL_law_831 rfl (lv_at hl 0 rfl) ?_
  refine lv_iload_n hx hb dL_law_832 rfl (lv_at hl 3 rfl) ?_
  refine n_iconst hx hb dL_law_833 ?_
  refine n_iadd hx hb dL_law_834 ?_
  refine n_sld hx hb hX hbl hbA hS hZ (i0 + 4) (by omega) (by omega) (by omega) dL_law_835 ?_
  refine lv_aload_n hx hb dL_law_836 rfl (lv_at hl 0 rfl) ?_
  refine lv_iload_n hx hb dL_law_837 rfl (lv_at hl 3 rfl) ?_
  refine n_iconst hx hb dL_law_838 ?_
  refine n_iadd hx hb dL_law_839 ?_
  refine n_sld hx hb hX hbl hbA hS hZ (i0 + 5) (by omega) (by omega) (by omega) dL_law_840 ?_
  refine n_cI (va_runV (As := [.int (iI (Z (i0 + 1))), .int (iI (Z (i0 + 2))), .int (iI (Z (i0 + 3))), .int (iI (Z (i0 + 4))), .int (iI (Z (i0 + 5)))]) (rest := [.int (iI r)]) ⟨hx, hb, hml, hown, hts⟩ (hB H.size) (cwV 5 hts (nT_V wl_L_106 wi_X7_expect ws_X7_expect wn_X7 wc_X7_expect) rfl rfl rfl (by decide +kernel) ⟨Nat.le_of_ble_eq_true rfl, Nat.le_of_ble_eq_true rfl⟩) (nB.preV hK hI hP (by omega) hfy rfl rfl) rfl rfl hl.1 rfl (lv_room (Nat.le_of_ble_eq_true rfl)) dL_law_841 hcs) hS (fun r2 w2 H locs hq2 hP hS => ?_)
  obtain ⟨hr2, hSd2⟩ := hq2
  rw [hr, hr2]
  exact lv_icmp_eq (tgt := 984) hx hb dL_law_844 (by decide) (fun _ => kk w2 H locs hSd2 hP hS) (fun h => absurd rfl h)
set_option maxHeartbeats 4000000 in
theorem lw_c21 (hx : p.tables.exec = Jvm.exec) (hb : cd.code = cL_law) (hml : cd.maxLocals = 4) (hown : s.vm.findClass RL = some m.cls) (hts : ∀ q ∈ Cond.initialized RX6 :: nT, q.before #[Value.ref b] s = true) (hX : va_X b L xs s s.heap) (hbl : b < s.heap.size) (hbA : ¬ nA N ad s.heap.size b) (hZ : ∀ j, xs j = iI (Z j)) (hZr : ∀ j, -2147483648 ≤ Z j ∧ Z j < 2147483648) (hL : L ≤ 3072) (hK : nK G s) (hI : nInj N ad) (hN : N = x + 246) (hy : y = x + 219) (hcs : cells ≤ room_1.cells ∧ slots ≤ room_1.slots) (hc : c ≤ 600) (hSd : Sd G ad x y c w) (hP : va_P G.1 vwCl (nL N ad w) H) (hS : va_S (nA N ad s.heap.size) s.heap H locs) (i0 : Nat) (hi : i0 + 6 ≤ L) (hl : lv_has ls 4 [(0, .ref b), (1, .ref (ad x)), (2, .ref (ad y)), (3, .int (iI (i0 : Int)))]) (kk : ∀ w1 H1 locs1, Sd G ad x y (c + 1) w1 → va_P G.1 vwCl (nL N ad w1) H1 → va_S (nA N ad s.heap.size) s.heap H1 locs1 → W p l e room_1 s m #[Value.ref b] below meth cd H1 locs1 cells slots Q (F0 m 984 ls [])) : W p l e room_1 s m #[Value.ref b] below meth cd H locs cells slots Q (F0 m 849 ls []) := by
  refine lv_aload_n hx hb dL_law_849 rfl (lv_at hl 1 rfl) ?_
  refine lv_aload_n hx hb dL_law_850 rfl (lv_at hl 0 rfl) ?_
  refine lv_iload_n hx hb dL_law_851 rfl (lv_at hl 3 rfl) ?_
  refine n_iconst hx hb dL_law_852 ?_
  refine n_iadd hx hb dL_law_853 ?_
  refine n_sld hx hb hX hbl hbA hS hZ (i0 + 1) (by omega) (by omega) (by omega) dL_law_854 ?_
  obtain ⟨R, P1, hA, hB⟩ := k_forget (l := l) hN hy hc hSd (Z (i0 + 1)) (hZr _)
  obtain ⟨M, kp, hCl, hMo, -, -⟩ := id hSd
  refine n_cI (va_runV (As := [.int (iI (Z (i0 + 1)))]) (rest := []) ⟨hx, hb, hml, hown, hts⟩ (hA H.size) (cwV 1 hts (nT_V wl_L_107 wi_X6_forget ws_X6_forget wn_X6 wc_X6_forget) rfl rfl rfl (by decide +kernel) ⟨Nat.le_of_ble_eq_true rfl, Nat.le_of_ble_eq_true rfl⟩) (nB.preV hK hI hP (by omega) hCl.1 rfl rfl) rfl rfl hl.1 rfl (lv_room (Nat.le_of_ble_eq_true rfl)) dL_law_855 hcs) hS (fun r w1 H locs hq hP hS => ?_)
  obtain ⟨hr, hp⟩ := hq
  obtain ⟨⟨fs, hfy⟩, hB⟩ := hB w1 hp
  refine lv_aload_n hx hb dL_law_858 rfl (lv_at hl 2 rfl) ?_
  refine lv_aload_n hx hb dL_law_859 rfl (lv_at hl 0 rfl) ?_
  refine lv_iload_n hx hb dL_law_860 rfl (lv_at hl 3 rfl) ?_
  refine n_iconst hx hb dL_law_861 ?_
  refine n_iadd hx hb dL_law_862 ?_
  refine n_sld hx hb hX hbl hbA hS hZ (i0 + 1) (by omega) (by omega) (by omega) dL_law_863 ?_
  refine n_cI (va_runV (As := [.int (iI (Z (i0 + 1)))]) (rest := [.int (iI r)]) ⟨hx, hb, hml, hown, hts⟩ (hB H.size) (cwV 1 hts (nT_V wl_L_110 wi_X7_forget ws_X7_forget wn_X7 wc_X7_forget) rfl rfl rfl (by decide +kernel) ⟨Nat.le_of_ble_eq_true rfl, Nat.le_of_ble_eq_true rfl⟩) (nB.preV hK hI hP (by omega) hfy rfl rfl) rfl rfl hl.1 rfl (lv_room (Nat.le_of_ble_eq_true rfl)) dL_law_864 hcs) hS (fun r2 w2 H locs hq2 hP hS => ?_)
  obtain ⟨hr2, hSd2⟩ := hq2
  rw [hr, hr2]
  exact lv_icmp_eq (tgt := 984) hx hb dL_law_867 (by decide) (fun _ => kk w2 H locs hSd2 hP hS) (fun h => absurd rfl h)
set_option maxHeartbeats 4000000 in
theorem lw_c22 (hx : p.tables.exec = Jvm.exec) (hb : cd.code = cL_law) (hml : cd.maxLocals = 4) (hown : s.vm.findClass RL = some m.cls) (hts : ∀ q ∈ Cond.initialized RX6 :: nT, q.before #[Value.ref b] s = true) (hX : va_X b L xs s s.heap) (hbl : b < s.heap.size) (hbA : ¬ nA N ad s.heap.size b) (hZ : ∀ j, xs j = iI (Z j)) (hZr : ∀ j, -2147483648 ≤ Z j ∧ Z j < 2147483648) (hL : L ≤ 3072) (hK : nK G s) (hI : nInj N ad) (hN : N = x + 246) (hy : y = x + 219) (hcs : cells ≤ room_1.cells ∧ slots ≤ room_1.slots) (hc : c ≤ 600) (hSd : Sd G ad x y c w) (hP : va_P G.1 vwCl (nL N ad w) H) (hS : va_S (nA N ad s.heap.size) s.heap H locs) (i0 : Nat) (hi : i0 + 6 ≤ L) (hl : lv_has ls 4 [(0, .ref b), (1, .ref (ad x)), (2, .ref (ad y)), (3, .int (iI (i0 : Int)))]) (kk : ∀ w1 H1 locs1, Sd G ad x y (c + 1) w1 → va_P G.1 vwCl (nL N ad w1) H1 → va_S (nA N ad s.heap.size) s.heap H1 locs1 → W p l e room_1 s m #[Value.ref b] below meth cd H1 locs1 cells slots Q (F0 m 984 ls [])) : W p l e room_1 s m #[Value.ref b] below meth cd H locs cells slots Q (F0 m 872 ls []) := by
  refine lv_aload_n hx hb dL_law_872 rfl (lv_at hl 1 rfl) ?_
  refine lv_aload_n hx hb dL_law_873 rfl (lv_at hl 0 rfl) ?_
  refine lv_iload_n hx hb dL_law_874 rfl (lv_at hl 3 rfl) ?_
  refine n_iconst hx hb dL_law_875 ?_
  refine n_iadd hx hb dL_law_876 ?_
  refine n_sld hx hb hX hbl hbA hS hZ (i0 + 1) (by omega) (by omega) (by omega) dL_law_877 ?_
  refine lv_aload_n hx hb dL_law_878 rfl (lv_at hl 0 rfl) ?_
  refine lv_iload_n hx hb dL_law_879 rfl (lv_at hl 3 rfl) ?_
  refine n_iconst hx hb dL_law_880 ?_
  refine n_iadd hx hb dL_law_881 ?_
  refine n_sld hx hb hX hbl hbA hS hZ (i0 + 2) (by omega) (by omega) (by omega) dL_law_882 ?_
  obtain ⟨R, P1, hA, hB⟩ := k_wanted (l := l) hN hy hc hSd (Z (i0 + 1)) (Z (i0 + 2)) (hZr _) (hZr _)
  obtain ⟨M, kp, hCl, hMo, -, -⟩ := id hSd
  refine n_cI (va_runV (As := [.int (iI (Z (i0 + 1))), .int (iI (Z (i0 + 2)))]) (rest := []) ⟨hx, hb, hml, hown, hts⟩ (hA H.size) (cwV 2 hts (nT_V wl_L_111 wi_X6_wanted ws_X6_wanted wn_X6 wc_X6_wanted) rfl rfl rfl (by decide +kernel) ⟨Nat.le_of_ble_eq_true rfl, Nat.le_of_ble_eq_true rfl⟩) (nB.preV hK hI hP (by omega) hCl.1 rfl rfl) rfl rfl hl.1 rfl (lv_room (Nat.le_of_ble_eq_true rfl)) dL_law_883 hcs) hS (fun r w1 H locs hq hP hS => ?_)
  obtain ⟨hr, hp⟩ := hq
  obtain ⟨⟨fs, hfy⟩, hB⟩ := hB w1 hp
  refine lv_aload_n hx hb dL_law_886 rfl (lv_at hl 2 rfl) ?_
  refine lv_aload_n hx hb dL_law_887 rfl (lv_at hl 0 rfl) ?_
  refine lv_iload_n hx hb dL_law_888 rfl (lv_at hl 3 rfl) ?_
  refine n_iconst hx hb dL_law_889 ?_
  refine n_iadd hx hb dL_law_890 ?_
  refine n_sld hx hb hX hbl hbA hS hZ (i0 + 1) (by omega) (by omega) (by omega) dL_law_891 ?_
  refine lv_aload_n hx hb dL_law_892 rfl (lv_at hl 0 rfl) ?_
  refine lv_iload_n hx hb dL_law_893 rfl (lv_at hl 3 rfl) ?_
  refine n_iconst hx hb dL_law_894 ?_
  refine n_iadd hx hb dL_law_895 ?_
  refine n_sld hx hb hX hbl hbA hS hZ (i0 + 2) (by omega) (by omega) (by omega) dL_law_896 ?_
  refine n_cI (va_runV (As := [.int (iI (Z (i0 + 1))), .int (iI (Z (i0 + 2)))]) (rest := [.int (iI r)]) ⟨hx, hb, hml, hown, hts⟩ (hB H.size) (cwV 2 hts (nT_V wl_L_114 wi_X7_wanted ws_X7_wanted wn_X7 wc_X7_wanted) rfl rfl rfl (by decide +kernel) ⟨Nat.le_of_ble_eq_true rfl, Nat.le_of_ble_eq_true rfl⟩) (nB.preV hK hI hP (by omega) hfy rfl rfl) rfl rfl hl.1 rfl (lv_room (Nat.le_of_ble_eq_true rfl)) dL_law_897 hcs) hS (fun r2 w2 H locs hq2 hP hS => ?_)
  obtain ⟨hr2, hSd2⟩ := hq2
  rw [hr, hr2]
  exact lv_icmp_eq (tgt := 984) hx hb dL_law_900 (by decide) (fun _ => kk w2 H locs hSd2 hP hS) (fun h => absurd rfl h)
set_option maxHeartbeats 4000000 in
theorem lw_c23 (hx : p.tables.exec = Jvm.exec) (hb : cd.code = cL_law) (hml : cd.maxLocals = 4) (hown : s.vm.findClass RL = some m.cls) (hts : ∀ q ∈ Cond.initialized RX6 :: nT, q.before #[Value.ref b] s = true) (hX : va_X b L xs s s.heap) (hbl : b < s.heap.size) (hbA : ¬ nA N ad s.heap.size b) (hZ : ∀ j, xs j = iI (Z j)) (hZr : ∀ j, -2147483648 ≤ Z j ∧ Z j < 2147483648) (hL : L ≤ 3072) (hK : nK G s) (hI : nInj N ad) (hN : N = x + 246) (hy : y = x + 219) (hcs : cells ≤ room_1.cells ∧ slots ≤ room_1.slots) (hc : c ≤ 600) (hSd : Sd G ad x y c w) (hP : va_P G.1 vwCl (nL N ad w) H) (hS : va_S (nA N ad s.heap.size) s.heap H locs) (i0 : Nat) (hi : i0 + 6 ≤ L) (hl : lv_has ls 4 [(0, .ref b), (1, .ref (ad x)), (2, .ref (ad y)), (3, .int (iI (i0 : Int)))]) (kk : ∀ w1 H1 locs1, Sd G ad x y (c + 1) w1 → va_P G.1 vwCl (nL N ad w1) H1 → va_S (nA N ad s.heap.size) s.heap H1 locs1 → W p l e room_1 s m #[Value.ref b] below meth cd H1 locs1 cells slots Q (F0 m 984 ls [])) : W p l e room_1 s m #[Value.ref b] below meth cd H locs cells slots Q (F0 m 905 ls []) := by
  refine lv_aload_n hx hb dL_law_905 rfl (lv_at hl 1 rfl) ?_
  refine lv_aload_n hx hb dL_law_906 rfl (lv_at hl 0 rfl) ?_
  refine lv_iload_n hx hb dL_law_907 rfl (lv_at hl 3 rfl) ?_
  refine n_iconst hx hb dL_law_908 ?_
  refine n_iadd hx hb dL_law_909 ?_
  refine n_sld hx hb hX hbl hbA hS hZ (i0 + 1) (by omega) (by omega) (by omega) dL_law_910 ?_
  refine lv_aload_n hx hb dL_law_911 rfl (lv_at hl 0 rfl) ?_
  refine lv_iload_n hx hb dL_law_912 rfl (lv_at hl 3 rfl) ?_
  refine n_iconst hx hb dL_law_913 ?_
  refine n_iadd hx hb dL_law_914 ?_
  refine n_sld hx hb hX hbl hbA hS hZ (i0 + 2) (by omega) (by omega) (by omega) dL_law_915 ?_
  obtain ⟨R, P1, hA, hB⟩ := k_about (l := l) hN hy hc hSd (Z (i0 + 1)) (Z (i0 + 2)) (hZr _) (hZr _)
  obtain ⟨M, kp, hCl, hMo, -, -⟩ := id hSd
  refine n_cI (va_runV (As := [.int (iI (Z (i0 + 1))), .int (iI (Z (i0 + 2)))]) (rest := []) ⟨hx, hb, hml, hown, hts⟩ (hA H.size) (cwV 2 hts (nT_V wl_L_115 wi_X6_about ws_X6_about wn_X6 wc_X6_about) rfl rfl rfl (by decide +kernel) ⟨Nat.le_of_ble_eq_true rfl, Nat.le_of_ble_eq_true rfl⟩) (nB.preV hK hI hP (by omega) hCl.1 rfl rfl) rfl rfl hl.1 rfl (lv_room (Nat.le_of_ble_eq_true rfl)) dL_law_916 hcs) hS (fun r w1 H locs hq hP hS => ?_)
  obtain ⟨hr, hp⟩ := hq
  obtain ⟨⟨fs, hfy⟩, hB⟩ := hB w1 hp
  refine lv_aload_n hx hb dL_law_919 rfl (lv_at hl 2 rfl) ?_
  refine lv_aload_n hx hb dL_law_920 rfl (lv_at hl 0 rfl) ?_
  refine lv_iload_n hx hb dL_law_921 rfl (lv_at hl 3 rfl) ?_
  refine n_iconst hx hb dL_law_922 ?_
  refine n_iadd hx hb dL_law_923 ?_
  refine n_sld hx hb hX hbl hbA hS hZ (i0 + 1) (by omega) (by omega) (by omega) dL_law_924 ?_
  refine lv_aload_n hx hb dL_law_925 rfl (lv_at hl 0 rfl) ?_
  refine lv_iload_n hx hb dL_law_926 rfl (lv_at hl 3 rfl) ?_
  refine n_iconst hx hb dL_law_927 ?_
  refine n_iadd hx hb dL_law_928 ?_
  refine n_sld hx hb hX hbl hbA hS hZ (i0 + 2) (by omega) (by omega) (by omega) dL_law_929 ?_
  refine n_cI (va_runV (As := [.int (iI (Z (i0 + 1))), .int (iI (Z (i0 + 2)))]) (rest := [.int (iI r)]) ⟨hx, hb, hml, hown, hts⟩ (hB H.size) (cwV 2 hts (nT_V wl_L_118 wi_X7_about ws_X7_about wn_X7 wc_X7_about) rfl rfl rfl (by decide +kernel) ⟨Nat.le_of_ble_eq_true rfl, Nat.le_of_ble_eq_true rfl⟩) (nB.preV hK hI hP (by omega) hfy rfl rfl) rfl rfl hl.1 rfl (lv_room (Nat.le_of_ble_eq_true rfl)) dL_law_930 hcs) hS (fun r2 w2 H locs hq2 hP hS => ?_)
  obtain ⟨hr2, hSd2⟩ := hq2
  rw [hr, hr2]
  exact lv_icmp_eq (tgt := 984) hx hb dL_law_933 (by decide) (fun _ => kk w2 H locs hSd2 hP hS) (fun h => absurd rfl h)
set_option maxHeartbeats 4000000 in
theorem lw_c24 (hx : p.tables.exec = Jvm.exec) (hb : cd.code = cL_law) (hml : cd.maxLocals = 4) (hown : s.vm.findClass RL = some m.cls) (hts : ∀ q ∈ Cond.initialized RX6 :: nT, q.before #[Value.ref b] s = true) (hX : va_X b L xs s s.heap) (hbl : b < s.heap.size) (hbA : ¬ nA N ad s.heap.size b) (hZ : ∀ j, xs j = iI (Z j)) (hZr : ∀ j, -2147483648 ≤ Z j ∧ Z j < 2147483648) (hL : L ≤ 3072) (hK : nK G s) (hI : nInj N ad) (hN : N = x + 246) (hy : y = x + 219) (hcs : cells ≤ room_1.cells ∧ slots ≤ room_1.slots) (hc : c ≤ 600) (hSd : Sd G ad x y c w) (hP : va_P G.1 vwCl (nL N ad w) H) (hS : va_S (nA N ad s.heap.size) s.heap H locs) (i0 : Nat) (hi : i0 + 6 ≤ L) (hl : lv_has ls 4 [(0, .ref b), (1, .ref (ad x)), (2, .ref (ad y)), (3, .int (iI (i0 : Int)))]) (kk : ∀ w1 H1 locs1, Sd G ad x y (c + 1) w1 → va_P G.1 vwCl (nL N ad w1) H1 → va_S (nA N ad s.heap.size) s.heap H1 locs1 → W p l e room_1 s m #[Value.ref b] below meth cd H1 locs1 cells slots Q (F0 m 984 ls [])) : W p l e room_1 s m #[Value.ref b] below meth cd H locs cells slots Q (F0 m 938 ls []) := by
  refine lv_aload_n hx hb dL_law_938 rfl (lv_at hl 1 rfl) ?_
  refine lv_aload_n hx hb dL_law_939 rfl (lv_at hl 0 rfl) ?_
  refine lv_iload_n hx hb dL_law_940 rfl (lv_at hl 3 rfl) ?_
  refine n_iconst hx hb dL_law_941 ?_
  refine n_iadd hx hb dL_law_942 ?_
  refine n_sld hx hb hX hbl hbA hS hZ (i0 + 1) (by omega) (by omega) (by omega) dL_law_943 ?_
  obtain ⟨R, P1, hA, hB⟩ := k_image (l := l) hN hy hc hSd (Z (i0 + 1)) (hZr _)
  obtain ⟨M, kp, hCl, hMo, -, -⟩ := id hSd
  refine n_cI (va_runV (As := [.int (iI (Z (i0 + 1)))]) (rest := []) ⟨hx, hb, hml, hown, hts⟩ (hA H.size) (cwV 1 hts (nT_V wl_L_119 wi_X6_image ws_X6_image wn_X6 wc_X6_image) rfl rfl rfl (by decide +kernel) ⟨Nat.le_of_ble_eq_true rfl, Nat.le_of_ble_eq_true rfl⟩) (nB.preV hK hI hP (by omega) hCl.1 rfl rfl) rfl rfl hl.1 rfl (lv_room (Nat.le_of_ble_eq_true rfl)) dL_law_944 hcs) hS (fun r w1 H locs hq hP hS => ?_)
  obtain ⟨hr, hp⟩ := hq
  obtain ⟨⟨fs, hfy⟩, hB⟩ := hB w1 hp
  refine lv_aload_n hx hb dL_law_947 rfl (lv_at hl 2 rfl) ?_
  refine lv_aload_n hx hb dL_law_948 rfl (lv_at hl 0 rfl) ?_
  refine lv_iload_n hx hb dL_law_949 rfl (lv_at hl 3 rfl) ?_
  refine n_iconst hx hb dL_law_950 ?_
  refine n_iadd hx hb dL_law_951 ?_
  refine n_sld hx hb hX hbl hbA hS hZ (i0 + 1) (by omega) (by omega) (by omega) dL_law_952 ?_
  refine n_cI (va_runV (As := [.int (iI (Z (i0 + 1)))]) (rest := [.int (iI r)]) ⟨hx, hb, hml, hown, hts⟩ (hB H.size) (cwV 1 hts (nT_V wl_L_122 wi_X7_image ws_X7_image wn_X7 wc_X7_image) rfl rfl rfl (by decide +kernel) ⟨Nat.le_of_ble_eq_true rfl, Nat.le_of_ble_eq_true rfl⟩) (nB.preV hK hI hP (by omega) hfy rfl rfl) rfl rfl hl.1 rfl (lv_room (Nat.le_of_ble_eq_true rfl)) dL_law_953 hcs) hS (fun r2 w2 H locs hq2 hP hS => ?_)
  obtain ⟨hr2, hSd2⟩ := hq2
  rw [hr, hr2]
  exact lv_icmp_eq (tgt := 984) hx hb dL_law_956 (by decide) (fun _ => kk w2 H locs hSd2 hP hS) (fun h => absurd rfl h)
set_option maxHeartbeats 4000000 in
theorem lw_c25 (hx : p.tables.exec = Jvm.exec) (hb : cd.code = cL_law) (hml : cd.maxLocals = 4) (hown : s.vm.findClass RL = some m.cls) (hts : ∀ q ∈ Cond.initialized RX6 :: nT, q.before #[Value.ref b] s = true) (hX : va_X b L xs s s.heap) (hbl : b < s.heap.size) (hbA : ¬ nA N ad s.heap.size b) (hZ : ∀ j, xs j = iI (Z j)) (hZr : ∀ j, -2147483648 ≤ Z j ∧ Z j < 2147483648) (hL : L ≤ 3072) (hK : nK G s) (hI : nInj N ad) (hN : N = x + 246) (hy : y = x + 219) (hcs : cells ≤ room_1.cells ∧ slots ≤ room_1.slots) (hc : c ≤ 600) (hSd : Sd G ad x y c w) (hP : va_P G.1 vwCl (nL N ad w) H) (hS : va_S (nA N ad s.heap.size) s.heap H locs) (i0 : Nat) (hi : i0 + 6 ≤ L) (hl : lv_has ls 4 [(0, .ref b), (1, .ref (ad x)), (2, .ref (ad y)), (3, .int (iI (i0 : Int)))]) (kk : ∀ w1 H1 locs1, Sd G ad x y (c + 1) w1 → va_P G.1 vwCl (nL N ad w1) H1 → va_S (nA N ad s.heap.size) s.heap H1 locs1 → W p l e room_1 s m #[Value.ref b] below meth cd H1 locs1 cells slots Q (F0 m 984 ls [])) : W p l e room_1 s m #[Value.ref b] below meth cd H locs cells slots Q (F0 m 961 ls []) := by
  refine lv_aload_n hx hb dL_law_961 rfl (lv_at hl 1 rfl) ?_
  refine lv_aload_n hx hb dL_law_962 rfl (lv_at hl 0 rfl) ?_
  refine lv_iload_n hx hb dL_law_963 rfl (lv_at hl 3 rfl) ?_
  refine n_iconst hx hb dL_law_964 ?_
  refine n_iadd hx hb dL_law_965 ?_
  refine n_sld hx hb hX hbl hbA hS hZ (i0 + 1) (by omega) (by omega) (by omega) dL_law_966 ?_
  obtain ⟨R, P1, hA, hB⟩ := k_again (l := l) hN hy hc hSd (Z (i0 + 1)) (hZr _)
  obtain ⟨M, kp, hCl, hMo, -, -⟩ := id hSd
  refine n_cI (va_runV (As := [.int (iI (Z (i0 + 1)))]) (rest := []) ⟨hx, hb, hml, hown, hts⟩ (hA H.size) (cwV 1 hts (nT_V wl_L_123 wi_X6_again ws_X6_again wn_X6 wc_X6_again) rfl rfl rfl (by decide +kernel) ⟨Nat.le_of_ble_eq_true rfl, Nat.le_of_ble_eq_true rfl⟩) (nB.preV hK hI hP (by omega) hCl.1 rfl rfl) rfl rfl hl.1 rfl (lv_room (Nat.le_of_ble_eq_true rfl)) dL_law_967 hcs) hS (fun r w1 H locs hq hP hS => ?_)
  obtain ⟨hr, hp⟩ := hq
  obtain ⟨⟨fs, hfy⟩, hB⟩ := hB w1 hp
  refine lv_aload_n hx hb dL_law_970 rfl (lv_at hl 2 rfl) ?_
  refine lv_aload_n hx hb dL_law_971 rfl (lv_at hl 0 rfl) ?_
  refine lv_iload_n hx hb dL_law_972 rfl (lv_at hl 3 rfl) ?_
  refine n_iconst hx hb dL_law_973 ?_
  refine n_iadd hx hb dL_law_974 ?_
  refine n_sld hx hb hX hbl hbA hS hZ (i0 + 1) (by omega) (by omega) (by omega) dL_law_975 ?_
  refine n_cI (va_runV (As := [.int (iI (Z (i0 + 1)))]) (rest := [.int (iI r)]) ⟨hx, hb, hml, hown, hts⟩ (hB H.size) (cwV 1 hts (nT_V wl_L_126 wi_X7_again ws_X7_again wn_X7 wc_X7_again) rfl rfl rfl (by decide +kernel) ⟨Nat.le_of_ble_eq_true rfl, Nat.le_of_ble_eq_true rfl⟩) (nB.preV hK hI hP (by omega) hfy rfl rfl) rfl rfl hl.1 rfl (lv_room (Nat.le_of_ble_eq_true rfl)) dL_law_976 hcs) hS (fun r2 w2 H locs hq2 hP hS => ?_)
  obtain ⟨hr2, hSd2⟩ := hq2
  rw [hr, hr2]
  exact lv_icmp_eq (tgt := 984) hx hb dL_law_979 (by decide) (fun _ => kk w2 H locs hSd2 hP hS) (fun h => absurd rfl h)
end LAW
