section
-- ===== PART A: goes FIRST, ahead of the names: the tables' words, and 'selects' of the private methods out of them =====
/-- a private method of a class that the tables say can be made, by its rows of tables_1 -/
def lw_okq (q : MethodName × Nat) : Prop := (q.1.cls ≠ "java/lang/invoke/MethodHandle" ∧ q.1.cls ≠ "java/lang/invoke/VarHandle") ∧ Cond.instantiable q.1.cls q.2 ∈ tables_1 ∧ Cond.privateMethod q.1 ∈ tables_1 ∧ Cond.instanceMethod q.1 ∈ tables_1
theorem lw_p0 : lw_okq (⟨"NewCoins$Coinage", "isValue", "(I)Z"⟩, 4) := ⟨⟨by decide +kernel, by decide +kernel⟩, List.mem_of_getElem? (i := 28) (by decide +kernel), List.mem_of_getElem? (i := 236) (by decide +kernel), List.mem_of_getElem? (i := 237) (by decide +kernel)⟩
theorem lw_p1 : lw_okq (⟨"NewCoins$Coinage", "rank", "(I)V"⟩, 4) := ⟨⟨by decide +kernel, by decide +kernel⟩, List.mem_of_getElem? (i := 28) (by decide +kernel), List.mem_of_getElem? (i := 240) (by decide +kernel), List.mem_of_getElem? (i := 241) (by decide +kernel)⟩
theorem lw_p2 : lw_okq (⟨"NewCoins$Coinage", "improve", "(I)V"⟩, 4) := ⟨⟨by decide +kernel, by decide +kernel⟩, List.mem_of_getElem? (i := 28) (by decide +kernel), List.mem_of_getElem? (i := 244) (by decide +kernel), List.mem_of_getElem? (i := 245) (by decide +kernel)⟩
theorem lw_p3 : lw_okq (⟨"NewCoins", "startOfWays", "()J"⟩, 6) := ⟨⟨by decide +kernel, by decide +kernel⟩, List.mem_of_getElem? (i := 14) (by decide +kernel), List.mem_of_getElem? (i := 308) (by decide +kernel), List.mem_of_getElem? (i := 309) (by decide +kernel)⟩
theorem lw_p4 : lw_okq (⟨"NewCoins$ChangeMaker", "allow", "(IIII)V"⟩, 4) := ⟨⟨by decide +kernel, by decide +kernel⟩, List.mem_of_getElem? (i := 178) (by decide +kernel), List.mem_of_getElem? (i := 411) (by decide +kernel), List.mem_of_getElem? (i := 412) (by decide +kernel)⟩
theorem lw_p5 : lw_okq (⟨"NewCoins$ChangeMaker", "slide", "([I[IIIII)V"⟩, 4) := ⟨⟨by decide +kernel, by decide +kernel⟩, List.mem_of_getElem? (i := 178) (by decide +kernel), List.mem_of_getElem? (i := 415) (by decide +kernel), List.mem_of_getElem? (i := 416) (by decide +kernel)⟩
theorem lw_p6 : lw_okq (⟨"NewCoins$ChangeMaker", "writeRow", "(LNewCoins$Coinage;[II)V"⟩, 4) := ⟨⟨by decide +kernel, by decide +kernel⟩, List.mem_of_getElem? (i := 178) (by decide +kernel), List.mem_of_getElem? (i := 419) (by decide +kernel), List.mem_of_getElem? (i := 420) (by decide +kernel)⟩
theorem lw_p7 : lw_okq (⟨"NewCoins$ChangeMaker", "leadsOn", "(IIII)Z"⟩, 4) := ⟨⟨by decide +kernel, by decide +kernel⟩, List.mem_of_getElem? (i := 178) (by decide +kernel), List.mem_of_getElem? (i := 427) (by decide +kernel), List.mem_of_getElem? (i := 428) (by decide +kernel)⟩
theorem lw_p8 : lw_okq (⟨"NewCoins", "mostLacking", "(LNewCoins$Expected;I)I"⟩, 6) := ⟨⟨by decide +kernel, by decide +kernel⟩, List.mem_of_getElem? (i := 14) (by decide +kernel), List.mem_of_getElem? (i := 476) (by decide +kernel), List.mem_of_getElem? (i := 477) (by decide +kernel)⟩
theorem lw_p9 : lw_okq (⟨"NewCoins$Land", "goodDetail", "(I)I"⟩, 9) := ⟨⟨by decide +kernel, by decide +kernel⟩, List.mem_of_getElem? (i := 22) (by decide +kernel), List.mem_of_getElem? (i := 491) (by decide +kernel), List.mem_of_getElem? (i := 492) (by decide +kernel)⟩
theorem lw_p10 : lw_okq (⟨"NewCoinsModel", "isGood", "(I)Z"⟩, 27) := ⟨⟨by decide +kernel, by decide +kernel⟩, List.mem_of_getElem? (i := 536) (by decide +kernel), List.mem_of_getElem? (i := 643) (by decide +kernel), List.mem_of_getElem? (i := 644) (by decide +kernel)⟩
theorem lw_p11 : lw_okq (⟨"NewCoinsModel", "priceOf", "(II)I"⟩, 27) := ⟨⟨by decide +kernel, by decide +kernel⟩, List.mem_of_getElem? (i := 536) (by decide +kernel), List.mem_of_getElem? (i := 655) (by decide +kernel), List.mem_of_getElem? (i := 656) (by decide +kernel)⟩
theorem lw_p12 : lw_okq (⟨"NewCoinsModel", "gainOf", "(II)J"⟩, 27) := ⟨⟨by decide +kernel, by decide +kernel⟩, List.mem_of_getElem? (i := 536) (by decide +kernel), List.mem_of_getElem? (i := 663) (by decide +kernel), List.mem_of_getElem? (i := 664) (by decide +kernel)⟩
theorem lw_p13 : lw_okq (⟨"NewCoinsModel", "isCoin", "(II)Z"⟩, 27) := ⟨⟨by decide +kernel, by decide +kernel⟩, List.mem_of_getElem? (i := 536) (by decide +kernel), List.mem_of_getElem? (i := 680) (by decide +kernel), List.mem_of_getElem? (i := 681) (by decide +kernel)⟩
theorem lw_p14 : lw_okq (⟨"NewCoinsModel", "noBounds", "()V"⟩, 27) := ⟨⟨by decide +kernel, by decide +kernel⟩, List.mem_of_getElem? (i := 536) (by decide +kernel), List.mem_of_getElem? (i := 684) (by decide +kernel), List.mem_of_getElem? (i := 685) (by decide +kernel)⟩
theorem lw_p15 : lw_okq (⟨"NewCoinsModel", "find", "(II)I"⟩, 27) := ⟨⟨by decide +kernel, by decide +kernel⟩, List.mem_of_getElem? (i := 536) (by decide +kernel), List.mem_of_getElem? (i := 688) (by decide +kernel), List.mem_of_getElem? (i := 689) (by decide +kernel)⟩
def lw_privs_1 : List (MethodName × Nat) := [(⟨"NewCoins$Coinage", "isValue", "(I)Z"⟩, 4), (⟨"NewCoins$Coinage", "rank", "(I)V"⟩, 4), (⟨"NewCoins$Coinage", "improve", "(I)V"⟩, 4), (⟨"NewCoins", "startOfWays", "()J"⟩, 6), (⟨"NewCoins$ChangeMaker", "allow", "(IIII)V"⟩, 4), (⟨"NewCoins$ChangeMaker", "slide", "([I[IIIII)V"⟩, 4), (⟨"NewCoins$ChangeMaker", "writeRow", "(LNewCoins$Coinage;[II)V"⟩, 4), (⟨"NewCoins$ChangeMaker", "leadsOn", "(IIII)Z"⟩, 4), (⟨"NewCoins", "mostLacking", "(LNewCoins$Expected;I)I"⟩, 6), (⟨"NewCoins$Land", "goodDetail", "(I)I"⟩, 9), (⟨"NewCoinsModel", "isGood", "(I)Z"⟩, 27), (⟨"NewCoinsModel", "priceOf", "(II)I"⟩, 27), (⟨"NewCoinsModel", "gainOf", "(II)J"⟩, 27), (⟨"NewCoinsModel", "isCoin", "(II)Z"⟩, 27), (⟨"NewCoinsModel", "noBounds", "()V"⟩, 27), (⟨"NewCoinsModel", "find", "(II)I"⟩, 27)]
theorem lw_r1 : ∀ q ∈ lw_privs_1, lw_okq q := List.forall_mem_cons.mpr ⟨lw_p0, List.forall_mem_cons.mpr ⟨lw_p1, List.forall_mem_cons.mpr ⟨lw_p2, List.forall_mem_cons.mpr ⟨lw_p3, List.forall_mem_cons.mpr ⟨lw_p4, List.forall_mem_cons.mpr ⟨lw_p5, List.forall_mem_cons.mpr ⟨lw_p6, List.forall_mem_cons.mpr ⟨lw_p7, List.forall_mem_cons.mpr ⟨lw_p8, List.forall_mem_cons.mpr ⟨lw_p9, List.forall_mem_cons.mpr ⟨lw_p10, List.forall_mem_cons.mpr ⟨lw_p11, List.forall_mem_cons.mpr ⟨lw_p12, List.forall_mem_cons.mpr ⟨lw_p13, List.forall_mem_cons.mpr ⟨lw_p14, List.forall_mem_cons.mpr ⟨lw_p15, fun _ h => absurd h List.not_mem_nil⟩⟩⟩⟩⟩⟩⟩⟩⟩⟩⟩⟩⟩⟩⟩⟩
theorem lw_p16 : lw_okq (⟨"NewCoinsModel", "sortCoins", "(I)V"⟩, 27) := ⟨⟨by decide +kernel, by decide +kernel⟩, List.mem_of_getElem? (i := 536) (by decide +kernel), List.mem_of_getElem? (i := 692) (by decide +kernel), List.mem_of_getElem? (i := 693) (by decide +kernel)⟩
theorem lw_p17 : lw_okq (⟨"NewCoinsModel", "greedyOf", "(II)I"⟩, 27) := ⟨⟨by decide +kernel, by decide +kernel⟩, List.mem_of_getElem? (i := 536) (by decide +kernel), List.mem_of_getElem? (i := 701) (by decide +kernel), List.mem_of_getElem? (i := 702) (by decide +kernel)⟩
theorem lw_p18 : lw_okq (⟨"NewCoinsModel", "isTill", "(I)Z"⟩, 27) := ⟨⟨by decide +kernel, by decide +kernel⟩, List.mem_of_getElem? (i := 536) (by decide +kernel), List.mem_of_getElem? (i := 720) (by decide +kernel), List.mem_of_getElem? (i := 721) (by decide +kernel)⟩
theorem lw_p19 : lw_okq (⟨"NewCoinsModel", "isSale", "(IIIII)Z"⟩, 27) := ⟨⟨by decide +kernel, by decide +kernel⟩, List.mem_of_getElem? (i := 536) (by decide +kernel), List.mem_of_getElem? (i := 728) (by decide +kernel), List.mem_of_getElem? (i := 729) (by decide +kernel)⟩
theorem lw_p20 : lw_okq (⟨"NewCoinsModel", "over", "(IIII)I"⟩, 27) := ⟨⟨by decide +kernel, by decide +kernel⟩, List.mem_of_getElem? (i := 536) (by decide +kernel), List.mem_of_getElem? (i := 732) (by decide +kernel), List.mem_of_getElem? (i := 733) (by decide +kernel)⟩
theorem lw_p21 : lw_okq (⟨"NewCoinsModel", "parts", "(II)J"⟩, 27) := ⟨⟨by decide +kernel, by decide +kernel⟩, List.mem_of_getElem? (i := 536) (by decide +kernel), List.mem_of_getElem? (i := 744) (by decide +kernel), List.mem_of_getElem? (i := 745) (by decide +kernel)⟩
theorem lw_p22 : lw_okq (⟨"NewCoinsModel", "findWanted", "(I)Z"⟩, 27) := ⟨⟨by decide +kernel, by decide +kernel⟩, List.mem_of_getElem? (i := 536) (by decide +kernel), List.mem_of_getElem? (i := 772) (by decide +kernel), List.mem_of_getElem? (i := 773) (by decide +kernel)⟩
theorem lw_p23 : lw_okq (⟨"NewCoinsModel", "copy", "(II)V"⟩, 27) := ⟨⟨by decide +kernel, by decide +kernel⟩, List.mem_of_getElem? (i := 536) (by decide +kernel), List.mem_of_getElem? (i := 784) (by decide +kernel), List.mem_of_getElem? (i := 785) (by decide +kernel)⟩
def lw_privs_2 : List (MethodName × Nat) := [(⟨"NewCoinsModel", "sortCoins", "(I)V"⟩, 27), (⟨"NewCoinsModel", "greedyOf", "(II)I"⟩, 27), (⟨"NewCoinsModel", "isTill", "(I)Z"⟩, 27), (⟨"NewCoinsModel", "isSale", "(IIIII)Z"⟩, 27), (⟨"NewCoinsModel", "over", "(IIII)I"⟩, 27), (⟨"NewCoinsModel", "parts", "(II)J"⟩, 27), (⟨"NewCoinsModel", "findWanted", "(I)Z"⟩, 27), (⟨"NewCoinsModel", "copy", "(II)V"⟩, 27)]
theorem lw_r2 : ∀ q ∈ lw_privs_2, lw_okq q := List.forall_mem_cons.mpr ⟨lw_p16, List.forall_mem_cons.mpr ⟨lw_p17, List.forall_mem_cons.mpr ⟨lw_p18, List.forall_mem_cons.mpr ⟨lw_p19, List.forall_mem_cons.mpr ⟨lw_p20, List.forall_mem_cons.mpr ⟨lw_p21, List.forall_mem_cons.mpr ⟨lw_p22, List.forall_mem_cons.mpr ⟨lw_p23, fun _ h => absurd h List.not_mem_nil⟩⟩⟩⟩⟩⟩⟩⟩
def lw_privs : List (MethodName × Nat) := lw_privs_1 ++ (lw_privs_2)
def lw_tbl : List Cond := k2_sels lw_privs ++ tables_1
theorem lw_privs_ok : ∀ q ∈ lw_privs, lw_okq q := by
  show ∀ q ∈ lw_privs_1 ++ (lw_privs_2), lw_okq q
  exact List.forall_mem_append.mpr ⟨lw_r1, lw_r2⟩
end
section
/-! ===== BEGIN words of one list among another's, by their places ===== -/
theorem goodIn_r {big : List Cond} (ws : List Cond) (ps : List Nat) (hp : ws = ps.filterMap (fun i => big[i]?)) (h : ws.all goodWord = true) : GoodIn big ws := by
  intro w hw
  have h1 := List.all_eq_true.mp h w hw
  rw [hp] at hw
  obtain ⟨i, -, hi⟩ := List.mem_filterMap.mp hw
  have hm : w ∈ big := by first | exact List.mem_of_getElem? hi | exact List.getElem?_mem hi
  exact ⟨hm, good_of_word h1⟩
theorem goodIn_app {big a b : List Cond} (ha : GoodIn big a) (hb : GoodIn big b) : GoodIn big (a ++ b) := fun w h => (List.mem_append.mp h).elim (ha w) (hb w)
theorem goodIn_ca {big a b : List Cond} {c : Cond} (ha : GoodIn big (c :: a)) (hb : GoodIn big b) : GoodIn big (c :: (a ++ b)) := fun w h => (List.mem_cons.mp h).elim (fun e => ha w (List.mem_cons.mpr (Or.inl e))) (fun h => (List.mem_append.mp h).elim (fun h => ha w (List.mem_cons.mpr (Or.inr h))) (hb w))
theorem goodIn_sub {big ws : List Cond} (hm : ∀ w ∈ ws, w ∈ big) (h : ws.all goodWord = true) : GoodIn big ws := fun w hw => ⟨hm w hw, good_of_word (List.all_eq_true.mp h w hw)⟩
/-! ===== END ===== -/

/-! ===== BEGIN new T[n][m]: the outer array a place, the inner ones among the pooled ===== -/
/-- f, but v at every address of l -/
def vr_up {α : Type} (f : Nat → α) (l : List Nat) (v : α) : Nat → α := fun a => if a ∈ l then v else f a
theorem vr_up_in {α : Type} {f : Nat → α} {l : List Nat} {v : α} {a : Nat} (h : a ∈ l) : vr_up f l v a = v := if_pos h
theorem vr_up_ne {α : Type} {f : Nat → α} {l : List Nat} {v : α} {a : Nat} (h : a ∉ l) : vr_up f l v a = f a := if_neg h
theorem vr_rows {L l : List Nat} {f : Nat → va_E} {e : va_E} (h : ∀ a, a ∈ l → a ∉ L) : va_pl L f ++ l.map (fun a => (a, e)) = va_pl (L ++ l) (vr_up f l e) := by
  unfold va_pl
  rw [List.map_append]
  congr 1
  · apply List.map_congr_left
    intro a ha
    rw [vr_up_ne (fun q => h a q ha)]
  · apply List.map_congr_left
    intro a ha
    rw [vr_up_in ha]
theorem vr_lay {X rows : va_W} {x : Nat × va_E} {pl : va_W} {D : va_G} {cl : List vw_C} {H : Heap} (hP : va_P D cl (((X ++ pl) ++ [x]) ++ rows) H) : va_P D cl ((X ++ [x]) ++ (pl ++ rows)) H := by
  rw [List.append_assoc (X ++ pl)] at hP
  have h := va_P.swap hP
  rw [← List.append_assoc X] at h
  have h2 := va_P.swap h
  rw [List.append_assoc (X ++ [x])] at h2
  exact h2
theorem vr_layD {X rows : va_W} {x : Nat × va_E} {pl : va_W} {A : Nat → Prop} (hD : va_D A (((X ++ pl) ++ [x]) ++ rows)) : va_D A ((X ++ [x]) ++ (pl ++ rows)) := by
  rw [List.append_assoc (X ++ pl)] at hD
  have h := va_D.swap hD
  rw [← List.append_assoc X] at h
  have h2 := va_D.swap h
  rw [List.append_assoc (X ++ [x])] at h2
  exact h2
theorem vr_outer (c : ClassId) (N h0 : Nat) : ∀ i : Nat, Jvm.Free.Multi.outerC c N h0 i = arrV c N (fun j => va_rf (if j < i then some (h0 + 1 + j) else none))
  | 0 => by
    show ({ cls := c, slots := Array.replicate N .null, vm := .none } : Cell) = _
    rw [arrV_new]
    refine congrArg (arrV c N) (funext fun j => ?_)
    simp [va_rf]
  | i + 1 => by
    show (Jvm.Free.Multi.outerC c N h0 i).setSlot i (.ref (h0 + 1 + i)) = _
    rw [vr_outer c N h0 i, arrV_store]
    refine congrArg (arrV c N) (funext fun j => ?_)
    by_cases e : j = i
    · subst e
      simp [updV, va_rf]
    · by_cases h : j < i
      · simp [updV, e, h, Nat.lt_succ_of_lt h]
      · simp [updV, e, h, show ¬ j < i + 1 by omega]
section VGM
variable {p : Program} {l : Launch} {e : Env} {R : Room} {s : State} {m : MethodId} {args : Array Value} {below : List Frame} {meth : Method} {c : Code} {H : Heap} {locs : List Loc} {cells slots : Nat} {Q : State → Prop}
variable {cc : ByteArray} {pc : Nat} {ls : Array Slot} {rest : List Value} {D : va_G} {cl : List vw_C} {A : Nat → Prop} {a : Nat} {tys : List (ClassId × FieldType)} {ws : va_W} {H0 : Heap}
theorem va_mna {X : va_W} {L : List Nat} {f : Nat → va_E} {cc : ByteArray} (hexec : p.tables.exec = Jvm.exec) (hb : c.code = cc) {own : String} {index : Nat} {ty : FieldType} {cy : ClassId} (hown : s.vm.findClass own = some m.cls) (hclink : (Cond.classLink own index ("[" ++ (FieldType.array ty).toString)).before args s = true) (hover : va_AOA ty s) (harr : (Cond.arrayClass ty).before args s = true) (hcy : s.vm.findClass (FieldType.array ty).toString = some cy)
    (hK : va_K D cl tys s) (hP : va_P D cl (X ++ va_pl L f) H) (hD : va_D A (X ++ va_pl L f)) (hS : va_S A H0 H locs) (hA : ∀ q, H0.size ≤ q → A q) {n k : Int32} {N' K' : Nat} {z : vp_A} (hn : ¬ n < 0) (hk : ¬ k < 0) (hN : n.toNatClampNeg = N') (hM : k.toNatClampNeg = K')
    (hb1 : N' * 4 ≤ 536870912) (hb2 : K' * componentBytes ty ≤ 536870912) (hb3 : K' ≤ 536870912) (hdf : fits ty (defaultValue ty) = true) (hdd : (defaultValue ty).isDefault = true) (hcells : cells + (1 + N') ≤ R.cells) (hslots : slots + (N' + N' * K') ≤ R.slots) (hz : ∀ c : ClassId, Jvm.Free.Multi.innerC c K' (defaultValue ty) = vp_cell c z) (hdg : decode cc pc = .ok (.multianewarray index 2, 4))
    (kk : ∀ (q : Nat) (r : Nat → Nat) (cA : ClassId) (H1 : Heap), (∀ i j : Nat, i < N' → j < N' → r i = r j → i = j) → (∀ i : Nat, i < N' → r i ∉ L) → va_K D cl (tys ++ [(cA, .array ty)]) s →
      va_P D cl ((X ++ [(q, .inl (cA, N', .inr (.inr (.inr (.inr (fun i => if i < N' then some (r i) else none))))))]) ++ va_pl (L ++ (List.range N').map r) (vr_up f ((List.range N').map r) (.inl (cy, z)))) H1 → va_D A ((X ++ [(q, .inl (cA, N', .inr (.inr (.inr (.inr (fun i => if i < N' then some (r i) else none))))))]) ++ va_pl (L ++ (List.range N').map r) (vr_up f ((List.range N').map r) (.inl (cy, z)))) → va_S A H0 H1 locs →
      W p l e R s m args below meth c H1 locs (cells + 1 + N') (slots + N' + N' * K') Q (F0 m (pc + 4) ls (.ref q :: rest))) : W p l e R s m args below meth c H locs cells slots Q (F0 m pc ls (.int k :: .int n :: rest)) := by
  subst hN
  subst hM
  intro T hT Xs
  obtain ⟨vm₁, cA, comp, -, fA, fC, hO, -, X', step⟩ := Xs.multianewarray2F hexec hown hclink (va_AOA.use hover) harr (g := F0 m pc ls (.int k :: .int n :: rest)) rfl (by rw [hb]; exact hdg) rfl hn hk hb1 hb2 hb3 hdf hdd hcells hslots
  have ec : some cy = some comp := hcy.symm.trans fC
  cases ec
  generalize hF : Jvm.Free.Multi.fill (T.setVm vm₁) cA cy n.toNatClampNeg k.toNatClampNeg (defaultValue ty) n.toNatClampNeg = F at X' step
  have hTh : (T.setVm vm₁).heap = H := hT
  obtain ⟨f1, f2, -, -⟩ := Jvm.Free.Multi.fill_facts (T.setVm vm₁) cA cy n.toNatClampNeg k.toNatClampNeg (defaultValue ty) n.toNatClampNeg
  rw [hF, hTh] at f1 f2
  have hold : ∀ x : Nat, x < H.size → F.heap[x]? = H[x]? := fun x hx => by
    have := Jvm.Free.Multi.fill_old (T.setVm vm₁) cA cy n.toNatClampNeg k.toNatClampNeg (defaultValue ty) (a := x) (by rw [hTh]; exact hx) n.toNatClampNeg
    rw [hF, hTh] at this
    exact this
  have hrow : ∀ j : Nat, j < n.toNatClampNeg → F.heap[H.size + 1 + j]? = some (vp_cell cy z) := fun j hj => by
    have := Jvm.Free.Multi.fill_inner (T.setVm vm₁) cA cy n.toNatClampNeg k.toNatClampNeg (defaultValue ty) n.toNatClampNeg j hj
    rw [hF, hTh, hz] at this
    exact this
  have hout : Jvm.Free.Multi.outerC cA n.toNatClampNeg H.size n.toNatClampNeg = vp_cell cA (n.toNatClampNeg, .inr (.inr (.inr (.inr (fun i => if i < n.toNatClampNeg then some (H.size + 1 + i) else none))))) := by
    rw [vp_cell_q]
    exact vr_outer cA n.toNatClampNeg H.size n.toNatClampNeg
  rw [hout] at f2
  have hlt : ∀ a, a ∈ L → a < H.size := fun a ha => by
    obtain ⟨k9, hk9⟩ := va_pl_get (X := X) (f := f) ha
    exact (hP k9 _ hk9).lt
  have hnl : ∀ i : Nat, i < n.toNatClampNeg → H.size + 1 + i ∉ L := fun i _ h => by
    have := hlt _ h
    omega
  have hnm : ∀ a, a ∈ (List.range n.toNatClampNeg).map (fun i => H.size + 1 + i) → a ∉ L := fun a ha h => by
    obtain ⟨i, -, rfl⟩ := List.mem_map.mp ha
    have := hlt _ h
    omega
  have hP0 : va_P D cl (X ++ va_pl L f) F.heap := hP.kept (fun k9 x hx => hold x.1 ((hP k9 x hx).lt))
  have hP1 : va_P D cl ((X ++ va_pl L f) ++ [(H.size, .inl (cA, n.toNatClampNeg, .inr (.inr (.inr (.inr (fun i => if i < n.toNatClampNeg then some (H.size + 1 + i) else none))))))]) F.heap := hP0.app (fun k9 x hx => by
    have h0 : k9 < 1 := (List.getElem?_eq_some_iff.mp hx).1
    rw [show k9 = 0 by omega] at hx
    cases hx
    exact f2)
  have hP2 : va_P D cl (((X ++ va_pl L f) ++ [(H.size, .inl (cA, n.toNatClampNeg, .inr (.inr (.inr (.inr (fun i => if i < n.toNatClampNeg then some (H.size + 1 + i) else none))))))]) ++ ((List.range n.toNatClampNeg).map (fun i => H.size + 1 + i)).map (fun a => (a, .inl (cy, z)))) F.heap := hP1.app (fun k9 x hx => by
    obtain ⟨a, ha, rfl⟩ := List.mem_map.mp (List.mem_of_getElem? hx)
    obtain ⟨i, hi, rfl⟩ := List.mem_map.mp ha
    exact hrow i (List.mem_range.mp hi))
  have hD2 : va_D A (((X ++ va_pl L f) ++ [(H.size, .inl (cA, n.toNatClampNeg, .inr (.inr (.inr (.inr (fun i => if i < n.toNatClampNeg then some (H.size + 1 + i) else none))))))]) ++ ((List.range n.toNatClampNeg).map (fun i => H.size + 1 + i)).map (fun a => (a, .inl (cy, z)))) := by
    have hD1 := hD.push (e := .inl (cA, n.toNatClampNeg, .inr (.inr (.inr (.inr (fun i => if i < n.toNatClampNeg then some (H.size + 1 + i) else none)))))) hP rfl (hA _ hS.1)
    generalize hW1 : (X ++ va_pl L f) ++ [(H.size, .inl (cA, n.toNatClampNeg, .inr (.inr (.inr (.inr (fun i => if i < n.toNatClampNeg then some (H.size + 1 + i) else none))))))] = W1 at hD1 hP1 ⊢
    have hle : ∀ (k9 : Nat) (x : Nat × va_E), W1[k9]? = some x → x.1 ≤ H.size := fun k9 x hx => by
      rw [← hW1] at hx
      by_cases hl : k9 < (X ++ va_pl L f).length
      · rw [List.getElem?_append_left hl] at hx
        exact Nat.le_of_lt ((hP k9 x hx).lt)
      · rw [List.getElem?_append_right (by omega)] at hx
        have h0 : k9 - (X ++ va_pl L f).length < 1 := (List.getElem?_eq_some_iff.mp hx).1
        rw [show k9 - (X ++ va_pl L f).length = 0 by omega] at hx
        cases hx
        exact Nat.le_refl _
    have hr : ∀ (k9 : Nat) (x : Nat × va_E), (((List.range n.toNatClampNeg).map (fun i => H.size + 1 + i)).map (fun a => ((a, .inl (cy, z)) : Nat × va_E)))[k9]? = some x → x.1 = H.size + 1 + k9 := fun k9 x hx => by
      rw [List.getElem?_map, List.getElem?_map] at hx
      by_cases h9 : k9 < n.toNatClampNeg
      · rw [List.getElem?_range h9] at hx
        cases hx
        rfl
      · have hn0 : (List.range n.toNatClampNeg)[k9]? = none := List.getElem?_eq_none (by rw [List.length_range]; omega)
        rw [hn0] at hx
        cases hx
    refine ⟨fun i j x y hi hj hxy => ?_, fun k9 x hx => ?_⟩
    · by_cases h1 : i < W1.length <;> by_cases h2 : j < W1.length
      · rw [List.getElem?_append_left h1] at hi
        rw [List.getElem?_append_left h2] at hj
        exact hD1.1 i j x y hi hj hxy
      · rw [List.getElem?_append_left h1] at hi
        rw [List.getElem?_append_right (by omega)] at hj
        have := hle _ _ hi
        have := hr _ _ hj
        omega
      · rw [List.getElem?_append_right (by omega)] at hi
        rw [List.getElem?_append_left h2] at hj
        have := hle _ _ hj
        have := hr _ _ hi
        omega
      · rw [List.getElem?_append_right (by omega)] at hi hj
        have := hr _ _ hi
        have := hr _ _ hj
        omega
    · by_cases h1 : k9 < W1.length
      · rw [List.getElem?_append_left h1] at hx
        exact hD1.2 k9 x hx
      · rw [List.getElem?_append_right (by omega)] at hx
        have := hr _ _ hx
        exact hA _ (by have := hS.1; omega)
  have hAr : ArrOfT s cA (.array ty) := fun N9 z9 => by
    obtain ⟨-, k9, hk9, cm9, hkk9⟩ := (hO 0 0 0).1
    exact ⟨(fun q hq => by cases hq), k9, hk9, cm9, hkk9⟩
  have hK2 : va_K D cl (tys ++ [(cA, .array ty)]) s := ⟨hK.1, fun k9 x hx => by
    by_cases hl : k9 < tys.length
    · rw [List.getElem?_append_left hl] at hx
      exact hK.2 k9 x hx
    · rw [List.getElem?_append_right (by omega)] at hx
      have h0 : k9 - tys.length < 1 := (List.getElem?_eq_some_iff.mp hx).1
      rw [show k9 - tys.length = 0 by omega] at hx
      cases hx
      exact ⟨hAr, fA⟩⟩
  obtain ⟨t, a1, b1⟩ := kk H.size (fun i => H.size + 1 + i) cA F.heap (fun i j _ _ h => by have h9 : H.size + 1 + i = H.size + 1 + j := h; omega) hnl hK2 (by rw [← vr_rows hnm]; exact vr_lay hP2) (by rw [← vr_rows hnm]; exact vr_layD hD2) ⟨by rw [f1]; have := hS.1; omega, fun x h1 h2 => (hold x (Nat.lt_of_lt_of_le h1 hS.1)).trans (hS.2.1 x h1 h2), hS.2.2⟩ F rfl X'
  refine ⟨t, step t ?_, b1⟩
  have e : T.heap.size = H.size := by rw [hT]
  rw [e]
  exact a1
end VGM
/-! ===== END ===== -/

/-! ===== BEGIN printed: names, fields, word lists, decode rows ===== -/
def RX0 : String := "NewCoins$ChangeMaker"
def TX0 : u_T := fun k => match k with
  | 0 => ("NewCoins$ChangeMaker", "row", "[I", true)
  | 1 => ("NewCoins$ChangeMaker", "least", "[[I", true)
  | 2 => ("NewCoins$ChangeMaker", "places", "[I", true)
  | _ => ("NewCoins$ChangeMaker", "costs", "[I", true)
def tyX0 : Nat → FieldType := fun k => match k with
  | 0 => .array .int
  | 1 => .array (.array .int)
  | 2 => .array .int
  | _ => .array .int
abbrev wsX00 : List Cond := u_ws RX0 TX0 4
theorem nmX0 : ∀ a, a < 4 → ∀ b, b < 4 → a ≠ b → (TX0 a).2.1 ≠ (TX0 b).2.1 := by decide +kernel
theorem tyX0_ok : ∀ k, k < 4 → parseFieldDescriptor (TX0 k).2.2.1 = some (tyX0 k) := by decide +kernel
abbrev cX0_init : ByteArray := prog_2_method_1_code
def yX0_init : MethodName := ⟨RX0, "<init>", "()V"⟩
abbrev cX0_make : ByteArray := prog_2_method_2_code
def yX0_make : MethodName := ⟨RX0, "make", "(LNewCoins$Coinage;[II)Z"⟩
abbrev cX0_allow : ByteArray := prog_2_method_3_code
def yX0_allow : MethodName := ⟨RX0, "allow", "(IIII)V"⟩
abbrev cX0_slide : ByteArray := prog_2_method_4_code
def yX0_slide : MethodName := ⟨RX0, "slide", "([I[IIIII)V"⟩
abbrev cX0_writeRow : ByteArray := prog_2_method_5_code
def yX0_writeRow : MethodName := ⟨RX0, "writeRow", "(LNewCoins$Coinage;[II)V"⟩
abbrev cX0_leadsOn : ByteArray := prog_2_method_6_code
def yX0_leadsOn : MethodName := ⟨RX0, "leadsOn", "(IIII)Z"⟩
def RX1 : String := "NewCoins$Coinage"
def TX1 : u_T := fun k => match k with
  | 0 => ("NewCoins$Coinage", "count", "I", false)
  | 1 => ("NewCoins$Coinage", "values", "[I", true)
  | 2 => ("NewCoins$Coinage", "falling", "[I", true)
  | _ => ("NewCoins$Coinage", "least", "[I", true)
def tyX1 : Nat → FieldType := fun k => match k with
  | 0 => .int
  | 1 => .array .int
  | 2 => .array .int
  | _ => .array .int
abbrev wsX10 : List Cond := u_ws RX1 TX1 4
theorem nmX1 : ∀ a, a < 4 → ∀ b, b < 4 → a ≠ b → (TX1 a).2.1 ≠ (TX1 b).2.1 := by decide +kernel
theorem tyX1_ok : ∀ k, k < 4 → parseFieldDescriptor (TX1 k).2.2.1 = some (tyX1 k) := by decide +kernel
abbrev cX1_init : ByteArray := prog_3_method_1_code
def yX1_init : MethodName := ⟨RX1, "<init>", "()V"⟩
abbrev cX1_copyFrom : ByteArray := prog_3_method_2_code
def yX1_copyFrom : MethodName := ⟨RX1, "copyFrom", "(LNewCoins$Coinage;)V"⟩
abbrev cX1_isCoin : ByteArray := prog_3_method_3_code
def yX1_isCoin : MethodName := ⟨RX1, "isCoin", "(I)Z"⟩
abbrev cX1_add : ByteArray := prog_3_method_4_code
def yX1_add : MethodName := ⟨RX1, "add", "(I)I"⟩
abbrev cX1_isValue : ByteArray := prog_3_method_5_code
def yX1_isValue : MethodName := ⟨RX1, "isValue", "(I)Z"⟩
abbrev cX1_rank : ByteArray := prog_3_method_6_code
def yX1_rank : MethodName := ⟨RX1, "rank", "(I)V"⟩
abbrev cX1_improve : ByteArray := prog_3_method_7_code
def yX1_improve : MethodName := ⟨RX1, "improve", "(I)V"⟩
abbrev cX1_hasFewest : ByteArray := prog_3_method_8_code
def yX1_hasFewest : MethodName := ⟨RX1, "hasFewest", "(I)Z"⟩
abbrev cX1_writeFewest : ByteArray := prog_3_method_9_code
def yX1_writeFewest : MethodName := ⟨RX1, "writeFewest", "(I[I)V"⟩
abbrev cX1_countGreedily : ByteArray := prog_3_method_10_code
def yX1_countGreedily : MethodName := ⟨RX1, "countGreedily", "(I)I"⟩
abbrev cX1_leastOdd : ByteArray := prog_3_method_11_code
def yX1_leastOdd : MethodName := ⟨RX1, "leastOdd", "()I"⟩
abbrev cX1_detail : ByteArray := prog_3_method_12_code
def yX1_detail : MethodName := ⟨RX1, "detail", "(I)I"⟩
def RX2 : String := "NewCoins$Expected"
def TX2 : u_T := fun k => match k with
  | 0 => ("NewCoins$Expected", "count", "I", false)
  | 1 => ("NewCoins$Expected", "prices", "[I", true)
  | 2 => ("NewCoins$Expected", "systems", "[I", true)
  | 3 => ("NewCoins$Expected", "coins", "[I", true)
  | _ => ("NewCoins$Expected", "numbers", "[I", true)
def tyX2 : Nat → FieldType := fun k => match k with
  | 0 => .int
  | 1 => .array .int
  | 2 => .array .int
  | 3 => .array .int
  | _ => .array .int
abbrev wsX20 : List Cond := u_ws RX2 TX2 5
theorem nmX2 : ∀ a, a < 5 → ∀ b, b < 5 → a ≠ b → (TX2 a).2.1 ≠ (TX2 b).2.1 := by decide +kernel
theorem tyX2_ok : ∀ k, k < 5 → parseFieldDescriptor (TX2 k).2.2.1 = some (tyX2 k) := by decide +kernel
abbrev cX2_init : ByteArray := prog_4_method_1_code
def yX2_init : MethodName := ⟨RX2, "<init>", "()V"⟩
abbrev cX2_copyFrom : ByteArray := prog_4_method_2_code
def yX2_copyFrom : MethodName := ⟨RX2, "copyFrom", "(LNewCoins$Expected;)V"⟩
abbrev cX2_add : ByteArray := prog_4_method_3_code
def yX2_add : MethodName := ⟨RX2, "add", "(IIII)I"⟩
def RX3 : String := "NewCoins$Goods"
def TX3 : u_T := fun k => match k with
  | 0 => ("NewCoins$Goods", "count", "I", false)
  | 1 => ("NewCoins$Goods", "prices", "[I", true)
  | _ => ("NewCoins$Goods", "times", "[I", true)
def tyX3 : Nat → FieldType := fun k => match k with
  | 0 => .int
  | 1 => .array .int
  | _ => .array .int
abbrev wsX30 : List Cond := u_ws RX3 TX3 3
theorem nmX3 : ∀ a, a < 3 → ∀ b, b < 3 → a ≠ b → (TX3 a).2.1 ≠ (TX3 b).2.1 := by decide +kernel
theorem tyX3_ok : ∀ k, k < 3 → parseFieldDescriptor (TX3 k).2.2.1 = some (tyX3 k) := by decide +kernel
abbrev cX3_init : ByteArray := prog_5_method_1_code
def yX3_init : MethodName := ⟨RX3, "<init>", "()V"⟩
abbrev cX3_copyFrom : ByteArray := prog_5_method_2_code
def yX3_copyFrom : MethodName := ⟨RX3, "copyFrom", "(LNewCoins$Goods;)V"⟩
abbrev cX3_isGood : ByteArray := prog_5_method_3_code
def yX3_isGood : MethodName := ⟨RX3, "isGood", "(I)Z"⟩
abbrev cX3_add : ByteArray := prog_5_method_4_code
def yX3_add : MethodName := ⟨RX3, "add", "(II)I"⟩
def RX4 : String := "NewCoins$Land"
def TX4 : u_T := fun k => match k with
  | 0 => ("NewCoins$Land", "old", "LNewCoins$Coinage;", true)
  | 1 => ("NewCoins$Land", "fresh", "LNewCoins$Coinage;", true)
  | 2 => ("NewCoins$Land", "goods", "LNewCoins$Goods;", true)
  | 3 => ("NewCoins$Land", "tills", "[LNewCoins$Till;", true)
  | 4 => ("NewCoins$Land", "drawnIn", "[I", true)
  | 5 => ("NewCoins$Land", "tillCount", "I", false)
  | 6 => ("NewCoins$Land", "a", "I", false)
  | 7 => ("NewCoins$Land", "b", "I", false)
  | _ => ("NewCoins$Land", "step", "I", false)
def tyX4 : Nat → FieldType := fun k => match k with
  | 0 => .object "NewCoins$Coinage"
  | 1 => .object "NewCoins$Coinage"
  | 2 => .object "NewCoins$Goods"
  | 3 => .array (.object "NewCoins$Till")
  | 4 => .array .int
  | 5 => .int
  | 6 => .int
  | 7 => .int
  | _ => .int
abbrev wsX40 : List Cond := u_ws RX4 TX4 9
theorem nmX4 : ∀ a, a < 9 → ∀ b, b < 9 → a ≠ b → (TX4 a).2.1 ≠ (TX4 b).2.1 := by decide +kernel
theorem tyX4_ok : ∀ k, k < 9 → parseFieldDescriptor (TX4 k).2.2.1 = some (tyX4 k) := by decide +kernel
abbrev cX4_init : ByteArray := prog_6_method_1_code
def yX4_init : MethodName := ⟨RX4, "<init>", "()V"⟩
abbrev cX4_copyFrom : ByteArray := prog_6_method_2_code
def yX4_copyFrom : MethodName := ⟨RX4, "copyFrom", "(LNewCoins$Land;)V"⟩
abbrev cX4_coinageOf : ByteArray := prog_6_method_3_code
def yX4_coinageOf : MethodName := ⟨RX4, "coinageOf", "(I)LNewCoins$Coinage;"⟩
abbrev cX4_tillAt : ByteArray := prog_6_method_4_code
def yX4_tillAt : MethodName := ⟨RX4, "tillAt", "(I)LNewCoins$Till;"⟩
abbrev cX4_isCoin : ByteArray := prog_6_method_5_code
def yX4_isCoin : MethodName := ⟨RX4, "isCoin", "(II)Z"⟩
abbrev cX4_isSale : ByteArray := prog_6_method_6_code
def yX4_isSale : MethodName := ⟨RX4, "isSale", "(IIII)Z"⟩
abbrev cX4_hasSold : ByteArray := prog_6_method_7_code
def yX4_hasSold : MethodName := ⟨RX4, "hasSold", "()Z"⟩
abbrev cX4_unitParts : ByteArray := prog_6_method_8_code
def yX4_unitParts : MethodName := ⟨RX4, "unitParts", "(I)I"⟩
abbrev cX4_spareParts : ByteArray := prog_6_method_9_code
def yX4_spareParts : MethodName := ⟨RX4, "spareParts", "(IIII)I"⟩
abbrev cX4_partsOf : ByteArray := prog_6_method_10_code
def yX4_partsOf : MethodName := ⟨RX4, "partsOf", "(I[I)J"⟩
abbrev cX4_newPrice : ByteArray := prog_6_method_11_code
def yX4_newPrice : MethodName := ⟨RX4, "newPrice", "(II)I"⟩
abbrev cX4_roundsUp : ByteArray := prog_6_method_12_code
def yX4_roundsUp : MethodName := ⟨RX4, "roundsUp", "(IIII)Z"⟩
abbrev cX4_gainOf : ByteArray := prog_6_method_13_code
def yX4_gainOf : MethodName := ⟨RX4, "gainOf", "(II)J"⟩
abbrev cX4_detail : ByteArray := prog_6_method_14_code
def yX4_detail : MethodName := ⟨RX4, "detail", "(I)I"⟩
abbrev cX4_goodDetail : ByteArray := prog_6_method_15_code
def yX4_goodDetail : MethodName := ⟨RX4, "goodDetail", "(I)I"⟩
def RX5 : String := "NewCoins$Till"
def TX5 : u_T := fun k => match k with
  | 0 => ("NewCoins$Till", "old", "[I", true)
  | 1 => ("NewCoins$Till", "fresh", "[I", true)
  | 2 => ("NewCoins$Till", "latest", "[I", true)
  | 3 => ("NewCoins$Till", "expected", "LNewCoins$Expected;", true)
  | 4 => ("NewCoins$Till", "sales", "I", false)
  | 5 => ("NewCoins$Till", "scraps", "J", false)
  | _ => ("NewCoins$Till", "takings", "J", false)
def tyX5 : Nat → FieldType := fun k => match k with
  | 0 => .array .int
  | 1 => .array .int
  | 2 => .array .int
  | 3 => .object "NewCoins$Expected"
  | 4 => .int
  | 5 => .long
  | _ => .long
abbrev wsX50 : List Cond := u_ws RX5 TX5 7
theorem nmX5 : ∀ a, a < 7 → ∀ b, b < 7 → a ≠ b → (TX5 a).2.1 ≠ (TX5 b).2.1 := by decide +kernel
theorem tyX5_ok : ∀ k, k < 7 → parseFieldDescriptor (TX5 k).2.2.1 = some (tyX5 k) := by decide +kernel
abbrev cX5_init : ByteArray := prog_7_method_1_code
def yX5_init : MethodName := ⟨RX5, "<init>", "()V"⟩
abbrev cX5_copyFrom : ByteArray := prog_7_method_2_code
def yX5_copyFrom : MethodName := ⟨RX5, "copyFrom", "(LNewCoins$Till;)V"⟩
abbrev cX5_countsOf : ByteArray := prog_7_method_3_code
def yX5_countsOf : MethodName := ⟨RX5, "countsOf", "(I)[I"⟩
abbrev cX5_close : ByteArray := prog_7_method_4_code
def yX5_close : MethodName := ⟨RX5, "close", "(II[I)V"⟩
def RX6 : String := "NewCoins"
def TX6 : u_T := fun k => match k with
  | 0 => ("NewCoins", "now", "LNewCoins$Land;", true)
  | 1 => ("NewCoins", "images", "[LNewCoins$Land;", true)
  | 2 => ("NewCoins", "taken", "[Z", true)
  | 3 => ("NewCoins", "maker", "LNewCoins$ChangeMaker;", true)
  | 4 => ("NewCoins", "fewestRow", "[I", true)
  | _ => ("NewCoins", "turns", "[J", true)
def tyX6 : Nat → FieldType := fun k => match k with
  | 0 => .object "NewCoins$Land"
  | 1 => .array (.object "NewCoins$Land")
  | 2 => .array .boolean
  | 3 => .object "NewCoins$ChangeMaker"
  | 4 => .array .int
  | _ => .array .long
abbrev wsX60 : List Cond := u_ws RX6 TX6 6
theorem nmX6 : ∀ a, a < 6 → ∀ b, b < 6 → a ≠ b → (TX6 a).2.1 ≠ (TX6 b).2.1 := by decide +kernel
theorem tyX6_ok : ∀ k, k < 6 → parseFieldDescriptor (TX6 k).2.2.1 = some (tyX6 k) := by decide +kernel
abbrev cX6_init : ByteArray := prog_1_method_1_code
def yX6_init : MethodName := ⟨RX6, "<init>", "()V"⟩
abbrev cX6_coin : ByteArray := prog_1_method_2_code
def yX6_coin : MethodName := ⟨RX6, "coin", "(II)I"⟩
abbrev cX6_rate : ByteArray := prog_1_method_3_code
def yX6_rate : MethodName := ⟨RX6, "rate", "(II)Z"⟩
abbrev cX6_good : ByteArray := prog_1_method_4_code
def yX6_good : MethodName := ⟨RX6, "good", "(II)I"⟩
abbrev cX6_sold : ByteArray := prog_1_method_5_code
def yX6_sold : MethodName := ⟨RX6, "sold", "(II)Z"⟩
abbrev cX6_step : ByteArray := prog_1_method_6_code
def yX6_step : MethodName := ⟨RX6, "step", "(I)Z"⟩
abbrev cX6_price : ByteArray := prog_1_method_7_code
def yX6_price : MethodName := ⟨RX6, "price", "(II)I"⟩
abbrev cX6_gain : ByteArray := prog_1_method_8_code
def yX6_gain : MethodName := ⟨RX6, "gain", "(I)J"⟩
abbrev cX6_fairest : ByteArray := prog_1_method_9_code
def yX6_fairest : MethodName := ⟨RX6, "fairest", "()I"⟩
abbrev cX6_gains : ByteArray := prog_1_method_10_code
def yX6_gains : MethodName := ⟨RX6, "gains", "(I)J"⟩
abbrev cX6_fewest : ByteArray := prog_1_method_11_code
def yX6_fewest : MethodName := ⟨RX6, "fewest", "(III)I"⟩
abbrev cX6_greedy : ByteArray := prog_1_method_12_code
def yX6_greedy : MethodName := ⟨RX6, "greedy", "(II)I"⟩
abbrev cX6_odd : ByteArray := prog_1_method_13_code
def yX6_odd : MethodName := ⟨RX6, "odd", "(I)I"⟩
abbrev cX6_till : ByteArray := prog_1_method_14_code
def yX6_till : MethodName := ⟨RX6, "till", "()I"⟩
abbrev cX6_put : ByteArray := prog_1_method_15_code
def yX6_put : MethodName := ⟨RX6, "put", "(IIII)I"⟩
abbrev cX6_sale : ByteArray := prog_1_method_16_code
def yX6_sale : MethodName := ⟨RX6, "sale", "(IIIII)I"⟩
abbrev cX6_given : ByteArray := prog_1_method_17_code
def yX6_given : MethodName := ⟨RX6, "given", "(II)I"⟩
abbrev cX6_tell : ByteArray := prog_1_method_18_code
def yX6_tell : MethodName := ⟨RX6, "tell", "(II)J"⟩
abbrev cX6_has : ByteArray := prog_1_method_19_code
def yX6_has : MethodName := ⟨RX6, "has", "(III)I"⟩
abbrev cX6_draw : ByteArray := prog_1_method_20_code
def yX6_draw : MethodName := ⟨RX6, "draw", "(I)J"⟩
abbrev cX6_drawn : ByteArray := prog_1_method_21_code
def yX6_drawn : MethodName := ⟨RX6, "drawn", "(I)I"⟩
abbrev cX6_expect : ByteArray := prog_1_method_22_code
def yX6_expect : MethodName := ⟨RX6, "expect", "(IIIII)I"⟩
abbrev cX6_forget : ByteArray := prog_1_method_23_code
def yX6_forget : MethodName := ⟨RX6, "forget", "(I)Z"⟩
abbrev cX6_wanted : ByteArray := prog_1_method_24_code
def yX6_wanted : MethodName := ⟨RX6, "wanted", "(II)I"⟩
abbrev cX6_about : ByteArray := prog_1_method_25_code
def yX6_about : MethodName := ⟨RX6, "about", "(II)I"⟩
abbrev cX6_image : ByteArray := prog_1_method_26_code
def yX6_image : MethodName := ⟨RX6, "image", "(I)Z"⟩
abbrev cX6_again : ByteArray := prog_1_method_27_code
def yX6_again : MethodName := ⟨RX6, "again", "(I)Z"⟩
abbrev cX6_within : ByteArray := prog_1_method_28_code
def yX6_within : MethodName := ⟨RX6, "within", "(III)Z"⟩
abbrev cX6_isRule : ByteArray := prog_1_method_29_code
def yX6_isRule : MethodName := ⟨RX6, "isRule", "(I)Z"⟩
abbrev cX6_isSum : ByteArray := prog_1_method_30_code
def yX6_isSum : MethodName := ⟨RX6, "isSum", "(I)Z"⟩
abbrev cX6_wholeTimes : ByteArray := prog_1_method_31_code
def yX6_wholeTimes : MethodName := ⟨RX6, "wholeTimes", "(II)I"⟩
abbrev cX6_startOfWays : ByteArray := prog_1_method_32_code
def yX6_startOfWays : MethodName := ⟨RX6, "startOfWays", "()J"⟩
abbrev cX6_mostLacking : ByteArray := prog_1_method_33_code
def yX6_mostLacking : MethodName := ⟨RX6, "mostLacking", "(LNewCoins$Expected;I)I"⟩
def RX7 : String := "NewCoinsModel"
def TX7 : u_T := fun k => match k with
  | 0 => ("NewCoinsModel", "code", "I", false)
  | 1 => ("NewCoinsModel", "coins", "[I", true)
  | 2 => ("NewCoinsModel", "value", "[I", true)
  | 3 => ("NewCoinsModel", "rates", "[I", true)
  | 4 => ("NewCoinsModel", "sales", "[I", true)
  | 5 => ("NewCoinsModel", "goods", "[I", true)
  | 6 => ("NewCoinsModel", "prices", "[I", true)
  | 7 => ("NewCoinsModel", "times", "[I", true)
  | 8 => ("NewCoinsModel", "steps", "[I", true)
  | 9 => ("NewCoinsModel", "tills", "[I", true)
  | 10 => ("NewCoinsModel", "tillSales", "[I", true)
  | 11 => ("NewCoinsModel", "scraps", "[J", true)
  | 12 => ("NewCoinsModel", "paid", "[J", true)
  | 13 => ("NewCoinsModel", "expected", "[I", true)
  | 14 => ("NewCoinsModel", "has", "[I", true)
  | 15 => ("NewCoinsModel", "gave", "[I", true)
  | 16 => ("NewCoinsModel", "drawnIn", "[I", true)
  | 17 => ("NewCoinsModel", "expects", "[I", true)
  | 18 => ("NewCoinsModel", "one", "[J", true)
  | 19 => ("NewCoinsModel", "by", "[I", true)
  | 20 => ("NewCoinsModel", "few", "[I", true)
  | 21 => ("NewCoinsModel", "take", "[I", true)
  | 22 => ("NewCoinsModel", "bound", "[I", true)
  | 23 => ("NewCoinsModel", "least", "[I", true)
  | 24 => ("NewCoinsModel", "pool", "[I", true)
  | 25 => ("NewCoinsModel", "want", "[I", true)
  | _ => ("NewCoinsModel", "kept", "[Z", true)
def tyX7 : Nat → FieldType := fun k => match k with
  | 0 => .int
  | 1 => .array .int
  | 2 => .array .int
  | 3 => .array .int
  | 4 => .array .int
  | 5 => .array .int
  | 6 => .array .int
  | 7 => .array .int
  | 8 => .array .int
  | 9 => .array .int
  | 10 => .array .int
  | 11 => .array .long
  | 12 => .array .long
  | 13 => .array .int
  | 14 => .array .int
  | 15 => .array .int
  | 16 => .array .int
  | 17 => .array .int
  | 18 => .array .long
  | 19 => .array .int
  | 20 => .array .int
  | 21 => .array .int
  | 22 => .array .int
  | 23 => .array .int
  | 24 => .array .int
  | 25 => .array .int
  | _ => .array .boolean
abbrev wsX70 : List Cond := u_ws RX7 TX7 27
theorem nmX7 : ∀ a, a < 27 → ∀ b, b < 27 → a ≠ b → (TX7 a).2.1 ≠ (TX7 b).2.1 := by decide +kernel
theorem tyX7_ok : ∀ k, k < 27 → parseFieldDescriptor (TX7 k).2.2.1 = some (tyX7 k) := by decide +kernel
abbrev cX7_init : ByteArray := prog_9_method_1_code
def yX7_init : MethodName := ⟨RX7, "<init>", "()V"⟩
abbrev cX7_in : ByteArray := prog_9_method_3_code
def yX7_in : MethodName := ⟨RX7, "in", "(III)Z"⟩
abbrev cX7_move : ByteArray := prog_9_method_4_code
def yX7_move : MethodName := ⟨RX7, "move", "([IIII)V"⟩
abbrev cX7_copy : ByteArray := prog_9_method_5_code
def yX7_copy : MethodName := ⟨RX7, "copy", "(II)V"⟩
abbrev cX7_isCoin : ByteArray := prog_9_method_6_code
def yX7_isCoin : MethodName := ⟨RX7, "isCoin", "(II)Z"⟩
abbrev cX7_coin : ByteArray := prog_9_method_7_code
def yX7_coin : MethodName := ⟨RX7, "coin", "(II)I"⟩
abbrev cX7_rate : ByteArray := prog_9_method_8_code
def yX7_rate : MethodName := ⟨RX7, "rate", "(II)Z"⟩
abbrev cX7_isGood : ByteArray := prog_9_method_9_code
def yX7_isGood : MethodName := ⟨RX7, "isGood", "(I)Z"⟩
abbrev cX7_good : ByteArray := prog_9_method_10_code
def yX7_good : MethodName := ⟨RX7, "good", "(II)I"⟩
abbrev cX7_sold : ByteArray := prog_9_method_11_code
def yX7_sold : MethodName := ⟨RX7, "sold", "(II)Z"⟩
abbrev cX7_step : ByteArray := prog_9_method_12_code
def yX7_step : MethodName := ⟨RX7, "step", "(I)Z"⟩
abbrev cX7_priceOf : ByteArray := prog_9_method_13_code
def yX7_priceOf : MethodName := ⟨RX7, "priceOf", "(II)I"⟩
abbrev cX7_price : ByteArray := prog_9_method_14_code
def yX7_price : MethodName := ⟨RX7, "price", "(II)I"⟩
abbrev cX7_gainOf : ByteArray := prog_9_method_15_code
def yX7_gainOf : MethodName := ⟨RX7, "gainOf", "(II)J"⟩
abbrev cX7_gain : ByteArray := prog_9_method_16_code
def yX7_gain : MethodName := ⟨RX7, "gain", "(I)J"⟩
abbrev cX7_fairest : ByteArray := prog_9_method_17_code
def yX7_fairest : MethodName := ⟨RX7, "fairest", "()I"⟩
abbrev cX7_gains : ByteArray := prog_9_method_18_code
def yX7_gains : MethodName := ⟨RX7, "gains", "(I)J"⟩
abbrev cX7_sortCoins : ByteArray := prog_9_method_19_code
def yX7_sortCoins : MethodName := ⟨RX7, "sortCoins", "(I)V"⟩
abbrev cX7_find : ByteArray := prog_9_method_20_code
def yX7_find : MethodName := ⟨RX7, "find", "(II)I"⟩
abbrev cX7_noBounds : ByteArray := prog_9_method_21_code
def yX7_noBounds : MethodName := ⟨RX7, "noBounds", "()V"⟩
abbrev cX7_fewest : ByteArray := prog_9_method_22_code
def yX7_fewest : MethodName := ⟨RX7, "fewest", "(III)I"⟩
abbrev cX7_greedyOf : ByteArray := prog_9_method_23_code
def yX7_greedyOf : MethodName := ⟨RX7, "greedyOf", "(II)I"⟩
abbrev cX7_greedy : ByteArray := prog_9_method_24_code
def yX7_greedy : MethodName := ⟨RX7, "greedy", "(II)I"⟩
abbrev cX7_odd : ByteArray := prog_9_method_25_code
def yX7_odd : MethodName := ⟨RX7, "odd", "(I)I"⟩
abbrev cX7_isTill : ByteArray := prog_9_method_26_code
def yX7_isTill : MethodName := ⟨RX7, "isTill", "(I)Z"⟩
abbrev cX7_cell : ByteArray := prog_9_method_27_code
def yX7_cell : MethodName := ⟨RX7, "cell", "(III)I"⟩
abbrev cX7_till : ByteArray := prog_9_method_28_code
def yX7_till : MethodName := ⟨RX7, "till", "()I"⟩
abbrev cX7_put : ByteArray := prog_9_method_29_code
def yX7_put : MethodName := ⟨RX7, "put", "(IIII)I"⟩
abbrev cX7_over : ByteArray := prog_9_method_30_code
def yX7_over : MethodName := ⟨RX7, "over", "(IIII)I"⟩
abbrev cX7_isSale : ByteArray := prog_9_method_31_code
def yX7_isSale : MethodName := ⟨RX7, "isSale", "(IIIII)Z"⟩
abbrev cX7_sale : ByteArray := prog_9_method_32_code
def yX7_sale : MethodName := ⟨RX7, "sale", "(IIIII)I"⟩
abbrev cX7_given : ByteArray := prog_9_method_33_code
def yX7_given : MethodName := ⟨RX7, "given", "(II)I"⟩
abbrev cX7_parts : ByteArray := prog_9_method_34_code
def yX7_parts : MethodName := ⟨RX7, "parts", "(II)J"⟩
abbrev cX7_tell : ByteArray := prog_9_method_35_code
def yX7_tell : MethodName := ⟨RX7, "tell", "(II)J"⟩
abbrev cX7_has : ByteArray := prog_9_method_36_code
def yX7_has : MethodName := ⟨RX7, "has", "(III)I"⟩
abbrev cX7_draw : ByteArray := prog_9_method_37_code
def yX7_draw : MethodName := ⟨RX7, "draw", "(I)J"⟩
abbrev cX7_drawn : ByteArray := prog_9_method_38_code
def yX7_drawn : MethodName := ⟨RX7, "drawn", "(I)I"⟩
abbrev cX7_expect : ByteArray := prog_9_method_39_code
def yX7_expect : MethodName := ⟨RX7, "expect", "(IIIII)I"⟩
abbrev cX7_forget : ByteArray := prog_9_method_40_code
def yX7_forget : MethodName := ⟨RX7, "forget", "(I)Z"⟩
abbrev cX7_findWanted : ByteArray := prog_9_method_41_code
def yX7_findWanted : MethodName := ⟨RX7, "findWanted", "(I)Z"⟩
abbrev cX7_wanted : ByteArray := prog_9_method_42_code
def yX7_wanted : MethodName := ⟨RX7, "wanted", "(II)I"⟩
abbrev cX7_about : ByteArray := prog_9_method_43_code
def yX7_about : MethodName := ⟨RX7, "about", "(II)I"⟩
abbrev cX7_image : ByteArray := prog_9_method_44_code
def yX7_image : MethodName := ⟨RX7, "image", "(I)Z"⟩
abbrev cX7_again : ByteArray := prog_9_method_45_code
def yX7_again : MethodName := ⟨RX7, "again", "(I)Z"⟩
def RJ6 : String := "java/lang/Integer"
def TJ6 : u_T := fun k => match k with
  | _ => ("", "", "", false)
def tyJ6 : Nat → FieldType := fun k => match k with
  | _ => .int
abbrev wsJ60 : List Cond := u_ws RJ6 TJ6 0
theorem nmJ6 : ∀ a, a < 0 → ∀ b, b < 0 → a ≠ b → (TJ6 a).2.1 ≠ (TJ6 b).2.1 := by decide +kernel
theorem tyJ6_ok : ∀ k, k < 0 → parseFieldDescriptor (TJ6 k).2.2.1 = some (tyJ6 k) := by decide +kernel
abbrev cJ6_bitCount_0f7a4 : ByteArray := prog_10_method_49_code
def yJ6_bitCount_0f7a4 : MethodName := ⟨RJ6, "bitCount", "(I)I"⟩
def RJ9 : String := "java/lang/Math"
def TJ9 : u_T := fun k => match k with
  | _ => ("", "", "", false)
def tyJ9 : Nat → FieldType := fun k => match k with
  | _ => .int
abbrev wsJ90 : List Cond := u_ws RJ9 TJ9 0
theorem nmJ9 : ∀ a, a < 0 → ∀ b, b < 0 → a ≠ b → (TJ9 a).2.1 ≠ (TJ9 b).2.1 := by decide +kernel
theorem tyJ9_ok : ∀ k, k < 0 → parseFieldDescriptor (TJ9 k).2.2.1 = some (tyJ9 k) := by decide +kernel
abbrev cJ9_abs_067f4 : ByteArray := prog_11_method_61_code
def yJ9_abs_067f4 : MethodName := ⟨RJ9, "abs", "(J)J"⟩
abbrev cJ9_max_7cf53 : ByteArray := prog_11_method_65_code
def yJ9_max_7cf53 : MethodName := ⟨RJ9, "max", "(II)I"⟩
abbrev cJ9_min_7cf53 : ByteArray := prog_11_method_69_code
def yJ9_min_7cf53 : MethodName := ⟨RJ9, "min", "(II)I"⟩
def RJ10 : String := "java/lang/System"
def TJ10 : u_T := fun k => match k with
  | _ => ("", "", "", false)
def tyJ10 : Nat → FieldType := fun k => match k with
  | _ => .int
abbrev wsJ100 : List Cond := u_ws RJ10 TJ10 0
theorem nmJ10 : ∀ a, a < 0 → ∀ b, b < 0 → a ≠ b → (TJ10 a).2.1 ≠ (TJ10 b).2.1 := by decide +kernel
theorem tyJ10_ok : ∀ k, k < 0 → parseFieldDescriptor (TJ10 k).2.2.1 = some (tyJ10 k) := by decide +kernel
def RJ7 : String := "java/util/Arrays"
def TJ7 : u_T := fun k => match k with
  | _ => ("", "", "", false)
def tyJ7 : Nat → FieldType := fun k => match k with
  | _ => .int
abbrev wsJ70 : List Cond := u_ws RJ7 TJ7 0
theorem nmJ7 : ∀ a, a < 0 → ∀ b, b < 0 → a ≠ b → (TJ7 a).2.1 ≠ (TJ7 b).2.1 := by decide +kernel
theorem tyJ7_ok : ∀ k, k < 0 → parseFieldDescriptor (TJ7 k).2.2.1 = some (tyJ7 k) := by decide +kernel
abbrev cJ7_fill_53178 : ByteArray := prog_13_method_103_code
def yJ7_fill_53178 : MethodName := ⟨RJ7, "fill", "([II)V"⟩
def RL : String := "NewCoinsLaw"
abbrev cL_law : ByteArray := code
def yL_law : MethodName := ⟨RL, "law", "([I)Z"⟩
def wsX0_init : List Cond := .code yX0_init cX0_init 1 none :: ([.methodLink RX0 3 objectInit, .instanceMethod objectInit, .code objectInit ⟨#[0xb1]⟩ 1 none, .arrayClass .int, .fieldLink RX0 9 "NewCoins$ChangeMaker" "row" "[I", .classLink RX0 15 "[[I", .fieldLink RX0 17 "NewCoins$ChangeMaker" "least" "[[I", .fieldLink RX0 20 "NewCoins$ChangeMaker" "places" "[I", .fieldLink RX0 23 "NewCoins$ChangeMaker" "costs" "[I"] ++ wsX00)
def wsX6_within : List Cond := .code yX6_within cX6_within 3 (some .boolean) :: ([])
def wsX6_isSum : List Cond := .code yX6_isSum cX6_isSum 1 (some .boolean) :: ([.methodLink RX6 49 yX6_within, .static yX6_within, .initialized RX6, .code yX6_within cX6_within 3 (some .boolean)])
def wsJ7_fill_53178 : List Cond := .code yJ7_fill_53178 cJ7_fill_53178 4 none :: ([])
def wsX0_slide : List Cond := .code yX0_slide cX0_slide 12 none :: ([.fieldLink RX0 23 "NewCoins$ChangeMaker" "costs" "[I", .fieldLink RX0 20 "NewCoins$ChangeMaker" "places" "[I"] ++ wsX00)
def wsX0_allow : List Cond := .code yX0_allow cX0_allow 6 none :: ([.fieldLink RX0 17 "NewCoins$ChangeMaker" "least" "[[I", .methodLink RX0 56 yX0_slide, .instanceMethod yX0_slide, .selects RX0 yX0_slide yX0_slide, .initialized RX0, .code yX0_slide cX0_slide 12 none, .fieldLink RX0 23 "NewCoins$ChangeMaker" "costs" "[I", .fieldLink RX0 20 "NewCoins$ChangeMaker" "places" "[I"] ++ wsX00)
def wsX6_wholeTimes : List Cond := .code yX6_wholeTimes cX6_wholeTimes 2 (some .int) :: ([])
def wsX0_leadsOn : List Cond := .code yX0_leadsOn cX0_leadsOn 5 (some .boolean) :: ([.fieldLink RX0 17 "NewCoins$ChangeMaker" "least" "[[I"] ++ wsX00)
def wsX0_writeRow : List Cond := .code yX0_writeRow cX0_writeRow 9 none :: ([.fieldLink RX0 9 "NewCoins$ChangeMaker" "row" "[I", .fieldLink RX0 36 "NewCoins$Coinage" "count" "I", .fieldLink RX0 42 "NewCoins$Coinage" "falling" "[I", .fieldLink RX0 45 "NewCoins$Coinage" "values" "[I", .methodLink RX0 64 Lib.Math.min.name, .static Lib.Math.min.name, .initialized "java/lang/Math", .code Lib.Math.min.name Lib.Math.min.code 2 (some .int), .methodLink RX0 30 yJ7_fill_53178, .static yJ7_fill_53178, .initialized RJ7, .code yJ7_fill_53178 cJ7_fill_53178 4 none, .static yX6_wholeTimes, .initialized RX6, .code yX6_wholeTimes cX6_wholeTimes 2 (some .int), .methodLink RX0 69 yX0_leadsOn, .instanceMethod yX0_leadsOn, .selects RX0 yX0_leadsOn yX0_leadsOn, .initialized RX0, .code yX0_leadsOn cX0_leadsOn 5 (some .boolean), .fieldLink RX0 17 "NewCoins$ChangeMaker" "least" "[[I"] ++ wsX00 ++ wsX10)
def wsX0_make_r1 : List Cond := [Cond.fieldLink RX0 17 "NewCoins$ChangeMaker" "least" "[[I", Cond.fieldLink RX0 36 "NewCoins$Coinage" "count" "I", Cond.fieldLink RX0 42 "NewCoins$Coinage" "falling" "[I", Cond.fieldLink RX0 45 "NewCoins$Coinage" "values" "[I", Cond.static yX6_isSum, Cond.initialized RX6, Cond.code yX6_isSum cX6_isSum 1 (some .boolean), Cond.methodLink RX6 49 yX6_within, Cond.static yX6_within, Cond.code yX6_within cX6_within 3 (some .boolean), Cond.methodLink RX0 30 yJ7_fill_53178, Cond.static yJ7_fill_53178, Cond.initialized RJ7, Cond.code yJ7_fill_53178 cJ7_fill_53178 4 none, Cond.methodLink RX0 48 yX0_allow, Cond.instanceMethod yX0_allow, Cond.selects RX0 yX0_allow yX0_allow, Cond.initialized RX0, Cond.code yX0_allow cX0_allow 6 none, Cond.methodLink RX0 56 yX0_slide, Cond.instanceMethod yX0_slide, Cond.selects RX0 yX0_slide yX0_slide, Cond.code yX0_slide cX0_slide 12 none, Cond.fieldLink RX0 23 "NewCoins$ChangeMaker" "costs" "[I"]
def wsX0_make_r2 : List Cond := [Cond.fieldLink RX0 20 "NewCoins$ChangeMaker" "places" "[I", Cond.methodLink RX0 52 yX0_writeRow, Cond.instanceMethod yX0_writeRow, Cond.selects RX0 yX0_writeRow yX0_writeRow, Cond.code yX0_writeRow cX0_writeRow 9 none, Cond.fieldLink RX0 9 "NewCoins$ChangeMaker" "row" "[I", Cond.methodLink RX0 64 Lib.Math.min.name, Cond.static Lib.Math.min.name, Cond.initialized "java/lang/Math", Cond.code Lib.Math.min.name Lib.Math.min.code 2 (some .int), Cond.static yX6_wholeTimes, Cond.code yX6_wholeTimes cX6_wholeTimes 2 (some .int), Cond.methodLink RX0 69 yX0_leadsOn, Cond.instanceMethod yX0_leadsOn, Cond.selects RX0 yX0_leadsOn yX0_leadsOn, Cond.code yX0_leadsOn cX0_leadsOn 5 (some .boolean)]
def wsX0_make : List Cond := .code yX0_make cX0_make 7 (some .boolean) :: ((wsX0_make_r1 ++ wsX0_make_r2) ++ wsX00 ++ wsX10)
def wsX1_init : List Cond := .code yX1_init cX1_init 1 none :: ([.methodLink RX1 3 objectInit, .instanceMethod objectInit, .code objectInit ⟨#[0xb1]⟩ 1 none, .fieldLink RX1 9 "NewCoins$Coinage" "count" "I", .arrayClass .int, .fieldLink RX1 15 "NewCoins$Coinage" "values" "[I", .fieldLink RX1 19 "NewCoins$Coinage" "falling" "[I", .fieldLink RX1 22 "NewCoins$Coinage" "least" "[I", .methodLink RX1 25 yJ7_fill_53178, .static yJ7_fill_53178, .initialized RJ7, .code yJ7_fill_53178 cJ7_fill_53178 4 none] ++ wsX10)
def wsX1_copyFrom : List Cond := .code yX1_copyFrom cX1_copyFrom 2 none :: ([.fieldLink RX1 9 "NewCoins$Coinage" "count" "I", .fieldLink RX1 15 "NewCoins$Coinage" "values" "[I", .methodLink RX1 31 arraycopyName, .native arraycopyName, .static arraycopyName, .initialized "java/lang/System", .fieldLink RX1 19 "NewCoins$Coinage" "falling" "[I", .fieldLink RX1 22 "NewCoins$Coinage" "least" "[I"] ++ wsX10)
def wsX1_isCoin : List Cond := .code yX1_isCoin cX1_isCoin 2 (some .boolean) :: ([.fieldLink RX1 9 "NewCoins$Coinage" "count" "I", .static yX6_within, .initialized RX6, .code yX6_within cX6_within 3 (some .boolean)] ++ wsX10)
def wsX1_isValue : List Cond := .code yX1_isValue cX1_isValue 3 (some .boolean) :: ([.fieldLink RX1 9 "NewCoins$Coinage" "count" "I", .fieldLink RX1 15 "NewCoins$Coinage" "values" "[I"] ++ wsX10)
def wsX1_rank : List Cond := .code yX1_rank cX1_rank 3 none :: ([.fieldLink RX1 15 "NewCoins$Coinage" "values" "[I", .fieldLink RX1 19 "NewCoins$Coinage" "falling" "[I"] ++ wsX10)
def wsX1_improve : List Cond := .code yX1_improve cX1_improve 4 none :: ([.fieldLink RX1 22 "NewCoins$Coinage" "least" "[I"] ++ wsX10)
def wsX1_add : List Cond := .code yX1_add cX1_add 2 (some .int) :: ([.fieldLink RX1 9 "NewCoins$Coinage" "count" "I", .fieldLink RX1 15 "NewCoins$Coinage" "values" "[I", .static yX6_within, .initialized RX6, .code yX6_within cX6_within 3 (some .boolean), .methodLink RX1 41 yX1_isValue, .instanceMethod yX1_isValue, .selects RX1 yX1_isValue yX1_isValue, .initialized RX1, .code yX1_isValue cX1_isValue 3 (some .boolean), .methodLink RX1 45 yX1_rank, .instanceMethod yX1_rank, .selects RX1 yX1_rank yX1_rank, .code yX1_rank cX1_rank 3 none, .fieldLink RX1 19 "NewCoins$Coinage" "falling" "[I", .methodLink RX1 49 yX1_improve, .instanceMethod yX1_improve, .selects RX1 yX1_improve yX1_improve, .code yX1_improve cX1_improve 4 none, .fieldLink RX1 22 "NewCoins$Coinage" "least" "[I"] ++ wsX10)
def wsX1_hasFewest : List Cond := .code yX1_hasFewest cX1_hasFewest 2 (some .boolean) :: ([.fieldLink RX1 22 "NewCoins$Coinage" "least" "[I", .static yX6_isSum, .initialized RX6, .code yX6_isSum cX6_isSum 1 (some .boolean), .methodLink RX6 49 yX6_within, .static yX6_within, .code yX6_within cX6_within 3 (some .boolean)] ++ wsX10)
def wsX1_writeFewest : List Cond := .code yX1_writeFewest cX1_writeFewest 8 none :: ([.fieldLink RX1 9 "NewCoins$Coinage" "count" "I", .fieldLink RX1 15 "NewCoins$Coinage" "values" "[I", .fieldLink RX1 19 "NewCoins$Coinage" "falling" "[I", .fieldLink RX1 22 "NewCoins$Coinage" "least" "[I", .static yX6_wholeTimes, .initialized RX6, .code yX6_wholeTimes cX6_wholeTimes 2 (some .int)] ++ wsX10)
def wsX1_countGreedily : List Cond := .code yX1_countGreedily cX1_countGreedily 7 (some .int) :: ([.fieldLink RX1 9 "NewCoins$Coinage" "count" "I", .fieldLink RX1 15 "NewCoins$Coinage" "values" "[I", .fieldLink RX1 19 "NewCoins$Coinage" "falling" "[I", .static yX6_wholeTimes, .initialized RX6, .code yX6_wholeTimes cX6_wholeTimes 2 (some .int)] ++ wsX10)
def wsX1_leastOdd : List Cond := .code yX1_leastOdd cX1_leastOdd 2 (some .int) :: ([.fieldLink RX1 22 "NewCoins$Coinage" "least" "[I", .methodLink RX1 59 yX1_countGreedily, .instanceMethod yX1_countGreedily, .selects RX1 yX1_countGreedily yX1_countGreedily, .initialized RX1, .code yX1_countGreedily cX1_countGreedily 7 (some .int), .fieldLink RX1 9 "NewCoins$Coinage" "count" "I", .fieldLink RX1 15 "NewCoins$Coinage" "values" "[I", .fieldLink RX1 19 "NewCoins$Coinage" "falling" "[I", .static yX6_wholeTimes, .initialized RX6, .code yX6_wholeTimes cX6_wholeTimes 2 (some .int)] ++ wsX10)
def wsX1_detail : List Cond := .code yX1_detail cX1_detail 2 (some .int) :: ([.fieldLink RX1 9 "NewCoins$Coinage" "count" "I", .fieldLink RX1 15 "NewCoins$Coinage" "values" "[I", .methodLink RX1 63 yX1_isCoin, .instanceMethod yX1_isCoin, .selects RX1 yX1_isCoin yX1_isCoin, .initialized RX1, .code yX1_isCoin cX1_isCoin 2 (some .boolean), .static yX6_within, .initialized RX6, .code yX6_within cX6_within 3 (some .boolean)] ++ wsX10)
def wsX2_init : List Cond := .code yX2_init cX2_init 1 none :: ([.methodLink RX2 3 objectInit, .instanceMethod objectInit, .code objectInit ⟨#[0xb1]⟩ 1 none, .fieldLink RX2 9 "NewCoins$Expected" "count" "I", .arrayClass .int, .fieldLink RX2 15 "NewCoins$Expected" "prices" "[I", .fieldLink RX2 19 "NewCoins$Expected" "systems" "[I", .fieldLink RX2 22 "NewCoins$Expected" "coins" "[I", .fieldLink RX2 25 "NewCoins$Expected" "numbers" "[I"] ++ wsX20)
def wsX2_copyFrom : List Cond := .code yX2_copyFrom cX2_copyFrom 2 none :: ([.fieldLink RX2 9 "NewCoins$Expected" "count" "I", .fieldLink RX2 15 "NewCoins$Expected" "prices" "[I", .methodLink RX2 28 arraycopyName, .native arraycopyName, .static arraycopyName, .initialized "java/lang/System", .fieldLink RX2 19 "NewCoins$Expected" "systems" "[I", .fieldLink RX2 22 "NewCoins$Expected" "coins" "[I", .fieldLink RX2 25 "NewCoins$Expected" "numbers" "[I"] ++ wsX20)
def wsX2_add : List Cond := .code yX2_add cX2_add 5 (some .int) :: ([.fieldLink RX2 9 "NewCoins$Expected" "count" "I", .fieldLink RX2 15 "NewCoins$Expected" "prices" "[I", .fieldLink RX2 19 "NewCoins$Expected" "systems" "[I", .fieldLink RX2 22 "NewCoins$Expected" "coins" "[I", .fieldLink RX2 25 "NewCoins$Expected" "numbers" "[I"] ++ wsX20)
def wsX3_init : List Cond := .code yX3_init cX3_init 1 none :: ([.methodLink RX3 3 objectInit, .instanceMethod objectInit, .code objectInit ⟨#[0xb1]⟩ 1 none, .fieldLink RX3 9 "NewCoins$Goods" "count" "I", .arrayClass .int, .fieldLink RX3 15 "NewCoins$Goods" "prices" "[I", .fieldLink RX3 19 "NewCoins$Goods" "times" "[I"] ++ wsX30)
def wsX3_copyFrom : List Cond := .code yX3_copyFrom cX3_copyFrom 2 none :: ([.fieldLink RX3 9 "NewCoins$Goods" "count" "I", .fieldLink RX3 15 "NewCoins$Goods" "prices" "[I", .methodLink RX3 22 arraycopyName, .native arraycopyName, .static arraycopyName, .initialized "java/lang/System", .fieldLink RX3 19 "NewCoins$Goods" "times" "[I"] ++ wsX30)
def wsX3_isGood : List Cond := .code yX3_isGood cX3_isGood 2 (some .boolean) :: ([.fieldLink RX3 9 "NewCoins$Goods" "count" "I", .static yX6_within, .initialized RX6, .code yX6_within cX6_within 3 (some .boolean)] ++ wsX30)
def wsX3_add : List Cond := .code yX3_add cX3_add 3 (some .int) :: ([.fieldLink RX3 9 "NewCoins$Goods" "count" "I", .fieldLink RX3 15 "NewCoins$Goods" "prices" "[I", .fieldLink RX3 19 "NewCoins$Goods" "times" "[I", .static yX6_within, .initialized RX6, .code yX6_within cX6_within 3 (some .boolean)] ++ wsX30)
def wsX5_init : List Cond := .code yX5_init cX5_init 1 none :: ([.methodLink RX5 3 objectInit, .instanceMethod objectInit, .code objectInit ⟨#[0xb1]⟩ 1 none, .arrayClass .int, .fieldLink RX5 9 "NewCoins$Till" "old" "[I", .fieldLink RX5 15 "NewCoins$Till" "fresh" "[I", .fieldLink RX5 18 "NewCoins$Till" "latest" "[I", .classLink RX5 21 RX2, .instantiable RX2 5, .initialized RX2, .fieldLink RX5 24 "NewCoins$Till" "expected" "LNewCoins$Expected;", .fieldLink RX5 28 "NewCoins$Till" "sales" "I", .fieldLink RX5 32 "NewCoins$Till" "scraps" "J", .fieldLink RX5 36 "NewCoins$Till" "takings" "J", .instanceMethod yX2_init, .code yX2_init cX2_init 1 none, .methodLink RX2 3 objectInit, .fieldLink RX2 9 "NewCoins$Expected" "count" "I", .fieldLink RX2 15 "NewCoins$Expected" "prices" "[I", .fieldLink RX2 19 "NewCoins$Expected" "systems" "[I", .fieldLink RX2 22 "NewCoins$Expected" "coins" "[I", .fieldLink RX2 25 "NewCoins$Expected" "numbers" "[I"] ++ wsX50 ++ wsX20)
def wsX4_init_r1 : List Cond := [Cond.methodLink RX4 3 objectInit, Cond.instanceMethod objectInit, Cond.code objectInit ⟨#[0xb1]⟩ 1 none, Cond.classLink RX4 9 RX1, Cond.instantiable RX1 4, Cond.initialized RX1, Cond.fieldLink RX4 12 "NewCoins$Land" "old" "LNewCoins$Coinage;", Cond.fieldLink RX4 18 "NewCoins$Land" "fresh" "LNewCoins$Coinage;", Cond.classLink RX4 21 RX3, Cond.instantiable RX3 3, Cond.initialized RX3, Cond.fieldLink RX4 24 "NewCoins$Land" "goods" "LNewCoins$Goods;", Cond.classLink RX4 28 RX5, Cond.fieldLink RX4 30 "NewCoins$Land" "tills" "[LNewCoins$Till;", Cond.arrayClass .int, Cond.fieldLink RX4 34 "NewCoins$Land" "drawnIn" "[I", Cond.fieldLink RX4 38 "NewCoins$Land" "tillCount" "I", Cond.fieldLink RX4 42 "NewCoins$Land" "a" "I", Cond.fieldLink RX4 45 "NewCoins$Land" "b" "I", Cond.fieldLink RX4 48 "NewCoins$Land" "step" "I", Cond.instantiable RX5 7, Cond.initialized RX5, Cond.methodLink RX4 11 yX1_init, Cond.instanceMethod yX1_init]
def wsX4_init_r2 : List Cond := [Cond.code yX1_init cX1_init 1 none, Cond.methodLink RX1 3 objectInit, Cond.fieldLink RX1 9 "NewCoins$Coinage" "count" "I", Cond.fieldLink RX1 15 "NewCoins$Coinage" "values" "[I", Cond.fieldLink RX1 19 "NewCoins$Coinage" "falling" "[I", Cond.fieldLink RX1 22 "NewCoins$Coinage" "least" "[I", Cond.methodLink RX1 25 yJ7_fill_53178, Cond.static yJ7_fill_53178, Cond.initialized RJ7, Cond.code yJ7_fill_53178 cJ7_fill_53178 4 none, Cond.instanceMethod yX3_init, Cond.code yX3_init cX3_init 1 none, Cond.methodLink RX3 3 objectInit, Cond.fieldLink RX3 9 "NewCoins$Goods" "count" "I", Cond.fieldLink RX3 15 "NewCoins$Goods" "prices" "[I", Cond.fieldLink RX3 19 "NewCoins$Goods" "times" "[I", Cond.instanceMethod yX5_init, Cond.code yX5_init cX5_init 1 none, Cond.methodLink RX5 3 objectInit, Cond.fieldLink RX5 9 "NewCoins$Till" "old" "[I", Cond.fieldLink RX5 15 "NewCoins$Till" "fresh" "[I", Cond.fieldLink RX5 18 "NewCoins$Till" "latest" "[I", Cond.classLink RX5 21 RX2, Cond.instantiable RX2 5]
def wsX4_init_r3 : List Cond := [Cond.initialized RX2, Cond.fieldLink RX5 24 "NewCoins$Till" "expected" "LNewCoins$Expected;", Cond.fieldLink RX5 28 "NewCoins$Till" "sales" "I", Cond.fieldLink RX5 32 "NewCoins$Till" "scraps" "J", Cond.fieldLink RX5 36 "NewCoins$Till" "takings" "J", Cond.instanceMethod yX2_init, Cond.code yX2_init cX2_init 1 none, Cond.methodLink RX2 3 objectInit, Cond.fieldLink RX2 9 "NewCoins$Expected" "count" "I", Cond.fieldLink RX2 15 "NewCoins$Expected" "prices" "[I", Cond.fieldLink RX2 19 "NewCoins$Expected" "systems" "[I", Cond.fieldLink RX2 22 "NewCoins$Expected" "coins" "[I", Cond.fieldLink RX2 25 "NewCoins$Expected" "numbers" "[I"]
def wsX4_init : List Cond := .code yX4_init cX4_init 2 none :: ((wsX4_init_r1 ++ (wsX4_init_r2 ++ wsX4_init_r3)) ++ wsX10 ++ wsX40 ++ wsX30 ++ wsX50 ++ wsX20)
def wsX5_copyFrom : List Cond := .code yX5_copyFrom cX5_copyFrom 2 none :: ([.fieldLink RX5 9 "NewCoins$Till" "old" "[I", .methodLink RX5 39 arraycopyName, .native arraycopyName, .static arraycopyName, .initialized "java/lang/System", .fieldLink RX5 15 "NewCoins$Till" "fresh" "[I", .fieldLink RX5 18 "NewCoins$Till" "latest" "[I", .fieldLink RX5 24 "NewCoins$Till" "expected" "LNewCoins$Expected;", .fieldLink RX5 28 "NewCoins$Till" "sales" "I", .fieldLink RX5 32 "NewCoins$Till" "scraps" "J", .fieldLink RX5 36 "NewCoins$Till" "takings" "J", .methodLink RX5 45 yX2_copyFrom, .instanceMethod yX2_copyFrom, .selects RX2 yX2_copyFrom yX2_copyFrom, .initialized RX2, .code yX2_copyFrom cX2_copyFrom 2 none, .fieldLink RX2 9 "NewCoins$Expected" "count" "I", .fieldLink RX2 15 "NewCoins$Expected" "prices" "[I", .methodLink RX2 28 arraycopyName, .fieldLink RX2 19 "NewCoins$Expected" "systems" "[I", .fieldLink RX2 22 "NewCoins$Expected" "coins" "[I", .fieldLink RX2 25 "NewCoins$Expected" "numbers" "[I"] ++ wsX50 ++ wsX20)
def wsX4_copyFrom_r1 : List Cond := [Cond.fieldLink RX4 12 "NewCoins$Land" "old" "LNewCoins$Coinage;", Cond.fieldLink RX4 18 "NewCoins$Land" "fresh" "LNewCoins$Coinage;", Cond.fieldLink RX4 24 "NewCoins$Land" "goods" "LNewCoins$Goods;", Cond.fieldLink RX4 30 "NewCoins$Land" "tills" "[LNewCoins$Till;", Cond.fieldLink RX4 34 "NewCoins$Land" "drawnIn" "[I", Cond.methodLink RX4 62 arraycopyName, Cond.native arraycopyName, Cond.static arraycopyName, Cond.initialized "java/lang/System", Cond.fieldLink RX4 38 "NewCoins$Land" "tillCount" "I", Cond.fieldLink RX4 42 "NewCoins$Land" "a" "I", Cond.fieldLink RX4 45 "NewCoins$Land" "b" "I", Cond.fieldLink RX4 48 "NewCoins$Land" "step" "I", Cond.methodLink RX4 52 yX1_copyFrom, Cond.instanceMethod yX1_copyFrom, Cond.selects RX1 yX1_copyFrom yX1_copyFrom, Cond.initialized RX1, Cond.code yX1_copyFrom cX1_copyFrom 2 none, Cond.fieldLink RX1 9 "NewCoins$Coinage" "count" "I", Cond.fieldLink RX1 15 "NewCoins$Coinage" "values" "[I", Cond.methodLink RX1 31 arraycopyName, Cond.fieldLink RX1 19 "NewCoins$Coinage" "falling" "[I", Cond.fieldLink RX1 22 "NewCoins$Coinage" "least" "[I", Cond.methodLink RX4 56 yX3_copyFrom]
def wsX4_copyFrom_r2 : List Cond := [Cond.instanceMethod yX3_copyFrom, Cond.selects RX3 yX3_copyFrom yX3_copyFrom, Cond.initialized RX3, Cond.code yX3_copyFrom cX3_copyFrom 2 none, Cond.fieldLink RX3 9 "NewCoins$Goods" "count" "I", Cond.fieldLink RX3 15 "NewCoins$Goods" "prices" "[I", Cond.methodLink RX3 22 arraycopyName, Cond.fieldLink RX3 19 "NewCoins$Goods" "times" "[I", Cond.methodLink RX4 59 yX5_copyFrom, Cond.instanceMethod yX5_copyFrom, Cond.selects RX5 yX5_copyFrom yX5_copyFrom, Cond.initialized RX5, Cond.code yX5_copyFrom cX5_copyFrom 2 none, Cond.fieldLink RX5 9 "NewCoins$Till" "old" "[I", Cond.methodLink RX5 39 arraycopyName, Cond.fieldLink RX5 15 "NewCoins$Till" "fresh" "[I", Cond.fieldLink RX5 18 "NewCoins$Till" "latest" "[I", Cond.fieldLink RX5 24 "NewCoins$Till" "expected" "LNewCoins$Expected;", Cond.fieldLink RX5 28 "NewCoins$Till" "sales" "I", Cond.fieldLink RX5 32 "NewCoins$Till" "scraps" "J", Cond.fieldLink RX5 36 "NewCoins$Till" "takings" "J", Cond.methodLink RX5 45 yX2_copyFrom, Cond.instanceMethod yX2_copyFrom, Cond.selects RX2 yX2_copyFrom yX2_copyFrom]
def wsX4_copyFrom_r3 : List Cond := [Cond.initialized RX2, Cond.code yX2_copyFrom cX2_copyFrom 2 none, Cond.fieldLink RX2 9 "NewCoins$Expected" "count" "I", Cond.fieldLink RX2 15 "NewCoins$Expected" "prices" "[I", Cond.methodLink RX2 28 arraycopyName, Cond.fieldLink RX2 19 "NewCoins$Expected" "systems" "[I", Cond.fieldLink RX2 22 "NewCoins$Expected" "coins" "[I", Cond.fieldLink RX2 25 "NewCoins$Expected" "numbers" "[I"]
def wsX4_copyFrom : List Cond := .code yX4_copyFrom cX4_copyFrom 3 none :: ((wsX4_copyFrom_r1 ++ (wsX4_copyFrom_r2 ++ wsX4_copyFrom_r3)) ++ wsX40 ++ wsX10 ++ wsX30 ++ wsX50 ++ wsX20)
def wsX4_coinageOf : List Cond := .code yX4_coinageOf cX4_coinageOf 2 (some (.object "NewCoins$Coinage")) :: ([.fieldLink RX4 12 "NewCoins$Land" "old" "LNewCoins$Coinage;", .fieldLink RX4 18 "NewCoins$Land" "fresh" "LNewCoins$Coinage;"] ++ wsX40)
def wsX4_tillAt : List Cond := .code yX4_tillAt cX4_tillAt 2 (some (.object "NewCoins$Till")) :: ([.fieldLink RX4 38 "NewCoins$Land" "tillCount" "I", .fieldLink RX4 30 "NewCoins$Land" "tills" "[LNewCoins$Till;", .static yX6_within, .initialized RX6, .code yX6_within cX6_within 3 (some .boolean)] ++ wsX40)
def wsX4_isCoin : List Cond := .code yX4_isCoin cX4_isCoin 4 (some .boolean) :: ([.methodLink RX4 72 yX4_coinageOf, .instanceMethod yX4_coinageOf, .selects RX4 yX4_coinageOf yX4_coinageOf, .initialized RX4, .code yX4_coinageOf cX4_coinageOf 2 (some (.object "NewCoins$Coinage")), .fieldLink RX4 12 "NewCoins$Land" "old" "LNewCoins$Coinage;", .fieldLink RX4 18 "NewCoins$Land" "fresh" "LNewCoins$Coinage;", .methodLink RX4 76 yX1_isCoin, .instanceMethod yX1_isCoin, .selects RX1 yX1_isCoin yX1_isCoin, .initialized RX1, .code yX1_isCoin cX1_isCoin 2 (some .boolean), .fieldLink RX1 9 "NewCoins$Coinage" "count" "I", .static yX6_within, .initialized RX6, .code yX6_within cX6_within 3 (some .boolean)] ++ wsX40 ++ wsX10)
def wsX4_isSale : List Cond := .code yX4_isSale cX4_isSale 5 (some .boolean) :: ([.static yX6_within, .initialized RX6, .code yX6_within cX6_within 3 (some .boolean), .methodLink RX4 80 yX4_isCoin, .instanceMethod yX4_isCoin, .selects RX4 yX4_isCoin yX4_isCoin, .initialized RX4, .code yX4_isCoin cX4_isCoin 4 (some .boolean), .methodLink RX4 72 yX4_coinageOf, .instanceMethod yX4_coinageOf, .selects RX4 yX4_coinageOf yX4_coinageOf, .code yX4_coinageOf cX4_coinageOf 2 (some (.object "NewCoins$Coinage")), .fieldLink RX4 12 "NewCoins$Land" "old" "LNewCoins$Coinage;", .fieldLink RX4 18 "NewCoins$Land" "fresh" "LNewCoins$Coinage;", .methodLink RX4 76 yX1_isCoin, .instanceMethod yX1_isCoin, .selects RX1 yX1_isCoin yX1_isCoin, .initialized RX1, .code yX1_isCoin cX1_isCoin 2 (some .boolean), .fieldLink RX1 9 "NewCoins$Coinage" "count" "I"] ++ wsX40 ++ wsX10)
def wsX4_hasSold : List Cond := .code yX4_hasSold cX4_hasSold 2 (some .boolean) :: ([.fieldLink RX4 38 "NewCoins$Land" "tillCount" "I", .fieldLink RX4 30 "NewCoins$Land" "tills" "[LNewCoins$Till;", .fieldLink RX4 83 "NewCoins$Till" "sales" "I"] ++ wsX40 ++ wsX50)
def wsX4_unitParts : List Cond := .code yX4_unitParts cX4_unitParts 2 (some .int) :: ([.fieldLink RX4 42 "NewCoins$Land" "a" "I", .fieldLink RX4 45 "NewCoins$Land" "b" "I"] ++ wsX40)
def wsX4_spareParts : List Cond := .code yX4_spareParts cX4_spareParts 6 (some .int) :: ([.fieldLink RX4 86 "NewCoins$Coinage" "values" "[I", .fieldLink RX4 45 "NewCoins$Land" "b" "I", .methodLink RX4 72 yX4_coinageOf, .instanceMethod yX4_coinageOf, .selects RX4 yX4_coinageOf yX4_coinageOf, .initialized RX4, .code yX4_coinageOf cX4_coinageOf 2 (some (.object "NewCoins$Coinage")), .fieldLink RX4 12 "NewCoins$Land" "old" "LNewCoins$Coinage;", .fieldLink RX4 18 "NewCoins$Land" "fresh" "LNewCoins$Coinage;", .methodLink RX4 76 yX1_isCoin, .instanceMethod yX1_isCoin, .selects RX1 yX1_isCoin yX1_isCoin, .initialized RX1, .code yX1_isCoin cX1_isCoin 2 (some .boolean), .fieldLink RX1 9 "NewCoins$Coinage" "count" "I", .static yX6_within, .initialized RX6, .code yX6_within cX6_within 3 (some .boolean), .methodLink RX4 89 yX4_unitParts, .instanceMethod yX4_unitParts, .selects RX4 yX4_unitParts yX4_unitParts, .code yX4_unitParts cX4_unitParts 2 (some .int), .fieldLink RX4 42 "NewCoins$Land" "a" "I"] ++ wsX10 ++ wsX40)
def wsX4_partsOf : List Cond := .code yX4_partsOf cX4_partsOf 7 (some .long) :: ([.fieldLink RX4 93 "NewCoins$Coinage" "count" "I", .fieldLink RX4 86 "NewCoins$Coinage" "values" "[I", .methodLink RX4 72 yX4_coinageOf, .instanceMethod yX4_coinageOf, .selects RX4 yX4_coinageOf yX4_coinageOf, .initialized RX4, .code yX4_coinageOf cX4_coinageOf 2 (some (.object "NewCoins$Coinage")), .fieldLink RX4 12 "NewCoins$Land" "old" "LNewCoins$Coinage;", .fieldLink RX4 18 "NewCoins$Land" "fresh" "LNewCoins$Coinage;", .methodLink RX4 89 yX4_unitParts, .instanceMethod yX4_unitParts, .selects RX4 yX4_unitParts yX4_unitParts, .code yX4_unitParts cX4_unitParts 2 (some .int), .fieldLink RX4 42 "NewCoins$Land" "a" "I", .fieldLink RX4 45 "NewCoins$Land" "b" "I"] ++ wsX10 ++ wsX40)
def wsX4_roundsUp : List Cond := .code yX4_roundsUp cX4_roundsUp 4 (some .boolean) :: ([])
def wsX4_newPrice : List Cond := .code yX4_newPrice cX4_newPrice 7 (some .int) :: ([.fieldLink RX4 24 "NewCoins$Land" "goods" "LNewCoins$Goods;", .fieldLink RX4 96 "NewCoins$Goods" "prices" "[I", .fieldLink RX4 42 "NewCoins$Land" "a" "I", .fieldLink RX4 48 "NewCoins$Land" "step" "I", .fieldLink RX4 45 "NewCoins$Land" "b" "I", .static yX6_wholeTimes, .initialized RX6, .code yX6_wholeTimes cX6_wholeTimes 2 (some .int), .methodLink RX4 103 yX4_roundsUp, .static yX4_roundsUp, .initialized RX4, .code yX4_roundsUp cX4_roundsUp 4 (some .boolean)] ++ wsX40 ++ wsX30)
def wsX4_gainOf : List Cond := .code yX4_gainOf cX4_gainOf 5 (some .long) :: ([.fieldLink RX4 45 "NewCoins$Land" "b" "I", .fieldLink RX4 24 "NewCoins$Land" "goods" "LNewCoins$Goods;", .fieldLink RX4 96 "NewCoins$Goods" "prices" "[I", .fieldLink RX4 42 "NewCoins$Land" "a" "I", .fieldLink RX4 110 "NewCoins$Goods" "times" "[I", .methodLink RX4 107 yX4_newPrice, .instanceMethod yX4_newPrice, .selects RX4 yX4_newPrice yX4_newPrice, .initialized RX4, .code yX4_newPrice cX4_newPrice 7 (some .int), .fieldLink RX4 48 "NewCoins$Land" "step" "I", .static yX6_wholeTimes, .initialized RX6, .code yX6_wholeTimes cX6_wholeTimes 2 (some .int), .methodLink RX4 103 yX4_roundsUp, .static yX4_roundsUp, .code yX4_roundsUp cX4_roundsUp 4 (some .boolean)] ++ wsX40 ++ wsX30)
def wsX4_goodDetail : List Cond := .code yX4_goodDetail cX4_goodDetail 2 (some .int) :: ([.fieldLink RX4 24 "NewCoins$Land" "goods" "LNewCoins$Goods;", .fieldLink RX4 96 "NewCoins$Goods" "prices" "[I", .fieldLink RX4 110 "NewCoins$Goods" "times" "[I", .methodLink RX4 117 yX3_isGood, .instanceMethod yX3_isGood, .selects RX3 yX3_isGood yX3_isGood, .initialized RX3, .code yX3_isGood cX3_isGood 2 (some .boolean), .fieldLink RX3 9 "NewCoins$Goods" "count" "I", .static yX6_within, .initialized RX6, .code yX6_within cX6_within 3 (some .boolean)] ++ wsX40 ++ wsX30)
def wsX4_detail : List Cond := .code yX4_detail cX4_detail 2 (some .int) :: ([.fieldLink RX4 24 "NewCoins$Land" "goods" "LNewCoins$Goods;", .fieldLink RX4 113 "NewCoins$Goods" "count" "I", .fieldLink RX4 38 "NewCoins$Land" "tillCount" "I", .fieldLink RX4 42 "NewCoins$Land" "a" "I", .fieldLink RX4 45 "NewCoins$Land" "b" "I", .fieldLink RX4 48 "NewCoins$Land" "step" "I", .methodLink RX4 114 yX4_goodDetail, .instanceMethod yX4_goodDetail, .selects RX4 yX4_goodDetail yX4_goodDetail, .initialized RX4, .code yX4_goodDetail cX4_goodDetail 2 (some .int), .fieldLink RX4 96 "NewCoins$Goods" "prices" "[I", .fieldLink RX4 110 "NewCoins$Goods" "times" "[I", .methodLink RX4 117 yX3_isGood, .instanceMethod yX3_isGood, .selects RX3 yX3_isGood yX3_isGood, .initialized RX3, .code yX3_isGood cX3_isGood 2 (some .boolean), .fieldLink RX3 9 "NewCoins$Goods" "count" "I", .static yX6_within, .initialized RX6, .code yX6_within cX6_within 3 (some .boolean)] ++ wsX40 ++ wsX30)
def wsX5_countsOf : List Cond := .code yX5_countsOf cX5_countsOf 2 (some (.array .int)) :: ([.fieldLink RX5 9 "NewCoins$Till" "old" "[I", .fieldLink RX5 15 "NewCoins$Till" "fresh" "[I"] ++ wsX50)
def wsX5_close : List Cond := .code yX5_close cX5_close 5 none :: ([.fieldLink RX5 15 "NewCoins$Till" "fresh" "[I", .fieldLink RX5 18 "NewCoins$Till" "latest" "[I", .fieldLink RX5 28 "NewCoins$Till" "sales" "I", .fieldLink RX5 32 "NewCoins$Till" "scraps" "J", .fieldLink RX5 36 "NewCoins$Till" "takings" "J"] ++ wsX50)
def wsX6_init_r1 : List Cond := [Cond.methodLink RX6 1 objectInit, Cond.instanceMethod objectInit, Cond.code objectInit ⟨#[0xb1]⟩ 1 none, Cond.classLink RX6 7 RX4, Cond.instantiable RX4 9, Cond.initialized RX4, Cond.fieldLink RX6 10 "NewCoins" "now" "LNewCoins$Land;", Cond.fieldLink RX6 16 "NewCoins" "images" "[LNewCoins$Land;", Cond.arrayClass .boolean, Cond.fieldLink RX6 20 "NewCoins" "taken" "[Z", Cond.classLink RX6 24 RX0, Cond.instantiable RX0 4, Cond.initialized RX0, Cond.fieldLink RX6 27 "NewCoins" "maker" "LNewCoins$ChangeMaker;", Cond.arrayClass .int, Cond.fieldLink RX6 31 "NewCoins" "fewestRow" "[I", Cond.arrayClass .long, Cond.fieldLink RX6 35 "NewCoins" "turns" "[J", Cond.methodLink RX6 9 yX4_init, Cond.instanceMethod yX4_init, Cond.code yX4_init cX4_init 2 none, Cond.methodLink RX4 3 objectInit, Cond.classLink RX4 9 RX1, Cond.instantiable RX1 4]
def wsX6_init_r2 : List Cond := [Cond.initialized RX1, Cond.fieldLink RX4 12 "NewCoins$Land" "old" "LNewCoins$Coinage;", Cond.fieldLink RX4 18 "NewCoins$Land" "fresh" "LNewCoins$Coinage;", Cond.classLink RX4 21 RX3, Cond.instantiable RX3 3, Cond.initialized RX3, Cond.fieldLink RX4 24 "NewCoins$Land" "goods" "LNewCoins$Goods;", Cond.classLink RX4 28 RX5, Cond.fieldLink RX4 30 "NewCoins$Land" "tills" "[LNewCoins$Till;", Cond.fieldLink RX4 34 "NewCoins$Land" "drawnIn" "[I", Cond.fieldLink RX4 38 "NewCoins$Land" "tillCount" "I", Cond.fieldLink RX4 42 "NewCoins$Land" "a" "I", Cond.fieldLink RX4 45 "NewCoins$Land" "b" "I", Cond.fieldLink RX4 48 "NewCoins$Land" "step" "I", Cond.instantiable RX5 7, Cond.initialized RX5, Cond.methodLink RX4 11 yX1_init, Cond.instanceMethod yX1_init, Cond.code yX1_init cX1_init 1 none, Cond.methodLink RX1 3 objectInit, Cond.fieldLink RX1 9 "NewCoins$Coinage" "count" "I", Cond.fieldLink RX1 15 "NewCoins$Coinage" "values" "[I", Cond.fieldLink RX1 19 "NewCoins$Coinage" "falling" "[I", Cond.fieldLink RX1 22 "NewCoins$Coinage" "least" "[I"]
def wsX6_init_r3 : List Cond := [Cond.methodLink RX1 25 yJ7_fill_53178, Cond.static yJ7_fill_53178, Cond.initialized RJ7, Cond.code yJ7_fill_53178 cJ7_fill_53178 4 none, Cond.instanceMethod yX3_init, Cond.code yX3_init cX3_init 1 none, Cond.methodLink RX3 3 objectInit, Cond.fieldLink RX3 9 "NewCoins$Goods" "count" "I", Cond.fieldLink RX3 15 "NewCoins$Goods" "prices" "[I", Cond.fieldLink RX3 19 "NewCoins$Goods" "times" "[I", Cond.instanceMethod yX5_init, Cond.code yX5_init cX5_init 1 none, Cond.methodLink RX5 3 objectInit, Cond.fieldLink RX5 9 "NewCoins$Till" "old" "[I", Cond.fieldLink RX5 15 "NewCoins$Till" "fresh" "[I", Cond.fieldLink RX5 18 "NewCoins$Till" "latest" "[I", Cond.classLink RX5 21 RX2, Cond.instantiable RX2 5, Cond.initialized RX2, Cond.fieldLink RX5 24 "NewCoins$Till" "expected" "LNewCoins$Expected;", Cond.fieldLink RX5 28 "NewCoins$Till" "sales" "I", Cond.fieldLink RX5 32 "NewCoins$Till" "scraps" "J", Cond.fieldLink RX5 36 "NewCoins$Till" "takings" "J", Cond.instanceMethod yX2_init]
def wsX6_init_r4 : List Cond := [Cond.code yX2_init cX2_init 1 none, Cond.methodLink RX2 3 objectInit, Cond.fieldLink RX2 9 "NewCoins$Expected" "count" "I", Cond.fieldLink RX2 15 "NewCoins$Expected" "prices" "[I", Cond.fieldLink RX2 19 "NewCoins$Expected" "systems" "[I", Cond.fieldLink RX2 22 "NewCoins$Expected" "coins" "[I", Cond.fieldLink RX2 25 "NewCoins$Expected" "numbers" "[I", Cond.instanceMethod yX0_init, Cond.code yX0_init cX0_init 1 none, Cond.methodLink RX0 3 objectInit, Cond.fieldLink RX0 9 "NewCoins$ChangeMaker" "row" "[I", Cond.classLink RX0 15 "[[I", Cond.fieldLink RX0 17 "NewCoins$ChangeMaker" "least" "[[I", Cond.fieldLink RX0 20 "NewCoins$ChangeMaker" "places" "[I", Cond.fieldLink RX0 23 "NewCoins$ChangeMaker" "costs" "[I"]
def wsX6_init : List Cond := .code yX6_init cX6_init 2 none :: ((wsX6_init_r1 ++ (wsX6_init_r2 ++ (wsX6_init_r3 ++ wsX6_init_r4))) ++ wsX40 ++ wsX60 ++ wsX00 ++ wsX10 ++ wsX30 ++ wsX50 ++ wsX20)
def wsX6_coin_r1 : List Cond := [Cond.fieldLink RX6 10 "NewCoins" "now" "LNewCoins$Land;", Cond.methodLink RX6 39 yX4_coinageOf, Cond.instanceMethod yX4_coinageOf, Cond.selects RX4 yX4_coinageOf yX4_coinageOf, Cond.initialized RX4, Cond.code yX4_coinageOf cX4_coinageOf 2 (some (.object "NewCoins$Coinage")), Cond.fieldLink RX4 12 "NewCoins$Land" "old" "LNewCoins$Coinage;", Cond.fieldLink RX4 18 "NewCoins$Land" "fresh" "LNewCoins$Coinage;", Cond.methodLink RX6 43 yX1_add, Cond.instanceMethod yX1_add, Cond.selects RX1 yX1_add yX1_add, Cond.initialized RX1, Cond.code yX1_add cX1_add 2 (some .int), Cond.fieldLink RX1 9 "NewCoins$Coinage" "count" "I", Cond.fieldLink RX1 15 "NewCoins$Coinage" "values" "[I", Cond.static yX6_within, Cond.initialized RX6, Cond.code yX6_within cX6_within 3 (some .boolean), Cond.methodLink RX1 41 yX1_isValue, Cond.instanceMethod yX1_isValue, Cond.selects RX1 yX1_isValue yX1_isValue, Cond.code yX1_isValue cX1_isValue 3 (some .boolean), Cond.methodLink RX1 45 yX1_rank, Cond.instanceMethod yX1_rank]
def wsX6_coin_r2 : List Cond := [Cond.selects RX1 yX1_rank yX1_rank, Cond.code yX1_rank cX1_rank 3 none, Cond.fieldLink RX1 19 "NewCoins$Coinage" "falling" "[I", Cond.methodLink RX1 49 yX1_improve, Cond.instanceMethod yX1_improve, Cond.selects RX1 yX1_improve yX1_improve, Cond.code yX1_improve cX1_improve 4 none, Cond.fieldLink RX1 22 "NewCoins$Coinage" "least" "[I"]
def wsX6_coin : List Cond := .code yX6_coin cX6_coin 4 (some .int) :: ((wsX6_coin_r1 ++ wsX6_coin_r2) ++ wsX60 ++ wsX40 ++ wsX10)
def wsX6_rate : List Cond := .code yX6_rate cX6_rate 3 (some .boolean) :: ([.fieldLink RX6 10 "NewCoins" "now" "LNewCoins$Land;", .fieldLink RX6 57 "NewCoins$Land" "a" "I", .fieldLink RX6 61 "NewCoins$Land" "b" "I", .methodLink RX6 49 yX6_within, .static yX6_within, .initialized RX6, .code yX6_within cX6_within 3 (some .boolean), .methodLink RX6 53 yX4_hasSold, .instanceMethod yX4_hasSold, .selects RX4 yX4_hasSold yX4_hasSold, .initialized RX4, .code yX4_hasSold cX4_hasSold 2 (some .boolean), .fieldLink RX4 38 "NewCoins$Land" "tillCount" "I", .fieldLink RX4 30 "NewCoins$Land" "tills" "[LNewCoins$Till;", .fieldLink RX4 83 "NewCoins$Till" "sales" "I"] ++ wsX60 ++ wsX40 ++ wsX50)
def wsX6_good : List Cond := .code yX6_good cX6_good 3 (some .int) :: ([.fieldLink RX6 10 "NewCoins" "now" "LNewCoins$Land;", .fieldLink RX6 64 "NewCoins$Land" "goods" "LNewCoins$Goods;", .methodLink RX6 68 yX3_add, .instanceMethod yX3_add, .selects RX3 yX3_add yX3_add, .initialized RX3, .code yX3_add cX3_add 3 (some .int), .fieldLink RX3 9 "NewCoins$Goods" "count" "I", .fieldLink RX3 15 "NewCoins$Goods" "prices" "[I", .fieldLink RX3 19 "NewCoins$Goods" "times" "[I", .static yX6_within, .initialized RX6, .code yX6_within cX6_within 3 (some .boolean)] ++ wsX60 ++ wsX40 ++ wsX30)
def wsX6_sold : List Cond := .code yX6_sold cX6_sold 3 (some .boolean) :: ([.fieldLink RX6 10 "NewCoins" "now" "LNewCoins$Land;", .fieldLink RX6 64 "NewCoins$Land" "goods" "LNewCoins$Goods;", .fieldLink RX6 77 "NewCoins$Goods" "times" "[I", .methodLink RX6 73 yX3_isGood, .instanceMethod yX3_isGood, .selects RX3 yX3_isGood yX3_isGood, .initialized RX3, .code yX3_isGood cX3_isGood 2 (some .boolean), .fieldLink RX3 9 "NewCoins$Goods" "count" "I", .static yX6_within, .initialized RX6, .code yX6_within cX6_within 3 (some .boolean), .methodLink RX6 49 yX6_within] ++ wsX60 ++ wsX40 ++ wsX30)
def wsX6_step : List Cond := .code yX6_step cX6_step 2 (some .boolean) :: ([.fieldLink RX6 10 "NewCoins" "now" "LNewCoins$Land;", .fieldLink RX6 80 "NewCoins$Land" "step" "I", .methodLink RX6 49 yX6_within, .static yX6_within, .initialized RX6, .code yX6_within cX6_within 3 (some .boolean)] ++ wsX60 ++ wsX40)
def wsX6_isRule : List Cond := .code yX6_isRule cX6_isRule 1 (some .boolean) :: ([.methodLink RX6 49 yX6_within, .static yX6_within, .initialized RX6, .code yX6_within cX6_within 3 (some .boolean)])
def wsX6_price_r1 : List Cond := [Cond.fieldLink RX6 10 "NewCoins" "now" "LNewCoins$Land;", Cond.fieldLink RX6 64 "NewCoins$Land" "goods" "LNewCoins$Goods;", Cond.methodLink RX6 73 yX3_isGood, Cond.instanceMethod yX3_isGood, Cond.selects RX3 yX3_isGood yX3_isGood, Cond.initialized RX3, Cond.code yX3_isGood cX3_isGood 2 (some .boolean), Cond.fieldLink RX3 9 "NewCoins$Goods" "count" "I", Cond.static yX6_within, Cond.initialized RX6, Cond.code yX6_within cX6_within 3 (some .boolean), Cond.methodLink RX6 83 yX6_isRule, Cond.static yX6_isRule, Cond.code yX6_isRule cX6_isRule 1 (some .boolean), Cond.methodLink RX6 49 yX6_within, Cond.methodLink RX6 86 yX4_newPrice, Cond.instanceMethod yX4_newPrice, Cond.selects RX4 yX4_newPrice yX4_newPrice, Cond.initialized RX4, Cond.code yX4_newPrice cX4_newPrice 7 (some .int), Cond.fieldLink RX4 24 "NewCoins$Land" "goods" "LNewCoins$Goods;", Cond.fieldLink RX4 96 "NewCoins$Goods" "prices" "[I", Cond.fieldLink RX4 42 "NewCoins$Land" "a" "I", Cond.fieldLink RX4 48 "NewCoins$Land" "step" "I"]
def wsX6_price_r2 : List Cond := [Cond.fieldLink RX4 45 "NewCoins$Land" "b" "I", Cond.static yX6_wholeTimes, Cond.code yX6_wholeTimes cX6_wholeTimes 2 (some .int), Cond.methodLink RX4 103 yX4_roundsUp, Cond.static yX4_roundsUp, Cond.code yX4_roundsUp cX4_roundsUp 4 (some .boolean)]
def wsX6_price : List Cond := .code yX6_price cX6_price 3 (some .int) :: ((wsX6_price_r1 ++ wsX6_price_r2) ++ wsX60 ++ wsX40 ++ wsX30)
def wsX6_gain_r1 : List Cond := [Cond.fieldLink RX6 10 "NewCoins" "now" "LNewCoins$Land;", Cond.fieldLink RX6 64 "NewCoins$Land" "goods" "LNewCoins$Goods;", Cond.fieldLink RX6 89 "NewCoins$Goods" "count" "I", Cond.methodLink RX6 83 yX6_isRule, Cond.static yX6_isRule, Cond.initialized RX6, Cond.code yX6_isRule cX6_isRule 1 (some .boolean), Cond.methodLink RX6 49 yX6_within, Cond.static yX6_within, Cond.code yX6_within cX6_within 3 (some .boolean), Cond.methodLink RX6 92 yX4_gainOf, Cond.instanceMethod yX4_gainOf, Cond.selects RX4 yX4_gainOf yX4_gainOf, Cond.initialized RX4, Cond.code yX4_gainOf cX4_gainOf 5 (some .long), Cond.fieldLink RX4 45 "NewCoins$Land" "b" "I", Cond.fieldLink RX4 24 "NewCoins$Land" "goods" "LNewCoins$Goods;", Cond.fieldLink RX4 96 "NewCoins$Goods" "prices" "[I", Cond.fieldLink RX4 42 "NewCoins$Land" "a" "I", Cond.fieldLink RX4 110 "NewCoins$Goods" "times" "[I", Cond.methodLink RX4 107 yX4_newPrice, Cond.instanceMethod yX4_newPrice, Cond.selects RX4 yX4_newPrice yX4_newPrice, Cond.code yX4_newPrice cX4_newPrice 7 (some .int)]
def wsX6_gain_r2 : List Cond := [Cond.fieldLink RX4 48 "NewCoins$Land" "step" "I", Cond.static yX6_wholeTimes, Cond.code yX6_wholeTimes cX6_wholeTimes 2 (some .int), Cond.methodLink RX4 103 yX4_roundsUp, Cond.static yX4_roundsUp, Cond.code yX4_roundsUp cX4_roundsUp 4 (some .boolean)]
def wsX6_gain : List Cond := .code yX6_gain cX6_gain 5 (some .long) :: ((wsX6_gain_r1 ++ wsX6_gain_r2) ++ wsX60 ++ wsX40 ++ wsX30)
def wsX6_startOfWays_r1 : List Cond := [Cond.fieldLink RX6 10 "NewCoins" "now" "LNewCoins$Land;", Cond.fieldLink RX6 64 "NewCoins$Land" "goods" "LNewCoins$Goods;", Cond.fieldLink RX6 89 "NewCoins$Goods" "count" "I", Cond.fieldLink RX6 35 "NewCoins" "turns" "[J", Cond.methodLink RX6 92 yX4_gainOf, Cond.instanceMethod yX4_gainOf, Cond.selects RX4 yX4_gainOf yX4_gainOf, Cond.initialized RX4, Cond.code yX4_gainOf cX4_gainOf 5 (some .long), Cond.fieldLink RX4 45 "NewCoins$Land" "b" "I", Cond.fieldLink RX4 24 "NewCoins$Land" "goods" "LNewCoins$Goods;", Cond.fieldLink RX4 96 "NewCoins$Goods" "prices" "[I", Cond.fieldLink RX4 42 "NewCoins$Land" "a" "I", Cond.fieldLink RX4 110 "NewCoins$Goods" "times" "[I", Cond.methodLink RX4 107 yX4_newPrice, Cond.instanceMethod yX4_newPrice, Cond.selects RX4 yX4_newPrice yX4_newPrice, Cond.code yX4_newPrice cX4_newPrice 7 (some .int), Cond.fieldLink RX4 48 "NewCoins$Land" "step" "I", Cond.static yX6_wholeTimes, Cond.initialized RX6, Cond.code yX6_wholeTimes cX6_wholeTimes 2 (some .int), Cond.methodLink RX4 103 yX4_roundsUp, Cond.static yX4_roundsUp]
def wsX6_startOfWays_r2 : List Cond := [Cond.code yX4_roundsUp cX4_roundsUp 4 (some .boolean)]
def wsX6_startOfWays : List Cond := .code yX6_startOfWays cX6_startOfWays 10 (some .long) :: ((wsX6_startOfWays_r1 ++ wsX6_startOfWays_r2) ++ wsX60 ++ wsX40 ++ wsX30)
def wsJ6_bitCount_0f7a4 : List Cond := .code yJ6_bitCount_0f7a4 cJ6_bitCount_0f7a4 1 (some .int) :: ([.constant RJ6 265 (1431655765), .constant RJ6 266 (858993459), .constant RJ6 267 (252645135)])
def wsX6_fairest_r1 : List Cond := [Cond.methodLink RX6 100 Lib.MathLoose.abs_long.x, Cond.static Lib.MathLoose.abs_long.x, Cond.initialized "java/lang/Math", Cond.code Lib.MathLoose.abs_long.x Lib.MathLoose.abs_long.code 2 (some .long), Cond.fieldLink RX6 10 "NewCoins" "now" "LNewCoins$Land;", Cond.fieldLink RX6 64 "NewCoins$Land" "goods" "LNewCoins$Goods;", Cond.fieldLink RX6 89 "NewCoins$Goods" "count" "I", Cond.fieldLink RX6 35 "NewCoins" "turns" "[J", Cond.methodLink RX6 96 yX6_startOfWays, Cond.instanceMethod yX6_startOfWays, Cond.selects RX6 yX6_startOfWays yX6_startOfWays, Cond.initialized RX6, Cond.code yX6_startOfWays cX6_startOfWays 10 (some .long), Cond.methodLink RX6 92 yX4_gainOf, Cond.instanceMethod yX4_gainOf, Cond.selects RX4 yX4_gainOf yX4_gainOf, Cond.initialized RX4, Cond.code yX4_gainOf cX4_gainOf 5 (some .long), Cond.fieldLink RX4 45 "NewCoins$Land" "b" "I", Cond.fieldLink RX4 24 "NewCoins$Land" "goods" "LNewCoins$Goods;", Cond.fieldLink RX4 96 "NewCoins$Goods" "prices" "[I", Cond.fieldLink RX4 42 "NewCoins$Land" "a" "I", Cond.fieldLink RX4 110 "NewCoins$Goods" "times" "[I", Cond.methodLink RX4 107 yX4_newPrice]
def wsX6_fairest_r2 : List Cond := [Cond.instanceMethod yX4_newPrice, Cond.selects RX4 yX4_newPrice yX4_newPrice, Cond.code yX4_newPrice cX4_newPrice 7 (some .int), Cond.fieldLink RX4 48 "NewCoins$Land" "step" "I", Cond.static yX6_wholeTimes, Cond.code yX6_wholeTimes cX6_wholeTimes 2 (some .int), Cond.methodLink RX4 103 yX4_roundsUp, Cond.static yX4_roundsUp, Cond.code yX4_roundsUp cX4_roundsUp 4 (some .boolean), Cond.methodLink RX6 106 yJ6_bitCount_0f7a4, Cond.static yJ6_bitCount_0f7a4, Cond.initialized RJ6, Cond.code yJ6_bitCount_0f7a4 cJ6_bitCount_0f7a4 1 (some .int), Cond.constant RJ6 265 (1431655765), Cond.constant RJ6 266 (858993459), Cond.constant RJ6 267 (252645135)]
def wsX6_fairest : List Cond := .code yX6_fairest cX6_fairest 9 (some .int) :: ((wsX6_fairest_r1 ++ wsX6_fairest_r2) ++ wsX60 ++ wsX40 ++ wsX30)
def wsX6_gains : List Cond := .code yX6_gains cX6_gains 6 (some .long) :: ([.fieldLink RX6 10 "NewCoins" "now" "LNewCoins$Land;", .fieldLink RX6 64 "NewCoins$Land" "goods" "LNewCoins$Goods;", .fieldLink RX6 89 "NewCoins$Goods" "count" "I", .methodLink RX6 92 yX4_gainOf, .instanceMethod yX4_gainOf, .selects RX4 yX4_gainOf yX4_gainOf, .initialized RX4, .code yX4_gainOf cX4_gainOf 5 (some .long), .fieldLink RX4 45 "NewCoins$Land" "b" "I", .fieldLink RX4 24 "NewCoins$Land" "goods" "LNewCoins$Goods;", .fieldLink RX4 96 "NewCoins$Goods" "prices" "[I", .fieldLink RX4 42 "NewCoins$Land" "a" "I", .fieldLink RX4 110 "NewCoins$Goods" "times" "[I", .methodLink RX4 107 yX4_newPrice, .instanceMethod yX4_newPrice, .selects RX4 yX4_newPrice yX4_newPrice, .code yX4_newPrice cX4_newPrice 7 (some .int), .fieldLink RX4 48 "NewCoins$Land" "step" "I", .static yX6_wholeTimes, .initialized RX6, .code yX6_wholeTimes cX6_wholeTimes 2 (some .int), .methodLink RX4 103 yX4_roundsUp, .static yX4_roundsUp, .code yX4_roundsUp cX4_roundsUp 4 (some .boolean)] ++ wsX60 ++ wsX40 ++ wsX30)
def wsX6_fewest_r1 : List Cond := [Cond.fieldLink RX6 10 "NewCoins" "now" "LNewCoins$Land;", Cond.fieldLink RX6 114 "NewCoins$Coinage" "least" "[I", Cond.fieldLink RX6 31 "NewCoins" "fewestRow" "[I", Cond.methodLink RX6 39 yX4_coinageOf, Cond.instanceMethod yX4_coinageOf, Cond.selects RX4 yX4_coinageOf yX4_coinageOf, Cond.initialized RX4, Cond.code yX4_coinageOf cX4_coinageOf 2 (some (.object "NewCoins$Coinage")), Cond.fieldLink RX4 12 "NewCoins$Land" "old" "LNewCoins$Coinage;", Cond.fieldLink RX4 18 "NewCoins$Land" "fresh" "LNewCoins$Coinage;", Cond.methodLink RX6 111 yX1_hasFewest, Cond.instanceMethod yX1_hasFewest, Cond.selects RX1 yX1_hasFewest yX1_hasFewest, Cond.initialized RX1, Cond.code yX1_hasFewest cX1_hasFewest 2 (some .boolean), Cond.fieldLink RX1 22 "NewCoins$Coinage" "least" "[I", Cond.static yX6_isSum, Cond.initialized RX6, Cond.code yX6_isSum cX6_isSum 1 (some .boolean), Cond.methodLink RX6 49 yX6_within, Cond.static yX6_within, Cond.code yX6_within cX6_within 3 (some .boolean), Cond.methodLink RX6 117 yX1_isCoin, Cond.instanceMethod yX1_isCoin]
def wsX6_fewest_r2 : List Cond := [Cond.selects RX1 yX1_isCoin yX1_isCoin, Cond.code yX1_isCoin cX1_isCoin 2 (some .boolean), Cond.fieldLink RX1 9 "NewCoins$Coinage" "count" "I", Cond.methodLink RX6 120 yX1_writeFewest, Cond.instanceMethod yX1_writeFewest, Cond.selects RX1 yX1_writeFewest yX1_writeFewest, Cond.code yX1_writeFewest cX1_writeFewest 8 none, Cond.fieldLink RX1 15 "NewCoins$Coinage" "values" "[I", Cond.fieldLink RX1 19 "NewCoins$Coinage" "falling" "[I", Cond.static yX6_wholeTimes, Cond.code yX6_wholeTimes cX6_wholeTimes 2 (some .int)]
def wsX6_fewest : List Cond := .code yX6_fewest cX6_fewest 5 (some .int) :: ((wsX6_fewest_r1 ++ wsX6_fewest_r2) ++ wsX60 ++ wsX10 ++ wsX40)
def wsX6_greedy_r1 : List Cond := [Cond.fieldLink RX6 10 "NewCoins" "now" "LNewCoins$Land;", Cond.methodLink RX6 39 yX4_coinageOf, Cond.instanceMethod yX4_coinageOf, Cond.selects RX4 yX4_coinageOf yX4_coinageOf, Cond.initialized RX4, Cond.code yX4_coinageOf cX4_coinageOf 2 (some (.object "NewCoins$Coinage")), Cond.fieldLink RX4 12 "NewCoins$Land" "old" "LNewCoins$Coinage;", Cond.fieldLink RX4 18 "NewCoins$Land" "fresh" "LNewCoins$Coinage;", Cond.methodLink RX6 124 yX6_isSum, Cond.static yX6_isSum, Cond.initialized RX6, Cond.code yX6_isSum cX6_isSum 1 (some .boolean), Cond.methodLink RX6 49 yX6_within, Cond.static yX6_within, Cond.code yX6_within cX6_within 3 (some .boolean), Cond.methodLink RX6 127 yX1_countGreedily, Cond.instanceMethod yX1_countGreedily, Cond.selects RX1 yX1_countGreedily yX1_countGreedily, Cond.initialized RX1, Cond.code yX1_countGreedily cX1_countGreedily 7 (some .int), Cond.fieldLink RX1 9 "NewCoins$Coinage" "count" "I", Cond.fieldLink RX1 15 "NewCoins$Coinage" "values" "[I", Cond.fieldLink RX1 19 "NewCoins$Coinage" "falling" "[I", Cond.static yX6_wholeTimes]
def wsX6_greedy_r2 : List Cond := [Cond.code yX6_wholeTimes cX6_wholeTimes 2 (some .int)]
def wsX6_greedy : List Cond := .code yX6_greedy cX6_greedy 4 (some .int) :: ((wsX6_greedy_r1 ++ wsX6_greedy_r2) ++ wsX60 ++ wsX40 ++ wsX10)
def wsX6_odd : List Cond := .code yX6_odd cX6_odd 3 (some .int) :: ([.fieldLink RX6 10 "NewCoins" "now" "LNewCoins$Land;", .methodLink RX6 39 yX4_coinageOf, .instanceMethod yX4_coinageOf, .selects RX4 yX4_coinageOf yX4_coinageOf, .initialized RX4, .code yX4_coinageOf cX4_coinageOf 2 (some (.object "NewCoins$Coinage")), .fieldLink RX4 12 "NewCoins$Land" "old" "LNewCoins$Coinage;", .fieldLink RX4 18 "NewCoins$Land" "fresh" "LNewCoins$Coinage;", .methodLink RX6 130 yX1_leastOdd, .instanceMethod yX1_leastOdd, .selects RX1 yX1_leastOdd yX1_leastOdd, .initialized RX1, .code yX1_leastOdd cX1_leastOdd 2 (some .int), .fieldLink RX1 22 "NewCoins$Coinage" "least" "[I", .methodLink RX1 59 yX1_countGreedily, .instanceMethod yX1_countGreedily, .selects RX1 yX1_countGreedily yX1_countGreedily, .code yX1_countGreedily cX1_countGreedily 7 (some .int), .fieldLink RX1 9 "NewCoins$Coinage" "count" "I", .fieldLink RX1 15 "NewCoins$Coinage" "values" "[I", .fieldLink RX1 19 "NewCoins$Coinage" "falling" "[I", .static yX6_wholeTimes, .initialized RX6, .code yX6_wholeTimes cX6_wholeTimes 2 (some .int)] ++ wsX60 ++ wsX40 ++ wsX10)
def wsX6_till : List Cond := .code yX6_till cX6_till 1 (some .int) :: ([.fieldLink RX6 10 "NewCoins" "now" "LNewCoins$Land;", .fieldLink RX6 134 "NewCoins$Land" "tillCount" "I"] ++ wsX60 ++ wsX40)
def wsX6_put_r1 : List Cond := [Cond.fieldLink RX6 10 "NewCoins" "now" "LNewCoins$Land;", Cond.constantLong RX6 150 (1000), Cond.methodLink RX6 137 yX4_tillAt, Cond.instanceMethod yX4_tillAt, Cond.selects RX4 yX4_tillAt yX4_tillAt, Cond.initialized RX4, Cond.code yX4_tillAt cX4_tillAt 2 (some (.object "NewCoins$Till")), Cond.fieldLink RX4 38 "NewCoins$Land" "tillCount" "I", Cond.fieldLink RX4 30 "NewCoins$Land" "tills" "[LNewCoins$Till;", Cond.static yX6_within, Cond.initialized RX6, Cond.code yX6_within cX6_within 3 (some .boolean), Cond.methodLink RX6 141 yX4_isCoin, Cond.instanceMethod yX4_isCoin, Cond.selects RX4 yX4_isCoin yX4_isCoin, Cond.code yX4_isCoin cX4_isCoin 4 (some .boolean), Cond.methodLink RX4 72 yX4_coinageOf, Cond.instanceMethod yX4_coinageOf, Cond.selects RX4 yX4_coinageOf yX4_coinageOf, Cond.code yX4_coinageOf cX4_coinageOf 2 (some (.object "NewCoins$Coinage")), Cond.fieldLink RX4 12 "NewCoins$Land" "old" "LNewCoins$Coinage;", Cond.fieldLink RX4 18 "NewCoins$Land" "fresh" "LNewCoins$Coinage;", Cond.methodLink RX4 76 yX1_isCoin, Cond.instanceMethod yX1_isCoin]
def wsX6_put_r2 : List Cond := [Cond.selects RX1 yX1_isCoin yX1_isCoin, Cond.initialized RX1, Cond.code yX1_isCoin cX1_isCoin 2 (some .boolean), Cond.fieldLink RX1 9 "NewCoins$Coinage" "count" "I", Cond.methodLink RX6 144 yX5_countsOf, Cond.instanceMethod yX5_countsOf, Cond.selects RX5 yX5_countsOf yX5_countsOf, Cond.initialized RX5, Cond.code yX5_countsOf cX5_countsOf 2 (some (.array .int)), Cond.fieldLink RX5 9 "NewCoins$Till" "old" "[I", Cond.fieldLink RX5 15 "NewCoins$Till" "fresh" "[I"]
def wsX6_put : List Cond := .code yX6_put cX6_put 9 (some .int) :: ((wsX6_put_r1 ++ wsX6_put_r2) ++ wsX60 ++ wsX40 ++ wsX10 ++ wsX50)
def wsX6_sale_r1 : List Cond := [Cond.fieldLink RX6 10 "NewCoins" "now" "LNewCoins$Land;", Cond.fieldLink RX6 61 "NewCoins$Land" "b" "I", Cond.fieldLink RX6 27 "NewCoins" "maker" "LNewCoins$ChangeMaker;", Cond.fieldLink RX6 163 "NewCoins$Land" "fresh" "LNewCoins$Coinage;", Cond.fieldLink RX6 167 "NewCoins$Till" "fresh" "[I", Cond.fieldLink RX6 173 "NewCoins$ChangeMaker" "row" "[I", Cond.methodLink RX6 137 yX4_tillAt, Cond.instanceMethod yX4_tillAt, Cond.selects RX4 yX4_tillAt yX4_tillAt, Cond.initialized RX4, Cond.code yX4_tillAt cX4_tillAt 2 (some (.object "NewCoins$Till")), Cond.fieldLink RX4 38 "NewCoins$Land" "tillCount" "I", Cond.fieldLink RX4 30 "NewCoins$Land" "tills" "[LNewCoins$Till;", Cond.static yX6_within, Cond.initialized RX6, Cond.code yX6_within cX6_within 3 (some .boolean), Cond.methodLink RX6 152 yX4_isSale, Cond.instanceMethod yX4_isSale, Cond.selects RX4 yX4_isSale yX4_isSale, Cond.code yX4_isSale cX4_isSale 5 (some .boolean), Cond.methodLink RX4 80 yX4_isCoin, Cond.instanceMethod yX4_isCoin, Cond.selects RX4 yX4_isCoin yX4_isCoin, Cond.code yX4_isCoin cX4_isCoin 4 (some .boolean)]
def wsX6_sale_r2 : List Cond := [Cond.methodLink RX4 72 yX4_coinageOf, Cond.instanceMethod yX4_coinageOf, Cond.selects RX4 yX4_coinageOf yX4_coinageOf, Cond.code yX4_coinageOf cX4_coinageOf 2 (some (.object "NewCoins$Coinage")), Cond.fieldLink RX4 12 "NewCoins$Land" "old" "LNewCoins$Coinage;", Cond.fieldLink RX4 18 "NewCoins$Land" "fresh" "LNewCoins$Coinage;", Cond.methodLink RX4 76 yX1_isCoin, Cond.instanceMethod yX1_isCoin, Cond.selects RX1 yX1_isCoin yX1_isCoin, Cond.initialized RX1, Cond.code yX1_isCoin cX1_isCoin 2 (some .boolean), Cond.fieldLink RX1 9 "NewCoins$Coinage" "count" "I", Cond.methodLink RX6 156 yX4_spareParts, Cond.instanceMethod yX4_spareParts, Cond.selects RX4 yX4_spareParts yX4_spareParts, Cond.code yX4_spareParts cX4_spareParts 6 (some .int), Cond.fieldLink RX4 86 "NewCoins$Coinage" "values" "[I", Cond.fieldLink RX4 45 "NewCoins$Land" "b" "I", Cond.methodLink RX4 89 yX4_unitParts, Cond.instanceMethod yX4_unitParts, Cond.selects RX4 yX4_unitParts yX4_unitParts, Cond.code yX4_unitParts cX4_unitParts 2 (some .int), Cond.fieldLink RX4 42 "NewCoins$Land" "a" "I", Cond.methodLink RX6 144 yX5_countsOf]
def wsX6_sale_r3 : List Cond := [Cond.instanceMethod yX5_countsOf, Cond.selects RX5 yX5_countsOf yX5_countsOf, Cond.initialized RX5, Cond.code yX5_countsOf cX5_countsOf 2 (some (.array .int)), Cond.fieldLink RX5 9 "NewCoins$Till" "old" "[I", Cond.fieldLink RX5 15 "NewCoins$Till" "fresh" "[I", Cond.methodLink RX6 160 yX6_wholeTimes, Cond.static yX6_wholeTimes, Cond.code yX6_wholeTimes cX6_wholeTimes 2 (some .int), Cond.methodLink RX6 169 yX0_make, Cond.instanceMethod yX0_make, Cond.selects RX0 yX0_make yX0_make, Cond.initialized RX0, Cond.code yX0_make cX0_make 7 (some .boolean), Cond.fieldLink RX0 17 "NewCoins$ChangeMaker" "least" "[[I", Cond.fieldLink RX0 36 "NewCoins$Coinage" "count" "I", Cond.fieldLink RX0 42 "NewCoins$Coinage" "falling" "[I", Cond.fieldLink RX0 45 "NewCoins$Coinage" "values" "[I", Cond.static yX6_isSum, Cond.code yX6_isSum cX6_isSum 1 (some .boolean), Cond.methodLink RX6 49 yX6_within, Cond.methodLink RX0 30 yJ7_fill_53178, Cond.static yJ7_fill_53178, Cond.initialized RJ7]
def wsX6_sale_r4 : List Cond := [Cond.code yJ7_fill_53178 cJ7_fill_53178 4 none, Cond.methodLink RX0 48 yX0_allow, Cond.instanceMethod yX0_allow, Cond.selects RX0 yX0_allow yX0_allow, Cond.code yX0_allow cX0_allow 6 none, Cond.methodLink RX0 56 yX0_slide, Cond.instanceMethod yX0_slide, Cond.selects RX0 yX0_slide yX0_slide, Cond.code yX0_slide cX0_slide 12 none, Cond.fieldLink RX0 23 "NewCoins$ChangeMaker" "costs" "[I", Cond.fieldLink RX0 20 "NewCoins$ChangeMaker" "places" "[I", Cond.methodLink RX0 52 yX0_writeRow, Cond.instanceMethod yX0_writeRow, Cond.selects RX0 yX0_writeRow yX0_writeRow, Cond.code yX0_writeRow cX0_writeRow 9 none, Cond.fieldLink RX0 9 "NewCoins$ChangeMaker" "row" "[I", Cond.methodLink RX0 64 Lib.Math.min.name, Cond.static Lib.Math.min.name, Cond.initialized "java/lang/Math", Cond.code Lib.Math.min.name Lib.Math.min.code 2 (some .int), Cond.methodLink RX0 69 yX0_leadsOn, Cond.instanceMethod yX0_leadsOn, Cond.selects RX0 yX0_leadsOn yX0_leadsOn, Cond.code yX0_leadsOn cX0_leadsOn 5 (some .boolean)]
def wsX6_sale_r5 : List Cond := [Cond.methodLink RX6 176 yX5_close, Cond.instanceMethod yX5_close, Cond.selects RX5 yX5_close yX5_close, Cond.code yX5_close cX5_close 5 none, Cond.fieldLink RX5 18 "NewCoins$Till" "latest" "[I", Cond.fieldLink RX5 28 "NewCoins$Till" "sales" "I", Cond.fieldLink RX5 32 "NewCoins$Till" "scraps" "J", Cond.fieldLink RX5 36 "NewCoins$Till" "takings" "J"]
def wsX6_sale : List Cond := .code yX6_sale cX6_sale 10 (some .int) :: ((wsX6_sale_r1 ++ (wsX6_sale_r2 ++ (wsX6_sale_r3 ++ (wsX6_sale_r4 ++ wsX6_sale_r5)))) ++ wsX60 ++ wsX40 ++ wsX50 ++ wsX00 ++ wsX10)
def wsX6_given_r1 : List Cond := [Cond.fieldLink RX6 10 "NewCoins" "now" "LNewCoins$Land;", Cond.fieldLink RX6 180 "NewCoins$Till" "sales" "I", Cond.fieldLink RX6 183 "NewCoins$Till" "latest" "[I", Cond.methodLink RX6 137 yX4_tillAt, Cond.instanceMethod yX4_tillAt, Cond.selects RX4 yX4_tillAt yX4_tillAt, Cond.initialized RX4, Cond.code yX4_tillAt cX4_tillAt 2 (some (.object "NewCoins$Till")), Cond.fieldLink RX4 38 "NewCoins$Land" "tillCount" "I", Cond.fieldLink RX4 30 "NewCoins$Land" "tills" "[LNewCoins$Till;", Cond.static yX6_within, Cond.initialized RX6, Cond.code yX6_within cX6_within 3 (some .boolean), Cond.methodLink RX6 141 yX4_isCoin, Cond.instanceMethod yX4_isCoin, Cond.selects RX4 yX4_isCoin yX4_isCoin, Cond.code yX4_isCoin cX4_isCoin 4 (some .boolean), Cond.methodLink RX4 72 yX4_coinageOf, Cond.instanceMethod yX4_coinageOf, Cond.selects RX4 yX4_coinageOf yX4_coinageOf, Cond.code yX4_coinageOf cX4_coinageOf 2 (some (.object "NewCoins$Coinage")), Cond.fieldLink RX4 12 "NewCoins$Land" "old" "LNewCoins$Coinage;", Cond.fieldLink RX4 18 "NewCoins$Land" "fresh" "LNewCoins$Coinage;", Cond.methodLink RX4 76 yX1_isCoin]
def wsX6_given_r2 : List Cond := [Cond.instanceMethod yX1_isCoin, Cond.selects RX1 yX1_isCoin yX1_isCoin, Cond.initialized RX1, Cond.code yX1_isCoin cX1_isCoin 2 (some .boolean), Cond.fieldLink RX1 9 "NewCoins$Coinage" "count" "I"]
def wsX6_given : List Cond := .code yX6_given cX6_given 4 (some .int) :: ((wsX6_given_r1 ++ wsX6_given_r2) ++ wsX60 ++ wsX50 ++ wsX40 ++ wsX10)
def wsX6_tell_r1 : List Cond := [Cond.fieldLink RX6 10 "NewCoins" "now" "LNewCoins$Land;", Cond.constantLong RX6 186 (-1), Cond.fieldLink RX6 180 "NewCoins$Till" "sales" "I", Cond.fieldLink RX6 188 "NewCoins$Till" "scraps" "J", Cond.fieldLink RX6 192 "NewCoins$Till" "old" "[I", Cond.fieldLink RX6 167 "NewCoins$Till" "fresh" "[I", Cond.fieldLink RX6 199 "NewCoins$Till" "takings" "J", Cond.fieldLink RX6 61 "NewCoins$Land" "b" "I", Cond.fieldLink RX6 202 "NewCoins$Till" "expected" "LNewCoins$Expected;", Cond.fieldLink RX6 206 "NewCoins$Expected" "count" "I", Cond.methodLink RX6 137 yX4_tillAt, Cond.instanceMethod yX4_tillAt, Cond.selects RX4 yX4_tillAt yX4_tillAt, Cond.initialized RX4, Cond.code yX4_tillAt cX4_tillAt 2 (some (.object "NewCoins$Till")), Cond.fieldLink RX4 38 "NewCoins$Land" "tillCount" "I", Cond.fieldLink RX4 30 "NewCoins$Land" "tills" "[LNewCoins$Till;", Cond.static yX6_within, Cond.initialized RX6, Cond.code yX6_within cX6_within 3 (some .boolean), Cond.methodLink RX6 195 yX4_partsOf, Cond.instanceMethod yX4_partsOf, Cond.selects RX4 yX4_partsOf yX4_partsOf, Cond.code yX4_partsOf cX4_partsOf 7 (some .long)]
def wsX6_tell_r2 : List Cond := [Cond.fieldLink RX4 93 "NewCoins$Coinage" "count" "I", Cond.fieldLink RX4 86 "NewCoins$Coinage" "values" "[I", Cond.methodLink RX4 72 yX4_coinageOf, Cond.instanceMethod yX4_coinageOf, Cond.selects RX4 yX4_coinageOf yX4_coinageOf, Cond.code yX4_coinageOf cX4_coinageOf 2 (some (.object "NewCoins$Coinage")), Cond.fieldLink RX4 12 "NewCoins$Land" "old" "LNewCoins$Coinage;", Cond.fieldLink RX4 18 "NewCoins$Land" "fresh" "LNewCoins$Coinage;", Cond.methodLink RX4 89 yX4_unitParts, Cond.instanceMethod yX4_unitParts, Cond.selects RX4 yX4_unitParts yX4_unitParts, Cond.code yX4_unitParts cX4_unitParts 2 (some .int), Cond.fieldLink RX4 42 "NewCoins$Land" "a" "I", Cond.fieldLink RX4 45 "NewCoins$Land" "b" "I"]
def wsX6_tell : List Cond := .code yX6_tell cX6_tell 4 (some .long) :: ((wsX6_tell_r1 ++ wsX6_tell_r2) ++ wsX60 ++ wsX50 ++ wsX40 ++ wsX20 ++ wsX10)
def wsX6_has_r1 : List Cond := [Cond.fieldLink RX6 10 "NewCoins" "now" "LNewCoins$Land;", Cond.methodLink RX6 137 yX4_tillAt, Cond.instanceMethod yX4_tillAt, Cond.selects RX4 yX4_tillAt yX4_tillAt, Cond.initialized RX4, Cond.code yX4_tillAt cX4_tillAt 2 (some (.object "NewCoins$Till")), Cond.fieldLink RX4 38 "NewCoins$Land" "tillCount" "I", Cond.fieldLink RX4 30 "NewCoins$Land" "tills" "[LNewCoins$Till;", Cond.static yX6_within, Cond.initialized RX6, Cond.code yX6_within cX6_within 3 (some .boolean), Cond.methodLink RX6 141 yX4_isCoin, Cond.instanceMethod yX4_isCoin, Cond.selects RX4 yX4_isCoin yX4_isCoin, Cond.code yX4_isCoin cX4_isCoin 4 (some .boolean), Cond.methodLink RX4 72 yX4_coinageOf, Cond.instanceMethod yX4_coinageOf, Cond.selects RX4 yX4_coinageOf yX4_coinageOf, Cond.code yX4_coinageOf cX4_coinageOf 2 (some (.object "NewCoins$Coinage")), Cond.fieldLink RX4 12 "NewCoins$Land" "old" "LNewCoins$Coinage;", Cond.fieldLink RX4 18 "NewCoins$Land" "fresh" "LNewCoins$Coinage;", Cond.methodLink RX4 76 yX1_isCoin, Cond.instanceMethod yX1_isCoin, Cond.selects RX1 yX1_isCoin yX1_isCoin]
def wsX6_has_r2 : List Cond := [Cond.initialized RX1, Cond.code yX1_isCoin cX1_isCoin 2 (some .boolean), Cond.fieldLink RX1 9 "NewCoins$Coinage" "count" "I", Cond.methodLink RX6 144 yX5_countsOf, Cond.instanceMethod yX5_countsOf, Cond.selects RX5 yX5_countsOf yX5_countsOf, Cond.initialized RX5, Cond.code yX5_countsOf cX5_countsOf 2 (some (.array .int)), Cond.fieldLink RX5 9 "NewCoins$Till" "old" "[I", Cond.fieldLink RX5 15 "NewCoins$Till" "fresh" "[I"]
def wsX6_has : List Cond := .code yX6_has cX6_has 5 (some .int) :: ((wsX6_has_r1 ++ wsX6_has_r2) ++ wsX60 ++ wsX40 ++ wsX10 ++ wsX50)
def wsX6_draw_r1 : List Cond := [Cond.fieldLink RX6 10 "NewCoins" "now" "LNewCoins$Land;", Cond.constantLong RX6 186 (-1), Cond.fieldLink RX6 192 "NewCoins$Till" "old" "[I", Cond.fieldLink RX6 209 "NewCoins$Land" "drawnIn" "[I", Cond.methodLink RX6 137 yX4_tillAt, Cond.instanceMethod yX4_tillAt, Cond.selects RX4 yX4_tillAt yX4_tillAt, Cond.initialized RX4, Cond.code yX4_tillAt cX4_tillAt 2 (some (.object "NewCoins$Till")), Cond.fieldLink RX4 38 "NewCoins$Land" "tillCount" "I", Cond.fieldLink RX4 30 "NewCoins$Land" "tills" "[LNewCoins$Till;", Cond.static yX6_within, Cond.initialized RX6, Cond.code yX6_within cX6_within 3 (some .boolean), Cond.methodLink RX6 195 yX4_partsOf, Cond.instanceMethod yX4_partsOf, Cond.selects RX4 yX4_partsOf yX4_partsOf, Cond.code yX4_partsOf cX4_partsOf 7 (some .long), Cond.fieldLink RX4 93 "NewCoins$Coinage" "count" "I", Cond.fieldLink RX4 86 "NewCoins$Coinage" "values" "[I", Cond.methodLink RX4 72 yX4_coinageOf, Cond.instanceMethod yX4_coinageOf, Cond.selects RX4 yX4_coinageOf yX4_coinageOf, Cond.code yX4_coinageOf cX4_coinageOf 2 (some (.object "NewCoins$Coinage"))]
def wsX6_draw_r2 : List Cond := [Cond.fieldLink RX4 12 "NewCoins$Land" "old" "LNewCoins$Coinage;", Cond.fieldLink RX4 18 "NewCoins$Land" "fresh" "LNewCoins$Coinage;", Cond.methodLink RX4 89 yX4_unitParts, Cond.instanceMethod yX4_unitParts, Cond.selects RX4 yX4_unitParts yX4_unitParts, Cond.code yX4_unitParts cX4_unitParts 2 (some .int), Cond.fieldLink RX4 42 "NewCoins$Land" "a" "I", Cond.fieldLink RX4 45 "NewCoins$Land" "b" "I"]
def wsX6_draw : List Cond := .code yX6_draw cX6_draw 6 (some .long) :: ((wsX6_draw_r1 ++ wsX6_draw_r2) ++ wsX60 ++ wsX50 ++ wsX40 ++ wsX10)
def wsX6_drawn : List Cond := .code yX6_drawn cX6_drawn 2 (some .int) :: ([.fieldLink RX6 10 "NewCoins" "now" "LNewCoins$Land;", .fieldLink RX6 209 "NewCoins$Land" "drawnIn" "[I", .methodLink RX6 141 yX4_isCoin, .instanceMethod yX4_isCoin, .selects RX4 yX4_isCoin yX4_isCoin, .initialized RX4, .code yX4_isCoin cX4_isCoin 4 (some .boolean), .methodLink RX4 72 yX4_coinageOf, .instanceMethod yX4_coinageOf, .selects RX4 yX4_coinageOf yX4_coinageOf, .code yX4_coinageOf cX4_coinageOf 2 (some (.object "NewCoins$Coinage")), .fieldLink RX4 12 "NewCoins$Land" "old" "LNewCoins$Coinage;", .fieldLink RX4 18 "NewCoins$Land" "fresh" "LNewCoins$Coinage;", .methodLink RX4 76 yX1_isCoin, .instanceMethod yX1_isCoin, .selects RX1 yX1_isCoin yX1_isCoin, .initialized RX1, .code yX1_isCoin cX1_isCoin 2 (some .boolean), .fieldLink RX1 9 "NewCoins$Coinage" "count" "I", .static yX6_within, .initialized RX6, .code yX6_within cX6_within 3 (some .boolean)] ++ wsX60 ++ wsX40 ++ wsX10)
def wsX6_expect_r1 : List Cond := [Cond.fieldLink RX6 10 "NewCoins" "now" "LNewCoins$Land;", Cond.fieldLink RX6 202 "NewCoins$Till" "expected" "LNewCoins$Expected;", Cond.methodLink RX6 137 yX4_tillAt, Cond.instanceMethod yX4_tillAt, Cond.selects RX4 yX4_tillAt yX4_tillAt, Cond.initialized RX4, Cond.code yX4_tillAt cX4_tillAt 2 (some (.object "NewCoins$Till")), Cond.fieldLink RX4 38 "NewCoins$Land" "tillCount" "I", Cond.fieldLink RX4 30 "NewCoins$Land" "tills" "[LNewCoins$Till;", Cond.static yX6_within, Cond.initialized RX6, Cond.code yX6_within cX6_within 3 (some .boolean), Cond.methodLink RX6 152 yX4_isSale, Cond.instanceMethod yX4_isSale, Cond.selects RX4 yX4_isSale yX4_isSale, Cond.code yX4_isSale cX4_isSale 5 (some .boolean), Cond.methodLink RX4 80 yX4_isCoin, Cond.instanceMethod yX4_isCoin, Cond.selects RX4 yX4_isCoin yX4_isCoin, Cond.code yX4_isCoin cX4_isCoin 4 (some .boolean), Cond.methodLink RX4 72 yX4_coinageOf, Cond.instanceMethod yX4_coinageOf, Cond.selects RX4 yX4_coinageOf yX4_coinageOf, Cond.code yX4_coinageOf cX4_coinageOf 2 (some (.object "NewCoins$Coinage"))]
def wsX6_expect_r2 : List Cond := [Cond.fieldLink RX4 12 "NewCoins$Land" "old" "LNewCoins$Coinage;", Cond.fieldLink RX4 18 "NewCoins$Land" "fresh" "LNewCoins$Coinage;", Cond.methodLink RX4 76 yX1_isCoin, Cond.instanceMethod yX1_isCoin, Cond.selects RX1 yX1_isCoin yX1_isCoin, Cond.initialized RX1, Cond.code yX1_isCoin cX1_isCoin 2 (some .boolean), Cond.fieldLink RX1 9 "NewCoins$Coinage" "count" "I", Cond.methodLink RX6 212 yX2_add, Cond.instanceMethod yX2_add, Cond.selects RX2 yX2_add yX2_add, Cond.initialized RX2, Cond.code yX2_add cX2_add 5 (some .int), Cond.fieldLink RX2 9 "NewCoins$Expected" "count" "I", Cond.fieldLink RX2 15 "NewCoins$Expected" "prices" "[I", Cond.fieldLink RX2 19 "NewCoins$Expected" "systems" "[I", Cond.fieldLink RX2 22 "NewCoins$Expected" "coins" "[I", Cond.fieldLink RX2 25 "NewCoins$Expected" "numbers" "[I"]
def wsX6_expect : List Cond := .code yX6_expect cX6_expect 7 (some .int) :: ((wsX6_expect_r1 ++ wsX6_expect_r2) ++ wsX60 ++ wsX50 ++ wsX40 ++ wsX10 ++ wsX20)
def wsX6_forget : List Cond := .code yX6_forget cX6_forget 3 (some .boolean) :: ([.fieldLink RX6 10 "NewCoins" "now" "LNewCoins$Land;", .fieldLink RX6 202 "NewCoins$Till" "expected" "LNewCoins$Expected;", .fieldLink RX6 206 "NewCoins$Expected" "count" "I", .methodLink RX6 137 yX4_tillAt, .instanceMethod yX4_tillAt, .selects RX4 yX4_tillAt yX4_tillAt, .initialized RX4, .code yX4_tillAt cX4_tillAt 2 (some (.object "NewCoins$Till")), .fieldLink RX4 38 "NewCoins$Land" "tillCount" "I", .fieldLink RX4 30 "NewCoins$Land" "tills" "[LNewCoins$Till;", .static yX6_within, .initialized RX6, .code yX6_within cX6_within 3 (some .boolean)] ++ wsX60 ++ wsX50 ++ wsX20 ++ wsX40)
def wsX6_mostLacking_r1 : List Cond := [Cond.fieldLink RX6 206 "NewCoins$Expected" "count" "I", Cond.fieldLink RX6 226 "NewCoins$Expected" "numbers" "[I", Cond.fieldLink RX6 10 "NewCoins" "now" "LNewCoins$Land;", Cond.fieldLink RX6 229 "NewCoins$Expected" "prices" "[I", Cond.fieldLink RX6 232 "NewCoins$Expected" "systems" "[I", Cond.fieldLink RX6 235 "NewCoins$Expected" "coins" "[I", Cond.fieldLink RX6 61 "NewCoins$Land" "b" "I", Cond.fieldLink RX6 163 "NewCoins$Land" "fresh" "LNewCoins$Coinage;", Cond.fieldLink RX6 31 "NewCoins" "fewestRow" "[I", Cond.methodLink RX6 238 Lib.Math.max.name, Cond.static Lib.Math.max.name, Cond.initialized "java/lang/Math", Cond.code Lib.Math.max.name Lib.Math.max.code 2 (some .int), Cond.methodLink RX6 156 yX4_spareParts, Cond.instanceMethod yX4_spareParts, Cond.selects RX4 yX4_spareParts yX4_spareParts, Cond.initialized RX4, Cond.code yX4_spareParts cX4_spareParts 6 (some .int), Cond.fieldLink RX4 86 "NewCoins$Coinage" "values" "[I", Cond.fieldLink RX4 45 "NewCoins$Land" "b" "I", Cond.methodLink RX4 72 yX4_coinageOf, Cond.instanceMethod yX4_coinageOf, Cond.selects RX4 yX4_coinageOf yX4_coinageOf, Cond.code yX4_coinageOf cX4_coinageOf 2 (some (.object "NewCoins$Coinage"))]
def wsX6_mostLacking_r2 : List Cond := [Cond.fieldLink RX4 12 "NewCoins$Land" "old" "LNewCoins$Coinage;", Cond.fieldLink RX4 18 "NewCoins$Land" "fresh" "LNewCoins$Coinage;", Cond.methodLink RX4 76 yX1_isCoin, Cond.instanceMethod yX1_isCoin, Cond.selects RX1 yX1_isCoin yX1_isCoin, Cond.initialized RX1, Cond.code yX1_isCoin cX1_isCoin 2 (some .boolean), Cond.fieldLink RX1 9 "NewCoins$Coinage" "count" "I", Cond.static yX6_within, Cond.initialized RX6, Cond.code yX6_within cX6_within 3 (some .boolean), Cond.methodLink RX4 89 yX4_unitParts, Cond.instanceMethod yX4_unitParts, Cond.selects RX4 yX4_unitParts yX4_unitParts, Cond.code yX4_unitParts cX4_unitParts 2 (some .int), Cond.fieldLink RX4 42 "NewCoins$Land" "a" "I", Cond.methodLink RX6 160 yX6_wholeTimes, Cond.static yX6_wholeTimes, Cond.code yX6_wholeTimes cX6_wholeTimes 2 (some .int), Cond.methodLink RX6 111 yX1_hasFewest, Cond.instanceMethod yX1_hasFewest, Cond.selects RX1 yX1_hasFewest yX1_hasFewest, Cond.code yX1_hasFewest cX1_hasFewest 2 (some .boolean), Cond.fieldLink RX1 22 "NewCoins$Coinage" "least" "[I"]
def wsX6_mostLacking_r3 : List Cond := [Cond.static yX6_isSum, Cond.code yX6_isSum cX6_isSum 1 (some .boolean), Cond.methodLink RX6 49 yX6_within, Cond.methodLink RX6 120 yX1_writeFewest, Cond.instanceMethod yX1_writeFewest, Cond.selects RX1 yX1_writeFewest yX1_writeFewest, Cond.code yX1_writeFewest cX1_writeFewest 8 none, Cond.fieldLink RX1 15 "NewCoins$Coinage" "values" "[I", Cond.fieldLink RX1 19 "NewCoins$Coinage" "falling" "[I"]
def wsX6_mostLacking : List Cond := .code yX6_mostLacking cX6_mostLacking 9 (some .int) :: ((wsX6_mostLacking_r1 ++ (wsX6_mostLacking_r2 ++ wsX6_mostLacking_r3)) ++ wsX20 ++ wsX60 ++ wsX40 ++ wsX10)
def wsX6_wanted_r1 : List Cond := [Cond.fieldLink RX6 10 "NewCoins" "now" "LNewCoins$Land;", Cond.fieldLink RX6 202 "NewCoins$Till" "expected" "LNewCoins$Expected;", Cond.methodLink RX6 137 yX4_tillAt, Cond.instanceMethod yX4_tillAt, Cond.selects RX4 yX4_tillAt yX4_tillAt, Cond.initialized RX4, Cond.code yX4_tillAt cX4_tillAt 2 (some (.object "NewCoins$Till")), Cond.fieldLink RX4 38 "NewCoins$Land" "tillCount" "I", Cond.fieldLink RX4 30 "NewCoins$Land" "tills" "[LNewCoins$Till;", Cond.static yX6_within, Cond.initialized RX6, Cond.code yX6_within cX6_within 3 (some .boolean), Cond.methodLink RX6 141 yX4_isCoin, Cond.instanceMethod yX4_isCoin, Cond.selects RX4 yX4_isCoin yX4_isCoin, Cond.code yX4_isCoin cX4_isCoin 4 (some .boolean), Cond.methodLink RX4 72 yX4_coinageOf, Cond.instanceMethod yX4_coinageOf, Cond.selects RX4 yX4_coinageOf yX4_coinageOf, Cond.code yX4_coinageOf cX4_coinageOf 2 (some (.object "NewCoins$Coinage")), Cond.fieldLink RX4 12 "NewCoins$Land" "old" "LNewCoins$Coinage;", Cond.fieldLink RX4 18 "NewCoins$Land" "fresh" "LNewCoins$Coinage;", Cond.methodLink RX4 76 yX1_isCoin, Cond.instanceMethod yX1_isCoin]
def wsX6_wanted_r2 : List Cond := [Cond.selects RX1 yX1_isCoin yX1_isCoin, Cond.initialized RX1, Cond.code yX1_isCoin cX1_isCoin 2 (some .boolean), Cond.fieldLink RX1 9 "NewCoins$Coinage" "count" "I", Cond.methodLink RX6 214 yX6_mostLacking, Cond.instanceMethod yX6_mostLacking, Cond.selects RX6 yX6_mostLacking yX6_mostLacking, Cond.code yX6_mostLacking cX6_mostLacking 9 (some .int), Cond.fieldLink RX6 206 "NewCoins$Expected" "count" "I", Cond.fieldLink RX6 226 "NewCoins$Expected" "numbers" "[I", Cond.fieldLink RX6 229 "NewCoins$Expected" "prices" "[I", Cond.fieldLink RX6 232 "NewCoins$Expected" "systems" "[I", Cond.fieldLink RX6 235 "NewCoins$Expected" "coins" "[I", Cond.fieldLink RX6 61 "NewCoins$Land" "b" "I", Cond.fieldLink RX6 163 "NewCoins$Land" "fresh" "LNewCoins$Coinage;", Cond.fieldLink RX6 31 "NewCoins" "fewestRow" "[I", Cond.methodLink RX6 238 Lib.Math.max.name, Cond.static Lib.Math.max.name, Cond.initialized "java/lang/Math", Cond.code Lib.Math.max.name Lib.Math.max.code 2 (some .int), Cond.methodLink RX6 156 yX4_spareParts, Cond.instanceMethod yX4_spareParts, Cond.selects RX4 yX4_spareParts yX4_spareParts, Cond.code yX4_spareParts cX4_spareParts 6 (some .int)]
def wsX6_wanted_r3 : List Cond := [Cond.fieldLink RX4 86 "NewCoins$Coinage" "values" "[I", Cond.fieldLink RX4 45 "NewCoins$Land" "b" "I", Cond.methodLink RX4 89 yX4_unitParts, Cond.instanceMethod yX4_unitParts, Cond.selects RX4 yX4_unitParts yX4_unitParts, Cond.code yX4_unitParts cX4_unitParts 2 (some .int), Cond.fieldLink RX4 42 "NewCoins$Land" "a" "I", Cond.methodLink RX6 160 yX6_wholeTimes, Cond.static yX6_wholeTimes, Cond.code yX6_wholeTimes cX6_wholeTimes 2 (some .int), Cond.methodLink RX6 111 yX1_hasFewest, Cond.instanceMethod yX1_hasFewest, Cond.selects RX1 yX1_hasFewest yX1_hasFewest, Cond.code yX1_hasFewest cX1_hasFewest 2 (some .boolean), Cond.fieldLink RX1 22 "NewCoins$Coinage" "least" "[I", Cond.static yX6_isSum, Cond.code yX6_isSum cX6_isSum 1 (some .boolean), Cond.methodLink RX6 49 yX6_within, Cond.methodLink RX6 120 yX1_writeFewest, Cond.instanceMethod yX1_writeFewest, Cond.selects RX1 yX1_writeFewest yX1_writeFewest, Cond.code yX1_writeFewest cX1_writeFewest 8 none, Cond.fieldLink RX1 15 "NewCoins$Coinage" "values" "[I", Cond.fieldLink RX1 19 "NewCoins$Coinage" "falling" "[I"]
def wsX6_wanted : List Cond := .code yX6_wanted cX6_wanted 4 (some .int) :: ((wsX6_wanted_r1 ++ (wsX6_wanted_r2 ++ wsX6_wanted_r3)) ++ wsX60 ++ wsX50 ++ wsX40 ++ wsX10 ++ wsX20)
def wsX6_about_r1 : List Cond := [Cond.fieldLink RX6 10 "NewCoins" "now" "LNewCoins$Land;", Cond.methodLink RX6 218 yX4_detail, Cond.instanceMethod yX4_detail, Cond.selects RX4 yX4_detail yX4_detail, Cond.initialized RX4, Cond.code yX4_detail cX4_detail 2 (some .int), Cond.fieldLink RX4 24 "NewCoins$Land" "goods" "LNewCoins$Goods;", Cond.fieldLink RX4 113 "NewCoins$Goods" "count" "I", Cond.fieldLink RX4 38 "NewCoins$Land" "tillCount" "I", Cond.fieldLink RX4 42 "NewCoins$Land" "a" "I", Cond.fieldLink RX4 45 "NewCoins$Land" "b" "I", Cond.fieldLink RX4 48 "NewCoins$Land" "step" "I", Cond.methodLink RX4 114 yX4_goodDetail, Cond.instanceMethod yX4_goodDetail, Cond.selects RX4 yX4_goodDetail yX4_goodDetail, Cond.code yX4_goodDetail cX4_goodDetail 2 (some .int), Cond.fieldLink RX4 96 "NewCoins$Goods" "prices" "[I", Cond.fieldLink RX4 110 "NewCoins$Goods" "times" "[I", Cond.methodLink RX4 117 yX3_isGood, Cond.instanceMethod yX3_isGood, Cond.selects RX3 yX3_isGood yX3_isGood, Cond.initialized RX3, Cond.code yX3_isGood cX3_isGood 2 (some .boolean), Cond.fieldLink RX3 9 "NewCoins$Goods" "count" "I"]
def wsX6_about_r2 : List Cond := [Cond.static yX6_within, Cond.initialized RX6, Cond.code yX6_within cX6_within 3 (some .boolean), Cond.methodLink RX6 39 yX4_coinageOf, Cond.instanceMethod yX4_coinageOf, Cond.selects RX4 yX4_coinageOf yX4_coinageOf, Cond.code yX4_coinageOf cX4_coinageOf 2 (some (.object "NewCoins$Coinage")), Cond.fieldLink RX4 12 "NewCoins$Land" "old" "LNewCoins$Coinage;", Cond.fieldLink RX4 18 "NewCoins$Land" "fresh" "LNewCoins$Coinage;", Cond.methodLink RX6 221 yX1_detail, Cond.instanceMethod yX1_detail, Cond.selects RX1 yX1_detail yX1_detail, Cond.initialized RX1, Cond.code yX1_detail cX1_detail 2 (some .int), Cond.fieldLink RX1 9 "NewCoins$Coinage" "count" "I", Cond.fieldLink RX1 15 "NewCoins$Coinage" "values" "[I", Cond.methodLink RX1 63 yX1_isCoin, Cond.instanceMethod yX1_isCoin, Cond.selects RX1 yX1_isCoin yX1_isCoin, Cond.code yX1_isCoin cX1_isCoin 2 (some .boolean)]
def wsX6_about : List Cond := .code yX6_about cX6_about 4 (some .int) :: ((wsX6_about_r1 ++ wsX6_about_r2) ++ wsX60 ++ wsX40 ++ wsX30 ++ wsX10)
def wsX6_image_r1 : List Cond := [Cond.fieldLink RX6 16 "NewCoins" "images" "[LNewCoins$Land;", Cond.fieldLink RX6 10 "NewCoins" "now" "LNewCoins$Land;", Cond.fieldLink RX6 20 "NewCoins" "taken" "[Z", Cond.methodLink RX6 49 yX6_within, Cond.static yX6_within, Cond.initialized RX6, Cond.code yX6_within cX6_within 3 (some .boolean), Cond.methodLink RX6 222 yX4_copyFrom, Cond.instanceMethod yX4_copyFrom, Cond.selects RX4 yX4_copyFrom yX4_copyFrom, Cond.initialized RX4, Cond.code yX4_copyFrom cX4_copyFrom 3 none, Cond.fieldLink RX4 12 "NewCoins$Land" "old" "LNewCoins$Coinage;", Cond.fieldLink RX4 18 "NewCoins$Land" "fresh" "LNewCoins$Coinage;", Cond.fieldLink RX4 24 "NewCoins$Land" "goods" "LNewCoins$Goods;", Cond.fieldLink RX4 30 "NewCoins$Land" "tills" "[LNewCoins$Till;", Cond.fieldLink RX4 34 "NewCoins$Land" "drawnIn" "[I", Cond.methodLink RX4 62 arraycopyName, Cond.native arraycopyName, Cond.static arraycopyName, Cond.initialized "java/lang/System", Cond.fieldLink RX4 38 "NewCoins$Land" "tillCount" "I", Cond.fieldLink RX4 42 "NewCoins$Land" "a" "I", Cond.fieldLink RX4 45 "NewCoins$Land" "b" "I"]
def wsX6_image_r2 : List Cond := [Cond.fieldLink RX4 48 "NewCoins$Land" "step" "I", Cond.methodLink RX4 52 yX1_copyFrom, Cond.instanceMethod yX1_copyFrom, Cond.selects RX1 yX1_copyFrom yX1_copyFrom, Cond.initialized RX1, Cond.code yX1_copyFrom cX1_copyFrom 2 none, Cond.fieldLink RX1 9 "NewCoins$Coinage" "count" "I", Cond.fieldLink RX1 15 "NewCoins$Coinage" "values" "[I", Cond.methodLink RX1 31 arraycopyName, Cond.fieldLink RX1 19 "NewCoins$Coinage" "falling" "[I", Cond.fieldLink RX1 22 "NewCoins$Coinage" "least" "[I", Cond.methodLink RX4 56 yX3_copyFrom, Cond.instanceMethod yX3_copyFrom, Cond.selects RX3 yX3_copyFrom yX3_copyFrom, Cond.initialized RX3, Cond.code yX3_copyFrom cX3_copyFrom 2 none, Cond.fieldLink RX3 9 "NewCoins$Goods" "count" "I", Cond.fieldLink RX3 15 "NewCoins$Goods" "prices" "[I", Cond.methodLink RX3 22 arraycopyName, Cond.fieldLink RX3 19 "NewCoins$Goods" "times" "[I", Cond.methodLink RX4 59 yX5_copyFrom, Cond.instanceMethod yX5_copyFrom, Cond.selects RX5 yX5_copyFrom yX5_copyFrom, Cond.initialized RX5]
def wsX6_image_r3 : List Cond := [Cond.code yX5_copyFrom cX5_copyFrom 2 none, Cond.fieldLink RX5 9 "NewCoins$Till" "old" "[I", Cond.methodLink RX5 39 arraycopyName, Cond.fieldLink RX5 15 "NewCoins$Till" "fresh" "[I", Cond.fieldLink RX5 18 "NewCoins$Till" "latest" "[I", Cond.fieldLink RX5 24 "NewCoins$Till" "expected" "LNewCoins$Expected;", Cond.fieldLink RX5 28 "NewCoins$Till" "sales" "I", Cond.fieldLink RX5 32 "NewCoins$Till" "scraps" "J", Cond.fieldLink RX5 36 "NewCoins$Till" "takings" "J", Cond.methodLink RX5 45 yX2_copyFrom, Cond.instanceMethod yX2_copyFrom, Cond.selects RX2 yX2_copyFrom yX2_copyFrom, Cond.initialized RX2, Cond.code yX2_copyFrom cX2_copyFrom 2 none, Cond.fieldLink RX2 9 "NewCoins$Expected" "count" "I", Cond.fieldLink RX2 15 "NewCoins$Expected" "prices" "[I", Cond.methodLink RX2 28 arraycopyName, Cond.fieldLink RX2 19 "NewCoins$Expected" "systems" "[I", Cond.fieldLink RX2 22 "NewCoins$Expected" "coins" "[I", Cond.fieldLink RX2 25 "NewCoins$Expected" "numbers" "[I"]
def wsX6_image : List Cond := .code yX6_image cX6_image 2 (some .boolean) :: ((wsX6_image_r1 ++ (wsX6_image_r2 ++ wsX6_image_r3)) ++ wsX60 ++ wsX40 ++ wsX10 ++ wsX30 ++ wsX50 ++ wsX20)
def wsX6_again_r1 : List Cond := [Cond.fieldLink RX6 20 "NewCoins" "taken" "[Z", Cond.fieldLink RX6 10 "NewCoins" "now" "LNewCoins$Land;", Cond.fieldLink RX6 16 "NewCoins" "images" "[LNewCoins$Land;", Cond.methodLink RX6 49 yX6_within, Cond.static yX6_within, Cond.initialized RX6, Cond.code yX6_within cX6_within 3 (some .boolean), Cond.methodLink RX6 222 yX4_copyFrom, Cond.instanceMethod yX4_copyFrom, Cond.selects RX4 yX4_copyFrom yX4_copyFrom, Cond.initialized RX4, Cond.code yX4_copyFrom cX4_copyFrom 3 none, Cond.fieldLink RX4 12 "NewCoins$Land" "old" "LNewCoins$Coinage;", Cond.fieldLink RX4 18 "NewCoins$Land" "fresh" "LNewCoins$Coinage;", Cond.fieldLink RX4 24 "NewCoins$Land" "goods" "LNewCoins$Goods;", Cond.fieldLink RX4 30 "NewCoins$Land" "tills" "[LNewCoins$Till;", Cond.fieldLink RX4 34 "NewCoins$Land" "drawnIn" "[I", Cond.methodLink RX4 62 arraycopyName, Cond.native arraycopyName, Cond.static arraycopyName, Cond.initialized "java/lang/System", Cond.fieldLink RX4 38 "NewCoins$Land" "tillCount" "I", Cond.fieldLink RX4 42 "NewCoins$Land" "a" "I", Cond.fieldLink RX4 45 "NewCoins$Land" "b" "I"]
def wsX6_again_r2 : List Cond := [Cond.fieldLink RX4 48 "NewCoins$Land" "step" "I", Cond.methodLink RX4 52 yX1_copyFrom, Cond.instanceMethod yX1_copyFrom, Cond.selects RX1 yX1_copyFrom yX1_copyFrom, Cond.initialized RX1, Cond.code yX1_copyFrom cX1_copyFrom 2 none, Cond.fieldLink RX1 9 "NewCoins$Coinage" "count" "I", Cond.fieldLink RX1 15 "NewCoins$Coinage" "values" "[I", Cond.methodLink RX1 31 arraycopyName, Cond.fieldLink RX1 19 "NewCoins$Coinage" "falling" "[I", Cond.fieldLink RX1 22 "NewCoins$Coinage" "least" "[I", Cond.methodLink RX4 56 yX3_copyFrom, Cond.instanceMethod yX3_copyFrom, Cond.selects RX3 yX3_copyFrom yX3_copyFrom, Cond.initialized RX3, Cond.code yX3_copyFrom cX3_copyFrom 2 none, Cond.fieldLink RX3 9 "NewCoins$Goods" "count" "I", Cond.fieldLink RX3 15 "NewCoins$Goods" "prices" "[I", Cond.methodLink RX3 22 arraycopyName, Cond.fieldLink RX3 19 "NewCoins$Goods" "times" "[I", Cond.methodLink RX4 59 yX5_copyFrom, Cond.instanceMethod yX5_copyFrom, Cond.selects RX5 yX5_copyFrom yX5_copyFrom, Cond.initialized RX5]
def wsX6_again_r3 : List Cond := [Cond.code yX5_copyFrom cX5_copyFrom 2 none, Cond.fieldLink RX5 9 "NewCoins$Till" "old" "[I", Cond.methodLink RX5 39 arraycopyName, Cond.fieldLink RX5 15 "NewCoins$Till" "fresh" "[I", Cond.fieldLink RX5 18 "NewCoins$Till" "latest" "[I", Cond.fieldLink RX5 24 "NewCoins$Till" "expected" "LNewCoins$Expected;", Cond.fieldLink RX5 28 "NewCoins$Till" "sales" "I", Cond.fieldLink RX5 32 "NewCoins$Till" "scraps" "J", Cond.fieldLink RX5 36 "NewCoins$Till" "takings" "J", Cond.methodLink RX5 45 yX2_copyFrom, Cond.instanceMethod yX2_copyFrom, Cond.selects RX2 yX2_copyFrom yX2_copyFrom, Cond.initialized RX2, Cond.code yX2_copyFrom cX2_copyFrom 2 none, Cond.fieldLink RX2 9 "NewCoins$Expected" "count" "I", Cond.fieldLink RX2 15 "NewCoins$Expected" "prices" "[I", Cond.methodLink RX2 28 arraycopyName, Cond.fieldLink RX2 19 "NewCoins$Expected" "systems" "[I", Cond.fieldLink RX2 22 "NewCoins$Expected" "coins" "[I", Cond.fieldLink RX2 25 "NewCoins$Expected" "numbers" "[I"]
def wsX6_again : List Cond := .code yX6_again cX6_again 2 (some .boolean) :: ((wsX6_again_r1 ++ (wsX6_again_r2 ++ wsX6_again_r3)) ++ wsX60 ++ wsX40 ++ wsX10 ++ wsX30 ++ wsX50 ++ wsX20)
def wsX7_init_r1 : List Cond := [Cond.methodLink RX7 1 objectInit, Cond.instanceMethod objectInit, Cond.code objectInit ⟨#[0xb1]⟩ 1 none, Cond.arrayClass .int, Cond.fieldLink RX7 7 "NewCoinsModel" "coins" "[I", Cond.fieldLink RX7 13 "NewCoinsModel" "value" "[I", Cond.fieldLink RX7 16 "NewCoinsModel" "rates" "[I", Cond.fieldLink RX7 19 "NewCoinsModel" "sales" "[I", Cond.fieldLink RX7 22 "NewCoinsModel" "goods" "[I", Cond.fieldLink RX7 25 "NewCoinsModel" "prices" "[I", Cond.fieldLink RX7 28 "NewCoinsModel" "times" "[I", Cond.fieldLink RX7 31 "NewCoinsModel" "steps" "[I", Cond.fieldLink RX7 34 "NewCoinsModel" "tills" "[I", Cond.fieldLink RX7 37 "NewCoinsModel" "tillSales" "[I", Cond.arrayClass .long, Cond.fieldLink RX7 40 "NewCoinsModel" "scraps" "[J", Cond.fieldLink RX7 44 "NewCoinsModel" "paid" "[J", Cond.fieldLink RX7 47 "NewCoinsModel" "expected" "[I", Cond.fieldLink RX7 50 "NewCoinsModel" "has" "[I", Cond.fieldLink RX7 53 "NewCoinsModel" "gave" "[I", Cond.fieldLink RX7 56 "NewCoinsModel" "drawnIn" "[I", Cond.fieldLink RX7 59 "NewCoinsModel" "expects" "[I", Cond.fieldLink RX7 62 "NewCoinsModel" "one" "[J", Cond.fieldLink RX7 65 "NewCoinsModel" "by" "[I"]
def wsX7_init_r2 : List Cond := [Cond.fieldLink RX7 68 "NewCoinsModel" "few" "[I", Cond.fieldLink RX7 71 "NewCoinsModel" "take" "[I", Cond.fieldLink RX7 74 "NewCoinsModel" "bound" "[I", Cond.fieldLink RX7 77 "NewCoinsModel" "least" "[I", Cond.fieldLink RX7 80 "NewCoinsModel" "pool" "[I", Cond.fieldLink RX7 83 "NewCoinsModel" "want" "[I", Cond.arrayClass .boolean, Cond.fieldLink RX7 86 "NewCoinsModel" "kept" "[Z"]
def wsX7_init : List Cond := .code yX7_init cX7_init 1 none :: ((wsX7_init_r1 ++ wsX7_init_r2) ++ wsX70)
def wsX7_in : List Cond := .code yX7_in cX7_in 3 (some .boolean) :: ([])
def wsX7_move : List Cond := .code yX7_move cX7_move 5 none :: ([])
def wsX7_copy : List Cond := .code yX7_copy cX7_copy 4 none :: ([.fieldLink RX7 7 "NewCoinsModel" "coins" "[I", .fieldLink RX7 13 "NewCoinsModel" "value" "[I", .fieldLink RX7 16 "NewCoinsModel" "rates" "[I", .fieldLink RX7 19 "NewCoinsModel" "sales" "[I", .fieldLink RX7 22 "NewCoinsModel" "goods" "[I", .fieldLink RX7 25 "NewCoinsModel" "prices" "[I", .fieldLink RX7 28 "NewCoinsModel" "times" "[I", .fieldLink RX7 31 "NewCoinsModel" "steps" "[I", .fieldLink RX7 34 "NewCoinsModel" "tills" "[I", .fieldLink RX7 37 "NewCoinsModel" "tillSales" "[I", .fieldLink RX7 47 "NewCoinsModel" "expected" "[I", .fieldLink RX7 50 "NewCoinsModel" "has" "[I", .fieldLink RX7 53 "NewCoinsModel" "gave" "[I", .fieldLink RX7 56 "NewCoinsModel" "drawnIn" "[I", .fieldLink RX7 59 "NewCoinsModel" "expects" "[I", .fieldLink RX7 40 "NewCoinsModel" "scraps" "[J", .fieldLink RX7 44 "NewCoinsModel" "paid" "[J", .methodLink RX7 94 yX7_move, .static yX7_move, .initialized RX7, .code yX7_move cX7_move 5 none] ++ wsX70)
def wsX7_isCoin : List Cond := .code yX7_isCoin cX7_isCoin 3 (some .boolean) :: ([.fieldLink RX7 7 "NewCoinsModel" "coins" "[I", .methodLink RX7 98 yX7_in, .static yX7_in, .initialized RX7, .code yX7_in cX7_in 3 (some .boolean)] ++ wsX70)
def wsX7_coin : List Cond := .code yX7_coin cX7_coin 4 (some .int) :: ([.fieldLink RX7 90 "NewCoinsModel" "code" "I", .fieldLink RX7 7 "NewCoinsModel" "coins" "[I", .fieldLink RX7 13 "NewCoinsModel" "value" "[I", .methodLink RX7 98 yX7_in, .static yX7_in, .initialized RX7, .code yX7_in cX7_in 3 (some .boolean)] ++ wsX70)
def wsX7_rate : List Cond := .code yX7_rate cX7_rate 3 (some .boolean) :: ([.fieldLink RX7 90 "NewCoinsModel" "code" "I", .fieldLink RX7 19 "NewCoinsModel" "sales" "[I", .fieldLink RX7 16 "NewCoinsModel" "rates" "[I", .methodLink RX7 98 yX7_in, .static yX7_in, .initialized RX7, .code yX7_in cX7_in 3 (some .boolean)] ++ wsX70)
def wsX7_isGood : List Cond := .code yX7_isGood cX7_isGood 2 (some .boolean) :: ([.fieldLink RX7 22 "NewCoinsModel" "goods" "[I", .methodLink RX7 98 yX7_in, .static yX7_in, .initialized RX7, .code yX7_in cX7_in 3 (some .boolean)] ++ wsX70)
def wsX7_good : List Cond := .code yX7_good cX7_good 3 (some .int) :: ([.fieldLink RX7 90 "NewCoinsModel" "code" "I", .fieldLink RX7 22 "NewCoinsModel" "goods" "[I", .fieldLink RX7 25 "NewCoinsModel" "prices" "[I", .fieldLink RX7 28 "NewCoinsModel" "times" "[I", .methodLink RX7 98 yX7_in, .static yX7_in, .initialized RX7, .code yX7_in cX7_in 3 (some .boolean)] ++ wsX70)
def wsX7_sold : List Cond := .code yX7_sold cX7_sold 3 (some .boolean) :: ([.fieldLink RX7 90 "NewCoinsModel" "code" "I", .fieldLink RX7 28 "NewCoinsModel" "times" "[I", .methodLink RX7 102 yX7_isGood, .instanceMethod yX7_isGood, .selects RX7 yX7_isGood yX7_isGood, .initialized RX7, .code yX7_isGood cX7_isGood 2 (some .boolean), .fieldLink RX7 22 "NewCoinsModel" "goods" "[I", .methodLink RX7 98 yX7_in, .static yX7_in, .code yX7_in cX7_in 3 (some .boolean)] ++ wsX70)
def wsX7_step : List Cond := .code yX7_step cX7_step 2 (some .boolean) :: ([.fieldLink RX7 90 "NewCoinsModel" "code" "I", .fieldLink RX7 31 "NewCoinsModel" "steps" "[I", .methodLink RX7 98 yX7_in, .static yX7_in, .initialized RX7, .code yX7_in cX7_in 3 (some .boolean)] ++ wsX70)
def wsX7_priceOf : List Cond := .code yX7_priceOf cX7_priceOf 9 (some .int) :: ([.fieldLink RX7 25 "NewCoinsModel" "prices" "[I", .fieldLink RX7 16 "NewCoinsModel" "rates" "[I", .fieldLink RX7 31 "NewCoinsModel" "steps" "[I"] ++ wsX70)
def wsX7_price : List Cond := .code yX7_price cX7_price 3 (some .int) :: ([.fieldLink RX7 90 "NewCoinsModel" "code" "I", .methodLink RX7 102 yX7_isGood, .instanceMethod yX7_isGood, .selects RX7 yX7_isGood yX7_isGood, .initialized RX7, .code yX7_isGood cX7_isGood 2 (some .boolean), .fieldLink RX7 22 "NewCoinsModel" "goods" "[I", .methodLink RX7 98 yX7_in, .static yX7_in, .code yX7_in cX7_in 3 (some .boolean), .methodLink RX7 106 yX7_priceOf, .instanceMethod yX7_priceOf, .selects RX7 yX7_priceOf yX7_priceOf, .code yX7_priceOf cX7_priceOf 9 (some .int), .fieldLink RX7 25 "NewCoinsModel" "prices" "[I", .fieldLink RX7 16 "NewCoinsModel" "rates" "[I", .fieldLink RX7 31 "NewCoinsModel" "steps" "[I"] ++ wsX70)
def wsX7_gainOf : List Cond := .code yX7_gainOf cX7_gainOf 3 (some .long) :: ([.fieldLink RX7 16 "NewCoinsModel" "rates" "[I", .fieldLink RX7 25 "NewCoinsModel" "prices" "[I", .fieldLink RX7 28 "NewCoinsModel" "times" "[I", .methodLink RX7 106 yX7_priceOf, .instanceMethod yX7_priceOf, .selects RX7 yX7_priceOf yX7_priceOf, .initialized RX7, .code yX7_priceOf cX7_priceOf 9 (some .int), .fieldLink RX7 31 "NewCoinsModel" "steps" "[I"] ++ wsX70)
def wsX7_gain : List Cond := .code yX7_gain cX7_gain 5 (some .long) :: ([.fieldLink RX7 90 "NewCoinsModel" "code" "I", .fieldLink RX7 22 "NewCoinsModel" "goods" "[I", .methodLink RX7 98 yX7_in, .static yX7_in, .initialized RX7, .code yX7_in cX7_in 3 (some .boolean), .methodLink RX7 110 yX7_gainOf, .instanceMethod yX7_gainOf, .selects RX7 yX7_gainOf yX7_gainOf, .code yX7_gainOf cX7_gainOf 3 (some .long), .fieldLink RX7 16 "NewCoinsModel" "rates" "[I", .fieldLink RX7 25 "NewCoinsModel" "prices" "[I", .fieldLink RX7 28 "NewCoinsModel" "times" "[I", .methodLink RX7 106 yX7_priceOf, .instanceMethod yX7_priceOf, .selects RX7 yX7_priceOf yX7_priceOf, .code yX7_priceOf cX7_priceOf 9 (some .int), .fieldLink RX7 31 "NewCoinsModel" "steps" "[I"] ++ wsX70)
def wsX7_fairest : List Cond := .code yX7_fairest cX7_fairest 8 (some .int) :: ([.fieldLink RX7 90 "NewCoinsModel" "code" "I", .fieldLink RX7 22 "NewCoinsModel" "goods" "[I", .fieldLink RX7 62 "NewCoinsModel" "one" "[J", .constantLong RX7 114 (-1), .methodLink RX7 110 yX7_gainOf, .instanceMethod yX7_gainOf, .selects RX7 yX7_gainOf yX7_gainOf, .initialized RX7, .code yX7_gainOf cX7_gainOf 3 (some .long), .fieldLink RX7 16 "NewCoinsModel" "rates" "[I", .fieldLink RX7 25 "NewCoinsModel" "prices" "[I", .fieldLink RX7 28 "NewCoinsModel" "times" "[I", .methodLink RX7 106 yX7_priceOf, .instanceMethod yX7_priceOf, .selects RX7 yX7_priceOf yX7_priceOf, .code yX7_priceOf cX7_priceOf 9 (some .int), .fieldLink RX7 31 "NewCoinsModel" "steps" "[I"] ++ wsX70)
def wsX7_gains : List Cond := .code yX7_gains cX7_gains 5 (some .long) :: ([.fieldLink RX7 90 "NewCoinsModel" "code" "I", .fieldLink RX7 22 "NewCoinsModel" "goods" "[I", .methodLink RX7 110 yX7_gainOf, .instanceMethod yX7_gainOf, .selects RX7 yX7_gainOf yX7_gainOf, .initialized RX7, .code yX7_gainOf cX7_gainOf 3 (some .long), .fieldLink RX7 16 "NewCoinsModel" "rates" "[I", .fieldLink RX7 25 "NewCoinsModel" "prices" "[I", .fieldLink RX7 28 "NewCoinsModel" "times" "[I", .methodLink RX7 106 yX7_priceOf, .instanceMethod yX7_priceOf, .selects RX7 yX7_priceOf yX7_priceOf, .code yX7_priceOf cX7_priceOf 9 (some .int), .fieldLink RX7 31 "NewCoinsModel" "steps" "[I"] ++ wsX70)
def wsX7_sortCoins : List Cond := .code yX7_sortCoins cX7_sortCoins 4 none :: ([.fieldLink RX7 7 "NewCoinsModel" "coins" "[I", .fieldLink RX7 13 "NewCoinsModel" "value" "[I", .fieldLink RX7 65 "NewCoinsModel" "by" "[I"] ++ wsX70)
def wsX7_find : List Cond := .code yX7_find cX7_find 11 (some .int) :: ([.fieldLink RX7 7 "NewCoinsModel" "coins" "[I", .fieldLink RX7 68 "NewCoinsModel" "few" "[I", .constant RX7 120 (1000000), .fieldLink RX7 13 "NewCoinsModel" "value" "[I", .fieldLink RX7 65 "NewCoinsModel" "by" "[I", .fieldLink RX7 74 "NewCoinsModel" "bound" "[I", .fieldLink RX7 71 "NewCoinsModel" "take" "[I", .methodLink RX7 116 yX7_sortCoins, .instanceMethod yX7_sortCoins, .selects RX7 yX7_sortCoins yX7_sortCoins, .initialized RX7, .code yX7_sortCoins cX7_sortCoins 4 none] ++ wsX70)
def wsX7_noBounds : List Cond := .code yX7_noBounds cX7_noBounds 2 none :: ([.fieldLink RX7 74 "NewCoinsModel" "bound" "[I"] ++ wsX70)
def wsX7_fewest_r1 : List Cond := [Cond.fieldLink RX7 90 "NewCoinsModel" "code" "I", Cond.fieldLink RX7 71 "NewCoinsModel" "take" "[I", Cond.methodLink RX7 98 yX7_in, Cond.static yX7_in, Cond.initialized RX7, Cond.code yX7_in cX7_in 3 (some .boolean), Cond.methodLink RX7 121 yX7_isCoin, Cond.instanceMethod yX7_isCoin, Cond.selects RX7 yX7_isCoin yX7_isCoin, Cond.code yX7_isCoin cX7_isCoin 3 (some .boolean), Cond.fieldLink RX7 7 "NewCoinsModel" "coins" "[I", Cond.methodLink RX7 125 yX7_noBounds, Cond.instanceMethod yX7_noBounds, Cond.selects RX7 yX7_noBounds yX7_noBounds, Cond.code yX7_noBounds cX7_noBounds 2 none, Cond.fieldLink RX7 74 "NewCoinsModel" "bound" "[I", Cond.methodLink RX7 128 yX7_find, Cond.instanceMethod yX7_find, Cond.selects RX7 yX7_find yX7_find, Cond.code yX7_find cX7_find 11 (some .int), Cond.fieldLink RX7 68 "NewCoinsModel" "few" "[I", Cond.constant RX7 120 (1000000), Cond.fieldLink RX7 13 "NewCoinsModel" "value" "[I", Cond.fieldLink RX7 65 "NewCoinsModel" "by" "[I"]
def wsX7_fewest_r2 : List Cond := [Cond.methodLink RX7 116 yX7_sortCoins, Cond.instanceMethod yX7_sortCoins, Cond.selects RX7 yX7_sortCoins yX7_sortCoins, Cond.code yX7_sortCoins cX7_sortCoins 4 none]
def wsX7_fewest : List Cond := .code yX7_fewest cX7_fewest 5 (some .int) :: ((wsX7_fewest_r1 ++ wsX7_fewest_r2) ++ wsX70)
def wsX7_greedyOf : List Cond := .code yX7_greedyOf cX7_greedyOf 7 (some .int) :: ([.fieldLink RX7 7 "NewCoinsModel" "coins" "[I", .fieldLink RX7 13 "NewCoinsModel" "value" "[I", .fieldLink RX7 65 "NewCoinsModel" "by" "[I"] ++ wsX70)
def wsX7_greedy : List Cond := .code yX7_greedy cX7_greedy 3 (some .int) :: ([.fieldLink RX7 90 "NewCoinsModel" "code" "I", .methodLink RX7 98 yX7_in, .static yX7_in, .initialized RX7, .code yX7_in cX7_in 3 (some .boolean), .methodLink RX7 116 yX7_sortCoins, .instanceMethod yX7_sortCoins, .selects RX7 yX7_sortCoins yX7_sortCoins, .code yX7_sortCoins cX7_sortCoins 4 none, .fieldLink RX7 7 "NewCoinsModel" "coins" "[I", .fieldLink RX7 13 "NewCoinsModel" "value" "[I", .fieldLink RX7 65 "NewCoinsModel" "by" "[I", .methodLink RX7 131 yX7_greedyOf, .instanceMethod yX7_greedyOf, .selects RX7 yX7_greedyOf yX7_greedyOf, .code yX7_greedyOf cX7_greedyOf 7 (some .int)] ++ wsX70)
def wsX7_odd : List Cond := .code yX7_odd cX7_odd 5 (some .int) :: ([.fieldLink RX7 90 "NewCoinsModel" "code" "I", .fieldLink RX7 77 "NewCoinsModel" "least" "[I", .constant RX7 120 (1000000), .fieldLink RX7 7 "NewCoinsModel" "coins" "[I", .fieldLink RX7 13 "NewCoinsModel" "value" "[I", .methodLink RX7 98 yX7_in, .static yX7_in, .initialized RX7, .code yX7_in cX7_in 3 (some .boolean), .methodLink RX7 116 yX7_sortCoins, .instanceMethod yX7_sortCoins, .selects RX7 yX7_sortCoins yX7_sortCoins, .code yX7_sortCoins cX7_sortCoins 4 none, .fieldLink RX7 65 "NewCoinsModel" "by" "[I", .methodLink RX7 131 yX7_greedyOf, .instanceMethod yX7_greedyOf, .selects RX7 yX7_greedyOf yX7_greedyOf, .code yX7_greedyOf cX7_greedyOf 7 (some .int)] ++ wsX70)
def wsX7_isTill : List Cond := .code yX7_isTill cX7_isTill 2 (some .boolean) :: ([.fieldLink RX7 34 "NewCoinsModel" "tills" "[I", .methodLink RX7 98 yX7_in, .static yX7_in, .initialized RX7, .code yX7_in cX7_in 3 (some .boolean)] ++ wsX70)
def wsX7_cell : List Cond := .code yX7_cell cX7_cell 3 (some .int) :: ([])
def wsX7_till : List Cond := .code yX7_till cX7_till 3 (some .int) :: ([.fieldLink RX7 90 "NewCoinsModel" "code" "I", .fieldLink RX7 34 "NewCoinsModel" "tills" "[I", .fieldLink RX7 37 "NewCoinsModel" "tillSales" "[I", .fieldLink RX7 40 "NewCoinsModel" "scraps" "[J", .fieldLink RX7 44 "NewCoinsModel" "paid" "[J", .fieldLink RX7 47 "NewCoinsModel" "expected" "[I", .fieldLink RX7 50 "NewCoinsModel" "has" "[I", .fieldLink RX7 53 "NewCoinsModel" "gave" "[I", .methodLink RX7 134 yX7_cell, .static yX7_cell, .initialized RX7, .code yX7_cell cX7_cell 3 (some .int)] ++ wsX70)
def wsX7_put : List Cond := .code yX7_put cX7_put 6 (some .int) :: ([.fieldLink RX7 90 "NewCoinsModel" "code" "I", .fieldLink RX7 50 "NewCoinsModel" "has" "[I", .methodLink RX7 138 yX7_isTill, .instanceMethod yX7_isTill, .selects RX7 yX7_isTill yX7_isTill, .initialized RX7, .code yX7_isTill cX7_isTill 2 (some .boolean), .fieldLink RX7 34 "NewCoinsModel" "tills" "[I", .methodLink RX7 98 yX7_in, .static yX7_in, .code yX7_in cX7_in 3 (some .boolean), .methodLink RX7 121 yX7_isCoin, .instanceMethod yX7_isCoin, .selects RX7 yX7_isCoin yX7_isCoin, .code yX7_isCoin cX7_isCoin 3 (some .boolean), .fieldLink RX7 7 "NewCoinsModel" "coins" "[I", .methodLink RX7 134 yX7_cell, .static yX7_cell, .code yX7_cell cX7_cell 3 (some .int)] ++ wsX70)
def wsX7_over : List Cond := .code yX7_over cX7_over 5 (some .int) :: ([.fieldLink RX7 13 "NewCoinsModel" "value" "[I", .fieldLink RX7 16 "NewCoinsModel" "rates" "[I"] ++ wsX70)
def wsX7_isSale : List Cond := .code yX7_isSale cX7_isSale 6 (some .boolean) :: ([.methodLink RX7 138 yX7_isTill, .instanceMethod yX7_isTill, .selects RX7 yX7_isTill yX7_isTill, .initialized RX7, .code yX7_isTill cX7_isTill 2 (some .boolean), .fieldLink RX7 34 "NewCoinsModel" "tills" "[I", .methodLink RX7 98 yX7_in, .static yX7_in, .code yX7_in cX7_in 3 (some .boolean), .methodLink RX7 121 yX7_isCoin, .instanceMethod yX7_isCoin, .selects RX7 yX7_isCoin yX7_isCoin, .code yX7_isCoin cX7_isCoin 3 (some .boolean), .fieldLink RX7 7 "NewCoinsModel" "coins" "[I"] ++ wsX70)
def wsX7_sale_r1 : List Cond := [Cond.fieldLink RX7 90 "NewCoinsModel" "code" "I", Cond.fieldLink RX7 16 "NewCoinsModel" "rates" "[I", Cond.fieldLink RX7 50 "NewCoinsModel" "has" "[I", Cond.fieldLink RX7 74 "NewCoinsModel" "bound" "[I", Cond.fieldLink RX7 7 "NewCoinsModel" "coins" "[I", Cond.fieldLink RX7 71 "NewCoinsModel" "take" "[I", Cond.fieldLink RX7 53 "NewCoinsModel" "gave" "[I", Cond.fieldLink RX7 19 "NewCoinsModel" "sales" "[I", Cond.fieldLink RX7 37 "NewCoinsModel" "tillSales" "[I", Cond.fieldLink RX7 40 "NewCoinsModel" "scraps" "[J", Cond.fieldLink RX7 44 "NewCoinsModel" "paid" "[J", Cond.methodLink RX7 141 yX7_isSale, Cond.instanceMethod yX7_isSale, Cond.selects RX7 yX7_isSale yX7_isSale, Cond.initialized RX7, Cond.code yX7_isSale cX7_isSale 6 (some .boolean), Cond.methodLink RX7 138 yX7_isTill, Cond.instanceMethod yX7_isTill, Cond.selects RX7 yX7_isTill yX7_isTill, Cond.code yX7_isTill cX7_isTill 2 (some .boolean), Cond.fieldLink RX7 34 "NewCoinsModel" "tills" "[I", Cond.methodLink RX7 98 yX7_in, Cond.static yX7_in, Cond.code yX7_in cX7_in 3 (some .boolean)]
def wsX7_sale_r2 : List Cond := [Cond.methodLink RX7 121 yX7_isCoin, Cond.instanceMethod yX7_isCoin, Cond.selects RX7 yX7_isCoin yX7_isCoin, Cond.code yX7_isCoin cX7_isCoin 3 (some .boolean), Cond.methodLink RX7 145 yX7_over, Cond.instanceMethod yX7_over, Cond.selects RX7 yX7_over yX7_over, Cond.code yX7_over cX7_over 5 (some .int), Cond.fieldLink RX7 13 "NewCoinsModel" "value" "[I", Cond.methodLink RX7 134 yX7_cell, Cond.static yX7_cell, Cond.code yX7_cell cX7_cell 3 (some .int), Cond.methodLink RX7 128 yX7_find, Cond.instanceMethod yX7_find, Cond.selects RX7 yX7_find yX7_find, Cond.code yX7_find cX7_find 11 (some .int), Cond.fieldLink RX7 68 "NewCoinsModel" "few" "[I", Cond.constant RX7 120 (1000000), Cond.fieldLink RX7 65 "NewCoinsModel" "by" "[I", Cond.methodLink RX7 116 yX7_sortCoins, Cond.instanceMethod yX7_sortCoins, Cond.selects RX7 yX7_sortCoins yX7_sortCoins, Cond.code yX7_sortCoins cX7_sortCoins 4 none]
def wsX7_sale : List Cond := .code yX7_sale cX7_sale 11 (some .int) :: ((wsX7_sale_r1 ++ wsX7_sale_r2) ++ wsX70)
def wsX7_given : List Cond := .code yX7_given cX7_given 3 (some .int) :: ([.fieldLink RX7 90 "NewCoinsModel" "code" "I", .fieldLink RX7 37 "NewCoinsModel" "tillSales" "[I", .fieldLink RX7 53 "NewCoinsModel" "gave" "[I", .methodLink RX7 138 yX7_isTill, .instanceMethod yX7_isTill, .selects RX7 yX7_isTill yX7_isTill, .initialized RX7, .code yX7_isTill cX7_isTill 2 (some .boolean), .fieldLink RX7 34 "NewCoinsModel" "tills" "[I", .methodLink RX7 98 yX7_in, .static yX7_in, .code yX7_in cX7_in 3 (some .boolean), .methodLink RX7 121 yX7_isCoin, .instanceMethod yX7_isCoin, .selects RX7 yX7_isCoin yX7_isCoin, .code yX7_isCoin cX7_isCoin 3 (some .boolean), .fieldLink RX7 7 "NewCoinsModel" "coins" "[I"] ++ wsX70)
def wsX7_parts : List Cond := .code yX7_parts cX7_parts 6 (some .long) :: ([.fieldLink RX7 7 "NewCoinsModel" "coins" "[I", .fieldLink RX7 50 "NewCoinsModel" "has" "[I", .fieldLink RX7 13 "NewCoinsModel" "value" "[I", .fieldLink RX7 16 "NewCoinsModel" "rates" "[I", .methodLink RX7 134 yX7_cell, .static yX7_cell, .initialized RX7, .code yX7_cell cX7_cell 3 (some .int)] ++ wsX70)
def wsX7_tell_r1 : List Cond := [Cond.fieldLink RX7 90 "NewCoinsModel" "code" "I", Cond.constantLong RX7 114 (-1), Cond.fieldLink RX7 37 "NewCoinsModel" "tillSales" "[I", Cond.fieldLink RX7 40 "NewCoinsModel" "scraps" "[J", Cond.fieldLink RX7 44 "NewCoinsModel" "paid" "[J", Cond.fieldLink RX7 47 "NewCoinsModel" "expected" "[I", Cond.methodLink RX7 138 yX7_isTill, Cond.instanceMethod yX7_isTill, Cond.selects RX7 yX7_isTill yX7_isTill, Cond.initialized RX7, Cond.code yX7_isTill cX7_isTill 2 (some .boolean), Cond.fieldLink RX7 34 "NewCoinsModel" "tills" "[I", Cond.methodLink RX7 98 yX7_in, Cond.static yX7_in, Cond.code yX7_in cX7_in 3 (some .boolean), Cond.methodLink RX7 149 yX7_parts, Cond.instanceMethod yX7_parts, Cond.selects RX7 yX7_parts yX7_parts, Cond.code yX7_parts cX7_parts 6 (some .long), Cond.fieldLink RX7 7 "NewCoinsModel" "coins" "[I", Cond.fieldLink RX7 50 "NewCoinsModel" "has" "[I", Cond.fieldLink RX7 13 "NewCoinsModel" "value" "[I", Cond.fieldLink RX7 16 "NewCoinsModel" "rates" "[I", Cond.methodLink RX7 134 yX7_cell]
def wsX7_tell_r2 : List Cond := [Cond.static yX7_cell, Cond.code yX7_cell cX7_cell 3 (some .int)]
def wsX7_tell : List Cond := .code yX7_tell cX7_tell 3 (some .long) :: ((wsX7_tell_r1 ++ wsX7_tell_r2) ++ wsX70)
def wsX7_has : List Cond := .code yX7_has cX7_has 4 (some .int) :: ([.fieldLink RX7 90 "NewCoinsModel" "code" "I", .fieldLink RX7 50 "NewCoinsModel" "has" "[I", .methodLink RX7 138 yX7_isTill, .instanceMethod yX7_isTill, .selects RX7 yX7_isTill yX7_isTill, .initialized RX7, .code yX7_isTill cX7_isTill 2 (some .boolean), .fieldLink RX7 34 "NewCoinsModel" "tills" "[I", .methodLink RX7 98 yX7_in, .static yX7_in, .code yX7_in cX7_in 3 (some .boolean), .methodLink RX7 121 yX7_isCoin, .instanceMethod yX7_isCoin, .selects RX7 yX7_isCoin yX7_isCoin, .code yX7_isCoin cX7_isCoin 3 (some .boolean), .fieldLink RX7 7 "NewCoinsModel" "coins" "[I", .methodLink RX7 134 yX7_cell, .static yX7_cell, .code yX7_cell cX7_cell 3 (some .int)] ++ wsX70)
def wsX7_draw : List Cond := .code yX7_draw cX7_draw 5 (some .long) :: ([.fieldLink RX7 90 "NewCoinsModel" "code" "I", .constantLong RX7 114 (-1), .fieldLink RX7 56 "NewCoinsModel" "drawnIn" "[I", .fieldLink RX7 50 "NewCoinsModel" "has" "[I", .methodLink RX7 138 yX7_isTill, .instanceMethod yX7_isTill, .selects RX7 yX7_isTill yX7_isTill, .initialized RX7, .code yX7_isTill cX7_isTill 2 (some .boolean), .fieldLink RX7 34 "NewCoinsModel" "tills" "[I", .methodLink RX7 98 yX7_in, .static yX7_in, .code yX7_in cX7_in 3 (some .boolean), .methodLink RX7 149 yX7_parts, .instanceMethod yX7_parts, .selects RX7 yX7_parts yX7_parts, .code yX7_parts cX7_parts 6 (some .long), .fieldLink RX7 7 "NewCoinsModel" "coins" "[I", .fieldLink RX7 13 "NewCoinsModel" "value" "[I", .fieldLink RX7 16 "NewCoinsModel" "rates" "[I", .methodLink RX7 134 yX7_cell, .static yX7_cell, .code yX7_cell cX7_cell 3 (some .int)] ++ wsX70)
def wsX7_drawn : List Cond := .code yX7_drawn cX7_drawn 2 (some .int) :: ([.fieldLink RX7 90 "NewCoinsModel" "code" "I", .fieldLink RX7 56 "NewCoinsModel" "drawnIn" "[I", .methodLink RX7 121 yX7_isCoin, .instanceMethod yX7_isCoin, .selects RX7 yX7_isCoin yX7_isCoin, .initialized RX7, .code yX7_isCoin cX7_isCoin 3 (some .boolean), .fieldLink RX7 7 "NewCoinsModel" "coins" "[I", .methodLink RX7 98 yX7_in, .static yX7_in, .code yX7_in cX7_in 3 (some .boolean)] ++ wsX70)
def wsX7_expect : List Cond := .code yX7_expect cX7_expect 7 (some .int) :: ([.fieldLink RX7 90 "NewCoinsModel" "code" "I", .fieldLink RX7 47 "NewCoinsModel" "expected" "[I", .fieldLink RX7 59 "NewCoinsModel" "expects" "[I", .methodLink RX7 141 yX7_isSale, .instanceMethod yX7_isSale, .selects RX7 yX7_isSale yX7_isSale, .initialized RX7, .code yX7_isSale cX7_isSale 6 (some .boolean), .methodLink RX7 138 yX7_isTill, .instanceMethod yX7_isTill, .selects RX7 yX7_isTill yX7_isTill, .code yX7_isTill cX7_isTill 2 (some .boolean), .fieldLink RX7 34 "NewCoinsModel" "tills" "[I", .methodLink RX7 98 yX7_in, .static yX7_in, .code yX7_in cX7_in 3 (some .boolean), .methodLink RX7 121 yX7_isCoin, .instanceMethod yX7_isCoin, .selects RX7 yX7_isCoin yX7_isCoin, .code yX7_isCoin cX7_isCoin 3 (some .boolean), .fieldLink RX7 7 "NewCoinsModel" "coins" "[I"] ++ wsX70)
def wsX7_forget : List Cond := .code yX7_forget cX7_forget 2 (some .boolean) :: ([.fieldLink RX7 90 "NewCoinsModel" "code" "I", .fieldLink RX7 47 "NewCoinsModel" "expected" "[I", .methodLink RX7 138 yX7_isTill, .instanceMethod yX7_isTill, .selects RX7 yX7_isTill yX7_isTill, .initialized RX7, .code yX7_isTill cX7_isTill 2 (some .boolean), .fieldLink RX7 34 "NewCoinsModel" "tills" "[I", .methodLink RX7 98 yX7_in, .static yX7_in, .code yX7_in cX7_in 3 (some .boolean)] ++ wsX70)
def wsX7_findWanted_r1 : List Cond := [Cond.fieldLink RX7 80 "NewCoinsModel" "pool" "[I", Cond.fieldLink RX7 83 "NewCoinsModel" "want" "[I", Cond.fieldLink RX7 47 "NewCoinsModel" "expected" "[I", Cond.fieldLink RX7 59 "NewCoinsModel" "expects" "[I", Cond.fieldLink RX7 16 "NewCoinsModel" "rates" "[I", Cond.fieldLink RX7 7 "NewCoinsModel" "coins" "[I", Cond.fieldLink RX7 71 "NewCoinsModel" "take" "[I", Cond.methodLink RX7 145 yX7_over, Cond.instanceMethod yX7_over, Cond.selects RX7 yX7_over yX7_over, Cond.initialized RX7, Cond.code yX7_over cX7_over 5 (some .int), Cond.fieldLink RX7 13 "NewCoinsModel" "value" "[I", Cond.methodLink RX7 125 yX7_noBounds, Cond.instanceMethod yX7_noBounds, Cond.selects RX7 yX7_noBounds yX7_noBounds, Cond.code yX7_noBounds cX7_noBounds 2 none, Cond.fieldLink RX7 74 "NewCoinsModel" "bound" "[I", Cond.methodLink RX7 128 yX7_find, Cond.instanceMethod yX7_find, Cond.selects RX7 yX7_find yX7_find, Cond.code yX7_find cX7_find 11 (some .int), Cond.fieldLink RX7 68 "NewCoinsModel" "few" "[I", Cond.constant RX7 120 (1000000)]
def wsX7_findWanted_r2 : List Cond := [Cond.fieldLink RX7 65 "NewCoinsModel" "by" "[I", Cond.methodLink RX7 116 yX7_sortCoins, Cond.instanceMethod yX7_sortCoins, Cond.selects RX7 yX7_sortCoins yX7_sortCoins, Cond.code yX7_sortCoins cX7_sortCoins 4 none]
def wsX7_findWanted : List Cond := .code yX7_findWanted cX7_findWanted 8 (some .boolean) :: ((wsX7_findWanted_r1 ++ wsX7_findWanted_r2) ++ wsX70)
def wsX7_wanted_r1 : List Cond := [Cond.fieldLink RX7 90 "NewCoinsModel" "code" "I", Cond.fieldLink RX7 83 "NewCoinsModel" "want" "[I", Cond.methodLink RX7 138 yX7_isTill, Cond.instanceMethod yX7_isTill, Cond.selects RX7 yX7_isTill yX7_isTill, Cond.initialized RX7, Cond.code yX7_isTill cX7_isTill 2 (some .boolean), Cond.fieldLink RX7 34 "NewCoinsModel" "tills" "[I", Cond.methodLink RX7 98 yX7_in, Cond.static yX7_in, Cond.code yX7_in cX7_in 3 (some .boolean), Cond.methodLink RX7 121 yX7_isCoin, Cond.instanceMethod yX7_isCoin, Cond.selects RX7 yX7_isCoin yX7_isCoin, Cond.code yX7_isCoin cX7_isCoin 3 (some .boolean), Cond.fieldLink RX7 7 "NewCoinsModel" "coins" "[I", Cond.methodLink RX7 152 yX7_findWanted, Cond.instanceMethod yX7_findWanted, Cond.selects RX7 yX7_findWanted yX7_findWanted, Cond.code yX7_findWanted cX7_findWanted 8 (some .boolean), Cond.fieldLink RX7 80 "NewCoinsModel" "pool" "[I", Cond.fieldLink RX7 47 "NewCoinsModel" "expected" "[I", Cond.fieldLink RX7 59 "NewCoinsModel" "expects" "[I", Cond.fieldLink RX7 16 "NewCoinsModel" "rates" "[I"]
def wsX7_wanted_r2 : List Cond := [Cond.fieldLink RX7 71 "NewCoinsModel" "take" "[I", Cond.methodLink RX7 145 yX7_over, Cond.instanceMethod yX7_over, Cond.selects RX7 yX7_over yX7_over, Cond.code yX7_over cX7_over 5 (some .int), Cond.fieldLink RX7 13 "NewCoinsModel" "value" "[I", Cond.methodLink RX7 125 yX7_noBounds, Cond.instanceMethod yX7_noBounds, Cond.selects RX7 yX7_noBounds yX7_noBounds, Cond.code yX7_noBounds cX7_noBounds 2 none, Cond.fieldLink RX7 74 "NewCoinsModel" "bound" "[I", Cond.methodLink RX7 128 yX7_find, Cond.instanceMethod yX7_find, Cond.selects RX7 yX7_find yX7_find, Cond.code yX7_find cX7_find 11 (some .int), Cond.fieldLink RX7 68 "NewCoinsModel" "few" "[I", Cond.constant RX7 120 (1000000), Cond.fieldLink RX7 65 "NewCoinsModel" "by" "[I", Cond.methodLink RX7 116 yX7_sortCoins, Cond.instanceMethod yX7_sortCoins, Cond.selects RX7 yX7_sortCoins yX7_sortCoins, Cond.code yX7_sortCoins cX7_sortCoins 4 none]
def wsX7_wanted : List Cond := .code yX7_wanted cX7_wanted 3 (some .int) :: ((wsX7_wanted_r1 ++ wsX7_wanted_r2) ++ wsX70)
def wsX7_about : List Cond := .code yX7_about cX7_about 3 (some .int) :: ([.fieldLink RX7 90 "NewCoinsModel" "code" "I", .fieldLink RX7 7 "NewCoinsModel" "coins" "[I", .fieldLink RX7 13 "NewCoinsModel" "value" "[I", .fieldLink RX7 22 "NewCoinsModel" "goods" "[I", .fieldLink RX7 34 "NewCoinsModel" "tills" "[I", .fieldLink RX7 16 "NewCoinsModel" "rates" "[I", .fieldLink RX7 31 "NewCoinsModel" "steps" "[I", .fieldLink RX7 25 "NewCoinsModel" "prices" "[I", .fieldLink RX7 28 "NewCoinsModel" "times" "[I", .methodLink RX7 98 yX7_in, .static yX7_in, .initialized RX7, .code yX7_in cX7_in 3 (some .boolean)] ++ wsX70)
def wsX7_image_r1 : List Cond := [Cond.fieldLink RX7 90 "NewCoinsModel" "code" "I", Cond.fieldLink RX7 86 "NewCoinsModel" "kept" "[Z", Cond.methodLink RX7 98 yX7_in, Cond.static yX7_in, Cond.initialized RX7, Cond.code yX7_in cX7_in 3 (some .boolean), Cond.methodLink RX7 155 yX7_copy, Cond.instanceMethod yX7_copy, Cond.selects RX7 yX7_copy yX7_copy, Cond.code yX7_copy cX7_copy 4 none, Cond.fieldLink RX7 7 "NewCoinsModel" "coins" "[I", Cond.fieldLink RX7 13 "NewCoinsModel" "value" "[I", Cond.fieldLink RX7 16 "NewCoinsModel" "rates" "[I", Cond.fieldLink RX7 19 "NewCoinsModel" "sales" "[I", Cond.fieldLink RX7 22 "NewCoinsModel" "goods" "[I", Cond.fieldLink RX7 25 "NewCoinsModel" "prices" "[I", Cond.fieldLink RX7 28 "NewCoinsModel" "times" "[I", Cond.fieldLink RX7 31 "NewCoinsModel" "steps" "[I", Cond.fieldLink RX7 34 "NewCoinsModel" "tills" "[I", Cond.fieldLink RX7 37 "NewCoinsModel" "tillSales" "[I", Cond.fieldLink RX7 47 "NewCoinsModel" "expected" "[I", Cond.fieldLink RX7 50 "NewCoinsModel" "has" "[I", Cond.fieldLink RX7 53 "NewCoinsModel" "gave" "[I", Cond.fieldLink RX7 56 "NewCoinsModel" "drawnIn" "[I"]
def wsX7_image_r2 : List Cond := [Cond.fieldLink RX7 59 "NewCoinsModel" "expects" "[I", Cond.fieldLink RX7 40 "NewCoinsModel" "scraps" "[J", Cond.fieldLink RX7 44 "NewCoinsModel" "paid" "[J", Cond.methodLink RX7 94 yX7_move, Cond.static yX7_move, Cond.code yX7_move cX7_move 5 none]
def wsX7_image : List Cond := .code yX7_image cX7_image 2 (some .boolean) :: ((wsX7_image_r1 ++ wsX7_image_r2) ++ wsX70)
def wsX7_again_r1 : List Cond := [Cond.fieldLink RX7 90 "NewCoinsModel" "code" "I", Cond.fieldLink RX7 86 "NewCoinsModel" "kept" "[Z", Cond.methodLink RX7 98 yX7_in, Cond.static yX7_in, Cond.initialized RX7, Cond.code yX7_in cX7_in 3 (some .boolean), Cond.methodLink RX7 155 yX7_copy, Cond.instanceMethod yX7_copy, Cond.selects RX7 yX7_copy yX7_copy, Cond.code yX7_copy cX7_copy 4 none, Cond.fieldLink RX7 7 "NewCoinsModel" "coins" "[I", Cond.fieldLink RX7 13 "NewCoinsModel" "value" "[I", Cond.fieldLink RX7 16 "NewCoinsModel" "rates" "[I", Cond.fieldLink RX7 19 "NewCoinsModel" "sales" "[I", Cond.fieldLink RX7 22 "NewCoinsModel" "goods" "[I", Cond.fieldLink RX7 25 "NewCoinsModel" "prices" "[I", Cond.fieldLink RX7 28 "NewCoinsModel" "times" "[I", Cond.fieldLink RX7 31 "NewCoinsModel" "steps" "[I", Cond.fieldLink RX7 34 "NewCoinsModel" "tills" "[I", Cond.fieldLink RX7 37 "NewCoinsModel" "tillSales" "[I", Cond.fieldLink RX7 47 "NewCoinsModel" "expected" "[I", Cond.fieldLink RX7 50 "NewCoinsModel" "has" "[I", Cond.fieldLink RX7 53 "NewCoinsModel" "gave" "[I", Cond.fieldLink RX7 56 "NewCoinsModel" "drawnIn" "[I"]
def wsX7_again_r2 : List Cond := [Cond.fieldLink RX7 59 "NewCoinsModel" "expects" "[I", Cond.fieldLink RX7 40 "NewCoinsModel" "scraps" "[J", Cond.fieldLink RX7 44 "NewCoinsModel" "paid" "[J", Cond.methodLink RX7 94 yX7_move, Cond.static yX7_move, Cond.code yX7_move cX7_move 5 none]
def wsX7_again : List Cond := .code yX7_again cX7_again 2 (some .boolean) :: ((wsX7_again_r1 ++ wsX7_again_r2) ++ wsX70)
def wsJ9_abs_067f4 : List Cond := .code yJ9_abs_067f4 cJ9_abs_067f4 2 (some .long) :: ([])
def wsJ9_max_7cf53 : List Cond := .code yJ9_max_7cf53 cJ9_max_7cf53 2 (some .int) :: ([])
def wsJ9_min_7cf53 : List Cond := .code yJ9_min_7cf53 cJ9_min_7cf53 2 (some .int) :: ([])
def wsL_law_r1 : List Cond := [Cond.classLink RL 7 RX6, Cond.instantiable RX6 6, Cond.initialized RX6, Cond.classLink RL 10 RX7, Cond.instantiable RX7 27, Cond.initialized RX7, Cond.methodLink RL 9 yX6_init, Cond.instanceMethod yX6_init, Cond.code yX6_init cX6_init 2 none, Cond.methodLink RX6 1 objectInit, Cond.instanceMethod objectInit, Cond.code objectInit ⟨#[0xb1]⟩ 1 none, Cond.classLink RX6 7 RX4, Cond.instantiable RX4 9, Cond.initialized RX4, Cond.fieldLink RX6 10 "NewCoins" "now" "LNewCoins$Land;", Cond.fieldLink RX6 16 "NewCoins" "images" "[LNewCoins$Land;", Cond.arrayClass .boolean, Cond.fieldLink RX6 20 "NewCoins" "taken" "[Z", Cond.classLink RX6 24 RX0, Cond.instantiable RX0 4, Cond.initialized RX0, Cond.fieldLink RX6 27 "NewCoins" "maker" "LNewCoins$ChangeMaker;", Cond.arrayClass .int]
def wsL_law_r2 : List Cond := [Cond.fieldLink RX6 31 "NewCoins" "fewestRow" "[I", Cond.arrayClass .long, Cond.fieldLink RX6 35 "NewCoins" "turns" "[J", Cond.methodLink RX6 9 yX4_init, Cond.instanceMethod yX4_init, Cond.code yX4_init cX4_init 2 none, Cond.methodLink RX4 3 objectInit, Cond.classLink RX4 9 RX1, Cond.instantiable RX1 4, Cond.initialized RX1, Cond.fieldLink RX4 12 "NewCoins$Land" "old" "LNewCoins$Coinage;", Cond.fieldLink RX4 18 "NewCoins$Land" "fresh" "LNewCoins$Coinage;", Cond.classLink RX4 21 RX3, Cond.instantiable RX3 3, Cond.initialized RX3, Cond.fieldLink RX4 24 "NewCoins$Land" "goods" "LNewCoins$Goods;", Cond.classLink RX4 28 RX5, Cond.fieldLink RX4 30 "NewCoins$Land" "tills" "[LNewCoins$Till;", Cond.fieldLink RX4 34 "NewCoins$Land" "drawnIn" "[I", Cond.fieldLink RX4 38 "NewCoins$Land" "tillCount" "I", Cond.fieldLink RX4 42 "NewCoins$Land" "a" "I", Cond.fieldLink RX4 45 "NewCoins$Land" "b" "I", Cond.fieldLink RX4 48 "NewCoins$Land" "step" "I", Cond.instantiable RX5 7]
def wsL_law_r3 : List Cond := [Cond.initialized RX5, Cond.methodLink RX4 11 yX1_init, Cond.instanceMethod yX1_init, Cond.code yX1_init cX1_init 1 none, Cond.methodLink RX1 3 objectInit, Cond.fieldLink RX1 9 "NewCoins$Coinage" "count" "I", Cond.fieldLink RX1 15 "NewCoins$Coinage" "values" "[I", Cond.fieldLink RX1 19 "NewCoins$Coinage" "falling" "[I", Cond.fieldLink RX1 22 "NewCoins$Coinage" "least" "[I", Cond.methodLink RX1 25 yJ7_fill_53178, Cond.static yJ7_fill_53178, Cond.initialized RJ7, Cond.code yJ7_fill_53178 cJ7_fill_53178 4 none, Cond.instanceMethod yX3_init, Cond.code yX3_init cX3_init 1 none, Cond.methodLink RX3 3 objectInit, Cond.fieldLink RX3 9 "NewCoins$Goods" "count" "I", Cond.fieldLink RX3 15 "NewCoins$Goods" "prices" "[I", Cond.fieldLink RX3 19 "NewCoins$Goods" "times" "[I", Cond.instanceMethod yX5_init, Cond.code yX5_init cX5_init 1 none, Cond.methodLink RX5 3 objectInit, Cond.fieldLink RX5 9 "NewCoins$Till" "old" "[I", Cond.fieldLink RX5 15 "NewCoins$Till" "fresh" "[I"]
def wsL_law_r4 : List Cond := [Cond.fieldLink RX5 18 "NewCoins$Till" "latest" "[I", Cond.classLink RX5 21 RX2, Cond.instantiable RX2 5, Cond.initialized RX2, Cond.fieldLink RX5 24 "NewCoins$Till" "expected" "LNewCoins$Expected;", Cond.fieldLink RX5 28 "NewCoins$Till" "sales" "I", Cond.fieldLink RX5 32 "NewCoins$Till" "scraps" "J", Cond.fieldLink RX5 36 "NewCoins$Till" "takings" "J", Cond.instanceMethod yX2_init, Cond.code yX2_init cX2_init 1 none, Cond.methodLink RX2 3 objectInit, Cond.fieldLink RX2 9 "NewCoins$Expected" "count" "I", Cond.fieldLink RX2 15 "NewCoins$Expected" "prices" "[I", Cond.fieldLink RX2 19 "NewCoins$Expected" "systems" "[I", Cond.fieldLink RX2 22 "NewCoins$Expected" "coins" "[I", Cond.fieldLink RX2 25 "NewCoins$Expected" "numbers" "[I", Cond.instanceMethod yX0_init, Cond.code yX0_init cX0_init 1 none, Cond.methodLink RX0 3 objectInit, Cond.fieldLink RX0 9 "NewCoins$ChangeMaker" "row" "[I", Cond.classLink RX0 15 "[[I", Cond.fieldLink RX0 17 "NewCoins$ChangeMaker" "least" "[[I", Cond.fieldLink RX0 20 "NewCoins$ChangeMaker" "places" "[I", Cond.fieldLink RX0 23 "NewCoins$ChangeMaker" "costs" "[I"]
def wsL_law_r5 : List Cond := [Cond.methodLink RL 12 yX7_init, Cond.instanceMethod yX7_init, Cond.code yX7_init cX7_init 1 none, Cond.methodLink RX7 1 objectInit, Cond.fieldLink RX7 7 "NewCoinsModel" "coins" "[I", Cond.fieldLink RX7 13 "NewCoinsModel" "value" "[I", Cond.fieldLink RX7 16 "NewCoinsModel" "rates" "[I", Cond.fieldLink RX7 19 "NewCoinsModel" "sales" "[I", Cond.fieldLink RX7 22 "NewCoinsModel" "goods" "[I", Cond.fieldLink RX7 25 "NewCoinsModel" "prices" "[I", Cond.fieldLink RX7 28 "NewCoinsModel" "times" "[I", Cond.fieldLink RX7 31 "NewCoinsModel" "steps" "[I", Cond.fieldLink RX7 34 "NewCoinsModel" "tills" "[I", Cond.fieldLink RX7 37 "NewCoinsModel" "tillSales" "[I", Cond.fieldLink RX7 40 "NewCoinsModel" "scraps" "[J", Cond.fieldLink RX7 44 "NewCoinsModel" "paid" "[J", Cond.fieldLink RX7 47 "NewCoinsModel" "expected" "[I", Cond.fieldLink RX7 50 "NewCoinsModel" "has" "[I", Cond.fieldLink RX7 53 "NewCoinsModel" "gave" "[I", Cond.fieldLink RX7 56 "NewCoinsModel" "drawnIn" "[I", Cond.fieldLink RX7 59 "NewCoinsModel" "expects" "[I", Cond.fieldLink RX7 62 "NewCoinsModel" "one" "[J", Cond.fieldLink RX7 65 "NewCoinsModel" "by" "[I", Cond.fieldLink RX7 68 "NewCoinsModel" "few" "[I"]
def wsL_law_r6 : List Cond := [Cond.fieldLink RX7 71 "NewCoinsModel" "take" "[I", Cond.fieldLink RX7 74 "NewCoinsModel" "bound" "[I", Cond.fieldLink RX7 77 "NewCoinsModel" "least" "[I", Cond.fieldLink RX7 80 "NewCoinsModel" "pool" "[I", Cond.fieldLink RX7 83 "NewCoinsModel" "want" "[I", Cond.fieldLink RX7 86 "NewCoinsModel" "kept" "[Z", Cond.methodLink RL 13 yX6_coin, Cond.instanceMethod yX6_coin, Cond.selects RX6 yX6_coin yX6_coin, Cond.code yX6_coin cX6_coin 4 (some .int), Cond.methodLink RX6 39 yX4_coinageOf, Cond.instanceMethod yX4_coinageOf, Cond.selects RX4 yX4_coinageOf yX4_coinageOf, Cond.code yX4_coinageOf cX4_coinageOf 2 (some (.object "NewCoins$Coinage")), Cond.methodLink RX6 43 yX1_add, Cond.instanceMethod yX1_add, Cond.selects RX1 yX1_add yX1_add, Cond.code yX1_add cX1_add 2 (some .int), Cond.static yX6_within, Cond.code yX6_within cX6_within 3 (some .boolean), Cond.methodLink RX1 41 yX1_isValue, Cond.instanceMethod yX1_isValue, Cond.selects RX1 yX1_isValue yX1_isValue, Cond.code yX1_isValue cX1_isValue 3 (some .boolean)]
def wsL_law_r7 : List Cond := [Cond.methodLink RX1 45 yX1_rank, Cond.instanceMethod yX1_rank, Cond.selects RX1 yX1_rank yX1_rank, Cond.code yX1_rank cX1_rank 3 none, Cond.methodLink RX1 49 yX1_improve, Cond.instanceMethod yX1_improve, Cond.selects RX1 yX1_improve yX1_improve, Cond.code yX1_improve cX1_improve 4 none, Cond.methodLink RL 17 yX7_coin, Cond.instanceMethod yX7_coin, Cond.selects RX7 yX7_coin yX7_coin, Cond.code yX7_coin cX7_coin 4 (some .int), Cond.fieldLink RX7 90 "NewCoinsModel" "code" "I", Cond.methodLink RX7 98 yX7_in, Cond.static yX7_in, Cond.code yX7_in cX7_in 3 (some .boolean), Cond.methodLink RL 18 yX6_rate, Cond.instanceMethod yX6_rate, Cond.selects RX6 yX6_rate yX6_rate, Cond.code yX6_rate cX6_rate 3 (some .boolean), Cond.fieldLink RX6 57 "NewCoins$Land" "a" "I", Cond.fieldLink RX6 61 "NewCoins$Land" "b" "I", Cond.methodLink RX6 49 yX6_within, Cond.methodLink RX6 53 yX4_hasSold]
def wsL_law_r8 : List Cond := [Cond.instanceMethod yX4_hasSold, Cond.selects RX4 yX4_hasSold yX4_hasSold, Cond.code yX4_hasSold cX4_hasSold 2 (some .boolean), Cond.fieldLink RX4 83 "NewCoins$Till" "sales" "I", Cond.methodLink RL 22 yX7_rate, Cond.instanceMethod yX7_rate, Cond.selects RX7 yX7_rate yX7_rate, Cond.code yX7_rate cX7_rate 3 (some .boolean), Cond.methodLink RL 23 yX6_good, Cond.instanceMethod yX6_good, Cond.selects RX6 yX6_good yX6_good, Cond.code yX6_good cX6_good 3 (some .int), Cond.fieldLink RX6 64 "NewCoins$Land" "goods" "LNewCoins$Goods;", Cond.methodLink RX6 68 yX3_add, Cond.instanceMethod yX3_add, Cond.selects RX3 yX3_add yX3_add, Cond.code yX3_add cX3_add 3 (some .int), Cond.methodLink RL 26 yX7_good, Cond.instanceMethod yX7_good, Cond.selects RX7 yX7_good yX7_good, Cond.code yX7_good cX7_good 3 (some .int), Cond.methodLink RL 27 yX6_sold, Cond.instanceMethod yX6_sold, Cond.selects RX6 yX6_sold yX6_sold]
def wsL_law_r9 : List Cond := [Cond.code yX6_sold cX6_sold 3 (some .boolean), Cond.fieldLink RX6 77 "NewCoins$Goods" "times" "[I", Cond.methodLink RX6 73 yX3_isGood, Cond.instanceMethod yX3_isGood, Cond.selects RX3 yX3_isGood yX3_isGood, Cond.code yX3_isGood cX3_isGood 2 (some .boolean), Cond.methodLink RL 30 yX7_sold, Cond.instanceMethod yX7_sold, Cond.selects RX7 yX7_sold yX7_sold, Cond.code yX7_sold cX7_sold 3 (some .boolean), Cond.methodLink RX7 102 yX7_isGood, Cond.instanceMethod yX7_isGood, Cond.selects RX7 yX7_isGood yX7_isGood, Cond.code yX7_isGood cX7_isGood 2 (some .boolean), Cond.methodLink RL 31 yX6_step, Cond.instanceMethod yX6_step, Cond.selects RX6 yX6_step yX6_step, Cond.code yX6_step cX6_step 2 (some .boolean), Cond.fieldLink RX6 80 "NewCoins$Land" "step" "I", Cond.methodLink RL 35 yX7_step, Cond.instanceMethod yX7_step, Cond.selects RX7 yX7_step yX7_step, Cond.code yX7_step cX7_step 2 (some .boolean), Cond.methodLink RL 36 yX6_price]
def wsL_law_r10 : List Cond := [Cond.instanceMethod yX6_price, Cond.selects RX6 yX6_price yX6_price, Cond.code yX6_price cX6_price 3 (some .int), Cond.methodLink RX6 83 yX6_isRule, Cond.static yX6_isRule, Cond.code yX6_isRule cX6_isRule 1 (some .boolean), Cond.methodLink RX6 86 yX4_newPrice, Cond.instanceMethod yX4_newPrice, Cond.selects RX4 yX4_newPrice yX4_newPrice, Cond.code yX4_newPrice cX4_newPrice 7 (some .int), Cond.fieldLink RX4 96 "NewCoins$Goods" "prices" "[I", Cond.static yX6_wholeTimes, Cond.code yX6_wholeTimes cX6_wholeTimes 2 (some .int), Cond.methodLink RX4 103 yX4_roundsUp, Cond.static yX4_roundsUp, Cond.code yX4_roundsUp cX4_roundsUp 4 (some .boolean), Cond.methodLink RL 39 yX7_price, Cond.instanceMethod yX7_price, Cond.selects RX7 yX7_price yX7_price, Cond.code yX7_price cX7_price 3 (some .int), Cond.methodLink RX7 106 yX7_priceOf, Cond.instanceMethod yX7_priceOf, Cond.selects RX7 yX7_priceOf yX7_priceOf, Cond.code yX7_priceOf cX7_priceOf 9 (some .int)]
def wsL_law_r11 : List Cond := [Cond.methodLink RL 40 yX6_gain, Cond.instanceMethod yX6_gain, Cond.selects RX6 yX6_gain yX6_gain, Cond.code yX6_gain cX6_gain 5 (some .long), Cond.fieldLink RX6 89 "NewCoins$Goods" "count" "I", Cond.methodLink RX6 92 yX4_gainOf, Cond.instanceMethod yX4_gainOf, Cond.selects RX4 yX4_gainOf yX4_gainOf, Cond.code yX4_gainOf cX4_gainOf 5 (some .long), Cond.fieldLink RX4 110 "NewCoins$Goods" "times" "[I", Cond.methodLink RX4 107 yX4_newPrice, Cond.methodLink RL 44 yX7_gain, Cond.instanceMethod yX7_gain, Cond.selects RX7 yX7_gain yX7_gain, Cond.code yX7_gain cX7_gain 5 (some .long), Cond.methodLink RX7 110 yX7_gainOf, Cond.instanceMethod yX7_gainOf, Cond.selects RX7 yX7_gainOf yX7_gainOf, Cond.code yX7_gainOf cX7_gainOf 3 (some .long), Cond.methodLink RL 45 yX6_fairest, Cond.instanceMethod yX6_fairest, Cond.selects RX6 yX6_fairest yX6_fairest, Cond.code yX6_fairest cX6_fairest 9 (some .int), Cond.methodLink RX6 100 Lib.MathLoose.abs_long.x]
def wsL_law_r12 : List Cond := [Cond.static Lib.MathLoose.abs_long.x, Cond.initialized "java/lang/Math", Cond.code Lib.MathLoose.abs_long.x Lib.MathLoose.abs_long.code 2 (some .long), Cond.methodLink RX6 96 yX6_startOfWays, Cond.instanceMethod yX6_startOfWays, Cond.selects RX6 yX6_startOfWays yX6_startOfWays, Cond.code yX6_startOfWays cX6_startOfWays 10 (some .long), Cond.methodLink RX6 106 yJ6_bitCount_0f7a4, Cond.static yJ6_bitCount_0f7a4, Cond.initialized RJ6, Cond.code yJ6_bitCount_0f7a4 cJ6_bitCount_0f7a4 1 (some .int), Cond.constant RJ6 265 (1431655765), Cond.constant RJ6 266 (858993459), Cond.constant RJ6 267 (252645135), Cond.methodLink RL 49 yX7_fairest, Cond.instanceMethod yX7_fairest, Cond.selects RX7 yX7_fairest yX7_fairest, Cond.code yX7_fairest cX7_fairest 8 (some .int), Cond.constantLong RX7 114 (-1), Cond.methodLink RL 50 yX6_gains, Cond.instanceMethod yX6_gains, Cond.selects RX6 yX6_gains yX6_gains, Cond.code yX6_gains cX6_gains 6 (some .long), Cond.methodLink RL 53 yX7_gains]
def wsL_law_r13 : List Cond := [Cond.instanceMethod yX7_gains, Cond.selects RX7 yX7_gains yX7_gains, Cond.code yX7_gains cX7_gains 5 (some .long), Cond.methodLink RL 54 yX6_fewest, Cond.instanceMethod yX6_fewest, Cond.selects RX6 yX6_fewest yX6_fewest, Cond.code yX6_fewest cX6_fewest 5 (some .int), Cond.fieldLink RX6 114 "NewCoins$Coinage" "least" "[I", Cond.methodLink RX6 111 yX1_hasFewest, Cond.instanceMethod yX1_hasFewest, Cond.selects RX1 yX1_hasFewest yX1_hasFewest, Cond.code yX1_hasFewest cX1_hasFewest 2 (some .boolean), Cond.static yX6_isSum, Cond.code yX6_isSum cX6_isSum 1 (some .boolean), Cond.methodLink RX6 117 yX1_isCoin, Cond.instanceMethod yX1_isCoin, Cond.selects RX1 yX1_isCoin yX1_isCoin, Cond.code yX1_isCoin cX1_isCoin 2 (some .boolean), Cond.methodLink RX6 120 yX1_writeFewest, Cond.instanceMethod yX1_writeFewest, Cond.selects RX1 yX1_writeFewest yX1_writeFewest, Cond.code yX1_writeFewest cX1_writeFewest 8 none, Cond.methodLink RL 58 yX7_fewest, Cond.instanceMethod yX7_fewest]
def wsL_law_r14 : List Cond := [Cond.selects RX7 yX7_fewest yX7_fewest, Cond.code yX7_fewest cX7_fewest 5 (some .int), Cond.methodLink RX7 121 yX7_isCoin, Cond.instanceMethod yX7_isCoin, Cond.selects RX7 yX7_isCoin yX7_isCoin, Cond.code yX7_isCoin cX7_isCoin 3 (some .boolean), Cond.methodLink RX7 125 yX7_noBounds, Cond.instanceMethod yX7_noBounds, Cond.selects RX7 yX7_noBounds yX7_noBounds, Cond.code yX7_noBounds cX7_noBounds 2 none, Cond.methodLink RX7 128 yX7_find, Cond.instanceMethod yX7_find, Cond.selects RX7 yX7_find yX7_find, Cond.code yX7_find cX7_find 11 (some .int), Cond.constant RX7 120 (1000000), Cond.methodLink RX7 116 yX7_sortCoins, Cond.instanceMethod yX7_sortCoins, Cond.selects RX7 yX7_sortCoins yX7_sortCoins, Cond.code yX7_sortCoins cX7_sortCoins 4 none, Cond.methodLink RL 59 yX6_greedy, Cond.instanceMethod yX6_greedy, Cond.selects RX6 yX6_greedy yX6_greedy, Cond.code yX6_greedy cX6_greedy 4 (some .int), Cond.methodLink RX6 124 yX6_isSum]
def wsL_law_r15 : List Cond := [Cond.methodLink RX6 127 yX1_countGreedily, Cond.instanceMethod yX1_countGreedily, Cond.selects RX1 yX1_countGreedily yX1_countGreedily, Cond.code yX1_countGreedily cX1_countGreedily 7 (some .int), Cond.methodLink RL 62 yX7_greedy, Cond.instanceMethod yX7_greedy, Cond.selects RX7 yX7_greedy yX7_greedy, Cond.code yX7_greedy cX7_greedy 3 (some .int), Cond.methodLink RX7 131 yX7_greedyOf, Cond.instanceMethod yX7_greedyOf, Cond.selects RX7 yX7_greedyOf yX7_greedyOf, Cond.code yX7_greedyOf cX7_greedyOf 7 (some .int), Cond.methodLink RL 63 yX6_odd, Cond.instanceMethod yX6_odd, Cond.selects RX6 yX6_odd yX6_odd, Cond.code yX6_odd cX6_odd 3 (some .int), Cond.methodLink RX6 130 yX1_leastOdd, Cond.instanceMethod yX1_leastOdd, Cond.selects RX1 yX1_leastOdd yX1_leastOdd, Cond.code yX1_leastOdd cX1_leastOdd 2 (some .int), Cond.methodLink RX1 59 yX1_countGreedily, Cond.methodLink RL 67 yX7_odd, Cond.instanceMethod yX7_odd, Cond.selects RX7 yX7_odd yX7_odd]
def wsL_law_r16 : List Cond := [Cond.code yX7_odd cX7_odd 5 (some .int), Cond.methodLink RL 68 yX6_till, Cond.instanceMethod yX6_till, Cond.selects RX6 yX6_till yX6_till, Cond.code yX6_till cX6_till 1 (some .int), Cond.fieldLink RX6 134 "NewCoins$Land" "tillCount" "I", Cond.methodLink RL 71 yX7_till, Cond.instanceMethod yX7_till, Cond.selects RX7 yX7_till yX7_till, Cond.code yX7_till cX7_till 3 (some .int), Cond.methodLink RX7 134 yX7_cell, Cond.static yX7_cell, Cond.code yX7_cell cX7_cell 3 (some .int), Cond.methodLink RL 72 yX6_put, Cond.instanceMethod yX6_put, Cond.selects RX6 yX6_put yX6_put, Cond.code yX6_put cX6_put 9 (some .int), Cond.constantLong RX6 150 (1000), Cond.methodLink RX6 137 yX4_tillAt, Cond.instanceMethod yX4_tillAt, Cond.selects RX4 yX4_tillAt yX4_tillAt, Cond.code yX4_tillAt cX4_tillAt 2 (some (.object "NewCoins$Till")), Cond.methodLink RX6 141 yX4_isCoin, Cond.instanceMethod yX4_isCoin]
def wsL_law_r17 : List Cond := [Cond.selects RX4 yX4_isCoin yX4_isCoin, Cond.code yX4_isCoin cX4_isCoin 4 (some .boolean), Cond.methodLink RX4 72 yX4_coinageOf, Cond.methodLink RX4 76 yX1_isCoin, Cond.methodLink RX6 144 yX5_countsOf, Cond.instanceMethod yX5_countsOf, Cond.selects RX5 yX5_countsOf yX5_countsOf, Cond.code yX5_countsOf cX5_countsOf 2 (some (.array .int)), Cond.methodLink RL 76 yX7_put, Cond.instanceMethod yX7_put, Cond.selects RX7 yX7_put yX7_put, Cond.code yX7_put cX7_put 6 (some .int), Cond.methodLink RX7 138 yX7_isTill, Cond.instanceMethod yX7_isTill, Cond.selects RX7 yX7_isTill yX7_isTill, Cond.code yX7_isTill cX7_isTill 2 (some .boolean), Cond.methodLink RL 77 yX6_sale, Cond.instanceMethod yX6_sale, Cond.selects RX6 yX6_sale yX6_sale, Cond.code yX6_sale cX6_sale 10 (some .int), Cond.fieldLink RX6 163 "NewCoins$Land" "fresh" "LNewCoins$Coinage;", Cond.fieldLink RX6 167 "NewCoins$Till" "fresh" "[I", Cond.fieldLink RX6 173 "NewCoins$ChangeMaker" "row" "[I", Cond.methodLink RX6 152 yX4_isSale]
def wsL_law_r18 : List Cond := [Cond.instanceMethod yX4_isSale, Cond.selects RX4 yX4_isSale yX4_isSale, Cond.code yX4_isSale cX4_isSale 5 (some .boolean), Cond.methodLink RX4 80 yX4_isCoin, Cond.methodLink RX6 156 yX4_spareParts, Cond.instanceMethod yX4_spareParts, Cond.selects RX4 yX4_spareParts yX4_spareParts, Cond.code yX4_spareParts cX4_spareParts 6 (some .int), Cond.fieldLink RX4 86 "NewCoins$Coinage" "values" "[I", Cond.methodLink RX4 89 yX4_unitParts, Cond.instanceMethod yX4_unitParts, Cond.selects RX4 yX4_unitParts yX4_unitParts, Cond.code yX4_unitParts cX4_unitParts 2 (some .int), Cond.methodLink RX6 160 yX6_wholeTimes, Cond.methodLink RX6 169 yX0_make, Cond.instanceMethod yX0_make, Cond.selects RX0 yX0_make yX0_make, Cond.code yX0_make cX0_make 7 (some .boolean), Cond.fieldLink RX0 36 "NewCoins$Coinage" "count" "I", Cond.fieldLink RX0 42 "NewCoins$Coinage" "falling" "[I", Cond.fieldLink RX0 45 "NewCoins$Coinage" "values" "[I", Cond.methodLink RX0 30 yJ7_fill_53178, Cond.methodLink RX0 48 yX0_allow, Cond.instanceMethod yX0_allow]
def wsL_law_r19 : List Cond := [Cond.selects RX0 yX0_allow yX0_allow, Cond.code yX0_allow cX0_allow 6 none, Cond.methodLink RX0 56 yX0_slide, Cond.instanceMethod yX0_slide, Cond.selects RX0 yX0_slide yX0_slide, Cond.code yX0_slide cX0_slide 12 none, Cond.methodLink RX0 52 yX0_writeRow, Cond.instanceMethod yX0_writeRow, Cond.selects RX0 yX0_writeRow yX0_writeRow, Cond.code yX0_writeRow cX0_writeRow 9 none, Cond.methodLink RX0 64 Lib.Math.min.name, Cond.static Lib.Math.min.name, Cond.code Lib.Math.min.name Lib.Math.min.code 2 (some .int), Cond.methodLink RX0 69 yX0_leadsOn, Cond.instanceMethod yX0_leadsOn, Cond.selects RX0 yX0_leadsOn yX0_leadsOn, Cond.code yX0_leadsOn cX0_leadsOn 5 (some .boolean), Cond.methodLink RX6 176 yX5_close, Cond.instanceMethod yX5_close, Cond.selects RX5 yX5_close yX5_close, Cond.code yX5_close cX5_close 5 none, Cond.methodLink RL 81 yX7_sale, Cond.instanceMethod yX7_sale, Cond.selects RX7 yX7_sale yX7_sale]
def wsL_law_r20 : List Cond := [Cond.code yX7_sale cX7_sale 11 (some .int), Cond.methodLink RX7 141 yX7_isSale, Cond.instanceMethod yX7_isSale, Cond.selects RX7 yX7_isSale yX7_isSale, Cond.code yX7_isSale cX7_isSale 6 (some .boolean), Cond.methodLink RX7 145 yX7_over, Cond.instanceMethod yX7_over, Cond.selects RX7 yX7_over yX7_over, Cond.code yX7_over cX7_over 5 (some .int), Cond.methodLink RL 82 yX6_given, Cond.instanceMethod yX6_given, Cond.selects RX6 yX6_given yX6_given, Cond.code yX6_given cX6_given 4 (some .int), Cond.fieldLink RX6 180 "NewCoins$Till" "sales" "I", Cond.fieldLink RX6 183 "NewCoins$Till" "latest" "[I", Cond.methodLink RL 85 yX7_given, Cond.instanceMethod yX7_given, Cond.selects RX7 yX7_given yX7_given, Cond.code yX7_given cX7_given 3 (some .int), Cond.methodLink RL 86 yX6_tell, Cond.instanceMethod yX6_tell, Cond.selects RX6 yX6_tell yX6_tell, Cond.code yX6_tell cX6_tell 4 (some .long), Cond.constantLong RX6 186 (-1)]
def wsL_law_r21 : List Cond := [Cond.fieldLink RX6 188 "NewCoins$Till" "scraps" "J", Cond.fieldLink RX6 192 "NewCoins$Till" "old" "[I", Cond.fieldLink RX6 199 "NewCoins$Till" "takings" "J", Cond.fieldLink RX6 202 "NewCoins$Till" "expected" "LNewCoins$Expected;", Cond.fieldLink RX6 206 "NewCoins$Expected" "count" "I", Cond.methodLink RX6 195 yX4_partsOf, Cond.instanceMethod yX4_partsOf, Cond.selects RX4 yX4_partsOf yX4_partsOf, Cond.code yX4_partsOf cX4_partsOf 7 (some .long), Cond.fieldLink RX4 93 "NewCoins$Coinage" "count" "I", Cond.methodLink RL 90 yX7_tell, Cond.instanceMethod yX7_tell, Cond.selects RX7 yX7_tell yX7_tell, Cond.code yX7_tell cX7_tell 3 (some .long), Cond.methodLink RX7 149 yX7_parts, Cond.instanceMethod yX7_parts, Cond.selects RX7 yX7_parts yX7_parts, Cond.code yX7_parts cX7_parts 6 (some .long), Cond.methodLink RL 91 yX6_has, Cond.instanceMethod yX6_has, Cond.selects RX6 yX6_has yX6_has, Cond.code yX6_has cX6_has 5 (some .int), Cond.methodLink RL 94 yX7_has, Cond.instanceMethod yX7_has]
def wsL_law_r22 : List Cond := [Cond.selects RX7 yX7_has yX7_has, Cond.code yX7_has cX7_has 4 (some .int), Cond.methodLink RL 95 yX6_draw, Cond.instanceMethod yX6_draw, Cond.selects RX6 yX6_draw yX6_draw, Cond.code yX6_draw cX6_draw 6 (some .long), Cond.fieldLink RX6 209 "NewCoins$Land" "drawnIn" "[I", Cond.methodLink RL 98 yX7_draw, Cond.instanceMethod yX7_draw, Cond.selects RX7 yX7_draw yX7_draw, Cond.code yX7_draw cX7_draw 5 (some .long), Cond.methodLink RL 99 yX6_drawn, Cond.instanceMethod yX6_drawn, Cond.selects RX6 yX6_drawn yX6_drawn, Cond.code yX6_drawn cX6_drawn 2 (some .int), Cond.methodLink RL 102 yX7_drawn, Cond.instanceMethod yX7_drawn, Cond.selects RX7 yX7_drawn yX7_drawn, Cond.code yX7_drawn cX7_drawn 2 (some .int), Cond.methodLink RL 103 yX6_expect, Cond.instanceMethod yX6_expect, Cond.selects RX6 yX6_expect yX6_expect, Cond.code yX6_expect cX6_expect 7 (some .int), Cond.methodLink RX6 212 yX2_add]
def wsL_law_r23 : List Cond := [Cond.instanceMethod yX2_add, Cond.selects RX2 yX2_add yX2_add, Cond.code yX2_add cX2_add 5 (some .int), Cond.methodLink RL 106 yX7_expect, Cond.instanceMethod yX7_expect, Cond.selects RX7 yX7_expect yX7_expect, Cond.code yX7_expect cX7_expect 7 (some .int), Cond.methodLink RL 107 yX6_forget, Cond.instanceMethod yX6_forget, Cond.selects RX6 yX6_forget yX6_forget, Cond.code yX6_forget cX6_forget 3 (some .boolean), Cond.methodLink RL 110 yX7_forget, Cond.instanceMethod yX7_forget, Cond.selects RX7 yX7_forget yX7_forget, Cond.code yX7_forget cX7_forget 2 (some .boolean), Cond.methodLink RL 111 yX6_wanted, Cond.instanceMethod yX6_wanted, Cond.selects RX6 yX6_wanted yX6_wanted, Cond.code yX6_wanted cX6_wanted 4 (some .int), Cond.methodLink RX6 214 yX6_mostLacking, Cond.instanceMethod yX6_mostLacking, Cond.selects RX6 yX6_mostLacking yX6_mostLacking, Cond.code yX6_mostLacking cX6_mostLacking 9 (some .int), Cond.fieldLink RX6 226 "NewCoins$Expected" "numbers" "[I"]
def wsL_law_r24 : List Cond := [Cond.fieldLink RX6 229 "NewCoins$Expected" "prices" "[I", Cond.fieldLink RX6 232 "NewCoins$Expected" "systems" "[I", Cond.fieldLink RX6 235 "NewCoins$Expected" "coins" "[I", Cond.methodLink RX6 238 Lib.Math.max.name, Cond.static Lib.Math.max.name, Cond.code Lib.Math.max.name Lib.Math.max.code 2 (some .int), Cond.methodLink RL 114 yX7_wanted, Cond.instanceMethod yX7_wanted, Cond.selects RX7 yX7_wanted yX7_wanted, Cond.code yX7_wanted cX7_wanted 3 (some .int), Cond.methodLink RX7 152 yX7_findWanted, Cond.instanceMethod yX7_findWanted, Cond.selects RX7 yX7_findWanted yX7_findWanted, Cond.code yX7_findWanted cX7_findWanted 8 (some .boolean), Cond.methodLink RL 115 yX6_about, Cond.instanceMethod yX6_about, Cond.selects RX6 yX6_about yX6_about, Cond.code yX6_about cX6_about 4 (some .int), Cond.methodLink RX6 218 yX4_detail, Cond.instanceMethod yX4_detail, Cond.selects RX4 yX4_detail yX4_detail, Cond.code yX4_detail cX4_detail 2 (some .int), Cond.fieldLink RX4 113 "NewCoins$Goods" "count" "I", Cond.methodLink RX4 114 yX4_goodDetail]
def wsL_law_r25 : List Cond := [Cond.instanceMethod yX4_goodDetail, Cond.selects RX4 yX4_goodDetail yX4_goodDetail, Cond.code yX4_goodDetail cX4_goodDetail 2 (some .int), Cond.methodLink RX4 117 yX3_isGood, Cond.methodLink RX6 221 yX1_detail, Cond.instanceMethod yX1_detail, Cond.selects RX1 yX1_detail yX1_detail, Cond.code yX1_detail cX1_detail 2 (some .int), Cond.methodLink RX1 63 yX1_isCoin, Cond.methodLink RL 118 yX7_about, Cond.instanceMethod yX7_about, Cond.selects RX7 yX7_about yX7_about, Cond.code yX7_about cX7_about 3 (some .int), Cond.methodLink RL 119 yX6_image, Cond.instanceMethod yX6_image, Cond.selects RX6 yX6_image yX6_image, Cond.code yX6_image cX6_image 2 (some .boolean), Cond.methodLink RX6 222 yX4_copyFrom, Cond.instanceMethod yX4_copyFrom, Cond.selects RX4 yX4_copyFrom yX4_copyFrom, Cond.code yX4_copyFrom cX4_copyFrom 3 none, Cond.methodLink RX4 62 arraycopyName, Cond.native arraycopyName, Cond.static arraycopyName]
def wsL_law_r26 : List Cond := [Cond.initialized "java/lang/System", Cond.methodLink RX4 52 yX1_copyFrom, Cond.instanceMethod yX1_copyFrom, Cond.selects RX1 yX1_copyFrom yX1_copyFrom, Cond.code yX1_copyFrom cX1_copyFrom 2 none, Cond.methodLink RX1 31 arraycopyName, Cond.methodLink RX4 56 yX3_copyFrom, Cond.instanceMethod yX3_copyFrom, Cond.selects RX3 yX3_copyFrom yX3_copyFrom, Cond.code yX3_copyFrom cX3_copyFrom 2 none, Cond.methodLink RX3 22 arraycopyName, Cond.methodLink RX4 59 yX5_copyFrom, Cond.instanceMethod yX5_copyFrom, Cond.selects RX5 yX5_copyFrom yX5_copyFrom, Cond.code yX5_copyFrom cX5_copyFrom 2 none, Cond.methodLink RX5 39 arraycopyName, Cond.methodLink RX5 45 yX2_copyFrom, Cond.instanceMethod yX2_copyFrom, Cond.selects RX2 yX2_copyFrom yX2_copyFrom, Cond.code yX2_copyFrom cX2_copyFrom 2 none, Cond.methodLink RX2 28 arraycopyName, Cond.methodLink RL 122 yX7_image, Cond.instanceMethod yX7_image, Cond.selects RX7 yX7_image yX7_image]
def wsL_law_r27 : List Cond := [Cond.code yX7_image cX7_image 2 (some .boolean), Cond.methodLink RX7 155 yX7_copy, Cond.instanceMethod yX7_copy, Cond.selects RX7 yX7_copy yX7_copy, Cond.code yX7_copy cX7_copy 4 none, Cond.methodLink RX7 94 yX7_move, Cond.static yX7_move, Cond.code yX7_move cX7_move 5 none, Cond.methodLink RL 123 yX6_again, Cond.instanceMethod yX6_again, Cond.selects RX6 yX6_again yX6_again, Cond.code yX6_again cX6_again 2 (some .boolean), Cond.methodLink RL 126 yX7_again, Cond.instanceMethod yX7_again, Cond.selects RX7 yX7_again yX7_again, Cond.code yX7_again cX7_again 2 (some .boolean)]
def wsL_law : List Cond := (wsL_law_r1 ++ (wsL_law_r2 ++ (wsL_law_r3 ++ (wsL_law_r4 ++ (wsL_law_r5 ++ (wsL_law_r6 ++ (wsL_law_r7 ++ (wsL_law_r8 ++ (wsL_law_r9 ++ (wsL_law_r10 ++ (wsL_law_r11 ++ (wsL_law_r12 ++ (wsL_law_r13 ++ (wsL_law_r14 ++ (wsL_law_r15 ++ (wsL_law_r16 ++ (wsL_law_r17 ++ (wsL_law_r18 ++ (wsL_law_r19 ++ (wsL_law_r20 ++ (wsL_law_r21 ++ (wsL_law_r22 ++ (wsL_law_r23 ++ (wsL_law_r24 ++ (wsL_law_r25 ++ (wsL_law_r26 ++ wsL_law_r27)))))))))))))))))))))))))) ++ wsX60 ++ wsX70 ++ wsX40 ++ wsX00 ++ wsX10 ++ wsX30 ++ wsX50 ++ wsX20 ++ ([] : List Cond)
set_option maxRecDepth 20000 in
theorem wsL_law_in : ∀ w ∈ wsL_law, w ∈ lw_tbl := fun w h => (goodIn_p wsL_law [41, 44, 49, 55, 59, 84, 106, 112, 205, 563, 247, 251, 255, 258, 262, 266, 270, 650, 653, 274, 279, 657, 283, 287, 661, 292, 296, 665, 669, 300, 673, 304, 307, 311, 314, 317, 677, 681, 321, 325, 685, 689, 330, 337, 334, 340, 693, 347, 698, 351, 355, 358, 362, 366, 702, 706, 710, 714, 718, 371, 376, 723, 727, 380, 384, 731, 389, 735, 738, 393, 397, 402, 408, 742, 746, 413, 417, 422, 426, 431, 437, 441, 445, 449, 453, 457, 750, 754, 758, 461, 762, 465, 470, 766, 770, 474, 774, 478, 778, 482, 782, 486, 490, 786, 494, 790, 498, 502, 505, 794, 798, 509, 513, 517, 522, 802, 527, 531, 535, 542, 547, 552, 806, 810, 813, 558, 817] (by decide +kernel) (by decide +kernel) w h).1
theorem inlX0 : ∀ w ∈ wsX00, w ∈ wsL_law := fun _ h => List.mem_append_left _ (List.mem_append_left _ (List.mem_append_left _ (List.mem_append_left _ (List.mem_append_left _ (List.mem_append_right _ h)))))
theorem inX0 : ∀ w ∈ wsX00, w ∈ lw_tbl := fun w h => wsL_law_in w (inlX0 w h)
theorem inlX1 : ∀ w ∈ wsX10, w ∈ wsL_law := fun _ h => List.mem_append_left _ (List.mem_append_left _ (List.mem_append_left _ (List.mem_append_left _ (List.mem_append_right _ h))))
theorem inX1 : ∀ w ∈ wsX10, w ∈ lw_tbl := fun w h => wsL_law_in w (inlX1 w h)
theorem inlX2 : ∀ w ∈ wsX20, w ∈ wsL_law := fun _ h => List.mem_append_left _ (List.mem_append_right _ h)
theorem inX2 : ∀ w ∈ wsX20, w ∈ lw_tbl := fun w h => wsL_law_in w (inlX2 w h)
theorem inlX3 : ∀ w ∈ wsX30, w ∈ wsL_law := fun _ h => List.mem_append_left _ (List.mem_append_left _ (List.mem_append_left _ (List.mem_append_right _ h)))
theorem inX3 : ∀ w ∈ wsX30, w ∈ lw_tbl := fun w h => wsL_law_in w (inlX3 w h)
theorem inlX4 : ∀ w ∈ wsX40, w ∈ wsL_law := fun _ h => List.mem_append_left _ (List.mem_append_left _ (List.mem_append_left _ (List.mem_append_left _ (List.mem_append_left _ (List.mem_append_left _ (List.mem_append_right _ h))))))
theorem inX4 : ∀ w ∈ wsX40, w ∈ lw_tbl := fun w h => wsL_law_in w (inlX4 w h)
theorem inlX5 : ∀ w ∈ wsX50, w ∈ wsL_law := fun _ h => List.mem_append_left _ (List.mem_append_left _ (List.mem_append_right _ h))
theorem inX5 : ∀ w ∈ wsX50, w ∈ lw_tbl := fun w h => wsL_law_in w (inlX5 w h)
theorem inlX6 : ∀ w ∈ wsX60, w ∈ wsL_law := fun _ h => List.mem_append_left _ (List.mem_append_left _ (List.mem_append_left _ (List.mem_append_left _ (List.mem_append_left _ (List.mem_append_left _ (List.mem_append_left _ (List.mem_append_left _ (List.mem_append_right _ h))))))))
theorem inX6 : ∀ w ∈ wsX60, w ∈ lw_tbl := fun w h => wsL_law_in w (inlX6 w h)
theorem inlX7 : ∀ w ∈ wsX70, w ∈ wsL_law := fun _ h => List.mem_append_left _ (List.mem_append_left _ (List.mem_append_left _ (List.mem_append_left _ (List.mem_append_left _ (List.mem_append_left _ (List.mem_append_left _ (List.mem_append_right _ h)))))))
theorem inX7 : ∀ w ∈ wsX70, w ∈ lw_tbl := fun w h => wsL_law_in w (inlX7 w h)
theorem inJ6 : ∀ w ∈ wsJ60, w ∈ lw_tbl := by decide +kernel
theorem inJ9 : ∀ w ∈ wsJ90, w ∈ lw_tbl := by decide +kernel
theorem inJ10 : ∀ w ∈ wsJ100, w ∈ lw_tbl := by decide +kernel
theorem inJ7 : ∀ w ∈ wsJ70, w ∈ lw_tbl := by decide +kernel
theorem dX0_init_0 : decode cX0_init 0 = .ok (.aload_n 0, 1) := by decide +kernel
theorem dX0_init_1 : decode cX0_init 1 = .ok (.invokespecial 3, 3) := by decide +kernel
theorem dX0_init_4 : decode cX0_init 4 = .ok (.aload_n 0, 1) := by decide +kernel
theorem dX0_init_5 : decode cX0_init 5 = .ok (.bipush 8, 2) := by decide +kernel
theorem dX0_init_7 : decode cX0_init 7 = .ok (.newarray .int, 2) := by decide +kernel
theorem dX0_init_9 : decode cX0_init 9 = .ok (.putfield 9, 3) := by decide +kernel
theorem dX0_init_12 : decode cX0_init 12 = .ok (.aload_n 0, 1) := by decide +kernel
theorem dX0_init_13 : decode cX0_init 13 = .ok (.bipush 9, 2) := by decide +kernel
theorem dX0_init_15 : decode cX0_init 15 = .ok (.sipush 2001, 3) := by decide +kernel
theorem dX0_init_18 : decode cX0_init 18 = .ok (.multianewarray 15 2, 4) := by decide +kernel
theorem dX0_init_22 : decode cX0_init 22 = .ok (.putfield 17, 3) := by decide +kernel
theorem dX0_init_25 : decode cX0_init 25 = .ok (.aload_n 0, 1) := by decide +kernel
theorem dX0_init_26 : decode cX0_init 26 = .ok (.sipush 2001, 3) := by decide +kernel
theorem dX0_init_29 : decode cX0_init 29 = .ok (.newarray .int, 2) := by decide +kernel
theorem dX0_init_31 : decode cX0_init 31 = .ok (.putfield 20, 3) := by decide +kernel
theorem dX0_init_34 : decode cX0_init 34 = .ok (.aload_n 0, 1) := by decide +kernel
theorem dX0_init_35 : decode cX0_init 35 = .ok (.sipush 2001, 3) := by decide +kernel
theorem dX0_init_38 : decode cX0_init 38 = .ok (.newarray .int, 2) := by decide +kernel
theorem dX0_init_40 : decode cX0_init 40 = .ok (.putfield 23, 3) := by decide +kernel
theorem dX0_init_43 : decode cX0_init 43 = .ok (.return_, 1) := by decide +kernel
set_option maxRecDepth 20000 in
theorem ggX0_make_X6_isSum : GoodIn wsX0_make wsX6_isSum := goodIn_r _ [7, 8, 9, 6, 10] (by decide +kernel) (by decide +kernel)
set_option maxRecDepth 20000 in
theorem gX0_make_X6_isSum_n26 : GoodIn wsX0_make (wsX6_isSum) := ggX0_make_X6_isSum
set_option maxRecDepth 20000 in
theorem ggX0_make_J7_fill_53178 : GoodIn wsX0_make wsJ7_fill_53178 := goodIn_r _ [14] (by decide +kernel) (by decide +kernel)
set_option maxRecDepth 20000 in
theorem gX0_make_J7_fill_53178 : GoodIn wsX0_make (va_wsS RX0 30 yJ7_fill_53178 wsJ7_fill_53178) := goodIn_app (goodIn_of _ (by decide +kernel)) ggX0_make_J7_fill_53178
set_option maxRecDepth 20000 in
theorem ggX0_make_X0_allow : GoodIn wsX0_make wsX0_allow := goodIn_r _ [19, 1, 20, 21, 22, 18, 23, 24, 25, 41, 42, 43, 44] (by decide +kernel) (by decide +kernel)
set_option maxRecDepth 20000 in
theorem gX0_make_X0_allow : GoodIn wsX0_make (wsV RX0 48 RX0 yX0_allow wsX0_allow) := goodIn_app (goodIn_of _ (by decide +kernel)) ggX0_make_X0_allow
set_option maxRecDepth 20000 in
theorem ggX0_make_X0_writeRow : GoodIn wsX0_make wsX0_writeRow := goodIn_r _ [29, 30, 2, 3, 4, 31, 32, 33, 34, 11, 12, 13, 14, 35, 6, 36, 37, 38, 39, 18, 40, 1, 41, 42, 43, 44, 45, 46, 47, 48] (by decide +kernel) (by decide +kernel)
set_option maxRecDepth 20000 in
theorem gX0_make_X0_writeRow : GoodIn wsX0_make (wsV RX0 52 RX0 yX0_writeRow wsX0_writeRow) := goodIn_app (goodIn_of _ (by decide +kernel)) ggX0_make_X0_writeRow
theorem dX0_make_0 : decode cX0_make 0 = .ok (.iload_n 3, 1) := by decide +kernel
theorem dX0_make_1 : decode cX0_make 1 = .ok (.invokestatic 26, 3) := by decide +kernel
theorem dX0_make_4 : decode cX0_make 4 = .ok (.ifCond .ne 5, 3) := by decide +kernel
theorem dX0_make_7 : decode cX0_make 7 = .ok (.iconst 0, 1) := by decide +kernel
theorem dX0_make_8 : decode cX0_make 8 = .ok (.ireturn, 1) := by decide +kernel
theorem dX0_make_9 : decode cX0_make 9 = .ok (.aload_n 0, 1) := by decide +kernel
theorem dX0_make_10 : decode cX0_make 10 = .ok (.getfield 17, 3) := by decide +kernel
theorem dX0_make_13 : decode cX0_make 13 = .ok (.iconst 0, 1) := by decide +kernel
theorem dX0_make_14 : decode cX0_make 14 = .ok (.aaload, 1) := by decide +kernel
theorem dX0_make_15 : decode cX0_make 15 = .ok (.iconst (-1), 1) := by decide +kernel
theorem dX0_make_16 : decode cX0_make 16 = .ok (.invokestatic 30, 3) := by decide +kernel
theorem dX0_make_19 : decode cX0_make 19 = .ok (.aload_n 0, 1) := by decide +kernel
theorem dX0_make_20 : decode cX0_make 20 = .ok (.getfield 17, 3) := by decide +kernel
theorem dX0_make_23 : decode cX0_make 23 = .ok (.iconst 0, 1) := by decide +kernel
theorem dX0_make_24 : decode cX0_make 24 = .ok (.aaload, 1) := by decide +kernel
theorem dX0_make_25 : decode cX0_make 25 = .ok (.iconst 0, 1) := by decide +kernel
theorem dX0_make_26 : decode cX0_make 26 = .ok (.iconst 0, 1) := by decide +kernel
theorem dX0_make_27 : decode cX0_make 27 = .ok (.iastore, 1) := by decide +kernel
theorem dX0_make_28 : decode cX0_make 28 = .ok (.aload_n 1, 1) := by decide +kernel
theorem dX0_make_29 : decode cX0_make 29 = .ok (.getfield 36, 3) := by decide +kernel
theorem dX0_make_32 : decode cX0_make 32 = .ok (.istore 4, 2) := by decide +kernel
theorem dX0_make_34 : decode cX0_make 34 = .ok (.iconst 0, 1) := by decide +kernel
theorem dX0_make_35 : decode cX0_make 35 = .ok (.istore 5, 2) := by decide +kernel
theorem dX0_make_37 : decode cX0_make 37 = .ok (.iload 5, 2) := by decide +kernel
theorem dX0_make_39 : decode cX0_make 39 = .ok (.iload 4, 2) := by decide +kernel
theorem dX0_make_41 : decode cX0_make 41 = .ok (.if_icmp .ge 41, 3) := by decide +kernel
theorem dX0_make_44 : decode cX0_make 44 = .ok (.aload_n 1, 1) := by decide +kernel
theorem dX0_make_45 : decode cX0_make 45 = .ok (.getfield 42, 3) := by decide +kernel
theorem dX0_make_48 : decode cX0_make 48 = .ok (.iload 4, 2) := by decide +kernel
theorem dX0_make_50 : decode cX0_make 50 = .ok (.iconst 1, 1) := by decide +kernel
theorem dX0_make_51 : decode cX0_make 51 = .ok (.isub, 1) := by decide +kernel
theorem dX0_make_52 : decode cX0_make 52 = .ok (.iload 5, 2) := by decide +kernel
theorem dX0_make_54 : decode cX0_make 54 = .ok (.isub, 1) := by decide +kernel
theorem dX0_make_55 : decode cX0_make 55 = .ok (.iaload, 1) := by decide +kernel
theorem dX0_make_56 : decode cX0_make 56 = .ok (.istore 6, 2) := by decide +kernel
theorem dX0_make_58 : decode cX0_make 58 = .ok (.aload_n 0, 1) := by decide +kernel
theorem dX0_make_59 : decode cX0_make 59 = .ok (.iload 5, 2) := by decide +kernel
theorem dX0_make_61 : decode cX0_make 61 = .ok (.aload_n 1, 1) := by decide +kernel
theorem dX0_make_62 : decode cX0_make 62 = .ok (.getfield 45, 3) := by decide +kernel
theorem dX0_make_65 : decode cX0_make 65 = .ok (.iload 6, 2) := by decide +kernel
theorem dX0_make_67 : decode cX0_make 67 = .ok (.iaload, 1) := by decide +kernel
theorem dX0_make_68 : decode cX0_make 68 = .ok (.aload_n 2, 1) := by decide +kernel
theorem dX0_make_69 : decode cX0_make 69 = .ok (.iload 6, 2) := by decide +kernel
theorem dX0_make_71 : decode cX0_make 71 = .ok (.iaload, 1) := by decide +kernel
theorem dX0_make_72 : decode cX0_make 72 = .ok (.iload_n 3, 1) := by decide +kernel
theorem dX0_make_73 : decode cX0_make 73 = .ok (.invokevirtual 48, 3) := by decide +kernel
theorem dX0_make_76 : decode cX0_make 76 = .ok (.iinc 5 1, 3) := by decide +kernel
theorem dX0_make_79 : decode cX0_make 79 = .ok (.goto (-42), 3) := by decide +kernel
theorem dX0_make_82 : decode cX0_make 82 = .ok (.aload_n 0, 1) := by decide +kernel
theorem dX0_make_83 : decode cX0_make 83 = .ok (.getfield 17, 3) := by decide +kernel
theorem dX0_make_86 : decode cX0_make 86 = .ok (.iload 4, 2) := by decide +kernel
theorem dX0_make_88 : decode cX0_make 88 = .ok (.aaload, 1) := by decide +kernel
theorem dX0_make_89 : decode cX0_make 89 = .ok (.iload_n 3, 1) := by decide +kernel
theorem dX0_make_90 : decode cX0_make 90 = .ok (.iaload, 1) := by decide +kernel
theorem dX0_make_91 : decode cX0_make 91 = .ok (.iconst (-1), 1) := by decide +kernel
theorem dX0_make_92 : decode cX0_make 92 = .ok (.if_icmp .ne 5, 3) := by decide +kernel
theorem dX0_make_95 : decode cX0_make 95 = .ok (.iconst 0, 1) := by decide +kernel
theorem dX0_make_96 : decode cX0_make 96 = .ok (.ireturn, 1) := by decide +kernel
theorem dX0_make_97 : decode cX0_make 97 = .ok (.aload_n 0, 1) := by decide +kernel
theorem dX0_make_98 : decode cX0_make 98 = .ok (.aload_n 1, 1) := by decide +kernel
theorem dX0_make_99 : decode cX0_make 99 = .ok (.aload_n 2, 1) := by decide +kernel
theorem dX0_make_100 : decode cX0_make 100 = .ok (.iload_n 3, 1) := by decide +kernel
theorem dX0_make_101 : decode cX0_make 101 = .ok (.invokevirtual 52, 3) := by decide +kernel
theorem dX0_make_104 : decode cX0_make 104 = .ok (.iconst 1, 1) := by decide +kernel
theorem dX0_make_105 : decode cX0_make 105 = .ok (.ireturn, 1) := by decide +kernel
set_option maxRecDepth 20000 in
theorem ggX0_allow_X0_slide : GoodIn wsX0_allow wsX0_slide := goodIn_r _ [6, 7, 8, 9, 10, 11, 12] (by decide +kernel) (by decide +kernel)
set_option maxRecDepth 20000 in
theorem gX0_allow_X0_slide : GoodIn wsX0_allow (wsV RX0 56 RX0 yX0_slide wsX0_slide) := goodIn_app (goodIn_of _ (by decide +kernel)) ggX0_allow_X0_slide
theorem dX0_allow_0 : decode cX0_allow 0 = .ok (.iconst 0, 1) := by decide +kernel
theorem dX0_allow_1 : decode cX0_allow 1 = .ok (.istore 5, 2) := by decide +kernel
theorem dX0_allow_3 : decode cX0_allow 3 = .ok (.iload 5, 2) := by decide +kernel
theorem dX0_allow_5 : decode cX0_allow 5 = .ok (.iload_n 2, 1) := by decide +kernel
theorem dX0_allow_6 : decode cX0_allow 6 = .ok (.if_icmp .ge 40, 3) := by decide +kernel
theorem dX0_allow_9 : decode cX0_allow 9 = .ok (.iload 5, 2) := by decide +kernel
theorem dX0_allow_11 : decode cX0_allow 11 = .ok (.iload 4, 2) := by decide +kernel
theorem dX0_allow_13 : decode cX0_allow 13 = .ok (.if_icmp .gt 33, 3) := by decide +kernel
theorem dX0_allow_16 : decode cX0_allow 16 = .ok (.aload_n 0, 1) := by decide +kernel
theorem dX0_allow_17 : decode cX0_allow 17 = .ok (.aload_n 0, 1) := by decide +kernel
theorem dX0_allow_18 : decode cX0_allow 18 = .ok (.getfield 17, 3) := by decide +kernel
theorem dX0_allow_21 : decode cX0_allow 21 = .ok (.iload_n 1, 1) := by decide +kernel
theorem dX0_allow_22 : decode cX0_allow 22 = .ok (.aaload, 1) := by decide +kernel
theorem dX0_allow_23 : decode cX0_allow 23 = .ok (.aload_n 0, 1) := by decide +kernel
theorem dX0_allow_24 : decode cX0_allow 24 = .ok (.getfield 17, 3) := by decide +kernel
theorem dX0_allow_27 : decode cX0_allow 27 = .ok (.iload_n 1, 1) := by decide +kernel
theorem dX0_allow_28 : decode cX0_allow 28 = .ok (.iconst 1, 1) := by decide +kernel
theorem dX0_allow_29 : decode cX0_allow 29 = .ok (.iadd, 1) := by decide +kernel
theorem dX0_allow_30 : decode cX0_allow 30 = .ok (.aaload, 1) := by decide +kernel
theorem dX0_allow_31 : decode cX0_allow 31 = .ok (.iload 5, 2) := by decide +kernel
theorem dX0_allow_33 : decode cX0_allow 33 = .ok (.iload_n 2, 1) := by decide +kernel
theorem dX0_allow_34 : decode cX0_allow 34 = .ok (.iload_n 3, 1) := by decide +kernel
theorem dX0_allow_35 : decode cX0_allow 35 = .ok (.iload 4, 2) := by decide +kernel
theorem dX0_allow_37 : decode cX0_allow 37 = .ok (.invokevirtual 56, 3) := by decide +kernel
theorem dX0_allow_40 : decode cX0_allow 40 = .ok (.iinc 5 1, 3) := by decide +kernel
theorem dX0_allow_43 : decode cX0_allow 43 = .ok (.goto (-40), 3) := by decide +kernel
theorem dX0_allow_46 : decode cX0_allow 46 = .ok (.return_, 1) := by decide +kernel
theorem dX0_slide_0 : decode cX0_slide 0 = .ok (.iconst 0, 1) := by decide +kernel
theorem dX0_slide_1 : decode cX0_slide 1 = .ok (.istore 7, 2) := by decide +kernel
theorem dX0_slide_3 : decode cX0_slide 3 = .ok (.iconst 0, 1) := by decide +kernel
theorem dX0_slide_4 : decode cX0_slide 4 = .ok (.istore 8, 2) := by decide +kernel
theorem dX0_slide_6 : decode cX0_slide 6 = .ok (.iconst 0, 1) := by decide +kernel
theorem dX0_slide_7 : decode cX0_slide 7 = .ok (.istore 9, 2) := by decide +kernel
theorem dX0_slide_9 : decode cX0_slide 9 = .ok (.iload_n 3, 1) := by decide +kernel
theorem dX0_slide_10 : decode cX0_slide 10 = .ok (.istore 10, 2) := by decide +kernel
theorem dX0_slide_12 : decode cX0_slide 12 = .ok (.iload 10, 2) := by decide +kernel
theorem dX0_slide_14 : decode cX0_slide 14 = .ok (.iload 6, 2) := by decide +kernel
theorem dX0_slide_16 : decode cX0_slide 16 = .ok (.if_icmp .gt 131, 3) := by decide +kernel
theorem dX0_slide_19 : decode cX0_slide 19 = .ok (.aload_n 1, 1) := by decide +kernel
theorem dX0_slide_20 : decode cX0_slide 20 = .ok (.iload 10, 2) := by decide +kernel
theorem dX0_slide_22 : decode cX0_slide 22 = .ok (.iaload, 1) := by decide +kernel
theorem dX0_slide_23 : decode cX0_slide 23 = .ok (.iconst (-1), 1) := by decide +kernel
theorem dX0_slide_24 : decode cX0_slide 24 = .ok (.if_icmp .eq 60, 3) := by decide +kernel
theorem dX0_slide_27 : decode cX0_slide 27 = .ok (.aload_n 1, 1) := by decide +kernel
theorem dX0_slide_28 : decode cX0_slide 28 = .ok (.iload 10, 2) := by decide +kernel
theorem dX0_slide_30 : decode cX0_slide 30 = .ok (.iaload, 1) := by decide +kernel
theorem dX0_slide_31 : decode cX0_slide 31 = .ok (.iload 9, 2) := by decide +kernel
theorem dX0_slide_33 : decode cX0_slide 33 = .ok (.isub, 1) := by decide +kernel
theorem dX0_slide_34 : decode cX0_slide 34 = .ok (.istore 11, 2) := by decide +kernel
theorem dX0_slide_36 : decode cX0_slide 36 = .ok (.iload 8, 2) := by decide +kernel
theorem dX0_slide_38 : decode cX0_slide 38 = .ok (.iload 7, 2) := by decide +kernel
theorem dX0_slide_40 : decode cX0_slide 40 = .ok (.if_icmp .le 23, 3) := by decide +kernel
theorem dX0_slide_43 : decode cX0_slide 43 = .ok (.aload_n 0, 1) := by decide +kernel
theorem dX0_slide_44 : decode cX0_slide 44 = .ok (.getfield 23, 3) := by decide +kernel
theorem dX0_slide_47 : decode cX0_slide 47 = .ok (.iload 8, 2) := by decide +kernel
theorem dX0_slide_49 : decode cX0_slide 49 = .ok (.iconst 1, 1) := by decide +kernel
theorem dX0_slide_50 : decode cX0_slide 50 = .ok (.isub, 1) := by decide +kernel
theorem dX0_slide_51 : decode cX0_slide 51 = .ok (.iaload, 1) := by decide +kernel
theorem dX0_slide_52 : decode cX0_slide 52 = .ok (.iload 11, 2) := by decide +kernel
theorem dX0_slide_54 : decode cX0_slide 54 = .ok (.if_icmp .lt 9, 3) := by decide +kernel
theorem dX0_slide_57 : decode cX0_slide 57 = .ok (.iinc 8 (-1), 3) := by decide +kernel
theorem dX0_slide_60 : decode cX0_slide 60 = .ok (.goto (-24), 3) := by decide +kernel
theorem dX0_slide_63 : decode cX0_slide 63 = .ok (.aload_n 0, 1) := by decide +kernel
theorem dX0_slide_64 : decode cX0_slide 64 = .ok (.getfield 20, 3) := by decide +kernel
theorem dX0_slide_67 : decode cX0_slide 67 = .ok (.iload 8, 2) := by decide +kernel
theorem dX0_slide_69 : decode cX0_slide 69 = .ok (.iload 9, 2) := by decide +kernel
theorem dX0_slide_71 : decode cX0_slide 71 = .ok (.iastore, 1) := by decide +kernel
theorem dX0_slide_72 : decode cX0_slide 72 = .ok (.aload_n 0, 1) := by decide +kernel
theorem dX0_slide_73 : decode cX0_slide 73 = .ok (.getfield 23, 3) := by decide +kernel
theorem dX0_slide_76 : decode cX0_slide 76 = .ok (.iload 8, 2) := by decide +kernel
theorem dX0_slide_78 : decode cX0_slide 78 = .ok (.iload 11, 2) := by decide +kernel
theorem dX0_slide_80 : decode cX0_slide 80 = .ok (.iastore, 1) := by decide +kernel
theorem dX0_slide_81 : decode cX0_slide 81 = .ok (.iinc 8 1, 3) := by decide +kernel
theorem dX0_slide_84 : decode cX0_slide 84 = .ok (.iload 7, 2) := by decide +kernel
theorem dX0_slide_86 : decode cX0_slide 86 = .ok (.iload 8, 2) := by decide +kernel
theorem dX0_slide_88 : decode cX0_slide 88 = .ok (.if_icmp .ge 21, 3) := by decide +kernel
theorem dX0_slide_91 : decode cX0_slide 91 = .ok (.aload_n 0, 1) := by decide +kernel
theorem dX0_slide_92 : decode cX0_slide 92 = .ok (.getfield 20, 3) := by decide +kernel
theorem dX0_slide_95 : decode cX0_slide 95 = .ok (.iload 7, 2) := by decide +kernel
theorem dX0_slide_97 : decode cX0_slide 97 = .ok (.iaload, 1) := by decide +kernel
theorem dX0_slide_98 : decode cX0_slide 98 = .ok (.iload 9, 2) := by decide +kernel
theorem dX0_slide_100 : decode cX0_slide 100 = .ok (.iload 5, 2) := by decide +kernel
theorem dX0_slide_102 : decode cX0_slide 102 = .ok (.isub, 1) := by decide +kernel
theorem dX0_slide_103 : decode cX0_slide 103 = .ok (.if_icmp .ge 6, 3) := by decide +kernel
theorem dX0_slide_106 : decode cX0_slide 106 = .ok (.iinc 7 1, 3) := by decide +kernel
theorem dX0_slide_109 : decode cX0_slide 109 = .ok (.aload_n 2, 1) := by decide +kernel
theorem dX0_slide_110 : decode cX0_slide 110 = .ok (.iload 10, 2) := by decide +kernel
theorem dX0_slide_112 : decode cX0_slide 112 = .ok (.iload 7, 2) := by decide +kernel
theorem dX0_slide_114 : decode cX0_slide 114 = .ok (.iload 8, 2) := by decide +kernel
theorem dX0_slide_116 : decode cX0_slide 116 = .ok (.if_icmp .ge 16, 3) := by decide +kernel
theorem dX0_slide_119 : decode cX0_slide 119 = .ok (.aload_n 0, 1) := by decide +kernel
theorem dX0_slide_120 : decode cX0_slide 120 = .ok (.getfield 23, 3) := by decide +kernel
theorem dX0_slide_123 : decode cX0_slide 123 = .ok (.iload 7, 2) := by decide +kernel
theorem dX0_slide_125 : decode cX0_slide 125 = .ok (.iaload, 1) := by decide +kernel
theorem dX0_slide_126 : decode cX0_slide 126 = .ok (.iload 9, 2) := by decide +kernel
theorem dX0_slide_128 : decode cX0_slide 128 = .ok (.iadd, 1) := by decide +kernel
theorem dX0_slide_129 : decode cX0_slide 129 = .ok (.goto 4, 3) := by decide +kernel
theorem dX0_slide_132 : decode cX0_slide 132 = .ok (.iconst (-1), 1) := by decide +kernel
theorem dX0_slide_133 : decode cX0_slide 133 = .ok (.iastore, 1) := by decide +kernel
theorem dX0_slide_134 : decode cX0_slide 134 = .ok (.iinc 9 1, 3) := by decide +kernel
theorem dX0_slide_137 : decode cX0_slide 137 = .ok (.iload 10, 2) := by decide +kernel
theorem dX0_slide_139 : decode cX0_slide 139 = .ok (.iload 4, 2) := by decide +kernel
theorem dX0_slide_141 : decode cX0_slide 141 = .ok (.iadd, 1) := by decide +kernel
theorem dX0_slide_142 : decode cX0_slide 142 = .ok (.istore 10, 2) := by decide +kernel
theorem dX0_slide_144 : decode cX0_slide 144 = .ok (.goto (-132), 3) := by decide +kernel
theorem dX0_slide_147 : decode cX0_slide 147 = .ok (.return_, 1) := by decide +kernel
set_option maxRecDepth 20000 in
theorem ggX0_writeRow_J7_fill_53178 : GoodIn wsX0_writeRow wsJ7_fill_53178 := goodIn_r _ [12] (by decide +kernel) (by decide +kernel)
set_option maxRecDepth 20000 in
theorem gX0_writeRow_J7_fill_53178 : GoodIn wsX0_writeRow (va_wsS RX0 30 yJ7_fill_53178 wsJ7_fill_53178) := goodIn_app (goodIn_of _ (by decide +kernel)) ggX0_writeRow_J7_fill_53178
set_option maxRecDepth 20000 in
theorem ggX0_writeRow_X6_wholeTimes : GoodIn wsX0_writeRow wsX6_wholeTimes := goodIn_r _ [15] (by decide +kernel) (by decide +kernel)
set_option maxRecDepth 20000 in
theorem gX0_writeRow_X6_wholeTimes_n60 : GoodIn wsX0_writeRow (wsX6_wholeTimes) := ggX0_writeRow_X6_wholeTimes
set_option maxRecDepth 20000 in
theorem ggX0_writeRow_X0_leadsOn : GoodIn wsX0_writeRow wsX0_leadsOn := goodIn_r _ [20, 21, 22, 23, 24, 25] (by decide +kernel) (by decide +kernel)
set_option maxRecDepth 20000 in
theorem gX0_writeRow_X0_leadsOn : GoodIn wsX0_writeRow (wsV RX0 69 RX0 yX0_leadsOn wsX0_leadsOn) := goodIn_app (goodIn_of _ (by decide +kernel)) ggX0_writeRow_X0_leadsOn
theorem dX0_writeRow_0 : decode cX0_writeRow 0 = .ok (.aload_n 0, 1) := by decide +kernel
theorem dX0_writeRow_1 : decode cX0_writeRow 1 = .ok (.getfield 9, 3) := by decide +kernel
theorem dX0_writeRow_4 : decode cX0_writeRow 4 = .ok (.iconst 0, 1) := by decide +kernel
theorem dX0_writeRow_5 : decode cX0_writeRow 5 = .ok (.invokestatic 30, 3) := by decide +kernel
theorem dX0_writeRow_8 : decode cX0_writeRow 8 = .ok (.iload_n 3, 1) := by decide +kernel
theorem dX0_writeRow_9 : decode cX0_writeRow 9 = .ok (.istore 4, 2) := by decide +kernel
theorem dX0_writeRow_11 : decode cX0_writeRow 11 = .ok (.aload_n 1, 1) := by decide +kernel
theorem dX0_writeRow_12 : decode cX0_writeRow 12 = .ok (.getfield 36, 3) := by decide +kernel
theorem dX0_writeRow_15 : decode cX0_writeRow 15 = .ok (.istore 5, 2) := by decide +kernel
theorem dX0_writeRow_17 : decode cX0_writeRow 17 = .ok (.iload 5, 2) := by decide +kernel
theorem dX0_writeRow_19 : decode cX0_writeRow 19 = .ok (.ifCond .le 99, 3) := by decide +kernel
theorem dX0_writeRow_22 : decode cX0_writeRow 22 = .ok (.aload_n 1, 1) := by decide +kernel
theorem dX0_writeRow_23 : decode cX0_writeRow 23 = .ok (.getfield 42, 3) := by decide +kernel
theorem dX0_writeRow_26 : decode cX0_writeRow 26 = .ok (.aload_n 1, 1) := by decide +kernel
theorem dX0_writeRow_27 : decode cX0_writeRow 27 = .ok (.getfield 36, 3) := by decide +kernel
theorem dX0_writeRow_30 : decode cX0_writeRow 30 = .ok (.iload 5, 2) := by decide +kernel
theorem dX0_writeRow_32 : decode cX0_writeRow 32 = .ok (.isub, 1) := by decide +kernel
theorem dX0_writeRow_33 : decode cX0_writeRow 33 = .ok (.iaload, 1) := by decide +kernel
theorem dX0_writeRow_34 : decode cX0_writeRow 34 = .ok (.istore 6, 2) := by decide +kernel
theorem dX0_writeRow_36 : decode cX0_writeRow 36 = .ok (.aload_n 1, 1) := by decide +kernel
theorem dX0_writeRow_37 : decode cX0_writeRow 37 = .ok (.getfield 45, 3) := by decide +kernel
theorem dX0_writeRow_40 : decode cX0_writeRow 40 = .ok (.iload 6, 2) := by decide +kernel
theorem dX0_writeRow_42 : decode cX0_writeRow 42 = .ok (.iaload, 1) := by decide +kernel
theorem dX0_writeRow_43 : decode cX0_writeRow 43 = .ok (.istore 7, 2) := by decide +kernel
theorem dX0_writeRow_45 : decode cX0_writeRow 45 = .ok (.aload_n 2, 1) := by decide +kernel
theorem dX0_writeRow_46 : decode cX0_writeRow 46 = .ok (.iload 6, 2) := by decide +kernel
theorem dX0_writeRow_48 : decode cX0_writeRow 48 = .ok (.iaload, 1) := by decide +kernel
theorem dX0_writeRow_49 : decode cX0_writeRow 49 = .ok (.iload 4, 2) := by decide +kernel
theorem dX0_writeRow_51 : decode cX0_writeRow 51 = .ok (.iload 7, 2) := by decide +kernel
theorem dX0_writeRow_53 : decode cX0_writeRow 53 = .ok (.invokestatic 60, 3) := by decide +kernel
theorem dX0_writeRow_56 : decode cX0_writeRow 56 = .ok (.invokestatic 64, 3) := by decide +kernel
theorem dX0_writeRow_59 : decode cX0_writeRow 59 = .ok (.istore 8, 2) := by decide +kernel
theorem dX0_writeRow_61 : decode cX0_writeRow 61 = .ok (.iload 8, 2) := by decide +kernel
theorem dX0_writeRow_63 : decode cX0_writeRow 63 = .ok (.ifCond .le 30, 3) := by decide +kernel
theorem dX0_writeRow_66 : decode cX0_writeRow 66 = .ok (.aload_n 0, 1) := by decide +kernel
theorem dX0_writeRow_67 : decode cX0_writeRow 67 = .ok (.iload 5, 2) := by decide +kernel
theorem dX0_writeRow_69 : decode cX0_writeRow 69 = .ok (.iload 4, 2) := by decide +kernel
theorem dX0_writeRow_71 : decode cX0_writeRow 71 = .ok (.iload 4, 2) := by decide +kernel
theorem dX0_writeRow_73 : decode cX0_writeRow 73 = .ok (.iload 8, 2) := by decide +kernel
theorem dX0_writeRow_75 : decode cX0_writeRow 75 = .ok (.iload 7, 2) := by decide +kernel
theorem dX0_writeRow_77 : decode cX0_writeRow 77 = .ok (.imul, 1) := by decide +kernel
theorem dX0_writeRow_78 : decode cX0_writeRow 78 = .ok (.isub, 1) := by decide +kernel
theorem dX0_writeRow_79 : decode cX0_writeRow 79 = .ok (.iload 8, 2) := by decide +kernel
theorem dX0_writeRow_81 : decode cX0_writeRow 81 = .ok (.invokevirtual 69, 3) := by decide +kernel
theorem dX0_writeRow_84 : decode cX0_writeRow 84 = .ok (.ifCond .ne 9, 3) := by decide +kernel
theorem dX0_writeRow_87 : decode cX0_writeRow 87 = .ok (.iinc 8 (-1), 3) := by decide +kernel
theorem dX0_writeRow_90 : decode cX0_writeRow 90 = .ok (.goto (-29), 3) := by decide +kernel
theorem dX0_writeRow_93 : decode cX0_writeRow 93 = .ok (.aload_n 0, 1) := by decide +kernel
theorem dX0_writeRow_94 : decode cX0_writeRow 94 = .ok (.getfield 9, 3) := by decide +kernel
theorem dX0_writeRow_97 : decode cX0_writeRow 97 = .ok (.iload 6, 2) := by decide +kernel
theorem dX0_writeRow_99 : decode cX0_writeRow 99 = .ok (.iload 8, 2) := by decide +kernel
theorem dX0_writeRow_101 : decode cX0_writeRow 101 = .ok (.iastore, 1) := by decide +kernel
theorem dX0_writeRow_102 : decode cX0_writeRow 102 = .ok (.iload 4, 2) := by decide +kernel
theorem dX0_writeRow_104 : decode cX0_writeRow 104 = .ok (.iload 8, 2) := by decide +kernel
theorem dX0_writeRow_106 : decode cX0_writeRow 106 = .ok (.iload 7, 2) := by decide +kernel
theorem dX0_writeRow_108 : decode cX0_writeRow 108 = .ok (.imul, 1) := by decide +kernel
theorem dX0_writeRow_109 : decode cX0_writeRow 109 = .ok (.isub, 1) := by decide +kernel
theorem dX0_writeRow_110 : decode cX0_writeRow 110 = .ok (.istore 4, 2) := by decide +kernel
theorem dX0_writeRow_112 : decode cX0_writeRow 112 = .ok (.iinc 5 (-1), 3) := by decide +kernel
theorem dX0_writeRow_115 : decode cX0_writeRow 115 = .ok (.goto (-98), 3) := by decide +kernel
theorem dX0_writeRow_118 : decode cX0_writeRow 118 = .ok (.return_, 1) := by decide +kernel
theorem dX0_leadsOn_0 : decode cX0_leadsOn 0 = .ok (.aload_n 0, 1) := by decide +kernel
theorem dX0_leadsOn_1 : decode cX0_leadsOn 1 = .ok (.getfield 17, 3) := by decide +kernel
theorem dX0_leadsOn_4 : decode cX0_leadsOn 4 = .ok (.iload_n 1, 1) := by decide +kernel
theorem dX0_leadsOn_5 : decode cX0_leadsOn 5 = .ok (.iconst 1, 1) := by decide +kernel
theorem dX0_leadsOn_6 : decode cX0_leadsOn 6 = .ok (.isub, 1) := by decide +kernel
theorem dX0_leadsOn_7 : decode cX0_leadsOn 7 = .ok (.aaload, 1) := by decide +kernel
theorem dX0_leadsOn_8 : decode cX0_leadsOn 8 = .ok (.iload_n 3, 1) := by decide +kernel
theorem dX0_leadsOn_9 : decode cX0_leadsOn 9 = .ok (.iaload, 1) := by decide +kernel
theorem dX0_leadsOn_10 : decode cX0_leadsOn 10 = .ok (.iconst (-1), 1) := by decide +kernel
theorem dX0_leadsOn_11 : decode cX0_leadsOn 11 = .ok (.if_icmp .eq 31, 3) := by decide +kernel
theorem dX0_leadsOn_14 : decode cX0_leadsOn 14 = .ok (.aload_n 0, 1) := by decide +kernel
theorem dX0_leadsOn_15 : decode cX0_leadsOn 15 = .ok (.getfield 17, 3) := by decide +kernel
theorem dX0_leadsOn_18 : decode cX0_leadsOn 18 = .ok (.iload_n 1, 1) := by decide +kernel
theorem dX0_leadsOn_19 : decode cX0_leadsOn 19 = .ok (.iconst 1, 1) := by decide +kernel
theorem dX0_leadsOn_20 : decode cX0_leadsOn 20 = .ok (.isub, 1) := by decide +kernel
theorem dX0_leadsOn_21 : decode cX0_leadsOn 21 = .ok (.aaload, 1) := by decide +kernel
theorem dX0_leadsOn_22 : decode cX0_leadsOn 22 = .ok (.iload_n 3, 1) := by decide +kernel
theorem dX0_leadsOn_23 : decode cX0_leadsOn 23 = .ok (.iaload, 1) := by decide +kernel
theorem dX0_leadsOn_24 : decode cX0_leadsOn 24 = .ok (.iload 4, 2) := by decide +kernel
theorem dX0_leadsOn_26 : decode cX0_leadsOn 26 = .ok (.iadd, 1) := by decide +kernel
theorem dX0_leadsOn_27 : decode cX0_leadsOn 27 = .ok (.aload_n 0, 1) := by decide +kernel
theorem dX0_leadsOn_28 : decode cX0_leadsOn 28 = .ok (.getfield 17, 3) := by decide +kernel
theorem dX0_leadsOn_31 : decode cX0_leadsOn 31 = .ok (.iload_n 1, 1) := by decide +kernel
theorem dX0_leadsOn_32 : decode cX0_leadsOn 32 = .ok (.aaload, 1) := by decide +kernel
theorem dX0_leadsOn_33 : decode cX0_leadsOn 33 = .ok (.iload_n 2, 1) := by decide +kernel
theorem dX0_leadsOn_34 : decode cX0_leadsOn 34 = .ok (.iaload, 1) := by decide +kernel
theorem dX0_leadsOn_35 : decode cX0_leadsOn 35 = .ok (.if_icmp .ne 7, 3) := by decide +kernel
theorem dX0_leadsOn_38 : decode cX0_leadsOn 38 = .ok (.iconst 1, 1) := by decide +kernel
theorem dX0_leadsOn_39 : decode cX0_leadsOn 39 = .ok (.goto 4, 3) := by decide +kernel
theorem dX0_leadsOn_42 : decode cX0_leadsOn 42 = .ok (.iconst 0, 1) := by decide +kernel
theorem dX0_leadsOn_43 : decode cX0_leadsOn 43 = .ok (.ireturn, 1) := by decide +kernel
set_option maxRecDepth 20000 in
theorem ggX1_init_J7_fill_53178 : GoodIn wsX1_init wsJ7_fill_53178 := goodIn_r _ [12] (by decide +kernel) (by decide +kernel)
set_option maxRecDepth 20000 in
theorem gX1_init_J7_fill_53178 : GoodIn wsX1_init (va_wsS RX1 25 yJ7_fill_53178 wsJ7_fill_53178) := goodIn_app (goodIn_of _ (by decide +kernel)) ggX1_init_J7_fill_53178
theorem dX1_init_0 : decode cX1_init 0 = .ok (.aload_n 0, 1) := by decide +kernel
theorem dX1_init_1 : decode cX1_init 1 = .ok (.invokespecial 3, 3) := by decide +kernel
theorem dX1_init_4 : decode cX1_init 4 = .ok (.aload_n 0, 1) := by decide +kernel
theorem dX1_init_5 : decode cX1_init 5 = .ok (.iconst 0, 1) := by decide +kernel
theorem dX1_init_6 : decode cX1_init 6 = .ok (.putfield 9, 3) := by decide +kernel
theorem dX1_init_9 : decode cX1_init 9 = .ok (.aload_n 0, 1) := by decide +kernel
theorem dX1_init_10 : decode cX1_init 10 = .ok (.bipush 8, 2) := by decide +kernel
theorem dX1_init_12 : decode cX1_init 12 = .ok (.newarray .int, 2) := by decide +kernel
theorem dX1_init_14 : decode cX1_init 14 = .ok (.putfield 15, 3) := by decide +kernel
theorem dX1_init_17 : decode cX1_init 17 = .ok (.aload_n 0, 1) := by decide +kernel
theorem dX1_init_18 : decode cX1_init 18 = .ok (.bipush 8, 2) := by decide +kernel
theorem dX1_init_20 : decode cX1_init 20 = .ok (.newarray .int, 2) := by decide +kernel
theorem dX1_init_22 : decode cX1_init 22 = .ok (.putfield 19, 3) := by decide +kernel
theorem dX1_init_25 : decode cX1_init 25 = .ok (.aload_n 0, 1) := by decide +kernel
theorem dX1_init_26 : decode cX1_init 26 = .ok (.sipush 2001, 3) := by decide +kernel
theorem dX1_init_29 : decode cX1_init 29 = .ok (.newarray .int, 2) := by decide +kernel
theorem dX1_init_31 : decode cX1_init 31 = .ok (.putfield 22, 3) := by decide +kernel
theorem dX1_init_34 : decode cX1_init 34 = .ok (.aload_n 0, 1) := by decide +kernel
theorem dX1_init_35 : decode cX1_init 35 = .ok (.getfield 22, 3) := by decide +kernel
theorem dX1_init_38 : decode cX1_init 38 = .ok (.iconst (-1), 1) := by decide +kernel
theorem dX1_init_39 : decode cX1_init 39 = .ok (.invokestatic 25, 3) := by decide +kernel
theorem dX1_init_42 : decode cX1_init 42 = .ok (.aload_n 0, 1) := by decide +kernel
theorem dX1_init_43 : decode cX1_init 43 = .ok (.getfield 22, 3) := by decide +kernel
theorem dX1_init_46 : decode cX1_init 46 = .ok (.iconst 0, 1) := by decide +kernel
theorem dX1_init_47 : decode cX1_init 47 = .ok (.iconst 0, 1) := by decide +kernel
theorem dX1_init_48 : decode cX1_init 48 = .ok (.iastore, 1) := by decide +kernel
theorem dX1_init_49 : decode cX1_init 49 = .ok (.return_, 1) := by decide +kernel
theorem dX1_copyFrom_0 : decode cX1_copyFrom 0 = .ok (.aload_n 0, 1) := by decide +kernel
theorem dX1_copyFrom_1 : decode cX1_copyFrom 1 = .ok (.aload_n 1, 1) := by decide +kernel
theorem dX1_copyFrom_2 : decode cX1_copyFrom 2 = .ok (.getfield 9, 3) := by decide +kernel
theorem dX1_copyFrom_5 : decode cX1_copyFrom 5 = .ok (.putfield 9, 3) := by decide +kernel
theorem dX1_copyFrom_8 : decode cX1_copyFrom 8 = .ok (.aload_n 1, 1) := by decide +kernel
theorem dX1_copyFrom_9 : decode cX1_copyFrom 9 = .ok (.getfield 15, 3) := by decide +kernel
theorem dX1_copyFrom_12 : decode cX1_copyFrom 12 = .ok (.iconst 0, 1) := by decide +kernel
theorem dX1_copyFrom_13 : decode cX1_copyFrom 13 = .ok (.aload_n 0, 1) := by decide +kernel
theorem dX1_copyFrom_14 : decode cX1_copyFrom 14 = .ok (.getfield 15, 3) := by decide +kernel
theorem dX1_copyFrom_17 : decode cX1_copyFrom 17 = .ok (.iconst 0, 1) := by decide +kernel
theorem dX1_copyFrom_18 : decode cX1_copyFrom 18 = .ok (.bipush 8, 2) := by decide +kernel
theorem dX1_copyFrom_20 : decode cX1_copyFrom 20 = .ok (.invokestatic 31, 3) := by decide +kernel
theorem dX1_copyFrom_23 : decode cX1_copyFrom 23 = .ok (.aload_n 1, 1) := by decide +kernel
theorem dX1_copyFrom_24 : decode cX1_copyFrom 24 = .ok (.getfield 19, 3) := by decide +kernel
theorem dX1_copyFrom_27 : decode cX1_copyFrom 27 = .ok (.iconst 0, 1) := by decide +kernel
theorem dX1_copyFrom_28 : decode cX1_copyFrom 28 = .ok (.aload_n 0, 1) := by decide +kernel
theorem dX1_copyFrom_29 : decode cX1_copyFrom 29 = .ok (.getfield 19, 3) := by decide +kernel
theorem dX1_copyFrom_32 : decode cX1_copyFrom 32 = .ok (.iconst 0, 1) := by decide +kernel
theorem dX1_copyFrom_33 : decode cX1_copyFrom 33 = .ok (.bipush 8, 2) := by decide +kernel
theorem dX1_copyFrom_35 : decode cX1_copyFrom 35 = .ok (.invokestatic 31, 3) := by decide +kernel
theorem dX1_copyFrom_38 : decode cX1_copyFrom 38 = .ok (.aload_n 1, 1) := by decide +kernel
theorem dX1_copyFrom_39 : decode cX1_copyFrom 39 = .ok (.getfield 22, 3) := by decide +kernel
theorem dX1_copyFrom_42 : decode cX1_copyFrom 42 = .ok (.iconst 0, 1) := by decide +kernel
theorem dX1_copyFrom_43 : decode cX1_copyFrom 43 = .ok (.aload_n 0, 1) := by decide +kernel
theorem dX1_copyFrom_44 : decode cX1_copyFrom 44 = .ok (.getfield 22, 3) := by decide +kernel
theorem dX1_copyFrom_47 : decode cX1_copyFrom 47 = .ok (.iconst 0, 1) := by decide +kernel
theorem dX1_copyFrom_48 : decode cX1_copyFrom 48 = .ok (.sipush 2001, 3) := by decide +kernel
theorem dX1_copyFrom_51 : decode cX1_copyFrom 51 = .ok (.invokestatic 31, 3) := by decide +kernel
theorem dX1_copyFrom_54 : decode cX1_copyFrom 54 = .ok (.return_, 1) := by decide +kernel
set_option maxRecDepth 20000 in
theorem ggX1_isCoin_X6_within : GoodIn wsX1_isCoin wsX6_within := goodIn_r _ [4] (by decide +kernel) (by decide +kernel)
set_option maxRecDepth 20000 in
theorem gX1_isCoin_X6_within_n37 : GoodIn wsX1_isCoin (wsX6_within) := ggX1_isCoin_X6_within
theorem dX1_isCoin_0 : decode cX1_isCoin 0 = .ok (.iconst 0, 1) := by decide +kernel
theorem dX1_isCoin_1 : decode cX1_isCoin 1 = .ok (.iload_n 1, 1) := by decide +kernel
theorem dX1_isCoin_2 : decode cX1_isCoin 2 = .ok (.aload_n 0, 1) := by decide +kernel
theorem dX1_isCoin_3 : decode cX1_isCoin 3 = .ok (.getfield 9, 3) := by decide +kernel
theorem dX1_isCoin_6 : decode cX1_isCoin 6 = .ok (.iconst 1, 1) := by decide +kernel
theorem dX1_isCoin_7 : decode cX1_isCoin 7 = .ok (.isub, 1) := by decide +kernel
theorem dX1_isCoin_8 : decode cX1_isCoin 8 = .ok (.invokestatic 37, 3) := by decide +kernel
theorem dX1_isCoin_11 : decode cX1_isCoin 11 = .ok (.ireturn, 1) := by decide +kernel
set_option maxRecDepth 20000 in
theorem ggX1_add_X6_within : GoodIn wsX1_add wsX6_within := goodIn_r _ [5] (by decide +kernel) (by decide +kernel)
set_option maxRecDepth 20000 in
theorem gX1_add_X6_within_n37 : GoodIn wsX1_add (wsX6_within) := ggX1_add_X6_within
set_option maxRecDepth 20000 in
theorem ggX1_add_X1_isValue : GoodIn wsX1_add wsX1_isValue := goodIn_r _ [10, 1, 2, 21, 22, 23, 24] (by decide +kernel) (by decide +kernel)
set_option maxRecDepth 20000 in
theorem gX1_add_X1_isValue : GoodIn wsX1_add (wsV RX1 41 RX1 yX1_isValue wsX1_isValue) := goodIn_app (goodIn_of _ (by decide +kernel)) ggX1_add_X1_isValue
set_option maxRecDepth 20000 in
theorem ggX1_add_X1_rank : GoodIn wsX1_add wsX1_rank := goodIn_r _ [14, 2, 15, 21, 22, 23, 24] (by decide +kernel) (by decide +kernel)
set_option maxRecDepth 20000 in
theorem gX1_add_X1_rank : GoodIn wsX1_add (wsV RX1 45 RX1 yX1_rank wsX1_rank) := goodIn_app (goodIn_of _ (by decide +kernel)) ggX1_add_X1_rank
set_option maxRecDepth 20000 in
theorem ggX1_add_X1_improve : GoodIn wsX1_add wsX1_improve := goodIn_r _ [19, 20, 21, 22, 23, 24] (by decide +kernel) (by decide +kernel)
set_option maxRecDepth 20000 in
theorem gX1_add_X1_improve : GoodIn wsX1_add (wsV RX1 49 RX1 yX1_improve wsX1_improve) := goodIn_app (goodIn_of _ (by decide +kernel)) ggX1_add_X1_improve
theorem dX1_add_0 : decode cX1_add 0 = .ok (.aload_n 0, 1) := by decide +kernel
theorem dX1_add_1 : decode cX1_add 1 = .ok (.getfield 9, 3) := by decide +kernel
theorem dX1_add_4 : decode cX1_add 4 = .ok (.bipush 8, 2) := by decide +kernel
theorem dX1_add_6 : decode cX1_add 6 = .ok (.if_icmp .ge 22, 3) := by decide +kernel
theorem dX1_add_9 : decode cX1_add 9 = .ok (.iconst 1, 1) := by decide +kernel
theorem dX1_add_10 : decode cX1_add 10 = .ok (.iload_n 1, 1) := by decide +kernel
theorem dX1_add_11 : decode cX1_add 11 = .ok (.sipush 1000, 3) := by decide +kernel
theorem dX1_add_14 : decode cX1_add 14 = .ok (.invokestatic 37, 3) := by decide +kernel
theorem dX1_add_17 : decode cX1_add 17 = .ok (.ifCond .eq 11, 3) := by decide +kernel
theorem dX1_add_20 : decode cX1_add 20 = .ok (.aload_n 0, 1) := by decide +kernel
theorem dX1_add_21 : decode cX1_add 21 = .ok (.iload_n 1, 1) := by decide +kernel
theorem dX1_add_22 : decode cX1_add 22 = .ok (.invokevirtual 41, 3) := by decide +kernel
theorem dX1_add_25 : decode cX1_add 25 = .ok (.ifCond .eq 5, 3) := by decide +kernel
theorem dX1_add_28 : decode cX1_add 28 = .ok (.iconst (-1), 1) := by decide +kernel
theorem dX1_add_29 : decode cX1_add 29 = .ok (.ireturn, 1) := by decide +kernel
theorem dX1_add_30 : decode cX1_add 30 = .ok (.aload_n 0, 1) := by decide +kernel
theorem dX1_add_31 : decode cX1_add 31 = .ok (.getfield 15, 3) := by decide +kernel
theorem dX1_add_34 : decode cX1_add 34 = .ok (.aload_n 0, 1) := by decide +kernel
theorem dX1_add_35 : decode cX1_add 35 = .ok (.getfield 9, 3) := by decide +kernel
theorem dX1_add_38 : decode cX1_add 38 = .ok (.iload_n 1, 1) := by decide +kernel
theorem dX1_add_39 : decode cX1_add 39 = .ok (.iastore, 1) := by decide +kernel
theorem dX1_add_40 : decode cX1_add 40 = .ok (.aload_n 0, 1) := by decide +kernel
theorem dX1_add_41 : decode cX1_add 41 = .ok (.aload_n 0, 1) := by decide +kernel
theorem dX1_add_42 : decode cX1_add 42 = .ok (.getfield 9, 3) := by decide +kernel
theorem dX1_add_45 : decode cX1_add 45 = .ok (.invokevirtual 45, 3) := by decide +kernel
theorem dX1_add_48 : decode cX1_add 48 = .ok (.aload_n 0, 1) := by decide +kernel
theorem dX1_add_49 : decode cX1_add 49 = .ok (.iload_n 1, 1) := by decide +kernel
theorem dX1_add_50 : decode cX1_add 50 = .ok (.invokevirtual 49, 3) := by decide +kernel
theorem dX1_add_53 : decode cX1_add 53 = .ok (.aload_n 0, 1) := by decide +kernel
theorem dX1_add_54 : decode cX1_add 54 = .ok (.dup, 1) := by decide +kernel
theorem dX1_add_55 : decode cX1_add 55 = .ok (.getfield 9, 3) := by decide +kernel
theorem dX1_add_58 : decode cX1_add 58 = .ok (.iconst 1, 1) := by decide +kernel
theorem dX1_add_59 : decode cX1_add 59 = .ok (.iadd, 1) := by decide +kernel
theorem dX1_add_60 : decode cX1_add 60 = .ok (.putfield 9, 3) := by decide +kernel
theorem dX1_add_63 : decode cX1_add 63 = .ok (.aload_n 0, 1) := by decide +kernel
theorem dX1_add_64 : decode cX1_add 64 = .ok (.getfield 9, 3) := by decide +kernel
theorem dX1_add_67 : decode cX1_add 67 = .ok (.iconst 1, 1) := by decide +kernel
theorem dX1_add_68 : decode cX1_add 68 = .ok (.isub, 1) := by decide +kernel
theorem dX1_add_69 : decode cX1_add 69 = .ok (.ireturn, 1) := by decide +kernel
theorem dX1_isValue_0 : decode cX1_isValue 0 = .ok (.iconst 0, 1) := by decide +kernel
theorem dX1_isValue_1 : decode cX1_isValue 1 = .ok (.istore_n 2, 1) := by decide +kernel
theorem dX1_isValue_2 : decode cX1_isValue 2 = .ok (.iload_n 2, 1) := by decide +kernel
theorem dX1_isValue_3 : decode cX1_isValue 3 = .ok (.aload_n 0, 1) := by decide +kernel
theorem dX1_isValue_4 : decode cX1_isValue 4 = .ok (.getfield 9, 3) := by decide +kernel
theorem dX1_isValue_7 : decode cX1_isValue 7 = .ok (.if_icmp .ge 21, 3) := by decide +kernel
theorem dX1_isValue_10 : decode cX1_isValue 10 = .ok (.aload_n 0, 1) := by decide +kernel
theorem dX1_isValue_11 : decode cX1_isValue 11 = .ok (.getfield 15, 3) := by decide +kernel
theorem dX1_isValue_14 : decode cX1_isValue 14 = .ok (.iload_n 2, 1) := by decide +kernel
theorem dX1_isValue_15 : decode cX1_isValue 15 = .ok (.iaload, 1) := by decide +kernel
theorem dX1_isValue_16 : decode cX1_isValue 16 = .ok (.iload_n 1, 1) := by decide +kernel
theorem dX1_isValue_17 : decode cX1_isValue 17 = .ok (.if_icmp .ne 5, 3) := by decide +kernel
theorem dX1_isValue_20 : decode cX1_isValue 20 = .ok (.iconst 1, 1) := by decide +kernel
theorem dX1_isValue_21 : decode cX1_isValue 21 = .ok (.ireturn, 1) := by decide +kernel
theorem dX1_isValue_22 : decode cX1_isValue 22 = .ok (.iinc 2 1, 3) := by decide +kernel
theorem dX1_isValue_25 : decode cX1_isValue 25 = .ok (.goto (-23), 3) := by decide +kernel
theorem dX1_isValue_28 : decode cX1_isValue 28 = .ok (.iconst 0, 1) := by decide +kernel
theorem dX1_isValue_29 : decode cX1_isValue 29 = .ok (.ireturn, 1) := by decide +kernel
theorem dX1_rank_0 : decode cX1_rank 0 = .ok (.iload_n 1, 1) := by decide +kernel
theorem dX1_rank_1 : decode cX1_rank 1 = .ok (.istore_n 2, 1) := by decide +kernel
theorem dX1_rank_2 : decode cX1_rank 2 = .ok (.iload_n 2, 1) := by decide +kernel
theorem dX1_rank_3 : decode cX1_rank 3 = .ok (.ifCond .le 45, 3) := by decide +kernel
theorem dX1_rank_6 : decode cX1_rank 6 = .ok (.aload_n 0, 1) := by decide +kernel
theorem dX1_rank_7 : decode cX1_rank 7 = .ok (.getfield 15, 3) := by decide +kernel
theorem dX1_rank_10 : decode cX1_rank 10 = .ok (.aload_n 0, 1) := by decide +kernel
theorem dX1_rank_11 : decode cX1_rank 11 = .ok (.getfield 19, 3) := by decide +kernel
theorem dX1_rank_14 : decode cX1_rank 14 = .ok (.iload_n 2, 1) := by decide +kernel
theorem dX1_rank_15 : decode cX1_rank 15 = .ok (.iconst 1, 1) := by decide +kernel
theorem dX1_rank_16 : decode cX1_rank 16 = .ok (.isub, 1) := by decide +kernel
theorem dX1_rank_17 : decode cX1_rank 17 = .ok (.iaload, 1) := by decide +kernel
theorem dX1_rank_18 : decode cX1_rank 18 = .ok (.iaload, 1) := by decide +kernel
theorem dX1_rank_19 : decode cX1_rank 19 = .ok (.aload_n 0, 1) := by decide +kernel
theorem dX1_rank_20 : decode cX1_rank 20 = .ok (.getfield 15, 3) := by decide +kernel
theorem dX1_rank_23 : decode cX1_rank 23 = .ok (.iload_n 1, 1) := by decide +kernel
theorem dX1_rank_24 : decode cX1_rank 24 = .ok (.iaload, 1) := by decide +kernel
theorem dX1_rank_25 : decode cX1_rank 25 = .ok (.if_icmp .ge 23, 3) := by decide +kernel
theorem dX1_rank_28 : decode cX1_rank 28 = .ok (.aload_n 0, 1) := by decide +kernel
theorem dX1_rank_29 : decode cX1_rank 29 = .ok (.getfield 19, 3) := by decide +kernel
theorem dX1_rank_32 : decode cX1_rank 32 = .ok (.iload_n 2, 1) := by decide +kernel
theorem dX1_rank_33 : decode cX1_rank 33 = .ok (.aload_n 0, 1) := by decide +kernel
theorem dX1_rank_34 : decode cX1_rank 34 = .ok (.getfield 19, 3) := by decide +kernel
theorem dX1_rank_37 : decode cX1_rank 37 = .ok (.iload_n 2, 1) := by decide +kernel
theorem dX1_rank_38 : decode cX1_rank 38 = .ok (.iconst 1, 1) := by decide +kernel
theorem dX1_rank_39 : decode cX1_rank 39 = .ok (.isub, 1) := by decide +kernel
theorem dX1_rank_40 : decode cX1_rank 40 = .ok (.iaload, 1) := by decide +kernel
theorem dX1_rank_41 : decode cX1_rank 41 = .ok (.iastore, 1) := by decide +kernel
theorem dX1_rank_42 : decode cX1_rank 42 = .ok (.iinc 2 (-1), 3) := by decide +kernel
theorem dX1_rank_45 : decode cX1_rank 45 = .ok (.goto (-43), 3) := by decide +kernel
theorem dX1_rank_48 : decode cX1_rank 48 = .ok (.aload_n 0, 1) := by decide +kernel
theorem dX1_rank_49 : decode cX1_rank 49 = .ok (.getfield 19, 3) := by decide +kernel
theorem dX1_rank_52 : decode cX1_rank 52 = .ok (.iload_n 2, 1) := by decide +kernel
theorem dX1_rank_53 : decode cX1_rank 53 = .ok (.iload_n 1, 1) := by decide +kernel
theorem dX1_rank_54 : decode cX1_rank 54 = .ok (.iastore, 1) := by decide +kernel
theorem dX1_rank_55 : decode cX1_rank 55 = .ok (.return_, 1) := by decide +kernel
theorem dX1_improve_0 : decode cX1_improve 0 = .ok (.iload_n 1, 1) := by decide +kernel
theorem dX1_improve_1 : decode cX1_improve 1 = .ok (.istore_n 2, 1) := by decide +kernel
theorem dX1_improve_2 : decode cX1_improve 2 = .ok (.iload_n 2, 1) := by decide +kernel
theorem dX1_improve_3 : decode cX1_improve 3 = .ok (.sipush 2000, 3) := by decide +kernel
theorem dX1_improve_6 : decode cX1_improve 6 = .ok (.if_icmp .gt 54, 3) := by decide +kernel
theorem dX1_improve_9 : decode cX1_improve 9 = .ok (.aload_n 0, 1) := by decide +kernel
theorem dX1_improve_10 : decode cX1_improve 10 = .ok (.getfield 22, 3) := by decide +kernel
theorem dX1_improve_13 : decode cX1_improve 13 = .ok (.iload_n 2, 1) := by decide +kernel
theorem dX1_improve_14 : decode cX1_improve 14 = .ok (.iload_n 1, 1) := by decide +kernel
theorem dX1_improve_15 : decode cX1_improve 15 = .ok (.isub, 1) := by decide +kernel
theorem dX1_improve_16 : decode cX1_improve 16 = .ok (.iaload, 1) := by decide +kernel
theorem dX1_improve_17 : decode cX1_improve 17 = .ok (.istore_n 3, 1) := by decide +kernel
theorem dX1_improve_18 : decode cX1_improve 18 = .ok (.iload_n 3, 1) := by decide +kernel
theorem dX1_improve_19 : decode cX1_improve 19 = .ok (.iconst (-1), 1) := by decide +kernel
theorem dX1_improve_20 : decode cX1_improve 20 = .ok (.if_icmp .eq 34, 3) := by decide +kernel
theorem dX1_improve_23 : decode cX1_improve 23 = .ok (.aload_n 0, 1) := by decide +kernel
theorem dX1_improve_24 : decode cX1_improve 24 = .ok (.getfield 22, 3) := by decide +kernel
theorem dX1_improve_27 : decode cX1_improve 27 = .ok (.iload_n 2, 1) := by decide +kernel
theorem dX1_improve_28 : decode cX1_improve 28 = .ok (.iaload, 1) := by decide +kernel
theorem dX1_improve_29 : decode cX1_improve 29 = .ok (.iconst (-1), 1) := by decide +kernel
theorem dX1_improve_30 : decode cX1_improve 30 = .ok (.if_icmp .eq 15, 3) := by decide +kernel
theorem dX1_improve_33 : decode cX1_improve 33 = .ok (.iload_n 3, 1) := by decide +kernel
theorem dX1_improve_34 : decode cX1_improve 34 = .ok (.iconst 1, 1) := by decide +kernel
theorem dX1_improve_35 : decode cX1_improve 35 = .ok (.iadd, 1) := by decide +kernel
theorem dX1_improve_36 : decode cX1_improve 36 = .ok (.aload_n 0, 1) := by decide +kernel
theorem dX1_improve_37 : decode cX1_improve 37 = .ok (.getfield 22, 3) := by decide +kernel
theorem dX1_improve_40 : decode cX1_improve 40 = .ok (.iload_n 2, 1) := by decide +kernel
theorem dX1_improve_41 : decode cX1_improve 41 = .ok (.iaload, 1) := by decide +kernel
theorem dX1_improve_42 : decode cX1_improve 42 = .ok (.if_icmp .ge 12, 3) := by decide +kernel
theorem dX1_improve_45 : decode cX1_improve 45 = .ok (.aload_n 0, 1) := by decide +kernel
theorem dX1_improve_46 : decode cX1_improve 46 = .ok (.getfield 22, 3) := by decide +kernel
theorem dX1_improve_49 : decode cX1_improve 49 = .ok (.iload_n 2, 1) := by decide +kernel
theorem dX1_improve_50 : decode cX1_improve 50 = .ok (.iload_n 3, 1) := by decide +kernel
theorem dX1_improve_51 : decode cX1_improve 51 = .ok (.iconst 1, 1) := by decide +kernel
theorem dX1_improve_52 : decode cX1_improve 52 = .ok (.iadd, 1) := by decide +kernel
theorem dX1_improve_53 : decode cX1_improve 53 = .ok (.iastore, 1) := by decide +kernel
theorem dX1_improve_54 : decode cX1_improve 54 = .ok (.iinc 2 1, 3) := by decide +kernel
theorem dX1_improve_57 : decode cX1_improve 57 = .ok (.goto (-55), 3) := by decide +kernel
theorem dX1_improve_60 : decode cX1_improve 60 = .ok (.return_, 1) := by decide +kernel
set_option maxRecDepth 20000 in
theorem ggX1_hasFewest_X6_isSum : GoodIn wsX1_hasFewest wsX6_isSum := goodIn_r _ [4, 5, 6, 3, 7] (by decide +kernel) (by decide +kernel)
set_option maxRecDepth 20000 in
theorem gX1_hasFewest_X6_isSum_n52 : GoodIn wsX1_hasFewest (wsX6_isSum) := ggX1_hasFewest_X6_isSum
theorem dX1_hasFewest_0 : decode cX1_hasFewest 0 = .ok (.iload_n 1, 1) := by decide +kernel
theorem dX1_hasFewest_1 : decode cX1_hasFewest 1 = .ok (.invokestatic 52, 3) := by decide +kernel
theorem dX1_hasFewest_4 : decode cX1_hasFewest 4 = .ok (.ifCond .eq 17, 3) := by decide +kernel
theorem dX1_hasFewest_7 : decode cX1_hasFewest 7 = .ok (.aload_n 0, 1) := by decide +kernel
theorem dX1_hasFewest_8 : decode cX1_hasFewest 8 = .ok (.getfield 22, 3) := by decide +kernel
theorem dX1_hasFewest_11 : decode cX1_hasFewest 11 = .ok (.iload_n 1, 1) := by decide +kernel
theorem dX1_hasFewest_12 : decode cX1_hasFewest 12 = .ok (.iaload, 1) := by decide +kernel
theorem dX1_hasFewest_13 : decode cX1_hasFewest 13 = .ok (.iconst (-1), 1) := by decide +kernel
theorem dX1_hasFewest_14 : decode cX1_hasFewest 14 = .ok (.if_icmp .eq 7, 3) := by decide +kernel
theorem dX1_hasFewest_17 : decode cX1_hasFewest 17 = .ok (.iconst 1, 1) := by decide +kernel
theorem dX1_hasFewest_18 : decode cX1_hasFewest 18 = .ok (.goto 4, 3) := by decide +kernel
theorem dX1_hasFewest_21 : decode cX1_hasFewest 21 = .ok (.iconst 0, 1) := by decide +kernel
theorem dX1_hasFewest_22 : decode cX1_hasFewest 22 = .ok (.ireturn, 1) := by decide +kernel
set_option maxRecDepth 20000 in
theorem ggX1_writeFewest_X6_wholeTimes : GoodIn wsX1_writeFewest wsX6_wholeTimes := goodIn_r _ [7] (by decide +kernel) (by decide +kernel)
set_option maxRecDepth 20000 in
theorem gX1_writeFewest_X6_wholeTimes_n55 : GoodIn wsX1_writeFewest (wsX6_wholeTimes) := ggX1_writeFewest_X6_wholeTimes
theorem dX1_writeFewest_0 : decode cX1_writeFewest 0 = .ok (.iload_n 1, 1) := by decide +kernel
theorem dX1_writeFewest_1 : decode cX1_writeFewest 1 = .ok (.istore_n 3, 1) := by decide +kernel
theorem dX1_writeFewest_2 : decode cX1_writeFewest 2 = .ok (.iconst 0, 1) := by decide +kernel
theorem dX1_writeFewest_3 : decode cX1_writeFewest 3 = .ok (.istore 4, 2) := by decide +kernel
theorem dX1_writeFewest_5 : decode cX1_writeFewest 5 = .ok (.iload 4, 2) := by decide +kernel
theorem dX1_writeFewest_7 : decode cX1_writeFewest 7 = .ok (.aload_n 0, 1) := by decide +kernel
theorem dX1_writeFewest_8 : decode cX1_writeFewest 8 = .ok (.getfield 9, 3) := by decide +kernel
theorem dX1_writeFewest_11 : decode cX1_writeFewest 11 = .ok (.if_icmp .ge 83, 3) := by decide +kernel
theorem dX1_writeFewest_14 : decode cX1_writeFewest 14 = .ok (.aload_n 0, 1) := by decide +kernel
theorem dX1_writeFewest_15 : decode cX1_writeFewest 15 = .ok (.getfield 15, 3) := by decide +kernel
theorem dX1_writeFewest_18 : decode cX1_writeFewest 18 = .ok (.aload_n 0, 1) := by decide +kernel
theorem dX1_writeFewest_19 : decode cX1_writeFewest 19 = .ok (.getfield 19, 3) := by decide +kernel
theorem dX1_writeFewest_22 : decode cX1_writeFewest 22 = .ok (.iload 4, 2) := by decide +kernel
theorem dX1_writeFewest_24 : decode cX1_writeFewest 24 = .ok (.iaload, 1) := by decide +kernel
theorem dX1_writeFewest_25 : decode cX1_writeFewest 25 = .ok (.iaload, 1) := by decide +kernel
theorem dX1_writeFewest_26 : decode cX1_writeFewest 26 = .ok (.istore 5, 2) := by decide +kernel
theorem dX1_writeFewest_28 : decode cX1_writeFewest 28 = .ok (.iload_n 3, 1) := by decide +kernel
theorem dX1_writeFewest_29 : decode cX1_writeFewest 29 = .ok (.iload 5, 2) := by decide +kernel
theorem dX1_writeFewest_31 : decode cX1_writeFewest 31 = .ok (.invokestatic 55, 3) := by decide +kernel
theorem dX1_writeFewest_34 : decode cX1_writeFewest 34 = .ok (.istore 6, 2) := by decide +kernel
theorem dX1_writeFewest_36 : decode cX1_writeFewest 36 = .ok (.iconst 0, 1) := by decide +kernel
theorem dX1_writeFewest_37 : decode cX1_writeFewest 37 = .ok (.istore 7, 2) := by decide +kernel
theorem dX1_writeFewest_39 : decode cX1_writeFewest 39 = .ok (.iload 7, 2) := by decide +kernel
theorem dX1_writeFewest_41 : decode cX1_writeFewest 41 = .ok (.iload 6, 2) := by decide +kernel
theorem dX1_writeFewest_43 : decode cX1_writeFewest 43 = .ok (.if_icmp .ge 34, 3) := by decide +kernel
theorem dX1_writeFewest_46 : decode cX1_writeFewest 46 = .ok (.aload_n 0, 1) := by decide +kernel
theorem dX1_writeFewest_47 : decode cX1_writeFewest 47 = .ok (.getfield 22, 3) := by decide +kernel
theorem dX1_writeFewest_50 : decode cX1_writeFewest 50 = .ok (.iload_n 3, 1) := by decide +kernel
theorem dX1_writeFewest_51 : decode cX1_writeFewest 51 = .ok (.iload 5, 2) := by decide +kernel
theorem dX1_writeFewest_53 : decode cX1_writeFewest 53 = .ok (.isub, 1) := by decide +kernel
theorem dX1_writeFewest_54 : decode cX1_writeFewest 54 = .ok (.iaload, 1) := by decide +kernel
theorem dX1_writeFewest_55 : decode cX1_writeFewest 55 = .ok (.aload_n 0, 1) := by decide +kernel
theorem dX1_writeFewest_56 : decode cX1_writeFewest 56 = .ok (.getfield 22, 3) := by decide +kernel
theorem dX1_writeFewest_59 : decode cX1_writeFewest 59 = .ok (.iload_n 3, 1) := by decide +kernel
theorem dX1_writeFewest_60 : decode cX1_writeFewest 60 = .ok (.iaload, 1) := by decide +kernel
theorem dX1_writeFewest_61 : decode cX1_writeFewest 61 = .ok (.iconst 1, 1) := by decide +kernel
theorem dX1_writeFewest_62 : decode cX1_writeFewest 62 = .ok (.isub, 1) := by decide +kernel
theorem dX1_writeFewest_63 : decode cX1_writeFewest 63 = .ok (.if_icmp .ne 14, 3) := by decide +kernel
theorem dX1_writeFewest_66 : decode cX1_writeFewest 66 = .ok (.iload_n 3, 1) := by decide +kernel
theorem dX1_writeFewest_67 : decode cX1_writeFewest 67 = .ok (.iload 5, 2) := by decide +kernel
theorem dX1_writeFewest_69 : decode cX1_writeFewest 69 = .ok (.isub, 1) := by decide +kernel
theorem dX1_writeFewest_70 : decode cX1_writeFewest 70 = .ok (.istore_n 3, 1) := by decide +kernel
theorem dX1_writeFewest_71 : decode cX1_writeFewest 71 = .ok (.iinc 7 1, 3) := by decide +kernel
theorem dX1_writeFewest_74 : decode cX1_writeFewest 74 = .ok (.goto (-35), 3) := by decide +kernel
theorem dX1_writeFewest_77 : decode cX1_writeFewest 77 = .ok (.aload_n 2, 1) := by decide +kernel
theorem dX1_writeFewest_78 : decode cX1_writeFewest 78 = .ok (.aload_n 0, 1) := by decide +kernel
theorem dX1_writeFewest_79 : decode cX1_writeFewest 79 = .ok (.getfield 19, 3) := by decide +kernel
theorem dX1_writeFewest_82 : decode cX1_writeFewest 82 = .ok (.iload 4, 2) := by decide +kernel
theorem dX1_writeFewest_84 : decode cX1_writeFewest 84 = .ok (.iaload, 1) := by decide +kernel
theorem dX1_writeFewest_85 : decode cX1_writeFewest 85 = .ok (.iload 7, 2) := by decide +kernel
theorem dX1_writeFewest_87 : decode cX1_writeFewest 87 = .ok (.iastore, 1) := by decide +kernel
theorem dX1_writeFewest_88 : decode cX1_writeFewest 88 = .ok (.iinc 4 1, 3) := by decide +kernel
theorem dX1_writeFewest_91 : decode cX1_writeFewest 91 = .ok (.goto (-86), 3) := by decide +kernel
theorem dX1_writeFewest_94 : decode cX1_writeFewest 94 = .ok (.return_, 1) := by decide +kernel
set_option maxRecDepth 20000 in
theorem ggX1_countGreedily_X6_wholeTimes : GoodIn wsX1_countGreedily wsX6_wholeTimes := goodIn_r _ [6] (by decide +kernel) (by decide +kernel)
set_option maxRecDepth 20000 in
theorem gX1_countGreedily_X6_wholeTimes_n55 : GoodIn wsX1_countGreedily (wsX6_wholeTimes) := ggX1_countGreedily_X6_wholeTimes
theorem dX1_countGreedily_0 : decode cX1_countGreedily 0 = .ok (.iload_n 1, 1) := by decide +kernel
theorem dX1_countGreedily_1 : decode cX1_countGreedily 1 = .ok (.istore_n 2, 1) := by decide +kernel
theorem dX1_countGreedily_2 : decode cX1_countGreedily 2 = .ok (.iconst 0, 1) := by decide +kernel
theorem dX1_countGreedily_3 : decode cX1_countGreedily 3 = .ok (.istore_n 3, 1) := by decide +kernel
theorem dX1_countGreedily_4 : decode cX1_countGreedily 4 = .ok (.iconst 0, 1) := by decide +kernel
theorem dX1_countGreedily_5 : decode cX1_countGreedily 5 = .ok (.istore 4, 2) := by decide +kernel
theorem dX1_countGreedily_7 : decode cX1_countGreedily 7 = .ok (.iload 4, 2) := by decide +kernel
theorem dX1_countGreedily_9 : decode cX1_countGreedily 9 = .ok (.aload_n 0, 1) := by decide +kernel
theorem dX1_countGreedily_10 : decode cX1_countGreedily 10 = .ok (.getfield 9, 3) := by decide +kernel
theorem dX1_countGreedily_13 : decode cX1_countGreedily 13 = .ok (.if_icmp .ge 48, 3) := by decide +kernel
theorem dX1_countGreedily_16 : decode cX1_countGreedily 16 = .ok (.iload_n 2, 1) := by decide +kernel
theorem dX1_countGreedily_17 : decode cX1_countGreedily 17 = .ok (.ifCond .le 44, 3) := by decide +kernel
theorem dX1_countGreedily_20 : decode cX1_countGreedily 20 = .ok (.aload_n 0, 1) := by decide +kernel
theorem dX1_countGreedily_21 : decode cX1_countGreedily 21 = .ok (.getfield 15, 3) := by decide +kernel
theorem dX1_countGreedily_24 : decode cX1_countGreedily 24 = .ok (.aload_n 0, 1) := by decide +kernel
theorem dX1_countGreedily_25 : decode cX1_countGreedily 25 = .ok (.getfield 19, 3) := by decide +kernel
theorem dX1_countGreedily_28 : decode cX1_countGreedily 28 = .ok (.iload 4, 2) := by decide +kernel
theorem dX1_countGreedily_30 : decode cX1_countGreedily 30 = .ok (.iaload, 1) := by decide +kernel
theorem dX1_countGreedily_31 : decode cX1_countGreedily 31 = .ok (.iaload, 1) := by decide +kernel
theorem dX1_countGreedily_32 : decode cX1_countGreedily 32 = .ok (.istore 5, 2) := by decide +kernel
theorem dX1_countGreedily_34 : decode cX1_countGreedily 34 = .ok (.iload_n 2, 1) := by decide +kernel
theorem dX1_countGreedily_35 : decode cX1_countGreedily 35 = .ok (.iload 5, 2) := by decide +kernel
theorem dX1_countGreedily_37 : decode cX1_countGreedily 37 = .ok (.invokestatic 55, 3) := by decide +kernel
theorem dX1_countGreedily_40 : decode cX1_countGreedily 40 = .ok (.istore 6, 2) := by decide +kernel
theorem dX1_countGreedily_42 : decode cX1_countGreedily 42 = .ok (.iload_n 2, 1) := by decide +kernel
theorem dX1_countGreedily_43 : decode cX1_countGreedily 43 = .ok (.iload 6, 2) := by decide +kernel
theorem dX1_countGreedily_45 : decode cX1_countGreedily 45 = .ok (.iload 5, 2) := by decide +kernel
theorem dX1_countGreedily_47 : decode cX1_countGreedily 47 = .ok (.imul, 1) := by decide +kernel
theorem dX1_countGreedily_48 : decode cX1_countGreedily 48 = .ok (.isub, 1) := by decide +kernel
theorem dX1_countGreedily_49 : decode cX1_countGreedily 49 = .ok (.istore_n 2, 1) := by decide +kernel
theorem dX1_countGreedily_50 : decode cX1_countGreedily 50 = .ok (.iload_n 3, 1) := by decide +kernel
theorem dX1_countGreedily_51 : decode cX1_countGreedily 51 = .ok (.iload 6, 2) := by decide +kernel
theorem dX1_countGreedily_53 : decode cX1_countGreedily 53 = .ok (.iadd, 1) := by decide +kernel
theorem dX1_countGreedily_54 : decode cX1_countGreedily 54 = .ok (.istore_n 3, 1) := by decide +kernel
theorem dX1_countGreedily_55 : decode cX1_countGreedily 55 = .ok (.iinc 4 1, 3) := by decide +kernel
theorem dX1_countGreedily_58 : decode cX1_countGreedily 58 = .ok (.goto (-51), 3) := by decide +kernel
theorem dX1_countGreedily_61 : decode cX1_countGreedily 61 = .ok (.iload_n 2, 1) := by decide +kernel
theorem dX1_countGreedily_62 : decode cX1_countGreedily 62 = .ok (.ifCond .ne 7, 3) := by decide +kernel
theorem dX1_countGreedily_65 : decode cX1_countGreedily 65 = .ok (.iload_n 3, 1) := by decide +kernel
theorem dX1_countGreedily_66 : decode cX1_countGreedily 66 = .ok (.goto 4, 3) := by decide +kernel
theorem dX1_countGreedily_69 : decode cX1_countGreedily 69 = .ok (.iconst (-1), 1) := by decide +kernel
theorem dX1_countGreedily_70 : decode cX1_countGreedily 70 = .ok (.ireturn, 1) := by decide +kernel
set_option maxRecDepth 20000 in
theorem ggX1_leastOdd_X1_countGreedily : GoodIn wsX1_leastOdd wsX1_countGreedily := goodIn_r _ [6, 7, 8, 9, 10, 11, 12, 13, 14, 15, 16] (by decide +kernel) (by decide +kernel)
set_option maxRecDepth 20000 in
theorem gX1_leastOdd_X1_countGreedily : GoodIn wsX1_leastOdd (wsV RX1 59 RX1 yX1_countGreedily wsX1_countGreedily) := goodIn_app (goodIn_of _ (by decide +kernel)) ggX1_leastOdd_X1_countGreedily
theorem dX1_leastOdd_0 : decode cX1_leastOdd 0 = .ok (.iconst 0, 1) := by decide +kernel
theorem dX1_leastOdd_1 : decode cX1_leastOdd 1 = .ok (.istore_n 1, 1) := by decide +kernel
theorem dX1_leastOdd_2 : decode cX1_leastOdd 2 = .ok (.iload_n 1, 1) := by decide +kernel
theorem dX1_leastOdd_3 : decode cX1_leastOdd 3 = .ok (.sipush 2000, 3) := by decide +kernel
theorem dX1_leastOdd_6 : decode cX1_leastOdd 6 = .ok (.if_icmp .gt 35, 3) := by decide +kernel
theorem dX1_leastOdd_9 : decode cX1_leastOdd 9 = .ok (.aload_n 0, 1) := by decide +kernel
theorem dX1_leastOdd_10 : decode cX1_leastOdd 10 = .ok (.getfield 22, 3) := by decide +kernel
theorem dX1_leastOdd_13 : decode cX1_leastOdd 13 = .ok (.iload_n 1, 1) := by decide +kernel
theorem dX1_leastOdd_14 : decode cX1_leastOdd 14 = .ok (.iaload, 1) := by decide +kernel
theorem dX1_leastOdd_15 : decode cX1_leastOdd 15 = .ok (.iconst (-1), 1) := by decide +kernel
theorem dX1_leastOdd_16 : decode cX1_leastOdd 16 = .ok (.if_icmp .eq 19, 3) := by decide +kernel
theorem dX1_leastOdd_19 : decode cX1_leastOdd 19 = .ok (.aload_n 0, 1) := by decide +kernel
theorem dX1_leastOdd_20 : decode cX1_leastOdd 20 = .ok (.iload_n 1, 1) := by decide +kernel
theorem dX1_leastOdd_21 : decode cX1_leastOdd 21 = .ok (.invokevirtual 59, 3) := by decide +kernel
theorem dX1_leastOdd_24 : decode cX1_leastOdd 24 = .ok (.aload_n 0, 1) := by decide +kernel
theorem dX1_leastOdd_25 : decode cX1_leastOdd 25 = .ok (.getfield 22, 3) := by decide +kernel
theorem dX1_leastOdd_28 : decode cX1_leastOdd 28 = .ok (.iload_n 1, 1) := by decide +kernel
theorem dX1_leastOdd_29 : decode cX1_leastOdd 29 = .ok (.iaload, 1) := by decide +kernel
theorem dX1_leastOdd_30 : decode cX1_leastOdd 30 = .ok (.if_icmp .eq 5, 3) := by decide +kernel
theorem dX1_leastOdd_33 : decode cX1_leastOdd 33 = .ok (.iload_n 1, 1) := by decide +kernel
theorem dX1_leastOdd_34 : decode cX1_leastOdd 34 = .ok (.ireturn, 1) := by decide +kernel
theorem dX1_leastOdd_35 : decode cX1_leastOdd 35 = .ok (.iinc 1 1, 3) := by decide +kernel
theorem dX1_leastOdd_38 : decode cX1_leastOdd 38 = .ok (.goto (-36), 3) := by decide +kernel
theorem dX1_leastOdd_41 : decode cX1_leastOdd 41 = .ok (.iconst (-1), 1) := by decide +kernel
theorem dX1_leastOdd_42 : decode cX1_leastOdd 42 = .ok (.ireturn, 1) := by decide +kernel
set_option maxRecDepth 20000 in
theorem ggX1_detail_X1_isCoin : GoodIn wsX1_detail wsX1_isCoin := goodIn_r _ [7, 1, 8, 9, 10, 11, 12, 13, 14] (by decide +kernel) (by decide +kernel)
set_option maxRecDepth 20000 in
theorem gX1_detail_X1_isCoin : GoodIn wsX1_detail (wsV RX1 63 RX1 yX1_isCoin wsX1_isCoin) := goodIn_app (goodIn_of _ (by decide +kernel)) ggX1_detail_X1_isCoin
theorem dX1_detail_0 : decode cX1_detail 0 = .ok (.iload_n 1, 1) := by decide +kernel
theorem dX1_detail_1 : decode cX1_detail 1 = .ok (.ifCond .ne 8, 3) := by decide +kernel
theorem dX1_detail_4 : decode cX1_detail 4 = .ok (.aload_n 0, 1) := by decide +kernel
theorem dX1_detail_5 : decode cX1_detail 5 = .ok (.getfield 9, 3) := by decide +kernel
theorem dX1_detail_8 : decode cX1_detail 8 = .ok (.ireturn, 1) := by decide +kernel
theorem dX1_detail_9 : decode cX1_detail 9 = .ok (.aload_n 0, 1) := by decide +kernel
theorem dX1_detail_10 : decode cX1_detail 10 = .ok (.iload_n 1, 1) := by decide +kernel
theorem dX1_detail_11 : decode cX1_detail 11 = .ok (.bipush 10, 2) := by decide +kernel
theorem dX1_detail_13 : decode cX1_detail 13 = .ok (.isub, 1) := by decide +kernel
theorem dX1_detail_14 : decode cX1_detail 14 = .ok (.invokevirtual 63, 3) := by decide +kernel
theorem dX1_detail_17 : decode cX1_detail 17 = .ok (.ifCond .eq 15, 3) := by decide +kernel
theorem dX1_detail_20 : decode cX1_detail 20 = .ok (.aload_n 0, 1) := by decide +kernel
theorem dX1_detail_21 : decode cX1_detail 21 = .ok (.getfield 15, 3) := by decide +kernel
theorem dX1_detail_24 : decode cX1_detail 24 = .ok (.iload_n 1, 1) := by decide +kernel
theorem dX1_detail_25 : decode cX1_detail 25 = .ok (.bipush 10, 2) := by decide +kernel
theorem dX1_detail_27 : decode cX1_detail 27 = .ok (.isub, 1) := by decide +kernel
theorem dX1_detail_28 : decode cX1_detail 28 = .ok (.iaload, 1) := by decide +kernel
theorem dX1_detail_29 : decode cX1_detail 29 = .ok (.goto 4, 3) := by decide +kernel
theorem dX1_detail_32 : decode cX1_detail 32 = .ok (.iconst (-1), 1) := by decide +kernel
theorem dX1_detail_33 : decode cX1_detail 33 = .ok (.ireturn, 1) := by decide +kernel
theorem dX2_init_0 : decode cX2_init 0 = .ok (.aload_n 0, 1) := by decide +kernel
theorem dX2_init_1 : decode cX2_init 1 = .ok (.invokespecial 3, 3) := by decide +kernel
theorem dX2_init_4 : decode cX2_init 4 = .ok (.aload_n 0, 1) := by decide +kernel
theorem dX2_init_5 : decode cX2_init 5 = .ok (.iconst 0, 1) := by decide +kernel
theorem dX2_init_6 : decode cX2_init 6 = .ok (.putfield 9, 3) := by decide +kernel
theorem dX2_init_9 : decode cX2_init 9 = .ok (.aload_n 0, 1) := by decide +kernel
theorem dX2_init_10 : decode cX2_init 10 = .ok (.bipush 20, 2) := by decide +kernel
theorem dX2_init_12 : decode cX2_init 12 = .ok (.newarray .int, 2) := by decide +kernel
theorem dX2_init_14 : decode cX2_init 14 = .ok (.putfield 15, 3) := by decide +kernel
theorem dX2_init_17 : decode cX2_init 17 = .ok (.aload_n 0, 1) := by decide +kernel
theorem dX2_init_18 : decode cX2_init 18 = .ok (.bipush 20, 2) := by decide +kernel
theorem dX2_init_20 : decode cX2_init 20 = .ok (.newarray .int, 2) := by decide +kernel
theorem dX2_init_22 : decode cX2_init 22 = .ok (.putfield 19, 3) := by decide +kernel
theorem dX2_init_25 : decode cX2_init 25 = .ok (.aload_n 0, 1) := by decide +kernel
theorem dX2_init_26 : decode cX2_init 26 = .ok (.bipush 20, 2) := by decide +kernel
theorem dX2_init_28 : decode cX2_init 28 = .ok (.newarray .int, 2) := by decide +kernel
theorem dX2_init_30 : decode cX2_init 30 = .ok (.putfield 22, 3) := by decide +kernel
theorem dX2_init_33 : decode cX2_init 33 = .ok (.aload_n 0, 1) := by decide +kernel
theorem dX2_init_34 : decode cX2_init 34 = .ok (.bipush 20, 2) := by decide +kernel
theorem dX2_init_36 : decode cX2_init 36 = .ok (.newarray .int, 2) := by decide +kernel
theorem dX2_init_38 : decode cX2_init 38 = .ok (.putfield 25, 3) := by decide +kernel
theorem dX2_init_41 : decode cX2_init 41 = .ok (.return_, 1) := by decide +kernel
theorem dX2_copyFrom_0 : decode cX2_copyFrom 0 = .ok (.aload_n 0, 1) := by decide +kernel
theorem dX2_copyFrom_1 : decode cX2_copyFrom 1 = .ok (.aload_n 1, 1) := by decide +kernel
theorem dX2_copyFrom_2 : decode cX2_copyFrom 2 = .ok (.getfield 9, 3) := by decide +kernel
theorem dX2_copyFrom_5 : decode cX2_copyFrom 5 = .ok (.putfield 9, 3) := by decide +kernel
theorem dX2_copyFrom_8 : decode cX2_copyFrom 8 = .ok (.aload_n 1, 1) := by decide +kernel
theorem dX2_copyFrom_9 : decode cX2_copyFrom 9 = .ok (.getfield 15, 3) := by decide +kernel
theorem dX2_copyFrom_12 : decode cX2_copyFrom 12 = .ok (.iconst 0, 1) := by decide +kernel
theorem dX2_copyFrom_13 : decode cX2_copyFrom 13 = .ok (.aload_n 0, 1) := by decide +kernel
theorem dX2_copyFrom_14 : decode cX2_copyFrom 14 = .ok (.getfield 15, 3) := by decide +kernel
theorem dX2_copyFrom_17 : decode cX2_copyFrom 17 = .ok (.iconst 0, 1) := by decide +kernel
theorem dX2_copyFrom_18 : decode cX2_copyFrom 18 = .ok (.bipush 20, 2) := by decide +kernel
theorem dX2_copyFrom_20 : decode cX2_copyFrom 20 = .ok (.invokestatic 28, 3) := by decide +kernel
theorem dX2_copyFrom_23 : decode cX2_copyFrom 23 = .ok (.aload_n 1, 1) := by decide +kernel
theorem dX2_copyFrom_24 : decode cX2_copyFrom 24 = .ok (.getfield 19, 3) := by decide +kernel
theorem dX2_copyFrom_27 : decode cX2_copyFrom 27 = .ok (.iconst 0, 1) := by decide +kernel
theorem dX2_copyFrom_28 : decode cX2_copyFrom 28 = .ok (.aload_n 0, 1) := by decide +kernel
theorem dX2_copyFrom_29 : decode cX2_copyFrom 29 = .ok (.getfield 19, 3) := by decide +kernel
theorem dX2_copyFrom_32 : decode cX2_copyFrom 32 = .ok (.iconst 0, 1) := by decide +kernel
theorem dX2_copyFrom_33 : decode cX2_copyFrom 33 = .ok (.bipush 20, 2) := by decide +kernel
theorem dX2_copyFrom_35 : decode cX2_copyFrom 35 = .ok (.invokestatic 28, 3) := by decide +kernel
theorem dX2_copyFrom_38 : decode cX2_copyFrom 38 = .ok (.aload_n 1, 1) := by decide +kernel
theorem dX2_copyFrom_39 : decode cX2_copyFrom 39 = .ok (.getfield 22, 3) := by decide +kernel
theorem dX2_copyFrom_42 : decode cX2_copyFrom 42 = .ok (.iconst 0, 1) := by decide +kernel
theorem dX2_copyFrom_43 : decode cX2_copyFrom 43 = .ok (.aload_n 0, 1) := by decide +kernel
theorem dX2_copyFrom_44 : decode cX2_copyFrom 44 = .ok (.getfield 22, 3) := by decide +kernel
theorem dX2_copyFrom_47 : decode cX2_copyFrom 47 = .ok (.iconst 0, 1) := by decide +kernel
theorem dX2_copyFrom_48 : decode cX2_copyFrom 48 = .ok (.bipush 20, 2) := by decide +kernel
theorem dX2_copyFrom_50 : decode cX2_copyFrom 50 = .ok (.invokestatic 28, 3) := by decide +kernel
theorem dX2_copyFrom_53 : decode cX2_copyFrom 53 = .ok (.aload_n 1, 1) := by decide +kernel
theorem dX2_copyFrom_54 : decode cX2_copyFrom 54 = .ok (.getfield 25, 3) := by decide +kernel
theorem dX2_copyFrom_57 : decode cX2_copyFrom 57 = .ok (.iconst 0, 1) := by decide +kernel
theorem dX2_copyFrom_58 : decode cX2_copyFrom 58 = .ok (.aload_n 0, 1) := by decide +kernel
theorem dX2_copyFrom_59 : decode cX2_copyFrom 59 = .ok (.getfield 25, 3) := by decide +kernel
theorem dX2_copyFrom_62 : decode cX2_copyFrom 62 = .ok (.iconst 0, 1) := by decide +kernel
theorem dX2_copyFrom_63 : decode cX2_copyFrom 63 = .ok (.bipush 20, 2) := by decide +kernel
theorem dX2_copyFrom_65 : decode cX2_copyFrom 65 = .ok (.invokestatic 28, 3) := by decide +kernel
theorem dX2_copyFrom_68 : decode cX2_copyFrom 68 = .ok (.return_, 1) := by decide +kernel
theorem dX2_add_0 : decode cX2_add 0 = .ok (.aload_n 0, 1) := by decide +kernel
theorem dX2_add_1 : decode cX2_add 1 = .ok (.getfield 9, 3) := by decide +kernel
theorem dX2_add_4 : decode cX2_add 4 = .ok (.bipush 20, 2) := by decide +kernel
theorem dX2_add_6 : decode cX2_add 6 = .ok (.if_icmp .lt 5, 3) := by decide +kernel
theorem dX2_add_9 : decode cX2_add 9 = .ok (.iconst (-1), 1) := by decide +kernel
theorem dX2_add_10 : decode cX2_add 10 = .ok (.ireturn, 1) := by decide +kernel
theorem dX2_add_11 : decode cX2_add 11 = .ok (.aload_n 0, 1) := by decide +kernel
theorem dX2_add_12 : decode cX2_add 12 = .ok (.getfield 15, 3) := by decide +kernel
theorem dX2_add_15 : decode cX2_add 15 = .ok (.aload_n 0, 1) := by decide +kernel
theorem dX2_add_16 : decode cX2_add 16 = .ok (.getfield 9, 3) := by decide +kernel
theorem dX2_add_19 : decode cX2_add 19 = .ok (.iload_n 1, 1) := by decide +kernel
theorem dX2_add_20 : decode cX2_add 20 = .ok (.iastore, 1) := by decide +kernel
theorem dX2_add_21 : decode cX2_add 21 = .ok (.aload_n 0, 1) := by decide +kernel
theorem dX2_add_22 : decode cX2_add 22 = .ok (.getfield 19, 3) := by decide +kernel
theorem dX2_add_25 : decode cX2_add 25 = .ok (.aload_n 0, 1) := by decide +kernel
theorem dX2_add_26 : decode cX2_add 26 = .ok (.getfield 9, 3) := by decide +kernel
theorem dX2_add_29 : decode cX2_add 29 = .ok (.iload_n 2, 1) := by decide +kernel
theorem dX2_add_30 : decode cX2_add 30 = .ok (.iastore, 1) := by decide +kernel
theorem dX2_add_31 : decode cX2_add 31 = .ok (.aload_n 0, 1) := by decide +kernel
theorem dX2_add_32 : decode cX2_add 32 = .ok (.getfield 22, 3) := by decide +kernel
theorem dX2_add_35 : decode cX2_add 35 = .ok (.aload_n 0, 1) := by decide +kernel
theorem dX2_add_36 : decode cX2_add 36 = .ok (.getfield 9, 3) := by decide +kernel
theorem dX2_add_39 : decode cX2_add 39 = .ok (.iload_n 3, 1) := by decide +kernel
theorem dX2_add_40 : decode cX2_add 40 = .ok (.iastore, 1) := by decide +kernel
theorem dX2_add_41 : decode cX2_add 41 = .ok (.aload_n 0, 1) := by decide +kernel
theorem dX2_add_42 : decode cX2_add 42 = .ok (.getfield 25, 3) := by decide +kernel
theorem dX2_add_45 : decode cX2_add 45 = .ok (.aload_n 0, 1) := by decide +kernel
theorem dX2_add_46 : decode cX2_add 46 = .ok (.getfield 9, 3) := by decide +kernel
theorem dX2_add_49 : decode cX2_add 49 = .ok (.iload 4, 2) := by decide +kernel
theorem dX2_add_51 : decode cX2_add 51 = .ok (.iastore, 1) := by decide +kernel
theorem dX2_add_52 : decode cX2_add 52 = .ok (.aload_n 0, 1) := by decide +kernel
theorem dX2_add_53 : decode cX2_add 53 = .ok (.dup, 1) := by decide +kernel
theorem dX2_add_54 : decode cX2_add 54 = .ok (.getfield 9, 3) := by decide +kernel
theorem dX2_add_57 : decode cX2_add 57 = .ok (.iconst 1, 1) := by decide +kernel
theorem dX2_add_58 : decode cX2_add 58 = .ok (.iadd, 1) := by decide +kernel
theorem dX2_add_59 : decode cX2_add 59 = .ok (.putfield 9, 3) := by decide +kernel
theorem dX2_add_62 : decode cX2_add 62 = .ok (.aload_n 0, 1) := by decide +kernel
theorem dX2_add_63 : decode cX2_add 63 = .ok (.getfield 9, 3) := by decide +kernel
theorem dX2_add_66 : decode cX2_add 66 = .ok (.ireturn, 1) := by decide +kernel
theorem dX3_init_0 : decode cX3_init 0 = .ok (.aload_n 0, 1) := by decide +kernel
theorem dX3_init_1 : decode cX3_init 1 = .ok (.invokespecial 3, 3) := by decide +kernel
theorem dX3_init_4 : decode cX3_init 4 = .ok (.aload_n 0, 1) := by decide +kernel
theorem dX3_init_5 : decode cX3_init 5 = .ok (.iconst 0, 1) := by decide +kernel
theorem dX3_init_6 : decode cX3_init 6 = .ok (.putfield 9, 3) := by decide +kernel
theorem dX3_init_9 : decode cX3_init 9 = .ok (.aload_n 0, 1) := by decide +kernel
theorem dX3_init_10 : decode cX3_init 10 = .ok (.bipush 14, 2) := by decide +kernel
theorem dX3_init_12 : decode cX3_init 12 = .ok (.newarray .int, 2) := by decide +kernel
theorem dX3_init_14 : decode cX3_init 14 = .ok (.putfield 15, 3) := by decide +kernel
theorem dX3_init_17 : decode cX3_init 17 = .ok (.aload_n 0, 1) := by decide +kernel
theorem dX3_init_18 : decode cX3_init 18 = .ok (.bipush 14, 2) := by decide +kernel
theorem dX3_init_20 : decode cX3_init 20 = .ok (.newarray .int, 2) := by decide +kernel
theorem dX3_init_22 : decode cX3_init 22 = .ok (.putfield 19, 3) := by decide +kernel
theorem dX3_init_25 : decode cX3_init 25 = .ok (.return_, 1) := by decide +kernel
theorem dX3_copyFrom_0 : decode cX3_copyFrom 0 = .ok (.aload_n 0, 1) := by decide +kernel
theorem dX3_copyFrom_1 : decode cX3_copyFrom 1 = .ok (.aload_n 1, 1) := by decide +kernel
theorem dX3_copyFrom_2 : decode cX3_copyFrom 2 = .ok (.getfield 9, 3) := by decide +kernel
theorem dX3_copyFrom_5 : decode cX3_copyFrom 5 = .ok (.putfield 9, 3) := by decide +kernel
theorem dX3_copyFrom_8 : decode cX3_copyFrom 8 = .ok (.aload_n 1, 1) := by decide +kernel
theorem dX3_copyFrom_9 : decode cX3_copyFrom 9 = .ok (.getfield 15, 3) := by decide +kernel
theorem dX3_copyFrom_12 : decode cX3_copyFrom 12 = .ok (.iconst 0, 1) := by decide +kernel
theorem dX3_copyFrom_13 : decode cX3_copyFrom 13 = .ok (.aload_n 0, 1) := by decide +kernel
theorem dX3_copyFrom_14 : decode cX3_copyFrom 14 = .ok (.getfield 15, 3) := by decide +kernel
theorem dX3_copyFrom_17 : decode cX3_copyFrom 17 = .ok (.iconst 0, 1) := by decide +kernel
theorem dX3_copyFrom_18 : decode cX3_copyFrom 18 = .ok (.bipush 14, 2) := by decide +kernel
theorem dX3_copyFrom_20 : decode cX3_copyFrom 20 = .ok (.invokestatic 22, 3) := by decide +kernel
theorem dX3_copyFrom_23 : decode cX3_copyFrom 23 = .ok (.aload_n 1, 1) := by decide +kernel
theorem dX3_copyFrom_24 : decode cX3_copyFrom 24 = .ok (.getfield 19, 3) := by decide +kernel
theorem dX3_copyFrom_27 : decode cX3_copyFrom 27 = .ok (.iconst 0, 1) := by decide +kernel
theorem dX3_copyFrom_28 : decode cX3_copyFrom 28 = .ok (.aload_n 0, 1) := by decide +kernel
theorem dX3_copyFrom_29 : decode cX3_copyFrom 29 = .ok (.getfield 19, 3) := by decide +kernel
theorem dX3_copyFrom_32 : decode cX3_copyFrom 32 = .ok (.iconst 0, 1) := by decide +kernel
theorem dX3_copyFrom_33 : decode cX3_copyFrom 33 = .ok (.bipush 14, 2) := by decide +kernel
theorem dX3_copyFrom_35 : decode cX3_copyFrom 35 = .ok (.invokestatic 22, 3) := by decide +kernel
theorem dX3_copyFrom_38 : decode cX3_copyFrom 38 = .ok (.return_, 1) := by decide +kernel
set_option maxRecDepth 20000 in
theorem ggX3_isGood_X6_within : GoodIn wsX3_isGood wsX6_within := goodIn_r _ [4] (by decide +kernel) (by decide +kernel)
set_option maxRecDepth 20000 in
theorem gX3_isGood_X6_within_n28 : GoodIn wsX3_isGood (wsX6_within) := ggX3_isGood_X6_within
theorem dX3_isGood_0 : decode cX3_isGood 0 = .ok (.iconst 0, 1) := by decide +kernel
theorem dX3_isGood_1 : decode cX3_isGood 1 = .ok (.iload_n 1, 1) := by decide +kernel
theorem dX3_isGood_2 : decode cX3_isGood 2 = .ok (.aload_n 0, 1) := by decide +kernel
theorem dX3_isGood_3 : decode cX3_isGood 3 = .ok (.getfield 9, 3) := by decide +kernel
theorem dX3_isGood_6 : decode cX3_isGood 6 = .ok (.iconst 1, 1) := by decide +kernel
theorem dX3_isGood_7 : decode cX3_isGood 7 = .ok (.isub, 1) := by decide +kernel
theorem dX3_isGood_8 : decode cX3_isGood 8 = .ok (.invokestatic 28, 3) := by decide +kernel
theorem dX3_isGood_11 : decode cX3_isGood 11 = .ok (.ireturn, 1) := by decide +kernel
set_option maxRecDepth 20000 in
theorem ggX3_add_X6_within : GoodIn wsX3_add wsX6_within := goodIn_r _ [6] (by decide +kernel) (by decide +kernel)
set_option maxRecDepth 20000 in
theorem gX3_add_X6_within_n28 : GoodIn wsX3_add (wsX6_within) := ggX3_add_X6_within
theorem dX3_add_0 : decode cX3_add 0 = .ok (.aload_n 0, 1) := by decide +kernel
theorem dX3_add_1 : decode cX3_add 1 = .ok (.getfield 9, 3) := by decide +kernel
theorem dX3_add_4 : decode cX3_add 4 = .ok (.bipush 14, 2) := by decide +kernel
theorem dX3_add_6 : decode cX3_add 6 = .ok (.if_icmp .ge 24, 3) := by decide +kernel
theorem dX3_add_9 : decode cX3_add 9 = .ok (.iconst 1, 1) := by decide +kernel
theorem dX3_add_10 : decode cX3_add 10 = .ok (.iload_n 1, 1) := by decide +kernel
theorem dX3_add_11 : decode cX3_add 11 = .ok (.sipush 10000, 3) := by decide +kernel
theorem dX3_add_14 : decode cX3_add 14 = .ok (.invokestatic 28, 3) := by decide +kernel
theorem dX3_add_17 : decode cX3_add 17 = .ok (.ifCond .eq 13, 3) := by decide +kernel
theorem dX3_add_20 : decode cX3_add 20 = .ok (.iconst 0, 1) := by decide +kernel
theorem dX3_add_21 : decode cX3_add 21 = .ok (.iload_n 2, 1) := by decide +kernel
theorem dX3_add_22 : decode cX3_add 22 = .ok (.bipush 100, 2) := by decide +kernel
theorem dX3_add_24 : decode cX3_add 24 = .ok (.invokestatic 28, 3) := by decide +kernel
theorem dX3_add_27 : decode cX3_add 27 = .ok (.ifCond .ne 5, 3) := by decide +kernel
theorem dX3_add_30 : decode cX3_add 30 = .ok (.iconst (-1), 1) := by decide +kernel
theorem dX3_add_31 : decode cX3_add 31 = .ok (.ireturn, 1) := by decide +kernel
theorem dX3_add_32 : decode cX3_add 32 = .ok (.aload_n 0, 1) := by decide +kernel
theorem dX3_add_33 : decode cX3_add 33 = .ok (.getfield 15, 3) := by decide +kernel
theorem dX3_add_36 : decode cX3_add 36 = .ok (.aload_n 0, 1) := by decide +kernel
theorem dX3_add_37 : decode cX3_add 37 = .ok (.getfield 9, 3) := by decide +kernel
theorem dX3_add_40 : decode cX3_add 40 = .ok (.iload_n 1, 1) := by decide +kernel
theorem dX3_add_41 : decode cX3_add 41 = .ok (.iastore, 1) := by decide +kernel
theorem dX3_add_42 : decode cX3_add 42 = .ok (.aload_n 0, 1) := by decide +kernel
theorem dX3_add_43 : decode cX3_add 43 = .ok (.getfield 19, 3) := by decide +kernel
theorem dX3_add_46 : decode cX3_add 46 = .ok (.aload_n 0, 1) := by decide +kernel
theorem dX3_add_47 : decode cX3_add 47 = .ok (.getfield 9, 3) := by decide +kernel
theorem dX3_add_50 : decode cX3_add 50 = .ok (.iload_n 2, 1) := by decide +kernel
theorem dX3_add_51 : decode cX3_add 51 = .ok (.iastore, 1) := by decide +kernel
theorem dX3_add_52 : decode cX3_add 52 = .ok (.aload_n 0, 1) := by decide +kernel
theorem dX3_add_53 : decode cX3_add 53 = .ok (.dup, 1) := by decide +kernel
theorem dX3_add_54 : decode cX3_add 54 = .ok (.getfield 9, 3) := by decide +kernel
theorem dX3_add_57 : decode cX3_add 57 = .ok (.iconst 1, 1) := by decide +kernel
theorem dX3_add_58 : decode cX3_add 58 = .ok (.iadd, 1) := by decide +kernel
theorem dX3_add_59 : decode cX3_add 59 = .ok (.putfield 9, 3) := by decide +kernel
theorem dX3_add_62 : decode cX3_add 62 = .ok (.aload_n 0, 1) := by decide +kernel
theorem dX3_add_63 : decode cX3_add 63 = .ok (.getfield 9, 3) := by decide +kernel
theorem dX3_add_66 : decode cX3_add 66 = .ok (.iconst 1, 1) := by decide +kernel
theorem dX3_add_67 : decode cX3_add 67 = .ok (.isub, 1) := by decide +kernel
theorem dX3_add_68 : decode cX3_add 68 = .ok (.ireturn, 1) := by decide +kernel
set_option maxRecDepth 20000 in
theorem ggX4_init_X1_init : GoodIn wsX4_init wsX1_init := goodIn_r _ [25, 26, 2, 3, 27, 15, 28, 29, 30, 31, 32, 33, 34, 62, 63, 64, 65] (by decide +kernel) (by decide +kernel)
set_option maxRecDepth 20000 in
theorem gX4_init_X1_init : GoodIn wsX4_init (wsX1_init) := ggX4_init_X1_init
set_option maxRecDepth 20000 in
theorem ggX4_init_X3_init : GoodIn wsX4_init wsX3_init := goodIn_r _ [36, 37, 2, 3, 38, 15, 39, 40, 75, 76, 77] (by decide +kernel) (by decide +kernel)
set_option maxRecDepth 20000 in
theorem gX4_init_X3_init_n23 : GoodIn wsX4_init (wsX3_init) := ggX4_init_X3_init
set_option maxRecDepth 20000 in
theorem ggX4_init_X5_init : GoodIn wsX4_init wsX5_init := goodIn_r _ [42, 43, 2, 3, 15, 44, 45, 46, 47, 48, 49, 50, 51, 52, 53, 54, 55, 56, 57, 58, 59, 60, 61, 78, 79, 80, 81, 82, 83, 84, 85, 86, 87, 88, 89] (by decide +kernel) (by decide +kernel)
set_option maxRecDepth 20000 in
theorem gX4_init_X5_init_n51 : GoodIn wsX4_init (wsX5_init) := ggX4_init_X5_init
theorem dX4_init_0 : decode cX4_init 0 = .ok (.aload_n 0, 1) := by decide +kernel
theorem dX4_init_1 : decode cX4_init 1 = .ok (.invokespecial 3, 3) := by decide +kernel
theorem dX4_init_4 : decode cX4_init 4 = .ok (.aload_n 0, 1) := by decide +kernel
theorem dX4_init_5 : decode cX4_init 5 = .ok (.new 9, 3) := by decide +kernel
theorem dX4_init_8 : decode cX4_init 8 = .ok (.dup, 1) := by decide +kernel
theorem dX4_init_9 : decode cX4_init 9 = .ok (.invokespecial 11, 3) := by decide +kernel
theorem dX4_init_12 : decode cX4_init 12 = .ok (.putfield 12, 3) := by decide +kernel
theorem dX4_init_15 : decode cX4_init 15 = .ok (.aload_n 0, 1) := by decide +kernel
theorem dX4_init_16 : decode cX4_init 16 = .ok (.new 9, 3) := by decide +kernel
theorem dX4_init_19 : decode cX4_init 19 = .ok (.dup, 1) := by decide +kernel
theorem dX4_init_20 : decode cX4_init 20 = .ok (.invokespecial 11, 3) := by decide +kernel
theorem dX4_init_23 : decode cX4_init 23 = .ok (.putfield 18, 3) := by decide +kernel
theorem dX4_init_26 : decode cX4_init 26 = .ok (.aload_n 0, 1) := by decide +kernel
theorem dX4_init_27 : decode cX4_init 27 = .ok (.new 21, 3) := by decide +kernel
theorem dX4_init_30 : decode cX4_init 30 = .ok (.dup, 1) := by decide +kernel
theorem dX4_init_31 : decode cX4_init 31 = .ok (.invokespecial 23, 3) := by decide +kernel
theorem dX4_init_34 : decode cX4_init 34 = .ok (.putfield 24, 3) := by decide +kernel
theorem dX4_init_37 : decode cX4_init 37 = .ok (.aload_n 0, 1) := by decide +kernel
theorem dX4_init_38 : decode cX4_init 38 = .ok (.iconst 4, 1) := by decide +kernel
theorem dX4_init_39 : decode cX4_init 39 = .ok (.anewarray 28, 3) := by decide +kernel
theorem dX4_init_42 : decode cX4_init 42 = .ok (.putfield 30, 3) := by decide +kernel
theorem dX4_init_45 : decode cX4_init 45 = .ok (.aload_n 0, 1) := by decide +kernel
theorem dX4_init_46 : decode cX4_init 46 = .ok (.bipush 8, 2) := by decide +kernel
theorem dX4_init_48 : decode cX4_init 48 = .ok (.newarray .int, 2) := by decide +kernel
theorem dX4_init_50 : decode cX4_init 50 = .ok (.putfield 34, 3) := by decide +kernel
theorem dX4_init_53 : decode cX4_init 53 = .ok (.aload_n 0, 1) := by decide +kernel
theorem dX4_init_54 : decode cX4_init 54 = .ok (.iconst 0, 1) := by decide +kernel
theorem dX4_init_55 : decode cX4_init 55 = .ok (.putfield 38, 3) := by decide +kernel
theorem dX4_init_58 : decode cX4_init 58 = .ok (.aload_n 0, 1) := by decide +kernel
theorem dX4_init_59 : decode cX4_init 59 = .ok (.iconst 1, 1) := by decide +kernel
theorem dX4_init_60 : decode cX4_init 60 = .ok (.putfield 42, 3) := by decide +kernel
theorem dX4_init_63 : decode cX4_init 63 = .ok (.aload_n 0, 1) := by decide +kernel
theorem dX4_init_64 : decode cX4_init 64 = .ok (.iconst 1, 1) := by decide +kernel
theorem dX4_init_65 : decode cX4_init 65 = .ok (.putfield 45, 3) := by decide +kernel
theorem dX4_init_68 : decode cX4_init 68 = .ok (.aload_n 0, 1) := by decide +kernel
theorem dX4_init_69 : decode cX4_init 69 = .ok (.iconst 1, 1) := by decide +kernel
theorem dX4_init_70 : decode cX4_init 70 = .ok (.putfield 48, 3) := by decide +kernel
theorem dX4_init_73 : decode cX4_init 73 = .ok (.iconst 0, 1) := by decide +kernel
theorem dX4_init_74 : decode cX4_init 74 = .ok (.istore_n 1, 1) := by decide +kernel
theorem dX4_init_75 : decode cX4_init 75 = .ok (.iload_n 1, 1) := by decide +kernel
theorem dX4_init_76 : decode cX4_init 76 = .ok (.iconst 4, 1) := by decide +kernel
theorem dX4_init_77 : decode cX4_init 77 = .ok (.if_icmp .ge 22, 3) := by decide +kernel
theorem dX4_init_80 : decode cX4_init 80 = .ok (.aload_n 0, 1) := by decide +kernel
theorem dX4_init_81 : decode cX4_init 81 = .ok (.getfield 30, 3) := by decide +kernel
theorem dX4_init_84 : decode cX4_init 84 = .ok (.iload_n 1, 1) := by decide +kernel
theorem dX4_init_85 : decode cX4_init 85 = .ok (.new 28, 3) := by decide +kernel
theorem dX4_init_88 : decode cX4_init 88 = .ok (.dup, 1) := by decide +kernel
theorem dX4_init_89 : decode cX4_init 89 = .ok (.invokespecial 51, 3) := by decide +kernel
theorem dX4_init_92 : decode cX4_init 92 = .ok (.aastore, 1) := by decide +kernel
theorem dX4_init_93 : decode cX4_init 93 = .ok (.iinc 1 1, 3) := by decide +kernel
theorem dX4_init_96 : decode cX4_init 96 = .ok (.goto (-21), 3) := by decide +kernel
theorem dX4_init_99 : decode cX4_init 99 = .ok (.return_, 1) := by decide +kernel
set_option maxRecDepth 20000 in
theorem ggX4_copyFrom_X1_copyFrom : GoodIn wsX4_copyFrom wsX1_copyFrom := goodIn_r _ [18, 19, 20, 21, 7, 8, 9, 22, 23, 66, 67, 68, 69] (by decide +kernel) (by decide +kernel)
set_option maxRecDepth 20000 in
theorem gX4_copyFrom_X1_copyFrom : GoodIn wsX4_copyFrom (wsV RX4 52 RX1 yX1_copyFrom wsX1_copyFrom) := goodIn_app (goodIn_of _ (by decide +kernel)) ggX4_copyFrom_X1_copyFrom
set_option maxRecDepth 20000 in
theorem ggX4_copyFrom_X3_copyFrom : GoodIn wsX4_copyFrom wsX3_copyFrom := goodIn_r _ [28, 29, 30, 31, 7, 8, 9, 32, 70, 71, 72] (by decide +kernel) (by decide +kernel)
set_option maxRecDepth 20000 in
theorem gX4_copyFrom_X3_copyFrom : GoodIn wsX4_copyFrom (wsV RX4 56 RX3 yX3_copyFrom wsX3_copyFrom) := goodIn_app (goodIn_of _ (by decide +kernel)) ggX4_copyFrom_X3_copyFrom
set_option maxRecDepth 20000 in
theorem ggX4_copyFrom_X5_copyFrom : GoodIn wsX4_copyFrom wsX5_copyFrom := goodIn_r _ [37, 38, 39, 7, 8, 9, 40, 41, 42, 43, 44, 45, 46, 47, 48, 49, 50, 51, 52, 53, 54, 55, 56, 73, 74, 75, 76, 77, 78, 79, 80, 81, 82, 83, 84] (by decide +kernel) (by decide +kernel)
set_option maxRecDepth 20000 in
theorem gX4_copyFrom_X5_copyFrom : GoodIn wsX4_copyFrom (wsV RX4 59 RX5 yX5_copyFrom wsX5_copyFrom) := goodIn_app (goodIn_of _ (by decide +kernel)) ggX4_copyFrom_X5_copyFrom
theorem dX4_copyFrom_0 : decode cX4_copyFrom 0 = .ok (.aload_n 0, 1) := by decide +kernel
theorem dX4_copyFrom_1 : decode cX4_copyFrom 1 = .ok (.getfield 12, 3) := by decide +kernel
theorem dX4_copyFrom_4 : decode cX4_copyFrom 4 = .ok (.aload_n 1, 1) := by decide +kernel
theorem dX4_copyFrom_5 : decode cX4_copyFrom 5 = .ok (.getfield 12, 3) := by decide +kernel
theorem dX4_copyFrom_8 : decode cX4_copyFrom 8 = .ok (.invokevirtual 52, 3) := by decide +kernel
theorem dX4_copyFrom_11 : decode cX4_copyFrom 11 = .ok (.aload_n 0, 1) := by decide +kernel
theorem dX4_copyFrom_12 : decode cX4_copyFrom 12 = .ok (.getfield 18, 3) := by decide +kernel
theorem dX4_copyFrom_15 : decode cX4_copyFrom 15 = .ok (.aload_n 1, 1) := by decide +kernel
theorem dX4_copyFrom_16 : decode cX4_copyFrom 16 = .ok (.getfield 18, 3) := by decide +kernel
theorem dX4_copyFrom_19 : decode cX4_copyFrom 19 = .ok (.invokevirtual 52, 3) := by decide +kernel
theorem dX4_copyFrom_22 : decode cX4_copyFrom 22 = .ok (.aload_n 0, 1) := by decide +kernel
theorem dX4_copyFrom_23 : decode cX4_copyFrom 23 = .ok (.getfield 24, 3) := by decide +kernel
theorem dX4_copyFrom_26 : decode cX4_copyFrom 26 = .ok (.aload_n 1, 1) := by decide +kernel
theorem dX4_copyFrom_27 : decode cX4_copyFrom 27 = .ok (.getfield 24, 3) := by decide +kernel
theorem dX4_copyFrom_30 : decode cX4_copyFrom 30 = .ok (.invokevirtual 56, 3) := by decide +kernel
theorem dX4_copyFrom_33 : decode cX4_copyFrom 33 = .ok (.iconst 0, 1) := by decide +kernel
theorem dX4_copyFrom_34 : decode cX4_copyFrom 34 = .ok (.istore_n 2, 1) := by decide +kernel
theorem dX4_copyFrom_35 : decode cX4_copyFrom 35 = .ok (.iload_n 2, 1) := by decide +kernel
theorem dX4_copyFrom_36 : decode cX4_copyFrom 36 = .ok (.iconst 4, 1) := by decide +kernel
theorem dX4_copyFrom_37 : decode cX4_copyFrom 37 = .ok (.if_icmp .ge 24, 3) := by decide +kernel
theorem dX4_copyFrom_40 : decode cX4_copyFrom 40 = .ok (.aload_n 0, 1) := by decide +kernel
theorem dX4_copyFrom_41 : decode cX4_copyFrom 41 = .ok (.getfield 30, 3) := by decide +kernel
theorem dX4_copyFrom_44 : decode cX4_copyFrom 44 = .ok (.iload_n 2, 1) := by decide +kernel
theorem dX4_copyFrom_45 : decode cX4_copyFrom 45 = .ok (.aaload, 1) := by decide +kernel
theorem dX4_copyFrom_46 : decode cX4_copyFrom 46 = .ok (.aload_n 1, 1) := by decide +kernel
theorem dX4_copyFrom_47 : decode cX4_copyFrom 47 = .ok (.getfield 30, 3) := by decide +kernel
theorem dX4_copyFrom_50 : decode cX4_copyFrom 50 = .ok (.iload_n 2, 1) := by decide +kernel
theorem dX4_copyFrom_51 : decode cX4_copyFrom 51 = .ok (.aaload, 1) := by decide +kernel
theorem dX4_copyFrom_52 : decode cX4_copyFrom 52 = .ok (.invokevirtual 59, 3) := by decide +kernel
theorem dX4_copyFrom_55 : decode cX4_copyFrom 55 = .ok (.iinc 2 1, 3) := by decide +kernel
theorem dX4_copyFrom_58 : decode cX4_copyFrom 58 = .ok (.goto (-23), 3) := by decide +kernel
theorem dX4_copyFrom_61 : decode cX4_copyFrom 61 = .ok (.aload_n 1, 1) := by decide +kernel
theorem dX4_copyFrom_62 : decode cX4_copyFrom 62 = .ok (.getfield 34, 3) := by decide +kernel
theorem dX4_copyFrom_65 : decode cX4_copyFrom 65 = .ok (.iconst 0, 1) := by decide +kernel
theorem dX4_copyFrom_66 : decode cX4_copyFrom 66 = .ok (.aload_n 0, 1) := by decide +kernel
theorem dX4_copyFrom_67 : decode cX4_copyFrom 67 = .ok (.getfield 34, 3) := by decide +kernel
theorem dX4_copyFrom_70 : decode cX4_copyFrom 70 = .ok (.iconst 0, 1) := by decide +kernel
theorem dX4_copyFrom_71 : decode cX4_copyFrom 71 = .ok (.bipush 8, 2) := by decide +kernel
theorem dX4_copyFrom_73 : decode cX4_copyFrom 73 = .ok (.invokestatic 62, 3) := by decide +kernel
theorem dX4_copyFrom_76 : decode cX4_copyFrom 76 = .ok (.aload_n 0, 1) := by decide +kernel
theorem dX4_copyFrom_77 : decode cX4_copyFrom 77 = .ok (.aload_n 1, 1) := by decide +kernel
theorem dX4_copyFrom_78 : decode cX4_copyFrom 78 = .ok (.getfield 38, 3) := by decide +kernel
theorem dX4_copyFrom_81 : decode cX4_copyFrom 81 = .ok (.putfield 38, 3) := by decide +kernel
theorem dX4_copyFrom_84 : decode cX4_copyFrom 84 = .ok (.aload_n 0, 1) := by decide +kernel
theorem dX4_copyFrom_85 : decode cX4_copyFrom 85 = .ok (.aload_n 1, 1) := by decide +kernel
theorem dX4_copyFrom_86 : decode cX4_copyFrom 86 = .ok (.getfield 42, 3) := by decide +kernel
theorem dX4_copyFrom_89 : decode cX4_copyFrom 89 = .ok (.putfield 42, 3) := by decide +kernel
theorem dX4_copyFrom_92 : decode cX4_copyFrom 92 = .ok (.aload_n 0, 1) := by decide +kernel
theorem dX4_copyFrom_93 : decode cX4_copyFrom 93 = .ok (.aload_n 1, 1) := by decide +kernel
theorem dX4_copyFrom_94 : decode cX4_copyFrom 94 = .ok (.getfield 45, 3) := by decide +kernel
theorem dX4_copyFrom_97 : decode cX4_copyFrom 97 = .ok (.putfield 45, 3) := by decide +kernel
theorem dX4_copyFrom_100 : decode cX4_copyFrom 100 = .ok (.aload_n 0, 1) := by decide +kernel
theorem dX4_copyFrom_101 : decode cX4_copyFrom 101 = .ok (.aload_n 1, 1) := by decide +kernel
theorem dX4_copyFrom_102 : decode cX4_copyFrom 102 = .ok (.getfield 48, 3) := by decide +kernel
theorem dX4_copyFrom_105 : decode cX4_copyFrom 105 = .ok (.putfield 48, 3) := by decide +kernel
theorem dX4_copyFrom_108 : decode cX4_copyFrom 108 = .ok (.return_, 1) := by decide +kernel
theorem dX4_coinageOf_0 : decode cX4_coinageOf 0 = .ok (.iload_n 1, 1) := by decide +kernel
theorem dX4_coinageOf_1 : decode cX4_coinageOf 1 = .ok (.ifCond .ne 8, 3) := by decide +kernel
theorem dX4_coinageOf_4 : decode cX4_coinageOf 4 = .ok (.aload_n 0, 1) := by decide +kernel
theorem dX4_coinageOf_5 : decode cX4_coinageOf 5 = .ok (.getfield 12, 3) := by decide +kernel
theorem dX4_coinageOf_8 : decode cX4_coinageOf 8 = .ok (.areturn, 1) := by decide +kernel
theorem dX4_coinageOf_9 : decode cX4_coinageOf 9 = .ok (.iload_n 1, 1) := by decide +kernel
theorem dX4_coinageOf_10 : decode cX4_coinageOf 10 = .ok (.iconst 1, 1) := by decide +kernel
theorem dX4_coinageOf_11 : decode cX4_coinageOf 11 = .ok (.if_icmp .ne 10, 3) := by decide +kernel
theorem dX4_coinageOf_14 : decode cX4_coinageOf 14 = .ok (.aload_n 0, 1) := by decide +kernel
theorem dX4_coinageOf_15 : decode cX4_coinageOf 15 = .ok (.getfield 18, 3) := by decide +kernel
theorem dX4_coinageOf_18 : decode cX4_coinageOf 18 = .ok (.goto 4, 3) := by decide +kernel
theorem dX4_coinageOf_21 : decode cX4_coinageOf 21 = .ok (.aconst_null, 1) := by decide +kernel
theorem dX4_coinageOf_22 : decode cX4_coinageOf 22 = .ok (.areturn, 1) := by decide +kernel
set_option maxRecDepth 20000 in
theorem ggX4_tillAt_X6_within : GoodIn wsX4_tillAt wsX6_within := goodIn_r _ [5] (by decide +kernel) (by decide +kernel)
set_option maxRecDepth 20000 in
theorem gX4_tillAt_X6_within_n68 : GoodIn wsX4_tillAt (wsX6_within) := ggX4_tillAt_X6_within
theorem dX4_tillAt_0 : decode cX4_tillAt 0 = .ok (.iconst 0, 1) := by decide +kernel
theorem dX4_tillAt_1 : decode cX4_tillAt 1 = .ok (.iload_n 1, 1) := by decide +kernel
theorem dX4_tillAt_2 : decode cX4_tillAt 2 = .ok (.aload_n 0, 1) := by decide +kernel
theorem dX4_tillAt_3 : decode cX4_tillAt 3 = .ok (.getfield 38, 3) := by decide +kernel
theorem dX4_tillAt_6 : decode cX4_tillAt 6 = .ok (.iconst 1, 1) := by decide +kernel
theorem dX4_tillAt_7 : decode cX4_tillAt 7 = .ok (.isub, 1) := by decide +kernel
theorem dX4_tillAt_8 : decode cX4_tillAt 8 = .ok (.invokestatic 68, 3) := by decide +kernel
theorem dX4_tillAt_11 : decode cX4_tillAt 11 = .ok (.ifCond .eq 12, 3) := by decide +kernel
theorem dX4_tillAt_14 : decode cX4_tillAt 14 = .ok (.aload_n 0, 1) := by decide +kernel
theorem dX4_tillAt_15 : decode cX4_tillAt 15 = .ok (.getfield 30, 3) := by decide +kernel
theorem dX4_tillAt_18 : decode cX4_tillAt 18 = .ok (.iload_n 1, 1) := by decide +kernel
theorem dX4_tillAt_19 : decode cX4_tillAt 19 = .ok (.aaload, 1) := by decide +kernel
theorem dX4_tillAt_20 : decode cX4_tillAt 20 = .ok (.goto 4, 3) := by decide +kernel
theorem dX4_tillAt_23 : decode cX4_tillAt 23 = .ok (.aconst_null, 1) := by decide +kernel
theorem dX4_tillAt_24 : decode cX4_tillAt 24 = .ok (.areturn, 1) := by decide +kernel
set_option maxRecDepth 20000 in
theorem ggX4_isCoin_X4_coinageOf : GoodIn wsX4_isCoin wsX4_coinageOf := goodIn_r _ [5, 6, 7, 17, 18, 19, 20, 21, 22, 23, 24, 25] (by decide +kernel) (by decide +kernel)
set_option maxRecDepth 20000 in
theorem gX4_isCoin_X4_coinageOf : GoodIn wsX4_isCoin (wsV RX4 72 RX4 yX4_coinageOf wsX4_coinageOf) := goodIn_app (goodIn_of _ (by decide +kernel)) ggX4_isCoin_X4_coinageOf
set_option maxRecDepth 20000 in
theorem ggX4_isCoin_X1_isCoin : GoodIn wsX4_isCoin wsX1_isCoin := goodIn_r _ [12, 13, 14, 15, 16, 26, 27, 28, 29] (by decide +kernel) (by decide +kernel)
set_option maxRecDepth 20000 in
theorem gX4_isCoin_X1_isCoin : GoodIn wsX4_isCoin (wsV RX4 76 RX1 yX1_isCoin wsX1_isCoin) := goodIn_app (goodIn_of _ (by decide +kernel)) ggX4_isCoin_X1_isCoin
theorem dX4_isCoin_0 : decode cX4_isCoin 0 = .ok (.aload_n 0, 1) := by decide +kernel
theorem dX4_isCoin_1 : decode cX4_isCoin 1 = .ok (.iload_n 1, 1) := by decide +kernel
theorem dX4_isCoin_2 : decode cX4_isCoin 2 = .ok (.invokevirtual 72, 3) := by decide +kernel
theorem dX4_isCoin_5 : decode cX4_isCoin 5 = .ok (.astore_n 3, 1) := by decide +kernel
theorem dX4_isCoin_6 : decode cX4_isCoin 6 = .ok (.aload_n 3, 1) := by decide +kernel
theorem dX4_isCoin_7 : decode cX4_isCoin 7 = .ok (.ifnull 15, 3) := by decide +kernel
theorem dX4_isCoin_10 : decode cX4_isCoin 10 = .ok (.aload_n 3, 1) := by decide +kernel
theorem dX4_isCoin_11 : decode cX4_isCoin 11 = .ok (.iload_n 2, 1) := by decide +kernel
theorem dX4_isCoin_12 : decode cX4_isCoin 12 = .ok (.invokevirtual 76, 3) := by decide +kernel
theorem dX4_isCoin_15 : decode cX4_isCoin 15 = .ok (.ifCond .eq 7, 3) := by decide +kernel
theorem dX4_isCoin_18 : decode cX4_isCoin 18 = .ok (.iconst 1, 1) := by decide +kernel
theorem dX4_isCoin_19 : decode cX4_isCoin 19 = .ok (.goto 4, 3) := by decide +kernel
theorem dX4_isCoin_22 : decode cX4_isCoin 22 = .ok (.iconst 0, 1) := by decide +kernel
theorem dX4_isCoin_23 : decode cX4_isCoin 23 = .ok (.ireturn, 1) := by decide +kernel
set_option maxRecDepth 20000 in
theorem ggX4_isSale_X6_within : GoodIn wsX4_isSale wsX6_within := goodIn_r _ [3] (by decide +kernel) (by decide +kernel)
set_option maxRecDepth 20000 in
theorem gX4_isSale_X6_within_n68 : GoodIn wsX4_isSale (wsX6_within) := ggX4_isSale_X6_within
set_option maxRecDepth 20000 in
theorem ggX4_isSale_X4_isCoin : GoodIn wsX4_isSale wsX4_isCoin := goodIn_r _ [8, 9, 10, 11, 7, 12, 13, 14, 15, 16, 17, 18, 19, 20, 1, 2, 3, 21, 22, 23, 24, 25, 26, 27, 28, 29, 30, 31, 32, 33] (by decide +kernel) (by decide +kernel)
set_option maxRecDepth 20000 in
theorem gX4_isSale_X4_isCoin : GoodIn wsX4_isSale (wsV RX4 80 RX4 yX4_isCoin wsX4_isCoin) := goodIn_app (goodIn_of _ (by decide +kernel)) ggX4_isSale_X4_isCoin
theorem dX4_isSale_0 : decode cX4_isSale 0 = .ok (.iconst 1, 1) := by decide +kernel
theorem dX4_isSale_1 : decode cX4_isSale 1 = .ok (.iload_n 1, 1) := by decide +kernel
theorem dX4_isSale_2 : decode cX4_isSale 2 = .ok (.sipush 2000, 3) := by decide +kernel
theorem dX4_isSale_5 : decode cX4_isSale 5 = .ok (.invokestatic 68, 3) := by decide +kernel
theorem dX4_isSale_8 : decode cX4_isSale 8 = .ok (.ifCond .eq 27, 3) := by decide +kernel
theorem dX4_isSale_11 : decode cX4_isSale 11 = .ok (.iconst 1, 1) := by decide +kernel
theorem dX4_isSale_12 : decode cX4_isSale 12 = .ok (.iload 4, 2) := by decide +kernel
theorem dX4_isSale_14 : decode cX4_isSale 14 = .ok (.bipush 50, 2) := by decide +kernel
theorem dX4_isSale_16 : decode cX4_isSale 16 = .ok (.invokestatic 68, 3) := by decide +kernel
theorem dX4_isSale_19 : decode cX4_isSale 19 = .ok (.ifCond .eq 16, 3) := by decide +kernel
theorem dX4_isSale_22 : decode cX4_isSale 22 = .ok (.aload_n 0, 1) := by decide +kernel
theorem dX4_isSale_23 : decode cX4_isSale 23 = .ok (.iload_n 2, 1) := by decide +kernel
theorem dX4_isSale_24 : decode cX4_isSale 24 = .ok (.iload_n 3, 1) := by decide +kernel
theorem dX4_isSale_25 : decode cX4_isSale 25 = .ok (.invokevirtual 80, 3) := by decide +kernel
theorem dX4_isSale_28 : decode cX4_isSale 28 = .ok (.ifCond .eq 7, 3) := by decide +kernel
theorem dX4_isSale_31 : decode cX4_isSale 31 = .ok (.iconst 1, 1) := by decide +kernel
theorem dX4_isSale_32 : decode cX4_isSale 32 = .ok (.goto 4, 3) := by decide +kernel
theorem dX4_isSale_35 : decode cX4_isSale 35 = .ok (.iconst 0, 1) := by decide +kernel
theorem dX4_isSale_36 : decode cX4_isSale 36 = .ok (.ireturn, 1) := by decide +kernel
theorem dX4_hasSold_0 : decode cX4_hasSold 0 = .ok (.iconst 0, 1) := by decide +kernel
theorem dX4_hasSold_1 : decode cX4_hasSold 1 = .ok (.istore_n 1, 1) := by decide +kernel
theorem dX4_hasSold_2 : decode cX4_hasSold 2 = .ok (.iload_n 1, 1) := by decide +kernel
theorem dX4_hasSold_3 : decode cX4_hasSold 3 = .ok (.aload_n 0, 1) := by decide +kernel
theorem dX4_hasSold_4 : decode cX4_hasSold 4 = .ok (.getfield 38, 3) := by decide +kernel
theorem dX4_hasSold_7 : decode cX4_hasSold 7 = .ok (.if_icmp .ge 23, 3) := by decide +kernel
theorem dX4_hasSold_10 : decode cX4_hasSold 10 = .ok (.aload_n 0, 1) := by decide +kernel
theorem dX4_hasSold_11 : decode cX4_hasSold 11 = .ok (.getfield 30, 3) := by decide +kernel
theorem dX4_hasSold_14 : decode cX4_hasSold 14 = .ok (.iload_n 1, 1) := by decide +kernel
theorem dX4_hasSold_15 : decode cX4_hasSold 15 = .ok (.aaload, 1) := by decide +kernel
theorem dX4_hasSold_16 : decode cX4_hasSold 16 = .ok (.getfield 83, 3) := by decide +kernel
theorem dX4_hasSold_19 : decode cX4_hasSold 19 = .ok (.ifCond .le 5, 3) := by decide +kernel
theorem dX4_hasSold_22 : decode cX4_hasSold 22 = .ok (.iconst 1, 1) := by decide +kernel
theorem dX4_hasSold_23 : decode cX4_hasSold 23 = .ok (.ireturn, 1) := by decide +kernel
theorem dX4_hasSold_24 : decode cX4_hasSold 24 = .ok (.iinc 1 1, 3) := by decide +kernel
theorem dX4_hasSold_27 : decode cX4_hasSold 27 = .ok (.goto (-25), 3) := by decide +kernel
theorem dX4_hasSold_30 : decode cX4_hasSold 30 = .ok (.iconst 0, 1) := by decide +kernel
theorem dX4_hasSold_31 : decode cX4_hasSold 31 = .ok (.ireturn, 1) := by decide +kernel
theorem dX4_unitParts_0 : decode cX4_unitParts 0 = .ok (.iload_n 1, 1) := by decide +kernel
theorem dX4_unitParts_1 : decode cX4_unitParts 1 = .ok (.ifCond .ne 10, 3) := by decide +kernel
theorem dX4_unitParts_4 : decode cX4_unitParts 4 = .ok (.aload_n 0, 1) := by decide +kernel
theorem dX4_unitParts_5 : decode cX4_unitParts 5 = .ok (.getfield 42, 3) := by decide +kernel
theorem dX4_unitParts_8 : decode cX4_unitParts 8 = .ok (.goto 7, 3) := by decide +kernel
theorem dX4_unitParts_11 : decode cX4_unitParts 11 = .ok (.aload_n 0, 1) := by decide +kernel
theorem dX4_unitParts_12 : decode cX4_unitParts 12 = .ok (.getfield 45, 3) := by decide +kernel
theorem dX4_unitParts_15 : decode cX4_unitParts 15 = .ok (.ireturn, 1) := by decide +kernel
set_option maxRecDepth 20000 in
theorem ggX4_spareParts_X4_coinageOf : GoodIn wsX4_spareParts wsX4_coinageOf := goodIn_r _ [7, 8, 9, 28, 29, 30, 31, 32, 33, 34, 35, 36] (by decide +kernel) (by decide +kernel)
set_option maxRecDepth 20000 in
theorem gX4_spareParts_X4_coinageOf : GoodIn wsX4_spareParts (wsV RX4 72 RX4 yX4_coinageOf wsX4_coinageOf) := goodIn_app (goodIn_of _ (by decide +kernel)) ggX4_spareParts_X4_coinageOf
set_option maxRecDepth 20000 in
theorem ggX4_spareParts_X1_isCoin : GoodIn wsX4_spareParts wsX1_isCoin := goodIn_r _ [14, 15, 16, 17, 18, 24, 25, 26, 27] (by decide +kernel) (by decide +kernel)
set_option maxRecDepth 20000 in
theorem gX4_spareParts_X1_isCoin : GoodIn wsX4_spareParts (wsV RX4 76 RX1 yX1_isCoin wsX1_isCoin) := goodIn_app (goodIn_of _ (by decide +kernel)) ggX4_spareParts_X1_isCoin
set_option maxRecDepth 20000 in
theorem ggX4_spareParts_X4_unitParts : GoodIn wsX4_spareParts wsX4_unitParts := goodIn_r _ [22, 23, 2, 28, 29, 30, 31, 32, 33, 34, 35, 36] (by decide +kernel) (by decide +kernel)
set_option maxRecDepth 20000 in
theorem gX4_spareParts_X4_unitParts : GoodIn wsX4_spareParts (wsV RX4 89 RX4 yX4_unitParts wsX4_unitParts) := goodIn_app (goodIn_of _ (by decide +kernel)) ggX4_spareParts_X4_unitParts
theorem dX4_spareParts_0 : decode cX4_spareParts 0 = .ok (.aload_n 0, 1) := by decide +kernel
theorem dX4_spareParts_1 : decode cX4_spareParts 1 = .ok (.iload_n 2, 1) := by decide +kernel
theorem dX4_spareParts_2 : decode cX4_spareParts 2 = .ok (.invokevirtual 72, 3) := by decide +kernel
theorem dX4_spareParts_5 : decode cX4_spareParts 5 = .ok (.astore 5, 2) := by decide +kernel
theorem dX4_spareParts_7 : decode cX4_spareParts 7 = .ok (.aload 5, 2) := by decide +kernel
theorem dX4_spareParts_9 : decode cX4_spareParts 9 = .ok (.ifnull 12, 3) := by decide +kernel
theorem dX4_spareParts_12 : decode cX4_spareParts 12 = .ok (.aload 5, 2) := by decide +kernel
theorem dX4_spareParts_14 : decode cX4_spareParts 14 = .ok (.iload_n 3, 1) := by decide +kernel
theorem dX4_spareParts_15 : decode cX4_spareParts 15 = .ok (.invokevirtual 76, 3) := by decide +kernel
theorem dX4_spareParts_18 : decode cX4_spareParts 18 = .ok (.ifCond .ne 5, 3) := by decide +kernel
theorem dX4_spareParts_21 : decode cX4_spareParts 21 = .ok (.iconst (-1), 1) := by decide +kernel
theorem dX4_spareParts_22 : decode cX4_spareParts 22 = .ok (.ireturn, 1) := by decide +kernel
theorem dX4_spareParts_23 : decode cX4_spareParts 23 = .ok (.iload 4, 2) := by decide +kernel
theorem dX4_spareParts_25 : decode cX4_spareParts 25 = .ok (.aload 5, 2) := by decide +kernel
theorem dX4_spareParts_27 : decode cX4_spareParts 27 = .ok (.getfield 86, 3) := by decide +kernel
theorem dX4_spareParts_30 : decode cX4_spareParts 30 = .ok (.iload_n 3, 1) := by decide +kernel
theorem dX4_spareParts_31 : decode cX4_spareParts 31 = .ok (.iaload, 1) := by decide +kernel
theorem dX4_spareParts_32 : decode cX4_spareParts 32 = .ok (.imul, 1) := by decide +kernel
theorem dX4_spareParts_33 : decode cX4_spareParts 33 = .ok (.aload_n 0, 1) := by decide +kernel
theorem dX4_spareParts_34 : decode cX4_spareParts 34 = .ok (.iload_n 2, 1) := by decide +kernel
theorem dX4_spareParts_35 : decode cX4_spareParts 35 = .ok (.invokevirtual 89, 3) := by decide +kernel
theorem dX4_spareParts_38 : decode cX4_spareParts 38 = .ok (.imul, 1) := by decide +kernel
theorem dX4_spareParts_39 : decode cX4_spareParts 39 = .ok (.iload_n 1, 1) := by decide +kernel
theorem dX4_spareParts_40 : decode cX4_spareParts 40 = .ok (.aload_n 0, 1) := by decide +kernel
theorem dX4_spareParts_41 : decode cX4_spareParts 41 = .ok (.getfield 45, 3) := by decide +kernel
theorem dX4_spareParts_44 : decode cX4_spareParts 44 = .ok (.imul, 1) := by decide +kernel
theorem dX4_spareParts_45 : decode cX4_spareParts 45 = .ok (.isub, 1) := by decide +kernel
theorem dX4_spareParts_46 : decode cX4_spareParts 46 = .ok (.ireturn, 1) := by decide +kernel
set_option maxRecDepth 20000 in
theorem ggX4_partsOf_X4_coinageOf : GoodIn wsX4_partsOf wsX4_coinageOf := goodIn_r _ [7, 8, 9, 20, 21, 22, 23, 24, 25, 26, 27, 28] (by decide +kernel) (by decide +kernel)
set_option maxRecDepth 20000 in
theorem gX4_partsOf_X4_coinageOf : GoodIn wsX4_partsOf (wsV RX4 72 RX4 yX4_coinageOf wsX4_coinageOf) := goodIn_app (goodIn_of _ (by decide +kernel)) ggX4_partsOf_X4_coinageOf
set_option maxRecDepth 20000 in
theorem ggX4_partsOf_X4_unitParts : GoodIn wsX4_partsOf wsX4_unitParts := goodIn_r _ [13, 14, 15, 20, 21, 22, 23, 24, 25, 26, 27, 28] (by decide +kernel) (by decide +kernel)
set_option maxRecDepth 20000 in
theorem gX4_partsOf_X4_unitParts : GoodIn wsX4_partsOf (wsV RX4 89 RX4 yX4_unitParts wsX4_unitParts) := goodIn_app (goodIn_of _ (by decide +kernel)) ggX4_partsOf_X4_unitParts
theorem dX4_partsOf_0 : decode cX4_partsOf 0 = .ok (.aload_n 0, 1) := by decide +kernel
theorem dX4_partsOf_1 : decode cX4_partsOf 1 = .ok (.iload_n 1, 1) := by decide +kernel
theorem dX4_partsOf_2 : decode cX4_partsOf 2 = .ok (.invokevirtual 72, 3) := by decide +kernel
theorem dX4_partsOf_5 : decode cX4_partsOf 5 = .ok (.astore_n 3, 1) := by decide +kernel
theorem dX4_partsOf_6 : decode cX4_partsOf 6 = .ok (.lconst 0, 1) := by decide +kernel
theorem dX4_partsOf_7 : decode cX4_partsOf 7 = .ok (.lstore 4, 2) := by decide +kernel
theorem dX4_partsOf_9 : decode cX4_partsOf 9 = .ok (.aload_n 3, 1) := by decide +kernel
theorem dX4_partsOf_10 : decode cX4_partsOf 10 = .ok (.ifnull 40, 3) := by decide +kernel
theorem dX4_partsOf_13 : decode cX4_partsOf 13 = .ok (.iconst 0, 1) := by decide +kernel
theorem dX4_partsOf_14 : decode cX4_partsOf 14 = .ok (.istore 6, 2) := by decide +kernel
theorem dX4_partsOf_16 : decode cX4_partsOf 16 = .ok (.iload 6, 2) := by decide +kernel
theorem dX4_partsOf_18 : decode cX4_partsOf 18 = .ok (.aload_n 3, 1) := by decide +kernel
theorem dX4_partsOf_19 : decode cX4_partsOf 19 = .ok (.getfield 93, 3) := by decide +kernel
theorem dX4_partsOf_22 : decode cX4_partsOf 22 = .ok (.if_icmp .ge 28, 3) := by decide +kernel
theorem dX4_partsOf_25 : decode cX4_partsOf 25 = .ok (.lload 4, 2) := by decide +kernel
theorem dX4_partsOf_27 : decode cX4_partsOf 27 = .ok (.aload_n 2, 1) := by decide +kernel
theorem dX4_partsOf_28 : decode cX4_partsOf 28 = .ok (.iload 6, 2) := by decide +kernel
theorem dX4_partsOf_30 : decode cX4_partsOf 30 = .ok (.iaload, 1) := by decide +kernel
theorem dX4_partsOf_31 : decode cX4_partsOf 31 = .ok (.i2l, 1) := by decide +kernel
theorem dX4_partsOf_32 : decode cX4_partsOf 32 = .ok (.aload_n 3, 1) := by decide +kernel
theorem dX4_partsOf_33 : decode cX4_partsOf 33 = .ok (.getfield 86, 3) := by decide +kernel
theorem dX4_partsOf_36 : decode cX4_partsOf 36 = .ok (.iload 6, 2) := by decide +kernel
theorem dX4_partsOf_38 : decode cX4_partsOf 38 = .ok (.iaload, 1) := by decide +kernel
theorem dX4_partsOf_39 : decode cX4_partsOf 39 = .ok (.i2l, 1) := by decide +kernel
theorem dX4_partsOf_40 : decode cX4_partsOf 40 = .ok (.lmul, 1) := by decide +kernel
theorem dX4_partsOf_41 : decode cX4_partsOf 41 = .ok (.ladd, 1) := by decide +kernel
theorem dX4_partsOf_42 : decode cX4_partsOf 42 = .ok (.lstore 4, 2) := by decide +kernel
theorem dX4_partsOf_44 : decode cX4_partsOf 44 = .ok (.iinc 6 1, 3) := by decide +kernel
theorem dX4_partsOf_47 : decode cX4_partsOf 47 = .ok (.goto (-31), 3) := by decide +kernel
theorem dX4_partsOf_50 : decode cX4_partsOf 50 = .ok (.lload 4, 2) := by decide +kernel
theorem dX4_partsOf_52 : decode cX4_partsOf 52 = .ok (.aload_n 0, 1) := by decide +kernel
theorem dX4_partsOf_53 : decode cX4_partsOf 53 = .ok (.iload_n 1, 1) := by decide +kernel
theorem dX4_partsOf_54 : decode cX4_partsOf 54 = .ok (.invokevirtual 89, 3) := by decide +kernel
theorem dX4_partsOf_57 : decode cX4_partsOf 57 = .ok (.i2l, 1) := by decide +kernel
theorem dX4_partsOf_58 : decode cX4_partsOf 58 = .ok (.lmul, 1) := by decide +kernel
theorem dX4_partsOf_59 : decode cX4_partsOf 59 = .ok (.lreturn, 1) := by decide +kernel
set_option maxRecDepth 20000 in
theorem ggX4_newPrice_X6_wholeTimes : GoodIn wsX4_newPrice wsX6_wholeTimes := goodIn_r _ [8] (by decide +kernel) (by decide +kernel)
set_option maxRecDepth 20000 in
theorem gX4_newPrice_X6_wholeTimes_n99 : GoodIn wsX4_newPrice (wsX6_wholeTimes) := ggX4_newPrice_X6_wholeTimes
set_option maxRecDepth 20000 in
theorem ggX4_newPrice_X4_roundsUp : GoodIn wsX4_newPrice wsX4_roundsUp := goodIn_r _ [12] (by decide +kernel) (by decide +kernel)
set_option maxRecDepth 20000 in
theorem gX4_newPrice_X4_roundsUp : GoodIn wsX4_newPrice (va_wsS RX4 103 yX4_roundsUp wsX4_roundsUp) := goodIn_app (goodIn_of _ (by decide +kernel)) ggX4_newPrice_X4_roundsUp
theorem dX4_newPrice_0 : decode cX4_newPrice 0 = .ok (.aload_n 0, 1) := by decide +kernel
theorem dX4_newPrice_1 : decode cX4_newPrice 1 = .ok (.getfield 24, 3) := by decide +kernel
theorem dX4_newPrice_4 : decode cX4_newPrice 4 = .ok (.getfield 96, 3) := by decide +kernel
theorem dX4_newPrice_7 : decode cX4_newPrice 7 = .ok (.iload_n 1, 1) := by decide +kernel
theorem dX4_newPrice_8 : decode cX4_newPrice 8 = .ok (.iaload, 1) := by decide +kernel
theorem dX4_newPrice_9 : decode cX4_newPrice 9 = .ok (.aload_n 0, 1) := by decide +kernel
theorem dX4_newPrice_10 : decode cX4_newPrice 10 = .ok (.getfield 42, 3) := by decide +kernel
theorem dX4_newPrice_13 : decode cX4_newPrice 13 = .ok (.imul, 1) := by decide +kernel
theorem dX4_newPrice_14 : decode cX4_newPrice 14 = .ok (.istore_n 3, 1) := by decide +kernel
theorem dX4_newPrice_15 : decode cX4_newPrice 15 = .ok (.aload_n 0, 1) := by decide +kernel
theorem dX4_newPrice_16 : decode cX4_newPrice 16 = .ok (.getfield 48, 3) := by decide +kernel
theorem dX4_newPrice_19 : decode cX4_newPrice 19 = .ok (.aload_n 0, 1) := by decide +kernel
theorem dX4_newPrice_20 : decode cX4_newPrice 20 = .ok (.getfield 45, 3) := by decide +kernel
theorem dX4_newPrice_23 : decode cX4_newPrice 23 = .ok (.imul, 1) := by decide +kernel
theorem dX4_newPrice_24 : decode cX4_newPrice 24 = .ok (.istore 4, 2) := by decide +kernel
theorem dX4_newPrice_26 : decode cX4_newPrice 26 = .ok (.iload_n 3, 1) := by decide +kernel
theorem dX4_newPrice_27 : decode cX4_newPrice 27 = .ok (.iload 4, 2) := by decide +kernel
theorem dX4_newPrice_29 : decode cX4_newPrice 29 = .ok (.invokestatic 99, 3) := by decide +kernel
theorem dX4_newPrice_32 : decode cX4_newPrice 32 = .ok (.istore 5, 2) := by decide +kernel
theorem dX4_newPrice_34 : decode cX4_newPrice 34 = .ok (.iload_n 3, 1) := by decide +kernel
theorem dX4_newPrice_35 : decode cX4_newPrice 35 = .ok (.iload 5, 2) := by decide +kernel
theorem dX4_newPrice_37 : decode cX4_newPrice 37 = .ok (.iload 4, 2) := by decide +kernel
theorem dX4_newPrice_39 : decode cX4_newPrice 39 = .ok (.imul, 1) := by decide +kernel
theorem dX4_newPrice_40 : decode cX4_newPrice 40 = .ok (.isub, 1) := by decide +kernel
theorem dX4_newPrice_41 : decode cX4_newPrice 41 = .ok (.istore 6, 2) := by decide +kernel
theorem dX4_newPrice_43 : decode cX4_newPrice 43 = .ok (.iload_n 2, 1) := by decide +kernel
theorem dX4_newPrice_44 : decode cX4_newPrice 44 = .ok (.iload 5, 2) := by decide +kernel
theorem dX4_newPrice_46 : decode cX4_newPrice 46 = .ok (.iload 6, 2) := by decide +kernel
theorem dX4_newPrice_48 : decode cX4_newPrice 48 = .ok (.iload 4, 2) := by decide +kernel
theorem dX4_newPrice_50 : decode cX4_newPrice 50 = .ok (.invokestatic 103, 3) := by decide +kernel
theorem dX4_newPrice_53 : decode cX4_newPrice 53 = .ok (.ifCond .eq 10, 3) := by decide +kernel
theorem dX4_newPrice_56 : decode cX4_newPrice 56 = .ok (.iload 5, 2) := by decide +kernel
theorem dX4_newPrice_58 : decode cX4_newPrice 58 = .ok (.iconst 1, 1) := by decide +kernel
theorem dX4_newPrice_59 : decode cX4_newPrice 59 = .ok (.iadd, 1) := by decide +kernel
theorem dX4_newPrice_60 : decode cX4_newPrice 60 = .ok (.goto 5, 3) := by decide +kernel
theorem dX4_newPrice_63 : decode cX4_newPrice 63 = .ok (.iload 5, 2) := by decide +kernel
theorem dX4_newPrice_65 : decode cX4_newPrice 65 = .ok (.aload_n 0, 1) := by decide +kernel
theorem dX4_newPrice_66 : decode cX4_newPrice 66 = .ok (.getfield 48, 3) := by decide +kernel
theorem dX4_newPrice_69 : decode cX4_newPrice 69 = .ok (.imul, 1) := by decide +kernel
theorem dX4_newPrice_70 : decode cX4_newPrice 70 = .ok (.ireturn, 1) := by decide +kernel
theorem dX4_roundsUp_0 : decode cX4_roundsUp 0 = .ok (.iload_n 0, 1) := by decide +kernel
theorem dX4_roundsUp_1 : decode cX4_roundsUp 1 = .ok (.tableswitch 77 1 3 #[27, 37, 50], 27) := by decide +kernel
theorem dX4_roundsUp_28 : decode cX4_roundsUp 28 = .ok (.iload_n 2, 1) := by decide +kernel
theorem dX4_roundsUp_29 : decode cX4_roundsUp 29 = .ok (.ifCond .le 7, 3) := by decide +kernel
theorem dX4_roundsUp_32 : decode cX4_roundsUp 32 = .ok (.iconst 1, 1) := by decide +kernel
theorem dX4_roundsUp_33 : decode cX4_roundsUp 33 = .ok (.goto 4, 3) := by decide +kernel
theorem dX4_roundsUp_36 : decode cX4_roundsUp 36 = .ok (.iconst 0, 1) := by decide +kernel
theorem dX4_roundsUp_37 : decode cX4_roundsUp 37 = .ok (.ireturn, 1) := by decide +kernel
theorem dX4_roundsUp_38 : decode cX4_roundsUp 38 = .ok (.iconst 2, 1) := by decide +kernel
theorem dX4_roundsUp_39 : decode cX4_roundsUp 39 = .ok (.iload_n 2, 1) := by decide +kernel
theorem dX4_roundsUp_40 : decode cX4_roundsUp 40 = .ok (.imul, 1) := by decide +kernel
theorem dX4_roundsUp_41 : decode cX4_roundsUp 41 = .ok (.iload_n 3, 1) := by decide +kernel
theorem dX4_roundsUp_42 : decode cX4_roundsUp 42 = .ok (.if_icmp .lt 7, 3) := by decide +kernel
theorem dX4_roundsUp_45 : decode cX4_roundsUp 45 = .ok (.iconst 1, 1) := by decide +kernel
theorem dX4_roundsUp_46 : decode cX4_roundsUp 46 = .ok (.goto 4, 3) := by decide +kernel
theorem dX4_roundsUp_49 : decode cX4_roundsUp 49 = .ok (.iconst 0, 1) := by decide +kernel
theorem dX4_roundsUp_50 : decode cX4_roundsUp 50 = .ok (.ireturn, 1) := by decide +kernel
theorem dX4_roundsUp_51 : decode cX4_roundsUp 51 = .ok (.iconst 2, 1) := by decide +kernel
theorem dX4_roundsUp_52 : decode cX4_roundsUp 52 = .ok (.iload_n 2, 1) := by decide +kernel
theorem dX4_roundsUp_53 : decode cX4_roundsUp 53 = .ok (.imul, 1) := by decide +kernel
theorem dX4_roundsUp_54 : decode cX4_roundsUp 54 = .ok (.iload_n 3, 1) := by decide +kernel
theorem dX4_roundsUp_55 : decode cX4_roundsUp 55 = .ok (.if_icmp .gt 17, 3) := by decide +kernel
theorem dX4_roundsUp_58 : decode cX4_roundsUp 58 = .ok (.iconst 2, 1) := by decide +kernel
theorem dX4_roundsUp_59 : decode cX4_roundsUp 59 = .ok (.iload_n 2, 1) := by decide +kernel
theorem dX4_roundsUp_60 : decode cX4_roundsUp 60 = .ok (.imul, 1) := by decide +kernel
theorem dX4_roundsUp_61 : decode cX4_roundsUp 61 = .ok (.iload_n 3, 1) := by decide +kernel
theorem dX4_roundsUp_62 : decode cX4_roundsUp 62 = .ok (.if_icmp .ne 14, 3) := by decide +kernel
theorem dX4_roundsUp_65 : decode cX4_roundsUp 65 = .ok (.iload_n 1, 1) := by decide +kernel
theorem dX4_roundsUp_66 : decode cX4_roundsUp 66 = .ok (.iconst 1, 1) := by decide +kernel
theorem dX4_roundsUp_67 : decode cX4_roundsUp 67 = .ok (.iand, 1) := by decide +kernel
theorem dX4_roundsUp_68 : decode cX4_roundsUp 68 = .ok (.iconst 1, 1) := by decide +kernel
theorem dX4_roundsUp_69 : decode cX4_roundsUp 69 = .ok (.if_icmp .ne 7, 3) := by decide +kernel
theorem dX4_roundsUp_72 : decode cX4_roundsUp 72 = .ok (.iconst 1, 1) := by decide +kernel
theorem dX4_roundsUp_73 : decode cX4_roundsUp 73 = .ok (.goto 4, 3) := by decide +kernel
theorem dX4_roundsUp_76 : decode cX4_roundsUp 76 = .ok (.iconst 0, 1) := by decide +kernel
theorem dX4_roundsUp_77 : decode cX4_roundsUp 77 = .ok (.ireturn, 1) := by decide +kernel
theorem dX4_roundsUp_78 : decode cX4_roundsUp 78 = .ok (.iconst 0, 1) := by decide +kernel
theorem dX4_roundsUp_79 : decode cX4_roundsUp 79 = .ok (.ireturn, 1) := by decide +kernel
set_option maxRecDepth 20000 in
theorem ggX4_gainOf_X4_newPrice : GoodIn wsX4_gainOf wsX4_newPrice := goodIn_r _ [10, 2, 3, 4, 11, 1, 12, 13, 14, 15, 16, 9, 17, 18, 19, 20, 21, 22, 23, 24, 25, 26, 27, 28, 29] (by decide +kernel) (by decide +kernel)
set_option maxRecDepth 20000 in
theorem gX4_gainOf_X4_newPrice : GoodIn wsX4_gainOf (wsV RX4 107 RX4 yX4_newPrice wsX4_newPrice) := goodIn_app (goodIn_of _ (by decide +kernel)) ggX4_gainOf_X4_newPrice
theorem dX4_gainOf_0 : decode cX4_gainOf 0 = .ok (.aload_n 0, 1) := by decide +kernel
theorem dX4_gainOf_1 : decode cX4_gainOf 1 = .ok (.iload_n 1, 1) := by decide +kernel
theorem dX4_gainOf_2 : decode cX4_gainOf 2 = .ok (.iload_n 2, 1) := by decide +kernel
theorem dX4_gainOf_3 : decode cX4_gainOf 3 = .ok (.invokevirtual 107, 3) := by decide +kernel
theorem dX4_gainOf_6 : decode cX4_gainOf 6 = .ok (.i2l, 1) := by decide +kernel
theorem dX4_gainOf_7 : decode cX4_gainOf 7 = .ok (.aload_n 0, 1) := by decide +kernel
theorem dX4_gainOf_8 : decode cX4_gainOf 8 = .ok (.getfield 45, 3) := by decide +kernel
theorem dX4_gainOf_11 : decode cX4_gainOf 11 = .ok (.i2l, 1) := by decide +kernel
theorem dX4_gainOf_12 : decode cX4_gainOf 12 = .ok (.lmul, 1) := by decide +kernel
theorem dX4_gainOf_13 : decode cX4_gainOf 13 = .ok (.aload_n 0, 1) := by decide +kernel
theorem dX4_gainOf_14 : decode cX4_gainOf 14 = .ok (.getfield 24, 3) := by decide +kernel
theorem dX4_gainOf_17 : decode cX4_gainOf 17 = .ok (.getfield 96, 3) := by decide +kernel
theorem dX4_gainOf_20 : decode cX4_gainOf 20 = .ok (.iload_n 1, 1) := by decide +kernel
theorem dX4_gainOf_21 : decode cX4_gainOf 21 = .ok (.iaload, 1) := by decide +kernel
theorem dX4_gainOf_22 : decode cX4_gainOf 22 = .ok (.i2l, 1) := by decide +kernel
theorem dX4_gainOf_23 : decode cX4_gainOf 23 = .ok (.aload_n 0, 1) := by decide +kernel
theorem dX4_gainOf_24 : decode cX4_gainOf 24 = .ok (.getfield 42, 3) := by decide +kernel
theorem dX4_gainOf_27 : decode cX4_gainOf 27 = .ok (.i2l, 1) := by decide +kernel
theorem dX4_gainOf_28 : decode cX4_gainOf 28 = .ok (.lmul, 1) := by decide +kernel
theorem dX4_gainOf_29 : decode cX4_gainOf 29 = .ok (.lsub, 1) := by decide +kernel
theorem dX4_gainOf_30 : decode cX4_gainOf 30 = .ok (.lstore_n 3, 1) := by decide +kernel
theorem dX4_gainOf_31 : decode cX4_gainOf 31 = .ok (.lload_n 3, 1) := by decide +kernel
theorem dX4_gainOf_32 : decode cX4_gainOf 32 = .ok (.aload_n 0, 1) := by decide +kernel
theorem dX4_gainOf_33 : decode cX4_gainOf 33 = .ok (.getfield 24, 3) := by decide +kernel
theorem dX4_gainOf_36 : decode cX4_gainOf 36 = .ok (.getfield 110, 3) := by decide +kernel
theorem dX4_gainOf_39 : decode cX4_gainOf 39 = .ok (.iload_n 1, 1) := by decide +kernel
theorem dX4_gainOf_40 : decode cX4_gainOf 40 = .ok (.iaload, 1) := by decide +kernel
theorem dX4_gainOf_41 : decode cX4_gainOf 41 = .ok (.i2l, 1) := by decide +kernel
theorem dX4_gainOf_42 : decode cX4_gainOf 42 = .ok (.lmul, 1) := by decide +kernel
theorem dX4_gainOf_43 : decode cX4_gainOf 43 = .ok (.lreturn, 1) := by decide +kernel
set_option maxRecDepth 20000 in
theorem ggX4_detail_X4_goodDetail : GoodIn wsX4_detail wsX4_goodDetail := goodIn_r _ [11, 1, 12, 13, 14, 15, 16, 17, 18, 19, 20, 21, 22, 23, 24, 25, 26, 27, 28, 29, 30, 31, 32, 33, 34] (by decide +kernel) (by decide +kernel)
set_option maxRecDepth 20000 in
theorem gX4_detail_X4_goodDetail : GoodIn wsX4_detail (wsV RX4 114 RX4 yX4_goodDetail wsX4_goodDetail) := goodIn_app (goodIn_of _ (by decide +kernel)) ggX4_detail_X4_goodDetail
theorem dX4_detail_0 : decode cX4_detail 0 = .ok (.iload_n 1, 1) := by decide +kernel
theorem dX4_detail_1 : decode cX4_detail 1 = .ok (.tableswitch 63 0 4 #[35, 43, 48, 53, 58], 35) := by decide +kernel
theorem dX4_detail_36 : decode cX4_detail 36 = .ok (.aload_n 0, 1) := by decide +kernel
theorem dX4_detail_37 : decode cX4_detail 37 = .ok (.getfield 24, 3) := by decide +kernel
theorem dX4_detail_40 : decode cX4_detail 40 = .ok (.getfield 113, 3) := by decide +kernel
theorem dX4_detail_43 : decode cX4_detail 43 = .ok (.ireturn, 1) := by decide +kernel
theorem dX4_detail_44 : decode cX4_detail 44 = .ok (.aload_n 0, 1) := by decide +kernel
theorem dX4_detail_45 : decode cX4_detail 45 = .ok (.getfield 38, 3) := by decide +kernel
theorem dX4_detail_48 : decode cX4_detail 48 = .ok (.ireturn, 1) := by decide +kernel
theorem dX4_detail_49 : decode cX4_detail 49 = .ok (.aload_n 0, 1) := by decide +kernel
theorem dX4_detail_50 : decode cX4_detail 50 = .ok (.getfield 42, 3) := by decide +kernel
theorem dX4_detail_53 : decode cX4_detail 53 = .ok (.ireturn, 1) := by decide +kernel
theorem dX4_detail_54 : decode cX4_detail 54 = .ok (.aload_n 0, 1) := by decide +kernel
theorem dX4_detail_55 : decode cX4_detail 55 = .ok (.getfield 45, 3) := by decide +kernel
theorem dX4_detail_58 : decode cX4_detail 58 = .ok (.ireturn, 1) := by decide +kernel
theorem dX4_detail_59 : decode cX4_detail 59 = .ok (.aload_n 0, 1) := by decide +kernel
theorem dX4_detail_60 : decode cX4_detail 60 = .ok (.getfield 48, 3) := by decide +kernel
theorem dX4_detail_63 : decode cX4_detail 63 = .ok (.ireturn, 1) := by decide +kernel
theorem dX4_detail_64 : decode cX4_detail 64 = .ok (.aload_n 0, 1) := by decide +kernel
theorem dX4_detail_65 : decode cX4_detail 65 = .ok (.iload_n 1, 1) := by decide +kernel
theorem dX4_detail_66 : decode cX4_detail 66 = .ok (.invokevirtual 114, 3) := by decide +kernel
theorem dX4_detail_69 : decode cX4_detail 69 = .ok (.ireturn, 1) := by decide +kernel
set_option maxRecDepth 20000 in
theorem ggX4_goodDetail_X3_isGood : GoodIn wsX4_goodDetail wsX3_isGood := goodIn_r _ [8, 9, 10, 11, 12, 22, 23, 24] (by decide +kernel) (by decide +kernel)
set_option maxRecDepth 20000 in
theorem gX4_goodDetail_X3_isGood : GoodIn wsX4_goodDetail (wsV RX4 117 RX3 yX3_isGood wsX3_isGood) := goodIn_app (goodIn_of _ (by decide +kernel)) ggX4_goodDetail_X3_isGood
theorem dX4_goodDetail_0 : decode cX4_goodDetail 0 = .ok (.aload_n 0, 1) := by decide +kernel
theorem dX4_goodDetail_1 : decode cX4_goodDetail 1 = .ok (.getfield 24, 3) := by decide +kernel
theorem dX4_goodDetail_4 : decode cX4_goodDetail 4 = .ok (.iload_n 1, 1) := by decide +kernel
theorem dX4_goodDetail_5 : decode cX4_goodDetail 5 = .ok (.bipush 10, 2) := by decide +kernel
theorem dX4_goodDetail_7 : decode cX4_goodDetail 7 = .ok (.isub, 1) := by decide +kernel
theorem dX4_goodDetail_8 : decode cX4_goodDetail 8 = .ok (.invokevirtual 117, 3) := by decide +kernel
theorem dX4_goodDetail_11 : decode cX4_goodDetail 11 = .ok (.ifCond .eq 16, 3) := by decide +kernel
theorem dX4_goodDetail_14 : decode cX4_goodDetail 14 = .ok (.aload_n 0, 1) := by decide +kernel
theorem dX4_goodDetail_15 : decode cX4_goodDetail 15 = .ok (.getfield 24, 3) := by decide +kernel
theorem dX4_goodDetail_18 : decode cX4_goodDetail 18 = .ok (.getfield 96, 3) := by decide +kernel
theorem dX4_goodDetail_21 : decode cX4_goodDetail 21 = .ok (.iload_n 1, 1) := by decide +kernel
theorem dX4_goodDetail_22 : decode cX4_goodDetail 22 = .ok (.bipush 10, 2) := by decide +kernel
theorem dX4_goodDetail_24 : decode cX4_goodDetail 24 = .ok (.isub, 1) := by decide +kernel
theorem dX4_goodDetail_25 : decode cX4_goodDetail 25 = .ok (.iaload, 1) := by decide +kernel
theorem dX4_goodDetail_26 : decode cX4_goodDetail 26 = .ok (.ireturn, 1) := by decide +kernel
theorem dX4_goodDetail_27 : decode cX4_goodDetail 27 = .ok (.aload_n 0, 1) := by decide +kernel
theorem dX4_goodDetail_28 : decode cX4_goodDetail 28 = .ok (.getfield 24, 3) := by decide +kernel
theorem dX4_goodDetail_31 : decode cX4_goodDetail 31 = .ok (.iload_n 1, 1) := by decide +kernel
theorem dX4_goodDetail_32 : decode cX4_goodDetail 32 = .ok (.bipush 30, 2) := by decide +kernel
theorem dX4_goodDetail_34 : decode cX4_goodDetail 34 = .ok (.isub, 1) := by decide +kernel
theorem dX4_goodDetail_35 : decode cX4_goodDetail 35 = .ok (.invokevirtual 117, 3) := by decide +kernel
theorem dX4_goodDetail_38 : decode cX4_goodDetail 38 = .ok (.ifCond .eq 18, 3) := by decide +kernel
theorem dX4_goodDetail_41 : decode cX4_goodDetail 41 = .ok (.aload_n 0, 1) := by decide +kernel
theorem dX4_goodDetail_42 : decode cX4_goodDetail 42 = .ok (.getfield 24, 3) := by decide +kernel
theorem dX4_goodDetail_45 : decode cX4_goodDetail 45 = .ok (.getfield 110, 3) := by decide +kernel
theorem dX4_goodDetail_48 : decode cX4_goodDetail 48 = .ok (.iload_n 1, 1) := by decide +kernel
theorem dX4_goodDetail_49 : decode cX4_goodDetail 49 = .ok (.bipush 30, 2) := by decide +kernel
theorem dX4_goodDetail_51 : decode cX4_goodDetail 51 = .ok (.isub, 1) := by decide +kernel
theorem dX4_goodDetail_52 : decode cX4_goodDetail 52 = .ok (.iaload, 1) := by decide +kernel
theorem dX4_goodDetail_53 : decode cX4_goodDetail 53 = .ok (.goto 4, 3) := by decide +kernel
theorem dX4_goodDetail_56 : decode cX4_goodDetail 56 = .ok (.iconst (-1), 1) := by decide +kernel
theorem dX4_goodDetail_57 : decode cX4_goodDetail 57 = .ok (.ireturn, 1) := by decide +kernel
set_option maxRecDepth 20000 in
theorem ggX5_init_X2_init : GoodIn wsX5_init wsX2_init := goodIn_r _ [16, 17, 2, 3, 18, 4, 19, 20, 21, 22, 30, 31, 32, 33, 34] (by decide +kernel) (by decide +kernel)
set_option maxRecDepth 20000 in
theorem gX5_init_X2_init_n23 : GoodIn wsX5_init (wsX2_init) := ggX5_init_X2_init
theorem dX5_init_0 : decode cX5_init 0 = .ok (.aload_n 0, 1) := by decide +kernel
theorem dX5_init_1 : decode cX5_init 1 = .ok (.invokespecial 3, 3) := by decide +kernel
theorem dX5_init_4 : decode cX5_init 4 = .ok (.aload_n 0, 1) := by decide +kernel
theorem dX5_init_5 : decode cX5_init 5 = .ok (.bipush 8, 2) := by decide +kernel
theorem dX5_init_7 : decode cX5_init 7 = .ok (.newarray .int, 2) := by decide +kernel
theorem dX5_init_9 : decode cX5_init 9 = .ok (.putfield 9, 3) := by decide +kernel
theorem dX5_init_12 : decode cX5_init 12 = .ok (.aload_n 0, 1) := by decide +kernel
theorem dX5_init_13 : decode cX5_init 13 = .ok (.bipush 8, 2) := by decide +kernel
theorem dX5_init_15 : decode cX5_init 15 = .ok (.newarray .int, 2) := by decide +kernel
theorem dX5_init_17 : decode cX5_init 17 = .ok (.putfield 15, 3) := by decide +kernel
theorem dX5_init_20 : decode cX5_init 20 = .ok (.aload_n 0, 1) := by decide +kernel
theorem dX5_init_21 : decode cX5_init 21 = .ok (.bipush 8, 2) := by decide +kernel
theorem dX5_init_23 : decode cX5_init 23 = .ok (.newarray .int, 2) := by decide +kernel
theorem dX5_init_25 : decode cX5_init 25 = .ok (.putfield 18, 3) := by decide +kernel
theorem dX5_init_28 : decode cX5_init 28 = .ok (.aload_n 0, 1) := by decide +kernel
theorem dX5_init_29 : decode cX5_init 29 = .ok (.new 21, 3) := by decide +kernel
theorem dX5_init_32 : decode cX5_init 32 = .ok (.dup, 1) := by decide +kernel
theorem dX5_init_33 : decode cX5_init 33 = .ok (.invokespecial 23, 3) := by decide +kernel
theorem dX5_init_36 : decode cX5_init 36 = .ok (.putfield 24, 3) := by decide +kernel
theorem dX5_init_39 : decode cX5_init 39 = .ok (.aload_n 0, 1) := by decide +kernel
theorem dX5_init_40 : decode cX5_init 40 = .ok (.iconst 0, 1) := by decide +kernel
theorem dX5_init_41 : decode cX5_init 41 = .ok (.putfield 28, 3) := by decide +kernel
theorem dX5_init_44 : decode cX5_init 44 = .ok (.aload_n 0, 1) := by decide +kernel
theorem dX5_init_45 : decode cX5_init 45 = .ok (.lconst 0, 1) := by decide +kernel
theorem dX5_init_46 : decode cX5_init 46 = .ok (.putfield 32, 3) := by decide +kernel
theorem dX5_init_49 : decode cX5_init 49 = .ok (.aload_n 0, 1) := by decide +kernel
theorem dX5_init_50 : decode cX5_init 50 = .ok (.lconst 0, 1) := by decide +kernel
theorem dX5_init_51 : decode cX5_init 51 = .ok (.putfield 36, 3) := by decide +kernel
theorem dX5_init_54 : decode cX5_init 54 = .ok (.return_, 1) := by decide +kernel
set_option maxRecDepth 20000 in
theorem ggX5_copyFrom_X2_copyFrom : GoodIn wsX5_copyFrom wsX2_copyFrom := goodIn_r _ [16, 17, 18, 19, 3, 4, 5, 20, 21, 22, 30, 31, 32, 33, 34] (by decide +kernel) (by decide +kernel)
set_option maxRecDepth 20000 in
theorem gX5_copyFrom_X2_copyFrom : GoodIn wsX5_copyFrom (wsV RX5 45 RX2 yX2_copyFrom wsX2_copyFrom) := goodIn_app (goodIn_of _ (by decide +kernel)) ggX5_copyFrom_X2_copyFrom
theorem dX5_copyFrom_0 : decode cX5_copyFrom 0 = .ok (.aload_n 1, 1) := by decide +kernel
theorem dX5_copyFrom_1 : decode cX5_copyFrom 1 = .ok (.getfield 9, 3) := by decide +kernel
theorem dX5_copyFrom_4 : decode cX5_copyFrom 4 = .ok (.iconst 0, 1) := by decide +kernel
theorem dX5_copyFrom_5 : decode cX5_copyFrom 5 = .ok (.aload_n 0, 1) := by decide +kernel
theorem dX5_copyFrom_6 : decode cX5_copyFrom 6 = .ok (.getfield 9, 3) := by decide +kernel
theorem dX5_copyFrom_9 : decode cX5_copyFrom 9 = .ok (.iconst 0, 1) := by decide +kernel
theorem dX5_copyFrom_10 : decode cX5_copyFrom 10 = .ok (.bipush 8, 2) := by decide +kernel
theorem dX5_copyFrom_12 : decode cX5_copyFrom 12 = .ok (.invokestatic 39, 3) := by decide +kernel
theorem dX5_copyFrom_15 : decode cX5_copyFrom 15 = .ok (.aload_n 1, 1) := by decide +kernel
theorem dX5_copyFrom_16 : decode cX5_copyFrom 16 = .ok (.getfield 15, 3) := by decide +kernel
theorem dX5_copyFrom_19 : decode cX5_copyFrom 19 = .ok (.iconst 0, 1) := by decide +kernel
theorem dX5_copyFrom_20 : decode cX5_copyFrom 20 = .ok (.aload_n 0, 1) := by decide +kernel
theorem dX5_copyFrom_21 : decode cX5_copyFrom 21 = .ok (.getfield 15, 3) := by decide +kernel
theorem dX5_copyFrom_24 : decode cX5_copyFrom 24 = .ok (.iconst 0, 1) := by decide +kernel
theorem dX5_copyFrom_25 : decode cX5_copyFrom 25 = .ok (.bipush 8, 2) := by decide +kernel
theorem dX5_copyFrom_27 : decode cX5_copyFrom 27 = .ok (.invokestatic 39, 3) := by decide +kernel
theorem dX5_copyFrom_30 : decode cX5_copyFrom 30 = .ok (.aload_n 1, 1) := by decide +kernel
theorem dX5_copyFrom_31 : decode cX5_copyFrom 31 = .ok (.getfield 18, 3) := by decide +kernel
theorem dX5_copyFrom_34 : decode cX5_copyFrom 34 = .ok (.iconst 0, 1) := by decide +kernel
theorem dX5_copyFrom_35 : decode cX5_copyFrom 35 = .ok (.aload_n 0, 1) := by decide +kernel
theorem dX5_copyFrom_36 : decode cX5_copyFrom 36 = .ok (.getfield 18, 3) := by decide +kernel
theorem dX5_copyFrom_39 : decode cX5_copyFrom 39 = .ok (.iconst 0, 1) := by decide +kernel
theorem dX5_copyFrom_40 : decode cX5_copyFrom 40 = .ok (.bipush 8, 2) := by decide +kernel
theorem dX5_copyFrom_42 : decode cX5_copyFrom 42 = .ok (.invokestatic 39, 3) := by decide +kernel
theorem dX5_copyFrom_45 : decode cX5_copyFrom 45 = .ok (.aload_n 0, 1) := by decide +kernel
theorem dX5_copyFrom_46 : decode cX5_copyFrom 46 = .ok (.getfield 24, 3) := by decide +kernel
theorem dX5_copyFrom_49 : decode cX5_copyFrom 49 = .ok (.aload_n 1, 1) := by decide +kernel
theorem dX5_copyFrom_50 : decode cX5_copyFrom 50 = .ok (.getfield 24, 3) := by decide +kernel
theorem dX5_copyFrom_53 : decode cX5_copyFrom 53 = .ok (.invokevirtual 45, 3) := by decide +kernel
theorem dX5_copyFrom_56 : decode cX5_copyFrom 56 = .ok (.aload_n 0, 1) := by decide +kernel
theorem dX5_copyFrom_57 : decode cX5_copyFrom 57 = .ok (.aload_n 1, 1) := by decide +kernel
theorem dX5_copyFrom_58 : decode cX5_copyFrom 58 = .ok (.getfield 28, 3) := by decide +kernel
theorem dX5_copyFrom_61 : decode cX5_copyFrom 61 = .ok (.putfield 28, 3) := by decide +kernel
theorem dX5_copyFrom_64 : decode cX5_copyFrom 64 = .ok (.aload_n 0, 1) := by decide +kernel
theorem dX5_copyFrom_65 : decode cX5_copyFrom 65 = .ok (.aload_n 1, 1) := by decide +kernel
theorem dX5_copyFrom_66 : decode cX5_copyFrom 66 = .ok (.getfield 32, 3) := by decide +kernel
theorem dX5_copyFrom_69 : decode cX5_copyFrom 69 = .ok (.putfield 32, 3) := by decide +kernel
theorem dX5_copyFrom_72 : decode cX5_copyFrom 72 = .ok (.aload_n 0, 1) := by decide +kernel
theorem dX5_copyFrom_73 : decode cX5_copyFrom 73 = .ok (.aload_n 1, 1) := by decide +kernel
theorem dX5_copyFrom_74 : decode cX5_copyFrom 74 = .ok (.getfield 36, 3) := by decide +kernel
theorem dX5_copyFrom_77 : decode cX5_copyFrom 77 = .ok (.putfield 36, 3) := by decide +kernel
theorem dX5_copyFrom_80 : decode cX5_copyFrom 80 = .ok (.return_, 1) := by decide +kernel
theorem dX5_countsOf_0 : decode cX5_countsOf 0 = .ok (.iload_n 1, 1) := by decide +kernel
theorem dX5_countsOf_1 : decode cX5_countsOf 1 = .ok (.ifCond .ne 10, 3) := by decide +kernel
theorem dX5_countsOf_4 : decode cX5_countsOf 4 = .ok (.aload_n 0, 1) := by decide +kernel
theorem dX5_countsOf_5 : decode cX5_countsOf 5 = .ok (.getfield 9, 3) := by decide +kernel
theorem dX5_countsOf_8 : decode cX5_countsOf 8 = .ok (.goto 7, 3) := by decide +kernel
theorem dX5_countsOf_11 : decode cX5_countsOf 11 = .ok (.aload_n 0, 1) := by decide +kernel
theorem dX5_countsOf_12 : decode cX5_countsOf 12 = .ok (.getfield 15, 3) := by decide +kernel
theorem dX5_countsOf_15 : decode cX5_countsOf 15 = .ok (.areturn, 1) := by decide +kernel
theorem dX5_close_0 : decode cX5_close 0 = .ok (.iconst 0, 1) := by decide +kernel
theorem dX5_close_1 : decode cX5_close 1 = .ok (.istore 4, 2) := by decide +kernel
theorem dX5_close_3 : decode cX5_close 3 = .ok (.iload 4, 2) := by decide +kernel
theorem dX5_close_5 : decode cX5_close 5 = .ok (.bipush 8, 2) := by decide +kernel
theorem dX5_close_7 : decode cX5_close 7 = .ok (.if_icmp .ge 34, 3) := by decide +kernel
theorem dX5_close_10 : decode cX5_close 10 = .ok (.aload_n 0, 1) := by decide +kernel
theorem dX5_close_11 : decode cX5_close 11 = .ok (.getfield 15, 3) := by decide +kernel
theorem dX5_close_14 : decode cX5_close 14 = .ok (.iload 4, 2) := by decide +kernel
theorem dX5_close_16 : decode cX5_close 16 = .ok (.dup2, 1) := by decide +kernel
theorem dX5_close_17 : decode cX5_close 17 = .ok (.iaload, 1) := by decide +kernel
theorem dX5_close_18 : decode cX5_close 18 = .ok (.aload_n 3, 1) := by decide +kernel
theorem dX5_close_19 : decode cX5_close 19 = .ok (.iload 4, 2) := by decide +kernel
theorem dX5_close_21 : decode cX5_close 21 = .ok (.iaload, 1) := by decide +kernel
theorem dX5_close_22 : decode cX5_close 22 = .ok (.isub, 1) := by decide +kernel
theorem dX5_close_23 : decode cX5_close 23 = .ok (.iastore, 1) := by decide +kernel
theorem dX5_close_24 : decode cX5_close 24 = .ok (.aload_n 0, 1) := by decide +kernel
theorem dX5_close_25 : decode cX5_close 25 = .ok (.getfield 18, 3) := by decide +kernel
theorem dX5_close_28 : decode cX5_close 28 = .ok (.iload 4, 2) := by decide +kernel
theorem dX5_close_30 : decode cX5_close 30 = .ok (.aload_n 3, 1) := by decide +kernel
theorem dX5_close_31 : decode cX5_close 31 = .ok (.iload 4, 2) := by decide +kernel
theorem dX5_close_33 : decode cX5_close 33 = .ok (.iaload, 1) := by decide +kernel
theorem dX5_close_34 : decode cX5_close 34 = .ok (.iastore, 1) := by decide +kernel
theorem dX5_close_35 : decode cX5_close 35 = .ok (.iinc 4 1, 3) := by decide +kernel
theorem dX5_close_38 : decode cX5_close 38 = .ok (.goto (-35), 3) := by decide +kernel
theorem dX5_close_41 : decode cX5_close 41 = .ok (.aload_n 0, 1) := by decide +kernel
theorem dX5_close_42 : decode cX5_close 42 = .ok (.dup, 1) := by decide +kernel
theorem dX5_close_43 : decode cX5_close 43 = .ok (.getfield 28, 3) := by decide +kernel
theorem dX5_close_46 : decode cX5_close 46 = .ok (.iconst 1, 1) := by decide +kernel
theorem dX5_close_47 : decode cX5_close 47 = .ok (.iadd, 1) := by decide +kernel
theorem dX5_close_48 : decode cX5_close 48 = .ok (.putfield 28, 3) := by decide +kernel
theorem dX5_close_51 : decode cX5_close 51 = .ok (.aload_n 0, 1) := by decide +kernel
theorem dX5_close_52 : decode cX5_close 52 = .ok (.dup, 1) := by decide +kernel
theorem dX5_close_53 : decode cX5_close 53 = .ok (.getfield 32, 3) := by decide +kernel
theorem dX5_close_56 : decode cX5_close 56 = .ok (.iload_n 2, 1) := by decide +kernel
theorem dX5_close_57 : decode cX5_close 57 = .ok (.i2l, 1) := by decide +kernel
theorem dX5_close_58 : decode cX5_close 58 = .ok (.ladd, 1) := by decide +kernel
theorem dX5_close_59 : decode cX5_close 59 = .ok (.putfield 32, 3) := by decide +kernel
theorem dX5_close_62 : decode cX5_close 62 = .ok (.aload_n 0, 1) := by decide +kernel
theorem dX5_close_63 : decode cX5_close 63 = .ok (.dup, 1) := by decide +kernel
theorem dX5_close_64 : decode cX5_close 64 = .ok (.getfield 36, 3) := by decide +kernel
theorem dX5_close_67 : decode cX5_close 67 = .ok (.iload_n 1, 1) := by decide +kernel
theorem dX5_close_68 : decode cX5_close 68 = .ok (.i2l, 1) := by decide +kernel
theorem dX5_close_69 : decode cX5_close 69 = .ok (.ladd, 1) := by decide +kernel
theorem dX5_close_70 : decode cX5_close 70 = .ok (.putfield 36, 3) := by decide +kernel
theorem dX5_close_73 : decode cX5_close 73 = .ok (.return_, 1) := by decide +kernel
set_option maxRecDepth 20000 in
theorem ggX6_init_X4_init : GoodIn wsX6_init wsX4_init := goodIn_r _ [21, 22, 2, 3, 23, 24, 25, 26, 27, 28, 29, 30, 31, 32, 33, 15, 34, 35, 36, 37, 38, 39, 40, 41, 42, 43, 44, 45, 46, 47, 48, 49, 50, 51, 52, 53, 54, 55, 56, 57, 58, 59, 60, 61, 62, 63, 64, 65, 66, 67, 68, 69, 70, 71, 72, 73, 74, 75, 76, 77, 78, 79, 107, 108, 109, 110, 88, 89, 90, 91, 92, 93, 94, 95, 96, 111, 112, 113, 114, 115, 116, 117, 118, 119, 120, 121, 122, 123, 124, 125] (by decide +kernel) (by decide +kernel)
set_option maxRecDepth 20000 in
theorem gX6_init_X4_init : GoodIn wsX6_init (wsX4_init) := ggX6_init_X4_init
set_option maxRecDepth 20000 in
theorem ggX6_init_X0_init : GoodIn wsX6_init wsX0_init := goodIn_r _ [81, 82, 2, 3, 15, 83, 84, 85, 86, 87, 103, 104, 105, 106] (by decide +kernel) (by decide +kernel)
set_option maxRecDepth 20000 in
theorem gX6_init_X0_init_n26 : GoodIn wsX6_init (wsX0_init) := ggX6_init_X0_init
theorem dX6_init_0 : decode cX6_init 0 = .ok (.aload_n 0, 1) := by decide +kernel
theorem dX6_init_1 : decode cX6_init 1 = .ok (.invokespecial 1, 3) := by decide +kernel
theorem dX6_init_4 : decode cX6_init 4 = .ok (.aload_n 0, 1) := by decide +kernel
theorem dX6_init_5 : decode cX6_init 5 = .ok (.new 7, 3) := by decide +kernel
theorem dX6_init_8 : decode cX6_init 8 = .ok (.dup, 1) := by decide +kernel
theorem dX6_init_9 : decode cX6_init 9 = .ok (.invokespecial 9, 3) := by decide +kernel
theorem dX6_init_12 : decode cX6_init 12 = .ok (.putfield 10, 3) := by decide +kernel
theorem dX6_init_15 : decode cX6_init 15 = .ok (.aload_n 0, 1) := by decide +kernel
theorem dX6_init_16 : decode cX6_init 16 = .ok (.iconst 3, 1) := by decide +kernel
theorem dX6_init_17 : decode cX6_init 17 = .ok (.anewarray 7, 3) := by decide +kernel
theorem dX6_init_20 : decode cX6_init 20 = .ok (.putfield 16, 3) := by decide +kernel
theorem dX6_init_23 : decode cX6_init 23 = .ok (.aload_n 0, 1) := by decide +kernel
theorem dX6_init_24 : decode cX6_init 24 = .ok (.iconst 3, 1) := by decide +kernel
theorem dX6_init_25 : decode cX6_init 25 = .ok (.newarray .boolean, 2) := by decide +kernel
theorem dX6_init_27 : decode cX6_init 27 = .ok (.putfield 20, 3) := by decide +kernel
theorem dX6_init_30 : decode cX6_init 30 = .ok (.aload_n 0, 1) := by decide +kernel
theorem dX6_init_31 : decode cX6_init 31 = .ok (.new 24, 3) := by decide +kernel
theorem dX6_init_34 : decode cX6_init 34 = .ok (.dup, 1) := by decide +kernel
theorem dX6_init_35 : decode cX6_init 35 = .ok (.invokespecial 26, 3) := by decide +kernel
theorem dX6_init_38 : decode cX6_init 38 = .ok (.putfield 27, 3) := by decide +kernel
theorem dX6_init_41 : decode cX6_init 41 = .ok (.aload_n 0, 1) := by decide +kernel
theorem dX6_init_42 : decode cX6_init 42 = .ok (.bipush 8, 2) := by decide +kernel
theorem dX6_init_44 : decode cX6_init 44 = .ok (.newarray .int, 2) := by decide +kernel
theorem dX6_init_46 : decode cX6_init 46 = .ok (.putfield 31, 3) := by decide +kernel
theorem dX6_init_49 : decode cX6_init 49 = .ok (.aload_n 0, 1) := by decide +kernel
theorem dX6_init_50 : decode cX6_init 50 = .ok (.bipush 14, 2) := by decide +kernel
theorem dX6_init_52 : decode cX6_init 52 = .ok (.newarray .long, 2) := by decide +kernel
theorem dX6_init_54 : decode cX6_init 54 = .ok (.putfield 35, 3) := by decide +kernel
theorem dX6_init_57 : decode cX6_init 57 = .ok (.iconst 0, 1) := by decide +kernel
theorem dX6_init_58 : decode cX6_init 58 = .ok (.istore_n 1, 1) := by decide +kernel
theorem dX6_init_59 : decode cX6_init 59 = .ok (.iload_n 1, 1) := by decide +kernel
theorem dX6_init_60 : decode cX6_init 60 = .ok (.iconst 3, 1) := by decide +kernel
theorem dX6_init_61 : decode cX6_init 61 = .ok (.if_icmp .ge 22, 3) := by decide +kernel
theorem dX6_init_64 : decode cX6_init 64 = .ok (.aload_n 0, 1) := by decide +kernel
theorem dX6_init_65 : decode cX6_init 65 = .ok (.getfield 16, 3) := by decide +kernel
theorem dX6_init_68 : decode cX6_init 68 = .ok (.iload_n 1, 1) := by decide +kernel
theorem dX6_init_69 : decode cX6_init 69 = .ok (.new 7, 3) := by decide +kernel
theorem dX6_init_72 : decode cX6_init 72 = .ok (.dup, 1) := by decide +kernel
theorem dX6_init_73 : decode cX6_init 73 = .ok (.invokespecial 9, 3) := by decide +kernel
theorem dX6_init_76 : decode cX6_init 76 = .ok (.aastore, 1) := by decide +kernel
theorem dX6_init_77 : decode cX6_init 77 = .ok (.iinc 1 1, 3) := by decide +kernel
theorem dX6_init_80 : decode cX6_init 80 = .ok (.goto (-21), 3) := by decide +kernel
theorem dX6_init_83 : decode cX6_init 83 = .ok (.return_, 1) := by decide +kernel
set_option maxRecDepth 20000 in
theorem ggX6_coin_X4_coinageOf : GoodIn wsX6_coin wsX4_coinageOf := goodIn_r _ [6, 7, 8, 39, 40, 41, 42, 43, 44, 45, 46, 47] (by decide +kernel) (by decide +kernel)
set_option maxRecDepth 20000 in
theorem gX6_coin_X4_coinageOf : GoodIn wsX6_coin (wsV RX6 39 RX4 yX4_coinageOf wsX4_coinageOf) := goodIn_app (goodIn_of _ (by decide +kernel)) ggX6_coin_X4_coinageOf
set_option maxRecDepth 20000 in
theorem ggX6_coin_X1_add : GoodIn wsX6_coin wsX1_add := goodIn_r _ [13, 14, 15, 16, 17, 18, 19, 20, 21, 12, 22, 23, 24, 25, 26, 27, 28, 29, 30, 31, 32, 48, 49, 50, 51] (by decide +kernel) (by decide +kernel)
set_option maxRecDepth 20000 in
theorem gX6_coin_X1_add : GoodIn wsX6_coin (wsV RX6 43 RX1 yX1_add wsX1_add) := goodIn_app (goodIn_of _ (by decide +kernel)) ggX6_coin_X1_add
theorem dX6_coin_0 : decode cX6_coin 0 = .ok (.aload_n 0, 1) := by decide +kernel
theorem dX6_coin_1 : decode cX6_coin 1 = .ok (.getfield 10, 3) := by decide +kernel
theorem dX6_coin_4 : decode cX6_coin 4 = .ok (.iload_n 1, 1) := by decide +kernel
theorem dX6_coin_5 : decode cX6_coin 5 = .ok (.invokevirtual 39, 3) := by decide +kernel
theorem dX6_coin_8 : decode cX6_coin 8 = .ok (.astore_n 3, 1) := by decide +kernel
theorem dX6_coin_9 : decode cX6_coin 9 = .ok (.aload_n 3, 1) := by decide +kernel
theorem dX6_coin_10 : decode cX6_coin 10 = .ok (.ifnonnull 7, 3) := by decide +kernel
theorem dX6_coin_13 : decode cX6_coin 13 = .ok (.iconst (-1), 1) := by decide +kernel
theorem dX6_coin_14 : decode cX6_coin 14 = .ok (.goto 8, 3) := by decide +kernel
theorem dX6_coin_17 : decode cX6_coin 17 = .ok (.aload_n 3, 1) := by decide +kernel
theorem dX6_coin_18 : decode cX6_coin 18 = .ok (.iload_n 2, 1) := by decide +kernel
theorem dX6_coin_19 : decode cX6_coin 19 = .ok (.invokevirtual 43, 3) := by decide +kernel
theorem dX6_coin_22 : decode cX6_coin 22 = .ok (.ireturn, 1) := by decide +kernel
set_option maxRecDepth 20000 in
theorem ggX6_rate_X6_within : GoodIn wsX6_rate wsX6_within := goodIn_r _ [7] (by decide +kernel) (by decide +kernel)
set_option maxRecDepth 20000 in
theorem gX6_rate_X6_within : GoodIn wsX6_rate (va_wsS RX6 49 yX6_within wsX6_within) := goodIn_app (goodIn_of _ (by decide +kernel)) ggX6_rate_X6_within
set_option maxRecDepth 20000 in
theorem ggX6_rate_X4_hasSold : GoodIn wsX6_rate wsX4_hasSold := goodIn_r _ [12, 13, 14, 15, 22, 23, 24, 25, 26, 27, 28, 29, 30, 31, 32, 33, 34, 35, 36, 37] (by decide +kernel) (by decide +kernel)
set_option maxRecDepth 20000 in
theorem gX6_rate_X4_hasSold : GoodIn wsX6_rate (wsV RX6 53 RX4 yX4_hasSold wsX4_hasSold) := goodIn_app (goodIn_of _ (by decide +kernel)) ggX6_rate_X4_hasSold
theorem dX6_rate_0 : decode cX6_rate 0 = .ok (.iconst 1, 1) := by decide +kernel
theorem dX6_rate_1 : decode cX6_rate 1 = .ok (.iload_n 1, 1) := by decide +kernel
theorem dX6_rate_2 : decode cX6_rate 2 = .ok (.bipush 100, 2) := by decide +kernel
theorem dX6_rate_4 : decode cX6_rate 4 = .ok (.invokestatic 49, 3) := by decide +kernel
theorem dX6_rate_7 : decode cX6_rate 7 = .ok (.ifCond .eq 23, 3) := by decide +kernel
theorem dX6_rate_10 : decode cX6_rate 10 = .ok (.iconst 1, 1) := by decide +kernel
theorem dX6_rate_11 : decode cX6_rate 11 = .ok (.iload_n 2, 1) := by decide +kernel
theorem dX6_rate_12 : decode cX6_rate 12 = .ok (.bipush 100, 2) := by decide +kernel
theorem dX6_rate_14 : decode cX6_rate 14 = .ok (.invokestatic 49, 3) := by decide +kernel
theorem dX6_rate_17 : decode cX6_rate 17 = .ok (.ifCond .eq 13, 3) := by decide +kernel
theorem dX6_rate_20 : decode cX6_rate 20 = .ok (.aload_n 0, 1) := by decide +kernel
theorem dX6_rate_21 : decode cX6_rate 21 = .ok (.getfield 10, 3) := by decide +kernel
theorem dX6_rate_24 : decode cX6_rate 24 = .ok (.invokevirtual 53, 3) := by decide +kernel
theorem dX6_rate_27 : decode cX6_rate 27 = .ok (.ifCond .eq 5, 3) := by decide +kernel
theorem dX6_rate_30 : decode cX6_rate 30 = .ok (.iconst 0, 1) := by decide +kernel
theorem dX6_rate_31 : decode cX6_rate 31 = .ok (.ireturn, 1) := by decide +kernel
theorem dX6_rate_32 : decode cX6_rate 32 = .ok (.aload_n 0, 1) := by decide +kernel
theorem dX6_rate_33 : decode cX6_rate 33 = .ok (.getfield 10, 3) := by decide +kernel
theorem dX6_rate_36 : decode cX6_rate 36 = .ok (.iload_n 1, 1) := by decide +kernel
theorem dX6_rate_37 : decode cX6_rate 37 = .ok (.putfield 57, 3) := by decide +kernel
theorem dX6_rate_40 : decode cX6_rate 40 = .ok (.aload_n 0, 1) := by decide +kernel
theorem dX6_rate_41 : decode cX6_rate 41 = .ok (.getfield 10, 3) := by decide +kernel
theorem dX6_rate_44 : decode cX6_rate 44 = .ok (.iload_n 2, 1) := by decide +kernel
theorem dX6_rate_45 : decode cX6_rate 45 = .ok (.putfield 61, 3) := by decide +kernel
theorem dX6_rate_48 : decode cX6_rate 48 = .ok (.iconst 1, 1) := by decide +kernel
theorem dX6_rate_49 : decode cX6_rate 49 = .ok (.ireturn, 1) := by decide +kernel
set_option maxRecDepth 20000 in
theorem ggX6_good_X3_add : GoodIn wsX6_good wsX3_add := goodIn_r _ [7, 8, 9, 10, 11, 12, 13, 29, 30, 31] (by decide +kernel) (by decide +kernel)
set_option maxRecDepth 20000 in
theorem gX6_good_X3_add : GoodIn wsX6_good (wsV RX6 68 RX3 yX3_add wsX3_add) := goodIn_app (goodIn_of _ (by decide +kernel)) ggX6_good_X3_add
theorem dX6_good_0 : decode cX6_good 0 = .ok (.aload_n 0, 1) := by decide +kernel
theorem dX6_good_1 : decode cX6_good 1 = .ok (.getfield 10, 3) := by decide +kernel
theorem dX6_good_4 : decode cX6_good 4 = .ok (.getfield 64, 3) := by decide +kernel
theorem dX6_good_7 : decode cX6_good 7 = .ok (.iload_n 1, 1) := by decide +kernel
theorem dX6_good_8 : decode cX6_good 8 = .ok (.iload_n 2, 1) := by decide +kernel
theorem dX6_good_9 : decode cX6_good 9 = .ok (.invokevirtual 68, 3) := by decide +kernel
theorem dX6_good_12 : decode cX6_good 12 = .ok (.ireturn, 1) := by decide +kernel
set_option maxRecDepth 20000 in
theorem ggX6_sold_X3_isGood : GoodIn wsX6_sold wsX3_isGood := goodIn_r _ [8, 9, 10, 11, 12, 29, 30, 31] (by decide +kernel) (by decide +kernel)
set_option maxRecDepth 20000 in
theorem gX6_sold_X3_isGood : GoodIn wsX6_sold (wsV RX6 73 RX3 yX3_isGood wsX3_isGood) := goodIn_app (goodIn_of _ (by decide +kernel)) ggX6_sold_X3_isGood
set_option maxRecDepth 20000 in
theorem ggX6_sold_X6_within : GoodIn wsX6_sold wsX6_within := goodIn_r _ [12] (by decide +kernel) (by decide +kernel)
set_option maxRecDepth 20000 in
theorem gX6_sold_X6_within : GoodIn wsX6_sold (va_wsS RX6 49 yX6_within wsX6_within) := goodIn_app (goodIn_of _ (by decide +kernel)) ggX6_sold_X6_within
theorem dX6_sold_0 : decode cX6_sold 0 = .ok (.aload_n 0, 1) := by decide +kernel
theorem dX6_sold_1 : decode cX6_sold 1 = .ok (.getfield 10, 3) := by decide +kernel
theorem dX6_sold_4 : decode cX6_sold 4 = .ok (.getfield 64, 3) := by decide +kernel
theorem dX6_sold_7 : decode cX6_sold 7 = .ok (.iload_n 1, 1) := by decide +kernel
theorem dX6_sold_8 : decode cX6_sold 8 = .ok (.invokevirtual 73, 3) := by decide +kernel
theorem dX6_sold_11 : decode cX6_sold 11 = .ok (.ifCond .eq 13, 3) := by decide +kernel
theorem dX6_sold_14 : decode cX6_sold 14 = .ok (.iconst 0, 1) := by decide +kernel
theorem dX6_sold_15 : decode cX6_sold 15 = .ok (.iload_n 2, 1) := by decide +kernel
theorem dX6_sold_16 : decode cX6_sold 16 = .ok (.bipush 100, 2) := by decide +kernel
theorem dX6_sold_18 : decode cX6_sold 18 = .ok (.invokestatic 49, 3) := by decide +kernel
theorem dX6_sold_21 : decode cX6_sold 21 = .ok (.ifCond .ne 5, 3) := by decide +kernel
theorem dX6_sold_24 : decode cX6_sold 24 = .ok (.iconst 0, 1) := by decide +kernel
theorem dX6_sold_25 : decode cX6_sold 25 = .ok (.ireturn, 1) := by decide +kernel
theorem dX6_sold_26 : decode cX6_sold 26 = .ok (.aload_n 0, 1) := by decide +kernel
theorem dX6_sold_27 : decode cX6_sold 27 = .ok (.getfield 10, 3) := by decide +kernel
theorem dX6_sold_30 : decode cX6_sold 30 = .ok (.getfield 64, 3) := by decide +kernel
theorem dX6_sold_33 : decode cX6_sold 33 = .ok (.getfield 77, 3) := by decide +kernel
theorem dX6_sold_36 : decode cX6_sold 36 = .ok (.iload_n 1, 1) := by decide +kernel
theorem dX6_sold_37 : decode cX6_sold 37 = .ok (.iload_n 2, 1) := by decide +kernel
theorem dX6_sold_38 : decode cX6_sold 38 = .ok (.iastore, 1) := by decide +kernel
theorem dX6_sold_39 : decode cX6_sold 39 = .ok (.iconst 1, 1) := by decide +kernel
theorem dX6_sold_40 : decode cX6_sold 40 = .ok (.ireturn, 1) := by decide +kernel
set_option maxRecDepth 20000 in
theorem ggX6_step_X6_within : GoodIn wsX6_step wsX6_within := goodIn_r _ [6] (by decide +kernel) (by decide +kernel)
set_option maxRecDepth 20000 in
theorem gX6_step_X6_within : GoodIn wsX6_step (va_wsS RX6 49 yX6_within wsX6_within) := goodIn_app (goodIn_of _ (by decide +kernel)) ggX6_step_X6_within
theorem dX6_step_0 : decode cX6_step 0 = .ok (.iconst 1, 1) := by decide +kernel
theorem dX6_step_1 : decode cX6_step 1 = .ok (.iload_n 1, 1) := by decide +kernel
theorem dX6_step_2 : decode cX6_step 2 = .ok (.bipush 100, 2) := by decide +kernel
theorem dX6_step_4 : decode cX6_step 4 = .ok (.invokestatic 49, 3) := by decide +kernel
theorem dX6_step_7 : decode cX6_step 7 = .ok (.ifCond .ne 5, 3) := by decide +kernel
theorem dX6_step_10 : decode cX6_step 10 = .ok (.iconst 0, 1) := by decide +kernel
theorem dX6_step_11 : decode cX6_step 11 = .ok (.ireturn, 1) := by decide +kernel
theorem dX6_step_12 : decode cX6_step 12 = .ok (.aload_n 0, 1) := by decide +kernel
theorem dX6_step_13 : decode cX6_step 13 = .ok (.getfield 10, 3) := by decide +kernel
theorem dX6_step_16 : decode cX6_step 16 = .ok (.iload_n 1, 1) := by decide +kernel
theorem dX6_step_17 : decode cX6_step 17 = .ok (.putfield 80, 3) := by decide +kernel
theorem dX6_step_20 : decode cX6_step 20 = .ok (.iconst 1, 1) := by decide +kernel
theorem dX6_step_21 : decode cX6_step 21 = .ok (.ireturn, 1) := by decide +kernel
set_option maxRecDepth 20000 in
theorem ggX6_price_X3_isGood : GoodIn wsX6_price wsX3_isGood := goodIn_r _ [7, 8, 9, 10, 11, 46, 47, 48] (by decide +kernel) (by decide +kernel)
set_option maxRecDepth 20000 in
theorem gX6_price_X3_isGood : GoodIn wsX6_price (wsV RX6 73 RX3 yX3_isGood wsX3_isGood) := goodIn_app (goodIn_of _ (by decide +kernel)) ggX6_price_X3_isGood
set_option maxRecDepth 20000 in
theorem ggX6_price_X6_isRule : GoodIn wsX6_price wsX6_isRule := goodIn_r _ [14, 15, 9, 10, 11] (by decide +kernel) (by decide +kernel)
set_option maxRecDepth 20000 in
theorem gX6_price_X6_isRule : GoodIn wsX6_price (va_wsS RX6 83 yX6_isRule wsX6_isRule) := goodIn_app (goodIn_of _ (by decide +kernel)) ggX6_price_X6_isRule
set_option maxRecDepth 20000 in
theorem ggX6_price_X4_newPrice : GoodIn wsX6_price wsX4_newPrice := goodIn_r _ [20, 21, 22, 23, 24, 25, 26, 10, 27, 28, 29, 19, 30, 37, 38, 39, 40, 41, 42, 43, 44, 45, 46, 47, 48] (by decide +kernel) (by decide +kernel)
set_option maxRecDepth 20000 in
theorem gX6_price_X4_newPrice : GoodIn wsX6_price (wsV RX6 86 RX4 yX4_newPrice wsX4_newPrice) := goodIn_app (goodIn_of _ (by decide +kernel)) ggX6_price_X4_newPrice
theorem dX6_price_0 : decode cX6_price 0 = .ok (.aload_n 0, 1) := by decide +kernel
theorem dX6_price_1 : decode cX6_price 1 = .ok (.getfield 10, 3) := by decide +kernel
theorem dX6_price_4 : decode cX6_price 4 = .ok (.getfield 64, 3) := by decide +kernel
theorem dX6_price_7 : decode cX6_price 7 = .ok (.iload_n 1, 1) := by decide +kernel
theorem dX6_price_8 : decode cX6_price 8 = .ok (.invokevirtual 73, 3) := by decide +kernel
theorem dX6_price_11 : decode cX6_price 11 = .ok (.ifCond .eq 22, 3) := by decide +kernel
theorem dX6_price_14 : decode cX6_price 14 = .ok (.iload_n 2, 1) := by decide +kernel
theorem dX6_price_15 : decode cX6_price 15 = .ok (.invokestatic 83, 3) := by decide +kernel
theorem dX6_price_18 : decode cX6_price 18 = .ok (.ifCond .eq 15, 3) := by decide +kernel
theorem dX6_price_21 : decode cX6_price 21 = .ok (.aload_n 0, 1) := by decide +kernel
theorem dX6_price_22 : decode cX6_price 22 = .ok (.getfield 10, 3) := by decide +kernel
theorem dX6_price_25 : decode cX6_price 25 = .ok (.iload_n 1, 1) := by decide +kernel
theorem dX6_price_26 : decode cX6_price 26 = .ok (.iload_n 2, 1) := by decide +kernel
theorem dX6_price_27 : decode cX6_price 27 = .ok (.invokevirtual 86, 3) := by decide +kernel
theorem dX6_price_30 : decode cX6_price 30 = .ok (.goto 4, 3) := by decide +kernel
theorem dX6_price_33 : decode cX6_price 33 = .ok (.iconst (-1), 1) := by decide +kernel
theorem dX6_price_34 : decode cX6_price 34 = .ok (.ireturn, 1) := by decide +kernel
set_option maxRecDepth 20000 in
theorem ggX6_gain_X6_isRule : GoodIn wsX6_gain wsX6_isRule := goodIn_r _ [7, 8, 9, 6, 10] (by decide +kernel) (by decide +kernel)
set_option maxRecDepth 20000 in
theorem gX6_gain_X6_isRule : GoodIn wsX6_gain (va_wsS RX6 83 yX6_isRule wsX6_isRule) := goodIn_app (goodIn_of _ (by decide +kernel)) ggX6_gain_X6_isRule
set_option maxRecDepth 20000 in
theorem ggX6_gain_X4_gainOf : GoodIn wsX6_gain wsX4_gainOf := goodIn_r _ [15, 16, 17, 18, 19, 20, 21, 22, 23, 14, 24, 25, 26, 6, 27, 28, 29, 30, 37, 38, 39, 40, 41, 42, 43, 44, 45, 46, 47, 48] (by decide +kernel) (by decide +kernel)
set_option maxRecDepth 20000 in
theorem gX6_gain_X4_gainOf : GoodIn wsX6_gain (wsV RX6 92 RX4 yX4_gainOf wsX4_gainOf) := goodIn_app (goodIn_of _ (by decide +kernel)) ggX6_gain_X4_gainOf
theorem dX6_gain_0 : decode cX6_gain 0 = .ok (.lconst 0, 1) := by decide +kernel
theorem dX6_gain_1 : decode cX6_gain 1 = .ok (.lstore_n 2, 1) := by decide +kernel
theorem dX6_gain_2 : decode cX6_gain 2 = .ok (.iload_n 1, 1) := by decide +kernel
theorem dX6_gain_3 : decode cX6_gain 3 = .ok (.invokestatic 83, 3) := by decide +kernel
theorem dX6_gain_6 : decode cX6_gain 6 = .ok (.ifCond .eq 40, 3) := by decide +kernel
theorem dX6_gain_9 : decode cX6_gain 9 = .ok (.iconst 0, 1) := by decide +kernel
theorem dX6_gain_10 : decode cX6_gain 10 = .ok (.istore 4, 2) := by decide +kernel
theorem dX6_gain_12 : decode cX6_gain 12 = .ok (.iload 4, 2) := by decide +kernel
theorem dX6_gain_14 : decode cX6_gain 14 = .ok (.aload_n 0, 1) := by decide +kernel
theorem dX6_gain_15 : decode cX6_gain 15 = .ok (.getfield 10, 3) := by decide +kernel
theorem dX6_gain_18 : decode cX6_gain 18 = .ok (.getfield 64, 3) := by decide +kernel
theorem dX6_gain_21 : decode cX6_gain 21 = .ok (.getfield 89, 3) := by decide +kernel
theorem dX6_gain_24 : decode cX6_gain 24 = .ok (.if_icmp .ge 22, 3) := by decide +kernel
theorem dX6_gain_27 : decode cX6_gain 27 = .ok (.lload_n 2, 1) := by decide +kernel
theorem dX6_gain_28 : decode cX6_gain 28 = .ok (.aload_n 0, 1) := by decide +kernel
theorem dX6_gain_29 : decode cX6_gain 29 = .ok (.getfield 10, 3) := by decide +kernel
theorem dX6_gain_32 : decode cX6_gain 32 = .ok (.iload 4, 2) := by decide +kernel
theorem dX6_gain_34 : decode cX6_gain 34 = .ok (.iload_n 1, 1) := by decide +kernel
theorem dX6_gain_35 : decode cX6_gain 35 = .ok (.invokevirtual 92, 3) := by decide +kernel
theorem dX6_gain_38 : decode cX6_gain 38 = .ok (.ladd, 1) := by decide +kernel
theorem dX6_gain_39 : decode cX6_gain 39 = .ok (.lstore_n 2, 1) := by decide +kernel
theorem dX6_gain_40 : decode cX6_gain 40 = .ok (.iinc 4 1, 3) := by decide +kernel
theorem dX6_gain_43 : decode cX6_gain 43 = .ok (.goto (-31), 3) := by decide +kernel
theorem dX6_gain_46 : decode cX6_gain 46 = .ok (.lload_n 2, 1) := by decide +kernel
theorem dX6_gain_47 : decode cX6_gain 47 = .ok (.lreturn, 1) := by decide +kernel
set_option maxRecDepth 20000 in
theorem ggX6_fairest_X6_startOfWays : GoodIn wsX6_fairest wsX6_startOfWays := goodIn_r _ [13, 5, 6, 7, 8, 14, 15, 16, 17, 18, 19, 20, 21, 22, 23, 24, 25, 26, 27, 28, 29, 12, 30, 31, 32, 33, 41, 42, 43, 44, 45, 46, 47, 48, 49, 50, 51, 52, 53, 54, 55, 56, 57, 58] (by decide +kernel) (by decide +kernel)
set_option maxRecDepth 20000 in
theorem gX6_fairest_X6_startOfWays : GoodIn wsX6_fairest (wsV RX6 96 RX6 yX6_startOfWays wsX6_startOfWays) := goodIn_app (goodIn_of _ (by decide +kernel)) ggX6_fairest_X6_startOfWays
set_option maxRecDepth 20000 in
theorem ggX6_fairest_J6_bitCount_0f7a4 : GoodIn wsX6_fairest wsJ6_bitCount_0f7a4 := goodIn_r _ [37, 38, 39, 40] (by decide +kernel) (by decide +kernel)
set_option maxRecDepth 20000 in
theorem gX6_fairest_J6_bitCount_0f7a4 : GoodIn wsX6_fairest (va_wsS RX6 106 yJ6_bitCount_0f7a4 wsJ6_bitCount_0f7a4) := goodIn_app (goodIn_of _ (by decide +kernel)) ggX6_fairest_J6_bitCount_0f7a4
theorem dX6_fairest_0 : decode cX6_fairest 0 = .ok (.aload_n 0, 1) := by decide +kernel
theorem dX6_fairest_1 : decode cX6_fairest 1 = .ok (.invokevirtual 96, 3) := by decide +kernel
theorem dX6_fairest_4 : decode cX6_fairest 4 = .ok (.lstore_n 1, 1) := by decide +kernel
theorem dX6_fairest_5 : decode cX6_fairest 5 = .ok (.lload_n 1, 1) := by decide +kernel
theorem dX6_fairest_6 : decode cX6_fairest 6 = .ok (.invokestatic 100, 3) := by decide +kernel
theorem dX6_fairest_9 : decode cX6_fairest 9 = .ok (.lstore_n 3, 1) := by decide +kernel
theorem dX6_fairest_10 : decode cX6_fairest 10 = .ok (.iconst 0, 1) := by decide +kernel
theorem dX6_fairest_11 : decode cX6_fairest 11 = .ok (.istore 5, 2) := by decide +kernel
theorem dX6_fairest_13 : decode cX6_fairest 13 = .ok (.iconst 1, 1) := by decide +kernel
theorem dX6_fairest_14 : decode cX6_fairest 14 = .ok (.aload_n 0, 1) := by decide +kernel
theorem dX6_fairest_15 : decode cX6_fairest 15 = .ok (.getfield 10, 3) := by decide +kernel
theorem dX6_fairest_18 : decode cX6_fairest 18 = .ok (.getfield 64, 3) := by decide +kernel
theorem dX6_fairest_21 : decode cX6_fairest 21 = .ok (.getfield 89, 3) := by decide +kernel
theorem dX6_fairest_24 : decode cX6_fairest 24 = .ok (.ishl, 1) := by decide +kernel
theorem dX6_fairest_25 : decode cX6_fairest 25 = .ok (.istore 6, 2) := by decide +kernel
theorem dX6_fairest_27 : decode cX6_fairest 27 = .ok (.iconst 1, 1) := by decide +kernel
theorem dX6_fairest_28 : decode cX6_fairest 28 = .ok (.istore 7, 2) := by decide +kernel
theorem dX6_fairest_30 : decode cX6_fairest 30 = .ok (.iload 7, 2) := by decide +kernel
theorem dX6_fairest_32 : decode cX6_fairest 32 = .ok (.iload 6, 2) := by decide +kernel
theorem dX6_fairest_34 : decode cX6_fairest 34 = .ok (.if_icmp .ge 56, 3) := by decide +kernel
theorem dX6_fairest_37 : decode cX6_fairest 37 = .ok (.lload_n 3, 1) := by decide +kernel
theorem dX6_fairest_38 : decode cX6_fairest 38 = .ok (.lconst 0, 1) := by decide +kernel
theorem dX6_fairest_39 : decode cX6_fairest 39 = .ok (.lcmp, 1) := by decide +kernel
theorem dX6_fairest_40 : decode cX6_fairest 40 = .ok (.ifCond .le 50, 3) := by decide +kernel
theorem dX6_fairest_43 : decode cX6_fairest 43 = .ok (.iload 7, 2) := by decide +kernel
theorem dX6_fairest_45 : decode cX6_fairest 45 = .ok (.iload 7, 2) := by decide +kernel
theorem dX6_fairest_47 : decode cX6_fairest 47 = .ok (.ineg, 1) := by decide +kernel
theorem dX6_fairest_48 : decode cX6_fairest 48 = .ok (.iand, 1) := by decide +kernel
theorem dX6_fairest_49 : decode cX6_fairest 49 = .ok (.iconst 1, 1) := by decide +kernel
theorem dX6_fairest_50 : decode cX6_fairest 50 = .ok (.isub, 1) := by decide +kernel
theorem dX6_fairest_51 : decode cX6_fairest 51 = .ok (.invokestatic 106, 3) := by decide +kernel
theorem dX6_fairest_54 : decode cX6_fairest 54 = .ok (.istore 8, 2) := by decide +kernel
theorem dX6_fairest_56 : decode cX6_fairest 56 = .ok (.lload_n 1, 1) := by decide +kernel
theorem dX6_fairest_57 : decode cX6_fairest 57 = .ok (.aload_n 0, 1) := by decide +kernel
theorem dX6_fairest_58 : decode cX6_fairest 58 = .ok (.getfield 35, 3) := by decide +kernel
theorem dX6_fairest_61 : decode cX6_fairest 61 = .ok (.iload 8, 2) := by decide +kernel
theorem dX6_fairest_63 : decode cX6_fairest 63 = .ok (.laload, 1) := by decide +kernel
theorem dX6_fairest_64 : decode cX6_fairest 64 = .ok (.ladd, 1) := by decide +kernel
theorem dX6_fairest_65 : decode cX6_fairest 65 = .ok (.lstore_n 1, 1) := by decide +kernel
theorem dX6_fairest_66 : decode cX6_fairest 66 = .ok (.lload_n 1, 1) := by decide +kernel
theorem dX6_fairest_67 : decode cX6_fairest 67 = .ok (.invokestatic 100, 3) := by decide +kernel
theorem dX6_fairest_70 : decode cX6_fairest 70 = .ok (.lload_n 3, 1) := by decide +kernel
theorem dX6_fairest_71 : decode cX6_fairest 71 = .ok (.lcmp, 1) := by decide +kernel
theorem dX6_fairest_72 : decode cX6_fairest 72 = .ok (.ifCond .ge 12, 3) := by decide +kernel
theorem dX6_fairest_75 : decode cX6_fairest 75 = .ok (.lload_n 1, 1) := by decide +kernel
theorem dX6_fairest_76 : decode cX6_fairest 76 = .ok (.invokestatic 100, 3) := by decide +kernel
theorem dX6_fairest_79 : decode cX6_fairest 79 = .ok (.lstore_n 3, 1) := by decide +kernel
theorem dX6_fairest_80 : decode cX6_fairest 80 = .ok (.iload 7, 2) := by decide +kernel
theorem dX6_fairest_82 : decode cX6_fairest 82 = .ok (.istore 5, 2) := by decide +kernel
theorem dX6_fairest_84 : decode cX6_fairest 84 = .ok (.iinc 7 1, 3) := by decide +kernel
theorem dX6_fairest_87 : decode cX6_fairest 87 = .ok (.goto (-57), 3) := by decide +kernel
theorem dX6_fairest_90 : decode cX6_fairest 90 = .ok (.iload 5, 2) := by decide +kernel
theorem dX6_fairest_92 : decode cX6_fairest 92 = .ok (.ireturn, 1) := by decide +kernel
set_option maxRecDepth 20000 in
theorem ggX6_gains_X4_gainOf : GoodIn wsX6_gains wsX4_gainOf := goodIn_r _ [8, 9, 10, 11, 12, 13, 14, 15, 16, 7, 17, 18, 19, 20, 21, 22, 23, 24, 31, 32, 33, 34, 35, 36, 37, 38, 39, 40, 41, 42] (by decide +kernel) (by decide +kernel)
set_option maxRecDepth 20000 in
theorem gX6_gains_X4_gainOf : GoodIn wsX6_gains (wsV RX6 92 RX4 yX4_gainOf wsX4_gainOf) := goodIn_app (goodIn_of _ (by decide +kernel)) ggX6_gains_X4_gainOf
theorem dX6_gains_0 : decode cX6_gains 0 = .ok (.lconst 0, 1) := by decide +kernel
theorem dX6_gains_1 : decode cX6_gains 1 = .ok (.lstore_n 2, 1) := by decide +kernel
theorem dX6_gains_2 : decode cX6_gains 2 = .ok (.iconst 0, 1) := by decide +kernel
theorem dX6_gains_3 : decode cX6_gains 3 = .ok (.istore 4, 2) := by decide +kernel
theorem dX6_gains_5 : decode cX6_gains 5 = .ok (.iload 4, 2) := by decide +kernel
theorem dX6_gains_7 : decode cX6_gains 7 = .ok (.aload_n 0, 1) := by decide +kernel
theorem dX6_gains_8 : decode cX6_gains 8 = .ok (.getfield 10, 3) := by decide +kernel
theorem dX6_gains_11 : decode cX6_gains 11 = .ok (.getfield 64, 3) := by decide +kernel
theorem dX6_gains_14 : decode cX6_gains 14 = .ok (.getfield 89, 3) := by decide +kernel
theorem dX6_gains_17 : decode cX6_gains 17 = .ok (.if_icmp .ge 48, 3) := by decide +kernel
theorem dX6_gains_20 : decode cX6_gains 20 = .ok (.iload_n 1, 1) := by decide +kernel
theorem dX6_gains_21 : decode cX6_gains 21 = .ok (.iload 4, 2) := by decide +kernel
theorem dX6_gains_23 : decode cX6_gains 23 = .ok (.ishr, 1) := by decide +kernel
theorem dX6_gains_24 : decode cX6_gains 24 = .ok (.iconst 1, 1) := by decide +kernel
theorem dX6_gains_25 : decode cX6_gains 25 = .ok (.iand, 1) := by decide +kernel
theorem dX6_gains_26 : decode cX6_gains 26 = .ok (.iconst 1, 1) := by decide +kernel
theorem dX6_gains_27 : decode cX6_gains 27 = .ok (.if_icmp .ne 7, 3) := by decide +kernel
theorem dX6_gains_30 : decode cX6_gains 30 = .ok (.iconst 1, 1) := by decide +kernel
theorem dX6_gains_31 : decode cX6_gains 31 = .ok (.goto 4, 3) := by decide +kernel
theorem dX6_gains_34 : decode cX6_gains 34 = .ok (.iconst 0, 1) := by decide +kernel
theorem dX6_gains_35 : decode cX6_gains 35 = .ok (.istore 5, 2) := by decide +kernel
theorem dX6_gains_37 : decode cX6_gains 37 = .ok (.lload_n 2, 1) := by decide +kernel
theorem dX6_gains_38 : decode cX6_gains 38 = .ok (.aload_n 0, 1) := by decide +kernel
theorem dX6_gains_39 : decode cX6_gains 39 = .ok (.getfield 10, 3) := by decide +kernel
theorem dX6_gains_42 : decode cX6_gains 42 = .ok (.iload 4, 2) := by decide +kernel
theorem dX6_gains_44 : decode cX6_gains 44 = .ok (.iload 5, 2) := by decide +kernel
theorem dX6_gains_46 : decode cX6_gains 46 = .ok (.ifCond .eq 7, 3) := by decide +kernel
theorem dX6_gains_49 : decode cX6_gains 49 = .ok (.iconst 1, 1) := by decide +kernel
theorem dX6_gains_50 : decode cX6_gains 50 = .ok (.goto 4, 3) := by decide +kernel
theorem dX6_gains_53 : decode cX6_gains 53 = .ok (.iconst 0, 1) := by decide +kernel
theorem dX6_gains_54 : decode cX6_gains 54 = .ok (.invokevirtual 92, 3) := by decide +kernel
theorem dX6_gains_57 : decode cX6_gains 57 = .ok (.ladd, 1) := by decide +kernel
theorem dX6_gains_58 : decode cX6_gains 58 = .ok (.lstore_n 2, 1) := by decide +kernel
theorem dX6_gains_59 : decode cX6_gains 59 = .ok (.iinc 4 1, 3) := by decide +kernel
theorem dX6_gains_62 : decode cX6_gains 62 = .ok (.goto (-57), 3) := by decide +kernel
theorem dX6_gains_65 : decode cX6_gains 65 = .ok (.lload_n 2, 1) := by decide +kernel
theorem dX6_gains_66 : decode cX6_gains 66 = .ok (.lreturn, 1) := by decide +kernel
set_option maxRecDepth 20000 in
theorem ggX6_fewest_X4_coinageOf : GoodIn wsX6_fewest wsX4_coinageOf := goodIn_r _ [8, 9, 10, 46, 47, 48, 49, 50, 51, 52, 53, 54] (by decide +kernel) (by decide +kernel)
set_option maxRecDepth 20000 in
theorem gX6_fewest_X4_coinageOf : GoodIn wsX6_fewest (wsV RX6 39 RX4 yX4_coinageOf wsX4_coinageOf) := goodIn_app (goodIn_of _ (by decide +kernel)) ggX6_fewest_X4_coinageOf
set_option maxRecDepth 20000 in
theorem ggX6_fewest_X1_hasFewest : GoodIn wsX6_fewest wsX1_hasFewest := goodIn_r _ [15, 16, 17, 18, 19, 20, 21, 22, 42, 43, 44, 45] (by decide +kernel) (by decide +kernel)
set_option maxRecDepth 20000 in
theorem gX6_fewest_X1_hasFewest : GoodIn wsX6_fewest (wsV RX6 111 RX1 yX1_hasFewest wsX1_hasFewest) := goodIn_app (goodIn_of _ (by decide +kernel)) ggX6_fewest_X1_hasFewest
set_option maxRecDepth 20000 in
theorem ggX6_fewest_X1_isCoin : GoodIn wsX6_fewest wsX1_isCoin := goodIn_r _ [26, 27, 21, 18, 22, 42, 43, 44, 45] (by decide +kernel) (by decide +kernel)
set_option maxRecDepth 20000 in
theorem gX6_fewest_X1_isCoin : GoodIn wsX6_fewest (wsV RX6 117 RX1 yX1_isCoin wsX1_isCoin) := goodIn_app (goodIn_of _ (by decide +kernel)) ggX6_fewest_X1_isCoin
set_option maxRecDepth 20000 in
theorem ggX6_fewest_X1_writeFewest : GoodIn wsX6_fewest wsX1_writeFewest := goodIn_r _ [31, 27, 32, 33, 16, 34, 18, 35, 42, 43, 44, 45] (by decide +kernel) (by decide +kernel)
set_option maxRecDepth 20000 in
theorem gX6_fewest_X1_writeFewest : GoodIn wsX6_fewest (wsV RX6 120 RX1 yX1_writeFewest wsX1_writeFewest) := goodIn_app (goodIn_of _ (by decide +kernel)) ggX6_fewest_X1_writeFewest
theorem dX6_fewest_0 : decode cX6_fewest 0 = .ok (.aload_n 0, 1) := by decide +kernel
theorem dX6_fewest_1 : decode cX6_fewest 1 = .ok (.getfield 10, 3) := by decide +kernel
theorem dX6_fewest_4 : decode cX6_fewest 4 = .ok (.iload_n 1, 1) := by decide +kernel
theorem dX6_fewest_5 : decode cX6_fewest 5 = .ok (.invokevirtual 39, 3) := by decide +kernel
theorem dX6_fewest_8 : decode cX6_fewest 8 = .ok (.astore 4, 2) := by decide +kernel
theorem dX6_fewest_10 : decode cX6_fewest 10 = .ok (.aload 4, 2) := by decide +kernel
theorem dX6_fewest_12 : decode cX6_fewest 12 = .ok (.ifnull 12, 3) := by decide +kernel
theorem dX6_fewest_15 : decode cX6_fewest 15 = .ok (.aload 4, 2) := by decide +kernel
theorem dX6_fewest_17 : decode cX6_fewest 17 = .ok (.iload_n 2, 1) := by decide +kernel
theorem dX6_fewest_18 : decode cX6_fewest 18 = .ok (.invokevirtual 111, 3) := by decide +kernel
theorem dX6_fewest_21 : decode cX6_fewest 21 = .ok (.ifCond .ne 5, 3) := by decide +kernel
theorem dX6_fewest_24 : decode cX6_fewest 24 = .ok (.iconst (-1), 1) := by decide +kernel
theorem dX6_fewest_25 : decode cX6_fewest 25 = .ok (.ireturn, 1) := by decide +kernel
theorem dX6_fewest_26 : decode cX6_fewest 26 = .ok (.iload_n 3, 1) := by decide +kernel
theorem dX6_fewest_27 : decode cX6_fewest 27 = .ok (.iconst (-1), 1) := by decide +kernel
theorem dX6_fewest_28 : decode cX6_fewest 28 = .ok (.if_icmp .ne 11, 3) := by decide +kernel
theorem dX6_fewest_31 : decode cX6_fewest 31 = .ok (.aload 4, 2) := by decide +kernel
theorem dX6_fewest_33 : decode cX6_fewest 33 = .ok (.getfield 114, 3) := by decide +kernel
theorem dX6_fewest_36 : decode cX6_fewest 36 = .ok (.iload_n 2, 1) := by decide +kernel
theorem dX6_fewest_37 : decode cX6_fewest 37 = .ok (.iaload, 1) := by decide +kernel
theorem dX6_fewest_38 : decode cX6_fewest 38 = .ok (.ireturn, 1) := by decide +kernel
theorem dX6_fewest_39 : decode cX6_fewest 39 = .ok (.aload 4, 2) := by decide +kernel
theorem dX6_fewest_41 : decode cX6_fewest 41 = .ok (.iload_n 3, 1) := by decide +kernel
theorem dX6_fewest_42 : decode cX6_fewest 42 = .ok (.invokevirtual 117, 3) := by decide +kernel
theorem dX6_fewest_45 : decode cX6_fewest 45 = .ok (.ifCond .ne 5, 3) := by decide +kernel
theorem dX6_fewest_48 : decode cX6_fewest 48 = .ok (.iconst (-1), 1) := by decide +kernel
theorem dX6_fewest_49 : decode cX6_fewest 49 = .ok (.ireturn, 1) := by decide +kernel
theorem dX6_fewest_50 : decode cX6_fewest 50 = .ok (.aload 4, 2) := by decide +kernel
theorem dX6_fewest_52 : decode cX6_fewest 52 = .ok (.iload_n 2, 1) := by decide +kernel
theorem dX6_fewest_53 : decode cX6_fewest 53 = .ok (.aload_n 0, 1) := by decide +kernel
theorem dX6_fewest_54 : decode cX6_fewest 54 = .ok (.getfield 31, 3) := by decide +kernel
theorem dX6_fewest_57 : decode cX6_fewest 57 = .ok (.invokevirtual 120, 3) := by decide +kernel
theorem dX6_fewest_60 : decode cX6_fewest 60 = .ok (.aload_n 0, 1) := by decide +kernel
theorem dX6_fewest_61 : decode cX6_fewest 61 = .ok (.getfield 31, 3) := by decide +kernel
theorem dX6_fewest_64 : decode cX6_fewest 64 = .ok (.iload_n 3, 1) := by decide +kernel
theorem dX6_fewest_65 : decode cX6_fewest 65 = .ok (.iaload, 1) := by decide +kernel
theorem dX6_fewest_66 : decode cX6_fewest 66 = .ok (.ireturn, 1) := by decide +kernel
set_option maxRecDepth 20000 in
theorem ggX6_greedy_X4_coinageOf : GoodIn wsX6_greedy wsX4_coinageOf := goodIn_r _ [6, 7, 8, 32, 33, 34, 35, 36, 37, 38, 39, 40] (by decide +kernel) (by decide +kernel)
set_option maxRecDepth 20000 in
theorem gX6_greedy_X4_coinageOf : GoodIn wsX6_greedy (wsV RX6 39 RX4 yX4_coinageOf wsX4_coinageOf) := goodIn_app (goodIn_of _ (by decide +kernel)) ggX6_greedy_X4_coinageOf
set_option maxRecDepth 20000 in
theorem ggX6_greedy_X6_isSum : GoodIn wsX6_greedy wsX6_isSum := goodIn_r _ [12, 13, 14, 11, 15] (by decide +kernel) (by decide +kernel)
set_option maxRecDepth 20000 in
theorem gX6_greedy_X6_isSum : GoodIn wsX6_greedy (va_wsS RX6 124 yX6_isSum wsX6_isSum) := goodIn_app (goodIn_of _ (by decide +kernel)) ggX6_greedy_X6_isSum
set_option maxRecDepth 20000 in
theorem ggX6_greedy_X1_countGreedily : GoodIn wsX6_greedy wsX1_countGreedily := goodIn_r _ [20, 21, 22, 23, 24, 11, 25, 41, 42, 43, 44] (by decide +kernel) (by decide +kernel)
set_option maxRecDepth 20000 in
theorem gX6_greedy_X1_countGreedily : GoodIn wsX6_greedy (wsV RX6 127 RX1 yX1_countGreedily wsX1_countGreedily) := goodIn_app (goodIn_of _ (by decide +kernel)) ggX6_greedy_X1_countGreedily
theorem dX6_greedy_0 : decode cX6_greedy 0 = .ok (.aload_n 0, 1) := by decide +kernel
theorem dX6_greedy_1 : decode cX6_greedy 1 = .ok (.getfield 10, 3) := by decide +kernel
theorem dX6_greedy_4 : decode cX6_greedy 4 = .ok (.iload_n 1, 1) := by decide +kernel
theorem dX6_greedy_5 : decode cX6_greedy 5 = .ok (.invokevirtual 39, 3) := by decide +kernel
theorem dX6_greedy_8 : decode cX6_greedy 8 = .ok (.astore_n 3, 1) := by decide +kernel
theorem dX6_greedy_9 : decode cX6_greedy 9 = .ok (.aload_n 3, 1) := by decide +kernel
theorem dX6_greedy_10 : decode cX6_greedy 10 = .ok (.ifnull 10, 3) := by decide +kernel
theorem dX6_greedy_13 : decode cX6_greedy 13 = .ok (.iload_n 2, 1) := by decide +kernel
theorem dX6_greedy_14 : decode cX6_greedy 14 = .ok (.invokestatic 124, 3) := by decide +kernel
theorem dX6_greedy_17 : decode cX6_greedy 17 = .ok (.ifCond .ne 7, 3) := by decide +kernel
theorem dX6_greedy_20 : decode cX6_greedy 20 = .ok (.iconst (-1), 1) := by decide +kernel
theorem dX6_greedy_21 : decode cX6_greedy 21 = .ok (.goto 8, 3) := by decide +kernel
theorem dX6_greedy_24 : decode cX6_greedy 24 = .ok (.aload_n 3, 1) := by decide +kernel
theorem dX6_greedy_25 : decode cX6_greedy 25 = .ok (.iload_n 2, 1) := by decide +kernel
theorem dX6_greedy_26 : decode cX6_greedy 26 = .ok (.invokevirtual 127, 3) := by decide +kernel
theorem dX6_greedy_29 : decode cX6_greedy 29 = .ok (.ireturn, 1) := by decide +kernel
set_option maxRecDepth 20000 in
theorem ggX6_odd_X4_coinageOf : GoodIn wsX6_odd wsX4_coinageOf := goodIn_r _ [6, 7, 8, 31, 32, 33, 34, 35, 36, 37, 38, 39] (by decide +kernel) (by decide +kernel)
set_option maxRecDepth 20000 in
theorem gX6_odd_X4_coinageOf : GoodIn wsX6_odd (wsV RX6 39 RX4 yX4_coinageOf wsX4_coinageOf) := goodIn_app (goodIn_of _ (by decide +kernel)) ggX6_odd_X4_coinageOf
set_option maxRecDepth 20000 in
theorem ggX6_odd_X1_leastOdd : GoodIn wsX6_odd wsX1_leastOdd := goodIn_r _ [13, 14, 15, 16, 17, 12, 18, 19, 20, 21, 22, 23, 24, 40, 41, 42, 43] (by decide +kernel) (by decide +kernel)
set_option maxRecDepth 20000 in
theorem gX6_odd_X1_leastOdd : GoodIn wsX6_odd (wsV RX6 130 RX1 yX1_leastOdd wsX1_leastOdd) := goodIn_app (goodIn_of _ (by decide +kernel)) ggX6_odd_X1_leastOdd
theorem dX6_odd_0 : decode cX6_odd 0 = .ok (.aload_n 0, 1) := by decide +kernel
theorem dX6_odd_1 : decode cX6_odd 1 = .ok (.getfield 10, 3) := by decide +kernel
theorem dX6_odd_4 : decode cX6_odd 4 = .ok (.iload_n 1, 1) := by decide +kernel
theorem dX6_odd_5 : decode cX6_odd 5 = .ok (.invokevirtual 39, 3) := by decide +kernel
theorem dX6_odd_8 : decode cX6_odd 8 = .ok (.astore_n 2, 1) := by decide +kernel
theorem dX6_odd_9 : decode cX6_odd 9 = .ok (.aload_n 2, 1) := by decide +kernel
theorem dX6_odd_10 : decode cX6_odd 10 = .ok (.ifnonnull 7, 3) := by decide +kernel
theorem dX6_odd_13 : decode cX6_odd 13 = .ok (.iconst (-1), 1) := by decide +kernel
theorem dX6_odd_14 : decode cX6_odd 14 = .ok (.goto 7, 3) := by decide +kernel
theorem dX6_odd_17 : decode cX6_odd 17 = .ok (.aload_n 2, 1) := by decide +kernel
theorem dX6_odd_18 : decode cX6_odd 18 = .ok (.invokevirtual 130, 3) := by decide +kernel
theorem dX6_odd_21 : decode cX6_odd 21 = .ok (.ireturn, 1) := by decide +kernel
theorem dX6_till_0 : decode cX6_till 0 = .ok (.aload_n 0, 1) := by decide +kernel
theorem dX6_till_1 : decode cX6_till 1 = .ok (.getfield 10, 3) := by decide +kernel
theorem dX6_till_4 : decode cX6_till 4 = .ok (.getfield 134, 3) := by decide +kernel
theorem dX6_till_7 : decode cX6_till 7 = .ok (.iconst 4, 1) := by decide +kernel
theorem dX6_till_8 : decode cX6_till 8 = .ok (.if_icmp .lt 5, 3) := by decide +kernel
theorem dX6_till_11 : decode cX6_till 11 = .ok (.iconst (-1), 1) := by decide +kernel
theorem dX6_till_12 : decode cX6_till 12 = .ok (.ireturn, 1) := by decide +kernel
theorem dX6_till_13 : decode cX6_till 13 = .ok (.aload_n 0, 1) := by decide +kernel
theorem dX6_till_14 : decode cX6_till 14 = .ok (.getfield 10, 3) := by decide +kernel
theorem dX6_till_17 : decode cX6_till 17 = .ok (.dup, 1) := by decide +kernel
theorem dX6_till_18 : decode cX6_till 18 = .ok (.getfield 134, 3) := by decide +kernel
theorem dX6_till_21 : decode cX6_till 21 = .ok (.iconst 1, 1) := by decide +kernel
theorem dX6_till_22 : decode cX6_till 22 = .ok (.iadd, 1) := by decide +kernel
theorem dX6_till_23 : decode cX6_till 23 = .ok (.putfield 134, 3) := by decide +kernel
theorem dX6_till_26 : decode cX6_till 26 = .ok (.aload_n 0, 1) := by decide +kernel
theorem dX6_till_27 : decode cX6_till 27 = .ok (.getfield 10, 3) := by decide +kernel
theorem dX6_till_30 : decode cX6_till 30 = .ok (.getfield 134, 3) := by decide +kernel
theorem dX6_till_33 : decode cX6_till 33 = .ok (.iconst 1, 1) := by decide +kernel
theorem dX6_till_34 : decode cX6_till 34 = .ok (.isub, 1) := by decide +kernel
theorem dX6_till_35 : decode cX6_till 35 = .ok (.ireturn, 1) := by decide +kernel
set_option maxRecDepth 20000 in
theorem ggX6_put_X4_tillAt : GoodIn wsX6_put wsX4_tillAt := goodIn_r _ [7, 8, 9, 10, 11, 12, 42, 43, 44, 45, 46, 47, 48, 49, 50] (by decide +kernel) (by decide +kernel)
set_option maxRecDepth 20000 in
theorem gX6_put_X4_tillAt : GoodIn wsX6_put (wsV RX6 137 RX4 yX4_tillAt wsX4_tillAt) := goodIn_app (goodIn_of _ (by decide +kernel)) ggX6_put_X4_tillAt
set_option maxRecDepth 20000 in
theorem ggX6_put_X4_isCoin : GoodIn wsX6_put wsX4_isCoin := goodIn_r _ [16, 17, 18, 19, 6, 20, 21, 22, 23, 24, 25, 26, 27, 28, 10, 11, 12, 42, 43, 44, 45, 46, 47, 48, 49, 50, 51, 52, 53, 54] (by decide +kernel) (by decide +kernel)
set_option maxRecDepth 20000 in
theorem gX6_put_X4_isCoin : GoodIn wsX6_put (wsV RX6 141 RX4 yX4_isCoin wsX4_isCoin) := goodIn_app (goodIn_of _ (by decide +kernel)) ggX6_put_X4_isCoin
set_option maxRecDepth 20000 in
theorem ggX6_put_X5_countsOf : GoodIn wsX6_put wsX5_countsOf := goodIn_r _ [33, 34, 35, 55, 56, 57, 58, 59, 60, 61] (by decide +kernel) (by decide +kernel)
set_option maxRecDepth 20000 in
theorem gX6_put_X5_countsOf : GoodIn wsX6_put (wsV RX6 144 RX5 yX5_countsOf wsX5_countsOf) := goodIn_app (goodIn_of _ (by decide +kernel)) ggX6_put_X5_countsOf
theorem dX6_put_0 : decode cX6_put 0 = .ok (.aload_n 0, 1) := by decide +kernel
theorem dX6_put_1 : decode cX6_put 1 = .ok (.getfield 10, 3) := by decide +kernel
theorem dX6_put_4 : decode cX6_put 4 = .ok (.iload_n 1, 1) := by decide +kernel
theorem dX6_put_5 : decode cX6_put 5 = .ok (.invokevirtual 137, 3) := by decide +kernel
theorem dX6_put_8 : decode cX6_put 8 = .ok (.astore 5, 2) := by decide +kernel
theorem dX6_put_10 : decode cX6_put 10 = .ok (.aload 5, 2) := by decide +kernel
theorem dX6_put_12 : decode cX6_put 12 = .ok (.ifnull 15, 3) := by decide +kernel
theorem dX6_put_15 : decode cX6_put 15 = .ok (.aload_n 0, 1) := by decide +kernel
theorem dX6_put_16 : decode cX6_put 16 = .ok (.getfield 10, 3) := by decide +kernel
theorem dX6_put_19 : decode cX6_put 19 = .ok (.iload_n 2, 1) := by decide +kernel
theorem dX6_put_20 : decode cX6_put 20 = .ok (.iload_n 3, 1) := by decide +kernel
theorem dX6_put_21 : decode cX6_put 21 = .ok (.invokevirtual 141, 3) := by decide +kernel
theorem dX6_put_24 : decode cX6_put 24 = .ok (.ifCond .ne 5, 3) := by decide +kernel
theorem dX6_put_27 : decode cX6_put 27 = .ok (.iconst (-1), 1) := by decide +kernel
theorem dX6_put_28 : decode cX6_put 28 = .ok (.ireturn, 1) := by decide +kernel
theorem dX6_put_29 : decode cX6_put 29 = .ok (.aload 5, 2) := by decide +kernel
theorem dX6_put_31 : decode cX6_put 31 = .ok (.iload_n 2, 1) := by decide +kernel
theorem dX6_put_32 : decode cX6_put 32 = .ok (.invokevirtual 144, 3) := by decide +kernel
theorem dX6_put_35 : decode cX6_put 35 = .ok (.astore 6, 2) := by decide +kernel
theorem dX6_put_37 : decode cX6_put 37 = .ok (.aload 6, 2) := by decide +kernel
theorem dX6_put_39 : decode cX6_put 39 = .ok (.iload_n 3, 1) := by decide +kernel
theorem dX6_put_40 : decode cX6_put 40 = .ok (.iaload, 1) := by decide +kernel
theorem dX6_put_41 : decode cX6_put 41 = .ok (.i2l, 1) := by decide +kernel
theorem dX6_put_42 : decode cX6_put 42 = .ok (.iload 4, 2) := by decide +kernel
theorem dX6_put_44 : decode cX6_put 44 = .ok (.i2l, 1) := by decide +kernel
theorem dX6_put_45 : decode cX6_put 45 = .ok (.ladd, 1) := by decide +kernel
theorem dX6_put_46 : decode cX6_put 46 = .ok (.lstore 7, 2) := by decide +kernel
theorem dX6_put_48 : decode cX6_put 48 = .ok (.lload 7, 2) := by decide +kernel
theorem dX6_put_50 : decode cX6_put 50 = .ok (.lconst 0, 1) := by decide +kernel
theorem dX6_put_51 : decode cX6_put 51 = .ok (.lcmp, 1) := by decide +kernel
theorem dX6_put_52 : decode cX6_put 52 = .ok (.ifCond .lt 12, 3) := by decide +kernel
theorem dX6_put_55 : decode cX6_put 55 = .ok (.lload 7, 2) := by decide +kernel
theorem dX6_put_57 : decode cX6_put 57 = .ok (.ldc2_w 150, 3) := by decide +kernel
theorem dX6_put_60 : decode cX6_put 60 = .ok (.lcmp, 1) := by decide +kernel
theorem dX6_put_61 : decode cX6_put 61 = .ok (.ifCond .le 5, 3) := by decide +kernel
theorem dX6_put_64 : decode cX6_put 64 = .ok (.iconst (-1), 1) := by decide +kernel
theorem dX6_put_65 : decode cX6_put 65 = .ok (.ireturn, 1) := by decide +kernel
theorem dX6_put_66 : decode cX6_put 66 = .ok (.aload 6, 2) := by decide +kernel
theorem dX6_put_68 : decode cX6_put 68 = .ok (.iload_n 3, 1) := by decide +kernel
theorem dX6_put_69 : decode cX6_put 69 = .ok (.lload 7, 2) := by decide +kernel
theorem dX6_put_71 : decode cX6_put 71 = .ok (.l2i, 1) := by decide +kernel
theorem dX6_put_72 : decode cX6_put 72 = .ok (.iastore, 1) := by decide +kernel
theorem dX6_put_73 : decode cX6_put 73 = .ok (.aload 6, 2) := by decide +kernel
theorem dX6_put_75 : decode cX6_put 75 = .ok (.iload_n 3, 1) := by decide +kernel
theorem dX6_put_76 : decode cX6_put 76 = .ok (.iaload, 1) := by decide +kernel
theorem dX6_put_77 : decode cX6_put 77 = .ok (.ireturn, 1) := by decide +kernel
set_option maxRecDepth 20000 in
theorem ggX6_sale_X4_tillAt : GoodIn wsX6_sale wsX4_tillAt := goodIn_r _ [11, 12, 13, 14, 15, 16, 111, 112, 113, 114, 115, 116, 117, 118, 119] (by decide +kernel) (by decide +kernel)
set_option maxRecDepth 20000 in
theorem gX6_sale_X4_tillAt : GoodIn wsX6_sale (wsV RX6 137 RX4 yX4_tillAt wsX4_tillAt) := goodIn_app (goodIn_of _ (by decide +kernel)) ggX6_sale_X4_tillAt
set_option maxRecDepth 20000 in
theorem ggX6_sale_X4_isSale : GoodIn wsX6_sale wsX4_isSale := goodIn_r _ [20, 14, 15, 16, 21, 22, 23, 10, 24, 25, 26, 27, 28, 29, 30, 31, 32, 33, 34, 35, 36, 111, 112, 113, 114, 115, 116, 117, 118, 119, 131, 132, 133, 134] (by decide +kernel) (by decide +kernel)
set_option maxRecDepth 20000 in
theorem gX6_sale_X4_isSale : GoodIn wsX6_sale (wsV RX6 152 RX4 yX4_isSale wsX4_isSale) := goodIn_app (goodIn_of _ (by decide +kernel)) ggX6_sale_X4_isSale
set_option maxRecDepth 20000 in
theorem ggX6_sale_X4_spareParts : GoodIn wsX6_sale wsX4_spareParts := goodIn_r _ [40, 41, 42, 25, 26, 27, 10, 28, 29, 30, 31, 32, 33, 34, 35, 36, 14, 15, 16, 43, 44, 45, 46, 47, 131, 132, 133, 134, 111, 112, 113, 114, 115, 116, 117, 118, 119] (by decide +kernel) (by decide +kernel)
set_option maxRecDepth 20000 in
theorem gX6_sale_X4_spareParts : GoodIn wsX6_sale (wsV RX6 156 RX4 yX4_spareParts wsX4_spareParts) := goodIn_app (goodIn_of _ (by decide +kernel)) ggX6_sale_X4_spareParts
set_option maxRecDepth 20000 in
theorem ggX6_sale_X5_countsOf : GoodIn wsX6_sale wsX5_countsOf := goodIn_r _ [52, 53, 54, 120, 121, 122, 123, 124, 125, 126] (by decide +kernel) (by decide +kernel)
set_option maxRecDepth 20000 in
theorem gX6_sale_X5_countsOf : GoodIn wsX6_sale (wsV RX6 144 RX5 yX5_countsOf wsX5_countsOf) := goodIn_app (goodIn_of _ (by decide +kernel)) ggX6_sale_X5_countsOf
set_option maxRecDepth 20000 in
theorem ggX6_sale_X6_wholeTimes : GoodIn wsX6_sale wsX6_wholeTimes := goodIn_r _ [57] (by decide +kernel) (by decide +kernel)
set_option maxRecDepth 20000 in
theorem gX6_sale_X6_wholeTimes : GoodIn wsX6_sale (va_wsS RX6 160 yX6_wholeTimes wsX6_wholeTimes) := goodIn_app (goodIn_of _ (by decide +kernel)) ggX6_sale_X6_wholeTimes
set_option maxRecDepth 20000 in
theorem ggX6_sale_X0_make : GoodIn wsX6_sale wsX0_make := goodIn_r _ [62, 63, 64, 65, 66, 67, 15, 68, 69, 14, 16, 70, 71, 72, 73, 74, 75, 76, 61, 77, 78, 79, 80, 81, 82, 83, 84, 85, 86, 87, 88, 89, 90, 91, 92, 56, 57, 93, 94, 95, 96, 127, 128, 129, 130, 131, 132, 133, 134] (by decide +kernel) (by decide +kernel)
set_option maxRecDepth 20000 in
theorem gX6_sale_X0_make : GoodIn wsX6_sale (wsV RX6 169 RX0 yX0_make wsX0_make) := goodIn_app (goodIn_of _ (by decide +kernel)) ggX6_sale_X0_make
set_option maxRecDepth 20000 in
theorem ggX6_sale_X5_close : GoodIn wsX6_sale wsX5_close := goodIn_r _ [100, 54, 101, 102, 103, 104, 120, 121, 122, 123, 124, 125, 126] (by decide +kernel) (by decide +kernel)
set_option maxRecDepth 20000 in
theorem gX6_sale_X5_close : GoodIn wsX6_sale (wsV RX6 176 RX5 yX5_close wsX5_close) := goodIn_app (goodIn_of _ (by decide +kernel)) ggX6_sale_X5_close
theorem dX6_sale_0 : decode cX6_sale 0 = .ok (.aload_n 0, 1) := by decide +kernel
theorem dX6_sale_1 : decode cX6_sale 1 = .ok (.getfield 10, 3) := by decide +kernel
theorem dX6_sale_4 : decode cX6_sale 4 = .ok (.iload_n 1, 1) := by decide +kernel
theorem dX6_sale_5 : decode cX6_sale 5 = .ok (.invokevirtual 137, 3) := by decide +kernel
theorem dX6_sale_8 : decode cX6_sale 8 = .ok (.astore 6, 2) := by decide +kernel
theorem dX6_sale_10 : decode cX6_sale 10 = .ok (.aload 6, 2) := by decide +kernel
theorem dX6_sale_12 : decode cX6_sale 12 = .ok (.ifnull 19, 3) := by decide +kernel
theorem dX6_sale_15 : decode cX6_sale 15 = .ok (.aload_n 0, 1) := by decide +kernel
theorem dX6_sale_16 : decode cX6_sale 16 = .ok (.getfield 10, 3) := by decide +kernel
theorem dX6_sale_19 : decode cX6_sale 19 = .ok (.iload_n 2, 1) := by decide +kernel
theorem dX6_sale_20 : decode cX6_sale 20 = .ok (.iload_n 3, 1) := by decide +kernel
theorem dX6_sale_21 : decode cX6_sale 21 = .ok (.iload 4, 2) := by decide +kernel
theorem dX6_sale_23 : decode cX6_sale 23 = .ok (.iload 5, 2) := by decide +kernel
theorem dX6_sale_25 : decode cX6_sale 25 = .ok (.invokevirtual 152, 3) := by decide +kernel
theorem dX6_sale_28 : decode cX6_sale 28 = .ok (.ifCond .ne 5, 3) := by decide +kernel
theorem dX6_sale_31 : decode cX6_sale 31 = .ok (.iconst (-1), 1) := by decide +kernel
theorem dX6_sale_32 : decode cX6_sale 32 = .ok (.ireturn, 1) := by decide +kernel
theorem dX6_sale_33 : decode cX6_sale 33 = .ok (.aload_n 0, 1) := by decide +kernel
theorem dX6_sale_34 : decode cX6_sale 34 = .ok (.getfield 10, 3) := by decide +kernel
theorem dX6_sale_37 : decode cX6_sale 37 = .ok (.iload_n 2, 1) := by decide +kernel
theorem dX6_sale_38 : decode cX6_sale 38 = .ok (.iload_n 3, 1) := by decide +kernel
theorem dX6_sale_39 : decode cX6_sale 39 = .ok (.iload 4, 2) := by decide +kernel
theorem dX6_sale_41 : decode cX6_sale 41 = .ok (.iload 5, 2) := by decide +kernel
theorem dX6_sale_43 : decode cX6_sale 43 = .ok (.invokevirtual 156, 3) := by decide +kernel
theorem dX6_sale_46 : decode cX6_sale 46 = .ok (.istore 7, 2) := by decide +kernel
theorem dX6_sale_48 : decode cX6_sale 48 = .ok (.aload 6, 2) := by decide +kernel
theorem dX6_sale_50 : decode cX6_sale 50 = .ok (.iload_n 3, 1) := by decide +kernel
theorem dX6_sale_51 : decode cX6_sale 51 = .ok (.invokevirtual 144, 3) := by decide +kernel
theorem dX6_sale_54 : decode cX6_sale 54 = .ok (.astore 8, 2) := by decide +kernel
theorem dX6_sale_56 : decode cX6_sale 56 = .ok (.iload 7, 2) := by decide +kernel
theorem dX6_sale_58 : decode cX6_sale 58 = .ok (.ifCond .lt 17, 3) := by decide +kernel
theorem dX6_sale_61 : decode cX6_sale 61 = .ok (.aload 8, 2) := by decide +kernel
theorem dX6_sale_63 : decode cX6_sale 63 = .ok (.iload 4, 2) := by decide +kernel
theorem dX6_sale_65 : decode cX6_sale 65 = .ok (.iaload, 1) := by decide +kernel
theorem dX6_sale_66 : decode cX6_sale 66 = .ok (.iload 5, 2) := by decide +kernel
theorem dX6_sale_68 : decode cX6_sale 68 = .ok (.iadd, 1) := by decide +kernel
theorem dX6_sale_69 : decode cX6_sale 69 = .ok (.sipush 1000, 3) := by decide +kernel
theorem dX6_sale_72 : decode cX6_sale 72 = .ok (.if_icmp .le 5, 3) := by decide +kernel
theorem dX6_sale_75 : decode cX6_sale 75 = .ok (.iconst (-1), 1) := by decide +kernel
theorem dX6_sale_76 : decode cX6_sale 76 = .ok (.ireturn, 1) := by decide +kernel
theorem dX6_sale_77 : decode cX6_sale 77 = .ok (.iload 7, 2) := by decide +kernel
theorem dX6_sale_79 : decode cX6_sale 79 = .ok (.aload_n 0, 1) := by decide +kernel
theorem dX6_sale_80 : decode cX6_sale 80 = .ok (.getfield 10, 3) := by decide +kernel
theorem dX6_sale_83 : decode cX6_sale 83 = .ok (.getfield 61, 3) := by decide +kernel
theorem dX6_sale_86 : decode cX6_sale 86 = .ok (.invokestatic 160, 3) := by decide +kernel
theorem dX6_sale_89 : decode cX6_sale 89 = .ok (.istore 9, 2) := by decide +kernel
theorem dX6_sale_91 : decode cX6_sale 91 = .ok (.aload 8, 2) := by decide +kernel
theorem dX6_sale_93 : decode cX6_sale 93 = .ok (.iload 4, 2) := by decide +kernel
theorem dX6_sale_95 : decode cX6_sale 95 = .ok (.dup2, 1) := by decide +kernel
theorem dX6_sale_96 : decode cX6_sale 96 = .ok (.iaload, 1) := by decide +kernel
theorem dX6_sale_97 : decode cX6_sale 97 = .ok (.iload 5, 2) := by decide +kernel
theorem dX6_sale_99 : decode cX6_sale 99 = .ok (.iadd, 1) := by decide +kernel
theorem dX6_sale_100 : decode cX6_sale 100 = .ok (.iastore, 1) := by decide +kernel
theorem dX6_sale_101 : decode cX6_sale 101 = .ok (.aload_n 0, 1) := by decide +kernel
theorem dX6_sale_102 : decode cX6_sale 102 = .ok (.getfield 27, 3) := by decide +kernel
theorem dX6_sale_105 : decode cX6_sale 105 = .ok (.aload_n 0, 1) := by decide +kernel
theorem dX6_sale_106 : decode cX6_sale 106 = .ok (.getfield 10, 3) := by decide +kernel
theorem dX6_sale_109 : decode cX6_sale 109 = .ok (.getfield 163, 3) := by decide +kernel
theorem dX6_sale_112 : decode cX6_sale 112 = .ok (.aload 6, 2) := by decide +kernel
theorem dX6_sale_114 : decode cX6_sale 114 = .ok (.getfield 167, 3) := by decide +kernel
theorem dX6_sale_117 : decode cX6_sale 117 = .ok (.iload 9, 2) := by decide +kernel
theorem dX6_sale_119 : decode cX6_sale 119 = .ok (.invokevirtual 169, 3) := by decide +kernel
theorem dX6_sale_122 : decode cX6_sale 122 = .ok (.ifCond .ne 15, 3) := by decide +kernel
theorem dX6_sale_125 : decode cX6_sale 125 = .ok (.aload 8, 2) := by decide +kernel
theorem dX6_sale_127 : decode cX6_sale 127 = .ok (.iload 4, 2) := by decide +kernel
theorem dX6_sale_129 : decode cX6_sale 129 = .ok (.dup2, 1) := by decide +kernel
theorem dX6_sale_130 : decode cX6_sale 130 = .ok (.iaload, 1) := by decide +kernel
theorem dX6_sale_131 : decode cX6_sale 131 = .ok (.iload 5, 2) := by decide +kernel
theorem dX6_sale_133 : decode cX6_sale 133 = .ok (.isub, 1) := by decide +kernel
theorem dX6_sale_134 : decode cX6_sale 134 = .ok (.iastore, 1) := by decide +kernel
theorem dX6_sale_135 : decode cX6_sale 135 = .ok (.iconst (-1), 1) := by decide +kernel
theorem dX6_sale_136 : decode cX6_sale 136 = .ok (.ireturn, 1) := by decide +kernel
theorem dX6_sale_137 : decode cX6_sale 137 = .ok (.aload 6, 2) := by decide +kernel
theorem dX6_sale_139 : decode cX6_sale 139 = .ok (.iload_n 2, 1) := by decide +kernel
theorem dX6_sale_140 : decode cX6_sale 140 = .ok (.iload 7, 2) := by decide +kernel
theorem dX6_sale_142 : decode cX6_sale 142 = .ok (.iload 9, 2) := by decide +kernel
theorem dX6_sale_144 : decode cX6_sale 144 = .ok (.aload_n 0, 1) := by decide +kernel
theorem dX6_sale_145 : decode cX6_sale 145 = .ok (.getfield 10, 3) := by decide +kernel
theorem dX6_sale_148 : decode cX6_sale 148 = .ok (.getfield 61, 3) := by decide +kernel
theorem dX6_sale_151 : decode cX6_sale 151 = .ok (.imul, 1) := by decide +kernel
theorem dX6_sale_152 : decode cX6_sale 152 = .ok (.isub, 1) := by decide +kernel
theorem dX6_sale_153 : decode cX6_sale 153 = .ok (.aload_n 0, 1) := by decide +kernel
theorem dX6_sale_154 : decode cX6_sale 154 = .ok (.getfield 27, 3) := by decide +kernel
theorem dX6_sale_157 : decode cX6_sale 157 = .ok (.getfield 173, 3) := by decide +kernel
theorem dX6_sale_160 : decode cX6_sale 160 = .ok (.invokevirtual 176, 3) := by decide +kernel
theorem dX6_sale_163 : decode cX6_sale 163 = .ok (.iload 9, 2) := by decide +kernel
theorem dX6_sale_165 : decode cX6_sale 165 = .ok (.ireturn, 1) := by decide +kernel
set_option maxRecDepth 20000 in
theorem ggX6_given_X4_tillAt : GoodIn wsX6_given wsX4_tillAt := goodIn_r _ [8, 9, 10, 11, 12, 13, 43, 44, 45, 46, 47, 48, 49, 50, 51] (by decide +kernel) (by decide +kernel)
set_option maxRecDepth 20000 in
theorem gX6_given_X4_tillAt : GoodIn wsX6_given (wsV RX6 137 RX4 yX4_tillAt wsX4_tillAt) := goodIn_app (goodIn_of _ (by decide +kernel)) ggX6_given_X4_tillAt
set_option maxRecDepth 20000 in
theorem ggX6_given_X4_isCoin : GoodIn wsX6_given wsX4_isCoin := goodIn_r _ [17, 18, 19, 20, 7, 21, 22, 23, 24, 25, 26, 27, 28, 29, 11, 12, 13, 43, 44, 45, 46, 47, 48, 49, 50, 51, 52, 53, 54, 55] (by decide +kernel) (by decide +kernel)
set_option maxRecDepth 20000 in
theorem gX6_given_X4_isCoin : GoodIn wsX6_given (wsV RX6 141 RX4 yX4_isCoin wsX4_isCoin) := goodIn_app (goodIn_of _ (by decide +kernel)) ggX6_given_X4_isCoin
theorem dX6_given_0 : decode cX6_given 0 = .ok (.aload_n 0, 1) := by decide +kernel
theorem dX6_given_1 : decode cX6_given 1 = .ok (.getfield 10, 3) := by decide +kernel
theorem dX6_given_4 : decode cX6_given 4 = .ok (.iload_n 1, 1) := by decide +kernel
theorem dX6_given_5 : decode cX6_given 5 = .ok (.invokevirtual 137, 3) := by decide +kernel
theorem dX6_given_8 : decode cX6_given 8 = .ok (.astore_n 3, 1) := by decide +kernel
theorem dX6_given_9 : decode cX6_given 9 = .ok (.aload_n 3, 1) := by decide +kernel
theorem dX6_given_10 : decode cX6_given 10 = .ok (.ifnull 22, 3) := by decide +kernel
theorem dX6_given_13 : decode cX6_given 13 = .ok (.aload_n 3, 1) := by decide +kernel
theorem dX6_given_14 : decode cX6_given 14 = .ok (.getfield 180, 3) := by decide +kernel
theorem dX6_given_17 : decode cX6_given 17 = .ok (.ifCond .eq 15, 3) := by decide +kernel
theorem dX6_given_20 : decode cX6_given 20 = .ok (.aload_n 0, 1) := by decide +kernel
theorem dX6_given_21 : decode cX6_given 21 = .ok (.getfield 10, 3) := by decide +kernel
theorem dX6_given_24 : decode cX6_given 24 = .ok (.iconst 1, 1) := by decide +kernel
theorem dX6_given_25 : decode cX6_given 25 = .ok (.iload_n 2, 1) := by decide +kernel
theorem dX6_given_26 : decode cX6_given 26 = .ok (.invokevirtual 141, 3) := by decide +kernel
theorem dX6_given_29 : decode cX6_given 29 = .ok (.ifCond .ne 7, 3) := by decide +kernel
theorem dX6_given_32 : decode cX6_given 32 = .ok (.iconst (-1), 1) := by decide +kernel
theorem dX6_given_33 : decode cX6_given 33 = .ok (.goto 9, 3) := by decide +kernel
theorem dX6_given_36 : decode cX6_given 36 = .ok (.aload_n 3, 1) := by decide +kernel
theorem dX6_given_37 : decode cX6_given 37 = .ok (.getfield 183, 3) := by decide +kernel
theorem dX6_given_40 : decode cX6_given 40 = .ok (.iload_n 2, 1) := by decide +kernel
theorem dX6_given_41 : decode cX6_given 41 = .ok (.iaload, 1) := by decide +kernel
theorem dX6_given_42 : decode cX6_given 42 = .ok (.ireturn, 1) := by decide +kernel
set_option maxRecDepth 20000 in
theorem ggX6_tell_X4_tillAt : GoodIn wsX6_tell wsX4_tillAt := goodIn_r _ [15, 16, 17, 18, 19, 20, 52, 53, 54, 55, 56, 57, 58, 59, 60] (by decide +kernel) (by decide +kernel)
set_option maxRecDepth 20000 in
theorem gX6_tell_X4_tillAt : GoodIn wsX6_tell (wsV RX6 137 RX4 yX4_tillAt wsX4_tillAt) := goodIn_app (goodIn_of _ (by decide +kernel)) ggX6_tell_X4_tillAt
set_option maxRecDepth 20000 in
theorem ggX6_tell_X4_partsOf : GoodIn wsX6_tell wsX4_partsOf := goodIn_r _ [24, 25, 26, 27, 28, 29, 14, 30, 31, 32, 33, 34, 35, 36, 37, 38, 66, 67, 68, 69, 52, 53, 54, 55, 56, 57, 58, 59, 60] (by decide +kernel) (by decide +kernel)
set_option maxRecDepth 20000 in
theorem gX6_tell_X4_partsOf : GoodIn wsX6_tell (wsV RX6 195 RX4 yX4_partsOf wsX4_partsOf) := goodIn_app (goodIn_of _ (by decide +kernel)) ggX6_tell_X4_partsOf
theorem dX6_tell_0 : decode cX6_tell 0 = .ok (.aload_n 0, 1) := by decide +kernel
theorem dX6_tell_1 : decode cX6_tell 1 = .ok (.getfield 10, 3) := by decide +kernel
theorem dX6_tell_4 : decode cX6_tell 4 = .ok (.iload_n 1, 1) := by decide +kernel
theorem dX6_tell_5 : decode cX6_tell 5 = .ok (.invokevirtual 137, 3) := by decide +kernel
theorem dX6_tell_8 : decode cX6_tell 8 = .ok (.astore_n 3, 1) := by decide +kernel
theorem dX6_tell_9 : decode cX6_tell 9 = .ok (.aload_n 3, 1) := by decide +kernel
theorem dX6_tell_10 : decode cX6_tell 10 = .ok (.ifnonnull 7, 3) := by decide +kernel
theorem dX6_tell_13 : decode cX6_tell 13 = .ok (.ldc2_w 186, 3) := by decide +kernel
theorem dX6_tell_16 : decode cX6_tell 16 = .ok (.lreturn, 1) := by decide +kernel
theorem dX6_tell_17 : decode cX6_tell 17 = .ok (.iload_n 2, 1) := by decide +kernel
theorem dX6_tell_18 : decode cX6_tell 18 = .ok (.tableswitch 111 0 5 #[38, 44, 49, 75, 88, 102], 38) := by decide +kernel
theorem dX6_tell_56 : decode cX6_tell 56 = .ok (.aload_n 3, 1) := by decide +kernel
theorem dX6_tell_57 : decode cX6_tell 57 = .ok (.getfield 180, 3) := by decide +kernel
theorem dX6_tell_60 : decode cX6_tell 60 = .ok (.i2l, 1) := by decide +kernel
theorem dX6_tell_61 : decode cX6_tell 61 = .ok (.lreturn, 1) := by decide +kernel
theorem dX6_tell_62 : decode cX6_tell 62 = .ok (.aload_n 3, 1) := by decide +kernel
theorem dX6_tell_63 : decode cX6_tell 63 = .ok (.getfield 188, 3) := by decide +kernel
theorem dX6_tell_66 : decode cX6_tell 66 = .ok (.lreturn, 1) := by decide +kernel
theorem dX6_tell_67 : decode cX6_tell 67 = .ok (.aload_n 0, 1) := by decide +kernel
theorem dX6_tell_68 : decode cX6_tell 68 = .ok (.getfield 10, 3) := by decide +kernel
theorem dX6_tell_71 : decode cX6_tell 71 = .ok (.iconst 0, 1) := by decide +kernel
theorem dX6_tell_72 : decode cX6_tell 72 = .ok (.aload_n 3, 1) := by decide +kernel
theorem dX6_tell_73 : decode cX6_tell 73 = .ok (.getfield 192, 3) := by decide +kernel
theorem dX6_tell_76 : decode cX6_tell 76 = .ok (.invokevirtual 195, 3) := by decide +kernel
theorem dX6_tell_79 : decode cX6_tell 79 = .ok (.aload_n 0, 1) := by decide +kernel
theorem dX6_tell_80 : decode cX6_tell 80 = .ok (.getfield 10, 3) := by decide +kernel
theorem dX6_tell_83 : decode cX6_tell 83 = .ok (.iconst 1, 1) := by decide +kernel
theorem dX6_tell_84 : decode cX6_tell 84 = .ok (.aload_n 3, 1) := by decide +kernel
theorem dX6_tell_85 : decode cX6_tell 85 = .ok (.getfield 167, 3) := by decide +kernel
theorem dX6_tell_88 : decode cX6_tell 88 = .ok (.invokevirtual 195, 3) := by decide +kernel
theorem dX6_tell_91 : decode cX6_tell 91 = .ok (.ladd, 1) := by decide +kernel
theorem dX6_tell_92 : decode cX6_tell 92 = .ok (.lreturn, 1) := by decide +kernel
theorem dX6_tell_93 : decode cX6_tell 93 = .ok (.aload_n 0, 1) := by decide +kernel
theorem dX6_tell_94 : decode cX6_tell 94 = .ok (.getfield 10, 3) := by decide +kernel
theorem dX6_tell_97 : decode cX6_tell 97 = .ok (.iconst 0, 1) := by decide +kernel
theorem dX6_tell_98 : decode cX6_tell 98 = .ok (.aload_n 3, 1) := by decide +kernel
theorem dX6_tell_99 : decode cX6_tell 99 = .ok (.getfield 192, 3) := by decide +kernel
theorem dX6_tell_102 : decode cX6_tell 102 = .ok (.invokevirtual 195, 3) := by decide +kernel
theorem dX6_tell_105 : decode cX6_tell 105 = .ok (.lreturn, 1) := by decide +kernel
theorem dX6_tell_106 : decode cX6_tell 106 = .ok (.aload_n 3, 1) := by decide +kernel
theorem dX6_tell_107 : decode cX6_tell 107 = .ok (.getfield 199, 3) := by decide +kernel
theorem dX6_tell_110 : decode cX6_tell 110 = .ok (.aload_n 0, 1) := by decide +kernel
theorem dX6_tell_111 : decode cX6_tell 111 = .ok (.getfield 10, 3) := by decide +kernel
theorem dX6_tell_114 : decode cX6_tell 114 = .ok (.getfield 61, 3) := by decide +kernel
theorem dX6_tell_117 : decode cX6_tell 117 = .ok (.i2l, 1) := by decide +kernel
theorem dX6_tell_118 : decode cX6_tell 118 = .ok (.lmul, 1) := by decide +kernel
theorem dX6_tell_119 : decode cX6_tell 119 = .ok (.lreturn, 1) := by decide +kernel
theorem dX6_tell_120 : decode cX6_tell 120 = .ok (.aload_n 3, 1) := by decide +kernel
theorem dX6_tell_121 : decode cX6_tell 121 = .ok (.getfield 202, 3) := by decide +kernel
theorem dX6_tell_124 : decode cX6_tell 124 = .ok (.getfield 206, 3) := by decide +kernel
theorem dX6_tell_127 : decode cX6_tell 127 = .ok (.i2l, 1) := by decide +kernel
theorem dX6_tell_128 : decode cX6_tell 128 = .ok (.lreturn, 1) := by decide +kernel
theorem dX6_tell_129 : decode cX6_tell 129 = .ok (.ldc2_w 186, 3) := by decide +kernel
theorem dX6_tell_132 : decode cX6_tell 132 = .ok (.lreturn, 1) := by decide +kernel
set_option maxRecDepth 20000 in
theorem ggX6_has_X4_tillAt : GoodIn wsX6_has wsX4_tillAt := goodIn_r _ [6, 7, 8, 9, 10, 11, 41, 42, 43, 44, 45, 46, 47, 48, 49] (by decide +kernel) (by decide +kernel)
set_option maxRecDepth 20000 in
theorem gX6_has_X4_tillAt : GoodIn wsX6_has (wsV RX6 137 RX4 yX4_tillAt wsX4_tillAt) := goodIn_app (goodIn_of _ (by decide +kernel)) ggX6_has_X4_tillAt
set_option maxRecDepth 20000 in
theorem ggX6_has_X4_isCoin : GoodIn wsX6_has wsX4_isCoin := goodIn_r _ [15, 16, 17, 18, 5, 19, 20, 21, 22, 23, 24, 25, 26, 27, 9, 10, 11, 41, 42, 43, 44, 45, 46, 47, 48, 49, 50, 51, 52, 53] (by decide +kernel) (by decide +kernel)
set_option maxRecDepth 20000 in
theorem gX6_has_X4_isCoin : GoodIn wsX6_has (wsV RX6 141 RX4 yX4_isCoin wsX4_isCoin) := goodIn_app (goodIn_of _ (by decide +kernel)) ggX6_has_X4_isCoin
set_option maxRecDepth 20000 in
theorem ggX6_has_X5_countsOf : GoodIn wsX6_has wsX5_countsOf := goodIn_r _ [32, 33, 34, 54, 55, 56, 57, 58, 59, 60] (by decide +kernel) (by decide +kernel)
set_option maxRecDepth 20000 in
theorem gX6_has_X5_countsOf : GoodIn wsX6_has (wsV RX6 144 RX5 yX5_countsOf wsX5_countsOf) := goodIn_app (goodIn_of _ (by decide +kernel)) ggX6_has_X5_countsOf
theorem dX6_has_0 : decode cX6_has 0 = .ok (.aload_n 0, 1) := by decide +kernel
theorem dX6_has_1 : decode cX6_has 1 = .ok (.getfield 10, 3) := by decide +kernel
theorem dX6_has_4 : decode cX6_has 4 = .ok (.iload_n 1, 1) := by decide +kernel
theorem dX6_has_5 : decode cX6_has 5 = .ok (.invokevirtual 137, 3) := by decide +kernel
theorem dX6_has_8 : decode cX6_has 8 = .ok (.astore 4, 2) := by decide +kernel
theorem dX6_has_10 : decode cX6_has 10 = .ok (.aload 4, 2) := by decide +kernel
theorem dX6_has_12 : decode cX6_has 12 = .ok (.ifnull 15, 3) := by decide +kernel
theorem dX6_has_15 : decode cX6_has 15 = .ok (.aload_n 0, 1) := by decide +kernel
theorem dX6_has_16 : decode cX6_has 16 = .ok (.getfield 10, 3) := by decide +kernel
theorem dX6_has_19 : decode cX6_has 19 = .ok (.iload_n 2, 1) := by decide +kernel
theorem dX6_has_20 : decode cX6_has 20 = .ok (.iload_n 3, 1) := by decide +kernel
theorem dX6_has_21 : decode cX6_has 21 = .ok (.invokevirtual 141, 3) := by decide +kernel
theorem dX6_has_24 : decode cX6_has 24 = .ok (.ifCond .ne 7, 3) := by decide +kernel
theorem dX6_has_27 : decode cX6_has 27 = .ok (.iconst (-1), 1) := by decide +kernel
theorem dX6_has_28 : decode cX6_has 28 = .ok (.goto 11, 3) := by decide +kernel
theorem dX6_has_31 : decode cX6_has 31 = .ok (.aload 4, 2) := by decide +kernel
theorem dX6_has_33 : decode cX6_has 33 = .ok (.iload_n 2, 1) := by decide +kernel
theorem dX6_has_34 : decode cX6_has 34 = .ok (.invokevirtual 144, 3) := by decide +kernel
theorem dX6_has_37 : decode cX6_has 37 = .ok (.iload_n 3, 1) := by decide +kernel
theorem dX6_has_38 : decode cX6_has 38 = .ok (.iaload, 1) := by decide +kernel
theorem dX6_has_39 : decode cX6_has 39 = .ok (.ireturn, 1) := by decide +kernel
set_option maxRecDepth 20000 in
theorem ggX6_draw_X4_tillAt : GoodIn wsX6_draw wsX4_tillAt := goodIn_r _ [9, 10, 11, 12, 13, 14, 46, 47, 48, 49, 50, 51, 52, 53, 54] (by decide +kernel) (by decide +kernel)
set_option maxRecDepth 20000 in
theorem gX6_draw_X4_tillAt : GoodIn wsX6_draw (wsV RX6 137 RX4 yX4_tillAt wsX4_tillAt) := goodIn_app (goodIn_of _ (by decide +kernel)) ggX6_draw_X4_tillAt
set_option maxRecDepth 20000 in
theorem ggX6_draw_X4_partsOf : GoodIn wsX6_draw wsX4_partsOf := goodIn_r _ [18, 19, 20, 21, 22, 23, 8, 24, 25, 26, 27, 28, 29, 30, 31, 32, 55, 56, 57, 58, 46, 47, 48, 49, 50, 51, 52, 53, 54] (by decide +kernel) (by decide +kernel)
set_option maxRecDepth 20000 in
theorem gX6_draw_X4_partsOf : GoodIn wsX6_draw (wsV RX6 195 RX4 yX4_partsOf wsX4_partsOf) := goodIn_app (goodIn_of _ (by decide +kernel)) ggX6_draw_X4_partsOf
theorem dX6_draw_0 : decode cX6_draw 0 = .ok (.aload_n 0, 1) := by decide +kernel
theorem dX6_draw_1 : decode cX6_draw 1 = .ok (.getfield 10, 3) := by decide +kernel
theorem dX6_draw_4 : decode cX6_draw 4 = .ok (.iload_n 1, 1) := by decide +kernel
theorem dX6_draw_5 : decode cX6_draw 5 = .ok (.invokevirtual 137, 3) := by decide +kernel
theorem dX6_draw_8 : decode cX6_draw 8 = .ok (.astore_n 2, 1) := by decide +kernel
theorem dX6_draw_9 : decode cX6_draw 9 = .ok (.aload_n 2, 1) := by decide +kernel
theorem dX6_draw_10 : decode cX6_draw 10 = .ok (.ifnonnull 7, 3) := by decide +kernel
theorem dX6_draw_13 : decode cX6_draw 13 = .ok (.ldc2_w 186, 3) := by decide +kernel
theorem dX6_draw_16 : decode cX6_draw 16 = .ok (.lreturn, 1) := by decide +kernel
theorem dX6_draw_17 : decode cX6_draw 17 = .ok (.aload_n 0, 1) := by decide +kernel
theorem dX6_draw_18 : decode cX6_draw 18 = .ok (.getfield 10, 3) := by decide +kernel
theorem dX6_draw_21 : decode cX6_draw 21 = .ok (.iconst 0, 1) := by decide +kernel
theorem dX6_draw_22 : decode cX6_draw 22 = .ok (.aload_n 2, 1) := by decide +kernel
theorem dX6_draw_23 : decode cX6_draw 23 = .ok (.getfield 192, 3) := by decide +kernel
theorem dX6_draw_26 : decode cX6_draw 26 = .ok (.invokevirtual 195, 3) := by decide +kernel
theorem dX6_draw_29 : decode cX6_draw 29 = .ok (.lstore_n 3, 1) := by decide +kernel
theorem dX6_draw_30 : decode cX6_draw 30 = .ok (.iconst 0, 1) := by decide +kernel
theorem dX6_draw_31 : decode cX6_draw 31 = .ok (.istore 5, 2) := by decide +kernel
theorem dX6_draw_33 : decode cX6_draw 33 = .ok (.iload 5, 2) := by decide +kernel
theorem dX6_draw_35 : decode cX6_draw 35 = .ok (.bipush 8, 2) := by decide +kernel
theorem dX6_draw_37 : decode cX6_draw 37 = .ok (.if_icmp .ge 37, 3) := by decide +kernel
theorem dX6_draw_40 : decode cX6_draw 40 = .ok (.aload_n 0, 1) := by decide +kernel
theorem dX6_draw_41 : decode cX6_draw 41 = .ok (.getfield 10, 3) := by decide +kernel
theorem dX6_draw_44 : decode cX6_draw 44 = .ok (.getfield 209, 3) := by decide +kernel
theorem dX6_draw_47 : decode cX6_draw 47 = .ok (.iload 5, 2) := by decide +kernel
theorem dX6_draw_49 : decode cX6_draw 49 = .ok (.dup2, 1) := by decide +kernel
theorem dX6_draw_50 : decode cX6_draw 50 = .ok (.iaload, 1) := by decide +kernel
theorem dX6_draw_51 : decode cX6_draw 51 = .ok (.aload_n 2, 1) := by decide +kernel
theorem dX6_draw_52 : decode cX6_draw 52 = .ok (.getfield 192, 3) := by decide +kernel
theorem dX6_draw_55 : decode cX6_draw 55 = .ok (.iload 5, 2) := by decide +kernel
theorem dX6_draw_57 : decode cX6_draw 57 = .ok (.iaload, 1) := by decide +kernel
theorem dX6_draw_58 : decode cX6_draw 58 = .ok (.iadd, 1) := by decide +kernel
theorem dX6_draw_59 : decode cX6_draw 59 = .ok (.iastore, 1) := by decide +kernel
theorem dX6_draw_60 : decode cX6_draw 60 = .ok (.aload_n 2, 1) := by decide +kernel
theorem dX6_draw_61 : decode cX6_draw 61 = .ok (.getfield 192, 3) := by decide +kernel
theorem dX6_draw_64 : decode cX6_draw 64 = .ok (.iload 5, 2) := by decide +kernel
theorem dX6_draw_66 : decode cX6_draw 66 = .ok (.iconst 0, 1) := by decide +kernel
theorem dX6_draw_67 : decode cX6_draw 67 = .ok (.iastore, 1) := by decide +kernel
theorem dX6_draw_68 : decode cX6_draw 68 = .ok (.iinc 5 1, 3) := by decide +kernel
theorem dX6_draw_71 : decode cX6_draw 71 = .ok (.goto (-38), 3) := by decide +kernel
theorem dX6_draw_74 : decode cX6_draw 74 = .ok (.lload_n 3, 1) := by decide +kernel
theorem dX6_draw_75 : decode cX6_draw 75 = .ok (.lreturn, 1) := by decide +kernel
set_option maxRecDepth 20000 in
theorem ggX6_drawn_X4_isCoin : GoodIn wsX6_drawn wsX4_isCoin := goodIn_r _ [7, 8, 9, 10, 6, 11, 12, 13, 14, 15, 16, 17, 18, 19, 20, 21, 22, 29, 30, 31, 32, 33, 34, 35, 36, 37, 38, 39, 40, 41] (by decide +kernel) (by decide +kernel)
set_option maxRecDepth 20000 in
theorem gX6_drawn_X4_isCoin : GoodIn wsX6_drawn (wsV RX6 141 RX4 yX4_isCoin wsX4_isCoin) := goodIn_app (goodIn_of _ (by decide +kernel)) ggX6_drawn_X4_isCoin
theorem dX6_drawn_0 : decode cX6_drawn 0 = .ok (.aload_n 0, 1) := by decide +kernel
theorem dX6_drawn_1 : decode cX6_drawn 1 = .ok (.getfield 10, 3) := by decide +kernel
theorem dX6_drawn_4 : decode cX6_drawn 4 = .ok (.iconst 0, 1) := by decide +kernel
theorem dX6_drawn_5 : decode cX6_drawn 5 = .ok (.iload_n 1, 1) := by decide +kernel
theorem dX6_drawn_6 : decode cX6_drawn 6 = .ok (.invokevirtual 141, 3) := by decide +kernel
theorem dX6_drawn_9 : decode cX6_drawn 9 = .ok (.ifCond .eq 15, 3) := by decide +kernel
theorem dX6_drawn_12 : decode cX6_drawn 12 = .ok (.aload_n 0, 1) := by decide +kernel
theorem dX6_drawn_13 : decode cX6_drawn 13 = .ok (.getfield 10, 3) := by decide +kernel
theorem dX6_drawn_16 : decode cX6_drawn 16 = .ok (.getfield 209, 3) := by decide +kernel
theorem dX6_drawn_19 : decode cX6_drawn 19 = .ok (.iload_n 1, 1) := by decide +kernel
theorem dX6_drawn_20 : decode cX6_drawn 20 = .ok (.iaload, 1) := by decide +kernel
theorem dX6_drawn_21 : decode cX6_drawn 21 = .ok (.goto 4, 3) := by decide +kernel
theorem dX6_drawn_24 : decode cX6_drawn 24 = .ok (.iconst (-1), 1) := by decide +kernel
theorem dX6_drawn_25 : decode cX6_drawn 25 = .ok (.ireturn, 1) := by decide +kernel
set_option maxRecDepth 20000 in
theorem ggX6_expect_X4_tillAt : GoodIn wsX6_expect wsX4_tillAt := goodIn_r _ [7, 8, 9, 10, 11, 12, 56, 57, 58, 59, 60, 61, 62, 63, 64] (by decide +kernel) (by decide +kernel)
set_option maxRecDepth 20000 in
theorem gX6_expect_X4_tillAt : GoodIn wsX6_expect (wsV RX6 137 RX4 yX4_tillAt wsX4_tillAt) := goodIn_app (goodIn_of _ (by decide +kernel)) ggX6_expect_X4_tillAt
set_option maxRecDepth 20000 in
theorem ggX6_expect_X4_isSale : GoodIn wsX6_expect wsX4_isSale := goodIn_r _ [16, 10, 11, 12, 17, 18, 19, 6, 20, 21, 22, 23, 24, 25, 26, 27, 28, 29, 30, 31, 32, 56, 57, 58, 59, 60, 61, 62, 63, 64, 65, 66, 67, 68] (by decide +kernel) (by decide +kernel)
set_option maxRecDepth 20000 in
theorem gX6_expect_X4_isSale : GoodIn wsX6_expect (wsV RX6 152 RX4 yX4_isSale wsX4_isSale) := goodIn_app (goodIn_of _ (by decide +kernel)) ggX6_expect_X4_isSale
set_option maxRecDepth 20000 in
theorem ggX6_expect_X2_add : GoodIn wsX6_expect wsX2_add := goodIn_r _ [37, 38, 39, 40, 41, 42, 69, 70, 71, 72, 73] (by decide +kernel) (by decide +kernel)
set_option maxRecDepth 20000 in
theorem gX6_expect_X2_add : GoodIn wsX6_expect (wsV RX6 212 RX2 yX2_add wsX2_add) := goodIn_app (goodIn_of _ (by decide +kernel)) ggX6_expect_X2_add
theorem dX6_expect_0 : decode cX6_expect 0 = .ok (.aload_n 0, 1) := by decide +kernel
theorem dX6_expect_1 : decode cX6_expect 1 = .ok (.getfield 10, 3) := by decide +kernel
theorem dX6_expect_4 : decode cX6_expect 4 = .ok (.iload_n 1, 1) := by decide +kernel
theorem dX6_expect_5 : decode cX6_expect 5 = .ok (.invokevirtual 137, 3) := by decide +kernel
theorem dX6_expect_8 : decode cX6_expect 8 = .ok (.astore 6, 2) := by decide +kernel
theorem dX6_expect_10 : decode cX6_expect 10 = .ok (.aload 6, 2) := by decide +kernel
theorem dX6_expect_12 : decode cX6_expect 12 = .ok (.ifnull 19, 3) := by decide +kernel
theorem dX6_expect_15 : decode cX6_expect 15 = .ok (.aload_n 0, 1) := by decide +kernel
theorem dX6_expect_16 : decode cX6_expect 16 = .ok (.getfield 10, 3) := by decide +kernel
theorem dX6_expect_19 : decode cX6_expect 19 = .ok (.iload_n 2, 1) := by decide +kernel
theorem dX6_expect_20 : decode cX6_expect 20 = .ok (.iload_n 3, 1) := by decide +kernel
theorem dX6_expect_21 : decode cX6_expect 21 = .ok (.iload 4, 2) := by decide +kernel
theorem dX6_expect_23 : decode cX6_expect 23 = .ok (.iload 5, 2) := by decide +kernel
theorem dX6_expect_25 : decode cX6_expect 25 = .ok (.invokevirtual 152, 3) := by decide +kernel
theorem dX6_expect_28 : decode cX6_expect 28 = .ok (.ifCond .ne 7, 3) := by decide +kernel
theorem dX6_expect_31 : decode cX6_expect 31 = .ok (.iconst (-1), 1) := by decide +kernel
theorem dX6_expect_32 : decode cX6_expect 32 = .ok (.goto 17, 3) := by decide +kernel
theorem dX6_expect_35 : decode cX6_expect 35 = .ok (.aload 6, 2) := by decide +kernel
theorem dX6_expect_37 : decode cX6_expect 37 = .ok (.getfield 202, 3) := by decide +kernel
theorem dX6_expect_40 : decode cX6_expect 40 = .ok (.iload_n 2, 1) := by decide +kernel
theorem dX6_expect_41 : decode cX6_expect 41 = .ok (.iload_n 3, 1) := by decide +kernel
theorem dX6_expect_42 : decode cX6_expect 42 = .ok (.iload 4, 2) := by decide +kernel
theorem dX6_expect_44 : decode cX6_expect 44 = .ok (.iload 5, 2) := by decide +kernel
theorem dX6_expect_46 : decode cX6_expect 46 = .ok (.invokevirtual 212, 3) := by decide +kernel
theorem dX6_expect_49 : decode cX6_expect 49 = .ok (.ireturn, 1) := by decide +kernel
set_option maxRecDepth 20000 in
theorem ggX6_forget_X4_tillAt : GoodIn wsX6_forget wsX4_tillAt := goodIn_r _ [8, 9, 10, 11, 12, 13, 32, 33, 34, 35, 36, 37, 38, 39, 40] (by decide +kernel) (by decide +kernel)
set_option maxRecDepth 20000 in
theorem gX6_forget_X4_tillAt : GoodIn wsX6_forget (wsV RX6 137 RX4 yX4_tillAt wsX4_tillAt) := goodIn_app (goodIn_of _ (by decide +kernel)) ggX6_forget_X4_tillAt
theorem dX6_forget_0 : decode cX6_forget 0 = .ok (.aload_n 0, 1) := by decide +kernel
theorem dX6_forget_1 : decode cX6_forget 1 = .ok (.getfield 10, 3) := by decide +kernel
theorem dX6_forget_4 : decode cX6_forget 4 = .ok (.iload_n 1, 1) := by decide +kernel
theorem dX6_forget_5 : decode cX6_forget 5 = .ok (.invokevirtual 137, 3) := by decide +kernel
theorem dX6_forget_8 : decode cX6_forget 8 = .ok (.astore_n 2, 1) := by decide +kernel
theorem dX6_forget_9 : decode cX6_forget 9 = .ok (.aload_n 2, 1) := by decide +kernel
theorem dX6_forget_10 : decode cX6_forget 10 = .ok (.ifnonnull 5, 3) := by decide +kernel
theorem dX6_forget_13 : decode cX6_forget 13 = .ok (.iconst 0, 1) := by decide +kernel
theorem dX6_forget_14 : decode cX6_forget 14 = .ok (.ireturn, 1) := by decide +kernel
theorem dX6_forget_15 : decode cX6_forget 15 = .ok (.aload_n 2, 1) := by decide +kernel
theorem dX6_forget_16 : decode cX6_forget 16 = .ok (.getfield 202, 3) := by decide +kernel
theorem dX6_forget_19 : decode cX6_forget 19 = .ok (.iconst 0, 1) := by decide +kernel
theorem dX6_forget_20 : decode cX6_forget 20 = .ok (.putfield 206, 3) := by decide +kernel
theorem dX6_forget_23 : decode cX6_forget 23 = .ok (.iconst 1, 1) := by decide +kernel
theorem dX6_forget_24 : decode cX6_forget 24 = .ok (.ireturn, 1) := by decide +kernel
set_option maxRecDepth 20000 in
theorem ggX6_wanted_X4_tillAt : GoodIn wsX6_wanted wsX4_tillAt := goodIn_r _ [7, 8, 9, 10, 11, 12, 86, 87, 88, 89, 90, 91, 92, 93, 94] (by decide +kernel) (by decide +kernel)
set_option maxRecDepth 20000 in
theorem gX6_wanted_X4_tillAt : GoodIn wsX6_wanted (wsV RX6 137 RX4 yX4_tillAt wsX4_tillAt) := goodIn_app (goodIn_of _ (by decide +kernel)) ggX6_wanted_X4_tillAt
set_option maxRecDepth 20000 in
theorem ggX6_wanted_X4_isCoin : GoodIn wsX6_wanted wsX4_isCoin := goodIn_r _ [16, 17, 18, 19, 6, 20, 21, 22, 23, 24, 25, 26, 27, 28, 10, 11, 12, 86, 87, 88, 89, 90, 91, 92, 93, 94, 95, 96, 97, 98] (by decide +kernel) (by decide +kernel)
set_option maxRecDepth 20000 in
theorem gX6_wanted_X4_isCoin : GoodIn wsX6_wanted (wsV RX6 141 RX4 yX4_isCoin wsX4_isCoin) := goodIn_app (goodIn_of _ (by decide +kernel)) ggX6_wanted_X4_isCoin
set_option maxRecDepth 20000 in
theorem ggX6_wanted_X6_mostLacking : GoodIn wsX6_wanted wsX6_mostLacking := goodIn_r _ [32, 33, 34, 1, 35, 36, 37, 38, 39, 40, 41, 42, 43, 44, 45, 46, 47, 6, 48, 49, 50, 17, 18, 19, 20, 21, 22, 23, 24, 25, 26, 27, 28, 10, 11, 12, 51, 52, 53, 54, 55, 56, 57, 58, 59, 60, 61, 62, 63, 64, 65, 66, 67, 68, 69, 70, 71, 72, 99, 100, 101, 102, 103, 73, 74, 75, 76, 77, 78, 86, 87, 88, 89, 90, 91, 92, 93, 94, 95, 96, 97, 98] (by decide +kernel) (by decide +kernel)
set_option maxRecDepth 20000 in
theorem gX6_wanted_X6_mostLacking : GoodIn wsX6_wanted (wsV RX6 214 RX6 yX6_mostLacking wsX6_mostLacking) := goodIn_app (goodIn_of _ (by decide +kernel)) ggX6_wanted_X6_mostLacking
theorem dX6_wanted_0 : decode cX6_wanted 0 = .ok (.aload_n 0, 1) := by decide +kernel
theorem dX6_wanted_1 : decode cX6_wanted 1 = .ok (.getfield 10, 3) := by decide +kernel
theorem dX6_wanted_4 : decode cX6_wanted 4 = .ok (.iload_n 1, 1) := by decide +kernel
theorem dX6_wanted_5 : decode cX6_wanted 5 = .ok (.invokevirtual 137, 3) := by decide +kernel
theorem dX6_wanted_8 : decode cX6_wanted 8 = .ok (.astore_n 3, 1) := by decide +kernel
theorem dX6_wanted_9 : decode cX6_wanted 9 = .ok (.aload_n 3, 1) := by decide +kernel
theorem dX6_wanted_10 : decode cX6_wanted 10 = .ok (.ifnull 15, 3) := by decide +kernel
theorem dX6_wanted_13 : decode cX6_wanted 13 = .ok (.aload_n 0, 1) := by decide +kernel
theorem dX6_wanted_14 : decode cX6_wanted 14 = .ok (.getfield 10, 3) := by decide +kernel
theorem dX6_wanted_17 : decode cX6_wanted 17 = .ok (.iconst 1, 1) := by decide +kernel
theorem dX6_wanted_18 : decode cX6_wanted 18 = .ok (.iload_n 2, 1) := by decide +kernel
theorem dX6_wanted_19 : decode cX6_wanted 19 = .ok (.invokevirtual 141, 3) := by decide +kernel
theorem dX6_wanted_22 : decode cX6_wanted 22 = .ok (.ifCond .ne 7, 3) := by decide +kernel
theorem dX6_wanted_25 : decode cX6_wanted 25 = .ok (.iconst (-1), 1) := by decide +kernel
theorem dX6_wanted_26 : decode cX6_wanted 26 = .ok (.goto 12, 3) := by decide +kernel
theorem dX6_wanted_29 : decode cX6_wanted 29 = .ok (.aload_n 0, 1) := by decide +kernel
theorem dX6_wanted_30 : decode cX6_wanted 30 = .ok (.aload_n 3, 1) := by decide +kernel
theorem dX6_wanted_31 : decode cX6_wanted 31 = .ok (.getfield 202, 3) := by decide +kernel
theorem dX6_wanted_34 : decode cX6_wanted 34 = .ok (.iload_n 2, 1) := by decide +kernel
theorem dX6_wanted_35 : decode cX6_wanted 35 = .ok (.invokevirtual 214, 3) := by decide +kernel
theorem dX6_wanted_38 : decode cX6_wanted 38 = .ok (.ireturn, 1) := by decide +kernel
set_option maxRecDepth 20000 in
theorem ggX6_about_X4_detail : GoodIn wsX6_about wsX4_detail := goodIn_r _ [6, 7, 8, 9, 10, 11, 12, 13, 14, 15, 5, 16, 17, 18, 19, 20, 21, 22, 23, 24, 25, 26, 27, 51, 52, 53, 54, 55, 56, 57, 58, 59, 60, 61, 62] (by decide +kernel) (by decide +kernel)
set_option maxRecDepth 20000 in
theorem gX6_about_X4_detail : GoodIn wsX6_about (wsV RX6 218 RX4 yX4_detail wsX4_detail) := goodIn_app (goodIn_of _ (by decide +kernel)) ggX6_about_X4_detail
set_option maxRecDepth 20000 in
theorem ggX6_about_X4_coinageOf : GoodIn wsX6_about wsX4_coinageOf := goodIn_r _ [31, 32, 33, 51, 52, 53, 54, 55, 56, 57, 58, 59] (by decide +kernel) (by decide +kernel)
set_option maxRecDepth 20000 in
theorem gX6_about_X4_coinageOf : GoodIn wsX6_about (wsV RX6 39 RX4 yX4_coinageOf wsX4_coinageOf) := goodIn_app (goodIn_of _ (by decide +kernel)) ggX6_about_X4_coinageOf
set_option maxRecDepth 20000 in
theorem ggX6_about_X1_detail : GoodIn wsX6_about wsX1_detail := goodIn_r _ [38, 39, 40, 41, 42, 43, 37, 44, 25, 26, 27, 63, 64, 65, 66] (by decide +kernel) (by decide +kernel)
set_option maxRecDepth 20000 in
theorem gX6_about_X1_detail : GoodIn wsX6_about (wsV RX6 221 RX1 yX1_detail wsX1_detail) := goodIn_app (goodIn_of _ (by decide +kernel)) ggX6_about_X1_detail
theorem dX6_about_0 : decode cX6_about 0 = .ok (.iload_n 1, 1) := by decide +kernel
theorem dX6_about_1 : decode cX6_about 1 = .ok (.iconst 2, 1) := by decide +kernel
theorem dX6_about_2 : decode cX6_about 2 = .ok (.if_icmp .ne 12, 3) := by decide +kernel
theorem dX6_about_5 : decode cX6_about 5 = .ok (.aload_n 0, 1) := by decide +kernel
theorem dX6_about_6 : decode cX6_about 6 = .ok (.getfield 10, 3) := by decide +kernel
theorem dX6_about_9 : decode cX6_about 9 = .ok (.iload_n 2, 1) := by decide +kernel
theorem dX6_about_10 : decode cX6_about 10 = .ok (.invokevirtual 218, 3) := by decide +kernel
theorem dX6_about_13 : decode cX6_about 13 = .ok (.ireturn, 1) := by decide +kernel
theorem dX6_about_14 : decode cX6_about 14 = .ok (.aload_n 0, 1) := by decide +kernel
theorem dX6_about_15 : decode cX6_about 15 = .ok (.getfield 10, 3) := by decide +kernel
theorem dX6_about_18 : decode cX6_about 18 = .ok (.iload_n 1, 1) := by decide +kernel
theorem dX6_about_19 : decode cX6_about 19 = .ok (.invokevirtual 39, 3) := by decide +kernel
theorem dX6_about_22 : decode cX6_about 22 = .ok (.astore_n 3, 1) := by decide +kernel
theorem dX6_about_23 : decode cX6_about 23 = .ok (.aload_n 3, 1) := by decide +kernel
theorem dX6_about_24 : decode cX6_about 24 = .ok (.ifnonnull 7, 3) := by decide +kernel
theorem dX6_about_27 : decode cX6_about 27 = .ok (.iconst (-1), 1) := by decide +kernel
theorem dX6_about_28 : decode cX6_about 28 = .ok (.goto 8, 3) := by decide +kernel
theorem dX6_about_31 : decode cX6_about 31 = .ok (.aload_n 3, 1) := by decide +kernel
theorem dX6_about_32 : decode cX6_about 32 = .ok (.iload_n 2, 1) := by decide +kernel
theorem dX6_about_33 : decode cX6_about 33 = .ok (.invokevirtual 221, 3) := by decide +kernel
theorem dX6_about_36 : decode cX6_about 36 = .ok (.ireturn, 1) := by decide +kernel
set_option maxRecDepth 20000 in
theorem ggX6_image_X6_within : GoodIn wsX6_image wsX6_within := goodIn_r _ [7] (by decide +kernel) (by decide +kernel)
set_option maxRecDepth 20000 in
theorem gX6_image_X6_within : GoodIn wsX6_image (va_wsS RX6 49 yX6_within wsX6_within) := goodIn_app (goodIn_of _ (by decide +kernel)) ggX6_image_X6_within
set_option maxRecDepth 20000 in
theorem ggX6_image_X4_copyFrom : GoodIn wsX6_image wsX4_copyFrom := goodIn_r _ [12, 13, 14, 15, 16, 17, 18, 19, 20, 21, 22, 23, 24, 25, 26, 27, 28, 29, 30, 31, 32, 33, 34, 35, 36, 37, 38, 39, 40, 41, 42, 43, 44, 45, 46, 47, 48, 49, 50, 51, 52, 53, 54, 55, 56, 57, 58, 59, 60, 61, 62, 63, 64, 65, 66, 67, 68, 75, 76, 77, 78, 79, 80, 81, 82, 83, 84, 85, 86, 87, 88, 89, 90, 91, 92, 93, 94, 95, 96, 97, 98, 99, 100, 101, 102] (by decide +kernel) (by decide +kernel)
set_option maxRecDepth 20000 in
theorem gX6_image_X4_copyFrom : GoodIn wsX6_image (wsV RX6 222 RX4 yX4_copyFrom wsX4_copyFrom) := goodIn_app (goodIn_of _ (by decide +kernel)) ggX6_image_X4_copyFrom
theorem dX6_image_0 : decode cX6_image 0 = .ok (.iconst 0, 1) := by decide +kernel
theorem dX6_image_1 : decode cX6_image 1 = .ok (.iload_n 1, 1) := by decide +kernel
theorem dX6_image_2 : decode cX6_image 2 = .ok (.iconst 2, 1) := by decide +kernel
theorem dX6_image_3 : decode cX6_image 3 = .ok (.invokestatic 49, 3) := by decide +kernel
theorem dX6_image_6 : decode cX6_image 6 = .ok (.ifCond .ne 5, 3) := by decide +kernel
theorem dX6_image_9 : decode cX6_image 9 = .ok (.iconst 0, 1) := by decide +kernel
theorem dX6_image_10 : decode cX6_image 10 = .ok (.ireturn, 1) := by decide +kernel
theorem dX6_image_11 : decode cX6_image 11 = .ok (.aload_n 0, 1) := by decide +kernel
theorem dX6_image_12 : decode cX6_image 12 = .ok (.getfield 16, 3) := by decide +kernel
theorem dX6_image_15 : decode cX6_image 15 = .ok (.iload_n 1, 1) := by decide +kernel
theorem dX6_image_16 : decode cX6_image 16 = .ok (.aaload, 1) := by decide +kernel
theorem dX6_image_17 : decode cX6_image 17 = .ok (.aload_n 0, 1) := by decide +kernel
theorem dX6_image_18 : decode cX6_image 18 = .ok (.getfield 10, 3) := by decide +kernel
theorem dX6_image_21 : decode cX6_image 21 = .ok (.invokevirtual 222, 3) := by decide +kernel
theorem dX6_image_24 : decode cX6_image 24 = .ok (.aload_n 0, 1) := by decide +kernel
theorem dX6_image_25 : decode cX6_image 25 = .ok (.getfield 20, 3) := by decide +kernel
theorem dX6_image_28 : decode cX6_image 28 = .ok (.iload_n 1, 1) := by decide +kernel
theorem dX6_image_29 : decode cX6_image 29 = .ok (.iconst 1, 1) := by decide +kernel
theorem dX6_image_30 : decode cX6_image 30 = .ok (.bastore, 1) := by decide +kernel
theorem dX6_image_31 : decode cX6_image 31 = .ok (.iconst 1, 1) := by decide +kernel
theorem dX6_image_32 : decode cX6_image 32 = .ok (.ireturn, 1) := by decide +kernel
set_option maxRecDepth 20000 in
theorem ggX6_again_X6_within : GoodIn wsX6_again wsX6_within := goodIn_r _ [7] (by decide +kernel) (by decide +kernel)
set_option maxRecDepth 20000 in
theorem gX6_again_X6_within : GoodIn wsX6_again (va_wsS RX6 49 yX6_within wsX6_within) := goodIn_app (goodIn_of _ (by decide +kernel)) ggX6_again_X6_within
set_option maxRecDepth 20000 in
theorem ggX6_again_X4_copyFrom : GoodIn wsX6_again wsX4_copyFrom := goodIn_r _ [12, 13, 14, 15, 16, 17, 18, 19, 20, 21, 22, 23, 24, 25, 26, 27, 28, 29, 30, 31, 32, 33, 34, 35, 36, 37, 38, 39, 40, 41, 42, 43, 44, 45, 46, 47, 48, 49, 50, 51, 52, 53, 54, 55, 56, 57, 58, 59, 60, 61, 62, 63, 64, 65, 66, 67, 68, 75, 76, 77, 78, 79, 80, 81, 82, 83, 84, 85, 86, 87, 88, 89, 90, 91, 92, 93, 94, 95, 96, 97, 98, 99, 100, 101, 102] (by decide +kernel) (by decide +kernel)
set_option maxRecDepth 20000 in
theorem gX6_again_X4_copyFrom : GoodIn wsX6_again (wsV RX6 222 RX4 yX4_copyFrom wsX4_copyFrom) := goodIn_app (goodIn_of _ (by decide +kernel)) ggX6_again_X4_copyFrom
theorem dX6_again_0 : decode cX6_again 0 = .ok (.iconst 0, 1) := by decide +kernel
theorem dX6_again_1 : decode cX6_again 1 = .ok (.iload_n 1, 1) := by decide +kernel
theorem dX6_again_2 : decode cX6_again 2 = .ok (.iconst 2, 1) := by decide +kernel
theorem dX6_again_3 : decode cX6_again 3 = .ok (.invokestatic 49, 3) := by decide +kernel
theorem dX6_again_6 : decode cX6_again 6 = .ok (.ifCond .eq 12, 3) := by decide +kernel
theorem dX6_again_9 : decode cX6_again 9 = .ok (.aload_n 0, 1) := by decide +kernel
theorem dX6_again_10 : decode cX6_again 10 = .ok (.getfield 20, 3) := by decide +kernel
theorem dX6_again_13 : decode cX6_again 13 = .ok (.iload_n 1, 1) := by decide +kernel
theorem dX6_again_14 : decode cX6_again 14 = .ok (.baload, 1) := by decide +kernel
theorem dX6_again_15 : decode cX6_again 15 = .ok (.ifCond .ne 5, 3) := by decide +kernel
theorem dX6_again_18 : decode cX6_again 18 = .ok (.iconst 0, 1) := by decide +kernel
theorem dX6_again_19 : decode cX6_again 19 = .ok (.ireturn, 1) := by decide +kernel
theorem dX6_again_20 : decode cX6_again 20 = .ok (.aload_n 0, 1) := by decide +kernel
theorem dX6_again_21 : decode cX6_again 21 = .ok (.getfield 10, 3) := by decide +kernel
theorem dX6_again_24 : decode cX6_again 24 = .ok (.aload_n 0, 1) := by decide +kernel
theorem dX6_again_25 : decode cX6_again 25 = .ok (.getfield 16, 3) := by decide +kernel
theorem dX6_again_28 : decode cX6_again 28 = .ok (.iload_n 1, 1) := by decide +kernel
theorem dX6_again_29 : decode cX6_again 29 = .ok (.aaload, 1) := by decide +kernel
theorem dX6_again_30 : decode cX6_again 30 = .ok (.invokevirtual 222, 3) := by decide +kernel
theorem dX6_again_33 : decode cX6_again 33 = .ok (.iconst 1, 1) := by decide +kernel
theorem dX6_again_34 : decode cX6_again 34 = .ok (.ireturn, 1) := by decide +kernel
theorem dX6_within_0 : decode cX6_within 0 = .ok (.iload_n 0, 1) := by decide +kernel
theorem dX6_within_1 : decode cX6_within 1 = .ok (.iload_n 1, 1) := by decide +kernel
theorem dX6_within_2 : decode cX6_within 2 = .ok (.if_icmp .gt 12, 3) := by decide +kernel
theorem dX6_within_5 : decode cX6_within 5 = .ok (.iload_n 1, 1) := by decide +kernel
theorem dX6_within_6 : decode cX6_within 6 = .ok (.iload_n 2, 1) := by decide +kernel
theorem dX6_within_7 : decode cX6_within 7 = .ok (.if_icmp .gt 7, 3) := by decide +kernel
theorem dX6_within_10 : decode cX6_within 10 = .ok (.iconst 1, 1) := by decide +kernel
theorem dX6_within_11 : decode cX6_within 11 = .ok (.goto 4, 3) := by decide +kernel
theorem dX6_within_14 : decode cX6_within 14 = .ok (.iconst 0, 1) := by decide +kernel
theorem dX6_within_15 : decode cX6_within 15 = .ok (.ireturn, 1) := by decide +kernel
set_option maxRecDepth 20000 in
theorem ggX6_isRule_X6_within : GoodIn wsX6_isRule wsX6_within := goodIn_r _ [4] (by decide +kernel) (by decide +kernel)
set_option maxRecDepth 20000 in
theorem gX6_isRule_X6_within : GoodIn wsX6_isRule (va_wsS RX6 49 yX6_within wsX6_within) := goodIn_app (goodIn_of _ (by decide +kernel)) ggX6_isRule_X6_within
theorem dX6_isRule_0 : decode cX6_isRule 0 = .ok (.iconst 0, 1) := by decide +kernel
theorem dX6_isRule_1 : decode cX6_isRule 1 = .ok (.iload_n 0, 1) := by decide +kernel
theorem dX6_isRule_2 : decode cX6_isRule 2 = .ok (.iconst 3, 1) := by decide +kernel
theorem dX6_isRule_3 : decode cX6_isRule 3 = .ok (.invokestatic 49, 3) := by decide +kernel
theorem dX6_isRule_6 : decode cX6_isRule 6 = .ok (.ireturn, 1) := by decide +kernel
set_option maxRecDepth 20000 in
theorem ggX6_isSum_X6_within : GoodIn wsX6_isSum wsX6_within := goodIn_r _ [4] (by decide +kernel) (by decide +kernel)
set_option maxRecDepth 20000 in
theorem gX6_isSum_X6_within : GoodIn wsX6_isSum (va_wsS RX6 49 yX6_within wsX6_within) := goodIn_app (goodIn_of _ (by decide +kernel)) ggX6_isSum_X6_within
theorem dX6_isSum_0 : decode cX6_isSum 0 = .ok (.iconst 0, 1) := by decide +kernel
theorem dX6_isSum_1 : decode cX6_isSum 1 = .ok (.iload_n 0, 1) := by decide +kernel
theorem dX6_isSum_2 : decode cX6_isSum 2 = .ok (.sipush 2000, 3) := by decide +kernel
theorem dX6_isSum_5 : decode cX6_isSum 5 = .ok (.invokestatic 49, 3) := by decide +kernel
theorem dX6_isSum_8 : decode cX6_isSum 8 = .ok (.ireturn, 1) := by decide +kernel
theorem dX6_wholeTimes_0 : decode cX6_wholeTimes 0 = .ok (.iload_n 1, 1) := by decide +kernel
theorem dX6_wholeTimes_1 : decode cX6_wholeTimes 1 = .ok (.iconst 1, 1) := by decide +kernel
theorem dX6_wholeTimes_2 : decode cX6_wholeTimes 2 = .ok (.if_icmp .ge 7, 3) := by decide +kernel
theorem dX6_wholeTimes_5 : decode cX6_wholeTimes 5 = .ok (.iconst 0, 1) := by decide +kernel
theorem dX6_wholeTimes_6 : decode cX6_wholeTimes 6 = .ok (.goto 6, 3) := by decide +kernel
theorem dX6_wholeTimes_9 : decode cX6_wholeTimes 9 = .ok (.iload_n 0, 1) := by decide +kernel
theorem dX6_wholeTimes_10 : decode cX6_wholeTimes 10 = .ok (.iload_n 1, 1) := by decide +kernel
theorem dX6_wholeTimes_11 : decode cX6_wholeTimes 11 = .ok (.idiv, 1) := by decide +kernel
theorem dX6_wholeTimes_12 : decode cX6_wholeTimes 12 = .ok (.ireturn, 1) := by decide +kernel
set_option maxRecDepth 20000 in
theorem ggX6_startOfWays_X4_gainOf : GoodIn wsX6_startOfWays wsX4_gainOf := goodIn_r _ [9, 10, 11, 12, 13, 14, 15, 16, 17, 8, 18, 19, 20, 21, 22, 23, 24, 25, 32, 33, 34, 35, 36, 37, 38, 39, 40, 41, 42, 43] (by decide +kernel) (by decide +kernel)
set_option maxRecDepth 20000 in
theorem gX6_startOfWays_X4_gainOf : GoodIn wsX6_startOfWays (wsV RX6 92 RX4 yX4_gainOf wsX4_gainOf) := goodIn_app (goodIn_of _ (by decide +kernel)) ggX6_startOfWays_X4_gainOf
theorem dX6_startOfWays_0 : decode cX6_startOfWays 0 = .ok (.lconst 0, 1) := by decide +kernel
theorem dX6_startOfWays_1 : decode cX6_startOfWays 1 = .ok (.lstore_n 1, 1) := by decide +kernel
theorem dX6_startOfWays_2 : decode cX6_startOfWays 2 = .ok (.lconst 0, 1) := by decide +kernel
theorem dX6_startOfWays_3 : decode cX6_startOfWays 3 = .ok (.lstore_n 3, 1) := by decide +kernel
theorem dX6_startOfWays_4 : decode cX6_startOfWays 4 = .ok (.iconst 0, 1) := by decide +kernel
theorem dX6_startOfWays_5 : decode cX6_startOfWays 5 = .ok (.istore 5, 2) := by decide +kernel
theorem dX6_startOfWays_7 : decode cX6_startOfWays 7 = .ok (.iload 5, 2) := by decide +kernel
theorem dX6_startOfWays_9 : decode cX6_startOfWays 9 = .ok (.aload_n 0, 1) := by decide +kernel
theorem dX6_startOfWays_10 : decode cX6_startOfWays 10 = .ok (.getfield 10, 3) := by decide +kernel
theorem dX6_startOfWays_13 : decode cX6_startOfWays 13 = .ok (.getfield 64, 3) := by decide +kernel
theorem dX6_startOfWays_16 : decode cX6_startOfWays 16 = .ok (.getfield 89, 3) := by decide +kernel
theorem dX6_startOfWays_19 : decode cX6_startOfWays 19 = .ok (.if_icmp .ge 57, 3) := by decide +kernel
theorem dX6_startOfWays_22 : decode cX6_startOfWays 22 = .ok (.aload_n 0, 1) := by decide +kernel
theorem dX6_startOfWays_23 : decode cX6_startOfWays 23 = .ok (.getfield 10, 3) := by decide +kernel
theorem dX6_startOfWays_26 : decode cX6_startOfWays 26 = .ok (.iload 5, 2) := by decide +kernel
theorem dX6_startOfWays_28 : decode cX6_startOfWays 28 = .ok (.iconst 0, 1) := by decide +kernel
theorem dX6_startOfWays_29 : decode cX6_startOfWays 29 = .ok (.invokevirtual 92, 3) := by decide +kernel
theorem dX6_startOfWays_32 : decode cX6_startOfWays 32 = .ok (.lstore 6, 2) := by decide +kernel
theorem dX6_startOfWays_34 : decode cX6_startOfWays 34 = .ok (.aload_n 0, 1) := by decide +kernel
theorem dX6_startOfWays_35 : decode cX6_startOfWays 35 = .ok (.getfield 10, 3) := by decide +kernel
theorem dX6_startOfWays_38 : decode cX6_startOfWays 38 = .ok (.iload 5, 2) := by decide +kernel
theorem dX6_startOfWays_40 : decode cX6_startOfWays 40 = .ok (.iconst 1, 1) := by decide +kernel
theorem dX6_startOfWays_41 : decode cX6_startOfWays 41 = .ok (.invokevirtual 92, 3) := by decide +kernel
theorem dX6_startOfWays_44 : decode cX6_startOfWays 44 = .ok (.lload 6, 2) := by decide +kernel
theorem dX6_startOfWays_46 : decode cX6_startOfWays 46 = .ok (.lsub, 1) := by decide +kernel
theorem dX6_startOfWays_47 : decode cX6_startOfWays 47 = .ok (.lstore 8, 2) := by decide +kernel
theorem dX6_startOfWays_49 : decode cX6_startOfWays 49 = .ok (.aload_n 0, 1) := by decide +kernel
theorem dX6_startOfWays_50 : decode cX6_startOfWays 50 = .ok (.getfield 35, 3) := by decide +kernel
theorem dX6_startOfWays_53 : decode cX6_startOfWays 53 = .ok (.iload 5, 2) := by decide +kernel
theorem dX6_startOfWays_55 : decode cX6_startOfWays 55 = .ok (.lload 8, 2) := by decide +kernel
theorem dX6_startOfWays_57 : decode cX6_startOfWays 57 = .ok (.lload_n 3, 1) := by decide +kernel
theorem dX6_startOfWays_58 : decode cX6_startOfWays 58 = .ok (.lsub, 1) := by decide +kernel
theorem dX6_startOfWays_59 : decode cX6_startOfWays 59 = .ok (.lastore, 1) := by decide +kernel
theorem dX6_startOfWays_60 : decode cX6_startOfWays 60 = .ok (.lload_n 3, 1) := by decide +kernel
theorem dX6_startOfWays_61 : decode cX6_startOfWays 61 = .ok (.lload 8, 2) := by decide +kernel
theorem dX6_startOfWays_63 : decode cX6_startOfWays 63 = .ok (.ladd, 1) := by decide +kernel
theorem dX6_startOfWays_64 : decode cX6_startOfWays 64 = .ok (.lstore_n 3, 1) := by decide +kernel
theorem dX6_startOfWays_65 : decode cX6_startOfWays 65 = .ok (.lload_n 1, 1) := by decide +kernel
theorem dX6_startOfWays_66 : decode cX6_startOfWays 66 = .ok (.lload 6, 2) := by decide +kernel
theorem dX6_startOfWays_68 : decode cX6_startOfWays 68 = .ok (.ladd, 1) := by decide +kernel
theorem dX6_startOfWays_69 : decode cX6_startOfWays 69 = .ok (.lstore_n 1, 1) := by decide +kernel
theorem dX6_startOfWays_70 : decode cX6_startOfWays 70 = .ok (.iinc 5 1, 3) := by decide +kernel
theorem dX6_startOfWays_73 : decode cX6_startOfWays 73 = .ok (.goto (-66), 3) := by decide +kernel
theorem dX6_startOfWays_76 : decode cX6_startOfWays 76 = .ok (.lload_n 1, 1) := by decide +kernel
theorem dX6_startOfWays_77 : decode cX6_startOfWays 77 = .ok (.lreturn, 1) := by decide +kernel
set_option maxRecDepth 20000 in
theorem ggX6_mostLacking_X4_spareParts : GoodIn wsX6_mostLacking wsX4_spareParts := goodIn_r _ [18, 19, 20, 21, 22, 23, 17, 24, 25, 26, 27, 28, 29, 30, 31, 32, 33, 34, 35, 36, 37, 38, 39, 40, 78, 79, 80, 81, 69, 70, 71, 72, 73, 74, 75, 76, 77] (by decide +kernel) (by decide +kernel)
set_option maxRecDepth 20000 in
theorem gX6_mostLacking_X4_spareParts : GoodIn wsX6_mostLacking (wsV RX6 156 RX4 yX4_spareParts wsX4_spareParts) := goodIn_app (goodIn_of _ (by decide +kernel)) ggX6_mostLacking_X4_spareParts
set_option maxRecDepth 20000 in
theorem ggX6_mostLacking_X6_wholeTimes : GoodIn wsX6_mostLacking wsX6_wholeTimes := goodIn_r _ [43] (by decide +kernel) (by decide +kernel)
set_option maxRecDepth 20000 in
theorem gX6_mostLacking_X6_wholeTimes : GoodIn wsX6_mostLacking (va_wsS RX6 160 yX6_wholeTimes wsX6_wholeTimes) := goodIn_app (goodIn_of _ (by decide +kernel)) ggX6_mostLacking_X6_wholeTimes
set_option maxRecDepth 20000 in
theorem ggX6_mostLacking_X1_hasFewest : GoodIn wsX6_mostLacking wsX1_hasFewest := goodIn_r _ [47, 48, 49, 34, 50, 51, 33, 35, 78, 79, 80, 81] (by decide +kernel) (by decide +kernel)
set_option maxRecDepth 20000 in
theorem gX6_mostLacking_X1_hasFewest : GoodIn wsX6_mostLacking (wsV RX6 111 RX1 yX1_hasFewest wsX1_hasFewest) := goodIn_app (goodIn_of _ (by decide +kernel)) ggX6_mostLacking_X1_hasFewest
set_option maxRecDepth 20000 in
theorem ggX6_mostLacking_X1_writeFewest : GoodIn wsX6_mostLacking wsX1_writeFewest := goodIn_r _ [55, 32, 56, 57, 48, 42, 34, 43, 78, 79, 80, 81] (by decide +kernel) (by decide +kernel)
set_option maxRecDepth 20000 in
theorem gX6_mostLacking_X1_writeFewest : GoodIn wsX6_mostLacking (wsV RX6 120 RX1 yX1_writeFewest wsX1_writeFewest) := goodIn_app (goodIn_of _ (by decide +kernel)) ggX6_mostLacking_X1_writeFewest
theorem dX6_mostLacking_0 : decode cX6_mostLacking 0 = .ok (.iconst 0, 1) := by decide +kernel
theorem dX6_mostLacking_1 : decode cX6_mostLacking 1 = .ok (.istore_n 3, 1) := by decide +kernel
theorem dX6_mostLacking_2 : decode cX6_mostLacking 2 = .ok (.iconst 0, 1) := by decide +kernel
theorem dX6_mostLacking_3 : decode cX6_mostLacking 3 = .ok (.istore 4, 2) := by decide +kernel
theorem dX6_mostLacking_5 : decode cX6_mostLacking 5 = .ok (.iconst 0, 1) := by decide +kernel
theorem dX6_mostLacking_6 : decode cX6_mostLacking 6 = .ok (.istore 5, 2) := by decide +kernel
theorem dX6_mostLacking_8 : decode cX6_mostLacking 8 = .ok (.iload 5, 2) := by decide +kernel
theorem dX6_mostLacking_10 : decode cX6_mostLacking 10 = .ok (.aload_n 1, 1) := by decide +kernel
theorem dX6_mostLacking_11 : decode cX6_mostLacking 11 = .ok (.getfield 206, 3) := by decide +kernel
theorem dX6_mostLacking_14 : decode cX6_mostLacking 14 = .ok (.if_icmp .ge 151, 3) := by decide +kernel
theorem dX6_mostLacking_17 : decode cX6_mostLacking 17 = .ok (.aload_n 1, 1) := by decide +kernel
theorem dX6_mostLacking_18 : decode cX6_mostLacking 18 = .ok (.getfield 226, 3) := by decide +kernel
theorem dX6_mostLacking_21 : decode cX6_mostLacking 21 = .ok (.iload 5, 2) := by decide +kernel
theorem dX6_mostLacking_23 : decode cX6_mostLacking 23 = .ok (.iaload, 1) := by decide +kernel
theorem dX6_mostLacking_24 : decode cX6_mostLacking 24 = .ok (.istore 6, 2) := by decide +kernel
theorem dX6_mostLacking_26 : decode cX6_mostLacking 26 = .ok (.aload_n 0, 1) := by decide +kernel
theorem dX6_mostLacking_27 : decode cX6_mostLacking 27 = .ok (.getfield 10, 3) := by decide +kernel
theorem dX6_mostLacking_30 : decode cX6_mostLacking 30 = .ok (.aload_n 1, 1) := by decide +kernel
theorem dX6_mostLacking_31 : decode cX6_mostLacking 31 = .ok (.getfield 229, 3) := by decide +kernel
theorem dX6_mostLacking_34 : decode cX6_mostLacking 34 = .ok (.iload 5, 2) := by decide +kernel
theorem dX6_mostLacking_36 : decode cX6_mostLacking 36 = .ok (.iaload, 1) := by decide +kernel
theorem dX6_mostLacking_37 : decode cX6_mostLacking 37 = .ok (.aload_n 1, 1) := by decide +kernel
theorem dX6_mostLacking_38 : decode cX6_mostLacking 38 = .ok (.getfield 232, 3) := by decide +kernel
theorem dX6_mostLacking_41 : decode cX6_mostLacking 41 = .ok (.iload 5, 2) := by decide +kernel
theorem dX6_mostLacking_43 : decode cX6_mostLacking 43 = .ok (.iaload, 1) := by decide +kernel
theorem dX6_mostLacking_44 : decode cX6_mostLacking 44 = .ok (.aload_n 1, 1) := by decide +kernel
theorem dX6_mostLacking_45 : decode cX6_mostLacking 45 = .ok (.getfield 235, 3) := by decide +kernel
theorem dX6_mostLacking_48 : decode cX6_mostLacking 48 = .ok (.iload 5, 2) := by decide +kernel
theorem dX6_mostLacking_50 : decode cX6_mostLacking 50 = .ok (.iaload, 1) := by decide +kernel
theorem dX6_mostLacking_51 : decode cX6_mostLacking 51 = .ok (.iload 6, 2) := by decide +kernel
theorem dX6_mostLacking_53 : decode cX6_mostLacking 53 = .ok (.invokevirtual 156, 3) := by decide +kernel
theorem dX6_mostLacking_56 : decode cX6_mostLacking 56 = .ok (.istore 7, 2) := by decide +kernel
theorem dX6_mostLacking_58 : decode cX6_mostLacking 58 = .ok (.iload 7, 2) := by decide +kernel
theorem dX6_mostLacking_60 : decode cX6_mostLacking 60 = .ok (.ifCond .ge 7, 3) := by decide +kernel
theorem dX6_mostLacking_63 : decode cX6_mostLacking 63 = .ok (.iconst (-1), 1) := by decide +kernel
theorem dX6_mostLacking_64 : decode cX6_mostLacking 64 = .ok (.goto 15, 3) := by decide +kernel
theorem dX6_mostLacking_67 : decode cX6_mostLacking 67 = .ok (.iload 7, 2) := by decide +kernel
theorem dX6_mostLacking_69 : decode cX6_mostLacking 69 = .ok (.aload_n 0, 1) := by decide +kernel
theorem dX6_mostLacking_70 : decode cX6_mostLacking 70 = .ok (.getfield 10, 3) := by decide +kernel
theorem dX6_mostLacking_73 : decode cX6_mostLacking 73 = .ok (.getfield 61, 3) := by decide +kernel
theorem dX6_mostLacking_76 : decode cX6_mostLacking 76 = .ok (.invokestatic 160, 3) := by decide +kernel
theorem dX6_mostLacking_79 : decode cX6_mostLacking 79 = .ok (.istore 8, 2) := by decide +kernel
theorem dX6_mostLacking_81 : decode cX6_mostLacking 81 = .ok (.aload_n 0, 1) := by decide +kernel
theorem dX6_mostLacking_82 : decode cX6_mostLacking 82 = .ok (.getfield 10, 3) := by decide +kernel
theorem dX6_mostLacking_85 : decode cX6_mostLacking 85 = .ok (.getfield 163, 3) := by decide +kernel
theorem dX6_mostLacking_88 : decode cX6_mostLacking 88 = .ok (.iload 8, 2) := by decide +kernel
theorem dX6_mostLacking_90 : decode cX6_mostLacking 90 = .ok (.invokevirtual 111, 3) := by decide +kernel
theorem dX6_mostLacking_93 : decode cX6_mostLacking 93 = .ok (.ifCond .ne 5, 3) := by decide +kernel
theorem dX6_mostLacking_96 : decode cX6_mostLacking 96 = .ok (.iconst (-1), 1) := by decide +kernel
theorem dX6_mostLacking_97 : decode cX6_mostLacking 97 = .ok (.ireturn, 1) := by decide +kernel
theorem dX6_mostLacking_98 : decode cX6_mostLacking 98 = .ok (.aload_n 1, 1) := by decide +kernel
theorem dX6_mostLacking_99 : decode cX6_mostLacking 99 = .ok (.getfield 232, 3) := by decide +kernel
theorem dX6_mostLacking_102 : decode cX6_mostLacking 102 = .ok (.iload 5, 2) := by decide +kernel
theorem dX6_mostLacking_104 : decode cX6_mostLacking 104 = .ok (.iaload, 1) := by decide +kernel
theorem dX6_mostLacking_105 : decode cX6_mostLacking 105 = .ok (.iconst 1, 1) := by decide +kernel
theorem dX6_mostLacking_106 : decode cX6_mostLacking 106 = .ok (.if_icmp .ne 19, 3) := by decide +kernel
theorem dX6_mostLacking_109 : decode cX6_mostLacking 109 = .ok (.aload_n 1, 1) := by decide +kernel
theorem dX6_mostLacking_110 : decode cX6_mostLacking 110 = .ok (.getfield 235, 3) := by decide +kernel
theorem dX6_mostLacking_113 : decode cX6_mostLacking 113 = .ok (.iload 5, 2) := by decide +kernel
theorem dX6_mostLacking_115 : decode cX6_mostLacking 115 = .ok (.iaload, 1) := by decide +kernel
theorem dX6_mostLacking_116 : decode cX6_mostLacking 116 = .ok (.iload_n 2, 1) := by decide +kernel
theorem dX6_mostLacking_117 : decode cX6_mostLacking 117 = .ok (.if_icmp .ne 8, 3) := by decide +kernel
theorem dX6_mostLacking_120 : decode cX6_mostLacking 120 = .ok (.iload_n 3, 1) := by decide +kernel
theorem dX6_mostLacking_121 : decode cX6_mostLacking 121 = .ok (.iload 6, 2) := by decide +kernel
theorem dX6_mostLacking_123 : decode cX6_mostLacking 123 = .ok (.iadd, 1) := by decide +kernel
theorem dX6_mostLacking_124 : decode cX6_mostLacking 124 = .ok (.istore_n 3, 1) := by decide +kernel
theorem dX6_mostLacking_125 : decode cX6_mostLacking 125 = .ok (.aload_n 0, 1) := by decide +kernel
theorem dX6_mostLacking_126 : decode cX6_mostLacking 126 = .ok (.getfield 10, 3) := by decide +kernel
theorem dX6_mostLacking_129 : decode cX6_mostLacking 129 = .ok (.getfield 163, 3) := by decide +kernel
theorem dX6_mostLacking_132 : decode cX6_mostLacking 132 = .ok (.iload 8, 2) := by decide +kernel
theorem dX6_mostLacking_134 : decode cX6_mostLacking 134 = .ok (.aload_n 0, 1) := by decide +kernel
theorem dX6_mostLacking_135 : decode cX6_mostLacking 135 = .ok (.getfield 31, 3) := by decide +kernel
theorem dX6_mostLacking_138 : decode cX6_mostLacking 138 = .ok (.invokevirtual 120, 3) := by decide +kernel
theorem dX6_mostLacking_141 : decode cX6_mostLacking 141 = .ok (.iload_n 3, 1) := by decide +kernel
theorem dX6_mostLacking_142 : decode cX6_mostLacking 142 = .ok (.aload_n 0, 1) := by decide +kernel
theorem dX6_mostLacking_143 : decode cX6_mostLacking 143 = .ok (.getfield 31, 3) := by decide +kernel
theorem dX6_mostLacking_146 : decode cX6_mostLacking 146 = .ok (.iload_n 2, 1) := by decide +kernel
theorem dX6_mostLacking_147 : decode cX6_mostLacking 147 = .ok (.iaload, 1) := by decide +kernel
theorem dX6_mostLacking_148 : decode cX6_mostLacking 148 = .ok (.isub, 1) := by decide +kernel
theorem dX6_mostLacking_149 : decode cX6_mostLacking 149 = .ok (.istore_n 3, 1) := by decide +kernel
theorem dX6_mostLacking_150 : decode cX6_mostLacking 150 = .ok (.iload 4, 2) := by decide +kernel
theorem dX6_mostLacking_152 : decode cX6_mostLacking 152 = .ok (.iload_n 3, 1) := by decide +kernel
theorem dX6_mostLacking_153 : decode cX6_mostLacking 153 = .ok (.ineg, 1) := by decide +kernel
theorem dX6_mostLacking_154 : decode cX6_mostLacking 154 = .ok (.invokestatic 238, 3) := by decide +kernel
theorem dX6_mostLacking_157 : decode cX6_mostLacking 157 = .ok (.istore 4, 2) := by decide +kernel
theorem dX6_mostLacking_159 : decode cX6_mostLacking 159 = .ok (.iinc 5 1, 3) := by decide +kernel
theorem dX6_mostLacking_162 : decode cX6_mostLacking 162 = .ok (.goto (-154), 3) := by decide +kernel
theorem dX6_mostLacking_165 : decode cX6_mostLacking 165 = .ok (.iload 4, 2) := by decide +kernel
theorem dX6_mostLacking_167 : decode cX6_mostLacking 167 = .ok (.ireturn, 1) := by decide +kernel
theorem dX7_init_0 : decode cX7_init 0 = .ok (.aload_n 0, 1) := by decide +kernel
theorem dX7_init_1 : decode cX7_init 1 = .ok (.invokespecial 1, 3) := by decide +kernel
theorem dX7_init_4 : decode cX7_init 4 = .ok (.aload_n 0, 1) := by decide +kernel
theorem dX7_init_5 : decode cX7_init 5 = .ok (.bipush 8, 2) := by decide +kernel
theorem dX7_init_7 : decode cX7_init 7 = .ok (.newarray .int, 2) := by decide +kernel
theorem dX7_init_9 : decode cX7_init 9 = .ok (.putfield 7, 3) := by decide +kernel
theorem dX7_init_12 : decode cX7_init 12 = .ok (.aload_n 0, 1) := by decide +kernel
theorem dX7_init_13 : decode cX7_init 13 = .ok (.bipush 64, 2) := by decide +kernel
theorem dX7_init_15 : decode cX7_init 15 = .ok (.newarray .int, 2) := by decide +kernel
theorem dX7_init_17 : decode cX7_init 17 = .ok (.putfield 13, 3) := by decide +kernel
theorem dX7_init_20 : decode cX7_init 20 = .ok (.aload_n 0, 1) := by decide +kernel
theorem dX7_init_21 : decode cX7_init 21 = .ok (.bipush 8, 2) := by decide +kernel
theorem dX7_init_23 : decode cX7_init 23 = .ok (.newarray .int, 2) := by decide +kernel
theorem dX7_init_25 : decode cX7_init 25 = .ok (.putfield 16, 3) := by decide +kernel
theorem dX7_init_28 : decode cX7_init 28 = .ok (.aload_n 0, 1) := by decide +kernel
theorem dX7_init_29 : decode cX7_init 29 = .ok (.iconst 4, 1) := by decide +kernel
theorem dX7_init_30 : decode cX7_init 30 = .ok (.newarray .int, 2) := by decide +kernel
theorem dX7_init_32 : decode cX7_init 32 = .ok (.putfield 19, 3) := by decide +kernel
theorem dX7_init_35 : decode cX7_init 35 = .ok (.aload_n 0, 1) := by decide +kernel
theorem dX7_init_36 : decode cX7_init 36 = .ok (.iconst 4, 1) := by decide +kernel
theorem dX7_init_37 : decode cX7_init 37 = .ok (.newarray .int, 2) := by decide +kernel
theorem dX7_init_39 : decode cX7_init 39 = .ok (.putfield 22, 3) := by decide +kernel
theorem dX7_init_42 : decode cX7_init 42 = .ok (.aload_n 0, 1) := by decide +kernel
theorem dX7_init_43 : decode cX7_init 43 = .ok (.bipush 56, 2) := by decide +kernel
theorem dX7_init_45 : decode cX7_init 45 = .ok (.newarray .int, 2) := by decide +kernel
theorem dX7_init_47 : decode cX7_init 47 = .ok (.putfield 25, 3) := by decide +kernel
theorem dX7_init_50 : decode cX7_init 50 = .ok (.aload_n 0, 1) := by decide +kernel
theorem dX7_init_51 : decode cX7_init 51 = .ok (.bipush 56, 2) := by decide +kernel
theorem dX7_init_53 : decode cX7_init 53 = .ok (.newarray .int, 2) := by decide +kernel
theorem dX7_init_55 : decode cX7_init 55 = .ok (.putfield 28, 3) := by decide +kernel
theorem dX7_init_58 : decode cX7_init 58 = .ok (.aload_n 0, 1) := by decide +kernel
theorem dX7_init_59 : decode cX7_init 59 = .ok (.iconst 4, 1) := by decide +kernel
theorem dX7_init_60 : decode cX7_init 60 = .ok (.newarray .int, 2) := by decide +kernel
theorem dX7_init_62 : decode cX7_init 62 = .ok (.putfield 31, 3) := by decide +kernel
theorem dX7_init_65 : decode cX7_init 65 = .ok (.aload_n 0, 1) := by decide +kernel
theorem dX7_init_66 : decode cX7_init 66 = .ok (.iconst 4, 1) := by decide +kernel
theorem dX7_init_67 : decode cX7_init 67 = .ok (.newarray .int, 2) := by decide +kernel
theorem dX7_init_69 : decode cX7_init 69 = .ok (.putfield 34, 3) := by decide +kernel
theorem dX7_init_72 : decode cX7_init 72 = .ok (.aload_n 0, 1) := by decide +kernel
theorem dX7_init_73 : decode cX7_init 73 = .ok (.bipush 16, 2) := by decide +kernel
theorem dX7_init_75 : decode cX7_init 75 = .ok (.newarray .int, 2) := by decide +kernel
theorem dX7_init_77 : decode cX7_init 77 = .ok (.putfield 37, 3) := by decide +kernel
theorem dX7_init_80 : decode cX7_init 80 = .ok (.aload_n 0, 1) := by decide +kernel
theorem dX7_init_81 : decode cX7_init 81 = .ok (.bipush 16, 2) := by decide +kernel
theorem dX7_init_83 : decode cX7_init 83 = .ok (.newarray .long, 2) := by decide +kernel
theorem dX7_init_85 : decode cX7_init 85 = .ok (.putfield 40, 3) := by decide +kernel
theorem dX7_init_88 : decode cX7_init 88 = .ok (.aload_n 0, 1) := by decide +kernel
theorem dX7_init_89 : decode cX7_init 89 = .ok (.bipush 16, 2) := by decide +kernel
theorem dX7_init_91 : decode cX7_init 91 = .ok (.newarray .long, 2) := by decide +kernel
theorem dX7_init_93 : decode cX7_init 93 = .ok (.putfield 44, 3) := by decide +kernel
theorem dX7_init_96 : decode cX7_init 96 = .ok (.aload_n 0, 1) := by decide +kernel
theorem dX7_init_97 : decode cX7_init 97 = .ok (.bipush 16, 2) := by decide +kernel
theorem dX7_init_99 : decode cX7_init 99 = .ok (.newarray .int, 2) := by decide +kernel
theorem dX7_init_101 : decode cX7_init 101 = .ok (.putfield 47, 3) := by decide +kernel
theorem dX7_init_104 : decode cX7_init 104 = .ok (.aload_n 0, 1) := by decide +kernel
theorem dX7_init_105 : decode cX7_init 105 = .ok (.sipush 256, 3) := by decide +kernel
theorem dX7_init_108 : decode cX7_init 108 = .ok (.newarray .int, 2) := by decide +kernel
theorem dX7_init_110 : decode cX7_init 110 = .ok (.putfield 50, 3) := by decide +kernel
theorem dX7_init_113 : decode cX7_init 113 = .ok (.aload_n 0, 1) := by decide +kernel
theorem dX7_init_114 : decode cX7_init 114 = .ok (.sipush 128, 3) := by decide +kernel
theorem dX7_init_117 : decode cX7_init 117 = .ok (.newarray .int, 2) := by decide +kernel
theorem dX7_init_119 : decode cX7_init 119 = .ok (.putfield 53, 3) := by decide +kernel
theorem dX7_init_122 : decode cX7_init 122 = .ok (.aload_n 0, 1) := by decide +kernel
theorem dX7_init_123 : decode cX7_init 123 = .ok (.bipush 32, 2) := by decide +kernel
theorem dX7_init_125 : decode cX7_init 125 = .ok (.newarray .int, 2) := by decide +kernel
theorem dX7_init_127 : decode cX7_init 127 = .ok (.putfield 56, 3) := by decide +kernel
theorem dX7_init_130 : decode cX7_init 130 = .ok (.aload_n 0, 1) := by decide +kernel
theorem dX7_init_131 : decode cX7_init 131 = .ok (.sipush 1280, 3) := by decide +kernel
theorem dX7_init_134 : decode cX7_init 134 = .ok (.newarray .int, 2) := by decide +kernel
theorem dX7_init_136 : decode cX7_init 136 = .ok (.putfield 59, 3) := by decide +kernel
theorem dX7_init_139 : decode cX7_init 139 = .ok (.aload_n 0, 1) := by decide +kernel
theorem dX7_init_140 : decode cX7_init 140 = .ok (.bipush 28, 2) := by decide +kernel
theorem dX7_init_142 : decode cX7_init 142 = .ok (.newarray .long, 2) := by decide +kernel
theorem dX7_init_144 : decode cX7_init 144 = .ok (.putfield 62, 3) := by decide +kernel
theorem dX7_init_147 : decode cX7_init 147 = .ok (.aload_n 0, 1) := by decide +kernel
theorem dX7_init_148 : decode cX7_init 148 = .ok (.bipush 8, 2) := by decide +kernel
theorem dX7_init_150 : decode cX7_init 150 = .ok (.newarray .int, 2) := by decide +kernel
theorem dX7_init_152 : decode cX7_init 152 = .ok (.putfield 65, 3) := by decide +kernel
theorem dX7_init_155 : decode cX7_init 155 = .ok (.aload_n 0, 1) := by decide +kernel
theorem dX7_init_156 : decode cX7_init 156 = .ok (.sipush 18009, 3) := by decide +kernel
theorem dX7_init_159 : decode cX7_init 159 = .ok (.newarray .int, 2) := by decide +kernel
theorem dX7_init_161 : decode cX7_init 161 = .ok (.putfield 68, 3) := by decide +kernel
theorem dX7_init_164 : decode cX7_init 164 = .ok (.aload_n 0, 1) := by decide +kernel
theorem dX7_init_165 : decode cX7_init 165 = .ok (.bipush 8, 2) := by decide +kernel
theorem dX7_init_167 : decode cX7_init 167 = .ok (.newarray .int, 2) := by decide +kernel
theorem dX7_init_169 : decode cX7_init 169 = .ok (.putfield 71, 3) := by decide +kernel
theorem dX7_init_172 : decode cX7_init 172 = .ok (.aload_n 0, 1) := by decide +kernel
theorem dX7_init_173 : decode cX7_init 173 = .ok (.bipush 8, 2) := by decide +kernel
theorem dX7_init_175 : decode cX7_init 175 = .ok (.newarray .int, 2) := by decide +kernel
theorem dX7_init_177 : decode cX7_init 177 = .ok (.putfield 74, 3) := by decide +kernel
theorem dX7_init_180 : decode cX7_init 180 = .ok (.aload_n 0, 1) := by decide +kernel
theorem dX7_init_181 : decode cX7_init 181 = .ok (.sipush 2001, 3) := by decide +kernel
theorem dX7_init_184 : decode cX7_init 184 = .ok (.newarray .int, 2) := by decide +kernel
theorem dX7_init_186 : decode cX7_init 186 = .ok (.putfield 77, 3) := by decide +kernel
theorem dX7_init_189 : decode cX7_init 189 = .ok (.aload_n 0, 1) := by decide +kernel
theorem dX7_init_190 : decode cX7_init 190 = .ok (.bipush 8, 2) := by decide +kernel
theorem dX7_init_192 : decode cX7_init 192 = .ok (.newarray .int, 2) := by decide +kernel
theorem dX7_init_194 : decode cX7_init 194 = .ok (.putfield 80, 3) := by decide +kernel
theorem dX7_init_197 : decode cX7_init 197 = .ok (.aload_n 0, 1) := by decide +kernel
theorem dX7_init_198 : decode cX7_init 198 = .ok (.bipush 8, 2) := by decide +kernel
theorem dX7_init_200 : decode cX7_init 200 = .ok (.newarray .int, 2) := by decide +kernel
theorem dX7_init_202 : decode cX7_init 202 = .ok (.putfield 83, 3) := by decide +kernel
theorem dX7_init_205 : decode cX7_init 205 = .ok (.aload_n 0, 1) := by decide +kernel
theorem dX7_init_206 : decode cX7_init 206 = .ok (.iconst 3, 1) := by decide +kernel
theorem dX7_init_207 : decode cX7_init 207 = .ok (.newarray .boolean, 2) := by decide +kernel
theorem dX7_init_209 : decode cX7_init 209 = .ok (.putfield 86, 3) := by decide +kernel
theorem dX7_init_212 : decode cX7_init 212 = .ok (.aload_n 0, 1) := by decide +kernel
theorem dX7_init_213 : decode cX7_init 213 = .ok (.getfield 16, 3) := by decide +kernel
theorem dX7_init_216 : decode cX7_init 216 = .ok (.iconst 0, 1) := by decide +kernel
theorem dX7_init_217 : decode cX7_init 217 = .ok (.iconst 1, 1) := by decide +kernel
theorem dX7_init_218 : decode cX7_init 218 = .ok (.iastore, 1) := by decide +kernel
theorem dX7_init_219 : decode cX7_init 219 = .ok (.aload_n 0, 1) := by decide +kernel
theorem dX7_init_220 : decode cX7_init 220 = .ok (.getfield 16, 3) := by decide +kernel
theorem dX7_init_223 : decode cX7_init 223 = .ok (.iconst 1, 1) := by decide +kernel
theorem dX7_init_224 : decode cX7_init 224 = .ok (.iconst 1, 1) := by decide +kernel
theorem dX7_init_225 : decode cX7_init 225 = .ok (.iastore, 1) := by decide +kernel
theorem dX7_init_226 : decode cX7_init 226 = .ok (.aload_n 0, 1) := by decide +kernel
theorem dX7_init_227 : decode cX7_init 227 = .ok (.getfield 31, 3) := by decide +kernel
theorem dX7_init_230 : decode cX7_init 230 = .ok (.iconst 0, 1) := by decide +kernel
theorem dX7_init_231 : decode cX7_init 231 = .ok (.iconst 1, 1) := by decide +kernel
theorem dX7_init_232 : decode cX7_init 232 = .ok (.iastore, 1) := by decide +kernel
theorem dX7_init_233 : decode cX7_init 233 = .ok (.return_, 1) := by decide +kernel
theorem dX7_in_0 : decode cX7_in 0 = .ok (.iload_n 0, 1) := by decide +kernel
theorem dX7_in_1 : decode cX7_in 1 = .ok (.iload_n 1, 1) := by decide +kernel
theorem dX7_in_2 : decode cX7_in 2 = .ok (.if_icmp .lt 12, 3) := by decide +kernel
theorem dX7_in_5 : decode cX7_in 5 = .ok (.iload_n 0, 1) := by decide +kernel
theorem dX7_in_6 : decode cX7_in 6 = .ok (.iload_n 2, 1) := by decide +kernel
theorem dX7_in_7 : decode cX7_in 7 = .ok (.if_icmp .gt 7, 3) := by decide +kernel
theorem dX7_in_10 : decode cX7_in 10 = .ok (.iconst 1, 1) := by decide +kernel
theorem dX7_in_11 : decode cX7_in 11 = .ok (.goto 4, 3) := by decide +kernel
theorem dX7_in_14 : decode cX7_in 14 = .ok (.iconst 0, 1) := by decide +kernel
theorem dX7_in_15 : decode cX7_in 15 = .ok (.ireturn, 1) := by decide +kernel
theorem dX7_move_0 : decode cX7_move 0 = .ok (.iconst 0, 1) := by decide +kernel
theorem dX7_move_1 : decode cX7_move 1 = .ok (.istore 4, 2) := by decide +kernel
theorem dX7_move_3 : decode cX7_move 3 = .ok (.iload 4, 2) := by decide +kernel
theorem dX7_move_5 : decode cX7_move 5 = .ok (.iload_n 1, 1) := by decide +kernel
theorem dX7_move_6 : decode cX7_move 6 = .ok (.if_icmp .ge 25, 3) := by decide +kernel
theorem dX7_move_9 : decode cX7_move 9 = .ok (.aload_n 0, 1) := by decide +kernel
theorem dX7_move_10 : decode cX7_move 10 = .ok (.iload_n 1, 1) := by decide +kernel
theorem dX7_move_11 : decode cX7_move 11 = .ok (.iload_n 3, 1) := by decide +kernel
theorem dX7_move_12 : decode cX7_move 12 = .ok (.imul, 1) := by decide +kernel
theorem dX7_move_13 : decode cX7_move 13 = .ok (.iload 4, 2) := by decide +kernel
theorem dX7_move_15 : decode cX7_move 15 = .ok (.iadd, 1) := by decide +kernel
theorem dX7_move_16 : decode cX7_move 16 = .ok (.aload_n 0, 1) := by decide +kernel
theorem dX7_move_17 : decode cX7_move 17 = .ok (.iload_n 1, 1) := by decide +kernel
theorem dX7_move_18 : decode cX7_move 18 = .ok (.iload_n 2, 1) := by decide +kernel
theorem dX7_move_19 : decode cX7_move 19 = .ok (.imul, 1) := by decide +kernel
theorem dX7_move_20 : decode cX7_move 20 = .ok (.iload 4, 2) := by decide +kernel
theorem dX7_move_22 : decode cX7_move 22 = .ok (.iadd, 1) := by decide +kernel
theorem dX7_move_23 : decode cX7_move 23 = .ok (.iaload, 1) := by decide +kernel
theorem dX7_move_24 : decode cX7_move 24 = .ok (.iastore, 1) := by decide +kernel
theorem dX7_move_25 : decode cX7_move 25 = .ok (.iinc 4 1, 3) := by decide +kernel
theorem dX7_move_28 : decode cX7_move 28 = .ok (.goto (-25), 3) := by decide +kernel
theorem dX7_move_31 : decode cX7_move 31 = .ok (.return_, 1) := by decide +kernel
set_option maxRecDepth 20000 in
theorem ggX7_copy_X7_move : GoodIn wsX7_copy wsX7_move := goodIn_r _ [21] (by decide +kernel) (by decide +kernel)
set_option maxRecDepth 20000 in
theorem gX7_copy_X7_move : GoodIn wsX7_copy (va_wsS RX7 94 yX7_move wsX7_move) := goodIn_app (goodIn_of _ (by decide +kernel)) ggX7_copy_X7_move
theorem dX7_copy_0 : decode cX7_copy 0 = .ok (.aload_n 0, 1) := by decide +kernel
theorem dX7_copy_1 : decode cX7_copy 1 = .ok (.getfield 7, 3) := by decide +kernel
theorem dX7_copy_4 : decode cX7_copy 4 = .ok (.iconst 2, 1) := by decide +kernel
theorem dX7_copy_5 : decode cX7_copy 5 = .ok (.iload_n 1, 1) := by decide +kernel
theorem dX7_copy_6 : decode cX7_copy 6 = .ok (.iload_n 2, 1) := by decide +kernel
theorem dX7_copy_7 : decode cX7_copy 7 = .ok (.invokestatic 94, 3) := by decide +kernel
theorem dX7_copy_10 : decode cX7_copy 10 = .ok (.aload_n 0, 1) := by decide +kernel
theorem dX7_copy_11 : decode cX7_copy 11 = .ok (.getfield 13, 3) := by decide +kernel
theorem dX7_copy_14 : decode cX7_copy 14 = .ok (.bipush 16, 2) := by decide +kernel
theorem dX7_copy_16 : decode cX7_copy 16 = .ok (.iload_n 1, 1) := by decide +kernel
theorem dX7_copy_17 : decode cX7_copy 17 = .ok (.iload_n 2, 1) := by decide +kernel
theorem dX7_copy_18 : decode cX7_copy 18 = .ok (.invokestatic 94, 3) := by decide +kernel
theorem dX7_copy_21 : decode cX7_copy 21 = .ok (.aload_n 0, 1) := by decide +kernel
theorem dX7_copy_22 : decode cX7_copy 22 = .ok (.getfield 16, 3) := by decide +kernel
theorem dX7_copy_25 : decode cX7_copy 25 = .ok (.iconst 2, 1) := by decide +kernel
theorem dX7_copy_26 : decode cX7_copy 26 = .ok (.iload_n 1, 1) := by decide +kernel
theorem dX7_copy_27 : decode cX7_copy 27 = .ok (.iload_n 2, 1) := by decide +kernel
theorem dX7_copy_28 : decode cX7_copy 28 = .ok (.invokestatic 94, 3) := by decide +kernel
theorem dX7_copy_31 : decode cX7_copy 31 = .ok (.aload_n 0, 1) := by decide +kernel
theorem dX7_copy_32 : decode cX7_copy 32 = .ok (.getfield 19, 3) := by decide +kernel
theorem dX7_copy_35 : decode cX7_copy 35 = .ok (.iconst 1, 1) := by decide +kernel
theorem dX7_copy_36 : decode cX7_copy 36 = .ok (.iload_n 1, 1) := by decide +kernel
theorem dX7_copy_37 : decode cX7_copy 37 = .ok (.iload_n 2, 1) := by decide +kernel
theorem dX7_copy_38 : decode cX7_copy 38 = .ok (.invokestatic 94, 3) := by decide +kernel
theorem dX7_copy_41 : decode cX7_copy 41 = .ok (.aload_n 0, 1) := by decide +kernel
theorem dX7_copy_42 : decode cX7_copy 42 = .ok (.getfield 22, 3) := by decide +kernel
theorem dX7_copy_45 : decode cX7_copy 45 = .ok (.iconst 1, 1) := by decide +kernel
theorem dX7_copy_46 : decode cX7_copy 46 = .ok (.iload_n 1, 1) := by decide +kernel
theorem dX7_copy_47 : decode cX7_copy 47 = .ok (.iload_n 2, 1) := by decide +kernel
theorem dX7_copy_48 : decode cX7_copy 48 = .ok (.invokestatic 94, 3) := by decide +kernel
theorem dX7_copy_51 : decode cX7_copy 51 = .ok (.aload_n 0, 1) := by decide +kernel
theorem dX7_copy_52 : decode cX7_copy 52 = .ok (.getfield 25, 3) := by decide +kernel
theorem dX7_copy_55 : decode cX7_copy 55 = .ok (.bipush 14, 2) := by decide +kernel
theorem dX7_copy_57 : decode cX7_copy 57 = .ok (.iload_n 1, 1) := by decide +kernel
theorem dX7_copy_58 : decode cX7_copy 58 = .ok (.iload_n 2, 1) := by decide +kernel
theorem dX7_copy_59 : decode cX7_copy 59 = .ok (.invokestatic 94, 3) := by decide +kernel
theorem dX7_copy_62 : decode cX7_copy 62 = .ok (.aload_n 0, 1) := by decide +kernel
theorem dX7_copy_63 : decode cX7_copy 63 = .ok (.getfield 28, 3) := by decide +kernel
theorem dX7_copy_66 : decode cX7_copy 66 = .ok (.bipush 14, 2) := by decide +kernel
theorem dX7_copy_68 : decode cX7_copy 68 = .ok (.iload_n 1, 1) := by decide +kernel
theorem dX7_copy_69 : decode cX7_copy 69 = .ok (.iload_n 2, 1) := by decide +kernel
theorem dX7_copy_70 : decode cX7_copy 70 = .ok (.invokestatic 94, 3) := by decide +kernel
theorem dX7_copy_73 : decode cX7_copy 73 = .ok (.aload_n 0, 1) := by decide +kernel
theorem dX7_copy_74 : decode cX7_copy 74 = .ok (.getfield 31, 3) := by decide +kernel
theorem dX7_copy_77 : decode cX7_copy 77 = .ok (.iconst 1, 1) := by decide +kernel
theorem dX7_copy_78 : decode cX7_copy 78 = .ok (.iload_n 1, 1) := by decide +kernel
theorem dX7_copy_79 : decode cX7_copy 79 = .ok (.iload_n 2, 1) := by decide +kernel
theorem dX7_copy_80 : decode cX7_copy 80 = .ok (.invokestatic 94, 3) := by decide +kernel
theorem dX7_copy_83 : decode cX7_copy 83 = .ok (.aload_n 0, 1) := by decide +kernel
theorem dX7_copy_84 : decode cX7_copy 84 = .ok (.getfield 34, 3) := by decide +kernel
theorem dX7_copy_87 : decode cX7_copy 87 = .ok (.iconst 1, 1) := by decide +kernel
theorem dX7_copy_88 : decode cX7_copy 88 = .ok (.iload_n 1, 1) := by decide +kernel
theorem dX7_copy_89 : decode cX7_copy 89 = .ok (.iload_n 2, 1) := by decide +kernel
theorem dX7_copy_90 : decode cX7_copy 90 = .ok (.invokestatic 94, 3) := by decide +kernel
theorem dX7_copy_93 : decode cX7_copy 93 = .ok (.aload_n 0, 1) := by decide +kernel
theorem dX7_copy_94 : decode cX7_copy 94 = .ok (.getfield 37, 3) := by decide +kernel
theorem dX7_copy_97 : decode cX7_copy 97 = .ok (.iconst 4, 1) := by decide +kernel
theorem dX7_copy_98 : decode cX7_copy 98 = .ok (.iload_n 1, 1) := by decide +kernel
theorem dX7_copy_99 : decode cX7_copy 99 = .ok (.iload_n 2, 1) := by decide +kernel
theorem dX7_copy_100 : decode cX7_copy 100 = .ok (.invokestatic 94, 3) := by decide +kernel
theorem dX7_copy_103 : decode cX7_copy 103 = .ok (.aload_n 0, 1) := by decide +kernel
theorem dX7_copy_104 : decode cX7_copy 104 = .ok (.getfield 47, 3) := by decide +kernel
theorem dX7_copy_107 : decode cX7_copy 107 = .ok (.iconst 4, 1) := by decide +kernel
theorem dX7_copy_108 : decode cX7_copy 108 = .ok (.iload_n 1, 1) := by decide +kernel
theorem dX7_copy_109 : decode cX7_copy 109 = .ok (.iload_n 2, 1) := by decide +kernel
theorem dX7_copy_110 : decode cX7_copy 110 = .ok (.invokestatic 94, 3) := by decide +kernel
theorem dX7_copy_113 : decode cX7_copy 113 = .ok (.aload_n 0, 1) := by decide +kernel
theorem dX7_copy_114 : decode cX7_copy 114 = .ok (.getfield 50, 3) := by decide +kernel
theorem dX7_copy_117 : decode cX7_copy 117 = .ok (.bipush 64, 2) := by decide +kernel
theorem dX7_copy_119 : decode cX7_copy 119 = .ok (.iload_n 1, 1) := by decide +kernel
theorem dX7_copy_120 : decode cX7_copy 120 = .ok (.iload_n 2, 1) := by decide +kernel
theorem dX7_copy_121 : decode cX7_copy 121 = .ok (.invokestatic 94, 3) := by decide +kernel
theorem dX7_copy_124 : decode cX7_copy 124 = .ok (.aload_n 0, 1) := by decide +kernel
theorem dX7_copy_125 : decode cX7_copy 125 = .ok (.getfield 53, 3) := by decide +kernel
theorem dX7_copy_128 : decode cX7_copy 128 = .ok (.bipush 32, 2) := by decide +kernel
theorem dX7_copy_130 : decode cX7_copy 130 = .ok (.iload_n 1, 1) := by decide +kernel
theorem dX7_copy_131 : decode cX7_copy 131 = .ok (.iload_n 2, 1) := by decide +kernel
theorem dX7_copy_132 : decode cX7_copy 132 = .ok (.invokestatic 94, 3) := by decide +kernel
theorem dX7_copy_135 : decode cX7_copy 135 = .ok (.aload_n 0, 1) := by decide +kernel
theorem dX7_copy_136 : decode cX7_copy 136 = .ok (.getfield 56, 3) := by decide +kernel
theorem dX7_copy_139 : decode cX7_copy 139 = .ok (.bipush 8, 2) := by decide +kernel
theorem dX7_copy_141 : decode cX7_copy 141 = .ok (.iload_n 1, 1) := by decide +kernel
theorem dX7_copy_142 : decode cX7_copy 142 = .ok (.iload_n 2, 1) := by decide +kernel
theorem dX7_copy_143 : decode cX7_copy 143 = .ok (.invokestatic 94, 3) := by decide +kernel
theorem dX7_copy_146 : decode cX7_copy 146 = .ok (.aload_n 0, 1) := by decide +kernel
theorem dX7_copy_147 : decode cX7_copy 147 = .ok (.getfield 59, 3) := by decide +kernel
theorem dX7_copy_150 : decode cX7_copy 150 = .ok (.sipush 320, 3) := by decide +kernel
theorem dX7_copy_153 : decode cX7_copy 153 = .ok (.iload_n 1, 1) := by decide +kernel
theorem dX7_copy_154 : decode cX7_copy 154 = .ok (.iload_n 2, 1) := by decide +kernel
theorem dX7_copy_155 : decode cX7_copy 155 = .ok (.invokestatic 94, 3) := by decide +kernel
theorem dX7_copy_158 : decode cX7_copy 158 = .ok (.iconst 0, 1) := by decide +kernel
theorem dX7_copy_159 : decode cX7_copy 159 = .ok (.istore_n 3, 1) := by decide +kernel
theorem dX7_copy_160 : decode cX7_copy 160 = .ok (.iload_n 3, 1) := by decide +kernel
theorem dX7_copy_161 : decode cX7_copy 161 = .ok (.iconst 4, 1) := by decide +kernel
theorem dX7_copy_162 : decode cX7_copy 162 = .ok (.if_icmp .ge 49, 3) := by decide +kernel
theorem dX7_copy_165 : decode cX7_copy 165 = .ok (.aload_n 0, 1) := by decide +kernel
theorem dX7_copy_166 : decode cX7_copy 166 = .ok (.getfield 40, 3) := by decide +kernel
theorem dX7_copy_169 : decode cX7_copy 169 = .ok (.iconst 4, 1) := by decide +kernel
theorem dX7_copy_170 : decode cX7_copy 170 = .ok (.iload_n 2, 1) := by decide +kernel
theorem dX7_copy_171 : decode cX7_copy 171 = .ok (.imul, 1) := by decide +kernel
theorem dX7_copy_172 : decode cX7_copy 172 = .ok (.iload_n 3, 1) := by decide +kernel
theorem dX7_copy_173 : decode cX7_copy 173 = .ok (.iadd, 1) := by decide +kernel
theorem dX7_copy_174 : decode cX7_copy 174 = .ok (.aload_n 0, 1) := by decide +kernel
theorem dX7_copy_175 : decode cX7_copy 175 = .ok (.getfield 40, 3) := by decide +kernel
theorem dX7_copy_178 : decode cX7_copy 178 = .ok (.iconst 4, 1) := by decide +kernel
theorem dX7_copy_179 : decode cX7_copy 179 = .ok (.iload_n 1, 1) := by decide +kernel
theorem dX7_copy_180 : decode cX7_copy 180 = .ok (.imul, 1) := by decide +kernel
theorem dX7_copy_181 : decode cX7_copy 181 = .ok (.iload_n 3, 1) := by decide +kernel
theorem dX7_copy_182 : decode cX7_copy 182 = .ok (.iadd, 1) := by decide +kernel
theorem dX7_copy_183 : decode cX7_copy 183 = .ok (.laload, 1) := by decide +kernel
theorem dX7_copy_184 : decode cX7_copy 184 = .ok (.lastore, 1) := by decide +kernel
theorem dX7_copy_185 : decode cX7_copy 185 = .ok (.aload_n 0, 1) := by decide +kernel
theorem dX7_copy_186 : decode cX7_copy 186 = .ok (.getfield 44, 3) := by decide +kernel
theorem dX7_copy_189 : decode cX7_copy 189 = .ok (.iconst 4, 1) := by decide +kernel
theorem dX7_copy_190 : decode cX7_copy 190 = .ok (.iload_n 2, 1) := by decide +kernel
theorem dX7_copy_191 : decode cX7_copy 191 = .ok (.imul, 1) := by decide +kernel
theorem dX7_copy_192 : decode cX7_copy 192 = .ok (.iload_n 3, 1) := by decide +kernel
theorem dX7_copy_193 : decode cX7_copy 193 = .ok (.iadd, 1) := by decide +kernel
theorem dX7_copy_194 : decode cX7_copy 194 = .ok (.aload_n 0, 1) := by decide +kernel
theorem dX7_copy_195 : decode cX7_copy 195 = .ok (.getfield 44, 3) := by decide +kernel
theorem dX7_copy_198 : decode cX7_copy 198 = .ok (.iconst 4, 1) := by decide +kernel
theorem dX7_copy_199 : decode cX7_copy 199 = .ok (.iload_n 1, 1) := by decide +kernel
theorem dX7_copy_200 : decode cX7_copy 200 = .ok (.imul, 1) := by decide +kernel
theorem dX7_copy_201 : decode cX7_copy 201 = .ok (.iload_n 3, 1) := by decide +kernel
theorem dX7_copy_202 : decode cX7_copy 202 = .ok (.iadd, 1) := by decide +kernel
theorem dX7_copy_203 : decode cX7_copy 203 = .ok (.laload, 1) := by decide +kernel
theorem dX7_copy_204 : decode cX7_copy 204 = .ok (.lastore, 1) := by decide +kernel
theorem dX7_copy_205 : decode cX7_copy 205 = .ok (.iinc 3 1, 3) := by decide +kernel
theorem dX7_copy_208 : decode cX7_copy 208 = .ok (.goto (-48), 3) := by decide +kernel
theorem dX7_copy_211 : decode cX7_copy 211 = .ok (.return_, 1) := by decide +kernel
set_option maxRecDepth 20000 in
theorem ggX7_isCoin_X7_in : GoodIn wsX7_isCoin wsX7_in := goodIn_r _ [5] (by decide +kernel) (by decide +kernel)
set_option maxRecDepth 20000 in
theorem gX7_isCoin_X7_in : GoodIn wsX7_isCoin (va_wsS RX7 98 yX7_in wsX7_in) := goodIn_app (goodIn_of _ (by decide +kernel)) ggX7_isCoin_X7_in
theorem dX7_isCoin_0 : decode cX7_isCoin 0 = .ok (.iload_n 1, 1) := by decide +kernel
theorem dX7_isCoin_1 : decode cX7_isCoin 1 = .ok (.iconst 0, 1) := by decide +kernel
theorem dX7_isCoin_2 : decode cX7_isCoin 2 = .ok (.iconst 1, 1) := by decide +kernel
theorem dX7_isCoin_3 : decode cX7_isCoin 3 = .ok (.invokestatic 98, 3) := by decide +kernel
theorem dX7_isCoin_6 : decode cX7_isCoin 6 = .ok (.ifCond .eq 23, 3) := by decide +kernel
theorem dX7_isCoin_9 : decode cX7_isCoin 9 = .ok (.iload_n 2, 1) := by decide +kernel
theorem dX7_isCoin_10 : decode cX7_isCoin 10 = .ok (.iconst 0, 1) := by decide +kernel
theorem dX7_isCoin_11 : decode cX7_isCoin 11 = .ok (.aload_n 0, 1) := by decide +kernel
theorem dX7_isCoin_12 : decode cX7_isCoin 12 = .ok (.getfield 7, 3) := by decide +kernel
theorem dX7_isCoin_15 : decode cX7_isCoin 15 = .ok (.iload_n 1, 1) := by decide +kernel
theorem dX7_isCoin_16 : decode cX7_isCoin 16 = .ok (.iaload, 1) := by decide +kernel
theorem dX7_isCoin_17 : decode cX7_isCoin 17 = .ok (.iconst 1, 1) := by decide +kernel
theorem dX7_isCoin_18 : decode cX7_isCoin 18 = .ok (.isub, 1) := by decide +kernel
theorem dX7_isCoin_19 : decode cX7_isCoin 19 = .ok (.invokestatic 98, 3) := by decide +kernel
theorem dX7_isCoin_22 : decode cX7_isCoin 22 = .ok (.ifCond .eq 7, 3) := by decide +kernel
theorem dX7_isCoin_25 : decode cX7_isCoin 25 = .ok (.iconst 1, 1) := by decide +kernel
theorem dX7_isCoin_26 : decode cX7_isCoin 26 = .ok (.goto 4, 3) := by decide +kernel
theorem dX7_isCoin_29 : decode cX7_isCoin 29 = .ok (.iconst 0, 1) := by decide +kernel
theorem dX7_isCoin_30 : decode cX7_isCoin 30 = .ok (.ireturn, 1) := by decide +kernel
set_option maxRecDepth 20000 in
theorem ggX7_coin_X7_in : GoodIn wsX7_coin wsX7_in := goodIn_r _ [7] (by decide +kernel) (by decide +kernel)
set_option maxRecDepth 20000 in
theorem gX7_coin_X7_in : GoodIn wsX7_coin (va_wsS RX7 98 yX7_in wsX7_in) := goodIn_app (goodIn_of _ (by decide +kernel)) ggX7_coin_X7_in
theorem dX7_coin_0 : decode cX7_coin 0 = .ok (.aload_n 0, 1) := by decide +kernel
theorem dX7_coin_1 : decode cX7_coin 1 = .ok (.iconst 0, 1) := by decide +kernel
theorem dX7_coin_2 : decode cX7_coin 2 = .ok (.putfield 90, 3) := by decide +kernel
theorem dX7_coin_5 : decode cX7_coin 5 = .ok (.iload_n 1, 1) := by decide +kernel
theorem dX7_coin_6 : decode cX7_coin 6 = .ok (.iconst 0, 1) := by decide +kernel
theorem dX7_coin_7 : decode cX7_coin 7 = .ok (.iconst 1, 1) := by decide +kernel
theorem dX7_coin_8 : decode cX7_coin 8 = .ok (.invokestatic 98, 3) := by decide +kernel
theorem dX7_coin_11 : decode cX7_coin 11 = .ok (.ifCond .eq 25, 3) := by decide +kernel
theorem dX7_coin_14 : decode cX7_coin 14 = .ok (.aload_n 0, 1) := by decide +kernel
theorem dX7_coin_15 : decode cX7_coin 15 = .ok (.getfield 7, 3) := by decide +kernel
theorem dX7_coin_18 : decode cX7_coin 18 = .ok (.iload_n 1, 1) := by decide +kernel
theorem dX7_coin_19 : decode cX7_coin 19 = .ok (.iaload, 1) := by decide +kernel
theorem dX7_coin_20 : decode cX7_coin 20 = .ok (.bipush 8, 2) := by decide +kernel
theorem dX7_coin_22 : decode cX7_coin 22 = .ok (.if_icmp .eq 14, 3) := by decide +kernel
theorem dX7_coin_25 : decode cX7_coin 25 = .ok (.iload_n 2, 1) := by decide +kernel
theorem dX7_coin_26 : decode cX7_coin 26 = .ok (.iconst 1, 1) := by decide +kernel
theorem dX7_coin_27 : decode cX7_coin 27 = .ok (.sipush 1000, 3) := by decide +kernel
theorem dX7_coin_30 : decode cX7_coin 30 = .ok (.invokestatic 98, 3) := by decide +kernel
theorem dX7_coin_33 : decode cX7_coin 33 = .ok (.ifCond .ne 5, 3) := by decide +kernel
theorem dX7_coin_36 : decode cX7_coin 36 = .ok (.iconst (-1), 1) := by decide +kernel
theorem dX7_coin_37 : decode cX7_coin 37 = .ok (.ireturn, 1) := by decide +kernel
theorem dX7_coin_38 : decode cX7_coin 38 = .ok (.iconst 0, 1) := by decide +kernel
theorem dX7_coin_39 : decode cX7_coin 39 = .ok (.istore_n 3, 1) := by decide +kernel
theorem dX7_coin_40 : decode cX7_coin 40 = .ok (.iload_n 3, 1) := by decide +kernel
theorem dX7_coin_41 : decode cX7_coin 41 = .ok (.aload_n 0, 1) := by decide +kernel
theorem dX7_coin_42 : decode cX7_coin 42 = .ok (.getfield 7, 3) := by decide +kernel
theorem dX7_coin_45 : decode cX7_coin 45 = .ok (.iload_n 1, 1) := by decide +kernel
theorem dX7_coin_46 : decode cX7_coin 46 = .ok (.iaload, 1) := by decide +kernel
theorem dX7_coin_47 : decode cX7_coin 47 = .ok (.if_icmp .ge 26, 3) := by decide +kernel
theorem dX7_coin_50 : decode cX7_coin 50 = .ok (.aload_n 0, 1) := by decide +kernel
theorem dX7_coin_51 : decode cX7_coin 51 = .ok (.getfield 13, 3) := by decide +kernel
theorem dX7_coin_54 : decode cX7_coin 54 = .ok (.bipush 8, 2) := by decide +kernel
theorem dX7_coin_56 : decode cX7_coin 56 = .ok (.iload_n 1, 1) := by decide +kernel
theorem dX7_coin_57 : decode cX7_coin 57 = .ok (.imul, 1) := by decide +kernel
theorem dX7_coin_58 : decode cX7_coin 58 = .ok (.iload_n 3, 1) := by decide +kernel
theorem dX7_coin_59 : decode cX7_coin 59 = .ok (.iadd, 1) := by decide +kernel
theorem dX7_coin_60 : decode cX7_coin 60 = .ok (.iaload, 1) := by decide +kernel
theorem dX7_coin_61 : decode cX7_coin 61 = .ok (.iload_n 2, 1) := by decide +kernel
theorem dX7_coin_62 : decode cX7_coin 62 = .ok (.if_icmp .ne 5, 3) := by decide +kernel
theorem dX7_coin_65 : decode cX7_coin 65 = .ok (.iconst (-1), 1) := by decide +kernel
theorem dX7_coin_66 : decode cX7_coin 66 = .ok (.ireturn, 1) := by decide +kernel
theorem dX7_coin_67 : decode cX7_coin 67 = .ok (.iinc 3 1, 3) := by decide +kernel
theorem dX7_coin_70 : decode cX7_coin 70 = .ok (.goto (-30), 3) := by decide +kernel
theorem dX7_coin_73 : decode cX7_coin 73 = .ok (.aload_n 0, 1) := by decide +kernel
theorem dX7_coin_74 : decode cX7_coin 74 = .ok (.getfield 13, 3) := by decide +kernel
theorem dX7_coin_77 : decode cX7_coin 77 = .ok (.bipush 8, 2) := by decide +kernel
theorem dX7_coin_79 : decode cX7_coin 79 = .ok (.iload_n 1, 1) := by decide +kernel
theorem dX7_coin_80 : decode cX7_coin 80 = .ok (.imul, 1) := by decide +kernel
theorem dX7_coin_81 : decode cX7_coin 81 = .ok (.aload_n 0, 1) := by decide +kernel
theorem dX7_coin_82 : decode cX7_coin 82 = .ok (.getfield 7, 3) := by decide +kernel
theorem dX7_coin_85 : decode cX7_coin 85 = .ok (.iload_n 1, 1) := by decide +kernel
theorem dX7_coin_86 : decode cX7_coin 86 = .ok (.iaload, 1) := by decide +kernel
theorem dX7_coin_87 : decode cX7_coin 87 = .ok (.iadd, 1) := by decide +kernel
theorem dX7_coin_88 : decode cX7_coin 88 = .ok (.iload_n 2, 1) := by decide +kernel
theorem dX7_coin_89 : decode cX7_coin 89 = .ok (.iastore, 1) := by decide +kernel
theorem dX7_coin_90 : decode cX7_coin 90 = .ok (.aload_n 0, 1) := by decide +kernel
theorem dX7_coin_91 : decode cX7_coin 91 = .ok (.getfield 7, 3) := by decide +kernel
theorem dX7_coin_94 : decode cX7_coin 94 = .ok (.iload_n 1, 1) := by decide +kernel
theorem dX7_coin_95 : decode cX7_coin 95 = .ok (.dup2, 1) := by decide +kernel
theorem dX7_coin_96 : decode cX7_coin 96 = .ok (.iaload, 1) := by decide +kernel
theorem dX7_coin_97 : decode cX7_coin 97 = .ok (.iconst 1, 1) := by decide +kernel
theorem dX7_coin_98 : decode cX7_coin 98 = .ok (.iadd, 1) := by decide +kernel
theorem dX7_coin_99 : decode cX7_coin 99 = .ok (.iastore, 1) := by decide +kernel
theorem dX7_coin_100 : decode cX7_coin 100 = .ok (.aload_n 0, 1) := by decide +kernel
theorem dX7_coin_101 : decode cX7_coin 101 = .ok (.getfield 7, 3) := by decide +kernel
theorem dX7_coin_104 : decode cX7_coin 104 = .ok (.iload_n 1, 1) := by decide +kernel
theorem dX7_coin_105 : decode cX7_coin 105 = .ok (.iaload, 1) := by decide +kernel
theorem dX7_coin_106 : decode cX7_coin 106 = .ok (.iconst 1, 1) := by decide +kernel
theorem dX7_coin_107 : decode cX7_coin 107 = .ok (.isub, 1) := by decide +kernel
theorem dX7_coin_108 : decode cX7_coin 108 = .ok (.ireturn, 1) := by decide +kernel
set_option maxRecDepth 20000 in
theorem ggX7_rate_X7_in : GoodIn wsX7_rate wsX7_in := goodIn_r _ [7] (by decide +kernel) (by decide +kernel)
set_option maxRecDepth 20000 in
theorem gX7_rate_X7_in : GoodIn wsX7_rate (va_wsS RX7 98 yX7_in wsX7_in) := goodIn_app (goodIn_of _ (by decide +kernel)) ggX7_rate_X7_in
theorem dX7_rate_0 : decode cX7_rate 0 = .ok (.aload_n 0, 1) := by decide +kernel
theorem dX7_rate_1 : decode cX7_rate 1 = .ok (.iconst 0, 1) := by decide +kernel
theorem dX7_rate_2 : decode cX7_rate 2 = .ok (.putfield 90, 3) := by decide +kernel
theorem dX7_rate_5 : decode cX7_rate 5 = .ok (.iload_n 1, 1) := by decide +kernel
theorem dX7_rate_6 : decode cX7_rate 6 = .ok (.iconst 1, 1) := by decide +kernel
theorem dX7_rate_7 : decode cX7_rate 7 = .ok (.bipush 100, 2) := by decide +kernel
theorem dX7_rate_9 : decode cX7_rate 9 = .ok (.invokestatic 98, 3) := by decide +kernel
theorem dX7_rate_12 : decode cX7_rate 12 = .ok (.ifCond .eq 22, 3) := by decide +kernel
theorem dX7_rate_15 : decode cX7_rate 15 = .ok (.iload_n 2, 1) := by decide +kernel
theorem dX7_rate_16 : decode cX7_rate 16 = .ok (.iconst 1, 1) := by decide +kernel
theorem dX7_rate_17 : decode cX7_rate 17 = .ok (.bipush 100, 2) := by decide +kernel
theorem dX7_rate_19 : decode cX7_rate 19 = .ok (.invokestatic 98, 3) := by decide +kernel
theorem dX7_rate_22 : decode cX7_rate 22 = .ok (.ifCond .eq 12, 3) := by decide +kernel
theorem dX7_rate_25 : decode cX7_rate 25 = .ok (.aload_n 0, 1) := by decide +kernel
theorem dX7_rate_26 : decode cX7_rate 26 = .ok (.getfield 19, 3) := by decide +kernel
theorem dX7_rate_29 : decode cX7_rate 29 = .ok (.iconst 0, 1) := by decide +kernel
theorem dX7_rate_30 : decode cX7_rate 30 = .ok (.iaload, 1) := by decide +kernel
theorem dX7_rate_31 : decode cX7_rate 31 = .ok (.ifCond .le 5, 3) := by decide +kernel
theorem dX7_rate_34 : decode cX7_rate 34 = .ok (.iconst 0, 1) := by decide +kernel
theorem dX7_rate_35 : decode cX7_rate 35 = .ok (.ireturn, 1) := by decide +kernel
theorem dX7_rate_36 : decode cX7_rate 36 = .ok (.aload_n 0, 1) := by decide +kernel
theorem dX7_rate_37 : decode cX7_rate 37 = .ok (.getfield 16, 3) := by decide +kernel
theorem dX7_rate_40 : decode cX7_rate 40 = .ok (.iconst 0, 1) := by decide +kernel
theorem dX7_rate_41 : decode cX7_rate 41 = .ok (.iload_n 1, 1) := by decide +kernel
theorem dX7_rate_42 : decode cX7_rate 42 = .ok (.iastore, 1) := by decide +kernel
theorem dX7_rate_43 : decode cX7_rate 43 = .ok (.aload_n 0, 1) := by decide +kernel
theorem dX7_rate_44 : decode cX7_rate 44 = .ok (.getfield 16, 3) := by decide +kernel
theorem dX7_rate_47 : decode cX7_rate 47 = .ok (.iconst 1, 1) := by decide +kernel
theorem dX7_rate_48 : decode cX7_rate 48 = .ok (.iload_n 2, 1) := by decide +kernel
theorem dX7_rate_49 : decode cX7_rate 49 = .ok (.iastore, 1) := by decide +kernel
theorem dX7_rate_50 : decode cX7_rate 50 = .ok (.iconst 1, 1) := by decide +kernel
theorem dX7_rate_51 : decode cX7_rate 51 = .ok (.ireturn, 1) := by decide +kernel
set_option maxRecDepth 20000 in
theorem ggX7_isGood_X7_in : GoodIn wsX7_isGood wsX7_in := goodIn_r _ [5] (by decide +kernel) (by decide +kernel)
set_option maxRecDepth 20000 in
theorem gX7_isGood_X7_in : GoodIn wsX7_isGood (va_wsS RX7 98 yX7_in wsX7_in) := goodIn_app (goodIn_of _ (by decide +kernel)) ggX7_isGood_X7_in
theorem dX7_isGood_0 : decode cX7_isGood 0 = .ok (.iload_n 1, 1) := by decide +kernel
theorem dX7_isGood_1 : decode cX7_isGood 1 = .ok (.iconst 0, 1) := by decide +kernel
theorem dX7_isGood_2 : decode cX7_isGood 2 = .ok (.aload_n 0, 1) := by decide +kernel
theorem dX7_isGood_3 : decode cX7_isGood 3 = .ok (.getfield 22, 3) := by decide +kernel
theorem dX7_isGood_6 : decode cX7_isGood 6 = .ok (.iconst 0, 1) := by decide +kernel
theorem dX7_isGood_7 : decode cX7_isGood 7 = .ok (.iaload, 1) := by decide +kernel
theorem dX7_isGood_8 : decode cX7_isGood 8 = .ok (.iconst 1, 1) := by decide +kernel
theorem dX7_isGood_9 : decode cX7_isGood 9 = .ok (.isub, 1) := by decide +kernel
theorem dX7_isGood_10 : decode cX7_isGood 10 = .ok (.invokestatic 98, 3) := by decide +kernel
theorem dX7_isGood_13 : decode cX7_isGood 13 = .ok (.ireturn, 1) := by decide +kernel
set_option maxRecDepth 20000 in
theorem ggX7_good_X7_in : GoodIn wsX7_good wsX7_in := goodIn_r _ [8] (by decide +kernel) (by decide +kernel)
set_option maxRecDepth 20000 in
theorem gX7_good_X7_in : GoodIn wsX7_good (va_wsS RX7 98 yX7_in wsX7_in) := goodIn_app (goodIn_of _ (by decide +kernel)) ggX7_good_X7_in
theorem dX7_good_0 : decode cX7_good 0 = .ok (.aload_n 0, 1) := by decide +kernel
theorem dX7_good_1 : decode cX7_good 1 = .ok (.iconst 0, 1) := by decide +kernel
theorem dX7_good_2 : decode cX7_good 2 = .ok (.putfield 90, 3) := by decide +kernel
theorem dX7_good_5 : decode cX7_good 5 = .ok (.aload_n 0, 1) := by decide +kernel
theorem dX7_good_6 : decode cX7_good 6 = .ok (.getfield 22, 3) := by decide +kernel
theorem dX7_good_9 : decode cX7_good 9 = .ok (.iconst 0, 1) := by decide +kernel
theorem dX7_good_10 : decode cX7_good 10 = .ok (.iaload, 1) := by decide +kernel
theorem dX7_good_11 : decode cX7_good 11 = .ok (.bipush 14, 2) := by decide +kernel
theorem dX7_good_13 : decode cX7_good 13 = .ok (.if_icmp .eq 24, 3) := by decide +kernel
theorem dX7_good_16 : decode cX7_good 16 = .ok (.iload_n 1, 1) := by decide +kernel
theorem dX7_good_17 : decode cX7_good 17 = .ok (.iconst 1, 1) := by decide +kernel
theorem dX7_good_18 : decode cX7_good 18 = .ok (.sipush 10000, 3) := by decide +kernel
theorem dX7_good_21 : decode cX7_good 21 = .ok (.invokestatic 98, 3) := by decide +kernel
theorem dX7_good_24 : decode cX7_good 24 = .ok (.ifCond .eq 13, 3) := by decide +kernel
theorem dX7_good_27 : decode cX7_good 27 = .ok (.iload_n 2, 1) := by decide +kernel
theorem dX7_good_28 : decode cX7_good 28 = .ok (.iconst 0, 1) := by decide +kernel
theorem dX7_good_29 : decode cX7_good 29 = .ok (.bipush 100, 2) := by decide +kernel
theorem dX7_good_31 : decode cX7_good 31 = .ok (.invokestatic 98, 3) := by decide +kernel
theorem dX7_good_34 : decode cX7_good 34 = .ok (.ifCond .ne 5, 3) := by decide +kernel
theorem dX7_good_37 : decode cX7_good 37 = .ok (.iconst (-1), 1) := by decide +kernel
theorem dX7_good_38 : decode cX7_good 38 = .ok (.ireturn, 1) := by decide +kernel
theorem dX7_good_39 : decode cX7_good 39 = .ok (.aload_n 0, 1) := by decide +kernel
theorem dX7_good_40 : decode cX7_good 40 = .ok (.getfield 25, 3) := by decide +kernel
theorem dX7_good_43 : decode cX7_good 43 = .ok (.aload_n 0, 1) := by decide +kernel
theorem dX7_good_44 : decode cX7_good 44 = .ok (.getfield 22, 3) := by decide +kernel
theorem dX7_good_47 : decode cX7_good 47 = .ok (.iconst 0, 1) := by decide +kernel
theorem dX7_good_48 : decode cX7_good 48 = .ok (.iaload, 1) := by decide +kernel
theorem dX7_good_49 : decode cX7_good 49 = .ok (.iload_n 1, 1) := by decide +kernel
theorem dX7_good_50 : decode cX7_good 50 = .ok (.iastore, 1) := by decide +kernel
theorem dX7_good_51 : decode cX7_good 51 = .ok (.aload_n 0, 1) := by decide +kernel
theorem dX7_good_52 : decode cX7_good 52 = .ok (.getfield 28, 3) := by decide +kernel
theorem dX7_good_55 : decode cX7_good 55 = .ok (.aload_n 0, 1) := by decide +kernel
theorem dX7_good_56 : decode cX7_good 56 = .ok (.getfield 22, 3) := by decide +kernel
theorem dX7_good_59 : decode cX7_good 59 = .ok (.iconst 0, 1) := by decide +kernel
theorem dX7_good_60 : decode cX7_good 60 = .ok (.iaload, 1) := by decide +kernel
theorem dX7_good_61 : decode cX7_good 61 = .ok (.iload_n 2, 1) := by decide +kernel
theorem dX7_good_62 : decode cX7_good 62 = .ok (.iastore, 1) := by decide +kernel
theorem dX7_good_63 : decode cX7_good 63 = .ok (.aload_n 0, 1) := by decide +kernel
theorem dX7_good_64 : decode cX7_good 64 = .ok (.getfield 22, 3) := by decide +kernel
theorem dX7_good_67 : decode cX7_good 67 = .ok (.iconst 0, 1) := by decide +kernel
theorem dX7_good_68 : decode cX7_good 68 = .ok (.dup2, 1) := by decide +kernel
theorem dX7_good_69 : decode cX7_good 69 = .ok (.iaload, 1) := by decide +kernel
theorem dX7_good_70 : decode cX7_good 70 = .ok (.iconst 1, 1) := by decide +kernel
theorem dX7_good_71 : decode cX7_good 71 = .ok (.iadd, 1) := by decide +kernel
theorem dX7_good_72 : decode cX7_good 72 = .ok (.iastore, 1) := by decide +kernel
theorem dX7_good_73 : decode cX7_good 73 = .ok (.aload_n 0, 1) := by decide +kernel
theorem dX7_good_74 : decode cX7_good 74 = .ok (.getfield 22, 3) := by decide +kernel
theorem dX7_good_77 : decode cX7_good 77 = .ok (.iconst 0, 1) := by decide +kernel
theorem dX7_good_78 : decode cX7_good 78 = .ok (.iaload, 1) := by decide +kernel
theorem dX7_good_79 : decode cX7_good 79 = .ok (.iconst 1, 1) := by decide +kernel
theorem dX7_good_80 : decode cX7_good 80 = .ok (.isub, 1) := by decide +kernel
theorem dX7_good_81 : decode cX7_good 81 = .ok (.ireturn, 1) := by decide +kernel
set_option maxRecDepth 20000 in
theorem ggX7_sold_X7_isGood : GoodIn wsX7_sold wsX7_isGood := goodIn_r _ [7, 8, 9, 10, 6, 11, 12, 13, 14, 15, 16, 17, 18, 19, 20, 21, 22, 23, 24, 25, 26, 27, 28, 29, 30, 31, 32, 33, 34, 35, 36, 37, 38] (by decide +kernel) (by decide +kernel)
set_option maxRecDepth 20000 in
theorem gX7_sold_X7_isGood : GoodIn wsX7_sold (wsV RX7 102 RX7 yX7_isGood wsX7_isGood) := goodIn_app (goodIn_of _ (by decide +kernel)) ggX7_sold_X7_isGood
set_option maxRecDepth 20000 in
theorem ggX7_sold_X7_in : GoodIn wsX7_sold wsX7_in := goodIn_r _ [11] (by decide +kernel) (by decide +kernel)
set_option maxRecDepth 20000 in
theorem gX7_sold_X7_in : GoodIn wsX7_sold (va_wsS RX7 98 yX7_in wsX7_in) := goodIn_app (goodIn_of _ (by decide +kernel)) ggX7_sold_X7_in
theorem dX7_sold_0 : decode cX7_sold 0 = .ok (.aload_n 0, 1) := by decide +kernel
theorem dX7_sold_1 : decode cX7_sold 1 = .ok (.iconst 0, 1) := by decide +kernel
theorem dX7_sold_2 : decode cX7_sold 2 = .ok (.putfield 90, 3) := by decide +kernel
theorem dX7_sold_5 : decode cX7_sold 5 = .ok (.aload_n 0, 1) := by decide +kernel
theorem dX7_sold_6 : decode cX7_sold 6 = .ok (.iload_n 1, 1) := by decide +kernel
theorem dX7_sold_7 : decode cX7_sold 7 = .ok (.invokevirtual 102, 3) := by decide +kernel
theorem dX7_sold_10 : decode cX7_sold 10 = .ok (.ifCond .eq 13, 3) := by decide +kernel
theorem dX7_sold_13 : decode cX7_sold 13 = .ok (.iload_n 2, 1) := by decide +kernel
theorem dX7_sold_14 : decode cX7_sold 14 = .ok (.iconst 0, 1) := by decide +kernel
theorem dX7_sold_15 : decode cX7_sold 15 = .ok (.bipush 100, 2) := by decide +kernel
theorem dX7_sold_17 : decode cX7_sold 17 = .ok (.invokestatic 98, 3) := by decide +kernel
theorem dX7_sold_20 : decode cX7_sold 20 = .ok (.ifCond .ne 5, 3) := by decide +kernel
theorem dX7_sold_23 : decode cX7_sold 23 = .ok (.iconst 0, 1) := by decide +kernel
theorem dX7_sold_24 : decode cX7_sold 24 = .ok (.ireturn, 1) := by decide +kernel
theorem dX7_sold_25 : decode cX7_sold 25 = .ok (.aload_n 0, 1) := by decide +kernel
theorem dX7_sold_26 : decode cX7_sold 26 = .ok (.getfield 28, 3) := by decide +kernel
theorem dX7_sold_29 : decode cX7_sold 29 = .ok (.iload_n 1, 1) := by decide +kernel
theorem dX7_sold_30 : decode cX7_sold 30 = .ok (.iload_n 2, 1) := by decide +kernel
theorem dX7_sold_31 : decode cX7_sold 31 = .ok (.iastore, 1) := by decide +kernel
theorem dX7_sold_32 : decode cX7_sold 32 = .ok (.iconst 1, 1) := by decide +kernel
theorem dX7_sold_33 : decode cX7_sold 33 = .ok (.ireturn, 1) := by decide +kernel
set_option maxRecDepth 20000 in
theorem ggX7_step_X7_in : GoodIn wsX7_step wsX7_in := goodIn_r _ [6] (by decide +kernel) (by decide +kernel)
set_option maxRecDepth 20000 in
theorem gX7_step_X7_in : GoodIn wsX7_step (va_wsS RX7 98 yX7_in wsX7_in) := goodIn_app (goodIn_of _ (by decide +kernel)) ggX7_step_X7_in
theorem dX7_step_0 : decode cX7_step 0 = .ok (.aload_n 0, 1) := by decide +kernel
theorem dX7_step_1 : decode cX7_step 1 = .ok (.iconst 0, 1) := by decide +kernel
theorem dX7_step_2 : decode cX7_step 2 = .ok (.putfield 90, 3) := by decide +kernel
theorem dX7_step_5 : decode cX7_step 5 = .ok (.iload_n 1, 1) := by decide +kernel
theorem dX7_step_6 : decode cX7_step 6 = .ok (.iconst 1, 1) := by decide +kernel
theorem dX7_step_7 : decode cX7_step 7 = .ok (.bipush 100, 2) := by decide +kernel
theorem dX7_step_9 : decode cX7_step 9 = .ok (.invokestatic 98, 3) := by decide +kernel
theorem dX7_step_12 : decode cX7_step 12 = .ok (.ifCond .ne 5, 3) := by decide +kernel
theorem dX7_step_15 : decode cX7_step 15 = .ok (.iconst 0, 1) := by decide +kernel
theorem dX7_step_16 : decode cX7_step 16 = .ok (.ireturn, 1) := by decide +kernel
theorem dX7_step_17 : decode cX7_step 17 = .ok (.aload_n 0, 1) := by decide +kernel
theorem dX7_step_18 : decode cX7_step 18 = .ok (.getfield 31, 3) := by decide +kernel
theorem dX7_step_21 : decode cX7_step 21 = .ok (.iconst 0, 1) := by decide +kernel
theorem dX7_step_22 : decode cX7_step 22 = .ok (.iload_n 1, 1) := by decide +kernel
theorem dX7_step_23 : decode cX7_step 23 = .ok (.iastore, 1) := by decide +kernel
theorem dX7_step_24 : decode cX7_step 24 = .ok (.iconst 1, 1) := by decide +kernel
theorem dX7_step_25 : decode cX7_step 25 = .ok (.ireturn, 1) := by decide +kernel
theorem dX7_priceOf_0 : decode cX7_priceOf 0 = .ok (.aload_n 0, 1) := by decide +kernel
theorem dX7_priceOf_1 : decode cX7_priceOf 1 = .ok (.getfield 25, 3) := by decide +kernel
theorem dX7_priceOf_4 : decode cX7_priceOf 4 = .ok (.iload_n 1, 1) := by decide +kernel
theorem dX7_priceOf_5 : decode cX7_priceOf 5 = .ok (.iaload, 1) := by decide +kernel
theorem dX7_priceOf_6 : decode cX7_priceOf 6 = .ok (.aload_n 0, 1) := by decide +kernel
theorem dX7_priceOf_7 : decode cX7_priceOf 7 = .ok (.getfield 16, 3) := by decide +kernel
theorem dX7_priceOf_10 : decode cX7_priceOf 10 = .ok (.iconst 0, 1) := by decide +kernel
theorem dX7_priceOf_11 : decode cX7_priceOf 11 = .ok (.iaload, 1) := by decide +kernel
theorem dX7_priceOf_12 : decode cX7_priceOf 12 = .ok (.imul, 1) := by decide +kernel
theorem dX7_priceOf_13 : decode cX7_priceOf 13 = .ok (.istore_n 3, 1) := by decide +kernel
theorem dX7_priceOf_14 : decode cX7_priceOf 14 = .ok (.aload_n 0, 1) := by decide +kernel
theorem dX7_priceOf_15 : decode cX7_priceOf 15 = .ok (.getfield 16, 3) := by decide +kernel
theorem dX7_priceOf_18 : decode cX7_priceOf 18 = .ok (.iconst 1, 1) := by decide +kernel
theorem dX7_priceOf_19 : decode cX7_priceOf 19 = .ok (.iaload, 1) := by decide +kernel
theorem dX7_priceOf_20 : decode cX7_priceOf 20 = .ok (.aload_n 0, 1) := by decide +kernel
theorem dX7_priceOf_21 : decode cX7_priceOf 21 = .ok (.getfield 31, 3) := by decide +kernel
theorem dX7_priceOf_24 : decode cX7_priceOf 24 = .ok (.iconst 0, 1) := by decide +kernel
theorem dX7_priceOf_25 : decode cX7_priceOf 25 = .ok (.iaload, 1) := by decide +kernel
theorem dX7_priceOf_26 : decode cX7_priceOf 26 = .ok (.imul, 1) := by decide +kernel
theorem dX7_priceOf_27 : decode cX7_priceOf 27 = .ok (.istore 4, 2) := by decide +kernel
theorem dX7_priceOf_29 : decode cX7_priceOf 29 = .ok (.iload_n 3, 1) := by decide +kernel
theorem dX7_priceOf_30 : decode cX7_priceOf 30 = .ok (.iload 4, 2) := by decide +kernel
theorem dX7_priceOf_32 : decode cX7_priceOf 32 = .ok (.idiv, 1) := by decide +kernel
theorem dX7_priceOf_33 : decode cX7_priceOf 33 = .ok (.istore 5, 2) := by decide +kernel
theorem dX7_priceOf_35 : decode cX7_priceOf 35 = .ok (.iload_n 3, 1) := by decide +kernel
theorem dX7_priceOf_36 : decode cX7_priceOf 36 = .ok (.iload 4, 2) := by decide +kernel
theorem dX7_priceOf_38 : decode cX7_priceOf 38 = .ok (.irem, 1) := by decide +kernel
theorem dX7_priceOf_39 : decode cX7_priceOf 39 = .ok (.istore 6, 2) := by decide +kernel
theorem dX7_priceOf_41 : decode cX7_priceOf 41 = .ok (.iload 6, 2) := by decide +kernel
theorem dX7_priceOf_43 : decode cX7_priceOf 43 = .ok (.ifCond .le 10, 3) := by decide +kernel
theorem dX7_priceOf_46 : decode cX7_priceOf 46 = .ok (.iload 5, 2) := by decide +kernel
theorem dX7_priceOf_48 : decode cX7_priceOf 48 = .ok (.iconst 1, 1) := by decide +kernel
theorem dX7_priceOf_49 : decode cX7_priceOf 49 = .ok (.iadd, 1) := by decide +kernel
theorem dX7_priceOf_50 : decode cX7_priceOf 50 = .ok (.goto 5, 3) := by decide +kernel
theorem dX7_priceOf_53 : decode cX7_priceOf 53 = .ok (.iload 5, 2) := by decide +kernel
theorem dX7_priceOf_55 : decode cX7_priceOf 55 = .ok (.istore 7, 2) := by decide +kernel
theorem dX7_priceOf_57 : decode cX7_priceOf 57 = .ok (.iload_n 2, 1) := by decide +kernel
theorem dX7_priceOf_58 : decode cX7_priceOf 58 = .ok (.ifCond .eq 8, 3) := by decide +kernel
theorem dX7_priceOf_61 : decode cX7_priceOf 61 = .ok (.iload_n 2, 1) := by decide +kernel
theorem dX7_priceOf_62 : decode cX7_priceOf 62 = .ok (.iconst 1, 1) := by decide +kernel
theorem dX7_priceOf_63 : decode cX7_priceOf 63 = .ok (.if_icmp .ne 22, 3) := by decide +kernel
theorem dX7_priceOf_66 : decode cX7_priceOf 66 = .ok (.aload_n 0, 1) := by decide +kernel
theorem dX7_priceOf_67 : decode cX7_priceOf 67 = .ok (.getfield 31, 3) := by decide +kernel
theorem dX7_priceOf_70 : decode cX7_priceOf 70 = .ok (.iconst 0, 1) := by decide +kernel
theorem dX7_priceOf_71 : decode cX7_priceOf 71 = .ok (.iaload, 1) := by decide +kernel
theorem dX7_priceOf_72 : decode cX7_priceOf 72 = .ok (.iload_n 2, 1) := by decide +kernel
theorem dX7_priceOf_73 : decode cX7_priceOf 73 = .ok (.ifCond .ne 8, 3) := by decide +kernel
theorem dX7_priceOf_76 : decode cX7_priceOf 76 = .ok (.iload 5, 2) := by decide +kernel
theorem dX7_priceOf_78 : decode cX7_priceOf 78 = .ok (.goto 5, 3) := by decide +kernel
theorem dX7_priceOf_81 : decode cX7_priceOf 81 = .ok (.iload 7, 2) := by decide +kernel
theorem dX7_priceOf_83 : decode cX7_priceOf 83 = .ok (.imul, 1) := by decide +kernel
theorem dX7_priceOf_84 : decode cX7_priceOf 84 = .ok (.ireturn, 1) := by decide +kernel
theorem dX7_priceOf_85 : decode cX7_priceOf 85 = .ok (.iconst 2, 1) := by decide +kernel
theorem dX7_priceOf_86 : decode cX7_priceOf 86 = .ok (.iload 6, 2) := by decide +kernel
theorem dX7_priceOf_88 : decode cX7_priceOf 88 = .ok (.imul, 1) := by decide +kernel
theorem dX7_priceOf_89 : decode cX7_priceOf 89 = .ok (.iload 4, 2) := by decide +kernel
theorem dX7_priceOf_91 : decode cX7_priceOf 91 = .ok (.if_icmp .gt 25, 3) := by decide +kernel
theorem dX7_priceOf_94 : decode cX7_priceOf 94 = .ok (.iconst 2, 1) := by decide +kernel
theorem dX7_priceOf_95 : decode cX7_priceOf 95 = .ok (.iload 6, 2) := by decide +kernel
theorem dX7_priceOf_97 : decode cX7_priceOf 97 = .ok (.imul, 1) := by decide +kernel
theorem dX7_priceOf_98 : decode cX7_priceOf 98 = .ok (.iload 4, 2) := by decide +kernel
theorem dX7_priceOf_100 : decode cX7_priceOf 100 = .ok (.if_icmp .ne 20, 3) := by decide +kernel
theorem dX7_priceOf_103 : decode cX7_priceOf 103 = .ok (.iload_n 2, 1) := by decide +kernel
theorem dX7_priceOf_104 : decode cX7_priceOf 104 = .ok (.iconst 2, 1) := by decide +kernel
theorem dX7_priceOf_105 : decode cX7_priceOf 105 = .ok (.if_icmp .eq 11, 3) := by decide +kernel
theorem dX7_priceOf_108 : decode cX7_priceOf 108 = .ok (.iload 5, 2) := by decide +kernel
theorem dX7_priceOf_110 : decode cX7_priceOf 110 = .ok (.iconst 2, 1) := by decide +kernel
theorem dX7_priceOf_111 : decode cX7_priceOf 111 = .ok (.irem, 1) := by decide +kernel
theorem dX7_priceOf_112 : decode cX7_priceOf 112 = .ok (.iconst 1, 1) := by decide +kernel
theorem dX7_priceOf_113 : decode cX7_priceOf 113 = .ok (.if_icmp .ne 7, 3) := by decide +kernel
theorem dX7_priceOf_116 : decode cX7_priceOf 116 = .ok (.iconst 1, 1) := by decide +kernel
theorem dX7_priceOf_117 : decode cX7_priceOf 117 = .ok (.goto 4, 3) := by decide +kernel
theorem dX7_priceOf_120 : decode cX7_priceOf 120 = .ok (.iconst 0, 1) := by decide +kernel
theorem dX7_priceOf_121 : decode cX7_priceOf 121 = .ok (.istore 8, 2) := by decide +kernel
theorem dX7_priceOf_123 : decode cX7_priceOf 123 = .ok (.aload_n 0, 1) := by decide +kernel
theorem dX7_priceOf_124 : decode cX7_priceOf 124 = .ok (.getfield 31, 3) := by decide +kernel
theorem dX7_priceOf_127 : decode cX7_priceOf 127 = .ok (.iconst 0, 1) := by decide +kernel
theorem dX7_priceOf_128 : decode cX7_priceOf 128 = .ok (.iaload, 1) := by decide +kernel
theorem dX7_priceOf_129 : decode cX7_priceOf 129 = .ok (.iload 8, 2) := by decide +kernel
theorem dX7_priceOf_131 : decode cX7_priceOf 131 = .ok (.ifCond .eq 8, 3) := by decide +kernel
theorem dX7_priceOf_134 : decode cX7_priceOf 134 = .ok (.iload 7, 2) := by decide +kernel
theorem dX7_priceOf_136 : decode cX7_priceOf 136 = .ok (.goto 5, 3) := by decide +kernel
theorem dX7_priceOf_139 : decode cX7_priceOf 139 = .ok (.iload 5, 2) := by decide +kernel
theorem dX7_priceOf_141 : decode cX7_priceOf 141 = .ok (.imul, 1) := by decide +kernel
theorem dX7_priceOf_142 : decode cX7_priceOf 142 = .ok (.ireturn, 1) := by decide +kernel
set_option maxRecDepth 20000 in
theorem ggX7_price_X7_isGood : GoodIn wsX7_price wsX7_isGood := goodIn_r _ [6, 7, 8, 9, 5, 10, 18, 19, 20, 21, 22, 23, 24, 25, 26, 27, 28, 29, 30, 31, 32, 33, 34, 35, 36, 37, 38, 39, 40, 41, 42, 43, 44] (by decide +kernel) (by decide +kernel)
set_option maxRecDepth 20000 in
theorem gX7_price_X7_isGood : GoodIn wsX7_price (wsV RX7 102 RX7 yX7_isGood wsX7_isGood) := goodIn_app (goodIn_of _ (by decide +kernel)) ggX7_price_X7_isGood
set_option maxRecDepth 20000 in
theorem ggX7_price_X7_in : GoodIn wsX7_price wsX7_in := goodIn_r _ [10] (by decide +kernel) (by decide +kernel)
set_option maxRecDepth 20000 in
theorem gX7_price_X7_in : GoodIn wsX7_price (va_wsS RX7 98 yX7_in wsX7_in) := goodIn_app (goodIn_of _ (by decide +kernel)) ggX7_price_X7_in
set_option maxRecDepth 20000 in
theorem ggX7_price_X7_priceOf : GoodIn wsX7_price wsX7_priceOf := goodIn_r _ [14, 15, 16, 17, 18, 19, 20, 21, 22, 23, 24, 25, 26, 27, 28, 29, 30, 31, 32, 33, 34, 35, 36, 37, 38, 39, 40, 41, 42, 43, 44] (by decide +kernel) (by decide +kernel)
set_option maxRecDepth 20000 in
theorem gX7_price_X7_priceOf : GoodIn wsX7_price (wsV RX7 106 RX7 yX7_priceOf wsX7_priceOf) := goodIn_app (goodIn_of _ (by decide +kernel)) ggX7_price_X7_priceOf
theorem dX7_price_0 : decode cX7_price 0 = .ok (.aload_n 0, 1) := by decide +kernel
theorem dX7_price_1 : decode cX7_price 1 = .ok (.iconst 0, 1) := by decide +kernel
theorem dX7_price_2 : decode cX7_price 2 = .ok (.putfield 90, 3) := by decide +kernel
theorem dX7_price_5 : decode cX7_price 5 = .ok (.aload_n 0, 1) := by decide +kernel
theorem dX7_price_6 : decode cX7_price 6 = .ok (.iload_n 1, 1) := by decide +kernel
theorem dX7_price_7 : decode cX7_price 7 = .ok (.invokevirtual 102, 3) := by decide +kernel
theorem dX7_price_10 : decode cX7_price 10 = .ok (.ifCond .eq 21, 3) := by decide +kernel
theorem dX7_price_13 : decode cX7_price 13 = .ok (.iload_n 2, 1) := by decide +kernel
theorem dX7_price_14 : decode cX7_price 14 = .ok (.iconst 0, 1) := by decide +kernel
theorem dX7_price_15 : decode cX7_price 15 = .ok (.iconst 3, 1) := by decide +kernel
theorem dX7_price_16 : decode cX7_price 16 = .ok (.invokestatic 98, 3) := by decide +kernel
theorem dX7_price_19 : decode cX7_price 19 = .ok (.ifCond .eq 12, 3) := by decide +kernel
theorem dX7_price_22 : decode cX7_price 22 = .ok (.aload_n 0, 1) := by decide +kernel
theorem dX7_price_23 : decode cX7_price 23 = .ok (.iload_n 1, 1) := by decide +kernel
theorem dX7_price_24 : decode cX7_price 24 = .ok (.iload_n 2, 1) := by decide +kernel
theorem dX7_price_25 : decode cX7_price 25 = .ok (.invokevirtual 106, 3) := by decide +kernel
theorem dX7_price_28 : decode cX7_price 28 = .ok (.goto 4, 3) := by decide +kernel
theorem dX7_price_31 : decode cX7_price 31 = .ok (.iconst (-1), 1) := by decide +kernel
theorem dX7_price_32 : decode cX7_price 32 = .ok (.ireturn, 1) := by decide +kernel
set_option maxRecDepth 20000 in
theorem ggX7_gainOf_X7_priceOf : GoodIn wsX7_gainOf wsX7_priceOf := goodIn_r _ [8, 2, 1, 9, 10, 11, 12, 13, 14, 15, 16, 17, 18, 19, 20, 21, 22, 23, 24, 25, 26, 27, 28, 29, 30, 31, 32, 33, 34, 35, 36] (by decide +kernel) (by decide +kernel)
set_option maxRecDepth 20000 in
theorem gX7_gainOf_X7_priceOf : GoodIn wsX7_gainOf (wsV RX7 106 RX7 yX7_priceOf wsX7_priceOf) := goodIn_app (goodIn_of _ (by decide +kernel)) ggX7_gainOf_X7_priceOf
theorem dX7_gainOf_0 : decode cX7_gainOf 0 = .ok (.aload_n 0, 1) := by decide +kernel
theorem dX7_gainOf_1 : decode cX7_gainOf 1 = .ok (.iload_n 1, 1) := by decide +kernel
theorem dX7_gainOf_2 : decode cX7_gainOf 2 = .ok (.iload_n 2, 1) := by decide +kernel
theorem dX7_gainOf_3 : decode cX7_gainOf 3 = .ok (.invokevirtual 106, 3) := by decide +kernel
theorem dX7_gainOf_6 : decode cX7_gainOf 6 = .ok (.i2l, 1) := by decide +kernel
theorem dX7_gainOf_7 : decode cX7_gainOf 7 = .ok (.aload_n 0, 1) := by decide +kernel
theorem dX7_gainOf_8 : decode cX7_gainOf 8 = .ok (.getfield 16, 3) := by decide +kernel
theorem dX7_gainOf_11 : decode cX7_gainOf 11 = .ok (.iconst 1, 1) := by decide +kernel
theorem dX7_gainOf_12 : decode cX7_gainOf 12 = .ok (.iaload, 1) := by decide +kernel
theorem dX7_gainOf_13 : decode cX7_gainOf 13 = .ok (.i2l, 1) := by decide +kernel
theorem dX7_gainOf_14 : decode cX7_gainOf 14 = .ok (.lmul, 1) := by decide +kernel
theorem dX7_gainOf_15 : decode cX7_gainOf 15 = .ok (.aload_n 0, 1) := by decide +kernel
theorem dX7_gainOf_16 : decode cX7_gainOf 16 = .ok (.getfield 25, 3) := by decide +kernel
theorem dX7_gainOf_19 : decode cX7_gainOf 19 = .ok (.iload_n 1, 1) := by decide +kernel
theorem dX7_gainOf_20 : decode cX7_gainOf 20 = .ok (.iaload, 1) := by decide +kernel
theorem dX7_gainOf_21 : decode cX7_gainOf 21 = .ok (.i2l, 1) := by decide +kernel
theorem dX7_gainOf_22 : decode cX7_gainOf 22 = .ok (.aload_n 0, 1) := by decide +kernel
theorem dX7_gainOf_23 : decode cX7_gainOf 23 = .ok (.getfield 16, 3) := by decide +kernel
theorem dX7_gainOf_26 : decode cX7_gainOf 26 = .ok (.iconst 0, 1) := by decide +kernel
theorem dX7_gainOf_27 : decode cX7_gainOf 27 = .ok (.iaload, 1) := by decide +kernel
theorem dX7_gainOf_28 : decode cX7_gainOf 28 = .ok (.i2l, 1) := by decide +kernel
theorem dX7_gainOf_29 : decode cX7_gainOf 29 = .ok (.lmul, 1) := by decide +kernel
theorem dX7_gainOf_30 : decode cX7_gainOf 30 = .ok (.lsub, 1) := by decide +kernel
theorem dX7_gainOf_31 : decode cX7_gainOf 31 = .ok (.aload_n 0, 1) := by decide +kernel
theorem dX7_gainOf_32 : decode cX7_gainOf 32 = .ok (.getfield 28, 3) := by decide +kernel
theorem dX7_gainOf_35 : decode cX7_gainOf 35 = .ok (.iload_n 1, 1) := by decide +kernel
theorem dX7_gainOf_36 : decode cX7_gainOf 36 = .ok (.iaload, 1) := by decide +kernel
theorem dX7_gainOf_37 : decode cX7_gainOf 37 = .ok (.i2l, 1) := by decide +kernel
theorem dX7_gainOf_38 : decode cX7_gainOf 38 = .ok (.lmul, 1) := by decide +kernel
theorem dX7_gainOf_39 : decode cX7_gainOf 39 = .ok (.lreturn, 1) := by decide +kernel
set_option maxRecDepth 20000 in
theorem ggX7_gain_X7_in : GoodIn wsX7_gain wsX7_in := goodIn_r _ [6] (by decide +kernel) (by decide +kernel)
set_option maxRecDepth 20000 in
theorem gX7_gain_X7_in : GoodIn wsX7_gain (va_wsS RX7 98 yX7_in wsX7_in) := goodIn_app (goodIn_of _ (by decide +kernel)) ggX7_gain_X7_in
set_option maxRecDepth 20000 in
theorem ggX7_gain_X7_gainOf : GoodIn wsX7_gain wsX7_gainOf := goodIn_r _ [10, 11, 12, 13, 14, 15, 16, 5, 17, 18, 19, 20, 21, 22, 23, 24, 25, 26, 27, 28, 29, 30, 31, 32, 33, 34, 35, 36, 37, 38, 39, 40, 41, 42, 43, 44, 45] (by decide +kernel) (by decide +kernel)
set_option maxRecDepth 20000 in
theorem gX7_gain_X7_gainOf : GoodIn wsX7_gain (wsV RX7 110 RX7 yX7_gainOf wsX7_gainOf) := goodIn_app (goodIn_of _ (by decide +kernel)) ggX7_gain_X7_gainOf
theorem dX7_gain_0 : decode cX7_gain 0 = .ok (.aload_n 0, 1) := by decide +kernel
theorem dX7_gain_1 : decode cX7_gain 1 = .ok (.iconst 0, 1) := by decide +kernel
theorem dX7_gain_2 : decode cX7_gain 2 = .ok (.putfield 90, 3) := by decide +kernel
theorem dX7_gain_5 : decode cX7_gain 5 = .ok (.lconst 0, 1) := by decide +kernel
theorem dX7_gain_6 : decode cX7_gain 6 = .ok (.lstore_n 2, 1) := by decide +kernel
theorem dX7_gain_7 : decode cX7_gain 7 = .ok (.iconst 0, 1) := by decide +kernel
theorem dX7_gain_8 : decode cX7_gain 8 = .ok (.istore 4, 2) := by decide +kernel
theorem dX7_gain_10 : decode cX7_gain 10 = .ok (.iload 4, 2) := by decide +kernel
theorem dX7_gain_12 : decode cX7_gain 12 = .ok (.aload_n 0, 1) := by decide +kernel
theorem dX7_gain_13 : decode cX7_gain 13 = .ok (.getfield 22, 3) := by decide +kernel
theorem dX7_gain_16 : decode cX7_gain 16 = .ok (.iconst 0, 1) := by decide +kernel
theorem dX7_gain_17 : decode cX7_gain 17 = .ok (.iaload, 1) := by decide +kernel
theorem dX7_gain_18 : decode cX7_gain 18 = .ok (.if_icmp .ge 28, 3) := by decide +kernel
theorem dX7_gain_21 : decode cX7_gain 21 = .ok (.iload_n 1, 1) := by decide +kernel
theorem dX7_gain_22 : decode cX7_gain 22 = .ok (.iconst 0, 1) := by decide +kernel
theorem dX7_gain_23 : decode cX7_gain 23 = .ok (.iconst 3, 1) := by decide +kernel
theorem dX7_gain_24 : decode cX7_gain 24 = .ok (.invokestatic 98, 3) := by decide +kernel
theorem dX7_gain_27 : decode cX7_gain 27 = .ok (.ifCond .eq 19, 3) := by decide +kernel
theorem dX7_gain_30 : decode cX7_gain 30 = .ok (.lload_n 2, 1) := by decide +kernel
theorem dX7_gain_31 : decode cX7_gain 31 = .ok (.aload_n 0, 1) := by decide +kernel
theorem dX7_gain_32 : decode cX7_gain 32 = .ok (.iload 4, 2) := by decide +kernel
theorem dX7_gain_34 : decode cX7_gain 34 = .ok (.iload_n 1, 1) := by decide +kernel
theorem dX7_gain_35 : decode cX7_gain 35 = .ok (.invokevirtual 110, 3) := by decide +kernel
theorem dX7_gain_38 : decode cX7_gain 38 = .ok (.ladd, 1) := by decide +kernel
theorem dX7_gain_39 : decode cX7_gain 39 = .ok (.lstore_n 2, 1) := by decide +kernel
theorem dX7_gain_40 : decode cX7_gain 40 = .ok (.iinc 4 1, 3) := by decide +kernel
theorem dX7_gain_43 : decode cX7_gain 43 = .ok (.goto (-33), 3) := by decide +kernel
theorem dX7_gain_46 : decode cX7_gain 46 = .ok (.lload_n 2, 1) := by decide +kernel
theorem dX7_gain_47 : decode cX7_gain 47 = .ok (.lreturn, 1) := by decide +kernel
set_option maxRecDepth 20000 in
theorem ggX7_fairest_X7_gainOf : GoodIn wsX7_fairest wsX7_gainOf := goodIn_r _ [9, 10, 11, 12, 13, 14, 15, 8, 16, 17, 18, 19, 20, 21, 22, 23, 24, 25, 26, 27, 28, 29, 30, 31, 32, 33, 34, 35, 36, 37, 38, 39, 40, 41, 42, 43, 44] (by decide +kernel) (by decide +kernel)
set_option maxRecDepth 20000 in
theorem gX7_fairest_X7_gainOf : GoodIn wsX7_fairest (wsV RX7 110 RX7 yX7_gainOf wsX7_gainOf) := goodIn_app (goodIn_of _ (by decide +kernel)) ggX7_fairest_X7_gainOf
theorem dX7_fairest_0 : decode cX7_fairest 0 = .ok (.aload_n 0, 1) := by decide +kernel
theorem dX7_fairest_1 : decode cX7_fairest 1 = .ok (.iconst 0, 1) := by decide +kernel
theorem dX7_fairest_2 : decode cX7_fairest 2 = .ok (.putfield 90, 3) := by decide +kernel
theorem dX7_fairest_5 : decode cX7_fairest 5 = .ok (.iconst 0, 1) := by decide +kernel
theorem dX7_fairest_6 : decode cX7_fairest 6 = .ok (.istore_n 1, 1) := by decide +kernel
theorem dX7_fairest_7 : decode cX7_fairest 7 = .ok (.iload_n 1, 1) := by decide +kernel
theorem dX7_fairest_8 : decode cX7_fairest 8 = .ok (.aload_n 0, 1) := by decide +kernel
theorem dX7_fairest_9 : decode cX7_fairest 9 = .ok (.getfield 22, 3) := by decide +kernel
theorem dX7_fairest_12 : decode cX7_fairest 12 = .ok (.iconst 0, 1) := by decide +kernel
theorem dX7_fairest_13 : decode cX7_fairest 13 = .ok (.iaload, 1) := by decide +kernel
theorem dX7_fairest_14 : decode cX7_fairest 14 = .ok (.if_icmp .ge 39, 3) := by decide +kernel
theorem dX7_fairest_17 : decode cX7_fairest 17 = .ok (.aload_n 0, 1) := by decide +kernel
theorem dX7_fairest_18 : decode cX7_fairest 18 = .ok (.getfield 62, 3) := by decide +kernel
theorem dX7_fairest_21 : decode cX7_fairest 21 = .ok (.iconst 2, 1) := by decide +kernel
theorem dX7_fairest_22 : decode cX7_fairest 22 = .ok (.iload_n 1, 1) := by decide +kernel
theorem dX7_fairest_23 : decode cX7_fairest 23 = .ok (.imul, 1) := by decide +kernel
theorem dX7_fairest_24 : decode cX7_fairest 24 = .ok (.aload_n 0, 1) := by decide +kernel
theorem dX7_fairest_25 : decode cX7_fairest 25 = .ok (.iload_n 1, 1) := by decide +kernel
theorem dX7_fairest_26 : decode cX7_fairest 26 = .ok (.iconst 0, 1) := by decide +kernel
theorem dX7_fairest_27 : decode cX7_fairest 27 = .ok (.invokevirtual 110, 3) := by decide +kernel
theorem dX7_fairest_30 : decode cX7_fairest 30 = .ok (.lastore, 1) := by decide +kernel
theorem dX7_fairest_31 : decode cX7_fairest 31 = .ok (.aload_n 0, 1) := by decide +kernel
theorem dX7_fairest_32 : decode cX7_fairest 32 = .ok (.getfield 62, 3) := by decide +kernel
theorem dX7_fairest_35 : decode cX7_fairest 35 = .ok (.iconst 2, 1) := by decide +kernel
theorem dX7_fairest_36 : decode cX7_fairest 36 = .ok (.iload_n 1, 1) := by decide +kernel
theorem dX7_fairest_37 : decode cX7_fairest 37 = .ok (.imul, 1) := by decide +kernel
theorem dX7_fairest_38 : decode cX7_fairest 38 = .ok (.iconst 1, 1) := by decide +kernel
theorem dX7_fairest_39 : decode cX7_fairest 39 = .ok (.iadd, 1) := by decide +kernel
theorem dX7_fairest_40 : decode cX7_fairest 40 = .ok (.aload_n 0, 1) := by decide +kernel
theorem dX7_fairest_41 : decode cX7_fairest 41 = .ok (.iload_n 1, 1) := by decide +kernel
theorem dX7_fairest_42 : decode cX7_fairest 42 = .ok (.iconst 1, 1) := by decide +kernel
theorem dX7_fairest_43 : decode cX7_fairest 43 = .ok (.invokevirtual 110, 3) := by decide +kernel
theorem dX7_fairest_46 : decode cX7_fairest 46 = .ok (.lastore, 1) := by decide +kernel
theorem dX7_fairest_47 : decode cX7_fairest 47 = .ok (.iinc 1 1, 3) := by decide +kernel
theorem dX7_fairest_50 : decode cX7_fairest 50 = .ok (.goto (-43), 3) := by decide +kernel
theorem dX7_fairest_53 : decode cX7_fairest 53 = .ok (.iconst 0, 1) := by decide +kernel
theorem dX7_fairest_54 : decode cX7_fairest 54 = .ok (.istore_n 1, 1) := by decide +kernel
theorem dX7_fairest_55 : decode cX7_fairest 55 = .ok (.ldc2_w 114, 3) := by decide +kernel
theorem dX7_fairest_58 : decode cX7_fairest 58 = .ok (.lstore_n 2, 1) := by decide +kernel
theorem dX7_fairest_59 : decode cX7_fairest 59 = .ok (.iconst 0, 1) := by decide +kernel
theorem dX7_fairest_60 : decode cX7_fairest 60 = .ok (.istore 4, 2) := by decide +kernel
theorem dX7_fairest_62 : decode cX7_fairest 62 = .ok (.iload 4, 2) := by decide +kernel
theorem dX7_fairest_64 : decode cX7_fairest 64 = .ok (.iconst 1, 1) := by decide +kernel
theorem dX7_fairest_65 : decode cX7_fairest 65 = .ok (.aload_n 0, 1) := by decide +kernel
theorem dX7_fairest_66 : decode cX7_fairest 66 = .ok (.getfield 22, 3) := by decide +kernel
theorem dX7_fairest_69 : decode cX7_fairest 69 = .ok (.iconst 0, 1) := by decide +kernel
theorem dX7_fairest_70 : decode cX7_fairest 70 = .ok (.iaload, 1) := by decide +kernel
theorem dX7_fairest_71 : decode cX7_fairest 71 = .ok (.ishl, 1) := by decide +kernel
theorem dX7_fairest_72 : decode cX7_fairest 72 = .ok (.if_icmp .ge 90, 3) := by decide +kernel
theorem dX7_fairest_75 : decode cX7_fairest 75 = .ok (.lconst 0, 1) := by decide +kernel
theorem dX7_fairest_76 : decode cX7_fairest 76 = .ok (.lstore 5, 2) := by decide +kernel
theorem dX7_fairest_78 : decode cX7_fairest 78 = .ok (.iconst 0, 1) := by decide +kernel
theorem dX7_fairest_79 : decode cX7_fairest 79 = .ok (.istore 7, 2) := by decide +kernel
theorem dX7_fairest_81 : decode cX7_fairest 81 = .ok (.iload 7, 2) := by decide +kernel
theorem dX7_fairest_83 : decode cX7_fairest 83 = .ok (.aload_n 0, 1) := by decide +kernel
theorem dX7_fairest_84 : decode cX7_fairest 84 = .ok (.getfield 22, 3) := by decide +kernel
theorem dX7_fairest_87 : decode cX7_fairest 87 = .ok (.iconst 0, 1) := by decide +kernel
theorem dX7_fairest_88 : decode cX7_fairest 88 = .ok (.iaload, 1) := by decide +kernel
theorem dX7_fairest_89 : decode cX7_fairest 89 = .ok (.if_icmp .ge 31, 3) := by decide +kernel
theorem dX7_fairest_92 : decode cX7_fairest 92 = .ok (.lload 5, 2) := by decide +kernel
theorem dX7_fairest_94 : decode cX7_fairest 94 = .ok (.aload_n 0, 1) := by decide +kernel
theorem dX7_fairest_95 : decode cX7_fairest 95 = .ok (.getfield 62, 3) := by decide +kernel
theorem dX7_fairest_98 : decode cX7_fairest 98 = .ok (.iconst 2, 1) := by decide +kernel
theorem dX7_fairest_99 : decode cX7_fairest 99 = .ok (.iload 7, 2) := by decide +kernel
theorem dX7_fairest_101 : decode cX7_fairest 101 = .ok (.imul, 1) := by decide +kernel
theorem dX7_fairest_102 : decode cX7_fairest 102 = .ok (.iload 4, 2) := by decide +kernel
theorem dX7_fairest_104 : decode cX7_fairest 104 = .ok (.iload 7, 2) := by decide +kernel
theorem dX7_fairest_106 : decode cX7_fairest 106 = .ok (.ishr, 1) := by decide +kernel
theorem dX7_fairest_107 : decode cX7_fairest 107 = .ok (.iconst 1, 1) := by decide +kernel
theorem dX7_fairest_108 : decode cX7_fairest 108 = .ok (.iand, 1) := by decide +kernel
theorem dX7_fairest_109 : decode cX7_fairest 109 = .ok (.iadd, 1) := by decide +kernel
theorem dX7_fairest_110 : decode cX7_fairest 110 = .ok (.laload, 1) := by decide +kernel
theorem dX7_fairest_111 : decode cX7_fairest 111 = .ok (.ladd, 1) := by decide +kernel
theorem dX7_fairest_112 : decode cX7_fairest 112 = .ok (.lstore 5, 2) := by decide +kernel
theorem dX7_fairest_114 : decode cX7_fairest 114 = .ok (.iinc 7 1, 3) := by decide +kernel
theorem dX7_fairest_117 : decode cX7_fairest 117 = .ok (.goto (-36), 3) := by decide +kernel
theorem dX7_fairest_120 : decode cX7_fairest 120 = .ok (.lload 5, 2) := by decide +kernel
theorem dX7_fairest_122 : decode cX7_fairest 122 = .ok (.lconst 0, 1) := by decide +kernel
theorem dX7_fairest_123 : decode cX7_fairest 123 = .ok (.lcmp, 1) := by decide +kernel
theorem dX7_fairest_124 : decode cX7_fairest 124 = .ok (.ifCond .ge 9, 3) := by decide +kernel
theorem dX7_fairest_127 : decode cX7_fairest 127 = .ok (.lload 5, 2) := by decide +kernel
theorem dX7_fairest_129 : decode cX7_fairest 129 = .ok (.lneg, 1) := by decide +kernel
theorem dX7_fairest_130 : decode cX7_fairest 130 = .ok (.goto 5, 3) := by decide +kernel
theorem dX7_fairest_133 : decode cX7_fairest 133 = .ok (.lload 5, 2) := by decide +kernel
theorem dX7_fairest_135 : decode cX7_fairest 135 = .ok (.lstore 5, 2) := by decide +kernel
theorem dX7_fairest_137 : decode cX7_fairest 137 = .ok (.lload_n 2, 1) := by decide +kernel
theorem dX7_fairest_138 : decode cX7_fairest 138 = .ok (.lconst 0, 1) := by decide +kernel
theorem dX7_fairest_139 : decode cX7_fairest 139 = .ok (.lcmp, 1) := by decide +kernel
theorem dX7_fairest_140 : decode cX7_fairest 140 = .ok (.ifCond .lt 10, 3) := by decide +kernel
theorem dX7_fairest_143 : decode cX7_fairest 143 = .ok (.lload 5, 2) := by decide +kernel
theorem dX7_fairest_145 : decode cX7_fairest 145 = .ok (.lload_n 2, 1) := by decide +kernel
theorem dX7_fairest_146 : decode cX7_fairest 146 = .ok (.lcmp, 1) := by decide +kernel
theorem dX7_fairest_147 : decode cX7_fairest 147 = .ok (.ifCond .ge 9, 3) := by decide +kernel
theorem dX7_fairest_150 : decode cX7_fairest 150 = .ok (.lload 5, 2) := by decide +kernel
theorem dX7_fairest_152 : decode cX7_fairest 152 = .ok (.lstore_n 2, 1) := by decide +kernel
theorem dX7_fairest_153 : decode cX7_fairest 153 = .ok (.iload 4, 2) := by decide +kernel
theorem dX7_fairest_155 : decode cX7_fairest 155 = .ok (.istore_n 1, 1) := by decide +kernel
theorem dX7_fairest_156 : decode cX7_fairest 156 = .ok (.iinc 4 1, 3) := by decide +kernel
theorem dX7_fairest_159 : decode cX7_fairest 159 = .ok (.goto (-97), 3) := by decide +kernel
theorem dX7_fairest_162 : decode cX7_fairest 162 = .ok (.iload_n 1, 1) := by decide +kernel
theorem dX7_fairest_163 : decode cX7_fairest 163 = .ok (.ireturn, 1) := by decide +kernel
set_option maxRecDepth 20000 in
theorem ggX7_gains_X7_gainOf : GoodIn wsX7_gains wsX7_gainOf := goodIn_r _ [7, 8, 9, 10, 11, 12, 13, 6, 14, 15, 16, 17, 18, 19, 20, 21, 22, 23, 24, 25, 26, 27, 28, 29, 30, 31, 32, 33, 34, 35, 36, 37, 38, 39, 40, 41, 42] (by decide +kernel) (by decide +kernel)
set_option maxRecDepth 20000 in
theorem gX7_gains_X7_gainOf : GoodIn wsX7_gains (wsV RX7 110 RX7 yX7_gainOf wsX7_gainOf) := goodIn_app (goodIn_of _ (by decide +kernel)) ggX7_gains_X7_gainOf
theorem dX7_gains_0 : decode cX7_gains 0 = .ok (.aload_n 0, 1) := by decide +kernel
theorem dX7_gains_1 : decode cX7_gains 1 = .ok (.iconst 0, 1) := by decide +kernel
theorem dX7_gains_2 : decode cX7_gains 2 = .ok (.putfield 90, 3) := by decide +kernel
theorem dX7_gains_5 : decode cX7_gains 5 = .ok (.lconst 0, 1) := by decide +kernel
theorem dX7_gains_6 : decode cX7_gains 6 = .ok (.lstore_n 2, 1) := by decide +kernel
theorem dX7_gains_7 : decode cX7_gains 7 = .ok (.iconst 0, 1) := by decide +kernel
theorem dX7_gains_8 : decode cX7_gains 8 = .ok (.istore 4, 2) := by decide +kernel
theorem dX7_gains_10 : decode cX7_gains 10 = .ok (.iload 4, 2) := by decide +kernel
theorem dX7_gains_12 : decode cX7_gains 12 = .ok (.aload_n 0, 1) := by decide +kernel
theorem dX7_gains_13 : decode cX7_gains 13 = .ok (.getfield 22, 3) := by decide +kernel
theorem dX7_gains_16 : decode cX7_gains 16 = .ok (.iconst 0, 1) := by decide +kernel
theorem dX7_gains_17 : decode cX7_gains 17 = .ok (.iaload, 1) := by decide +kernel
theorem dX7_gains_18 : decode cX7_gains 18 = .ok (.if_icmp .ge 24, 3) := by decide +kernel
theorem dX7_gains_21 : decode cX7_gains 21 = .ok (.lload_n 2, 1) := by decide +kernel
theorem dX7_gains_22 : decode cX7_gains 22 = .ok (.aload_n 0, 1) := by decide +kernel
theorem dX7_gains_23 : decode cX7_gains 23 = .ok (.iload 4, 2) := by decide +kernel
theorem dX7_gains_25 : decode cX7_gains 25 = .ok (.iload_n 1, 1) := by decide +kernel
theorem dX7_gains_26 : decode cX7_gains 26 = .ok (.iload 4, 2) := by decide +kernel
theorem dX7_gains_28 : decode cX7_gains 28 = .ok (.ishr, 1) := by decide +kernel
theorem dX7_gains_29 : decode cX7_gains 29 = .ok (.iconst 1, 1) := by decide +kernel
theorem dX7_gains_30 : decode cX7_gains 30 = .ok (.iand, 1) := by decide +kernel
theorem dX7_gains_31 : decode cX7_gains 31 = .ok (.invokevirtual 110, 3) := by decide +kernel
theorem dX7_gains_34 : decode cX7_gains 34 = .ok (.ladd, 1) := by decide +kernel
theorem dX7_gains_35 : decode cX7_gains 35 = .ok (.lstore_n 2, 1) := by decide +kernel
theorem dX7_gains_36 : decode cX7_gains 36 = .ok (.iinc 4 1, 3) := by decide +kernel
theorem dX7_gains_39 : decode cX7_gains 39 = .ok (.goto (-29), 3) := by decide +kernel
theorem dX7_gains_42 : decode cX7_gains 42 = .ok (.lload_n 2, 1) := by decide +kernel
theorem dX7_gains_43 : decode cX7_gains 43 = .ok (.lreturn, 1) := by decide +kernel
theorem dX7_sortCoins_0 : decode cX7_sortCoins 0 = .ok (.iconst 0, 1) := by decide +kernel
theorem dX7_sortCoins_1 : decode cX7_sortCoins 1 = .ok (.istore_n 2, 1) := by decide +kernel
theorem dX7_sortCoins_2 : decode cX7_sortCoins 2 = .ok (.iload_n 2, 1) := by decide +kernel
theorem dX7_sortCoins_3 : decode cX7_sortCoins 3 = .ok (.aload_n 0, 1) := by decide +kernel
theorem dX7_sortCoins_4 : decode cX7_sortCoins 4 = .ok (.getfield 7, 3) := by decide +kernel
theorem dX7_sortCoins_7 : decode cX7_sortCoins 7 = .ok (.iload_n 1, 1) := by decide +kernel
theorem dX7_sortCoins_8 : decode cX7_sortCoins 8 = .ok (.iaload, 1) := by decide +kernel
theorem dX7_sortCoins_9 : decode cX7_sortCoins 9 = .ok (.if_icmp .ge 74, 3) := by decide +kernel
theorem dX7_sortCoins_12 : decode cX7_sortCoins 12 = .ok (.iload_n 2, 1) := by decide +kernel
theorem dX7_sortCoins_13 : decode cX7_sortCoins 13 = .ok (.istore_n 3, 1) := by decide +kernel
theorem dX7_sortCoins_14 : decode cX7_sortCoins 14 = .ok (.iload_n 3, 1) := by decide +kernel
theorem dX7_sortCoins_15 : decode cX7_sortCoins 15 = .ok (.ifCond .le 55, 3) := by decide +kernel
theorem dX7_sortCoins_18 : decode cX7_sortCoins 18 = .ok (.aload_n 0, 1) := by decide +kernel
theorem dX7_sortCoins_19 : decode cX7_sortCoins 19 = .ok (.getfield 13, 3) := by decide +kernel
theorem dX7_sortCoins_22 : decode cX7_sortCoins 22 = .ok (.bipush 8, 2) := by decide +kernel
theorem dX7_sortCoins_24 : decode cX7_sortCoins 24 = .ok (.iload_n 1, 1) := by decide +kernel
theorem dX7_sortCoins_25 : decode cX7_sortCoins 25 = .ok (.imul, 1) := by decide +kernel
theorem dX7_sortCoins_26 : decode cX7_sortCoins 26 = .ok (.aload_n 0, 1) := by decide +kernel
theorem dX7_sortCoins_27 : decode cX7_sortCoins 27 = .ok (.getfield 65, 3) := by decide +kernel
theorem dX7_sortCoins_30 : decode cX7_sortCoins 30 = .ok (.iload_n 3, 1) := by decide +kernel
theorem dX7_sortCoins_31 : decode cX7_sortCoins 31 = .ok (.iconst 1, 1) := by decide +kernel
theorem dX7_sortCoins_32 : decode cX7_sortCoins 32 = .ok (.isub, 1) := by decide +kernel
theorem dX7_sortCoins_33 : decode cX7_sortCoins 33 = .ok (.iaload, 1) := by decide +kernel
theorem dX7_sortCoins_34 : decode cX7_sortCoins 34 = .ok (.iadd, 1) := by decide +kernel
theorem dX7_sortCoins_35 : decode cX7_sortCoins 35 = .ok (.iaload, 1) := by decide +kernel
theorem dX7_sortCoins_36 : decode cX7_sortCoins 36 = .ok (.aload_n 0, 1) := by decide +kernel
theorem dX7_sortCoins_37 : decode cX7_sortCoins 37 = .ok (.getfield 13, 3) := by decide +kernel
theorem dX7_sortCoins_40 : decode cX7_sortCoins 40 = .ok (.bipush 8, 2) := by decide +kernel
theorem dX7_sortCoins_42 : decode cX7_sortCoins 42 = .ok (.iload_n 1, 1) := by decide +kernel
theorem dX7_sortCoins_43 : decode cX7_sortCoins 43 = .ok (.imul, 1) := by decide +kernel
theorem dX7_sortCoins_44 : decode cX7_sortCoins 44 = .ok (.iload_n 2, 1) := by decide +kernel
theorem dX7_sortCoins_45 : decode cX7_sortCoins 45 = .ok (.iadd, 1) := by decide +kernel
theorem dX7_sortCoins_46 : decode cX7_sortCoins 46 = .ok (.iaload, 1) := by decide +kernel
theorem dX7_sortCoins_47 : decode cX7_sortCoins 47 = .ok (.if_icmp .ge 23, 3) := by decide +kernel
theorem dX7_sortCoins_50 : decode cX7_sortCoins 50 = .ok (.aload_n 0, 1) := by decide +kernel
theorem dX7_sortCoins_51 : decode cX7_sortCoins 51 = .ok (.getfield 65, 3) := by decide +kernel
theorem dX7_sortCoins_54 : decode cX7_sortCoins 54 = .ok (.iload_n 3, 1) := by decide +kernel
theorem dX7_sortCoins_55 : decode cX7_sortCoins 55 = .ok (.aload_n 0, 1) := by decide +kernel
theorem dX7_sortCoins_56 : decode cX7_sortCoins 56 = .ok (.getfield 65, 3) := by decide +kernel
theorem dX7_sortCoins_59 : decode cX7_sortCoins 59 = .ok (.iload_n 3, 1) := by decide +kernel
theorem dX7_sortCoins_60 : decode cX7_sortCoins 60 = .ok (.iconst 1, 1) := by decide +kernel
theorem dX7_sortCoins_61 : decode cX7_sortCoins 61 = .ok (.isub, 1) := by decide +kernel
theorem dX7_sortCoins_62 : decode cX7_sortCoins 62 = .ok (.iaload, 1) := by decide +kernel
theorem dX7_sortCoins_63 : decode cX7_sortCoins 63 = .ok (.iastore, 1) := by decide +kernel
theorem dX7_sortCoins_64 : decode cX7_sortCoins 64 = .ok (.iinc 3 (-1), 3) := by decide +kernel
theorem dX7_sortCoins_67 : decode cX7_sortCoins 67 = .ok (.goto (-53), 3) := by decide +kernel
theorem dX7_sortCoins_70 : decode cX7_sortCoins 70 = .ok (.aload_n 0, 1) := by decide +kernel
theorem dX7_sortCoins_71 : decode cX7_sortCoins 71 = .ok (.getfield 65, 3) := by decide +kernel
theorem dX7_sortCoins_74 : decode cX7_sortCoins 74 = .ok (.iload_n 3, 1) := by decide +kernel
theorem dX7_sortCoins_75 : decode cX7_sortCoins 75 = .ok (.iload_n 2, 1) := by decide +kernel
theorem dX7_sortCoins_76 : decode cX7_sortCoins 76 = .ok (.iastore, 1) := by decide +kernel
theorem dX7_sortCoins_77 : decode cX7_sortCoins 77 = .ok (.iinc 2 1, 3) := by decide +kernel
theorem dX7_sortCoins_80 : decode cX7_sortCoins 80 = .ok (.goto (-78), 3) := by decide +kernel
theorem dX7_sortCoins_83 : decode cX7_sortCoins 83 = .ok (.return_, 1) := by decide +kernel
set_option maxRecDepth 20000 in
theorem ggX7_find_X7_sortCoins : GoodIn wsX7_find wsX7_sortCoins := goodIn_r _ [12, 1, 4, 5, 13, 14, 15, 16, 17, 18, 19, 20, 21, 22, 23, 24, 25, 26, 27, 28, 29, 30, 31, 32, 33, 34, 35, 36, 37, 38, 39] (by decide +kernel) (by decide +kernel)
set_option maxRecDepth 20000 in
theorem gX7_find_X7_sortCoins : GoodIn wsX7_find (wsV RX7 116 RX7 yX7_sortCoins wsX7_sortCoins) := goodIn_app (goodIn_of _ (by decide +kernel)) ggX7_find_X7_sortCoins
theorem dX7_find_0 : decode cX7_find 0 = .ok (.aload_n 0, 1) := by decide +kernel
theorem dX7_find_1 : decode cX7_find 1 = .ok (.iload_n 1, 1) := by decide +kernel
theorem dX7_find_2 : decode cX7_find 2 = .ok (.invokevirtual 116, 3) := by decide +kernel
theorem dX7_find_5 : decode cX7_find 5 = .ok (.aload_n 0, 1) := by decide +kernel
theorem dX7_find_6 : decode cX7_find 6 = .ok (.getfield 7, 3) := by decide +kernel
theorem dX7_find_9 : decode cX7_find 9 = .ok (.iload_n 1, 1) := by decide +kernel
theorem dX7_find_10 : decode cX7_find 10 = .ok (.iaload, 1) := by decide +kernel
theorem dX7_find_11 : decode cX7_find 11 = .ok (.istore_n 3, 1) := by decide +kernel
theorem dX7_find_12 : decode cX7_find 12 = .ok (.iconst 0, 1) := by decide +kernel
theorem dX7_find_13 : decode cX7_find 13 = .ok (.istore 4, 2) := by decide +kernel
theorem dX7_find_15 : decode cX7_find 15 = .ok (.iload 4, 2) := by decide +kernel
theorem dX7_find_17 : decode cX7_find 17 = .ok (.iload_n 2, 1) := by decide +kernel
theorem dX7_find_18 : decode cX7_find 18 = .ok (.if_icmp .gt 33, 3) := by decide +kernel
theorem dX7_find_21 : decode cX7_find 21 = .ok (.aload_n 0, 1) := by decide +kernel
theorem dX7_find_22 : decode cX7_find 22 = .ok (.getfield 68, 3) := by decide +kernel
theorem dX7_find_25 : decode cX7_find 25 = .ok (.sipush 2001, 3) := by decide +kernel
theorem dX7_find_28 : decode cX7_find 28 = .ok (.iload_n 3, 1) := by decide +kernel
theorem dX7_find_29 : decode cX7_find 29 = .ok (.imul, 1) := by decide +kernel
theorem dX7_find_30 : decode cX7_find 30 = .ok (.iload 4, 2) := by decide +kernel
theorem dX7_find_32 : decode cX7_find 32 = .ok (.iadd, 1) := by decide +kernel
theorem dX7_find_33 : decode cX7_find 33 = .ok (.iload 4, 2) := by decide +kernel
theorem dX7_find_35 : decode cX7_find 35 = .ok (.ifCond .ne 7, 3) := by decide +kernel
theorem dX7_find_38 : decode cX7_find 38 = .ok (.iconst 0, 1) := by decide +kernel
theorem dX7_find_39 : decode cX7_find 39 = .ok (.goto 5, 3) := by decide +kernel
theorem dX7_find_42 : decode cX7_find 42 = .ok (.ldc 120, 2) := by decide +kernel
theorem dX7_find_44 : decode cX7_find 44 = .ok (.iastore, 1) := by decide +kernel
theorem dX7_find_45 : decode cX7_find 45 = .ok (.iinc 4 1, 3) := by decide +kernel
theorem dX7_find_48 : decode cX7_find 48 = .ok (.goto (-33), 3) := by decide +kernel
theorem dX7_find_51 : decode cX7_find 51 = .ok (.iload_n 3, 1) := by decide +kernel
theorem dX7_find_52 : decode cX7_find 52 = .ok (.iconst 1, 1) := by decide +kernel
theorem dX7_find_53 : decode cX7_find 53 = .ok (.isub, 1) := by decide +kernel
theorem dX7_find_54 : decode cX7_find 54 = .ok (.istore 4, 2) := by decide +kernel
theorem dX7_find_56 : decode cX7_find 56 = .ok (.iload 4, 2) := by decide +kernel
theorem dX7_find_58 : decode cX7_find 58 = .ok (.ifCond .lt 215, 3) := by decide +kernel
theorem dX7_find_61 : decode cX7_find 61 = .ok (.aload_n 0, 1) := by decide +kernel
theorem dX7_find_62 : decode cX7_find 62 = .ok (.getfield 13, 3) := by decide +kernel
theorem dX7_find_65 : decode cX7_find 65 = .ok (.bipush 8, 2) := by decide +kernel
theorem dX7_find_67 : decode cX7_find 67 = .ok (.iload_n 1, 1) := by decide +kernel
theorem dX7_find_68 : decode cX7_find 68 = .ok (.imul, 1) := by decide +kernel
theorem dX7_find_69 : decode cX7_find 69 = .ok (.aload_n 0, 1) := by decide +kernel
theorem dX7_find_70 : decode cX7_find 70 = .ok (.getfield 65, 3) := by decide +kernel
theorem dX7_find_73 : decode cX7_find 73 = .ok (.iload 4, 2) := by decide +kernel
theorem dX7_find_75 : decode cX7_find 75 = .ok (.iaload, 1) := by decide +kernel
theorem dX7_find_76 : decode cX7_find 76 = .ok (.iadd, 1) := by decide +kernel
theorem dX7_find_77 : decode cX7_find 77 = .ok (.iaload, 1) := by decide +kernel
theorem dX7_find_78 : decode cX7_find 78 = .ok (.istore 5, 2) := by decide +kernel
theorem dX7_find_80 : decode cX7_find 80 = .ok (.iconst 0, 1) := by decide +kernel
theorem dX7_find_81 : decode cX7_find 81 = .ok (.istore 6, 2) := by decide +kernel
theorem dX7_find_83 : decode cX7_find 83 = .ok (.iload 6, 2) := by decide +kernel
theorem dX7_find_85 : decode cX7_find 85 = .ok (.iload_n 2, 1) := by decide +kernel
theorem dX7_find_86 : decode cX7_find 86 = .ok (.if_icmp .gt 181, 3) := by decide +kernel
theorem dX7_find_89 : decode cX7_find 89 = .ok (.aload_n 0, 1) := by decide +kernel
theorem dX7_find_90 : decode cX7_find 90 = .ok (.getfield 74, 3) := by decide +kernel
theorem dX7_find_93 : decode cX7_find 93 = .ok (.aload_n 0, 1) := by decide +kernel
theorem dX7_find_94 : decode cX7_find 94 = .ok (.getfield 65, 3) := by decide +kernel
theorem dX7_find_97 : decode cX7_find 97 = .ok (.iload 4, 2) := by decide +kernel
theorem dX7_find_99 : decode cX7_find 99 = .ok (.iaload, 1) := by decide +kernel
theorem dX7_find_100 : decode cX7_find 100 = .ok (.iaload, 1) := by decide +kernel
theorem dX7_find_101 : decode cX7_find 101 = .ok (.sipush 2000, 3) := by decide +kernel
theorem dX7_find_104 : decode cX7_find 104 = .ok (.if_icmp .ne 32, 3) := by decide +kernel
theorem dX7_find_107 : decode cX7_find 107 = .ok (.iload 6, 2) := by decide +kernel
theorem dX7_find_109 : decode cX7_find 109 = .ok (.iload 5, 2) := by decide +kernel
theorem dX7_find_111 : decode cX7_find 111 = .ok (.if_icmp .lt 25, 3) := by decide +kernel
theorem dX7_find_114 : decode cX7_find 114 = .ok (.aload_n 0, 1) := by decide +kernel
theorem dX7_find_115 : decode cX7_find 115 = .ok (.getfield 68, 3) := by decide +kernel
theorem dX7_find_118 : decode cX7_find 118 = .ok (.sipush 2001, 3) := by decide +kernel
theorem dX7_find_121 : decode cX7_find 121 = .ok (.iload 4, 2) := by decide +kernel
theorem dX7_find_123 : decode cX7_find 123 = .ok (.imul, 1) := by decide +kernel
theorem dX7_find_124 : decode cX7_find 124 = .ok (.iload 6, 2) := by decide +kernel
theorem dX7_find_126 : decode cX7_find 126 = .ok (.iadd, 1) := by decide +kernel
theorem dX7_find_127 : decode cX7_find 127 = .ok (.iload 5, 2) := by decide +kernel
theorem dX7_find_129 : decode cX7_find 129 = .ok (.isub, 1) := by decide +kernel
theorem dX7_find_130 : decode cX7_find 130 = .ok (.iaload, 1) := by decide +kernel
theorem dX7_find_131 : decode cX7_find 131 = .ok (.iconst 1, 1) := by decide +kernel
theorem dX7_find_132 : decode cX7_find 132 = .ok (.iadd, 1) := by decide +kernel
theorem dX7_find_133 : decode cX7_find 133 = .ok (.goto 5, 3) := by decide +kernel
theorem dX7_find_136 : decode cX7_find 136 = .ok (.ldc 120, 2) := by decide +kernel
theorem dX7_find_138 : decode cX7_find 138 = .ok (.istore 7, 2) := by decide +kernel
theorem dX7_find_140 : decode cX7_find 140 = .ok (.aload_n 0, 1) := by decide +kernel
theorem dX7_find_141 : decode cX7_find 141 = .ok (.getfield 74, 3) := by decide +kernel
theorem dX7_find_144 : decode cX7_find 144 = .ok (.aload_n 0, 1) := by decide +kernel
theorem dX7_find_145 : decode cX7_find 145 = .ok (.getfield 65, 3) := by decide +kernel
theorem dX7_find_148 : decode cX7_find 148 = .ok (.iload 4, 2) := by decide +kernel
theorem dX7_find_150 : decode cX7_find 150 = .ok (.iaload, 1) := by decide +kernel
theorem dX7_find_151 : decode cX7_find 151 = .ok (.iaload, 1) := by decide +kernel
theorem dX7_find_152 : decode cX7_find 152 = .ok (.sipush 2000, 3) := by decide +kernel
theorem dX7_find_155 : decode cX7_find 155 = .ok (.if_icmp .ne 7, 3) := by decide +kernel
theorem dX7_find_158 : decode cX7_find 158 = .ok (.iconst 0, 1) := by decide +kernel
theorem dX7_find_159 : decode cX7_find 159 = .ok (.goto 15, 3) := by decide +kernel
theorem dX7_find_162 : decode cX7_find 162 = .ok (.aload_n 0, 1) := by decide +kernel
theorem dX7_find_163 : decode cX7_find 163 = .ok (.getfield 74, 3) := by decide +kernel
theorem dX7_find_166 : decode cX7_find 166 = .ok (.aload_n 0, 1) := by decide +kernel
theorem dX7_find_167 : decode cX7_find 167 = .ok (.getfield 65, 3) := by decide +kernel
theorem dX7_find_170 : decode cX7_find 170 = .ok (.iload 4, 2) := by decide +kernel
theorem dX7_find_172 : decode cX7_find 172 = .ok (.iaload, 1) := by decide +kernel
theorem dX7_find_173 : decode cX7_find 173 = .ok (.iaload, 1) := by decide +kernel
theorem dX7_find_174 : decode cX7_find 174 = .ok (.istore 8, 2) := by decide +kernel
theorem dX7_find_176 : decode cX7_find 176 = .ok (.iconst 0, 1) := by decide +kernel
theorem dX7_find_177 : decode cX7_find 177 = .ok (.istore 9, 2) := by decide +kernel
theorem dX7_find_179 : decode cX7_find 179 = .ok (.iload 9, 2) := by decide +kernel
theorem dX7_find_181 : decode cX7_find 181 = .ok (.iload 8, 2) := by decide +kernel
theorem dX7_find_183 : decode cX7_find 183 = .ok (.if_icmp .gt 62, 3) := by decide +kernel
theorem dX7_find_186 : decode cX7_find 186 = .ok (.iload 9, 2) := by decide +kernel
theorem dX7_find_188 : decode cX7_find 188 = .ok (.iload 5, 2) := by decide +kernel
theorem dX7_find_190 : decode cX7_find 190 = .ok (.imul, 1) := by decide +kernel
theorem dX7_find_191 : decode cX7_find 191 = .ok (.iload 6, 2) := by decide +kernel
theorem dX7_find_193 : decode cX7_find 193 = .ok (.if_icmp .gt 52, 3) := by decide +kernel
theorem dX7_find_196 : decode cX7_find 196 = .ok (.iload 9, 2) := by decide +kernel
theorem dX7_find_198 : decode cX7_find 198 = .ok (.aload_n 0, 1) := by decide +kernel
theorem dX7_find_199 : decode cX7_find 199 = .ok (.getfield 68, 3) := by decide +kernel
theorem dX7_find_202 : decode cX7_find 202 = .ok (.sipush 2001, 3) := by decide +kernel
theorem dX7_find_205 : decode cX7_find 205 = .ok (.iload 4, 2) := by decide +kernel
theorem dX7_find_207 : decode cX7_find 207 = .ok (.iconst 1, 1) := by decide +kernel
theorem dX7_find_208 : decode cX7_find 208 = .ok (.iadd, 1) := by decide +kernel
theorem dX7_find_209 : decode cX7_find 209 = .ok (.imul, 1) := by decide +kernel
theorem dX7_find_210 : decode cX7_find 210 = .ok (.iload 6, 2) := by decide +kernel
theorem dX7_find_212 : decode cX7_find 212 = .ok (.iadd, 1) := by decide +kernel
theorem dX7_find_213 : decode cX7_find 213 = .ok (.iload 9, 2) := by decide +kernel
theorem dX7_find_215 : decode cX7_find 215 = .ok (.iload 5, 2) := by decide +kernel
theorem dX7_find_217 : decode cX7_find 217 = .ok (.imul, 1) := by decide +kernel
theorem dX7_find_218 : decode cX7_find 218 = .ok (.isub, 1) := by decide +kernel
theorem dX7_find_219 : decode cX7_find 219 = .ok (.iaload, 1) := by decide +kernel
theorem dX7_find_220 : decode cX7_find 220 = .ok (.iadd, 1) := by decide +kernel
theorem dX7_find_221 : decode cX7_find 221 = .ok (.istore 10, 2) := by decide +kernel
theorem dX7_find_223 : decode cX7_find 223 = .ok (.iload 10, 2) := by decide +kernel
theorem dX7_find_225 : decode cX7_find 225 = .ok (.iload 7, 2) := by decide +kernel
theorem dX7_find_227 : decode cX7_find 227 = .ok (.if_icmp .ge 8, 3) := by decide +kernel
theorem dX7_find_230 : decode cX7_find 230 = .ok (.iload 10, 2) := by decide +kernel
theorem dX7_find_232 : decode cX7_find 232 = .ok (.goto 5, 3) := by decide +kernel
theorem dX7_find_235 : decode cX7_find 235 = .ok (.iload 7, 2) := by decide +kernel
theorem dX7_find_237 : decode cX7_find 237 = .ok (.istore 7, 2) := by decide +kernel
theorem dX7_find_239 : decode cX7_find 239 = .ok (.iinc 9 1, 3) := by decide +kernel
theorem dX7_find_242 : decode cX7_find 242 = .ok (.goto (-63), 3) := by decide +kernel
theorem dX7_find_245 : decode cX7_find 245 = .ok (.aload_n 0, 1) := by decide +kernel
theorem dX7_find_246 : decode cX7_find 246 = .ok (.getfield 68, 3) := by decide +kernel
theorem dX7_find_249 : decode cX7_find 249 = .ok (.sipush 2001, 3) := by decide +kernel
theorem dX7_find_252 : decode cX7_find 252 = .ok (.iload 4, 2) := by decide +kernel
theorem dX7_find_254 : decode cX7_find 254 = .ok (.imul, 1) := by decide +kernel
theorem dX7_find_255 : decode cX7_find 255 = .ok (.iload 6, 2) := by decide +kernel
theorem dX7_find_257 : decode cX7_find 257 = .ok (.iadd, 1) := by decide +kernel
theorem dX7_find_258 : decode cX7_find 258 = .ok (.iload 7, 2) := by decide +kernel
theorem dX7_find_260 : decode cX7_find 260 = .ok (.iastore, 1) := by decide +kernel
theorem dX7_find_261 : decode cX7_find 261 = .ok (.iinc 6 1, 3) := by decide +kernel
theorem dX7_find_264 : decode cX7_find 264 = .ok (.goto (-181), 3) := by decide +kernel
theorem dX7_find_267 : decode cX7_find 267 = .ok (.iinc 4 (-1), 3) := by decide +kernel
theorem dX7_find_270 : decode cX7_find 270 = .ok (.goto (-214), 3) := by decide +kernel
theorem dX7_find_273 : decode cX7_find 273 = .ok (.aload_n 0, 1) := by decide +kernel
theorem dX7_find_274 : decode cX7_find 274 = .ok (.getfield 68, 3) := by decide +kernel
theorem dX7_find_277 : decode cX7_find 277 = .ok (.iload_n 2, 1) := by decide +kernel
theorem dX7_find_278 : decode cX7_find 278 = .ok (.iaload, 1) := by decide +kernel
theorem dX7_find_279 : decode cX7_find 279 = .ok (.ldc 120, 2) := by decide +kernel
theorem dX7_find_281 : decode cX7_find 281 = .ok (.if_icmp .lt 5, 3) := by decide +kernel
theorem dX7_find_284 : decode cX7_find 284 = .ok (.iconst (-1), 1) := by decide +kernel
theorem dX7_find_285 : decode cX7_find 285 = .ok (.ireturn, 1) := by decide +kernel
theorem dX7_find_286 : decode cX7_find 286 = .ok (.iload_n 2, 1) := by decide +kernel
theorem dX7_find_287 : decode cX7_find 287 = .ok (.istore 4, 2) := by decide +kernel
theorem dX7_find_289 : decode cX7_find 289 = .ok (.iconst 0, 1) := by decide +kernel
theorem dX7_find_290 : decode cX7_find 290 = .ok (.istore 5, 2) := by decide +kernel
theorem dX7_find_292 : decode cX7_find 292 = .ok (.iload 5, 2) := by decide +kernel
theorem dX7_find_294 : decode cX7_find 294 = .ok (.iload_n 3, 1) := by decide +kernel
theorem dX7_find_295 : decode cX7_find 295 = .ok (.if_icmp .ge 142, 3) := by decide +kernel
theorem dX7_find_298 : decode cX7_find 298 = .ok (.aload_n 0, 1) := by decide +kernel
theorem dX7_find_299 : decode cX7_find 299 = .ok (.getfield 13, 3) := by decide +kernel
theorem dX7_find_302 : decode cX7_find 302 = .ok (.bipush 8, 2) := by decide +kernel
theorem dX7_find_304 : decode cX7_find 304 = .ok (.iload_n 1, 1) := by decide +kernel
theorem dX7_find_305 : decode cX7_find 305 = .ok (.imul, 1) := by decide +kernel
theorem dX7_find_306 : decode cX7_find 306 = .ok (.aload_n 0, 1) := by decide +kernel
theorem dX7_find_307 : decode cX7_find 307 = .ok (.getfield 65, 3) := by decide +kernel
theorem dX7_find_310 : decode cX7_find 310 = .ok (.iload 5, 2) := by decide +kernel
theorem dX7_find_312 : decode cX7_find 312 = .ok (.iaload, 1) := by decide +kernel
theorem dX7_find_313 : decode cX7_find 313 = .ok (.iadd, 1) := by decide +kernel
theorem dX7_find_314 : decode cX7_find 314 = .ok (.iaload, 1) := by decide +kernel
theorem dX7_find_315 : decode cX7_find 315 = .ok (.istore 6, 2) := by decide +kernel
theorem dX7_find_317 : decode cX7_find 317 = .ok (.iload 4, 2) := by decide +kernel
theorem dX7_find_319 : decode cX7_find 319 = .ok (.iload 6, 2) := by decide +kernel
theorem dX7_find_321 : decode cX7_find 321 = .ok (.idiv, 1) := by decide +kernel
theorem dX7_find_322 : decode cX7_find 322 = .ok (.aload_n 0, 1) := by decide +kernel
theorem dX7_find_323 : decode cX7_find 323 = .ok (.getfield 74, 3) := by decide +kernel
theorem dX7_find_326 : decode cX7_find 326 = .ok (.aload_n 0, 1) := by decide +kernel
theorem dX7_find_327 : decode cX7_find 327 = .ok (.getfield 65, 3) := by decide +kernel
theorem dX7_find_330 : decode cX7_find 330 = .ok (.iload 5, 2) := by decide +kernel
theorem dX7_find_332 : decode cX7_find 332 = .ok (.iaload, 1) := by decide +kernel
theorem dX7_find_333 : decode cX7_find 333 = .ok (.iaload, 1) := by decide +kernel
theorem dX7_find_334 : decode cX7_find 334 = .ok (.if_icmp .ge 11, 3) := by decide +kernel
theorem dX7_find_337 : decode cX7_find 337 = .ok (.iload 4, 2) := by decide +kernel
theorem dX7_find_339 : decode cX7_find 339 = .ok (.iload 6, 2) := by decide +kernel
theorem dX7_find_341 : decode cX7_find 341 = .ok (.idiv, 1) := by decide +kernel
theorem dX7_find_342 : decode cX7_find 342 = .ok (.goto 15, 3) := by decide +kernel
theorem dX7_find_345 : decode cX7_find 345 = .ok (.aload_n 0, 1) := by decide +kernel
theorem dX7_find_346 : decode cX7_find 346 = .ok (.getfield 74, 3) := by decide +kernel
theorem dX7_find_349 : decode cX7_find 349 = .ok (.aload_n 0, 1) := by decide +kernel
theorem dX7_find_350 : decode cX7_find 350 = .ok (.getfield 65, 3) := by decide +kernel
theorem dX7_find_353 : decode cX7_find 353 = .ok (.iload 5, 2) := by decide +kernel
theorem dX7_find_355 : decode cX7_find 355 = .ok (.iaload, 1) := by decide +kernel
theorem dX7_find_356 : decode cX7_find 356 = .ok (.iaload, 1) := by decide +kernel
theorem dX7_find_357 : decode cX7_find 357 = .ok (.istore 7, 2) := by decide +kernel
theorem dX7_find_359 : decode cX7_find 359 = .ok (.iload 7, 2) := by decide +kernel
theorem dX7_find_361 : decode cX7_find 361 = .ok (.aload_n 0, 1) := by decide +kernel
theorem dX7_find_362 : decode cX7_find 362 = .ok (.getfield 68, 3) := by decide +kernel
theorem dX7_find_365 : decode cX7_find 365 = .ok (.sipush 2001, 3) := by decide +kernel
theorem dX7_find_368 : decode cX7_find 368 = .ok (.iload 5, 2) := by decide +kernel
theorem dX7_find_370 : decode cX7_find 370 = .ok (.iconst 1, 1) := by decide +kernel
theorem dX7_find_371 : decode cX7_find 371 = .ok (.iadd, 1) := by decide +kernel
theorem dX7_find_372 : decode cX7_find 372 = .ok (.imul, 1) := by decide +kernel
theorem dX7_find_373 : decode cX7_find 373 = .ok (.iload 4, 2) := by decide +kernel
theorem dX7_find_375 : decode cX7_find 375 = .ok (.iadd, 1) := by decide +kernel
theorem dX7_find_376 : decode cX7_find 376 = .ok (.iload 7, 2) := by decide +kernel
theorem dX7_find_378 : decode cX7_find 378 = .ok (.iload 6, 2) := by decide +kernel
theorem dX7_find_380 : decode cX7_find 380 = .ok (.imul, 1) := by decide +kernel
theorem dX7_find_381 : decode cX7_find 381 = .ok (.isub, 1) := by decide +kernel
theorem dX7_find_382 : decode cX7_find 382 = .ok (.iaload, 1) := by decide +kernel
theorem dX7_find_383 : decode cX7_find 383 = .ok (.iadd, 1) := by decide +kernel
theorem dX7_find_384 : decode cX7_find 384 = .ok (.aload_n 0, 1) := by decide +kernel
theorem dX7_find_385 : decode cX7_find 385 = .ok (.getfield 68, 3) := by decide +kernel
theorem dX7_find_388 : decode cX7_find 388 = .ok (.sipush 2001, 3) := by decide +kernel
theorem dX7_find_391 : decode cX7_find 391 = .ok (.iload 5, 2) := by decide +kernel
theorem dX7_find_393 : decode cX7_find 393 = .ok (.imul, 1) := by decide +kernel
theorem dX7_find_394 : decode cX7_find 394 = .ok (.iload 4, 2) := by decide +kernel
theorem dX7_find_396 : decode cX7_find 396 = .ok (.iadd, 1) := by decide +kernel
theorem dX7_find_397 : decode cX7_find 397 = .ok (.iaload, 1) := by decide +kernel
theorem dX7_find_398 : decode cX7_find 398 = .ok (.if_icmp .eq 9, 3) := by decide +kernel
theorem dX7_find_401 : decode cX7_find 401 = .ok (.iinc 7 (-1), 3) := by decide +kernel
theorem dX7_find_404 : decode cX7_find 404 = .ok (.goto (-45), 3) := by decide +kernel
theorem dX7_find_407 : decode cX7_find 407 = .ok (.aload_n 0, 1) := by decide +kernel
theorem dX7_find_408 : decode cX7_find 408 = .ok (.getfield 71, 3) := by decide +kernel
theorem dX7_find_411 : decode cX7_find 411 = .ok (.aload_n 0, 1) := by decide +kernel
theorem dX7_find_412 : decode cX7_find 412 = .ok (.getfield 65, 3) := by decide +kernel
theorem dX7_find_415 : decode cX7_find 415 = .ok (.iload 5, 2) := by decide +kernel
theorem dX7_find_417 : decode cX7_find 417 = .ok (.iaload, 1) := by decide +kernel
theorem dX7_find_418 : decode cX7_find 418 = .ok (.iload 7, 2) := by decide +kernel
theorem dX7_find_420 : decode cX7_find 420 = .ok (.iastore, 1) := by decide +kernel
theorem dX7_find_421 : decode cX7_find 421 = .ok (.iload 4, 2) := by decide +kernel
theorem dX7_find_423 : decode cX7_find 423 = .ok (.iload 7, 2) := by decide +kernel
theorem dX7_find_425 : decode cX7_find 425 = .ok (.iload 6, 2) := by decide +kernel
theorem dX7_find_427 : decode cX7_find 427 = .ok (.imul, 1) := by decide +kernel
theorem dX7_find_428 : decode cX7_find 428 = .ok (.isub, 1) := by decide +kernel
theorem dX7_find_429 : decode cX7_find 429 = .ok (.istore 4, 2) := by decide +kernel
theorem dX7_find_431 : decode cX7_find 431 = .ok (.iinc 5 1, 3) := by decide +kernel
theorem dX7_find_434 : decode cX7_find 434 = .ok (.goto (-142), 3) := by decide +kernel
theorem dX7_find_437 : decode cX7_find 437 = .ok (.aload_n 0, 1) := by decide +kernel
theorem dX7_find_438 : decode cX7_find 438 = .ok (.getfield 68, 3) := by decide +kernel
theorem dX7_find_441 : decode cX7_find 441 = .ok (.iload_n 2, 1) := by decide +kernel
theorem dX7_find_442 : decode cX7_find 442 = .ok (.iaload, 1) := by decide +kernel
theorem dX7_find_443 : decode cX7_find 443 = .ok (.ireturn, 1) := by decide +kernel
theorem dX7_noBounds_0 : decode cX7_noBounds 0 = .ok (.iconst 0, 1) := by decide +kernel
theorem dX7_noBounds_1 : decode cX7_noBounds 1 = .ok (.istore_n 1, 1) := by decide +kernel
theorem dX7_noBounds_2 : decode cX7_noBounds 2 = .ok (.iload_n 1, 1) := by decide +kernel
theorem dX7_noBounds_3 : decode cX7_noBounds 3 = .ok (.bipush 8, 2) := by decide +kernel
theorem dX7_noBounds_5 : decode cX7_noBounds 5 = .ok (.if_icmp .ge 18, 3) := by decide +kernel
theorem dX7_noBounds_8 : decode cX7_noBounds 8 = .ok (.aload_n 0, 1) := by decide +kernel
theorem dX7_noBounds_9 : decode cX7_noBounds 9 = .ok (.getfield 74, 3) := by decide +kernel
theorem dX7_noBounds_12 : decode cX7_noBounds 12 = .ok (.iload_n 1, 1) := by decide +kernel
theorem dX7_noBounds_13 : decode cX7_noBounds 13 = .ok (.sipush 2000, 3) := by decide +kernel
theorem dX7_noBounds_16 : decode cX7_noBounds 16 = .ok (.iastore, 1) := by decide +kernel
theorem dX7_noBounds_17 : decode cX7_noBounds 17 = .ok (.iinc 1 1, 3) := by decide +kernel
theorem dX7_noBounds_20 : decode cX7_noBounds 20 = .ok (.goto (-18), 3) := by decide +kernel
theorem dX7_noBounds_23 : decode cX7_noBounds 23 = .ok (.return_, 1) := by decide +kernel
set_option maxRecDepth 20000 in
theorem ggX7_fewest_X7_in : GoodIn wsX7_fewest wsX7_in := goodIn_r _ [6] (by decide +kernel) (by decide +kernel)
set_option maxRecDepth 20000 in
theorem gX7_fewest_X7_in : GoodIn wsX7_fewest (va_wsS RX7 98 yX7_in wsX7_in) := goodIn_app (goodIn_of _ (by decide +kernel)) ggX7_fewest_X7_in
set_option maxRecDepth 20000 in
theorem ggX7_fewest_X7_isCoin : GoodIn wsX7_fewest wsX7_isCoin := goodIn_r _ [10, 11, 3, 4, 5, 6, 29, 30, 31, 32, 33, 34, 35, 36, 37, 38, 39, 40, 41, 42, 43, 44, 45, 46, 47, 48, 49, 50, 51, 52, 53, 54, 55] (by decide +kernel) (by decide +kernel)
set_option maxRecDepth 20000 in
theorem gX7_fewest_X7_isCoin : GoodIn wsX7_fewest (wsV RX7 121 RX7 yX7_isCoin wsX7_isCoin) := goodIn_app (goodIn_of _ (by decide +kernel)) ggX7_fewest_X7_isCoin
set_option maxRecDepth 20000 in
theorem ggX7_fewest_X7_noBounds : GoodIn wsX7_fewest wsX7_noBounds := goodIn_r _ [15, 16, 29, 30, 31, 32, 33, 34, 35, 36, 37, 38, 39, 40, 41, 42, 43, 44, 45, 46, 47, 48, 49, 50, 51, 52, 53, 54, 55] (by decide +kernel) (by decide +kernel)
set_option maxRecDepth 20000 in
theorem gX7_fewest_X7_noBounds : GoodIn wsX7_fewest (wsV RX7 125 RX7 yX7_noBounds wsX7_noBounds) := goodIn_app (goodIn_of _ (by decide +kernel)) ggX7_fewest_X7_noBounds
set_option maxRecDepth 20000 in
theorem ggX7_fewest_X7_find : GoodIn wsX7_fewest wsX7_find := goodIn_r _ [20, 11, 21, 22, 23, 24, 16, 2, 25, 26, 27, 5, 28, 29, 30, 31, 32, 33, 34, 35, 36, 37, 38, 39, 40, 41, 42, 43, 44, 45, 46, 47, 48, 49, 50, 51, 52, 53, 54, 55] (by decide +kernel) (by decide +kernel)
set_option maxRecDepth 20000 in
theorem gX7_fewest_X7_find : GoodIn wsX7_fewest (wsV RX7 128 RX7 yX7_find wsX7_find) := goodIn_app (goodIn_of _ (by decide +kernel)) ggX7_fewest_X7_find
theorem dX7_fewest_0 : decode cX7_fewest 0 = .ok (.aload_n 0, 1) := by decide +kernel
theorem dX7_fewest_1 : decode cX7_fewest 1 = .ok (.iconst 0, 1) := by decide +kernel
theorem dX7_fewest_2 : decode cX7_fewest 2 = .ok (.putfield 90, 3) := by decide +kernel
theorem dX7_fewest_5 : decode cX7_fewest 5 = .ok (.iload_n 1, 1) := by decide +kernel
theorem dX7_fewest_6 : decode cX7_fewest 6 = .ok (.iconst 0, 1) := by decide +kernel
theorem dX7_fewest_7 : decode cX7_fewest 7 = .ok (.iconst 1, 1) := by decide +kernel
theorem dX7_fewest_8 : decode cX7_fewest 8 = .ok (.invokestatic 98, 3) := by decide +kernel
theorem dX7_fewest_11 : decode cX7_fewest 11 = .ok (.ifCond .eq 28, 3) := by decide +kernel
theorem dX7_fewest_14 : decode cX7_fewest 14 = .ok (.iload_n 2, 1) := by decide +kernel
theorem dX7_fewest_15 : decode cX7_fewest 15 = .ok (.iconst 0, 1) := by decide +kernel
theorem dX7_fewest_16 : decode cX7_fewest 16 = .ok (.sipush 2000, 3) := by decide +kernel
theorem dX7_fewest_19 : decode cX7_fewest 19 = .ok (.invokestatic 98, 3) := by decide +kernel
theorem dX7_fewest_22 : decode cX7_fewest 22 = .ok (.ifCond .eq 17, 3) := by decide +kernel
theorem dX7_fewest_25 : decode cX7_fewest 25 = .ok (.iload_n 3, 1) := by decide +kernel
theorem dX7_fewest_26 : decode cX7_fewest 26 = .ok (.iconst (-1), 1) := by decide +kernel
theorem dX7_fewest_27 : decode cX7_fewest 27 = .ok (.if_icmp .eq 14, 3) := by decide +kernel
theorem dX7_fewest_30 : decode cX7_fewest 30 = .ok (.aload_n 0, 1) := by decide +kernel
theorem dX7_fewest_31 : decode cX7_fewest 31 = .ok (.iload_n 1, 1) := by decide +kernel
theorem dX7_fewest_32 : decode cX7_fewest 32 = .ok (.iload_n 3, 1) := by decide +kernel
theorem dX7_fewest_33 : decode cX7_fewest 33 = .ok (.invokevirtual 121, 3) := by decide +kernel
theorem dX7_fewest_36 : decode cX7_fewest 36 = .ok (.ifCond .ne 5, 3) := by decide +kernel
theorem dX7_fewest_39 : decode cX7_fewest 39 = .ok (.iconst (-1), 1) := by decide +kernel
theorem dX7_fewest_40 : decode cX7_fewest 40 = .ok (.ireturn, 1) := by decide +kernel
theorem dX7_fewest_41 : decode cX7_fewest 41 = .ok (.aload_n 0, 1) := by decide +kernel
theorem dX7_fewest_42 : decode cX7_fewest 42 = .ok (.invokevirtual 125, 3) := by decide +kernel
theorem dX7_fewest_45 : decode cX7_fewest 45 = .ok (.aload_n 0, 1) := by decide +kernel
theorem dX7_fewest_46 : decode cX7_fewest 46 = .ok (.iload_n 1, 1) := by decide +kernel
theorem dX7_fewest_47 : decode cX7_fewest 47 = .ok (.iload_n 2, 1) := by decide +kernel
theorem dX7_fewest_48 : decode cX7_fewest 48 = .ok (.invokevirtual 128, 3) := by decide +kernel
theorem dX7_fewest_51 : decode cX7_fewest 51 = .ok (.istore 4, 2) := by decide +kernel
theorem dX7_fewest_53 : decode cX7_fewest 53 = .ok (.iload 4, 2) := by decide +kernel
theorem dX7_fewest_55 : decode cX7_fewest 55 = .ok (.iconst (-1), 1) := by decide +kernel
theorem dX7_fewest_56 : decode cX7_fewest 56 = .ok (.if_icmp .eq 8, 3) := by decide +kernel
theorem dX7_fewest_59 : decode cX7_fewest 59 = .ok (.iload_n 3, 1) := by decide +kernel
theorem dX7_fewest_60 : decode cX7_fewest 60 = .ok (.iconst (-1), 1) := by decide +kernel
theorem dX7_fewest_61 : decode cX7_fewest 61 = .ok (.if_icmp .ne 8, 3) := by decide +kernel
theorem dX7_fewest_64 : decode cX7_fewest 64 = .ok (.iload 4, 2) := by decide +kernel
theorem dX7_fewest_66 : decode cX7_fewest 66 = .ok (.goto 9, 3) := by decide +kernel
theorem dX7_fewest_69 : decode cX7_fewest 69 = .ok (.aload_n 0, 1) := by decide +kernel
theorem dX7_fewest_70 : decode cX7_fewest 70 = .ok (.getfield 71, 3) := by decide +kernel
theorem dX7_fewest_73 : decode cX7_fewest 73 = .ok (.iload_n 3, 1) := by decide +kernel
theorem dX7_fewest_74 : decode cX7_fewest 74 = .ok (.iaload, 1) := by decide +kernel
theorem dX7_fewest_75 : decode cX7_fewest 75 = .ok (.ireturn, 1) := by decide +kernel
theorem dX7_greedyOf_0 : decode cX7_greedyOf 0 = .ok (.iload_n 2, 1) := by decide +kernel
theorem dX7_greedyOf_1 : decode cX7_greedyOf 1 = .ok (.istore_n 3, 1) := by decide +kernel
theorem dX7_greedyOf_2 : decode cX7_greedyOf 2 = .ok (.iconst 0, 1) := by decide +kernel
theorem dX7_greedyOf_3 : decode cX7_greedyOf 3 = .ok (.istore 4, 2) := by decide +kernel
theorem dX7_greedyOf_5 : decode cX7_greedyOf 5 = .ok (.iconst 0, 1) := by decide +kernel
theorem dX7_greedyOf_6 : decode cX7_greedyOf 6 = .ok (.istore 5, 2) := by decide +kernel
theorem dX7_greedyOf_8 : decode cX7_greedyOf 8 = .ok (.iload 5, 2) := by decide +kernel
theorem dX7_greedyOf_10 : decode cX7_greedyOf 10 = .ok (.aload_n 0, 1) := by decide +kernel
theorem dX7_greedyOf_11 : decode cX7_greedyOf 11 = .ok (.getfield 7, 3) := by decide +kernel
theorem dX7_greedyOf_14 : decode cX7_greedyOf 14 = .ok (.iload_n 1, 1) := by decide +kernel
theorem dX7_greedyOf_15 : decode cX7_greedyOf 15 = .ok (.iaload, 1) := by decide +kernel
theorem dX7_greedyOf_16 : decode cX7_greedyOf 16 = .ok (.if_icmp .ge 42, 3) := by decide +kernel
theorem dX7_greedyOf_19 : decode cX7_greedyOf 19 = .ok (.aload_n 0, 1) := by decide +kernel
theorem dX7_greedyOf_20 : decode cX7_greedyOf 20 = .ok (.getfield 13, 3) := by decide +kernel
theorem dX7_greedyOf_23 : decode cX7_greedyOf 23 = .ok (.bipush 8, 2) := by decide +kernel
theorem dX7_greedyOf_25 : decode cX7_greedyOf 25 = .ok (.iload_n 1, 1) := by decide +kernel
theorem dX7_greedyOf_26 : decode cX7_greedyOf 26 = .ok (.imul, 1) := by decide +kernel
theorem dX7_greedyOf_27 : decode cX7_greedyOf 27 = .ok (.aload_n 0, 1) := by decide +kernel
theorem dX7_greedyOf_28 : decode cX7_greedyOf 28 = .ok (.getfield 65, 3) := by decide +kernel
theorem dX7_greedyOf_31 : decode cX7_greedyOf 31 = .ok (.iload 5, 2) := by decide +kernel
theorem dX7_greedyOf_33 : decode cX7_greedyOf 33 = .ok (.iaload, 1) := by decide +kernel
theorem dX7_greedyOf_34 : decode cX7_greedyOf 34 = .ok (.iadd, 1) := by decide +kernel
theorem dX7_greedyOf_35 : decode cX7_greedyOf 35 = .ok (.iaload, 1) := by decide +kernel
theorem dX7_greedyOf_36 : decode cX7_greedyOf 36 = .ok (.istore 6, 2) := by decide +kernel
theorem dX7_greedyOf_38 : decode cX7_greedyOf 38 = .ok (.iload 4, 2) := by decide +kernel
theorem dX7_greedyOf_40 : decode cX7_greedyOf 40 = .ok (.iload_n 3, 1) := by decide +kernel
theorem dX7_greedyOf_41 : decode cX7_greedyOf 41 = .ok (.iload 6, 2) := by decide +kernel
theorem dX7_greedyOf_43 : decode cX7_greedyOf 43 = .ok (.idiv, 1) := by decide +kernel
theorem dX7_greedyOf_44 : decode cX7_greedyOf 44 = .ok (.iadd, 1) := by decide +kernel
theorem dX7_greedyOf_45 : decode cX7_greedyOf 45 = .ok (.istore 4, 2) := by decide +kernel
theorem dX7_greedyOf_47 : decode cX7_greedyOf 47 = .ok (.iload_n 3, 1) := by decide +kernel
theorem dX7_greedyOf_48 : decode cX7_greedyOf 48 = .ok (.iload 6, 2) := by decide +kernel
theorem dX7_greedyOf_50 : decode cX7_greedyOf 50 = .ok (.irem, 1) := by decide +kernel
theorem dX7_greedyOf_51 : decode cX7_greedyOf 51 = .ok (.istore_n 3, 1) := by decide +kernel
theorem dX7_greedyOf_52 : decode cX7_greedyOf 52 = .ok (.iinc 5 1, 3) := by decide +kernel
theorem dX7_greedyOf_55 : decode cX7_greedyOf 55 = .ok (.goto (-47), 3) := by decide +kernel
theorem dX7_greedyOf_58 : decode cX7_greedyOf 58 = .ok (.iload_n 3, 1) := by decide +kernel
theorem dX7_greedyOf_59 : decode cX7_greedyOf 59 = .ok (.ifCond .ne 8, 3) := by decide +kernel
theorem dX7_greedyOf_62 : decode cX7_greedyOf 62 = .ok (.iload 4, 2) := by decide +kernel
theorem dX7_greedyOf_64 : decode cX7_greedyOf 64 = .ok (.goto 4, 3) := by decide +kernel
theorem dX7_greedyOf_67 : decode cX7_greedyOf 67 = .ok (.iconst (-1), 1) := by decide +kernel
theorem dX7_greedyOf_68 : decode cX7_greedyOf 68 = .ok (.ireturn, 1) := by decide +kernel
set_option maxRecDepth 20000 in
theorem ggX7_greedy_X7_in : GoodIn wsX7_greedy wsX7_in := goodIn_r _ [5] (by decide +kernel) (by decide +kernel)
set_option maxRecDepth 20000 in
theorem gX7_greedy_X7_in : GoodIn wsX7_greedy (va_wsS RX7 98 yX7_in wsX7_in) := goodIn_app (goodIn_of _ (by decide +kernel)) ggX7_greedy_X7_in
set_option maxRecDepth 20000 in
theorem ggX7_greedy_X7_sortCoins : GoodIn wsX7_greedy wsX7_sortCoins := goodIn_r _ [9, 10, 11, 12, 17, 18, 19, 20, 21, 22, 23, 24, 25, 26, 27, 28, 29, 30, 31, 32, 33, 34, 35, 36, 37, 38, 39, 40, 41, 42, 43] (by decide +kernel) (by decide +kernel)
set_option maxRecDepth 20000 in
theorem gX7_greedy_X7_sortCoins : GoodIn wsX7_greedy (wsV RX7 116 RX7 yX7_sortCoins wsX7_sortCoins) := goodIn_app (goodIn_of _ (by decide +kernel)) ggX7_greedy_X7_sortCoins
set_option maxRecDepth 20000 in
theorem ggX7_greedy_X7_greedyOf : GoodIn wsX7_greedy wsX7_greedyOf := goodIn_r _ [16, 10, 11, 12, 17, 18, 19, 20, 21, 22, 23, 24, 25, 26, 27, 28, 29, 30, 31, 32, 33, 34, 35, 36, 37, 38, 39, 40, 41, 42, 43] (by decide +kernel) (by decide +kernel)
set_option maxRecDepth 20000 in
theorem gX7_greedy_X7_greedyOf : GoodIn wsX7_greedy (wsV RX7 131 RX7 yX7_greedyOf wsX7_greedyOf) := goodIn_app (goodIn_of _ (by decide +kernel)) ggX7_greedy_X7_greedyOf
theorem dX7_greedy_0 : decode cX7_greedy 0 = .ok (.aload_n 0, 1) := by decide +kernel
theorem dX7_greedy_1 : decode cX7_greedy 1 = .ok (.iconst 0, 1) := by decide +kernel
theorem dX7_greedy_2 : decode cX7_greedy 2 = .ok (.putfield 90, 3) := by decide +kernel
theorem dX7_greedy_5 : decode cX7_greedy 5 = .ok (.iload_n 1, 1) := by decide +kernel
theorem dX7_greedy_6 : decode cX7_greedy 6 = .ok (.iconst 0, 1) := by decide +kernel
theorem dX7_greedy_7 : decode cX7_greedy 7 = .ok (.iconst 1, 1) := by decide +kernel
theorem dX7_greedy_8 : decode cX7_greedy 8 = .ok (.invokestatic 98, 3) := by decide +kernel
theorem dX7_greedy_11 : decode cX7_greedy 11 = .ok (.ifCond .eq 14, 3) := by decide +kernel
theorem dX7_greedy_14 : decode cX7_greedy 14 = .ok (.iload_n 2, 1) := by decide +kernel
theorem dX7_greedy_15 : decode cX7_greedy 15 = .ok (.iconst 0, 1) := by decide +kernel
theorem dX7_greedy_16 : decode cX7_greedy 16 = .ok (.sipush 2000, 3) := by decide +kernel
theorem dX7_greedy_19 : decode cX7_greedy 19 = .ok (.invokestatic 98, 3) := by decide +kernel
theorem dX7_greedy_22 : decode cX7_greedy 22 = .ok (.ifCond .ne 5, 3) := by decide +kernel
theorem dX7_greedy_25 : decode cX7_greedy 25 = .ok (.iconst (-1), 1) := by decide +kernel
theorem dX7_greedy_26 : decode cX7_greedy 26 = .ok (.ireturn, 1) := by decide +kernel
theorem dX7_greedy_27 : decode cX7_greedy 27 = .ok (.aload_n 0, 1) := by decide +kernel
theorem dX7_greedy_28 : decode cX7_greedy 28 = .ok (.iload_n 1, 1) := by decide +kernel
theorem dX7_greedy_29 : decode cX7_greedy 29 = .ok (.invokevirtual 116, 3) := by decide +kernel
theorem dX7_greedy_32 : decode cX7_greedy 32 = .ok (.aload_n 0, 1) := by decide +kernel
theorem dX7_greedy_33 : decode cX7_greedy 33 = .ok (.iload_n 1, 1) := by decide +kernel
theorem dX7_greedy_34 : decode cX7_greedy 34 = .ok (.iload_n 2, 1) := by decide +kernel
theorem dX7_greedy_35 : decode cX7_greedy 35 = .ok (.invokevirtual 131, 3) := by decide +kernel
theorem dX7_greedy_38 : decode cX7_greedy 38 = .ok (.ireturn, 1) := by decide +kernel
set_option maxRecDepth 20000 in
theorem ggX7_odd_X7_in : GoodIn wsX7_odd wsX7_in := goodIn_r _ [9] (by decide +kernel) (by decide +kernel)
set_option maxRecDepth 20000 in
theorem gX7_odd_X7_in : GoodIn wsX7_odd (va_wsS RX7 98 yX7_in wsX7_in) := goodIn_app (goodIn_of _ (by decide +kernel)) ggX7_odd_X7_in
set_option maxRecDepth 20000 in
theorem ggX7_odd_X7_sortCoins : GoodIn wsX7_odd wsX7_sortCoins := goodIn_r _ [13, 4, 5, 14, 19, 20, 21, 22, 23, 24, 25, 26, 27, 28, 29, 30, 31, 32, 33, 34, 35, 36, 37, 38, 39, 40, 41, 42, 43, 44, 45] (by decide +kernel) (by decide +kernel)
set_option maxRecDepth 20000 in
theorem gX7_odd_X7_sortCoins : GoodIn wsX7_odd (wsV RX7 116 RX7 yX7_sortCoins wsX7_sortCoins) := goodIn_app (goodIn_of _ (by decide +kernel)) ggX7_odd_X7_sortCoins
set_option maxRecDepth 20000 in
theorem ggX7_odd_X7_greedyOf : GoodIn wsX7_odd wsX7_greedyOf := goodIn_r _ [18, 4, 5, 14, 19, 20, 21, 22, 23, 24, 25, 26, 27, 28, 29, 30, 31, 32, 33, 34, 35, 36, 37, 38, 39, 40, 41, 42, 43, 44, 45] (by decide +kernel) (by decide +kernel)
set_option maxRecDepth 20000 in
theorem gX7_odd_X7_greedyOf : GoodIn wsX7_odd (wsV RX7 131 RX7 yX7_greedyOf wsX7_greedyOf) := goodIn_app (goodIn_of _ (by decide +kernel)) ggX7_odd_X7_greedyOf
theorem dX7_odd_0 : decode cX7_odd 0 = .ok (.aload_n 0, 1) := by decide +kernel
theorem dX7_odd_1 : decode cX7_odd 1 = .ok (.iconst 0, 1) := by decide +kernel
theorem dX7_odd_2 : decode cX7_odd 2 = .ok (.putfield 90, 3) := by decide +kernel
theorem dX7_odd_5 : decode cX7_odd 5 = .ok (.iload_n 1, 1) := by decide +kernel
theorem dX7_odd_6 : decode cX7_odd 6 = .ok (.iconst 0, 1) := by decide +kernel
theorem dX7_odd_7 : decode cX7_odd 7 = .ok (.iconst 1, 1) := by decide +kernel
theorem dX7_odd_8 : decode cX7_odd 8 = .ok (.invokestatic 98, 3) := by decide +kernel
theorem dX7_odd_11 : decode cX7_odd 11 = .ok (.ifCond .ne 5, 3) := by decide +kernel
theorem dX7_odd_14 : decode cX7_odd 14 = .ok (.iconst (-1), 1) := by decide +kernel
theorem dX7_odd_15 : decode cX7_odd 15 = .ok (.ireturn, 1) := by decide +kernel
theorem dX7_odd_16 : decode cX7_odd 16 = .ok (.aload_n 0, 1) := by decide +kernel
theorem dX7_odd_17 : decode cX7_odd 17 = .ok (.iload_n 1, 1) := by decide +kernel
theorem dX7_odd_18 : decode cX7_odd 18 = .ok (.invokevirtual 116, 3) := by decide +kernel
theorem dX7_odd_21 : decode cX7_odd 21 = .ok (.aload_n 0, 1) := by decide +kernel
theorem dX7_odd_22 : decode cX7_odd 22 = .ok (.getfield 77, 3) := by decide +kernel
theorem dX7_odd_25 : decode cX7_odd 25 = .ok (.iconst 0, 1) := by decide +kernel
theorem dX7_odd_26 : decode cX7_odd 26 = .ok (.iconst 0, 1) := by decide +kernel
theorem dX7_odd_27 : decode cX7_odd 27 = .ok (.iastore, 1) := by decide +kernel
theorem dX7_odd_28 : decode cX7_odd 28 = .ok (.iconst 1, 1) := by decide +kernel
theorem dX7_odd_29 : decode cX7_odd 29 = .ok (.istore_n 2, 1) := by decide +kernel
theorem dX7_odd_30 : decode cX7_odd 30 = .ok (.iload_n 2, 1) := by decide +kernel
theorem dX7_odd_31 : decode cX7_odd 31 = .ok (.sipush 2000, 3) := by decide +kernel
theorem dX7_odd_34 : decode cX7_odd 34 = .ok (.if_icmp .gt 126, 3) := by decide +kernel
theorem dX7_odd_37 : decode cX7_odd 37 = .ok (.aload_n 0, 1) := by decide +kernel
theorem dX7_odd_38 : decode cX7_odd 38 = .ok (.getfield 77, 3) := by decide +kernel
theorem dX7_odd_41 : decode cX7_odd 41 = .ok (.iload_n 2, 1) := by decide +kernel
theorem dX7_odd_42 : decode cX7_odd 42 = .ok (.ldc 120, 2) := by decide +kernel
theorem dX7_odd_44 : decode cX7_odd 44 = .ok (.iastore, 1) := by decide +kernel
theorem dX7_odd_45 : decode cX7_odd 45 = .ok (.iconst 0, 1) := by decide +kernel
theorem dX7_odd_46 : decode cX7_odd 46 = .ok (.istore_n 3, 1) := by decide +kernel
theorem dX7_odd_47 : decode cX7_odd 47 = .ok (.iload_n 3, 1) := by decide +kernel
theorem dX7_odd_48 : decode cX7_odd 48 = .ok (.aload_n 0, 1) := by decide +kernel
theorem dX7_odd_49 : decode cX7_odd 49 = .ok (.getfield 7, 3) := by decide +kernel
theorem dX7_odd_52 : decode cX7_odd 52 = .ok (.iload_n 1, 1) := by decide +kernel
theorem dX7_odd_53 : decode cX7_odd 53 = .ok (.iaload, 1) := by decide +kernel
theorem dX7_odd_54 : decode cX7_odd 54 = .ok (.if_icmp .ge 65, 3) := by decide +kernel
theorem dX7_odd_57 : decode cX7_odd 57 = .ok (.aload_n 0, 1) := by decide +kernel
theorem dX7_odd_58 : decode cX7_odd 58 = .ok (.getfield 13, 3) := by decide +kernel
theorem dX7_odd_61 : decode cX7_odd 61 = .ok (.bipush 8, 2) := by decide +kernel
theorem dX7_odd_63 : decode cX7_odd 63 = .ok (.iload_n 1, 1) := by decide +kernel
theorem dX7_odd_64 : decode cX7_odd 64 = .ok (.imul, 1) := by decide +kernel
theorem dX7_odd_65 : decode cX7_odd 65 = .ok (.iload_n 3, 1) := by decide +kernel
theorem dX7_odd_66 : decode cX7_odd 66 = .ok (.iadd, 1) := by decide +kernel
theorem dX7_odd_67 : decode cX7_odd 67 = .ok (.iaload, 1) := by decide +kernel
theorem dX7_odd_68 : decode cX7_odd 68 = .ok (.istore 4, 2) := by decide +kernel
theorem dX7_odd_70 : decode cX7_odd 70 = .ok (.iload 4, 2) := by decide +kernel
theorem dX7_odd_72 : decode cX7_odd 72 = .ok (.iload_n 2, 1) := by decide +kernel
theorem dX7_odd_73 : decode cX7_odd 73 = .ok (.if_icmp .gt 40, 3) := by decide +kernel
theorem dX7_odd_76 : decode cX7_odd 76 = .ok (.aload_n 0, 1) := by decide +kernel
theorem dX7_odd_77 : decode cX7_odd 77 = .ok (.getfield 77, 3) := by decide +kernel
theorem dX7_odd_80 : decode cX7_odd 80 = .ok (.iload_n 2, 1) := by decide +kernel
theorem dX7_odd_81 : decode cX7_odd 81 = .ok (.iload 4, 2) := by decide +kernel
theorem dX7_odd_83 : decode cX7_odd 83 = .ok (.isub, 1) := by decide +kernel
theorem dX7_odd_84 : decode cX7_odd 84 = .ok (.iaload, 1) := by decide +kernel
theorem dX7_odd_85 : decode cX7_odd 85 = .ok (.iconst 1, 1) := by decide +kernel
theorem dX7_odd_86 : decode cX7_odd 86 = .ok (.iadd, 1) := by decide +kernel
theorem dX7_odd_87 : decode cX7_odd 87 = .ok (.aload_n 0, 1) := by decide +kernel
theorem dX7_odd_88 : decode cX7_odd 88 = .ok (.getfield 77, 3) := by decide +kernel
theorem dX7_odd_91 : decode cX7_odd 91 = .ok (.iload_n 2, 1) := by decide +kernel
theorem dX7_odd_92 : decode cX7_odd 92 = .ok (.iaload, 1) := by decide +kernel
theorem dX7_odd_93 : decode cX7_odd 93 = .ok (.if_icmp .ge 20, 3) := by decide +kernel
theorem dX7_odd_96 : decode cX7_odd 96 = .ok (.aload_n 0, 1) := by decide +kernel
theorem dX7_odd_97 : decode cX7_odd 97 = .ok (.getfield 77, 3) := by decide +kernel
theorem dX7_odd_100 : decode cX7_odd 100 = .ok (.iload_n 2, 1) := by decide +kernel
theorem dX7_odd_101 : decode cX7_odd 101 = .ok (.aload_n 0, 1) := by decide +kernel
theorem dX7_odd_102 : decode cX7_odd 102 = .ok (.getfield 77, 3) := by decide +kernel
theorem dX7_odd_105 : decode cX7_odd 105 = .ok (.iload_n 2, 1) := by decide +kernel
theorem dX7_odd_106 : decode cX7_odd 106 = .ok (.iload 4, 2) := by decide +kernel
theorem dX7_odd_108 : decode cX7_odd 108 = .ok (.isub, 1) := by decide +kernel
theorem dX7_odd_109 : decode cX7_odd 109 = .ok (.iaload, 1) := by decide +kernel
theorem dX7_odd_110 : decode cX7_odd 110 = .ok (.iconst 1, 1) := by decide +kernel
theorem dX7_odd_111 : decode cX7_odd 111 = .ok (.iadd, 1) := by decide +kernel
theorem dX7_odd_112 : decode cX7_odd 112 = .ok (.iastore, 1) := by decide +kernel
theorem dX7_odd_113 : decode cX7_odd 113 = .ok (.iinc 3 1, 3) := by decide +kernel
theorem dX7_odd_116 : decode cX7_odd 116 = .ok (.goto (-69), 3) := by decide +kernel
theorem dX7_odd_119 : decode cX7_odd 119 = .ok (.aload_n 0, 1) := by decide +kernel
theorem dX7_odd_120 : decode cX7_odd 120 = .ok (.getfield 77, 3) := by decide +kernel
theorem dX7_odd_123 : decode cX7_odd 123 = .ok (.iload_n 2, 1) := by decide +kernel
theorem dX7_odd_124 : decode cX7_odd 124 = .ok (.iaload, 1) := by decide +kernel
theorem dX7_odd_125 : decode cX7_odd 125 = .ok (.ldc 120, 2) := by decide +kernel
theorem dX7_odd_127 : decode cX7_odd 127 = .ok (.if_icmp .ge 27, 3) := by decide +kernel
theorem dX7_odd_130 : decode cX7_odd 130 = .ok (.aload_n 0, 1) := by decide +kernel
theorem dX7_odd_131 : decode cX7_odd 131 = .ok (.iload_n 1, 1) := by decide +kernel
theorem dX7_odd_132 : decode cX7_odd 132 = .ok (.iload_n 2, 1) := by decide +kernel
theorem dX7_odd_133 : decode cX7_odd 133 = .ok (.invokevirtual 131, 3) := by decide +kernel
theorem dX7_odd_136 : decode cX7_odd 136 = .ok (.istore_n 3, 1) := by decide +kernel
theorem dX7_odd_137 : decode cX7_odd 137 = .ok (.iload_n 3, 1) := by decide +kernel
theorem dX7_odd_138 : decode cX7_odd 138 = .ok (.iconst (-1), 1) := by decide +kernel
theorem dX7_odd_139 : decode cX7_odd 139 = .ok (.if_icmp .eq 13, 3) := by decide +kernel
theorem dX7_odd_142 : decode cX7_odd 142 = .ok (.iload_n 3, 1) := by decide +kernel
theorem dX7_odd_143 : decode cX7_odd 143 = .ok (.aload_n 0, 1) := by decide +kernel
theorem dX7_odd_144 : decode cX7_odd 144 = .ok (.getfield 77, 3) := by decide +kernel
theorem dX7_odd_147 : decode cX7_odd 147 = .ok (.iload_n 2, 1) := by decide +kernel
theorem dX7_odd_148 : decode cX7_odd 148 = .ok (.iaload, 1) := by decide +kernel
theorem dX7_odd_149 : decode cX7_odd 149 = .ok (.if_icmp .le 5, 3) := by decide +kernel
theorem dX7_odd_152 : decode cX7_odd 152 = .ok (.iload_n 2, 1) := by decide +kernel
theorem dX7_odd_153 : decode cX7_odd 153 = .ok (.ireturn, 1) := by decide +kernel
theorem dX7_odd_154 : decode cX7_odd 154 = .ok (.iinc 2 1, 3) := by decide +kernel
theorem dX7_odd_157 : decode cX7_odd 157 = .ok (.goto (-127), 3) := by decide +kernel
theorem dX7_odd_160 : decode cX7_odd 160 = .ok (.iconst (-1), 1) := by decide +kernel
theorem dX7_odd_161 : decode cX7_odd 161 = .ok (.ireturn, 1) := by decide +kernel
set_option maxRecDepth 20000 in
theorem ggX7_isTill_X7_in : GoodIn wsX7_isTill wsX7_in := goodIn_r _ [5] (by decide +kernel) (by decide +kernel)
set_option maxRecDepth 20000 in
theorem gX7_isTill_X7_in : GoodIn wsX7_isTill (va_wsS RX7 98 yX7_in wsX7_in) := goodIn_app (goodIn_of _ (by decide +kernel)) ggX7_isTill_X7_in
theorem dX7_isTill_0 : decode cX7_isTill 0 = .ok (.iload_n 1, 1) := by decide +kernel
theorem dX7_isTill_1 : decode cX7_isTill 1 = .ok (.iconst 0, 1) := by decide +kernel
theorem dX7_isTill_2 : decode cX7_isTill 2 = .ok (.aload_n 0, 1) := by decide +kernel
theorem dX7_isTill_3 : decode cX7_isTill 3 = .ok (.getfield 34, 3) := by decide +kernel
theorem dX7_isTill_6 : decode cX7_isTill 6 = .ok (.iconst 0, 1) := by decide +kernel
theorem dX7_isTill_7 : decode cX7_isTill 7 = .ok (.iaload, 1) := by decide +kernel
theorem dX7_isTill_8 : decode cX7_isTill 8 = .ok (.iconst 1, 1) := by decide +kernel
theorem dX7_isTill_9 : decode cX7_isTill 9 = .ok (.isub, 1) := by decide +kernel
theorem dX7_isTill_10 : decode cX7_isTill 10 = .ok (.invokestatic 98, 3) := by decide +kernel
theorem dX7_isTill_13 : decode cX7_isTill 13 = .ok (.ireturn, 1) := by decide +kernel
theorem dX7_cell_0 : decode cX7_cell 0 = .ok (.bipush 8, 2) := by decide +kernel
theorem dX7_cell_2 : decode cX7_cell 2 = .ok (.iconst 2, 1) := by decide +kernel
theorem dX7_cell_3 : decode cX7_cell 3 = .ok (.iload_n 0, 1) := by decide +kernel
theorem dX7_cell_4 : decode cX7_cell 4 = .ok (.imul, 1) := by decide +kernel
theorem dX7_cell_5 : decode cX7_cell 5 = .ok (.iload_n 1, 1) := by decide +kernel
theorem dX7_cell_6 : decode cX7_cell 6 = .ok (.iadd, 1) := by decide +kernel
theorem dX7_cell_7 : decode cX7_cell 7 = .ok (.imul, 1) := by decide +kernel
theorem dX7_cell_8 : decode cX7_cell 8 = .ok (.iload_n 2, 1) := by decide +kernel
theorem dX7_cell_9 : decode cX7_cell 9 = .ok (.iadd, 1) := by decide +kernel
theorem dX7_cell_10 : decode cX7_cell 10 = .ok (.ireturn, 1) := by decide +kernel
set_option maxRecDepth 20000 in
theorem ggX7_till_X7_cell : GoodIn wsX7_till wsX7_cell := goodIn_r _ [12] (by decide +kernel) (by decide +kernel)
set_option maxRecDepth 20000 in
theorem gX7_till_X7_cell : GoodIn wsX7_till (va_wsS RX7 134 yX7_cell wsX7_cell) := goodIn_app (goodIn_of _ (by decide +kernel)) ggX7_till_X7_cell
theorem dX7_till_0 : decode cX7_till 0 = .ok (.aload_n 0, 1) := by decide +kernel
theorem dX7_till_1 : decode cX7_till 1 = .ok (.iconst 0, 1) := by decide +kernel
theorem dX7_till_2 : decode cX7_till 2 = .ok (.putfield 90, 3) := by decide +kernel
theorem dX7_till_5 : decode cX7_till 5 = .ok (.aload_n 0, 1) := by decide +kernel
theorem dX7_till_6 : decode cX7_till 6 = .ok (.getfield 34, 3) := by decide +kernel
theorem dX7_till_9 : decode cX7_till 9 = .ok (.iconst 0, 1) := by decide +kernel
theorem dX7_till_10 : decode cX7_till 10 = .ok (.iaload, 1) := by decide +kernel
theorem dX7_till_11 : decode cX7_till 11 = .ok (.iconst 4, 1) := by decide +kernel
theorem dX7_till_12 : decode cX7_till 12 = .ok (.if_icmp .ne 5, 3) := by decide +kernel
theorem dX7_till_15 : decode cX7_till 15 = .ok (.iconst (-1), 1) := by decide +kernel
theorem dX7_till_16 : decode cX7_till 16 = .ok (.ireturn, 1) := by decide +kernel
theorem dX7_till_17 : decode cX7_till 17 = .ok (.aload_n 0, 1) := by decide +kernel
theorem dX7_till_18 : decode cX7_till 18 = .ok (.getfield 34, 3) := by decide +kernel
theorem dX7_till_21 : decode cX7_till 21 = .ok (.iconst 0, 1) := by decide +kernel
theorem dX7_till_22 : decode cX7_till 22 = .ok (.iaload, 1) := by decide +kernel
theorem dX7_till_23 : decode cX7_till 23 = .ok (.istore_n 1, 1) := by decide +kernel
theorem dX7_till_24 : decode cX7_till 24 = .ok (.aload_n 0, 1) := by decide +kernel
theorem dX7_till_25 : decode cX7_till 25 = .ok (.getfield 34, 3) := by decide +kernel
theorem dX7_till_28 : decode cX7_till 28 = .ok (.iconst 0, 1) := by decide +kernel
theorem dX7_till_29 : decode cX7_till 29 = .ok (.dup2, 1) := by decide +kernel
theorem dX7_till_30 : decode cX7_till 30 = .ok (.iaload, 1) := by decide +kernel
theorem dX7_till_31 : decode cX7_till 31 = .ok (.iconst 1, 1) := by decide +kernel
theorem dX7_till_32 : decode cX7_till 32 = .ok (.iadd, 1) := by decide +kernel
theorem dX7_till_33 : decode cX7_till 33 = .ok (.iastore, 1) := by decide +kernel
theorem dX7_till_34 : decode cX7_till 34 = .ok (.aload_n 0, 1) := by decide +kernel
theorem dX7_till_35 : decode cX7_till 35 = .ok (.getfield 37, 3) := by decide +kernel
theorem dX7_till_38 : decode cX7_till 38 = .ok (.iload_n 1, 1) := by decide +kernel
theorem dX7_till_39 : decode cX7_till 39 = .ok (.iconst 0, 1) := by decide +kernel
theorem dX7_till_40 : decode cX7_till 40 = .ok (.iastore, 1) := by decide +kernel
theorem dX7_till_41 : decode cX7_till 41 = .ok (.aload_n 0, 1) := by decide +kernel
theorem dX7_till_42 : decode cX7_till 42 = .ok (.getfield 40, 3) := by decide +kernel
theorem dX7_till_45 : decode cX7_till 45 = .ok (.iload_n 1, 1) := by decide +kernel
theorem dX7_till_46 : decode cX7_till 46 = .ok (.lconst 0, 1) := by decide +kernel
theorem dX7_till_47 : decode cX7_till 47 = .ok (.lastore, 1) := by decide +kernel
theorem dX7_till_48 : decode cX7_till 48 = .ok (.aload_n 0, 1) := by decide +kernel
theorem dX7_till_49 : decode cX7_till 49 = .ok (.getfield 44, 3) := by decide +kernel
theorem dX7_till_52 : decode cX7_till 52 = .ok (.iload_n 1, 1) := by decide +kernel
theorem dX7_till_53 : decode cX7_till 53 = .ok (.lconst 0, 1) := by decide +kernel
theorem dX7_till_54 : decode cX7_till 54 = .ok (.lastore, 1) := by decide +kernel
theorem dX7_till_55 : decode cX7_till 55 = .ok (.aload_n 0, 1) := by decide +kernel
theorem dX7_till_56 : decode cX7_till 56 = .ok (.getfield 47, 3) := by decide +kernel
theorem dX7_till_59 : decode cX7_till 59 = .ok (.iload_n 1, 1) := by decide +kernel
theorem dX7_till_60 : decode cX7_till 60 = .ok (.iconst 0, 1) := by decide +kernel
theorem dX7_till_61 : decode cX7_till 61 = .ok (.iastore, 1) := by decide +kernel
theorem dX7_till_62 : decode cX7_till 62 = .ok (.iconst 0, 1) := by decide +kernel
theorem dX7_till_63 : decode cX7_till 63 = .ok (.istore_n 2, 1) := by decide +kernel
theorem dX7_till_64 : decode cX7_till 64 = .ok (.iload_n 2, 1) := by decide +kernel
theorem dX7_till_65 : decode cX7_till 65 = .ok (.bipush 8, 2) := by decide +kernel
theorem dX7_till_67 : decode cX7_till 67 = .ok (.if_icmp .ge 45, 3) := by decide +kernel
theorem dX7_till_70 : decode cX7_till 70 = .ok (.aload_n 0, 1) := by decide +kernel
theorem dX7_till_71 : decode cX7_till 71 = .ok (.getfield 50, 3) := by decide +kernel
theorem dX7_till_74 : decode cX7_till 74 = .ok (.iload_n 1, 1) := by decide +kernel
theorem dX7_till_75 : decode cX7_till 75 = .ok (.iconst 0, 1) := by decide +kernel
theorem dX7_till_76 : decode cX7_till 76 = .ok (.iload_n 2, 1) := by decide +kernel
theorem dX7_till_77 : decode cX7_till 77 = .ok (.invokestatic 134, 3) := by decide +kernel
theorem dX7_till_80 : decode cX7_till 80 = .ok (.iconst 0, 1) := by decide +kernel
theorem dX7_till_81 : decode cX7_till 81 = .ok (.iastore, 1) := by decide +kernel
theorem dX7_till_82 : decode cX7_till 82 = .ok (.aload_n 0, 1) := by decide +kernel
theorem dX7_till_83 : decode cX7_till 83 = .ok (.getfield 50, 3) := by decide +kernel
theorem dX7_till_86 : decode cX7_till 86 = .ok (.iload_n 1, 1) := by decide +kernel
theorem dX7_till_87 : decode cX7_till 87 = .ok (.iconst 1, 1) := by decide +kernel
theorem dX7_till_88 : decode cX7_till 88 = .ok (.iload_n 2, 1) := by decide +kernel
theorem dX7_till_89 : decode cX7_till 89 = .ok (.invokestatic 134, 3) := by decide +kernel
theorem dX7_till_92 : decode cX7_till 92 = .ok (.iconst 0, 1) := by decide +kernel
theorem dX7_till_93 : decode cX7_till 93 = .ok (.iastore, 1) := by decide +kernel
theorem dX7_till_94 : decode cX7_till 94 = .ok (.aload_n 0, 1) := by decide +kernel
theorem dX7_till_95 : decode cX7_till 95 = .ok (.getfield 53, 3) := by decide +kernel
theorem dX7_till_98 : decode cX7_till 98 = .ok (.bipush 8, 2) := by decide +kernel
theorem dX7_till_100 : decode cX7_till 100 = .ok (.iload_n 1, 1) := by decide +kernel
theorem dX7_till_101 : decode cX7_till 101 = .ok (.imul, 1) := by decide +kernel
theorem dX7_till_102 : decode cX7_till 102 = .ok (.iload_n 2, 1) := by decide +kernel
theorem dX7_till_103 : decode cX7_till 103 = .ok (.iadd, 1) := by decide +kernel
theorem dX7_till_104 : decode cX7_till 104 = .ok (.iconst 0, 1) := by decide +kernel
theorem dX7_till_105 : decode cX7_till 105 = .ok (.iastore, 1) := by decide +kernel
theorem dX7_till_106 : decode cX7_till 106 = .ok (.iinc 2 1, 3) := by decide +kernel
theorem dX7_till_109 : decode cX7_till 109 = .ok (.goto (-45), 3) := by decide +kernel
theorem dX7_till_112 : decode cX7_till 112 = .ok (.iload_n 1, 1) := by decide +kernel
theorem dX7_till_113 : decode cX7_till 113 = .ok (.ireturn, 1) := by decide +kernel
set_option maxRecDepth 20000 in
theorem ggX7_put_X7_isTill : GoodIn wsX7_put wsX7_isTill := goodIn_r _ [7, 8, 9, 10, 6, 11, 20, 21, 22, 23, 24, 25, 26, 27, 28, 29, 30, 31, 32, 33, 34, 35, 36, 37, 38, 39, 40, 41, 42, 43, 44, 45, 46] (by decide +kernel) (by decide +kernel)
set_option maxRecDepth 20000 in
theorem gX7_put_X7_isTill : GoodIn wsX7_put (wsV RX7 138 RX7 yX7_isTill wsX7_isTill) := goodIn_app (goodIn_of _ (by decide +kernel)) ggX7_put_X7_isTill
set_option maxRecDepth 20000 in
theorem ggX7_put_X7_isCoin : GoodIn wsX7_put wsX7_isCoin := goodIn_r _ [15, 16, 9, 10, 6, 11, 20, 21, 22, 23, 24, 25, 26, 27, 28, 29, 30, 31, 32, 33, 34, 35, 36, 37, 38, 39, 40, 41, 42, 43, 44, 45, 46] (by decide +kernel) (by decide +kernel)
set_option maxRecDepth 20000 in
theorem gX7_put_X7_isCoin : GoodIn wsX7_put (wsV RX7 121 RX7 yX7_isCoin wsX7_isCoin) := goodIn_app (goodIn_of _ (by decide +kernel)) ggX7_put_X7_isCoin
set_option maxRecDepth 20000 in
theorem ggX7_put_X7_cell : GoodIn wsX7_put wsX7_cell := goodIn_r _ [19] (by decide +kernel) (by decide +kernel)
set_option maxRecDepth 20000 in
theorem gX7_put_X7_cell : GoodIn wsX7_put (va_wsS RX7 134 yX7_cell wsX7_cell) := goodIn_app (goodIn_of _ (by decide +kernel)) ggX7_put_X7_cell
set_option maxRecDepth 20000 in
theorem ggX7_put_X7_in : GoodIn wsX7_put wsX7_in := goodIn_r _ [11] (by decide +kernel) (by decide +kernel)
set_option maxRecDepth 20000 in
theorem gX7_put_X7_in : GoodIn wsX7_put (va_wsS RX7 98 yX7_in wsX7_in) := goodIn_app (goodIn_of _ (by decide +kernel)) ggX7_put_X7_in
theorem dX7_put_0 : decode cX7_put 0 = .ok (.aload_n 0, 1) := by decide +kernel
theorem dX7_put_1 : decode cX7_put 1 = .ok (.iconst 0, 1) := by decide +kernel
theorem dX7_put_2 : decode cX7_put 2 = .ok (.putfield 90, 3) := by decide +kernel
theorem dX7_put_5 : decode cX7_put 5 = .ok (.aload_n 0, 1) := by decide +kernel
theorem dX7_put_6 : decode cX7_put 6 = .ok (.iload_n 1, 1) := by decide +kernel
theorem dX7_put_7 : decode cX7_put 7 = .ok (.invokevirtual 138, 3) := by decide +kernel
theorem dX7_put_10 : decode cX7_put 10 = .ok (.ifCond .eq 12, 3) := by decide +kernel
theorem dX7_put_13 : decode cX7_put 13 = .ok (.aload_n 0, 1) := by decide +kernel
theorem dX7_put_14 : decode cX7_put 14 = .ok (.iload_n 2, 1) := by decide +kernel
theorem dX7_put_15 : decode cX7_put 15 = .ok (.iload_n 3, 1) := by decide +kernel
theorem dX7_put_16 : decode cX7_put 16 = .ok (.invokevirtual 121, 3) := by decide +kernel
theorem dX7_put_19 : decode cX7_put 19 = .ok (.ifCond .ne 5, 3) := by decide +kernel
theorem dX7_put_22 : decode cX7_put 22 = .ok (.iconst (-1), 1) := by decide +kernel
theorem dX7_put_23 : decode cX7_put 23 = .ok (.ireturn, 1) := by decide +kernel
theorem dX7_put_24 : decode cX7_put 24 = .ok (.iload_n 1, 1) := by decide +kernel
theorem dX7_put_25 : decode cX7_put 25 = .ok (.iload_n 2, 1) := by decide +kernel
theorem dX7_put_26 : decode cX7_put 26 = .ok (.iload_n 3, 1) := by decide +kernel
theorem dX7_put_27 : decode cX7_put 27 = .ok (.invokestatic 134, 3) := by decide +kernel
theorem dX7_put_30 : decode cX7_put 30 = .ok (.istore 5, 2) := by decide +kernel
theorem dX7_put_32 : decode cX7_put 32 = .ok (.iload 4, 2) := by decide +kernel
theorem dX7_put_34 : decode cX7_put 34 = .ok (.aload_n 0, 1) := by decide +kernel
theorem dX7_put_35 : decode cX7_put 35 = .ok (.getfield 50, 3) := by decide +kernel
theorem dX7_put_38 : decode cX7_put 38 = .ok (.iload 5, 2) := by decide +kernel
theorem dX7_put_40 : decode cX7_put 40 = .ok (.iaload, 1) := by decide +kernel
theorem dX7_put_41 : decode cX7_put 41 = .ok (.ineg, 1) := by decide +kernel
theorem dX7_put_42 : decode cX7_put 42 = .ok (.sipush 1000, 3) := by decide +kernel
theorem dX7_put_45 : decode cX7_put 45 = .ok (.aload_n 0, 1) := by decide +kernel
theorem dX7_put_46 : decode cX7_put 46 = .ok (.getfield 50, 3) := by decide +kernel
theorem dX7_put_49 : decode cX7_put 49 = .ok (.iload 5, 2) := by decide +kernel
theorem dX7_put_51 : decode cX7_put 51 = .ok (.iaload, 1) := by decide +kernel
theorem dX7_put_52 : decode cX7_put 52 = .ok (.isub, 1) := by decide +kernel
theorem dX7_put_53 : decode cX7_put 53 = .ok (.invokestatic 98, 3) := by decide +kernel
theorem dX7_put_56 : decode cX7_put 56 = .ok (.ifCond .ne 5, 3) := by decide +kernel
theorem dX7_put_59 : decode cX7_put 59 = .ok (.iconst (-1), 1) := by decide +kernel
theorem dX7_put_60 : decode cX7_put 60 = .ok (.ireturn, 1) := by decide +kernel
theorem dX7_put_61 : decode cX7_put 61 = .ok (.aload_n 0, 1) := by decide +kernel
theorem dX7_put_62 : decode cX7_put 62 = .ok (.getfield 50, 3) := by decide +kernel
theorem dX7_put_65 : decode cX7_put 65 = .ok (.iload 5, 2) := by decide +kernel
theorem dX7_put_67 : decode cX7_put 67 = .ok (.dup2, 1) := by decide +kernel
theorem dX7_put_68 : decode cX7_put 68 = .ok (.iaload, 1) := by decide +kernel
theorem dX7_put_69 : decode cX7_put 69 = .ok (.iload 4, 2) := by decide +kernel
theorem dX7_put_71 : decode cX7_put 71 = .ok (.iadd, 1) := by decide +kernel
theorem dX7_put_72 : decode cX7_put 72 = .ok (.iastore, 1) := by decide +kernel
theorem dX7_put_73 : decode cX7_put 73 = .ok (.aload_n 0, 1) := by decide +kernel
theorem dX7_put_74 : decode cX7_put 74 = .ok (.getfield 50, 3) := by decide +kernel
theorem dX7_put_77 : decode cX7_put 77 = .ok (.iload 5, 2) := by decide +kernel
theorem dX7_put_79 : decode cX7_put 79 = .ok (.iaload, 1) := by decide +kernel
theorem dX7_put_80 : decode cX7_put 80 = .ok (.ireturn, 1) := by decide +kernel
theorem dX7_over_0 : decode cX7_over 0 = .ok (.iload 4, 2) := by decide +kernel
theorem dX7_over_2 : decode cX7_over 2 = .ok (.aload_n 0, 1) := by decide +kernel
theorem dX7_over_3 : decode cX7_over 3 = .ok (.getfield 13, 3) := by decide +kernel
theorem dX7_over_6 : decode cX7_over 6 = .ok (.bipush 8, 2) := by decide +kernel
theorem dX7_over_8 : decode cX7_over 8 = .ok (.iload_n 2, 1) := by decide +kernel
theorem dX7_over_9 : decode cX7_over 9 = .ok (.imul, 1) := by decide +kernel
theorem dX7_over_10 : decode cX7_over 10 = .ok (.iload_n 3, 1) := by decide +kernel
theorem dX7_over_11 : decode cX7_over 11 = .ok (.iadd, 1) := by decide +kernel
theorem dX7_over_12 : decode cX7_over 12 = .ok (.iaload, 1) := by decide +kernel
theorem dX7_over_13 : decode cX7_over 13 = .ok (.imul, 1) := by decide +kernel
theorem dX7_over_14 : decode cX7_over 14 = .ok (.aload_n 0, 1) := by decide +kernel
theorem dX7_over_15 : decode cX7_over 15 = .ok (.getfield 16, 3) := by decide +kernel
theorem dX7_over_18 : decode cX7_over 18 = .ok (.iload_n 2, 1) := by decide +kernel
theorem dX7_over_19 : decode cX7_over 19 = .ok (.iaload, 1) := by decide +kernel
theorem dX7_over_20 : decode cX7_over 20 = .ok (.imul, 1) := by decide +kernel
theorem dX7_over_21 : decode cX7_over 21 = .ok (.iload_n 1, 1) := by decide +kernel
theorem dX7_over_22 : decode cX7_over 22 = .ok (.aload_n 0, 1) := by decide +kernel
theorem dX7_over_23 : decode cX7_over 23 = .ok (.getfield 16, 3) := by decide +kernel
theorem dX7_over_26 : decode cX7_over 26 = .ok (.iconst 1, 1) := by decide +kernel
theorem dX7_over_27 : decode cX7_over 27 = .ok (.iaload, 1) := by decide +kernel
theorem dX7_over_28 : decode cX7_over 28 = .ok (.imul, 1) := by decide +kernel
theorem dX7_over_29 : decode cX7_over 29 = .ok (.isub, 1) := by decide +kernel
theorem dX7_over_30 : decode cX7_over 30 = .ok (.ireturn, 1) := by decide +kernel
set_option maxRecDepth 20000 in
theorem ggX7_isSale_X7_isTill : GoodIn wsX7_isSale wsX7_isTill := goodIn_r _ [5, 6, 7, 8, 4, 9, 15, 16, 17, 18, 19, 20, 21, 22, 23, 24, 25, 26, 27, 28, 29, 30, 31, 32, 33, 34, 35, 36, 37, 38, 39, 40, 41] (by decide +kernel) (by decide +kernel)
set_option maxRecDepth 20000 in
theorem gX7_isSale_X7_isTill : GoodIn wsX7_isSale (wsV RX7 138 RX7 yX7_isTill wsX7_isTill) := goodIn_app (goodIn_of _ (by decide +kernel)) ggX7_isSale_X7_isTill
set_option maxRecDepth 20000 in
theorem ggX7_isSale_X7_in : GoodIn wsX7_isSale wsX7_in := goodIn_r _ [9] (by decide +kernel) (by decide +kernel)
set_option maxRecDepth 20000 in
theorem gX7_isSale_X7_in : GoodIn wsX7_isSale (va_wsS RX7 98 yX7_in wsX7_in) := goodIn_app (goodIn_of _ (by decide +kernel)) ggX7_isSale_X7_in
set_option maxRecDepth 20000 in
theorem ggX7_isSale_X7_isCoin : GoodIn wsX7_isSale wsX7_isCoin := goodIn_r _ [13, 14, 7, 8, 4, 9, 15, 16, 17, 18, 19, 20, 21, 22, 23, 24, 25, 26, 27, 28, 29, 30, 31, 32, 33, 34, 35, 36, 37, 38, 39, 40, 41] (by decide +kernel) (by decide +kernel)
set_option maxRecDepth 20000 in
theorem gX7_isSale_X7_isCoin : GoodIn wsX7_isSale (wsV RX7 121 RX7 yX7_isCoin wsX7_isCoin) := goodIn_app (goodIn_of _ (by decide +kernel)) ggX7_isSale_X7_isCoin
theorem dX7_isSale_0 : decode cX7_isSale 0 = .ok (.aload_n 0, 1) := by decide +kernel
theorem dX7_isSale_1 : decode cX7_isSale 1 = .ok (.iload_n 1, 1) := by decide +kernel
theorem dX7_isSale_2 : decode cX7_isSale 2 = .ok (.invokevirtual 138, 3) := by decide +kernel
theorem dX7_isSale_5 : decode cX7_isSale 5 = .ok (.ifCond .eq 39, 3) := by decide +kernel
theorem dX7_isSale_8 : decode cX7_isSale 8 = .ok (.iload_n 2, 1) := by decide +kernel
theorem dX7_isSale_9 : decode cX7_isSale 9 = .ok (.iconst 1, 1) := by decide +kernel
theorem dX7_isSale_10 : decode cX7_isSale 10 = .ok (.sipush 2000, 3) := by decide +kernel
theorem dX7_isSale_13 : decode cX7_isSale 13 = .ok (.invokestatic 98, 3) := by decide +kernel
theorem dX7_isSale_16 : decode cX7_isSale 16 = .ok (.ifCond .eq 28, 3) := by decide +kernel
theorem dX7_isSale_19 : decode cX7_isSale 19 = .ok (.aload_n 0, 1) := by decide +kernel
theorem dX7_isSale_20 : decode cX7_isSale 20 = .ok (.iload_n 3, 1) := by decide +kernel
theorem dX7_isSale_21 : decode cX7_isSale 21 = .ok (.iload 4, 2) := by decide +kernel
theorem dX7_isSale_23 : decode cX7_isSale 23 = .ok (.invokevirtual 121, 3) := by decide +kernel
theorem dX7_isSale_26 : decode cX7_isSale 26 = .ok (.ifCond .eq 18, 3) := by decide +kernel
theorem dX7_isSale_29 : decode cX7_isSale 29 = .ok (.iload 5, 2) := by decide +kernel
theorem dX7_isSale_31 : decode cX7_isSale 31 = .ok (.iconst 1, 1) := by decide +kernel
theorem dX7_isSale_32 : decode cX7_isSale 32 = .ok (.bipush 50, 2) := by decide +kernel
theorem dX7_isSale_34 : decode cX7_isSale 34 = .ok (.invokestatic 98, 3) := by decide +kernel
theorem dX7_isSale_37 : decode cX7_isSale 37 = .ok (.ifCond .eq 7, 3) := by decide +kernel
theorem dX7_isSale_40 : decode cX7_isSale 40 = .ok (.iconst 1, 1) := by decide +kernel
theorem dX7_isSale_41 : decode cX7_isSale 41 = .ok (.goto 4, 3) := by decide +kernel
theorem dX7_isSale_44 : decode cX7_isSale 44 = .ok (.iconst 0, 1) := by decide +kernel
theorem dX7_isSale_45 : decode cX7_isSale 45 = .ok (.ireturn, 1) := by decide +kernel
set_option maxRecDepth 20000 in
theorem ggX7_sale_X7_isSale : GoodIn wsX7_sale wsX7_isSale := goodIn_r _ [16, 17, 18, 19, 15, 20, 21, 22, 23, 24, 25, 26, 27, 28, 5, 48, 49, 50, 51, 52, 53, 54, 55, 56, 57, 58, 59, 60, 61, 62, 63, 64, 65, 66, 67, 68, 69, 70, 71, 72, 73, 74] (by decide +kernel) (by decide +kernel)
set_option maxRecDepth 20000 in
theorem gX7_sale_X7_isSale : GoodIn wsX7_sale (wsV RX7 141 RX7 yX7_isSale wsX7_isSale) := goodIn_app (goodIn_of _ (by decide +kernel)) ggX7_sale_X7_isSale
set_option maxRecDepth 20000 in
theorem ggX7_sale_X7_over : GoodIn wsX7_sale wsX7_over := goodIn_r _ [32, 33, 2, 48, 49, 50, 51, 52, 53, 54, 55, 56, 57, 58, 59, 60, 61, 62, 63, 64, 65, 66, 67, 68, 69, 70, 71, 72, 73, 74] (by decide +kernel) (by decide +kernel)
set_option maxRecDepth 20000 in
theorem gX7_sale_X7_over : GoodIn wsX7_sale (wsV RX7 145 RX7 yX7_over wsX7_over) := goodIn_app (goodIn_of _ (by decide +kernel)) ggX7_sale_X7_over
set_option maxRecDepth 20000 in
theorem ggX7_sale_X7_cell : GoodIn wsX7_sale wsX7_cell := goodIn_r _ [36] (by decide +kernel) (by decide +kernel)
set_option maxRecDepth 20000 in
theorem gX7_sale_X7_cell : GoodIn wsX7_sale (va_wsS RX7 134 yX7_cell wsX7_cell) := goodIn_app (goodIn_of _ (by decide +kernel)) ggX7_sale_X7_cell
set_option maxRecDepth 20000 in
theorem ggX7_sale_X7_find : GoodIn wsX7_sale wsX7_find := goodIn_r _ [40, 5, 41, 42, 33, 43, 4, 6, 44, 45, 46, 15, 47, 48, 49, 50, 51, 52, 53, 54, 55, 56, 57, 58, 59, 60, 61, 62, 63, 64, 65, 66, 67, 68, 69, 70, 71, 72, 73, 74] (by decide +kernel) (by decide +kernel)
set_option maxRecDepth 20000 in
theorem gX7_sale_X7_find : GoodIn wsX7_sale (wsV RX7 128 RX7 yX7_find wsX7_find) := goodIn_app (goodIn_of _ (by decide +kernel)) ggX7_sale_X7_find
theorem dX7_sale_0 : decode cX7_sale 0 = .ok (.aload_n 0, 1) := by decide +kernel
theorem dX7_sale_1 : decode cX7_sale 1 = .ok (.iconst 0, 1) := by decide +kernel
theorem dX7_sale_2 : decode cX7_sale 2 = .ok (.putfield 90, 3) := by decide +kernel
theorem dX7_sale_5 : decode cX7_sale 5 = .ok (.aload_n 0, 1) := by decide +kernel
theorem dX7_sale_6 : decode cX7_sale 6 = .ok (.iload_n 1, 1) := by decide +kernel
theorem dX7_sale_7 : decode cX7_sale 7 = .ok (.iload_n 2, 1) := by decide +kernel
theorem dX7_sale_8 : decode cX7_sale 8 = .ok (.iload_n 3, 1) := by decide +kernel
theorem dX7_sale_9 : decode cX7_sale 9 = .ok (.iload 4, 2) := by decide +kernel
theorem dX7_sale_11 : decode cX7_sale 11 = .ok (.iload 5, 2) := by decide +kernel
theorem dX7_sale_13 : decode cX7_sale 13 = .ok (.invokevirtual 141, 3) := by decide +kernel
theorem dX7_sale_16 : decode cX7_sale 16 = .ok (.ifCond .ne 5, 3) := by decide +kernel
theorem dX7_sale_19 : decode cX7_sale 19 = .ok (.iconst (-1), 1) := by decide +kernel
theorem dX7_sale_20 : decode cX7_sale 20 = .ok (.ireturn, 1) := by decide +kernel
theorem dX7_sale_21 : decode cX7_sale 21 = .ok (.aload_n 0, 1) := by decide +kernel
theorem dX7_sale_22 : decode cX7_sale 22 = .ok (.iload_n 2, 1) := by decide +kernel
theorem dX7_sale_23 : decode cX7_sale 23 = .ok (.iload_n 3, 1) := by decide +kernel
theorem dX7_sale_24 : decode cX7_sale 24 = .ok (.iload 4, 2) := by decide +kernel
theorem dX7_sale_26 : decode cX7_sale 26 = .ok (.iload 5, 2) := by decide +kernel
theorem dX7_sale_28 : decode cX7_sale 28 = .ok (.invokevirtual 145, 3) := by decide +kernel
theorem dX7_sale_31 : decode cX7_sale 31 = .ok (.istore 6, 2) := by decide +kernel
theorem dX7_sale_33 : decode cX7_sale 33 = .ok (.iload_n 1, 1) := by decide +kernel
theorem dX7_sale_34 : decode cX7_sale 34 = .ok (.iload_n 3, 1) := by decide +kernel
theorem dX7_sale_35 : decode cX7_sale 35 = .ok (.iload 4, 2) := by decide +kernel
theorem dX7_sale_37 : decode cX7_sale 37 = .ok (.invokestatic 134, 3) := by decide +kernel
theorem dX7_sale_40 : decode cX7_sale 40 = .ok (.istore 7, 2) := by decide +kernel
theorem dX7_sale_42 : decode cX7_sale 42 = .ok (.iload 6, 2) := by decide +kernel
theorem dX7_sale_44 : decode cX7_sale 44 = .ok (.aload_n 0, 1) := by decide +kernel
theorem dX7_sale_45 : decode cX7_sale 45 = .ok (.getfield 16, 3) := by decide +kernel
theorem dX7_sale_48 : decode cX7_sale 48 = .ok (.iconst 1, 1) := by decide +kernel
theorem dX7_sale_49 : decode cX7_sale 49 = .ok (.iaload, 1) := by decide +kernel
theorem dX7_sale_50 : decode cX7_sale 50 = .ok (.idiv, 1) := by decide +kernel
theorem dX7_sale_51 : decode cX7_sale 51 = .ok (.istore 8, 2) := by decide +kernel
theorem dX7_sale_53 : decode cX7_sale 53 = .ok (.iload 6, 2) := by decide +kernel
theorem dX7_sale_55 : decode cX7_sale 55 = .ok (.ifCond .lt 27, 3) := by decide +kernel
theorem dX7_sale_58 : decode cX7_sale 58 = .ok (.iload 8, 2) := by decide +kernel
theorem dX7_sale_60 : decode cX7_sale 60 = .ok (.sipush 2000, 3) := by decide +kernel
theorem dX7_sale_63 : decode cX7_sale 63 = .ok (.if_icmp .gt 19, 3) := by decide +kernel
theorem dX7_sale_66 : decode cX7_sale 66 = .ok (.aload_n 0, 1) := by decide +kernel
theorem dX7_sale_67 : decode cX7_sale 67 = .ok (.getfield 50, 3) := by decide +kernel
theorem dX7_sale_70 : decode cX7_sale 70 = .ok (.iload 7, 2) := by decide +kernel
theorem dX7_sale_72 : decode cX7_sale 72 = .ok (.iaload, 1) := by decide +kernel
theorem dX7_sale_73 : decode cX7_sale 73 = .ok (.iload 5, 2) := by decide +kernel
theorem dX7_sale_75 : decode cX7_sale 75 = .ok (.iadd, 1) := by decide +kernel
theorem dX7_sale_76 : decode cX7_sale 76 = .ok (.sipush 1000, 3) := by decide +kernel
theorem dX7_sale_79 : decode cX7_sale 79 = .ok (.if_icmp .le 5, 3) := by decide +kernel
theorem dX7_sale_82 : decode cX7_sale 82 = .ok (.iconst (-1), 1) := by decide +kernel
theorem dX7_sale_83 : decode cX7_sale 83 = .ok (.ireturn, 1) := by decide +kernel
theorem dX7_sale_84 : decode cX7_sale 84 = .ok (.iconst 0, 1) := by decide +kernel
theorem dX7_sale_85 : decode cX7_sale 85 = .ok (.istore 9, 2) := by decide +kernel
theorem dX7_sale_87 : decode cX7_sale 87 = .ok (.iload 9, 2) := by decide +kernel
theorem dX7_sale_89 : decode cX7_sale 89 = .ok (.bipush 8, 2) := by decide +kernel
theorem dX7_sale_91 : decode cX7_sale 91 = .ok (.if_icmp .ge 47, 3) := by decide +kernel
theorem dX7_sale_94 : decode cX7_sale 94 = .ok (.aload_n 0, 1) := by decide +kernel
theorem dX7_sale_95 : decode cX7_sale 95 = .ok (.getfield 74, 3) := by decide +kernel
theorem dX7_sale_98 : decode cX7_sale 98 = .ok (.iload 9, 2) := by decide +kernel
theorem dX7_sale_100 : decode cX7_sale 100 = .ok (.aload_n 0, 1) := by decide +kernel
theorem dX7_sale_101 : decode cX7_sale 101 = .ok (.getfield 50, 3) := by decide +kernel
theorem dX7_sale_104 : decode cX7_sale 104 = .ok (.iload_n 1, 1) := by decide +kernel
theorem dX7_sale_105 : decode cX7_sale 105 = .ok (.iconst 1, 1) := by decide +kernel
theorem dX7_sale_106 : decode cX7_sale 106 = .ok (.iload 9, 2) := by decide +kernel
theorem dX7_sale_108 : decode cX7_sale 108 = .ok (.invokestatic 134, 3) := by decide +kernel
theorem dX7_sale_111 : decode cX7_sale 111 = .ok (.iaload, 1) := by decide +kernel
theorem dX7_sale_112 : decode cX7_sale 112 = .ok (.iload_n 3, 1) := by decide +kernel
theorem dX7_sale_113 : decode cX7_sale 113 = .ok (.iconst 1, 1) := by decide +kernel
theorem dX7_sale_114 : decode cX7_sale 114 = .ok (.if_icmp .ne 15, 3) := by decide +kernel
theorem dX7_sale_117 : decode cX7_sale 117 = .ok (.iload 9, 2) := by decide +kernel
theorem dX7_sale_119 : decode cX7_sale 119 = .ok (.iload 4, 2) := by decide +kernel
theorem dX7_sale_121 : decode cX7_sale 121 = .ok (.if_icmp .ne 8, 3) := by decide +kernel
theorem dX7_sale_124 : decode cX7_sale 124 = .ok (.iload 5, 2) := by decide +kernel
theorem dX7_sale_126 : decode cX7_sale 126 = .ok (.goto 4, 3) := by decide +kernel
theorem dX7_sale_129 : decode cX7_sale 129 = .ok (.iconst 0, 1) := by decide +kernel
theorem dX7_sale_130 : decode cX7_sale 130 = .ok (.iadd, 1) := by decide +kernel
theorem dX7_sale_131 : decode cX7_sale 131 = .ok (.iastore, 1) := by decide +kernel
theorem dX7_sale_132 : decode cX7_sale 132 = .ok (.iinc 9 1, 3) := by decide +kernel
theorem dX7_sale_135 : decode cX7_sale 135 = .ok (.goto (-48), 3) := by decide +kernel
theorem dX7_sale_138 : decode cX7_sale 138 = .ok (.aload_n 0, 1) := by decide +kernel
theorem dX7_sale_139 : decode cX7_sale 139 = .ok (.iconst 1, 1) := by decide +kernel
theorem dX7_sale_140 : decode cX7_sale 140 = .ok (.iload 8, 2) := by decide +kernel
theorem dX7_sale_142 : decode cX7_sale 142 = .ok (.invokevirtual 128, 3) := by decide +kernel
theorem dX7_sale_145 : decode cX7_sale 145 = .ok (.iconst (-1), 1) := by decide +kernel
theorem dX7_sale_146 : decode cX7_sale 146 = .ok (.if_icmp .ne 5, 3) := by decide +kernel
theorem dX7_sale_149 : decode cX7_sale 149 = .ok (.iconst (-1), 1) := by decide +kernel
theorem dX7_sale_150 : decode cX7_sale 150 = .ok (.ireturn, 1) := by decide +kernel
theorem dX7_sale_151 : decode cX7_sale 151 = .ok (.aload_n 0, 1) := by decide +kernel
theorem dX7_sale_152 : decode cX7_sale 152 = .ok (.getfield 50, 3) := by decide +kernel
theorem dX7_sale_155 : decode cX7_sale 155 = .ok (.iload 7, 2) := by decide +kernel
theorem dX7_sale_157 : decode cX7_sale 157 = .ok (.dup2, 1) := by decide +kernel
theorem dX7_sale_158 : decode cX7_sale 158 = .ok (.iaload, 1) := by decide +kernel
theorem dX7_sale_159 : decode cX7_sale 159 = .ok (.iload 5, 2) := by decide +kernel
theorem dX7_sale_161 : decode cX7_sale 161 = .ok (.iadd, 1) := by decide +kernel
theorem dX7_sale_162 : decode cX7_sale 162 = .ok (.iastore, 1) := by decide +kernel
theorem dX7_sale_163 : decode cX7_sale 163 = .ok (.iconst 0, 1) := by decide +kernel
theorem dX7_sale_164 : decode cX7_sale 164 = .ok (.istore 9, 2) := by decide +kernel
theorem dX7_sale_166 : decode cX7_sale 166 = .ok (.iload 9, 2) := by decide +kernel
theorem dX7_sale_168 : decode cX7_sale 168 = .ok (.bipush 8, 2) := by decide +kernel
theorem dX7_sale_170 : decode cX7_sale 170 = .ok (.if_icmp .ge 64, 3) := by decide +kernel
theorem dX7_sale_173 : decode cX7_sale 173 = .ok (.iload 9, 2) := by decide +kernel
theorem dX7_sale_175 : decode cX7_sale 175 = .ok (.aload_n 0, 1) := by decide +kernel
theorem dX7_sale_176 : decode cX7_sale 176 = .ok (.getfield 7, 3) := by decide +kernel
theorem dX7_sale_179 : decode cX7_sale 179 = .ok (.iconst 1, 1) := by decide +kernel
theorem dX7_sale_180 : decode cX7_sale 180 = .ok (.iaload, 1) := by decide +kernel
theorem dX7_sale_181 : decode cX7_sale 181 = .ok (.if_icmp .ge 13, 3) := by decide +kernel
theorem dX7_sale_184 : decode cX7_sale 184 = .ok (.aload_n 0, 1) := by decide +kernel
theorem dX7_sale_185 : decode cX7_sale 185 = .ok (.getfield 71, 3) := by decide +kernel
theorem dX7_sale_188 : decode cX7_sale 188 = .ok (.iload 9, 2) := by decide +kernel
theorem dX7_sale_190 : decode cX7_sale 190 = .ok (.iaload, 1) := by decide +kernel
theorem dX7_sale_191 : decode cX7_sale 191 = .ok (.goto 4, 3) := by decide +kernel
theorem dX7_sale_194 : decode cX7_sale 194 = .ok (.iconst 0, 1) := by decide +kernel
theorem dX7_sale_195 : decode cX7_sale 195 = .ok (.istore 10, 2) := by decide +kernel
theorem dX7_sale_197 : decode cX7_sale 197 = .ok (.aload_n 0, 1) := by decide +kernel
theorem dX7_sale_198 : decode cX7_sale 198 = .ok (.getfield 50, 3) := by decide +kernel
theorem dX7_sale_201 : decode cX7_sale 201 = .ok (.iload_n 1, 1) := by decide +kernel
theorem dX7_sale_202 : decode cX7_sale 202 = .ok (.iconst 1, 1) := by decide +kernel
theorem dX7_sale_203 : decode cX7_sale 203 = .ok (.iload 9, 2) := by decide +kernel
theorem dX7_sale_205 : decode cX7_sale 205 = .ok (.invokestatic 134, 3) := by decide +kernel
theorem dX7_sale_208 : decode cX7_sale 208 = .ok (.dup2, 1) := by decide +kernel
theorem dX7_sale_209 : decode cX7_sale 209 = .ok (.iaload, 1) := by decide +kernel
theorem dX7_sale_210 : decode cX7_sale 210 = .ok (.iload 10, 2) := by decide +kernel
theorem dX7_sale_212 : decode cX7_sale 212 = .ok (.isub, 1) := by decide +kernel
theorem dX7_sale_213 : decode cX7_sale 213 = .ok (.iastore, 1) := by decide +kernel
theorem dX7_sale_214 : decode cX7_sale 214 = .ok (.aload_n 0, 1) := by decide +kernel
theorem dX7_sale_215 : decode cX7_sale 215 = .ok (.getfield 53, 3) := by decide +kernel
theorem dX7_sale_218 : decode cX7_sale 218 = .ok (.bipush 8, 2) := by decide +kernel
theorem dX7_sale_220 : decode cX7_sale 220 = .ok (.iload_n 1, 1) := by decide +kernel
theorem dX7_sale_221 : decode cX7_sale 221 = .ok (.imul, 1) := by decide +kernel
theorem dX7_sale_222 : decode cX7_sale 222 = .ok (.iload 9, 2) := by decide +kernel
theorem dX7_sale_224 : decode cX7_sale 224 = .ok (.iadd, 1) := by decide +kernel
theorem dX7_sale_225 : decode cX7_sale 225 = .ok (.iload 10, 2) := by decide +kernel
theorem dX7_sale_227 : decode cX7_sale 227 = .ok (.iastore, 1) := by decide +kernel
theorem dX7_sale_228 : decode cX7_sale 228 = .ok (.iinc 9 1, 3) := by decide +kernel
theorem dX7_sale_231 : decode cX7_sale 231 = .ok (.goto (-65), 3) := by decide +kernel
theorem dX7_sale_234 : decode cX7_sale 234 = .ok (.aload_n 0, 1) := by decide +kernel
theorem dX7_sale_235 : decode cX7_sale 235 = .ok (.getfield 19, 3) := by decide +kernel
theorem dX7_sale_238 : decode cX7_sale 238 = .ok (.iconst 0, 1) := by decide +kernel
theorem dX7_sale_239 : decode cX7_sale 239 = .ok (.dup2, 1) := by decide +kernel
theorem dX7_sale_240 : decode cX7_sale 240 = .ok (.iaload, 1) := by decide +kernel
theorem dX7_sale_241 : decode cX7_sale 241 = .ok (.iconst 1, 1) := by decide +kernel
theorem dX7_sale_242 : decode cX7_sale 242 = .ok (.iadd, 1) := by decide +kernel
theorem dX7_sale_243 : decode cX7_sale 243 = .ok (.iastore, 1) := by decide +kernel
theorem dX7_sale_244 : decode cX7_sale 244 = .ok (.aload_n 0, 1) := by decide +kernel
theorem dX7_sale_245 : decode cX7_sale 245 = .ok (.getfield 37, 3) := by decide +kernel
theorem dX7_sale_248 : decode cX7_sale 248 = .ok (.iload_n 1, 1) := by decide +kernel
theorem dX7_sale_249 : decode cX7_sale 249 = .ok (.dup2, 1) := by decide +kernel
theorem dX7_sale_250 : decode cX7_sale 250 = .ok (.iaload, 1) := by decide +kernel
theorem dX7_sale_251 : decode cX7_sale 251 = .ok (.iconst 1, 1) := by decide +kernel
theorem dX7_sale_252 : decode cX7_sale 252 = .ok (.iadd, 1) := by decide +kernel
theorem dX7_sale_253 : decode cX7_sale 253 = .ok (.iastore, 1) := by decide +kernel
theorem dX7_sale_254 : decode cX7_sale 254 = .ok (.aload_n 0, 1) := by decide +kernel
theorem dX7_sale_255 : decode cX7_sale 255 = .ok (.getfield 40, 3) := by decide +kernel
theorem dX7_sale_258 : decode cX7_sale 258 = .ok (.iload_n 1, 1) := by decide +kernel
theorem dX7_sale_259 : decode cX7_sale 259 = .ok (.dup2, 1) := by decide +kernel
theorem dX7_sale_260 : decode cX7_sale 260 = .ok (.laload, 1) := by decide +kernel
theorem dX7_sale_261 : decode cX7_sale 261 = .ok (.iload 6, 2) := by decide +kernel
theorem dX7_sale_263 : decode cX7_sale 263 = .ok (.aload_n 0, 1) := by decide +kernel
theorem dX7_sale_264 : decode cX7_sale 264 = .ok (.getfield 16, 3) := by decide +kernel
theorem dX7_sale_267 : decode cX7_sale 267 = .ok (.iconst 1, 1) := by decide +kernel
theorem dX7_sale_268 : decode cX7_sale 268 = .ok (.iaload, 1) := by decide +kernel
theorem dX7_sale_269 : decode cX7_sale 269 = .ok (.irem, 1) := by decide +kernel
theorem dX7_sale_270 : decode cX7_sale 270 = .ok (.i2l, 1) := by decide +kernel
theorem dX7_sale_271 : decode cX7_sale 271 = .ok (.ladd, 1) := by decide +kernel
theorem dX7_sale_272 : decode cX7_sale 272 = .ok (.lastore, 1) := by decide +kernel
theorem dX7_sale_273 : decode cX7_sale 273 = .ok (.aload_n 0, 1) := by decide +kernel
theorem dX7_sale_274 : decode cX7_sale 274 = .ok (.getfield 44, 3) := by decide +kernel
theorem dX7_sale_277 : decode cX7_sale 277 = .ok (.iload_n 1, 1) := by decide +kernel
theorem dX7_sale_278 : decode cX7_sale 278 = .ok (.dup2, 1) := by decide +kernel
theorem dX7_sale_279 : decode cX7_sale 279 = .ok (.laload, 1) := by decide +kernel
theorem dX7_sale_280 : decode cX7_sale 280 = .ok (.iload_n 2, 1) := by decide +kernel
theorem dX7_sale_281 : decode cX7_sale 281 = .ok (.aload_n 0, 1) := by decide +kernel
theorem dX7_sale_282 : decode cX7_sale 282 = .ok (.getfield 16, 3) := by decide +kernel
theorem dX7_sale_285 : decode cX7_sale 285 = .ok (.iconst 1, 1) := by decide +kernel
theorem dX7_sale_286 : decode cX7_sale 286 = .ok (.iaload, 1) := by decide +kernel
theorem dX7_sale_287 : decode cX7_sale 287 = .ok (.imul, 1) := by decide +kernel
theorem dX7_sale_288 : decode cX7_sale 288 = .ok (.i2l, 1) := by decide +kernel
theorem dX7_sale_289 : decode cX7_sale 289 = .ok (.ladd, 1) := by decide +kernel
theorem dX7_sale_290 : decode cX7_sale 290 = .ok (.lastore, 1) := by decide +kernel
theorem dX7_sale_291 : decode cX7_sale 291 = .ok (.iload 8, 2) := by decide +kernel
theorem dX7_sale_293 : decode cX7_sale 293 = .ok (.ireturn, 1) := by decide +kernel
set_option maxRecDepth 20000 in
theorem ggX7_given_X7_isTill : GoodIn wsX7_given wsX7_isTill := goodIn_r _ [8, 9, 10, 11, 7, 12, 18, 19, 20, 21, 22, 23, 24, 25, 26, 27, 28, 29, 30, 31, 32, 33, 34, 35, 36, 37, 38, 39, 40, 41, 42, 43, 44] (by decide +kernel) (by decide +kernel)
set_option maxRecDepth 20000 in
theorem gX7_given_X7_isTill : GoodIn wsX7_given (wsV RX7 138 RX7 yX7_isTill wsX7_isTill) := goodIn_app (goodIn_of _ (by decide +kernel)) ggX7_given_X7_isTill
set_option maxRecDepth 20000 in
theorem ggX7_given_X7_isCoin : GoodIn wsX7_given wsX7_isCoin := goodIn_r _ [16, 17, 10, 11, 7, 12, 18, 19, 20, 21, 22, 23, 24, 25, 26, 27, 28, 29, 30, 31, 32, 33, 34, 35, 36, 37, 38, 39, 40, 41, 42, 43, 44] (by decide +kernel) (by decide +kernel)
set_option maxRecDepth 20000 in
theorem gX7_given_X7_isCoin : GoodIn wsX7_given (wsV RX7 121 RX7 yX7_isCoin wsX7_isCoin) := goodIn_app (goodIn_of _ (by decide +kernel)) ggX7_given_X7_isCoin
theorem dX7_given_0 : decode cX7_given 0 = .ok (.aload_n 0, 1) := by decide +kernel
theorem dX7_given_1 : decode cX7_given 1 = .ok (.iconst 0, 1) := by decide +kernel
theorem dX7_given_2 : decode cX7_given 2 = .ok (.putfield 90, 3) := by decide +kernel
theorem dX7_given_5 : decode cX7_given 5 = .ok (.aload_n 0, 1) := by decide +kernel
theorem dX7_given_6 : decode cX7_given 6 = .ok (.iload_n 1, 1) := by decide +kernel
theorem dX7_given_7 : decode cX7_given 7 = .ok (.invokevirtual 138, 3) := by decide +kernel
theorem dX7_given_10 : decode cX7_given 10 = .ok (.ifCond .eq 35, 3) := by decide +kernel
theorem dX7_given_13 : decode cX7_given 13 = .ok (.aload_n 0, 1) := by decide +kernel
theorem dX7_given_14 : decode cX7_given 14 = .ok (.iconst 1, 1) := by decide +kernel
theorem dX7_given_15 : decode cX7_given 15 = .ok (.iload_n 2, 1) := by decide +kernel
theorem dX7_given_16 : decode cX7_given 16 = .ok (.invokevirtual 121, 3) := by decide +kernel
theorem dX7_given_19 : decode cX7_given 19 = .ok (.ifCond .eq 26, 3) := by decide +kernel
theorem dX7_given_22 : decode cX7_given 22 = .ok (.aload_n 0, 1) := by decide +kernel
theorem dX7_given_23 : decode cX7_given 23 = .ok (.getfield 37, 3) := by decide +kernel
theorem dX7_given_26 : decode cX7_given 26 = .ok (.iload_n 1, 1) := by decide +kernel
theorem dX7_given_27 : decode cX7_given 27 = .ok (.iaload, 1) := by decide +kernel
theorem dX7_given_28 : decode cX7_given 28 = .ok (.ifCond .le 17, 3) := by decide +kernel
theorem dX7_given_31 : decode cX7_given 31 = .ok (.aload_n 0, 1) := by decide +kernel
theorem dX7_given_32 : decode cX7_given 32 = .ok (.getfield 53, 3) := by decide +kernel
theorem dX7_given_35 : decode cX7_given 35 = .ok (.bipush 8, 2) := by decide +kernel
theorem dX7_given_37 : decode cX7_given 37 = .ok (.iload_n 1, 1) := by decide +kernel
theorem dX7_given_38 : decode cX7_given 38 = .ok (.imul, 1) := by decide +kernel
theorem dX7_given_39 : decode cX7_given 39 = .ok (.iload_n 2, 1) := by decide +kernel
theorem dX7_given_40 : decode cX7_given 40 = .ok (.iadd, 1) := by decide +kernel
theorem dX7_given_41 : decode cX7_given 41 = .ok (.iaload, 1) := by decide +kernel
theorem dX7_given_42 : decode cX7_given 42 = .ok (.goto 4, 3) := by decide +kernel
theorem dX7_given_45 : decode cX7_given 45 = .ok (.iconst (-1), 1) := by decide +kernel
theorem dX7_given_46 : decode cX7_given 46 = .ok (.ireturn, 1) := by decide +kernel
set_option maxRecDepth 20000 in
theorem ggX7_parts_X7_cell : GoodIn wsX7_parts wsX7_cell := goodIn_r _ [8] (by decide +kernel) (by decide +kernel)
set_option maxRecDepth 20000 in
theorem gX7_parts_X7_cell : GoodIn wsX7_parts (va_wsS RX7 134 yX7_cell wsX7_cell) := goodIn_app (goodIn_of _ (by decide +kernel)) ggX7_parts_X7_cell
theorem dX7_parts_0 : decode cX7_parts 0 = .ok (.lconst 0, 1) := by decide +kernel
theorem dX7_parts_1 : decode cX7_parts 1 = .ok (.lstore_n 3, 1) := by decide +kernel
theorem dX7_parts_2 : decode cX7_parts 2 = .ok (.iconst 0, 1) := by decide +kernel
theorem dX7_parts_3 : decode cX7_parts 3 = .ok (.istore 5, 2) := by decide +kernel
theorem dX7_parts_5 : decode cX7_parts 5 = .ok (.iload 5, 2) := by decide +kernel
theorem dX7_parts_7 : decode cX7_parts 7 = .ok (.aload_n 0, 1) := by decide +kernel
theorem dX7_parts_8 : decode cX7_parts 8 = .ok (.getfield 7, 3) := by decide +kernel
theorem dX7_parts_11 : decode cX7_parts 11 = .ok (.iload_n 2, 1) := by decide +kernel
theorem dX7_parts_12 : decode cX7_parts 12 = .ok (.iaload, 1) := by decide +kernel
theorem dX7_parts_13 : decode cX7_parts 13 = .ok (.if_icmp .ge 47, 3) := by decide +kernel
theorem dX7_parts_16 : decode cX7_parts 16 = .ok (.lload_n 3, 1) := by decide +kernel
theorem dX7_parts_17 : decode cX7_parts 17 = .ok (.aload_n 0, 1) := by decide +kernel
theorem dX7_parts_18 : decode cX7_parts 18 = .ok (.getfield 50, 3) := by decide +kernel
theorem dX7_parts_21 : decode cX7_parts 21 = .ok (.iload_n 1, 1) := by decide +kernel
theorem dX7_parts_22 : decode cX7_parts 22 = .ok (.iload_n 2, 1) := by decide +kernel
theorem dX7_parts_23 : decode cX7_parts 23 = .ok (.iload 5, 2) := by decide +kernel
theorem dX7_parts_25 : decode cX7_parts 25 = .ok (.invokestatic 134, 3) := by decide +kernel
theorem dX7_parts_28 : decode cX7_parts 28 = .ok (.iaload, 1) := by decide +kernel
theorem dX7_parts_29 : decode cX7_parts 29 = .ok (.i2l, 1) := by decide +kernel
theorem dX7_parts_30 : decode cX7_parts 30 = .ok (.aload_n 0, 1) := by decide +kernel
theorem dX7_parts_31 : decode cX7_parts 31 = .ok (.getfield 13, 3) := by decide +kernel
theorem dX7_parts_34 : decode cX7_parts 34 = .ok (.bipush 8, 2) := by decide +kernel
theorem dX7_parts_36 : decode cX7_parts 36 = .ok (.iload_n 2, 1) := by decide +kernel
theorem dX7_parts_37 : decode cX7_parts 37 = .ok (.imul, 1) := by decide +kernel
theorem dX7_parts_38 : decode cX7_parts 38 = .ok (.iload 5, 2) := by decide +kernel
theorem dX7_parts_40 : decode cX7_parts 40 = .ok (.iadd, 1) := by decide +kernel
theorem dX7_parts_41 : decode cX7_parts 41 = .ok (.iaload, 1) := by decide +kernel
theorem dX7_parts_42 : decode cX7_parts 42 = .ok (.i2l, 1) := by decide +kernel
theorem dX7_parts_43 : decode cX7_parts 43 = .ok (.lmul, 1) := by decide +kernel
theorem dX7_parts_44 : decode cX7_parts 44 = .ok (.aload_n 0, 1) := by decide +kernel
theorem dX7_parts_45 : decode cX7_parts 45 = .ok (.getfield 16, 3) := by decide +kernel
theorem dX7_parts_48 : decode cX7_parts 48 = .ok (.iload_n 2, 1) := by decide +kernel
theorem dX7_parts_49 : decode cX7_parts 49 = .ok (.iaload, 1) := by decide +kernel
theorem dX7_parts_50 : decode cX7_parts 50 = .ok (.i2l, 1) := by decide +kernel
theorem dX7_parts_51 : decode cX7_parts 51 = .ok (.lmul, 1) := by decide +kernel
theorem dX7_parts_52 : decode cX7_parts 52 = .ok (.ladd, 1) := by decide +kernel
theorem dX7_parts_53 : decode cX7_parts 53 = .ok (.lstore_n 3, 1) := by decide +kernel
theorem dX7_parts_54 : decode cX7_parts 54 = .ok (.iinc 5 1, 3) := by decide +kernel
theorem dX7_parts_57 : decode cX7_parts 57 = .ok (.goto (-52), 3) := by decide +kernel
theorem dX7_parts_60 : decode cX7_parts 60 = .ok (.lload_n 3, 1) := by decide +kernel
theorem dX7_parts_61 : decode cX7_parts 61 = .ok (.lreturn, 1) := by decide +kernel
set_option maxRecDepth 20000 in
theorem ggX7_tell_X7_isTill : GoodIn wsX7_tell wsX7_isTill := goodIn_r _ [11, 12, 13, 14, 10, 15, 27, 28, 29, 30, 31, 32, 33, 34, 35, 36, 37, 38, 39, 40, 41, 42, 43, 44, 45, 46, 47, 48, 49, 50, 51, 52, 53] (by decide +kernel) (by decide +kernel)
set_option maxRecDepth 20000 in
theorem gX7_tell_X7_isTill : GoodIn wsX7_tell (wsV RX7 138 RX7 yX7_isTill wsX7_isTill) := goodIn_app (goodIn_of _ (by decide +kernel)) ggX7_tell_X7_isTill
set_option maxRecDepth 20000 in
theorem ggX7_tell_X7_parts : GoodIn wsX7_tell wsX7_parts := goodIn_r _ [19, 20, 21, 22, 23, 24, 25, 10, 26, 27, 28, 29, 30, 31, 32, 33, 34, 35, 36, 37, 38, 39, 40, 41, 42, 43, 44, 45, 46, 47, 48, 49, 50, 51, 52, 53] (by decide +kernel) (by decide +kernel)
set_option maxRecDepth 20000 in
theorem gX7_tell_X7_parts : GoodIn wsX7_tell (wsV RX7 149 RX7 yX7_parts wsX7_parts) := goodIn_app (goodIn_of _ (by decide +kernel)) ggX7_tell_X7_parts
theorem dX7_tell_0 : decode cX7_tell 0 = .ok (.aload_n 0, 1) := by decide +kernel
theorem dX7_tell_1 : decode cX7_tell 1 = .ok (.iconst 0, 1) := by decide +kernel
theorem dX7_tell_2 : decode cX7_tell 2 = .ok (.putfield 90, 3) := by decide +kernel
theorem dX7_tell_5 : decode cX7_tell 5 = .ok (.aload_n 0, 1) := by decide +kernel
theorem dX7_tell_6 : decode cX7_tell 6 = .ok (.iload_n 1, 1) := by decide +kernel
theorem dX7_tell_7 : decode cX7_tell 7 = .ok (.invokevirtual 138, 3) := by decide +kernel
theorem dX7_tell_10 : decode cX7_tell 10 = .ok (.ifCond .ne 7, 3) := by decide +kernel
theorem dX7_tell_13 : decode cX7_tell 13 = .ok (.ldc2_w 114, 3) := by decide +kernel
theorem dX7_tell_16 : decode cX7_tell 16 = .ok (.lreturn, 1) := by decide +kernel
theorem dX7_tell_17 : decode cX7_tell 17 = .ok (.iload_n 2, 1) := by decide +kernel
theorem dX7_tell_18 : decode cX7_tell 18 = .ok (.tableswitch 89 0 5 #[38, 46, 53, 67, 74, 81], 38) := by decide +kernel
theorem dX7_tell_56 : decode cX7_tell 56 = .ok (.aload_n 0, 1) := by decide +kernel
theorem dX7_tell_57 : decode cX7_tell 57 = .ok (.getfield 37, 3) := by decide +kernel
theorem dX7_tell_60 : decode cX7_tell 60 = .ok (.iload_n 1, 1) := by decide +kernel
theorem dX7_tell_61 : decode cX7_tell 61 = .ok (.iaload, 1) := by decide +kernel
theorem dX7_tell_62 : decode cX7_tell 62 = .ok (.i2l, 1) := by decide +kernel
theorem dX7_tell_63 : decode cX7_tell 63 = .ok (.lreturn, 1) := by decide +kernel
theorem dX7_tell_64 : decode cX7_tell 64 = .ok (.aload_n 0, 1) := by decide +kernel
theorem dX7_tell_65 : decode cX7_tell 65 = .ok (.getfield 40, 3) := by decide +kernel
theorem dX7_tell_68 : decode cX7_tell 68 = .ok (.iload_n 1, 1) := by decide +kernel
theorem dX7_tell_69 : decode cX7_tell 69 = .ok (.laload, 1) := by decide +kernel
theorem dX7_tell_70 : decode cX7_tell 70 = .ok (.lreturn, 1) := by decide +kernel
theorem dX7_tell_71 : decode cX7_tell 71 = .ok (.aload_n 0, 1) := by decide +kernel
theorem dX7_tell_72 : decode cX7_tell 72 = .ok (.iload_n 1, 1) := by decide +kernel
theorem dX7_tell_73 : decode cX7_tell 73 = .ok (.iconst 0, 1) := by decide +kernel
theorem dX7_tell_74 : decode cX7_tell 74 = .ok (.invokevirtual 149, 3) := by decide +kernel
theorem dX7_tell_77 : decode cX7_tell 77 = .ok (.aload_n 0, 1) := by decide +kernel
theorem dX7_tell_78 : decode cX7_tell 78 = .ok (.iload_n 1, 1) := by decide +kernel
theorem dX7_tell_79 : decode cX7_tell 79 = .ok (.iconst 1, 1) := by decide +kernel
theorem dX7_tell_80 : decode cX7_tell 80 = .ok (.invokevirtual 149, 3) := by decide +kernel
theorem dX7_tell_83 : decode cX7_tell 83 = .ok (.ladd, 1) := by decide +kernel
theorem dX7_tell_84 : decode cX7_tell 84 = .ok (.lreturn, 1) := by decide +kernel
theorem dX7_tell_85 : decode cX7_tell 85 = .ok (.aload_n 0, 1) := by decide +kernel
theorem dX7_tell_86 : decode cX7_tell 86 = .ok (.iload_n 1, 1) := by decide +kernel
theorem dX7_tell_87 : decode cX7_tell 87 = .ok (.iconst 0, 1) := by decide +kernel
theorem dX7_tell_88 : decode cX7_tell 88 = .ok (.invokevirtual 149, 3) := by decide +kernel
theorem dX7_tell_91 : decode cX7_tell 91 = .ok (.lreturn, 1) := by decide +kernel
theorem dX7_tell_92 : decode cX7_tell 92 = .ok (.aload_n 0, 1) := by decide +kernel
theorem dX7_tell_93 : decode cX7_tell 93 = .ok (.getfield 44, 3) := by decide +kernel
theorem dX7_tell_96 : decode cX7_tell 96 = .ok (.iload_n 1, 1) := by decide +kernel
theorem dX7_tell_97 : decode cX7_tell 97 = .ok (.laload, 1) := by decide +kernel
theorem dX7_tell_98 : decode cX7_tell 98 = .ok (.lreturn, 1) := by decide +kernel
theorem dX7_tell_99 : decode cX7_tell 99 = .ok (.aload_n 0, 1) := by decide +kernel
theorem dX7_tell_100 : decode cX7_tell 100 = .ok (.getfield 47, 3) := by decide +kernel
theorem dX7_tell_103 : decode cX7_tell 103 = .ok (.iload_n 1, 1) := by decide +kernel
theorem dX7_tell_104 : decode cX7_tell 104 = .ok (.iaload, 1) := by decide +kernel
theorem dX7_tell_105 : decode cX7_tell 105 = .ok (.i2l, 1) := by decide +kernel
theorem dX7_tell_106 : decode cX7_tell 106 = .ok (.lreturn, 1) := by decide +kernel
theorem dX7_tell_107 : decode cX7_tell 107 = .ok (.ldc2_w 114, 3) := by decide +kernel
theorem dX7_tell_110 : decode cX7_tell 110 = .ok (.lreturn, 1) := by decide +kernel
set_option maxRecDepth 20000 in
theorem ggX7_has_X7_isTill : GoodIn wsX7_has wsX7_isTill := goodIn_r _ [7, 8, 9, 10, 6, 11, 20, 21, 22, 23, 24, 25, 26, 27, 28, 29, 30, 31, 32, 33, 34, 35, 36, 37, 38, 39, 40, 41, 42, 43, 44, 45, 46] (by decide +kernel) (by decide +kernel)
set_option maxRecDepth 20000 in
theorem gX7_has_X7_isTill : GoodIn wsX7_has (wsV RX7 138 RX7 yX7_isTill wsX7_isTill) := goodIn_app (goodIn_of _ (by decide +kernel)) ggX7_has_X7_isTill
set_option maxRecDepth 20000 in
theorem ggX7_has_X7_isCoin : GoodIn wsX7_has wsX7_isCoin := goodIn_r _ [15, 16, 9, 10, 6, 11, 20, 21, 22, 23, 24, 25, 26, 27, 28, 29, 30, 31, 32, 33, 34, 35, 36, 37, 38, 39, 40, 41, 42, 43, 44, 45, 46] (by decide +kernel) (by decide +kernel)
set_option maxRecDepth 20000 in
theorem gX7_has_X7_isCoin : GoodIn wsX7_has (wsV RX7 121 RX7 yX7_isCoin wsX7_isCoin) := goodIn_app (goodIn_of _ (by decide +kernel)) ggX7_has_X7_isCoin
set_option maxRecDepth 20000 in
theorem ggX7_has_X7_cell : GoodIn wsX7_has wsX7_cell := goodIn_r _ [19] (by decide +kernel) (by decide +kernel)
set_option maxRecDepth 20000 in
theorem gX7_has_X7_cell : GoodIn wsX7_has (va_wsS RX7 134 yX7_cell wsX7_cell) := goodIn_app (goodIn_of _ (by decide +kernel)) ggX7_has_X7_cell
theorem dX7_has_0 : decode cX7_has 0 = .ok (.aload_n 0, 1) := by decide +kernel
theorem dX7_has_1 : decode cX7_has 1 = .ok (.iconst 0, 1) := by decide +kernel
theorem dX7_has_2 : decode cX7_has 2 = .ok (.putfield 90, 3) := by decide +kernel
theorem dX7_has_5 : decode cX7_has 5 = .ok (.aload_n 0, 1) := by decide +kernel
theorem dX7_has_6 : decode cX7_has 6 = .ok (.iload_n 1, 1) := by decide +kernel
theorem dX7_has_7 : decode cX7_has 7 = .ok (.invokevirtual 138, 3) := by decide +kernel
theorem dX7_has_10 : decode cX7_has 10 = .ok (.ifCond .eq 26, 3) := by decide +kernel
theorem dX7_has_13 : decode cX7_has 13 = .ok (.aload_n 0, 1) := by decide +kernel
theorem dX7_has_14 : decode cX7_has 14 = .ok (.iload_n 2, 1) := by decide +kernel
theorem dX7_has_15 : decode cX7_has 15 = .ok (.iload_n 3, 1) := by decide +kernel
theorem dX7_has_16 : decode cX7_has 16 = .ok (.invokevirtual 121, 3) := by decide +kernel
theorem dX7_has_19 : decode cX7_has 19 = .ok (.ifCond .eq 17, 3) := by decide +kernel
theorem dX7_has_22 : decode cX7_has 22 = .ok (.aload_n 0, 1) := by decide +kernel
theorem dX7_has_23 : decode cX7_has 23 = .ok (.getfield 50, 3) := by decide +kernel
theorem dX7_has_26 : decode cX7_has 26 = .ok (.iload_n 1, 1) := by decide +kernel
theorem dX7_has_27 : decode cX7_has 27 = .ok (.iload_n 2, 1) := by decide +kernel
theorem dX7_has_28 : decode cX7_has 28 = .ok (.iload_n 3, 1) := by decide +kernel
theorem dX7_has_29 : decode cX7_has 29 = .ok (.invokestatic 134, 3) := by decide +kernel
theorem dX7_has_32 : decode cX7_has 32 = .ok (.iaload, 1) := by decide +kernel
theorem dX7_has_33 : decode cX7_has 33 = .ok (.goto 4, 3) := by decide +kernel
theorem dX7_has_36 : decode cX7_has 36 = .ok (.iconst (-1), 1) := by decide +kernel
theorem dX7_has_37 : decode cX7_has 37 = .ok (.ireturn, 1) := by decide +kernel
set_option maxRecDepth 20000 in
theorem ggX7_draw_X7_isTill : GoodIn wsX7_draw wsX7_isTill := goodIn_r _ [9, 10, 11, 12, 8, 13, 24, 25, 26, 27, 28, 29, 30, 31, 32, 33, 34, 35, 36, 37, 38, 39, 40, 41, 42, 43, 44, 45, 46, 47, 48, 49, 50] (by decide +kernel) (by decide +kernel)
set_option maxRecDepth 20000 in
theorem gX7_draw_X7_isTill : GoodIn wsX7_draw (wsV RX7 138 RX7 yX7_isTill wsX7_isTill) := goodIn_app (goodIn_of _ (by decide +kernel)) ggX7_draw_X7_isTill
set_option maxRecDepth 20000 in
theorem ggX7_draw_X7_parts : GoodIn wsX7_draw wsX7_parts := goodIn_r _ [17, 18, 4, 19, 20, 21, 22, 8, 23, 24, 25, 26, 27, 28, 29, 30, 31, 32, 33, 34, 35, 36, 37, 38, 39, 40, 41, 42, 43, 44, 45, 46, 47, 48, 49, 50] (by decide +kernel) (by decide +kernel)
set_option maxRecDepth 20000 in
theorem gX7_draw_X7_parts : GoodIn wsX7_draw (wsV RX7 149 RX7 yX7_parts wsX7_parts) := goodIn_app (goodIn_of _ (by decide +kernel)) ggX7_draw_X7_parts
set_option maxRecDepth 20000 in
theorem ggX7_draw_X7_cell : GoodIn wsX7_draw wsX7_cell := goodIn_r _ [23] (by decide +kernel) (by decide +kernel)
set_option maxRecDepth 20000 in
theorem gX7_draw_X7_cell : GoodIn wsX7_draw (va_wsS RX7 134 yX7_cell wsX7_cell) := goodIn_app (goodIn_of _ (by decide +kernel)) ggX7_draw_X7_cell
theorem dX7_draw_0 : decode cX7_draw 0 = .ok (.aload_n 0, 1) := by decide +kernel
theorem dX7_draw_1 : decode cX7_draw 1 = .ok (.iconst 0, 1) := by decide +kernel
theorem dX7_draw_2 : decode cX7_draw 2 = .ok (.putfield 90, 3) := by decide +kernel
theorem dX7_draw_5 : decode cX7_draw 5 = .ok (.aload_n 0, 1) := by decide +kernel
theorem dX7_draw_6 : decode cX7_draw 6 = .ok (.iload_n 1, 1) := by decide +kernel
theorem dX7_draw_7 : decode cX7_draw 7 = .ok (.invokevirtual 138, 3) := by decide +kernel
theorem dX7_draw_10 : decode cX7_draw 10 = .ok (.ifCond .ne 7, 3) := by decide +kernel
theorem dX7_draw_13 : decode cX7_draw 13 = .ok (.ldc2_w 114, 3) := by decide +kernel
theorem dX7_draw_16 : decode cX7_draw 16 = .ok (.lreturn, 1) := by decide +kernel
theorem dX7_draw_17 : decode cX7_draw 17 = .ok (.aload_n 0, 1) := by decide +kernel
theorem dX7_draw_18 : decode cX7_draw 18 = .ok (.iload_n 1, 1) := by decide +kernel
theorem dX7_draw_19 : decode cX7_draw 19 = .ok (.iconst 0, 1) := by decide +kernel
theorem dX7_draw_20 : decode cX7_draw 20 = .ok (.invokevirtual 149, 3) := by decide +kernel
theorem dX7_draw_23 : decode cX7_draw 23 = .ok (.lstore_n 2, 1) := by decide +kernel
theorem dX7_draw_24 : decode cX7_draw 24 = .ok (.iconst 0, 1) := by decide +kernel
theorem dX7_draw_25 : decode cX7_draw 25 = .ok (.istore 4, 2) := by decide +kernel
theorem dX7_draw_27 : decode cX7_draw 27 = .ok (.iload 4, 2) := by decide +kernel
theorem dX7_draw_29 : decode cX7_draw 29 = .ok (.bipush 8, 2) := by decide +kernel
theorem dX7_draw_31 : decode cX7_draw 31 = .ok (.if_icmp .ge 44, 3) := by decide +kernel
theorem dX7_draw_34 : decode cX7_draw 34 = .ok (.aload_n 0, 1) := by decide +kernel
theorem dX7_draw_35 : decode cX7_draw 35 = .ok (.getfield 56, 3) := by decide +kernel
theorem dX7_draw_38 : decode cX7_draw 38 = .ok (.iload 4, 2) := by decide +kernel
theorem dX7_draw_40 : decode cX7_draw 40 = .ok (.dup2, 1) := by decide +kernel
theorem dX7_draw_41 : decode cX7_draw 41 = .ok (.iaload, 1) := by decide +kernel
theorem dX7_draw_42 : decode cX7_draw 42 = .ok (.aload_n 0, 1) := by decide +kernel
theorem dX7_draw_43 : decode cX7_draw 43 = .ok (.getfield 50, 3) := by decide +kernel
theorem dX7_draw_46 : decode cX7_draw 46 = .ok (.iload_n 1, 1) := by decide +kernel
theorem dX7_draw_47 : decode cX7_draw 47 = .ok (.iconst 0, 1) := by decide +kernel
theorem dX7_draw_48 : decode cX7_draw 48 = .ok (.iload 4, 2) := by decide +kernel
theorem dX7_draw_50 : decode cX7_draw 50 = .ok (.invokestatic 134, 3) := by decide +kernel
theorem dX7_draw_53 : decode cX7_draw 53 = .ok (.iaload, 1) := by decide +kernel
theorem dX7_draw_54 : decode cX7_draw 54 = .ok (.iadd, 1) := by decide +kernel
theorem dX7_draw_55 : decode cX7_draw 55 = .ok (.iastore, 1) := by decide +kernel
theorem dX7_draw_56 : decode cX7_draw 56 = .ok (.aload_n 0, 1) := by decide +kernel
theorem dX7_draw_57 : decode cX7_draw 57 = .ok (.getfield 50, 3) := by decide +kernel
theorem dX7_draw_60 : decode cX7_draw 60 = .ok (.iload_n 1, 1) := by decide +kernel
theorem dX7_draw_61 : decode cX7_draw 61 = .ok (.iconst 0, 1) := by decide +kernel
theorem dX7_draw_62 : decode cX7_draw 62 = .ok (.iload 4, 2) := by decide +kernel
theorem dX7_draw_64 : decode cX7_draw 64 = .ok (.invokestatic 134, 3) := by decide +kernel
theorem dX7_draw_67 : decode cX7_draw 67 = .ok (.iconst 0, 1) := by decide +kernel
theorem dX7_draw_68 : decode cX7_draw 68 = .ok (.iastore, 1) := by decide +kernel
theorem dX7_draw_69 : decode cX7_draw 69 = .ok (.iinc 4 1, 3) := by decide +kernel
theorem dX7_draw_72 : decode cX7_draw 72 = .ok (.goto (-45), 3) := by decide +kernel
theorem dX7_draw_75 : decode cX7_draw 75 = .ok (.lload_n 2, 1) := by decide +kernel
theorem dX7_draw_76 : decode cX7_draw 76 = .ok (.lreturn, 1) := by decide +kernel
set_option maxRecDepth 20000 in
theorem ggX7_drawn_X7_isCoin : GoodIn wsX7_drawn wsX7_isCoin := goodIn_r _ [7, 8, 9, 10, 6, 11, 12, 13, 14, 15, 16, 17, 18, 19, 20, 21, 22, 23, 24, 25, 26, 27, 28, 29, 30, 31, 32, 33, 34, 35, 36, 37, 38] (by decide +kernel) (by decide +kernel)
set_option maxRecDepth 20000 in
theorem gX7_drawn_X7_isCoin : GoodIn wsX7_drawn (wsV RX7 121 RX7 yX7_isCoin wsX7_isCoin) := goodIn_app (goodIn_of _ (by decide +kernel)) ggX7_drawn_X7_isCoin
theorem dX7_drawn_0 : decode cX7_drawn 0 = .ok (.aload_n 0, 1) := by decide +kernel
theorem dX7_drawn_1 : decode cX7_drawn 1 = .ok (.iconst 0, 1) := by decide +kernel
theorem dX7_drawn_2 : decode cX7_drawn 2 = .ok (.putfield 90, 3) := by decide +kernel
theorem dX7_drawn_5 : decode cX7_drawn 5 = .ok (.aload_n 0, 1) := by decide +kernel
theorem dX7_drawn_6 : decode cX7_drawn 6 = .ok (.iconst 0, 1) := by decide +kernel
theorem dX7_drawn_7 : decode cX7_drawn 7 = .ok (.iload_n 1, 1) := by decide +kernel
theorem dX7_drawn_8 : decode cX7_drawn 8 = .ok (.invokevirtual 121, 3) := by decide +kernel
theorem dX7_drawn_11 : decode cX7_drawn 11 = .ok (.ifCond .eq 12, 3) := by decide +kernel
theorem dX7_drawn_14 : decode cX7_drawn 14 = .ok (.aload_n 0, 1) := by decide +kernel
theorem dX7_drawn_15 : decode cX7_drawn 15 = .ok (.getfield 56, 3) := by decide +kernel
theorem dX7_drawn_18 : decode cX7_drawn 18 = .ok (.iload_n 1, 1) := by decide +kernel
theorem dX7_drawn_19 : decode cX7_drawn 19 = .ok (.iaload, 1) := by decide +kernel
theorem dX7_drawn_20 : decode cX7_drawn 20 = .ok (.goto 4, 3) := by decide +kernel
theorem dX7_drawn_23 : decode cX7_drawn 23 = .ok (.iconst (-1), 1) := by decide +kernel
theorem dX7_drawn_24 : decode cX7_drawn 24 = .ok (.ireturn, 1) := by decide +kernel
set_option maxRecDepth 20000 in
theorem ggX7_expect_X7_isSale : GoodIn wsX7_expect wsX7_isSale := goodIn_r _ [8, 9, 10, 11, 7, 12, 13, 14, 15, 16, 17, 18, 19, 20, 21, 22, 23, 24, 25, 26, 27, 28, 29, 30, 31, 32, 33, 34, 35, 36, 37, 38, 39, 40, 41, 42, 43, 44, 45, 46, 47, 48] (by decide +kernel) (by decide +kernel)
set_option maxRecDepth 20000 in
theorem gX7_expect_X7_isSale : GoodIn wsX7_expect (wsV RX7 141 RX7 yX7_isSale wsX7_isSale) := goodIn_app (goodIn_of _ (by decide +kernel)) ggX7_expect_X7_isSale
theorem dX7_expect_0 : decode cX7_expect 0 = .ok (.aload_n 0, 1) := by decide +kernel
theorem dX7_expect_1 : decode cX7_expect 1 = .ok (.iconst 0, 1) := by decide +kernel
theorem dX7_expect_2 : decode cX7_expect 2 = .ok (.putfield 90, 3) := by decide +kernel
theorem dX7_expect_5 : decode cX7_expect 5 = .ok (.aload_n 0, 1) := by decide +kernel
theorem dX7_expect_6 : decode cX7_expect 6 = .ok (.iload_n 1, 1) := by decide +kernel
theorem dX7_expect_7 : decode cX7_expect 7 = .ok (.iload_n 2, 1) := by decide +kernel
theorem dX7_expect_8 : decode cX7_expect 8 = .ok (.iload_n 3, 1) := by decide +kernel
theorem dX7_expect_9 : decode cX7_expect 9 = .ok (.iload 4, 2) := by decide +kernel
theorem dX7_expect_11 : decode cX7_expect 11 = .ok (.iload 5, 2) := by decide +kernel
theorem dX7_expect_13 : decode cX7_expect 13 = .ok (.invokevirtual 141, 3) := by decide +kernel
theorem dX7_expect_16 : decode cX7_expect 16 = .ok (.ifCond .eq 14, 3) := by decide +kernel
theorem dX7_expect_19 : decode cX7_expect 19 = .ok (.aload_n 0, 1) := by decide +kernel
theorem dX7_expect_20 : decode cX7_expect 20 = .ok (.getfield 47, 3) := by decide +kernel
theorem dX7_expect_23 : decode cX7_expect 23 = .ok (.iload_n 1, 1) := by decide +kernel
theorem dX7_expect_24 : decode cX7_expect 24 = .ok (.iaload, 1) := by decide +kernel
theorem dX7_expect_25 : decode cX7_expect 25 = .ok (.bipush 20, 2) := by decide +kernel
theorem dX7_expect_27 : decode cX7_expect 27 = .ok (.if_icmp .ne 5, 3) := by decide +kernel
theorem dX7_expect_30 : decode cX7_expect 30 = .ok (.iconst (-1), 1) := by decide +kernel
theorem dX7_expect_31 : decode cX7_expect 31 = .ok (.ireturn, 1) := by decide +kernel
theorem dX7_expect_32 : decode cX7_expect 32 = .ok (.iconst 4, 1) := by decide +kernel
theorem dX7_expect_33 : decode cX7_expect 33 = .ok (.bipush 20, 2) := by decide +kernel
theorem dX7_expect_35 : decode cX7_expect 35 = .ok (.iload_n 1, 1) := by decide +kernel
theorem dX7_expect_36 : decode cX7_expect 36 = .ok (.imul, 1) := by decide +kernel
theorem dX7_expect_37 : decode cX7_expect 37 = .ok (.aload_n 0, 1) := by decide +kernel
theorem dX7_expect_38 : decode cX7_expect 38 = .ok (.getfield 47, 3) := by decide +kernel
theorem dX7_expect_41 : decode cX7_expect 41 = .ok (.iload_n 1, 1) := by decide +kernel
theorem dX7_expect_42 : decode cX7_expect 42 = .ok (.iaload, 1) := by decide +kernel
theorem dX7_expect_43 : decode cX7_expect 43 = .ok (.iadd, 1) := by decide +kernel
theorem dX7_expect_44 : decode cX7_expect 44 = .ok (.imul, 1) := by decide +kernel
theorem dX7_expect_45 : decode cX7_expect 45 = .ok (.istore 6, 2) := by decide +kernel
theorem dX7_expect_47 : decode cX7_expect 47 = .ok (.aload_n 0, 1) := by decide +kernel
theorem dX7_expect_48 : decode cX7_expect 48 = .ok (.getfield 59, 3) := by decide +kernel
theorem dX7_expect_51 : decode cX7_expect 51 = .ok (.iload 6, 2) := by decide +kernel
theorem dX7_expect_53 : decode cX7_expect 53 = .ok (.iload_n 2, 1) := by decide +kernel
theorem dX7_expect_54 : decode cX7_expect 54 = .ok (.iastore, 1) := by decide +kernel
theorem dX7_expect_55 : decode cX7_expect 55 = .ok (.aload_n 0, 1) := by decide +kernel
theorem dX7_expect_56 : decode cX7_expect 56 = .ok (.getfield 59, 3) := by decide +kernel
theorem dX7_expect_59 : decode cX7_expect 59 = .ok (.iload 6, 2) := by decide +kernel
theorem dX7_expect_61 : decode cX7_expect 61 = .ok (.iconst 1, 1) := by decide +kernel
theorem dX7_expect_62 : decode cX7_expect 62 = .ok (.iadd, 1) := by decide +kernel
theorem dX7_expect_63 : decode cX7_expect 63 = .ok (.iload_n 3, 1) := by decide +kernel
theorem dX7_expect_64 : decode cX7_expect 64 = .ok (.iastore, 1) := by decide +kernel
theorem dX7_expect_65 : decode cX7_expect 65 = .ok (.aload_n 0, 1) := by decide +kernel
theorem dX7_expect_66 : decode cX7_expect 66 = .ok (.getfield 59, 3) := by decide +kernel
theorem dX7_expect_69 : decode cX7_expect 69 = .ok (.iload 6, 2) := by decide +kernel
theorem dX7_expect_71 : decode cX7_expect 71 = .ok (.iconst 2, 1) := by decide +kernel
theorem dX7_expect_72 : decode cX7_expect 72 = .ok (.iadd, 1) := by decide +kernel
theorem dX7_expect_73 : decode cX7_expect 73 = .ok (.iload 4, 2) := by decide +kernel
theorem dX7_expect_75 : decode cX7_expect 75 = .ok (.iastore, 1) := by decide +kernel
theorem dX7_expect_76 : decode cX7_expect 76 = .ok (.aload_n 0, 1) := by decide +kernel
theorem dX7_expect_77 : decode cX7_expect 77 = .ok (.getfield 59, 3) := by decide +kernel
theorem dX7_expect_80 : decode cX7_expect 80 = .ok (.iload 6, 2) := by decide +kernel
theorem dX7_expect_82 : decode cX7_expect 82 = .ok (.iconst 3, 1) := by decide +kernel
theorem dX7_expect_83 : decode cX7_expect 83 = .ok (.iadd, 1) := by decide +kernel
theorem dX7_expect_84 : decode cX7_expect 84 = .ok (.iload 5, 2) := by decide +kernel
theorem dX7_expect_86 : decode cX7_expect 86 = .ok (.iastore, 1) := by decide +kernel
theorem dX7_expect_87 : decode cX7_expect 87 = .ok (.aload_n 0, 1) := by decide +kernel
theorem dX7_expect_88 : decode cX7_expect 88 = .ok (.getfield 47, 3) := by decide +kernel
theorem dX7_expect_91 : decode cX7_expect 91 = .ok (.iload_n 1, 1) := by decide +kernel
theorem dX7_expect_92 : decode cX7_expect 92 = .ok (.dup2, 1) := by decide +kernel
theorem dX7_expect_93 : decode cX7_expect 93 = .ok (.iaload, 1) := by decide +kernel
theorem dX7_expect_94 : decode cX7_expect 94 = .ok (.iconst 1, 1) := by decide +kernel
theorem dX7_expect_95 : decode cX7_expect 95 = .ok (.iadd, 1) := by decide +kernel
theorem dX7_expect_96 : decode cX7_expect 96 = .ok (.iastore, 1) := by decide +kernel
theorem dX7_expect_97 : decode cX7_expect 97 = .ok (.aload_n 0, 1) := by decide +kernel
theorem dX7_expect_98 : decode cX7_expect 98 = .ok (.getfield 47, 3) := by decide +kernel
theorem dX7_expect_101 : decode cX7_expect 101 = .ok (.iload_n 1, 1) := by decide +kernel
theorem dX7_expect_102 : decode cX7_expect 102 = .ok (.iaload, 1) := by decide +kernel
theorem dX7_expect_103 : decode cX7_expect 103 = .ok (.ireturn, 1) := by decide +kernel
set_option maxRecDepth 20000 in
theorem ggX7_forget_X7_isTill : GoodIn wsX7_forget wsX7_isTill := goodIn_r _ [7, 8, 9, 10, 6, 11, 12, 13, 14, 15, 16, 17, 18, 19, 20, 21, 22, 23, 24, 25, 26, 27, 28, 29, 30, 31, 32, 33, 34, 35, 36, 37, 38] (by decide +kernel) (by decide +kernel)
set_option maxRecDepth 20000 in
theorem gX7_forget_X7_isTill : GoodIn wsX7_forget (wsV RX7 138 RX7 yX7_isTill wsX7_isTill) := goodIn_app (goodIn_of _ (by decide +kernel)) ggX7_forget_X7_isTill
theorem dX7_forget_0 : decode cX7_forget 0 = .ok (.aload_n 0, 1) := by decide +kernel
theorem dX7_forget_1 : decode cX7_forget 1 = .ok (.iconst 0, 1) := by decide +kernel
theorem dX7_forget_2 : decode cX7_forget 2 = .ok (.putfield 90, 3) := by decide +kernel
theorem dX7_forget_5 : decode cX7_forget 5 = .ok (.aload_n 0, 1) := by decide +kernel
theorem dX7_forget_6 : decode cX7_forget 6 = .ok (.iload_n 1, 1) := by decide +kernel
theorem dX7_forget_7 : decode cX7_forget 7 = .ok (.invokevirtual 138, 3) := by decide +kernel
theorem dX7_forget_10 : decode cX7_forget 10 = .ok (.ifCond .ne 5, 3) := by decide +kernel
theorem dX7_forget_13 : decode cX7_forget 13 = .ok (.iconst 0, 1) := by decide +kernel
theorem dX7_forget_14 : decode cX7_forget 14 = .ok (.ireturn, 1) := by decide +kernel
theorem dX7_forget_15 : decode cX7_forget 15 = .ok (.aload_n 0, 1) := by decide +kernel
theorem dX7_forget_16 : decode cX7_forget 16 = .ok (.getfield 47, 3) := by decide +kernel
theorem dX7_forget_19 : decode cX7_forget 19 = .ok (.iload_n 1, 1) := by decide +kernel
theorem dX7_forget_20 : decode cX7_forget 20 = .ok (.iconst 0, 1) := by decide +kernel
theorem dX7_forget_21 : decode cX7_forget 21 = .ok (.iastore, 1) := by decide +kernel
theorem dX7_forget_22 : decode cX7_forget 22 = .ok (.iconst 1, 1) := by decide +kernel
theorem dX7_forget_23 : decode cX7_forget 23 = .ok (.ireturn, 1) := by decide +kernel
set_option maxRecDepth 20000 in
theorem ggX7_findWanted_X7_over : GoodIn wsX7_findWanted wsX7_over := goodIn_r _ [12, 13, 5, 30, 31, 32, 33, 34, 35, 36, 37, 38, 39, 40, 41, 42, 43, 44, 45, 46, 47, 48, 49, 50, 51, 52, 53, 54, 55, 56] (by decide +kernel) (by decide +kernel)
set_option maxRecDepth 20000 in
theorem gX7_findWanted_X7_over : GoodIn wsX7_findWanted (wsV RX7 145 RX7 yX7_over wsX7_over) := goodIn_app (goodIn_of _ (by decide +kernel)) ggX7_findWanted_X7_over
set_option maxRecDepth 20000 in
theorem ggX7_findWanted_X7_noBounds : GoodIn wsX7_findWanted wsX7_noBounds := goodIn_r _ [17, 18, 30, 31, 32, 33, 34, 35, 36, 37, 38, 39, 40, 41, 42, 43, 44, 45, 46, 47, 48, 49, 50, 51, 52, 53, 54, 55, 56] (by decide +kernel) (by decide +kernel)
set_option maxRecDepth 20000 in
theorem gX7_findWanted_X7_noBounds : GoodIn wsX7_findWanted (wsV RX7 125 RX7 yX7_noBounds wsX7_noBounds) := goodIn_app (goodIn_of _ (by decide +kernel)) ggX7_findWanted_X7_noBounds
set_option maxRecDepth 20000 in
theorem ggX7_findWanted_X7_find : GoodIn wsX7_findWanted wsX7_find := goodIn_r _ [22, 6, 23, 24, 13, 25, 18, 7, 26, 27, 28, 11, 29, 30, 31, 32, 33, 34, 35, 36, 37, 38, 39, 40, 41, 42, 43, 44, 45, 46, 47, 48, 49, 50, 51, 52, 53, 54, 55, 56] (by decide +kernel) (by decide +kernel)
set_option maxRecDepth 20000 in
theorem gX7_findWanted_X7_find : GoodIn wsX7_findWanted (wsV RX7 128 RX7 yX7_find wsX7_find) := goodIn_app (goodIn_of _ (by decide +kernel)) ggX7_findWanted_X7_find
theorem dX7_findWanted_0 : decode cX7_findWanted 0 = .ok (.iconst 0, 1) := by decide +kernel
theorem dX7_findWanted_1 : decode cX7_findWanted 1 = .ok (.istore_n 2, 1) := by decide +kernel
theorem dX7_findWanted_2 : decode cX7_findWanted 2 = .ok (.iload_n 2, 1) := by decide +kernel
theorem dX7_findWanted_3 : decode cX7_findWanted 3 = .ok (.bipush 8, 2) := by decide +kernel
theorem dX7_findWanted_5 : decode cX7_findWanted 5 = .ok (.if_icmp .ge 23, 3) := by decide +kernel
theorem dX7_findWanted_8 : decode cX7_findWanted 8 = .ok (.aload_n 0, 1) := by decide +kernel
theorem dX7_findWanted_9 : decode cX7_findWanted 9 = .ok (.getfield 80, 3) := by decide +kernel
theorem dX7_findWanted_12 : decode cX7_findWanted 12 = .ok (.iload_n 2, 1) := by decide +kernel
theorem dX7_findWanted_13 : decode cX7_findWanted 13 = .ok (.iconst 0, 1) := by decide +kernel
theorem dX7_findWanted_14 : decode cX7_findWanted 14 = .ok (.iastore, 1) := by decide +kernel
theorem dX7_findWanted_15 : decode cX7_findWanted 15 = .ok (.aload_n 0, 1) := by decide +kernel
theorem dX7_findWanted_16 : decode cX7_findWanted 16 = .ok (.getfield 83, 3) := by decide +kernel
theorem dX7_findWanted_19 : decode cX7_findWanted 19 = .ok (.iload_n 2, 1) := by decide +kernel
theorem dX7_findWanted_20 : decode cX7_findWanted 20 = .ok (.iconst 0, 1) := by decide +kernel
theorem dX7_findWanted_21 : decode cX7_findWanted 21 = .ok (.iastore, 1) := by decide +kernel
theorem dX7_findWanted_22 : decode cX7_findWanted 22 = .ok (.iinc 2 1, 3) := by decide +kernel
theorem dX7_findWanted_25 : decode cX7_findWanted 25 = .ok (.goto (-23), 3) := by decide +kernel
theorem dX7_findWanted_28 : decode cX7_findWanted 28 = .ok (.iconst 0, 1) := by decide +kernel
theorem dX7_findWanted_29 : decode cX7_findWanted 29 = .ok (.istore_n 2, 1) := by decide +kernel
theorem dX7_findWanted_30 : decode cX7_findWanted 30 = .ok (.iload_n 2, 1) := by decide +kernel
theorem dX7_findWanted_31 : decode cX7_findWanted 31 = .ok (.aload_n 0, 1) := by decide +kernel
theorem dX7_findWanted_32 : decode cX7_findWanted 32 = .ok (.getfield 47, 3) := by decide +kernel
theorem dX7_findWanted_35 : decode cX7_findWanted 35 = .ok (.iload_n 1, 1) := by decide +kernel
theorem dX7_findWanted_36 : decode cX7_findWanted 36 = .ok (.iaload, 1) := by decide +kernel
theorem dX7_findWanted_37 : decode cX7_findWanted 37 = .ok (.if_icmp .ge 223, 3) := by decide +kernel
theorem dX7_findWanted_40 : decode cX7_findWanted 40 = .ok (.iconst 4, 1) := by decide +kernel
theorem dX7_findWanted_41 : decode cX7_findWanted 41 = .ok (.bipush 20, 2) := by decide +kernel
theorem dX7_findWanted_43 : decode cX7_findWanted 43 = .ok (.iload_n 1, 1) := by decide +kernel
theorem dX7_findWanted_44 : decode cX7_findWanted 44 = .ok (.imul, 1) := by decide +kernel
theorem dX7_findWanted_45 : decode cX7_findWanted 45 = .ok (.iload_n 2, 1) := by decide +kernel
theorem dX7_findWanted_46 : decode cX7_findWanted 46 = .ok (.iadd, 1) := by decide +kernel
theorem dX7_findWanted_47 : decode cX7_findWanted 47 = .ok (.imul, 1) := by decide +kernel
theorem dX7_findWanted_48 : decode cX7_findWanted 48 = .ok (.istore_n 3, 1) := by decide +kernel
theorem dX7_findWanted_49 : decode cX7_findWanted 49 = .ok (.aload_n 0, 1) := by decide +kernel
theorem dX7_findWanted_50 : decode cX7_findWanted 50 = .ok (.aload_n 0, 1) := by decide +kernel
theorem dX7_findWanted_51 : decode cX7_findWanted 51 = .ok (.getfield 59, 3) := by decide +kernel
theorem dX7_findWanted_54 : decode cX7_findWanted 54 = .ok (.iload_n 3, 1) := by decide +kernel
theorem dX7_findWanted_55 : decode cX7_findWanted 55 = .ok (.iaload, 1) := by decide +kernel
theorem dX7_findWanted_56 : decode cX7_findWanted 56 = .ok (.aload_n 0, 1) := by decide +kernel
theorem dX7_findWanted_57 : decode cX7_findWanted 57 = .ok (.getfield 59, 3) := by decide +kernel
theorem dX7_findWanted_60 : decode cX7_findWanted 60 = .ok (.iload_n 3, 1) := by decide +kernel
theorem dX7_findWanted_61 : decode cX7_findWanted 61 = .ok (.iconst 1, 1) := by decide +kernel
theorem dX7_findWanted_62 : decode cX7_findWanted 62 = .ok (.iadd, 1) := by decide +kernel
theorem dX7_findWanted_63 : decode cX7_findWanted 63 = .ok (.iaload, 1) := by decide +kernel
theorem dX7_findWanted_64 : decode cX7_findWanted 64 = .ok (.aload_n 0, 1) := by decide +kernel
theorem dX7_findWanted_65 : decode cX7_findWanted 65 = .ok (.getfield 59, 3) := by decide +kernel
theorem dX7_findWanted_68 : decode cX7_findWanted 68 = .ok (.iload_n 3, 1) := by decide +kernel
theorem dX7_findWanted_69 : decode cX7_findWanted 69 = .ok (.iconst 2, 1) := by decide +kernel
theorem dX7_findWanted_70 : decode cX7_findWanted 70 = .ok (.iadd, 1) := by decide +kernel
theorem dX7_findWanted_71 : decode cX7_findWanted 71 = .ok (.iaload, 1) := by decide +kernel
theorem dX7_findWanted_72 : decode cX7_findWanted 72 = .ok (.aload_n 0, 1) := by decide +kernel
theorem dX7_findWanted_73 : decode cX7_findWanted 73 = .ok (.getfield 59, 3) := by decide +kernel
theorem dX7_findWanted_76 : decode cX7_findWanted 76 = .ok (.iload_n 3, 1) := by decide +kernel
theorem dX7_findWanted_77 : decode cX7_findWanted 77 = .ok (.iconst 3, 1) := by decide +kernel
theorem dX7_findWanted_78 : decode cX7_findWanted 78 = .ok (.iadd, 1) := by decide +kernel
theorem dX7_findWanted_79 : decode cX7_findWanted 79 = .ok (.iaload, 1) := by decide +kernel
theorem dX7_findWanted_80 : decode cX7_findWanted 80 = .ok (.invokevirtual 145, 3) := by decide +kernel
theorem dX7_findWanted_83 : decode cX7_findWanted 83 = .ok (.istore 4, 2) := by decide +kernel
theorem dX7_findWanted_85 : decode cX7_findWanted 85 = .ok (.iload 4, 2) := by decide +kernel
theorem dX7_findWanted_87 : decode cX7_findWanted 87 = .ok (.aload_n 0, 1) := by decide +kernel
theorem dX7_findWanted_88 : decode cX7_findWanted 88 = .ok (.getfield 16, 3) := by decide +kernel
theorem dX7_findWanted_91 : decode cX7_findWanted 91 = .ok (.iconst 1, 1) := by decide +kernel
theorem dX7_findWanted_92 : decode cX7_findWanted 92 = .ok (.iaload, 1) := by decide +kernel
theorem dX7_findWanted_93 : decode cX7_findWanted 93 = .ok (.idiv, 1) := by decide +kernel
theorem dX7_findWanted_94 : decode cX7_findWanted 94 = .ok (.istore 5, 2) := by decide +kernel
theorem dX7_findWanted_96 : decode cX7_findWanted 96 = .ok (.iload 4, 2) := by decide +kernel
theorem dX7_findWanted_98 : decode cX7_findWanted 98 = .ok (.ifCond .lt 11, 3) := by decide +kernel
theorem dX7_findWanted_101 : decode cX7_findWanted 101 = .ok (.iload 5, 2) := by decide +kernel
theorem dX7_findWanted_103 : decode cX7_findWanted 103 = .ok (.sipush 2000, 3) := by decide +kernel
theorem dX7_findWanted_106 : decode cX7_findWanted 106 = .ok (.if_icmp .le 5, 3) := by decide +kernel
theorem dX7_findWanted_109 : decode cX7_findWanted 109 = .ok (.iconst 0, 1) := by decide +kernel
theorem dX7_findWanted_110 : decode cX7_findWanted 110 = .ok (.ireturn, 1) := by decide +kernel
theorem dX7_findWanted_111 : decode cX7_findWanted 111 = .ok (.aload_n 0, 1) := by decide +kernel
theorem dX7_findWanted_112 : decode cX7_findWanted 112 = .ok (.invokevirtual 125, 3) := by decide +kernel
theorem dX7_findWanted_115 : decode cX7_findWanted 115 = .ok (.aload_n 0, 1) := by decide +kernel
theorem dX7_findWanted_116 : decode cX7_findWanted 116 = .ok (.iconst 1, 1) := by decide +kernel
theorem dX7_findWanted_117 : decode cX7_findWanted 117 = .ok (.iload 5, 2) := by decide +kernel
theorem dX7_findWanted_119 : decode cX7_findWanted 119 = .ok (.invokevirtual 128, 3) := by decide +kernel
theorem dX7_findWanted_122 : decode cX7_findWanted 122 = .ok (.iconst (-1), 1) := by decide +kernel
theorem dX7_findWanted_123 : decode cX7_findWanted 123 = .ok (.if_icmp .ne 5, 3) := by decide +kernel
theorem dX7_findWanted_126 : decode cX7_findWanted 126 = .ok (.iconst 0, 1) := by decide +kernel
theorem dX7_findWanted_127 : decode cX7_findWanted 127 = .ok (.ireturn, 1) := by decide +kernel
theorem dX7_findWanted_128 : decode cX7_findWanted 128 = .ok (.aload_n 0, 1) := by decide +kernel
theorem dX7_findWanted_129 : decode cX7_findWanted 129 = .ok (.getfield 59, 3) := by decide +kernel
theorem dX7_findWanted_132 : decode cX7_findWanted 132 = .ok (.iload_n 3, 1) := by decide +kernel
theorem dX7_findWanted_133 : decode cX7_findWanted 133 = .ok (.iconst 1, 1) := by decide +kernel
theorem dX7_findWanted_134 : decode cX7_findWanted 134 = .ok (.iadd, 1) := by decide +kernel
theorem dX7_findWanted_135 : decode cX7_findWanted 135 = .ok (.iaload, 1) := by decide +kernel
theorem dX7_findWanted_136 : decode cX7_findWanted 136 = .ok (.iconst 1, 1) := by decide +kernel
theorem dX7_findWanted_137 : decode cX7_findWanted 137 = .ok (.if_icmp .ne 27, 3) := by decide +kernel
theorem dX7_findWanted_140 : decode cX7_findWanted 140 = .ok (.aload_n 0, 1) := by decide +kernel
theorem dX7_findWanted_141 : decode cX7_findWanted 141 = .ok (.getfield 80, 3) := by decide +kernel
theorem dX7_findWanted_144 : decode cX7_findWanted 144 = .ok (.aload_n 0, 1) := by decide +kernel
theorem dX7_findWanted_145 : decode cX7_findWanted 145 = .ok (.getfield 59, 3) := by decide +kernel
theorem dX7_findWanted_148 : decode cX7_findWanted 148 = .ok (.iload_n 3, 1) := by decide +kernel
theorem dX7_findWanted_149 : decode cX7_findWanted 149 = .ok (.iconst 2, 1) := by decide +kernel
theorem dX7_findWanted_150 : decode cX7_findWanted 150 = .ok (.iadd, 1) := by decide +kernel
theorem dX7_findWanted_151 : decode cX7_findWanted 151 = .ok (.iaload, 1) := by decide +kernel
theorem dX7_findWanted_152 : decode cX7_findWanted 152 = .ok (.dup2, 1) := by decide +kernel
theorem dX7_findWanted_153 : decode cX7_findWanted 153 = .ok (.iaload, 1) := by decide +kernel
theorem dX7_findWanted_154 : decode cX7_findWanted 154 = .ok (.aload_n 0, 1) := by decide +kernel
theorem dX7_findWanted_155 : decode cX7_findWanted 155 = .ok (.getfield 59, 3) := by decide +kernel
theorem dX7_findWanted_158 : decode cX7_findWanted 158 = .ok (.iload_n 3, 1) := by decide +kernel
theorem dX7_findWanted_159 : decode cX7_findWanted 159 = .ok (.iconst 3, 1) := by decide +kernel
theorem dX7_findWanted_160 : decode cX7_findWanted 160 = .ok (.iadd, 1) := by decide +kernel
theorem dX7_findWanted_161 : decode cX7_findWanted 161 = .ok (.iaload, 1) := by decide +kernel
theorem dX7_findWanted_162 : decode cX7_findWanted 162 = .ok (.iadd, 1) := by decide +kernel
theorem dX7_findWanted_163 : decode cX7_findWanted 163 = .ok (.iastore, 1) := by decide +kernel
theorem dX7_findWanted_164 : decode cX7_findWanted 164 = .ok (.iconst 0, 1) := by decide +kernel
theorem dX7_findWanted_165 : decode cX7_findWanted 165 = .ok (.istore 6, 2) := by decide +kernel
theorem dX7_findWanted_167 : decode cX7_findWanted 167 = .ok (.iload 6, 2) := by decide +kernel
theorem dX7_findWanted_169 : decode cX7_findWanted 169 = .ok (.aload_n 0, 1) := by decide +kernel
theorem dX7_findWanted_170 : decode cX7_findWanted 170 = .ok (.getfield 7, 3) := by decide +kernel
theorem dX7_findWanted_173 : decode cX7_findWanted 173 = .ok (.iconst 1, 1) := by decide +kernel
theorem dX7_findWanted_174 : decode cX7_findWanted 174 = .ok (.iaload, 1) := by decide +kernel
theorem dX7_findWanted_175 : decode cX7_findWanted 175 = .ok (.if_icmp .ge 79, 3) := by decide +kernel
theorem dX7_findWanted_178 : decode cX7_findWanted 178 = .ok (.aload_n 0, 1) := by decide +kernel
theorem dX7_findWanted_179 : decode cX7_findWanted 179 = .ok (.getfield 71, 3) := by decide +kernel
theorem dX7_findWanted_182 : decode cX7_findWanted 182 = .ok (.iload 6, 2) := by decide +kernel
theorem dX7_findWanted_184 : decode cX7_findWanted 184 = .ok (.iaload, 1) := by decide +kernel
theorem dX7_findWanted_185 : decode cX7_findWanted 185 = .ok (.aload_n 0, 1) := by decide +kernel
theorem dX7_findWanted_186 : decode cX7_findWanted 186 = .ok (.getfield 80, 3) := by decide +kernel
theorem dX7_findWanted_189 : decode cX7_findWanted 189 = .ok (.iload 6, 2) := by decide +kernel
theorem dX7_findWanted_191 : decode cX7_findWanted 191 = .ok (.iaload, 1) := by decide +kernel
theorem dX7_findWanted_192 : decode cX7_findWanted 192 = .ok (.if_icmp .le 21, 3) := by decide +kernel
theorem dX7_findWanted_195 : decode cX7_findWanted 195 = .ok (.aload_n 0, 1) := by decide +kernel
theorem dX7_findWanted_196 : decode cX7_findWanted 196 = .ok (.getfield 71, 3) := by decide +kernel
theorem dX7_findWanted_199 : decode cX7_findWanted 199 = .ok (.iload 6, 2) := by decide +kernel
theorem dX7_findWanted_201 : decode cX7_findWanted 201 = .ok (.iaload, 1) := by decide +kernel
theorem dX7_findWanted_202 : decode cX7_findWanted 202 = .ok (.aload_n 0, 1) := by decide +kernel
theorem dX7_findWanted_203 : decode cX7_findWanted 203 = .ok (.getfield 80, 3) := by decide +kernel
theorem dX7_findWanted_206 : decode cX7_findWanted 206 = .ok (.iload 6, 2) := by decide +kernel
theorem dX7_findWanted_208 : decode cX7_findWanted 208 = .ok (.iaload, 1) := by decide +kernel
theorem dX7_findWanted_209 : decode cX7_findWanted 209 = .ok (.isub, 1) := by decide +kernel
theorem dX7_findWanted_210 : decode cX7_findWanted 210 = .ok (.goto 4, 3) := by decide +kernel
theorem dX7_findWanted_213 : decode cX7_findWanted 213 = .ok (.iconst 0, 1) := by decide +kernel
theorem dX7_findWanted_214 : decode cX7_findWanted 214 = .ok (.istore 7, 2) := by decide +kernel
theorem dX7_findWanted_216 : decode cX7_findWanted 216 = .ok (.aload_n 0, 1) := by decide +kernel
theorem dX7_findWanted_217 : decode cX7_findWanted 217 = .ok (.getfield 83, 3) := by decide +kernel
theorem dX7_findWanted_220 : decode cX7_findWanted 220 = .ok (.iload 6, 2) := by decide +kernel
theorem dX7_findWanted_222 : decode cX7_findWanted 222 = .ok (.dup2, 1) := by decide +kernel
theorem dX7_findWanted_223 : decode cX7_findWanted 223 = .ok (.iaload, 1) := by decide +kernel
theorem dX7_findWanted_224 : decode cX7_findWanted 224 = .ok (.iload 7, 2) := by decide +kernel
theorem dX7_findWanted_226 : decode cX7_findWanted 226 = .ok (.iadd, 1) := by decide +kernel
theorem dX7_findWanted_227 : decode cX7_findWanted 227 = .ok (.iastore, 1) := by decide +kernel
theorem dX7_findWanted_228 : decode cX7_findWanted 228 = .ok (.aload_n 0, 1) := by decide +kernel
theorem dX7_findWanted_229 : decode cX7_findWanted 229 = .ok (.getfield 80, 3) := by decide +kernel
theorem dX7_findWanted_232 : decode cX7_findWanted 232 = .ok (.iload 6, 2) := by decide +kernel
theorem dX7_findWanted_234 : decode cX7_findWanted 234 = .ok (.dup2, 1) := by decide +kernel
theorem dX7_findWanted_235 : decode cX7_findWanted 235 = .ok (.iaload, 1) := by decide +kernel
theorem dX7_findWanted_236 : decode cX7_findWanted 236 = .ok (.iload 7, 2) := by decide +kernel
theorem dX7_findWanted_238 : decode cX7_findWanted 238 = .ok (.aload_n 0, 1) := by decide +kernel
theorem dX7_findWanted_239 : decode cX7_findWanted 239 = .ok (.getfield 71, 3) := by decide +kernel
theorem dX7_findWanted_242 : decode cX7_findWanted 242 = .ok (.iload 6, 2) := by decide +kernel
theorem dX7_findWanted_244 : decode cX7_findWanted 244 = .ok (.iaload, 1) := by decide +kernel
theorem dX7_findWanted_245 : decode cX7_findWanted 245 = .ok (.isub, 1) := by decide +kernel
theorem dX7_findWanted_246 : decode cX7_findWanted 246 = .ok (.iadd, 1) := by decide +kernel
theorem dX7_findWanted_247 : decode cX7_findWanted 247 = .ok (.iastore, 1) := by decide +kernel
theorem dX7_findWanted_248 : decode cX7_findWanted 248 = .ok (.iinc 6 1, 3) := by decide +kernel
theorem dX7_findWanted_251 : decode cX7_findWanted 251 = .ok (.goto (-84), 3) := by decide +kernel
theorem dX7_findWanted_254 : decode cX7_findWanted 254 = .ok (.iinc 2 1, 3) := by decide +kernel
theorem dX7_findWanted_257 : decode cX7_findWanted 257 = .ok (.goto (-227), 3) := by decide +kernel
theorem dX7_findWanted_260 : decode cX7_findWanted 260 = .ok (.iconst 1, 1) := by decide +kernel
theorem dX7_findWanted_261 : decode cX7_findWanted 261 = .ok (.ireturn, 1) := by decide +kernel
set_option maxRecDepth 20000 in
theorem ggX7_wanted_X7_isTill : GoodIn wsX7_wanted wsX7_isTill := goodIn_r _ [7, 8, 9, 10, 6, 11, 47, 48, 49, 50, 51, 52, 53, 54, 55, 56, 57, 58, 59, 60, 61, 62, 63, 64, 65, 66, 67, 68, 69, 70, 71, 72, 73] (by decide +kernel) (by decide +kernel)
set_option maxRecDepth 20000 in
theorem gX7_wanted_X7_isTill : GoodIn wsX7_wanted (wsV RX7 138 RX7 yX7_isTill wsX7_isTill) := goodIn_app (goodIn_of _ (by decide +kernel)) ggX7_wanted_X7_isTill
set_option maxRecDepth 20000 in
theorem ggX7_wanted_X7_isCoin : GoodIn wsX7_wanted wsX7_isCoin := goodIn_r _ [15, 16, 9, 10, 6, 11, 47, 48, 49, 50, 51, 52, 53, 54, 55, 56, 57, 58, 59, 60, 61, 62, 63, 64, 65, 66, 67, 68, 69, 70, 71, 72, 73] (by decide +kernel) (by decide +kernel)
set_option maxRecDepth 20000 in
theorem gX7_wanted_X7_isCoin : GoodIn wsX7_wanted (wsV RX7 121 RX7 yX7_isCoin wsX7_isCoin) := goodIn_app (goodIn_of _ (by decide +kernel)) ggX7_wanted_X7_isCoin
set_option maxRecDepth 20000 in
theorem ggX7_wanted_X7_findWanted : GoodIn wsX7_wanted wsX7_findWanted := goodIn_r _ [20, 21, 2, 22, 23, 24, 16, 25, 26, 27, 28, 6, 29, 30, 31, 32, 33, 34, 35, 36, 37, 38, 39, 40, 41, 42, 43, 44, 45, 46, 47, 48, 49, 50, 51, 52, 53, 54, 55, 56, 57, 58, 59, 60, 61, 62, 63, 64, 65, 66, 67, 68, 69, 70, 71, 72, 73] (by decide +kernel) (by decide +kernel)
set_option maxRecDepth 20000 in
theorem gX7_wanted_X7_findWanted : GoodIn wsX7_wanted (wsV RX7 152 RX7 yX7_findWanted wsX7_findWanted) := goodIn_app (goodIn_of _ (by decide +kernel)) ggX7_wanted_X7_findWanted
theorem dX7_wanted_0 : decode cX7_wanted 0 = .ok (.aload_n 0, 1) := by decide +kernel
theorem dX7_wanted_1 : decode cX7_wanted 1 = .ok (.iconst 0, 1) := by decide +kernel
theorem dX7_wanted_2 : decode cX7_wanted 2 = .ok (.putfield 90, 3) := by decide +kernel
theorem dX7_wanted_5 : decode cX7_wanted 5 = .ok (.aload_n 0, 1) := by decide +kernel
theorem dX7_wanted_6 : decode cX7_wanted 6 = .ok (.iload_n 1, 1) := by decide +kernel
theorem dX7_wanted_7 : decode cX7_wanted 7 = .ok (.invokevirtual 138, 3) := by decide +kernel
theorem dX7_wanted_10 : decode cX7_wanted 10 = .ok (.ifCond .eq 29, 3) := by decide +kernel
theorem dX7_wanted_13 : decode cX7_wanted 13 = .ok (.aload_n 0, 1) := by decide +kernel
theorem dX7_wanted_14 : decode cX7_wanted 14 = .ok (.iconst 1, 1) := by decide +kernel
theorem dX7_wanted_15 : decode cX7_wanted 15 = .ok (.iload_n 2, 1) := by decide +kernel
theorem dX7_wanted_16 : decode cX7_wanted 16 = .ok (.invokevirtual 121, 3) := by decide +kernel
theorem dX7_wanted_19 : decode cX7_wanted 19 = .ok (.ifCond .eq 20, 3) := by decide +kernel
theorem dX7_wanted_22 : decode cX7_wanted 22 = .ok (.aload_n 0, 1) := by decide +kernel
theorem dX7_wanted_23 : decode cX7_wanted 23 = .ok (.iload_n 1, 1) := by decide +kernel
theorem dX7_wanted_24 : decode cX7_wanted 24 = .ok (.invokevirtual 152, 3) := by decide +kernel
theorem dX7_wanted_27 : decode cX7_wanted 27 = .ok (.ifCond .eq 12, 3) := by decide +kernel
theorem dX7_wanted_30 : decode cX7_wanted 30 = .ok (.aload_n 0, 1) := by decide +kernel
theorem dX7_wanted_31 : decode cX7_wanted 31 = .ok (.getfield 83, 3) := by decide +kernel
theorem dX7_wanted_34 : decode cX7_wanted 34 = .ok (.iload_n 2, 1) := by decide +kernel
theorem dX7_wanted_35 : decode cX7_wanted 35 = .ok (.iaload, 1) := by decide +kernel
theorem dX7_wanted_36 : decode cX7_wanted 36 = .ok (.goto 4, 3) := by decide +kernel
theorem dX7_wanted_39 : decode cX7_wanted 39 = .ok (.iconst (-1), 1) := by decide +kernel
theorem dX7_wanted_40 : decode cX7_wanted 40 = .ok (.ireturn, 1) := by decide +kernel
set_option maxRecDepth 20000 in
theorem ggX7_about_X7_in : GoodIn wsX7_about wsX7_in := goodIn_r _ [13] (by decide +kernel) (by decide +kernel)
set_option maxRecDepth 20000 in
theorem gX7_about_X7_in : GoodIn wsX7_about (va_wsS RX7 98 yX7_in wsX7_in) := goodIn_app (goodIn_of _ (by decide +kernel)) ggX7_about_X7_in
theorem dX7_about_0 : decode cX7_about 0 = .ok (.aload_n 0, 1) := by decide +kernel
theorem dX7_about_1 : decode cX7_about 1 = .ok (.iconst 0, 1) := by decide +kernel
theorem dX7_about_2 : decode cX7_about 2 = .ok (.putfield 90, 3) := by decide +kernel
theorem dX7_about_5 : decode cX7_about 5 = .ok (.iload_n 1, 1) := by decide +kernel
theorem dX7_about_6 : decode cX7_about 6 = .ok (.iconst 0, 1) := by decide +kernel
theorem dX7_about_7 : decode cX7_about 7 = .ok (.iconst 1, 1) := by decide +kernel
theorem dX7_about_8 : decode cX7_about 8 = .ok (.invokestatic 98, 3) := by decide +kernel
theorem dX7_about_11 : decode cX7_about 11 = .ok (.ifCond .eq 53, 3) := by decide +kernel
theorem dX7_about_14 : decode cX7_about 14 = .ok (.iload_n 2, 1) := by decide +kernel
theorem dX7_about_15 : decode cX7_about 15 = .ok (.ifCond .ne 12, 3) := by decide +kernel
theorem dX7_about_18 : decode cX7_about 18 = .ok (.aload_n 0, 1) := by decide +kernel
theorem dX7_about_19 : decode cX7_about 19 = .ok (.getfield 7, 3) := by decide +kernel
theorem dX7_about_22 : decode cX7_about 22 = .ok (.iload_n 1, 1) := by decide +kernel
theorem dX7_about_23 : decode cX7_about 23 = .ok (.iaload, 1) := by decide +kernel
theorem dX7_about_24 : decode cX7_about 24 = .ok (.goto 39, 3) := by decide +kernel
theorem dX7_about_27 : decode cX7_about 27 = .ok (.iload_n 2, 1) := by decide +kernel
theorem dX7_about_28 : decode cX7_about 28 = .ok (.bipush 10, 2) := by decide +kernel
theorem dX7_about_30 : decode cX7_about 30 = .ok (.bipush 9, 2) := by decide +kernel
theorem dX7_about_32 : decode cX7_about 32 = .ok (.aload_n 0, 1) := by decide +kernel
theorem dX7_about_33 : decode cX7_about 33 = .ok (.getfield 7, 3) := by decide +kernel
theorem dX7_about_36 : decode cX7_about 36 = .ok (.iload_n 1, 1) := by decide +kernel
theorem dX7_about_37 : decode cX7_about 37 = .ok (.iaload, 1) := by decide +kernel
theorem dX7_about_38 : decode cX7_about 38 = .ok (.iadd, 1) := by decide +kernel
theorem dX7_about_39 : decode cX7_about 39 = .ok (.invokestatic 98, 3) := by decide +kernel
theorem dX7_about_42 : decode cX7_about 42 = .ok (.ifCond .eq 20, 3) := by decide +kernel
theorem dX7_about_45 : decode cX7_about 45 = .ok (.aload_n 0, 1) := by decide +kernel
theorem dX7_about_46 : decode cX7_about 46 = .ok (.getfield 13, 3) := by decide +kernel
theorem dX7_about_49 : decode cX7_about 49 = .ok (.bipush 8, 2) := by decide +kernel
theorem dX7_about_51 : decode cX7_about 51 = .ok (.iload_n 1, 1) := by decide +kernel
theorem dX7_about_52 : decode cX7_about 52 = .ok (.imul, 1) := by decide +kernel
theorem dX7_about_53 : decode cX7_about 53 = .ok (.iload_n 2, 1) := by decide +kernel
theorem dX7_about_54 : decode cX7_about 54 = .ok (.iadd, 1) := by decide +kernel
theorem dX7_about_55 : decode cX7_about 55 = .ok (.bipush 10, 2) := by decide +kernel
theorem dX7_about_57 : decode cX7_about 57 = .ok (.isub, 1) := by decide +kernel
theorem dX7_about_58 : decode cX7_about 58 = .ok (.iaload, 1) := by decide +kernel
theorem dX7_about_59 : decode cX7_about 59 = .ok (.goto 4, 3) := by decide +kernel
theorem dX7_about_62 : decode cX7_about 62 = .ok (.iconst (-1), 1) := by decide +kernel
theorem dX7_about_63 : decode cX7_about 63 = .ok (.ireturn, 1) := by decide +kernel
theorem dX7_about_64 : decode cX7_about 64 = .ok (.iload_n 1, 1) := by decide +kernel
theorem dX7_about_65 : decode cX7_about 65 = .ok (.iconst 2, 1) := by decide +kernel
theorem dX7_about_66 : decode cX7_about 66 = .ok (.if_icmp .eq 5, 3) := by decide +kernel
theorem dX7_about_69 : decode cX7_about 69 = .ok (.iconst (-1), 1) := by decide +kernel
theorem dX7_about_70 : decode cX7_about 70 = .ok (.ireturn, 1) := by decide +kernel
theorem dX7_about_71 : decode cX7_about 71 = .ok (.iload_n 2, 1) := by decide +kernel
theorem dX7_about_72 : decode cX7_about 72 = .ok (.tableswitch 71 0 4 #[36, 43, 50, 57, 64], 36) := by decide +kernel
theorem dX7_about_108 : decode cX7_about 108 = .ok (.aload_n 0, 1) := by decide +kernel
theorem dX7_about_109 : decode cX7_about 109 = .ok (.getfield 22, 3) := by decide +kernel
theorem dX7_about_112 : decode cX7_about 112 = .ok (.iconst 0, 1) := by decide +kernel
theorem dX7_about_113 : decode cX7_about 113 = .ok (.iaload, 1) := by decide +kernel
theorem dX7_about_114 : decode cX7_about 114 = .ok (.ireturn, 1) := by decide +kernel
theorem dX7_about_115 : decode cX7_about 115 = .ok (.aload_n 0, 1) := by decide +kernel
theorem dX7_about_116 : decode cX7_about 116 = .ok (.getfield 34, 3) := by decide +kernel
theorem dX7_about_119 : decode cX7_about 119 = .ok (.iconst 0, 1) := by decide +kernel
theorem dX7_about_120 : decode cX7_about 120 = .ok (.iaload, 1) := by decide +kernel
theorem dX7_about_121 : decode cX7_about 121 = .ok (.ireturn, 1) := by decide +kernel
theorem dX7_about_122 : decode cX7_about 122 = .ok (.aload_n 0, 1) := by decide +kernel
theorem dX7_about_123 : decode cX7_about 123 = .ok (.getfield 16, 3) := by decide +kernel
theorem dX7_about_126 : decode cX7_about 126 = .ok (.iconst 0, 1) := by decide +kernel
theorem dX7_about_127 : decode cX7_about 127 = .ok (.iaload, 1) := by decide +kernel
theorem dX7_about_128 : decode cX7_about 128 = .ok (.ireturn, 1) := by decide +kernel
theorem dX7_about_129 : decode cX7_about 129 = .ok (.aload_n 0, 1) := by decide +kernel
theorem dX7_about_130 : decode cX7_about 130 = .ok (.getfield 16, 3) := by decide +kernel
theorem dX7_about_133 : decode cX7_about 133 = .ok (.iconst 1, 1) := by decide +kernel
theorem dX7_about_134 : decode cX7_about 134 = .ok (.iaload, 1) := by decide +kernel
theorem dX7_about_135 : decode cX7_about 135 = .ok (.ireturn, 1) := by decide +kernel
theorem dX7_about_136 : decode cX7_about 136 = .ok (.aload_n 0, 1) := by decide +kernel
theorem dX7_about_137 : decode cX7_about 137 = .ok (.getfield 31, 3) := by decide +kernel
theorem dX7_about_140 : decode cX7_about 140 = .ok (.iconst 0, 1) := by decide +kernel
theorem dX7_about_141 : decode cX7_about 141 = .ok (.iaload, 1) := by decide +kernel
theorem dX7_about_142 : decode cX7_about 142 = .ok (.ireturn, 1) := by decide +kernel
theorem dX7_about_143 : decode cX7_about 143 = .ok (.iload_n 2, 1) := by decide +kernel
theorem dX7_about_144 : decode cX7_about 144 = .ok (.bipush 10, 2) := by decide +kernel
theorem dX7_about_146 : decode cX7_about 146 = .ok (.bipush 9, 2) := by decide +kernel
theorem dX7_about_148 : decode cX7_about 148 = .ok (.aload_n 0, 1) := by decide +kernel
theorem dX7_about_149 : decode cX7_about 149 = .ok (.getfield 22, 3) := by decide +kernel
theorem dX7_about_152 : decode cX7_about 152 = .ok (.iconst 0, 1) := by decide +kernel
theorem dX7_about_153 : decode cX7_about 153 = .ok (.iaload, 1) := by decide +kernel
theorem dX7_about_154 : decode cX7_about 154 = .ok (.iadd, 1) := by decide +kernel
theorem dX7_about_155 : decode cX7_about 155 = .ok (.invokestatic 98, 3) := by decide +kernel
theorem dX7_about_158 : decode cX7_about 158 = .ok (.ifCond .eq 15, 3) := by decide +kernel
theorem dX7_about_161 : decode cX7_about 161 = .ok (.aload_n 0, 1) := by decide +kernel
theorem dX7_about_162 : decode cX7_about 162 = .ok (.getfield 25, 3) := by decide +kernel
theorem dX7_about_165 : decode cX7_about 165 = .ok (.iload_n 2, 1) := by decide +kernel
theorem dX7_about_166 : decode cX7_about 166 = .ok (.bipush 10, 2) := by decide +kernel
theorem dX7_about_168 : decode cX7_about 168 = .ok (.isub, 1) := by decide +kernel
theorem dX7_about_169 : decode cX7_about 169 = .ok (.iaload, 1) := by decide +kernel
theorem dX7_about_170 : decode cX7_about 170 = .ok (.goto 34, 3) := by decide +kernel
theorem dX7_about_173 : decode cX7_about 173 = .ok (.iload_n 2, 1) := by decide +kernel
theorem dX7_about_174 : decode cX7_about 174 = .ok (.bipush 30, 2) := by decide +kernel
theorem dX7_about_176 : decode cX7_about 176 = .ok (.bipush 29, 2) := by decide +kernel
theorem dX7_about_178 : decode cX7_about 178 = .ok (.aload_n 0, 1) := by decide +kernel
theorem dX7_about_179 : decode cX7_about 179 = .ok (.getfield 22, 3) := by decide +kernel
theorem dX7_about_182 : decode cX7_about 182 = .ok (.iconst 0, 1) := by decide +kernel
theorem dX7_about_183 : decode cX7_about 183 = .ok (.iaload, 1) := by decide +kernel
theorem dX7_about_184 : decode cX7_about 184 = .ok (.iadd, 1) := by decide +kernel
theorem dX7_about_185 : decode cX7_about 185 = .ok (.invokestatic 98, 3) := by decide +kernel
theorem dX7_about_188 : decode cX7_about 188 = .ok (.ifCond .eq 15, 3) := by decide +kernel
theorem dX7_about_191 : decode cX7_about 191 = .ok (.aload_n 0, 1) := by decide +kernel
theorem dX7_about_192 : decode cX7_about 192 = .ok (.getfield 28, 3) := by decide +kernel
theorem dX7_about_195 : decode cX7_about 195 = .ok (.iload_n 2, 1) := by decide +kernel
theorem dX7_about_196 : decode cX7_about 196 = .ok (.bipush 30, 2) := by decide +kernel
theorem dX7_about_198 : decode cX7_about 198 = .ok (.isub, 1) := by decide +kernel
theorem dX7_about_199 : decode cX7_about 199 = .ok (.iaload, 1) := by decide +kernel
theorem dX7_about_200 : decode cX7_about 200 = .ok (.goto 4, 3) := by decide +kernel
theorem dX7_about_203 : decode cX7_about 203 = .ok (.iconst (-1), 1) := by decide +kernel
theorem dX7_about_204 : decode cX7_about 204 = .ok (.ireturn, 1) := by decide +kernel
set_option maxRecDepth 20000 in
theorem ggX7_image_X7_in : GoodIn wsX7_image wsX7_in := goodIn_r _ [6] (by decide +kernel) (by decide +kernel)
set_option maxRecDepth 20000 in
theorem gX7_image_X7_in : GoodIn wsX7_image (va_wsS RX7 98 yX7_in wsX7_in) := goodIn_app (goodIn_of _ (by decide +kernel)) ggX7_image_X7_in
set_option maxRecDepth 20000 in
theorem ggX7_image_X7_copy : GoodIn wsX7_image wsX7_copy := goodIn_r _ [10, 11, 12, 13, 14, 15, 16, 17, 18, 19, 20, 21, 22, 23, 24, 25, 26, 27, 28, 29, 5, 30, 31, 32, 33, 34, 35, 36, 37, 38, 39, 40, 41, 42, 43, 44, 45, 46, 47, 48, 49, 50, 51, 52, 53, 54, 55, 56, 57] (by decide +kernel) (by decide +kernel)
set_option maxRecDepth 20000 in
theorem gX7_image_X7_copy : GoodIn wsX7_image (wsV RX7 155 RX7 yX7_copy wsX7_copy) := goodIn_app (goodIn_of _ (by decide +kernel)) ggX7_image_X7_copy
theorem dX7_image_0 : decode cX7_image 0 = .ok (.aload_n 0, 1) := by decide +kernel
theorem dX7_image_1 : decode cX7_image 1 = .ok (.iconst 0, 1) := by decide +kernel
theorem dX7_image_2 : decode cX7_image 2 = .ok (.putfield 90, 3) := by decide +kernel
theorem dX7_image_5 : decode cX7_image 5 = .ok (.iload_n 1, 1) := by decide +kernel
theorem dX7_image_6 : decode cX7_image 6 = .ok (.iconst 0, 1) := by decide +kernel
theorem dX7_image_7 : decode cX7_image 7 = .ok (.iconst 2, 1) := by decide +kernel
theorem dX7_image_8 : decode cX7_image 8 = .ok (.invokestatic 98, 3) := by decide +kernel
theorem dX7_image_11 : decode cX7_image 11 = .ok (.ifCond .ne 5, 3) := by decide +kernel
theorem dX7_image_14 : decode cX7_image 14 = .ok (.iconst 0, 1) := by decide +kernel
theorem dX7_image_15 : decode cX7_image 15 = .ok (.ireturn, 1) := by decide +kernel
theorem dX7_image_16 : decode cX7_image 16 = .ok (.aload_n 0, 1) := by decide +kernel
theorem dX7_image_17 : decode cX7_image 17 = .ok (.iconst 0, 1) := by decide +kernel
theorem dX7_image_18 : decode cX7_image 18 = .ok (.iload_n 1, 1) := by decide +kernel
theorem dX7_image_19 : decode cX7_image 19 = .ok (.iconst 1, 1) := by decide +kernel
theorem dX7_image_20 : decode cX7_image 20 = .ok (.iadd, 1) := by decide +kernel
theorem dX7_image_21 : decode cX7_image 21 = .ok (.invokevirtual 155, 3) := by decide +kernel
theorem dX7_image_24 : decode cX7_image 24 = .ok (.aload_n 0, 1) := by decide +kernel
theorem dX7_image_25 : decode cX7_image 25 = .ok (.getfield 86, 3) := by decide +kernel
theorem dX7_image_28 : decode cX7_image 28 = .ok (.iload_n 1, 1) := by decide +kernel
theorem dX7_image_29 : decode cX7_image 29 = .ok (.iconst 1, 1) := by decide +kernel
theorem dX7_image_30 : decode cX7_image 30 = .ok (.bastore, 1) := by decide +kernel
theorem dX7_image_31 : decode cX7_image 31 = .ok (.iconst 1, 1) := by decide +kernel
theorem dX7_image_32 : decode cX7_image 32 = .ok (.ireturn, 1) := by decide +kernel
set_option maxRecDepth 20000 in
theorem ggX7_again_X7_in : GoodIn wsX7_again wsX7_in := goodIn_r _ [6] (by decide +kernel) (by decide +kernel)
set_option maxRecDepth 20000 in
theorem gX7_again_X7_in : GoodIn wsX7_again (va_wsS RX7 98 yX7_in wsX7_in) := goodIn_app (goodIn_of _ (by decide +kernel)) ggX7_again_X7_in
set_option maxRecDepth 20000 in
theorem ggX7_again_X7_copy : GoodIn wsX7_again wsX7_copy := goodIn_r _ [10, 11, 12, 13, 14, 15, 16, 17, 18, 19, 20, 21, 22, 23, 24, 25, 26, 27, 28, 29, 5, 30, 31, 32, 33, 34, 35, 36, 37, 38, 39, 40, 41, 42, 43, 44, 45, 46, 47, 48, 49, 50, 51, 52, 53, 54, 55, 56, 57] (by decide +kernel) (by decide +kernel)
set_option maxRecDepth 20000 in
theorem gX7_again_X7_copy : GoodIn wsX7_again (wsV RX7 155 RX7 yX7_copy wsX7_copy) := goodIn_app (goodIn_of _ (by decide +kernel)) ggX7_again_X7_copy
theorem dX7_again_0 : decode cX7_again 0 = .ok (.aload_n 0, 1) := by decide +kernel
theorem dX7_again_1 : decode cX7_again 1 = .ok (.iconst 0, 1) := by decide +kernel
theorem dX7_again_2 : decode cX7_again 2 = .ok (.putfield 90, 3) := by decide +kernel
theorem dX7_again_5 : decode cX7_again 5 = .ok (.iload_n 1, 1) := by decide +kernel
theorem dX7_again_6 : decode cX7_again 6 = .ok (.iconst 0, 1) := by decide +kernel
theorem dX7_again_7 : decode cX7_again 7 = .ok (.iconst 2, 1) := by decide +kernel
theorem dX7_again_8 : decode cX7_again 8 = .ok (.invokestatic 98, 3) := by decide +kernel
theorem dX7_again_11 : decode cX7_again 11 = .ok (.ifCond .eq 12, 3) := by decide +kernel
theorem dX7_again_14 : decode cX7_again 14 = .ok (.aload_n 0, 1) := by decide +kernel
theorem dX7_again_15 : decode cX7_again 15 = .ok (.getfield 86, 3) := by decide +kernel
theorem dX7_again_18 : decode cX7_again 18 = .ok (.iload_n 1, 1) := by decide +kernel
theorem dX7_again_19 : decode cX7_again 19 = .ok (.baload, 1) := by decide +kernel
theorem dX7_again_20 : decode cX7_again 20 = .ok (.ifCond .ne 5, 3) := by decide +kernel
theorem dX7_again_23 : decode cX7_again 23 = .ok (.iconst 0, 1) := by decide +kernel
theorem dX7_again_24 : decode cX7_again 24 = .ok (.ireturn, 1) := by decide +kernel
theorem dX7_again_25 : decode cX7_again 25 = .ok (.aload_n 0, 1) := by decide +kernel
theorem dX7_again_26 : decode cX7_again 26 = .ok (.iload_n 1, 1) := by decide +kernel
theorem dX7_again_27 : decode cX7_again 27 = .ok (.iconst 1, 1) := by decide +kernel
theorem dX7_again_28 : decode cX7_again 28 = .ok (.iadd, 1) := by decide +kernel
theorem dX7_again_29 : decode cX7_again 29 = .ok (.iconst 0, 1) := by decide +kernel
theorem dX7_again_30 : decode cX7_again 30 = .ok (.invokevirtual 155, 3) := by decide +kernel
theorem dX7_again_33 : decode cX7_again 33 = .ok (.iconst 1, 1) := by decide +kernel
theorem dX7_again_34 : decode cX7_again 34 = .ok (.ireturn, 1) := by decide +kernel
theorem dJ6_bitCount_0f7a4_0 : decode cJ6_bitCount_0f7a4 0 = .ok (.iload_n 0, 1) := by decide +kernel
theorem dJ6_bitCount_0f7a4_1 : decode cJ6_bitCount_0f7a4 1 = .ok (.iload_n 0, 1) := by decide +kernel
theorem dJ6_bitCount_0f7a4_2 : decode cJ6_bitCount_0f7a4 2 = .ok (.iconst 1, 1) := by decide +kernel
theorem dJ6_bitCount_0f7a4_3 : decode cJ6_bitCount_0f7a4 3 = .ok (.iushr, 1) := by decide +kernel
theorem dJ6_bitCount_0f7a4_4 : decode cJ6_bitCount_0f7a4 4 = .ok (.ldc_w 265, 3) := by decide +kernel
theorem dJ6_bitCount_0f7a4_7 : decode cJ6_bitCount_0f7a4 7 = .ok (.iand, 1) := by decide +kernel
theorem dJ6_bitCount_0f7a4_8 : decode cJ6_bitCount_0f7a4 8 = .ok (.isub, 1) := by decide +kernel
theorem dJ6_bitCount_0f7a4_9 : decode cJ6_bitCount_0f7a4 9 = .ok (.istore_n 0, 1) := by decide +kernel
theorem dJ6_bitCount_0f7a4_10 : decode cJ6_bitCount_0f7a4 10 = .ok (.iload_n 0, 1) := by decide +kernel
theorem dJ6_bitCount_0f7a4_11 : decode cJ6_bitCount_0f7a4 11 = .ok (.ldc_w 266, 3) := by decide +kernel
theorem dJ6_bitCount_0f7a4_14 : decode cJ6_bitCount_0f7a4 14 = .ok (.iand, 1) := by decide +kernel
theorem dJ6_bitCount_0f7a4_15 : decode cJ6_bitCount_0f7a4 15 = .ok (.iload_n 0, 1) := by decide +kernel
theorem dJ6_bitCount_0f7a4_16 : decode cJ6_bitCount_0f7a4 16 = .ok (.iconst 2, 1) := by decide +kernel
theorem dJ6_bitCount_0f7a4_17 : decode cJ6_bitCount_0f7a4 17 = .ok (.iushr, 1) := by decide +kernel
theorem dJ6_bitCount_0f7a4_18 : decode cJ6_bitCount_0f7a4 18 = .ok (.ldc_w 266, 3) := by decide +kernel
theorem dJ6_bitCount_0f7a4_21 : decode cJ6_bitCount_0f7a4 21 = .ok (.iand, 1) := by decide +kernel
theorem dJ6_bitCount_0f7a4_22 : decode cJ6_bitCount_0f7a4 22 = .ok (.iadd, 1) := by decide +kernel
theorem dJ6_bitCount_0f7a4_23 : decode cJ6_bitCount_0f7a4 23 = .ok (.istore_n 0, 1) := by decide +kernel
theorem dJ6_bitCount_0f7a4_24 : decode cJ6_bitCount_0f7a4 24 = .ok (.iload_n 0, 1) := by decide +kernel
theorem dJ6_bitCount_0f7a4_25 : decode cJ6_bitCount_0f7a4 25 = .ok (.iload_n 0, 1) := by decide +kernel
theorem dJ6_bitCount_0f7a4_26 : decode cJ6_bitCount_0f7a4 26 = .ok (.iconst 4, 1) := by decide +kernel
theorem dJ6_bitCount_0f7a4_27 : decode cJ6_bitCount_0f7a4 27 = .ok (.iushr, 1) := by decide +kernel
theorem dJ6_bitCount_0f7a4_28 : decode cJ6_bitCount_0f7a4 28 = .ok (.iadd, 1) := by decide +kernel
theorem dJ6_bitCount_0f7a4_29 : decode cJ6_bitCount_0f7a4 29 = .ok (.ldc_w 267, 3) := by decide +kernel
theorem dJ6_bitCount_0f7a4_32 : decode cJ6_bitCount_0f7a4 32 = .ok (.iand, 1) := by decide +kernel
theorem dJ6_bitCount_0f7a4_33 : decode cJ6_bitCount_0f7a4 33 = .ok (.istore_n 0, 1) := by decide +kernel
theorem dJ6_bitCount_0f7a4_34 : decode cJ6_bitCount_0f7a4 34 = .ok (.iload_n 0, 1) := by decide +kernel
theorem dJ6_bitCount_0f7a4_35 : decode cJ6_bitCount_0f7a4 35 = .ok (.iload_n 0, 1) := by decide +kernel
theorem dJ6_bitCount_0f7a4_36 : decode cJ6_bitCount_0f7a4 36 = .ok (.bipush 8, 2) := by decide +kernel
theorem dJ6_bitCount_0f7a4_38 : decode cJ6_bitCount_0f7a4 38 = .ok (.iushr, 1) := by decide +kernel
theorem dJ6_bitCount_0f7a4_39 : decode cJ6_bitCount_0f7a4 39 = .ok (.iadd, 1) := by decide +kernel
theorem dJ6_bitCount_0f7a4_40 : decode cJ6_bitCount_0f7a4 40 = .ok (.istore_n 0, 1) := by decide +kernel
theorem dJ6_bitCount_0f7a4_41 : decode cJ6_bitCount_0f7a4 41 = .ok (.iload_n 0, 1) := by decide +kernel
theorem dJ6_bitCount_0f7a4_42 : decode cJ6_bitCount_0f7a4 42 = .ok (.iload_n 0, 1) := by decide +kernel
theorem dJ6_bitCount_0f7a4_43 : decode cJ6_bitCount_0f7a4 43 = .ok (.bipush 16, 2) := by decide +kernel
theorem dJ6_bitCount_0f7a4_45 : decode cJ6_bitCount_0f7a4 45 = .ok (.iushr, 1) := by decide +kernel
theorem dJ6_bitCount_0f7a4_46 : decode cJ6_bitCount_0f7a4 46 = .ok (.iadd, 1) := by decide +kernel
theorem dJ6_bitCount_0f7a4_47 : decode cJ6_bitCount_0f7a4 47 = .ok (.istore_n 0, 1) := by decide +kernel
theorem dJ6_bitCount_0f7a4_48 : decode cJ6_bitCount_0f7a4 48 = .ok (.iload_n 0, 1) := by decide +kernel
theorem dJ6_bitCount_0f7a4_49 : decode cJ6_bitCount_0f7a4 49 = .ok (.bipush 63, 2) := by decide +kernel
theorem dJ6_bitCount_0f7a4_51 : decode cJ6_bitCount_0f7a4 51 = .ok (.iand, 1) := by decide +kernel
theorem dJ6_bitCount_0f7a4_52 : decode cJ6_bitCount_0f7a4 52 = .ok (.ireturn, 1) := by decide +kernel
theorem dJ9_abs_067f4_0 : decode cJ9_abs_067f4 0 = .ok (.lload_n 0, 1) := by decide +kernel
theorem dJ9_abs_067f4_1 : decode cJ9_abs_067f4 1 = .ok (.lconst 0, 1) := by decide +kernel
theorem dJ9_abs_067f4_2 : decode cJ9_abs_067f4 2 = .ok (.lcmp, 1) := by decide +kernel
theorem dJ9_abs_067f4_3 : decode cJ9_abs_067f4 3 = .ok (.ifCond .ge 8, 3) := by decide +kernel
theorem dJ9_abs_067f4_6 : decode cJ9_abs_067f4 6 = .ok (.lload_n 0, 1) := by decide +kernel
theorem dJ9_abs_067f4_7 : decode cJ9_abs_067f4 7 = .ok (.lneg, 1) := by decide +kernel
theorem dJ9_abs_067f4_8 : decode cJ9_abs_067f4 8 = .ok (.goto 4, 3) := by decide +kernel
theorem dJ9_abs_067f4_11 : decode cJ9_abs_067f4 11 = .ok (.lload_n 0, 1) := by decide +kernel
theorem dJ9_abs_067f4_12 : decode cJ9_abs_067f4 12 = .ok (.lreturn, 1) := by decide +kernel
theorem dJ9_max_7cf53_0 : decode cJ9_max_7cf53 0 = .ok (.iload_n 0, 1) := by decide +kernel
theorem dJ9_max_7cf53_1 : decode cJ9_max_7cf53 1 = .ok (.iload_n 1, 1) := by decide +kernel
theorem dJ9_max_7cf53_2 : decode cJ9_max_7cf53 2 = .ok (.if_icmp .lt 7, 3) := by decide +kernel
theorem dJ9_max_7cf53_5 : decode cJ9_max_7cf53 5 = .ok (.iload_n 0, 1) := by decide +kernel
theorem dJ9_max_7cf53_6 : decode cJ9_max_7cf53 6 = .ok (.goto 4, 3) := by decide +kernel
theorem dJ9_max_7cf53_9 : decode cJ9_max_7cf53 9 = .ok (.iload_n 1, 1) := by decide +kernel
theorem dJ9_max_7cf53_10 : decode cJ9_max_7cf53 10 = .ok (.ireturn, 1) := by decide +kernel
theorem dJ9_min_7cf53_0 : decode cJ9_min_7cf53 0 = .ok (.iload_n 0, 1) := by decide +kernel
theorem dJ9_min_7cf53_1 : decode cJ9_min_7cf53 1 = .ok (.iload_n 1, 1) := by decide +kernel
theorem dJ9_min_7cf53_2 : decode cJ9_min_7cf53 2 = .ok (.if_icmp .gt 7, 3) := by decide +kernel
theorem dJ9_min_7cf53_5 : decode cJ9_min_7cf53 5 = .ok (.iload_n 0, 1) := by decide +kernel
theorem dJ9_min_7cf53_6 : decode cJ9_min_7cf53 6 = .ok (.goto 4, 3) := by decide +kernel
theorem dJ9_min_7cf53_9 : decode cJ9_min_7cf53 9 = .ok (.iload_n 1, 1) := by decide +kernel
theorem dJ9_min_7cf53_10 : decode cJ9_min_7cf53 10 = .ok (.ireturn, 1) := by decide +kernel
theorem dJ7_fill_53178_0 : decode cJ7_fill_53178 0 = .ok (.iconst 0, 1) := by decide +kernel
theorem dJ7_fill_53178_1 : decode cJ7_fill_53178 1 = .ok (.istore_n 2, 1) := by decide +kernel
theorem dJ7_fill_53178_2 : decode cJ7_fill_53178 2 = .ok (.aload_n 0, 1) := by decide +kernel
theorem dJ7_fill_53178_3 : decode cJ7_fill_53178 3 = .ok (.arraylength, 1) := by decide +kernel
theorem dJ7_fill_53178_4 : decode cJ7_fill_53178 4 = .ok (.istore_n 3, 1) := by decide +kernel
theorem dJ7_fill_53178_5 : decode cJ7_fill_53178 5 = .ok (.iload_n 2, 1) := by decide +kernel
theorem dJ7_fill_53178_6 : decode cJ7_fill_53178 6 = .ok (.iload_n 3, 1) := by decide +kernel
theorem dJ7_fill_53178_7 : decode cJ7_fill_53178 7 = .ok (.if_icmp .ge 13, 3) := by decide +kernel
theorem dJ7_fill_53178_10 : decode cJ7_fill_53178 10 = .ok (.aload_n 0, 1) := by decide +kernel
theorem dJ7_fill_53178_11 : decode cJ7_fill_53178 11 = .ok (.iload_n 2, 1) := by decide +kernel
theorem dJ7_fill_53178_12 : decode cJ7_fill_53178 12 = .ok (.iload_n 1, 1) := by decide +kernel
theorem dJ7_fill_53178_13 : decode cJ7_fill_53178 13 = .ok (.iastore, 1) := by decide +kernel
theorem dJ7_fill_53178_14 : decode cJ7_fill_53178 14 = .ok (.iinc 2 1, 3) := by decide +kernel
theorem dJ7_fill_53178_17 : decode cJ7_fill_53178 17 = .ok (.goto (-12), 3) := by decide +kernel
theorem dJ7_fill_53178_20 : decode cJ7_fill_53178 20 = .ok (.return_, 1) := by decide +kernel
set_option maxRecDepth 20000 in
theorem ggL_law_X6_init : GoodIn wsL_law wsX6_init := goodIn_r _ [8, 9, 10, 11, 12, 13, 14, 15, 16, 17, 18, 19, 20, 21, 22, 23, 24, 25, 26, 27, 28, 29, 30, 31, 32, 33, 34, 35, 36, 37, 38, 39, 40, 41, 42, 43, 44, 45, 46, 47, 48, 49, 50, 51, 52, 53, 54, 55, 56, 57, 58, 59, 60, 61, 62, 63, 64, 65, 66, 67, 68, 69, 70, 71, 72, 73, 74, 75, 76, 77, 78, 79, 80, 81, 82, 83, 84, 85, 86, 87, 88, 89, 90, 91, 92, 93, 94, 95, 673, 674, 675, 676, 677, 678, 679, 680, 681, 640, 641, 642, 643, 644, 645, 682, 683, 684, 685, 686, 687, 688, 689, 690, 691, 692, 693, 694, 695, 696, 697, 698, 699, 700, 701, 702, 703, 704] (by decide +kernel) (by decide +kernel)
set_option maxRecDepth 20000 in
theorem gL_law_X6_init : GoodIn wsL_law (wsX6_init) := ggL_law_X6_init
set_option maxRecDepth 20000 in
theorem ggL_law_X7_init : GoodIn wsL_law wsX7_init := goodIn_r _ [98, 99, 10, 11, 23, 100, 101, 102, 103, 104, 105, 106, 107, 108, 109, 25, 110, 111, 112, 113, 114, 115, 116, 117, 118, 119, 120, 121, 122, 123, 124, 17, 125, 646, 647, 648, 649, 650, 651, 652, 653, 654, 655, 656, 657, 658, 659, 660, 661, 662, 663, 664, 665, 666, 667, 668, 669, 670, 671, 672] (by decide +kernel) (by decide +kernel)
set_option maxRecDepth 20000 in
theorem gL_law_X7_init : GoodIn wsL_law (wsX7_init) := ggL_law_X7_init
set_option maxRecDepth 20000 in
theorem ggL_law_X6_coin : GoodIn wsL_law wsX6_coin := goodIn_r _ [129, 15, 130, 131, 132, 14, 133, 34, 35, 134, 135, 136, 33, 137, 53, 54, 138, 2, 139, 140, 141, 142, 143, 144, 145, 146, 147, 55, 148, 149, 150, 151, 56, 640, 641, 642, 643, 644, 645, 673, 674, 675, 676, 677, 678, 679, 680, 681, 686, 687, 688, 689] (by decide +kernel) (by decide +kernel)
set_option maxRecDepth 20000 in
theorem gL_law_X6_coin : GoodIn wsL_law (wsV RL 13 RX6 yX6_coin wsX6_coin) := goodIn_app (goodIn_of _ (by decide +kernel)) ggL_law_X6_coin
set_option maxRecDepth 20000 in
theorem ggL_law_X7_coin : GoodIn wsL_law wsX7_coin := goodIn_r _ [155, 156, 100, 101, 157, 158, 5, 159, 646, 647, 648, 649, 650, 651, 652, 653, 654, 655, 656, 657, 658, 659, 660, 661, 662, 663, 664, 665, 666, 667, 668, 669, 670, 671, 672] (by decide +kernel) (by decide +kernel)
set_option maxRecDepth 20000 in
theorem gL_law_X7_coin : GoodIn wsL_law (wsV RL 17 RX7 yX7_coin wsX7_coin) := goodIn_app (goodIn_of _ (by decide +kernel)) ggL_law_X7_coin
set_option maxRecDepth 20000 in
theorem ggL_law_X6_rate : GoodIn wsL_law wsX6_rate := goodIn_r _ [163, 15, 164, 165, 166, 138, 2, 139, 167, 168, 169, 14, 170, 43, 41, 171, 640, 641, 642, 643, 644, 645, 673, 674, 675, 676, 677, 678, 679, 680, 681, 693, 694, 695, 696, 697, 698, 699] (by decide +kernel) (by decide +kernel)
set_option maxRecDepth 20000 in
theorem gL_law_X6_rate : GoodIn wsL_law (wsV RL 18 RX6 yX6_rate wsX6_rate) := goodIn_app (goodIn_of _ (by decide +kernel)) ggL_law_X6_rate
set_option maxRecDepth 20000 in
theorem ggL_law_X7_rate : GoodIn wsL_law wsX7_rate := goodIn_r _ [175, 156, 103, 102, 157, 158, 5, 159, 646, 647, 648, 649, 650, 651, 652, 653, 654, 655, 656, 657, 658, 659, 660, 661, 662, 663, 664, 665, 666, 667, 668, 669, 670, 671, 672] (by decide +kernel) (by decide +kernel)
set_option maxRecDepth 20000 in
theorem gL_law_X7_rate : GoodIn wsL_law (wsV RL 22 RX7 yX7_rate wsX7_rate) := goodIn_app (goodIn_of _ (by decide +kernel)) ggL_law_X7_rate
set_option maxRecDepth 20000 in
theorem ggL_law_X6_good : GoodIn wsL_law wsX6_good := goodIn_r _ [179, 15, 180, 181, 182, 183, 38, 184, 64, 65, 66, 138, 2, 139, 640, 641, 642, 643, 644, 645, 673, 674, 675, 676, 677, 678, 679, 680, 681, 690, 691, 692] (by decide +kernel) (by decide +kernel)
set_option maxRecDepth 20000 in
theorem gL_law_X6_good : GoodIn wsL_law (wsV RL 23 RX6 yX6_good wsX6_good) := goodIn_app (goodIn_of _ (by decide +kernel)) ggL_law_X6_good
set_option maxRecDepth 20000 in
theorem ggL_law_X7_good : GoodIn wsL_law wsX7_good := goodIn_r _ [188, 156, 104, 105, 106, 157, 158, 5, 159, 646, 647, 648, 649, 650, 651, 652, 653, 654, 655, 656, 657, 658, 659, 660, 661, 662, 663, 664, 665, 666, 667, 668, 669, 670, 671, 672] (by decide +kernel) (by decide +kernel)
set_option maxRecDepth 20000 in
theorem gL_law_X7_good : GoodIn wsL_law (wsV RL 26 RX7 yX7_good wsX7_good) := goodIn_app (goodIn_of _ (by decide +kernel)) ggL_law_X7_good
set_option maxRecDepth 20000 in
theorem ggL_law_X6_sold : GoodIn wsL_law wsX6_sold := goodIn_r _ [192, 15, 180, 193, 194, 195, 196, 38, 197, 64, 138, 2, 139, 166, 640, 641, 642, 643, 644, 645, 673, 674, 675, 676, 677, 678, 679, 680, 681, 690, 691, 692] (by decide +kernel) (by decide +kernel)
set_option maxRecDepth 20000 in
theorem gL_law_X6_sold : GoodIn wsL_law (wsV RL 27 RX6 yX6_sold wsX6_sold) := goodIn_app (goodIn_of _ (by decide +kernel)) ggL_law_X6_sold
set_option maxRecDepth 20000 in
theorem ggL_law_X7_sold : GoodIn wsL_law wsX7_sold := goodIn_r _ [201, 156, 106, 202, 203, 204, 5, 205, 104, 157, 158, 159, 646, 647, 648, 649, 650, 651, 652, 653, 654, 655, 656, 657, 658, 659, 660, 661, 662, 663, 664, 665, 666, 667, 668, 669, 670, 671, 672] (by decide +kernel) (by decide +kernel)
set_option maxRecDepth 20000 in
theorem gL_law_X7_sold : GoodIn wsL_law (wsV RL 30 RX7 yX7_sold wsX7_sold) := goodIn_app (goodIn_of _ (by decide +kernel)) ggL_law_X7_sold
set_option maxRecDepth 20000 in
theorem ggL_law_X6_step : GoodIn wsL_law wsX6_step := goodIn_r _ [209, 15, 210, 166, 138, 2, 139, 640, 641, 642, 643, 644, 645, 673, 674, 675, 676, 677, 678, 679, 680, 681] (by decide +kernel) (by decide +kernel)
set_option maxRecDepth 20000 in
theorem gL_law_X6_step : GoodIn wsL_law (wsV RL 31 RX6 yX6_step wsX6_step) := goodIn_app (goodIn_of _ (by decide +kernel)) ggL_law_X6_step
set_option maxRecDepth 20000 in
theorem ggL_law_X7_step : GoodIn wsL_law wsX7_step := goodIn_r _ [214, 156, 107, 157, 158, 5, 159, 646, 647, 648, 649, 650, 651, 652, 653, 654, 655, 656, 657, 658, 659, 660, 661, 662, 663, 664, 665, 666, 667, 668, 669, 670, 671, 672] (by decide +kernel) (by decide +kernel)
set_option maxRecDepth 20000 in
theorem gL_law_X7_step : GoodIn wsL_law (wsV RL 35 RX7 yX7_step wsX7_step) := goodIn_app (goodIn_of _ (by decide +kernel)) ggL_law_X7_step
set_option maxRecDepth 20000 in
theorem ggL_law_X6_price : GoodIn wsL_law wsX6_price := goodIn_r _ [218, 15, 180, 194, 195, 196, 38, 197, 64, 138, 2, 139, 219, 220, 221, 166, 222, 223, 224, 14, 225, 39, 226, 44, 46, 45, 227, 228, 229, 230, 231, 640, 641, 642, 643, 644, 645, 673, 674, 675, 676, 677, 678, 679, 680, 681, 690, 691, 692] (by decide +kernel) (by decide +kernel)
set_option maxRecDepth 20000 in
theorem gL_law_X6_price : GoodIn wsL_law (wsV RL 36 RX6 yX6_price wsX6_price) := goodIn_app (goodIn_of _ (by decide +kernel)) ggL_law_X6_price
set_option maxRecDepth 20000 in
theorem ggL_law_X7_price : GoodIn wsL_law wsX7_price := goodIn_r _ [235, 156, 202, 203, 204, 5, 205, 104, 157, 158, 159, 236, 237, 238, 239, 105, 102, 107, 646, 647, 648, 649, 650, 651, 652, 653, 654, 655, 656, 657, 658, 659, 660, 661, 662, 663, 664, 665, 666, 667, 668, 669, 670, 671, 672] (by decide +kernel) (by decide +kernel)
set_option maxRecDepth 20000 in
theorem gL_law_X7_price : GoodIn wsL_law (wsV RL 39 RX7 yX7_price wsX7_price) := goodIn_app (goodIn_of _ (by decide +kernel)) ggL_law_X7_price
set_option maxRecDepth 20000 in
theorem ggL_law_X6_gain : GoodIn wsL_law wsX6_gain := goodIn_r _ [243, 15, 180, 244, 219, 220, 2, 221, 166, 138, 139, 245, 246, 247, 14, 248, 45, 39, 226, 44, 249, 250, 223, 224, 225, 46, 227, 228, 229, 230, 231, 640, 641, 642, 643, 644, 645, 673, 674, 675, 676, 677, 678, 679, 680, 681, 690, 691, 692] (by decide +kernel) (by decide +kernel)
set_option maxRecDepth 20000 in
theorem gL_law_X6_gain : GoodIn wsL_law (wsV RL 40 RX6 yX6_gain wsX6_gain) := goodIn_app (goodIn_of _ (by decide +kernel)) ggL_law_X6_gain
set_option maxRecDepth 20000 in
theorem ggL_law_X7_gain : GoodIn wsL_law wsX7_gain := goodIn_r _ [254, 156, 104, 157, 158, 5, 159, 255, 256, 257, 258, 102, 105, 106, 236, 237, 238, 239, 107, 646, 647, 648, 649, 650, 651, 652, 653, 654, 655, 656, 657, 658, 659, 660, 661, 662, 663, 664, 665, 666, 667, 668, 669, 670, 671, 672] (by decide +kernel) (by decide +kernel)
set_option maxRecDepth 20000 in
theorem gL_law_X7_gain : GoodIn wsL_law (wsV RL 44 RX7 yX7_gain wsX7_gain) := goodIn_app (goodIn_of _ (by decide +kernel)) ggL_law_X7_gain
set_option maxRecDepth 20000 in
theorem ggL_law_X6_fairest : GoodIn wsL_law wsX6_fairest := goodIn_r _ [262, 263, 264, 265, 266, 15, 180, 244, 26, 267, 268, 269, 2, 270, 245, 246, 247, 14, 248, 45, 39, 226, 44, 249, 250, 223, 224, 225, 46, 227, 228, 229, 230, 231, 271, 272, 273, 274, 275, 276, 277, 640, 641, 642, 643, 644, 645, 673, 674, 675, 676, 677, 678, 679, 680, 681, 690, 691, 692] (by decide +kernel) (by decide +kernel)
set_option maxRecDepth 20000 in
theorem gL_law_X6_fairest : GoodIn wsL_law (wsV RL 45 RX6 yX6_fairest wsX6_fairest) := goodIn_app (goodIn_of _ (by decide +kernel)) ggL_law_X6_fairest
set_option maxRecDepth 20000 in
theorem ggL_law_X7_fairest : GoodIn wsL_law wsX7_fairest := goodIn_r _ [281, 156, 104, 117, 282, 255, 256, 257, 5, 258, 102, 105, 106, 236, 237, 238, 239, 107, 646, 647, 648, 649, 650, 651, 652, 653, 654, 655, 656, 657, 658, 659, 660, 661, 662, 663, 664, 665, 666, 667, 668, 669, 670, 671, 672] (by decide +kernel) (by decide +kernel)
set_option maxRecDepth 20000 in
theorem gL_law_X7_fairest : GoodIn wsL_law (wsV RL 49 RX7 yX7_fairest wsX7_fairest) := goodIn_app (goodIn_of _ (by decide +kernel)) ggL_law_X7_fairest
set_option maxRecDepth 20000 in
theorem ggL_law_X6_gains : GoodIn wsL_law wsX6_gains := goodIn_r _ [286, 15, 180, 244, 245, 246, 247, 14, 248, 45, 39, 226, 44, 249, 250, 223, 224, 225, 46, 227, 2, 228, 229, 230, 231, 640, 641, 642, 643, 644, 645, 673, 674, 675, 676, 677, 678, 679, 680, 681, 690, 691, 692] (by decide +kernel) (by decide +kernel)
set_option maxRecDepth 20000 in
theorem gL_law_X6_gains : GoodIn wsL_law (wsV RL 50 RX6 yX6_gains wsX6_gains) := goodIn_app (goodIn_of _ (by decide +kernel)) ggL_law_X6_gains
set_option maxRecDepth 20000 in
theorem ggL_law_X7_gains : GoodIn wsL_law wsX7_gains := goodIn_r _ [290, 156, 104, 255, 256, 257, 5, 258, 102, 105, 106, 236, 237, 238, 239, 107, 646, 647, 648, 649, 650, 651, 652, 653, 654, 655, 656, 657, 658, 659, 660, 661, 662, 663, 664, 665, 666, 667, 668, 669, 670, 671, 672] (by decide +kernel) (by decide +kernel)
set_option maxRecDepth 20000 in
theorem gL_law_X7_gains : GoodIn wsL_law (wsV RL 53 RX7 yX7_gains wsX7_gains) := goodIn_app (goodIn_of _ (by decide +kernel)) ggL_law_X7_gains
set_option maxRecDepth 20000 in
theorem ggL_law_X6_fewest : GoodIn wsL_law wsX6_fewest := goodIn_r _ [294, 15, 295, 24, 130, 131, 132, 14, 133, 34, 35, 296, 297, 298, 33, 299, 56, 300, 2, 301, 166, 138, 139, 302, 303, 304, 305, 53, 306, 307, 308, 309, 54, 55, 227, 228, 640, 641, 642, 643, 644, 645, 686, 687, 688, 689, 673, 674, 675, 676, 677, 678, 679, 680, 681] (by decide +kernel) (by decide +kernel)
set_option maxRecDepth 20000 in
theorem gL_law_X6_fewest : GoodIn wsL_law (wsV RL 54 RX6 yX6_fewest wsX6_fewest) := goodIn_app (goodIn_of _ (by decide +kernel)) ggL_law_X6_fewest
set_option maxRecDepth 20000 in
theorem ggL_law_X7_fewest : GoodIn wsL_law wsX7_fewest := goodIn_r _ [313, 156, 120, 157, 158, 5, 159, 314, 315, 316, 317, 100, 318, 319, 320, 321, 121, 322, 323, 324, 325, 119, 326, 101, 118, 327, 328, 329, 330, 646, 647, 648, 649, 650, 651, 652, 653, 654, 655, 656, 657, 658, 659, 660, 661, 662, 663, 664, 665, 666, 667, 668, 669, 670, 671, 672] (by decide +kernel) (by decide +kernel)
set_option maxRecDepth 20000 in
theorem gL_law_X7_fewest : GoodIn wsL_law (wsV RL 58 RX7 yX7_fewest wsX7_fewest) := goodIn_app (goodIn_of _ (by decide +kernel)) ggL_law_X7_fewest
set_option maxRecDepth 20000 in
theorem ggL_law_X6_greedy : GoodIn wsL_law wsX6_greedy := goodIn_r _ [334, 15, 130, 131, 132, 14, 133, 34, 35, 335, 300, 2, 301, 166, 138, 139, 336, 337, 338, 33, 339, 53, 54, 55, 227, 228, 640, 641, 642, 643, 644, 645, 673, 674, 675, 676, 677, 678, 679, 680, 681, 686, 687, 688, 689] (by decide +kernel) (by decide +kernel)
set_option maxRecDepth 20000 in
theorem gL_law_X6_greedy : GoodIn wsL_law (wsV RL 59 RX6 yX6_greedy wsX6_greedy) := goodIn_app (goodIn_of _ (by decide +kernel)) ggL_law_X6_greedy
set_option maxRecDepth 20000 in
theorem ggL_law_X7_greedy : GoodIn wsL_law wsX7_greedy := goodIn_r _ [343, 156, 157, 158, 5, 159, 327, 328, 329, 330, 100, 101, 118, 344, 345, 346, 347, 646, 647, 648, 649, 650, 651, 652, 653, 654, 655, 656, 657, 658, 659, 660, 661, 662, 663, 664, 665, 666, 667, 668, 669, 670, 671, 672] (by decide +kernel) (by decide +kernel)
set_option maxRecDepth 20000 in
theorem gL_law_X7_greedy : GoodIn wsL_law (wsV RL 62 RX7 yX7_greedy wsX7_greedy) := goodIn_app (goodIn_of _ (by decide +kernel)) ggL_law_X7_greedy
set_option maxRecDepth 20000 in
theorem ggL_law_X6_odd : GoodIn wsL_law wsX6_odd := goodIn_r _ [351, 15, 130, 131, 132, 14, 133, 34, 35, 352, 353, 354, 33, 355, 56, 356, 337, 338, 339, 53, 54, 55, 227, 2, 228, 640, 641, 642, 643, 644, 645, 673, 674, 675, 676, 677, 678, 679, 680, 681, 686, 687, 688, 689] (by decide +kernel) (by decide +kernel)
set_option maxRecDepth 20000 in
theorem gL_law_X6_odd : GoodIn wsL_law (wsV RL 63 RX6 yX6_odd wsX6_odd) := goodIn_app (goodIn_of _ (by decide +kernel)) ggL_law_X6_odd
set_option maxRecDepth 20000 in
theorem ggL_law_X7_odd : GoodIn wsL_law wsX7_odd := goodIn_r _ [360, 156, 122, 326, 100, 101, 157, 158, 5, 159, 327, 328, 329, 330, 118, 344, 345, 346, 347, 646, 647, 648, 649, 650, 651, 652, 653, 654, 655, 656, 657, 658, 659, 660, 661, 662, 663, 664, 665, 666, 667, 668, 669, 670, 671, 672] (by decide +kernel) (by decide +kernel)
set_option maxRecDepth 20000 in
theorem gL_law_X7_odd : GoodIn wsL_law (wsV RL 67 RX7 yX7_odd wsX7_odd) := goodIn_app (goodIn_of _ (by decide +kernel)) ggL_law_X7_odd
set_option maxRecDepth 20000 in
theorem ggL_law_X6_till : GoodIn wsL_law wsX6_till := goodIn_r _ [364, 15, 365, 640, 641, 642, 643, 644, 645, 673, 674, 675, 676, 677, 678, 679, 680, 681] (by decide +kernel) (by decide +kernel)
set_option maxRecDepth 20000 in
theorem gL_law_X6_till : GoodIn wsL_law (wsV RL 68 RX6 yX6_till wsX6_till) := goodIn_app (goodIn_of _ (by decide +kernel)) ggL_law_X6_till
set_option maxRecDepth 20000 in
theorem ggL_law_X7_till : GoodIn wsL_law wsX7_till := goodIn_r _ [369, 156, 108, 109, 110, 111, 112, 113, 114, 370, 371, 5, 372, 646, 647, 648, 649, 650, 651, 652, 653, 654, 655, 656, 657, 658, 659, 660, 661, 662, 663, 664, 665, 666, 667, 668, 669, 670, 671, 672] (by decide +kernel) (by decide +kernel)
set_option maxRecDepth 20000 in
theorem gL_law_X7_till : GoodIn wsL_law (wsV RL 71 RX7 yX7_till wsX7_till) := goodIn_app (goodIn_of _ (by decide +kernel)) ggL_law_X7_till
set_option maxRecDepth 20000 in
theorem ggL_law_X6_put : GoodIn wsL_law wsX6_put := goodIn_r _ [376, 15, 377, 378, 379, 380, 14, 381, 43, 41, 138, 2, 139, 382, 383, 384, 385, 386, 131, 132, 133, 34, 35, 387, 303, 304, 33, 305, 53, 388, 389, 390, 48, 391, 70, 71, 640, 641, 642, 643, 644, 645, 673, 674, 675, 676, 677, 678, 679, 680, 681, 686, 687, 688, 689, 693, 694, 695, 696, 697, 698, 699] (by decide +kernel) (by decide +kernel)
set_option maxRecDepth 20000 in
theorem gL_law_X6_put : GoodIn wsL_law (wsV RL 72 RX6 yX6_put wsX6_put) := goodIn_app (goodIn_of _ (by decide +kernel)) ggL_law_X6_put
set_option maxRecDepth 20000 in
theorem ggL_law_X7_put : GoodIn wsL_law wsX7_put := goodIn_r _ [395, 156, 113, 396, 397, 398, 5, 399, 108, 157, 158, 159, 314, 315, 316, 317, 100, 370, 371, 372, 646, 647, 648, 649, 650, 651, 652, 653, 654, 655, 656, 657, 658, 659, 660, 661, 662, 663, 664, 665, 666, 667, 668, 669, 670, 671, 672] (by decide +kernel) (by decide +kernel)
set_option maxRecDepth 20000 in
theorem gL_law_X7_put : GoodIn wsL_law (wsV RL 76 RX7 yX7_put wsX7_put) := goodIn_app (goodIn_of _ (by decide +kernel)) ggL_law_X7_put
set_option maxRecDepth 20000 in
theorem ggL_law_X6_sale : GoodIn wsL_law wsX6_sale := goodIn_r _ [403, 15, 165, 22, 404, 405, 406, 378, 379, 380, 14, 381, 43, 41, 138, 2, 139, 407, 408, 409, 410, 411, 383, 384, 385, 386, 131, 132, 133, 34, 35, 387, 303, 304, 33, 305, 53, 412, 413, 414, 415, 416, 45, 417, 418, 419, 420, 44, 388, 389, 390, 48, 391, 70, 71, 421, 227, 228, 422, 423, 424, 21, 425, 93, 426, 427, 428, 300, 301, 166, 429, 58, 59, 60, 430, 431, 432, 433, 434, 435, 436, 437, 95, 94, 438, 439, 440, 441, 91, 442, 443, 265, 444, 445, 446, 447, 448, 449, 450, 451, 452, 72, 77, 78, 79, 640, 641, 642, 643, 644, 645, 673, 674, 675, 676, 677, 678, 679, 680, 681, 693, 694, 695, 696, 697, 698, 699, 682, 683, 684, 685, 686, 687, 688, 689] (by decide +kernel) (by decide +kernel)
set_option maxRecDepth 20000 in
theorem gL_law_X6_sale : GoodIn wsL_law (wsV RL 77 RX6 yX6_sale wsX6_sale) := goodIn_app (goodIn_of _ (by decide +kernel)) ggL_law_X6_sale
set_option maxRecDepth 20000 in
theorem ggL_law_X7_sale : GoodIn wsL_law wsX7_sale := goodIn_r _ [456, 156, 102, 113, 121, 100, 120, 114, 103, 109, 110, 111, 457, 458, 459, 5, 460, 396, 397, 398, 399, 108, 157, 158, 159, 314, 315, 316, 317, 461, 462, 463, 464, 101, 370, 371, 372, 322, 323, 324, 325, 119, 326, 118, 327, 328, 329, 330, 646, 647, 648, 649, 650, 651, 652, 653, 654, 655, 656, 657, 658, 659, 660, 661, 662, 663, 664, 665, 666, 667, 668, 669, 670, 671, 672] (by decide +kernel) (by decide +kernel)
set_option maxRecDepth 20000 in
theorem gL_law_X7_sale : GoodIn wsL_law (wsV RL 81 RX7 yX7_sale wsX7_sale) := goodIn_app (goodIn_of _ (by decide +kernel)) ggL_law_X7_sale
set_option maxRecDepth 20000 in
theorem ggL_law_X6_given : GoodIn wsL_law wsX6_given := goodIn_r _ [468, 15, 469, 470, 378, 379, 380, 14, 381, 43, 41, 138, 2, 139, 382, 383, 384, 385, 386, 131, 132, 133, 34, 35, 387, 303, 304, 33, 305, 53, 640, 641, 642, 643, 644, 645, 693, 694, 695, 696, 697, 698, 699, 673, 674, 675, 676, 677, 678, 679, 680, 681, 686, 687, 688, 689] (by decide +kernel) (by decide +kernel)
set_option maxRecDepth 20000 in
theorem gL_law_X6_given : GoodIn wsL_law (wsV RL 82 RX6 yX6_given wsX6_given) := goodIn_app (goodIn_of _ (by decide +kernel)) ggL_law_X6_given
set_option maxRecDepth 20000 in
theorem ggL_law_X7_given : GoodIn wsL_law wsX7_given := goodIn_r _ [474, 156, 109, 114, 396, 397, 398, 5, 399, 108, 157, 158, 159, 314, 315, 316, 317, 100, 646, 647, 648, 649, 650, 651, 652, 653, 654, 655, 656, 657, 658, 659, 660, 661, 662, 663, 664, 665, 666, 667, 668, 669, 670, 671, 672] (by decide +kernel) (by decide +kernel)
set_option maxRecDepth 20000 in
theorem gL_law_X7_given : GoodIn wsL_law (wsV RL 85 RX7 yX7_given wsX7_given) := goodIn_app (goodIn_of _ (by decide +kernel)) ggL_law_X7_given
set_option maxRecDepth 20000 in
theorem ggL_law_X6_tell : GoodIn wsL_law wsX6_tell := goodIn_r _ [478, 15, 479, 469, 480, 481, 405, 482, 165, 483, 484, 378, 379, 380, 14, 381, 43, 41, 138, 2, 139, 485, 486, 487, 488, 489, 416, 386, 131, 132, 133, 34, 35, 417, 418, 419, 420, 44, 45, 640, 641, 642, 643, 644, 645, 693, 694, 695, 696, 697, 698, 699, 673, 674, 675, 676, 677, 678, 679, 680, 681, 700, 701, 702, 703, 704, 686, 687, 688, 689] (by decide +kernel) (by decide +kernel)
set_option maxRecDepth 20000 in
theorem gL_law_X6_tell : GoodIn wsL_law (wsV RL 86 RX6 yX6_tell wsX6_tell) := goodIn_app (goodIn_of _ (by decide +kernel)) ggL_law_X6_tell
set_option maxRecDepth 20000 in
theorem ggL_law_X7_tell : GoodIn wsL_law wsX7_tell := goodIn_r _ [493, 156, 282, 109, 110, 111, 112, 396, 397, 398, 5, 399, 108, 157, 158, 159, 494, 495, 496, 497, 100, 113, 101, 102, 370, 371, 372, 646, 647, 648, 649, 650, 651, 652, 653, 654, 655, 656, 657, 658, 659, 660, 661, 662, 663, 664, 665, 666, 667, 668, 669, 670, 671, 672] (by decide +kernel) (by decide +kernel)
set_option maxRecDepth 20000 in
theorem gL_law_X7_tell : GoodIn wsL_law (wsV RL 90 RX7 yX7_tell wsX7_tell) := goodIn_app (goodIn_of _ (by decide +kernel)) ggL_law_X7_tell
set_option maxRecDepth 20000 in
theorem ggL_law_X6_has : GoodIn wsL_law wsX6_has := goodIn_r _ [501, 15, 378, 379, 380, 14, 381, 43, 41, 138, 2, 139, 382, 383, 384, 385, 386, 131, 132, 133, 34, 35, 387, 303, 304, 33, 305, 53, 388, 389, 390, 48, 391, 70, 71, 640, 641, 642, 643, 644, 645, 673, 674, 675, 676, 677, 678, 679, 680, 681, 686, 687, 688, 689, 693, 694, 695, 696, 697, 698, 699] (by decide +kernel) (by decide +kernel)
set_option maxRecDepth 20000 in
theorem gL_law_X6_has : GoodIn wsL_law (wsV RL 91 RX6 yX6_has wsX6_has) := goodIn_app (goodIn_of _ (by decide +kernel)) ggL_law_X6_has
set_option maxRecDepth 20000 in
theorem ggL_law_X7_has : GoodIn wsL_law wsX7_has := goodIn_r _ [505, 156, 113, 396, 397, 398, 5, 399, 108, 157, 158, 159, 314, 315, 316, 317, 100, 370, 371, 372, 646, 647, 648, 649, 650, 651, 652, 653, 654, 655, 656, 657, 658, 659, 660, 661, 662, 663, 664, 665, 666, 667, 668, 669, 670, 671, 672] (by decide +kernel) (by decide +kernel)
set_option maxRecDepth 20000 in
theorem gL_law_X7_has : GoodIn wsL_law (wsV RL 94 RX7 yX7_has wsX7_has) := goodIn_app (goodIn_of _ (by decide +kernel)) ggL_law_X7_has
set_option maxRecDepth 20000 in
theorem ggL_law_X6_draw : GoodIn wsL_law wsX6_draw := goodIn_r _ [509, 15, 479, 481, 510, 378, 379, 380, 14, 381, 43, 41, 138, 2, 139, 485, 486, 487, 488, 489, 416, 386, 131, 132, 133, 34, 35, 417, 418, 419, 420, 44, 45, 640, 641, 642, 643, 644, 645, 693, 694, 695, 696, 697, 698, 699, 673, 674, 675, 676, 677, 678, 679, 680, 681, 686, 687, 688, 689] (by decide +kernel) (by decide +kernel)
set_option maxRecDepth 20000 in
theorem gL_law_X6_draw : GoodIn wsL_law (wsV RL 95 RX6 yX6_draw wsX6_draw) := goodIn_app (goodIn_of _ (by decide +kernel)) ggL_law_X6_draw
set_option maxRecDepth 20000 in
theorem ggL_law_X7_draw : GoodIn wsL_law wsX7_draw := goodIn_r _ [514, 156, 282, 115, 113, 396, 397, 398, 5, 399, 108, 157, 158, 159, 494, 495, 496, 497, 100, 101, 102, 370, 371, 372, 646, 647, 648, 649, 650, 651, 652, 653, 654, 655, 656, 657, 658, 659, 660, 661, 662, 663, 664, 665, 666, 667, 668, 669, 670, 671, 672] (by decide +kernel) (by decide +kernel)
set_option maxRecDepth 20000 in
theorem gL_law_X7_draw : GoodIn wsL_law (wsV RL 98 RX7 yX7_draw wsX7_draw) := goodIn_app (goodIn_of _ (by decide +kernel)) ggL_law_X7_draw
set_option maxRecDepth 20000 in
theorem ggL_law_X6_drawn : GoodIn wsL_law wsX6_drawn := goodIn_r _ [518, 15, 510, 382, 383, 384, 14, 385, 386, 131, 132, 133, 34, 35, 387, 303, 304, 33, 305, 53, 138, 2, 139, 640, 641, 642, 643, 644, 645, 673, 674, 675, 676, 677, 678, 679, 680, 681, 686, 687, 688, 689] (by decide +kernel) (by decide +kernel)
set_option maxRecDepth 20000 in
theorem gL_law_X6_drawn : GoodIn wsL_law (wsV RL 99 RX6 yX6_drawn wsX6_drawn) := goodIn_app (goodIn_of _ (by decide +kernel)) ggL_law_X6_drawn
set_option maxRecDepth 20000 in
theorem ggL_law_X7_drawn : GoodIn wsL_law wsX7_drawn := goodIn_r _ [522, 156, 115, 314, 315, 316, 5, 317, 100, 157, 158, 159, 646, 647, 648, 649, 650, 651, 652, 653, 654, 655, 656, 657, 658, 659, 660, 661, 662, 663, 664, 665, 666, 667, 668, 669, 670, 671, 672] (by decide +kernel) (by decide +kernel)
set_option maxRecDepth 20000 in
theorem gL_law_X7_drawn : GoodIn wsL_law (wsV RL 102 RX7 yX7_drawn wsX7_drawn) := goodIn_app (goodIn_of _ (by decide +kernel)) ggL_law_X7_drawn
set_option maxRecDepth 20000 in
theorem ggL_law_X6_expect : GoodIn wsL_law wsX6_expect := goodIn_r _ [526, 15, 483, 378, 379, 380, 14, 381, 43, 41, 138, 2, 139, 407, 408, 409, 410, 411, 383, 384, 385, 386, 131, 132, 133, 34, 35, 387, 303, 304, 33, 305, 53, 527, 528, 529, 75, 530, 83, 84, 85, 86, 87, 640, 641, 642, 643, 644, 645, 693, 694, 695, 696, 697, 698, 699, 673, 674, 675, 676, 677, 678, 679, 680, 681, 686, 687, 688, 689, 700, 701, 702, 703, 704] (by decide +kernel) (by decide +kernel)
set_option maxRecDepth 20000 in
theorem gL_law_X6_expect : GoodIn wsL_law (wsV RL 103 RX6 yX6_expect wsX6_expect) := goodIn_app (goodIn_of _ (by decide +kernel)) ggL_law_X6_expect
set_option maxRecDepth 20000 in
theorem ggL_law_X7_expect : GoodIn wsL_law wsX7_expect := goodIn_r _ [534, 156, 112, 116, 457, 458, 459, 5, 460, 396, 397, 398, 399, 108, 157, 158, 159, 314, 315, 316, 317, 100, 646, 647, 648, 649, 650, 651, 652, 653, 654, 655, 656, 657, 658, 659, 660, 661, 662, 663, 664, 665, 666, 667, 668, 669, 670, 671, 672] (by decide +kernel) (by decide +kernel)
set_option maxRecDepth 20000 in
theorem gL_law_X7_expect : GoodIn wsL_law (wsV RL 106 RX7 yX7_expect wsX7_expect) := goodIn_app (goodIn_of _ (by decide +kernel)) ggL_law_X7_expect
set_option maxRecDepth 20000 in
theorem ggL_law_X6_forget : GoodIn wsL_law wsX6_forget := goodIn_r _ [538, 15, 483, 484, 378, 379, 380, 14, 381, 43, 41, 138, 2, 139, 640, 641, 642, 643, 644, 645, 693, 694, 695, 696, 697, 698, 699, 700, 701, 702, 703, 704, 673, 674, 675, 676, 677, 678, 679, 680, 681] (by decide +kernel) (by decide +kernel)
set_option maxRecDepth 20000 in
theorem gL_law_X6_forget : GoodIn wsL_law (wsV RL 107 RX6 yX6_forget wsX6_forget) := goodIn_app (goodIn_of _ (by decide +kernel)) ggL_law_X6_forget
set_option maxRecDepth 20000 in
theorem ggL_law_X7_forget : GoodIn wsL_law wsX7_forget := goodIn_r _ [542, 156, 112, 396, 397, 398, 5, 399, 108, 157, 158, 159, 646, 647, 648, 649, 650, 651, 652, 653, 654, 655, 656, 657, 658, 659, 660, 661, 662, 663, 664, 665, 666, 667, 668, 669, 670, 671, 672] (by decide +kernel) (by decide +kernel)
set_option maxRecDepth 20000 in
theorem gL_law_X7_forget : GoodIn wsL_law (wsV RL 110 RX7 yX7_forget wsX7_forget) := goodIn_app (goodIn_of _ (by decide +kernel)) ggL_law_X7_forget
set_option maxRecDepth 20000 in
theorem ggL_law_X6_wanted : GoodIn wsL_law wsX6_wanted := goodIn_r _ [546, 15, 483, 378, 379, 380, 14, 381, 43, 41, 138, 2, 139, 382, 383, 384, 385, 386, 131, 132, 133, 34, 35, 387, 303, 304, 33, 305, 53, 547, 548, 549, 550, 484, 551, 552, 553, 554, 165, 404, 24, 555, 556, 265, 557, 412, 413, 414, 415, 416, 45, 417, 418, 419, 420, 44, 421, 227, 228, 296, 297, 298, 299, 56, 300, 301, 166, 306, 307, 308, 309, 54, 55, 640, 641, 642, 643, 644, 645, 693, 694, 695, 696, 697, 698, 699, 673, 674, 675, 676, 677, 678, 679, 680, 681, 686, 687, 688, 689, 700, 701, 702, 703, 704] (by decide +kernel) (by decide +kernel)
set_option maxRecDepth 20000 in
theorem gL_law_X6_wanted : GoodIn wsL_law (wsV RL 111 RX6 yX6_wanted wsX6_wanted) := goodIn_app (goodIn_of _ (by decide +kernel)) ggL_law_X6_wanted
set_option maxRecDepth 20000 in
theorem ggL_law_X7_wanted : GoodIn wsL_law wsX7_wanted := goodIn_r _ [561, 156, 124, 396, 397, 398, 5, 399, 108, 157, 158, 159, 314, 315, 316, 317, 100, 562, 563, 564, 565, 123, 112, 116, 102, 120, 461, 462, 463, 464, 101, 318, 319, 320, 321, 121, 322, 323, 324, 325, 119, 326, 118, 327, 328, 329, 330, 646, 647, 648, 649, 650, 651, 652, 653, 654, 655, 656, 657, 658, 659, 660, 661, 662, 663, 664, 665, 666, 667, 668, 669, 670, 671, 672] (by decide +kernel) (by decide +kernel)
set_option maxRecDepth 20000 in
theorem gL_law_X7_wanted : GoodIn wsL_law (wsV RL 114 RX7 yX7_wanted wsX7_wanted) := goodIn_app (goodIn_of _ (by decide +kernel)) ggL_law_X7_wanted
set_option maxRecDepth 20000 in
theorem ggL_law_X6_about : GoodIn wsL_law wsX6_about := goodIn_r _ [569, 15, 570, 571, 572, 14, 573, 39, 574, 43, 44, 45, 46, 575, 576, 577, 578, 226, 249, 579, 195, 196, 38, 197, 64, 138, 2, 139, 130, 131, 132, 133, 34, 35, 580, 581, 582, 33, 583, 53, 54, 584, 303, 304, 305, 640, 641, 642, 643, 644, 645, 673, 674, 675, 676, 677, 678, 679, 680, 681, 690, 691, 692, 686, 687, 688, 689] (by decide +kernel) (by decide +kernel)
set_option maxRecDepth 20000 in
theorem gL_law_X6_about : GoodIn wsL_law (wsV RL 115 RX6 yX6_about wsX6_about) := goodIn_app (goodIn_of _ (by decide +kernel)) ggL_law_X6_about
set_option maxRecDepth 20000 in
theorem ggL_law_X7_about : GoodIn wsL_law wsX7_about := goodIn_r _ [588, 156, 100, 101, 104, 108, 102, 107, 105, 106, 157, 158, 5, 159, 646, 647, 648, 649, 650, 651, 652, 653, 654, 655, 656, 657, 658, 659, 660, 661, 662, 663, 664, 665, 666, 667, 668, 669, 670, 671, 672] (by decide +kernel) (by decide +kernel)
set_option maxRecDepth 20000 in
theorem gL_law_X7_about : GoodIn wsL_law (wsV RL 118 RX7 yX7_about wsX7_about) := goodIn_app (goodIn_of _ (by decide +kernel)) ggL_law_X7_about
set_option maxRecDepth 20000 in
theorem ggL_law_X6_image : GoodIn wsL_law wsX6_image := goodIn_r _ [592, 16, 15, 18, 166, 138, 2, 139, 593, 594, 595, 14, 596, 34, 35, 39, 41, 42, 597, 598, 599, 600, 43, 44, 45, 46, 601, 602, 603, 33, 604, 53, 54, 605, 55, 56, 606, 607, 608, 38, 609, 64, 65, 610, 66, 611, 612, 613, 48, 614, 70, 615, 71, 72, 76, 77, 78, 79, 616, 617, 618, 75, 619, 83, 84, 620, 85, 86, 87, 640, 641, 642, 643, 644, 645, 673, 674, 675, 676, 677, 678, 679, 680, 681, 686, 687, 688, 689, 690, 691, 692, 693, 694, 695, 696, 697, 698, 699, 700, 701, 702, 703, 704] (by decide +kernel) (by decide +kernel)
set_option maxRecDepth 20000 in
theorem gL_law_X6_image : GoodIn wsL_law (wsV RL 119 RX6 yX6_image wsX6_image) := goodIn_app (goodIn_of _ (by decide +kernel)) ggL_law_X6_image
set_option maxRecDepth 20000 in
theorem ggL_law_X7_image : GoodIn wsL_law wsX7_image := goodIn_r _ [624, 156, 125, 157, 158, 5, 159, 625, 626, 627, 628, 100, 101, 102, 103, 104, 105, 106, 107, 108, 109, 112, 113, 114, 115, 116, 110, 111, 629, 630, 631, 646, 647, 648, 649, 650, 651, 652, 653, 654, 655, 656, 657, 658, 659, 660, 661, 662, 663, 664, 665, 666, 667, 668, 669, 670, 671, 672] (by decide +kernel) (by decide +kernel)
set_option maxRecDepth 20000 in
theorem gL_law_X7_image : GoodIn wsL_law (wsV RL 122 RX7 yX7_image wsX7_image) := goodIn_app (goodIn_of _ (by decide +kernel)) ggL_law_X7_image
set_option maxRecDepth 20000 in
theorem ggL_law_X6_again : GoodIn wsL_law wsX6_again := goodIn_r _ [635, 18, 15, 16, 166, 138, 2, 139, 593, 594, 595, 14, 596, 34, 35, 39, 41, 42, 597, 598, 599, 600, 43, 44, 45, 46, 601, 602, 603, 33, 604, 53, 54, 605, 55, 56, 606, 607, 608, 38, 609, 64, 65, 610, 66, 611, 612, 613, 48, 614, 70, 615, 71, 72, 76, 77, 78, 79, 616, 617, 618, 75, 619, 83, 84, 620, 85, 86, 87, 640, 641, 642, 643, 644, 645, 673, 674, 675, 676, 677, 678, 679, 680, 681, 686, 687, 688, 689, 690, 691, 692, 693, 694, 695, 696, 697, 698, 699, 700, 701, 702, 703, 704] (by decide +kernel) (by decide +kernel)
set_option maxRecDepth 20000 in
theorem gL_law_X6_again : GoodIn wsL_law (wsV RL 123 RX6 yX6_again wsX6_again) := goodIn_app (goodIn_of _ (by decide +kernel)) ggL_law_X6_again
set_option maxRecDepth 20000 in
theorem ggL_law_X7_again : GoodIn wsL_law wsX7_again := goodIn_r _ [639, 156, 125, 157, 158, 5, 159, 625, 626, 627, 628, 100, 101, 102, 103, 104, 105, 106, 107, 108, 109, 112, 113, 114, 115, 116, 110, 111, 629, 630, 631, 646, 647, 648, 649, 650, 651, 652, 653, 654, 655, 656, 657, 658, 659, 660, 661, 662, 663, 664, 665, 666, 667, 668, 669, 670, 671, 672] (by decide +kernel) (by decide +kernel)
set_option maxRecDepth 20000 in
theorem gL_law_X7_again : GoodIn wsL_law (wsV RL 126 RX7 yX7_again wsX7_again) := goodIn_app (goodIn_of _ (by decide +kernel)) ggL_law_X7_again
theorem dL_law_0 : decode cL_law 0 = .ok (.new 7, 3) := by decide +kernel
theorem dL_law_3 : decode cL_law 3 = .ok (.dup, 1) := by decide +kernel
theorem dL_law_4 : decode cL_law 4 = .ok (.invokespecial 9, 3) := by decide +kernel
theorem dL_law_7 : decode cL_law 7 = .ok (.astore_n 1, 1) := by decide +kernel
theorem dL_law_8 : decode cL_law 8 = .ok (.new 10, 3) := by decide +kernel
theorem dL_law_11 : decode cL_law 11 = .ok (.dup, 1) := by decide +kernel
theorem dL_law_12 : decode cL_law 12 = .ok (.invokespecial 12, 3) := by decide +kernel
theorem dL_law_15 : decode cL_law 15 = .ok (.astore_n 2, 1) := by decide +kernel
theorem dL_law_16 : decode cL_law 16 = .ok (.iconst 0, 1) := by decide +kernel
theorem dL_law_17 : decode cL_law 17 = .ok (.istore_n 3, 1) := by decide +kernel
theorem dL_law_18 : decode cL_law 18 = .ok (.iload_n 3, 1) := by decide +kernel
theorem dL_law_19 : decode cL_law 19 = .ok (.aload_n 0, 1) := by decide +kernel
theorem dL_law_20 : decode cL_law 20 = .ok (.arraylength, 1) := by decide +kernel
theorem dL_law_21 : decode cL_law 21 = .ok (.bipush 6, 2) := by decide +kernel
theorem dL_law_23 : decode cL_law 23 = .ok (.isub, 1) := by decide +kernel
theorem dL_law_24 : decode cL_law 24 = .ok (.if_icmp .gt 966, 3) := by decide +kernel
theorem dL_law_27 : decode cL_law 27 = .ok (.aload_n 0, 1) := by decide +kernel
theorem dL_law_28 : decode cL_law 28 = .ok (.iload_n 3, 1) := by decide +kernel
theorem dL_law_29 : decode cL_law 29 = .ok (.iaload, 1) := by decide +kernel
theorem dL_law_30 : decode cL_law 30 = .ok (.bipush 31, 2) := by decide +kernel
theorem dL_law_32 : decode cL_law 32 = .ok (.iand, 1) := by decide +kernel
theorem dL_law_33 : decode cL_law 33 = .ok (.tableswitch 951 0 25 #[119, 152, 185, 218, 251, 274, 307, 331, 344, 368, 411, 444, 467, 480, 533, 596, 629, 663, 706, 730, 753, 816, 839, 872, 905, 928], 119) := by decide +kernel
theorem dL_law_152 : decode cL_law 152 = .ok (.aload_n 1, 1) := by decide +kernel
theorem dL_law_153 : decode cL_law 153 = .ok (.aload_n 0, 1) := by decide +kernel
theorem dL_law_154 : decode cL_law 154 = .ok (.iload_n 3, 1) := by decide +kernel
theorem dL_law_155 : decode cL_law 155 = .ok (.iconst 1, 1) := by decide +kernel
theorem dL_law_156 : decode cL_law 156 = .ok (.iadd, 1) := by decide +kernel
theorem dL_law_157 : decode cL_law 157 = .ok (.iaload, 1) := by decide +kernel
theorem dL_law_158 : decode cL_law 158 = .ok (.aload_n 0, 1) := by decide +kernel
theorem dL_law_159 : decode cL_law 159 = .ok (.iload_n 3, 1) := by decide +kernel
theorem dL_law_160 : decode cL_law 160 = .ok (.iconst 2, 1) := by decide +kernel
theorem dL_law_161 : decode cL_law 161 = .ok (.iadd, 1) := by decide +kernel
theorem dL_law_162 : decode cL_law 162 = .ok (.iaload, 1) := by decide +kernel
theorem dL_law_163 : decode cL_law 163 = .ok (.invokevirtual 13, 3) := by decide +kernel
theorem dL_law_166 : decode cL_law 166 = .ok (.aload_n 2, 1) := by decide +kernel
theorem dL_law_167 : decode cL_law 167 = .ok (.aload_n 0, 1) := by decide +kernel
theorem dL_law_168 : decode cL_law 168 = .ok (.iload_n 3, 1) := by decide +kernel
theorem dL_law_169 : decode cL_law 169 = .ok (.iconst 1, 1) := by decide +kernel
theorem dL_law_170 : decode cL_law 170 = .ok (.iadd, 1) := by decide +kernel
theorem dL_law_171 : decode cL_law 171 = .ok (.iaload, 1) := by decide +kernel
theorem dL_law_172 : decode cL_law 172 = .ok (.aload_n 0, 1) := by decide +kernel
theorem dL_law_173 : decode cL_law 173 = .ok (.iload_n 3, 1) := by decide +kernel
theorem dL_law_174 : decode cL_law 174 = .ok (.iconst 2, 1) := by decide +kernel
theorem dL_law_175 : decode cL_law 175 = .ok (.iadd, 1) := by decide +kernel
theorem dL_law_176 : decode cL_law 176 = .ok (.iaload, 1) := by decide +kernel
theorem dL_law_177 : decode cL_law 177 = .ok (.invokevirtual 17, 3) := by decide +kernel
theorem dL_law_180 : decode cL_law 180 = .ok (.if_icmp .eq 804, 3) := by decide +kernel
theorem dL_law_183 : decode cL_law 183 = .ok (.iconst 0, 1) := by decide +kernel
theorem dL_law_184 : decode cL_law 184 = .ok (.ireturn, 1) := by decide +kernel
theorem dL_law_185 : decode cL_law 185 = .ok (.aload_n 1, 1) := by decide +kernel
theorem dL_law_186 : decode cL_law 186 = .ok (.aload_n 0, 1) := by decide +kernel
theorem dL_law_187 : decode cL_law 187 = .ok (.iload_n 3, 1) := by decide +kernel
theorem dL_law_188 : decode cL_law 188 = .ok (.iconst 1, 1) := by decide +kernel
theorem dL_law_189 : decode cL_law 189 = .ok (.iadd, 1) := by decide +kernel
theorem dL_law_190 : decode cL_law 190 = .ok (.iaload, 1) := by decide +kernel
theorem dL_law_191 : decode cL_law 191 = .ok (.aload_n 0, 1) := by decide +kernel
theorem dL_law_192 : decode cL_law 192 = .ok (.iload_n 3, 1) := by decide +kernel
theorem dL_law_193 : decode cL_law 193 = .ok (.iconst 2, 1) := by decide +kernel
theorem dL_law_194 : decode cL_law 194 = .ok (.iadd, 1) := by decide +kernel
theorem dL_law_195 : decode cL_law 195 = .ok (.iaload, 1) := by decide +kernel
theorem dL_law_196 : decode cL_law 196 = .ok (.invokevirtual 18, 3) := by decide +kernel
theorem dL_law_199 : decode cL_law 199 = .ok (.aload_n 2, 1) := by decide +kernel
theorem dL_law_200 : decode cL_law 200 = .ok (.aload_n 0, 1) := by decide +kernel
theorem dL_law_201 : decode cL_law 201 = .ok (.iload_n 3, 1) := by decide +kernel
theorem dL_law_202 : decode cL_law 202 = .ok (.iconst 1, 1) := by decide +kernel
theorem dL_law_203 : decode cL_law 203 = .ok (.iadd, 1) := by decide +kernel
theorem dL_law_204 : decode cL_law 204 = .ok (.iaload, 1) := by decide +kernel
theorem dL_law_205 : decode cL_law 205 = .ok (.aload_n 0, 1) := by decide +kernel
theorem dL_law_206 : decode cL_law 206 = .ok (.iload_n 3, 1) := by decide +kernel
theorem dL_law_207 : decode cL_law 207 = .ok (.iconst 2, 1) := by decide +kernel
theorem dL_law_208 : decode cL_law 208 = .ok (.iadd, 1) := by decide +kernel
theorem dL_law_209 : decode cL_law 209 = .ok (.iaload, 1) := by decide +kernel
theorem dL_law_210 : decode cL_law 210 = .ok (.invokevirtual 22, 3) := by decide +kernel
theorem dL_law_213 : decode cL_law 213 = .ok (.if_icmp .eq 771, 3) := by decide +kernel
theorem dL_law_216 : decode cL_law 216 = .ok (.iconst 0, 1) := by decide +kernel
theorem dL_law_217 : decode cL_law 217 = .ok (.ireturn, 1) := by decide +kernel
theorem dL_law_218 : decode cL_law 218 = .ok (.aload_n 1, 1) := by decide +kernel
theorem dL_law_219 : decode cL_law 219 = .ok (.aload_n 0, 1) := by decide +kernel
theorem dL_law_220 : decode cL_law 220 = .ok (.iload_n 3, 1) := by decide +kernel
theorem dL_law_221 : decode cL_law 221 = .ok (.iconst 1, 1) := by decide +kernel
theorem dL_law_222 : decode cL_law 222 = .ok (.iadd, 1) := by decide +kernel
theorem dL_law_223 : decode cL_law 223 = .ok (.iaload, 1) := by decide +kernel
theorem dL_law_224 : decode cL_law 224 = .ok (.aload_n 0, 1) := by decide +kernel
theorem dL_law_225 : decode cL_law 225 = .ok (.iload_n 3, 1) := by decide +kernel
theorem dL_law_226 : decode cL_law 226 = .ok (.iconst 2, 1) := by decide +kernel
theorem dL_law_227 : decode cL_law 227 = .ok (.iadd, 1) := by decide +kernel
theorem dL_law_228 : decode cL_law 228 = .ok (.iaload, 1) := by decide +kernel
theorem dL_law_229 : decode cL_law 229 = .ok (.invokevirtual 23, 3) := by decide +kernel
theorem dL_law_232 : decode cL_law 232 = .ok (.aload_n 2, 1) := by decide +kernel
theorem dL_law_233 : decode cL_law 233 = .ok (.aload_n 0, 1) := by decide +kernel
theorem dL_law_234 : decode cL_law 234 = .ok (.iload_n 3, 1) := by decide +kernel
theorem dL_law_235 : decode cL_law 235 = .ok (.iconst 1, 1) := by decide +kernel
theorem dL_law_236 : decode cL_law 236 = .ok (.iadd, 1) := by decide +kernel
theorem dL_law_237 : decode cL_law 237 = .ok (.iaload, 1) := by decide +kernel
theorem dL_law_238 : decode cL_law 238 = .ok (.aload_n 0, 1) := by decide +kernel
theorem dL_law_239 : decode cL_law 239 = .ok (.iload_n 3, 1) := by decide +kernel
theorem dL_law_240 : decode cL_law 240 = .ok (.iconst 2, 1) := by decide +kernel
theorem dL_law_241 : decode cL_law 241 = .ok (.iadd, 1) := by decide +kernel
theorem dL_law_242 : decode cL_law 242 = .ok (.iaload, 1) := by decide +kernel
theorem dL_law_243 : decode cL_law 243 = .ok (.invokevirtual 26, 3) := by decide +kernel
theorem dL_law_246 : decode cL_law 246 = .ok (.if_icmp .eq 738, 3) := by decide +kernel
theorem dL_law_249 : decode cL_law 249 = .ok (.iconst 0, 1) := by decide +kernel
theorem dL_law_250 : decode cL_law 250 = .ok (.ireturn, 1) := by decide +kernel
theorem dL_law_251 : decode cL_law 251 = .ok (.aload_n 1, 1) := by decide +kernel
theorem dL_law_252 : decode cL_law 252 = .ok (.aload_n 0, 1) := by decide +kernel
theorem dL_law_253 : decode cL_law 253 = .ok (.iload_n 3, 1) := by decide +kernel
theorem dL_law_254 : decode cL_law 254 = .ok (.iconst 1, 1) := by decide +kernel
theorem dL_law_255 : decode cL_law 255 = .ok (.iadd, 1) := by decide +kernel
theorem dL_law_256 : decode cL_law 256 = .ok (.iaload, 1) := by decide +kernel
theorem dL_law_257 : decode cL_law 257 = .ok (.aload_n 0, 1) := by decide +kernel
theorem dL_law_258 : decode cL_law 258 = .ok (.iload_n 3, 1) := by decide +kernel
theorem dL_law_259 : decode cL_law 259 = .ok (.iconst 2, 1) := by decide +kernel
theorem dL_law_260 : decode cL_law 260 = .ok (.iadd, 1) := by decide +kernel
theorem dL_law_261 : decode cL_law 261 = .ok (.iaload, 1) := by decide +kernel
theorem dL_law_262 : decode cL_law 262 = .ok (.invokevirtual 27, 3) := by decide +kernel
theorem dL_law_265 : decode cL_law 265 = .ok (.aload_n 2, 1) := by decide +kernel
theorem dL_law_266 : decode cL_law 266 = .ok (.aload_n 0, 1) := by decide +kernel
theorem dL_law_267 : decode cL_law 267 = .ok (.iload_n 3, 1) := by decide +kernel
theorem dL_law_268 : decode cL_law 268 = .ok (.iconst 1, 1) := by decide +kernel
theorem dL_law_269 : decode cL_law 269 = .ok (.iadd, 1) := by decide +kernel
theorem dL_law_270 : decode cL_law 270 = .ok (.iaload, 1) := by decide +kernel
theorem dL_law_271 : decode cL_law 271 = .ok (.aload_n 0, 1) := by decide +kernel
theorem dL_law_272 : decode cL_law 272 = .ok (.iload_n 3, 1) := by decide +kernel
theorem dL_law_273 : decode cL_law 273 = .ok (.iconst 2, 1) := by decide +kernel
theorem dL_law_274 : decode cL_law 274 = .ok (.iadd, 1) := by decide +kernel
theorem dL_law_275 : decode cL_law 275 = .ok (.iaload, 1) := by decide +kernel
theorem dL_law_276 : decode cL_law 276 = .ok (.invokevirtual 30, 3) := by decide +kernel
theorem dL_law_279 : decode cL_law 279 = .ok (.if_icmp .eq 705, 3) := by decide +kernel
theorem dL_law_282 : decode cL_law 282 = .ok (.iconst 0, 1) := by decide +kernel
theorem dL_law_283 : decode cL_law 283 = .ok (.ireturn, 1) := by decide +kernel
theorem dL_law_284 : decode cL_law 284 = .ok (.aload_n 1, 1) := by decide +kernel
theorem dL_law_285 : decode cL_law 285 = .ok (.aload_n 0, 1) := by decide +kernel
theorem dL_law_286 : decode cL_law 286 = .ok (.iload_n 3, 1) := by decide +kernel
theorem dL_law_287 : decode cL_law 287 = .ok (.iconst 1, 1) := by decide +kernel
theorem dL_law_288 : decode cL_law 288 = .ok (.iadd, 1) := by decide +kernel
theorem dL_law_289 : decode cL_law 289 = .ok (.iaload, 1) := by decide +kernel
theorem dL_law_290 : decode cL_law 290 = .ok (.invokevirtual 31, 3) := by decide +kernel
theorem dL_law_293 : decode cL_law 293 = .ok (.aload_n 2, 1) := by decide +kernel
theorem dL_law_294 : decode cL_law 294 = .ok (.aload_n 0, 1) := by decide +kernel
theorem dL_law_295 : decode cL_law 295 = .ok (.iload_n 3, 1) := by decide +kernel
theorem dL_law_296 : decode cL_law 296 = .ok (.iconst 1, 1) := by decide +kernel
theorem dL_law_297 : decode cL_law 297 = .ok (.iadd, 1) := by decide +kernel
theorem dL_law_298 : decode cL_law 298 = .ok (.iaload, 1) := by decide +kernel
theorem dL_law_299 : decode cL_law 299 = .ok (.invokevirtual 35, 3) := by decide +kernel
theorem dL_law_302 : decode cL_law 302 = .ok (.if_icmp .eq 682, 3) := by decide +kernel
theorem dL_law_305 : decode cL_law 305 = .ok (.iconst 0, 1) := by decide +kernel
theorem dL_law_306 : decode cL_law 306 = .ok (.ireturn, 1) := by decide +kernel
theorem dL_law_307 : decode cL_law 307 = .ok (.aload_n 1, 1) := by decide +kernel
theorem dL_law_308 : decode cL_law 308 = .ok (.aload_n 0, 1) := by decide +kernel
theorem dL_law_309 : decode cL_law 309 = .ok (.iload_n 3, 1) := by decide +kernel
theorem dL_law_310 : decode cL_law 310 = .ok (.iconst 1, 1) := by decide +kernel
theorem dL_law_311 : decode cL_law 311 = .ok (.iadd, 1) := by decide +kernel
theorem dL_law_312 : decode cL_law 312 = .ok (.iaload, 1) := by decide +kernel
theorem dL_law_313 : decode cL_law 313 = .ok (.aload_n 0, 1) := by decide +kernel
theorem dL_law_314 : decode cL_law 314 = .ok (.iload_n 3, 1) := by decide +kernel
theorem dL_law_315 : decode cL_law 315 = .ok (.iconst 2, 1) := by decide +kernel
theorem dL_law_316 : decode cL_law 316 = .ok (.iadd, 1) := by decide +kernel
theorem dL_law_317 : decode cL_law 317 = .ok (.iaload, 1) := by decide +kernel
theorem dL_law_318 : decode cL_law 318 = .ok (.invokevirtual 36, 3) := by decide +kernel
theorem dL_law_321 : decode cL_law 321 = .ok (.aload_n 2, 1) := by decide +kernel
theorem dL_law_322 : decode cL_law 322 = .ok (.aload_n 0, 1) := by decide +kernel
theorem dL_law_323 : decode cL_law 323 = .ok (.iload_n 3, 1) := by decide +kernel
theorem dL_law_324 : decode cL_law 324 = .ok (.iconst 1, 1) := by decide +kernel
theorem dL_law_325 : decode cL_law 325 = .ok (.iadd, 1) := by decide +kernel
theorem dL_law_326 : decode cL_law 326 = .ok (.iaload, 1) := by decide +kernel
theorem dL_law_327 : decode cL_law 327 = .ok (.aload_n 0, 1) := by decide +kernel
theorem dL_law_328 : decode cL_law 328 = .ok (.iload_n 3, 1) := by decide +kernel
theorem dL_law_329 : decode cL_law 329 = .ok (.iconst 2, 1) := by decide +kernel
theorem dL_law_330 : decode cL_law 330 = .ok (.iadd, 1) := by decide +kernel
theorem dL_law_331 : decode cL_law 331 = .ok (.iaload, 1) := by decide +kernel
theorem dL_law_332 : decode cL_law 332 = .ok (.invokevirtual 39, 3) := by decide +kernel
theorem dL_law_335 : decode cL_law 335 = .ok (.if_icmp .eq 649, 3) := by decide +kernel
theorem dL_law_338 : decode cL_law 338 = .ok (.iconst 0, 1) := by decide +kernel
theorem dL_law_339 : decode cL_law 339 = .ok (.ireturn, 1) := by decide +kernel
theorem dL_law_340 : decode cL_law 340 = .ok (.aload_n 1, 1) := by decide +kernel
theorem dL_law_341 : decode cL_law 341 = .ok (.aload_n 0, 1) := by decide +kernel
theorem dL_law_342 : decode cL_law 342 = .ok (.iload_n 3, 1) := by decide +kernel
theorem dL_law_343 : decode cL_law 343 = .ok (.iconst 1, 1) := by decide +kernel
theorem dL_law_344 : decode cL_law 344 = .ok (.iadd, 1) := by decide +kernel
theorem dL_law_345 : decode cL_law 345 = .ok (.iaload, 1) := by decide +kernel
theorem dL_law_346 : decode cL_law 346 = .ok (.invokevirtual 40, 3) := by decide +kernel
theorem dL_law_349 : decode cL_law 349 = .ok (.aload_n 2, 1) := by decide +kernel
theorem dL_law_350 : decode cL_law 350 = .ok (.aload_n 0, 1) := by decide +kernel
theorem dL_law_351 : decode cL_law 351 = .ok (.iload_n 3, 1) := by decide +kernel
theorem dL_law_352 : decode cL_law 352 = .ok (.iconst 1, 1) := by decide +kernel
theorem dL_law_353 : decode cL_law 353 = .ok (.iadd, 1) := by decide +kernel
theorem dL_law_354 : decode cL_law 354 = .ok (.iaload, 1) := by decide +kernel
theorem dL_law_355 : decode cL_law 355 = .ok (.invokevirtual 44, 3) := by decide +kernel
theorem dL_law_358 : decode cL_law 358 = .ok (.lcmp, 1) := by decide +kernel
theorem dL_law_359 : decode cL_law 359 = .ok (.ifCond .eq 625, 3) := by decide +kernel
theorem dL_law_362 : decode cL_law 362 = .ok (.iconst 0, 1) := by decide +kernel
theorem dL_law_363 : decode cL_law 363 = .ok (.ireturn, 1) := by decide +kernel
theorem dL_law_364 : decode cL_law 364 = .ok (.aload_n 1, 1) := by decide +kernel
theorem dL_law_365 : decode cL_law 365 = .ok (.invokevirtual 45, 3) := by decide +kernel
theorem dL_law_368 : decode cL_law 368 = .ok (.aload_n 2, 1) := by decide +kernel
theorem dL_law_369 : decode cL_law 369 = .ok (.invokevirtual 49, 3) := by decide +kernel
theorem dL_law_372 : decode cL_law 372 = .ok (.if_icmp .eq 612, 3) := by decide +kernel
theorem dL_law_375 : decode cL_law 375 = .ok (.iconst 0, 1) := by decide +kernel
theorem dL_law_376 : decode cL_law 376 = .ok (.ireturn, 1) := by decide +kernel
theorem dL_law_377 : decode cL_law 377 = .ok (.aload_n 1, 1) := by decide +kernel
theorem dL_law_378 : decode cL_law 378 = .ok (.aload_n 0, 1) := by decide +kernel
theorem dL_law_379 : decode cL_law 379 = .ok (.iload_n 3, 1) := by decide +kernel
theorem dL_law_380 : decode cL_law 380 = .ok (.iconst 1, 1) := by decide +kernel
theorem dL_law_381 : decode cL_law 381 = .ok (.iadd, 1) := by decide +kernel
theorem dL_law_382 : decode cL_law 382 = .ok (.iaload, 1) := by decide +kernel
theorem dL_law_383 : decode cL_law 383 = .ok (.invokevirtual 50, 3) := by decide +kernel
theorem dL_law_386 : decode cL_law 386 = .ok (.aload_n 2, 1) := by decide +kernel
theorem dL_law_387 : decode cL_law 387 = .ok (.aload_n 0, 1) := by decide +kernel
theorem dL_law_388 : decode cL_law 388 = .ok (.iload_n 3, 1) := by decide +kernel
theorem dL_law_389 : decode cL_law 389 = .ok (.iconst 1, 1) := by decide +kernel
theorem dL_law_390 : decode cL_law 390 = .ok (.iadd, 1) := by decide +kernel
theorem dL_law_391 : decode cL_law 391 = .ok (.iaload, 1) := by decide +kernel
theorem dL_law_392 : decode cL_law 392 = .ok (.invokevirtual 53, 3) := by decide +kernel
theorem dL_law_395 : decode cL_law 395 = .ok (.lcmp, 1) := by decide +kernel
theorem dL_law_396 : decode cL_law 396 = .ok (.ifCond .eq 588, 3) := by decide +kernel
theorem dL_law_399 : decode cL_law 399 = .ok (.iconst 0, 1) := by decide +kernel
theorem dL_law_400 : decode cL_law 400 = .ok (.ireturn, 1) := by decide +kernel
theorem dL_law_401 : decode cL_law 401 = .ok (.aload_n 1, 1) := by decide +kernel
theorem dL_law_402 : decode cL_law 402 = .ok (.aload_n 0, 1) := by decide +kernel
theorem dL_law_403 : decode cL_law 403 = .ok (.iload_n 3, 1) := by decide +kernel
theorem dL_law_404 : decode cL_law 404 = .ok (.iconst 1, 1) := by decide +kernel
theorem dL_law_405 : decode cL_law 405 = .ok (.iadd, 1) := by decide +kernel
theorem dL_law_406 : decode cL_law 406 = .ok (.iaload, 1) := by decide +kernel
theorem dL_law_407 : decode cL_law 407 = .ok (.aload_n 0, 1) := by decide +kernel
theorem dL_law_408 : decode cL_law 408 = .ok (.iload_n 3, 1) := by decide +kernel
theorem dL_law_409 : decode cL_law 409 = .ok (.iconst 2, 1) := by decide +kernel
theorem dL_law_410 : decode cL_law 410 = .ok (.iadd, 1) := by decide +kernel
theorem dL_law_411 : decode cL_law 411 = .ok (.iaload, 1) := by decide +kernel
theorem dL_law_412 : decode cL_law 412 = .ok (.aload_n 0, 1) := by decide +kernel
theorem dL_law_413 : decode cL_law 413 = .ok (.iload_n 3, 1) := by decide +kernel
theorem dL_law_414 : decode cL_law 414 = .ok (.iconst 3, 1) := by decide +kernel
theorem dL_law_415 : decode cL_law 415 = .ok (.iadd, 1) := by decide +kernel
theorem dL_law_416 : decode cL_law 416 = .ok (.iaload, 1) := by decide +kernel
theorem dL_law_417 : decode cL_law 417 = .ok (.invokevirtual 54, 3) := by decide +kernel
theorem dL_law_420 : decode cL_law 420 = .ok (.aload_n 2, 1) := by decide +kernel
theorem dL_law_421 : decode cL_law 421 = .ok (.aload_n 0, 1) := by decide +kernel
theorem dL_law_422 : decode cL_law 422 = .ok (.iload_n 3, 1) := by decide +kernel
theorem dL_law_423 : decode cL_law 423 = .ok (.iconst 1, 1) := by decide +kernel
theorem dL_law_424 : decode cL_law 424 = .ok (.iadd, 1) := by decide +kernel
theorem dL_law_425 : decode cL_law 425 = .ok (.iaload, 1) := by decide +kernel
theorem dL_law_426 : decode cL_law 426 = .ok (.aload_n 0, 1) := by decide +kernel
theorem dL_law_427 : decode cL_law 427 = .ok (.iload_n 3, 1) := by decide +kernel
theorem dL_law_428 : decode cL_law 428 = .ok (.iconst 2, 1) := by decide +kernel
theorem dL_law_429 : decode cL_law 429 = .ok (.iadd, 1) := by decide +kernel
theorem dL_law_430 : decode cL_law 430 = .ok (.iaload, 1) := by decide +kernel
theorem dL_law_431 : decode cL_law 431 = .ok (.aload_n 0, 1) := by decide +kernel
theorem dL_law_432 : decode cL_law 432 = .ok (.iload_n 3, 1) := by decide +kernel
theorem dL_law_433 : decode cL_law 433 = .ok (.iconst 3, 1) := by decide +kernel
theorem dL_law_434 : decode cL_law 434 = .ok (.iadd, 1) := by decide +kernel
theorem dL_law_435 : decode cL_law 435 = .ok (.iaload, 1) := by decide +kernel
theorem dL_law_436 : decode cL_law 436 = .ok (.invokevirtual 58, 3) := by decide +kernel
theorem dL_law_439 : decode cL_law 439 = .ok (.if_icmp .eq 545, 3) := by decide +kernel
theorem dL_law_442 : decode cL_law 442 = .ok (.iconst 0, 1) := by decide +kernel
theorem dL_law_443 : decode cL_law 443 = .ok (.ireturn, 1) := by decide +kernel
theorem dL_law_444 : decode cL_law 444 = .ok (.aload_n 1, 1) := by decide +kernel
theorem dL_law_445 : decode cL_law 445 = .ok (.aload_n 0, 1) := by decide +kernel
theorem dL_law_446 : decode cL_law 446 = .ok (.iload_n 3, 1) := by decide +kernel
theorem dL_law_447 : decode cL_law 447 = .ok (.iconst 1, 1) := by decide +kernel
theorem dL_law_448 : decode cL_law 448 = .ok (.iadd, 1) := by decide +kernel
theorem dL_law_449 : decode cL_law 449 = .ok (.iaload, 1) := by decide +kernel
theorem dL_law_450 : decode cL_law 450 = .ok (.aload_n 0, 1) := by decide +kernel
theorem dL_law_451 : decode cL_law 451 = .ok (.iload_n 3, 1) := by decide +kernel
theorem dL_law_452 : decode cL_law 452 = .ok (.iconst 2, 1) := by decide +kernel
theorem dL_law_453 : decode cL_law 453 = .ok (.iadd, 1) := by decide +kernel
theorem dL_law_454 : decode cL_law 454 = .ok (.iaload, 1) := by decide +kernel
theorem dL_law_455 : decode cL_law 455 = .ok (.invokevirtual 59, 3) := by decide +kernel
theorem dL_law_458 : decode cL_law 458 = .ok (.aload_n 2, 1) := by decide +kernel
theorem dL_law_459 : decode cL_law 459 = .ok (.aload_n 0, 1) := by decide +kernel
theorem dL_law_460 : decode cL_law 460 = .ok (.iload_n 3, 1) := by decide +kernel
theorem dL_law_461 : decode cL_law 461 = .ok (.iconst 1, 1) := by decide +kernel
theorem dL_law_462 : decode cL_law 462 = .ok (.iadd, 1) := by decide +kernel
theorem dL_law_463 : decode cL_law 463 = .ok (.iaload, 1) := by decide +kernel
theorem dL_law_464 : decode cL_law 464 = .ok (.aload_n 0, 1) := by decide +kernel
theorem dL_law_465 : decode cL_law 465 = .ok (.iload_n 3, 1) := by decide +kernel
theorem dL_law_466 : decode cL_law 466 = .ok (.iconst 2, 1) := by decide +kernel
theorem dL_law_467 : decode cL_law 467 = .ok (.iadd, 1) := by decide +kernel
theorem dL_law_468 : decode cL_law 468 = .ok (.iaload, 1) := by decide +kernel
theorem dL_law_469 : decode cL_law 469 = .ok (.invokevirtual 62, 3) := by decide +kernel
theorem dL_law_472 : decode cL_law 472 = .ok (.if_icmp .eq 512, 3) := by decide +kernel
theorem dL_law_475 : decode cL_law 475 = .ok (.iconst 0, 1) := by decide +kernel
theorem dL_law_476 : decode cL_law 476 = .ok (.ireturn, 1) := by decide +kernel
theorem dL_law_477 : decode cL_law 477 = .ok (.aload_n 1, 1) := by decide +kernel
theorem dL_law_478 : decode cL_law 478 = .ok (.aload_n 0, 1) := by decide +kernel
theorem dL_law_479 : decode cL_law 479 = .ok (.iload_n 3, 1) := by decide +kernel
theorem dL_law_480 : decode cL_law 480 = .ok (.iconst 1, 1) := by decide +kernel
theorem dL_law_481 : decode cL_law 481 = .ok (.iadd, 1) := by decide +kernel
theorem dL_law_482 : decode cL_law 482 = .ok (.iaload, 1) := by decide +kernel
theorem dL_law_483 : decode cL_law 483 = .ok (.invokevirtual 63, 3) := by decide +kernel
theorem dL_law_486 : decode cL_law 486 = .ok (.aload_n 2, 1) := by decide +kernel
theorem dL_law_487 : decode cL_law 487 = .ok (.aload_n 0, 1) := by decide +kernel
theorem dL_law_488 : decode cL_law 488 = .ok (.iload_n 3, 1) := by decide +kernel
theorem dL_law_489 : decode cL_law 489 = .ok (.iconst 1, 1) := by decide +kernel
theorem dL_law_490 : decode cL_law 490 = .ok (.iadd, 1) := by decide +kernel
theorem dL_law_491 : decode cL_law 491 = .ok (.iaload, 1) := by decide +kernel
theorem dL_law_492 : decode cL_law 492 = .ok (.invokevirtual 67, 3) := by decide +kernel
theorem dL_law_495 : decode cL_law 495 = .ok (.if_icmp .eq 489, 3) := by decide +kernel
theorem dL_law_498 : decode cL_law 498 = .ok (.iconst 0, 1) := by decide +kernel
theorem dL_law_499 : decode cL_law 499 = .ok (.ireturn, 1) := by decide +kernel
theorem dL_law_500 : decode cL_law 500 = .ok (.aload_n 1, 1) := by decide +kernel
theorem dL_law_501 : decode cL_law 501 = .ok (.invokevirtual 68, 3) := by decide +kernel
theorem dL_law_504 : decode cL_law 504 = .ok (.aload_n 2, 1) := by decide +kernel
theorem dL_law_505 : decode cL_law 505 = .ok (.invokevirtual 71, 3) := by decide +kernel
theorem dL_law_508 : decode cL_law 508 = .ok (.if_icmp .eq 476, 3) := by decide +kernel
theorem dL_law_511 : decode cL_law 511 = .ok (.iconst 0, 1) := by decide +kernel
theorem dL_law_512 : decode cL_law 512 = .ok (.ireturn, 1) := by decide +kernel
theorem dL_law_513 : decode cL_law 513 = .ok (.aload_n 1, 1) := by decide +kernel
theorem dL_law_514 : decode cL_law 514 = .ok (.aload_n 0, 1) := by decide +kernel
theorem dL_law_515 : decode cL_law 515 = .ok (.iload_n 3, 1) := by decide +kernel
theorem dL_law_516 : decode cL_law 516 = .ok (.iconst 1, 1) := by decide +kernel
theorem dL_law_517 : decode cL_law 517 = .ok (.iadd, 1) := by decide +kernel
theorem dL_law_518 : decode cL_law 518 = .ok (.iaload, 1) := by decide +kernel
theorem dL_law_519 : decode cL_law 519 = .ok (.aload_n 0, 1) := by decide +kernel
theorem dL_law_520 : decode cL_law 520 = .ok (.iload_n 3, 1) := by decide +kernel
theorem dL_law_521 : decode cL_law 521 = .ok (.iconst 2, 1) := by decide +kernel
theorem dL_law_522 : decode cL_law 522 = .ok (.iadd, 1) := by decide +kernel
theorem dL_law_523 : decode cL_law 523 = .ok (.iaload, 1) := by decide +kernel
theorem dL_law_524 : decode cL_law 524 = .ok (.aload_n 0, 1) := by decide +kernel
theorem dL_law_525 : decode cL_law 525 = .ok (.iload_n 3, 1) := by decide +kernel
theorem dL_law_526 : decode cL_law 526 = .ok (.iconst 3, 1) := by decide +kernel
theorem dL_law_527 : decode cL_law 527 = .ok (.iadd, 1) := by decide +kernel
theorem dL_law_528 : decode cL_law 528 = .ok (.iaload, 1) := by decide +kernel
theorem dL_law_529 : decode cL_law 529 = .ok (.aload_n 0, 1) := by decide +kernel
theorem dL_law_530 : decode cL_law 530 = .ok (.iload_n 3, 1) := by decide +kernel
theorem dL_law_531 : decode cL_law 531 = .ok (.iconst 4, 1) := by decide +kernel
theorem dL_law_532 : decode cL_law 532 = .ok (.iadd, 1) := by decide +kernel
theorem dL_law_533 : decode cL_law 533 = .ok (.iaload, 1) := by decide +kernel
theorem dL_law_534 : decode cL_law 534 = .ok (.invokevirtual 72, 3) := by decide +kernel
theorem dL_law_537 : decode cL_law 537 = .ok (.aload_n 2, 1) := by decide +kernel
theorem dL_law_538 : decode cL_law 538 = .ok (.aload_n 0, 1) := by decide +kernel
theorem dL_law_539 : decode cL_law 539 = .ok (.iload_n 3, 1) := by decide +kernel
theorem dL_law_540 : decode cL_law 540 = .ok (.iconst 1, 1) := by decide +kernel
theorem dL_law_541 : decode cL_law 541 = .ok (.iadd, 1) := by decide +kernel
theorem dL_law_542 : decode cL_law 542 = .ok (.iaload, 1) := by decide +kernel
theorem dL_law_543 : decode cL_law 543 = .ok (.aload_n 0, 1) := by decide +kernel
theorem dL_law_544 : decode cL_law 544 = .ok (.iload_n 3, 1) := by decide +kernel
theorem dL_law_545 : decode cL_law 545 = .ok (.iconst 2, 1) := by decide +kernel
theorem dL_law_546 : decode cL_law 546 = .ok (.iadd, 1) := by decide +kernel
theorem dL_law_547 : decode cL_law 547 = .ok (.iaload, 1) := by decide +kernel
theorem dL_law_548 : decode cL_law 548 = .ok (.aload_n 0, 1) := by decide +kernel
theorem dL_law_549 : decode cL_law 549 = .ok (.iload_n 3, 1) := by decide +kernel
theorem dL_law_550 : decode cL_law 550 = .ok (.iconst 3, 1) := by decide +kernel
theorem dL_law_551 : decode cL_law 551 = .ok (.iadd, 1) := by decide +kernel
theorem dL_law_552 : decode cL_law 552 = .ok (.iaload, 1) := by decide +kernel
theorem dL_law_553 : decode cL_law 553 = .ok (.aload_n 0, 1) := by decide +kernel
theorem dL_law_554 : decode cL_law 554 = .ok (.iload_n 3, 1) := by decide +kernel
theorem dL_law_555 : decode cL_law 555 = .ok (.iconst 4, 1) := by decide +kernel
theorem dL_law_556 : decode cL_law 556 = .ok (.iadd, 1) := by decide +kernel
theorem dL_law_557 : decode cL_law 557 = .ok (.iaload, 1) := by decide +kernel
theorem dL_law_558 : decode cL_law 558 = .ok (.invokevirtual 76, 3) := by decide +kernel
theorem dL_law_561 : decode cL_law 561 = .ok (.if_icmp .eq 423, 3) := by decide +kernel
theorem dL_law_564 : decode cL_law 564 = .ok (.iconst 0, 1) := by decide +kernel
theorem dL_law_565 : decode cL_law 565 = .ok (.ireturn, 1) := by decide +kernel
theorem dL_law_566 : decode cL_law 566 = .ok (.aload_n 1, 1) := by decide +kernel
theorem dL_law_567 : decode cL_law 567 = .ok (.aload_n 0, 1) := by decide +kernel
theorem dL_law_568 : decode cL_law 568 = .ok (.iload_n 3, 1) := by decide +kernel
theorem dL_law_569 : decode cL_law 569 = .ok (.iconst 1, 1) := by decide +kernel
theorem dL_law_570 : decode cL_law 570 = .ok (.iadd, 1) := by decide +kernel
theorem dL_law_571 : decode cL_law 571 = .ok (.iaload, 1) := by decide +kernel
theorem dL_law_572 : decode cL_law 572 = .ok (.aload_n 0, 1) := by decide +kernel
theorem dL_law_573 : decode cL_law 573 = .ok (.iload_n 3, 1) := by decide +kernel
theorem dL_law_574 : decode cL_law 574 = .ok (.iconst 2, 1) := by decide +kernel
theorem dL_law_575 : decode cL_law 575 = .ok (.iadd, 1) := by decide +kernel
theorem dL_law_576 : decode cL_law 576 = .ok (.iaload, 1) := by decide +kernel
theorem dL_law_577 : decode cL_law 577 = .ok (.aload_n 0, 1) := by decide +kernel
theorem dL_law_578 : decode cL_law 578 = .ok (.iload_n 3, 1) := by decide +kernel
theorem dL_law_579 : decode cL_law 579 = .ok (.iconst 3, 1) := by decide +kernel
theorem dL_law_580 : decode cL_law 580 = .ok (.iadd, 1) := by decide +kernel
theorem dL_law_581 : decode cL_law 581 = .ok (.iaload, 1) := by decide +kernel
theorem dL_law_582 : decode cL_law 582 = .ok (.aload_n 0, 1) := by decide +kernel
theorem dL_law_583 : decode cL_law 583 = .ok (.iload_n 3, 1) := by decide +kernel
theorem dL_law_584 : decode cL_law 584 = .ok (.iconst 4, 1) := by decide +kernel
theorem dL_law_585 : decode cL_law 585 = .ok (.iadd, 1) := by decide +kernel
theorem dL_law_586 : decode cL_law 586 = .ok (.iaload, 1) := by decide +kernel
theorem dL_law_587 : decode cL_law 587 = .ok (.aload_n 0, 1) := by decide +kernel
theorem dL_law_588 : decode cL_law 588 = .ok (.iload_n 3, 1) := by decide +kernel
theorem dL_law_589 : decode cL_law 589 = .ok (.iconst 5, 1) := by decide +kernel
theorem dL_law_590 : decode cL_law 590 = .ok (.iadd, 1) := by decide +kernel
theorem dL_law_591 : decode cL_law 591 = .ok (.iaload, 1) := by decide +kernel
theorem dL_law_592 : decode cL_law 592 = .ok (.invokevirtual 77, 3) := by decide +kernel
theorem dL_law_595 : decode cL_law 595 = .ok (.aload_n 2, 1) := by decide +kernel
theorem dL_law_596 : decode cL_law 596 = .ok (.aload_n 0, 1) := by decide +kernel
theorem dL_law_597 : decode cL_law 597 = .ok (.iload_n 3, 1) := by decide +kernel
theorem dL_law_598 : decode cL_law 598 = .ok (.iconst 1, 1) := by decide +kernel
theorem dL_law_599 : decode cL_law 599 = .ok (.iadd, 1) := by decide +kernel
theorem dL_law_600 : decode cL_law 600 = .ok (.iaload, 1) := by decide +kernel
theorem dL_law_601 : decode cL_law 601 = .ok (.aload_n 0, 1) := by decide +kernel
theorem dL_law_602 : decode cL_law 602 = .ok (.iload_n 3, 1) := by decide +kernel
theorem dL_law_603 : decode cL_law 603 = .ok (.iconst 2, 1) := by decide +kernel
theorem dL_law_604 : decode cL_law 604 = .ok (.iadd, 1) := by decide +kernel
theorem dL_law_605 : decode cL_law 605 = .ok (.iaload, 1) := by decide +kernel
theorem dL_law_606 : decode cL_law 606 = .ok (.aload_n 0, 1) := by decide +kernel
theorem dL_law_607 : decode cL_law 607 = .ok (.iload_n 3, 1) := by decide +kernel
theorem dL_law_608 : decode cL_law 608 = .ok (.iconst 3, 1) := by decide +kernel
theorem dL_law_609 : decode cL_law 609 = .ok (.iadd, 1) := by decide +kernel
theorem dL_law_610 : decode cL_law 610 = .ok (.iaload, 1) := by decide +kernel
theorem dL_law_611 : decode cL_law 611 = .ok (.aload_n 0, 1) := by decide +kernel
theorem dL_law_612 : decode cL_law 612 = .ok (.iload_n 3, 1) := by decide +kernel
theorem dL_law_613 : decode cL_law 613 = .ok (.iconst 4, 1) := by decide +kernel
theorem dL_law_614 : decode cL_law 614 = .ok (.iadd, 1) := by decide +kernel
theorem dL_law_615 : decode cL_law 615 = .ok (.iaload, 1) := by decide +kernel
theorem dL_law_616 : decode cL_law 616 = .ok (.aload_n 0, 1) := by decide +kernel
theorem dL_law_617 : decode cL_law 617 = .ok (.iload_n 3, 1) := by decide +kernel
theorem dL_law_618 : decode cL_law 618 = .ok (.iconst 5, 1) := by decide +kernel
theorem dL_law_619 : decode cL_law 619 = .ok (.iadd, 1) := by decide +kernel
theorem dL_law_620 : decode cL_law 620 = .ok (.iaload, 1) := by decide +kernel
theorem dL_law_621 : decode cL_law 621 = .ok (.invokevirtual 81, 3) := by decide +kernel
theorem dL_law_624 : decode cL_law 624 = .ok (.if_icmp .eq 360, 3) := by decide +kernel
theorem dL_law_627 : decode cL_law 627 = .ok (.iconst 0, 1) := by decide +kernel
theorem dL_law_628 : decode cL_law 628 = .ok (.ireturn, 1) := by decide +kernel
theorem dL_law_629 : decode cL_law 629 = .ok (.aload_n 1, 1) := by decide +kernel
theorem dL_law_630 : decode cL_law 630 = .ok (.aload_n 0, 1) := by decide +kernel
theorem dL_law_631 : decode cL_law 631 = .ok (.iload_n 3, 1) := by decide +kernel
theorem dL_law_632 : decode cL_law 632 = .ok (.iconst 1, 1) := by decide +kernel
theorem dL_law_633 : decode cL_law 633 = .ok (.iadd, 1) := by decide +kernel
theorem dL_law_634 : decode cL_law 634 = .ok (.iaload, 1) := by decide +kernel
theorem dL_law_635 : decode cL_law 635 = .ok (.aload_n 0, 1) := by decide +kernel
theorem dL_law_636 : decode cL_law 636 = .ok (.iload_n 3, 1) := by decide +kernel
theorem dL_law_637 : decode cL_law 637 = .ok (.iconst 2, 1) := by decide +kernel
theorem dL_law_638 : decode cL_law 638 = .ok (.iadd, 1) := by decide +kernel
theorem dL_law_639 : decode cL_law 639 = .ok (.iaload, 1) := by decide +kernel
theorem dL_law_640 : decode cL_law 640 = .ok (.invokevirtual 82, 3) := by decide +kernel
theorem dL_law_643 : decode cL_law 643 = .ok (.aload_n 2, 1) := by decide +kernel
theorem dL_law_644 : decode cL_law 644 = .ok (.aload_n 0, 1) := by decide +kernel
theorem dL_law_645 : decode cL_law 645 = .ok (.iload_n 3, 1) := by decide +kernel
theorem dL_law_646 : decode cL_law 646 = .ok (.iconst 1, 1) := by decide +kernel
theorem dL_law_647 : decode cL_law 647 = .ok (.iadd, 1) := by decide +kernel
theorem dL_law_648 : decode cL_law 648 = .ok (.iaload, 1) := by decide +kernel
theorem dL_law_649 : decode cL_law 649 = .ok (.aload_n 0, 1) := by decide +kernel
theorem dL_law_650 : decode cL_law 650 = .ok (.iload_n 3, 1) := by decide +kernel
theorem dL_law_651 : decode cL_law 651 = .ok (.iconst 2, 1) := by decide +kernel
theorem dL_law_652 : decode cL_law 652 = .ok (.iadd, 1) := by decide +kernel
theorem dL_law_653 : decode cL_law 653 = .ok (.iaload, 1) := by decide +kernel
theorem dL_law_654 : decode cL_law 654 = .ok (.invokevirtual 85, 3) := by decide +kernel
theorem dL_law_657 : decode cL_law 657 = .ok (.if_icmp .eq 327, 3) := by decide +kernel
theorem dL_law_660 : decode cL_law 660 = .ok (.iconst 0, 1) := by decide +kernel
theorem dL_law_661 : decode cL_law 661 = .ok (.ireturn, 1) := by decide +kernel
theorem dL_law_662 : decode cL_law 662 = .ok (.aload_n 1, 1) := by decide +kernel
theorem dL_law_663 : decode cL_law 663 = .ok (.aload_n 0, 1) := by decide +kernel
theorem dL_law_664 : decode cL_law 664 = .ok (.iload_n 3, 1) := by decide +kernel
theorem dL_law_665 : decode cL_law 665 = .ok (.iconst 1, 1) := by decide +kernel
theorem dL_law_666 : decode cL_law 666 = .ok (.iadd, 1) := by decide +kernel
theorem dL_law_667 : decode cL_law 667 = .ok (.iaload, 1) := by decide +kernel
theorem dL_law_668 : decode cL_law 668 = .ok (.aload_n 0, 1) := by decide +kernel
theorem dL_law_669 : decode cL_law 669 = .ok (.iload_n 3, 1) := by decide +kernel
theorem dL_law_670 : decode cL_law 670 = .ok (.iconst 2, 1) := by decide +kernel
theorem dL_law_671 : decode cL_law 671 = .ok (.iadd, 1) := by decide +kernel
theorem dL_law_672 : decode cL_law 672 = .ok (.iaload, 1) := by decide +kernel
theorem dL_law_673 : decode cL_law 673 = .ok (.invokevirtual 86, 3) := by decide +kernel
theorem dL_law_676 : decode cL_law 676 = .ok (.aload_n 2, 1) := by decide +kernel
theorem dL_law_677 : decode cL_law 677 = .ok (.aload_n 0, 1) := by decide +kernel
theorem dL_law_678 : decode cL_law 678 = .ok (.iload_n 3, 1) := by decide +kernel
theorem dL_law_679 : decode cL_law 679 = .ok (.iconst 1, 1) := by decide +kernel
theorem dL_law_680 : decode cL_law 680 = .ok (.iadd, 1) := by decide +kernel
theorem dL_law_681 : decode cL_law 681 = .ok (.iaload, 1) := by decide +kernel
theorem dL_law_682 : decode cL_law 682 = .ok (.aload_n 0, 1) := by decide +kernel
theorem dL_law_683 : decode cL_law 683 = .ok (.iload_n 3, 1) := by decide +kernel
theorem dL_law_684 : decode cL_law 684 = .ok (.iconst 2, 1) := by decide +kernel
theorem dL_law_685 : decode cL_law 685 = .ok (.iadd, 1) := by decide +kernel
theorem dL_law_686 : decode cL_law 686 = .ok (.iaload, 1) := by decide +kernel
theorem dL_law_687 : decode cL_law 687 = .ok (.invokevirtual 90, 3) := by decide +kernel
theorem dL_law_690 : decode cL_law 690 = .ok (.lcmp, 1) := by decide +kernel
theorem dL_law_691 : decode cL_law 691 = .ok (.ifCond .eq 293, 3) := by decide +kernel
theorem dL_law_694 : decode cL_law 694 = .ok (.iconst 0, 1) := by decide +kernel
theorem dL_law_695 : decode cL_law 695 = .ok (.ireturn, 1) := by decide +kernel
theorem dL_law_696 : decode cL_law 696 = .ok (.aload_n 1, 1) := by decide +kernel
theorem dL_law_697 : decode cL_law 697 = .ok (.aload_n 0, 1) := by decide +kernel
theorem dL_law_698 : decode cL_law 698 = .ok (.iload_n 3, 1) := by decide +kernel
theorem dL_law_699 : decode cL_law 699 = .ok (.iconst 1, 1) := by decide +kernel
theorem dL_law_700 : decode cL_law 700 = .ok (.iadd, 1) := by decide +kernel
theorem dL_law_701 : decode cL_law 701 = .ok (.iaload, 1) := by decide +kernel
theorem dL_law_702 : decode cL_law 702 = .ok (.aload_n 0, 1) := by decide +kernel
theorem dL_law_703 : decode cL_law 703 = .ok (.iload_n 3, 1) := by decide +kernel
theorem dL_law_704 : decode cL_law 704 = .ok (.iconst 2, 1) := by decide +kernel
theorem dL_law_705 : decode cL_law 705 = .ok (.iadd, 1) := by decide +kernel
theorem dL_law_706 : decode cL_law 706 = .ok (.iaload, 1) := by decide +kernel
theorem dL_law_707 : decode cL_law 707 = .ok (.aload_n 0, 1) := by decide +kernel
theorem dL_law_708 : decode cL_law 708 = .ok (.iload_n 3, 1) := by decide +kernel
theorem dL_law_709 : decode cL_law 709 = .ok (.iconst 3, 1) := by decide +kernel
theorem dL_law_710 : decode cL_law 710 = .ok (.iadd, 1) := by decide +kernel
theorem dL_law_711 : decode cL_law 711 = .ok (.iaload, 1) := by decide +kernel
theorem dL_law_712 : decode cL_law 712 = .ok (.invokevirtual 91, 3) := by decide +kernel
theorem dL_law_715 : decode cL_law 715 = .ok (.aload_n 2, 1) := by decide +kernel
theorem dL_law_716 : decode cL_law 716 = .ok (.aload_n 0, 1) := by decide +kernel
theorem dL_law_717 : decode cL_law 717 = .ok (.iload_n 3, 1) := by decide +kernel
theorem dL_law_718 : decode cL_law 718 = .ok (.iconst 1, 1) := by decide +kernel
theorem dL_law_719 : decode cL_law 719 = .ok (.iadd, 1) := by decide +kernel
theorem dL_law_720 : decode cL_law 720 = .ok (.iaload, 1) := by decide +kernel
theorem dL_law_721 : decode cL_law 721 = .ok (.aload_n 0, 1) := by decide +kernel
theorem dL_law_722 : decode cL_law 722 = .ok (.iload_n 3, 1) := by decide +kernel
theorem dL_law_723 : decode cL_law 723 = .ok (.iconst 2, 1) := by decide +kernel
theorem dL_law_724 : decode cL_law 724 = .ok (.iadd, 1) := by decide +kernel
theorem dL_law_725 : decode cL_law 725 = .ok (.iaload, 1) := by decide +kernel
theorem dL_law_726 : decode cL_law 726 = .ok (.aload_n 0, 1) := by decide +kernel
theorem dL_law_727 : decode cL_law 727 = .ok (.iload_n 3, 1) := by decide +kernel
theorem dL_law_728 : decode cL_law 728 = .ok (.iconst 3, 1) := by decide +kernel
theorem dL_law_729 : decode cL_law 729 = .ok (.iadd, 1) := by decide +kernel
theorem dL_law_730 : decode cL_law 730 = .ok (.iaload, 1) := by decide +kernel
theorem dL_law_731 : decode cL_law 731 = .ok (.invokevirtual 94, 3) := by decide +kernel
theorem dL_law_734 : decode cL_law 734 = .ok (.if_icmp .eq 250, 3) := by decide +kernel
theorem dL_law_737 : decode cL_law 737 = .ok (.iconst 0, 1) := by decide +kernel
theorem dL_law_738 : decode cL_law 738 = .ok (.ireturn, 1) := by decide +kernel
theorem dL_law_739 : decode cL_law 739 = .ok (.aload_n 1, 1) := by decide +kernel
theorem dL_law_740 : decode cL_law 740 = .ok (.aload_n 0, 1) := by decide +kernel
theorem dL_law_741 : decode cL_law 741 = .ok (.iload_n 3, 1) := by decide +kernel
theorem dL_law_742 : decode cL_law 742 = .ok (.iconst 1, 1) := by decide +kernel
theorem dL_law_743 : decode cL_law 743 = .ok (.iadd, 1) := by decide +kernel
theorem dL_law_744 : decode cL_law 744 = .ok (.iaload, 1) := by decide +kernel
theorem dL_law_745 : decode cL_law 745 = .ok (.invokevirtual 95, 3) := by decide +kernel
theorem dL_law_748 : decode cL_law 748 = .ok (.aload_n 2, 1) := by decide +kernel
theorem dL_law_749 : decode cL_law 749 = .ok (.aload_n 0, 1) := by decide +kernel
theorem dL_law_750 : decode cL_law 750 = .ok (.iload_n 3, 1) := by decide +kernel
theorem dL_law_751 : decode cL_law 751 = .ok (.iconst 1, 1) := by decide +kernel
theorem dL_law_752 : decode cL_law 752 = .ok (.iadd, 1) := by decide +kernel
theorem dL_law_753 : decode cL_law 753 = .ok (.iaload, 1) := by decide +kernel
theorem dL_law_754 : decode cL_law 754 = .ok (.invokevirtual 98, 3) := by decide +kernel
theorem dL_law_757 : decode cL_law 757 = .ok (.lcmp, 1) := by decide +kernel
theorem dL_law_758 : decode cL_law 758 = .ok (.ifCond .eq 226, 3) := by decide +kernel
theorem dL_law_761 : decode cL_law 761 = .ok (.iconst 0, 1) := by decide +kernel
theorem dL_law_762 : decode cL_law 762 = .ok (.ireturn, 1) := by decide +kernel
theorem dL_law_763 : decode cL_law 763 = .ok (.aload_n 1, 1) := by decide +kernel
theorem dL_law_764 : decode cL_law 764 = .ok (.aload_n 0, 1) := by decide +kernel
theorem dL_law_765 : decode cL_law 765 = .ok (.iload_n 3, 1) := by decide +kernel
theorem dL_law_766 : decode cL_law 766 = .ok (.iconst 1, 1) := by decide +kernel
theorem dL_law_767 : decode cL_law 767 = .ok (.iadd, 1) := by decide +kernel
theorem dL_law_768 : decode cL_law 768 = .ok (.iaload, 1) := by decide +kernel
theorem dL_law_769 : decode cL_law 769 = .ok (.invokevirtual 99, 3) := by decide +kernel
theorem dL_law_772 : decode cL_law 772 = .ok (.aload_n 2, 1) := by decide +kernel
theorem dL_law_773 : decode cL_law 773 = .ok (.aload_n 0, 1) := by decide +kernel
theorem dL_law_774 : decode cL_law 774 = .ok (.iload_n 3, 1) := by decide +kernel
theorem dL_law_775 : decode cL_law 775 = .ok (.iconst 1, 1) := by decide +kernel
theorem dL_law_776 : decode cL_law 776 = .ok (.iadd, 1) := by decide +kernel
theorem dL_law_777 : decode cL_law 777 = .ok (.iaload, 1) := by decide +kernel
theorem dL_law_778 : decode cL_law 778 = .ok (.invokevirtual 102, 3) := by decide +kernel
theorem dL_law_781 : decode cL_law 781 = .ok (.if_icmp .eq 203, 3) := by decide +kernel
theorem dL_law_784 : decode cL_law 784 = .ok (.iconst 0, 1) := by decide +kernel
theorem dL_law_785 : decode cL_law 785 = .ok (.ireturn, 1) := by decide +kernel
theorem dL_law_786 : decode cL_law 786 = .ok (.aload_n 1, 1) := by decide +kernel
theorem dL_law_787 : decode cL_law 787 = .ok (.aload_n 0, 1) := by decide +kernel
theorem dL_law_788 : decode cL_law 788 = .ok (.iload_n 3, 1) := by decide +kernel
theorem dL_law_789 : decode cL_law 789 = .ok (.iconst 1, 1) := by decide +kernel
theorem dL_law_790 : decode cL_law 790 = .ok (.iadd, 1) := by decide +kernel
theorem dL_law_791 : decode cL_law 791 = .ok (.iaload, 1) := by decide +kernel
theorem dL_law_792 : decode cL_law 792 = .ok (.aload_n 0, 1) := by decide +kernel
theorem dL_law_793 : decode cL_law 793 = .ok (.iload_n 3, 1) := by decide +kernel
theorem dL_law_794 : decode cL_law 794 = .ok (.iconst 2, 1) := by decide +kernel
theorem dL_law_795 : decode cL_law 795 = .ok (.iadd, 1) := by decide +kernel
theorem dL_law_796 : decode cL_law 796 = .ok (.iaload, 1) := by decide +kernel
theorem dL_law_797 : decode cL_law 797 = .ok (.aload_n 0, 1) := by decide +kernel
theorem dL_law_798 : decode cL_law 798 = .ok (.iload_n 3, 1) := by decide +kernel
theorem dL_law_799 : decode cL_law 799 = .ok (.iconst 3, 1) := by decide +kernel
theorem dL_law_800 : decode cL_law 800 = .ok (.iadd, 1) := by decide +kernel
theorem dL_law_801 : decode cL_law 801 = .ok (.iaload, 1) := by decide +kernel
theorem dL_law_802 : decode cL_law 802 = .ok (.aload_n 0, 1) := by decide +kernel
theorem dL_law_803 : decode cL_law 803 = .ok (.iload_n 3, 1) := by decide +kernel
theorem dL_law_804 : decode cL_law 804 = .ok (.iconst 4, 1) := by decide +kernel
theorem dL_law_805 : decode cL_law 805 = .ok (.iadd, 1) := by decide +kernel
theorem dL_law_806 : decode cL_law 806 = .ok (.iaload, 1) := by decide +kernel
theorem dL_law_807 : decode cL_law 807 = .ok (.aload_n 0, 1) := by decide +kernel
theorem dL_law_808 : decode cL_law 808 = .ok (.iload_n 3, 1) := by decide +kernel
theorem dL_law_809 : decode cL_law 809 = .ok (.iconst 5, 1) := by decide +kernel
theorem dL_law_810 : decode cL_law 810 = .ok (.iadd, 1) := by decide +kernel
theorem dL_law_811 : decode cL_law 811 = .ok (.iaload, 1) := by decide +kernel
theorem dL_law_812 : decode cL_law 812 = .ok (.invokevirtual 103, 3) := by decide +kernel
theorem dL_law_815 : decode cL_law 815 = .ok (.aload_n 2, 1) := by decide +kernel
theorem dL_law_816 : decode cL_law 816 = .ok (.aload_n 0, 1) := by decide +kernel
theorem dL_law_817 : decode cL_law 817 = .ok (.iload_n 3, 1) := by decide +kernel
theorem dL_law_818 : decode cL_law 818 = .ok (.iconst 1, 1) := by decide +kernel
theorem dL_law_819 : decode cL_law 819 = .ok (.iadd, 1) := by decide +kernel
theorem dL_law_820 : decode cL_law 820 = .ok (.iaload, 1) := by decide +kernel
theorem dL_law_821 : decode cL_law 821 = .ok (.aload_n 0, 1) := by decide +kernel
theorem dL_law_822 : decode cL_law 822 = .ok (.iload_n 3, 1) := by decide +kernel
theorem dL_law_823 : decode cL_law 823 = .ok (.iconst 2, 1) := by decide +kernel
theorem dL_law_824 : decode cL_law 824 = .ok (.iadd, 1) := by decide +kernel
theorem dL_law_825 : decode cL_law 825 = .ok (.iaload, 1) := by decide +kernel
theorem dL_law_826 : decode cL_law 826 = .ok (.aload_n 0, 1) := by decide +kernel
theorem dL_law_827 : decode cL_law 827 = .ok (.iload_n 3, 1) := by decide +kernel
theorem dL_law_828 : decode cL_law 828 = .ok (.iconst 3, 1) := by decide +kernel
theorem dL_law_829 : decode cL_law 829 = .ok (.iadd, 1) := by decide +kernel
theorem dL_law_830 : decode cL_law 830 = .ok (.iaload, 1) := by decide +kernel
theorem dL_law_831 : decode cL_law 831 = .ok (.aload_n 0, 1) := by decide +kernel
theorem dL_law_832 : decode cL_law 832 = .ok (.iload_n 3, 1) := by decide +kernel
theorem dL_law_833 : decode cL_law 833 = .ok (.iconst 4, 1) := by decide +kernel
theorem dL_law_834 : decode cL_law 834 = .ok (.iadd, 1) := by decide +kernel
theorem dL_law_835 : decode cL_law 835 = .ok (.iaload, 1) := by decide +kernel
theorem dL_law_836 : decode cL_law 836 = .ok (.aload_n 0, 1) := by decide +kernel
theorem dL_law_837 : decode cL_law 837 = .ok (.iload_n 3, 1) := by decide +kernel
theorem dL_law_838 : decode cL_law 838 = .ok (.iconst 5, 1) := by decide +kernel
theorem dL_law_839 : decode cL_law 839 = .ok (.iadd, 1) := by decide +kernel
theorem dL_law_840 : decode cL_law 840 = .ok (.iaload, 1) := by decide +kernel
theorem dL_law_841 : decode cL_law 841 = .ok (.invokevirtual 106, 3) := by decide +kernel
theorem dL_law_844 : decode cL_law 844 = .ok (.if_icmp .eq 140, 3) := by decide +kernel
theorem dL_law_847 : decode cL_law 847 = .ok (.iconst 0, 1) := by decide +kernel
theorem dL_law_848 : decode cL_law 848 = .ok (.ireturn, 1) := by decide +kernel
theorem dL_law_849 : decode cL_law 849 = .ok (.aload_n 1, 1) := by decide +kernel
theorem dL_law_850 : decode cL_law 850 = .ok (.aload_n 0, 1) := by decide +kernel
theorem dL_law_851 : decode cL_law 851 = .ok (.iload_n 3, 1) := by decide +kernel
theorem dL_law_852 : decode cL_law 852 = .ok (.iconst 1, 1) := by decide +kernel
theorem dL_law_853 : decode cL_law 853 = .ok (.iadd, 1) := by decide +kernel
theorem dL_law_854 : decode cL_law 854 = .ok (.iaload, 1) := by decide +kernel
theorem dL_law_855 : decode cL_law 855 = .ok (.invokevirtual 107, 3) := by decide +kernel
theorem dL_law_858 : decode cL_law 858 = .ok (.aload_n 2, 1) := by decide +kernel
theorem dL_law_859 : decode cL_law 859 = .ok (.aload_n 0, 1) := by decide +kernel
theorem dL_law_860 : decode cL_law 860 = .ok (.iload_n 3, 1) := by decide +kernel
theorem dL_law_861 : decode cL_law 861 = .ok (.iconst 1, 1) := by decide +kernel
theorem dL_law_862 : decode cL_law 862 = .ok (.iadd, 1) := by decide +kernel
theorem dL_law_863 : decode cL_law 863 = .ok (.iaload, 1) := by decide +kernel
theorem dL_law_864 : decode cL_law 864 = .ok (.invokevirtual 110, 3) := by decide +kernel
theorem dL_law_867 : decode cL_law 867 = .ok (.if_icmp .eq 117, 3) := by decide +kernel
theorem dL_law_870 : decode cL_law 870 = .ok (.iconst 0, 1) := by decide +kernel
theorem dL_law_871 : decode cL_law 871 = .ok (.ireturn, 1) := by decide +kernel
theorem dL_law_872 : decode cL_law 872 = .ok (.aload_n 1, 1) := by decide +kernel
theorem dL_law_873 : decode cL_law 873 = .ok (.aload_n 0, 1) := by decide +kernel
theorem dL_law_874 : decode cL_law 874 = .ok (.iload_n 3, 1) := by decide +kernel
theorem dL_law_875 : decode cL_law 875 = .ok (.iconst 1, 1) := by decide +kernel
theorem dL_law_876 : decode cL_law 876 = .ok (.iadd, 1) := by decide +kernel
theorem dL_law_877 : decode cL_law 877 = .ok (.iaload, 1) := by decide +kernel
theorem dL_law_878 : decode cL_law 878 = .ok (.aload_n 0, 1) := by decide +kernel
theorem dL_law_879 : decode cL_law 879 = .ok (.iload_n 3, 1) := by decide +kernel
theorem dL_law_880 : decode cL_law 880 = .ok (.iconst 2, 1) := by decide +kernel
theorem dL_law_881 : decode cL_law 881 = .ok (.iadd, 1) := by decide +kernel
theorem dL_law_882 : decode cL_law 882 = .ok (.iaload, 1) := by decide +kernel
theorem dL_law_883 : decode cL_law 883 = .ok (.invokevirtual 111, 3) := by decide +kernel
theorem dL_law_886 : decode cL_law 886 = .ok (.aload_n 2, 1) := by decide +kernel
theorem dL_law_887 : decode cL_law 887 = .ok (.aload_n 0, 1) := by decide +kernel
theorem dL_law_888 : decode cL_law 888 = .ok (.iload_n 3, 1) := by decide +kernel
theorem dL_law_889 : decode cL_law 889 = .ok (.iconst 1, 1) := by decide +kernel
theorem dL_law_890 : decode cL_law 890 = .ok (.iadd, 1) := by decide +kernel
theorem dL_law_891 : decode cL_law 891 = .ok (.iaload, 1) := by decide +kernel
theorem dL_law_892 : decode cL_law 892 = .ok (.aload_n 0, 1) := by decide +kernel
theorem dL_law_893 : decode cL_law 893 = .ok (.iload_n 3, 1) := by decide +kernel
theorem dL_law_894 : decode cL_law 894 = .ok (.iconst 2, 1) := by decide +kernel
theorem dL_law_895 : decode cL_law 895 = .ok (.iadd, 1) := by decide +kernel
theorem dL_law_896 : decode cL_law 896 = .ok (.iaload, 1) := by decide +kernel
theorem dL_law_897 : decode cL_law 897 = .ok (.invokevirtual 114, 3) := by decide +kernel
theorem dL_law_900 : decode cL_law 900 = .ok (.if_icmp .eq 84, 3) := by decide +kernel
theorem dL_law_903 : decode cL_law 903 = .ok (.iconst 0, 1) := by decide +kernel
theorem dL_law_904 : decode cL_law 904 = .ok (.ireturn, 1) := by decide +kernel
theorem dL_law_905 : decode cL_law 905 = .ok (.aload_n 1, 1) := by decide +kernel
theorem dL_law_906 : decode cL_law 906 = .ok (.aload_n 0, 1) := by decide +kernel
theorem dL_law_907 : decode cL_law 907 = .ok (.iload_n 3, 1) := by decide +kernel
theorem dL_law_908 : decode cL_law 908 = .ok (.iconst 1, 1) := by decide +kernel
theorem dL_law_909 : decode cL_law 909 = .ok (.iadd, 1) := by decide +kernel
theorem dL_law_910 : decode cL_law 910 = .ok (.iaload, 1) := by decide +kernel
theorem dL_law_911 : decode cL_law 911 = .ok (.aload_n 0, 1) := by decide +kernel
theorem dL_law_912 : decode cL_law 912 = .ok (.iload_n 3, 1) := by decide +kernel
theorem dL_law_913 : decode cL_law 913 = .ok (.iconst 2, 1) := by decide +kernel
theorem dL_law_914 : decode cL_law 914 = .ok (.iadd, 1) := by decide +kernel
theorem dL_law_915 : decode cL_law 915 = .ok (.iaload, 1) := by decide +kernel
theorem dL_law_916 : decode cL_law 916 = .ok (.invokevirtual 115, 3) := by decide +kernel
theorem dL_law_919 : decode cL_law 919 = .ok (.aload_n 2, 1) := by decide +kernel
theorem dL_law_920 : decode cL_law 920 = .ok (.aload_n 0, 1) := by decide +kernel
theorem dL_law_921 : decode cL_law 921 = .ok (.iload_n 3, 1) := by decide +kernel
theorem dL_law_922 : decode cL_law 922 = .ok (.iconst 1, 1) := by decide +kernel
theorem dL_law_923 : decode cL_law 923 = .ok (.iadd, 1) := by decide +kernel
theorem dL_law_924 : decode cL_law 924 = .ok (.iaload, 1) := by decide +kernel
theorem dL_law_925 : decode cL_law 925 = .ok (.aload_n 0, 1) := by decide +kernel
theorem dL_law_926 : decode cL_law 926 = .ok (.iload_n 3, 1) := by decide +kernel
theorem dL_law_927 : decode cL_law 927 = .ok (.iconst 2, 1) := by decide +kernel
theorem dL_law_928 : decode cL_law 928 = .ok (.iadd, 1) := by decide +kernel
theorem dL_law_929 : decode cL_law 929 = .ok (.iaload, 1) := by decide +kernel
theorem dL_law_930 : decode cL_law 930 = .ok (.invokevirtual 118, 3) := by decide +kernel
theorem dL_law_933 : decode cL_law 933 = .ok (.if_icmp .eq 51, 3) := by decide +kernel
theorem dL_law_936 : decode cL_law 936 = .ok (.iconst 0, 1) := by decide +kernel
theorem dL_law_937 : decode cL_law 937 = .ok (.ireturn, 1) := by decide +kernel
theorem dL_law_938 : decode cL_law 938 = .ok (.aload_n 1, 1) := by decide +kernel
theorem dL_law_939 : decode cL_law 939 = .ok (.aload_n 0, 1) := by decide +kernel
theorem dL_law_940 : decode cL_law 940 = .ok (.iload_n 3, 1) := by decide +kernel
theorem dL_law_941 : decode cL_law 941 = .ok (.iconst 1, 1) := by decide +kernel
theorem dL_law_942 : decode cL_law 942 = .ok (.iadd, 1) := by decide +kernel
theorem dL_law_943 : decode cL_law 943 = .ok (.iaload, 1) := by decide +kernel
theorem dL_law_944 : decode cL_law 944 = .ok (.invokevirtual 119, 3) := by decide +kernel
theorem dL_law_947 : decode cL_law 947 = .ok (.aload_n 2, 1) := by decide +kernel
theorem dL_law_948 : decode cL_law 948 = .ok (.aload_n 0, 1) := by decide +kernel
theorem dL_law_949 : decode cL_law 949 = .ok (.iload_n 3, 1) := by decide +kernel
theorem dL_law_950 : decode cL_law 950 = .ok (.iconst 1, 1) := by decide +kernel
theorem dL_law_951 : decode cL_law 951 = .ok (.iadd, 1) := by decide +kernel
theorem dL_law_952 : decode cL_law 952 = .ok (.iaload, 1) := by decide +kernel
theorem dL_law_953 : decode cL_law 953 = .ok (.invokevirtual 122, 3) := by decide +kernel
theorem dL_law_956 : decode cL_law 956 = .ok (.if_icmp .eq 28, 3) := by decide +kernel
theorem dL_law_959 : decode cL_law 959 = .ok (.iconst 0, 1) := by decide +kernel
theorem dL_law_960 : decode cL_law 960 = .ok (.ireturn, 1) := by decide +kernel
theorem dL_law_961 : decode cL_law 961 = .ok (.aload_n 1, 1) := by decide +kernel
theorem dL_law_962 : decode cL_law 962 = .ok (.aload_n 0, 1) := by decide +kernel
theorem dL_law_963 : decode cL_law 963 = .ok (.iload_n 3, 1) := by decide +kernel
theorem dL_law_964 : decode cL_law 964 = .ok (.iconst 1, 1) := by decide +kernel
theorem dL_law_965 : decode cL_law 965 = .ok (.iadd, 1) := by decide +kernel
theorem dL_law_966 : decode cL_law 966 = .ok (.iaload, 1) := by decide +kernel
theorem dL_law_967 : decode cL_law 967 = .ok (.invokevirtual 123, 3) := by decide +kernel
theorem dL_law_970 : decode cL_law 970 = .ok (.aload_n 2, 1) := by decide +kernel
theorem dL_law_971 : decode cL_law 971 = .ok (.aload_n 0, 1) := by decide +kernel
theorem dL_law_972 : decode cL_law 972 = .ok (.iload_n 3, 1) := by decide +kernel
theorem dL_law_973 : decode cL_law 973 = .ok (.iconst 1, 1) := by decide +kernel
theorem dL_law_974 : decode cL_law 974 = .ok (.iadd, 1) := by decide +kernel
theorem dL_law_975 : decode cL_law 975 = .ok (.iaload, 1) := by decide +kernel
theorem dL_law_976 : decode cL_law 976 = .ok (.invokevirtual 126, 3) := by decide +kernel
theorem dL_law_979 : decode cL_law 979 = .ok (.if_icmp .eq 5, 3) := by decide +kernel
theorem dL_law_982 : decode cL_law 982 = .ok (.iconst 0, 1) := by decide +kernel
theorem dL_law_983 : decode cL_law 983 = .ok (.ireturn, 1) := by decide +kernel
theorem dL_law_984 : decode cL_law 984 = .ok (.iinc 3 6, 3) := by decide +kernel
theorem dL_law_987 : decode cL_law 987 = .ok (.goto (-969), 3) := by decide +kernel
theorem dL_law_990 : decode cL_law 990 = .ok (.iconst 1, 1) := by decide +kernel
theorem dL_law_991 : decode cL_law 991 = .ok (.ireturn, 1) := by decide +kernel
abbrev vwCl : List vw_C := [(RX0, TX0, 4), (RX1, TX1, 4), (RX2, TX2, 5), (RX3, TX3, 3), (RX4, TX4, 9), (RX5, TX5, 7), (RX6, TX6, 6), (RX7, TX7, 27)]
end
section
theorem nz_probe : (1 : Nat) = 1 := rfl
end
section
/-! ===== numbers: ints as iI z, longs as jI z, z an Int ===== -/
def iI (z : Int) : Int32 := Int32.ofInt z
def jI (z : Int) : Int64 := Int64.ofInt z
theorem iI_add (a b : Int) : iI a + iI b = iI (a + b) := (Int32.ofInt_add a b).symm
theorem iI_sub (a b : Int) : iI a - iI b = iI (a - b) := (Int32.ofInt_sub a b).symm
theorem iI_mul (a b : Int) : iI a * iI b = iI (a * b) := (Int32.ofInt_mul a b).symm
theorem iI_neg (a : Int) : - iI a = iI (-a) := (Int32.ofInt_neg a).symm
theorem jI_add (a b : Int) : jI a + jI b = jI (a + b) := (Int64.ofInt_add a b).symm
theorem jI_sub (a b : Int) : jI a - jI b = jI (a - b) := (Int64.ofInt_sub a b).symm
theorem jI_mul (a b : Int) : jI a * jI b = jI (a * b) := (Int64.ofInt_mul a b).symm
theorem jI_neg (a : Int) : - jI a = jI (-a) := (Int64.ofInt_neg a).symm
theorem iI_T {z : Int} (h : -2147483648 ≤ z ∧ z < 2147483648) : (iI z).toInt = z := Int32.toInt_ofInt_of_le (by omega) (by omega)
theorem jI_T {z : Int} (h : -9223372036854775808 ≤ z ∧ z < 9223372036854775808) : (jI z).toInt = z := Int64.toInt_ofInt_of_le (by omega) (by omega)
theorem iI_of (x : Int32) : iI x.toInt = x := Int32.ofInt_toInt x
theorem iI_rng (x : Int32) : -2147483648 ≤ x.toInt ∧ x.toInt < 2147483648 := ⟨x.le_toInt, x.toInt_lt⟩
theorem iI_le {a b : Int} (ha : -2147483648 ≤ a ∧ a < 2147483648) (hb : -2147483648 ≤ b ∧ b < 2147483648) : iI a ≤ iI b ↔ a ≤ b := by rw [Int32.le_iff_toInt_le, iI_T ha, iI_T hb]
theorem iI_lt {a b : Int} (ha : -2147483648 ≤ a ∧ a < 2147483648) (hb : -2147483648 ≤ b ∧ b < 2147483648) : iI a < iI b ↔ a < b := by rw [Int32.lt_iff_toInt_lt, iI_T ha, iI_T hb]
theorem iI_eq {a b : Int} (ha : -2147483648 ≤ a ∧ a < 2147483648) (hb : -2147483648 ≤ b ∧ b < 2147483648) : iI a = iI b ↔ a = b := by rw [← Int32.toInt_inj, iI_T ha, iI_T hb]
theorem jI_lt {a b : Int} (ha : -9223372036854775808 ≤ a ∧ a < 9223372036854775808) (hb : -9223372036854775808 ≤ b ∧ b < 9223372036854775808) : jI a < jI b ↔ a < b := by rw [Int64.lt_iff_toInt_lt, jI_T ha, jI_T hb]
theorem jI_eq {a b : Int} (ha : -9223372036854775808 ≤ a ∧ a < 9223372036854775808) (hb : -9223372036854775808 ≤ b ∧ b < 9223372036854775808) : jI a = jI b ↔ a = b := by rw [← Int64.toInt_inj, jI_T ha, jI_T hb]
theorem iI_cl {k : Nat} (h : k < 2147483648) : (iI (k : Int)).toNatClampNeg = k := by
  unfold iI
  rw [Int32.toNatClampNeg_ofInt_of_le (by omega) (by omega)]
  exact Int.toNat_natCast k
theorem iI_in {z : Int} {k n : Nat} (hz : z = (k : Int)) (hk : k < n) (hn : n < 2147483648) : vp_in (iI z) n := by
  rw [vp_in_iff, iI_T (by omega)]
  omega
theorem iI_j {z : Int} (h : -2147483648 ≤ z ∧ z < 2147483648) : (iI z).toInt64 = jI z := by
  rw [← Int64.toInt_inj, Int32.toInt_toInt64, iI_T h, jI_T (by omega)]
theorem jI_i (z : Int) : (jI z).toInt32 = iI z := Int64.toInt32_ofInt
theorem iI_ne0 {b : Int} (h : 0 < b ∧ b < 2147483648) : ¬ iI b = 0 := fun q => by
  have := congrArg Int32.toInt q
  rw [iI_T (by omega)] at this
  have h0 : (0 : Int32).toInt = 0 := rfl
  omega
theorem iI_div {a b : Int} (ha : -2147483648 ≤ a ∧ a < 2147483648) (hb : 0 < b ∧ b < 2147483648) : iI a / iI b = iI (a.tdiv b) := by
  have hq : -2147483648 ≤ a.tdiv b ∧ a.tdiv b < 2147483648 := by
    rcases Int.le_total 0 a with h | h
    · rw [Int.tdiv_eq_ediv_of_nonneg h]
      have h1 : 0 ≤ a / b := Int.ediv_nonneg h (by omega)
      have h2 : a / b ≤ a := Int.ediv_le_self b h
      omega
    · have e : a.tdiv b = -((-a) / b) := by
        rw [← Int.neg_neg a, Int.neg_tdiv, Int.tdiv_eq_ediv_of_nonneg (by omega), Int.neg_neg]
      have h1 : 0 ≤ (-a) / b := Int.ediv_nonneg (by omega) (by omega)
      have h2 : (-a) / b ≤ -a := Int.ediv_le_self b (by omega)
      omega
  rw [← Int32.toInt_inj, Int32.toInt_div_of_ne_right _ _ (fun q => by
    have := congrArg Int32.toInt q
    rw [iI_T (by omega)] at this
    have h0 : (-1 : Int32).toInt = -1 := rfl
    omega), iI_T ha, iI_T (by omega), iI_T hq]
theorem iI_divN {a b : Int} (ha : 0 ≤ a ∧ a < 2147483648) (hb : 0 < b ∧ b < 2147483648) : iI a / iI b = iI (a / b) := by
  rw [iI_div (by omega) hb, Int.tdiv_eq_ediv_of_nonneg ha.1]
theorem iI_remN {a b : Int} (ha : 0 ≤ a ∧ a < 2147483648) (hb : 0 < b ∧ b < 2147483648) : iI a - iI a / iI b * iI b = iI (a % b) := by
  rw [iI_divN ha hb, iI_mul, iI_sub, Int.emod_def, Int.mul_comm]
def bI (c : Prop) [Decidable c] : Int := if c then 1 else 0
theorem bI_t {c : Prop} [Decidable c] (h : c) : bI c = 1 := if_pos h
theorem bI_f {c : Prop} [Decidable c] (h : ¬ c) : bI c = 0 := if_neg h
theorem bI_rng (c : Prop) [Decidable c] : 0 ≤ bI c ∧ bI c ≤ 1 := by
  unfold bI
  split <;> decide
theorem bI_nar (c : Prop) [Decidable c] : narrow .boolean (.int (iI (bI c))) = .int (iI (bI c)) := by
  unfold bI
  split <;> rfl
theorem bI_c {c d : Prop} [Decidable c] [Decidable d] (h : c ↔ d) : bI c = bI d := by
  unfold bI
  by_cases hc : c
  · rw [if_pos hc, if_pos (h.mp hc)]
  · rw [if_neg hc, if_neg (fun q => hc (h.mpr q))]

/-! ===== the world: cells 0 .. N - 1, at the addresses ad, holding w ===== -/
abbrev nG : Type := va_G × (Nat → ClassId)
def nL (N : Nat) (ad : Nat → Nat) (w : Nat → va_E) : va_W := (List.range N).map (fun i => (ad i, w i))
theorem nL_at (N : Nat) (ad : Nat → Nat) (w : Nat → va_E) (k : Nat) : (nL N ad w)[k]? = if k < N then some (ad k, w k) else none := by
  unfold nL
  rw [List.getElem?_map]
  split
  · rename_i h
    rw [List.getElem?_range h]
    rfl
  · rename_i h
    rw [List.getElem?_eq_none (by rw [List.length_range]; omega)]
    rfl
theorem nL_len (N : Nat) (ad : Nat → Nat) (w : Nat → va_E) : (nL N ad w).length = N := by simp [nL]
theorem nL_get {N : Nat} {ad : Nat → Nat} {w : Nat → va_E} {i : Nat} {e : va_E} (hi : i < N) (he : w i = e) : (nL N ad w)[i]? = some (ad i, e) := by
  rw [nL_at, if_pos hi, he]
theorem nL_set (N : Nat) (ad : Nat → Nat) (w : Nat → va_E) (i : Nat) (e : va_E) : (nL N ad w).set i (ad i, e) = nL N ad (va_up w i e) := by
  apply List.ext_getElem?
  intro k
  rw [List.getElem?_set, nL_len, nL_at, nL_at]
  by_cases h : i = k
  · subst h
    rw [if_pos rfl, va_up_self]
  · rw [if_neg h, va_up_ne _ _ (fun q => h q.symm)]
def nJ (A : Nat → Prop) (N : Nat) (ad : Nat → Nat) : Prop := (∀ i j, i < N → j < N → ad i = ad j → i = j) ∧ ∀ i, i < N → A (ad i)
theorem nJ.D {A : Nat → Prop} {N : Nat} {ad : Nat → Nat} (h : nJ A N ad) (w : Nat → va_E) : va_D A (nL N ad w) := by
  refine ⟨fun i j p q hi hj e => ?_, fun k q hk => ?_⟩
  · rw [nL_at] at hi hj
    by_cases h1 : i < N
    · by_cases h2 : j < N
      · rw [if_pos h1] at hi
        rw [if_pos h2] at hj
        cases hi
        cases hj
        exact h.1 i j h1 h2 e
      · rw [if_neg h2] at hj
        cases hj
    · rw [if_neg h1] at hi
      cases hi
  · rw [nL_at] at hk
    by_cases h1 : k < N
    · rw [if_pos h1] at hk
      cases hk
      exact h.2 k h1
    · rw [if_neg h1] at hk
      cases hk
def nA (N : Nat) (ad : Nat → Nat) (sz : Nat) : Nat → Prop := fun q => (∃ i, i < N ∧ ad i = q) ∨ sz ≤ q
def nInj (N : Nat) (ad : Nat → Nat) : Prop := ∀ i j, i < N → j < N → ad i = ad j → i = j
theorem nInj.J {N : Nat} {ad : Nat → Nat} (h : nInj N ad) (sz : Nat) : nJ (nA N ad sz) N ad := ⟨h, fun i hi => Or.inl ⟨i, hi, rfl⟩⟩
theorem nA.up {N sz sz' : Nat} {ad : Nat → Nat} (h : sz ≤ sz') : ∀ q, nA N ad sz' q → nA N ad sz q := fun q hq => hq.elim Or.inl (fun z => Or.inr (Nat.le_trans h z))
/-- the arrays' classes: int, long, boolean, of Tills, of Lands, of int arrays -/
def nTy (cs : Nat → ClassId) : List (ClassId × FieldType) := [(cs 0, .int), (cs 1, .long), (cs 2, .boolean), (cs 3, .object "NewCoins$Till"), (cs 4, .object "NewCoins$Land"), (cs 5, .array .int)]
def nNs : List Cond := [.methodLinkNest RX4 23 yX3_init RX6, .methodLinkNest RX4 51 yX5_init RX6, .methodLinkNest RX5 23 yX2_init RX6, .methodLinkNest RX6 26 yX0_init RX6, .methodLinkNest RX1 37 yX6_within RX6, .methodLinkNest RX3 28 yX6_within RX6, .methodLinkNest RX4 99 yX6_wholeTimes RX6, .methodLinkNest RX1 52 yX6_isSum RX6, .methodLinkNest RX1 55 yX6_wholeTimes RX6, .methodLinkNest RX4 68 yX6_within RX6, .methodLinkNest RX0 26 yX6_isSum RX6, .methodLinkNest RX0 60 yX6_wholeTimes RX6]
theorem nNs_is : ∀ w ∈ nNs, ∃ (a : String) (i : Nat) (x : MethodName) (h : String), w = .methodLinkNest a i x h := by
  intro w hw
  simp only [nNs, List.mem_cons, List.not_mem_nil, or_false] at hw
  rcases hw with rfl | rfl | rfl | rfl | rfl | rfl | rfl | rfl | rfl | rfl | rfl | rfl <;> exact ⟨_, _, _, _, rfl⟩
def nK (G : nG) (U : State) : Prop := va_K G.1 vwCl (nTy G.2) U ∧ ∀ w ∈ nNs, va_Nw w U
theorem nK.warm {G : nG} {s U : State} (hW : s.WarmedH U.vm) (h : nK G s) : nK G U := ⟨va_K.moved hW.alike h.1, fun w hw => by
  obtain ⟨a, i, x, q, rfl⟩ := nNs_is w hw
  exact va_Nw.warmM hW (h.2 _ hw)⟩
theorem nK.call {G : nG} {U : State} {g : JFrame} {mk : MethodId} {a : Array Value} (h : nK G U) : nK G (U.calling g mk a) := ⟨va_K.moved (u := U) (U := U.calling g mk a) (Vm.Alike.refl U.vm) h.1, fun w hw => by
  obtain ⟨a', i, x, q, rfl⟩ := nNs_is w hw
  exact va_Nw.same rfl rfl (h.2 _ hw)⟩
def nB (G : nG) (N : Nat) (ad : Nat → Nat) (w : Nat → va_E) (sz : Nat) (U : State) : Prop := U.heap.size = sz ∧ va_P G.1 vwCl (nL N ad w) U.heap ∧ nK G U ∧ nInj N ad
theorem nB.blind {G : nG} {N : Nat} {ad : Nat → Nat} {w : Nat → va_E} {sz : Nat} {av : List Value} : FrameBlind (va_Pc av (nB G N ad w sz)) := fun _ _ _ _ q => ⟨q.1, q.2.1, q.2.2.1, q.2.2.2.1.call, q.2.2.2.2⟩
theorem nB.pre {G : nG} {N : Nat} {ad : Nat → Nat} {w : Nat → va_E} {s : State} {H : Heap} {As : List Value} (hK : nK G s) (hI : nInj N ad) (hP : va_P G.1 vwCl (nL N ad w) H) : PreS s H (va_Pc As (nB G N ad w H.size)) As := ⟨nB.blind, fun U hU hW => ⟨rfl, by rw [hU], by rw [hU]; exact hP, hK.warm hW, hI⟩⟩
theorem nB.preV {G : nG} {N : Nat} {ad : Nat → Nat} {w : Nat → va_E} {s : State} {H : Heap} {As : List Value} {i ci : Nat} {fs : List Value} {q : vw_C} {C : String} (hK : nK G s) (hI : nInj N ad) (hP : va_P G.1 vwCl (nL N ad w) H) (hi : i < N) (he : w i = .inr (ci, fs)) (hc : vwCl[ci]? = some q) (hC : q.1 = C) : PreV s H C (ad i) (va_Pc (.ref (ad i) :: As) (nB G N ad w H.size)) As := by
  subst hC
  exact ⟨nB.blind, va_recv hK.1 hP hc (nL_get hi he), fun U hU hW => ⟨rfl, by rw [hU], by rw [hU]; exact hP, hK.warm hW, hI⟩⟩
/-! contents -/
abbrev aI (G : nG) (n : Nat) (F : Nat → Int) : va_E := .inl (G.2 0, n, .inl (fun j => iI (F j)))
abbrev aJ (G : nG) (n : Nat) (F : Nat → Int) : va_E := .inl (G.2 1, n, .inr (.inl (fun j => jI (F j))))
abbrev aZ (G : nG) (n : Nat) (F : Nat → Int) : va_E := .inl (G.2 2, n, .inl (fun j => iI (F j)))
abbrev aR (G : nG) (q n : Nat) (f : Nat → Option Nat) : va_E := .inl (G.2 q, n, .inr (.inr (.inr (.inr f))))
/-! ends of contracts: a reader; a writer whose answer is an int, a long, nothing -/
def nRd (v : Value) : Array Value → State → Outcome → State → Prop := fun _ st o t => o = .returned (some v) ∧ t.heap = st.heap
def nPi (G : nG) (N : Nat) (ad : Nat → Nat) (sz : Nat) (post : Int → (Nat → va_E) → Prop) : Array Value → State → Outcome → State → Prop := fun _ st oc t => (∃ (r : Int) (u : Nat → va_E), oc = .returned (some (.int (iI r))) ∧ post r u ∧ va_P G.1 vwCl (nL N ad u) t.heap) ∧ va_F (nA N ad sz) st t
def nPl (G : nG) (N : Nat) (ad : Nat → Nat) (sz : Nat) (post : Int → (Nat → va_E) → Prop) : Array Value → State → Outcome → State → Prop := fun _ st oc t => (∃ (r : Int) (u : Nat → va_E), oc = .returned (some (.long (jI r))) ∧ post r u ∧ va_P G.1 vwCl (nL N ad u) t.heap) ∧ va_F (nA N ad sz) st t
def nPv (G : nG) (N : Nat) (ad : Nat → Nat) (sz : Nat) (post : (Nat → va_E) → Prop) : Array Value → State → Outcome → State → Prop := fun _ st oc t => (∃ (u : Nat → va_E), oc = .returned none ∧ post u ∧ va_P G.1 vwCl (nL N ad u) t.heap) ∧ va_F (nA N ad sz) st t
end
section
section NR
variable {p : Program} {l : Launch} {e : Env} {R : Room} {s : State} {m : MethodId} {args : Array Value} {below : List Frame} {meth : Method} {c : Code} {H : Heap} {locs : List Loc} {cells slots : Nat} {Q : State → Prop}
variable {cc : ByteArray} {pc : Nat} {ls : Array Slot} {rest : List Value}
theorem n_iconst (hx : p.tables.exec = Jvm.exec) (hb : c.code = cc) {n : Int} (hdg : decode cc pc = .ok (.iconst n, 1)) (k : W p l e R s m args below meth c H locs cells slots Q (F0 m (pc + 1) ls (.int (iI n) :: rest))) : W p l e R s m args below meth c H locs cells slots Q (F0 m pc ls rest) := lv_iconst hx hb hdg rfl k
theorem n_bipush (hx : p.tables.exec = Jvm.exec) (hb : c.code = cc) {n : Int} (hdg : decode cc pc = .ok (.bipush n, 2)) (hn : (Int8.ofInt n).toInt32 = iI n) (k : W p l e R s m args below meth c H locs cells slots Q (F0 m (pc + 2) ls (.int (iI n) :: rest))) : W p l e R s m args below meth c H locs cells slots Q (F0 m pc ls rest) := lv_bipush hx hb hdg hn k
theorem n_sipush (hx : p.tables.exec = Jvm.exec) (hb : c.code = cc) {n : Int} (hdg : decode cc pc = .ok (.sipush n, 3)) (hn : (Int16.ofInt n).toInt32 = iI n) (k : W p l e R s m args below meth c H locs cells slots Q (F0 m (pc + 3) ls (.int (iI n) :: rest))) : W p l e R s m args below meth c H locs cells slots Q (F0 m pc ls rest) := lv_sipush hx hb hdg hn k
theorem n_iadd (hx : p.tables.exec = Jvm.exec) (hb : c.code = cc) {a b : Int} (hdg : decode cc pc = .ok (.iadd, 1)) (k : W p l e R s m args below meth c H locs cells slots Q (F0 m (pc + 1) ls (.int (iI (a + b)) :: rest))) : W p l e R s m args below meth c H locs cells slots Q (F0 m pc ls (.int (iI b) :: .int (iI a) :: rest)) := lv_iadd hx hb hdg (by rw [iI_add]; exact k)
theorem n_isub (hx : p.tables.exec = Jvm.exec) (hb : c.code = cc) {a b : Int} (hdg : decode cc pc = .ok (.isub, 1)) (k : W p l e R s m args below meth c H locs cells slots Q (F0 m (pc + 1) ls (.int (iI (a - b)) :: rest))) : W p l e R s m args below meth c H locs cells slots Q (F0 m pc ls (.int (iI b) :: .int (iI a) :: rest)) := lv_isub hx hb hdg (by rw [iI_sub]; exact k)
theorem n_imul (hx : p.tables.exec = Jvm.exec) (hb : c.code = cc) {a b : Int} (hdg : decode cc pc = .ok (.imul, 1)) (k : W p l e R s m args below meth c H locs cells slots Q (F0 m (pc + 1) ls (.int (iI (a * b)) :: rest))) : W p l e R s m args below meth c H locs cells slots Q (F0 m pc ls (.int (iI b) :: .int (iI a) :: rest)) := lv_imul hx hb hdg (by rw [iI_mul]; exact k)
theorem n_ineg (hx : p.tables.exec = Jvm.exec) (hb : c.code = cc) {a : Int} (hdg : decode cc pc = .ok (.ineg, 1)) (k : W p l e R s m args below meth c H locs cells slots Q (F0 m (pc + 1) ls (.int (iI (-a)) :: rest))) : W p l e R s m args below meth c H locs cells slots Q (F0 m pc ls (.int (iI a) :: rest)) := lv_ineg hx hb hdg (by rw [iI_neg]; exact k)
theorem n_idiv (hx : p.tables.exec = Jvm.exec) (hb : c.code = cc) {a b : Int} (hdg : decode cc pc = .ok (.idiv, 1)) (ha : -2147483648 ≤ a ∧ a < 2147483648) (hb' : 0 < b ∧ b < 2147483648) (k : W p l e R s m args below meth c H locs cells slots Q (F0 m (pc + 1) ls (.int (iI (a.tdiv b)) :: rest))) : W p l e R s m args below meth c H locs cells slots Q (F0 m pc ls (.int (iI b) :: .int (iI a) :: rest)) := lv_idiv hx hb hdg (iI_ne0 hb') (by rw [iI_div ha hb']; exact k)
theorem n_idivN (hx : p.tables.exec = Jvm.exec) (hb : c.code = cc) {a b : Int} (hdg : decode cc pc = .ok (.idiv, 1)) (ha : 0 ≤ a ∧ a < 2147483648) (hb' : 0 < b ∧ b < 2147483648) (k : W p l e R s m args below meth c H locs cells slots Q (F0 m (pc + 1) ls (.int (iI (a / b)) :: rest))) : W p l e R s m args below meth c H locs cells slots Q (F0 m pc ls (.int (iI b) :: .int (iI a) :: rest)) := lv_idiv hx hb hdg (iI_ne0 hb') (by rw [iI_divN ha hb']; exact k)
theorem n_iremN (hx : p.tables.exec = Jvm.exec) (hb : c.code = cc) {a b : Int} (hdg : decode cc pc = .ok (.irem, 1)) (ha : 0 ≤ a ∧ a < 2147483648) (hb' : 0 < b ∧ b < 2147483648) (k : W p l e R s m args below meth c H locs cells slots Q (F0 m (pc + 1) ls (.int (iI (a % b)) :: rest))) : W p l e R s m args below meth c H locs cells slots Q (F0 m pc ls (.int (iI b) :: .int (iI a) :: rest)) := lv_irem hx hb hdg (iI_ne0 hb') (by rw [iI_remN ha hb']; exact k)
theorem n_lconst (hx : p.tables.exec = Jvm.exec) (hb : c.code = cc) {n : Fin 2} {z : Int} (hdg : decode cc pc = .ok (.lconst n, 1)) (hz : Int64.ofNat (n : Nat) = jI z) (k : W p l e R s m args below meth c H locs cells slots Q (F0 m (pc + 1) ls (.long (jI z) :: rest))) : W p l e R s m args below meth c H locs cells slots Q (F0 m pc ls rest) := lv_lconst hx hb hdg hz k
theorem n_ladd (hx : p.tables.exec = Jvm.exec) (hb : c.code = cc) {a b : Int} (hdg : decode cc pc = .ok (.ladd, 1)) (k : W p l e R s m args below meth c H locs cells slots Q (F0 m (pc + 1) ls (.long (jI (a + b)) :: rest))) : W p l e R s m args below meth c H locs cells slots Q (F0 m pc ls (.long (jI b) :: .long (jI a) :: rest)) := lv_ladd hx hb hdg (by rw [jI_add]; exact k)
theorem n_lsub (hx : p.tables.exec = Jvm.exec) (hb : c.code = cc) {a b : Int} (hdg : decode cc pc = .ok (.lsub, 1)) (k : W p l e R s m args below meth c H locs cells slots Q (F0 m (pc + 1) ls (.long (jI (a - b)) :: rest))) : W p l e R s m args below meth c H locs cells slots Q (F0 m pc ls (.long (jI b) :: .long (jI a) :: rest)) := lv_lsub hx hb hdg (by rw [jI_sub]; exact k)
theorem n_lmul (hx : p.tables.exec = Jvm.exec) (hb : c.code = cc) {a b : Int} (hdg : decode cc pc = .ok (.lmul, 1)) (k : W p l e R s m args below meth c H locs cells slots Q (F0 m (pc + 1) ls (.long (jI (a * b)) :: rest))) : W p l e R s m args below meth c H locs cells slots Q (F0 m pc ls (.long (jI b) :: .long (jI a) :: rest)) := lv_lmul hx hb hdg (by rw [jI_mul]; exact k)
theorem n_lneg (hx : p.tables.exec = Jvm.exec) (hb : c.code = cc) {a : Int} (hdg : decode cc pc = .ok (.lneg, 1)) (k : W p l e R s m args below meth c H locs cells slots Q (F0 m (pc + 1) ls (.long (jI (-a)) :: rest))) : W p l e R s m args below meth c H locs cells slots Q (F0 m pc ls (.long (jI a) :: rest)) := lv_lneg hx hb hdg (by rw [jI_neg]; exact k)
theorem n_i2l (hx : p.tables.exec = Jvm.exec) (hb : c.code = cc) {a : Int} (hdg : decode cc pc = .ok (.i2l, 1)) (ha : -2147483648 ≤ a ∧ a < 2147483648) (k : W p l e R s m args below meth c H locs cells slots Q (F0 m (pc + 1) ls (.long (jI a) :: rest))) : W p l e R s m args below meth c H locs cells slots Q (F0 m pc ls (.int (iI a) :: rest)) := lv_i2l hx hb hdg (iI_j ha) k
theorem n_l2i (hx : p.tables.exec = Jvm.exec) (hb : c.code = cc) {a : Int} (hdg : decode cc pc = .ok (.l2i, 1)) (k : W p l e R s m args below meth c H locs cells slots Q (F0 m (pc + 1) ls (.int (iI a) :: rest))) : W p l e R s m args below meth c H locs cells slots Q (F0 m pc ls (.long (jI a) :: rest)) := lv_l2i hx hb hdg (jI_i a) k
/-! comparisons -/
theorem n_icmp_lt (hx : p.tables.exec = Jvm.exec) (hb : c.code = cc) {a b : Int} {off : Int} {tgt : Nat} (hdg : decode cc pc = .ok (.if_icmp .lt off, 3)) (ht : (pc : Int) + off = (tgt : Int)) (ha : -2147483648 ≤ a ∧ a < 2147483648) (hb' : -2147483648 ≤ b ∧ b < 2147483648) (kt : a < b → W p l e R s m args below meth c H locs cells slots Q (F0 m tgt ls rest)) (kf : b ≤ a → W p l e R s m args below meth c H locs cells slots Q (F0 m (pc + 3) ls rest)) : W p l e R s m args below meth c H locs cells slots Q (F0 m pc ls (.int (iI b) :: .int (iI a) :: rest)) := lv_icmp_lt hx hb hdg ht (fun q => kt ((iI_lt ha hb').mp q)) (fun q => kf (Int.not_lt.mp (fun z => q ((iI_lt ha hb').mpr z))))
theorem n_icmp_ge (hx : p.tables.exec = Jvm.exec) (hb : c.code = cc) {a b : Int} {off : Int} {tgt : Nat} (hdg : decode cc pc = .ok (.if_icmp .ge off, 3)) (ht : (pc : Int) + off = (tgt : Int)) (ha : -2147483648 ≤ a ∧ a < 2147483648) (hb' : -2147483648 ≤ b ∧ b < 2147483648) (kt : b ≤ a → W p l e R s m args below meth c H locs cells slots Q (F0 m tgt ls rest)) (kf : a < b → W p l e R s m args below meth c H locs cells slots Q (F0 m (pc + 3) ls rest)) : W p l e R s m args below meth c H locs cells slots Q (F0 m pc ls (.int (iI b) :: .int (iI a) :: rest)) := lv_icmp_ge hx hb hdg ht (fun q => kt ((iI_le hb' ha).mp q)) (fun q => kf (Int.not_le.mp (fun z => q ((iI_le hb' ha).mpr z))))
theorem n_icmp_gt (hx : p.tables.exec = Jvm.exec) (hb : c.code = cc) {a b : Int} {off : Int} {tgt : Nat} (hdg : decode cc pc = .ok (.if_icmp .gt off, 3)) (ht : (pc : Int) + off = (tgt : Int)) (ha : -2147483648 ≤ a ∧ a < 2147483648) (hb' : -2147483648 ≤ b ∧ b < 2147483648) (kt : b < a → W p l e R s m args below meth c H locs cells slots Q (F0 m tgt ls rest)) (kf : a ≤ b → W p l e R s m args below meth c H locs cells slots Q (F0 m (pc + 3) ls rest)) : W p l e R s m args below meth c H locs cells slots Q (F0 m pc ls (.int (iI b) :: .int (iI a) :: rest)) := lv_icmp_gt hx hb hdg ht (fun q => kt ((iI_lt hb' ha).mp q)) (fun q => kf (Int.not_lt.mp (fun z => q ((iI_lt hb' ha).mpr z))))
theorem n_icmp_le (hx : p.tables.exec = Jvm.exec) (hb : c.code = cc) {a b : Int} {off : Int} {tgt : Nat} (hdg : decode cc pc = .ok (.if_icmp .le off, 3)) (ht : (pc : Int) + off = (tgt : Int)) (ha : -2147483648 ≤ a ∧ a < 2147483648) (hb' : -2147483648 ≤ b ∧ b < 2147483648) (kt : a ≤ b → W p l e R s m args below meth c H locs cells slots Q (F0 m tgt ls rest)) (kf : b < a → W p l e R s m args below meth c H locs cells slots Q (F0 m (pc + 3) ls rest)) : W p l e R s m args below meth c H locs cells slots Q (F0 m pc ls (.int (iI b) :: .int (iI a) :: rest)) := lv_icmp_le hx hb hdg ht (fun q => kt ((iI_le ha hb').mp q)) (fun q => kf (Int.not_le.mp (fun z => q ((iI_le ha hb').mpr z))))
theorem n_icmp_eq (hx : p.tables.exec = Jvm.exec) (hb : c.code = cc) {a b : Int} {off : Int} {tgt : Nat} (hdg : decode cc pc = .ok (.if_icmp .eq off, 3)) (ht : (pc : Int) + off = (tgt : Int)) (ha : -2147483648 ≤ a ∧ a < 2147483648) (hb' : -2147483648 ≤ b ∧ b < 2147483648) (kt : a = b → W p l e R s m args below meth c H locs cells slots Q (F0 m tgt ls rest)) (kf : ¬ a = b → W p l e R s m args below meth c H locs cells slots Q (F0 m (pc + 3) ls rest)) : W p l e R s m args below meth c H locs cells slots Q (F0 m pc ls (.int (iI b) :: .int (iI a) :: rest)) := lv_icmp_eq hx hb hdg ht (fun q => kt ((iI_eq ha hb').mp q)) (fun q => kf (fun z => q ((iI_eq ha hb').mpr z)))
theorem n_icmp_ne (hx : p.tables.exec = Jvm.exec) (hb : c.code = cc) {a b : Int} {off : Int} {tgt : Nat} (hdg : decode cc pc = .ok (.if_icmp .ne off, 3)) (ht : (pc : Int) + off = (tgt : Int)) (ha : -2147483648 ≤ a ∧ a < 2147483648) (hb' : -2147483648 ≤ b ∧ b < 2147483648) (kt : ¬ a = b → W p l e R s m args below meth c H locs cells slots Q (F0 m tgt ls rest)) (kf : a = b → W p l e R s m args below meth c H locs cells slots Q (F0 m (pc + 3) ls rest)) : W p l e R s m args below meth c H locs cells slots Q (F0 m pc ls (.int (iI b) :: .int (iI a) :: rest)) := lv_icmp_ne hx hb hdg ht (fun q => kt (fun z => q ((iI_eq ha hb').mpr z))) (fun q => kf (Decidable.byContradiction fun z => q (fun y => z ((iI_eq ha hb').mp y))))
theorem iI_0 : iI 0 = 0 := rfl
theorem n_if_eq (hx : p.tables.exec = Jvm.exec) (hb : c.code = cc) {a : Int} {off : Int} {tgt : Nat} (hdg : decode cc pc = .ok (.ifCond .eq off, 3)) (ht : (pc : Int) + off = (tgt : Int)) (ha : -2147483648 ≤ a ∧ a < 2147483648) (kt : a = 0 → W p l e R s m args below meth c H locs cells slots Q (F0 m tgt ls rest)) (kf : ¬ a = 0 → W p l e R s m args below meth c H locs cells slots Q (F0 m (pc + 3) ls rest)) : W p l e R s m args below meth c H locs cells slots Q (F0 m pc ls (.int (iI a) :: rest)) := lv_if_eq hx hb hdg ht (fun q => kt ((iI_eq ha (by decide)).mp q)) (fun q => kf (fun z => q ((iI_eq ha (b := 0) (by decide)).mpr z)))
theorem n_if_ne (hx : p.tables.exec = Jvm.exec) (hb : c.code = cc) {a : Int} {off : Int} {tgt : Nat} (hdg : decode cc pc = .ok (.ifCond .ne off, 3)) (ht : (pc : Int) + off = (tgt : Int)) (ha : -2147483648 ≤ a ∧ a < 2147483648) (kt : ¬ a = 0 → W p l e R s m args below meth c H locs cells slots Q (F0 m tgt ls rest)) (kf : a = 0 → W p l e R s m args below meth c H locs cells slots Q (F0 m (pc + 3) ls rest)) : W p l e R s m args below meth c H locs cells slots Q (F0 m pc ls (.int (iI a) :: rest)) := lv_if_ne hx hb hdg ht (fun q => kt (fun z => q ((iI_eq ha (b := 0) (by decide)).mpr z))) (fun q => kf (Decidable.byContradiction fun z => q (fun y => z ((iI_eq ha (b := 0) (by decide)).mp y))))
theorem n_if_lt (hx : p.tables.exec = Jvm.exec) (hb : c.code = cc) {a : Int} {off : Int} {tgt : Nat} (hdg : decode cc pc = .ok (.ifCond .lt off, 3)) (ht : (pc : Int) + off = (tgt : Int)) (ha : -2147483648 ≤ a ∧ a < 2147483648) (kt : a < 0 → W p l e R s m args below meth c H locs cells slots Q (F0 m tgt ls rest)) (kf : 0 ≤ a → W p l e R s m args below meth c H locs cells slots Q (F0 m (pc + 3) ls rest)) : W p l e R s m args below meth c H locs cells slots Q (F0 m pc ls (.int (iI a) :: rest)) := lv_if_lt hx hb hdg ht (fun q => kt ((iI_lt ha (b := 0) (by decide)).mp q)) (fun q => kf (Int.not_lt.mp (fun z => q ((iI_lt ha (b := 0) (by decide)).mpr z))))
theorem n_if_ge (hx : p.tables.exec = Jvm.exec) (hb : c.code = cc) {a : Int} {off : Int} {tgt : Nat} (hdg : decode cc pc = .ok (.ifCond .ge off, 3)) (ht : (pc : Int) + off = (tgt : Int)) (ha : -2147483648 ≤ a ∧ a < 2147483648) (kt : 0 ≤ a → W p l e R s m args below meth c H locs cells slots Q (F0 m tgt ls rest)) (kf : a < 0 → W p l e R s m args below meth c H locs cells slots Q (F0 m (pc + 3) ls rest)) : W p l e R s m args below meth c H locs cells slots Q (F0 m pc ls (.int (iI a) :: rest)) := lv_if_ge hx hb hdg ht (fun q => kt ((iI_le (a := 0) (by decide) ha).mp q)) (fun q => kf (Int.not_le.mp (fun z => q ((iI_le (a := 0) (by decide) ha).mpr z))))
theorem n_if_gt (hx : p.tables.exec = Jvm.exec) (hb : c.code = cc) {a : Int} {off : Int} {tgt : Nat} (hdg : decode cc pc = .ok (.ifCond .gt off, 3)) (ht : (pc : Int) + off = (tgt : Int)) (ha : -2147483648 ≤ a ∧ a < 2147483648) (kt : 0 < a → W p l e R s m args below meth c H locs cells slots Q (F0 m tgt ls rest)) (kf : a ≤ 0 → W p l e R s m args below meth c H locs cells slots Q (F0 m (pc + 3) ls rest)) : W p l e R s m args below meth c H locs cells slots Q (F0 m pc ls (.int (iI a) :: rest)) := lv_if_gt hx hb hdg ht (fun q => kt ((iI_lt (a := 0) (by decide) ha).mp q)) (fun q => kf (Int.not_lt.mp (fun z => q ((iI_lt (a := 0) (by decide) ha).mpr z))))
theorem n_if_le (hx : p.tables.exec = Jvm.exec) (hb : c.code = cc) {a : Int} {off : Int} {tgt : Nat} (hdg : decode cc pc = .ok (.ifCond .le off, 3)) (ht : (pc : Int) + off = (tgt : Int)) (ha : -2147483648 ≤ a ∧ a < 2147483648) (kt : a ≤ 0 → W p l e R s m args below meth c H locs cells slots Q (F0 m tgt ls rest)) (kf : 0 < a → W p l e R s m args below meth c H locs cells slots Q (F0 m (pc + 3) ls rest)) : W p l e R s m args below meth c H locs cells slots Q (F0 m pc ls (.int (iI a) :: rest)) := lv_if_le hx hb hdg ht (fun q => kt ((iI_le ha (b := 0) (by decide)).mp q)) (fun q => kf (Int.not_le.mp (fun z => q ((iI_le ha (b := 0) (by decide)).mpr z))))
/-- a truth on the stack -/
theorem n_if_eqB (hx : p.tables.exec = Jvm.exec) (hb : c.code = cc) {t : Prop} [Decidable t] {off : Int} {tgt : Nat} (hdg : decode cc pc = .ok (.ifCond .eq off, 3)) (ht : (pc : Int) + off = (tgt : Int)) (kt : ¬ t → W p l e R s m args below meth c H locs cells slots Q (F0 m tgt ls rest)) (kf : t → W p l e R s m args below meth c H locs cells slots Q (F0 m (pc + 3) ls rest)) : W p l e R s m args below meth c H locs cells slots Q (F0 m pc ls (.int (iI (bI t)) :: rest)) := n_if_eq hx hb hdg ht (by have := bI_rng t; omega) (fun q => kt (fun z => by rw [bI_t z] at q; cases q)) (fun q => kf (Decidable.byContradiction fun z => q (bI_f z)))
theorem n_if_neB (hx : p.tables.exec = Jvm.exec) (hb : c.code = cc) {t : Prop} [Decidable t] {off : Int} {tgt : Nat} (hdg : decode cc pc = .ok (.ifCond .ne off, 3)) (ht : (pc : Int) + off = (tgt : Int)) (kt : t → W p l e R s m args below meth c H locs cells slots Q (F0 m tgt ls rest)) (kf : ¬ t → W p l e R s m args below meth c H locs cells slots Q (F0 m (pc + 3) ls rest)) : W p l e R s m args below meth c H locs cells slots Q (F0 m pc ls (.int (iI (bI t)) :: rest)) := n_if_ne hx hb hdg ht (by have := bI_rng t; omega) (fun q => kt (Decidable.byContradiction fun z => q (bI_f z))) (fun q => kf (fun z => by rw [bI_t z] at q; cases q))
/-- lcmp and the branch behind it see one Int -/
def cmpI (a b : Int) : Int := if b < a then 1 else if a = b then 0 else -1
theorem cmpI_rng (a b : Int) : -1 ≤ cmpI a b ∧ cmpI a b ≤ 1 := by
  unfold cmpI
  split
  · decide
  · split <;> decide
theorem cmpI_lt {a b : Int} : cmpI a b < 0 ↔ a < b := by
  unfold cmpI
  split
  · omega
  · split <;> omega
theorem cmpI_gt {a b : Int} : 0 < cmpI a b ↔ b < a := by
  unfold cmpI
  split
  · omega
  · split <;> omega
theorem cmpI_eq {a b : Int} : cmpI a b = 0 ↔ a = b := by
  unfold cmpI
  split
  · omega
  · split <;> omega
theorem n_lcmp (hx : p.tables.exec = Jvm.exec) (hb : c.code = cc) {a b : Int} (hdg : decode cc pc = .ok (.lcmp, 1)) (ha : -9223372036854775808 ≤ a ∧ a < 9223372036854775808) (hb' : -9223372036854775808 ≤ b ∧ b < 9223372036854775808) (k : W p l e R s m args below meth c H locs cells slots Q (F0 m (pc + 1) ls (.int (iI (cmpI a b)) :: rest))) : W p l e R s m args below meth c H locs cells slots Q (F0 m pc ls (.long (jI b) :: .long (jI a) :: rest)) := by
  refine W.lcmp hx hb hdg ?_
  have e9 : lg_cmp (jI a) (jI b) = iI (cmpI a b) := by
    unfold lg_cmp cmpI
    by_cases h1 : b < a
    · rw [if_pos h1, if_pos ((jI_lt hb' ha).mpr h1)]
      rfl
    · rw [if_neg h1, if_neg (fun q => h1 ((jI_lt hb' ha).mp q))]
      by_cases h2 : a = b
      · rw [if_pos h2, if_pos ((jI_eq ha hb').mpr h2)]
        rfl
      · rw [if_neg h2, if_neg (fun q => h2 ((jI_eq ha hb').mp q))]
        rfl
  rw [e9]
  exact k
end NR
section NW
variable {p : Program} {l : Launch} {e : Env} {R : Room} {s : State} {m : MethodId} {args : Array Value} {below : List Frame} {meth : Method} {c : Code} {H : Heap} {locs : List Loc} {cells slots : Nat} {Q : State → Prop}
variable {cc : ByteArray} {pc : Nat} {ls : Array Slot} {rest : List Value} {G : nG} {N : Nat} {ad : Nat → Nat} {w : Nat → va_E} {A : Nat → Prop} {H0 : Heap}
theorem n_get (hx : p.tables.exec = Jvm.exec) (hb : c.code = cc) {own C : String} {T : u_T} {M ci index : Nat} {Ts : List Cond} (hts : ∀ w ∈ Ts, w.before args s = true) (hin : ∀ w ∈ u_ws C T M, w ∈ Ts) (hown : s.vm.findClass own = some m.cls) (hK : nK G s) (hP : va_P G.1 vwCl (nL N ad w) H) {i : Nat} {fs : List Value} (hi : i < N) (he : w i = .inr (ci, fs)) (hc : vwCl[ci]? = some (C, T, M)) (k : Nat) (hk : k < M) (hlink : (Cond.fieldLink own index (T k).1 (T k).2.1 (T k).2.2.1) ∈ Ts) {v : Value} (hv : fs[k]? = some v) (hdg : decode cc pc = .ok (.getfield index, 3)) (kk : W p l e R s m args below meth c H locs cells slots Q (F0 m (pc + 3) ls (v :: rest))) : W p l e R s m args below meth c H locs cells slots Q (F0 m pc ls (.ref (ad i) :: rest)) := va_get hx hb hts hin hown hK.1 hP i (nL_get hi he) hc k hk (hts _ hlink) (fun _ h => h) hv hdg kk
theorem n_put (hx : p.tables.exec = Jvm.exec) (hb : c.code = cc) {own C : String} {T : u_T} {M ci index : Nat} {Ts : List Cond} (hts : ∀ w ∈ Ts, w.before args s = true) (hin : ∀ w ∈ u_ws C T M, w ∈ Ts) (ty0 : Nat → FieldType) (hty : ∀ k, k < M → parseFieldDescriptor (T k).2.2.1 = some (ty0 k)) (hnm : ∀ a, a < M → ∀ b, b < M → a ≠ b → (T a).2.1 ≠ (T b).2.1) (hown : s.vm.findClass own = some m.cls) (hK : nK G s) (hJ : nJ A N ad) (hP : va_P G.1 vwCl (nL N ad w) H) (hS : va_S A H0 H locs) {i : Nat} {fs : List Value} (hi : i < N) (he : w i = .inr (ci, fs)) (hc : vwCl[ci]? = some (C, T, M)) (k : Nat) (hk : k < M) (hlink : (Cond.fieldLink own index (T k).1 (T k).2.1 (T k).2.2.1) ∈ Ts) (hfin : (T k).2.2.2 = false) {v : Value} (hn : narrow (ty0 k) v = v) (hfit : fits (ty0 k) v = true) (hl : k < fs.length) (hdg : decode cc pc = .ok (.putfield index, 3)) (kk : ∀ (w1 : Nat → va_E) (H1 : Heap) (locs1 : List Loc), w1 i = .inr (ci, fs.set k v) → (∀ j, j ≠ i → w1 j = w j) → va_P G.1 vwCl (nL N ad w1) H1 → va_S A H0 H1 locs1 → W p l e R s m args below meth c H1 locs1 cells slots Q (F0 m (pc + 3) ls rest)) : W p l e R s m args below meth c H locs cells slots Q (F0 m pc ls (v :: .ref (ad i) :: rest)) :=
  va_put hx hb hts hin ty0 hty hnm hown hK.1 hP (hJ.D w) hS i (nL_get hi he) hc k hk (hts _ hlink) (fun _ h => h) hfin (hty k hk) hn hfit hl hdg (fun H1 locs1 hP1 _ hS1 => kk (va_up w i _) H1 locs1 (va_up_self _ _ _) (fun j hj => va_up_ne _ _ hj) (by rw [nL_set] at hP1; exact hP1) hS1)
theorem n_putF (hx : p.tables.exec = Jvm.exec) (hb : c.code = cc) {own C : String} {T : u_T} {M ci index : Nat} {Ts : List Cond} (hts : ∀ w ∈ Ts, w.before args s = true) (hin : ∀ w ∈ u_ws C T M, w ∈ Ts) (ty0 : Nat → FieldType) (hty : ∀ k, k < M → parseFieldDescriptor (T k).2.2.1 = some (ty0 k)) (hnm : ∀ a, a < M → ∀ b, b < M → a ≠ b → (T a).2.1 ≠ (T b).2.1) (hown : s.vm.findClass own = some m.cls) (hK : nK G s) (hJ : nJ A N ad) (hP : va_P G.1 vwCl (nL N ad w) H) (hS : va_S A H0 H locs) {i : Nat} {fs : List Value} (hi : i < N) (he : w i = .inr (ci, fs)) (hc : vwCl[ci]? = some (C, T, M)) (k : Nat) (hk : k < M) (hlink : (Cond.fieldLink own index (T k).1 (T k).2.1 (T k).2.2.1) ∈ Ts) (hfin : (T k).2.2.2 = true) (hin2 : meth.name = "<init>") (hdecl : (T k).1 = own) {v : Value} (hn : narrow (ty0 k) v = v) (hfit : fits (ty0 k) v = true) (hl : k < fs.length) (hdg : decode cc pc = .ok (.putfield index, 3)) (kk : ∀ (w1 : Nat → va_E) (H1 : Heap) (locs1 : List Loc), w1 i = .inr (ci, fs.set k v) → (∀ j, j ≠ i → w1 j = w j) → va_P G.1 vwCl (nL N ad w1) H1 → va_S A H0 H1 locs1 → W p l e R s m args below meth c H1 locs1 cells slots Q (F0 m (pc + 3) ls rest)) : W p l e R s m args below meth c H locs cells slots Q (F0 m pc ls (v :: .ref (ad i) :: rest)) :=
  va_putF hx hb hts hin ty0 hty hnm hown hK.1 hP (hJ.D w) hS i (nL_get hi he) hc k hk (hts _ hlink) (fun _ h => h) hfin hin2 hdecl (hty k hk) hn hfit hl hdg (fun H1 locs1 hP1 _ hS1 => kk (va_up w i _) H1 locs1 (va_up_self _ _ _) (fun j hj => va_up_ne _ _ hj) (by rw [nL_set] at hP1; exact hP1) hS1)
theorem n_iald (hx : p.tables.exec = Jvm.exec) (hb : c.code = cc) (hK : nK G s) (hP : va_P G.1 vwCl (nL N ad w) H) {i n : Nat} {F : Nat → Int} {z : Int} (k : Nat) (hi : i < N) (he : w i = aI G n F) (hz : z = (k : Int)) (hk : k < n) (hn : n < 2147483648) (hdg : decode cc pc = .ok (.iaload, 1)) (kk : W p l e R s m args below meth c H locs cells slots Q (F0 m (pc + 1) ls (.int (iI (F k)) :: rest))) : W p l e R s m args below meth c H locs cells slots Q (F0 m pc ls (.int (iI z) :: .ref (ad i) :: rest)) := by
  refine va_iald hx hb hK.1 hP i 0 (nL_get hi he) rfl (iI_in hz hk hn) hdg ?_
  subst hz
  rw [iI_cl (by omega)]
  exact kk
theorem n_lald (hx : p.tables.exec = Jvm.exec) (hb : c.code = cc) (hK : nK G s) (hP : va_P G.1 vwCl (nL N ad w) H) {i n : Nat} {F : Nat → Int} {z : Int} (k : Nat) (hi : i < N) (he : w i = aJ G n F) (hz : z = (k : Int)) (hk : k < n) (hn : n < 2147483648) (hdg : decode cc pc = .ok (.laload, 1)) (kk : W p l e R s m args below meth c H locs cells slots Q (F0 m (pc + 1) ls (.long (jI (F k)) :: rest))) : W p l e R s m args below meth c H locs cells slots Q (F0 m pc ls (.int (iI z) :: .ref (ad i) :: rest)) := by
  refine va_lald hx hb hK.1 hP i 1 (nL_get hi he) rfl (iI_in hz hk hn) hdg ?_
  subst hz
  rw [iI_cl (by omega)]
  exact kk
theorem n_zald (hx : p.tables.exec = Jvm.exec) (hb : c.code = cc) (hK : nK G s) (hP : va_P G.1 vwCl (nL N ad w) H) {i n : Nat} {F : Nat → Int} {z : Int} (k : Nat) (hi : i < N) (he : w i = aZ G n F) (hz : z = (k : Int)) (hk : k < n) (hn : n < 2147483648) (hdg : decode cc pc = .ok (.baload, 1)) (kk : W p l e R s m args below meth c H locs cells slots Q (F0 m (pc + 1) ls (.int (iI (F k)) :: rest))) : W p l e R s m args below meth c H locs cells slots Q (F0 m pc ls (.int (iI z) :: .ref (ad i) :: rest)) := by
  refine va_zald hx hb hK.1 hP i 2 (nL_get hi he) rfl (iI_in hz hk hn) hdg ?_
  subst hz
  rw [iI_cl (by omega)]
  exact kk
theorem n_aald (hx : p.tables.exec = Jvm.exec) (hb : c.code = cc) (hK : nK G s) (hP : va_P G.1 vwCl (nL N ad w) H) {i n q j : Nat} {f : Nat → Option Nat} {z : Int} (ty : FieldType) (k : Nat) (hi : i < N) (he : w i = aR G q n f) (hq : (nTy G.2)[q]? = some (G.2 q, ty)) (hr : ty.isReference = true) (hz : z = (k : Int)) (hk : k < n) (hn : n < 2147483648) (hf : f k = some j) (hdg : decode cc pc = .ok (.aaload, 1)) (kk : W p l e R s m args below meth c H locs cells slots Q (F0 m (pc + 1) ls (.ref j :: rest))) : W p l e R s m args below meth c H locs cells slots Q (F0 m pc ls (.int (iI z) :: .ref (ad i) :: rest)) := by
  have hin := iI_in hz hk hn
  subst hz
  refine W.aald (v := .ref j) (ty := ty) hx hb (hP i _ (nL_get hi he)) ((hK.1.2 q _ hq).1 n (fun j => va_rf (f j))) hr (fun q => by cases q) (by show ¬ (iI _ < 0 ∨ (arrV _ _ _).slots.size ≤ _); rw [arrV_size]; exact hin) (by show (arrV _ _ _).slots[_]? = _; rw [iI_cl (by omega), arrV_read _ _ hk, hf]; rfl) rfl rfl hdg kk
theorem n_iast (hx : p.tables.exec = Jvm.exec) (hb : c.code = cc) (hK : nK G s) (hJ : nJ A N ad) (hP : va_P G.1 vwCl (nL N ad w) H) (hS : va_S A H0 H locs) {i n : Nat} {F : Nat → Int} {z x : Int} (k : Nat) (hi : i < N) (he : w i = aI G n F) (hz : z = (k : Int)) (hk : k < n) (hn : n < 2147483648) (hdg : decode cc pc = .ok (.iastore, 1)) (kk : ∀ (w1 : Nat → va_E) (H1 : Heap) (locs1 : List Loc), w1 i = aI G n (va_up F k x) → (∀ j, j ≠ i → w1 j = w j) → va_P G.1 vwCl (nL N ad w1) H1 → va_S A H0 H1 locs1 → W p l e R s m args below meth c H1 locs1 cells slots Q (F0 m (pc + 1) ls rest)) : W p l e R s m args below meth c H locs cells slots Q (F0 m pc ls (.int (iI x) :: .int (iI z) :: .ref (ad i) :: rest)) := by
  refine va_iast hx hb hK.1 hP (hJ.D w) hS i 0 (nL_get hi he) rfl (iI_in hz hk hn) hdg (fun H1 locs1 hP1 _ hS1 => ?_)
  subst hz
  rw [nL_set, iI_cl (by omega)] at hP1
  refine kk _ H1 locs1 ?_ (fun j hj => va_up_ne _ _ hj) hP1 hS1
  rw [va_up_self]
  have e9 : upd (fun j => iI (F j)) k (iI x) = fun j => iI (va_up F k x j) := by
    funext j
    unfold upd va_up
    split <;> rfl
  rw [e9]
theorem n_last (hx : p.tables.exec = Jvm.exec) (hb : c.code = cc) (hK : nK G s) (hJ : nJ A N ad) (hP : va_P G.1 vwCl (nL N ad w) H) (hS : va_S A H0 H locs) {i n : Nat} {F : Nat → Int} {z x : Int} (k : Nat) (hi : i < N) (he : w i = aJ G n F) (hz : z = (k : Int)) (hk : k < n) (hn : n < 2147483648) (hdg : decode cc pc = .ok (.lastore, 1)) (kk : ∀ (w1 : Nat → va_E) (H1 : Heap) (locs1 : List Loc), w1 i = aJ G n (va_up F k x) → (∀ j, j ≠ i → w1 j = w j) → va_P G.1 vwCl (nL N ad w1) H1 → va_S A H0 H1 locs1 → W p l e R s m args below meth c H1 locs1 cells slots Q (F0 m (pc + 1) ls rest)) : W p l e R s m args below meth c H locs cells slots Q (F0 m pc ls (.long (jI x) :: .int (iI z) :: .ref (ad i) :: rest)) := by
  refine va_last hx hb hK.1 hP (hJ.D w) hS i 1 (nL_get hi he) rfl (iI_in hz hk hn) hdg (fun H1 locs1 hP1 _ hS1 => ?_)
  subst hz
  rw [nL_set, iI_cl (by omega)] at hP1
  refine kk _ H1 locs1 ?_ (fun j hj => va_up_ne _ _ hj) hP1 hS1
  rw [va_up_self]
  have e9 : vp_updL (fun j => jI (F j)) k (jI x) = fun j => jI (va_up F k x j) := by
    funext j
    unfold vp_updL va_up
    split <;> rfl
  rw [e9]
theorem n_zast (hx : p.tables.exec = Jvm.exec) (hb : c.code = cc) (hK : nK G s) (hJ : nJ A N ad) (hP : va_P G.1 vwCl (nL N ad w) H) (hS : va_S A H0 H locs) {i n : Nat} {F : Nat → Int} {z x : Int} (k : Nat) (hi : i < N) (he : w i = aZ G n F) (hz : z = (k : Int)) (hk : k < n) (hn : n < 2147483648) (hxn : vp_nar .boolean (iI x) = iI x) (hdg : decode cc pc = .ok (.bastore, 1)) (kk : ∀ (w1 : Nat → va_E) (H1 : Heap) (locs1 : List Loc), w1 i = aZ G n (va_up F k x) → (∀ j, j ≠ i → w1 j = w j) → va_P G.1 vwCl (nL N ad w1) H1 → va_S A H0 H1 locs1 → W p l e R s m args below meth c H1 locs1 cells slots Q (F0 m (pc + 1) ls rest)) : W p l e R s m args below meth c H locs cells slots Q (F0 m pc ls (.int (iI x) :: .int (iI z) :: .ref (ad i) :: rest)) := by
  refine va_zast hx hb hK.1 hP (hJ.D w) hS i 2 (nL_get hi he) rfl (iI_in hz hk hn) hdg (fun H1 locs1 hP1 _ hS1 => ?_)
  subst hz
  rw [nL_set, iI_cl (by omega), hxn] at hP1
  refine kk _ H1 locs1 ?_ (fun j hj => va_up_ne _ _ hj) hP1 hS1
  rw [va_up_self]
  have e9 : upd (fun j => iI (F j)) k (iI x) = fun j => iI (va_up F k x j) := by
    funext j
    unfold upd va_up
    split <;> rfl
  rw [e9]
/-- calls of readers -/
theorem n_rd {v : Value} {g : JFrame} {a : Array Value} (hr : va_Run p l e R s m args below meth c H locs cells slots 0 0 g rest (nRd v a) (fun _ => False)) (kk : W p l e R s m args below meth c H locs cells slots Q { g with pc := g.pc + 3, stack := v :: rest }) : W p l e R s m args below meth c H locs cells slots Q g := by
  intro T hT X
  obtain ⟨v', st₀, t, T', L, h0, X', hL, e1, e2, ⟨hv, hh⟩, st⟩ := hr T hT X
  cases hv
  obtain ⟨t2, a1, b1⟩ := kk T' (by rw [e1, hh, h0]) (Stand.forget X' (fun q h => (hL q h).elim))
  exact ⟨t2, st t2 a1, b1⟩
/-- calls of writers -/
theorem n_cI {post : Int → (Nat → va_E) → Prop} {a : Array Value} {st0 : List Value} (hr : va_Run p l e R s m args below meth c H locs cells slots 0 0 (F0 m pc ls st0) rest (nPi G N ad H.size post a) (nA N ad H.size)) (hS : va_S (nA N ad s.heap.size) s.heap H locs)
    (kk : ∀ (r : Int) (w1 : Nat → va_E) (H1 : Heap) (locs1 : List Loc), post r w1 → va_P G.1 vwCl (nL N ad w1) H1 → va_S (nA N ad s.heap.size) s.heap H1 locs1 → W p l e R s m args below meth c H1 locs1 cells slots Q (F0 m (pc + 3) ls (.int (iI r) :: rest))) : W p l e R s m args below meth c H locs cells slots Q (F0 m pc ls st0) := by
  have hA : ∀ q, nA N ad H.size q → nA N ad s.heap.size q := nA.up hS.1
  intro T hT X
  obtain ⟨v, st₀, t, T', L, h0, X', hL, e1, e2, ⟨⟨r, u, hv, hp, hb⟩, hz, hk⟩, st⟩ := hr T hT X
  cases hv
  rw [h0] at hz hk
  obtain ⟨t2, a1, b1⟩ := kk r u T'.heap (locs ++ L) hp (by rw [e1]; exact hb)
    ⟨Nat.le_trans hS.1 (by rw [e1]; exact hz), fun q h1 h2 => by rw [e1, hk q (Nat.lt_of_lt_of_le h1 hS.1) (fun z => h2 (hA q z))]; exact hS.2.1 q h1 h2, fun q hq => by
      rcases List.mem_append.mp hq with h | h
      · exact hS.2.2 q h
      · exact hA _ (hL q h)⟩ T' rfl X'
  exact ⟨t2, st t2 a1, b1⟩
theorem n_cL {post : Int → (Nat → va_E) → Prop} {a : Array Value} {st0 : List Value} (hr : va_Run p l e R s m args below meth c H locs cells slots 0 0 (F0 m pc ls st0) rest (nPl G N ad H.size post a) (nA N ad H.size)) (hS : va_S (nA N ad s.heap.size) s.heap H locs)
    (kk : ∀ (r : Int) (w1 : Nat → va_E) (H1 : Heap) (locs1 : List Loc), post r w1 → va_P G.1 vwCl (nL N ad w1) H1 → va_S (nA N ad s.heap.size) s.heap H1 locs1 → W p l e R s m args below meth c H1 locs1 cells slots Q (F0 m (pc + 3) ls (.long (jI r) :: rest))) : W p l e R s m args below meth c H locs cells slots Q (F0 m pc ls st0) := by
  have hA : ∀ q, nA N ad H.size q → nA N ad s.heap.size q := nA.up hS.1
  intro T hT X
  obtain ⟨v, st₀, t, T', L, h0, X', hL, e1, e2, ⟨⟨r, u, hv, hp, hb⟩, hz, hk⟩, st⟩ := hr T hT X
  cases hv
  rw [h0] at hz hk
  obtain ⟨t2, a1, b1⟩ := kk r u T'.heap (locs ++ L) hp (by rw [e1]; exact hb)
    ⟨Nat.le_trans hS.1 (by rw [e1]; exact hz), fun q h1 h2 => by rw [e1, hk q (Nat.lt_of_lt_of_le h1 hS.1) (fun z => h2 (hA q z))]; exact hS.2.1 q h1 h2, fun q hq => by
      rcases List.mem_append.mp hq with h | h
      · exact hS.2.2 q h
      · exact hA _ (hL q h)⟩ T' rfl X'
  exact ⟨t2, st t2 a1, b1⟩
theorem n_cV {post : (Nat → va_E) → Prop} {a : Array Value} {st0 : List Value} (hr : va_Run p l e R s m args below meth c H locs cells slots 0 0 (F0 m pc ls st0) rest (nPv G N ad H.size post a) (nA N ad H.size)) (hS : va_S (nA N ad s.heap.size) s.heap H locs)
    (kk : ∀ (w1 : Nat → va_E) (H1 : Heap) (locs1 : List Loc), post w1 → va_P G.1 vwCl (nL N ad w1) H1 → va_S (nA N ad s.heap.size) s.heap H1 locs1 → W p l e R s m args below meth c H1 locs1 cells slots Q (F0 m (pc + 3) ls rest)) : W p l e R s m args below meth c H locs cells slots Q (F0 m pc ls st0) := by
  have hA : ∀ q, nA N ad H.size q → nA N ad s.heap.size q := nA.up hS.1
  intro T hT X
  obtain ⟨v, st₀, t, T', L, h0, X', hL, e1, e2, ⟨⟨u, hv, hp, hb⟩, hz, hk⟩, st⟩ := hr T hT X
  cases hv
  rw [h0] at hz hk
  obtain ⟨t2, a1, b1⟩ := kk u T'.heap (locs ++ L) hp (by rw [e1]; exact hb)
    ⟨Nat.le_trans hS.1 (by rw [e1]; exact hz), fun q h1 h2 => by rw [e1, hk q (Nat.lt_of_lt_of_le h1 hS.1) (fun z => h2 (hA q z))]; exact hS.2.1 q h1 h2, fun q hq => by
      rcases List.mem_append.mp hq with h | h
      · exact hS.2.2 q h
      · exact hA _ (hL q h)⟩ T' rfl X'
  exact ⟨t2, st t2 a1, b1⟩
end NW
section NE
variable {p : Program} {l : Launch} {e : Env} {R : Room} {s : State} {m : MethodId} {args : Array Value} {below : List Frame} {meth : Method} {c : Code} {H : Heap} {locs : List Loc} {cells slots : Nat} {Q : State → Prop}
variable {cc : ByteArray} {pc : Nat} {ls : Array Slot} {rest : List Value} {G : nG} {N : Nat} {ad : Nat → Nat} {w : Nat → va_E} {A : Nat → Prop} {H0 : Heap}
theorem n_rdF {v : Value} {st0 : List Value} {a : Array Value} (hr : va_Run p l e R s m args below meth c H locs cells slots 0 0 (F0 m pc ls st0) rest (nRd v a) (fun _ => False)) (kk : W p l e R s m args below meth c H locs cells slots Q (F0 m (pc + 3) ls (v :: rest))) : W p l e R s m args below meth c H locs cells slots Q (F0 m pc ls st0) := n_rd hr kk
theorem n_iretR {z z' : Int} (hx : p.tables.exec = Jvm.exec) (hb : c.code = cc) (hr : meth.sig.returnType = some .int) (hlocks : meth.locks = false) (hz : z = z') (hdg : decode cc pc = .ok (.ireturn, 1)) : W p l e R s m args below meth c s.heap [] cells slots (MQ below (nRd (.int (iI z'))) args s cells slots (fun _ => False)) (F0 m pc ls [.int (iI z)]) := W.iret (v := iI z) hx hb hr (fun t ht _ => ⟨by rw [hz], ht⟩) (fun _ h => by cases h) hdg hlocks
theorem n_zretR {z : Int} {t : Prop} [Decidable t] (hx : p.tables.exec = Jvm.exec) (hb : c.code = cc) (hr : meth.sig.returnType = some .boolean) (hlocks : meth.locks = false) (hz : z = bI t) (hdg : decode cc pc = .ok (.ireturn, 1)) : W p l e R s m args below meth c s.heap [] cells slots (MQ below (nRd (.int (iI (bI t)))) args s cells slots (fun _ => False)) (F0 m pc ls [.int (iI z)]) := W.zret (v := iI z) (ty := .boolean) hx hb hr (by rw [hz]; exact bI_nar t) (fun t ht _ => ⟨by rw [hz], ht⟩) (fun _ h => by cases h) hdg hlocks
theorem n_lretR {z z' : Int} (hx : p.tables.exec = Jvm.exec) (hb : c.code = cc) (hr : meth.sig.returnType = some .long) (hlocks : meth.locks = false) (hz : z = z') (hdg : decode cc pc = .ok (.lreturn, 1)) : W p l e R s m args below meth c s.heap [] cells slots (MQ below (nRd (.long (jI z'))) args s cells slots (fun _ => False)) (F0 m pc ls [.long (jI z)]) := W.lret (v := jI z) hx hb hr (fun t ht _ => ⟨by rw [hz], ht⟩) (fun _ h => by cases h) hdg hlocks
theorem n_aretR {v v' : Value} {rt : FieldType} (hx : p.tables.exec = Jvm.exec) (hb : c.code = cc) (hr : meth.sig.returnType = some rt) (hrt : (∃ n, rt = .object n) ∨ ∃ t, rt = .array t) (hlocks : meth.locks = false) (hv : v = .null ∨ ∃ a, v = .ref a) (hz : v = v') (hdg : decode cc pc = .ok (.areturn, 1)) : W p l e R s m args below meth c s.heap [] cells slots (MQ below (nRd v') args s cells slots (fun _ => False)) (F0 m pc ls [v]) := W.aret (v := v) hx hb hr hrt hv (fun t ht _ => ⟨by rw [hz], ht⟩) (fun _ h => by cases h) hdg hlocks
theorem n_iretP {z : Int} {post : Int → (Nat → va_E) → Prop} (hx : p.tables.exec = Jvm.exec) (hb : c.code = cc) (hr : meth.sig.returnType = some .int) (hlocks : meth.locks = false) (hP : va_P G.1 vwCl (nL N ad w) H) (hS : va_S (nA N ad s.heap.size) s.heap H locs) (hdg : decode cc pc = .ok (.ireturn, 1)) (hpost : post z w) : W p l e R s m args below meth c H locs cells slots (MQ below (nPi G N ad s.heap.size post) args s cells slots (nA N ad s.heap.size)) (F0 m pc ls [.int (iI z)]) := W.iret (v := iI z) hx hb hr (fun t ht _ => ⟨⟨z, w, rfl, hpost, by rw [ht]; exact hP⟩, hS.F ht⟩) hS.2.2 hdg hlocks
theorem n_zretP {z : Int} {t : Prop} [Decidable t] {post : Int → (Nat → va_E) → Prop} (hx : p.tables.exec = Jvm.exec) (hb : c.code = cc) (hr : meth.sig.returnType = some .boolean) (hlocks : meth.locks = false) (hz : z = bI t) (hP : va_P G.1 vwCl (nL N ad w) H) (hS : va_S (nA N ad s.heap.size) s.heap H locs) (hdg : decode cc pc = .ok (.ireturn, 1)) (hpost : post z w) : W p l e R s m args below meth c H locs cells slots (MQ below (nPi G N ad s.heap.size post) args s cells slots (nA N ad s.heap.size)) (F0 m pc ls [.int (iI z)]) := W.zret (v := iI z) (ty := .boolean) hx hb hr (by rw [hz]; exact bI_nar t) (fun t ht _ => ⟨⟨z, w, rfl, hpost, by rw [ht]; exact hP⟩, hS.F ht⟩) hS.2.2 hdg hlocks
theorem n_lretP {z : Int} {post : Int → (Nat → va_E) → Prop} (hx : p.tables.exec = Jvm.exec) (hb : c.code = cc) (hr : meth.sig.returnType = some .long) (hlocks : meth.locks = false) (hP : va_P G.1 vwCl (nL N ad w) H) (hS : va_S (nA N ad s.heap.size) s.heap H locs) (hdg : decode cc pc = .ok (.lreturn, 1)) (hpost : post z w) : W p l e R s m args below meth c H locs cells slots (MQ below (nPl G N ad s.heap.size post) args s cells slots (nA N ad s.heap.size)) (F0 m pc ls [.long (jI z)]) := W.lret (v := jI z) hx hb hr (fun t ht _ => ⟨⟨z, w, rfl, hpost, by rw [ht]; exact hP⟩, hS.F ht⟩) hS.2.2 hdg hlocks
theorem n_vretP {post : (Nat → va_E) → Prop} (hx : p.tables.exec = Jvm.exec) (hb : c.code = cc) (hr : meth.sig.returnType = none) (hlocks : meth.locks = false) (hP : va_P G.1 vwCl (nL N ad w) H) (hS : va_S (nA N ad s.heap.size) s.heap H locs) (hdg : decode cc pc = .ok (.return_, 1)) (hpost : post w) : W p l e R s m args below meth c H locs cells slots (MQ below (nPv G N ad s.heap.size post) args s cells slots (nA N ad s.heap.size)) (F0 m pc ls []) := W.vret hx hb hr (fun t ht _ => ⟨⟨w, rfl, hpost, by rw [ht]; exact hP⟩, hS.F ht⟩) hS.2.2 hdg hlocks
end NE
/-- a method from its entry -/
theorem n_ent {l : Launch} {y : MethodName} {ws ws' : List Cond} {rm : Room} {av : List Value} {G : nG} {N : Nat} {ad : Nat → Nat} {w : Nat → va_E} {sz : Nat} {Qc : Array Value → State → Outcome → State → Prop} {mc ms : Nat} {free : Addr → Prop} {cc : ByteArray} {maxL : Nat} {ret : Option FieldType}
    (hy : plainName y.cls = true) (hw : ws = Cond.code y cc maxL ret :: ws') (hlen : (lg_sl av).length ≤ maxL)
    (body : ∀ (p : Program) (e : Env) (s : State) (m : MethodId) (below : List Frame) (meth : Method) (c : Code), p.tables.exec = Jvm.exec → c.code = cc → meth.sig.returnType = ret → c.maxLocals = maxL → meth.locks = false → (∀ w ∈ ws, w.before av.toArray s = true) → s.vm.findClass y.cls = some m.cls → meth.name = y.name → s.heap.size = sz → va_P G.1 vwCl (nL N ad w) s.heap → nK G s → nInj N ad → ∀ ls : Array Slot, lv_has ls maxL (lv_args 0 av) → W p l e rm s m av.toArray below meth c s.heap [] 0 0 (MQ below Qc av.toArray s mc ms free) (F0 m 0 ls [])) :
    Met l y ws rm (va_Pc av (nB G N ad w sz)) Qc mc ms free := by
  refine Met.ofW (cc := cc) (maxL := maxL) (ret := ret) hy hw ?_
  intro p e s m args below meth c s₁ B hml hv
  obtain ⟨rfl, hsz, hP, hK, hI⟩ := hv
  rw [lg_entry_eq]
  exact body p e s m below meth c B.exec B.bytes B.returns hml B.notSynchronized (atoms_spec (ws := ws) B.pre) (findClass_of_methodNamed B.named) (name_of_methodNamed B.named B.method).1 hsz hP hK hI _ (lv_entry av hlen)
/-- a method that reads no cell -/
theorem n_ent0 {l : Launch} {y : MethodName} {ws ws' : List Cond} {rm : Room} {av : List Value} {Qc : Array Value → State → Outcome → State → Prop} {mc ms : Nat} {free : Addr → Prop} {cc : ByteArray} {maxL : Nat} {ret : Option FieldType}
    (hy : plainName y.cls = true) (hw : ws = Cond.code y cc maxL ret :: ws') (hlen : (lg_sl av).length ≤ maxL)
    (body : ∀ (p : Program) (e : Env) (s : State) (m : MethodId) (below : List Frame) (meth : Method) (c : Code), p.tables.exec = Jvm.exec → c.code = cc → meth.sig.returnType = ret → c.maxLocals = maxL → meth.locks = false → (∀ w ∈ ws, w.before av.toArray s = true) → s.vm.findClass y.cls = some m.cls → ∀ ls : Array Slot, lv_has ls maxL (lv_args 0 av) → W p l e rm s m av.toArray below meth c s.heap [] 0 0 (MQ below Qc av.toArray s mc ms free) (F0 m 0 ls [])) :
    Met l y ws rm (fun v _ => v = av.toArray) Qc mc ms free := by
  refine Met.ofW (cc := cc) (maxL := maxL) (ret := ret) hy hw ?_
  intro p e s m args below meth c s₁ B hml hv
  subst hv
  rw [lg_entry_eq]
  exact body p e s m below meth c B.exec B.bytes B.returns hml B.notSynchronized (atoms_spec (ws := ws) B.pre) (findClass_of_methodNamed B.named) _ (lv_entry av hlen)
end
