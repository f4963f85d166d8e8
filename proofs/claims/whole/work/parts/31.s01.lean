set_option maxHeartbeats 4000000 in
set_option maxRecDepth 100000 in
theorem S_X0_init (l : Launch) (a0 : Nat) (M : xv_M) (q : Unit × xv_M) (h : D_X0_init a0 M = some q) : xv_Met l yX0_init wsX0_init rm_X0_init 1 1001 true [xr a0] M (xv_qV true q) := by
  refine xv_enter (cc := cX0_init) (nL := 1) (ret := none) rfl (by decide +kernel) (Nat.le_of_ble_eq_true rfl) h ?_
  intro Y hY0 hl hR hnL hfl hret hnm0
  have hY : xv_ok Y cX0_init wsX0_init RX0 := hY0
  have hin0 : ∀ w ∈ u_ws RX0 TX0 1, w ∈ wsX0_init := fun _ h => List.mem_cons_of_mem _ (List.mem_append_right _ h)
  unfold D_X0_init
  refine xv_mk (L' := [some (xr a0)]) [true] rfl ?_
  refine xv_aload_n rfl rfl hY dX0_init_0 rfl ?_
  refine xv_objInit hY dX0_init_1 rfl (by decide +kernel) (by decide +kernel) (by decide +kernel) (by rw [hR]; exact Nat.le_of_ble_eq_true rfl) (by rw [hR]; exact Nat.le_of_ble_eq_true rfl) ?_
  refine xv_aload_n rfl rfl hY dX0_init_4 rfl ?_
  refine xv_sipush (by decide) hY dX0_init_5 rfl ?_
  refine xv_newaJ (N := 1001) hY hfl dX0_init_8 rfl rfl (by decide) (by decide +kernel) (by rw [hR]; exact Nat.le_of_ble_eq_true rfl) (by rw [hR]; exact Nat.le_of_ble_eq_true rfl) (fun r1 M2 => ?_)
  refine xv_putP (ci := 0) (j := 0) hY dX0_init_10 rfl rfl rfl (by decide) hin0 (by decide) rfl (List.mem_of_getElem? (i := 5) rfl) tyX0_ok nmX0 (Or.inr ⟨rfl, hnm0, rfl⟩) (Or.inr ⟨_, rfl⟩) (fun M3 => ?_)
  exact xv_vretu hY hfl dX0_init_13 hret (Nat.le_of_ble_eq_true rfl) (Nat.le_of_ble_eq_true rfl)
set_option maxHeartbeats 4000000 in
set_option maxRecDepth 100000 in
theorem S_J7_fill_d0a16 (l : Launch) (a0 : Nat) (a1 : Int64) (M : xv_M) (q : Unit × xv_M) (h : D_J7_fill_d0a16 a0 a1 M = some q) : xv_Met l yJ7_fill_d0a16 wsJ7_fill_d0a16 rm_J7_fill_d0a16 0 0 false [xr a0, xl a1] M (xv_qV false q) := by
  refine xv_enter (cc := cJ7_fill_d0a16) (nL := 5) (ret := none) rfl (by decide +kernel) (Nat.le_of_ble_eq_true rfl) h ?_
  intro Y hY0 hl hR hnL hfl hret hnm0
  have hY : xv_ok Y cJ7_fill_d0a16 wsJ7_fill_d0a16 RJ7 := hY0
  unfold D_J7_fill_d0a16
  refine xv_mk (L' := [some (xr a0), some (xl a1), none, none, none]) [true, true, true, true, true] rfl ?_
  refine xv_iconst hY dJ7_fill_d0a16_0 rfl ?_
  refine xv_istore_n (L' := [some (xr a0), some (xl a1), none, some (xi (0 : Int)), none]) hY dJ7_fill_d0a16_1 rfl rfl (by rw [hnL]; decide) rfl rfl ?_
  refine xv_aload_n rfl rfl hY dJ7_fill_d0a16_2 rfl ?_
  refine xv_alenJ hY dJ7_fill_d0a16_3 rfl (fun v1 => ?_)
  refine xv_istore (L' := [some (xr a0), some (xl a1), none, some (xi (0 : Int)), some (xi v1)]) hY dJ7_fill_d0a16_4 rfl (by rw [hnL]; decide) rfl rfl ?_
  refine xv_mk (L' := [some (xr a0), some (xl a1), none, some (xi (0 : Int)), some (xi v1)]) [true, true, false, true, true] rfl ?_
  refine xv_loop (σ := Int × xv_M) (fun x2 => [some (xr a0), some (xl a1), none, some (xi x2.1), some (xi v1)]) (fun x2 => x2.2) (fun f3 hf3 x2 => ?_) xv_fuel ((0 : Int), M)
  refine xv_iload_n rfl rfl hY dJ7_fill_d0a16_6 rfl ?_
  refine xv_iload rfl hY dJ7_fill_d0a16_7 rfl ?_
  refine xv_icmp_ge (t := 22) hY dJ7_fill_d0a16_9 (by decide) rfl ?_ ?_
  · exact xv_vretu hY hfl dJ7_fill_d0a16_22 hret (Nat.le_of_ble_eq_true rfl) (Nat.le_of_ble_eq_true rfl)
  · refine xv_aload_n rfl rfl hY dJ7_fill_d0a16_12 rfl ?_
    refine xv_iload_n rfl rfl hY dJ7_fill_d0a16_13 rfl ?_
    refine xv_lload_n rfl rfl hY dJ7_fill_d0a16_14 rfl ?_
    refine xv_last hY hfl dJ7_fill_d0a16_15 rfl (fun M4 => ?_)
    refine xv_iinc (L' := [some (xr a0), some (xl a1), none, some (xi (x2.1 + 1)), some (xi v1)]) hY dJ7_fill_d0a16_16 rfl (by rw [hnL]; decide) rfl rfl rfl ?_
    refine xv_goto (pc' := 6) hY dJ7_fill_d0a16_19 (by decide) ?_
    exact xv_mk (L' := [some (xr a0), some (xl a1), none, some (xi (x2.1 + 1)), some (xi v1)]) [true, true, false, true, true] rfl (hf3 ((x2.1 + 1), M4))
set_option maxHeartbeats 4000000 in
set_option maxRecDepth 100000 in
theorem S_X11_isMember (l : Launch) (a0 : Int64) (a1 : Int) (M : xv_M) (q : Int × xv_M) (h : D_X11_isMember a0 a1 M = some q) : xv_Met l yX11_isMember wsX11_isMember rm_X11_isMember 0 0 false [xl a0, xi a1] M (xv_qI false q) := by
  refine xv_enter (cc := cX11_isMember) (nL := 3) (ret := (some .boolean)) rfl (by decide +kernel) (Nat.le_of_ble_eq_true rfl) h ?_
  intro Y hY0 hl hR hnL hfl hret hnm0
  have hY : xv_ok Y cX11_isMember wsX11_isMember RX11 := hY0
  unfold D_X11_isMember
  refine xv_mk (L' := [some (xl a0), none, some (xi a1)]) [true, true, true] rfl ?_
  refine xv_lload_n rfl rfl hY dX11_isMember_0 rfl ?_
  refine xv_iload_n rfl rfl hY dX11_isMember_1 rfl ?_
  refine xv_lushr hY dX11_isMember_2 rfl ?_
  refine xv_lconst (v := 1) rfl hY dX11_isMember_3 rfl ?_
  refine xv_land hY dX11_isMember_4 rfl ?_
  refine xv_lconst (v := 0) rfl hY dX11_isMember_5 rfl ?_
  refine xv_lcmp hY dX11_isMember_6 rfl ?_
  refine xv_if_eq (t := 14) hY dX11_isMember_7 (by decide) rfl ?_ ?_
  · refine xv_iconst hY dX11_isMember_14 rfl ?_
    exact xv_iretz hY hfl dX11_isMember_15 hret (Nat.le_of_ble_eq_true rfl) (Nat.le_of_ble_eq_true rfl)
  · refine xv_iconst hY dX11_isMember_10 rfl ?_
    refine xv_goto (pc' := 15) hY dX11_isMember_11 (by decide) ?_
    exact xv_iretz hY hfl dX11_isMember_15 hret (Nat.le_of_ble_eq_true rfl) (Nat.le_of_ble_eq_true rfl)
set_option maxHeartbeats 4000000 in
set_option maxRecDepth 100000 in
theorem S_X5_isThere (l : Launch) (a0 : Nat) (a1 : Int) (M : xv_M) (q : Int × xv_M) (h : D_X5_isThere a0 a1 M = some q) : xv_Met l yX5_isThere wsX5_isThere rm_X5_isThere 0 0 false [xr a0, xi a1] M (xv_qI false q) := by
  refine xv_enter (cc := cX5_isThere) (nL := 2) (ret := (some .boolean)) rfl (by decide +kernel) (Nat.le_of_ble_eq_true rfl) h ?_
  intro Y hY0 hl hR hnL hfl hret hnm0
  have hY : xv_ok Y cX5_isThere wsX5_isThere RX5 := hY0
  have hin5 : ∀ w ∈ u_ws RX5 TX5 8, w ∈ wsX5_isThere := fun _ h => List.mem_cons_of_mem _ (List.mem_append_right _ h)
  unfold D_X5_isThere
  refine xv_mk (L' := [some (xr a0), some (xi a1)]) [true, true] rfl ?_
  refine xv_aload_n rfl rfl hY dX5_isThere_0 rfl ?_
  refine xv_getJ (ci := 5) (j := 1) hY dX5_isThere_1 rfl rfl rfl (by decide) hin5 (by decide) rfl (List.mem_of_getElem? (i := 1) rfl) (fun v1 => ?_)
  refine xv_iload_n rfl rfl hY dX5_isThere_4 rfl ?_
  refine xv_callSNI (y := yX11_isMember) (ws := wsX11_isMember) (rm := rm_X11_isMember) (mc := 0) (ms := 0) (n := 2) (av := [xl v1, xi a1]) hY dX5_isThere_5 rfl rfl (fun q hq => by rw [hfl]; exact S_X11_isMember Y.1.2.1 v1 a1 M q hq) ⟨va_cnB 2 hY.2.2.2.2.1 gX5_isThere_X11_isMember_n42 rfl rfl rfl (hY.2.2.2.2.2.1.2.1 _ (List.mem_of_getElem? (i := 12) rfl)) (hY.2.2.2.2.1 _ (by decide +kernel)) (by decide +kernel) ⟨(by rw [hR]; exact Nat.le_of_ble_eq_true rfl), (by rw [hR]; exact Nat.le_of_ble_eq_true rfl)⟩, hY.2.2.2.2.1 _ (by decide +kernel), trivial⟩ rfl (Nat.le_of_ble_eq_true rfl) ⟨(by rw [hR]; exact Nat.le_of_ble_eq_true rfl), (by rw [hR]; exact Nat.le_of_ble_eq_true rfl)⟩ (fun z3 M2 => ?_)
  exact xv_iretz hY hfl dX5_isThere_8 hret (Nat.le_of_ble_eq_true rfl) (Nat.le_of_ble_eq_true rfl)
set_option maxHeartbeats 4000000 in
set_option maxRecDepth 100000 in
theorem S_X11_isPlace (l : Launch) (a0 : Int) (M : xv_M) (q : Int × xv_M) (h : D_X11_isPlace a0 M = some q) : xv_Met l yX11_isPlace wsX11_isPlace rm_X11_isPlace 0 0 false [xi a0] M (xv_qI false q) := by
  refine xv_enter (cc := cX11_isPlace) (nL := 1) (ret := (some .boolean)) rfl (by decide +kernel) (Nat.le_of_ble_eq_true rfl) h ?_
  intro Y hY0 hl hR hnL hfl hret hnm0
  have hY : xv_ok Y cX11_isPlace wsX11_isPlace RX11 := hY0
  unfold D_X11_isPlace
  refine xv_mk (L' := [some (xi a0)]) [true] rfl ?_
  refine xv_iload_n rfl rfl hY dX11_isPlace_0 rfl ?_
  refine xv_if_lt (t := 15) hY dX11_isPlace_1 (by decide) rfl ?_ ?_
  · refine xv_iconst hY dX11_isPlace_15 rfl ?_
    exact xv_iretz hY hfl dX11_isPlace_16 hret (Nat.le_of_ble_eq_true rfl) (Nat.le_of_ble_eq_true rfl)
  · refine xv_iload_n rfl rfl hY dX11_isPlace_4 rfl ?_
    refine xv_sipush (by decide) hY dX11_isPlace_5 rfl ?_
    refine xv_icmp_gt (t := 15) hY dX11_isPlace_8 (by decide) rfl ?_ ?_
    · refine xv_iconst hY dX11_isPlace_15 rfl ?_
      exact xv_iretz hY hfl dX11_isPlace_16 hret (Nat.le_of_ble_eq_true rfl) (Nat.le_of_ble_eq_true rfl)
    · refine xv_iconst hY dX11_isPlace_11 rfl ?_
      refine xv_goto (pc' := 16) hY dX11_isPlace_12 (by decide) ?_
      exact xv_iretz hY hfl dX11_isPlace_16 hret (Nat.le_of_ble_eq_true rfl) (Nat.le_of_ble_eq_true rfl)
set_option maxHeartbeats 4000000 in
set_option maxRecDepth 100000 in
theorem S_X0_flip (l : Launch) (a0 : Nat) (a1 : Int) (a2 : Int) (M : xv_M) (q : Unit × xv_M) (h : D_X0_flip a0 a1 a2 M = some q) : xv_Met l yX0_flip wsX0_flip rm_X0_flip 0 0 false [xr a0, xi a1, xi a2] M (xv_qV false q) := by
  refine xv_enter (cc := cX0_flip) (nL := 3) (ret := none) rfl (by decide +kernel) (Nat.le_of_ble_eq_true rfl) h ?_
  intro Y hY0 hl hR hnL hfl hret hnm0
  have hY : xv_ok Y cX0_flip wsX0_flip RX0 := hY0
  have hin0 : ∀ w ∈ u_ws RX0 TX0 1, w ∈ wsX0_flip := fun _ h => List.mem_cons_of_mem _ (List.mem_append_right _ h)
  unfold D_X0_flip
  refine xv_mk (L' := [some (xr a0), some (xi a1), some (xi a2)]) [true, true, true] rfl ?_
  refine xv_iload_n rfl rfl hY dX0_flip_0 rfl ?_
  refine xv_callSNI (y := yX11_isPlace) (ws := wsX11_isPlace) (rm := rm_X11_isPlace) (mc := 0) (ms := 0) (n := 1) (av := [xi a1]) hY dX0_flip_1 rfl rfl (fun q hq => by rw [hfl]; exact S_X11_isPlace Y.1.2.1 a1 M q hq) ⟨va_cnB 1 hY.2.2.2.2.1 gX0_flip_X11_isPlace_n42 rfl rfl rfl (hY.2.2.2.2.2.1.2.1 _ (List.mem_of_getElem? (i := 13) rfl)) (hY.2.2.2.2.1 _ (by decide +kernel)) (by decide +kernel) ⟨(by rw [hR]; exact Nat.le_of_ble_eq_true rfl), (by rw [hR]; exact Nat.le_of_ble_eq_true rfl)⟩, hY.2.2.2.2.1 _ (by decide +kernel), trivial⟩ rfl (Nat.le_of_ble_eq_true rfl) ⟨(by rw [hR]; exact Nat.le_of_ble_eq_true rfl), (by rw [hR]; exact Nat.le_of_ble_eq_true rfl)⟩ (fun z2 M1 => ?_)
  refine xv_if_eq (t := 19) hY dX0_flip_4 (by decide) rfl ?_ ?_
  · exact xv_vretu hY hfl dX0_flip_19 hret (Nat.le_of_ble_eq_true rfl) (Nat.le_of_ble_eq_true rfl)
  · refine xv_aload_n rfl rfl hY dX0_flip_7 rfl ?_
    refine xv_getP (ci := 0) (j := 0) hY dX0_flip_8 rfl rfl rfl (by decide) hin0 (by decide) rfl (List.mem_of_getElem? (i := 1) rfl) (fun v3 => ?_)
    refine xv_iload_n rfl rfl hY dX0_flip_11 rfl ?_
    refine xv_dup2 hY dX0_flip_12 rfl ?_
    refine xv_lald hY dX0_flip_13 rfl (fun v4 => ?_)
    refine xv_lconst (v := 1) rfl hY dX0_flip_14 rfl ?_
    refine xv_iload_n rfl rfl hY dX0_flip_15 rfl ?_
    refine xv_lshl hY dX0_flip_16 rfl ?_
    refine xv_lxor hY dX0_flip_17 rfl ?_
    refine xv_last hY hfl dX0_flip_18 rfl (fun M5 => ?_)
    exact xv_vretu hY hfl dX0_flip_19 hret (Nat.le_of_ble_eq_true rfl) (Nat.le_of_ble_eq_true rfl)
set_option maxHeartbeats 4000000 in
set_option maxRecDepth 100000 in
theorem S_X0_build (l : Launch) (a0 : Nat) (a1 : Nat) (M : xv_M) (q : Unit × xv_M) (h : D_X0_build a0 a1 M = some q) : xv_Met l yX0_build wsX0_build rm_X0_build 0 0 false [xr a0, xr a1] M (xv_qV false q) := by
  refine xv_enter (cc := cX0_build) (nL := 3) (ret := none) rfl (by decide +kernel) (Nat.le_of_ble_eq_true rfl) h ?_
  intro Y hY0 hl hR hnL hfl hret hnm0
  have hY : xv_ok Y cX0_build wsX0_build RX0 := hY0
  have hin0 : ∀ w ∈ u_ws RX0 TX0 1, w ∈ wsX0_build := fun _ h => List.mem_cons_of_mem _ (List.mem_append_left _ (List.mem_append_right _ h))
  have hin5 : ∀ w ∈ u_ws RX5 TX5 8, w ∈ wsX0_build := fun _ h => List.mem_cons_of_mem _ (List.mem_append_right _ h)
  unfold D_X0_build
  refine xv_mk (L' := [some (xr a0), some (xr a1), none]) [true, true, true] rfl ?_
  refine xv_aload_n rfl rfl hY dX0_build_0 rfl ?_
  refine xv_getP (ci := 0) (j := 0) hY dX0_build_1 rfl rfl rfl (by decide) hin0 (by decide) rfl (List.mem_of_getElem? (i := 1) rfl) (fun v1 => ?_)
  refine xv_lconst (v := 0) rfl hY dX0_build_4 rfl ?_
  refine xv_callSV (y := yJ7_fill_d0a16) (ws := wsJ7_fill_d0a16) (rm := rm_J7_fill_d0a16) (mc := 0) (ms := 0) (n := 2) (av := [xr v1, xl (0 : Int64)]) hY dX0_build_5 rfl rfl (fun q hq => by rw [hfl]; exact S_J7_fill_d0a16 Y.1.2.1 v1 (0 : Int64) M q hq) (va_cwS 2 hY.2.2.2.2.1 gX0_build_J7_fill_d0a16 rfl rfl rfl (by decide +kernel) ⟨(by rw [hR]; exact Nat.le_of_ble_eq_true rfl), (by rw [hR]; exact Nat.le_of_ble_eq_true rfl)⟩) rfl (Nat.le_of_ble_eq_true rfl) ⟨(by rw [hR]; exact Nat.le_of_ble_eq_true rfl), (by rw [hR]; exact Nat.le_of_ble_eq_true rfl)⟩ (fun _ M2 => ?_)
  refine xv_iconst hY dX0_build_8 rfl ?_
  refine xv_istore_n (L' := [some (xr a0), some (xr a1), some (xi (0 : Int))]) hY dX0_build_9 rfl rfl (by rw [hnL]; decide) rfl rfl ?_
  refine xv_mk (L' := [some (xr a0), some (xr a1), some (xi (0 : Int))]) [true, true, true] rfl ?_
  refine xv_loop (σ := Int × xv_M) (fun x3 => [some (xr a0), some (xr a1), some (xi x3.1)]) (fun x3 => x3.2) (fun f4 hf4 x3 => ?_) xv_fuel ((0 : Int), M2)
  refine xv_iload_n rfl rfl hY dX0_build_10 rfl ?_
  refine xv_aload_n rfl rfl hY dX0_build_11 rfl ?_
  refine xv_getI (ci := 5) (j := 0) hY dX0_build_12 rfl rfl rfl (by decide) hin5 (by decide) rfl (List.mem_of_getElem? (i := 2) rfl) (fun v5 => ?_)
  refine xv_icmp_ge (t := 56) hY dX0_build_15 (by decide) rfl ?_ ?_
  · refine xv_iconst hY dX0_build_56 rfl ?_
    refine xv_istore_n (L' := [some (xr a0), some (xr a1), some (xi (1 : Int))]) hY dX0_build_57 rfl rfl (by rw [hnL]; decide) rfl rfl ?_
    refine xv_mk (L' := [some (xr a0), none, some (xi (1 : Int))]) [true, false, true] rfl ?_
    refine xv_loop (σ := Int × xv_M) (fun x6 => [some (xr a0), none, some (xi x6.1)]) (fun x6 => x6.2) (fun f7 hf7 x6 => ?_) xv_fuel ((1 : Int), x3.2)
    refine xv_iload_n rfl rfl hY dX0_build_58 rfl ?_
    refine xv_sipush (by decide) hY dX0_build_59 rfl ?_
    refine xv_icmp_ge (t := 88) hY dX0_build_62 (by decide) rfl ?_ ?_
    · exact xv_vretu hY hfl dX0_build_88 hret (Nat.le_of_ble_eq_true rfl) (Nat.le_of_ble_eq_true rfl)
    · refine xv_aload_n rfl rfl hY dX0_build_65 rfl ?_
      refine xv_getP (ci := 0) (j := 0) hY dX0_build_66 rfl rfl rfl (by decide) hin0 (by decide) rfl (List.mem_of_getElem? (i := 1) rfl) (fun v8 => ?_)
      refine xv_iload_n rfl rfl hY dX0_build_69 rfl ?_
      refine xv_dup2 hY dX0_build_70 rfl ?_
      refine xv_lald hY dX0_build_71 rfl (fun v9 => ?_)
      refine xv_aload_n rfl rfl hY dX0_build_72 rfl ?_
      refine xv_getP (ci := 0) (j := 0) hY dX0_build_73 rfl rfl rfl (by decide) hin0 (by decide) rfl (List.mem_of_getElem? (i := 1) rfl) (fun v10 => ?_)
      refine xv_iload_n rfl rfl hY dX0_build_76 rfl ?_
      refine xv_iconst hY dX0_build_77 rfl ?_
      refine xv_isub hY dX0_build_78 rfl ?_
      refine xv_lald hY dX0_build_79 rfl (fun v11 => ?_)
      refine xv_lxor hY dX0_build_80 rfl ?_
      refine xv_last hY hfl dX0_build_81 rfl (fun M12 => ?_)
      refine xv_iinc (L' := [some (xr a0), none, some (xi (x6.1 + 1))]) hY dX0_build_82 rfl (by rw [hnL]; decide) rfl rfl rfl ?_
      refine xv_goto (pc' := 58) hY dX0_build_85 (by decide) ?_
      exact xv_mk (L' := [some (xr a0), none, some (xi (x6.1 + 1))]) [true, false, true] rfl (hf7 ((x6.1 + 1), M12))
  · refine xv_aload_n rfl rfl hY dX0_build_18 rfl ?_
    refine xv_iload_n rfl rfl hY dX0_build_19 rfl ?_
    refine xv_callVI (ci := 5) (y := yX5_isThere) (ws := wsX5_isThere) (rm := rm_X5_isThere) (mc := 0) (ms := 0) (n := 1) (av := [xi x3.1]) hY dX0_build_20 rfl rfl rfl (by decide) (fun q hq => by rw [hfl]; exact S_X5_isThere Y.1.2.1 a1 x3.1 x3.2 q hq) (cwV 1 hY.2.2.2.2.1 gX0_build_X5_isThere rfl rfl rfl (by decide +kernel) ⟨(by rw [hR]; exact Nat.le_of_ble_eq_true rfl), (by rw [hR]; exact Nat.le_of_ble_eq_true rfl)⟩) rfl (Nat.le_of_ble_eq_true rfl) ⟨(by rw [hR]; exact Nat.le_of_ble_eq_true rfl), (by rw [hR]; exact Nat.le_of_ble_eq_true rfl)⟩ (fun z14 M13 => ?_)
    refine xv_join (α := xv_M) 50 (fun x15 => [some (xr a0), some (xr a1), some (xi x3.1)]) (fun x15 => []) (fun x15 => x15) (fun x15 => ?_) (fun j16 hj16 => ?_)
    · refine xv_iinc (L' := [some (xr a0), some (xr a1), some (xi (x3.1 + 1))]) hY dX0_build_50 rfl (by rw [hnL]; decide) rfl rfl rfl ?_
      refine xv_goto (pc' := 10) hY dX0_build_53 (by decide) ?_
      exact xv_mk (L' := [some (xr a0), some (xr a1), some (xi (x3.1 + 1))]) [true, true, true] rfl (hf4 ((x3.1 + 1), x15))
    · refine xv_if_eq (t := 50) hY dX0_build_23 (by decide) rfl ?_ ?_
      · exact xv_mk (L' := [some (xr a0), some (xr a1), some (xi x3.1)]) [true, true, true] rfl (hj16 M13)
      · refine xv_aload_n rfl rfl hY dX0_build_26 rfl ?_
        refine xv_aload_n rfl rfl hY dX0_build_27 rfl ?_
        refine xv_getP (ci := 5) (j := 4) hY dX0_build_28 rfl rfl rfl (by decide) hin5 (by decide) rfl (List.mem_of_getElem? (i := 3) rfl) (fun v17 => ?_)
        refine xv_iload_n rfl rfl hY dX0_build_31 rfl ?_
        refine xv_iald hY dX0_build_32 rfl (fun v18 => ?_)
        refine xv_iload_n rfl rfl hY dX0_build_33 rfl ?_
        refine xv_callVV (ci := 0) (y := yX0_flip) (ws := wsX0_flip) (rm := rm_X0_flip) (mc := 0) (ms := 0) (n := 2) (av := [xi v18, xi x3.1]) hY dX0_build_34 rfl rfl rfl (by decide) (fun q hq => by rw [hfl]; exact S_X0_flip Y.1.2.1 a0 v18 x3.1 M13 q hq) (cwV 2 hY.2.2.2.2.1 gX0_build_X0_flip rfl rfl rfl (by decide +kernel) ⟨(by rw [hR]; exact Nat.le_of_ble_eq_true rfl), (by rw [hR]; exact Nat.le_of_ble_eq_true rfl)⟩) rfl (Nat.le_of_ble_eq_true rfl) ⟨(by rw [hR]; exact Nat.le_of_ble_eq_true rfl), (by rw [hR]; exact Nat.le_of_ble_eq_true rfl)⟩ (fun _ M19 => ?_)
        refine xv_aload_n rfl rfl hY dX0_build_37 rfl ?_
        refine xv_aload_n rfl rfl hY dX0_build_38 rfl ?_
        refine xv_getP (ci := 5) (j := 5) hY dX0_build_39 rfl rfl rfl (by decide) hin5 (by decide) rfl (List.mem_of_getElem? (i := 4) rfl) (fun v20 => ?_)
        refine xv_iload_n rfl rfl hY dX0_build_42 rfl ?_
        refine xv_iald hY dX0_build_43 rfl (fun v21 => ?_)
        refine xv_iconst hY dX0_build_44 rfl ?_
        refine xv_iadd hY dX0_build_45 rfl ?_
        refine xv_iload_n rfl rfl hY dX0_build_46 rfl ?_
        refine xv_callVV (ci := 0) (y := yX0_flip) (ws := wsX0_flip) (rm := rm_X0_flip) (mc := 0) (ms := 0) (n := 2) (av := [xi (v21 + (1 : Int)), xi x3.1]) hY dX0_build_47 rfl rfl rfl (by decide) (fun q hq => by rw [hfl]; exact S_X0_flip Y.1.2.1 a0 (v21 + (1 : Int)) x3.1 M19 q hq) (cwV 2 hY.2.2.2.2.1 gX0_build_X0_flip rfl rfl rfl (by decide +kernel) ⟨(by rw [hR]; exact Nat.le_of_ble_eq_true rfl), (by rw [hR]; exact Nat.le_of_ble_eq_true rfl)⟩) rfl (Nat.le_of_ble_eq_true rfl) ⟨(by rw [hR]; exact Nat.le_of_ble_eq_true rfl), (by rw [hR]; exact Nat.le_of_ble_eq_true rfl)⟩ (fun _ M22 => ?_)
        exact xv_mk (L' := [some (xr a0), some (xr a1), some (xi x3.1)]) [true, true, true] rfl (hj16 M22)
set_option maxHeartbeats 4000000 in
set_option maxRecDepth 100000 in
theorem S_X0_over (l : Launch) (a0 : Nat) (a1 : Int) (M : xv_M) (q : Int64 × xv_M) (h : D_X0_over a0 a1 M = some q) : xv_Met l yX0_over wsX0_over rm_X0_over 0 0 false [xr a0, xi a1] M (xv_qJ false q) := by
  refine xv_enter (cc := cX0_over) (nL := 2) (ret := (some .long)) rfl (by decide +kernel) (Nat.le_of_ble_eq_true rfl) h ?_
  intro Y hY0 hl hR hnL hfl hret hnm0
  have hY : xv_ok Y cX0_over wsX0_over RX0 := hY0
  have hin0 : ∀ w ∈ u_ws RX0 TX0 1, w ∈ wsX0_over := fun _ h => List.mem_cons_of_mem _ (List.mem_append_right _ h)
  unfold D_X0_over
  refine xv_mk (L' := [some (xr a0), some (xi a1)]) [true, true] rfl ?_
  refine xv_iload_n rfl rfl hY dX0_over_0 rfl ?_
  refine xv_callSNI (y := yX11_isPlace) (ws := wsX11_isPlace) (rm := rm_X11_isPlace) (mc := 0) (ms := 0) (n := 1) (av := [xi a1]) hY dX0_over_1 rfl rfl (fun q hq => by rw [hfl]; exact S_X11_isPlace Y.1.2.1 a1 M q hq) ⟨va_cnB 1 hY.2.2.2.2.1 gX0_over_X11_isPlace_n42 rfl rfl rfl (hY.2.2.2.2.2.1.2.1 _ (List.mem_of_getElem? (i := 13) rfl)) (hY.2.2.2.2.1 _ (by decide +kernel)) (by decide +kernel) ⟨(by rw [hR]; exact Nat.le_of_ble_eq_true rfl), (by rw [hR]; exact Nat.le_of_ble_eq_true rfl)⟩, hY.2.2.2.2.1 _ (by decide +kernel), trivial⟩ rfl (Nat.le_of_ble_eq_true rfl) ⟨(by rw [hR]; exact Nat.le_of_ble_eq_true rfl), (by rw [hR]; exact Nat.le_of_ble_eq_true rfl)⟩ (fun z2 M1 => ?_)
  refine xv_if_eq (t := 16) hY dX0_over_4 (by decide) rfl ?_ ?_
  · refine xv_lconst (v := 0) rfl hY dX0_over_16 rfl ?_
    exact xv_lretj hY hfl dX0_over_17 hret (Nat.le_of_ble_eq_true rfl) (Nat.le_of_ble_eq_true rfl)
  · refine xv_aload_n rfl rfl hY dX0_over_7 rfl ?_
    refine xv_getP (ci := 0) (j := 0) hY dX0_over_8 rfl rfl rfl (by decide) hin0 (by decide) rfl (List.mem_of_getElem? (i := 1) rfl) (fun v3 => ?_)
    refine xv_iload_n rfl rfl hY dX0_over_11 rfl ?_
    refine xv_lald hY dX0_over_12 rfl (fun v4 => ?_)
    refine xv_goto (pc' := 17) hY dX0_over_13 (by decide) ?_
    exact xv_lretj hY hfl dX0_over_17 hret (Nat.le_of_ble_eq_true rfl) (Nat.le_of_ble_eq_true rfl)
set_option maxHeartbeats 4000000 in
set_option maxRecDepth 100000 in
theorem S_X0_freeToTheRight (l : Launch) (a0 : Nat) (a1 : Int) (M : xv_M) (q : Int × xv_M) (h : D_X0_freeToTheRight a0 a1 M = some q) : xv_Met l yX0_freeToTheRight wsX0_freeToTheRight rm_X0_freeToTheRight 0 0 false [xr a0, xi a1] M (xv_qI false q) := by
  refine xv_enter (cc := cX0_freeToTheRight) (nL := 3) (ret := (some .int)) rfl (by decide +kernel) (Nat.le_of_ble_eq_true rfl) h ?_
  intro Y hY0 hl hR hnL hfl hret hnm0
  have hY : xv_ok Y cX0_freeToTheRight wsX0_freeToTheRight RX0 := hY0
  have hin0 : ∀ w ∈ u_ws RX0 TX0 1, w ∈ wsX0_freeToTheRight := fun _ h => List.mem_cons_of_mem _ (List.mem_append_right _ h)
  unfold D_X0_freeToTheRight
  refine xv_mk (L' := [some (xr a0), some (xi a1), none]) [true, true, true] rfl ?_
  refine xv_iload_n rfl rfl hY dX0_freeToTheRight_0 rfl ?_
  refine xv_iconst hY dX0_freeToTheRight_1 rfl ?_
  refine xv_mmax hY dX0_freeToTheRight_2 rfl (by decide +kernel) (by decide +kernel) (by decide +kernel) (by decide +kernel) (by rw [hR]; exact Nat.le_of_ble_eq_true rfl) (by rw [hR]; exact Nat.le_of_ble_eq_true rfl) (by rw [hR]; exact Nat.le_of_ble_eq_true rfl) (by rw [hR]; exact Nat.le_of_ble_eq_true rfl) (fun v1 => ?_)
  refine xv_istore_n (L' := [some (xr a0), some (xi a1), some (xi v1)]) hY dX0_freeToTheRight_5 rfl rfl (by rw [hnL]; decide) rfl rfl ?_
  refine xv_mk (L' := [some (xr a0), none, some (xi v1)]) [true, false, true] rfl ?_
  refine xv_loop (σ := Int) (fun x2 => [some (xr a0), none, some (xi x2)]) (fun x2 => M) (fun f3 hf3 x2 => ?_) xv_fuel v1
  refine xv_iload_n rfl rfl hY dX0_freeToTheRight_6 rfl ?_
  refine xv_sipush (by decide) hY dX0_freeToTheRight_7 rfl ?_
  refine xv_icmp_gt (t := 32) hY dX0_freeToTheRight_10 (by decide) rfl ?_ ?_
  · refine xv_bipush (by decide) hY dX0_freeToTheRight_32 rfl ?_
    exact xv_ireti hY hfl dX0_freeToTheRight_34 hret (Nat.le_of_ble_eq_true rfl) (Nat.le_of_ble_eq_true rfl)
  · refine xv_aload_n rfl rfl hY dX0_freeToTheRight_13 rfl ?_
    refine xv_getP (ci := 0) (j := 0) hY dX0_freeToTheRight_14 rfl rfl rfl (by decide) hin0 (by decide) rfl (List.mem_of_getElem? (i := 5) rfl) (fun v4 => ?_)
    refine xv_iload_n rfl rfl hY dX0_freeToTheRight_17 rfl ?_
    refine xv_lald hY dX0_freeToTheRight_18 rfl (fun v5 => ?_)
    refine xv_lconst (v := 0) rfl hY dX0_freeToTheRight_19 rfl ?_
    refine xv_lcmp hY dX0_freeToTheRight_20 rfl ?_
    refine xv_if_ne (t := 26) hY dX0_freeToTheRight_21 (by decide) rfl ?_ ?_
    · refine xv_iinc (L' := [some (xr a0), none, some (xi (x2 + 1))]) hY dX0_freeToTheRight_26 rfl (by rw [hnL]; decide) rfl rfl rfl ?_
      refine xv_goto (pc' := 6) hY dX0_freeToTheRight_29 (by decide) ?_
      exact xv_mk (L' := [some (xr a0), none, some (xi (x2 + 1))]) [true, false, true] rfl (hf3 (x2 + 1))
    · refine xv_iload_n rfl rfl hY dX0_freeToTheRight_24 rfl ?_
      exact xv_ireti hY hfl dX0_freeToTheRight_25 hret (Nat.le_of_ble_eq_true rfl) (Nat.le_of_ble_eq_true rfl)
set_option maxHeartbeats 4000000 in
set_option maxRecDepth 100000 in
theorem S_X0_freeToTheLeft (l : Launch) (a0 : Nat) (a1 : Int) (M : xv_M) (q : Int × xv_M) (h : D_X0_freeToTheLeft a0 a1 M = some q) : xv_Met l yX0_freeToTheLeft wsX0_freeToTheLeft rm_X0_freeToTheLeft 0 0 false [xr a0, xi a1] M (xv_qI false q) := by
  refine xv_enter (cc := cX0_freeToTheLeft) (nL := 3) (ret := (some .int)) rfl (by decide +kernel) (Nat.le_of_ble_eq_true rfl) h ?_
  intro Y hY0 hl hR hnL hfl hret hnm0
  have hY : xv_ok Y cX0_freeToTheLeft wsX0_freeToTheLeft RX0 := hY0
  have hin0 : ∀ w ∈ u_ws RX0 TX0 1, w ∈ wsX0_freeToTheLeft := fun _ h => List.mem_cons_of_mem _ (List.mem_append_right _ h)
  unfold D_X0_freeToTheLeft
  refine xv_mk (L' := [some (xr a0), some (xi a1), none]) [true, true, true] rfl ?_
  refine xv_iload_n rfl rfl hY dX0_freeToTheLeft_0 rfl ?_
  refine xv_sipush (by decide) hY dX0_freeToTheLeft_1 rfl ?_
  refine xv_mmin hY dX0_freeToTheLeft_4 rfl (by decide +kernel) (by decide +kernel) (by decide +kernel) (by decide +kernel) (by rw [hR]; exact Nat.le_of_ble_eq_true rfl) (by rw [hR]; exact Nat.le_of_ble_eq_true rfl) (by rw [hR]; exact Nat.le_of_ble_eq_true rfl) (by rw [hR]; exact Nat.le_of_ble_eq_true rfl) (fun v1 => ?_)
  refine xv_istore_n (L' := [some (xr a0), some (xi a1), some (xi v1)]) hY dX0_freeToTheLeft_7 rfl rfl (by rw [hnL]; decide) rfl rfl ?_
  refine xv_mk (L' := [some (xr a0), none, some (xi v1)]) [true, false, true] rfl ?_
  refine xv_loop (σ := Int) (fun x2 => [some (xr a0), none, some (xi x2)]) (fun x2 => M) (fun f3 hf3 x2 => ?_) xv_fuel v1
  refine xv_iload_n rfl rfl hY dX0_freeToTheLeft_8 rfl ?_
  refine xv_if_lt (t := 31) hY dX0_freeToTheLeft_9 (by decide) rfl ?_ ?_
  · refine xv_bipush (by decide) hY dX0_freeToTheLeft_31 rfl ?_
    exact xv_ireti hY hfl dX0_freeToTheLeft_33 hret (Nat.le_of_ble_eq_true rfl) (Nat.le_of_ble_eq_true rfl)
  · refine xv_aload_n rfl rfl hY dX0_freeToTheLeft_12 rfl ?_
    refine xv_getP (ci := 0) (j := 0) hY dX0_freeToTheLeft_13 rfl rfl rfl (by decide) hin0 (by decide) rfl (List.mem_of_getElem? (i := 5) rfl) (fun v4 => ?_)
    refine xv_iload_n rfl rfl hY dX0_freeToTheLeft_16 rfl ?_
    refine xv_lald hY dX0_freeToTheLeft_17 rfl (fun v5 => ?_)
    refine xv_lconst (v := 0) rfl hY dX0_freeToTheLeft_18 rfl ?_
    refine xv_lcmp hY dX0_freeToTheLeft_19 rfl ?_
    refine xv_if_ne (t := 25) hY dX0_freeToTheLeft_20 (by decide) rfl ?_ ?_
    · refine xv_iinc (L' := [some (xr a0), none, some (xi (x2 + (-1)))]) hY dX0_freeToTheLeft_25 rfl (by rw [hnL]; decide) rfl rfl rfl ?_
      refine xv_goto (pc' := 8) hY dX0_freeToTheLeft_28 (by decide) ?_
      exact xv_mk (L' := [some (xr a0), none, some (xi (x2 + (-1)))]) [true, false, true] rfl (hf3 (x2 + (-1)))
    · refine xv_iload_n rfl rfl hY dX0_freeToTheLeft_23 rfl ?_
      exact xv_ireti hY hfl dX0_freeToTheLeft_24 hret (Nat.le_of_ble_eq_true rfl) (Nat.le_of_ble_eq_true rfl)
set_option maxHeartbeats 4000000 in
set_option maxRecDepth 100000 in
theorem S_J13_bitCount_95d88 (l : Launch) (a0 : Int64) (M : xv_M) (q : Int × xv_M) (h : D_J13_bitCount_95d88 a0 M = some q) : xv_Met l yJ13_bitCount_95d88 wsJ13_bitCount_95d88 rm_J13_bitCount_95d88 0 0 false [xl a0] M (xv_qI false q) := by
  refine xv_enter (cc := cJ13_bitCount_95d88) (nL := 2) (ret := (some .int)) rfl (by decide +kernel) (Nat.le_of_ble_eq_true rfl) h ?_
  intro Y hY0 hl hR hnL hfl hret hnm0
  have hY : xv_ok Y cJ13_bitCount_95d88 wsJ13_bitCount_95d88 RJ13 := hY0
  unfold D_J13_bitCount_95d88
  refine xv_mk (L' := [some (xl a0), none]) [true, true] rfl ?_
  refine xv_lload_n rfl rfl hY dJ13_bitCount_95d88_0 rfl ?_
  refine xv_lload_n rfl rfl hY dJ13_bitCount_95d88_1 rfl ?_
  refine xv_iconst hY dJ13_bitCount_95d88_2 rfl ?_
  refine xv_lushr hY dJ13_bitCount_95d88_3 rfl ?_
  refine xv_ldc2 (v := (6148914691236517205 : Int64)) hY dJ13_bitCount_95d88_4 rfl (by decide +kernel) ?_
  refine xv_land hY dJ13_bitCount_95d88_7 rfl ?_
  refine xv_lsub hY dJ13_bitCount_95d88_8 rfl ?_
  refine xv_lstore_n (L' := [some (xl (a0 - ((((a0).toUInt64 >>> ((Int32.ofInt (1 : Int)).toInt64.toUInt64 &&& Int64.toUInt64 63)).toInt64) &&& (6148914691236517205 : Int64)))), none]) hY dJ13_bitCount_95d88_9 rfl rfl (by rw [hnL]; decide) rfl rfl ?_
  refine xv_lload_n rfl rfl hY dJ13_bitCount_95d88_10 rfl ?_
  refine xv_ldc2 (v := (3689348814741910323 : Int64)) hY dJ13_bitCount_95d88_11 rfl (by decide +kernel) ?_
  refine xv_land hY dJ13_bitCount_95d88_14 rfl ?_
  refine xv_lload_n rfl rfl hY dJ13_bitCount_95d88_15 rfl ?_
  refine xv_iconst hY dJ13_bitCount_95d88_16 rfl ?_
  refine xv_lushr hY dJ13_bitCount_95d88_17 rfl ?_
  refine xv_ldc2 (v := (3689348814741910323 : Int64)) hY dJ13_bitCount_95d88_18 rfl (by decide +kernel) ?_
  refine xv_land hY dJ13_bitCount_95d88_21 rfl ?_
  refine xv_ladd hY dJ13_bitCount_95d88_22 rfl ?_
  refine xv_lstore_n (L' := [some (xl (((a0 - ((((a0).toUInt64 >>> ((Int32.ofInt (1 : Int)).toInt64.toUInt64 &&& Int64.toUInt64 63)).toInt64) &&& (6148914691236517205 : Int64))) &&& (3689348814741910323 : Int64)) + (((((a0 - ((((a0).toUInt64 >>> ((Int32.ofInt (1 : Int)).toInt64.toUInt64 &&& Int64.toUInt64 63)).toInt64) &&& (6148914691236517205 : Int64)))).toUInt64 >>> ((Int32.ofInt (2 : Int)).toInt64.toUInt64 &&& Int64.toUInt64 63)).toInt64) &&& (3689348814741910323 : Int64)))), none]) hY dJ13_bitCount_95d88_23 rfl rfl (by rw [hnL]; decide) rfl rfl ?_
  refine xv_lload_n rfl rfl hY dJ13_bitCount_95d88_24 rfl ?_
  refine xv_lload_n rfl rfl hY dJ13_bitCount_95d88_25 rfl ?_
  refine xv_iconst hY dJ13_bitCount_95d88_26 rfl ?_
  refine xv_lushr hY dJ13_bitCount_95d88_27 rfl ?_
  refine xv_ladd hY dJ13_bitCount_95d88_28 rfl ?_
  refine xv_ldc2 (v := (1085102592571150095 : Int64)) hY dJ13_bitCount_95d88_29 rfl (by decide +kernel) ?_
  refine xv_land hY dJ13_bitCount_95d88_32 rfl ?_
  refine xv_lstore_n (L' := [some (xl (((((a0 - ((((a0).toUInt64 >>> ((Int32.ofInt (1 : Int)).toInt64.toUInt64 &&& Int64.toUInt64 63)).toInt64) &&& (6148914691236517205 : Int64))) &&& (3689348814741910323 : Int64)) + (((((a0 - ((((a0).toUInt64 >>> ((Int32.ofInt (1 : Int)).toInt64.toUInt64 &&& Int64.toUInt64 63)).toInt64) &&& (6148914691236517205 : Int64)))).toUInt64 >>> ((Int32.ofInt (2 : Int)).toInt64.toUInt64 &&& Int64.toUInt64 63)).toInt64) &&& (3689348814741910323 : Int64))) + ((((((a0 - ((((a0).toUInt64 >>> ((Int32.ofInt (1 : Int)).toInt64.toUInt64 &&& Int64.toUInt64 63)).toInt64) &&& (6148914691236517205 : Int64))) &&& (3689348814741910323 : Int64)) + (((((a0 - ((((a0).toUInt64 >>> ((Int32.ofInt (1 : Int)).toInt64.toUInt64 &&& Int64.toUInt64 63)).toInt64) &&& (6148914691236517205 : Int64)))).toUInt64 >>> ((Int32.ofInt (2 : Int)).toInt64.toUInt64 &&& Int64.toUInt64 63)).toInt64) &&& (3689348814741910323 : Int64)))).toUInt64 >>> ((Int32.ofInt (4 : Int)).toInt64.toUInt64 &&& Int64.toUInt64 63)).toInt64)) &&& (1085102592571150095 : Int64))), none]) hY dJ13_bitCount_95d88_33 rfl rfl (by rw [hnL]; decide) rfl rfl ?_
  refine xv_lload_n rfl rfl hY dJ13_bitCount_95d88_34 rfl ?_
  refine xv_lload_n rfl rfl hY dJ13_bitCount_95d88_35 rfl ?_
  refine xv_bipush (by decide) hY dJ13_bitCount_95d88_36 rfl ?_
  refine xv_lushr hY dJ13_bitCount_95d88_38 rfl ?_
  refine xv_ladd hY dJ13_bitCount_95d88_39 rfl ?_
  refine xv_lstore_n (L' := [some (xl ((((((a0 - ((((a0).toUInt64 >>> ((Int32.ofInt (1 : Int)).toInt64.toUInt64 &&& Int64.toUInt64 63)).toInt64) &&& (6148914691236517205 : Int64))) &&& (3689348814741910323 : Int64)) + (((((a0 - ((((a0).toUInt64 >>> ((Int32.ofInt (1 : Int)).toInt64.toUInt64 &&& Int64.toUInt64 63)).toInt64) &&& (6148914691236517205 : Int64)))).toUInt64 >>> ((Int32.ofInt (2 : Int)).toInt64.toUInt64 &&& Int64.toUInt64 63)).toInt64) &&& (3689348814741910323 : Int64))) + ((((((a0 - ((((a0).toUInt64 >>> ((Int32.ofInt (1 : Int)).toInt64.toUInt64 &&& Int64.toUInt64 63)).toInt64) &&& (6148914691236517205 : Int64))) &&& (3689348814741910323 : Int64)) + (((((a0 - ((((a0).toUInt64 >>> ((Int32.ofInt (1 : Int)).toInt64.toUInt64 &&& Int64.toUInt64 63)).toInt64) &&& (6148914691236517205 : Int64)))).toUInt64 >>> ((Int32.ofInt (2 : Int)).toInt64.toUInt64 &&& Int64.toUInt64 63)).toInt64) &&& (3689348814741910323 : Int64)))).toUInt64 >>> ((Int32.ofInt (4 : Int)).toInt64.toUInt64 &&& Int64.toUInt64 63)).toInt64)) &&& (1085102592571150095 : Int64)) + ((((((((a0 - ((((a0).toUInt64 >>> ((Int32.ofInt (1 : Int)).toInt64.toUInt64 &&& Int64.toUInt64 63)).toInt64) &&& (6148914691236517205 : Int64))) &&& (3689348814741910323 : Int64)) + (((((a0 - ((((a0).toUInt64 >>> ((Int32.ofInt (1 : Int)).toInt64.toUInt64 &&& Int64.toUInt64 63)).toInt64) &&& (6148914691236517205 : Int64)))).toUInt64 >>> ((Int32.ofInt (2 : Int)).toInt64.toUInt64 &&& Int64.toUInt64 63)).toInt64) &&& (3689348814741910323 : Int64))) + ((((((a0 - ((((a0).toUInt64 >>> ((Int32.ofInt (1 : Int)).toInt64.toUInt64 &&& Int64.toUInt64 63)).toInt64) &&& (6148914691236517205 : Int64))) &&& (3689348814741910323 : Int64)) + (((((a0 - ((((a0).toUInt64 >>> ((Int32.ofInt (1 : Int)).toInt64.toUInt64 &&& Int64.toUInt64 63)).toInt64) &&& (6148914691236517205 : Int64)))).toUInt64 >>> ((Int32.ofInt (2 : Int)).toInt64.toUInt64 &&& Int64.toUInt64 63)).toInt64) &&& (3689348814741910323 : Int64)))).toUInt64 >>> ((Int32.ofInt (4 : Int)).toInt64.toUInt64 &&& Int64.toUInt64 63)).toInt64)) &&& (1085102592571150095 : Int64))).toUInt64 >>> ((Int32.ofInt (8 : Int)).toInt64.toUInt64 &&& Int64.toUInt64 63)).toInt64))), none]) hY dJ13_bitCount_95d88_40 rfl rfl (by rw [hnL]; decide) rfl rfl ?_
  refine xv_lload_n rfl rfl hY dJ13_bitCount_95d88_41 rfl ?_
  refine xv_lload_n rfl rfl hY dJ13_bitCount_95d88_42 rfl ?_
  refine xv_bipush (by decide) hY dJ13_bitCount_95d88_43 rfl ?_
  refine xv_lushr hY dJ13_bitCount_95d88_45 rfl ?_
  refine xv_ladd hY dJ13_bitCount_95d88_46 rfl ?_
  refine xv_lstore_n (L' := [some (xl (((((((a0 - ((((a0).toUInt64 >>> ((Int32.ofInt (1 : Int)).toInt64.toUInt64 &&& Int64.toUInt64 63)).toInt64) &&& (6148914691236517205 : Int64))) &&& (3689348814741910323 : Int64)) + (((((a0 - ((((a0).toUInt64 >>> ((Int32.ofInt (1 : Int)).toInt64.toUInt64 &&& Int64.toUInt64 63)).toInt64) &&& (6148914691236517205 : Int64)))).toUInt64 >>> ((Int32.ofInt (2 : Int)).toInt64.toUInt64 &&& Int64.toUInt64 63)).toInt64) &&& (3689348814741910323 : Int64))) + ((((((a0 - ((((a0).toUInt64 >>> ((Int32.ofInt (1 : Int)).toInt64.toUInt64 &&& Int64.toUInt64 63)).toInt64) &&& (6148914691236517205 : Int64))) &&& (3689348814741910323 : Int64)) + (((((a0 - ((((a0).toUInt64 >>> ((Int32.ofInt (1 : Int)).toInt64.toUInt64 &&& Int64.toUInt64 63)).toInt64) &&& (6148914691236517205 : Int64)))).toUInt64 >>> ((Int32.ofInt (2 : Int)).toInt64.toUInt64 &&& Int64.toUInt64 63)).toInt64) &&& (3689348814741910323 : Int64)))).toUInt64 >>> ((Int32.ofInt (4 : Int)).toInt64.toUInt64 &&& Int64.toUInt64 63)).toInt64)) &&& (1085102592571150095 : Int64)) + ((((((((a0 - ((((a0).toUInt64 >>> ((Int32.ofInt (1 : Int)).toInt64.toUInt64 &&& Int64.toUInt64 63)).toInt64) &&& (6148914691236517205 : Int64))) &&& (3689348814741910323 : Int64)) + (((((a0 - ((((a0).toUInt64 >>> ((Int32.ofInt (1 : Int)).toInt64.toUInt64 &&& Int64.toUInt64 63)).toInt64) &&& (6148914691236517205 : Int64)))).toUInt64 >>> ((Int32.ofInt (2 : Int)).toInt64.toUInt64 &&& Int64.toUInt64 63)).toInt64) &&& (3689348814741910323 : Int64))) + ((((((a0 - ((((a0).toUInt64 >>> ((Int32.ofInt (1 : Int)).toInt64.toUInt64 &&& Int64.toUInt64 63)).toInt64) &&& (6148914691236517205 : Int64))) &&& (3689348814741910323 : Int64)) + (((((a0 - ((((a0).toUInt64 >>> ((Int32.ofInt (1 : Int)).toInt64.toUInt64 &&& Int64.toUInt64 63)).toInt64) &&& (6148914691236517205 : Int64)))).toUInt64 >>> ((Int32.ofInt (2 : Int)).toInt64.toUInt64 &&& Int64.toUInt64 63)).toInt64) &&& (3689348814741910323 : Int64)))).toUInt64 >>> ((Int32.ofInt (4 : Int)).toInt64.toUInt64 &&& Int64.toUInt64 63)).toInt64)) &&& (1085102592571150095 : Int64))).toUInt64 >>> ((Int32.ofInt (8 : Int)).toInt64.toUInt64 &&& Int64.toUInt64 63)).toInt64)) + (((((((((a0 - ((((a0).toUInt64 >>> ((Int32.ofInt (1 : Int)).toInt64.toUInt64 &&& Int64.toUInt64 63)).toInt64) &&& (6148914691236517205 : Int64))) &&& (3689348814741910323 : Int64)) + (((((a0 - ((((a0).toUInt64 >>> ((Int32.ofInt (1 : Int)).toInt64.toUInt64 &&& Int64.toUInt64 63)).toInt64) &&& (6148914691236517205 : Int64)))).toUInt64 >>> ((Int32.ofInt (2 : Int)).toInt64.toUInt64 &&& Int64.toUInt64 63)).toInt64) &&& (3689348814741910323 : Int64))) + ((((((a0 - ((((a0).toUInt64 >>> ((Int32.ofInt (1 : Int)).toInt64.toUInt64 &&& Int64.toUInt64 63)).toInt64) &&& (6148914691236517205 : Int64))) &&& (3689348814741910323 : Int64)) + (((((a0 - ((((a0).toUInt64 >>> ((Int32.ofInt (1 : Int)).toInt64.toUInt64 &&& Int64.toUInt64 63)).toInt64) &&& (6148914691236517205 : Int64)))).toUInt64 >>> ((Int32.ofInt (2 : Int)).toInt64.toUInt64 &&& Int64.toUInt64 63)).toInt64) &&& (3689348814741910323 : Int64)))).toUInt64 >>> ((Int32.ofInt (4 : Int)).toInt64.toUInt64 &&& Int64.toUInt64 63)).toInt64)) &&& (1085102592571150095 : Int64)) + ((((((((a0 - ((((a0).toUInt64 >>> ((Int32.ofInt (1 : Int)).toInt64.toUInt64 &&& Int64.toUInt64 63)).toInt64) &&& (6148914691236517205 : Int64))) &&& (3689348814741910323 : Int64)) + (((((a0 - ((((a0).toUInt64 >>> ((Int32.ofInt (1 : Int)).toInt64.toUInt64 &&& Int64.toUInt64 63)).toInt64) &&& (6148914691236517205 : Int64)))).toUInt64 >>> ((Int32.ofInt (2 : Int)).toInt64.toUInt64 &&& Int64.toUInt64 63)).toInt64) &&& (3689348814741910323 : Int64))) + ((((((a0 - ((((a0).toUInt64 >>> ((Int32.ofInt (1 : Int)).toInt64.toUInt64 &&& Int64.toUInt64 63)).toInt64) &&& (6148914691236517205 : Int64))) &&& (3689348814741910323 : Int64)) + (((((a0 - ((((a0).toUInt64 >>> ((Int32.ofInt (1 : Int)).toInt64.toUInt64 &&& Int64.toUInt64 63)).toInt64) &&& (6148914691236517205 : Int64)))).toUInt64 >>> ((Int32.ofInt (2 : Int)).toInt64.toUInt64 &&& Int64.toUInt64 63)).toInt64) &&& (3689348814741910323 : Int64)))).toUInt64 >>> ((Int32.ofInt (4 : Int)).toInt64.toUInt64 &&& Int64.toUInt64 63)).toInt64)) &&& (1085102592571150095 : Int64))).toUInt64 >>> ((Int32.ofInt (8 : Int)).toInt64.toUInt64 &&& Int64.toUInt64 63)).toInt64))).toUInt64 >>> ((Int32.ofInt (16 : Int)).toInt64.toUInt64 &&& Int64.toUInt64 63)).toInt64))), none]) hY dJ13_bitCount_95d88_47 rfl rfl (by rw [hnL]; decide) rfl rfl ?_
  refine xv_lload_n rfl rfl hY dJ13_bitCount_95d88_48 rfl ?_
  refine xv_lload_n rfl rfl hY dJ13_bitCount_95d88_49 rfl ?_
  refine xv_bipush (by decide) hY dJ13_bitCount_95d88_50 rfl ?_
  refine xv_lushr hY dJ13_bitCount_95d88_52 rfl ?_
  refine xv_ladd hY dJ13_bitCount_95d88_53 rfl ?_
  refine xv_lstore_n (L' := [some (xl ((((((((a0 - ((((a0).toUInt64 >>> ((Int32.ofInt (1 : Int)).toInt64.toUInt64 &&& Int64.toUInt64 63)).toInt64) &&& (6148914691236517205 : Int64))) &&& (3689348814741910323 : Int64)) + (((((a0 - ((((a0).toUInt64 >>> ((Int32.ofInt (1 : Int)).toInt64.toUInt64 &&& Int64.toUInt64 63)).toInt64) &&& (6148914691236517205 : Int64)))).toUInt64 >>> ((Int32.ofInt (2 : Int)).toInt64.toUInt64 &&& Int64.toUInt64 63)).toInt64) &&& (3689348814741910323 : Int64))) + ((((((a0 - ((((a0).toUInt64 >>> ((Int32.ofInt (1 : Int)).toInt64.toUInt64 &&& Int64.toUInt64 63)).toInt64) &&& (6148914691236517205 : Int64))) &&& (3689348814741910323 : Int64)) + (((((a0 - ((((a0).toUInt64 >>> ((Int32.ofInt (1 : Int)).toInt64.toUInt64 &&& Int64.toUInt64 63)).toInt64) &&& (6148914691236517205 : Int64)))).toUInt64 >>> ((Int32.ofInt (2 : Int)).toInt64.toUInt64 &&& Int64.toUInt64 63)).toInt64) &&& (3689348814741910323 : Int64)))).toUInt64 >>> ((Int32.ofInt (4 : Int)).toInt64.toUInt64 &&& Int64.toUInt64 63)).toInt64)) &&& (1085102592571150095 : Int64)) + ((((((((a0 - ((((a0).toUInt64 >>> ((Int32.ofInt (1 : Int)).toInt64.toUInt64 &&& Int64.toUInt64 63)).toInt64) &&& (6148914691236517205 : Int64))) &&& (3689348814741910323 : Int64)) + (((((a0 - ((((a0).toUInt64 >>> ((Int32.ofInt (1 : Int)).toInt64.toUInt64 &&& Int64.toUInt64 63)).toInt64) &&& (6148914691236517205 : Int64)))).toUInt64 >>> ((Int32.ofInt (2 : Int)).toInt64.toUInt64 &&& Int64.toUInt64 63)).toInt64) &&& (3689348814741910323 : Int64))) + ((((((a0 - ((((a0).toUInt64 >>> ((Int32.ofInt (1 : Int)).toInt64.toUInt64 &&& Int64.toUInt64 63)).toInt64) &&& (6148914691236517205 : Int64))) &&& (3689348814741910323 : Int64)) + (((((a0 - ((((a0).toUInt64 >>> ((Int32.ofInt (1 : Int)).toInt64.toUInt64 &&& Int64.toUInt64 63)).toInt64) &&& (6148914691236517205 : Int64)))).toUInt64 >>> ((Int32.ofInt (2 : Int)).toInt64.toUInt64 &&& Int64.toUInt64 63)).toInt64) &&& (3689348814741910323 : Int64)))).toUInt64 >>> ((Int32.ofInt (4 : Int)).toInt64.toUInt64 &&& Int64.toUInt64 63)).toInt64)) &&& (1085102592571150095 : Int64))).toUInt64 >>> ((Int32.ofInt (8 : Int)).toInt64.toUInt64 &&& Int64.toUInt64 63)).toInt64)) + (((((((((a0 - ((((a0).toUInt64 >>> ((Int32.ofInt (1 : Int)).toInt64.toUInt64 &&& Int64.toUInt64 63)).toInt64) &&& (6148914691236517205 : Int64))) &&& (3689348814741910323 : Int64)) + (((((a0 - ((((a0).toUInt64 >>> ((Int32.ofInt (1 : Int)).toInt64.toUInt64 &&& Int64.toUInt64 63)).toInt64) &&& (6148914691236517205 : Int64)))).toUInt64 >>> ((Int32.ofInt (2 : Int)).toInt64.toUInt64 &&& Int64.toUInt64 63)).toInt64) &&& (3689348814741910323 : Int64))) + ((((((a0 - ((((a0).toUInt64 >>> ((Int32.ofInt (1 : Int)).toInt64.toUInt64 &&& Int64.toUInt64 63)).toInt64) &&& (6148914691236517205 : Int64))) &&& (3689348814741910323 : Int64)) + (((((a0 - ((((a0).toUInt64 >>> ((Int32.ofInt (1 : Int)).toInt64.toUInt64 &&& Int64.toUInt64 63)).toInt64) &&& (6148914691236517205 : Int64)))).toUInt64 >>> ((Int32.ofInt (2 : Int)).toInt64.toUInt64 &&& Int64.toUInt64 63)).toInt64) &&& (3689348814741910323 : Int64)))).toUInt64 >>> ((Int32.ofInt (4 : Int)).toInt64.toUInt64 &&& Int64.toUInt64 63)).toInt64)) &&& (1085102592571150095 : Int64)) + ((((((((a0 - ((((a0).toUInt64 >>> ((Int32.ofInt (1 : Int)).toInt64.toUInt64 &&& Int64.toUInt64 63)).toInt64) &&& (6148914691236517205 : Int64))) &&& (3689348814741910323 : Int64)) + (((((a0 - ((((a0).toUInt64 >>> ((Int32.ofInt (1 : Int)).toInt64.toUInt64 &&& Int64.toUInt64 63)).toInt64) &&& (6148914691236517205 : Int64)))).toUInt64 >>> ((Int32.ofInt (2 : Int)).toInt64.toUInt64 &&& Int64.toUInt64 63)).toInt64) &&& (3689348814741910323 : Int64))) + ((((((a0 - ((((a0).toUInt64 >>> ((Int32.ofInt (1 : Int)).toInt64.toUInt64 &&& Int64.toUInt64 63)).toInt64) &&& (6148914691236517205 : Int64))) &&& (3689348814741910323 : Int64)) + (((((a0 - ((((a0).toUInt64 >>> ((Int32.ofInt (1 : Int)).toInt64.toUInt64 &&& Int64.toUInt64 63)).toInt64) &&& (6148914691236517205 : Int64)))).toUInt64 >>> ((Int32.ofInt (2 : Int)).toInt64.toUInt64 &&& Int64.toUInt64 63)).toInt64) &&& (3689348814741910323 : Int64)))).toUInt64 >>> ((Int32.ofInt (4 : Int)).toInt64.toUInt64 &&& Int64.toUInt64 63)).toInt64)) &&& (1085102592571150095 : Int64))).toUInt64 >>> ((Int32.ofInt (8 : Int)).toInt64.toUInt64 &&& Int64.toUInt64 63)).toInt64))).toUInt64 >>> ((Int32.ofInt (16 : Int)).toInt64.toUInt64 &&& Int64.toUInt64 63)).toInt64)) + ((((((((((a0 - ((((a0).toUInt64 >>> ((Int32.ofInt (1 : Int)).toInt64.toUInt64 &&& Int64.toUInt64 63)).toInt64) &&& (6148914691236517205 : Int64))) &&& (3689348814741910323 : Int64)) + (((((a0 - ((((a0).toUInt64 >>> ((Int32.ofInt (1 : Int)).toInt64.toUInt64 &&& Int64.toUInt64 63)).toInt64) &&& (6148914691236517205 : Int64)))).toUInt64 >>> ((Int32.ofInt (2 : Int)).toInt64.toUInt64 &&& Int64.toUInt64 63)).toInt64) &&& (3689348814741910323 : Int64))) + ((((((a0 - ((((a0).toUInt64 >>> ((Int32.ofInt (1 : Int)).toInt64.toUInt64 &&& Int64.toUInt64 63)).toInt64) &&& (6148914691236517205 : Int64))) &&& (3689348814741910323 : Int64)) + (((((a0 - ((((a0).toUInt64 >>> ((Int32.ofInt (1 : Int)).toInt64.toUInt64 &&& Int64.toUInt64 63)).toInt64) &&& (6148914691236517205 : Int64)))).toUInt64 >>> ((Int32.ofInt (2 : Int)).toInt64.toUInt64 &&& Int64.toUInt64 63)).toInt64) &&& (3689348814741910323 : Int64)))).toUInt64 >>> ((Int32.ofInt (4 : Int)).toInt64.toUInt64 &&& Int64.toUInt64 63)).toInt64)) &&& (1085102592571150095 : Int64)) + ((((((((a0 - ((((a0).toUInt64 >>> ((Int32.ofInt (1 : Int)).toInt64.toUInt64 &&& Int64.toUInt64 63)).toInt64) &&& (6148914691236517205 : Int64))) &&& (3689348814741910323 : Int64)) + (((((a0 - ((((a0).toUInt64 >>> ((Int32.ofInt (1 : Int)).toInt64.toUInt64 &&& Int64.toUInt64 63)).toInt64) &&& (6148914691236517205 : Int64)))).toUInt64 >>> ((Int32.ofInt (2 : Int)).toInt64.toUInt64 &&& Int64.toUInt64 63)).toInt64) &&& (3689348814741910323 : Int64))) + ((((((a0 - ((((a0).toUInt64 >>> ((Int32.ofInt (1 : Int)).toInt64.toUInt64 &&& Int64.toUInt64 63)).toInt64) &&& (6148914691236517205 : Int64))) &&& (3689348814741910323 : Int64)) + (((((a0 - ((((a0).toUInt64 >>> ((Int32.ofInt (1 : Int)).toInt64.toUInt64 &&& Int64.toUInt64 63)).toInt64) &&& (6148914691236517205 : Int64)))).toUInt64 >>> ((Int32.ofInt (2 : Int)).toInt64.toUInt64 &&& Int64.toUInt64 63)).toInt64) &&& (3689348814741910323 : Int64)))).toUInt64 >>> ((Int32.ofInt (4 : Int)).toInt64.toUInt64 &&& Int64.toUInt64 63)).toInt64)) &&& (1085102592571150095 : Int64))).toUInt64 >>> ((Int32.ofInt (8 : Int)).toInt64.toUInt64 &&& Int64.toUInt64 63)).toInt64)) + (((((((((a0 - ((((a0).toUInt64 >>> ((Int32.ofInt (1 : Int)).toInt64.toUInt64 &&& Int64.toUInt64 63)).toInt64) &&& (6148914691236517205 : Int64))) &&& (3689348814741910323 : Int64)) + (((((a0 - ((((a0).toUInt64 >>> ((Int32.ofInt (1 : Int)).toInt64.toUInt64 &&& Int64.toUInt64 63)).toInt64) &&& (6148914691236517205 : Int64)))).toUInt64 >>> ((Int32.ofInt (2 : Int)).toInt64.toUInt64 &&& Int64.toUInt64 63)).toInt64) &&& (3689348814741910323 : Int64))) + ((((((a0 - ((((a0).toUInt64 >>> ((Int32.ofInt (1 : Int)).toInt64.toUInt64 &&& Int64.toUInt64 63)).toInt64) &&& (6148914691236517205 : Int64))) &&& (3689348814741910323 : Int64)) + (((((a0 - ((((a0).toUInt64 >>> ((Int32.ofInt (1 : Int)).toInt64.toUInt64 &&& Int64.toUInt64 63)).toInt64) &&& (6148914691236517205 : Int64)))).toUInt64 >>> ((Int32.ofInt (2 : Int)).toInt64.toUInt64 &&& Int64.toUInt64 63)).toInt64) &&& (3689348814741910323 : Int64)))).toUInt64 >>> ((Int32.ofInt (4 : Int)).toInt64.toUInt64 &&& Int64.toUInt64 63)).toInt64)) &&& (1085102592571150095 : Int64)) + ((((((((a0 - ((((a0).toUInt64 >>> ((Int32.ofInt (1 : Int)).toInt64.toUInt64 &&& Int64.toUInt64 63)).toInt64) &&& (6148914691236517205 : Int64))) &&& (3689348814741910323 : Int64)) + (((((a0 - ((((a0).toUInt64 >>> ((Int32.ofInt (1 : Int)).toInt64.toUInt64 &&& Int64.toUInt64 63)).toInt64) &&& (6148914691236517205 : Int64)))).toUInt64 >>> ((Int32.ofInt (2 : Int)).toInt64.toUInt64 &&& Int64.toUInt64 63)).toInt64) &&& (3689348814741910323 : Int64))) + ((((((a0 - ((((a0).toUInt64 >>> ((Int32.ofInt (1 : Int)).toInt64.toUInt64 &&& Int64.toUInt64 63)).toInt64) &&& (6148914691236517205 : Int64))) &&& (3689348814741910323 : Int64)) + (((((a0 - ((((a0).toUInt64 >>> ((Int32.ofInt (1 : Int)).toInt64.toUInt64 &&& Int64.toUInt64 63)).toInt64) &&& (6148914691236517205 : Int64)))).toUInt64 >>> ((Int32.ofInt (2 : Int)).toInt64.toUInt64 &&& Int64.toUInt64 63)).toInt64) &&& (3689348814741910323 : Int64)))).toUInt64 >>> ((Int32.ofInt (4 : Int)).toInt64.toUInt64 &&& Int64.toUInt64 63)).toInt64)) &&& (1085102592571150095 : Int64))).toUInt64 >>> ((Int32.ofInt (8 : Int)).toInt64.toUInt64 &&& Int64.toUInt64 63)).toInt64))).toUInt64 >>> ((Int32.ofInt (16 : Int)).toInt64.toUInt64 &&& Int64.toUInt64 63)).toInt64))).toUInt64 >>> ((Int32.ofInt (32 : Int)).toInt64.toUInt64 &&& Int64.toUInt64 63)).toInt64))), none]) hY dJ13_bitCount_95d88_54 rfl rfl (by rw [hnL]; decide) rfl rfl ?_
  refine xv_lload_n rfl rfl hY dJ13_bitCount_95d88_55 rfl ?_
  refine xv_l2i hY dJ13_bitCount_95d88_56 rfl ?_
  refine xv_bipush (by decide) hY dJ13_bitCount_95d88_57 rfl ?_
  refine xv_iand hY dJ13_bitCount_95d88_59 rfl ?_
  exact xv_ireti hY hfl dJ13_bitCount_95d88_60 hret (Nat.le_of_ble_eq_true rfl) (Nat.le_of_ble_eq_true rfl)
set_option maxHeartbeats 4000000 in
set_option maxRecDepth 100000 in
theorem S_X0_fullestPlace (l : Launch) (a0 : Nat) (M : xv_M) (q : Int × xv_M) (h : D_X0_fullestPlace a0 M = some q) : xv_Met l yX0_fullestPlace wsX0_fullestPlace rm_X0_fullestPlace 0 0 false [xr a0] M (xv_qI false q) := by
  refine xv_enter (cc := cX0_fullestPlace) (nL := 3) (ret := (some .int)) rfl (by decide +kernel) (Nat.le_of_ble_eq_true rfl) h ?_
  intro Y hY0 hl hR hnL hfl hret hnm0
  have hY : xv_ok Y cX0_fullestPlace wsX0_fullestPlace RX0 := hY0
  have hin0 : ∀ w ∈ u_ws RX0 TX0 1, w ∈ wsX0_fullestPlace := fun _ h => List.mem_cons_of_mem _ (List.mem_append_right _ h)
  unfold D_X0_fullestPlace
  refine xv_mk (L' := [some (xr a0), none, none]) [true, true, true] rfl ?_
  refine xv_iconst hY dX0_fullestPlace_0 rfl ?_
  refine xv_istore_n (L' := [some (xr a0), some (xi (0 : Int)), none]) hY dX0_fullestPlace_1 rfl rfl (by rw [hnL]; decide) rfl rfl ?_
  refine xv_iconst hY dX0_fullestPlace_2 rfl ?_
  refine xv_istore_n (L' := [some (xr a0), some (xi (0 : Int)), some (xi (1 : Int))]) hY dX0_fullestPlace_3 rfl rfl (by rw [hnL]; decide) rfl rfl ?_
  refine xv_mk (L' := [some (xr a0), some (xi (0 : Int)), some (xi (1 : Int))]) [true, true, true] rfl ?_
  refine xv_loop (σ := Int × Int × xv_M) (fun x1 => [some (xr a0), some (xi x1.1), some (xi x1.2.1)]) (fun x1 => x1.2.2) (fun f2 hf2 x1 => ?_) xv_fuel ((0 : Int), (1 : Int), M)
  refine xv_iload_n rfl rfl hY dX0_fullestPlace_4 rfl ?_
  refine xv_sipush (by decide) hY dX0_fullestPlace_5 rfl ?_
  refine xv_icmp_ge (t := 40) hY dX0_fullestPlace_8 (by decide) rfl ?_ ?_
  · refine xv_iload_n rfl rfl hY dX0_fullestPlace_40 rfl ?_
    exact xv_ireti hY hfl dX0_fullestPlace_41 hret (Nat.le_of_ble_eq_true rfl) (Nat.le_of_ble_eq_true rfl)
  · refine xv_aload_n rfl rfl hY dX0_fullestPlace_11 rfl ?_
    refine xv_getP (ci := 0) (j := 0) hY dX0_fullestPlace_12 rfl rfl rfl (by decide) hin0 (by decide) rfl (List.mem_of_getElem? (i := 1) rfl) (fun v3 => ?_)
    refine xv_iload_n rfl rfl hY dX0_fullestPlace_15 rfl ?_
    refine xv_lald hY dX0_fullestPlace_16 rfl (fun v4 => ?_)
    refine xv_callSI (y := yJ13_bitCount_95d88) (ws := wsJ13_bitCount_95d88) (rm := rm_J13_bitCount_95d88) (mc := 0) (ms := 0) (n := 1) (av := [xl v4]) hY dX0_fullestPlace_17 rfl rfl (fun q hq => by rw [hfl]; exact S_J13_bitCount_95d88 Y.1.2.1 v4 x1.2.2 q hq) (va_cwS 1 hY.2.2.2.2.1 gX0_fullestPlace_J13_bitCount_95d88 rfl rfl rfl (by decide +kernel) ⟨(by rw [hR]; exact Nat.le_of_ble_eq_true rfl), (by rw [hR]; exact Nat.le_of_ble_eq_true rfl)⟩) rfl (Nat.le_of_ble_eq_true rfl) ⟨(by rw [hR]; exact Nat.le_of_ble_eq_true rfl), (by rw [hR]; exact Nat.le_of_ble_eq_true rfl)⟩ (fun z6 M5 => ?_)
    refine xv_aload_n rfl rfl hY dX0_fullestPlace_20 rfl ?_
    refine xv_getP (ci := 0) (j := 0) hY dX0_fullestPlace_21 rfl rfl rfl (by decide) hin0 (by decide) rfl (List.mem_of_getElem? (i := 1) rfl) (fun v7 => ?_)
    refine xv_iload_n rfl rfl hY dX0_fullestPlace_24 rfl ?_
    refine xv_lald hY dX0_fullestPlace_25 rfl (fun v8 => ?_)
    refine xv_callSI (y := yJ13_bitCount_95d88) (ws := wsJ13_bitCount_95d88) (rm := rm_J13_bitCount_95d88) (mc := 0) (ms := 0) (n := 1) (av := [xl v8]) hY dX0_fullestPlace_26 rfl rfl (fun q hq => by rw [hfl]; exact S_J13_bitCount_95d88 Y.1.2.1 v8 M5 q hq) (va_cwS 1 hY.2.2.2.2.1 gX0_fullestPlace_J13_bitCount_95d88 rfl rfl rfl (by decide +kernel) ⟨(by rw [hR]; exact Nat.le_of_ble_eq_true rfl), (by rw [hR]; exact Nat.le_of_ble_eq_true rfl)⟩) rfl (Nat.le_of_ble_eq_true rfl) ⟨(by rw [hR]; exact Nat.le_of_ble_eq_true rfl), (by rw [hR]; exact Nat.le_of_ble_eq_true rfl)⟩ (fun z10 M9 => ?_)
    refine xv_join (α := Int) 34 (fun x11 => [some (xr a0), some (xi x11), some (xi x1.2.1)]) (fun x11 => []) (fun x11 => M9) (fun x11 => ?_) (fun j12 hj12 => ?_)
    · refine xv_iinc (L' := [some (xr a0), some (xi x11), some (xi (x1.2.1 + 1))]) hY dX0_fullestPlace_34 rfl (by rw [hnL]; decide) rfl rfl rfl ?_
      refine xv_goto (pc' := 4) hY dX0_fullestPlace_37 (by decide) ?_
      exact xv_mk (L' := [some (xr a0), some (xi x11), some (xi (x1.2.1 + 1))]) [true, true, true] rfl (hf2 (x11, (x1.2.1 + 1), M9))
    · refine xv_icmp_le (t := 34) hY dX0_fullestPlace_29 (by decide) rfl ?_ ?_
      · exact xv_mk (L' := [some (xr a0), some (xi x1.1), some (xi x1.2.1)]) [true, true, true] rfl (hj12 x1.1)
      · refine xv_iload_n rfl rfl hY dX0_fullestPlace_32 rfl ?_
        refine xv_istore_n (L' := [some (xr a0), some (xi x1.2.1), some (xi x1.2.1)]) hY dX0_fullestPlace_33 rfl rfl (by rw [hnL]; decide) rfl rfl ?_
        exact xv_mk (L' := [some (xr a0), some (xi x1.2.1), some (xi x1.2.1)]) [true, true, true] rfl (hj12 x1.2.1)
set_option maxHeartbeats 4000000 in
set_option maxRecDepth 100000 in
theorem S_X0_countFree (l : Launch) (a0 : Nat) (M : xv_M) (q : Int × xv_M) (h : D_X0_countFree a0 M = some q) : xv_Met l yX0_countFree wsX0_countFree rm_X0_countFree 0 0 false [xr a0] M (xv_qI false q) := by
  refine xv_enter (cc := cX0_countFree) (nL := 3) (ret := (some .int)) rfl (by decide +kernel) (Nat.le_of_ble_eq_true rfl) h ?_
  intro Y hY0 hl hR hnL hfl hret hnm0
  have hY : xv_ok Y cX0_countFree wsX0_countFree RX0 := hY0
  have hin0 : ∀ w ∈ u_ws RX0 TX0 1, w ∈ wsX0_countFree := fun _ h => List.mem_cons_of_mem _ (List.mem_append_right _ h)
  unfold D_X0_countFree
  refine xv_mk (L' := [some (xr a0), none, none]) [true, true, true] rfl ?_
  refine xv_iconst hY dX0_countFree_0 rfl ?_
  refine xv_istore_n (L' := [some (xr a0), some (xi (0 : Int)), none]) hY dX0_countFree_1 rfl rfl (by rw [hnL]; decide) rfl rfl ?_
  refine xv_iconst hY dX0_countFree_2 rfl ?_
  refine xv_istore_n (L' := [some (xr a0), some (xi (0 : Int)), some (xi (0 : Int))]) hY dX0_countFree_3 rfl rfl (by rw [hnL]; decide) rfl rfl ?_
  refine xv_mk (L' := [some (xr a0), some (xi (0 : Int)), some (xi (0 : Int))]) [true, true, true] rfl ?_
  refine xv_loop (σ := Int × Int) (fun x1 => [some (xr a0), some (xi x1.1), some (xi x1.2)]) (fun x1 => M) (fun f2 hf2 x1 => ?_) xv_fuel ((0 : Int), (0 : Int))
  refine xv_iload_n rfl rfl hY dX0_countFree_4 rfl ?_
  refine xv_sipush (by decide) hY dX0_countFree_5 rfl ?_
  refine xv_icmp_ge (t := 31) hY dX0_countFree_8 (by decide) rfl ?_ ?_
  · refine xv_iload_n rfl rfl hY dX0_countFree_31 rfl ?_
    exact xv_ireti hY hfl dX0_countFree_32 hret (Nat.le_of_ble_eq_true rfl) (Nat.le_of_ble_eq_true rfl)
  · refine xv_aload_n rfl rfl hY dX0_countFree_11 rfl ?_
    refine xv_getP (ci := 0) (j := 0) hY dX0_countFree_12 rfl rfl rfl (by decide) hin0 (by decide) rfl (List.mem_of_getElem? (i := 1) rfl) (fun v3 => ?_)
    refine xv_iload_n rfl rfl hY dX0_countFree_15 rfl ?_
    refine xv_lald hY dX0_countFree_16 rfl (fun v4 => ?_)
    refine xv_lconst (v := 0) rfl hY dX0_countFree_17 rfl ?_
    refine xv_lcmp hY dX0_countFree_18 rfl ?_
    refine xv_join (α := Int) 25 (fun x5 => [some (xr a0), some (xi x5), some (xi x1.2)]) (fun x5 => []) (fun x5 => M) (fun x5 => ?_) (fun j6 hj6 => ?_)
    · refine xv_iinc (L' := [some (xr a0), some (xi x5), some (xi (x1.2 + 1))]) hY dX0_countFree_25 rfl (by rw [hnL]; decide) rfl rfl rfl ?_
      refine xv_goto (pc' := 4) hY dX0_countFree_28 (by decide) ?_
      exact xv_mk (L' := [some (xr a0), some (xi x5), some (xi (x1.2 + 1))]) [true, true, true] rfl (hf2 (x5, (x1.2 + 1)))
    · refine xv_if_ne (t := 25) hY dX0_countFree_19 (by decide) rfl ?_ ?_
      · exact xv_mk (L' := [some (xr a0), some (xi x1.1), some (xi x1.2)]) [true, true, true] rfl (hj6 x1.1)
      · refine xv_iinc (L' := [some (xr a0), some (xi (x1.1 + 1)), some (xi x1.2)]) hY dX0_countFree_22 rfl (by rw [hnL]; decide) rfl rfl rfl ?_
        exact xv_mk (L' := [some (xr a0), some (xi (x1.1 + 1)), some (xi x1.2)]) [true, true, true] rfl (hj6 (x1.1 + 1))
set_option maxHeartbeats 4000000 in
set_option maxRecDepth 100000 in
theorem S_X5_init (l : Launch) (a0 : Nat) (M : xv_M) (q : Unit × xv_M) (h : D_X5_init a0 M = some q) : xv_Met l yX5_init wsX5_init rm_X5_init 6 360 true [xr a0] M (xv_qV true q) := by
  refine xv_enter (cc := cX5_init) (nL := 1) (ret := none) rfl (by decide +kernel) (Nat.le_of_ble_eq_true rfl) h ?_
  intro Y hY0 hl hR hnL hfl hret hnm0
  have hY : xv_ok Y cX5_init wsX5_init RX5 := hY0
  have hin5 : ∀ w ∈ u_ws RX5 TX5 8, w ∈ wsX5_init := fun _ h => List.mem_cons_of_mem _ (List.mem_append_right _ h)
  unfold D_X5_init
  refine xv_mk (L' := [some (xr a0)]) [true] rfl ?_
  refine xv_aload_n rfl rfl hY dX5_init_0 rfl ?_
  refine xv_objInit hY dX5_init_1 rfl (by decide +kernel) (by decide +kernel) (by decide +kernel) (by rw [hR]; exact Nat.le_of_ble_eq_true rfl) (by rw [hR]; exact Nat.le_of_ble_eq_true rfl) ?_
  refine xv_aload_n rfl rfl hY dX5_init_4 rfl ?_
  refine xv_bipush (by decide) hY dX5_init_5 rfl ?_
  refine xv_newaI (N := 60) hY hfl dX5_init_7 rfl rfl (by decide) (by decide +kernel) (by rw [hR]; exact Nat.le_of_ble_eq_true rfl) (by rw [hR]; exact Nat.le_of_ble_eq_true rfl) (fun r1 M2 => ?_)
  refine xv_putP (ci := 5) (j := 2) hY dX5_init_9 rfl rfl rfl (by decide) hin5 (by decide) rfl (List.mem_of_getElem? (i := 5) rfl) tyX5_ok nmX5 (Or.inr ⟨rfl, hnm0, rfl⟩) (Or.inr ⟨_, rfl⟩) (fun M3 => ?_)
  refine xv_aload_n rfl rfl hY dX5_init_12 rfl ?_
  refine xv_bipush (by decide) hY dX5_init_13 rfl ?_
  refine xv_newaI (N := 60) hY hfl dX5_init_15 rfl rfl (by decide) (by decide +kernel) (by rw [hR]; exact Nat.le_of_ble_eq_true rfl) (by rw [hR]; exact Nat.le_of_ble_eq_true rfl) (fun r4 M5 => ?_)
  refine xv_putP (ci := 5) (j := 3) hY dX5_init_17 rfl rfl rfl (by decide) hin5 (by decide) rfl (List.mem_of_getElem? (i := 6) rfl) tyX5_ok nmX5 (Or.inr ⟨rfl, hnm0, rfl⟩) (Or.inr ⟨_, rfl⟩) (fun M6 => ?_)
  refine xv_aload_n rfl rfl hY dX5_init_20 rfl ?_
  refine xv_bipush (by decide) hY dX5_init_21 rfl ?_
  refine xv_newaI (N := 60) hY hfl dX5_init_23 rfl rfl (by decide) (by decide +kernel) (by rw [hR]; exact Nat.le_of_ble_eq_true rfl) (by rw [hR]; exact Nat.le_of_ble_eq_true rfl) (fun r7 M8 => ?_)
  refine xv_putP (ci := 5) (j := 4) hY dX5_init_25 rfl rfl rfl (by decide) hin5 (by decide) rfl (List.mem_of_getElem? (i := 7) rfl) tyX5_ok nmX5 (Or.inr ⟨rfl, hnm0, rfl⟩) (Or.inr ⟨_, rfl⟩) (fun M9 => ?_)
  refine xv_aload_n rfl rfl hY dX5_init_28 rfl ?_
  refine xv_bipush (by decide) hY dX5_init_29 rfl ?_
  refine xv_newaI (N := 60) hY hfl dX5_init_31 rfl rfl (by decide) (by decide +kernel) (by rw [hR]; exact Nat.le_of_ble_eq_true rfl) (by rw [hR]; exact Nat.le_of_ble_eq_true rfl) (fun r10 M11 => ?_)
  refine xv_putP (ci := 5) (j := 5) hY dX5_init_33 rfl rfl rfl (by decide) hin5 (by decide) rfl (List.mem_of_getElem? (i := 8) rfl) tyX5_ok nmX5 (Or.inr ⟨rfl, hnm0, rfl⟩) (Or.inr ⟨_, rfl⟩) (fun M12 => ?_)
  refine xv_aload_n rfl rfl hY dX5_init_36 rfl ?_
  refine xv_bipush (by decide) hY dX5_init_37 rfl ?_
  refine xv_newaI (N := 60) hY hfl dX5_init_39 rfl rfl (by decide) (by decide +kernel) (by rw [hR]; exact Nat.le_of_ble_eq_true rfl) (by rw [hR]; exact Nat.le_of_ble_eq_true rfl) (fun r13 M14 => ?_)
  refine xv_putP (ci := 5) (j := 6) hY dX5_init_41 rfl rfl rfl (by decide) hin5 (by decide) rfl (List.mem_of_getElem? (i := 9) rfl) tyX5_ok nmX5 (Or.inr ⟨rfl, hnm0, rfl⟩) (Or.inr ⟨_, rfl⟩) (fun M15 => ?_)
  refine xv_aload_n rfl rfl hY dX5_init_44 rfl ?_
  refine xv_bipush (by decide) hY dX5_init_45 rfl ?_
  refine xv_newaI (N := 60) hY hfl dX5_init_47 rfl rfl (by decide) (by decide +kernel) (by rw [hR]; exact Nat.le_of_ble_eq_true rfl) (by rw [hR]; exact Nat.le_of_ble_eq_true rfl) (fun r16 M17 => ?_)
  refine xv_putP (ci := 5) (j := 7) hY dX5_init_49 rfl rfl rfl (by decide) hin5 (by decide) rfl (List.mem_of_getElem? (i := 10) rfl) tyX5_ok nmX5 (Or.inr ⟨rfl, hnm0, rfl⟩) (Or.inr ⟨_, rfl⟩) (fun M18 => ?_)
  exact xv_vretu hY hfl dX5_init_52 hret (Nat.le_of_ble_eq_true rfl) (Nat.le_of_ble_eq_true rfl)
set_option maxHeartbeats 4000000 in
set_option maxRecDepth 100000 in
theorem S_X9_init (l : Launch) (a0 : Nat) (M : xv_M) (q : Unit × xv_M) (h : D_X9_init a0 M = some q) : xv_Met l yX9_init wsX9_init rm_X9_init 14 408 true [xr a0] M (xv_qV true q) := by
  refine xv_enter (cc := cX9_init) (nL := 1) (ret := none) rfl (by decide +kernel) (Nat.le_of_ble_eq_true rfl) h ?_
  intro Y hY0 hl hR hnL hfl hret hnm0
  have hY : xv_ok Y cX9_init wsX9_init RX9 := hY0
  have hin9 : ∀ w ∈ u_ws RX9 TX9 9, w ∈ wsX9_init := fun _ h => List.mem_cons_of_mem _ (List.mem_append_right _ h)
  unfold D_X9_init
  refine xv_mk (L' := [some (xr a0)]) [true] rfl ?_
  refine xv_aload_n rfl rfl hY dX9_init_0 rfl ?_
  refine xv_objInit hY dX9_init_1 rfl (by decide +kernel) (by decide +kernel) (by decide +kernel) (by rw [hR]; exact Nat.le_of_ble_eq_true rfl) (by rw [hR]; exact Nat.le_of_ble_eq_true rfl) ?_
  refine xv_aload_n rfl rfl hY dX9_init_4 rfl ?_
  refine xv_bipush (by decide) hY dX9_init_5 rfl ?_
  refine xv_newaI (N := 6) hY hfl dX9_init_7 rfl rfl (by decide) (by decide +kernel) (by rw [hR]; exact Nat.le_of_ble_eq_true rfl) (by rw [hR]; exact Nat.le_of_ble_eq_true rfl) (fun r1 M2 => ?_)
  refine xv_putP (ci := 9) (j := 1) hY dX9_init_9 rfl rfl rfl (by decide) hin9 (by decide) rfl (List.mem_of_getElem? (i := 5) rfl) tyX9_ok nmX9 (Or.inr ⟨rfl, hnm0, rfl⟩) (Or.inr ⟨_, rfl⟩) (fun M3 => ?_)
  refine xv_aload_n rfl rfl hY dX9_init_12 rfl ?_
  refine xv_bipush (by decide) hY dX9_init_13 rfl ?_
  refine xv_newaI (N := 6) hY hfl dX9_init_15 rfl rfl (by decide) (by decide +kernel) (by rw [hR]; exact Nat.le_of_ble_eq_true rfl) (by rw [hR]; exact Nat.le_of_ble_eq_true rfl) (fun r4 M5 => ?_)
  refine xv_putP (ci := 9) (j := 2) hY dX9_init_17 rfl rfl rfl (by decide) hin9 (by decide) rfl (List.mem_of_getElem? (i := 6) rfl) tyX9_ok nmX9 (Or.inr ⟨rfl, hnm0, rfl⟩) (Or.inr ⟨_, rfl⟩) (fun M6 => ?_)
  refine xv_aload_n rfl rfl hY dX9_init_20 rfl ?_
  refine xv_bipush (by decide) hY dX9_init_21 rfl ?_
  refine xv_newaJ (N := 6) hY hfl dX9_init_23 rfl rfl (by decide) (by decide +kernel) (by rw [hR]; exact Nat.le_of_ble_eq_true rfl) (by rw [hR]; exact Nat.le_of_ble_eq_true rfl) (fun r7 M8 => ?_)
  refine xv_putP (ci := 9) (j := 3) hY dX9_init_25 rfl rfl rfl (by decide) hin9 (by decide) rfl (List.mem_of_getElem? (i := 8) rfl) tyX9_ok nmX9 (Or.inr ⟨rfl, hnm0, rfl⟩) (Or.inr ⟨_, rfl⟩) (fun M9 => ?_)
  refine xv_aload_n rfl rfl hY dX9_init_28 rfl ?_
  refine xv_bipush (by decide) hY dX9_init_29 rfl ?_
  refine xv_newaI (N := 6) hY hfl dX9_init_31 rfl rfl (by decide) (by decide +kernel) (by rw [hR]; exact Nat.le_of_ble_eq_true rfl) (by rw [hR]; exact Nat.le_of_ble_eq_true rfl) (fun r10 M11 => ?_)
  refine xv_putP (ci := 9) (j := 4) hY dX9_init_33 rfl rfl rfl (by decide) hin9 (by decide) rfl (List.mem_of_getElem? (i := 9) rfl) tyX9_ok nmX9 (Or.inr ⟨rfl, hnm0, rfl⟩) (Or.inr ⟨_, rfl⟩) (fun M12 => ?_)
  refine xv_aload_n rfl rfl hY dX9_init_36 rfl ?_
  refine xv_bipush (by decide) hY dX9_init_37 rfl ?_
  refine xv_newaI (N := 6) hY hfl dX9_init_39 rfl rfl (by decide) (by decide +kernel) (by rw [hR]; exact Nat.le_of_ble_eq_true rfl) (by rw [hR]; exact Nat.le_of_ble_eq_true rfl) (fun r13 M14 => ?_)
  refine xv_putP (ci := 9) (j := 5) hY dX9_init_41 rfl rfl rfl (by decide) hin9 (by decide) rfl (List.mem_of_getElem? (i := 10) rfl) tyX9_ok nmX9 (Or.inr ⟨rfl, hnm0, rfl⟩) (Or.inr ⟨_, rfl⟩) (fun M15 => ?_)
  refine xv_aload_n rfl rfl hY dX9_init_44 rfl ?_
  refine xv_bipush (by decide) hY dX9_init_45 rfl ?_
  refine xv_newaI (N := 6) hY hfl dX9_init_47 rfl rfl (by decide) (by decide +kernel) (by rw [hR]; exact Nat.le_of_ble_eq_true rfl) (by rw [hR]; exact Nat.le_of_ble_eq_true rfl) (fun r16 M17 => ?_)
  refine xv_putP (ci := 9) (j := 6) hY dX9_init_49 rfl rfl rfl (by decide) hin9 (by decide) rfl (List.mem_of_getElem? (i := 11) rfl) tyX9_ok nmX9 (Or.inr ⟨rfl, hnm0, rfl⟩) (Or.inr ⟨_, rfl⟩) (fun M18 => ?_)
  refine xv_aload_n rfl rfl hY dX9_init_52 rfl ?_
  refine xv_bipush (by decide) hY dX9_init_53 rfl ?_
  refine xv_newaI (N := 6) hY hfl dX9_init_55 rfl rfl (by decide) (by decide +kernel) (by rw [hR]; exact Nat.le_of_ble_eq_true rfl) (by rw [hR]; exact Nat.le_of_ble_eq_true rfl) (fun r19 M20 => ?_)
  refine xv_putP (ci := 9) (j := 7) hY dX9_init_57 rfl rfl rfl (by decide) hin9 (by decide) rfl (List.mem_of_getElem? (i := 12) rfl) tyX9_ok nmX9 (Or.inr ⟨rfl, hnm0, rfl⟩) (Or.inr ⟨_, rfl⟩) (fun M21 => ?_)
  refine xv_aload_n rfl rfl hY dX9_init_60 rfl ?_
  refine xv_bipush (by decide) hY dX9_init_61 rfl ?_
  refine xv_bipush (by decide) hY dX9_init_63 rfl ?_
  refine xv_multi hY hfl dX9_init_65 rfl (by decide +kernel) (by decide +kernel) (by rw [hR]; exact Nat.le_of_ble_eq_true rfl) (by rw [hR]; exact Nat.le_of_ble_eq_true rfl) (fun r22 M23 => ?_)
  refine xv_putP (ci := 9) (j := 8) hY dX9_init_69 rfl rfl rfl (by decide) hin9 (by decide) rfl (List.mem_of_getElem? (i := 14) rfl) tyX9_ok nmX9 (Or.inr ⟨rfl, hnm0, rfl⟩) (Or.inr ⟨_, rfl⟩) (fun M24 => ?_)
  exact xv_vretu hY hfl dX9_init_72 hret (Nat.le_of_ble_eq_true rfl) (Nat.le_of_ble_eq_true rfl)
set_option maxHeartbeats 4000000 in
set_option maxRecDepth 100000 in
theorem S_X3_init (l : Launch) (a0 : Nat) (M : xv_M) (q : Unit × xv_M) (h : D_X3_init a0 M = some q) : xv_Met l yX3_init wsX3_init rm_X3_init 4 48 true [xr a0] M (xv_qV true q) := by
  refine xv_enter (cc := cX3_init) (nL := 1) (ret := none) rfl (by decide +kernel) (Nat.le_of_ble_eq_true rfl) h ?_
  intro Y hY0 hl hR hnL hfl hret hnm0
  have hY : xv_ok Y cX3_init wsX3_init RX3 := hY0
  have hin3 : ∀ w ∈ u_ws RX3 TX3 6, w ∈ wsX3_init := fun _ h => List.mem_cons_of_mem _ (List.mem_append_right _ h)
  unfold D_X3_init
  refine xv_mk (L' := [some (xr a0)]) [true] rfl ?_
  refine xv_aload_n rfl rfl hY dX3_init_0 rfl ?_
  refine xv_objInit hY dX3_init_1 rfl (by decide +kernel) (by decide +kernel) (by decide +kernel) (by rw [hR]; exact Nat.le_of_ble_eq_true rfl) (by rw [hR]; exact Nat.le_of_ble_eq_true rfl) ?_
  refine xv_aload_n rfl rfl hY dX3_init_4 rfl ?_
  refine xv_bipush (by decide) hY dX3_init_5 rfl ?_
  refine xv_newaI (N := 12) hY hfl dX3_init_7 rfl rfl (by decide) (by decide +kernel) (by rw [hR]; exact Nat.le_of_ble_eq_true rfl) (by rw [hR]; exact Nat.le_of_ble_eq_true rfl) (fun r1 M2 => ?_)
  refine xv_putP (ci := 3) (j := 2) hY dX3_init_9 rfl rfl rfl (by decide) hin3 (by decide) rfl (List.mem_of_getElem? (i := 5) rfl) tyX3_ok nmX3 (Or.inr ⟨rfl, hnm0, rfl⟩) (Or.inr ⟨_, rfl⟩) (fun M3 => ?_)
  refine xv_aload_n rfl rfl hY dX3_init_12 rfl ?_
  refine xv_bipush (by decide) hY dX3_init_13 rfl ?_
  refine xv_newaI (N := 12) hY hfl dX3_init_15 rfl rfl (by decide) (by decide +kernel) (by rw [hR]; exact Nat.le_of_ble_eq_true rfl) (by rw [hR]; exact Nat.le_of_ble_eq_true rfl) (fun r4 M5 => ?_)
  refine xv_putP (ci := 3) (j := 3) hY dX3_init_17 rfl rfl rfl (by decide) hin3 (by decide) rfl (List.mem_of_getElem? (i := 6) rfl) tyX3_ok nmX3 (Or.inr ⟨rfl, hnm0, rfl⟩) (Or.inr ⟨_, rfl⟩) (fun M6 => ?_)
  refine xv_aload_n rfl rfl hY dX3_init_20 rfl ?_
  refine xv_bipush (by decide) hY dX3_init_21 rfl ?_
  refine xv_newaI (N := 12) hY hfl dX3_init_23 rfl rfl (by decide) (by decide +kernel) (by rw [hR]; exact Nat.le_of_ble_eq_true rfl) (by rw [hR]; exact Nat.le_of_ble_eq_true rfl) (fun r7 M8 => ?_)
  refine xv_putP (ci := 3) (j := 4) hY dX3_init_25 rfl rfl rfl (by decide) hin3 (by decide) rfl (List.mem_of_getElem? (i := 7) rfl) tyX3_ok nmX3 (Or.inr ⟨rfl, hnm0, rfl⟩) (Or.inr ⟨_, rfl⟩) (fun M9 => ?_)
  refine xv_aload_n rfl rfl hY dX3_init_28 rfl ?_
  refine xv_bipush (by decide) hY dX3_init_29 rfl ?_
  refine xv_newaI (N := 12) hY hfl dX3_init_31 rfl rfl (by decide) (by decide +kernel) (by rw [hR]; exact Nat.le_of_ble_eq_true rfl) (by rw [hR]; exact Nat.le_of_ble_eq_true rfl) (fun r10 M11 => ?_)
  refine xv_putP (ci := 3) (j := 5) hY dX3_init_33 rfl rfl rfl (by decide) hin3 (by decide) rfl (List.mem_of_getElem? (i := 8) rfl) tyX3_ok nmX3 (Or.inr ⟨rfl, hnm0, rfl⟩) (Or.inr ⟨_, rfl⟩) (fun M12 => ?_)
  exact xv_vretu hY hfl dX3_init_36 hret (Nat.le_of_ble_eq_true rfl) (Nat.le_of_ble_eq_true rfl)
set_option maxHeartbeats 4000000 in
set_option maxRecDepth 100000 in
theorem S_X6_init (l : Launch) (a0 : Nat) (M : xv_M) (q : Unit × xv_M) (h : D_X6_init a0 M = some q) : xv_Met l yX6_init wsX6_init rm_X6_init 27 839 true [xr a0] M (xv_qV true q) := by
  refine xv_enter (cc := cX6_init) (nL := 1) (ret := none) rfl (by decide +kernel) (Nat.le_of_ble_eq_true rfl) h ?_
  intro Y hY0 hl hR hnL hfl hret hnm0
  have hY : xv_ok Y cX6_init wsX6_init RX6 := hY0
  have hin3 : ∀ w ∈ u_ws RX3 TX3 6, w ∈ wsX6_init := fun _ h => List.mem_cons_of_mem _ (List.mem_append_right _ h)
  have hin5 : ∀ w ∈ u_ws RX5 TX5 8, w ∈ wsX6_init := fun _ h => List.mem_cons_of_mem _ (List.mem_append_left _ (List.mem_append_left _ (List.mem_append_left _ (List.mem_append_right _ h))))
  have hin6 : ∀ w ∈ u_ws RX6 TX6 4, w ∈ wsX6_init := fun _ h => List.mem_cons_of_mem _ (List.mem_append_left _ (List.mem_append_left _ (List.mem_append_right _ h)))
  have hin9 : ∀ w ∈ u_ws RX9 TX9 9, w ∈ wsX6_init := fun _ h => List.mem_cons_of_mem _ (List.mem_append_left _ (List.mem_append_right _ h))
  unfold D_X6_init
  refine xv_mk (L' := [some (xr a0)]) [true] rfl ?_
  refine xv_aload_n rfl rfl hY dX6_init_0 rfl ?_
  refine xv_objInit hY dX6_init_1 rfl (by decide +kernel) (by decide +kernel) (by decide +kernel) (by rw [hR]; exact Nat.le_of_ble_eq_true rfl) (by rw [hR]; exact Nat.le_of_ble_eq_true rfl) ?_
  refine xv_aload_n rfl rfl hY dX6_init_4 rfl ?_
  refine xv_newO (ci := 5) hY hfl dX6_init_5 rfl rfl rfl (by decide) hin5 tyX5_ok xv_dv5 (by decide +kernel) (by decide +kernel) (by decide +kernel) (by rw [hR]; exact Nat.le_of_ble_eq_true rfl) (by rw [hR]; exact Nat.le_of_ble_eq_true rfl) (fun r1 M2 => ?_)
  refine xv_dupr hY dX6_init_8 rfl ?_
  refine xv_callINV (ret := none) (y := yX5_init) (ws := wsX5_init) (rm := rm_X5_init) (mc := 6) (ms := 360) (n := 0) (av := []) hY dX6_init_9 rfl rfl (fun q hq => by rw [hfl]; exact S_X5_init Y.1.2.1 r1 M2 q hq) ⟨va_cnB 0 hY.2.2.2.2.1 gX6_init_X5_init_n9 rfl rfl rfl (hY.2.2.2.2.2.1.2.1 _ (List.mem_of_getElem? (i := 2) rfl)) (hY.2.2.2.2.1 _ (by decide +kernel)) (by decide +kernel) ⟨(by rw [hR]; exact Nat.le_of_ble_eq_true rfl), (by rw [hR]; exact Nat.le_of_ble_eq_true rfl)⟩, rfl, hY.2.2.2.2.1 _ (by decide +kernel)⟩ rfl (Nat.le_of_ble_eq_true rfl) ⟨(by rw [hR]; exact Nat.le_of_ble_eq_true rfl), (by rw [hR]; exact Nat.le_of_ble_eq_true rfl)⟩ (fun _ M3 => ?_)
  refine xv_putP (ci := 6) (j := 1) hY dX6_init_12 rfl rfl rfl (by decide) hin6 (by decide) rfl (List.mem_of_getElem? (i := 7) rfl) tyX6_ok nmX6 (Or.inr ⟨rfl, hnm0, rfl⟩) (Or.inl ⟨_, rfl⟩) (fun M4 => ?_)
  refine xv_aload_n rfl rfl hY dX6_init_15 rfl ?_
  refine xv_newO (ci := 9) hY hfl dX6_init_16 rfl rfl rfl (by decide) hin9 tyX9_ok xv_dv9 (by decide +kernel) (by decide +kernel) (by decide +kernel) (by rw [hR]; exact Nat.le_of_ble_eq_true rfl) (by rw [hR]; exact Nat.le_of_ble_eq_true rfl) (fun r5 M6 => ?_)
  refine xv_dupr hY dX6_init_19 rfl ?_
  refine xv_callINV (ret := none) (y := yX9_init) (ws := wsX9_init) (rm := rm_X9_init) (mc := 14) (ms := 408) (n := 0) (av := []) hY dX6_init_20 rfl rfl (fun q hq => by rw [hfl]; exact S_X9_init Y.1.2.1 r5 M6 q hq) ⟨va_cnB 0 hY.2.2.2.2.1 gX6_init_X9_init_n18 rfl rfl rfl (hY.2.2.2.2.2.1.2.1 _ (List.mem_of_getElem? (i := 3) rfl)) (hY.2.2.2.2.1 _ (by decide +kernel)) (by decide +kernel) ⟨(by rw [hR]; exact Nat.le_of_ble_eq_true rfl), (by rw [hR]; exact Nat.le_of_ble_eq_true rfl)⟩, rfl, hY.2.2.2.2.1 _ (by decide +kernel)⟩ rfl (Nat.le_of_ble_eq_true rfl) ⟨(by rw [hR]; exact Nat.le_of_ble_eq_true rfl), (by rw [hR]; exact Nat.le_of_ble_eq_true rfl)⟩ (fun _ M7 => ?_)
  refine xv_putP (ci := 6) (j := 2) hY dX6_init_23 rfl rfl rfl (by decide) hin6 (by decide) rfl (List.mem_of_getElem? (i := 11) rfl) tyX6_ok nmX6 (Or.inr ⟨rfl, hnm0, rfl⟩) (Or.inl ⟨_, rfl⟩) (fun M8 => ?_)
  refine xv_aload_n rfl rfl hY dX6_init_26 rfl ?_
  refine xv_newO (ci := 3) hY hfl dX6_init_27 rfl rfl rfl (by decide) hin3 tyX3_ok xv_dv3 (by decide +kernel) (by decide +kernel) (by decide +kernel) (by rw [hR]; exact Nat.le_of_ble_eq_true rfl) (by rw [hR]; exact Nat.le_of_ble_eq_true rfl) (fun r9 M10 => ?_)
  refine xv_dupr hY dX6_init_30 rfl ?_
  refine xv_callINV (ret := none) (y := yX3_init) (ws := wsX3_init) (rm := rm_X3_init) (mc := 4) (ms := 48) (n := 0) (av := []) hY dX6_init_31 rfl rfl (fun q hq => by rw [hfl]; exact S_X3_init Y.1.2.1 r9 M10 q hq) ⟨va_cnB 0 hY.2.2.2.2.1 gX6_init_X3_init_n25 rfl rfl rfl (hY.2.2.2.2.2.1.2.1 _ (List.mem_of_getElem? (i := 4) rfl)) (hY.2.2.2.2.1 _ (by decide +kernel)) (by decide +kernel) ⟨(by rw [hR]; exact Nat.le_of_ble_eq_true rfl), (by rw [hR]; exact Nat.le_of_ble_eq_true rfl)⟩, rfl, hY.2.2.2.2.1 _ (by decide +kernel)⟩ rfl (Nat.le_of_ble_eq_true rfl) ⟨(by rw [hR]; exact Nat.le_of_ble_eq_true rfl), (by rw [hR]; exact Nat.le_of_ble_eq_true rfl)⟩ (fun _ M11 => ?_)
  refine xv_putP (ci := 6) (j := 3) hY dX6_init_34 rfl rfl rfl (by decide) hin6 (by decide) rfl (List.mem_of_getElem? (i := 15) rfl) tyX6_ok nmX6 (Or.inr ⟨rfl, hnm0, rfl⟩) (Or.inl ⟨_, rfl⟩) (fun M12 => ?_)
  exact xv_vretu hY hfl dX6_init_37 hret (Nat.le_of_ble_eq_true rfl) (Nat.le_of_ble_eq_true rfl)
set_option maxHeartbeats 4000000 in
set_option maxRecDepth 100000 in
theorem S_X1_init (l : Launch) (a0 : Nat) (M : xv_M) (q : Unit × xv_M) (h : D_X1_init a0 M = some q) : xv_Met l yX1_init wsX1_init rm_X1_init 113 3376 true [xr a0] M (xv_qV true q) := by
  refine xv_enter (cc := cX1_init) (nL := 2) (ret := none) rfl (by decide +kernel) (Nat.le_of_ble_eq_true rfl) h ?_
  intro Y hY0 hl hR hnL hfl hret hnm0
  have hY : xv_ok Y cX1_init wsX1_init RX1 := hY0
  have hin1 : ∀ w ∈ u_ws RX1 TX1 2, w ∈ wsX1_init := fun _ h => List.mem_cons_of_mem _ (List.mem_append_left _ (List.mem_append_left _ (List.mem_append_left _ (List.mem_append_left _ (List.mem_append_right _ h)))))
  have hin6 : ∀ w ∈ u_ws RX6 TX6 4, w ∈ wsX1_init := fun _ h => List.mem_cons_of_mem _ (List.mem_append_left _ (List.mem_append_left _ (List.mem_append_left _ (List.mem_append_right _ h))))
  unfold D_X1_init
  refine xv_mk (L' := [some (xr a0), none]) [true, true] rfl ?_
  refine xv_aload_n rfl rfl hY dX1_init_0 rfl ?_
  refine xv_objInit hY dX1_init_1 rfl (by decide +kernel) (by decide +kernel) (by decide +kernel) (by rw [hR]; exact Nat.le_of_ble_eq_true rfl) (by rw [hR]; exact Nat.le_of_ble_eq_true rfl) ?_
  refine xv_aload_n rfl rfl hY dX1_init_4 rfl ?_
  refine xv_iconst hY dX1_init_5 rfl ?_
  refine xv_anewS (N := 4) hY hfl dX1_init_6 rfl rfl (by decide) (by decide +kernel) (by rw [hR]; exact Nat.le_of_ble_eq_true rfl) (by rw [hR]; exact Nat.le_of_ble_eq_true rfl) (fun r1 M2 => ?_)
  refine xv_putP (ci := 1) (j := 1) hY dX1_init_9 rfl rfl rfl (by decide) hin1 (by decide) rfl (List.mem_of_getElem? (i := 5) rfl) tyX1_ok nmX1 (Or.inr ⟨rfl, hnm0, rfl⟩) (Or.inr ⟨_, rfl⟩) (fun M3 => ?_)
  refine xv_iconst hY dX1_init_12 rfl ?_
  refine xv_istore_n (L' := [some (xr a0), some (xi (0 : Int))]) hY dX1_init_13 rfl rfl (by rw [hnL]; decide) rfl rfl ?_
  refine xv_iload_n rfl rfl hY dX1_init_14 rfl ?_
  refine xv_iconst hY dX1_init_15 rfl ?_
  refine xv_eqF (x := (0 : Int)) (y := (4 : Int)) (c := (4 : Int) ≤ (0 : Int)) ⟨rfl, rfl⟩ (by decide) ?_
  refine xv_icmp_ge (t := 38) hY dX1_init_16 (by decide) rfl (fun h => by cases h) ?_
  refine xv_aload_n rfl rfl hY dX1_init_19 rfl ?_
  refine xv_getP (ci := 1) (j := 1) hY dX1_init_20 rfl rfl rfl (by decide) hin1 (by decide) rfl (List.mem_of_getElem? (i := 5) rfl) (fun v4 => ?_)
  refine xv_iload_n rfl rfl hY dX1_init_23 rfl ?_
  refine xv_newO (ci := 6) hY hfl dX1_init_24 rfl rfl rfl (by decide) hin6 tyX6_ok xv_dv6 (by decide +kernel) (by decide +kernel) (by decide +kernel) (by rw [hR]; exact Nat.le_of_ble_eq_true rfl) (by rw [hR]; exact Nat.le_of_ble_eq_true rfl) (fun r5 M6 => ?_)
  refine xv_dupr hY dX1_init_27 rfl ?_
  refine xv_callINV (ret := none) (y := yX6_init) (ws := wsX6_init) (rm := rm_X6_init) (mc := 27) (ms := 839) (n := 0) (av := []) hY dX1_init_28 rfl rfl (fun q hq => by rw [hfl]; exact S_X6_init Y.1.2.1 r5 M6 q hq) ⟨va_cnB 0 hY.2.2.2.2.1 gX1_init_X6_init_n17 rfl rfl rfl (hY.2.2.2.2.2.1.2.1 _ (List.mem_of_getElem? (i := 8) rfl)) (hY.2.2.2.2.1 _ (by decide +kernel)) (by decide +kernel) ⟨(by rw [hR]; exact Nat.le_of_ble_eq_true rfl), (by rw [hR]; exact Nat.le_of_ble_eq_true rfl)⟩, rfl, hY.2.2.2.2.1 _ (by decide +kernel)⟩ rfl (Nat.le_of_ble_eq_true rfl) ⟨(by rw [hR]; exact Nat.le_of_ble_eq_true rfl), (by rw [hR]; exact Nat.le_of_ble_eq_true rfl)⟩ (fun _ M7 => ?_)
  refine xv_aast hY dX1_init_31 rfl (fun M8 => ?_)
  refine xv_iinc (L' := [some (xr a0), some (xi ((0 : Int) + 1))]) hY dX1_init_32 rfl (by rw [hnL]; decide) rfl rfl rfl ?_
  refine xv_goto (pc' := 14) hY dX1_init_35 (by decide) ?_
  refine xv_iload_n rfl rfl hY dX1_init_14 rfl ?_
  refine xv_iconst hY dX1_init_15 rfl ?_
  refine xv_eqF (x := ((0 : Int) + 1)) (y := (4 : Int)) (c := (4 : Int) ≤ ((0 : Int) + 1)) ⟨rfl, rfl⟩ (by decide) ?_
  refine xv_icmp_ge (t := 38) hY dX1_init_16 (by decide) rfl (fun h => by cases h) ?_
  refine xv_aload_n rfl rfl hY dX1_init_19 rfl ?_
  refine xv_getP (ci := 1) (j := 1) hY dX1_init_20 rfl rfl rfl (by decide) hin1 (by decide) rfl (List.mem_of_getElem? (i := 5) rfl) (fun v9 => ?_)
  refine xv_iload_n rfl rfl hY dX1_init_23 rfl ?_
  refine xv_newO (ci := 6) hY hfl dX1_init_24 rfl rfl rfl (by decide) hin6 tyX6_ok xv_dv6 (by decide +kernel) (by decide +kernel) (by decide +kernel) (by rw [hR]; exact Nat.le_of_ble_eq_true rfl) (by rw [hR]; exact Nat.le_of_ble_eq_true rfl) (fun r10 M11 => ?_)
  refine xv_dupr hY dX1_init_27 rfl ?_
  refine xv_callINV (ret := none) (y := yX6_init) (ws := wsX6_init) (rm := rm_X6_init) (mc := 27) (ms := 839) (n := 0) (av := []) hY dX1_init_28 rfl rfl (fun q hq => by rw [hfl]; exact S_X6_init Y.1.2.1 r10 M11 q hq) ⟨va_cnB 0 hY.2.2.2.2.1 gX1_init_X6_init_n17 rfl rfl rfl (hY.2.2.2.2.2.1.2.1 _ (List.mem_of_getElem? (i := 8) rfl)) (hY.2.2.2.2.1 _ (by decide +kernel)) (by decide +kernel) ⟨(by rw [hR]; exact Nat.le_of_ble_eq_true rfl), (by rw [hR]; exact Nat.le_of_ble_eq_true rfl)⟩, rfl, hY.2.2.2.2.1 _ (by decide +kernel)⟩ rfl (Nat.le_of_ble_eq_true rfl) ⟨(by rw [hR]; exact Nat.le_of_ble_eq_true rfl), (by rw [hR]; exact Nat.le_of_ble_eq_true rfl)⟩ (fun _ M12 => ?_)
  refine xv_aast hY dX1_init_31 rfl (fun M13 => ?_)
  refine xv_iinc (L' := [some (xr a0), some (xi (((0 : Int) + 1) + 1))]) hY dX1_init_32 rfl (by rw [hnL]; decide) rfl rfl rfl ?_
  refine xv_goto (pc' := 14) hY dX1_init_35 (by decide) ?_
  refine xv_iload_n rfl rfl hY dX1_init_14 rfl ?_
  refine xv_iconst hY dX1_init_15 rfl ?_
  refine xv_eqF (x := (((0 : Int) + 1) + 1)) (y := (4 : Int)) (c := (4 : Int) ≤ (((0 : Int) + 1) + 1)) ⟨rfl, rfl⟩ (by decide) ?_
  refine xv_icmp_ge (t := 38) hY dX1_init_16 (by decide) rfl (fun h => by cases h) ?_
  refine xv_aload_n rfl rfl hY dX1_init_19 rfl ?_
  refine xv_getP (ci := 1) (j := 1) hY dX1_init_20 rfl rfl rfl (by decide) hin1 (by decide) rfl (List.mem_of_getElem? (i := 5) rfl) (fun v14 => ?_)
  refine xv_iload_n rfl rfl hY dX1_init_23 rfl ?_
  refine xv_newO (ci := 6) hY hfl dX1_init_24 rfl rfl rfl (by decide) hin6 tyX6_ok xv_dv6 (by decide +kernel) (by decide +kernel) (by decide +kernel) (by rw [hR]; exact Nat.le_of_ble_eq_true rfl) (by rw [hR]; exact Nat.le_of_ble_eq_true rfl) (fun r15 M16 => ?_)
  refine xv_dupr hY dX1_init_27 rfl ?_
  refine xv_callINV (ret := none) (y := yX6_init) (ws := wsX6_init) (rm := rm_X6_init) (mc := 27) (ms := 839) (n := 0) (av := []) hY dX1_init_28 rfl rfl (fun q hq => by rw [hfl]; exact S_X6_init Y.1.2.1 r15 M16 q hq) ⟨va_cnB 0 hY.2.2.2.2.1 gX1_init_X6_init_n17 rfl rfl rfl (hY.2.2.2.2.2.1.2.1 _ (List.mem_of_getElem? (i := 8) rfl)) (hY.2.2.2.2.1 _ (by decide +kernel)) (by decide +kernel) ⟨(by rw [hR]; exact Nat.le_of_ble_eq_true rfl), (by rw [hR]; exact Nat.le_of_ble_eq_true rfl)⟩, rfl, hY.2.2.2.2.1 _ (by decide +kernel)⟩ rfl (Nat.le_of_ble_eq_true rfl) ⟨(by rw [hR]; exact Nat.le_of_ble_eq_true rfl), (by rw [hR]; exact Nat.le_of_ble_eq_true rfl)⟩ (fun _ M17 => ?_)
  refine xv_aast hY dX1_init_31 rfl (fun M18 => ?_)
  refine xv_iinc (L' := [some (xr a0), some (xi ((((0 : Int) + 1) + 1) + 1))]) hY dX1_init_32 rfl (by rw [hnL]; decide) rfl rfl rfl ?_
  refine xv_goto (pc' := 14) hY dX1_init_35 (by decide) ?_
  refine xv_iload_n rfl rfl hY dX1_init_14 rfl ?_
  refine xv_iconst hY dX1_init_15 rfl ?_
  refine xv_eqF (x := ((((0 : Int) + 1) + 1) + 1)) (y := (4 : Int)) (c := (4 : Int) ≤ ((((0 : Int) + 1) + 1) + 1)) ⟨rfl, rfl⟩ (by decide) ?_
  refine xv_icmp_ge (t := 38) hY dX1_init_16 (by decide) rfl (fun h => by cases h) ?_
  refine xv_aload_n rfl rfl hY dX1_init_19 rfl ?_
  refine xv_getP (ci := 1) (j := 1) hY dX1_init_20 rfl rfl rfl (by decide) hin1 (by decide) rfl (List.mem_of_getElem? (i := 5) rfl) (fun v19 => ?_)
  refine xv_iload_n rfl rfl hY dX1_init_23 rfl ?_
  refine xv_newO (ci := 6) hY hfl dX1_init_24 rfl rfl rfl (by decide) hin6 tyX6_ok xv_dv6 (by decide +kernel) (by decide +kernel) (by decide +kernel) (by rw [hR]; exact Nat.le_of_ble_eq_true rfl) (by rw [hR]; exact Nat.le_of_ble_eq_true rfl) (fun r20 M21 => ?_)
  refine xv_dupr hY dX1_init_27 rfl ?_
  refine xv_callINV (ret := none) (y := yX6_init) (ws := wsX6_init) (rm := rm_X6_init) (mc := 27) (ms := 839) (n := 0) (av := []) hY dX1_init_28 rfl rfl (fun q hq => by rw [hfl]; exact S_X6_init Y.1.2.1 r20 M21 q hq) ⟨va_cnB 0 hY.2.2.2.2.1 gX1_init_X6_init_n17 rfl rfl rfl (hY.2.2.2.2.2.1.2.1 _ (List.mem_of_getElem? (i := 8) rfl)) (hY.2.2.2.2.1 _ (by decide +kernel)) (by decide +kernel) ⟨(by rw [hR]; exact Nat.le_of_ble_eq_true rfl), (by rw [hR]; exact Nat.le_of_ble_eq_true rfl)⟩, rfl, hY.2.2.2.2.1 _ (by decide +kernel)⟩ rfl (Nat.le_of_ble_eq_true rfl) ⟨(by rw [hR]; exact Nat.le_of_ble_eq_true rfl), (by rw [hR]; exact Nat.le_of_ble_eq_true rfl)⟩ (fun _ M22 => ?_)
  refine xv_aast hY dX1_init_31 rfl (fun M23 => ?_)
  refine xv_iinc (L' := [some (xr a0), some (xi (((((0 : Int) + 1) + 1) + 1) + 1))]) hY dX1_init_32 rfl (by rw [hnL]; decide) rfl rfl rfl ?_
  refine xv_goto (pc' := 14) hY dX1_init_35 (by decide) ?_
  refine xv_iload_n rfl rfl hY dX1_init_14 rfl ?_
  refine xv_iconst hY dX1_init_15 rfl ?_
  refine xv_eqT (x := (((((0 : Int) + 1) + 1) + 1) + 1)) (y := (4 : Int)) (c := (4 : Int) ≤ (((((0 : Int) + 1) + 1) + 1) + 1)) ⟨rfl, rfl⟩ (by decide) ?_
  refine xv_icmp_ge (t := 38) hY dX1_init_16 (by decide) rfl ?_ (fun h => by cases h)
  exact xv_vretu hY hfl dX1_init_38 hret (Nat.le_of_ble_eq_true rfl) (Nat.le_of_ble_eq_true rfl)
set_option maxHeartbeats 4000000 in
set_option maxRecDepth 100000 in
theorem S_X1_dropOldest (l : Launch) (a0 : Nat) (M : xv_M) (q : Unit × xv_M) (h : D_X1_dropOldest a0 M = some q) : xv_Met l yX1_dropOldest wsX1_dropOldest rm_X1_dropOldest 0 0 false [xr a0] M (xv_qV false q) := by
  refine xv_enter (cc := cX1_dropOldest) (nL := 3) (ret := none) rfl (by decide +kernel) (Nat.le_of_ble_eq_true rfl) h ?_
  intro Y hY0 hl hR hnL hfl hret hnm0
  have hY : xv_ok Y cX1_dropOldest wsX1_dropOldest RX1 := hY0
  have hin1 : ∀ w ∈ u_ws RX1 TX1 2, w ∈ wsX1_dropOldest := fun _ h => List.mem_cons_of_mem _ (List.mem_append_right _ h)
  unfold D_X1_dropOldest
  refine xv_mk (L' := [some (xr a0), none, none]) [true, true, true] rfl ?_
  refine xv_aload_n rfl rfl hY dX1_dropOldest_0 rfl ?_
  refine xv_getP (ci := 1) (j := 1) hY dX1_dropOldest_1 rfl rfl rfl (by decide) hin1 (by decide) rfl (List.mem_of_getElem? (i := 1) rfl) (fun v1 => ?_)
  refine xv_iconst hY dX1_dropOldest_4 rfl ?_
  refine xv_aaldS hY dX1_dropOldest_5 rfl (fun v2 => ?_)
  refine xv_astore_n (L' := [some (xr a0), some (xr v2), none]) hY dX1_dropOldest_6 rfl rfl (by rw [hnL]; decide) rfl rfl ?_
  refine xv_iconst hY dX1_dropOldest_7 rfl ?_
  refine xv_istore_n (L' := [some (xr a0), some (xr v2), some (xi (1 : Int))]) hY dX1_dropOldest_8 rfl rfl (by rw [hnL]; decide) rfl rfl ?_
  refine xv_mk (L' := [some (xr a0), some (xr v2), some (xi (1 : Int))]) [true, true, true] rfl ?_
  refine xv_loop (σ := Int × xv_M) (fun x3 => [some (xr a0), some (xr v2), some (xi x3.1)]) (fun x3 => x3.2) (fun f4 hf4 x3 => ?_) xv_fuel ((1 : Int), M)
  refine xv_iload_n rfl rfl hY dX1_dropOldest_9 rfl ?_
  refine xv_iconst hY dX1_dropOldest_10 rfl ?_
  refine xv_icmp_ge (t := 34) hY dX1_dropOldest_11 (by decide) rfl ?_ ?_
  · refine xv_aload_n rfl rfl hY dX1_dropOldest_34 rfl ?_
    refine xv_getP (ci := 1) (j := 1) hY dX1_dropOldest_35 rfl rfl rfl (by decide) hin1 (by decide) rfl (List.mem_of_getElem? (i := 1) rfl) (fun v5 => ?_)
    refine xv_iconst hY dX1_dropOldest_38 rfl ?_
    refine xv_aload_n rfl rfl hY dX1_dropOldest_39 rfl ?_
    refine xv_aast hY dX1_dropOldest_40 rfl (fun M6 => ?_)
    refine xv_aload_n rfl rfl hY dX1_dropOldest_41 rfl ?_
    refine xv_iconst hY dX1_dropOldest_42 rfl ?_
    refine xv_putI (ci := 1) (j := 0) hY dX1_dropOldest_43 rfl rfl rfl (by decide) hin1 (by decide) rfl (List.mem_of_getElem? (i := 2) rfl) tyX1_ok nmX1 (Or.inl rfl) rfl (fun M7 => ?_)
    exact xv_vretu hY hfl dX1_dropOldest_46 hret (Nat.le_of_ble_eq_true rfl) (Nat.le_of_ble_eq_true rfl)
  · refine xv_aload_n rfl rfl hY dX1_dropOldest_14 rfl ?_
    refine xv_getP (ci := 1) (j := 1) hY dX1_dropOldest_15 rfl rfl rfl (by decide) hin1 (by decide) rfl (List.mem_of_getElem? (i := 1) rfl) (fun v8 => ?_)
    refine xv_iload_n rfl rfl hY dX1_dropOldest_18 rfl ?_
    refine xv_iconst hY dX1_dropOldest_19 rfl ?_
    refine xv_isub hY dX1_dropOldest_20 rfl ?_
    refine xv_aload_n rfl rfl hY dX1_dropOldest_21 rfl ?_
    refine xv_getP (ci := 1) (j := 1) hY dX1_dropOldest_22 rfl rfl rfl (by decide) hin1 (by decide) rfl (List.mem_of_getElem? (i := 1) rfl) (fun v9 => ?_)
    refine xv_iload_n rfl rfl hY dX1_dropOldest_25 rfl ?_
    refine xv_aaldS hY dX1_dropOldest_26 rfl (fun v10 => ?_)
    refine xv_aast hY dX1_dropOldest_27 rfl (fun M11 => ?_)
    refine xv_iinc (L' := [some (xr a0), some (xr v2), some (xi (x3.1 + 1))]) hY dX1_dropOldest_28 rfl (by rw [hnL]; decide) rfl rfl rfl ?_
    refine xv_goto (pc' := 9) hY dX1_dropOldest_31 (by decide) ?_
    exact xv_mk (L' := [some (xr a0), some (xr v2), some (xi (x3.1 + 1))]) [true, true, true] rfl (hf4 ((x3.1 + 1), M11))
set_option maxHeartbeats 4000000 in
set_option maxRecDepth 100000 in
theorem S_X5_copyFrom (l : Launch) (a0 : Nat) (a1 : Nat) (M : xv_M) (q : Unit × xv_M) (h : D_X5_copyFrom a0 a1 M = some q) : xv_Met l yX5_copyFrom wsX5_copyFrom rm_X5_copyFrom 0 0 false [xr a0, xr a1] M (xv_qV false q) := by
  refine xv_enter (cc := cX5_copyFrom) (nL := 2) (ret := none) rfl (by decide +kernel) (Nat.le_of_ble_eq_true rfl) h ?_
  intro Y hY0 hl hR hnL hfl hret hnm0
  have hY : xv_ok Y cX5_copyFrom wsX5_copyFrom RX5 := hY0
  have hin5 : ∀ w ∈ u_ws RX5 TX5 8, w ∈ wsX5_copyFrom := fun _ h => List.mem_cons_of_mem _ (List.mem_append_right _ h)
  unfold D_X5_copyFrom
  refine xv_mk (L' := [some (xr a0), some (xr a1)]) [true, true] rfl ?_
  refine xv_aload_n rfl rfl hY dX5_copyFrom_0 rfl ?_
  refine xv_aload_n rfl rfl hY dX5_copyFrom_1 rfl ?_
  refine xv_getI (ci := 5) (j := 0) hY dX5_copyFrom_2 rfl rfl rfl (by decide) hin5 (by decide) rfl (List.mem_of_getElem? (i := 1) rfl) (fun v1 => ?_)
  refine xv_putI (ci := 5) (j := 0) hY dX5_copyFrom_5 rfl rfl rfl (by decide) hin5 (by decide) rfl (List.mem_of_getElem? (i := 1) rfl) tyX5_ok nmX5 (Or.inl rfl) rfl (fun M2 => ?_)
  refine xv_aload_n rfl rfl hY dX5_copyFrom_8 rfl ?_
  refine xv_aload_n rfl rfl hY dX5_copyFrom_9 rfl ?_
  refine xv_getJ (ci := 5) (j := 1) hY dX5_copyFrom_10 rfl rfl rfl (by decide) hin5 (by decide) rfl (List.mem_of_getElem? (i := 2) rfl) (fun v3 => ?_)
  refine xv_putJ (ci := 5) (j := 1) hY dX5_copyFrom_13 rfl rfl rfl (by decide) hin5 (by decide) rfl (List.mem_of_getElem? (i := 2) rfl) tyX5_ok nmX5 (Or.inl rfl) rfl (fun M4 => ?_)
  refine xv_aload_n rfl rfl hY dX5_copyFrom_16 rfl ?_
  refine xv_getP (ci := 5) (j := 2) hY dX5_copyFrom_17 rfl rfl rfl (by decide) hin5 (by decide) rfl (List.mem_of_getElem? (i := 3) rfl) (fun v5 => ?_)
  refine xv_iconst hY dX5_copyFrom_20 rfl ?_
  refine xv_aload_n rfl rfl hY dX5_copyFrom_21 rfl ?_
  refine xv_getP (ci := 5) (j := 2) hY dX5_copyFrom_22 rfl rfl rfl (by decide) hin5 (by decide) rfl (List.mem_of_getElem? (i := 3) rfl) (fun v6 => ?_)
  refine xv_iconst hY dX5_copyFrom_25 rfl ?_
  refine xv_bipush (by decide) hY dX5_copyFrom_26 rfl ?_
  refine xv_copyI hY hfl dX5_copyFrom_28 rfl (by decide +kernel) (by decide +kernel) (by decide +kernel) (by decide +kernel) (by rw [hR]; exact Nat.le_of_ble_eq_true rfl) (by rw [hR]; exact Nat.le_of_ble_eq_true rfl) (fun M7 => ?_)
  refine xv_aload_n rfl rfl hY dX5_copyFrom_31 rfl ?_
  refine xv_getP (ci := 5) (j := 3) hY dX5_copyFrom_32 rfl rfl rfl (by decide) hin5 (by decide) rfl (List.mem_of_getElem? (i := 8) rfl) (fun v8 => ?_)
  refine xv_iconst hY dX5_copyFrom_35 rfl ?_
  refine xv_aload_n rfl rfl hY dX5_copyFrom_36 rfl ?_
  refine xv_getP (ci := 5) (j := 3) hY dX5_copyFrom_37 rfl rfl rfl (by decide) hin5 (by decide) rfl (List.mem_of_getElem? (i := 8) rfl) (fun v9 => ?_)
  refine xv_iconst hY dX5_copyFrom_40 rfl ?_
  refine xv_bipush (by decide) hY dX5_copyFrom_41 rfl ?_
  refine xv_copyI hY hfl dX5_copyFrom_43 rfl (by decide +kernel) (by decide +kernel) (by decide +kernel) (by decide +kernel) (by rw [hR]; exact Nat.le_of_ble_eq_true rfl) (by rw [hR]; exact Nat.le_of_ble_eq_true rfl) (fun M10 => ?_)
  refine xv_aload_n rfl rfl hY dX5_copyFrom_46 rfl ?_
  refine xv_getP (ci := 5) (j := 4) hY dX5_copyFrom_47 rfl rfl rfl (by decide) hin5 (by decide) rfl (List.mem_of_getElem? (i := 9) rfl) (fun v11 => ?_)
  refine xv_iconst hY dX5_copyFrom_50 rfl ?_
  refine xv_aload_n rfl rfl hY dX5_copyFrom_51 rfl ?_
  refine xv_getP (ci := 5) (j := 4) hY dX5_copyFrom_52 rfl rfl rfl (by decide) hin5 (by decide) rfl (List.mem_of_getElem? (i := 9) rfl) (fun v12 => ?_)
  refine xv_iconst hY dX5_copyFrom_55 rfl ?_
  refine xv_bipush (by decide) hY dX5_copyFrom_56 rfl ?_
  refine xv_copyI hY hfl dX5_copyFrom_58 rfl (by decide +kernel) (by decide +kernel) (by decide +kernel) (by decide +kernel) (by rw [hR]; exact Nat.le_of_ble_eq_true rfl) (by rw [hR]; exact Nat.le_of_ble_eq_true rfl) (fun M13 => ?_)
  refine xv_aload_n rfl rfl hY dX5_copyFrom_61 rfl ?_
  refine xv_getP (ci := 5) (j := 5) hY dX5_copyFrom_62 rfl rfl rfl (by decide) hin5 (by decide) rfl (List.mem_of_getElem? (i := 10) rfl) (fun v14 => ?_)
  refine xv_iconst hY dX5_copyFrom_65 rfl ?_
  refine xv_aload_n rfl rfl hY dX5_copyFrom_66 rfl ?_
  refine xv_getP (ci := 5) (j := 5) hY dX5_copyFrom_67 rfl rfl rfl (by decide) hin5 (by decide) rfl (List.mem_of_getElem? (i := 10) rfl) (fun v15 => ?_)
  refine xv_iconst hY dX5_copyFrom_70 rfl ?_
  refine xv_bipush (by decide) hY dX5_copyFrom_71 rfl ?_
  refine xv_copyI hY hfl dX5_copyFrom_73 rfl (by decide +kernel) (by decide +kernel) (by decide +kernel) (by decide +kernel) (by rw [hR]; exact Nat.le_of_ble_eq_true rfl) (by rw [hR]; exact Nat.le_of_ble_eq_true rfl) (fun M16 => ?_)
  refine xv_aload_n rfl rfl hY dX5_copyFrom_76 rfl ?_
  refine xv_getP (ci := 5) (j := 6) hY dX5_copyFrom_77 rfl rfl rfl (by decide) hin5 (by decide) rfl (List.mem_of_getElem? (i := 11) rfl) (fun v17 => ?_)
  refine xv_iconst hY dX5_copyFrom_80 rfl ?_
  refine xv_aload_n rfl rfl hY dX5_copyFrom_81 rfl ?_
  refine xv_getP (ci := 5) (j := 6) hY dX5_copyFrom_82 rfl rfl rfl (by decide) hin5 (by decide) rfl (List.mem_of_getElem? (i := 11) rfl) (fun v18 => ?_)
  refine xv_iconst hY dX5_copyFrom_85 rfl ?_
  refine xv_bipush (by decide) hY dX5_copyFrom_86 rfl ?_
  refine xv_copyI hY hfl dX5_copyFrom_88 rfl (by decide +kernel) (by decide +kernel) (by decide +kernel) (by decide +kernel) (by rw [hR]; exact Nat.le_of_ble_eq_true rfl) (by rw [hR]; exact Nat.le_of_ble_eq_true rfl) (fun M19 => ?_)
  refine xv_aload_n rfl rfl hY dX5_copyFrom_91 rfl ?_
  refine xv_getP (ci := 5) (j := 7) hY dX5_copyFrom_92 rfl rfl rfl (by decide) hin5 (by decide) rfl (List.mem_of_getElem? (i := 12) rfl) (fun v20 => ?_)
  refine xv_iconst hY dX5_copyFrom_95 rfl ?_
  refine xv_aload_n rfl rfl hY dX5_copyFrom_96 rfl ?_
  refine xv_getP (ci := 5) (j := 7) hY dX5_copyFrom_97 rfl rfl rfl (by decide) hin5 (by decide) rfl (List.mem_of_getElem? (i := 12) rfl) (fun v21 => ?_)
  refine xv_iconst hY dX5_copyFrom_100 rfl ?_
  refine xv_bipush (by decide) hY dX5_copyFrom_101 rfl ?_
  refine xv_copyI hY hfl dX5_copyFrom_103 rfl (by decide +kernel) (by decide +kernel) (by decide +kernel) (by decide +kernel) (by rw [hR]; exact Nat.le_of_ble_eq_true rfl) (by rw [hR]; exact Nat.le_of_ble_eq_true rfl) (fun M22 => ?_)
  exact xv_vretu hY hfl dX5_copyFrom_106 hret (Nat.le_of_ble_eq_true rfl) (Nat.le_of_ble_eq_true rfl)
set_option maxHeartbeats 4000000 in
set_option maxRecDepth 100000 in
theorem S_X9_copyFrom (l : Launch) (a0 : Nat) (a1 : Nat) (M : xv_M) (q : Unit × xv_M) (h : D_X9_copyFrom a0 a1 M = some q) : xv_Met l yX9_copyFrom wsX9_copyFrom rm_X9_copyFrom 0 0 false [xr a0, xr a1] M (xv_qV false q) := by
  refine xv_enter (cc := cX9_copyFrom) (nL := 3) (ret := none) rfl (by decide +kernel) (Nat.le_of_ble_eq_true rfl) h ?_
  intro Y hY0 hl hR hnL hfl hret hnm0
  have hY : xv_ok Y cX9_copyFrom wsX9_copyFrom RX9 := hY0
  have hin9 : ∀ w ∈ u_ws RX9 TX9 9, w ∈ wsX9_copyFrom := fun _ h => List.mem_cons_of_mem _ (List.mem_append_right _ h)
  unfold D_X9_copyFrom
  refine xv_mk (L' := [some (xr a0), some (xr a1), none]) [true, true, true] rfl ?_
  refine xv_aload_n rfl rfl hY dX9_copyFrom_0 rfl ?_
  refine xv_aload_n rfl rfl hY dX9_copyFrom_1 rfl ?_
  refine xv_getI (ci := 9) (j := 0) hY dX9_copyFrom_2 rfl rfl rfl (by decide) hin9 (by decide) rfl (List.mem_of_getElem? (i := 1) rfl) (fun v1 => ?_)
  refine xv_putI (ci := 9) (j := 0) hY dX9_copyFrom_5 rfl rfl rfl (by decide) hin9 (by decide) rfl (List.mem_of_getElem? (i := 1) rfl) tyX9_ok nmX9 (Or.inl rfl) rfl (fun M2 => ?_)
  refine xv_aload_n rfl rfl hY dX9_copyFrom_8 rfl ?_
  refine xv_getP (ci := 9) (j := 1) hY dX9_copyFrom_9 rfl rfl rfl (by decide) hin9 (by decide) rfl (List.mem_of_getElem? (i := 2) rfl) (fun v3 => ?_)
  refine xv_iconst hY dX9_copyFrom_12 rfl ?_
  refine xv_aload_n rfl rfl hY dX9_copyFrom_13 rfl ?_
  refine xv_getP (ci := 9) (j := 1) hY dX9_copyFrom_14 rfl rfl rfl (by decide) hin9 (by decide) rfl (List.mem_of_getElem? (i := 2) rfl) (fun v4 => ?_)
  refine xv_iconst hY dX9_copyFrom_17 rfl ?_
  refine xv_bipush (by decide) hY dX9_copyFrom_18 rfl ?_
  refine xv_copyI hY hfl dX9_copyFrom_20 rfl (by decide +kernel) (by decide +kernel) (by decide +kernel) (by decide +kernel) (by rw [hR]; exact Nat.le_of_ble_eq_true rfl) (by rw [hR]; exact Nat.le_of_ble_eq_true rfl) (fun M5 => ?_)
  refine xv_aload_n rfl rfl hY dX9_copyFrom_23 rfl ?_
  refine xv_getP (ci := 9) (j := 2) hY dX9_copyFrom_24 rfl rfl rfl (by decide) hin9 (by decide) rfl (List.mem_of_getElem? (i := 7) rfl) (fun v6 => ?_)
  refine xv_iconst hY dX9_copyFrom_27 rfl ?_
  refine xv_aload_n rfl rfl hY dX9_copyFrom_28 rfl ?_
  refine xv_getP (ci := 9) (j := 2) hY dX9_copyFrom_29 rfl rfl rfl (by decide) hin9 (by decide) rfl (List.mem_of_getElem? (i := 7) rfl) (fun v7 => ?_)
  refine xv_iconst hY dX9_copyFrom_32 rfl ?_
  refine xv_bipush (by decide) hY dX9_copyFrom_33 rfl ?_
  refine xv_copyI hY hfl dX9_copyFrom_35 rfl (by decide +kernel) (by decide +kernel) (by decide +kernel) (by decide +kernel) (by rw [hR]; exact Nat.le_of_ble_eq_true rfl) (by rw [hR]; exact Nat.le_of_ble_eq_true rfl) (fun M8 => ?_)
  refine xv_aload_n rfl rfl hY dX9_copyFrom_38 rfl ?_
  refine xv_getP (ci := 9) (j := 3) hY dX9_copyFrom_39 rfl rfl rfl (by decide) hin9 (by decide) rfl (List.mem_of_getElem? (i := 8) rfl) (fun v9 => ?_)
  refine xv_iconst hY dX9_copyFrom_42 rfl ?_
  refine xv_aload_n rfl rfl hY dX9_copyFrom_43 rfl ?_
  refine xv_getP (ci := 9) (j := 3) hY dX9_copyFrom_44 rfl rfl rfl (by decide) hin9 (by decide) rfl (List.mem_of_getElem? (i := 8) rfl) (fun v10 => ?_)
  refine xv_iconst hY dX9_copyFrom_47 rfl ?_
  refine xv_bipush (by decide) hY dX9_copyFrom_48 rfl ?_
  refine xv_copyJ hY hfl dX9_copyFrom_50 rfl (by decide +kernel) (by decide +kernel) (by decide +kernel) (by decide +kernel) (by rw [hR]; exact Nat.le_of_ble_eq_true rfl) (by rw [hR]; exact Nat.le_of_ble_eq_true rfl) (fun M11 => ?_)
  refine xv_aload_n rfl rfl hY dX9_copyFrom_53 rfl ?_
  refine xv_getP (ci := 9) (j := 4) hY dX9_copyFrom_54 rfl rfl rfl (by decide) hin9 (by decide) rfl (List.mem_of_getElem? (i := 9) rfl) (fun v12 => ?_)
  refine xv_iconst hY dX9_copyFrom_57 rfl ?_
  refine xv_aload_n rfl rfl hY dX9_copyFrom_58 rfl ?_
  refine xv_getP (ci := 9) (j := 4) hY dX9_copyFrom_59 rfl rfl rfl (by decide) hin9 (by decide) rfl (List.mem_of_getElem? (i := 9) rfl) (fun v13 => ?_)
  refine xv_iconst hY dX9_copyFrom_62 rfl ?_
  refine xv_bipush (by decide) hY dX9_copyFrom_63 rfl ?_
  refine xv_copyI hY hfl dX9_copyFrom_65 rfl (by decide +kernel) (by decide +kernel) (by decide +kernel) (by decide +kernel) (by rw [hR]; exact Nat.le_of_ble_eq_true rfl) (by rw [hR]; exact Nat.le_of_ble_eq_true rfl) (fun M14 => ?_)
  refine xv_aload_n rfl rfl hY dX9_copyFrom_68 rfl ?_
  refine xv_getP (ci := 9) (j := 5) hY dX9_copyFrom_69 rfl rfl rfl (by decide) hin9 (by decide) rfl (List.mem_of_getElem? (i := 10) rfl) (fun v15 => ?_)
  refine xv_iconst hY dX9_copyFrom_72 rfl ?_
  refine xv_aload_n rfl rfl hY dX9_copyFrom_73 rfl ?_
  refine xv_getP (ci := 9) (j := 5) hY dX9_copyFrom_74 rfl rfl rfl (by decide) hin9 (by decide) rfl (List.mem_of_getElem? (i := 10) rfl) (fun v16 => ?_)
  refine xv_iconst hY dX9_copyFrom_77 rfl ?_
  refine xv_bipush (by decide) hY dX9_copyFrom_78 rfl ?_
  refine xv_copyI hY hfl dX9_copyFrom_80 rfl (by decide +kernel) (by decide +kernel) (by decide +kernel) (by decide +kernel) (by rw [hR]; exact Nat.le_of_ble_eq_true rfl) (by rw [hR]; exact Nat.le_of_ble_eq_true rfl) (fun M17 => ?_)
  refine xv_aload_n rfl rfl hY dX9_copyFrom_83 rfl ?_
  refine xv_getP (ci := 9) (j := 6) hY dX9_copyFrom_84 rfl rfl rfl (by decide) hin9 (by decide) rfl (List.mem_of_getElem? (i := 11) rfl) (fun v18 => ?_)
  refine xv_iconst hY dX9_copyFrom_87 rfl ?_
  refine xv_aload_n rfl rfl hY dX9_copyFrom_88 rfl ?_
  refine xv_getP (ci := 9) (j := 6) hY dX9_copyFrom_89 rfl rfl rfl (by decide) hin9 (by decide) rfl (List.mem_of_getElem? (i := 11) rfl) (fun v19 => ?_)
  refine xv_iconst hY dX9_copyFrom_92 rfl ?_
  refine xv_bipush (by decide) hY dX9_copyFrom_93 rfl ?_
  refine xv_copyI hY hfl dX9_copyFrom_95 rfl (by decide +kernel) (by decide +kernel) (by decide +kernel) (by decide +kernel) (by rw [hR]; exact Nat.le_of_ble_eq_true rfl) (by rw [hR]; exact Nat.le_of_ble_eq_true rfl) (fun M20 => ?_)
  refine xv_aload_n rfl rfl hY dX9_copyFrom_98 rfl ?_
  refine xv_getP (ci := 9) (j := 7) hY dX9_copyFrom_99 rfl rfl rfl (by decide) hin9 (by decide) rfl (List.mem_of_getElem? (i := 12) rfl) (fun v21 => ?_)
  refine xv_iconst hY dX9_copyFrom_102 rfl ?_
  refine xv_aload_n rfl rfl hY dX9_copyFrom_103 rfl ?_
  refine xv_getP (ci := 9) (j := 7) hY dX9_copyFrom_104 rfl rfl rfl (by decide) hin9 (by decide) rfl (List.mem_of_getElem? (i := 12) rfl) (fun v22 => ?_)
  refine xv_iconst hY dX9_copyFrom_107 rfl ?_
  refine xv_bipush (by decide) hY dX9_copyFrom_108 rfl ?_
  refine xv_copyI hY hfl dX9_copyFrom_110 rfl (by decide +kernel) (by decide +kernel) (by decide +kernel) (by decide +kernel) (by rw [hR]; exact Nat.le_of_ble_eq_true rfl) (by rw [hR]; exact Nat.le_of_ble_eq_true rfl) (fun M23 => ?_)
  refine xv_iconst hY dX9_copyFrom_113 rfl ?_
  refine xv_istore_n (L' := [some (xr a0), some (xr a1), some (xi (0 : Int))]) hY dX9_copyFrom_114 rfl rfl (by rw [hnL]; decide) rfl rfl ?_
  refine xv_mk (L' := [some (xr a0), some (xr a1), some (xi (0 : Int))]) [true, true, true] rfl ?_
  refine xv_loop (σ := Int × xv_M) (fun x24 => [some (xr a0), some (xr a1), some (xi x24.1)]) (fun x24 => x24.2) (fun f25 hf25 x24 => ?_) xv_fuel ((0 : Int), M23)
  refine xv_iload_n rfl rfl hY dX9_copyFrom_115 rfl ?_
  refine xv_bipush (by decide) hY dX9_copyFrom_116 rfl ?_
  refine xv_icmp_ge (t := 146) hY dX9_copyFrom_118 (by decide) rfl ?_ ?_
  · exact xv_vretu hY hfl dX9_copyFrom_146 hret (Nat.le_of_ble_eq_true rfl) (Nat.le_of_ble_eq_true rfl)
  · refine xv_aload_n rfl rfl hY dX9_copyFrom_121 rfl ?_
    refine xv_getP (ci := 9) (j := 8) hY dX9_copyFrom_122 rfl rfl rfl (by decide) hin9 (by decide) rfl (List.mem_of_getElem? (i := 13) rfl) (fun v26 => ?_)
    refine xv_iload_n rfl rfl hY dX9_copyFrom_125 rfl ?_
    refine xv_aaldI hY dX9_copyFrom_126 rfl (fun v27 => ?_)
    refine xv_iconst hY dX9_copyFrom_127 rfl ?_
    refine xv_aload_n rfl rfl hY dX9_copyFrom_128 rfl ?_
    refine xv_getP (ci := 9) (j := 8) hY dX9_copyFrom_129 rfl rfl rfl (by decide) hin9 (by decide) rfl (List.mem_of_getElem? (i := 13) rfl) (fun v28 => ?_)
    refine xv_iload_n rfl rfl hY dX9_copyFrom_132 rfl ?_
    refine xv_aaldI hY dX9_copyFrom_133 rfl (fun v29 => ?_)
    refine xv_iconst hY dX9_copyFrom_134 rfl ?_
    refine xv_bipush (by decide) hY dX9_copyFrom_135 rfl ?_
    refine xv_copyI hY hfl dX9_copyFrom_137 rfl (by decide +kernel) (by decide +kernel) (by decide +kernel) (by decide +kernel) (by rw [hR]; exact Nat.le_of_ble_eq_true rfl) (by rw [hR]; exact Nat.le_of_ble_eq_true rfl) (fun M30 => ?_)
    refine xv_iinc (L' := [some (xr a0), some (xr a1), some (xi (x24.1 + 1))]) hY dX9_copyFrom_140 rfl (by rw [hnL]; decide) rfl rfl rfl ?_
    refine xv_goto (pc' := 115) hY dX9_copyFrom_143 (by decide) ?_
    exact xv_mk (L' := [some (xr a0), some (xr a1), some (xi (x24.1 + 1))]) [true, true, true] rfl (hf25 ((x24.1 + 1), M30))
set_option maxHeartbeats 4000000 in
set_option maxRecDepth 100000 in
theorem S_X3_copyFrom (l : Launch) (a0 : Nat) (a1 : Nat) (M : xv_M) (q : Unit × xv_M) (h : D_X3_copyFrom a0 a1 M = some q) : xv_Met l yX3_copyFrom wsX3_copyFrom rm_X3_copyFrom 0 0 false [xr a0, xr a1] M (xv_qV false q) := by
  refine xv_enter (cc := cX3_copyFrom) (nL := 2) (ret := none) rfl (by decide +kernel) (Nat.le_of_ble_eq_true rfl) h ?_
  intro Y hY0 hl hR hnL hfl hret hnm0
  have hY : xv_ok Y cX3_copyFrom wsX3_copyFrom RX3 := hY0
  have hin3 : ∀ w ∈ u_ws RX3 TX3 6, w ∈ wsX3_copyFrom := fun _ h => List.mem_cons_of_mem _ (List.mem_append_right _ h)
  unfold D_X3_copyFrom
  refine xv_mk (L' := [some (xr a0), some (xr a1)]) [true, true] rfl ?_
  refine xv_aload_n rfl rfl hY dX3_copyFrom_0 rfl ?_
  refine xv_aload_n rfl rfl hY dX3_copyFrom_1 rfl ?_
  refine xv_getI (ci := 3) (j := 0) hY dX3_copyFrom_2 rfl rfl rfl (by decide) hin3 (by decide) rfl (List.mem_of_getElem? (i := 1) rfl) (fun v1 => ?_)
  refine xv_putI (ci := 3) (j := 0) hY dX3_copyFrom_5 rfl rfl rfl (by decide) hin3 (by decide) rfl (List.mem_of_getElem? (i := 1) rfl) tyX3_ok nmX3 (Or.inl rfl) rfl (fun M2 => ?_)
  refine xv_aload_n rfl rfl hY dX3_copyFrom_8 rfl ?_
  refine xv_aload_n rfl rfl hY dX3_copyFrom_9 rfl ?_
  refine xv_getI (ci := 3) (j := 1) hY dX3_copyFrom_10 rfl rfl rfl (by decide) hin3 (by decide) rfl (List.mem_of_getElem? (i := 2) rfl) (fun v3 => ?_)
  refine xv_putI (ci := 3) (j := 1) hY dX3_copyFrom_13 rfl rfl rfl (by decide) hin3 (by decide) rfl (List.mem_of_getElem? (i := 2) rfl) tyX3_ok nmX3 (Or.inl rfl) rfl (fun M4 => ?_)
  refine xv_aload_n rfl rfl hY dX3_copyFrom_16 rfl ?_
  refine xv_getP (ci := 3) (j := 2) hY dX3_copyFrom_17 rfl rfl rfl (by decide) hin3 (by decide) rfl (List.mem_of_getElem? (i := 3) rfl) (fun v5 => ?_)
  refine xv_iconst hY dX3_copyFrom_20 rfl ?_
  refine xv_aload_n rfl rfl hY dX3_copyFrom_21 rfl ?_
  refine xv_getP (ci := 3) (j := 2) hY dX3_copyFrom_22 rfl rfl rfl (by decide) hin3 (by decide) rfl (List.mem_of_getElem? (i := 3) rfl) (fun v6 => ?_)
  refine xv_iconst hY dX3_copyFrom_25 rfl ?_
  refine xv_bipush (by decide) hY dX3_copyFrom_26 rfl ?_
  refine xv_copyI hY hfl dX3_copyFrom_28 rfl (by decide +kernel) (by decide +kernel) (by decide +kernel) (by decide +kernel) (by rw [hR]; exact Nat.le_of_ble_eq_true rfl) (by rw [hR]; exact Nat.le_of_ble_eq_true rfl) (fun M7 => ?_)
  refine xv_aload_n rfl rfl hY dX3_copyFrom_31 rfl ?_
  refine xv_getP (ci := 3) (j := 3) hY dX3_copyFrom_32 rfl rfl rfl (by decide) hin3 (by decide) rfl (List.mem_of_getElem? (i := 8) rfl) (fun v8 => ?_)
  refine xv_iconst hY dX3_copyFrom_35 rfl ?_
  refine xv_aload_n rfl rfl hY dX3_copyFrom_36 rfl ?_
  refine xv_getP (ci := 3) (j := 3) hY dX3_copyFrom_37 rfl rfl rfl (by decide) hin3 (by decide) rfl (List.mem_of_getElem? (i := 8) rfl) (fun v9 => ?_)
  refine xv_iconst hY dX3_copyFrom_40 rfl ?_
  refine xv_bipush (by decide) hY dX3_copyFrom_41 rfl ?_
  refine xv_copyI hY hfl dX3_copyFrom_43 rfl (by decide +kernel) (by decide +kernel) (by decide +kernel) (by decide +kernel) (by rw [hR]; exact Nat.le_of_ble_eq_true rfl) (by rw [hR]; exact Nat.le_of_ble_eq_true rfl) (fun M10 => ?_)
  refine xv_aload_n rfl rfl hY dX3_copyFrom_46 rfl ?_
  refine xv_getP (ci := 3) (j := 4) hY dX3_copyFrom_47 rfl rfl rfl (by decide) hin3 (by decide) rfl (List.mem_of_getElem? (i := 9) rfl) (fun v11 => ?_)
  refine xv_iconst hY dX3_copyFrom_50 rfl ?_
  refine xv_aload_n rfl rfl hY dX3_copyFrom_51 rfl ?_
  refine xv_getP (ci := 3) (j := 4) hY dX3_copyFrom_52 rfl rfl rfl (by decide) hin3 (by decide) rfl (List.mem_of_getElem? (i := 9) rfl) (fun v12 => ?_)
  refine xv_iconst hY dX3_copyFrom_55 rfl ?_
  refine xv_bipush (by decide) hY dX3_copyFrom_56 rfl ?_
  refine xv_copyI hY hfl dX3_copyFrom_58 rfl (by decide +kernel) (by decide +kernel) (by decide +kernel) (by decide +kernel) (by rw [hR]; exact Nat.le_of_ble_eq_true rfl) (by rw [hR]; exact Nat.le_of_ble_eq_true rfl) (fun M13 => ?_)
  refine xv_aload_n rfl rfl hY dX3_copyFrom_61 rfl ?_
  refine xv_getP (ci := 3) (j := 5) hY dX3_copyFrom_62 rfl rfl rfl (by decide) hin3 (by decide) rfl (List.mem_of_getElem? (i := 10) rfl) (fun v14 => ?_)
  refine xv_iconst hY dX3_copyFrom_65 rfl ?_
  refine xv_aload_n rfl rfl hY dX3_copyFrom_66 rfl ?_
  refine xv_getP (ci := 3) (j := 5) hY dX3_copyFrom_67 rfl rfl rfl (by decide) hin3 (by decide) rfl (List.mem_of_getElem? (i := 10) rfl) (fun v15 => ?_)
  refine xv_iconst hY dX3_copyFrom_70 rfl ?_
  refine xv_bipush (by decide) hY dX3_copyFrom_71 rfl ?_
  refine xv_copyI hY hfl dX3_copyFrom_73 rfl (by decide +kernel) (by decide +kernel) (by decide +kernel) (by decide +kernel) (by rw [hR]; exact Nat.le_of_ble_eq_true rfl) (by rw [hR]; exact Nat.le_of_ble_eq_true rfl) (fun M16 => ?_)
  exact xv_vretu hY hfl dX3_copyFrom_76 hret (Nat.le_of_ble_eq_true rfl) (Nat.le_of_ble_eq_true rfl)
set_option maxHeartbeats 4000000 in
set_option maxRecDepth 100000 in
theorem S_X6_copyFrom (l : Launch) (a0 : Nat) (a1 : Nat) (M : xv_M) (q : Unit × xv_M) (h : D_X6_copyFrom a0 a1 M = some q) : xv_Met l yX6_copyFrom wsX6_copyFrom rm_X6_copyFrom 0 0 false [xr a0, xr a1] M (xv_qV false q) := by
  refine xv_enter (cc := cX6_copyFrom) (nL := 2) (ret := none) rfl (by decide +kernel) (Nat.le_of_ble_eq_true rfl) h ?_
  intro Y hY0 hl hR hnL hfl hret hnm0
  have hY : xv_ok Y cX6_copyFrom wsX6_copyFrom RX6 := hY0
  have hin6 : ∀ w ∈ u_ws RX6 TX6 4, w ∈ wsX6_copyFrom := fun _ h => List.mem_cons_of_mem _ (List.mem_append_left _ (List.mem_append_left _ (List.mem_append_left _ (List.mem_append_right _ h))))
  unfold D_X6_copyFrom
  refine xv_mk (L' := [some (xr a0), some (xr a1)]) [true, true] rfl ?_
  refine xv_aload_n rfl rfl hY dX6_copyFrom_0 rfl ?_
  refine xv_aload_n rfl rfl hY dX6_copyFrom_1 rfl ?_
  refine xv_getI (ci := 6) (j := 0) hY dX6_copyFrom_2 rfl rfl rfl (by decide) hin6 (by decide) rfl (List.mem_of_getElem? (i := 1) rfl) (fun v1 => ?_)
  refine xv_putI (ci := 6) (j := 0) hY dX6_copyFrom_5 rfl rfl rfl (by decide) hin6 (by decide) rfl (List.mem_of_getElem? (i := 1) rfl) tyX6_ok nmX6 (Or.inl rfl) rfl (fun M2 => ?_)
  refine xv_aload_n rfl rfl hY dX6_copyFrom_8 rfl ?_
  refine xv_getP (ci := 6) (j := 1) hY dX6_copyFrom_9 rfl rfl rfl (by decide) hin6 (by decide) rfl (List.mem_of_getElem? (i := 2) rfl) (fun v3 => ?_)
  refine xv_aload_n rfl rfl hY dX6_copyFrom_12 rfl ?_
  refine xv_getP (ci := 6) (j := 1) hY dX6_copyFrom_13 rfl rfl rfl (by decide) hin6 (by decide) rfl (List.mem_of_getElem? (i := 2) rfl) (fun v4 => ?_)
  refine xv_callVV (ci := 5) (y := yX5_copyFrom) (ws := wsX5_copyFrom) (rm := rm_X5_copyFrom) (mc := 0) (ms := 0) (n := 1) (av := [xr v4]) hY dX6_copyFrom_16 rfl rfl rfl (by decide) (fun q hq => by rw [hfl]; exact S_X5_copyFrom Y.1.2.1 v3 v4 M2 q hq) (cwV 1 hY.2.2.2.2.1 gX6_copyFrom_X5_copyFrom rfl rfl rfl (by decide +kernel) ⟨(by rw [hR]; exact Nat.le_of_ble_eq_true rfl), (by rw [hR]; exact Nat.le_of_ble_eq_true rfl)⟩) rfl (Nat.le_of_ble_eq_true rfl) ⟨(by rw [hR]; exact Nat.le_of_ble_eq_true rfl), (by rw [hR]; exact Nat.le_of_ble_eq_true rfl)⟩ (fun _ M5 => ?_)
  refine xv_aload_n rfl rfl hY dX6_copyFrom_19 rfl ?_
  refine xv_getP (ci := 6) (j := 2) hY dX6_copyFrom_20 rfl rfl rfl (by decide) hin6 (by decide) rfl (List.mem_of_getElem? (i := 3) rfl) (fun v6 => ?_)
  refine xv_aload_n rfl rfl hY dX6_copyFrom_23 rfl ?_
  refine xv_getP (ci := 6) (j := 2) hY dX6_copyFrom_24 rfl rfl rfl (by decide) hin6 (by decide) rfl (List.mem_of_getElem? (i := 3) rfl) (fun v7 => ?_)
  refine xv_callVV (ci := 9) (y := yX9_copyFrom) (ws := wsX9_copyFrom) (rm := rm_X9_copyFrom) (mc := 0) (ms := 0) (n := 1) (av := [xr v7]) hY dX6_copyFrom_27 rfl rfl rfl (by decide) (fun q hq => by rw [hfl]; exact S_X9_copyFrom Y.1.2.1 v6 v7 M5 q hq) (cwV 1 hY.2.2.2.2.1 gX6_copyFrom_X9_copyFrom rfl rfl rfl (by decide +kernel) ⟨(by rw [hR]; exact Nat.le_of_ble_eq_true rfl), (by rw [hR]; exact Nat.le_of_ble_eq_true rfl)⟩) rfl (Nat.le_of_ble_eq_true rfl) ⟨(by rw [hR]; exact Nat.le_of_ble_eq_true rfl), (by rw [hR]; exact Nat.le_of_ble_eq_true rfl)⟩ (fun _ M8 => ?_)
  refine xv_aload_n rfl rfl hY dX6_copyFrom_30 rfl ?_
  refine xv_getP (ci := 6) (j := 3) hY dX6_copyFrom_31 rfl rfl rfl (by decide) hin6 (by decide) rfl (List.mem_of_getElem? (i := 4) rfl) (fun v9 => ?_)
  refine xv_aload_n rfl rfl hY dX6_copyFrom_34 rfl ?_
  refine xv_getP (ci := 6) (j := 3) hY dX6_copyFrom_35 rfl rfl rfl (by decide) hin6 (by decide) rfl (List.mem_of_getElem? (i := 4) rfl) (fun v10 => ?_)
  refine xv_callVV (ci := 3) (y := yX3_copyFrom) (ws := wsX3_copyFrom) (rm := rm_X3_copyFrom) (mc := 0) (ms := 0) (n := 1) (av := [xr v10]) hY dX6_copyFrom_38 rfl rfl rfl (by decide) (fun q hq => by rw [hfl]; exact S_X3_copyFrom Y.1.2.1 v9 v10 M8 q hq) (cwV 1 hY.2.2.2.2.1 gX6_copyFrom_X3_copyFrom rfl rfl rfl (by decide +kernel) ⟨(by rw [hR]; exact Nat.le_of_ble_eq_true rfl), (by rw [hR]; exact Nat.le_of_ble_eq_true rfl)⟩) rfl (Nat.le_of_ble_eq_true rfl) ⟨(by rw [hR]; exact Nat.le_of_ble_eq_true rfl), (by rw [hR]; exact Nat.le_of_ble_eq_true rfl)⟩ (fun _ M11 => ?_)
  exact xv_vretu hY hfl dX6_copyFrom_41 hret (Nat.le_of_ble_eq_true rfl) (Nat.le_of_ble_eq_true rfl)
set_option maxHeartbeats 4000000 in
set_option maxRecDepth 100000 in
theorem S_X1_record (l : Launch) (a0 : Nat) (a1 : Nat) (M : xv_M) (q : Unit × xv_M) (h : D_X1_record a0 a1 M = some q) : xv_Met l yX1_record wsX1_record rm_X1_record 0 0 false [xr a0, xr a1] M (xv_qV false q) := by
  refine xv_enter (cc := cX1_record) (nL := 3) (ret := none) rfl (by decide +kernel) (Nat.le_of_ble_eq_true rfl) h ?_
  intro Y hY0 hl hR hnL hfl hret hnm0
  have hY : xv_ok Y cX1_record wsX1_record RX1 := hY0
  have hin1 : ∀ w ∈ u_ws RX1 TX1 2, w ∈ wsX1_record := fun _ h => List.mem_cons_of_mem _ (List.mem_append_left _ (List.mem_append_left _ (List.mem_append_left _ (List.mem_append_left _ (List.mem_append_right _ h)))))
  unfold D_X1_record
  refine xv_mk (L' := [some (xr a0), some (xr a1), none]) [true, true, true] rfl ?_
  refine xv_aload_n rfl rfl hY dX1_record_0 rfl ?_
  refine xv_getI (ci := 1) (j := 0) hY dX1_record_1 rfl rfl rfl (by decide) hin1 (by decide) rfl (List.mem_of_getElem? (i := 1) rfl) (fun v1 => ?_)
  refine xv_iconst hY dX1_record_4 rfl ?_
  refine xv_join (α := xv_M) 12 (fun x2 => [some (xr a0), some (xr a1), none]) (fun x2 => []) (fun x2 => x2) (fun x2 => ?_) (fun j3 hj3 => ?_)
  · refine xv_aload_n rfl rfl hY dX1_record_12 rfl ?_
    refine xv_getP (ci := 1) (j := 1) hY dX1_record_13 rfl rfl rfl (by decide) hin1 (by decide) rfl (List.mem_of_getElem? (i := 2) rfl) (fun v4 => ?_)
    refine xv_aload_n rfl rfl hY dX1_record_16 rfl ?_
    refine xv_getI (ci := 1) (j := 0) hY dX1_record_17 rfl rfl rfl (by decide) hin1 (by decide) rfl (List.mem_of_getElem? (i := 1) rfl) (fun v5 => ?_)
    refine xv_aaldS hY dX1_record_20 rfl (fun v6 => ?_)
    refine xv_astore_n (L' := [some (xr a0), some (xr a1), some (xr v6)]) hY dX1_record_21 rfl rfl (by rw [hnL]; decide) rfl rfl ?_
    refine xv_aload_n rfl rfl hY dX1_record_22 rfl ?_
    refine xv_ifnull (t := 41) hY dX1_record_23 (by decide) rfl ?_ ?_
    · exact xv_vretu hY hfl dX1_record_41 hret (Nat.le_of_ble_eq_true rfl) (Nat.le_of_ble_eq_true rfl)
    · refine xv_aload_n rfl rfl hY dX1_record_26 rfl ?_
      refine xv_aload_n rfl rfl hY dX1_record_27 rfl ?_
      refine xv_callVV (ci := 6) (y := yX6_copyFrom) (ws := wsX6_copyFrom) (rm := rm_X6_copyFrom) (mc := 0) (ms := 0) (n := 1) (av := [xr a1]) hY dX1_record_28 rfl rfl rfl (by decide) (fun q hq => by rw [hfl]; exact S_X6_copyFrom Y.1.2.1 v6 a1 x2 q hq) (cwV 1 hY.2.2.2.2.1 gX1_record_X6_copyFrom rfl rfl rfl (by decide +kernel) ⟨(by rw [hR]; exact Nat.le_of_ble_eq_true rfl), (by rw [hR]; exact Nat.le_of_ble_eq_true rfl)⟩) rfl (Nat.le_of_ble_eq_true rfl) ⟨(by rw [hR]; exact Nat.le_of_ble_eq_true rfl), (by rw [hR]; exact Nat.le_of_ble_eq_true rfl)⟩ (fun _ M7 => ?_)
      refine xv_aload_n rfl rfl hY dX1_record_31 rfl ?_
      refine xv_dupr hY dX1_record_32 rfl ?_
      refine xv_getI (ci := 1) (j := 0) hY dX1_record_33 rfl rfl rfl (by decide) hin1 (by decide) rfl (List.mem_of_getElem? (i := 1) rfl) (fun v8 => ?_)
      refine xv_iconst hY dX1_record_36 rfl ?_
      refine xv_iadd hY dX1_record_37 rfl ?_
      refine xv_putI (ci := 1) (j := 0) hY dX1_record_38 rfl rfl rfl (by decide) hin1 (by decide) rfl (List.mem_of_getElem? (i := 1) rfl) tyX1_ok nmX1 (Or.inl rfl) rfl (fun M9 => ?_)
      exact xv_vretu hY hfl dX1_record_41 hret (Nat.le_of_ble_eq_true rfl) (Nat.le_of_ble_eq_true rfl)
  · refine xv_icmp_lt (t := 12) hY dX1_record_5 (by decide) rfl ?_ ?_
    · exact xv_mk (L' := [some (xr a0), some (xr a1), none]) [true, true, false] rfl (hj3 M)
    · refine xv_aload_n rfl rfl hY dX1_record_8 rfl ?_
      refine xv_callVV (ci := 1) (y := yX1_dropOldest) (ws := wsX1_dropOldest) (rm := rm_X1_dropOldest) (mc := 0) (ms := 0) (n := 0) (av := []) hY dX1_record_9 rfl rfl rfl (by decide) (fun q hq => by rw [hfl]; exact S_X1_dropOldest Y.1.2.1 a0 M q hq) (cwV 0 hY.2.2.2.2.1 gX1_record_X1_dropOldest rfl rfl rfl (by decide +kernel) ⟨(by rw [hR]; exact Nat.le_of_ble_eq_true rfl), (by rw [hR]; exact Nat.le_of_ble_eq_true rfl)⟩) rfl (Nat.le_of_ble_eq_true rfl) ⟨(by rw [hR]; exact Nat.le_of_ble_eq_true rfl), (by rw [hR]; exact Nat.le_of_ble_eq_true rfl)⟩ (fun _ M10 => ?_)
      exact xv_mk (L' := [some (xr a0), some (xr a1), none]) [true, true, false] rfl (hj3 M10)
