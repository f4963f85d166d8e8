set_option maxHeartbeats 4000000 in
set_option maxRecDepth 100000 in
theorem S_X11_free (l : Launch) (a0 : Nat) (a1 : Int) (a2 : Int) (M : xv_M) (q : Int × xv_M) (h : D_X11_free a0 a1 a2 M = some q) : xv_Met l yX11_free wsX11_free rm_X11_free 0 0 false [xr a0, xi a1, xi a2] M (xv_qI false q) := by
  refine xv_enter (cc := cX11_free) (nL := 3) (ret := (some .int)) rfl (by decide +kernel) (Nat.le_of_ble_eq_true rfl) h ?_
  intro Y hY0 hl hR hnL hfl hret hnm0
  have hY : xv_ok Y cX11_free wsX11_free RX11 := hY0
  have hin2 : ∀ w ∈ u_ws RX2 TX2 3, w ∈ wsX11_free := fun _ h => List.mem_cons_of_mem _ (List.mem_append_left _ (List.mem_append_right _ h))
  have hin11 : ∀ w ∈ u_ws RX11 TX11 6, w ∈ wsX11_free := fun _ h => List.mem_cons_of_mem _ (List.mem_append_left _ (List.mem_append_left _ (List.mem_append_right _ h)))
  unfold D_X11_free
  refine xv_mk (L' := [some (xr a0), some (xi a1), some (xi a2)]) [true, true, true] rfl ?_
  refine xv_iload_n rfl rfl hY dX11_free_0 rfl ?_
  refine xv_callSI (y := yX11_isPlace) (ws := wsX11_isPlace) (rm := rm_X11_isPlace) (mc := 0) (ms := 0) (n := 1) (av := [xi a1]) hY dX11_free_1 rfl rfl (fun q hq => by rw [hfl]; exact S_X11_isPlace Y.1.2.1 a1 M q hq) (va_cwS 1 hY.2.2.2.2.1 gX11_free_X11_isPlace rfl rfl rfl (by decide +kernel) ⟨(by rw [hR]; exact Nat.le_of_ble_eq_true rfl), (by rw [hR]; exact Nat.le_of_ble_eq_true rfl)⟩) rfl (Nat.le_of_ble_eq_true rfl) ⟨(by rw [hR]; exact Nat.le_of_ble_eq_true rfl), (by rw [hR]; exact Nat.le_of_ble_eq_true rfl)⟩ (fun z2 M1 => ?_)
  refine xv_if_ne (t := 10) hY dX11_free_4 (by decide) rfl ?_ ?_
  · refine xv_iload_n rfl rfl hY dX11_free_10 rfl ?_
    refine xv_if_eq (t := 28) hY dX11_free_11 (by decide) rfl ?_ ?_
    · refine xv_aload_n rfl rfl hY dX11_free_28 rfl ?_
      refine xv_getP (ci := 11) (j := 0) hY dX11_free_29 rfl rfl rfl (by decide) hin11 (by decide) rfl (List.mem_of_getElem? (i := 1) rfl) (fun v3 => ?_)
      refine xv_getP (ci := 2) (j := 1) hY dX11_free_32 rfl rfl rfl (by decide) hin2 (by decide) rfl (List.mem_of_getElem? (i := 2) rfl) (fun v4 => ?_)
      refine xv_iload_n rfl rfl hY dX11_free_35 rfl ?_
      refine xv_callVI (ci := 0) (y := yX0_freeToTheLeft) (ws := wsX0_freeToTheLeft) (rm := rm_X0_freeToTheLeft) (mc := 0) (ms := 0) (n := 1) (av := [xi a1]) hY dX11_free_36 rfl rfl rfl (by decide) (fun q hq => by rw [hfl]; exact S_X0_freeToTheLeft Y.1.2.1 v4 a1 M1 q hq) (cwV 1 hY.2.2.2.2.1 gX11_free_X0_freeToTheLeft rfl rfl rfl (by decide +kernel) ⟨(by rw [hR]; exact Nat.le_of_ble_eq_true rfl), (by rw [hR]; exact Nat.le_of_ble_eq_true rfl)⟩) rfl (Nat.le_of_ble_eq_true rfl) ⟨(by rw [hR]; exact Nat.le_of_ble_eq_true rfl), (by rw [hR]; exact Nat.le_of_ble_eq_true rfl)⟩ (fun z6 M5 => ?_)
      exact xv_ireti hY hfl dX11_free_39 hret (Nat.le_of_ble_eq_true rfl) (Nat.le_of_ble_eq_true rfl)
    · refine xv_aload_n rfl rfl hY dX11_free_14 rfl ?_
      refine xv_getP (ci := 11) (j := 0) hY dX11_free_15 rfl rfl rfl (by decide) hin11 (by decide) rfl (List.mem_of_getElem? (i := 1) rfl) (fun v7 => ?_)
      refine xv_getP (ci := 2) (j := 1) hY dX11_free_18 rfl rfl rfl (by decide) hin2 (by decide) rfl (List.mem_of_getElem? (i := 2) rfl) (fun v8 => ?_)
      refine xv_iload_n rfl rfl hY dX11_free_21 rfl ?_
      refine xv_callVI (ci := 0) (y := yX0_freeToTheRight) (ws := wsX0_freeToTheRight) (rm := rm_X0_freeToTheRight) (mc := 0) (ms := 0) (n := 1) (av := [xi a1]) hY dX11_free_22 rfl rfl rfl (by decide) (fun q hq => by rw [hfl]; exact S_X0_freeToTheRight Y.1.2.1 v8 a1 M1 q hq) (cwV 1 hY.2.2.2.2.1 gX11_free_X0_freeToTheRight rfl rfl rfl (by decide +kernel) ⟨(by rw [hR]; exact Nat.le_of_ble_eq_true rfl), (by rw [hR]; exact Nat.le_of_ble_eq_true rfl)⟩) rfl (Nat.le_of_ble_eq_true rfl) ⟨(by rw [hR]; exact Nat.le_of_ble_eq_true rfl), (by rw [hR]; exact Nat.le_of_ble_eq_true rfl)⟩ (fun z10 M9 => ?_)
      refine xv_goto (pc' := 39) hY dX11_free_25 (by decide) ?_
      exact xv_ireti hY hfl dX11_free_39 hret (Nat.le_of_ble_eq_true rfl) (Nat.le_of_ble_eq_true rfl)
  · refine xv_bipush (by decide) hY dX11_free_7 rfl ?_
    exact xv_ireti hY hfl dX11_free_9 hret (Nat.le_of_ble_eq_true rfl) (Nat.le_of_ble_eq_true rfl)
set_option maxHeartbeats 4000000 in
set_option maxRecDepth 100000 in
theorem S_X11_most (l : Launch) (a0 : Nat) (a1 : Int) (M : xv_M) (q : Int × xv_M) (h : D_X11_most a0 a1 M = some q) : xv_Met l yX11_most wsX11_most rm_X11_most 0 0 false [xr a0, xi a1] M (xv_qI false q) := by
  refine xv_enter (cc := cX11_most) (nL := 2) (ret := (some .int)) rfl (by decide +kernel) (Nat.le_of_ble_eq_true rfl) h ?_
  intro Y hY0 hl hR hnL hfl hret hnm0
  have hY : xv_ok Y cX11_most wsX11_most RX11 := hY0
  have hin2 : ∀ w ∈ u_ws RX2 TX2 3, w ∈ wsX11_most := fun _ h => List.mem_cons_of_mem _ (List.mem_append_left _ (List.mem_append_right _ h))
  have hin11 : ∀ w ∈ u_ws RX11 TX11 6, w ∈ wsX11_most := fun _ h => List.mem_cons_of_mem _ (List.mem_append_left _ (List.mem_append_left _ (List.mem_append_right _ h)))
  unfold D_X11_most
  refine xv_mk (L' := [some (xr a0), some (xi a1)]) [true, true] rfl ?_
  refine xv_iload_n rfl rfl hY dX11_most_0 rfl ?_
  refine xv_byg (fun hz => ?_)
  refine xv_byif (fun h0 => ?_) (fun h0 => ?_)
  · refine xv_swIn (off := 27) (t := 28) hY dX11_most_1 (xv_inb_in hz) (by omega) (by omega) (by rw [h0]; rfl) (by decide) ?_
    refine xv_aload_n rfl rfl hY dX11_most_28 rfl ?_
    refine xv_getP (ci := 11) (j := 0) hY dX11_most_29 rfl rfl rfl (by decide) hin11 (by decide) rfl (List.mem_of_getElem? (i := 1) rfl) (fun v15 => ?_)
    refine xv_getP (ci := 2) (j := 1) hY dX11_most_32 rfl rfl rfl (by decide) hin2 (by decide) rfl (List.mem_of_getElem? (i := 2) rfl) (fun v16 => ?_)
    refine xv_callVI (ci := 0) (y := yX0_fullestPlace) (ws := wsX0_fullestPlace) (rm := rm_X0_fullestPlace) (mc := 0) (ms := 0) (n := 0) (av := []) hY dX11_most_35 rfl rfl rfl (by decide) (fun q hq => by rw [hfl]; exact S_X0_fullestPlace Y.1.2.1 v16 M q hq) (cwV 0 hY.2.2.2.2.1 gX11_most_X0_fullestPlace rfl rfl rfl (by decide +kernel) ⟨(by rw [hR]; exact Nat.le_of_ble_eq_true rfl), (by rw [hR]; exact Nat.le_of_ble_eq_true rfl)⟩) rfl (Nat.le_of_ble_eq_true rfl) ⟨(by rw [hR]; exact Nat.le_of_ble_eq_true rfl), (by rw [hR]; exact Nat.le_of_ble_eq_true rfl)⟩ (fun z18 M17 => ?_)
    exact xv_ireti hY hfl dX11_most_38 hret (Nat.le_of_ble_eq_true rfl) (Nat.le_of_ble_eq_true rfl)
  · refine xv_byif (fun h1 => ?_) (fun h1 => ?_)
    · refine xv_swIn (off := 38) (t := 39) hY dX11_most_1 (xv_inb_in hz) (by omega) (by omega) (by rw [h1]; rfl) (by decide) ?_
      refine xv_aload_n rfl rfl hY dX11_most_39 rfl ?_
      refine xv_getP (ci := 11) (j := 0) hY dX11_most_40 rfl rfl rfl (by decide) hin11 (by decide) rfl (List.mem_of_getElem? (i := 1) rfl) (fun v5 => ?_)
      refine xv_getP (ci := 2) (j := 1) hY dX11_most_43 rfl rfl rfl (by decide) hin2 (by decide) rfl (List.mem_of_getElem? (i := 2) rfl) (fun v6 => ?_)
      refine xv_aload_n rfl rfl hY dX11_most_46 rfl ?_
      refine xv_getP (ci := 11) (j := 0) hY dX11_most_47 rfl rfl rfl (by decide) hin11 (by decide) rfl (List.mem_of_getElem? (i := 1) rfl) (fun v7 => ?_)
      refine xv_getP (ci := 2) (j := 1) hY dX11_most_50 rfl rfl rfl (by decide) hin2 (by decide) rfl (List.mem_of_getElem? (i := 2) rfl) (fun v8 => ?_)
      refine xv_callVI (ci := 0) (y := yX0_fullestPlace) (ws := wsX0_fullestPlace) (rm := rm_X0_fullestPlace) (mc := 0) (ms := 0) (n := 0) (av := []) hY dX11_most_53 rfl rfl rfl (by decide) (fun q hq => by rw [hfl]; exact S_X0_fullestPlace Y.1.2.1 v8 M q hq) (cwV 0 hY.2.2.2.2.1 gX11_most_X0_fullestPlace rfl rfl rfl (by decide +kernel) ⟨(by rw [hR]; exact Nat.le_of_ble_eq_true rfl), (by rw [hR]; exact Nat.le_of_ble_eq_true rfl)⟩) rfl (Nat.le_of_ble_eq_true rfl) ⟨(by rw [hR]; exact Nat.le_of_ble_eq_true rfl), (by rw [hR]; exact Nat.le_of_ble_eq_true rfl)⟩ (fun z10 M9 => ?_)
      refine xv_callVJ (ci := 0) (y := yX0_over) (ws := wsX0_over) (rm := rm_X0_over) (mc := 0) (ms := 0) (n := 1) (av := [xi z10]) hY dX11_most_56 rfl rfl rfl (by decide) (fun q hq => by rw [hfl]; exact S_X0_over Y.1.2.1 v6 z10 M9 q hq) (cwV 1 hY.2.2.2.2.1 gX11_most_X0_over rfl rfl rfl (by decide +kernel) ⟨(by rw [hR]; exact Nat.le_of_ble_eq_true rfl), (by rw [hR]; exact Nat.le_of_ble_eq_true rfl)⟩) rfl (Nat.le_of_ble_eq_true rfl) ⟨(by rw [hR]; exact Nat.le_of_ble_eq_true rfl), (by rw [hR]; exact Nat.le_of_ble_eq_true rfl)⟩ (fun z12 M11 => ?_)
      refine xv_callSI (y := yJ13_bitCount_95d88) (ws := wsJ13_bitCount_95d88) (rm := rm_J13_bitCount_95d88) (mc := 0) (ms := 0) (n := 1) (av := [xl z12]) hY dX11_most_59 rfl rfl (fun q hq => by rw [hfl]; exact S_J13_bitCount_95d88 Y.1.2.1 z12 M11 q hq) (va_cwS 1 hY.2.2.2.2.1 gX11_most_J13_bitCount_95d88 rfl rfl rfl (by decide +kernel) ⟨(by rw [hR]; exact Nat.le_of_ble_eq_true rfl), (by rw [hR]; exact Nat.le_of_ble_eq_true rfl)⟩) rfl (Nat.le_of_ble_eq_true rfl) ⟨(by rw [hR]; exact Nat.le_of_ble_eq_true rfl), (by rw [hR]; exact Nat.le_of_ble_eq_true rfl)⟩ (fun z14 M13 => ?_)
      exact xv_ireti hY hfl dX11_most_62 hret (Nat.le_of_ble_eq_true rfl) (Nat.le_of_ble_eq_true rfl)
    · refine xv_byif (fun h2 => ?_) (fun h2 => ?_)
      · refine xv_swIn (off := 62) (t := 63) hY dX11_most_1 (xv_inb_in hz) (by omega) (by omega) (by rw [h2]; rfl) (by decide) ?_
        refine xv_aload_n rfl rfl hY dX11_most_63 rfl ?_
        refine xv_getP (ci := 11) (j := 0) hY dX11_most_64 rfl rfl rfl (by decide) hin11 (by decide) rfl (List.mem_of_getElem? (i := 1) rfl) (fun v1 => ?_)
        refine xv_getP (ci := 2) (j := 1) hY dX11_most_67 rfl rfl rfl (by decide) hin2 (by decide) rfl (List.mem_of_getElem? (i := 2) rfl) (fun v2 => ?_)
        refine xv_callVI (ci := 0) (y := yX0_countFree) (ws := wsX0_countFree) (rm := rm_X0_countFree) (mc := 0) (ms := 0) (n := 0) (av := []) hY dX11_most_70 rfl rfl rfl (by decide) (fun q hq => by rw [hfl]; exact S_X0_countFree Y.1.2.1 v2 M q hq) (cwV 0 hY.2.2.2.2.1 gX11_most_X0_countFree rfl rfl rfl (by decide +kernel) ⟨(by rw [hR]; exact Nat.le_of_ble_eq_true rfl), (by rw [hR]; exact Nat.le_of_ble_eq_true rfl)⟩) rfl (Nat.le_of_ble_eq_true rfl) ⟨(by rw [hR]; exact Nat.le_of_ble_eq_true rfl), (by rw [hR]; exact Nat.le_of_ble_eq_true rfl)⟩ (fun z4 M3 => ?_)
        exact xv_ireti hY hfl dX11_most_73 hret (Nat.le_of_ble_eq_true rfl) (Nat.le_of_ble_eq_true rfl)
      · refine xv_swOut hY dX11_most_1 (xv_inb_in hz) (by omega) (t := 74) (by decide) ?_
        refine xv_bipush (by decide) hY dX11_most_74 rfl ?_
        exact xv_ireti hY hfl dX11_most_76 hret (Nat.le_of_ble_eq_true rfl) (Nat.le_of_ble_eq_true rfl)
set_option maxHeartbeats 4000000 in
set_option maxRecDepth 100000 in
theorem S_X11_changesIn (l : Launch) (a0 : Nat) (a1 : Int) (M : xv_M) (q : Int × xv_M) (h : D_X11_changesIn a0 a1 M = some q) : xv_Met l yX11_changesIn wsX11_changesIn rm_X11_changesIn 0 0 false [xr a0, xi a1] M (xv_qI false q) := by
  refine xv_enter (cc := cX11_changesIn) (nL := 2) (ret := (some .int)) rfl (by decide +kernel) (Nat.le_of_ble_eq_true rfl) h ?_
  intro Y hY0 hl hR hnL hfl hret hnm0
  have hY : xv_ok Y cX11_changesIn wsX11_changesIn RX11 := hY0
  have hin2 : ∀ w ∈ u_ws RX2 TX2 3, w ∈ wsX11_changesIn := fun _ h => List.mem_cons_of_mem _ (List.mem_append_left _ (List.mem_append_left _ (List.mem_append_left _ (List.mem_append_right _ h))))
  have hin6 : ∀ w ∈ u_ws RX6 TX6 4, w ∈ wsX11_changesIn := fun _ h => List.mem_cons_of_mem _ (List.mem_append_left _ (List.mem_append_left _ (List.mem_append_right _ h)))
  have hin11 : ∀ w ∈ u_ws RX11 TX11 6, w ∈ wsX11_changesIn := fun _ h => List.mem_cons_of_mem _ (List.mem_append_left _ (List.mem_append_left _ (List.mem_append_left _ (List.mem_append_left _ (List.mem_append_right _ h)))))
  unfold D_X11_changesIn
  refine xv_mk (L' := [some (xr a0), some (xi a1)]) [true, true] rfl ?_
  refine xv_aload_n rfl rfl hY dX11_changesIn_0 rfl ?_
  refine xv_getP (ci := 11) (j := 0) hY dX11_changesIn_1 rfl rfl rfl (by decide) hin11 (by decide) rfl (List.mem_of_getElem? (i := 1) rfl) (fun v1 => ?_)
  refine xv_getP (ci := 2) (j := 0) hY dX11_changesIn_4 rfl rfl rfl (by decide) hin2 (by decide) rfl (List.mem_of_getElem? (i := 2) rfl) (fun v2 => ?_)
  refine xv_getP (ci := 6) (j := 2) hY dX11_changesIn_7 rfl rfl rfl (by decide) hin6 (by decide) rfl (List.mem_of_getElem? (i := 3) rfl) (fun v3 => ?_)
  refine xv_iload_n rfl rfl hY dX11_changesIn_10 rfl ?_
  refine xv_callVI (ci := 9) (y := yX9_has) (ws := wsX9_has) (rm := rm_X9_has) (mc := 0) (ms := 0) (n := 1) (av := [xi a1]) hY dX11_changesIn_11 rfl rfl rfl (by decide) (fun q hq => by rw [hfl]; exact S_X9_has Y.1.2.1 v3 a1 M q hq) (cwV 1 hY.2.2.2.2.1 gX11_changesIn_X9_has rfl rfl rfl (by decide +kernel) ⟨(by rw [hR]; exact Nat.le_of_ble_eq_true rfl), (by rw [hR]; exact Nat.le_of_ble_eq_true rfl)⟩) rfl (Nat.le_of_ble_eq_true rfl) ⟨(by rw [hR]; exact Nat.le_of_ble_eq_true rfl), (by rw [hR]; exact Nat.le_of_ble_eq_true rfl)⟩ (fun z5 M4 => ?_)
  refine xv_if_ne (t := 19) hY dX11_changesIn_14 (by decide) rfl ?_ ?_
  · refine xv_aload_n rfl rfl hY dX11_changesIn_19 rfl ?_
    refine xv_getP (ci := 11) (j := 0) hY dX11_changesIn_20 rfl rfl rfl (by decide) hin11 (by decide) rfl (List.mem_of_getElem? (i := 1) rfl) (fun v6 => ?_)
    refine xv_iload_n rfl rfl hY dX11_changesIn_23 rfl ?_
    refine xv_callVI (ci := 2) (y := yX2_ticksToChange) (ws := wsX2_ticksToChange) (rm := rm_X2_ticksToChange) (mc := 0) (ms := 0) (n := 1) (av := [xi a1]) hY dX11_changesIn_24 rfl rfl rfl (by decide) (fun q hq => by rw [hfl]; exact S_X2_ticksToChange Y.1.2.1 v6 a1 M4 q hq) (cwV 1 hY.2.2.2.2.1 gX11_changesIn_X2_ticksToChange rfl rfl rfl (by decide +kernel) ⟨(by rw [hR]; exact Nat.le_of_ble_eq_true rfl), (by rw [hR]; exact Nat.le_of_ble_eq_true rfl)⟩) rfl (Nat.le_of_ble_eq_true rfl) ⟨(by rw [hR]; exact Nat.le_of_ble_eq_true rfl), (by rw [hR]; exact Nat.le_of_ble_eq_true rfl)⟩ (fun z8 M7 => ?_)
    exact xv_ireti hY hfl dX11_changesIn_27 hret (Nat.le_of_ble_eq_true rfl) (Nat.le_of_ble_eq_true rfl)
  · refine xv_iconst hY dX11_changesIn_17 rfl ?_
    exact xv_ireti hY hfl dX11_changesIn_18 hret (Nat.le_of_ble_eq_true rfl) (Nat.le_of_ble_eq_true rfl)
set_option maxHeartbeats 4000000 in
set_option maxRecDepth 100000 in
theorem S_X11_meetIn (l : Launch) (a0 : Nat) (a1 : Int) (a2 : Int) (M : xv_M) (q : Int × xv_M) (h : D_X11_meetIn a0 a1 a2 M = some q) : xv_Met l yX11_meetIn wsX11_meetIn rm_X11_meetIn 0 0 false [xr a0, xi a1, xi a2] M (xv_qI false q) := by
  refine xv_enter (cc := cX11_meetIn) (nL := 3) (ret := (some .int)) rfl (by decide +kernel) (Nat.le_of_ble_eq_true rfl) h ?_
  intro Y hY0 hl hR hnL hfl hret hnm0
  have hY : xv_ok Y cX11_meetIn wsX11_meetIn RX11 := hY0
  have hin2 : ∀ w ∈ u_ws RX2 TX2 3, w ∈ wsX11_meetIn := fun _ h => List.mem_cons_of_mem _ (List.mem_append_left _ (List.mem_append_left _ (List.mem_append_right _ h)))
  have hin6 : ∀ w ∈ u_ws RX6 TX6 4, w ∈ wsX11_meetIn := fun _ h => List.mem_cons_of_mem _ (List.mem_append_left _ (List.mem_append_right _ h))
  have hin11 : ∀ w ∈ u_ws RX11 TX11 6, w ∈ wsX11_meetIn := fun _ h => List.mem_cons_of_mem _ (List.mem_append_left _ (List.mem_append_left _ (List.mem_append_left _ (List.mem_append_right _ h))))
  unfold D_X11_meetIn
  refine xv_mk (L' := [some (xr a0), some (xi a1), some (xi a2)]) [true, true, true] rfl ?_
  refine xv_aload_n rfl rfl hY dX11_meetIn_0 rfl ?_
  refine xv_getP (ci := 11) (j := 0) hY dX11_meetIn_1 rfl rfl rfl (by decide) hin11 (by decide) rfl (List.mem_of_getElem? (i := 1) rfl) (fun v1 => ?_)
  refine xv_getP (ci := 2) (j := 0) hY dX11_meetIn_4 rfl rfl rfl (by decide) hin2 (by decide) rfl (List.mem_of_getElem? (i := 2) rfl) (fun v2 => ?_)
  refine xv_getP (ci := 6) (j := 2) hY dX11_meetIn_7 rfl rfl rfl (by decide) hin6 (by decide) rfl (List.mem_of_getElem? (i := 3) rfl) (fun v3 => ?_)
  refine xv_iload_n rfl rfl hY dX11_meetIn_10 rfl ?_
  refine xv_callVI (ci := 9) (y := yX9_has) (ws := wsX9_has) (rm := rm_X9_has) (mc := 0) (ms := 0) (n := 1) (av := [xi a1]) hY dX11_meetIn_11 rfl rfl rfl (by decide) (fun q hq => by rw [hfl]; exact S_X9_has Y.1.2.1 v3 a1 M q hq) (cwV 1 hY.2.2.2.2.1 gX11_meetIn_X9_has rfl rfl rfl (by decide +kernel) ⟨(by rw [hR]; exact Nat.le_of_ble_eq_true rfl), (by rw [hR]; exact Nat.le_of_ble_eq_true rfl)⟩) rfl (Nat.le_of_ble_eq_true rfl) ⟨(by rw [hR]; exact Nat.le_of_ble_eq_true rfl), (by rw [hR]; exact Nat.le_of_ble_eq_true rfl)⟩ (fun z5 M4 => ?_)
  refine xv_if_eq (t := 34) hY dX11_meetIn_14 (by decide) rfl ?_ ?_
  · refine xv_iconst hY dX11_meetIn_34 rfl ?_
    exact xv_ireti hY hfl dX11_meetIn_35 hret (Nat.le_of_ble_eq_true rfl) (Nat.le_of_ble_eq_true rfl)
  · refine xv_aload_n rfl rfl hY dX11_meetIn_17 rfl ?_
    refine xv_getP (ci := 11) (j := 0) hY dX11_meetIn_18 rfl rfl rfl (by decide) hin11 (by decide) rfl (List.mem_of_getElem? (i := 1) rfl) (fun v6 => ?_)
    refine xv_getP (ci := 2) (j := 0) hY dX11_meetIn_21 rfl rfl rfl (by decide) hin2 (by decide) rfl (List.mem_of_getElem? (i := 2) rfl) (fun v7 => ?_)
    refine xv_getP (ci := 6) (j := 2) hY dX11_meetIn_24 rfl rfl rfl (by decide) hin6 (by decide) rfl (List.mem_of_getElem? (i := 3) rfl) (fun v8 => ?_)
    refine xv_iload_n rfl rfl hY dX11_meetIn_27 rfl ?_
    refine xv_callVI (ci := 9) (y := yX9_has) (ws := wsX9_has) (rm := rm_X9_has) (mc := 0) (ms := 0) (n := 1) (av := [xi a2]) hY dX11_meetIn_28 rfl rfl rfl (by decide) (fun q hq => by rw [hfl]; exact S_X9_has Y.1.2.1 v8 a2 M4 q hq) (cwV 1 hY.2.2.2.2.1 gX11_meetIn_X9_has rfl rfl rfl (by decide +kernel) ⟨(by rw [hR]; exact Nat.le_of_ble_eq_true rfl), (by rw [hR]; exact Nat.le_of_ble_eq_true rfl)⟩) rfl (Nat.le_of_ble_eq_true rfl) ⟨(by rw [hR]; exact Nat.le_of_ble_eq_true rfl), (by rw [hR]; exact Nat.le_of_ble_eq_true rfl)⟩ (fun z10 M9 => ?_)
    refine xv_if_ne (t := 36) hY dX11_meetIn_31 (by decide) rfl ?_ ?_
    · refine xv_iload_n rfl rfl hY dX11_meetIn_36 rfl ?_
      refine xv_iload_n rfl rfl hY dX11_meetIn_37 rfl ?_
      refine xv_icmp_ne (t := 44) hY dX11_meetIn_38 (by decide) rfl ?_ ?_
      · refine xv_aload_n rfl rfl hY dX11_meetIn_44 rfl ?_
        refine xv_getP (ci := 11) (j := 0) hY dX11_meetIn_45 rfl rfl rfl (by decide) hin11 (by decide) rfl (List.mem_of_getElem? (i := 1) rfl) (fun v11 => ?_)
        refine xv_getP (ci := 2) (j := 0) hY dX11_meetIn_48 rfl rfl rfl (by decide) hin2 (by decide) rfl (List.mem_of_getElem? (i := 2) rfl) (fun v12 => ?_)
        refine xv_getP (ci := 6) (j := 2) hY dX11_meetIn_51 rfl rfl rfl (by decide) hin6 (by decide) rfl (List.mem_of_getElem? (i := 3) rfl) (fun v13 => ?_)
        refine xv_iload_n rfl rfl hY dX11_meetIn_54 rfl ?_
        refine xv_iload_n rfl rfl hY dX11_meetIn_55 rfl ?_
        refine xv_callVI (ci := 9) (y := yX9_ticksToMeet) (ws := wsX9_ticksToMeet) (rm := rm_X9_ticksToMeet) (mc := 0) (ms := 0) (n := 2) (av := [xi a1, xi a2]) hY dX11_meetIn_56 rfl rfl rfl (by decide) (fun q hq => by rw [hfl]; exact S_X9_ticksToMeet Y.1.2.1 v13 a1 a2 M9 q hq) (cwV 2 hY.2.2.2.2.1 gX11_meetIn_X9_ticksToMeet rfl rfl rfl (by decide +kernel) ⟨(by rw [hR]; exact Nat.le_of_ble_eq_true rfl), (by rw [hR]; exact Nat.le_of_ble_eq_true rfl)⟩) rfl (Nat.le_of_ble_eq_true rfl) ⟨(by rw [hR]; exact Nat.le_of_ble_eq_true rfl), (by rw [hR]; exact Nat.le_of_ble_eq_true rfl)⟩ (fun z15 M14 => ?_)
        exact xv_ireti hY hfl dX11_meetIn_59 hret (Nat.le_of_ble_eq_true rfl) (Nat.le_of_ble_eq_true rfl)
      · refine xv_bipush (by decide) hY dX11_meetIn_41 rfl ?_
        exact xv_ireti hY hfl dX11_meetIn_43 hret (Nat.le_of_ble_eq_true rfl) (Nat.le_of_ble_eq_true rfl)
    · refine xv_iconst hY dX11_meetIn_34 rfl ?_
      exact xv_ireti hY hfl dX11_meetIn_35 hret (Nat.le_of_ble_eq_true rfl) (Nat.le_of_ble_eq_true rfl)
set_option maxHeartbeats 4000000 in
set_option maxRecDepth 100000 in
theorem S_X11_index (l : Launch) (a0 : Nat) (a1 : Int) (M : xv_M) (q : Int × xv_M) (h : D_X11_index a0 a1 M = some q) : xv_Met l yX11_index wsX11_index rm_X11_index 0 0 false [xr a0, xi a1] M (xv_qI false q) := by
  refine xv_enter (cc := cX11_index) (nL := 2) (ret := (some .int)) rfl (by decide +kernel) (Nat.le_of_ble_eq_true rfl) h ?_
  intro Y hY0 hl hR hnL hfl hret hnm0
  have hY : xv_ok Y cX11_index wsX11_index RX11 := hY0
  have hin2 : ∀ w ∈ u_ws RX2 TX2 3, w ∈ wsX11_index := fun _ h => List.mem_cons_of_mem _ (List.mem_append_left _ (List.mem_append_left _ (List.mem_append_left _ (List.mem_append_right _ h))))
  have hin6 : ∀ w ∈ u_ws RX6 TX6 4, w ∈ wsX11_index := fun _ h => List.mem_cons_of_mem _ (List.mem_append_left _ (List.mem_append_left _ (List.mem_append_right _ h)))
  have hin11 : ∀ w ∈ u_ws RX11 TX11 6, w ∈ wsX11_index := fun _ h => List.mem_cons_of_mem _ (List.mem_append_left _ (List.mem_append_left _ (List.mem_append_left _ (List.mem_append_left _ (List.mem_append_right _ h)))))
  unfold D_X11_index
  refine xv_mk (L' := [some (xr a0), some (xi a1)]) [true, true] rfl ?_
  refine xv_iload_n rfl rfl hY dX11_index_0 rfl ?_
  refine xv_if_lt (t := 9) hY dX11_index_1 (by decide) rfl ?_ ?_
  · refine xv_bipush (by decide) hY dX11_index_9 rfl ?_
    exact xv_ireti hY hfl dX11_index_11 hret (Nat.le_of_ble_eq_true rfl) (Nat.le_of_ble_eq_true rfl)
  · refine xv_iload_n rfl rfl hY dX11_index_4 rfl ?_
    refine xv_iconst hY dX11_index_5 rfl ?_
    refine xv_icmp_le (t := 12) hY dX11_index_6 (by decide) rfl ?_ ?_
    · refine xv_aload_n rfl rfl hY dX11_index_12 rfl ?_
      refine xv_getP (ci := 11) (j := 0) hY dX11_index_13 rfl rfl rfl (by decide) hin11 (by decide) rfl (List.mem_of_getElem? (i := 1) rfl) (fun v1 => ?_)
      refine xv_getP (ci := 2) (j := 0) hY dX11_index_16 rfl rfl rfl (by decide) hin2 (by decide) rfl (List.mem_of_getElem? (i := 2) rfl) (fun v2 => ?_)
      refine xv_getP (ci := 6) (j := 1) hY dX11_index_19 rfl rfl rfl (by decide) hin6 (by decide) rfl (List.mem_of_getElem? (i := 3) rfl) (fun v3 => ?_)
      refine xv_callVI (ci := 5) (y := yX5_countThere) (ws := wsX5_countThere) (rm := rm_X5_countThere) (mc := 0) (ms := 0) (n := 0) (av := []) hY dX11_index_22 rfl rfl rfl (by decide) (fun q hq => by rw [hfl]; exact S_X5_countThere Y.1.2.1 v3 M q hq) (cwV 0 hY.2.2.2.2.1 gX11_index_X5_countThere rfl rfl rfl (by decide +kernel) ⟨(by rw [hR]; exact Nat.le_of_ble_eq_true rfl), (by rw [hR]; exact Nat.le_of_ble_eq_true rfl)⟩) rfl (Nat.le_of_ble_eq_true rfl) ⟨(by rw [hR]; exact Nat.le_of_ble_eq_true rfl), (by rw [hR]; exact Nat.le_of_ble_eq_true rfl)⟩ (fun z5 M4 => ?_)
      refine xv_if_ne (t := 31) hY dX11_index_25 (by decide) rfl ?_ ?_
      · refine xv_iload_n rfl rfl hY dX11_index_31 rfl ?_
        refine xv_byg (fun hz => ?_)
        refine xv_byif (fun h0 => ?_) (fun h0 => ?_)
        · refine xv_swIn (off := 28) (t := 60) hY dX11_index_32 (xv_inb_in hz) (by omega) (by omega) (by rw [h0]; rfl) (by decide) ?_
          refine xv_aload_n rfl rfl hY dX11_index_60 rfl ?_
          refine xv_getP (ci := 11) (j := 0) hY dX11_index_61 rfl rfl rfl (by decide) hin11 (by decide) rfl (List.mem_of_getElem? (i := 1) rfl) (fun v21 => ?_)
          refine xv_getP (ci := 2) (j := 2) hY dX11_index_64 rfl rfl rfl (by decide) hin2 (by decide) rfl (List.mem_of_getElem? (i := 4) rfl) (fun v22 => ?_)
          refine xv_callVI (ci := 8) (y := yX8_countNodes) (ws := wsX8_countNodes) (rm := rm_X8_countNodes) (mc := 0) (ms := 0) (n := 0) (av := []) hY dX11_index_67 rfl rfl rfl (by decide) (fun q hq => by rw [hfl]; exact S_X8_countNodes Y.1.2.1 v22 M4 q hq) (cwV 0 hY.2.2.2.2.1 gX11_index_X8_countNodes rfl rfl rfl (by decide +kernel) ⟨(by rw [hR]; exact Nat.le_of_ble_eq_true rfl), (by rw [hR]; exact Nat.le_of_ble_eq_true rfl)⟩) rfl (Nat.le_of_ble_eq_true rfl) ⟨(by rw [hR]; exact Nat.le_of_ble_eq_true rfl), (by rw [hR]; exact Nat.le_of_ble_eq_true rfl)⟩ (fun z24 M23 => ?_)
          exact xv_ireti hY hfl dX11_index_70 hret (Nat.le_of_ble_eq_true rfl) (Nat.le_of_ble_eq_true rfl)
        · refine xv_byif (fun h1 => ?_) (fun h1 => ?_)
          · refine xv_swIn (off := 39) (t := 71) hY dX11_index_32 (xv_inb_in hz) (by omega) (by omega) (by rw [h1]; rfl) (by decide) ?_
            refine xv_aload_n rfl rfl hY dX11_index_71 rfl ?_
            refine xv_getP (ci := 11) (j := 0) hY dX11_index_72 rfl rfl rfl (by decide) hin11 (by decide) rfl (List.mem_of_getElem? (i := 1) rfl) (fun v14 => ?_)
            refine xv_getP (ci := 2) (j := 2) hY dX11_index_75 rfl rfl rfl (by decide) hin2 (by decide) rfl (List.mem_of_getElem? (i := 4) rfl) (fun v15 => ?_)
            refine xv_aload_n rfl rfl hY dX11_index_78 rfl ?_
            refine xv_getP (ci := 11) (j := 0) hY dX11_index_79 rfl rfl rfl (by decide) hin11 (by decide) rfl (List.mem_of_getElem? (i := 1) rfl) (fun v16 => ?_)
            refine xv_getP (ci := 2) (j := 0) hY dX11_index_82 rfl rfl rfl (by decide) hin2 (by decide) rfl (List.mem_of_getElem? (i := 2) rfl) (fun v17 => ?_)
            refine xv_getP (ci := 6) (j := 1) hY dX11_index_85 rfl rfl rfl (by decide) hin6 (by decide) rfl (List.mem_of_getElem? (i := 3) rfl) (fun v18 => ?_)
            refine xv_callVI (ci := 8) (y := yX8_greatestDepth) (ws := wsX8_greatestDepth) (rm := rm_X8_greatestDepth) (mc := 0) (ms := 0) (n := 1) (av := [xr v18]) hY dX11_index_88 rfl rfl rfl (by decide) (fun q hq => by rw [hfl]; exact S_X8_greatestDepth Y.1.2.1 v15 v18 M4 q hq) (cwV 1 hY.2.2.2.2.1 gX11_index_X8_greatestDepth rfl rfl rfl (by decide +kernel) ⟨(by rw [hR]; exact Nat.le_of_ble_eq_true rfl), (by rw [hR]; exact Nat.le_of_ble_eq_true rfl)⟩) rfl (Nat.le_of_ble_eq_true rfl) ⟨(by rw [hR]; exact Nat.le_of_ble_eq_true rfl), (by rw [hR]; exact Nat.le_of_ble_eq_true rfl)⟩ (fun z20 M19 => ?_)
            exact xv_ireti hY hfl dX11_index_91 hret (Nat.le_of_ble_eq_true rfl) (Nat.le_of_ble_eq_true rfl)
          · refine xv_byif (fun h2 => ?_) (fun h2 => ?_)
            · refine xv_swIn (off := 60) (t := 92) hY dX11_index_32 (xv_inb_in hz) (by omega) (by omega) (by rw [h2]; rfl) (by decide) ?_
              refine xv_aload_n rfl rfl hY dX11_index_92 rfl ?_
              refine xv_getP (ci := 11) (j := 0) hY dX11_index_93 rfl rfl rfl (by decide) hin11 (by decide) rfl (List.mem_of_getElem? (i := 1) rfl) (fun v10 => ?_)
              refine xv_getP (ci := 2) (j := 2) hY dX11_index_96 rfl rfl rfl (by decide) hin2 (by decide) rfl (List.mem_of_getElem? (i := 4) rfl) (fun v11 => ?_)
              refine xv_callVI (ci := 8) (y := yX8_mostInOneNode) (ws := wsX8_mostInOneNode) (rm := rm_X8_mostInOneNode) (mc := 0) (ms := 0) (n := 0) (av := []) hY dX11_index_99 rfl rfl rfl (by decide) (fun q hq => by rw [hfl]; exact S_X8_mostInOneNode Y.1.2.1 v11 M4 q hq) (cwV 0 hY.2.2.2.2.1 gX11_index_X8_mostInOneNode rfl rfl rfl (by decide +kernel) ⟨(by rw [hR]; exact Nat.le_of_ble_eq_true rfl), (by rw [hR]; exact Nat.le_of_ble_eq_true rfl)⟩) rfl (Nat.le_of_ble_eq_true rfl) ⟨(by rw [hR]; exact Nat.le_of_ble_eq_true rfl), (by rw [hR]; exact Nat.le_of_ble_eq_true rfl)⟩ (fun z13 M12 => ?_)
              exact xv_ireti hY hfl dX11_index_102 hret (Nat.le_of_ble_eq_true rfl) (Nat.le_of_ble_eq_true rfl)
            · refine xv_swOut hY dX11_index_32 (xv_inb_in hz) (by omega) (t := 103) (by decide) ?_
              refine xv_aload_n rfl rfl hY dX11_index_103 rfl ?_
              refine xv_getP (ci := 11) (j := 0) hY dX11_index_104 rfl rfl rfl (by decide) hin11 (by decide) rfl (List.mem_of_getElem? (i := 1) rfl) (fun v6 => ?_)
              refine xv_getP (ci := 2) (j := 2) hY dX11_index_107 rfl rfl rfl (by decide) hin2 (by decide) rfl (List.mem_of_getElem? (i := 4) rfl) (fun v7 => ?_)
              refine xv_callVI (ci := 8) (y := yX8_fullestMiddle) (ws := wsX8_fullestMiddle) (rm := rm_X8_fullestMiddle) (mc := 0) (ms := 0) (n := 0) (av := []) hY dX11_index_110 rfl rfl rfl (by decide) (fun q hq => by rw [hfl]; exact S_X8_fullestMiddle Y.1.2.1 v7 M4 q hq) (cwV 0 hY.2.2.2.2.1 gX11_index_X8_fullestMiddle rfl rfl rfl (by decide +kernel) ⟨(by rw [hR]; exact Nat.le_of_ble_eq_true rfl), (by rw [hR]; exact Nat.le_of_ble_eq_true rfl)⟩) rfl (Nat.le_of_ble_eq_true rfl) ⟨(by rw [hR]; exact Nat.le_of_ble_eq_true rfl), (by rw [hR]; exact Nat.le_of_ble_eq_true rfl)⟩ (fun z9 M8 => ?_)
              exact xv_ireti hY hfl dX11_index_113 hret (Nat.le_of_ble_eq_true rfl) (Nat.le_of_ble_eq_true rfl)
      · refine xv_bipush (by decide) hY dX11_index_28 rfl ?_
        exact xv_ireti hY hfl dX11_index_30 hret (Nat.le_of_ble_eq_true rfl) (Nat.le_of_ble_eq_true rfl)
    · refine xv_bipush (by decide) hY dX11_index_9 rfl ?_
      exact xv_ireti hY hfl dX11_index_11 hret (Nat.le_of_ble_eq_true rfl) (Nat.le_of_ble_eq_true rfl)
set_option maxHeartbeats 4000000 in
set_option maxRecDepth 100000 in
theorem S_X11_event (l : Launch) (a0 : Nat) (a1 : Int) (a2 : Int) (M : xv_M) (q : Int × xv_M) (h : D_X11_event a0 a1 a2 M = some q) : xv_Met l yX11_event wsX11_event rm_X11_event 0 0 false [xr a0, xi a1, xi a2] M (xv_qI false q) := by
  refine xv_enter (cc := cX11_event) (nL := 5) (ret := (some .int)) rfl (by decide +kernel) (Nat.le_of_ble_eq_true rfl) h ?_
  intro Y hY0 hl hR hnL hfl hret hnm0
  have hY : xv_ok Y cX11_event wsX11_event RX11 := hY0
  have hin2 : ∀ w ∈ u_ws RX2 TX2 3, w ∈ wsX11_event := fun _ h => List.mem_cons_of_mem _ (List.mem_append_left _ (List.mem_append_left _ (List.mem_append_right _ h)))
  have hin3 : ∀ w ∈ u_ws RX3 TX3 6, w ∈ wsX11_event := fun _ h => List.mem_cons_of_mem _ (List.mem_append_right _ h)
  have hin6 : ∀ w ∈ u_ws RX6 TX6 4, w ∈ wsX11_event := fun _ h => List.mem_cons_of_mem _ (List.mem_append_left _ (List.mem_append_right _ h))
  have hin11 : ∀ w ∈ u_ws RX11 TX11 6, w ∈ wsX11_event := fun _ h => List.mem_cons_of_mem _ (List.mem_append_left _ (List.mem_append_left _ (List.mem_append_left _ (List.mem_append_right _ h))))
  unfold D_X11_event
  refine xv_mk (L' := [some (xr a0), some (xi a1), some (xi a2), none, none]) [true, true, true, true, true] rfl ?_
  refine xv_iload_n rfl rfl hY dX11_event_0 rfl ?_
  refine xv_if_lt (t := 13) hY dX11_event_1 (by decide) rfl ?_ ?_
  · refine xv_bipush (by decide) hY dX11_event_13 rfl ?_
    exact xv_ireti hY hfl dX11_event_15 hret (Nat.le_of_ble_eq_true rfl) (Nat.le_of_ble_eq_true rfl)
  · refine xv_iload_n rfl rfl hY dX11_event_4 rfl ?_
    refine xv_if_lt (t := 13) hY dX11_event_5 (by decide) rfl ?_ ?_
    · refine xv_bipush (by decide) hY dX11_event_13 rfl ?_
      exact xv_ireti hY hfl dX11_event_15 hret (Nat.le_of_ble_eq_true rfl) (Nat.le_of_ble_eq_true rfl)
    · refine xv_iload_n rfl rfl hY dX11_event_8 rfl ?_
      refine xv_iconst hY dX11_event_9 rfl ?_
      refine xv_icmp_le (t := 16) hY dX11_event_10 (by decide) rfl ?_ ?_
      · refine xv_aload_n rfl rfl hY dX11_event_16 rfl ?_
        refine xv_getP (ci := 11) (j := 0) hY dX11_event_17 rfl rfl rfl (by decide) hin11 (by decide) rfl (List.mem_of_getElem? (i := 1) rfl) (fun v1 => ?_)
        refine xv_getP (ci := 2) (j := 0) hY dX11_event_20 rfl rfl rfl (by decide) hin2 (by decide) rfl (List.mem_of_getElem? (i := 2) rfl) (fun v2 => ?_)
        refine xv_getP (ci := 6) (j := 3) hY dX11_event_23 rfl rfl rfl (by decide) hin6 (by decide) rfl (List.mem_of_getElem? (i := 3) rfl) (fun v3 => ?_)
        refine xv_astore_n (L' := [some (xr a0), some (xi a1), some (xi a2), some (xr v3), none]) hY dX11_event_26 rfl rfl (by rw [hnL]; decide) rfl rfl ?_
        refine xv_iload_n rfl rfl hY dX11_event_27 rfl ?_
        refine xv_aload_n rfl rfl hY dX11_event_28 rfl ?_
        refine xv_getI (ci := 3) (j := 0) hY dX11_event_29 rfl rfl rfl (by decide) hin3 (by decide) rfl (List.mem_of_getElem? (i := 4) rfl) (fun v4 => ?_)
        refine xv_icmp_lt (t := 38) hY dX11_event_32 (by decide) rfl ?_ ?_
        · refine xv_aload_n rfl rfl hY dX11_event_38 rfl ?_
          refine xv_iload_n rfl rfl hY dX11_event_39 rfl ?_
          refine xv_callVI (ci := 3) (y := yX3_slotOf) (ws := wsX3_slotOf) (rm := rm_X3_slotOf) (mc := 0) (ms := 0) (n := 1) (av := [xi a1]) hY dX11_event_40 rfl rfl rfl (by decide) (fun q hq => by rw [hfl]; exact S_X3_slotOf Y.1.2.1 v3 a1 M q hq) (cwV 1 hY.2.2.2.2.1 gX11_event_X3_slotOf rfl rfl rfl (by decide +kernel) ⟨(by rw [hR]; exact Nat.le_of_ble_eq_true rfl), (by rw [hR]; exact Nat.le_of_ble_eq_true rfl)⟩) rfl (Nat.le_of_ble_eq_true rfl) ⟨(by rw [hR]; exact Nat.le_of_ble_eq_true rfl), (by rw [hR]; exact Nat.le_of_ble_eq_true rfl)⟩ (fun z6 M5 => ?_)
          refine xv_istore (L' := [some (xr a0), some (xi a1), some (xi a2), some (xr v3), some (xi z6)]) hY dX11_event_43 rfl (by rw [hnL]; decide) rfl rfl ?_
          refine xv_iload_n rfl rfl hY dX11_event_45 rfl ?_
          refine xv_byg (fun hz => ?_)
          refine xv_byif (fun h0 => ?_) (fun h0 => ?_)
          · refine xv_swIn (off := 26) (t := 72) hY dX11_event_46 (xv_inb_in hz) (by omega) (by omega) (by rw [h0]; rfl) (by decide) ?_
            refine xv_aload_n rfl rfl hY dX11_event_72 rfl ?_
            refine xv_getP (ci := 3) (j := 2) hY dX11_event_73 rfl rfl rfl (by decide) hin3 (by decide) rfl (List.mem_of_getElem? (i := 5) rfl) (fun v13 => ?_)
            refine xv_iload rfl hY dX11_event_76 rfl ?_
            refine xv_iald hY dX11_event_78 rfl (fun v14 => ?_)
            exact xv_ireti hY hfl dX11_event_79 hret (Nat.le_of_ble_eq_true rfl) (Nat.le_of_ble_eq_true rfl)
          · refine xv_byif (fun h1 => ?_) (fun h1 => ?_)
            · refine xv_swIn (off := 34) (t := 80) hY dX11_event_46 (xv_inb_in hz) (by omega) (by omega) (by rw [h1]; rfl) (by decide) ?_
              refine xv_aload_n rfl rfl hY dX11_event_80 rfl ?_
              refine xv_getP (ci := 3) (j := 3) hY dX11_event_81 rfl rfl rfl (by decide) hin3 (by decide) rfl (List.mem_of_getElem? (i := 6) rfl) (fun v11 => ?_)
              refine xv_iload rfl hY dX11_event_84 rfl ?_
              refine xv_iald hY dX11_event_86 rfl (fun v12 => ?_)
              exact xv_ireti hY hfl dX11_event_87 hret (Nat.le_of_ble_eq_true rfl) (Nat.le_of_ble_eq_true rfl)
            · refine xv_byif (fun h2 => ?_) (fun h2 => ?_)
              · refine xv_swIn (off := 42) (t := 88) hY dX11_event_46 (xv_inb_in hz) (by omega) (by omega) (by rw [h2]; rfl) (by decide) ?_
                refine xv_aload_n rfl rfl hY dX11_event_88 rfl ?_
                refine xv_getP (ci := 3) (j := 4) hY dX11_event_89 rfl rfl rfl (by decide) hin3 (by decide) rfl (List.mem_of_getElem? (i := 7) rfl) (fun v9 => ?_)
                refine xv_iload rfl hY dX11_event_92 rfl ?_
                refine xv_iald hY dX11_event_94 rfl (fun v10 => ?_)
                exact xv_ireti hY hfl dX11_event_95 hret (Nat.le_of_ble_eq_true rfl) (Nat.le_of_ble_eq_true rfl)
              · refine xv_swOut hY dX11_event_46 (xv_inb_in hz) (by omega) (t := 96) (by decide) ?_
                refine xv_aload_n rfl rfl hY dX11_event_96 rfl ?_
                refine xv_getP (ci := 3) (j := 5) hY dX11_event_97 rfl rfl rfl (by decide) hin3 (by decide) rfl (List.mem_of_getElem? (i := 8) rfl) (fun v7 => ?_)
                refine xv_iload rfl hY dX11_event_100 rfl ?_
                refine xv_iald hY dX11_event_102 rfl (fun v8 => ?_)
                exact xv_ireti hY hfl dX11_event_103 hret (Nat.le_of_ble_eq_true rfl) (Nat.le_of_ble_eq_true rfl)
        · refine xv_bipush (by decide) hY dX11_event_35 rfl ?_
          exact xv_ireti hY hfl dX11_event_37 hret (Nat.le_of_ble_eq_true rfl) (Nat.le_of_ble_eq_true rfl)
      · refine xv_bipush (by decide) hY dX11_event_13 rfl ?_
        exact xv_ireti hY hfl dX11_event_15 hret (Nat.le_of_ble_eq_true rfl) (Nat.le_of_ble_eq_true rfl)
set_option maxHeartbeats 4000000 in
set_option maxRecDepth 100000 in
theorem S_X11_sumOf (l : Launch) (a0 : Nat) (a1 : Int) (M : xv_M) (q : Int × xv_M) (h : D_X11_sumOf a0 a1 M = some q) : xv_Met l yX11_sumOf wsX11_sumOf rm_X11_sumOf 0 0 false [xr a0, xi a1] M (xv_qI false q) := by
  refine xv_enter (cc := cX11_sumOf) (nL := 4) (ret := (some .int)) rfl (by decide +kernel) (Nat.le_of_ble_eq_true rfl) h ?_
  intro Y hY0 hl hR hnL hfl hret hnm0
  have hY : xv_ok Y cX11_sumOf wsX11_sumOf RX11 := hY0
  unfold D_X11_sumOf
  refine xv_mk (L' := [some (xr a0), some (xi a1), none, none]) [true, true, true, true] rfl ?_
  refine xv_iconst hY dX11_sumOf_0 rfl ?_
  refine xv_istore_n (L' := [some (xr a0), some (xi a1), some (xi (0 : Int)), none]) hY dX11_sumOf_1 rfl rfl (by rw [hnL]; decide) rfl rfl ?_
  refine xv_iconst hY dX11_sumOf_2 rfl ?_
  refine xv_istore_n (L' := [some (xr a0), some (xi a1), some (xi (0 : Int)), some (xi (0 : Int))]) hY dX11_sumOf_3 rfl rfl (by rw [hnL]; decide) rfl rfl ?_
  refine xv_mk (L' := [some (xr a0), some (xi a1), some (xi (0 : Int)), some (xi (0 : Int))]) [true, true, true, true] rfl ?_
  refine xv_loop (σ := Int × Int) (fun x1 => [some (xr a0), some (xi a1), some (xi x1.1), some (xi x1.2)]) (fun x1 => M) (fun f2 hf2 x1 => ?_) xv_fuel ((0 : Int), (0 : Int))
  refine xv_iload_n rfl rfl hY dX11_sumOf_4 rfl ?_
  refine xv_iload_n rfl rfl hY dX11_sumOf_5 rfl ?_
  refine xv_icmp_ge (t := 27) hY dX11_sumOf_6 (by decide) rfl ?_ ?_
  · refine xv_iload_n rfl rfl hY dX11_sumOf_27 rfl ?_
    exact xv_ireti hY hfl dX11_sumOf_28 hret (Nat.le_of_ble_eq_true rfl) (Nat.le_of_ble_eq_true rfl)
  · refine xv_iload_n rfl rfl hY dX11_sumOf_9 rfl ?_
    refine xv_aload_n rfl rfl hY dX11_sumOf_10 rfl ?_
    refine xv_alenI hY dX11_sumOf_11 rfl (fun v3 => ?_)
    refine xv_icmp_ge (t := 27) hY dX11_sumOf_12 (by decide) rfl ?_ ?_
    · refine xv_iload_n rfl rfl hY dX11_sumOf_27 rfl ?_
      exact xv_ireti hY hfl dX11_sumOf_28 hret (Nat.le_of_ble_eq_true rfl) (Nat.le_of_ble_eq_true rfl)
    · refine xv_iload_n rfl rfl hY dX11_sumOf_15 rfl ?_
      refine xv_aload_n rfl rfl hY dX11_sumOf_16 rfl ?_
      refine xv_iload_n rfl rfl hY dX11_sumOf_17 rfl ?_
      refine xv_iald hY dX11_sumOf_18 rfl (fun v4 => ?_)
      refine xv_iadd hY dX11_sumOf_19 rfl ?_
      refine xv_istore_n (L' := [some (xr a0), some (xi a1), some (xi (x1.1 + v4)), some (xi x1.2)]) hY dX11_sumOf_20 rfl rfl (by rw [hnL]; decide) rfl rfl ?_
      refine xv_iinc (L' := [some (xr a0), some (xi a1), some (xi (x1.1 + v4)), some (xi (x1.2 + 1))]) hY dX11_sumOf_21 rfl (by rw [hnL]; decide) rfl rfl rfl ?_
      refine xv_goto (pc' := 4) hY dX11_sumOf_24 (by decide) ?_
      exact xv_mk (L' := [some (xr a0), some (xi a1), some (xi (x1.1 + v4)), some (xi (x1.2 + 1))]) [true, true, true, true] rfl (hf2 ((x1.1 + v4), (x1.2 + 1)))
set_option maxHeartbeats 4000000 in
set_option maxRecDepth 100000 in
theorem S_X11_count (l : Launch) (a0 : Nat) (a1 : Int) (M : xv_M) (q : Int × xv_M) (h : D_X11_count a0 a1 M = some q) : xv_Met l yX11_count wsX11_count rm_X11_count 0 0 false [xr a0, xi a1] M (xv_qI false q) := by
  refine xv_enter (cc := cX11_count) (nL := 3) (ret := (some .int)) rfl (by decide +kernel) (Nat.le_of_ble_eq_true rfl) h ?_
  intro Y hY0 hl hR hnL hfl hret hnm0
  have hY : xv_ok Y cX11_count wsX11_count RX11 := hY0
  have hin1 : ∀ w ∈ u_ws RX1 TX1 2, w ∈ wsX11_count := fun _ h => List.mem_cons_of_mem _ (List.mem_append_left _ (List.mem_append_right _ h))
  have hin2 : ∀ w ∈ u_ws RX2 TX2 3, w ∈ wsX11_count := fun _ h => List.mem_cons_of_mem _ (List.mem_append_left _ (List.mem_append_left _ (List.mem_append_left _ (List.mem_append_left _ (List.mem_append_left _ (List.mem_append_right _ h))))))
  have hin5 : ∀ w ∈ u_ws RX5 TX5 8, w ∈ wsX11_count := fun _ h => List.mem_cons_of_mem _ (List.mem_append_left _ (List.mem_append_left _ (List.mem_append_left _ (List.mem_append_right _ h))))
  have hin6 : ∀ w ∈ u_ws RX6 TX6 4, w ∈ wsX11_count := fun _ h => List.mem_cons_of_mem _ (List.mem_append_left _ (List.mem_append_left _ (List.mem_append_left _ (List.mem_append_left _ (List.mem_append_right _ h)))))
  have hin7 : ∀ w ∈ u_ws RX7 TX7 2, w ∈ wsX11_count := fun _ h => List.mem_cons_of_mem _ (List.mem_append_right _ h)
  have hin9 : ∀ w ∈ u_ws RX9 TX9 9, w ∈ wsX11_count := fun _ h => List.mem_cons_of_mem _ (List.mem_append_left _ (List.mem_append_left _ (List.mem_append_right _ h)))
  have hin11 : ∀ w ∈ u_ws RX11 TX11 6, w ∈ wsX11_count := fun _ h => List.mem_cons_of_mem _ (List.mem_append_left _ (List.mem_append_left _ (List.mem_append_left _ (List.mem_append_left _ (List.mem_append_left _ (List.mem_append_left _ (List.mem_append_right _ h)))))))
  unfold D_X11_count
  refine xv_mk (L' := [some (xr a0), some (xi a1), none]) [true, true, true] rfl ?_
  refine xv_aload_n rfl rfl hY dX11_count_0 rfl ?_
  refine xv_getP (ci := 11) (j := 0) hY dX11_count_1 rfl rfl rfl (by decide) hin11 (by decide) rfl (List.mem_of_getElem? (i := 1) rfl) (fun v1 => ?_)
  refine xv_getP (ci := 2) (j := 0) hY dX11_count_4 rfl rfl rfl (by decide) hin2 (by decide) rfl (List.mem_of_getElem? (i := 2) rfl) (fun v2 => ?_)
  refine xv_astore_n (L' := [some (xr a0), some (xi a1), some (xr v2)]) hY dX11_count_7 rfl rfl (by rw [hnL]; decide) rfl rfl ?_
  refine xv_iload_n rfl rfl hY dX11_count_8 rfl ?_
  refine xv_byg (fun hz => ?_)
  refine xv_byif (fun h0 => ?_) (fun h0 => ?_)
  · refine xv_swIn (off := 59) (t := 68) hY dX11_count_9 (xv_inb_in hz) (by omega) (by omega) (by rw [h0]; rfl) (by decide) ?_
    refine xv_aload_n rfl rfl hY dX11_count_68 rfl ?_
    refine xv_getI (ci := 6) (j := 0) hY dX11_count_69 rfl rfl rfl (by decide) hin6 (by decide) rfl (List.mem_of_getElem? (i := 3) rfl) (fun v44 => ?_)
    exact xv_ireti hY hfl dX11_count_72 hret (Nat.le_of_ble_eq_true rfl) (Nat.le_of_ble_eq_true rfl)
  · refine xv_byif (fun h1 => ?_) (fun h1 => ?_)
    · refine xv_swIn (off := 64) (t := 73) hY dX11_count_9 (xv_inb_in hz) (by omega) (by omega) (by rw [h1]; rfl) (by decide) ?_
      refine xv_aload_n rfl rfl hY dX11_count_73 rfl ?_
      refine xv_getP (ci := 6) (j := 1) hY dX11_count_74 rfl rfl rfl (by decide) hin6 (by decide) rfl (List.mem_of_getElem? (i := 4) rfl) (fun v42 => ?_)
      refine xv_getI (ci := 5) (j := 0) hY dX11_count_77 rfl rfl rfl (by decide) hin5 (by decide) rfl (List.mem_of_getElem? (i := 5) rfl) (fun v43 => ?_)
      exact xv_ireti hY hfl dX11_count_80 hret (Nat.le_of_ble_eq_true rfl) (Nat.le_of_ble_eq_true rfl)
    · refine xv_byif (fun h2 => ?_) (fun h2 => ?_)
      · refine xv_swIn (off := 72) (t := 81) hY dX11_count_9 (xv_inb_in hz) (by omega) (by omega) (by rw [h2]; rfl) (by decide) ?_
        refine xv_aload_n rfl rfl hY dX11_count_81 rfl ?_
        refine xv_getP (ci := 6) (j := 1) hY dX11_count_82 rfl rfl rfl (by decide) hin6 (by decide) rfl (List.mem_of_getElem? (i := 4) rfl) (fun v39 => ?_)
        refine xv_callVI (ci := 5) (y := yX5_countThere) (ws := wsX5_countThere) (rm := rm_X5_countThere) (mc := 0) (ms := 0) (n := 0) (av := []) hY dX11_count_85 rfl rfl rfl (by decide) (fun q hq => by rw [hfl]; exact S_X5_countThere Y.1.2.1 v39 M q hq) (cwV 0 hY.2.2.2.2.1 gX11_count_X5_countThere rfl rfl rfl (by decide +kernel) ⟨(by rw [hR]; exact Nat.le_of_ble_eq_true rfl), (by rw [hR]; exact Nat.le_of_ble_eq_true rfl)⟩) rfl (Nat.le_of_ble_eq_true rfl) ⟨(by rw [hR]; exact Nat.le_of_ble_eq_true rfl), (by rw [hR]; exact Nat.le_of_ble_eq_true rfl)⟩ (fun z41 M40 => ?_)
        exact xv_ireti hY hfl dX11_count_88 hret (Nat.le_of_ble_eq_true rfl) (Nat.le_of_ble_eq_true rfl)
      · refine xv_byif (fun h3 => ?_) (fun h3 => ?_)
        · refine xv_swIn (off := 80) (t := 89) hY dX11_count_9 (xv_inb_in hz) (by omega) (by omega) (by rw [h3]; rfl) (by decide) ?_
          refine xv_aload_n rfl rfl hY dX11_count_89 rfl ?_
          refine xv_getP (ci := 6) (j := 2) hY dX11_count_90 rfl rfl rfl (by decide) hin6 (by decide) rfl (List.mem_of_getElem? (i := 6) rfl) (fun v37 => ?_)
          refine xv_getI (ci := 9) (j := 0) hY dX11_count_93 rfl rfl rfl (by decide) hin9 (by decide) rfl (List.mem_of_getElem? (i := 7) rfl) (fun v38 => ?_)
          exact xv_ireti hY hfl dX11_count_96 hret (Nat.le_of_ble_eq_true rfl) (Nat.le_of_ble_eq_true rfl)
        · refine xv_byif (fun h4 => ?_) (fun h4 => ?_)
          · refine xv_swIn (off := 88) (t := 97) hY dX11_count_9 (xv_inb_in hz) (by omega) (by omega) (by rw [h4]; rfl) (by decide) ?_
            refine xv_aload_n rfl rfl hY dX11_count_97 rfl ?_
            refine xv_getP (ci := 6) (j := 2) hY dX11_count_98 rfl rfl rfl (by decide) hin6 (by decide) rfl (List.mem_of_getElem? (i := 6) rfl) (fun v31 => ?_)
            refine xv_getP (ci := 9) (j := 4) hY dX11_count_101 rfl rfl rfl (by decide) hin9 (by decide) rfl (List.mem_of_getElem? (i := 8) rfl) (fun v32 => ?_)
            refine xv_aload_n rfl rfl hY dX11_count_104 rfl ?_
            refine xv_getP (ci := 6) (j := 2) hY dX11_count_105 rfl rfl rfl (by decide) hin6 (by decide) rfl (List.mem_of_getElem? (i := 6) rfl) (fun v33 => ?_)
            refine xv_getI (ci := 9) (j := 0) hY dX11_count_108 rfl rfl rfl (by decide) hin9 (by decide) rfl (List.mem_of_getElem? (i := 7) rfl) (fun v34 => ?_)
            refine xv_callSI (y := yX11_sumOf) (ws := wsX11_sumOf) (rm := rm_X11_sumOf) (mc := 0) (ms := 0) (n := 2) (av := [xr v32, xi v34]) hY dX11_count_111 rfl rfl (fun q hq => by rw [hfl]; exact S_X11_sumOf Y.1.2.1 v32 v34 M q hq) (va_cwS 2 hY.2.2.2.2.1 gX11_count_X11_sumOf rfl rfl rfl (by decide +kernel) ⟨(by rw [hR]; exact Nat.le_of_ble_eq_true rfl), (by rw [hR]; exact Nat.le_of_ble_eq_true rfl)⟩) rfl (Nat.le_of_ble_eq_true rfl) ⟨(by rw [hR]; exact Nat.le_of_ble_eq_true rfl), (by rw [hR]; exact Nat.le_of_ble_eq_true rfl)⟩ (fun z36 M35 => ?_)
            exact xv_ireti hY hfl dX11_count_114 hret (Nat.le_of_ble_eq_true rfl) (Nat.le_of_ble_eq_true rfl)
          · refine xv_byif (fun h5 => ?_) (fun h5 => ?_)
            · refine xv_swIn (off := 106) (t := 115) hY dX11_count_9 (xv_inb_in hz) (by omega) (by omega) (by rw [h5]; rfl) (by decide) ?_
              refine xv_aload_n rfl rfl hY dX11_count_115 rfl ?_
              refine xv_getP (ci := 6) (j := 2) hY dX11_count_116 rfl rfl rfl (by decide) hin6 (by decide) rfl (List.mem_of_getElem? (i := 6) rfl) (fun v25 => ?_)
              refine xv_getP (ci := 9) (j := 5) hY dX11_count_119 rfl rfl rfl (by decide) hin9 (by decide) rfl (List.mem_of_getElem? (i := 9) rfl) (fun v26 => ?_)
              refine xv_aload_n rfl rfl hY dX11_count_122 rfl ?_
              refine xv_getP (ci := 6) (j := 2) hY dX11_count_123 rfl rfl rfl (by decide) hin6 (by decide) rfl (List.mem_of_getElem? (i := 6) rfl) (fun v27 => ?_)
              refine xv_getI (ci := 9) (j := 0) hY dX11_count_126 rfl rfl rfl (by decide) hin9 (by decide) rfl (List.mem_of_getElem? (i := 7) rfl) (fun v28 => ?_)
              refine xv_callSI (y := yX11_sumOf) (ws := wsX11_sumOf) (rm := rm_X11_sumOf) (mc := 0) (ms := 0) (n := 2) (av := [xr v26, xi v28]) hY dX11_count_129 rfl rfl (fun q hq => by rw [hfl]; exact S_X11_sumOf Y.1.2.1 v26 v28 M q hq) (va_cwS 2 hY.2.2.2.2.1 gX11_count_X11_sumOf rfl rfl rfl (by decide +kernel) ⟨(by rw [hR]; exact Nat.le_of_ble_eq_true rfl), (by rw [hR]; exact Nat.le_of_ble_eq_true rfl)⟩) rfl (Nat.le_of_ble_eq_true rfl) ⟨(by rw [hR]; exact Nat.le_of_ble_eq_true rfl), (by rw [hR]; exact Nat.le_of_ble_eq_true rfl)⟩ (fun z30 M29 => ?_)
              exact xv_ireti hY hfl dX11_count_132 hret (Nat.le_of_ble_eq_true rfl) (Nat.le_of_ble_eq_true rfl)
            · refine xv_byif (fun h6 => ?_) (fun h6 => ?_)
              · refine xv_swIn (off := 124) (t := 133) hY dX11_count_9 (xv_inb_in hz) (by omega) (by omega) (by rw [h6]; rfl) (by decide) ?_
                refine xv_aload_n rfl rfl hY dX11_count_133 rfl ?_
                refine xv_getP (ci := 6) (j := 1) hY dX11_count_134 rfl rfl rfl (by decide) hin6 (by decide) rfl (List.mem_of_getElem? (i := 4) rfl) (fun v22 => ?_)
                refine xv_callVI (ci := 5) (y := yX5_countPairs) (ws := wsX5_countPairs) (rm := rm_X5_countPairs) (mc := 0) (ms := 0) (n := 0) (av := []) hY dX11_count_137 rfl rfl rfl (by decide) (fun q hq => by rw [hfl]; exact S_X5_countPairs Y.1.2.1 v22 M q hq) (cwV 0 hY.2.2.2.2.1 gX11_count_X5_countPairs rfl rfl rfl (by decide +kernel) ⟨(by rw [hR]; exact Nat.le_of_ble_eq_true rfl), (by rw [hR]; exact Nat.le_of_ble_eq_true rfl)⟩) rfl (Nat.le_of_ble_eq_true rfl) ⟨(by rw [hR]; exact Nat.le_of_ble_eq_true rfl), (by rw [hR]; exact Nat.le_of_ble_eq_true rfl)⟩ (fun z24 M23 => ?_)
                exact xv_ireti hY hfl dX11_count_140 hret (Nat.le_of_ble_eq_true rfl) (Nat.le_of_ble_eq_true rfl)
              · refine xv_byif (fun h7 => ?_) (fun h7 => ?_)
                · refine xv_swIn (off := 132) (t := 141) hY dX11_count_9 (xv_inb_in hz) (by omega) (by omega) (by rw [h7]; rfl) (by decide) ?_
                  refine xv_aload_n rfl rfl hY dX11_count_141 rfl ?_
                  refine xv_getP (ci := 6) (j := 2) hY dX11_count_142 rfl rfl rfl (by decide) hin6 (by decide) rfl (List.mem_of_getElem? (i := 6) rfl) (fun v17 => ?_)
                  refine xv_callVJ (ci := 9) (y := yX9_insideOfAny) (ws := wsX9_insideOfAny) (rm := rm_X9_insideOfAny) (mc := 0) (ms := 0) (n := 0) (av := []) hY dX11_count_145 rfl rfl rfl (by decide) (fun q hq => by rw [hfl]; exact S_X9_insideOfAny Y.1.2.1 v17 M q hq) (cwV 0 hY.2.2.2.2.1 gX11_count_X9_insideOfAny rfl rfl rfl (by decide +kernel) ⟨(by rw [hR]; exact Nat.le_of_ble_eq_true rfl), (by rw [hR]; exact Nat.le_of_ble_eq_true rfl)⟩) rfl (Nat.le_of_ble_eq_true rfl) ⟨(by rw [hR]; exact Nat.le_of_ble_eq_true rfl), (by rw [hR]; exact Nat.le_of_ble_eq_true rfl)⟩ (fun z19 M18 => ?_)
                  refine xv_callSI (y := yJ13_bitCount_95d88) (ws := wsJ13_bitCount_95d88) (rm := rm_J13_bitCount_95d88) (mc := 0) (ms := 0) (n := 1) (av := [xl z19]) hY dX11_count_148 rfl rfl (fun q hq => by rw [hfl]; exact S_J13_bitCount_95d88 Y.1.2.1 z19 M18 q hq) (va_cwS 1 hY.2.2.2.2.1 gX11_count_J13_bitCount_95d88 rfl rfl rfl (by decide +kernel) ⟨(by rw [hR]; exact Nat.le_of_ble_eq_true rfl), (by rw [hR]; exact Nat.le_of_ble_eq_true rfl)⟩) rfl (Nat.le_of_ble_eq_true rfl) ⟨(by rw [hR]; exact Nat.le_of_ble_eq_true rfl), (by rw [hR]; exact Nat.le_of_ble_eq_true rfl)⟩ (fun z21 M20 => ?_)
                  exact xv_ireti hY hfl dX11_count_151 hret (Nat.le_of_ble_eq_true rfl) (Nat.le_of_ble_eq_true rfl)
                · refine xv_byif (fun h8 => ?_) (fun h8 => ?_)
                  · refine xv_swIn (off := 143) (t := 152) hY dX11_count_9 (xv_inb_in hz) (by omega) (by omega) (by rw [h8]; rfl) (by decide) ?_
                    refine xv_aload_n rfl rfl hY dX11_count_152 rfl ?_
                    refine xv_getP (ci := 6) (j := 1) hY dX11_count_153 rfl rfl rfl (by decide) hin6 (by decide) rfl (List.mem_of_getElem? (i := 4) rfl) (fun v7 => ?_)
                    refine xv_aload_n rfl rfl hY dX11_count_156 rfl ?_
                    refine xv_getP (ci := 6) (j := 1) hY dX11_count_157 rfl rfl rfl (by decide) hin6 (by decide) rfl (List.mem_of_getElem? (i := 4) rfl) (fun v8 => ?_)
                    refine xv_getP (ci := 5) (j := 4) hY dX11_count_160 rfl rfl rfl (by decide) hin5 (by decide) rfl (List.mem_of_getElem? (i := 10) rfl) (fun v9 => ?_)
                    refine xv_callVI (ci := 5) (y := yX5_countDifferent) (ws := wsX5_countDifferent) (rm := rm_X5_countDifferent) (mc := 0) (ms := 0) (n := 1) (av := [xr v9]) hY dX11_count_163 rfl rfl rfl (by decide) (fun q hq => by rw [hfl]; exact S_X5_countDifferent Y.1.2.1 v7 v9 M q hq) (cwV 1 hY.2.2.2.2.1 gX11_count_X5_countDifferent rfl rfl rfl (by decide +kernel) ⟨(by rw [hR]; exact Nat.le_of_ble_eq_true rfl), (by rw [hR]; exact Nat.le_of_ble_eq_true rfl)⟩) rfl (Nat.le_of_ble_eq_true rfl) ⟨(by rw [hR]; exact Nat.le_of_ble_eq_true rfl), (by rw [hR]; exact Nat.le_of_ble_eq_true rfl)⟩ (fun z11 M10 => ?_)
                    refine xv_aload_n rfl rfl hY dX11_count_166 rfl ?_
                    refine xv_getP (ci := 6) (j := 1) hY dX11_count_167 rfl rfl rfl (by decide) hin6 (by decide) rfl (List.mem_of_getElem? (i := 4) rfl) (fun v12 => ?_)
                    refine xv_aload_n rfl rfl hY dX11_count_170 rfl ?_
                    refine xv_getP (ci := 6) (j := 1) hY dX11_count_171 rfl rfl rfl (by decide) hin6 (by decide) rfl (List.mem_of_getElem? (i := 4) rfl) (fun v13 => ?_)
                    refine xv_getP (ci := 5) (j := 5) hY dX11_count_174 rfl rfl rfl (by decide) hin5 (by decide) rfl (List.mem_of_getElem? (i := 11) rfl) (fun v14 => ?_)
                    refine xv_callVI (ci := 5) (y := yX5_countDifferent) (ws := wsX5_countDifferent) (rm := rm_X5_countDifferent) (mc := 0) (ms := 0) (n := 1) (av := [xr v14]) hY dX11_count_177 rfl rfl rfl (by decide) (fun q hq => by rw [hfl]; exact S_X5_countDifferent Y.1.2.1 v12 v14 M10 q hq) (cwV 1 hY.2.2.2.2.1 gX11_count_X5_countDifferent rfl rfl rfl (by decide +kernel) ⟨(by rw [hR]; exact Nat.le_of_ble_eq_true rfl), (by rw [hR]; exact Nat.le_of_ble_eq_true rfl)⟩) rfl (Nat.le_of_ble_eq_true rfl) ⟨(by rw [hR]; exact Nat.le_of_ble_eq_true rfl), (by rw [hR]; exact Nat.le_of_ble_eq_true rfl)⟩ (fun z16 M15 => ?_)
                    refine xv_iadd hY dX11_count_180 rfl ?_
                    exact xv_ireti hY hfl dX11_count_181 hret (Nat.le_of_ble_eq_true rfl) (Nat.le_of_ble_eq_true rfl)
                  · refine xv_byif (fun h9 => ?_) (fun h9 => ?_)
                    · refine xv_swIn (off := 173) (t := 182) hY dX11_count_9 (xv_inb_in hz) (by omega) (by omega) (by rw [h9]; rfl) (by decide) ?_
                      refine xv_aload_n rfl rfl hY dX11_count_182 rfl ?_
                      refine xv_getP (ci := 11) (j := 1) hY dX11_count_183 rfl rfl rfl (by decide) hin11 (by decide) rfl (List.mem_of_getElem? (i := 12) rfl) (fun v5 => ?_)
                      refine xv_getI (ci := 1) (j := 0) hY dX11_count_186 rfl rfl rfl (by decide) hin1 (by decide) rfl (List.mem_of_getElem? (i := 13) rfl) (fun v6 => ?_)
                      exact xv_ireti hY hfl dX11_count_189 hret (Nat.le_of_ble_eq_true rfl) (Nat.le_of_ble_eq_true rfl)
                    · refine xv_byif (fun h10 => ?_) (fun h10 => ?_)
                      · refine xv_swIn (off := 181) (t := 190) hY dX11_count_9 (xv_inb_in hz) (by omega) (by omega) (by rw [h10]; rfl) (by decide) ?_
                        refine xv_aload_n rfl rfl hY dX11_count_190 rfl ?_
                        refine xv_getP (ci := 11) (j := 3) hY dX11_count_191 rfl rfl rfl (by decide) hin11 (by decide) rfl (List.mem_of_getElem? (i := 14) rfl) (fun v3 => ?_)
                        refine xv_getI (ci := 7) (j := 0) hY dX11_count_194 rfl rfl rfl (by decide) hin7 (by decide) rfl (List.mem_of_getElem? (i := 15) rfl) (fun v4 => ?_)
                        exact xv_ireti hY hfl dX11_count_197 hret (Nat.le_of_ble_eq_true rfl) (Nat.le_of_ble_eq_true rfl)
                      · refine xv_swOut hY dX11_count_9 (xv_inb_in hz) (by omega) (t := 198) (by decide) ?_
                        refine xv_bipush (by decide) hY dX11_count_198 rfl ?_
                        exact xv_ireti hY hfl dX11_count_200 hret (Nat.le_of_ble_eq_true rfl) (Nat.le_of_ble_eq_true rfl)
set_option maxHeartbeats 4000000 in
set_option maxRecDepth 100000 in
theorem S_X12_init (l : Launch) (a0 : Nat) (M : xv_M) (q : Unit × xv_M) (h : D_X12_init a0 M = some q) : xv_Met l yX12_init wsX12_init rm_X12_init 6 7282 true [xr a0] M (xv_qV true q) := by
  refine xv_enter (cc := cX12_init) (nL := 1) (ret := none) rfl (by decide +kernel) (Nat.le_of_ble_eq_true rfl) h ?_
  intro Y hY0 hl hR hnL hfl hret hnm0
  have hY : xv_ok Y cX12_init wsX12_init RX12 := hY0
  have hin12 : ∀ w ∈ u_ws RX12 TX12 18, w ∈ wsX12_init := fun _ h => List.mem_cons_of_mem _ (List.mem_append_right _ h)
  unfold D_X12_init
  refine xv_mk (L' := [some (xr a0)]) [true] rfl ?_
  refine xv_aload_n rfl rfl hY dX12_init_0 rfl ?_
  refine xv_objInit hY dX12_init_1 rfl (by decide +kernel) (by decide +kernel) (by decide +kernel) (by rw [hR]; exact Nat.le_of_ble_eq_true rfl) (by rw [hR]; exact Nat.le_of_ble_eq_true rfl) ?_
  refine xv_aload_n rfl rfl hY dX12_init_4 rfl ?_
  refine xv_sipush (by decide) hY dX12_init_5 rfl ?_
  refine xv_newaI (N := 870) hY hfl dX12_init_8 rfl rfl (by decide) (by decide +kernel) (by rw [hR]; exact Nat.le_of_ble_eq_true rfl) (by rw [hR]; exact Nat.le_of_ble_eq_true rfl) (fun r1 M2 => ?_)
  refine xv_putP (ci := 12) (j := 0) hY dX12_init_10 rfl rfl rfl (by decide) hin12 (by decide) rfl (List.mem_of_getElem? (i := 5) rfl) tyX12_ok nmX12 (Or.inr ⟨rfl, hnm0, rfl⟩) (Or.inr ⟨_, rfl⟩) (fun M3 => ?_)
  refine xv_aload_n rfl rfl hY dX12_init_13 rfl ?_
  refine xv_sipush (by decide) hY dX12_init_14 rfl ?_
  refine xv_newaI (N := 3480) hY hfl dX12_init_17 rfl rfl (by decide) (by decide +kernel) (by rw [hR]; exact Nat.le_of_ble_eq_true rfl) (by rw [hR]; exact Nat.le_of_ble_eq_true rfl) (fun r4 M5 => ?_)
  refine xv_putP (ci := 12) (j := 1) hY dX12_init_19 rfl rfl rfl (by decide) hin12 (by decide) rfl (List.mem_of_getElem? (i := 6) rfl) tyX12_ok nmX12 (Or.inr ⟨rfl, hnm0, rfl⟩) (Or.inr ⟨_, rfl⟩) (fun M6 => ?_)
  refine xv_aload_n rfl rfl hY dX12_init_22 rfl ?_
  refine xv_sipush (by decide) hY dX12_init_23 rfl ?_
  refine xv_newaI (N := 870) hY hfl dX12_init_26 rfl rfl (by decide) (by decide +kernel) (by rw [hR]; exact Nat.le_of_ble_eq_true rfl) (by rw [hR]; exact Nat.le_of_ble_eq_true rfl) (fun r7 M8 => ?_)
  refine xv_putP (ci := 12) (j := 3) hY dX12_init_28 rfl rfl rfl (by decide) hin12 (by decide) rfl (List.mem_of_getElem? (i := 7) rfl) tyX12_ok nmX12 (Or.inr ⟨rfl, hnm0, rfl⟩) (Or.inr ⟨_, rfl⟩) (fun M9 => ?_)
  refine xv_aload_n rfl rfl hY dX12_init_31 rfl ?_
  refine xv_bipush (by decide) hY dX12_init_32 rfl ?_
  refine xv_newaC (N := 60) hY hfl dX12_init_34 rfl rfl (by decide) (by decide +kernel) (by rw [hR]; exact Nat.le_of_ble_eq_true rfl) (by rw [hR]; exact Nat.le_of_ble_eq_true rfl) (fun r10 M11 => ?_)
  refine xv_putP (ci := 12) (j := 6) hY dX12_init_36 rfl rfl rfl (by decide) hin12 (by decide) rfl (List.mem_of_getElem? (i := 9) rfl) tyX12_ok nmX12 (Or.inr ⟨rfl, hnm0, rfl⟩) (Or.inr ⟨_, rfl⟩) (fun M12 => ?_)
  refine xv_aload_n rfl rfl hY dX12_init_39 rfl ?_
  refine xv_sipush (by decide) hY dX12_init_40 rfl ?_
  refine xv_newaZ (N := 1001) hY hfl dX12_init_43 rfl rfl (by decide) (by decide +kernel) (by rw [hR]; exact Nat.le_of_ble_eq_true rfl) (by rw [hR]; exact Nat.le_of_ble_eq_true rfl) (fun r13 M14 => ?_)
  refine xv_putP (ci := 12) (j := 15) hY dX12_init_45 rfl rfl rfl (by decide) hin12 (by decide) rfl (List.mem_of_getElem? (i := 11) rfl) tyX12_ok nmX12 (Or.inr ⟨rfl, hnm0, rfl⟩) (Or.inr ⟨_, rfl⟩) (fun M15 => ?_)
  refine xv_aload_n rfl rfl hY dX12_init_48 rfl ?_
  refine xv_sipush (by decide) hY dX12_init_49 rfl ?_
  refine xv_newaI (N := 1001) hY hfl dX12_init_52 rfl rfl (by decide) (by decide +kernel) (by rw [hR]; exact Nat.le_of_ble_eq_true rfl) (by rw [hR]; exact Nat.le_of_ble_eq_true rfl) (fun r16 M17 => ?_)
  refine xv_putP (ci := 12) (j := 16) hY dX12_init_54 rfl rfl rfl (by decide) hin12 (by decide) rfl (List.mem_of_getElem? (i := 12) rfl) tyX12_ok nmX12 (Or.inr ⟨rfl, hnm0, rfl⟩) (Or.inr ⟨_, rfl⟩) (fun M18 => ?_)
  exact xv_vretu hY hfl dX12_init_57 hret (Nat.le_of_ble_eq_true rfl) (Nat.le_of_ble_eq_true rfl)
set_option maxHeartbeats 4000000 in
set_option maxRecDepth 100000 in
theorem S_X12_in (l : Launch) (a0 : Int) (a1 : Int) (a2 : Int) (M : xv_M) (q : Int × xv_M) (h : D_X12_in a0 a1 a2 M = some q) : xv_Met l yX12_in wsX12_in rm_X12_in 0 0 false [xi a0, xi a1, xi a2] M (xv_qI false q) := by
  refine xv_enter (cc := cX12_in) (nL := 3) (ret := (some .boolean)) rfl (by decide +kernel) (Nat.le_of_ble_eq_true rfl) h ?_
  intro Y hY0 hl hR hnL hfl hret hnm0
  have hY : xv_ok Y cX12_in wsX12_in RX12 := hY0
  unfold D_X12_in
  refine xv_mk (L' := [some (xi a0), some (xi a1), some (xi a2)]) [true, true, true] rfl ?_
  refine xv_iload_n rfl rfl hY dX12_in_0 rfl ?_
  refine xv_iload_n rfl rfl hY dX12_in_1 rfl ?_
  refine xv_icmp_lt (t := 14) hY dX12_in_2 (by decide) rfl ?_ ?_
  · refine xv_iconst hY dX12_in_14 rfl ?_
    exact xv_iretz hY hfl dX12_in_15 hret (Nat.le_of_ble_eq_true rfl) (Nat.le_of_ble_eq_true rfl)
  · refine xv_iload_n rfl rfl hY dX12_in_5 rfl ?_
    refine xv_iload_n rfl rfl hY dX12_in_6 rfl ?_
    refine xv_icmp_gt (t := 14) hY dX12_in_7 (by decide) rfl ?_ ?_
    · refine xv_iconst hY dX12_in_14 rfl ?_
      exact xv_iretz hY hfl dX12_in_15 hret (Nat.le_of_ble_eq_true rfl) (Nat.le_of_ble_eq_true rfl)
    · refine xv_iconst hY dX12_in_10 rfl ?_
      refine xv_goto (pc' := 15) hY dX12_in_11 (by decide) ?_
      exact xv_iretz hY hfl dX12_in_15 hret (Nat.le_of_ble_eq_true rfl) (Nat.le_of_ble_eq_true rfl)
set_option maxHeartbeats 4000000 in
set_option maxRecDepth 100000 in
theorem S_X12_of (l : Launch) (a0 : Nat) (a1 : Int) (a2 : Int) (M : xv_M) (q : Int × xv_M) (h : D_X12_of a0 a1 a2 M = some q) : xv_Met l yX12_of wsX12_of rm_X12_of 0 0 false [xr a0, xi a1, xi a2] M (xv_qI false q) := by
  refine xv_enter (cc := cX12_of) (nL := 3) (ret := (some .int)) rfl (by decide +kernel) (Nat.le_of_ble_eq_true rfl) h ?_
  intro Y hY0 hl hR hnL hfl hret hnm0
  have hY : xv_ok Y cX12_of wsX12_of RX12 := hY0
  have hin12 : ∀ w ∈ u_ws RX12 TX12 18, w ∈ wsX12_of := fun _ h => List.mem_cons_of_mem _ (List.mem_append_right _ h)
  unfold D_X12_of
  refine xv_mk (L' := [some (xr a0), some (xi a1), some (xi a2)]) [true, true, true] rfl ?_
  refine xv_aload_n rfl rfl hY dX12_of_0 rfl ?_
  refine xv_getP (ci := 12) (j := 0) hY dX12_of_1 rfl rfl rfl (by decide) hin12 (by decide) rfl (List.mem_of_getElem? (i := 1) rfl) (fun v1 => ?_)
  refine xv_bipush (by decide) hY dX12_of_4 rfl ?_
  refine xv_bipush (by decide) hY dX12_of_6 rfl ?_
  refine xv_iload_n rfl rfl hY dX12_of_8 rfl ?_
  refine xv_imul hY dX12_of_9 rfl ?_
  refine xv_iadd hY dX12_of_10 rfl ?_
  refine xv_iload_n rfl rfl hY dX12_of_11 rfl ?_
  refine xv_iadd hY dX12_of_12 rfl ?_
  refine xv_iald hY dX12_of_13 rfl (fun v2 => ?_)
  exact xv_ireti hY hfl dX12_of_14 hret (Nat.le_of_ble_eq_true rfl) (Nat.le_of_ble_eq_true rfl)
set_option maxHeartbeats 4000000 in
set_option maxRecDepth 100000 in
theorem S_X12_puts (l : Launch) (a0 : Nat) (a1 : Int) (a2 : Int) (a3 : Int) (M : xv_M) (q : Unit × xv_M) (h : D_X12_puts a0 a1 a2 a3 M = some q) : xv_Met l yX12_puts wsX12_puts rm_X12_puts 0 0 false [xr a0, xi a1, xi a2, xi a3] M (xv_qV false q) := by
  refine xv_enter (cc := cX12_puts) (nL := 4) (ret := none) rfl (by decide +kernel) (Nat.le_of_ble_eq_true rfl) h ?_
  intro Y hY0 hl hR hnL hfl hret hnm0
  have hY : xv_ok Y cX12_puts wsX12_puts RX12 := hY0
  have hin12 : ∀ w ∈ u_ws RX12 TX12 18, w ∈ wsX12_puts := fun _ h => List.mem_cons_of_mem _ (List.mem_append_right _ h)
  unfold D_X12_puts
  refine xv_mk (L' := [some (xr a0), some (xi a1), some (xi a2), some (xi a3)]) [true, true, true, true] rfl ?_
  refine xv_aload_n rfl rfl hY dX12_puts_0 rfl ?_
  refine xv_getP (ci := 12) (j := 0) hY dX12_puts_1 rfl rfl rfl (by decide) hin12 (by decide) rfl (List.mem_of_getElem? (i := 1) rfl) (fun v1 => ?_)
  refine xv_bipush (by decide) hY dX12_puts_4 rfl ?_
  refine xv_bipush (by decide) hY dX12_puts_6 rfl ?_
  refine xv_iload_n rfl rfl hY dX12_puts_8 rfl ?_
  refine xv_imul hY dX12_puts_9 rfl ?_
  refine xv_iadd hY dX12_puts_10 rfl ?_
  refine xv_iload_n rfl rfl hY dX12_puts_11 rfl ?_
  refine xv_iadd hY dX12_puts_12 rfl ?_
  refine xv_iload_n rfl rfl hY dX12_puts_13 rfl ?_
  refine xv_iast hY hfl dX12_puts_14 rfl (fun M2 => ?_)
  exact xv_vretu hY hfl dX12_puts_15 hret (Nat.le_of_ble_eq_true rfl) (Nat.le_of_ble_eq_true rfl)
set_option maxHeartbeats 4000000 in
set_option maxRecDepth 100000 in
theorem S_X12_isThere (l : Launch) (a0 : Nat) (a1 : Int) (M : xv_M) (q : Int × xv_M) (h : D_X12_isThere a0 a1 M = some q) : xv_Met l yX12_isThere wsX12_isThere rm_X12_isThere 0 0 false [xr a0, xi a1] M (xv_qI false q) := by
  refine xv_enter (cc := cX12_isThere) (nL := 2) (ret := (some .boolean)) rfl (by decide +kernel) (Nat.le_of_ble_eq_true rfl) h ?_
  intro Y hY0 hl hR hnL hfl hret hnm0
  have hY : xv_ok Y cX12_isThere wsX12_isThere RX12 := hY0
  unfold D_X12_isThere
  refine xv_mk (L' := [some (xr a0), some (xi a1)]) [true, true] rfl ?_
  refine xv_aload_n rfl rfl hY dX12_isThere_0 rfl ?_
  refine xv_iload_n rfl rfl hY dX12_isThere_1 rfl ?_
  refine xv_iconst hY dX12_isThere_2 rfl ?_
  refine xv_callVI (ci := 12) (y := yX12_of) (ws := wsX12_of) (rm := rm_X12_of) (mc := 0) (ms := 0) (n := 2) (av := [xi a1, xi (4 : Int)]) hY dX12_isThere_3 rfl rfl rfl (by decide) (fun q hq => by rw [hfl]; exact S_X12_of Y.1.2.1 a0 a1 (4 : Int) M q hq) (cwV 2 hY.2.2.2.2.1 gX12_isThere_X12_of rfl rfl rfl (by decide +kernel) ⟨(by rw [hR]; exact Nat.le_of_ble_eq_true rfl), (by rw [hR]; exact Nat.le_of_ble_eq_true rfl)⟩) rfl (Nat.le_of_ble_eq_true rfl) ⟨(by rw [hR]; exact Nat.le_of_ble_eq_true rfl), (by rw [hR]; exact Nat.le_of_ble_eq_true rfl)⟩ (fun z2 M1 => ?_)
  refine xv_iconst hY dX12_isThere_6 rfl ?_
  refine xv_icmp_ne (t := 14) hY dX12_isThere_7 (by decide) rfl ?_ ?_
  · refine xv_iconst hY dX12_isThere_14 rfl ?_
    exact xv_iretz hY hfl dX12_isThere_15 hret (Nat.le_of_ble_eq_true rfl) (Nat.le_of_ble_eq_true rfl)
  · refine xv_iconst hY dX12_isThere_10 rfl ?_
    refine xv_goto (pc' := 15) hY dX12_isThere_11 (by decide) ?_
    exact xv_iretz hY hfl dX12_isThere_15 hret (Nat.le_of_ble_eq_true rfl) (Nat.le_of_ble_eq_true rfl)
set_option maxHeartbeats 4000000 in
set_option maxRecDepth 100000 in
theorem S_X12_noSpan (l : Launch) (a0 : Nat) (a1 : Int) (M : xv_M) (q : Int × xv_M) (h : D_X12_noSpan a0 a1 M = some q) : xv_Met l yX12_noSpan wsX12_noSpan rm_X12_noSpan 0 0 false [xr a0, xi a1] M (xv_qI false q) := by
  refine xv_enter (cc := cX12_noSpan) (nL := 2) (ret := (some .boolean)) rfl (by decide +kernel) (Nat.le_of_ble_eq_true rfl) h ?_
  intro Y hY0 hl hR hnL hfl hret hnm0
  have hY : xv_ok Y cX12_noSpan wsX12_noSpan RX12 := hY0
  have hin12 : ∀ w ∈ u_ws RX12 TX12 18, w ∈ wsX12_noSpan := fun _ h => List.mem_cons_of_mem _ (List.mem_append_right _ h)
  unfold D_X12_noSpan
  refine xv_mk (L' := [some (xr a0), some (xi a1)]) [true, true] rfl ?_
  refine xv_iload_n rfl rfl hY dX12_noSpan_0 rfl ?_
  refine xv_iconst hY dX12_noSpan_1 rfl ?_
  refine xv_aload_n rfl rfl hY dX12_noSpan_2 rfl ?_
  refine xv_getP (ci := 12) (j := 0) hY dX12_noSpan_3 rfl rfl rfl (by decide) hin12 (by decide) rfl (List.mem_of_getElem? (i := 1) rfl) (fun v1 => ?_)
  refine xv_iconst hY dX12_noSpan_6 rfl ?_
  refine xv_iald hY dX12_noSpan_7 rfl (fun v2 => ?_)
  refine xv_iconst hY dX12_noSpan_8 rfl ?_
  refine xv_isub hY dX12_noSpan_9 rfl ?_
  refine xv_callSI (y := yX12_in) (ws := wsX12_in) (rm := rm_X12_in) (mc := 0) (ms := 0) (n := 3) (av := [xi a1, xi (0 : Int), xi (v2 - (1 : Int))]) hY dX12_noSpan_10 rfl rfl (fun q hq => by rw [hfl]; exact S_X12_in Y.1.2.1 a1 (0 : Int) (v2 - (1 : Int)) M q hq) (va_cwS 3 hY.2.2.2.2.1 gX12_noSpan_X12_in rfl rfl rfl (by decide +kernel) ⟨(by rw [hR]; exact Nat.le_of_ble_eq_true rfl), (by rw [hR]; exact Nat.le_of_ble_eq_true rfl)⟩) rfl (Nat.le_of_ble_eq_true rfl) ⟨(by rw [hR]; exact Nat.le_of_ble_eq_true rfl), (by rw [hR]; exact Nat.le_of_ble_eq_true rfl)⟩ (fun z4 M3 => ?_)
  refine xv_if_eq (t := 24) hY dX12_noSpan_13 (by decide) rfl ?_ ?_
  · refine xv_iconst hY dX12_noSpan_24 rfl ?_
    refine xv_goto (pc' := 29) hY dX12_noSpan_25 (by decide) ?_
    exact xv_iretz hY hfl dX12_noSpan_29 hret (Nat.le_of_ble_eq_true rfl) (Nat.le_of_ble_eq_true rfl)
  · refine xv_aload_n rfl rfl hY dX12_noSpan_16 rfl ?_
    refine xv_iload_n rfl rfl hY dX12_noSpan_17 rfl ?_
    refine xv_callVI (ci := 12) (y := yX12_isThere) (ws := wsX12_isThere) (rm := rm_X12_isThere) (mc := 0) (ms := 0) (n := 1) (av := [xi a1]) hY dX12_noSpan_18 rfl rfl rfl (by decide) (fun q hq => by rw [hfl]; exact S_X12_isThere Y.1.2.1 a0 a1 M3 q hq) (cwV 1 hY.2.2.2.2.1 gX12_noSpan_X12_isThere rfl rfl rfl (by decide +kernel) ⟨(by rw [hR]; exact Nat.le_of_ble_eq_true rfl), (by rw [hR]; exact Nat.le_of_ble_eq_true rfl)⟩) rfl (Nat.le_of_ble_eq_true rfl) ⟨(by rw [hR]; exact Nat.le_of_ble_eq_true rfl), (by rw [hR]; exact Nat.le_of_ble_eq_true rfl)⟩ (fun z6 M5 => ?_)
    refine xv_if_ne (t := 28) hY dX12_noSpan_21 (by decide) rfl ?_ ?_
    · refine xv_iconst hY dX12_noSpan_28 rfl ?_
      exact xv_iretz hY hfl dX12_noSpan_29 hret (Nat.le_of_ble_eq_true rfl) (Nat.le_of_ble_eq_true rfl)
    · refine xv_iconst hY dX12_noSpan_24 rfl ?_
      refine xv_goto (pc' := 29) hY dX12_noSpan_25 (by decide) ?_
      exact xv_iretz hY hfl dX12_noSpan_29 hret (Nat.le_of_ble_eq_true rfl) (Nat.le_of_ble_eq_true rfl)
set_option maxHeartbeats 4000000 in
set_option maxRecDepth 100000 in
theorem S_X12_noWalker (l : Launch) (a0 : Nat) (a1 : Int) (M : xv_M) (q : Int × xv_M) (h : D_X12_noWalker a0 a1 M = some q) : xv_Met l yX12_noWalker wsX12_noWalker rm_X12_noWalker 0 0 false [xr a0, xi a1] M (xv_qI false q) := by
  refine xv_enter (cc := cX12_noWalker) (nL := 2) (ret := (some .boolean)) rfl (by decide +kernel) (Nat.le_of_ble_eq_true rfl) h ?_
  intro Y hY0 hl hR hnL hfl hret hnm0
  have hY : xv_ok Y cX12_noWalker wsX12_noWalker RX12 := hY0
  have hin12 : ∀ w ∈ u_ws RX12 TX12 18, w ∈ wsX12_noWalker := fun _ h => List.mem_cons_of_mem _ (List.mem_append_right _ h)
  unfold D_X12_noWalker
  refine xv_mk (L' := [some (xr a0), some (xi a1)]) [true, true] rfl ?_
  refine xv_iload_n rfl rfl hY dX12_noWalker_0 rfl ?_
  refine xv_iconst hY dX12_noWalker_1 rfl ?_
  refine xv_aload_n rfl rfl hY dX12_noWalker_2 rfl ?_
  refine xv_getP (ci := 12) (j := 0) hY dX12_noWalker_3 rfl rfl rfl (by decide) hin12 (by decide) rfl (List.mem_of_getElem? (i := 1) rfl) (fun v1 => ?_)
  refine xv_iconst hY dX12_noWalker_6 rfl ?_
  refine xv_iald hY dX12_noWalker_7 rfl (fun v2 => ?_)
  refine xv_iconst hY dX12_noWalker_8 rfl ?_
  refine xv_isub hY dX12_noWalker_9 rfl ?_
  refine xv_callSI (y := yX12_in) (ws := wsX12_in) (rm := rm_X12_in) (mc := 0) (ms := 0) (n := 3) (av := [xi a1, xi (0 : Int), xi (v2 - (1 : Int))]) hY dX12_noWalker_10 rfl rfl (fun q hq => by rw [hfl]; exact S_X12_in Y.1.2.1 a1 (0 : Int) (v2 - (1 : Int)) M q hq) (va_cwS 3 hY.2.2.2.2.1 gX12_noWalker_X12_in rfl rfl rfl (by decide +kernel) ⟨(by rw [hR]; exact Nat.le_of_ble_eq_true rfl), (by rw [hR]; exact Nat.le_of_ble_eq_true rfl)⟩) rfl (Nat.le_of_ble_eq_true rfl) ⟨(by rw [hR]; exact Nat.le_of_ble_eq_true rfl), (by rw [hR]; exact Nat.le_of_ble_eq_true rfl)⟩ (fun z4 M3 => ?_)
  refine xv_if_ne (t := 20) hY dX12_noWalker_13 (by decide) rfl ?_ ?_
  · refine xv_iconst hY dX12_noWalker_20 rfl ?_
    exact xv_iretz hY hfl dX12_noWalker_21 hret (Nat.le_of_ble_eq_true rfl) (Nat.le_of_ble_eq_true rfl)
  · refine xv_iconst hY dX12_noWalker_16 rfl ?_
    refine xv_goto (pc' := 21) hY dX12_noWalker_17 (by decide) ?_
    exact xv_iretz hY hfl dX12_noWalker_21 hret (Nat.le_of_ble_eq_true rfl) (Nat.le_of_ble_eq_true rfl)
set_option maxHeartbeats 4000000 in
set_option maxRecDepth 100000 in
theorem S_X12_its (l : Launch) (a0 : Nat) (a1 : Int) (a2 : Int) (M : xv_M) (q : Int × xv_M) (h : D_X12_its a0 a1 a2 M = some q) : xv_Met l yX12_its wsX12_its rm_X12_its 0 0 false [xr a0, xi a1, xi a2] M (xv_qI false q) := by
  refine xv_enter (cc := cX12_its) (nL := 3) (ret := (some .int)) rfl (by decide +kernel) (Nat.le_of_ble_eq_true rfl) h ?_
  intro Y hY0 hl hR hnL hfl hret hnm0
  have hY : xv_ok Y cX12_its wsX12_its RX12 := hY0
  have hin12 : ∀ w ∈ u_ws RX12 TX12 18, w ∈ wsX12_its := fun _ h => List.mem_cons_of_mem _ (List.mem_append_right _ h)
  unfold D_X12_its
  refine xv_mk (L' := [some (xr a0), some (xi a1), some (xi a2)]) [true, true, true] rfl ?_
  refine xv_aload_n rfl rfl hY dX12_its_0 rfl ?_
  refine xv_getP (ci := 12) (j := 0) hY dX12_its_1 rfl rfl rfl (by decide) hin12 (by decide) rfl (List.mem_of_getElem? (i := 1) rfl) (fun v1 => ?_)
  refine xv_sipush (by decide) hY dX12_its_4 rfl ?_
  refine xv_bipush (by decide) hY dX12_its_7 rfl ?_
  refine xv_iload_n rfl rfl hY dX12_its_9 rfl ?_
  refine xv_imul hY dX12_its_10 rfl ?_
  refine xv_iadd hY dX12_its_11 rfl ?_
  refine xv_iload_n rfl rfl hY dX12_its_12 rfl ?_
  refine xv_iadd hY dX12_its_13 rfl ?_
  refine xv_iald hY dX12_its_14 rfl (fun v2 => ?_)
  exact xv_ireti hY hfl dX12_its_15 hret (Nat.le_of_ble_eq_true rfl) (Nat.le_of_ble_eq_true rfl)
set_option maxHeartbeats 4000000 in
set_option maxRecDepth 100000 in
theorem S_X12_gives (l : Launch) (a0 : Nat) (a1 : Int) (a2 : Int) (a3 : Int) (M : xv_M) (q : Unit × xv_M) (h : D_X12_gives a0 a1 a2 a3 M = some q) : xv_Met l yX12_gives wsX12_gives rm_X12_gives 0 0 false [xr a0, xi a1, xi a2, xi a3] M (xv_qV false q) := by
  refine xv_enter (cc := cX12_gives) (nL := 4) (ret := none) rfl (by decide +kernel) (Nat.le_of_ble_eq_true rfl) h ?_
  intro Y hY0 hl hR hnL hfl hret hnm0
  have hY : xv_ok Y cX12_gives wsX12_gives RX12 := hY0
  have hin12 : ∀ w ∈ u_ws RX12 TX12 18, w ∈ wsX12_gives := fun _ h => List.mem_cons_of_mem _ (List.mem_append_right _ h)
  unfold D_X12_gives
  refine xv_mk (L' := [some (xr a0), some (xi a1), some (xi a2), some (xi a3)]) [true, true, true, true] rfl ?_
  refine xv_aload_n rfl rfl hY dX12_gives_0 rfl ?_
  refine xv_getP (ci := 12) (j := 0) hY dX12_gives_1 rfl rfl rfl (by decide) hin12 (by decide) rfl (List.mem_of_getElem? (i := 1) rfl) (fun v1 => ?_)
  refine xv_sipush (by decide) hY dX12_gives_4 rfl ?_
  refine xv_bipush (by decide) hY dX12_gives_7 rfl ?_
  refine xv_iload_n rfl rfl hY dX12_gives_9 rfl ?_
  refine xv_imul hY dX12_gives_10 rfl ?_
  refine xv_iadd hY dX12_gives_11 rfl ?_
  refine xv_iload_n rfl rfl hY dX12_gives_12 rfl ?_
  refine xv_iadd hY dX12_gives_13 rfl ?_
  refine xv_iload_n rfl rfl hY dX12_gives_14 rfl ?_
  refine xv_iast hY hfl dX12_gives_15 rfl (fun M2 => ?_)
  exact xv_vretu hY hfl dX12_gives_16 hret (Nat.le_of_ble_eq_true rfl) (Nat.le_of_ble_eq_true rfl)
set_option maxHeartbeats 4000000 in
set_option maxRecDepth 100000 in
theorem S_X12_covers (l : Launch) (a0 : Nat) (a1 : Int) (a2 : Int) (M : xv_M) (q : Int × xv_M) (h : D_X12_covers a0 a1 a2 M = some q) : xv_Met l yX12_covers wsX12_covers rm_X12_covers 0 0 false [xr a0, xi a1, xi a2] M (xv_qI false q) := by
  refine xv_enter (cc := cX12_covers) (nL := 3) (ret := (some .boolean)) rfl (by decide +kernel) (Nat.le_of_ble_eq_true rfl) h ?_
  intro Y hY0 hl hR hnL hfl hret hnm0
  have hY : xv_ok Y cX12_covers wsX12_covers RX12 := hY0
  unfold D_X12_covers
  refine xv_mk (L' := [some (xr a0), some (xi a1), some (xi a2)]) [true, true, true] rfl ?_
  refine xv_aload_n rfl rfl hY dX12_covers_0 rfl ?_
  refine xv_iload_n rfl rfl hY dX12_covers_1 rfl ?_
  refine xv_callVI (ci := 12) (y := yX12_isThere) (ws := wsX12_isThere) (rm := rm_X12_isThere) (mc := 0) (ms := 0) (n := 1) (av := [xi a1]) hY dX12_covers_2 rfl rfl rfl (by decide) (fun q hq => by rw [hfl]; exact S_X12_isThere Y.1.2.1 a0 a1 M q hq) (cwV 1 hY.2.2.2.2.1 gX12_covers_X12_isThere rfl rfl rfl (by decide +kernel) ⟨(by rw [hR]; exact Nat.le_of_ble_eq_true rfl), (by rw [hR]; exact Nat.le_of_ble_eq_true rfl)⟩) rfl (Nat.le_of_ble_eq_true rfl) ⟨(by rw [hR]; exact Nat.le_of_ble_eq_true rfl), (by rw [hR]; exact Nat.le_of_ble_eq_true rfl)⟩ (fun z2 M1 => ?_)
  refine xv_if_eq (t := 31) hY dX12_covers_5 (by decide) rfl ?_ ?_
  · refine xv_iconst hY dX12_covers_31 rfl ?_
    exact xv_iretz hY hfl dX12_covers_32 hret (Nat.le_of_ble_eq_true rfl) (Nat.le_of_ble_eq_true rfl)
  · refine xv_iload_n rfl rfl hY dX12_covers_8 rfl ?_
    refine xv_aload_n rfl rfl hY dX12_covers_9 rfl ?_
    refine xv_iload_n rfl rfl hY dX12_covers_10 rfl ?_
    refine xv_iconst hY dX12_covers_11 rfl ?_
    refine xv_callVI (ci := 12) (y := yX12_of) (ws := wsX12_of) (rm := rm_X12_of) (mc := 0) (ms := 0) (n := 2) (av := [xi a1, xi (2 : Int)]) hY dX12_covers_12 rfl rfl rfl (by decide) (fun q hq => by rw [hfl]; exact S_X12_of Y.1.2.1 a0 a1 (2 : Int) M1 q hq) (cwV 2 hY.2.2.2.2.1 gX12_covers_X12_of rfl rfl rfl (by decide +kernel) ⟨(by rw [hR]; exact Nat.le_of_ble_eq_true rfl), (by rw [hR]; exact Nat.le_of_ble_eq_true rfl)⟩) rfl (Nat.le_of_ble_eq_true rfl) ⟨(by rw [hR]; exact Nat.le_of_ble_eq_true rfl), (by rw [hR]; exact Nat.le_of_ble_eq_true rfl)⟩ (fun z4 M3 => ?_)
    refine xv_aload_n rfl rfl hY dX12_covers_15 rfl ?_
    refine xv_iload_n rfl rfl hY dX12_covers_16 rfl ?_
    refine xv_iconst hY dX12_covers_17 rfl ?_
    refine xv_callVI (ci := 12) (y := yX12_of) (ws := wsX12_of) (rm := rm_X12_of) (mc := 0) (ms := 0) (n := 2) (av := [xi a1, xi (3 : Int)]) hY dX12_covers_18 rfl rfl rfl (by decide) (fun q hq => by rw [hfl]; exact S_X12_of Y.1.2.1 a0 a1 (3 : Int) M3 q hq) (cwV 2 hY.2.2.2.2.1 gX12_covers_X12_of rfl rfl rfl (by decide +kernel) ⟨(by rw [hR]; exact Nat.le_of_ble_eq_true rfl), (by rw [hR]; exact Nat.le_of_ble_eq_true rfl)⟩) rfl (Nat.le_of_ble_eq_true rfl) ⟨(by rw [hR]; exact Nat.le_of_ble_eq_true rfl), (by rw [hR]; exact Nat.le_of_ble_eq_true rfl)⟩ (fun z6 M5 => ?_)
    refine xv_callSI (y := yX12_in) (ws := wsX12_in) (rm := rm_X12_in) (mc := 0) (ms := 0) (n := 3) (av := [xi a2, xi z4, xi z6]) hY dX12_covers_21 rfl rfl (fun q hq => by rw [hfl]; exact S_X12_in Y.1.2.1 a2 z4 z6 M5 q hq) (va_cwS 3 hY.2.2.2.2.1 gX12_covers_X12_in rfl rfl rfl (by decide +kernel) ⟨(by rw [hR]; exact Nat.le_of_ble_eq_true rfl), (by rw [hR]; exact Nat.le_of_ble_eq_true rfl)⟩) rfl (Nat.le_of_ble_eq_true rfl) ⟨(by rw [hR]; exact Nat.le_of_ble_eq_true rfl), (by rw [hR]; exact Nat.le_of_ble_eq_true rfl)⟩ (fun z8 M7 => ?_)
    refine xv_if_eq (t := 31) hY dX12_covers_24 (by decide) rfl ?_ ?_
    · refine xv_iconst hY dX12_covers_31 rfl ?_
      exact xv_iretz hY hfl dX12_covers_32 hret (Nat.le_of_ble_eq_true rfl) (Nat.le_of_ble_eq_true rfl)
    · refine xv_iconst hY dX12_covers_27 rfl ?_
      refine xv_goto (pc' := 32) hY dX12_covers_28 (by decide) ?_
      exact xv_iretz hY hfl dX12_covers_32 hret (Nat.le_of_ble_eq_true rfl) (Nat.le_of_ble_eq_true rfl)
set_option maxHeartbeats 4000000 in
set_option maxRecDepth 100000 in
theorem S_X12_isInside (l : Launch) (a0 : Nat) (a1 : Int) (a2 : Int) (M : xv_M) (q : Int × xv_M) (h : D_X12_isInside a0 a1 a2 M = some q) : xv_Met l yX12_isInside wsX12_isInside rm_X12_isInside 0 0 false [xr a0, xi a1, xi a2] M (xv_qI false q) := by
  refine xv_enter (cc := cX12_isInside) (nL := 3) (ret := (some .boolean)) rfl (by decide +kernel) (Nat.le_of_ble_eq_true rfl) h ?_
  intro Y hY0 hl hR hnL hfl hret hnm0
  have hY : xv_ok Y cX12_isInside wsX12_isInside RX12 := hY0
  have hin12 : ∀ w ∈ u_ws RX12 TX12 18, w ∈ wsX12_isInside := fun _ h => List.mem_cons_of_mem _ (List.mem_append_right _ h)
  unfold D_X12_isInside
  refine xv_mk (L' := [some (xr a0), some (xi a1), some (xi a2)]) [true, true, true] rfl ?_
  refine xv_aload_n rfl rfl hY dX12_isInside_0 rfl ?_
  refine xv_getP (ci := 12) (j := 0) hY dX12_isInside_1 rfl rfl rfl (by decide) hin12 (by decide) rfl (List.mem_of_getElem? (i := 1) rfl) (fun v1 => ?_)
  refine xv_sipush (by decide) hY dX12_isInside_4 rfl ?_
  refine xv_bipush (by decide) hY dX12_isInside_7 rfl ?_
  refine xv_iload_n rfl rfl hY dX12_isInside_9 rfl ?_
  refine xv_imul hY dX12_isInside_10 rfl ?_
  refine xv_iadd hY dX12_isInside_11 rfl ?_
  refine xv_iload_n rfl rfl hY dX12_isInside_12 rfl ?_
  refine xv_iadd hY dX12_isInside_13 rfl ?_
  refine xv_iald hY dX12_isInside_14 rfl (fun v2 => ?_)
  refine xv_if_le (t := 22) hY dX12_isInside_15 (by decide) rfl ?_ ?_
  · refine xv_iconst hY dX12_isInside_22 rfl ?_
    exact xv_iretz hY hfl dX12_isInside_23 hret (Nat.le_of_ble_eq_true rfl) (Nat.le_of_ble_eq_true rfl)
  · refine xv_iconst hY dX12_isInside_18 rfl ?_
    refine xv_goto (pc' := 23) hY dX12_isInside_19 (by decide) ?_
    exact xv_iretz hY hfl dX12_isInside_23 hret (Nat.le_of_ble_eq_true rfl) (Nat.le_of_ble_eq_true rfl)
set_option maxHeartbeats 4000000 in
set_option maxRecDepth 100000 in
theorem S_X12_record (l : Launch) (a0 : Nat) (M : xv_M) (q : Unit × xv_M) (h : D_X12_record a0 M = some q) : xv_Met l yX12_record wsX12_record rm_X12_record 0 0 false [xr a0] M (xv_qV false q) := by
  refine xv_enter (cc := cX12_record) (nL := 2) (ret := none) rfl (by decide +kernel) (Nat.le_of_ble_eq_true rfl) h ?_
  intro Y hY0 hl hR hnL hfl hret hnm0
  have hY : xv_ok Y cX12_record wsX12_record RX12 := hY0
  have hin12 : ∀ w ∈ u_ws RX12 TX12 18, w ∈ wsX12_record := fun _ h => List.mem_cons_of_mem _ (List.mem_append_right _ h)
  unfold D_X12_record
  refine xv_mk (L' := [some (xr a0), none]) [true, true] rfl ?_
  refine xv_aload_n rfl rfl hY dX12_record_0 rfl ?_
  refine xv_getI (ci := 12) (j := 2) hY dX12_record_1 rfl rfl rfl (by decide) hin12 (by decide) rfl (List.mem_of_getElem? (i := 1) rfl) (fun v1 => ?_)
  refine xv_iconst hY dX12_record_4 rfl ?_
  refine xv_join (α := xv_M) 49 (fun x2 => [some (xr a0), none]) (fun x2 => []) (fun x2 => x2) (fun x2 => ?_) (fun j3 hj3 => ?_)
  · refine xv_iconst hY dX12_record_49 rfl ?_
    refine xv_istore_n (L' := [some (xr a0), some (xi (0 : Int))]) hY dX12_record_50 rfl rfl (by rw [hnL]; decide) rfl rfl ?_
    refine xv_mk (L' := [some (xr a0), some (xi (0 : Int))]) [true, true] rfl ?_
    refine xv_loop (σ := Int × xv_M) (fun x4 => [some (xr a0), some (xi x4.1)]) (fun x4 => x4.2) (fun f5 hf5 x4 => ?_) xv_fuel ((0 : Int), x2)
    refine xv_iload_n rfl rfl hY dX12_record_51 rfl ?_
    refine xv_sipush (by decide) hY dX12_record_52 rfl ?_
    refine xv_icmp_ge (t := 85) hY dX12_record_55 (by decide) rfl ?_ ?_
    · refine xv_aload_n rfl rfl hY dX12_record_85 rfl ?_
      refine xv_dupr hY dX12_record_86 rfl ?_
      refine xv_getI (ci := 12) (j := 2) hY dX12_record_87 rfl rfl rfl (by decide) hin12 (by decide) rfl (List.mem_of_getElem? (i := 1) rfl) (fun v6 => ?_)
      refine xv_iconst hY dX12_record_90 rfl ?_
      refine xv_iadd hY dX12_record_91 rfl ?_
      refine xv_putI (ci := 12) (j := 2) hY dX12_record_92 rfl rfl rfl (by decide) hin12 (by decide) rfl (List.mem_of_getElem? (i := 1) rfl) tyX12_ok nmX12 (Or.inl rfl) rfl (fun M7 => ?_)
      exact xv_vretu hY hfl dX12_record_95 hret (Nat.le_of_ble_eq_true rfl) (Nat.le_of_ble_eq_true rfl)
    · refine xv_aload_n rfl rfl hY dX12_record_58 rfl ?_
      refine xv_getP (ci := 12) (j := 1) hY dX12_record_59 rfl rfl rfl (by decide) hin12 (by decide) rfl (List.mem_of_getElem? (i := 2) rfl) (fun v8 => ?_)
      refine xv_sipush (by decide) hY dX12_record_62 rfl ?_
      refine xv_aload_n rfl rfl hY dX12_record_65 rfl ?_
      refine xv_getI (ci := 12) (j := 2) hY dX12_record_66 rfl rfl rfl (by decide) hin12 (by decide) rfl (List.mem_of_getElem? (i := 1) rfl) (fun v9 => ?_)
      refine xv_imul hY dX12_record_69 rfl ?_
      refine xv_iload_n rfl rfl hY dX12_record_70 rfl ?_
      refine xv_iadd hY dX12_record_71 rfl ?_
      refine xv_aload_n rfl rfl hY dX12_record_72 rfl ?_
      refine xv_getP (ci := 12) (j := 0) hY dX12_record_73 rfl rfl rfl (by decide) hin12 (by decide) rfl (List.mem_of_getElem? (i := 3) rfl) (fun v10 => ?_)
      refine xv_iload_n rfl rfl hY dX12_record_76 rfl ?_
      refine xv_iald hY dX12_record_77 rfl (fun v11 => ?_)
      refine xv_iast hY hfl dX12_record_78 rfl (fun M12 => ?_)
      refine xv_iinc (L' := [some (xr a0), some (xi (x4.1 + 1))]) hY dX12_record_79 rfl (by rw [hnL]; decide) rfl rfl rfl ?_
      refine xv_goto (pc' := 51) hY dX12_record_82 (by decide) ?_
      exact xv_mk (L' := [some (xr a0), some (xi (x4.1 + 1))]) [true, true] rfl (hf5 ((x4.1 + 1), M12))
  · refine xv_icmp_ne (t := 49) hY dX12_record_5 (by decide) rfl ?_ ?_
    · exact xv_mk (L' := [some (xr a0), none]) [true, false] rfl (hj3 M)
    · refine xv_iconst hY dX12_record_8 rfl ?_
      refine xv_istore_n (L' := [some (xr a0), some (xi (0 : Int))]) hY dX12_record_9 rfl rfl (by rw [hnL]; decide) rfl rfl ?_
      refine xv_mk (L' := [some (xr a0), some (xi (0 : Int))]) [true, true] rfl ?_
      refine xv_loop (σ := Int × xv_M) (fun x13 => [some (xr a0), some (xi x13.1)]) (fun x13 => x13.2) (fun f14 hf14 x13 => ?_) xv_fuel ((0 : Int), M)
      refine xv_iload_n rfl rfl hY dX12_record_10 rfl ?_
      refine xv_sipush (by decide) hY dX12_record_11 rfl ?_
      refine xv_icmp_ge (t := 39) hY dX12_record_14 (by decide) rfl ?_ ?_
      · refine xv_aload_n rfl rfl hY dX12_record_39 rfl ?_
        refine xv_dupr hY dX12_record_40 rfl ?_
        refine xv_getI (ci := 12) (j := 2) hY dX12_record_41 rfl rfl rfl (by decide) hin12 (by decide) rfl (List.mem_of_getElem? (i := 1) rfl) (fun v15 => ?_)
        refine xv_iconst hY dX12_record_44 rfl ?_
        refine xv_isub hY dX12_record_45 rfl ?_
        refine xv_putI (ci := 12) (j := 2) hY dX12_record_46 rfl rfl rfl (by decide) hin12 (by decide) rfl (List.mem_of_getElem? (i := 1) rfl) tyX12_ok nmX12 (Or.inl rfl) rfl (fun M16 => ?_)
        exact xv_mk (L' := [some (xr a0), none]) [true, false] rfl (hj3 M16)
      · refine xv_aload_n rfl rfl hY dX12_record_17 rfl ?_
        refine xv_getP (ci := 12) (j := 1) hY dX12_record_18 rfl rfl rfl (by decide) hin12 (by decide) rfl (List.mem_of_getElem? (i := 2) rfl) (fun v17 => ?_)
        refine xv_iload_n rfl rfl hY dX12_record_21 rfl ?_
        refine xv_aload_n rfl rfl hY dX12_record_22 rfl ?_
        refine xv_getP (ci := 12) (j := 1) hY dX12_record_23 rfl rfl rfl (by decide) hin12 (by decide) rfl (List.mem_of_getElem? (i := 2) rfl) (fun v18 => ?_)
        refine xv_iload_n rfl rfl hY dX12_record_26 rfl ?_
        refine xv_sipush (by decide) hY dX12_record_27 rfl ?_
        refine xv_iadd hY dX12_record_30 rfl ?_
        refine xv_iald hY dX12_record_31 rfl (fun v19 => ?_)
        refine xv_iast hY hfl dX12_record_32 rfl (fun M20 => ?_)
        refine xv_iinc (L' := [some (xr a0), some (xi (x13.1 + 1))]) hY dX12_record_33 rfl (by rw [hnL]; decide) rfl rfl rfl ?_
        refine xv_goto (pc' := 10) hY dX12_record_36 (by decide) ?_
        exact xv_mk (L' := [some (xr a0), some (xi (x13.1 + 1))]) [true, true] rfl (hf14 ((x13.1 + 1), M20))
set_option maxHeartbeats 4000000 in
set_option maxRecDepth 100000 in
theorem S_X12_tells (l : Launch) (a0 : Nat) (a1 : Int) (a2 : Int) (a3 : Int) (M : xv_M) (q : Unit × xv_M) (h : D_X12_tells a0 a1 a2 a3 M = some q) : xv_Met l yX12_tells wsX12_tells rm_X12_tells 0 0 false [xr a0, xi a1, xi a2, xi a3] M (xv_qV false q) := by
  refine xv_enter (cc := cX12_tells) (nL := 5) (ret := none) rfl (by decide +kernel) (Nat.le_of_ble_eq_true rfl) h ?_
  intro Y hY0 hl hR hnL hfl hret hnm0
  have hY : xv_ok Y cX12_tells wsX12_tells RX12 := hY0
  have hin12 : ∀ w ∈ u_ws RX12 TX12 18, w ∈ wsX12_tells := fun _ h => List.mem_cons_of_mem _ (List.mem_append_right _ h)
  unfold D_X12_tells
  refine xv_mk (L' := [some (xr a0), some (xi a1), some (xi a2), some (xi a3), none]) [true, true, true, true, true] rfl ?_
  refine xv_aload_n rfl rfl hY dX12_tells_0 rfl ?_
  refine xv_getP (ci := 12) (j := 0) hY dX12_tells_1 rfl rfl rfl (by decide) hin12 (by decide) rfl (List.mem_of_getElem? (i := 1) rfl) (fun v1 => ?_)
  refine xv_iconst hY dX12_tells_4 rfl ?_
  refine xv_iald hY dX12_tells_5 rfl (fun v2 => ?_)
  refine xv_bipush (by decide) hY dX12_tells_6 rfl ?_
  refine xv_join (α := xv_M) 61 (fun x3 => [some (xr a0), some (xi a1), some (xi a2), some (xi a3), none]) (fun x3 => []) (fun x3 => x3) (fun x3 => ?_) (fun j4 hj4 => ?_)
  · refine xv_sipush (by decide) hY dX12_tells_61 rfl ?_
    refine xv_iconst hY dX12_tells_64 rfl ?_
    refine xv_aload_n rfl rfl hY dX12_tells_65 rfl ?_
    refine xv_getP (ci := 12) (j := 0) hY dX12_tells_66 rfl rfl rfl (by decide) hin12 (by decide) rfl (List.mem_of_getElem? (i := 1) rfl) (fun v5 => ?_)
    refine xv_iconst hY dX12_tells_69 rfl ?_
    refine xv_iald hY dX12_tells_70 rfl (fun v6 => ?_)
    refine xv_imul hY dX12_tells_71 rfl ?_
    refine xv_iadd hY dX12_tells_72 rfl ?_
    refine xv_istore (L' := [some (xr a0), some (xi a1), some (xi a2), some (xi a3), some (xi ((822 : Int) + ((4 : Int) * v6)))]) hY dX12_tells_73 rfl (by rw [hnL]; decide) rfl rfl ?_
    refine xv_aload_n rfl rfl hY dX12_tells_75 rfl ?_
    refine xv_getP (ci := 12) (j := 0) hY dX12_tells_76 rfl rfl rfl (by decide) hin12 (by decide) rfl (List.mem_of_getElem? (i := 1) rfl) (fun v7 => ?_)
    refine xv_iload rfl hY dX12_tells_79 rfl ?_
    refine xv_iload_n rfl rfl hY dX12_tells_81 rfl ?_
    refine xv_iast hY hfl dX12_tells_82 rfl (fun M8 => ?_)
    refine xv_aload_n rfl rfl hY dX12_tells_83 rfl ?_
    refine xv_getP (ci := 12) (j := 0) hY dX12_tells_84 rfl rfl rfl (by decide) hin12 (by decide) rfl (List.mem_of_getElem? (i := 1) rfl) (fun v9 => ?_)
    refine xv_iload rfl hY dX12_tells_87 rfl ?_
    refine xv_iconst hY dX12_tells_89 rfl ?_
    refine xv_iadd hY dX12_tells_90 rfl ?_
    refine xv_iload_n rfl rfl hY dX12_tells_91 rfl ?_
    refine xv_iast hY hfl dX12_tells_92 rfl (fun M10 => ?_)
    refine xv_aload_n rfl rfl hY dX12_tells_93 rfl ?_
    refine xv_getP (ci := 12) (j := 0) hY dX12_tells_94 rfl rfl rfl (by decide) hin12 (by decide) rfl (List.mem_of_getElem? (i := 1) rfl) (fun v11 => ?_)
    refine xv_iload rfl hY dX12_tells_97 rfl ?_
    refine xv_iconst hY dX12_tells_99 rfl ?_
    refine xv_iadd hY dX12_tells_100 rfl ?_
    refine xv_iload_n rfl rfl hY dX12_tells_101 rfl ?_
    refine xv_iast hY hfl dX12_tells_102 rfl (fun M12 => ?_)
    refine xv_aload_n rfl rfl hY dX12_tells_103 rfl ?_
    refine xv_getP (ci := 12) (j := 0) hY dX12_tells_104 rfl rfl rfl (by decide) hin12 (by decide) rfl (List.mem_of_getElem? (i := 1) rfl) (fun v13 => ?_)
    refine xv_iload rfl hY dX12_tells_107 rfl ?_
    refine xv_iconst hY dX12_tells_109 rfl ?_
    refine xv_iadd hY dX12_tells_110 rfl ?_
    refine xv_aload_n rfl rfl hY dX12_tells_111 rfl ?_
    refine xv_getP (ci := 12) (j := 0) hY dX12_tells_112 rfl rfl rfl (by decide) hin12 (by decide) rfl (List.mem_of_getElem? (i := 1) rfl) (fun v14 => ?_)
    refine xv_iconst hY dX12_tells_115 rfl ?_
    refine xv_iald hY dX12_tells_116 rfl (fun v15 => ?_)
    refine xv_iast hY hfl dX12_tells_117 rfl (fun M16 => ?_)
    refine xv_aload_n rfl rfl hY dX12_tells_118 rfl ?_
    refine xv_getP (ci := 12) (j := 0) hY dX12_tells_119 rfl rfl rfl (by decide) hin12 (by decide) rfl (List.mem_of_getElem? (i := 1) rfl) (fun v17 => ?_)
    refine xv_iconst hY dX12_tells_122 rfl ?_
    refine xv_dup2 hY dX12_tells_123 rfl ?_
    refine xv_iald hY dX12_tells_124 rfl (fun v18 => ?_)
    refine xv_iconst hY dX12_tells_125 rfl ?_
    refine xv_iadd hY dX12_tells_126 rfl ?_
    refine xv_iast hY hfl dX12_tells_127 rfl (fun M19 => ?_)
    exact xv_vretu hY hfl dX12_tells_128 hret (Nat.le_of_ble_eq_true rfl) (Nat.le_of_ble_eq_true rfl)
  · refine xv_icmp_ne (t := 61) hY dX12_tells_8 (by decide) rfl ?_ ?_
    · exact xv_mk (L' := [some (xr a0), some (xi a1), some (xi a2), some (xi a3), none]) [true, true, true, true, false] rfl (hj4 M)
    · refine xv_iconst hY dX12_tells_11 rfl ?_
      refine xv_istore (L' := [some (xr a0), some (xi a1), some (xi a2), some (xi a3), some (xi (0 : Int))]) hY dX12_tells_12 rfl (by rw [hnL]; decide) rfl rfl ?_
      refine xv_mk (L' := [some (xr a0), some (xi a1), some (xi a2), some (xi a3), some (xi (0 : Int))]) [true, true, true, true, true] rfl ?_
      refine xv_loop (σ := Int × xv_M) (fun x20 => [some (xr a0), some (xi a1), some (xi a2), some (xi a3), some (xi x20.1)]) (fun x20 => x20.2) (fun f21 hf21 x20 => ?_) xv_fuel ((0 : Int), M)
      refine xv_iload rfl hY dX12_tells_14 rfl ?_
      refine xv_bipush (by decide) hY dX12_tells_16 rfl ?_
      refine xv_icmp_ge (t := 51) hY dX12_tells_18 (by decide) rfl ?_ ?_
      · refine xv_aload_n rfl rfl hY dX12_tells_51 rfl ?_
        refine xv_getP (ci := 12) (j := 0) hY dX12_tells_52 rfl rfl rfl (by decide) hin12 (by decide) rfl (List.mem_of_getElem? (i := 1) rfl) (fun v22 => ?_)
        refine xv_iconst hY dX12_tells_55 rfl ?_
        refine xv_dup2 hY dX12_tells_56 rfl ?_
        refine xv_iald hY dX12_tells_57 rfl (fun v23 => ?_)
        refine xv_iconst hY dX12_tells_58 rfl ?_
        refine xv_isub hY dX12_tells_59 rfl ?_
        refine xv_iast hY hfl dX12_tells_60 rfl (fun M24 => ?_)
        exact xv_mk (L' := [some (xr a0), some (xi a1), some (xi a2), some (xi a3), none]) [true, true, true, true, false] rfl (hj4 M24)
      · refine xv_aload_n rfl rfl hY dX12_tells_21 rfl ?_
        refine xv_getP (ci := 12) (j := 0) hY dX12_tells_22 rfl rfl rfl (by decide) hin12 (by decide) rfl (List.mem_of_getElem? (i := 1) rfl) (fun v25 => ?_)
        refine xv_sipush (by decide) hY dX12_tells_25 rfl ?_
        refine xv_iload rfl hY dX12_tells_28 rfl ?_
        refine xv_iadd hY dX12_tells_30 rfl ?_
        refine xv_aload_n rfl rfl hY dX12_tells_31 rfl ?_
        refine xv_getP (ci := 12) (j := 0) hY dX12_tells_32 rfl rfl rfl (by decide) hin12 (by decide) rfl (List.mem_of_getElem? (i := 1) rfl) (fun v26 => ?_)
        refine xv_sipush (by decide) hY dX12_tells_35 rfl ?_
        refine xv_iload rfl hY dX12_tells_38 rfl ?_
        refine xv_iadd hY dX12_tells_40 rfl ?_
        refine xv_iconst hY dX12_tells_41 rfl ?_
        refine xv_iadd hY dX12_tells_42 rfl ?_
        refine xv_iald hY dX12_tells_43 rfl (fun v27 => ?_)
        refine xv_iast hY hfl dX12_tells_44 rfl (fun M28 => ?_)
        refine xv_iinc (L' := [some (xr a0), some (xi a1), some (xi a2), some (xi a3), some (xi (x20.1 + 1))]) hY dX12_tells_45 rfl (by rw [hnL]; decide) rfl rfl rfl ?_
        refine xv_goto (pc' := 14) hY dX12_tells_48 (by decide) ?_
        exact xv_mk (L' := [some (xr a0), some (xi a1), some (xi a2), some (xi a3), some (xi (x20.1 + 1))]) [true, true, true, true, true] rfl (hf21 ((x20.1 + 1), M28))
set_option maxHeartbeats 4000000 in
set_option maxRecDepth 100000 in
theorem S_X12_changes (l : Launch) (a0 : Nat) (a1 : Int) (M : xv_M) (q : Int × xv_M) (h : D_X12_changes a0 a1 M = some q) : xv_Met l yX12_changes wsX12_changes rm_X12_changes 0 0 false [xr a0, xi a1] M (xv_qI false q) := by
  refine xv_enter (cc := cX12_changes) (nL := 5) (ret := (some .int)) rfl (by decide +kernel) (Nat.le_of_ble_eq_true rfl) h ?_
  intro Y hY0 hl hR hnL hfl hret hnm0
  have hY : xv_ok Y cX12_changes wsX12_changes RX12 := hY0
  have hin12 : ∀ w ∈ u_ws RX12 TX12 18, w ∈ wsX12_changes := fun _ h => List.mem_cons_of_mem _ (List.mem_append_right _ h)
  unfold D_X12_changes
  refine xv_mk (L' := [some (xr a0), some (xi a1), none, none, none]) [true, true, true, true, true] rfl ?_
  refine xv_aload_n rfl rfl hY dX12_changes_0 rfl ?_
  refine xv_iload_n rfl rfl hY dX12_changes_1 rfl ?_
  refine xv_iconst hY dX12_changes_2 rfl ?_
  refine xv_callVI (ci := 12) (y := yX12_its) (ws := wsX12_its) (rm := rm_X12_its) (mc := 0) (ms := 0) (n := 2) (av := [xi a1, xi (0 : Int)]) hY dX12_changes_3 rfl rfl rfl (by decide) (fun q hq => by rw [hfl]; exact S_X12_its Y.1.2.1 a0 a1 (0 : Int) M q hq) (cwV 2 hY.2.2.2.2.1 gX12_changes_X12_its rfl rfl rfl (by decide +kernel) ⟨(by rw [hR]; exact Nat.le_of_ble_eq_true rfl), (by rw [hR]; exact Nat.le_of_ble_eq_true rfl)⟩) rfl (Nat.le_of_ble_eq_true rfl) ⟨(by rw [hR]; exact Nat.le_of_ble_eq_true rfl), (by rw [hR]; exact Nat.le_of_ble_eq_true rfl)⟩ (fun z2 M1 => ?_)
  refine xv_istore_n (L' := [some (xr a0), some (xi a1), some (xi z2), none, none]) hY dX12_changes_6 rfl rfl (by rw [hnL]; decide) rfl rfl ?_
  refine xv_iconst hY dX12_changes_7 rfl ?_
  refine xv_istore_n (L' := [some (xr a0), some (xi a1), some (xi z2), some (xi (0 : Int)), none]) hY dX12_changes_8 rfl rfl (by rw [hnL]; decide) rfl rfl ?_
  refine xv_iconst hY dX12_changes_9 rfl ?_
  refine xv_istore (L' := [some (xr a0), some (xi a1), some (xi z2), some (xi (0 : Int)), some (xi (0 : Int))]) hY dX12_changes_10 rfl (by rw [hnL]; decide) rfl rfl ?_
  refine xv_mk (L' := [some (xr a0), some (xi a1), some (xi z2), some (xi (0 : Int)), some (xi (0 : Int))]) [true, true, true, true, true] rfl ?_
  refine xv_loop (σ := Int × Int × xv_M) (fun x3 => [some (xr a0), some (xi a1), some (xi z2), some (xi x3.1), some (xi x3.2.1)]) (fun x3 => x3.2.2) (fun f4 hf4 x3 => ?_) xv_fuel ((0 : Int), (0 : Int), M1)
  refine xv_iload rfl hY dX12_changes_12 rfl ?_
  refine xv_aload_n rfl rfl hY dX12_changes_14 rfl ?_
  refine xv_getP (ci := 12) (j := 0) hY dX12_changes_15 rfl rfl rfl (by decide) hin12 (by decide) rfl (List.mem_of_getElem? (i := 1) rfl) (fun v5 => ?_)
  refine xv_iconst hY dX12_changes_18 rfl ?_
  refine xv_iald hY dX12_changes_19 rfl (fun v6 => ?_)
  refine xv_icmp_ge (t := 101) hY dX12_changes_20 (by decide) rfl ?_ ?_
  · refine xv_iconst hY dX12_changes_101 rfl ?_
    refine xv_istore (L' := [some (xr a0), some (xi a1), some (xi z2), some (xi x3.1), some (xi (0 : Int))]) hY dX12_changes_102 rfl (by rw [hnL]; decide) rfl rfl ?_
    refine xv_mk (L' := [some (xr a0), some (xi a1), some (xi z2), some (xi x3.1), some (xi (0 : Int))]) [true, true, true, true, true] rfl ?_
    refine xv_loop (σ := Int × Int × xv_M) (fun x7 => [some (xr a0), some (xi a1), some (xi z2), some (xi x7.1), some (xi x7.2.1)]) (fun x7 => x7.2.2) (fun f8 hf8 x7 => ?_) xv_fuel (x3.1, (0 : Int), x3.2.2)
    refine xv_iload rfl hY dX12_changes_104 rfl ?_
    refine xv_aload_n rfl rfl hY dX12_changes_106 rfl ?_
    refine xv_getP (ci := 12) (j := 0) hY dX12_changes_107 rfl rfl rfl (by decide) hin12 (by decide) rfl (List.mem_of_getElem? (i := 1) rfl) (fun v9 => ?_)
    refine xv_iconst hY dX12_changes_110 rfl ?_
    refine xv_iald hY dX12_changes_111 rfl (fun v10 => ?_)
    refine xv_icmp_ge (t := 218) hY dX12_changes_112 (by decide) rfl ?_ ?_
    · refine xv_iload_n rfl rfl hY dX12_changes_218 rfl ?_
      exact xv_ireti hY hfl dX12_changes_219 hret (Nat.le_of_ble_eq_true rfl) (Nat.le_of_ble_eq_true rfl)
    · refine xv_aload_n rfl rfl hY dX12_changes_115 rfl ?_
      refine xv_iload_n rfl rfl hY dX12_changes_116 rfl ?_
      refine xv_iload rfl hY dX12_changes_117 rfl ?_
      refine xv_callVI (ci := 12) (y := yX12_isInside) (ws := wsX12_isInside) (rm := rm_X12_isInside) (mc := 0) (ms := 0) (n := 2) (av := [xi a1, xi x7.2.1]) hY dX12_changes_119 rfl rfl rfl (by decide) (fun q hq => by rw [hfl]; exact S_X12_isInside Y.1.2.1 a0 a1 x7.2.1 x7.2.2 q hq) (cwV 2 hY.2.2.2.2.1 gX12_changes_X12_isInside rfl rfl rfl (by decide +kernel) ⟨(by rw [hR]; exact Nat.le_of_ble_eq_true rfl), (by rw [hR]; exact Nat.le_of_ble_eq_true rfl)⟩) rfl (Nat.le_of_ble_eq_true rfl) ⟨(by rw [hR]; exact Nat.le_of_ble_eq_true rfl), (by rw [hR]; exact Nat.le_of_ble_eq_true rfl)⟩ (fun z12 M11 => ?_)
      refine xv_join (α := Int × xv_M) 212 (fun x13 => [some (xr a0), some (xi a1), some (xi z2), some (xi x13.1), some (xi x7.2.1)]) (fun x13 => []) (fun x13 => x13.2) (fun x13 => ?_) (fun j14 hj14 => ?_)
      · refine xv_iinc (L' := [some (xr a0), some (xi a1), some (xi z2), some (xi x13.1), some (xi (x7.2.1 + 1))]) hY dX12_changes_212 rfl (by rw [hnL]; decide) rfl rfl rfl ?_
        refine xv_goto (pc' := 104) hY dX12_changes_215 (by decide) ?_
        exact xv_mk (L' := [some (xr a0), some (xi a1), some (xi z2), some (xi x13.1), some (xi (x7.2.1 + 1))]) [true, true, true, true, true] rfl (hf8 (x13.1, (x7.2.1 + 1), x13.2))
      · refine xv_if_ne (t := 212) hY dX12_changes_122 (by decide) rfl ?_ ?_
        · exact xv_mk (L' := [some (xr a0), some (xi a1), some (xi z2), some (xi x7.1), some (xi x7.2.1)]) [true, true, true, true, true] rfl (hj14 (x7.1, M11))
        · refine xv_aload_n rfl rfl hY dX12_changes_125 rfl ?_
          refine xv_iload rfl hY dX12_changes_126 rfl ?_
          refine xv_iload_n rfl rfl hY dX12_changes_128 rfl ?_
          refine xv_callVI (ci := 12) (y := yX12_covers) (ws := wsX12_covers) (rm := rm_X12_covers) (mc := 0) (ms := 0) (n := 2) (av := [xi x7.2.1, xi z2]) hY dX12_changes_129 rfl rfl rfl (by decide) (fun q hq => by rw [hfl]; exact S_X12_covers Y.1.2.1 a0 x7.2.1 z2 M11 q hq) (cwV 2 hY.2.2.2.2.1 gX12_changes_X12_covers rfl rfl rfl (by decide +kernel) ⟨(by rw [hR]; exact Nat.le_of_ble_eq_true rfl), (by rw [hR]; exact Nat.le_of_ble_eq_true rfl)⟩) rfl (Nat.le_of_ble_eq_true rfl) ⟨(by rw [hR]; exact Nat.le_of_ble_eq_true rfl), (by rw [hR]; exact Nat.le_of_ble_eq_true rfl)⟩ (fun z16 M15 => ?_)
          refine xv_if_eq (t := 212) hY dX12_changes_132 (by decide) rfl ?_ ?_
          · exact xv_mk (L' := [some (xr a0), some (xi a1), some (xi z2), some (xi x7.1), some (xi x7.2.1)]) [true, true, true, true, true] rfl (hj14 (x7.1, M15))
          · refine xv_aload_n rfl rfl hY dX12_changes_135 rfl ?_
            refine xv_getP (ci := 12) (j := 0) hY dX12_changes_136 rfl rfl rfl (by decide) hin12 (by decide) rfl (List.mem_of_getElem? (i := 1) rfl) (fun v17 => ?_)
            refine xv_sipush (by decide) hY dX12_changes_139 rfl ?_
            refine xv_bipush (by decide) hY dX12_changes_142 rfl ?_
            refine xv_iload_n rfl rfl hY dX12_changes_144 rfl ?_
            refine xv_imul hY dX12_changes_145 rfl ?_
            refine xv_iadd hY dX12_changes_146 rfl ?_
            refine xv_iload rfl hY dX12_changes_147 rfl ?_
            refine xv_iadd hY dX12_changes_149 rfl ?_
            refine xv_aload_n rfl rfl hY dX12_changes_150 rfl ?_
            refine xv_getP (ci := 12) (j := 0) hY dX12_changes_151 rfl rfl rfl (by decide) hin12 (by decide) rfl (List.mem_of_getElem? (i := 1) rfl) (fun v18 => ?_)
            refine xv_iconst hY dX12_changes_154 rfl ?_
            refine xv_iald hY dX12_changes_155 rfl (fun v19 => ?_)
            refine xv_iconst hY dX12_changes_156 rfl ?_
            refine xv_iadd hY dX12_changes_157 rfl ?_
            refine xv_iast hY hfl dX12_changes_158 rfl (fun M20 => ?_)
            refine xv_aload_n rfl rfl hY dX12_changes_159 rfl ?_
            refine xv_iload_n rfl rfl hY dX12_changes_160 rfl ?_
            refine xv_iconst hY dX12_changes_161 rfl ?_
            refine xv_aload_n rfl rfl hY dX12_changes_162 rfl ?_
            refine xv_iload_n rfl rfl hY dX12_changes_163 rfl ?_
            refine xv_iconst hY dX12_changes_164 rfl ?_
            refine xv_callVI (ci := 12) (y := yX12_its) (ws := wsX12_its) (rm := rm_X12_its) (mc := 0) (ms := 0) (n := 2) (av := [xi a1, xi (2 : Int)]) hY dX12_changes_165 rfl rfl rfl (by decide) (fun q hq => by rw [hfl]; exact S_X12_its Y.1.2.1 a0 a1 (2 : Int) M20 q hq) (cwV 2 hY.2.2.2.2.1 gX12_changes_X12_its rfl rfl rfl (by decide +kernel) ⟨(by rw [hR]; exact Nat.le_of_ble_eq_true rfl), (by rw [hR]; exact Nat.le_of_ble_eq_true rfl)⟩) rfl (Nat.le_of_ble_eq_true rfl) ⟨(by rw [hR]; exact Nat.le_of_ble_eq_true rfl), (by rw [hR]; exact Nat.le_of_ble_eq_true rfl)⟩ (fun z22 M21 => ?_)
            refine xv_iconst hY dX12_changes_168 rfl ?_
            refine xv_iadd hY dX12_changes_169 rfl ?_
            refine xv_callVV (ci := 12) (y := yX12_gives) (ws := wsX12_gives) (rm := rm_X12_gives) (mc := 0) (ms := 0) (n := 3) (av := [xi a1, xi (2 : Int), xi (z22 + (1 : Int))]) hY dX12_changes_170 rfl rfl rfl (by decide) (fun q hq => by rw [hfl]; exact S_X12_gives Y.1.2.1 a0 a1 (2 : Int) (z22 + (1 : Int)) M21 q hq) (cwV 3 hY.2.2.2.2.1 gX12_changes_X12_gives rfl rfl rfl (by decide +kernel) ⟨(by rw [hR]; exact Nat.le_of_ble_eq_true rfl), (by rw [hR]; exact Nat.le_of_ble_eq_true rfl)⟩) rfl (Nat.le_of_ble_eq_true rfl) ⟨(by rw [hR]; exact Nat.le_of_ble_eq_true rfl), (by rw [hR]; exact Nat.le_of_ble_eq_true rfl)⟩ (fun _ M23 => ?_)
            refine xv_aload_n rfl rfl hY dX12_changes_173 rfl ?_
            refine xv_iload rfl hY dX12_changes_174 rfl ?_
            refine xv_bipush (by decide) hY dX12_changes_176 rfl ?_
            refine xv_aload_n rfl rfl hY dX12_changes_178 rfl ?_
            refine xv_iload rfl hY dX12_changes_179 rfl ?_
            refine xv_bipush (by decide) hY dX12_changes_181 rfl ?_
            refine xv_callVI (ci := 12) (y := yX12_of) (ws := wsX12_of) (rm := rm_X12_of) (mc := 0) (ms := 0) (n := 2) (av := [xi x7.2.1, xi (6 : Int)]) hY dX12_changes_183 rfl rfl rfl (by decide) (fun q hq => by rw [hfl]; exact S_X12_of Y.1.2.1 a0 x7.2.1 (6 : Int) M23 q hq) (cwV 2 hY.2.2.2.2.1 gX12_changes_X12_of rfl rfl rfl (by decide +kernel) ⟨(by rw [hR]; exact Nat.le_of_ble_eq_true rfl), (by rw [hR]; exact Nat.le_of_ble_eq_true rfl)⟩) rfl (Nat.le_of_ble_eq_true rfl) ⟨(by rw [hR]; exact Nat.le_of_ble_eq_true rfl), (by rw [hR]; exact Nat.le_of_ble_eq_true rfl)⟩ (fun z25 M24 => ?_)
            refine xv_iconst hY dX12_changes_186 rfl ?_
            refine xv_iadd hY dX12_changes_187 rfl ?_
            refine xv_callVV (ci := 12) (y := yX12_puts) (ws := wsX12_puts) (rm := rm_X12_puts) (mc := 0) (ms := 0) (n := 3) (av := [xi x7.2.1, xi (6 : Int), xi (z25 + (1 : Int))]) hY dX12_changes_188 rfl rfl rfl (by decide) (fun q hq => by rw [hfl]; exact S_X12_puts Y.1.2.1 a0 x7.2.1 (6 : Int) (z25 + (1 : Int)) M24 q hq) (cwV 3 hY.2.2.2.2.1 gX12_changes_X12_puts rfl rfl rfl (by decide +kernel) ⟨(by rw [hR]; exact Nat.le_of_ble_eq_true rfl), (by rw [hR]; exact Nat.le_of_ble_eq_true rfl)⟩) rfl (Nat.le_of_ble_eq_true rfl) ⟨(by rw [hR]; exact Nat.le_of_ble_eq_true rfl), (by rw [hR]; exact Nat.le_of_ble_eq_true rfl)⟩ (fun _ M26 => ?_)
            refine xv_aload_n rfl rfl hY dX12_changes_191 rfl ?_
            refine xv_getP (ci := 12) (j := 0) hY dX12_changes_192 rfl rfl rfl (by decide) hin12 (by decide) rfl (List.mem_of_getElem? (i := 1) rfl) (fun v27 => ?_)
            refine xv_iconst hY dX12_changes_195 rfl ?_
            refine xv_dup2 hY dX12_changes_196 rfl ?_
            refine xv_iald hY dX12_changes_197 rfl (fun v28 => ?_)
            refine xv_iconst hY dX12_changes_198 rfl ?_
            refine xv_iadd hY dX12_changes_199 rfl ?_
            refine xv_iast hY hfl dX12_changes_200 rfl (fun M29 => ?_)
            refine xv_aload_n rfl rfl hY dX12_changes_201 rfl ?_
            refine xv_iconst hY dX12_changes_202 rfl ?_
            refine xv_iload_n rfl rfl hY dX12_changes_203 rfl ?_
            refine xv_iload rfl hY dX12_changes_204 rfl ?_
            refine xv_callVV (ci := 12) (y := yX12_tells) (ws := wsX12_tells) (rm := rm_X12_tells) (mc := 0) (ms := 0) (n := 3) (av := [xi (0 : Int), xi a1, xi x7.2.1]) hY dX12_changes_206 rfl rfl rfl (by decide) (fun q hq => by rw [hfl]; exact S_X12_tells Y.1.2.1 a0 (0 : Int) a1 x7.2.1 M29 q hq) (cwV 3 hY.2.2.2.2.1 gX12_changes_X12_tells rfl rfl rfl (by decide +kernel) ⟨(by rw [hR]; exact Nat.le_of_ble_eq_true rfl), (by rw [hR]; exact Nat.le_of_ble_eq_true rfl)⟩) rfl (Nat.le_of_ble_eq_true rfl) ⟨(by rw [hR]; exact Nat.le_of_ble_eq_true rfl), (by rw [hR]; exact Nat.le_of_ble_eq_true rfl)⟩ (fun _ M30 => ?_)
            refine xv_iinc (L' := [some (xr a0), some (xi a1), some (xi z2), some (xi (x7.1 + 1)), some (xi x7.2.1)]) hY dX12_changes_209 rfl (by rw [hnL]; decide) rfl rfl rfl ?_
            exact xv_mk (L' := [some (xr a0), some (xi a1), some (xi z2), some (xi (x7.1 + 1)), some (xi x7.2.1)]) [true, true, true, true, true] rfl (hj14 ((x7.1 + 1), M30))
  · refine xv_aload_n rfl rfl hY dX12_changes_23 rfl ?_
    refine xv_iload_n rfl rfl hY dX12_changes_24 rfl ?_
    refine xv_iload rfl hY dX12_changes_25 rfl ?_
    refine xv_callVI (ci := 12) (y := yX12_isInside) (ws := wsX12_isInside) (rm := rm_X12_isInside) (mc := 0) (ms := 0) (n := 2) (av := [xi a1, xi x3.2.1]) hY dX12_changes_27 rfl rfl rfl (by decide) (fun q hq => by rw [hfl]; exact S_X12_isInside Y.1.2.1 a0 a1 x3.2.1 x3.2.2 q hq) (cwV 2 hY.2.2.2.2.1 gX12_changes_X12_isInside rfl rfl rfl (by decide +kernel) ⟨(by rw [hR]; exact Nat.le_of_ble_eq_true rfl), (by rw [hR]; exact Nat.le_of_ble_eq_true rfl)⟩) rfl (Nat.le_of_ble_eq_true rfl) ⟨(by rw [hR]; exact Nat.le_of_ble_eq_true rfl), (by rw [hR]; exact Nat.le_of_ble_eq_true rfl)⟩ (fun z32 M31 => ?_)
    refine xv_join (α := Int × xv_M) 95 (fun x33 => [some (xr a0), some (xi a1), some (xi z2), some (xi x33.1), some (xi x3.2.1)]) (fun x33 => []) (fun x33 => x33.2) (fun x33 => ?_) (fun j34 hj34 => ?_)
    · refine xv_iinc (L' := [some (xr a0), some (xi a1), some (xi z2), some (xi x33.1), some (xi (x3.2.1 + 1))]) hY dX12_changes_95 rfl (by rw [hnL]; decide) rfl rfl rfl ?_
      refine xv_goto (pc' := 12) hY dX12_changes_98 (by decide) ?_
      exact xv_mk (L' := [some (xr a0), some (xi a1), some (xi z2), some (xi x33.1), some (xi (x3.2.1 + 1))]) [true, true, true, true, true] rfl (hf4 (x33.1, (x3.2.1 + 1), x33.2))
    · refine xv_if_eq (t := 95) hY dX12_changes_30 (by decide) rfl ?_ ?_
      · exact xv_mk (L' := [some (xr a0), some (xi a1), some (xi z2), some (xi x3.1), some (xi x3.2.1)]) [true, true, true, true, true] rfl (hj34 (x3.1, M31))
      · refine xv_aload_n rfl rfl hY dX12_changes_33 rfl ?_
        refine xv_iload rfl hY dX12_changes_34 rfl ?_
        refine xv_iload_n rfl rfl hY dX12_changes_36 rfl ?_
        refine xv_callVI (ci := 12) (y := yX12_covers) (ws := wsX12_covers) (rm := rm_X12_covers) (mc := 0) (ms := 0) (n := 2) (av := [xi x3.2.1, xi z2]) hY dX12_changes_37 rfl rfl rfl (by decide) (fun q hq => by rw [hfl]; exact S_X12_covers Y.1.2.1 a0 x3.2.1 z2 M31 q hq) (cwV 2 hY.2.2.2.2.1 gX12_changes_X12_covers rfl rfl rfl (by decide +kernel) ⟨(by rw [hR]; exact Nat.le_of_ble_eq_true rfl), (by rw [hR]; exact Nat.le_of_ble_eq_true rfl)⟩) rfl (Nat.le_of_ble_eq_true rfl) ⟨(by rw [hR]; exact Nat.le_of_ble_eq_true rfl), (by rw [hR]; exact Nat.le_of_ble_eq_true rfl)⟩ (fun z36 M35 => ?_)
        refine xv_if_ne (t := 95) hY dX12_changes_40 (by decide) rfl ?_ ?_
        · exact xv_mk (L' := [some (xr a0), some (xi a1), some (xi z2), some (xi x3.1), some (xi x3.2.1)]) [true, true, true, true, true] rfl (hj34 (x3.1, M35))
        · refine xv_aload_n rfl rfl hY dX12_changes_43 rfl ?_
          refine xv_getP (ci := 12) (j := 0) hY dX12_changes_44 rfl rfl rfl (by decide) hin12 (by decide) rfl (List.mem_of_getElem? (i := 1) rfl) (fun v37 => ?_)
          refine xv_sipush (by decide) hY dX12_changes_47 rfl ?_
          refine xv_bipush (by decide) hY dX12_changes_50 rfl ?_
          refine xv_iload_n rfl rfl hY dX12_changes_52 rfl ?_
          refine xv_imul hY dX12_changes_53 rfl ?_
          refine xv_iadd hY dX12_changes_54 rfl ?_
          refine xv_iload rfl hY dX12_changes_55 rfl ?_
          refine xv_iadd hY dX12_changes_57 rfl ?_
          refine xv_iconst hY dX12_changes_58 rfl ?_
          refine xv_iast hY hfl dX12_changes_59 rfl (fun M38 => ?_)
          refine xv_aload_n rfl rfl hY dX12_changes_60 rfl ?_
          refine xv_iload_n rfl rfl hY dX12_changes_61 rfl ?_
          refine xv_iconst hY dX12_changes_62 rfl ?_
          refine xv_aload_n rfl rfl hY dX12_changes_63 rfl ?_
          refine xv_iload_n rfl rfl hY dX12_changes_64 rfl ?_
          refine xv_iconst hY dX12_changes_65 rfl ?_
          refine xv_callVI (ci := 12) (y := yX12_its) (ws := wsX12_its) (rm := rm_X12_its) (mc := 0) (ms := 0) (n := 2) (av := [xi a1, xi (3 : Int)]) hY dX12_changes_66 rfl rfl rfl (by decide) (fun q hq => by rw [hfl]; exact S_X12_its Y.1.2.1 a0 a1 (3 : Int) M38 q hq) (cwV 2 hY.2.2.2.2.1 gX12_changes_X12_its rfl rfl rfl (by decide +kernel) ⟨(by rw [hR]; exact Nat.le_of_ble_eq_true rfl), (by rw [hR]; exact Nat.le_of_ble_eq_true rfl)⟩) rfl (Nat.le_of_ble_eq_true rfl) ⟨(by rw [hR]; exact Nat.le_of_ble_eq_true rfl), (by rw [hR]; exact Nat.le_of_ble_eq_true rfl)⟩ (fun z40 M39 => ?_)
          refine xv_iconst hY dX12_changes_69 rfl ?_
          refine xv_iadd hY dX12_changes_70 rfl ?_
          refine xv_callVV (ci := 12) (y := yX12_gives) (ws := wsX12_gives) (rm := rm_X12_gives) (mc := 0) (ms := 0) (n := 3) (av := [xi a1, xi (3 : Int), xi (z40 + (1 : Int))]) hY dX12_changes_71 rfl rfl rfl (by decide) (fun q hq => by rw [hfl]; exact S_X12_gives Y.1.2.1 a0 a1 (3 : Int) (z40 + (1 : Int)) M39 q hq) (cwV 3 hY.2.2.2.2.1 gX12_changes_X12_gives rfl rfl rfl (by decide +kernel) ⟨(by rw [hR]; exact Nat.le_of_ble_eq_true rfl), (by rw [hR]; exact Nat.le_of_ble_eq_true rfl)⟩) rfl (Nat.le_of_ble_eq_true rfl) ⟨(by rw [hR]; exact Nat.le_of_ble_eq_true rfl), (by rw [hR]; exact Nat.le_of_ble_eq_true rfl)⟩ (fun _ M41 => ?_)
          refine xv_aload_n rfl rfl hY dX12_changes_74 rfl ?_
          refine xv_getP (ci := 12) (j := 0) hY dX12_changes_75 rfl rfl rfl (by decide) hin12 (by decide) rfl (List.mem_of_getElem? (i := 1) rfl) (fun v42 => ?_)
          refine xv_iconst hY dX12_changes_78 rfl ?_
          refine xv_dup2 hY dX12_changes_79 rfl ?_
          refine xv_iald hY dX12_changes_80 rfl (fun v43 => ?_)
          refine xv_iconst hY dX12_changes_81 rfl ?_
          refine xv_iadd hY dX12_changes_82 rfl ?_
          refine xv_iast hY hfl dX12_changes_83 rfl (fun M44 => ?_)
          refine xv_aload_n rfl rfl hY dX12_changes_84 rfl ?_
          refine xv_iconst hY dX12_changes_85 rfl ?_
          refine xv_iload_n rfl rfl hY dX12_changes_86 rfl ?_
          refine xv_iload rfl hY dX12_changes_87 rfl ?_
          refine xv_callVV (ci := 12) (y := yX12_tells) (ws := wsX12_tells) (rm := rm_X12_tells) (mc := 0) (ms := 0) (n := 3) (av := [xi (1 : Int), xi a1, xi x3.2.1]) hY dX12_changes_89 rfl rfl rfl (by decide) (fun q hq => by rw [hfl]; exact S_X12_tells Y.1.2.1 a0 (1 : Int) a1 x3.2.1 M44 q hq) (cwV 3 hY.2.2.2.2.1 gX12_changes_X12_tells rfl rfl rfl (by decide +kernel) ⟨(by rw [hR]; exact Nat.le_of_ble_eq_true rfl), (by rw [hR]; exact Nat.le_of_ble_eq_true rfl)⟩) rfl (Nat.le_of_ble_eq_true rfl) ⟨(by rw [hR]; exact Nat.le_of_ble_eq_true rfl), (by rw [hR]; exact Nat.le_of_ble_eq_true rfl)⟩ (fun _ M45 => ?_)
          refine xv_iinc (L' := [some (xr a0), some (xi a1), some (xi z2), some (xi (x3.1 + 1)), some (xi x3.2.1)]) hY dX12_changes_92 rfl (by rw [hnL]; decide) rfl rfl rfl ?_
          exact xv_mk (L' := [some (xr a0), some (xi a1), some (xi z2), some (xi (x3.1 + 1)), some (xi x3.2.1)]) [true, true, true, true, true] rfl (hj34 ((x3.1 + 1), M45))
